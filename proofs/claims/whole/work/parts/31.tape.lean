/-! the tape: feed, back -/
def bsh (a : Int32) (k : Nat) : Int32 := by_ ((a.toUInt32 >>> ((nI k).toUInt32 &&& Int32.toUInt32 31)).toInt32)
theorem byte_shr (a : Int32) (k : Nat) (hk : k < 32) : (a >>> (nI k &&& 31)).toInt8 = ((a.toUInt32 >>> ((nI k).toUInt32 &&& Int32.toUInt32 31)).toInt32).toInt8 := by
  sorry
/-- one byte comes behind n -/
theorem addByte_ok (a : Int32) (w : q_W) (n : Nat) (hn : n < 2000) (h : w.1 1 1 = nI n) : fX9_addByte a w = some ((), q_sI (q_sI w 2 n (by_ a)) 1 1 (nI (n + 1))) := by
  unfold fX9_addByte
  simp only [q_lt_eq, h]
  rw [if_neg (nI_pos (by omega))]
  sorry
