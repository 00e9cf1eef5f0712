/-! calls of a constant text's own methods -/
theorem q_callT {X : q_X} {S : q_S} {l : Launch} {M M' : q_M} {d d' : Nat} {ρ ρ' : Type} {tv : ρ → Option Value} {tv' : ρ' → Option Value} {pc nx idx n : Nat} (i : Nat) {lv : List (Nat × Value)} {As stk st : List Value} {w : q_W} {o1 : Option (ρ' × q_W)} {k2 : ρ' → q_W → Option (ρ × q_W)}
    (hd : q_d M pc 3 (.invokevirtual idx) nx) (hV : q_CV M.1 idx M' n) (hC : q_Ct X S l M' d' tv' (.ref (1100 + i) :: As) w o1) (hi : i < 2) (hci : M'.2.1.cls = "java/lang/String") (hn : As.length = n) (hs : stk = As.reverse ++ .ref (1100 + i) :: st) (hw : (st.map fun v => v.category).sum ≤ 8) (hdd : d' + 1 ≤ d)
    (k : ∀ r w1, q_J X S l M d tv nx lv ((tv' r).toList ++ st) w1 (k2 r w1)) : q_J X S l M d tv pc lv stk w (q_b o1 k2) := by
  obtain ⟨hd, rfl⟩ := hd
  subst hs
  intro r w' ho p e s m args below meth c C H locs ls hP hS hl
  obtain ⟨hx, hb', hml, hown, hts, hr, hlk, hK, hok, hst⟩ := id C
  obtain ⟨v1, v2, v3, v4, v5, v6, v7⟩ := hV
  cases o1 with
  | none => cases ho
  | some x =>
    obtain ⟨r1, w1⟩ := x
    have hM := hC r1 w1 rfl H.size
    have hrec : ∃ cell : Cell, H[X.2.2 (1100 + i)]? = some cell ∧ cell.vm.isStatics = false ∧ s.vm.findClass M'.2.1.cls = some cell.cls := by
      rw [hci]
      have h9 := vk_recv (i := i) hst.2.1 hi hS
      exact h9
    have hG : GoodIn (q_wm M) (wsV M.1 idx M'.2.1.cls M'.2.1 (q_wm M')) := q_goodT (fun w hw => by
      rcases List.mem_append.mp hw with h | h
      · rcases List.mem_cons.mp h with rfl | h
        · exact v1
        · rcases List.mem_cons.mp h with rfl | h
          · exact v2
          · rcases List.mem_cons.mp h with rfl | h
            · exact v3
            · rcases List.mem_cons.mp h with rfl | h
              · exact v4
              · cases h
      · exact q_goodM (M := M) v5 w h)
    refine q_run_k (v1 := tv' r1) (w1 := w1) (rest := st.map (q_cv X)) (a := (Value.ref (X.2.2 (1100 + i)) :: As.map (q_cv X)).toArray) (va_runV (As := As.map (q_cv X)) (rest := st.map (q_cv X)) (b := X.2.2 (1100 + i)) (C := M'.2.1.cls) ⟨hx, hb', hml, hown, hts⟩ hM (cwV n hts hG rfl rfl rfl ⟨rfl, v6⟩ ⟨hdd, by show 8 + (M'.2.2.2.1 + 11) + 100 * d' ≤ 100 * d; omega⟩) ⟨q_blind, hrec, fun U hU hW => ⟨rfl, by rw [hU], by rw [hU]; exact hP, va_K.moved hW.alike hK, hok, q_st_go hst hS hW hU⟩⟩ rfl (by rw [List.length_map]; exact hn) hl.1 ?_ (lv_room (by rw [q_cats]; exact hw)) hd ⟨Nat.le_refl _, Nat.le_refl _⟩) hS (fun H1 locs1 hP1 hS1 => ?_)
    · show (As.reverse ++ .ref (1100 + i) :: st).map (q_cv X) = _
      rw [List.map_append, List.map_reverse]; rfl
    · have h7 := k r1 w1 r w' ho p e s m args below meth c C H1 locs1 ls hP1 hS1 hl
      rw [List.map_append] at h7
      have h6 : ((tv' r1).toList.map (q_cv X)) = ((tv' r1).map (q_cv X)).toList := by cases tv' r1 <;> rfl
      rw [h6] at h7
      exact h7
theorem q_callTI {X : q_X} {S : q_S} {l : Launch} {M M' : q_M} {d d' : Nat} {ρ : Type} {tv : ρ → Option Value} {pc nx idx n : Nat} (i : Nat) {lv : List (Nat × Value)} {As stk st : List Value} {w : q_W} {o1 : Option (Int32 × q_W)} {k2 : Int32 → q_W → Option (ρ × q_W)}
    (hd : q_d M pc 3 (.invokevirtual idx) nx) (hV : q_CV M.1 idx M' n) (hC : q_Ct X S l M' d' q_tI (.ref (1100 + i) :: As) w o1) (hi : i < 2) (hci : M'.2.1.cls = "java/lang/String") (hn : As.length = n) (hs : stk = As.reverse ++ .ref (1100 + i) :: st) (hw : (st.map fun v => v.category).sum ≤ 8) (hdd : d' + 1 ≤ d)
    (k : ∀ r w1, q_J X S l M d tv nx lv (.int r :: st) w1 (k2 r w1)) : q_J X S l M d tv pc lv stk w (q_b o1 k2) := q_callT i hd hV hC hi hci hn hs hw hdd k
theorem q_nret {X : q_X} {S : q_S} {l : Launch} {M : q_M} {d pc nx : Nat} {lv : List (Nat × Value)} {w : q_W} {x : Int32} {ty : FieldType} (hd : q_d M pc 1 .ireturn nx) (hM : M.2.2.2.2 = some ty) (hx : narrow ty (.int x) = .int x) : q_J X S l M d q_tI pc lv [.int x] w (some (x, w)) := by
  obtain ⟨hd, rfl⟩ := hd
  intro r w' ho p e s m args below meth c C H locs ls hP hS hl
  cases ho
  exact W.zret (v := x) C.1 C.2.1 (C.2.2.2.2.2.1.trans hM) hx (fun t ht hW => ⟨⟨rfl, by rw [ht]; exact hP⟩, hS.F ht⟩) hS.2.2 hd C.2.2.2.2.2.2.1
