theorem ch_p : ∀ w ∈ k2_sels lw_privs, goodWord w = true → w ∈ q_tb := fun w h g => q_in (List.mem_append_left _ h) g
-- lw_privs_1 ++ (lw_privs_2 ++ (lw_privs_3 ++ (lw_privs_4 ++ (lw_privs_5 ++ (lw_privs_6 ++ (lw_privs_7 ++ (lw_privs_8)))))))
theorem ch_p1 : ∀ w ∈ k2_sels lw_privs_1, goodWord w = true → w ∈ q_tb := fun w h g => ch_p w (by unfold lw_privs k2_sels at *; simp only [List.map_append, List.mem_append] at *; simp only [h, true_or, or_true]) g
theorem ch_p2 : ∀ w ∈ k2_sels lw_privs_2, goodWord w = true → w ∈ q_tb := fun w h g => ch_p w (by unfold lw_privs k2_sels at *; simp only [List.map_append, List.mem_append] at *; simp only [h, true_or, or_true]) g
theorem ch_p3 : ∀ w ∈ k2_sels lw_privs_3, goodWord w = true → w ∈ q_tb := fun w h g => ch_p w (by unfold lw_privs k2_sels at *; simp only [List.map_append, List.mem_append] at *; simp only [h, true_or, or_true]) g
theorem ch_p4 : ∀ w ∈ k2_sels lw_privs_4, goodWord w = true → w ∈ q_tb := fun w h g => ch_p w (by unfold lw_privs k2_sels at *; simp only [List.map_append, List.mem_append] at *; simp only [h, true_or, or_true]) g
theorem ch_p5 : ∀ w ∈ k2_sels lw_privs_5, goodWord w = true → w ∈ q_tb := fun w h g => ch_p w (by unfold lw_privs k2_sels at *; simp only [List.map_append, List.mem_append] at *; simp only [h, true_or, or_true]) g
theorem ch_p6 : ∀ w ∈ k2_sels lw_privs_6, goodWord w = true → w ∈ q_tb := fun w h g => ch_p w (by unfold lw_privs k2_sels at *; simp only [List.map_append, List.mem_append] at *; simp only [h, true_or, or_true]) g
theorem ch_p7 : ∀ w ∈ k2_sels lw_privs_7, goodWord w = true → w ∈ q_tb := fun w h g => ch_p w (by unfold lw_privs k2_sels at *; simp only [List.map_append, List.mem_append] at *; simp only [h, true_or, or_true]) g
theorem ch_p8 : ∀ w ∈ k2_sels lw_privs_8, goodWord w = true → w ∈ q_tb := fun w h g => ch_p w (by unfold lw_privs k2_sels at *; simp only [List.map_append, List.mem_append] at *; simp only [h, true_or, or_true]) g
theorem ch_1 : ∀ w ∈ tables_1_1, goodWord w = true → w ∈ q_tb := fun w h g => q_in (List.mem_append_right _ (by unfold tables_1; simp only [List.mem_append]; simp only [h, true_or, or_true])) g
theorem ch_2 : ∀ w ∈ tables_1_2, goodWord w = true → w ∈ q_tb := fun w h g => q_in (List.mem_append_right _ (by unfold tables_1; simp only [List.mem_append]; simp only [h, true_or, or_true])) g
theorem ch_3 : ∀ w ∈ tables_1_3, goodWord w = true → w ∈ q_tb := fun w h g => q_in (List.mem_append_right _ (by unfold tables_1; simp only [List.mem_append]; simp only [h, true_or, or_true])) g
theorem ch_4 : ∀ w ∈ tables_1_4, goodWord w = true → w ∈ q_tb := fun w h g => q_in (List.mem_append_right _ (by unfold tables_1; simp only [List.mem_append]; simp only [h, true_or, or_true])) g
theorem ch_5 : ∀ w ∈ tables_1_5, goodWord w = true → w ∈ q_tb := fun w h g => q_in (List.mem_append_right _ (by unfold tables_1; simp only [List.mem_append]; simp only [h, true_or, or_true])) g
theorem ch_6 : ∀ w ∈ tables_1_6, goodWord w = true → w ∈ q_tb := fun w h g => q_in (List.mem_append_right _ (by unfold tables_1; simp only [List.mem_append]; simp only [h, true_or, or_true])) g
theorem ch_7 : ∀ w ∈ tables_1_7, goodWord w = true → w ∈ q_tb := fun w h g => q_in (List.mem_append_right _ (by unfold tables_1; simp only [List.mem_append]; simp only [h, true_or, or_true])) g
theorem ch_8 : ∀ w ∈ tables_1_8, goodWord w = true → w ∈ q_tb := fun w h g => q_in (List.mem_append_right _ (by unfold tables_1; simp only [List.mem_append]; simp only [h, true_or, or_true])) g
theorem tb_229 : Cond.laysFinal RX0 (TX0 0).1 (TX0 0).2.1 (TX0 0).2.2.1 ∈ q_tb := ch_1 _ (List.mem_of_getElem? (i := 106) rfl) rfl
theorem tb_231 : Cond.lays RX0 (TX0 1).1 (TX0 1).2.1 (TX0 1).2.2.1 ∈ q_tb := ch_1 _ (List.mem_of_getElem? (i := 108) rfl) rfl
theorem tb_233 : Cond.lays RX0 (TX0 2).1 (TX0 2).2.1 (TX0 2).2.2.1 ∈ q_tb := ch_1 _ (List.mem_of_getElem? (i := 110) rfl) rfl
theorem tb_235 : Cond.lays RX0 (TX0 3).1 (TX0 3).2.1 (TX0 3).2.2.1 ∈ q_tb := ch_1 _ (List.mem_of_getElem? (i := 112) rfl) rfl
theorem tb_237 : Cond.lays RX0 (TX0 4).1 (TX0 4).2.1 (TX0 4).2.2.1 ∈ q_tb := ch_1 _ (List.mem_of_getElem? (i := 114) rfl) rfl
theorem tb_239 : Cond.lays RX0 (TX0 5).1 (TX0 5).2.1 (TX0 5).2.2.1 ∈ q_tb := ch_1 _ (List.mem_of_getElem? (i := 116) rfl) rfl
theorem uX0 : ∀ w ∈ u_ws RX0 TX0 6, w ∈ q_tb := List.forall_mem_cons.mpr ⟨tb_229, List.forall_mem_cons.mpr ⟨tb_231, List.forall_mem_cons.mpr ⟨tb_233, List.forall_mem_cons.mpr ⟨tb_235, List.forall_mem_cons.mpr ⟨tb_237, List.forall_mem_cons.mpr ⟨tb_239, fun _ h => absurd h List.not_mem_nil⟩⟩⟩⟩⟩⟩
theorem tb_436 : Cond.laysFinal RX1 (TX1 0).1 (TX1 0).2.1 (TX1 0).2.2.1 ∈ q_tb := ch_2 _ (List.mem_of_getElem? (i := 73) rfl) rfl
theorem tb_438 : Cond.laysFinal RX1 (TX1 1).1 (TX1 1).2.1 (TX1 1).2.2.1 ∈ q_tb := ch_2 _ (List.mem_of_getElem? (i := 75) rfl) rfl
theorem tb_440 : Cond.laysFinal RX1 (TX1 2).1 (TX1 2).2.1 (TX1 2).2.2.1 ∈ q_tb := ch_2 _ (List.mem_of_getElem? (i := 77) rfl) rfl
theorem tb_442 : Cond.laysFinal RX1 (TX1 3).1 (TX1 3).2.1 (TX1 3).2.2.1 ∈ q_tb := ch_2 _ (List.mem_of_getElem? (i := 79) rfl) rfl
theorem tb_444 : Cond.laysFinal RX1 (TX1 4).1 (TX1 4).2.1 (TX1 4).2.2.1 ∈ q_tb := ch_2 _ (List.mem_of_getElem? (i := 81) rfl) rfl
theorem tb_446 : Cond.lays RX1 (TX1 5).1 (TX1 5).2.1 (TX1 5).2.2.1 ∈ q_tb := ch_2 _ (List.mem_of_getElem? (i := 83) rfl) rfl
theorem tb_448 : Cond.lays RX1 (TX1 6).1 (TX1 6).2.1 (TX1 6).2.2.1 ∈ q_tb := ch_2 _ (List.mem_of_getElem? (i := 85) rfl) rfl
theorem tb_450 : Cond.lays RX1 (TX1 7).1 (TX1 7).2.1 (TX1 7).2.2.1 ∈ q_tb := ch_2 _ (List.mem_of_getElem? (i := 87) rfl) rfl
theorem tb_452 : Cond.lays RX1 (TX1 8).1 (TX1 8).2.1 (TX1 8).2.2.1 ∈ q_tb := ch_2 _ (List.mem_of_getElem? (i := 89) rfl) rfl
theorem tb_454 : Cond.lays RX1 (TX1 9).1 (TX1 9).2.1 (TX1 9).2.2.1 ∈ q_tb := ch_2 _ (List.mem_of_getElem? (i := 91) rfl) rfl
theorem tb_456 : Cond.lays RX1 (TX1 10).1 (TX1 10).2.1 (TX1 10).2.2.1 ∈ q_tb := ch_2 _ (List.mem_of_getElem? (i := 93) rfl) rfl
theorem tb_458 : Cond.lays RX1 (TX1 11).1 (TX1 11).2.1 (TX1 11).2.2.1 ∈ q_tb := ch_2 _ (List.mem_of_getElem? (i := 95) rfl) rfl
theorem tb_460 : Cond.lays RX1 (TX1 12).1 (TX1 12).2.1 (TX1 12).2.2.1 ∈ q_tb := ch_2 _ (List.mem_of_getElem? (i := 97) rfl) rfl
theorem tb_462 : Cond.lays RX1 (TX1 13).1 (TX1 13).2.1 (TX1 13).2.2.1 ∈ q_tb := ch_2 _ (List.mem_of_getElem? (i := 99) rfl) rfl
theorem uX1 : ∀ w ∈ u_ws RX1 TX1 14, w ∈ q_tb := List.forall_mem_cons.mpr ⟨tb_436, List.forall_mem_cons.mpr ⟨tb_438, List.forall_mem_cons.mpr ⟨tb_440, List.forall_mem_cons.mpr ⟨tb_442, List.forall_mem_cons.mpr ⟨tb_444, List.forall_mem_cons.mpr ⟨tb_446, List.forall_mem_cons.mpr ⟨tb_448, List.forall_mem_cons.mpr ⟨tb_450, List.forall_mem_cons.mpr ⟨tb_452, List.forall_mem_cons.mpr ⟨tb_454, List.forall_mem_cons.mpr ⟨tb_456, List.forall_mem_cons.mpr ⟨tb_458, List.forall_mem_cons.mpr ⟨tb_460, List.forall_mem_cons.mpr ⟨tb_462, fun _ h => absurd h List.not_mem_nil⟩⟩⟩⟩⟩⟩⟩⟩⟩⟩⟩⟩⟩⟩
theorem tb_207 : Cond.laysFinal RX2 (TX2 0).1 (TX2 0).2.1 (TX2 0).2.2.1 ∈ q_tb := ch_1 _ (List.mem_of_getElem? (i := 84) rfl) rfl
theorem tb_209 : Cond.laysFinal RX2 (TX2 1).1 (TX2 1).2.1 (TX2 1).2.2.1 ∈ q_tb := ch_1 _ (List.mem_of_getElem? (i := 86) rfl) rfl
theorem tb_211 : Cond.laysFinal RX2 (TX2 2).1 (TX2 2).2.1 (TX2 2).2.2.1 ∈ q_tb := ch_1 _ (List.mem_of_getElem? (i := 88) rfl) rfl
theorem uX2 : ∀ w ∈ u_ws RX2 TX2 3, w ∈ q_tb := List.forall_mem_cons.mpr ⟨tb_207, List.forall_mem_cons.mpr ⟨tb_209, List.forall_mem_cons.mpr ⟨tb_211, fun _ h => absurd h List.not_mem_nil⟩⟩⟩
theorem tb_483 : Cond.laysFinal RX3 (TX3 0).1 (TX3 0).2.1 (TX3 0).2.2.1 ∈ q_tb := ch_2 _ (List.mem_of_getElem? (i := 120) rfl) rfl
theorem tb_485 : Cond.laysFinal RX3 (TX3 1).1 (TX3 1).2.1 (TX3 1).2.2.1 ∈ q_tb := ch_2 _ (List.mem_of_getElem? (i := 122) rfl) rfl
theorem tb_487 : Cond.laysFinal RX3 (TX3 2).1 (TX3 2).2.1 (TX3 2).2.2.1 ∈ q_tb := ch_2 _ (List.mem_of_getElem? (i := 124) rfl) rfl
theorem tb_489 : Cond.laysFinal RX3 (TX3 3).1 (TX3 3).2.1 (TX3 3).2.2.1 ∈ q_tb := ch_2 _ (List.mem_of_getElem? (i := 126) rfl) rfl
theorem tb_491 : Cond.laysFinal RX3 (TX3 4).1 (TX3 4).2.1 (TX3 4).2.2.1 ∈ q_tb := ch_2 _ (List.mem_of_getElem? (i := 128) rfl) rfl
theorem tb_493 : Cond.laysFinal RX3 (TX3 5).1 (TX3 5).2.1 (TX3 5).2.2.1 ∈ q_tb := ch_2 _ (List.mem_of_getElem? (i := 130) rfl) rfl
theorem tb_495 : Cond.laysFinal RX3 (TX3 6).1 (TX3 6).2.1 (TX3 6).2.2.1 ∈ q_tb := ch_2 _ (List.mem_of_getElem? (i := 132) rfl) rfl
theorem tb_497 : Cond.laysFinal RX3 (TX3 7).1 (TX3 7).2.1 (TX3 7).2.2.1 ∈ q_tb := ch_2 _ (List.mem_of_getElem? (i := 134) rfl) rfl
theorem tb_499 : Cond.laysFinal RX3 (TX3 8).1 (TX3 8).2.1 (TX3 8).2.2.1 ∈ q_tb := ch_2 _ (List.mem_of_getElem? (i := 136) rfl) rfl
theorem tb_501 : Cond.lays RX3 (TX3 9).1 (TX3 9).2.1 (TX3 9).2.2.1 ∈ q_tb := ch_2 _ (List.mem_of_getElem? (i := 138) rfl) rfl
theorem tb_503 : Cond.lays RX3 (TX3 10).1 (TX3 10).2.1 (TX3 10).2.2.1 ∈ q_tb := ch_2 _ (List.mem_of_getElem? (i := 140) rfl) rfl
theorem tb_505 : Cond.lays RX3 (TX3 11).1 (TX3 11).2.1 (TX3 11).2.2.1 ∈ q_tb := ch_2 _ (List.mem_of_getElem? (i := 142) rfl) rfl
theorem uX3 : ∀ w ∈ u_ws RX3 TX3 12, w ∈ q_tb := List.forall_mem_cons.mpr ⟨tb_483, List.forall_mem_cons.mpr ⟨tb_485, List.forall_mem_cons.mpr ⟨tb_487, List.forall_mem_cons.mpr ⟨tb_489, List.forall_mem_cons.mpr ⟨tb_491, List.forall_mem_cons.mpr ⟨tb_493, List.forall_mem_cons.mpr ⟨tb_495, List.forall_mem_cons.mpr ⟨tb_497, List.forall_mem_cons.mpr ⟨tb_499, List.forall_mem_cons.mpr ⟨tb_501, List.forall_mem_cons.mpr ⟨tb_503, List.forall_mem_cons.mpr ⟨tb_505, fun _ h => absurd h List.not_mem_nil⟩⟩⟩⟩⟩⟩⟩⟩⟩⟩⟩⟩
theorem tb_287 : Cond.laysFinal RX4 (TX4 0).1 (TX4 0).2.1 (TX4 0).2.2.1 ∈ q_tb := ch_1 _ (List.mem_of_getElem? (i := 164) rfl) rfl
theorem tb_289 : Cond.laysFinal RX4 (TX4 1).1 (TX4 1).2.1 (TX4 1).2.2.1 ∈ q_tb := ch_1 _ (List.mem_of_getElem? (i := 166) rfl) rfl
theorem tb_291 : Cond.laysFinal RX4 (TX4 2).1 (TX4 2).2.1 (TX4 2).2.2.1 ∈ q_tb := ch_1 _ (List.mem_of_getElem? (i := 168) rfl) rfl
theorem tb_293 : Cond.lays RX4 (TX4 3).1 (TX4 3).2.1 (TX4 3).2.2.1 ∈ q_tb := ch_1 _ (List.mem_of_getElem? (i := 170) rfl) rfl
theorem tb_295 : Cond.lays RX4 (TX4 4).1 (TX4 4).2.1 (TX4 4).2.2.1 ∈ q_tb := ch_1 _ (List.mem_of_getElem? (i := 172) rfl) rfl
theorem uX4 : ∀ w ∈ u_ws RX4 TX4 5, w ∈ q_tb := List.forall_mem_cons.mpr ⟨tb_287, List.forall_mem_cons.mpr ⟨tb_289, List.forall_mem_cons.mpr ⟨tb_291, List.forall_mem_cons.mpr ⟨tb_293, List.forall_mem_cons.mpr ⟨tb_295, fun _ h => absurd h List.not_mem_nil⟩⟩⟩⟩⟩
theorem tb_391 : Cond.laysFinal RX5 (TX5 0).1 (TX5 0).2.1 (TX5 0).2.2.1 ∈ q_tb := ch_2 _ (List.mem_of_getElem? (i := 28) rfl) rfl
theorem tb_393 : Cond.laysFinal RX5 (TX5 1).1 (TX5 1).2.1 (TX5 1).2.2.1 ∈ q_tb := ch_2 _ (List.mem_of_getElem? (i := 30) rfl) rfl
theorem tb_395 : Cond.laysFinal RX5 (TX5 2).1 (TX5 2).2.1 (TX5 2).2.2.1 ∈ q_tb := ch_2 _ (List.mem_of_getElem? (i := 32) rfl) rfl
theorem tb_397 : Cond.lays RX5 (TX5 3).1 (TX5 3).2.1 (TX5 3).2.2.1 ∈ q_tb := ch_2 _ (List.mem_of_getElem? (i := 34) rfl) rfl
theorem tb_399 : Cond.lays RX5 (TX5 4).1 (TX5 4).2.1 (TX5 4).2.2.1 ∈ q_tb := ch_2 _ (List.mem_of_getElem? (i := 36) rfl) rfl
theorem tb_401 : Cond.lays RX5 (TX5 5).1 (TX5 5).2.1 (TX5 5).2.2.1 ∈ q_tb := ch_2 _ (List.mem_of_getElem? (i := 38) rfl) rfl
theorem tb_403 : Cond.lays RX5 (TX5 6).1 (TX5 6).2.1 (TX5 6).2.2.1 ∈ q_tb := ch_2 _ (List.mem_of_getElem? (i := 40) rfl) rfl
theorem tb_405 : Cond.lays RX5 (TX5 7).1 (TX5 7).2.1 (TX5 7).2.2.1 ∈ q_tb := ch_2 _ (List.mem_of_getElem? (i := 42) rfl) rfl
theorem tb_407 : Cond.lays RX5 (TX5 8).1 (TX5 8).2.1 (TX5 8).2.2.1 ∈ q_tb := ch_2 _ (List.mem_of_getElem? (i := 44) rfl) rfl
theorem tb_409 : Cond.lays RX5 (TX5 9).1 (TX5 9).2.1 (TX5 9).2.2.1 ∈ q_tb := ch_2 _ (List.mem_of_getElem? (i := 46) rfl) rfl
theorem tb_411 : Cond.lays RX5 (TX5 10).1 (TX5 10).2.1 (TX5 10).2.2.1 ∈ q_tb := ch_2 _ (List.mem_of_getElem? (i := 48) rfl) rfl
theorem tb_413 : Cond.lays RX5 (TX5 11).1 (TX5 11).2.1 (TX5 11).2.2.1 ∈ q_tb := ch_2 _ (List.mem_of_getElem? (i := 50) rfl) rfl
theorem uX5 : ∀ w ∈ u_ws RX5 TX5 12, w ∈ q_tb := List.forall_mem_cons.mpr ⟨tb_391, List.forall_mem_cons.mpr ⟨tb_393, List.forall_mem_cons.mpr ⟨tb_395, List.forall_mem_cons.mpr ⟨tb_397, List.forall_mem_cons.mpr ⟨tb_399, List.forall_mem_cons.mpr ⟨tb_401, List.forall_mem_cons.mpr ⟨tb_403, List.forall_mem_cons.mpr ⟨tb_405, List.forall_mem_cons.mpr ⟨tb_407, List.forall_mem_cons.mpr ⟨tb_409, List.forall_mem_cons.mpr ⟨tb_411, List.forall_mem_cons.mpr ⟨tb_413, fun _ h => absurd h List.not_mem_nil⟩⟩⟩⟩⟩⟩⟩⟩⟩⟩⟩⟩
theorem tb_180 : Cond.laysFinal RX6 (TX6 0).1 (TX6 0).2.1 (TX6 0).2.2.1 ∈ q_tb := ch_1 _ (List.mem_of_getElem? (i := 57) rfl) rfl
theorem tb_182 : Cond.laysFinal RX6 (TX6 1).1 (TX6 1).2.1 (TX6 1).2.2.1 ∈ q_tb := ch_1 _ (List.mem_of_getElem? (i := 59) rfl) rfl
theorem tb_184 : Cond.lays RX6 (TX6 2).1 (TX6 2).2.1 (TX6 2).2.2.1 ∈ q_tb := ch_1 _ (List.mem_of_getElem? (i := 61) rfl) rfl
theorem tb_186 : Cond.lays RX6 (TX6 3).1 (TX6 3).2.1 (TX6 3).2.2.1 ∈ q_tb := ch_1 _ (List.mem_of_getElem? (i := 63) rfl) rfl
theorem uX6 : ∀ w ∈ u_ws RX6 TX6 4, w ∈ q_tb := List.forall_mem_cons.mpr ⟨tb_180, List.forall_mem_cons.mpr ⟨tb_182, List.forall_mem_cons.mpr ⟨tb_184, List.forall_mem_cons.mpr ⟨tb_186, fun _ h => absurd h List.not_mem_nil⟩⟩⟩⟩
theorem tb_365 : Cond.laysFinal RX7 (TX7 0).1 (TX7 0).2.1 (TX7 0).2.2.1 ∈ q_tb := ch_2 _ (List.mem_of_getElem? (i := 2) rfl) rfl
theorem tb_367 : Cond.laysFinal RX7 (TX7 1).1 (TX7 1).2.1 (TX7 1).2.2.1 ∈ q_tb := ch_2 _ (List.mem_of_getElem? (i := 4) rfl) rfl
theorem tb_369 : Cond.laysFinal RX7 (TX7 2).1 (TX7 2).2.1 (TX7 2).2.2.1 ∈ q_tb := ch_2 _ (List.mem_of_getElem? (i := 6) rfl) rfl
theorem tb_371 : Cond.laysFinal RX7 (TX7 3).1 (TX7 3).2.1 (TX7 3).2.2.1 ∈ q_tb := ch_2 _ (List.mem_of_getElem? (i := 8) rfl) rfl
theorem tb_373 : Cond.lays RX7 (TX7 4).1 (TX7 4).2.1 (TX7 4).2.2.1 ∈ q_tb := ch_2 _ (List.mem_of_getElem? (i := 10) rfl) rfl
theorem tb_375 : Cond.lays RX7 (TX7 5).1 (TX7 5).2.1 (TX7 5).2.2.1 ∈ q_tb := ch_2 _ (List.mem_of_getElem? (i := 12) rfl) rfl
theorem uX7 : ∀ w ∈ u_ws RX7 TX7 6, w ∈ q_tb := List.forall_mem_cons.mpr ⟨tb_365, List.forall_mem_cons.mpr ⟨tb_367, List.forall_mem_cons.mpr ⟨tb_369, List.forall_mem_cons.mpr ⟨tb_371, List.forall_mem_cons.mpr ⟨tb_373, List.forall_mem_cons.mpr ⟨tb_375, fun _ h => absurd h List.not_mem_nil⟩⟩⟩⟩⟩⟩
theorem tb_257 : Cond.laysFinal RX8 (TX8 0).1 (TX8 0).2.1 (TX8 0).2.2.1 ∈ q_tb := ch_1 _ (List.mem_of_getElem? (i := 134) rfl) rfl
theorem tb_259 : Cond.laysFinal RX8 (TX8 1).1 (TX8 1).2.1 (TX8 1).2.2.1 ∈ q_tb := ch_1 _ (List.mem_of_getElem? (i := 136) rfl) rfl
theorem tb_261 : Cond.laysFinal RX8 (TX8 2).1 (TX8 2).2.1 (TX8 2).2.2.1 ∈ q_tb := ch_1 _ (List.mem_of_getElem? (i := 138) rfl) rfl
theorem tb_263 : Cond.lays RX8 (TX8 3).1 (TX8 3).2.1 (TX8 3).2.2.1 ∈ q_tb := ch_1 _ (List.mem_of_getElem? (i := 140) rfl) rfl
theorem tb_265 : Cond.lays RX8 (TX8 4).1 (TX8 4).2.1 (TX8 4).2.2.1 ∈ q_tb := ch_1 _ (List.mem_of_getElem? (i := 142) rfl) rfl
theorem tb_267 : Cond.lays RX8 (TX8 5).1 (TX8 5).2.1 (TX8 5).2.2.1 ∈ q_tb := ch_1 _ (List.mem_of_getElem? (i := 144) rfl) rfl
theorem tb_269 : Cond.lays RX8 (TX8 6).1 (TX8 6).2.1 (TX8 6).2.2.1 ∈ q_tb := ch_1 _ (List.mem_of_getElem? (i := 146) rfl) rfl
theorem tb_271 : Cond.lays RX8 (TX8 7).1 (TX8 7).2.1 (TX8 7).2.2.1 ∈ q_tb := ch_1 _ (List.mem_of_getElem? (i := 148) rfl) rfl
theorem tb_273 : Cond.lays RX8 (TX8 8).1 (TX8 8).2.1 (TX8 8).2.2.1 ∈ q_tb := ch_1 _ (List.mem_of_getElem? (i := 150) rfl) rfl
theorem uX8 : ∀ w ∈ u_ws RX8 TX8 9, w ∈ q_tb := List.forall_mem_cons.mpr ⟨tb_257, List.forall_mem_cons.mpr ⟨tb_259, List.forall_mem_cons.mpr ⟨tb_261, List.forall_mem_cons.mpr ⟨tb_263, List.forall_mem_cons.mpr ⟨tb_265, List.forall_mem_cons.mpr ⟨tb_267, List.forall_mem_cons.mpr ⟨tb_269, List.forall_mem_cons.mpr ⟨tb_271, List.forall_mem_cons.mpr ⟨tb_273, fun _ h => absurd h List.not_mem_nil⟩⟩⟩⟩⟩⟩⟩⟩⟩
theorem tb_158 : Cond.laysFinal RX9 (TX9 0).1 (TX9 0).2.1 (TX9 0).2.2.1 ∈ q_tb := ch_1 _ (List.mem_of_getElem? (i := 35) rfl) rfl
theorem tb_160 : Cond.lays RX9 (TX9 1).1 (TX9 1).2.1 (TX9 1).2.2.1 ∈ q_tb := ch_1 _ (List.mem_of_getElem? (i := 37) rfl) rfl
theorem uX9 : ∀ w ∈ u_ws RX9 TX9 2, w ∈ q_tb := List.forall_mem_cons.mpr ⟨tb_158, List.forall_mem_cons.mpr ⟨tb_160, fun _ h => absurd h List.not_mem_nil⟩⟩
theorem tb_523 : Cond.laysFinal RX10 (TX10 0).1 (TX10 0).2.1 (TX10 0).2.2.1 ∈ q_tb := ch_2 _ (List.mem_of_getElem? (i := 160) rfl) rfl
theorem tb_525 : Cond.laysFinal RX10 (TX10 1).1 (TX10 1).2.1 (TX10 1).2.2.1 ∈ q_tb := ch_2 _ (List.mem_of_getElem? (i := 162) rfl) rfl
theorem tb_527 : Cond.laysFinal RX10 (TX10 2).1 (TX10 2).2.1 (TX10 2).2.2.1 ∈ q_tb := ch_2 _ (List.mem_of_getElem? (i := 164) rfl) rfl
theorem tb_529 : Cond.laysFinal RX10 (TX10 3).1 (TX10 3).2.1 (TX10 3).2.2.1 ∈ q_tb := ch_2 _ (List.mem_of_getElem? (i := 166) rfl) rfl
theorem tb_531 : Cond.laysFinal RX10 (TX10 4).1 (TX10 4).2.1 (TX10 4).2.2.1 ∈ q_tb := ch_2 _ (List.mem_of_getElem? (i := 168) rfl) rfl
theorem tb_533 : Cond.laysFinal RX10 (TX10 5).1 (TX10 5).2.1 (TX10 5).2.2.1 ∈ q_tb := ch_2 _ (List.mem_of_getElem? (i := 170) rfl) rfl
theorem tb_535 : Cond.laysFinal RX10 (TX10 6).1 (TX10 6).2.1 (TX10 6).2.2.1 ∈ q_tb := ch_2 _ (List.mem_of_getElem? (i := 172) rfl) rfl
theorem tb_537 : Cond.lays RX10 (TX10 7).1 (TX10 7).2.1 (TX10 7).2.2.1 ∈ q_tb := ch_2 _ (List.mem_of_getElem? (i := 174) rfl) rfl
theorem tb_539 : Cond.lays RX10 (TX10 8).1 (TX10 8).2.1 (TX10 8).2.2.1 ∈ q_tb := ch_2 _ (List.mem_of_getElem? (i := 176) rfl) rfl
theorem tb_541 : Cond.laysFinal RX10 (TX10 9).1 (TX10 9).2.1 (TX10 9).2.2.1 ∈ q_tb := ch_2 _ (List.mem_of_getElem? (i := 178) rfl) rfl
theorem tb_543 : Cond.laysFinal RX10 (TX10 10).1 (TX10 10).2.1 (TX10 10).2.2.1 ∈ q_tb := ch_2 _ (List.mem_of_getElem? (i := 180) rfl) rfl
theorem tb_545 : Cond.laysFinal RX10 (TX10 11).1 (TX10 11).2.1 (TX10 11).2.2.1 ∈ q_tb := ch_2 _ (List.mem_of_getElem? (i := 182) rfl) rfl
theorem tb_547 : Cond.lays RX10 (TX10 12).1 (TX10 12).2.1 (TX10 12).2.2.1 ∈ q_tb := ch_2 _ (List.mem_of_getElem? (i := 184) rfl) rfl
theorem tb_549 : Cond.lays RX10 (TX10 13).1 (TX10 13).2.1 (TX10 13).2.2.1 ∈ q_tb := ch_2 _ (List.mem_of_getElem? (i := 186) rfl) rfl
theorem tb_551 : Cond.lays RX10 (TX10 14).1 (TX10 14).2.1 (TX10 14).2.2.1 ∈ q_tb := ch_2 _ (List.mem_of_getElem? (i := 188) rfl) rfl
theorem uX10 : ∀ w ∈ u_ws RX10 TX10 15, w ∈ q_tb := List.forall_mem_cons.mpr ⟨tb_523, List.forall_mem_cons.mpr ⟨tb_525, List.forall_mem_cons.mpr ⟨tb_527, List.forall_mem_cons.mpr ⟨tb_529, List.forall_mem_cons.mpr ⟨tb_531, List.forall_mem_cons.mpr ⟨tb_533, List.forall_mem_cons.mpr ⟨tb_535, List.forall_mem_cons.mpr ⟨tb_537, List.forall_mem_cons.mpr ⟨tb_539, List.forall_mem_cons.mpr ⟨tb_541, List.forall_mem_cons.mpr ⟨tb_543, List.forall_mem_cons.mpr ⟨tb_545, List.forall_mem_cons.mpr ⟨tb_547, List.forall_mem_cons.mpr ⟨tb_549, List.forall_mem_cons.mpr ⟨tb_551, fun _ h => absurd h List.not_mem_nil⟩⟩⟩⟩⟩⟩⟩⟩⟩⟩⟩⟩⟩⟩⟩
theorem tb_1480 : Cond.lays RX11 (TX11 0).1 (TX11 0).2.1 (TX11 0).2.2.1 ∈ q_tb := ch_6 _ (List.mem_of_getElem? (i := 157) rfl) rfl
theorem tb_1482 : Cond.laysFinal RX11 (TX11 1).1 (TX11 1).2.1 (TX11 1).2.2.1 ∈ q_tb := ch_6 _ (List.mem_of_getElem? (i := 159) rfl) rfl
theorem tb_1484 : Cond.lays RX11 (TX11 2).1 (TX11 2).2.1 (TX11 2).2.2.1 ∈ q_tb := ch_6 _ (List.mem_of_getElem? (i := 161) rfl) rfl
theorem tb_1486 : Cond.laysFinal RX11 (TX11 3).1 (TX11 3).2.1 (TX11 3).2.2.1 ∈ q_tb := ch_6 _ (List.mem_of_getElem? (i := 163) rfl) rfl
theorem tb_1488 : Cond.lays RX11 (TX11 4).1 (TX11 4).2.1 (TX11 4).2.2.1 ∈ q_tb := ch_6 _ (List.mem_of_getElem? (i := 165) rfl) rfl
theorem tb_1490 : Cond.laysFinal RX11 (TX11 5).1 (TX11 5).2.1 (TX11 5).2.2.1 ∈ q_tb := ch_6 _ (List.mem_of_getElem? (i := 167) rfl) rfl
theorem tb_1492 : Cond.laysFinal RX11 (TX11 6).1 (TX11 6).2.1 (TX11 6).2.2.1 ∈ q_tb := ch_6 _ (List.mem_of_getElem? (i := 169) rfl) rfl
theorem tb_1494 : Cond.laysFinal RX11 (TX11 7).1 (TX11 7).2.1 (TX11 7).2.2.1 ∈ q_tb := ch_6 _ (List.mem_of_getElem? (i := 171) rfl) rfl
theorem tb_1496 : Cond.laysFinal RX11 (TX11 8).1 (TX11 8).2.1 (TX11 8).2.2.1 ∈ q_tb := ch_6 _ (List.mem_of_getElem? (i := 173) rfl) rfl
theorem tb_1498 : Cond.laysFinal RX11 (TX11 9).1 (TX11 9).2.1 (TX11 9).2.2.1 ∈ q_tb := ch_6 _ (List.mem_of_getElem? (i := 175) rfl) rfl
theorem tb_1500 : Cond.lays RX11 (TX11 10).1 (TX11 10).2.1 (TX11 10).2.2.1 ∈ q_tb := ch_6 _ (List.mem_of_getElem? (i := 177) rfl) rfl
theorem tb_1502 : Cond.lays RX11 (TX11 11).1 (TX11 11).2.1 (TX11 11).2.2.1 ∈ q_tb := ch_6 _ (List.mem_of_getElem? (i := 179) rfl) rfl
theorem tb_1504 : Cond.lays RX11 (TX11 12).1 (TX11 12).2.1 (TX11 12).2.2.1 ∈ q_tb := ch_6 _ (List.mem_of_getElem? (i := 181) rfl) rfl
theorem tb_1506 : Cond.lays RX11 (TX11 13).1 (TX11 13).2.1 (TX11 13).2.2.1 ∈ q_tb := ch_6 _ (List.mem_of_getElem? (i := 183) rfl) rfl
theorem tb_1508 : Cond.lays RX11 (TX11 14).1 (TX11 14).2.1 (TX11 14).2.2.1 ∈ q_tb := ch_6 _ (List.mem_of_getElem? (i := 185) rfl) rfl
theorem tb_1510 : Cond.lays RX11 (TX11 15).1 (TX11 15).2.1 (TX11 15).2.2.1 ∈ q_tb := ch_6 _ (List.mem_of_getElem? (i := 187) rfl) rfl
theorem tb_1512 : Cond.lays RX11 (TX11 16).1 (TX11 16).2.1 (TX11 16).2.2.1 ∈ q_tb := ch_6 _ (List.mem_of_getElem? (i := 189) rfl) rfl
theorem tb_1514 : Cond.lays RX11 (TX11 17).1 (TX11 17).2.1 (TX11 17).2.2.1 ∈ q_tb := ch_6 _ (List.mem_of_getElem? (i := 191) rfl) rfl
theorem tb_1516 : Cond.lays RX11 (TX11 18).1 (TX11 18).2.1 (TX11 18).2.2.1 ∈ q_tb := ch_6 _ (List.mem_of_getElem? (i := 193) rfl) rfl
theorem tb_1518 : Cond.lays RX11 (TX11 19).1 (TX11 19).2.1 (TX11 19).2.2.1 ∈ q_tb := ch_6 _ (List.mem_of_getElem? (i := 195) rfl) rfl
theorem tb_1520 : Cond.laysFinal RX11 (TX11 20).1 (TX11 20).2.1 (TX11 20).2.2.1 ∈ q_tb := ch_6 _ (List.mem_of_getElem? (i := 197) rfl) rfl
theorem tb_1522 : Cond.laysFinal RX11 (TX11 21).1 (TX11 21).2.1 (TX11 21).2.2.1 ∈ q_tb := ch_6 _ (List.mem_of_getElem? (i := 199) rfl) rfl
theorem tb_1524 : Cond.laysFinal RX11 (TX11 22).1 (TX11 22).2.1 (TX11 22).2.2.1 ∈ q_tb := ch_6 _ (List.mem_of_getElem? (i := 201) rfl) rfl
theorem tb_1526 : Cond.laysFinal RX11 (TX11 23).1 (TX11 23).2.1 (TX11 23).2.2.1 ∈ q_tb := ch_6 _ (List.mem_of_getElem? (i := 203) rfl) rfl
theorem tb_1528 : Cond.lays RX11 (TX11 24).1 (TX11 24).2.1 (TX11 24).2.2.1 ∈ q_tb := ch_6 _ (List.mem_of_getElem? (i := 205) rfl) rfl
theorem tb_1530 : Cond.laysFinal RX11 (TX11 25).1 (TX11 25).2.1 (TX11 25).2.2.1 ∈ q_tb := ch_6 _ (List.mem_of_getElem? (i := 207) rfl) rfl
theorem tb_1532 : Cond.laysFinal RX11 (TX11 26).1 (TX11 26).2.1 (TX11 26).2.2.1 ∈ q_tb := ch_6 _ (List.mem_of_getElem? (i := 209) rfl) rfl
theorem tb_1534 : Cond.laysFinal RX11 (TX11 27).1 (TX11 27).2.1 (TX11 27).2.2.1 ∈ q_tb := ch_6 _ (List.mem_of_getElem? (i := 211) rfl) rfl
theorem tb_1536 : Cond.lays RX11 (TX11 28).1 (TX11 28).2.1 (TX11 28).2.2.1 ∈ q_tb := ch_6 _ (List.mem_of_getElem? (i := 213) rfl) rfl
theorem tb_1538 : Cond.laysFinal RX11 (TX11 29).1 (TX11 29).2.1 (TX11 29).2.2.1 ∈ q_tb := ch_6 _ (List.mem_of_getElem? (i := 215) rfl) rfl
theorem tb_1540 : Cond.lays RX11 (TX11 30).1 (TX11 30).2.1 (TX11 30).2.2.1 ∈ q_tb := ch_6 _ (List.mem_of_getElem? (i := 217) rfl) rfl
theorem tb_1542 : Cond.laysFinal RX11 (TX11 31).1 (TX11 31).2.1 (TX11 31).2.2.1 ∈ q_tb := ch_6 _ (List.mem_of_getElem? (i := 219) rfl) rfl
theorem tb_1544 : Cond.laysFinal RX11 (TX11 32).1 (TX11 32).2.1 (TX11 32).2.2.1 ∈ q_tb := ch_6 _ (List.mem_of_getElem? (i := 221) rfl) rfl
theorem tb_1546 : Cond.laysFinal RX11 (TX11 33).1 (TX11 33).2.1 (TX11 33).2.2.1 ∈ q_tb := ch_6 _ (List.mem_of_getElem? (i := 223) rfl) rfl
theorem tb_1548 : Cond.laysFinal RX11 (TX11 34).1 (TX11 34).2.1 (TX11 34).2.2.1 ∈ q_tb := ch_6 _ (List.mem_of_getElem? (i := 225) rfl) rfl
theorem tb_1550 : Cond.lays RX11 (TX11 35).1 (TX11 35).2.1 (TX11 35).2.2.1 ∈ q_tb := ch_6 _ (List.mem_of_getElem? (i := 227) rfl) rfl
theorem tb_1552 : Cond.lays RX11 (TX11 36).1 (TX11 36).2.1 (TX11 36).2.2.1 ∈ q_tb := ch_6 _ (List.mem_of_getElem? (i := 229) rfl) rfl
theorem tb_1554 : Cond.laysFinal RX11 (TX11 37).1 (TX11 37).2.1 (TX11 37).2.2.1 ∈ q_tb := ch_6 _ (List.mem_of_getElem? (i := 231) rfl) rfl
theorem tb_1556 : Cond.lays RX11 (TX11 38).1 (TX11 38).2.1 (TX11 38).2.2.1 ∈ q_tb := ch_6 _ (List.mem_of_getElem? (i := 233) rfl) rfl
theorem tb_1558 : Cond.lays RX11 (TX11 39).1 (TX11 39).2.1 (TX11 39).2.2.1 ∈ q_tb := ch_6 _ (List.mem_of_getElem? (i := 235) rfl) rfl
theorem tb_1560 : Cond.lays RX11 (TX11 40).1 (TX11 40).2.1 (TX11 40).2.2.1 ∈ q_tb := ch_6 _ (List.mem_of_getElem? (i := 237) rfl) rfl
theorem tb_1562 : Cond.lays RX11 (TX11 41).1 (TX11 41).2.1 (TX11 41).2.2.1 ∈ q_tb := ch_6 _ (List.mem_of_getElem? (i := 239) rfl) rfl
theorem tb_1564 : Cond.laysFinal RX11 (TX11 42).1 (TX11 42).2.1 (TX11 42).2.2.1 ∈ q_tb := ch_7 _ (List.mem_of_getElem? (i := 1) rfl) rfl
theorem tb_1566 : Cond.laysFinal RX11 (TX11 43).1 (TX11 43).2.1 (TX11 43).2.2.1 ∈ q_tb := ch_7 _ (List.mem_of_getElem? (i := 3) rfl) rfl
theorem tb_1568 : Cond.lays RX11 (TX11 44).1 (TX11 44).2.1 (TX11 44).2.2.1 ∈ q_tb := ch_7 _ (List.mem_of_getElem? (i := 5) rfl) rfl
theorem tb_1570 : Cond.laysFinal RX11 (TX11 45).1 (TX11 45).2.1 (TX11 45).2.2.1 ∈ q_tb := ch_7 _ (List.mem_of_getElem? (i := 7) rfl) rfl
theorem tb_1572 : Cond.laysFinal RX11 (TX11 46).1 (TX11 46).2.1 (TX11 46).2.2.1 ∈ q_tb := ch_7 _ (List.mem_of_getElem? (i := 9) rfl) rfl
theorem tb_1574 : Cond.laysFinal RX11 (TX11 47).1 (TX11 47).2.1 (TX11 47).2.2.1 ∈ q_tb := ch_7 _ (List.mem_of_getElem? (i := 11) rfl) rfl
theorem tb_1576 : Cond.lays RX11 (TX11 48).1 (TX11 48).2.1 (TX11 48).2.2.1 ∈ q_tb := ch_7 _ (List.mem_of_getElem? (i := 13) rfl) rfl
theorem tb_1578 : Cond.laysFinal RX11 (TX11 49).1 (TX11 49).2.1 (TX11 49).2.2.1 ∈ q_tb := ch_7 _ (List.mem_of_getElem? (i := 15) rfl) rfl
theorem tb_1580 : Cond.lays RX11 (TX11 50).1 (TX11 50).2.1 (TX11 50).2.2.1 ∈ q_tb := ch_7 _ (List.mem_of_getElem? (i := 17) rfl) rfl
theorem tb_1582 : Cond.laysFinal RX11 (TX11 51).1 (TX11 51).2.1 (TX11 51).2.2.1 ∈ q_tb := ch_7 _ (List.mem_of_getElem? (i := 19) rfl) rfl
theorem tb_1584 : Cond.laysFinal RX11 (TX11 52).1 (TX11 52).2.1 (TX11 52).2.2.1 ∈ q_tb := ch_7 _ (List.mem_of_getElem? (i := 21) rfl) rfl
theorem tb_1586 : Cond.lays RX11 (TX11 53).1 (TX11 53).2.1 (TX11 53).2.2.1 ∈ q_tb := ch_7 _ (List.mem_of_getElem? (i := 23) rfl) rfl
theorem tb_1588 : Cond.lays RX11 (TX11 54).1 (TX11 54).2.1 (TX11 54).2.2.1 ∈ q_tb := ch_7 _ (List.mem_of_getElem? (i := 25) rfl) rfl
theorem tb_1590 : Cond.lays RX11 (TX11 55).1 (TX11 55).2.1 (TX11 55).2.2.1 ∈ q_tb := ch_7 _ (List.mem_of_getElem? (i := 27) rfl) rfl
theorem tb_1592 : Cond.lays RX11 (TX11 56).1 (TX11 56).2.1 (TX11 56).2.2.1 ∈ q_tb := ch_7 _ (List.mem_of_getElem? (i := 29) rfl) rfl
theorem tb_1594 : Cond.laysFinal RX11 (TX11 57).1 (TX11 57).2.1 (TX11 57).2.2.1 ∈ q_tb := ch_7 _ (List.mem_of_getElem? (i := 31) rfl) rfl
theorem tb_1596 : Cond.laysFinal RX11 (TX11 58).1 (TX11 58).2.1 (TX11 58).2.2.1 ∈ q_tb := ch_7 _ (List.mem_of_getElem? (i := 33) rfl) rfl
theorem tb_1598 : Cond.laysFinal RX11 (TX11 59).1 (TX11 59).2.1 (TX11 59).2.2.1 ∈ q_tb := ch_7 _ (List.mem_of_getElem? (i := 35) rfl) rfl
theorem tb_1600 : Cond.lays RX11 (TX11 60).1 (TX11 60).2.1 (TX11 60).2.2.1 ∈ q_tb := ch_7 _ (List.mem_of_getElem? (i := 37) rfl) rfl
theorem tb_1602 : Cond.lays RX11 (TX11 61).1 (TX11 61).2.1 (TX11 61).2.2.1 ∈ q_tb := ch_7 _ (List.mem_of_getElem? (i := 39) rfl) rfl
theorem tb_1604 : Cond.lays RX11 (TX11 62).1 (TX11 62).2.1 (TX11 62).2.2.1 ∈ q_tb := ch_7 _ (List.mem_of_getElem? (i := 41) rfl) rfl
theorem tb_1606 : Cond.laysFinal RX11 (TX11 63).1 (TX11 63).2.1 (TX11 63).2.2.1 ∈ q_tb := ch_7 _ (List.mem_of_getElem? (i := 43) rfl) rfl
theorem tb_1608 : Cond.lays RX11 (TX11 64).1 (TX11 64).2.1 (TX11 64).2.2.1 ∈ q_tb := ch_7 _ (List.mem_of_getElem? (i := 45) rfl) rfl
theorem tb_1610 : Cond.lays RX11 (TX11 65).1 (TX11 65).2.1 (TX11 65).2.2.1 ∈ q_tb := ch_7 _ (List.mem_of_getElem? (i := 47) rfl) rfl
theorem tb_1612 : Cond.laysFinal RX11 (TX11 66).1 (TX11 66).2.1 (TX11 66).2.2.1 ∈ q_tb := ch_7 _ (List.mem_of_getElem? (i := 49) rfl) rfl
theorem tb_1614 : Cond.laysFinal RX11 (TX11 67).1 (TX11 67).2.1 (TX11 67).2.2.1 ∈ q_tb := ch_7 _ (List.mem_of_getElem? (i := 51) rfl) rfl
theorem tb_1616 : Cond.lays RX11 (TX11 68).1 (TX11 68).2.1 (TX11 68).2.2.1 ∈ q_tb := ch_7 _ (List.mem_of_getElem? (i := 53) rfl) rfl
theorem tb_1618 : Cond.lays RX11 (TX11 69).1 (TX11 69).2.1 (TX11 69).2.2.1 ∈ q_tb := ch_7 _ (List.mem_of_getElem? (i := 55) rfl) rfl
theorem tb_1620 : Cond.lays RX11 (TX11 70).1 (TX11 70).2.1 (TX11 70).2.2.1 ∈ q_tb := ch_7 _ (List.mem_of_getElem? (i := 57) rfl) rfl
theorem tb_1622 : Cond.laysFinal RX11 (TX11 71).1 (TX11 71).2.1 (TX11 71).2.2.1 ∈ q_tb := ch_7 _ (List.mem_of_getElem? (i := 59) rfl) rfl
theorem tb_1624 : Cond.laysFinal RX11 (TX11 72).1 (TX11 72).2.1 (TX11 72).2.2.1 ∈ q_tb := ch_7 _ (List.mem_of_getElem? (i := 61) rfl) rfl
theorem uX11 : ∀ w ∈ u_ws RX11 TX11 73, w ∈ q_tb := List.forall_mem_cons.mpr ⟨tb_1480, List.forall_mem_cons.mpr ⟨tb_1482, List.forall_mem_cons.mpr ⟨tb_1484, List.forall_mem_cons.mpr ⟨tb_1486, List.forall_mem_cons.mpr ⟨tb_1488, List.forall_mem_cons.mpr ⟨tb_1490, List.forall_mem_cons.mpr ⟨tb_1492, List.forall_mem_cons.mpr ⟨tb_1494, List.forall_mem_cons.mpr ⟨tb_1496, List.forall_mem_cons.mpr ⟨tb_1498, List.forall_mem_cons.mpr ⟨tb_1500, List.forall_mem_cons.mpr ⟨tb_1502, List.forall_mem_cons.mpr ⟨tb_1504, List.forall_mem_cons.mpr ⟨tb_1506, List.forall_mem_cons.mpr ⟨tb_1508, List.forall_mem_cons.mpr ⟨tb_1510, List.forall_mem_cons.mpr ⟨tb_1512, List.forall_mem_cons.mpr ⟨tb_1514, List.forall_mem_cons.mpr ⟨tb_1516, List.forall_mem_cons.mpr ⟨tb_1518, List.forall_mem_cons.mpr ⟨tb_1520, List.forall_mem_cons.mpr ⟨tb_1522, List.forall_mem_cons.mpr ⟨tb_1524, List.forall_mem_cons.mpr ⟨tb_1526, List.forall_mem_cons.mpr ⟨tb_1528, List.forall_mem_cons.mpr ⟨tb_1530, List.forall_mem_cons.mpr ⟨tb_1532, List.forall_mem_cons.mpr ⟨tb_1534, List.forall_mem_cons.mpr ⟨tb_1536, List.forall_mem_cons.mpr ⟨tb_1538, List.forall_mem_cons.mpr ⟨tb_1540, List.forall_mem_cons.mpr ⟨tb_1542, List.forall_mem_cons.mpr ⟨tb_1544, List.forall_mem_cons.mpr ⟨tb_1546, List.forall_mem_cons.mpr ⟨tb_1548, List.forall_mem_cons.mpr ⟨tb_1550, List.forall_mem_cons.mpr ⟨tb_1552, List.forall_mem_cons.mpr ⟨tb_1554, List.forall_mem_cons.mpr ⟨tb_1556, List.forall_mem_cons.mpr ⟨tb_1558, List.forall_mem_cons.mpr ⟨tb_1560, List.forall_mem_cons.mpr ⟨tb_1562, List.forall_mem_cons.mpr ⟨tb_1564, List.forall_mem_cons.mpr ⟨tb_1566, List.forall_mem_cons.mpr ⟨tb_1568, List.forall_mem_cons.mpr ⟨tb_1570, List.forall_mem_cons.mpr ⟨tb_1572, List.forall_mem_cons.mpr ⟨tb_1574, List.forall_mem_cons.mpr ⟨tb_1576, List.forall_mem_cons.mpr ⟨tb_1578, List.forall_mem_cons.mpr ⟨tb_1580, List.forall_mem_cons.mpr ⟨tb_1582, List.forall_mem_cons.mpr ⟨tb_1584, List.forall_mem_cons.mpr ⟨tb_1586, List.forall_mem_cons.mpr ⟨tb_1588, List.forall_mem_cons.mpr ⟨tb_1590, List.forall_mem_cons.mpr ⟨tb_1592, List.forall_mem_cons.mpr ⟨tb_1594, List.forall_mem_cons.mpr ⟨tb_1596, List.forall_mem_cons.mpr ⟨tb_1598, List.forall_mem_cons.mpr ⟨tb_1600, List.forall_mem_cons.mpr ⟨tb_1602, List.forall_mem_cons.mpr ⟨tb_1604, List.forall_mem_cons.mpr ⟨tb_1606, List.forall_mem_cons.mpr ⟨tb_1608, List.forall_mem_cons.mpr ⟨tb_1610, List.forall_mem_cons.mpr ⟨tb_1612, List.forall_mem_cons.mpr ⟨tb_1614, List.forall_mem_cons.mpr ⟨tb_1616, List.forall_mem_cons.mpr ⟨tb_1618, List.forall_mem_cons.mpr ⟨tb_1620, List.forall_mem_cons.mpr ⟨tb_1622, List.forall_mem_cons.mpr ⟨tb_1624, fun _ h => absurd h List.not_mem_nil⟩⟩⟩⟩⟩⟩⟩⟩⟩⟩⟩⟩⟩⟩⟩⟩⟩⟩⟩⟩⟩⟩⟩⟩⟩⟩⟩⟩⟩⟩⟩⟩⟩⟩⟩⟩⟩⟩⟩⟩⟩⟩⟩⟩⟩⟩⟩⟩⟩⟩⟩⟩⟩⟩⟩⟩⟩⟩⟩⟩⟩⟩⟩⟩⟩⟩⟩⟩⟩⟩⟩⟩⟩
theorem tb_508 : Cond.fieldLink RX10 10 (TX10 0).1 (TX10 0).2.1 (TX10 0).2.2.1 ∈ q_tb := ch_2 _ (List.mem_of_getElem? (i := 145) rfl) rfl
theorem fl_10_10 : q_FL RX10 10 10 0 := ⟨by decide, RX10, TX10, 15, rfl, rfl, by decide, uX10, tb_508⟩
theorem tb_509 : Cond.fieldLink RX10 19 (TX10 1).1 (TX10 1).2.1 (TX10 1).2.2.1 ∈ q_tb := ch_2 _ (List.mem_of_getElem? (i := 146) rfl) rfl
theorem fl_10_19 : q_FL RX10 19 10 1 := ⟨by decide, RX10, TX10, 15, rfl, rfl, by decide, uX10, tb_509⟩
theorem tb_510 : Cond.fieldLink RX10 26 (TX10 2).1 (TX10 2).2.1 (TX10 2).2.2.1 ∈ q_tb := ch_2 _ (List.mem_of_getElem? (i := 147) rfl) rfl
theorem fl_10_26 : q_FL RX10 26 10 2 := ⟨by decide, RX10, TX10, 15, rfl, rfl, by decide, uX10, tb_510⟩
theorem tb_511 : Cond.fieldLink RX10 35 (TX10 3).1 (TX10 3).2.1 (TX10 3).2.2.1 ∈ q_tb := ch_2 _ (List.mem_of_getElem? (i := 148) rfl) rfl
theorem fl_10_35 : q_FL RX10 35 10 3 := ⟨by decide, RX10, TX10, 15, rfl, rfl, by decide, uX10, tb_511⟩
theorem tb_512 : Cond.fieldLink RX10 42 (TX10 4).1 (TX10 4).2.1 (TX10 4).2.2.1 ∈ q_tb := ch_2 _ (List.mem_of_getElem? (i := 149) rfl) rfl
theorem fl_10_42 : q_FL RX10 42 10 4 := ⟨by decide, RX10, TX10, 15, rfl, rfl, by decide, uX10, tb_512⟩
theorem tb_513 : Cond.fieldLink RX10 46 (TX10 5).1 (TX10 5).2.1 (TX10 5).2.2.1 ∈ q_tb := ch_2 _ (List.mem_of_getElem? (i := 150) rfl) rfl
theorem fl_10_46 : q_FL RX10 46 10 5 := ⟨by decide, RX10, TX10, 15, rfl, rfl, by decide, uX10, tb_513⟩
theorem tb_514 : Cond.fieldLink RX10 49 (TX10 6).1 (TX10 6).2.1 (TX10 6).2.2.1 ∈ q_tb := ch_2 _ (List.mem_of_getElem? (i := 151) rfl) rfl
theorem fl_10_49 : q_FL RX10 49 10 6 := ⟨by decide, RX10, TX10, 15, rfl, rfl, by decide, uX10, tb_514⟩
theorem tb_515 : Cond.fieldLink RX10 56 (TX10 7).1 (TX10 7).2.1 (TX10 7).2.2.1 ∈ q_tb := ch_2 _ (List.mem_of_getElem? (i := 152) rfl) rfl
theorem fl_10_56 : q_FL RX10 56 10 7 := ⟨by decide, RX10, TX10, 15, rfl, rfl, by decide, uX10, tb_515⟩
theorem fp_10_56 : q_FP RX10 56 10 7 (.object "MarbleBath$Program") := ⟨by decide, RX10, TX10, 15, tyX10, rfl, rfl, by decide, uX10, tb_515, tyX10_ok, nmX10, rfl, by decide +kernel⟩
theorem tb_516 : Cond.fieldLink RX10 60 (TX10 8).1 (TX10 8).2.1 (TX10 8).2.2.1 ∈ q_tb := ch_2 _ (List.mem_of_getElem? (i := 153) rfl) rfl
theorem fl_10_60 : q_FL RX10 60 10 8 := ⟨by decide, RX10, TX10, 15, rfl, rfl, by decide, uX10, tb_516⟩
theorem fp_10_60 : q_FP RX10 60 10 8 (.object "MarbleBath$Program") := ⟨by decide, RX10, TX10, 15, tyX10, rfl, rfl, by decide, uX10, tb_516, tyX10_ok, nmX10, rfl, by decide +kernel⟩
theorem tb_517 : Cond.fieldLink RX10 68 (TX10 9).1 (TX10 9).2.1 (TX10 9).2.2.1 ∈ q_tb := ch_2 _ (List.mem_of_getElem? (i := 154) rfl) rfl
theorem fl_10_68 : q_FL RX10 68 10 9 := ⟨by decide, RX10, TX10, 15, rfl, rfl, by decide, uX10, tb_517⟩
theorem tb_518 : Cond.fieldLink RX10 77 (TX10 10).1 (TX10 10).2.1 (TX10 10).2.2.1 ∈ q_tb := ch_2 _ (List.mem_of_getElem? (i := 155) rfl) rfl
theorem fl_10_77 : q_FL RX10 77 10 10 := ⟨by decide, RX10, TX10, 15, rfl, rfl, by decide, uX10, tb_518⟩
theorem tb_519 : Cond.fieldLink RX10 86 (TX10 11).1 (TX10 11).2.1 (TX10 11).2.2.1 ∈ q_tb := ch_2 _ (List.mem_of_getElem? (i := 156) rfl) rfl
theorem fl_10_86 : q_FL RX10 86 10 11 := ⟨by decide, RX10, TX10, 15, rfl, rfl, by decide, uX10, tb_519⟩
theorem tb_520 : Cond.fieldLink RX10 90 (TX10 12).1 (TX10 12).2.1 (TX10 12).2.2.1 ∈ q_tb := ch_2 _ (List.mem_of_getElem? (i := 157) rfl) rfl
theorem fl_10_90 : q_FL RX10 90 10 12 := ⟨by decide, RX10, TX10, 15, rfl, rfl, by decide, uX10, tb_520⟩
theorem fp_10_90 : q_FP RX10 90 10 12 .int := ⟨by decide, RX10, TX10, 15, tyX10, rfl, rfl, by decide, uX10, tb_520, tyX10_ok, nmX10, rfl, by decide +kernel⟩
theorem tb_522 : Cond.fieldLink RX10 94 (TX10 14).1 (TX10 14).2.1 (TX10 14).2.2.1 ∈ q_tb := ch_2 _ (List.mem_of_getElem? (i := 159) rfl) rfl
theorem fl_10_94 : q_FL RX10 94 10 14 := ⟨by decide, RX10, TX10, 15, rfl, rfl, by decide, uX10, tb_522⟩
theorem fp_10_94 : q_FP RX10 94 10 14 .int := ⟨by decide, RX10, TX10, 15, tyX10, rfl, rfl, by decide, uX10, tb_522, tyX10_ok, nmX10, rfl, by decide +kernel⟩
theorem tb_521 : Cond.fieldLink RX10 144 (TX10 13).1 (TX10 13).2.1 (TX10 13).2.2.1 ∈ q_tb := ch_2 _ (List.mem_of_getElem? (i := 158) rfl) rfl
theorem fl_10_144 : q_FL RX10 144 10 13 := ⟨by decide, RX10, TX10, 15, rfl, rfl, by decide, uX10, tb_521⟩
theorem fp_10_144 : q_FP RX10 144 10 13 .int := ⟨by decide, RX10, TX10, 15, tyX10, rfl, rfl, by decide, uX10, tb_521, tyX10_ok, nmX10, rfl, by decide +kernel⟩
theorem tb_223 : Cond.fieldLink RX0 11 (TX0 0).1 (TX0 0).2.1 (TX0 0).2.2.1 ∈ q_tb := ch_1 _ (List.mem_of_getElem? (i := 100) rfl) rfl
theorem fl_0_11 : q_FL RX0 11 0 0 := ⟨by decide, RX0, TX0, 6, rfl, rfl, by decide, uX0, tb_223⟩
theorem tb_224 : Cond.fieldLink RX0 15 (TX0 1).1 (TX0 1).2.1 (TX0 1).2.2.1 ∈ q_tb := ch_1 _ (List.mem_of_getElem? (i := 101) rfl) rfl
theorem fl_0_15 : q_FL RX0 15 0 1 := ⟨by decide, RX0, TX0, 6, rfl, rfl, by decide, uX0, tb_224⟩
theorem fp_0_15 : q_FP RX0 15 0 1 (.object "MarbleBath$Rows") := ⟨by decide, RX0, TX0, 6, tyX0, rfl, rfl, by decide, uX0, tb_224, tyX0_ok, nmX0, rfl, by decide +kernel⟩
theorem tb_225 : Cond.fieldLink RX0 19 (TX0 2).1 (TX0 2).2.1 (TX0 2).2.2.1 ∈ q_tb := ch_1 _ (List.mem_of_getElem? (i := 102) rfl) rfl
theorem fl_0_19 : q_FL RX0 19 0 2 := ⟨by decide, RX0, TX0, 6, rfl, rfl, by decide, uX0, tb_225⟩
theorem fp_0_19 : q_FP RX0 19 0 2 .int := ⟨by decide, RX0, TX0, 6, tyX0, rfl, rfl, by decide, uX0, tb_225, tyX0_ok, nmX0, rfl, by decide +kernel⟩
theorem tb_226 : Cond.fieldLink RX0 29 (TX0 3).1 (TX0 3).2.1 (TX0 3).2.2.1 ∈ q_tb := ch_1 _ (List.mem_of_getElem? (i := 103) rfl) rfl
theorem fl_0_29 : q_FL RX0 29 0 3 := ⟨by decide, RX0, TX0, 6, rfl, rfl, by decide, uX0, tb_226⟩
theorem fp_0_29 : q_FP RX0 29 0 3 .int := ⟨by decide, RX0, TX0, 6, tyX0, rfl, rfl, by decide, uX0, tb_226, tyX0_ok, nmX0, rfl, by decide +kernel⟩
theorem tb_227 : Cond.fieldLink RX0 32 (TX0 4).1 (TX0 4).2.1 (TX0 4).2.2.1 ∈ q_tb := ch_1 _ (List.mem_of_getElem? (i := 104) rfl) rfl
theorem fl_0_32 : q_FL RX0 32 0 4 := ⟨by decide, RX0, TX0, 6, rfl, rfl, by decide, uX0, tb_227⟩
theorem fp_0_32 : q_FP RX0 32 0 4 .int := ⟨by decide, RX0, TX0, 6, tyX0, rfl, rfl, by decide, uX0, tb_227, tyX0_ok, nmX0, rfl, by decide +kernel⟩
theorem tb_228 : Cond.fieldLink RX0 35 (TX0 5).1 (TX0 5).2.1 (TX0 5).2.2.1 ∈ q_tb := ch_1 _ (List.mem_of_getElem? (i := 105) rfl) rfl
theorem fl_0_35 : q_FL RX0 35 0 5 := ⟨by decide, RX0, TX0, 6, rfl, rfl, by decide, uX0, tb_228⟩
theorem fp_0_35 : q_FP RX0 35 0 5 .int := ⟨by decide, RX0, TX0, 6, tyX0, rfl, rfl, by decide, uX0, tb_228, tyX0_ok, nmX0, rfl, by decide +kernel⟩
theorem tb_422 : Cond.fieldLink RX1 11 (TX1 0).1 (TX1 0).2.1 (TX1 0).2.2.1 ∈ q_tb := ch_2 _ (List.mem_of_getElem? (i := 59) rfl) rfl
theorem fl_1_11 : q_FL RX1 11 1 0 := ⟨by decide, RX1, TX1, 14, rfl, rfl, by decide, uX1, tb_422⟩
theorem tb_423 : Cond.fieldLink RX1 15 (TX1 1).1 (TX1 1).2.1 (TX1 1).2.2.1 ∈ q_tb := ch_2 _ (List.mem_of_getElem? (i := 60) rfl) rfl
theorem fl_1_15 : q_FL RX1 15 1 1 := ⟨by decide, RX1, TX1, 14, rfl, rfl, by decide, uX1, tb_423⟩
theorem tb_424 : Cond.fieldLink RX1 18 (TX1 2).1 (TX1 2).2.1 (TX1 2).2.2.1 ∈ q_tb := ch_2 _ (List.mem_of_getElem? (i := 61) rfl) rfl
theorem fl_1_18 : q_FL RX1 18 1 2 := ⟨by decide, RX1, TX1, 14, rfl, rfl, by decide, uX1, tb_424⟩
theorem tb_425 : Cond.fieldLink RX1 21 (TX1 3).1 (TX1 3).2.1 (TX1 3).2.2.1 ∈ q_tb := ch_2 _ (List.mem_of_getElem? (i := 62) rfl) rfl
theorem fl_1_21 : q_FL RX1 21 1 3 := ⟨by decide, RX1, TX1, 14, rfl, rfl, by decide, uX1, tb_425⟩
theorem tb_426 : Cond.fieldLink RX1 26 (TX1 4).1 (TX1 4).2.1 (TX1 4).2.2.1 ∈ q_tb := ch_2 _ (List.mem_of_getElem? (i := 63) rfl) rfl
theorem fl_1_26 : q_FL RX1 26 1 4 := ⟨by decide, RX1, TX1, 14, rfl, rfl, by decide, uX1, tb_426⟩
theorem tb_427 : Cond.fieldLink RX1 29 (TX1 5).1 (TX1 5).2.1 (TX1 5).2.2.1 ∈ q_tb := ch_2 _ (List.mem_of_getElem? (i := 64) rfl) rfl
theorem fl_1_29 : q_FL RX1 29 1 5 := ⟨by decide, RX1, TX1, 14, rfl, rfl, by decide, uX1, tb_427⟩
theorem fp_1_29 : q_FP RX1 29 1 5 (.object "MarbleBath$Program") := ⟨by decide, RX1, TX1, 14, tyX1, rfl, rfl, by decide, uX1, tb_427, tyX1_ok, nmX1, rfl, by decide +kernel⟩
theorem tb_428 : Cond.fieldLink RX1 33 (TX1 6).1 (TX1 6).2.1 (TX1 6).2.2.1 ∈ q_tb := ch_2 _ (List.mem_of_getElem? (i := 65) rfl) rfl
theorem fl_1_33 : q_FL RX1 33 1 6 := ⟨by decide, RX1, TX1, 14, rfl, rfl, by decide, uX1, tb_428⟩
theorem fp_1_33 : q_FP RX1 33 1 6 (.object "MarbleBath$Rows") := ⟨by decide, RX1, TX1, 14, tyX1, rfl, rfl, by decide, uX1, tb_428, tyX1_ok, nmX1, rfl, by decide +kernel⟩
theorem tb_429 : Cond.fieldLink RX1 41 (TX1 7).1 (TX1 7).2.1 (TX1 7).2.2.1 ∈ q_tb := ch_2 _ (List.mem_of_getElem? (i := 66) rfl) rfl
theorem fl_1_41 : q_FL RX1 41 1 7 := ⟨by decide, RX1, TX1, 14, rfl, rfl, by decide, uX1, tb_429⟩
theorem fp_1_41 : q_FP RX1 41 1 7 .int := ⟨by decide, RX1, TX1, 14, tyX1, rfl, rfl, by decide, uX1, tb_429, tyX1_ok, nmX1, rfl, by decide +kernel⟩
theorem tb_430 : Cond.fieldLink RX1 45 (TX1 8).1 (TX1 8).2.1 (TX1 8).2.2.1 ∈ q_tb := ch_2 _ (List.mem_of_getElem? (i := 67) rfl) rfl
theorem fl_1_45 : q_FL RX1 45 1 8 := ⟨by decide, RX1, TX1, 14, rfl, rfl, by decide, uX1, tb_430⟩
theorem fp_1_45 : q_FP RX1 45 1 8 .int := ⟨by decide, RX1, TX1, 14, tyX1, rfl, rfl, by decide, uX1, tb_430, tyX1_ok, nmX1, rfl, by decide +kernel⟩
theorem tb_431 : Cond.fieldLink RX1 48 (TX1 9).1 (TX1 9).2.1 (TX1 9).2.2.1 ∈ q_tb := ch_2 _ (List.mem_of_getElem? (i := 68) rfl) rfl
theorem fl_1_48 : q_FL RX1 48 1 9 := ⟨by decide, RX1, TX1, 14, rfl, rfl, by decide, uX1, tb_431⟩
theorem fp_1_48 : q_FP RX1 48 1 9 .int := ⟨by decide, RX1, TX1, 14, tyX1, rfl, rfl, by decide, uX1, tb_431, tyX1_ok, nmX1, rfl, by decide +kernel⟩
theorem tb_432 : Cond.fieldLink RX1 51 (TX1 10).1 (TX1 10).2.1 (TX1 10).2.2.1 ∈ q_tb := ch_2 _ (List.mem_of_getElem? (i := 69) rfl) rfl
theorem fl_1_51 : q_FL RX1 51 1 10 := ⟨by decide, RX1, TX1, 14, rfl, rfl, by decide, uX1, tb_432⟩
theorem fp_1_51 : q_FP RX1 51 1 10 .int := ⟨by decide, RX1, TX1, 14, tyX1, rfl, rfl, by decide, uX1, tb_432, tyX1_ok, nmX1, rfl, by decide +kernel⟩
theorem tb_434 : Cond.fieldLink RX1 54 (TX1 12).1 (TX1 12).2.1 (TX1 12).2.2.1 ∈ q_tb := ch_2 _ (List.mem_of_getElem? (i := 71) rfl) rfl
theorem fl_1_54 : q_FL RX1 54 1 12 := ⟨by decide, RX1, TX1, 14, rfl, rfl, by decide, uX1, tb_434⟩
theorem fp_1_54 : q_FP RX1 54 1 12 .int := ⟨by decide, RX1, TX1, 14, tyX1, rfl, rfl, by decide, uX1, tb_434, tyX1_ok, nmX1, rfl, by decide +kernel⟩
theorem tb_435 : Cond.fieldLink RX1 61 (TX1 13).1 (TX1 13).2.1 (TX1 13).2.2.1 ∈ q_tb := ch_2 _ (List.mem_of_getElem? (i := 72) rfl) rfl
theorem fl_1_61 : q_FL RX1 61 1 13 := ⟨by decide, RX1, TX1, 14, rfl, rfl, by decide, uX1, tb_435⟩
theorem fp_1_61 : q_FP RX1 61 1 13 .boolean := ⟨by decide, RX1, TX1, 14, tyX1, rfl, rfl, by decide, uX1, tb_435, tyX1_ok, nmX1, rfl, by decide +kernel⟩
theorem tb_433 : Cond.fieldLink RX1 73 (TX1 11).1 (TX1 11).2.1 (TX1 11).2.2.1 ∈ q_tb := ch_2 _ (List.mem_of_getElem? (i := 70) rfl) rfl
theorem fl_1_73 : q_FL RX1 73 1 11 := ⟨by decide, RX1, TX1, 14, rfl, rfl, by decide, uX1, tb_433⟩
theorem fp_1_73 : q_FP RX1 73 1 11 .int := ⟨by decide, RX1, TX1, 14, tyX1, rfl, rfl, by decide, uX1, tb_433, tyX1_ok, nmX1, rfl, by decide +kernel⟩
theorem tb_204 : Cond.fieldLink RX2 12 (TX2 0).1 (TX2 0).2.1 (TX2 0).2.2.1 ∈ q_tb := ch_1 _ (List.mem_of_getElem? (i := 81) rfl) rfl
theorem fl_2_12 : q_FL RX2 12 2 0 := ⟨by decide, RX2, TX2, 3, rfl, rfl, by decide, uX2, tb_204⟩
theorem tb_205 : Cond.fieldLink RX2 18 (TX2 1).1 (TX2 1).2.1 (TX2 1).2.2.1 ∈ q_tb := ch_1 _ (List.mem_of_getElem? (i := 82) rfl) rfl
theorem fl_2_18 : q_FL RX2 18 2 1 := ⟨by decide, RX2, TX2, 3, rfl, rfl, by decide, uX2, tb_205⟩
theorem tb_206 : Cond.fieldLink RX2 22 (TX2 2).1 (TX2 2).2.1 (TX2 2).2.2.1 ∈ q_tb := ch_1 _ (List.mem_of_getElem? (i := 83) rfl) rfl
theorem fl_2_22 : q_FL RX2 22 2 2 := ⟨by decide, RX2, TX2, 3, rfl, rfl, by decide, uX2, tb_206⟩
theorem tb_475 : Cond.fieldLink RX3 11 (TX3 4).1 (TX3 4).2.1 (TX3 4).2.2.1 ∈ q_tb := ch_2 _ (List.mem_of_getElem? (i := 112) rfl) rfl
theorem fl_3_11 : q_FL RX3 11 3 4 := ⟨by decide, RX3, TX3, 12, rfl, rfl, by decide, uX3, tb_475⟩
theorem tb_476 : Cond.fieldLink RX3 17 (TX3 5).1 (TX3 5).2.1 (TX3 5).2.2.1 ∈ q_tb := ch_2 _ (List.mem_of_getElem? (i := 113) rfl) rfl
theorem fl_3_17 : q_FL RX3 17 3 5 := ⟨by decide, RX3, TX3, 12, rfl, rfl, by decide, uX3, tb_476⟩
theorem tb_477 : Cond.fieldLink RX3 20 (TX3 6).1 (TX3 6).2.1 (TX3 6).2.2.1 ∈ q_tb := ch_2 _ (List.mem_of_getElem? (i := 114) rfl) rfl
theorem fl_3_20 : q_FL RX3 20 3 6 := ⟨by decide, RX3, TX3, 12, rfl, rfl, by decide, uX3, tb_477⟩
theorem tb_478 : Cond.fieldLink RX3 23 (TX3 7).1 (TX3 7).2.1 (TX3 7).2.2.1 ∈ q_tb := ch_2 _ (List.mem_of_getElem? (i := 115) rfl) rfl
theorem fl_3_23 : q_FL RX3 23 3 7 := ⟨by decide, RX3, TX3, 12, rfl, rfl, by decide, uX3, tb_478⟩
theorem tb_479 : Cond.fieldLink RX3 26 (TX3 8).1 (TX3 8).2.1 (TX3 8).2.2.1 ∈ q_tb := ch_2 _ (List.mem_of_getElem? (i := 116) rfl) rfl
theorem fl_3_26 : q_FL RX3 26 3 8 := ⟨by decide, RX3, TX3, 12, rfl, rfl, by decide, uX3, tb_479⟩
theorem tb_471 : Cond.fieldLink RX3 29 (TX3 0).1 (TX3 0).2.1 (TX3 0).2.2.1 ∈ q_tb := ch_2 _ (List.mem_of_getElem? (i := 108) rfl) rfl
theorem fl_3_29 : q_FL RX3 29 3 0 := ⟨by decide, RX3, TX3, 12, rfl, rfl, by decide, uX3, tb_471⟩
theorem tb_472 : Cond.fieldLink RX3 33 (TX3 1).1 (TX3 1).2.1 (TX3 1).2.2.1 ∈ q_tb := ch_2 _ (List.mem_of_getElem? (i := 109) rfl) rfl
theorem fl_3_33 : q_FL RX3 33 3 1 := ⟨by decide, RX3, TX3, 12, rfl, rfl, by decide, uX3, tb_472⟩
theorem tb_473 : Cond.fieldLink RX3 37 (TX3 2).1 (TX3 2).2.1 (TX3 2).2.2.1 ∈ q_tb := ch_2 _ (List.mem_of_getElem? (i := 110) rfl) rfl
theorem fl_3_37 : q_FL RX3 37 3 2 := ⟨by decide, RX3, TX3, 12, rfl, rfl, by decide, uX3, tb_473⟩
theorem tb_474 : Cond.fieldLink RX3 41 (TX3 3).1 (TX3 3).2.1 (TX3 3).2.2.1 ∈ q_tb := ch_2 _ (List.mem_of_getElem? (i := 111) rfl) rfl
theorem fl_3_41 : q_FL RX3 41 3 3 := ⟨by decide, RX3, TX3, 12, rfl, rfl, by decide, uX3, tb_474⟩
theorem tb_481 : Cond.fieldLink RX3 45 (TX3 10).1 (TX3 10).2.1 (TX3 10).2.2.1 ∈ q_tb := ch_2 _ (List.mem_of_getElem? (i := 118) rfl) rfl
theorem fl_3_45 : q_FL RX3 45 3 10 := ⟨by decide, RX3, TX3, 12, rfl, rfl, by decide, uX3, tb_481⟩
theorem fp_3_45 : q_FP RX3 45 3 10 .int := ⟨by decide, RX3, TX3, 12, tyX3, rfl, rfl, by decide, uX3, tb_481, tyX3_ok, nmX3, rfl, by decide +kernel⟩
theorem tb_482 : Cond.fieldLink RX3 49 (TX3 11).1 (TX3 11).2.1 (TX3 11).2.2.1 ∈ q_tb := ch_2 _ (List.mem_of_getElem? (i := 119) rfl) rfl
theorem fl_3_49 : q_FL RX3 49 3 11 := ⟨by decide, RX3, TX3, 12, rfl, rfl, by decide, uX3, tb_482⟩
theorem fp_3_49 : q_FP RX3 49 3 11 .int := ⟨by decide, RX3, TX3, 12, tyX3, rfl, rfl, by decide, uX3, tb_482, tyX3_ok, nmX3, rfl, by decide +kernel⟩
theorem tb_480 : Cond.fieldLink RX3 52 (TX3 9).1 (TX3 9).2.1 (TX3 9).2.2.1 ∈ q_tb := ch_2 _ (List.mem_of_getElem? (i := 117) rfl) rfl
theorem fl_3_52 : q_FL RX3 52 3 9 := ⟨by decide, RX3, TX3, 12, rfl, rfl, by decide, uX3, tb_480⟩
theorem fp_3_52 : q_FP RX3 52 3 9 .int := ⟨by decide, RX3, TX3, 12, tyX3, rfl, rfl, by decide, uX3, tb_480, tyX3_ok, nmX3, rfl, by decide +kernel⟩
theorem tb_282 : Cond.fieldLink RX4 9 (TX4 0).1 (TX4 0).2.1 (TX4 0).2.2.1 ∈ q_tb := ch_1 _ (List.mem_of_getElem? (i := 159) rfl) rfl
theorem fl_4_9 : q_FL RX4 9 4 0 := ⟨by decide, RX4, TX4, 5, rfl, rfl, by decide, uX4, tb_282⟩
theorem tb_283 : Cond.fieldLink RX4 13 (TX4 1).1 (TX4 1).2.1 (TX4 1).2.2.1 ∈ q_tb := ch_1 _ (List.mem_of_getElem? (i := 160) rfl) rfl
theorem fl_4_13 : q_FL RX4 13 4 1 := ⟨by decide, RX4, TX4, 5, rfl, rfl, by decide, uX4, tb_283⟩
theorem tb_284 : Cond.fieldLink RX4 16 (TX4 2).1 (TX4 2).2.1 (TX4 2).2.2.1 ∈ q_tb := ch_1 _ (List.mem_of_getElem? (i := 161) rfl) rfl
theorem fl_4_16 : q_FL RX4 16 4 2 := ⟨by decide, RX4, TX4, 5, rfl, rfl, by decide, uX4, tb_284⟩
theorem tb_285 : Cond.fieldLink RX4 19 (TX4 3).1 (TX4 3).2.1 (TX4 3).2.2.1 ∈ q_tb := ch_1 _ (List.mem_of_getElem? (i := 162) rfl) rfl
theorem fl_4_19 : q_FL RX4 19 4 3 := ⟨by decide, RX4, TX4, 5, rfl, rfl, by decide, uX4, tb_285⟩
theorem fp_4_19 : q_FP RX4 19 4 3 .int := ⟨by decide, RX4, TX4, 5, tyX4, rfl, rfl, by decide, uX4, tb_285, tyX4_ok, nmX4, rfl, by decide +kernel⟩
theorem tb_286 : Cond.fieldLink RX4 23 (TX4 4).1 (TX4 4).2.1 (TX4 4).2.2.1 ∈ q_tb := ch_1 _ (List.mem_of_getElem? (i := 163) rfl) rfl
theorem fl_4_23 : q_FL RX4 23 4 4 := ⟨by decide, RX4, TX4, 5, rfl, rfl, by decide, uX4, tb_286⟩
theorem fp_4_23 : q_FP RX4 23 4 4 .int := ⟨by decide, RX4, TX4, 5, tyX4, rfl, rfl, by decide, uX4, tb_286, tyX4_ok, nmX4, rfl, by decide +kernel⟩
theorem tb_379 : Cond.fieldLink RX5 12 (TX5 0).1 (TX5 0).2.1 (TX5 0).2.2.1 ∈ q_tb := ch_2 _ (List.mem_of_getElem? (i := 16) rfl) rfl
theorem fl_5_12 : q_FL RX5 12 5 0 := ⟨by decide, RX5, TX5, 12, rfl, rfl, by decide, uX5, tb_379⟩
theorem tb_380 : Cond.fieldLink RX5 20 (TX5 1).1 (TX5 1).2.1 (TX5 1).2.2.1 ∈ q_tb := ch_2 _ (List.mem_of_getElem? (i := 17) rfl) rfl
theorem fl_5_20 : q_FL RX5 20 5 1 := ⟨by decide, RX5, TX5, 12, rfl, rfl, by decide, uX5, tb_380⟩
theorem tb_381 : Cond.fieldLink RX5 26 (TX5 2).1 (TX5 2).2.1 (TX5 2).2.2.1 ∈ q_tb := ch_2 _ (List.mem_of_getElem? (i := 18) rfl) rfl
theorem fl_5_26 : q_FL RX5 26 5 2 := ⟨by decide, RX5, TX5, 12, rfl, rfl, by decide, uX5, tb_381⟩
theorem tb_390 : Cond.fieldLink RX5 29 (TX5 11).1 (TX5 11).2.1 (TX5 11).2.2.1 ∈ q_tb := ch_2 _ (List.mem_of_getElem? (i := 27) rfl) rfl
theorem fl_5_29 : q_FL RX5 29 5 11 := ⟨by decide, RX5, TX5, 12, rfl, rfl, by decide, uX5, tb_390⟩
theorem fp_5_29 : q_FP RX5 29 5 11 (.object "MarbleBath$Program") := ⟨by decide, RX5, TX5, 12, tyX5, rfl, rfl, by decide, uX5, tb_390, tyX5_ok, nmX5, rfl, by decide +kernel⟩
theorem tb_386 : Cond.fieldLink RX5 36 (TX5 7).1 (TX5 7).2.1 (TX5 7).2.2.1 ∈ q_tb := ch_2 _ (List.mem_of_getElem? (i := 23) rfl) rfl
theorem fl_5_36 : q_FL RX5 36 5 7 := ⟨by decide, RX5, TX5, 12, rfl, rfl, by decide, uX5, tb_386⟩
theorem fp_5_36 : q_FP RX5 36 5 7 .int := ⟨by decide, RX5, TX5, 12, tyX5, rfl, rfl, by decide, uX5, tb_386, tyX5_ok, nmX5, rfl, by decide +kernel⟩
theorem tb_388 : Cond.fieldLink RX5 40 (TX5 9).1 (TX5 9).2.1 (TX5 9).2.2.1 ∈ q_tb := ch_2 _ (List.mem_of_getElem? (i := 25) rfl) rfl
theorem fl_5_40 : q_FL RX5 40 5 9 := ⟨by decide, RX5, TX5, 12, rfl, rfl, by decide, uX5, tb_388⟩
theorem fp_5_40 : q_FP RX5 40 5 9 .int := ⟨by decide, RX5, TX5, 12, tyX5, rfl, rfl, by decide, uX5, tb_388, tyX5_ok, nmX5, rfl, by decide +kernel⟩
theorem tb_383 : Cond.fieldLink RX5 47 (TX5 4).1 (TX5 4).2.1 (TX5 4).2.2.1 ∈ q_tb := ch_2 _ (List.mem_of_getElem? (i := 20) rfl) rfl
theorem fl_5_47 : q_FL RX5 47 5 4 := ⟨by decide, RX5, TX5, 12, rfl, rfl, by decide, uX5, tb_383⟩
theorem fp_5_47 : q_FP RX5 47 5 4 .int := ⟨by decide, RX5, TX5, 12, tyX5, rfl, rfl, by decide, uX5, tb_383, tyX5_ok, nmX5, rfl, by decide +kernel⟩
theorem tb_384 : Cond.fieldLink RX5 54 (TX5 5).1 (TX5 5).2.1 (TX5 5).2.2.1 ∈ q_tb := ch_2 _ (List.mem_of_getElem? (i := 21) rfl) rfl
theorem fl_5_54 : q_FL RX5 54 5 5 := ⟨by decide, RX5, TX5, 12, rfl, rfl, by decide, uX5, tb_384⟩
theorem fp_5_54 : q_FP RX5 54 5 5 .int := ⟨by decide, RX5, TX5, 12, tyX5, rfl, rfl, by decide, uX5, tb_384, tyX5_ok, nmX5, rfl, by decide +kernel⟩
theorem tb_385 : Cond.fieldLink RX5 60 (TX5 6).1 (TX5 6).2.1 (TX5 6).2.2.1 ∈ q_tb := ch_2 _ (List.mem_of_getElem? (i := 22) rfl) rfl
theorem fl_5_60 : q_FL RX5 60 5 6 := ⟨by decide, RX5, TX5, 12, rfl, rfl, by decide, uX5, tb_385⟩
theorem fp_5_60 : q_FP RX5 60 5 6 .int := ⟨by decide, RX5, TX5, 12, tyX5, rfl, rfl, by decide, uX5, tb_385, tyX5_ok, nmX5, rfl, by decide +kernel⟩
theorem tb_389 : Cond.fieldLink RX5 70 (TX5 10).1 (TX5 10).2.1 (TX5 10).2.2.1 ∈ q_tb := ch_2 _ (List.mem_of_getElem? (i := 26) rfl) rfl
theorem fl_5_70 : q_FL RX5 70 5 10 := ⟨by decide, RX5, TX5, 12, rfl, rfl, by decide, uX5, tb_389⟩
theorem fp_5_70 : q_FP RX5 70 5 10 .int := ⟨by decide, RX5, TX5, 12, tyX5, rfl, rfl, by decide, uX5, tb_389, tyX5_ok, nmX5, rfl, by decide +kernel⟩
theorem tb_387 : Cond.fieldLink RX5 73 (TX5 8).1 (TX5 8).2.1 (TX5 8).2.2.1 ∈ q_tb := ch_2 _ (List.mem_of_getElem? (i := 24) rfl) rfl
theorem fl_5_73 : q_FL RX5 73 5 8 := ⟨by decide, RX5, TX5, 12, rfl, rfl, by decide, uX5, tb_387⟩
theorem fp_5_73 : q_FP RX5 73 5 8 .int := ⟨by decide, RX5, TX5, 12, tyX5, rfl, rfl, by decide, uX5, tb_387, tyX5_ok, nmX5, rfl, by decide +kernel⟩
theorem tb_382 : Cond.fieldLink RX5 91 (TX5 3).1 (TX5 3).2.1 (TX5 3).2.2.1 ∈ q_tb := ch_2 _ (List.mem_of_getElem? (i := 19) rfl) rfl
theorem fl_5_91 : q_FL RX5 91 5 3 := ⟨by decide, RX5, TX5, 12, rfl, rfl, by decide, uX5, tb_382⟩
theorem fp_5_91 : q_FP RX5 91 5 3 .int := ⟨by decide, RX5, TX5, 12, tyX5, rfl, rfl, by decide, uX5, tb_382, tyX5_ok, nmX5, rfl, by decide +kernel⟩
theorem tb_176 : Cond.fieldLink RX6 11 (TX6 0).1 (TX6 0).2.1 (TX6 0).2.2.1 ∈ q_tb := ch_1 _ (List.mem_of_getElem? (i := 53) rfl) rfl
theorem fl_6_11 : q_FL RX6 11 6 0 := ⟨by decide, RX6, TX6, 4, rfl, rfl, by decide, uX6, tb_176⟩
theorem tb_177 : Cond.fieldLink RX6 15 (TX6 1).1 (TX6 1).2.1 (TX6 1).2.2.1 ∈ q_tb := ch_1 _ (List.mem_of_getElem? (i := 54) rfl) rfl
theorem fl_6_15 : q_FL RX6 15 6 1 := ⟨by decide, RX6, TX6, 4, rfl, rfl, by decide, uX6, tb_177⟩
theorem tb_179 : Cond.fieldLink RX6 18 (TX6 3).1 (TX6 3).2.1 (TX6 3).2.2.1 ∈ q_tb := ch_1 _ (List.mem_of_getElem? (i := 56) rfl) rfl
theorem fl_6_18 : q_FL RX6 18 6 3 := ⟨by decide, RX6, TX6, 4, rfl, rfl, by decide, uX6, tb_179⟩
theorem fp_6_18 : q_FP RX6 18 6 3 .int := ⟨by decide, RX6, TX6, 4, tyX6, rfl, rfl, by decide, uX6, tb_179, tyX6_ok, nmX6, rfl, by decide +kernel⟩
theorem tb_178 : Cond.fieldLink RX6 22 (TX6 2).1 (TX6 2).2.1 (TX6 2).2.2.1 ∈ q_tb := ch_1 _ (List.mem_of_getElem? (i := 55) rfl) rfl
theorem fl_6_22 : q_FL RX6 22 6 2 := ⟨by decide, RX6, TX6, 4, rfl, rfl, by decide, uX6, tb_178⟩
theorem fp_6_22 : q_FP RX6 22 6 2 .int := ⟨by decide, RX6, TX6, 4, tyX6, rfl, rfl, by decide, uX6, tb_178, tyX6_ok, nmX6, rfl, by decide +kernel⟩
theorem tb_359 : Cond.fieldLink RX7 9 (TX7 0).1 (TX7 0).2.1 (TX7 0).2.2.1 ∈ q_tb := ch_1 _ (List.mem_of_getElem? (i := 236) rfl) rfl
theorem fl_7_9 : q_FL RX7 9 7 0 := ⟨by decide, RX7, TX7, 6, rfl, rfl, by decide, uX7, tb_359⟩
theorem tb_360 : Cond.fieldLink RX7 13 (TX7 1).1 (TX7 1).2.1 (TX7 1).2.2.1 ∈ q_tb := ch_1 _ (List.mem_of_getElem? (i := 237) rfl) rfl
theorem fl_7_13 : q_FL RX7 13 7 1 := ⟨by decide, RX7, TX7, 6, rfl, rfl, by decide, uX7, tb_360⟩
theorem tb_361 : Cond.fieldLink RX7 17 (TX7 2).1 (TX7 2).2.1 (TX7 2).2.2.1 ∈ q_tb := ch_1 _ (List.mem_of_getElem? (i := 238) rfl) rfl
theorem fl_7_17 : q_FL RX7 17 7 2 := ⟨by decide, RX7, TX7, 6, rfl, rfl, by decide, uX7, tb_361⟩
theorem tb_362 : Cond.fieldLink RX7 20 (TX7 3).1 (TX7 3).2.1 (TX7 3).2.2.1 ∈ q_tb := ch_1 _ (List.mem_of_getElem? (i := 239) rfl) rfl
theorem fl_7_20 : q_FL RX7 20 7 3 := ⟨by decide, RX7, TX7, 6, rfl, rfl, by decide, uX7, tb_362⟩
theorem tb_363 : Cond.fieldLink RX7 35 (TX7 4).1 (TX7 4).2.1 (TX7 4).2.2.1 ∈ q_tb := ch_2 _ (List.mem_of_getElem? (i := 0) rfl) rfl
theorem fl_7_35 : q_FL RX7 35 7 4 := ⟨by decide, RX7, TX7, 6, rfl, rfl, by decide, uX7, tb_363⟩
theorem fp_7_35 : q_FP RX7 35 7 4 .int := ⟨by decide, RX7, TX7, 6, tyX7, rfl, rfl, by decide, uX7, tb_363, tyX7_ok, nmX7, rfl, by decide +kernel⟩
theorem tb_364 : Cond.fieldLink RX7 47 (TX7 5).1 (TX7 5).2.1 (TX7 5).2.2.1 ∈ q_tb := ch_2 _ (List.mem_of_getElem? (i := 1) rfl) rfl
theorem fl_7_47 : q_FL RX7 47 7 5 := ⟨by decide, RX7, TX7, 6, rfl, rfl, by decide, uX7, tb_364⟩
theorem fp_7_47 : q_FP RX7 47 7 5 .long := ⟨by decide, RX7, TX7, 6, tyX7, rfl, rfl, by decide, uX7, tb_364, tyX7_ok, nmX7, rfl, by decide +kernel⟩
theorem tb_248 : Cond.fieldLink RX8 11 (TX8 0).1 (TX8 0).2.1 (TX8 0).2.2.1 ∈ q_tb := ch_1 _ (List.mem_of_getElem? (i := 125) rfl) rfl
theorem fl_8_11 : q_FL RX8 11 8 0 := ⟨by decide, RX8, TX8, 9, rfl, rfl, by decide, uX8, tb_248⟩
theorem tb_249 : Cond.fieldLink RX8 15 (TX8 1).1 (TX8 1).2.1 (TX8 1).2.2.1 ∈ q_tb := ch_1 _ (List.mem_of_getElem? (i := 126) rfl) rfl
theorem fl_8_15 : q_FL RX8 15 8 1 := ⟨by decide, RX8, TX8, 9, rfl, rfl, by decide, uX8, tb_249⟩
theorem tb_250 : Cond.fieldLink RX8 18 (TX8 2).1 (TX8 2).2.1 (TX8 2).2.2.1 ∈ q_tb := ch_1 _ (List.mem_of_getElem? (i := 127) rfl) rfl
theorem fl_8_18 : q_FL RX8 18 8 2 := ⟨by decide, RX8, TX8, 9, rfl, rfl, by decide, uX8, tb_250⟩
theorem tb_255 : Cond.fieldLink RX8 22 (TX8 7).1 (TX8 7).2.1 (TX8 7).2.2.1 ∈ q_tb := ch_1 _ (List.mem_of_getElem? (i := 132) rfl) rfl
theorem fl_8_22 : q_FL RX8 22 8 7 := ⟨by decide, RX8, TX8, 9, rfl, rfl, by decide, uX8, tb_255⟩
theorem fp_8_22 : q_FP RX8 22 8 7 .int := ⟨by decide, RX8, TX8, 9, tyX8, rfl, rfl, by decide, uX8, tb_255, tyX8_ok, nmX8, rfl, by decide +kernel⟩
theorem tb_256 : Cond.fieldLink RX8 26 (TX8 8).1 (TX8 8).2.1 (TX8 8).2.2.1 ∈ q_tb := ch_1 _ (List.mem_of_getElem? (i := 133) rfl) rfl
theorem fl_8_26 : q_FL RX8 26 8 8 := ⟨by decide, RX8, TX8, 9, rfl, rfl, by decide, uX8, tb_256⟩
theorem fp_8_26 : q_FP RX8 26 8 8 .int := ⟨by decide, RX8, TX8, 9, tyX8, rfl, rfl, by decide, uX8, tb_256, tyX8_ok, nmX8, rfl, by decide +kernel⟩
theorem tb_254 : Cond.fieldLink RX8 29 (TX8 6).1 (TX8 6).2.1 (TX8 6).2.2.1 ∈ q_tb := ch_1 _ (List.mem_of_getElem? (i := 131) rfl) rfl
theorem fl_8_29 : q_FL RX8 29 8 6 := ⟨by decide, RX8, TX8, 9, rfl, rfl, by decide, uX8, tb_254⟩
theorem fp_8_29 : q_FP RX8 29 8 6 .int := ⟨by decide, RX8, TX8, 9, tyX8, rfl, rfl, by decide, uX8, tb_254, tyX8_ok, nmX8, rfl, by decide +kernel⟩
theorem tb_252 : Cond.fieldLink RX8 62 (TX8 4).1 (TX8 4).2.1 (TX8 4).2.2.1 ∈ q_tb := ch_1 _ (List.mem_of_getElem? (i := 129) rfl) rfl
theorem fl_8_62 : q_FL RX8 62 8 4 := ⟨by decide, RX8, TX8, 9, rfl, rfl, by decide, uX8, tb_252⟩
theorem fp_8_62 : q_FP RX8 62 8 4 .int := ⟨by decide, RX8, TX8, 9, tyX8, rfl, rfl, by decide, uX8, tb_252, tyX8_ok, nmX8, rfl, by decide +kernel⟩
theorem tb_253 : Cond.fieldLink RX8 65 (TX8 5).1 (TX8 5).2.1 (TX8 5).2.2.1 ∈ q_tb := ch_1 _ (List.mem_of_getElem? (i := 130) rfl) rfl
theorem fl_8_65 : q_FL RX8 65 8 5 := ⟨by decide, RX8, TX8, 9, rfl, rfl, by decide, uX8, tb_253⟩
theorem fp_8_65 : q_FP RX8 65 8 5 .int := ⟨by decide, RX8, TX8, 9, tyX8, rfl, rfl, by decide, uX8, tb_253, tyX8_ok, nmX8, rfl, by decide +kernel⟩
theorem tb_251 : Cond.fieldLink RX8 74 (TX8 3).1 (TX8 3).2.1 (TX8 3).2.2.1 ∈ q_tb := ch_1 _ (List.mem_of_getElem? (i := 128) rfl) rfl
theorem fl_8_74 : q_FL RX8 74 8 3 := ⟨by decide, RX8, TX8, 9, rfl, rfl, by decide, uX8, tb_251⟩
theorem fp_8_74 : q_FP RX8 74 8 3 .int := ⟨by decide, RX8, TX8, 9, tyX8, rfl, rfl, by decide, uX8, tb_251, tyX8_ok, nmX8, rfl, by decide +kernel⟩
theorem tb_156 : Cond.fieldLink RX9 11 (TX9 0).1 (TX9 0).2.1 (TX9 0).2.2.1 ∈ q_tb := ch_1 _ (List.mem_of_getElem? (i := 33) rfl) rfl
theorem fl_9_11 : q_FL RX9 11 9 0 := ⟨by decide, RX9, TX9, 2, rfl, rfl, by decide, uX9, tb_156⟩
theorem tb_157 : Cond.fieldLink RX9 15 (TX9 1).1 (TX9 1).2.1 (TX9 1).2.2.1 ∈ q_tb := ch_1 _ (List.mem_of_getElem? (i := 34) rfl) rfl
theorem fl_9_15 : q_FL RX9 15 9 1 := ⟨by decide, RX9, TX9, 2, rfl, rfl, by decide, uX9, tb_157⟩
theorem fp_9_15 : q_FP RX9 15 9 1 .int := ⟨by decide, RX9, TX9, 2, tyX9, rfl, rfl, by decide, uX9, tb_157, tyX9_ok, nmX9, rfl, by decide +kernel⟩
theorem tb_1408 : Cond.fieldLink RX11 13 (TX11 1).1 (TX11 1).2.1 (TX11 1).2.2.1 ∈ q_tb := ch_6 _ (List.mem_of_getElem? (i := 85) rfl) rfl
theorem fl_11_13 : q_FL RX11 13 11 1 := ⟨by decide, RX11, TX11, 73, rfl, rfl, by decide, uX11, tb_1408⟩
theorem tb_1410 : Cond.fieldLink RX11 17 (TX11 3).1 (TX11 3).2.1 (TX11 3).2.2.1 ∈ q_tb := ch_6 _ (List.mem_of_getElem? (i := 87) rfl) rfl
theorem fl_11_17 : q_FL RX11 17 11 3 := ⟨by decide, RX11, TX11, 73, rfl, rfl, by decide, uX11, tb_1410⟩
theorem tb_1412 : Cond.fieldLink RX11 20 (TX11 5).1 (TX11 5).2.1 (TX11 5).2.2.1 ∈ q_tb := ch_6 _ (List.mem_of_getElem? (i := 89) rfl) rfl
theorem fl_11_20 : q_FL RX11 20 11 5 := ⟨by decide, RX11, TX11, 73, rfl, rfl, by decide, uX11, tb_1412⟩
theorem tb_1413 : Cond.fieldLink RX11 24 (TX11 6).1 (TX11 6).2.1 (TX11 6).2.2.1 ∈ q_tb := ch_6 _ (List.mem_of_getElem? (i := 90) rfl) rfl
theorem fl_11_24 : q_FL RX11 24 11 6 := ⟨by decide, RX11, TX11, 73, rfl, rfl, by decide, uX11, tb_1413⟩
theorem tb_1414 : Cond.fieldLink RX11 27 (TX11 7).1 (TX11 7).2.1 (TX11 7).2.2.1 ∈ q_tb := ch_6 _ (List.mem_of_getElem? (i := 91) rfl) rfl
theorem fl_11_27 : q_FL RX11 27 11 7 := ⟨by decide, RX11, TX11, 73, rfl, rfl, by decide, uX11, tb_1414⟩
theorem tb_1415 : Cond.fieldLink RX11 30 (TX11 8).1 (TX11 8).2.1 (TX11 8).2.2.1 ∈ q_tb := ch_6 _ (List.mem_of_getElem? (i := 92) rfl) rfl
theorem fl_11_30 : q_FL RX11 30 11 8 := ⟨by decide, RX11, TX11, 73, rfl, rfl, by decide, uX11, tb_1415⟩
theorem tb_1416 : Cond.fieldLink RX11 34 (TX11 9).1 (TX11 9).2.1 (TX11 9).2.2.1 ∈ q_tb := ch_6 _ (List.mem_of_getElem? (i := 93) rfl) rfl
theorem fl_11_34 : q_FL RX11 34 11 9 := ⟨by decide, RX11, TX11, 73, rfl, rfl, by decide, uX11, tb_1416⟩
theorem tb_1424 : Cond.fieldLink RX11 37 (TX11 17).1 (TX11 17).2.1 (TX11 17).2.2.1 ∈ q_tb := ch_6 _ (List.mem_of_getElem? (i := 101) rfl) rfl
theorem fl_11_37 : q_FL RX11 37 11 17 := ⟨by decide, RX11, TX11, 73, rfl, rfl, by decide, uX11, tb_1424⟩
theorem fp_11_37 : q_FP RX11 37 11 17 .int := ⟨by decide, RX11, TX11, 73, tyX11, rfl, rfl, by decide, uX11, tb_1424, tyX11_ok, nmX11, rfl, by decide +kernel⟩
theorem tb_1427 : Cond.fieldLink RX11 40 (TX11 20).1 (TX11 20).2.1 (TX11 20).2.2.1 ∈ q_tb := ch_6 _ (List.mem_of_getElem? (i := 104) rfl) rfl
theorem fl_11_40 : q_FL RX11 40 11 20 := ⟨by decide, RX11, TX11, 73, rfl, rfl, by decide, uX11, tb_1427⟩
theorem tb_1428 : Cond.fieldLink RX11 43 (TX11 21).1 (TX11 21).2.1 (TX11 21).2.2.1 ∈ q_tb := ch_6 _ (List.mem_of_getElem? (i := 105) rfl) rfl
theorem fl_11_43 : q_FL RX11 43 11 21 := ⟨by decide, RX11, TX11, 73, rfl, rfl, by decide, uX11, tb_1428⟩
theorem tb_1429 : Cond.fieldLink RX11 46 (TX11 22).1 (TX11 22).2.1 (TX11 22).2.2.1 ∈ q_tb := ch_6 _ (List.mem_of_getElem? (i := 106) rfl) rfl
theorem fl_11_46 : q_FL RX11 46 11 22 := ⟨by decide, RX11, TX11, 73, rfl, rfl, by decide, uX11, tb_1429⟩
theorem tb_1430 : Cond.fieldLink RX11 49 (TX11 23).1 (TX11 23).2.1 (TX11 23).2.2.1 ∈ q_tb := ch_6 _ (List.mem_of_getElem? (i := 107) rfl) rfl
theorem fl_11_49 : q_FL RX11 49 11 23 := ⟨by decide, RX11, TX11, 73, rfl, rfl, by decide, uX11, tb_1430⟩
theorem tb_1432 : Cond.fieldLink RX11 52 (TX11 25).1 (TX11 25).2.1 (TX11 25).2.2.1 ∈ q_tb := ch_6 _ (List.mem_of_getElem? (i := 109) rfl) rfl
theorem fl_11_52 : q_FL RX11 52 11 25 := ⟨by decide, RX11, TX11, 73, rfl, rfl, by decide, uX11, tb_1432⟩
theorem tb_1433 : Cond.fieldLink RX11 55 (TX11 26).1 (TX11 26).2.1 (TX11 26).2.2.1 ∈ q_tb := ch_6 _ (List.mem_of_getElem? (i := 110) rfl) rfl
theorem fl_11_55 : q_FL RX11 55 11 26 := ⟨by decide, RX11, TX11, 73, rfl, rfl, by decide, uX11, tb_1433⟩
theorem tb_1434 : Cond.fieldLink RX11 58 (TX11 27).1 (TX11 27).2.1 (TX11 27).2.2.1 ∈ q_tb := ch_6 _ (List.mem_of_getElem? (i := 111) rfl) rfl
theorem fl_11_58 : q_FL RX11 58 11 27 := ⟨by decide, RX11, TX11, 73, rfl, rfl, by decide, uX11, tb_1434⟩
theorem tb_1436 : Cond.fieldLink RX11 61 (TX11 29).1 (TX11 29).2.1 (TX11 29).2.2.1 ∈ q_tb := ch_6 _ (List.mem_of_getElem? (i := 113) rfl) rfl
theorem fl_11_61 : q_FL RX11 61 11 29 := ⟨by decide, RX11, TX11, 73, rfl, rfl, by decide, uX11, tb_1436⟩
theorem tb_1438 : Cond.fieldLink RX11 64 (TX11 31).1 (TX11 31).2.1 (TX11 31).2.2.1 ∈ q_tb := ch_6 _ (List.mem_of_getElem? (i := 115) rfl) rfl
theorem fl_11_64 : q_FL RX11 64 11 31 := ⟨by decide, RX11, TX11, 73, rfl, rfl, by decide, uX11, tb_1438⟩
theorem tb_1439 : Cond.fieldLink RX11 67 (TX11 32).1 (TX11 32).2.1 (TX11 32).2.2.1 ∈ q_tb := ch_6 _ (List.mem_of_getElem? (i := 116) rfl) rfl
theorem fl_11_67 : q_FL RX11 67 11 32 := ⟨by decide, RX11, TX11, 73, rfl, rfl, by decide, uX11, tb_1439⟩
theorem tb_1440 : Cond.fieldLink RX11 70 (TX11 33).1 (TX11 33).2.1 (TX11 33).2.2.1 ∈ q_tb := ch_6 _ (List.mem_of_getElem? (i := 117) rfl) rfl
theorem fl_11_70 : q_FL RX11 70 11 33 := ⟨by decide, RX11, TX11, 73, rfl, rfl, by decide, uX11, tb_1440⟩
theorem tb_1441 : Cond.fieldLink RX11 73 (TX11 34).1 (TX11 34).2.1 (TX11 34).2.2.1 ∈ q_tb := ch_6 _ (List.mem_of_getElem? (i := 118) rfl) rfl
theorem fl_11_73 : q_FL RX11 73 11 34 := ⟨by decide, RX11, TX11, 73, rfl, rfl, by decide, uX11, tb_1441⟩
theorem tb_1444 : Cond.fieldLink RX11 76 (TX11 37).1 (TX11 37).2.1 (TX11 37).2.2.1 ∈ q_tb := ch_6 _ (List.mem_of_getElem? (i := 121) rfl) rfl
theorem fl_11_76 : q_FL RX11 76 11 37 := ⟨by decide, RX11, TX11, 73, rfl, rfl, by decide, uX11, tb_1444⟩
theorem tb_1449 : Cond.fieldLink RX11 79 (TX11 42).1 (TX11 42).2.1 (TX11 42).2.2.1 ∈ q_tb := ch_6 _ (List.mem_of_getElem? (i := 126) rfl) rfl
theorem fl_11_79 : q_FL RX11 79 11 42 := ⟨by decide, RX11, TX11, 73, rfl, rfl, by decide, uX11, tb_1449⟩
theorem tb_1450 : Cond.fieldLink RX11 82 (TX11 43).1 (TX11 43).2.1 (TX11 43).2.2.1 ∈ q_tb := ch_6 _ (List.mem_of_getElem? (i := 127) rfl) rfl
theorem fl_11_82 : q_FL RX11 82 11 43 := ⟨by decide, RX11, TX11, 73, rfl, rfl, by decide, uX11, tb_1450⟩
theorem tb_1452 : Cond.fieldLink RX11 85 (TX11 45).1 (TX11 45).2.1 (TX11 45).2.2.1 ∈ q_tb := ch_6 _ (List.mem_of_getElem? (i := 129) rfl) rfl
theorem fl_11_85 : q_FL RX11 85 11 45 := ⟨by decide, RX11, TX11, 73, rfl, rfl, by decide, uX11, tb_1452⟩
theorem tb_1453 : Cond.fieldLink RX11 88 (TX11 46).1 (TX11 46).2.1 (TX11 46).2.2.1 ∈ q_tb := ch_6 _ (List.mem_of_getElem? (i := 130) rfl) rfl
theorem fl_11_88 : q_FL RX11 88 11 46 := ⟨by decide, RX11, TX11, 73, rfl, rfl, by decide, uX11, tb_1453⟩
theorem tb_1454 : Cond.fieldLink RX11 91 (TX11 47).1 (TX11 47).2.1 (TX11 47).2.2.1 ∈ q_tb := ch_6 _ (List.mem_of_getElem? (i := 131) rfl) rfl
theorem fl_11_91 : q_FL RX11 91 11 47 := ⟨by decide, RX11, TX11, 73, rfl, rfl, by decide, uX11, tb_1454⟩
theorem tb_1456 : Cond.fieldLink RX11 94 (TX11 49).1 (TX11 49).2.1 (TX11 49).2.2.1 ∈ q_tb := ch_6 _ (List.mem_of_getElem? (i := 133) rfl) rfl
theorem fl_11_94 : q_FL RX11 94 11 49 := ⟨by decide, RX11, TX11, 73, rfl, rfl, by decide, uX11, tb_1456⟩
theorem tb_1458 : Cond.fieldLink RX11 97 (TX11 51).1 (TX11 51).2.1 (TX11 51).2.2.1 ∈ q_tb := ch_6 _ (List.mem_of_getElem? (i := 135) rfl) rfl
theorem fl_11_97 : q_FL RX11 97 11 51 := ⟨by decide, RX11, TX11, 73, rfl, rfl, by decide, uX11, tb_1458⟩
theorem tb_1459 : Cond.fieldLink RX11 100 (TX11 52).1 (TX11 52).2.1 (TX11 52).2.2.1 ∈ q_tb := ch_6 _ (List.mem_of_getElem? (i := 136) rfl) rfl
theorem fl_11_100 : q_FL RX11 100 11 52 := ⟨by decide, RX11, TX11, 73, rfl, rfl, by decide, uX11, tb_1459⟩
theorem tb_1461 : Cond.fieldLink RX11 103 (TX11 54).1 (TX11 54).2.1 (TX11 54).2.2.1 ∈ q_tb := ch_6 _ (List.mem_of_getElem? (i := 138) rfl) rfl
theorem fl_11_103 : q_FL RX11 103 11 54 := ⟨by decide, RX11, TX11, 73, rfl, rfl, by decide, uX11, tb_1461⟩
theorem fp_11_103 : q_FP RX11 103 11 54 .int := ⟨by decide, RX11, TX11, 73, tyX11, rfl, rfl, by decide, uX11, tb_1461, tyX11_ok, nmX11, rfl, by decide +kernel⟩
theorem tb_1464 : Cond.fieldLink RX11 106 (TX11 57).1 (TX11 57).2.1 (TX11 57).2.2.1 ∈ q_tb := ch_6 _ (List.mem_of_getElem? (i := 141) rfl) rfl
theorem fl_11_106 : q_FL RX11 106 11 57 := ⟨by decide, RX11, TX11, 73, rfl, rfl, by decide, uX11, tb_1464⟩
theorem tb_1465 : Cond.fieldLink RX11 109 (TX11 58).1 (TX11 58).2.1 (TX11 58).2.2.1 ∈ q_tb := ch_6 _ (List.mem_of_getElem? (i := 142) rfl) rfl
theorem fl_11_109 : q_FL RX11 109 11 58 := ⟨by decide, RX11, TX11, 73, rfl, rfl, by decide, uX11, tb_1465⟩
theorem tb_1466 : Cond.fieldLink RX11 112 (TX11 59).1 (TX11 59).2.1 (TX11 59).2.2.1 ∈ q_tb := ch_6 _ (List.mem_of_getElem? (i := 143) rfl) rfl
theorem fl_11_112 : q_FL RX11 112 11 59 := ⟨by decide, RX11, TX11, 73, rfl, rfl, by decide, uX11, tb_1466⟩
theorem tb_1470 : Cond.fieldLink RX11 115 (TX11 63).1 (TX11 63).2.1 (TX11 63).2.2.1 ∈ q_tb := ch_6 _ (List.mem_of_getElem? (i := 147) rfl) rfl
theorem fl_11_115 : q_FL RX11 115 11 63 := ⟨by decide, RX11, TX11, 73, rfl, rfl, by decide, uX11, tb_1470⟩
theorem tb_1473 : Cond.fieldLink RX11 118 (TX11 66).1 (TX11 66).2.1 (TX11 66).2.2.1 ∈ q_tb := ch_6 _ (List.mem_of_getElem? (i := 150) rfl) rfl
theorem fl_11_118 : q_FL RX11 118 11 66 := ⟨by decide, RX11, TX11, 73, rfl, rfl, by decide, uX11, tb_1473⟩
theorem tb_1474 : Cond.fieldLink RX11 122 (TX11 67).1 (TX11 67).2.1 (TX11 67).2.2.1 ∈ q_tb := ch_6 _ (List.mem_of_getElem? (i := 151) rfl) rfl
theorem fl_11_122 : q_FL RX11 122 11 67 := ⟨by decide, RX11, TX11, 73, rfl, rfl, by decide, uX11, tb_1474⟩
theorem tb_1478 : Cond.fieldLink RX11 125 (TX11 71).1 (TX11 71).2.1 (TX11 71).2.2.1 ∈ q_tb := ch_6 _ (List.mem_of_getElem? (i := 155) rfl) rfl
theorem fl_11_125 : q_FL RX11 125 11 71 := ⟨by decide, RX11, TX11, 73, rfl, rfl, by decide, uX11, tb_1478⟩
theorem tb_1479 : Cond.fieldLink RX11 128 (TX11 72).1 (TX11 72).2.1 (TX11 72).2.2.1 ∈ q_tb := ch_6 _ (List.mem_of_getElem? (i := 156) rfl) rfl
theorem fl_11_128 : q_FL RX11 128 11 72 := ⟨by decide, RX11, TX11, 73, rfl, rfl, by decide, uX11, tb_1479⟩
theorem tb_1409 : Cond.fieldLink RX11 135 (TX11 2).1 (TX11 2).2.1 (TX11 2).2.2.1 ∈ q_tb := ch_6 _ (List.mem_of_getElem? (i := 86) rfl) rfl
theorem fl_11_135 : q_FL RX11 135 11 2 := ⟨by decide, RX11, TX11, 73, rfl, rfl, by decide, uX11, tb_1409⟩
theorem fp_11_135 : q_FP RX11 135 11 2 .int := ⟨by decide, RX11, TX11, 73, tyX11, rfl, rfl, by decide, uX11, tb_1409, tyX11_ok, nmX11, rfl, by decide +kernel⟩
theorem tb_1411 : Cond.fieldLink RX11 142 (TX11 4).1 (TX11 4).2.1 (TX11 4).2.2.1 ∈ q_tb := ch_6 _ (List.mem_of_getElem? (i := 88) rfl) rfl
theorem fl_11_142 : q_FL RX11 142 11 4 := ⟨by decide, RX11, TX11, 73, rfl, rfl, by decide, uX11, tb_1411⟩
theorem fp_11_142 : q_FP RX11 142 11 4 .int := ⟨by decide, RX11, TX11, 73, tyX11, rfl, rfl, by decide, uX11, tb_1411, tyX11_ok, nmX11, rfl, by decide +kernel⟩
theorem tb_1417 : Cond.fieldLink RX11 151 (TX11 10).1 (TX11 10).2.1 (TX11 10).2.2.1 ∈ q_tb := ch_6 _ (List.mem_of_getElem? (i := 94) rfl) rfl
theorem fl_11_151 : q_FL RX11 151 11 10 := ⟨by decide, RX11, TX11, 73, rfl, rfl, by decide, uX11, tb_1417⟩
theorem fp_11_151 : q_FP RX11 151 11 10 .int := ⟨by decide, RX11, TX11, 73, tyX11, rfl, rfl, by decide, uX11, tb_1417, tyX11_ok, nmX11, rfl, by decide +kernel⟩
theorem tb_1420 : Cond.fieldLink RX11 173 (TX11 13).1 (TX11 13).2.1 (TX11 13).2.2.1 ∈ q_tb := ch_6 _ (List.mem_of_getElem? (i := 97) rfl) rfl
theorem fl_11_173 : q_FL RX11 173 11 13 := ⟨by decide, RX11, TX11, 73, rfl, rfl, by decide, uX11, tb_1420⟩
theorem fp_11_173 : q_FP RX11 173 11 13 .int := ⟨by decide, RX11, TX11, 73, tyX11, rfl, rfl, by decide, uX11, tb_1420, tyX11_ok, nmX11, rfl, by decide +kernel⟩
theorem tb_1418 : Cond.fieldLink RX11 176 (TX11 11).1 (TX11 11).2.1 (TX11 11).2.2.1 ∈ q_tb := ch_6 _ (List.mem_of_getElem? (i := 95) rfl) rfl
theorem fl_11_176 : q_FL RX11 176 11 11 := ⟨by decide, RX11, TX11, 73, rfl, rfl, by decide, uX11, tb_1418⟩
theorem fp_11_176 : q_FP RX11 176 11 11 .int := ⟨by decide, RX11, TX11, 73, tyX11, rfl, rfl, by decide, uX11, tb_1418, tyX11_ok, nmX11, rfl, by decide +kernel⟩
theorem tb_1421 : Cond.fieldLink RX11 179 (TX11 14).1 (TX11 14).2.1 (TX11 14).2.2.1 ∈ q_tb := ch_6 _ (List.mem_of_getElem? (i := 98) rfl) rfl
theorem fl_11_179 : q_FL RX11 179 11 14 := ⟨by decide, RX11, TX11, 73, rfl, rfl, by decide, uX11, tb_1421⟩
theorem fp_11_179 : q_FP RX11 179 11 14 .int := ⟨by decide, RX11, TX11, 73, tyX11, rfl, rfl, by decide, uX11, tb_1421, tyX11_ok, nmX11, rfl, by decide +kernel⟩
theorem tb_1422 : Cond.fieldLink RX11 182 (TX11 15).1 (TX11 15).2.1 (TX11 15).2.2.1 ∈ q_tb := ch_6 _ (List.mem_of_getElem? (i := 99) rfl) rfl
theorem fl_11_182 : q_FL RX11 182 11 15 := ⟨by decide, RX11, TX11, 73, rfl, rfl, by decide, uX11, tb_1422⟩
theorem fp_11_182 : q_FP RX11 182 11 15 .int := ⟨by decide, RX11, TX11, 73, tyX11, rfl, rfl, by decide, uX11, tb_1422, tyX11_ok, nmX11, rfl, by decide +kernel⟩
theorem tb_1423 : Cond.fieldLink RX11 185 (TX11 16).1 (TX11 16).2.1 (TX11 16).2.2.1 ∈ q_tb := ch_6 _ (List.mem_of_getElem? (i := 100) rfl) rfl
theorem fl_11_185 : q_FL RX11 185 11 16 := ⟨by decide, RX11, TX11, 73, rfl, rfl, by decide, uX11, tb_1423⟩
theorem fp_11_185 : q_FP RX11 185 11 16 .int := ⟨by decide, RX11, TX11, 73, tyX11, rfl, rfl, by decide, uX11, tb_1423, tyX11_ok, nmX11, rfl, by decide +kernel⟩
theorem tb_1419 : Cond.fieldLink RX11 200 (TX11 12).1 (TX11 12).2.1 (TX11 12).2.2.1 ∈ q_tb := ch_6 _ (List.mem_of_getElem? (i := 96) rfl) rfl
theorem fl_11_200 : q_FL RX11 200 11 12 := ⟨by decide, RX11, TX11, 73, rfl, rfl, by decide, uX11, tb_1419⟩
theorem fp_11_200 : q_FP RX11 200 11 12 .int := ⟨by decide, RX11, TX11, 73, tyX11, rfl, rfl, by decide, uX11, tb_1419, tyX11_ok, nmX11, rfl, by decide +kernel⟩
theorem tb_1445 : Cond.fieldLink RX11 203 (TX11 38).1 (TX11 38).2.1 (TX11 38).2.2.1 ∈ q_tb := ch_6 _ (List.mem_of_getElem? (i := 122) rfl) rfl
theorem fl_11_203 : q_FL RX11 203 11 38 := ⟨by decide, RX11, TX11, 73, rfl, rfl, by decide, uX11, tb_1445⟩
theorem fp_11_203 : q_FP RX11 203 11 38 .int := ⟨by decide, RX11, TX11, 73, tyX11, rfl, rfl, by decide, uX11, tb_1445, tyX11_ok, nmX11, rfl, by decide +kernel⟩
theorem tb_1425 : Cond.fieldLink RX11 206 (TX11 18).1 (TX11 18).2.1 (TX11 18).2.2.1 ∈ q_tb := ch_6 _ (List.mem_of_getElem? (i := 102) rfl) rfl
theorem fl_11_206 : q_FL RX11 206 11 18 := ⟨by decide, RX11, TX11, 73, rfl, rfl, by decide, uX11, tb_1425⟩
theorem fp_11_206 : q_FP RX11 206 11 18 .int := ⟨by decide, RX11, TX11, 73, tyX11, rfl, rfl, by decide, uX11, tb_1425, tyX11_ok, nmX11, rfl, by decide +kernel⟩
theorem tb_1426 : Cond.fieldLink RX11 209 (TX11 19).1 (TX11 19).2.1 (TX11 19).2.2.1 ∈ q_tb := ch_6 _ (List.mem_of_getElem? (i := 103) rfl) rfl
theorem fl_11_209 : q_FL RX11 209 11 19 := ⟨by decide, RX11, TX11, 73, rfl, rfl, by decide, uX11, tb_1426⟩
theorem fp_11_209 : q_FP RX11 209 11 19 .int := ⟨by decide, RX11, TX11, 73, tyX11, rfl, rfl, by decide, uX11, tb_1426, tyX11_ok, nmX11, rfl, by decide +kernel⟩
theorem tb_1431 : Cond.fieldLink RX11 212 (TX11 24).1 (TX11 24).2.1 (TX11 24).2.2.1 ∈ q_tb := ch_6 _ (List.mem_of_getElem? (i := 108) rfl) rfl
theorem fl_11_212 : q_FL RX11 212 11 24 := ⟨by decide, RX11, TX11, 73, rfl, rfl, by decide, uX11, tb_1431⟩
theorem fp_11_212 : q_FP RX11 212 11 24 .int := ⟨by decide, RX11, TX11, 73, tyX11, rfl, rfl, by decide, uX11, tb_1431, tyX11_ok, nmX11, rfl, by decide +kernel⟩
theorem tb_1435 : Cond.fieldLink RX11 218 (TX11 28).1 (TX11 28).2.1 (TX11 28).2.2.1 ∈ q_tb := ch_6 _ (List.mem_of_getElem? (i := 112) rfl) rfl
theorem fl_11_218 : q_FL RX11 218 11 28 := ⟨by decide, RX11, TX11, 73, rfl, rfl, by decide, uX11, tb_1435⟩
theorem fp_11_218 : q_FP RX11 218 11 28 .int := ⟨by decide, RX11, TX11, 73, tyX11, rfl, rfl, by decide, uX11, tb_1435, tyX11_ok, nmX11, rfl, by decide +kernel⟩
theorem tb_1437 : Cond.fieldLink RX11 231 (TX11 30).1 (TX11 30).2.1 (TX11 30).2.2.1 ∈ q_tb := ch_6 _ (List.mem_of_getElem? (i := 114) rfl) rfl
theorem fl_11_231 : q_FL RX11 231 11 30 := ⟨by decide, RX11, TX11, 73, rfl, rfl, by decide, uX11, tb_1437⟩
theorem fp_11_231 : q_FP RX11 231 11 30 .int := ⟨by decide, RX11, TX11, 73, tyX11, rfl, rfl, by decide, uX11, tb_1437, tyX11_ok, nmX11, rfl, by decide +kernel⟩
theorem tb_1443 : Cond.fieldLink RX11 265 (TX11 36).1 (TX11 36).2.1 (TX11 36).2.2.1 ∈ q_tb := ch_6 _ (List.mem_of_getElem? (i := 120) rfl) rfl
theorem fl_11_265 : q_FL RX11 265 11 36 := ⟨by decide, RX11, TX11, 73, rfl, rfl, by decide, uX11, tb_1443⟩
theorem fp_11_265 : q_FP RX11 265 11 36 .int := ⟨by decide, RX11, TX11, 73, tyX11, rfl, rfl, by decide, uX11, tb_1443, tyX11_ok, nmX11, rfl, by decide +kernel⟩
theorem tb_1442 : Cond.fieldLink RX11 268 (TX11 35).1 (TX11 35).2.1 (TX11 35).2.2.1 ∈ q_tb := ch_6 _ (List.mem_of_getElem? (i := 119) rfl) rfl
theorem fl_11_268 : q_FL RX11 268 11 35 := ⟨by decide, RX11, TX11, 73, rfl, rfl, by decide, uX11, tb_1442⟩
theorem fp_11_268 : q_FP RX11 268 11 35 .int := ⟨by decide, RX11, TX11, 73, tyX11, rfl, rfl, by decide, uX11, tb_1442, tyX11_ok, nmX11, rfl, by decide +kernel⟩
theorem tb_1446 : Cond.fieldLink RX11 290 (TX11 39).1 (TX11 39).2.1 (TX11 39).2.2.1 ∈ q_tb := ch_6 _ (List.mem_of_getElem? (i := 123) rfl) rfl
theorem fl_11_290 : q_FL RX11 290 11 39 := ⟨by decide, RX11, TX11, 73, rfl, rfl, by decide, uX11, tb_1446⟩
theorem fp_11_290 : q_FP RX11 290 11 39 .int := ⟨by decide, RX11, TX11, 73, tyX11, rfl, rfl, by decide, uX11, tb_1446, tyX11_ok, nmX11, rfl, by decide +kernel⟩
theorem tb_1447 : Cond.fieldLink RX11 293 (TX11 40).1 (TX11 40).2.1 (TX11 40).2.2.1 ∈ q_tb := ch_6 _ (List.mem_of_getElem? (i := 124) rfl) rfl
theorem fl_11_293 : q_FL RX11 293 11 40 := ⟨by decide, RX11, TX11, 73, rfl, rfl, by decide, uX11, tb_1447⟩
theorem fp_11_293 : q_FP RX11 293 11 40 .int := ⟨by decide, RX11, TX11, 73, tyX11, rfl, rfl, by decide, uX11, tb_1447, tyX11_ok, nmX11, rfl, by decide +kernel⟩
theorem tb_1448 : Cond.fieldLink RX11 296 (TX11 41).1 (TX11 41).2.1 (TX11 41).2.2.1 ∈ q_tb := ch_6 _ (List.mem_of_getElem? (i := 125) rfl) rfl
theorem fl_11_296 : q_FL RX11 296 11 41 := ⟨by decide, RX11, TX11, 73, rfl, rfl, by decide, uX11, tb_1448⟩
theorem fp_11_296 : q_FP RX11 296 11 41 .int := ⟨by decide, RX11, TX11, 73, tyX11, rfl, rfl, by decide, uX11, tb_1448, tyX11_ok, nmX11, rfl, by decide +kernel⟩
theorem tb_1455 : Cond.fieldLink RX11 299 (TX11 48).1 (TX11 48).2.1 (TX11 48).2.2.1 ∈ q_tb := ch_6 _ (List.mem_of_getElem? (i := 132) rfl) rfl
theorem fl_11_299 : q_FL RX11 299 11 48 := ⟨by decide, RX11, TX11, 73, rfl, rfl, by decide, uX11, tb_1455⟩
theorem fp_11_299 : q_FP RX11 299 11 48 .int := ⟨by decide, RX11, TX11, 73, tyX11, rfl, rfl, by decide, uX11, tb_1455, tyX11_ok, nmX11, rfl, by decide +kernel⟩
theorem tb_1451 : Cond.fieldLink RX11 302 (TX11 44).1 (TX11 44).2.1 (TX11 44).2.2.1 ∈ q_tb := ch_6 _ (List.mem_of_getElem? (i := 128) rfl) rfl
theorem fl_11_302 : q_FL RX11 302 11 44 := ⟨by decide, RX11, TX11, 73, rfl, rfl, by decide, uX11, tb_1451⟩
theorem fp_11_302 : q_FP RX11 302 11 44 .int := ⟨by decide, RX11, TX11, 73, tyX11, rfl, rfl, by decide, uX11, tb_1451, tyX11_ok, nmX11, rfl, by decide +kernel⟩
theorem tb_1457 : Cond.fieldLink RX11 320 (TX11 50).1 (TX11 50).2.1 (TX11 50).2.2.1 ∈ q_tb := ch_6 _ (List.mem_of_getElem? (i := 134) rfl) rfl
theorem fl_11_320 : q_FL RX11 320 11 50 := ⟨by decide, RX11, TX11, 73, rfl, rfl, by decide, uX11, tb_1457⟩
theorem fp_11_320 : q_FP RX11 320 11 50 .int := ⟨by decide, RX11, TX11, 73, tyX11, rfl, rfl, by decide, uX11, tb_1457, tyX11_ok, nmX11, rfl, by decide +kernel⟩
theorem tb_1460 : Cond.fieldLink RX11 339 (TX11 53).1 (TX11 53).2.1 (TX11 53).2.2.1 ∈ q_tb := ch_6 _ (List.mem_of_getElem? (i := 137) rfl) rfl
theorem fl_11_339 : q_FL RX11 339 11 53 := ⟨by decide, RX11, TX11, 73, rfl, rfl, by decide, uX11, tb_1460⟩
theorem fp_11_339 : q_FP RX11 339 11 53 .int := ⟨by decide, RX11, TX11, 73, tyX11, rfl, rfl, by decide, uX11, tb_1460, tyX11_ok, nmX11, rfl, by decide +kernel⟩
theorem tb_1462 : Cond.fieldLink RX11 352 (TX11 55).1 (TX11 55).2.1 (TX11 55).2.2.1 ∈ q_tb := ch_6 _ (List.mem_of_getElem? (i := 139) rfl) rfl
theorem fl_11_352 : q_FL RX11 352 11 55 := ⟨by decide, RX11, TX11, 73, rfl, rfl, by decide, uX11, tb_1462⟩
theorem fp_11_352 : q_FP RX11 352 11 55 .int := ⟨by decide, RX11, TX11, 73, tyX11, rfl, rfl, by decide, uX11, tb_1462, tyX11_ok, nmX11, rfl, by decide +kernel⟩
theorem tb_1467 : Cond.fieldLink RX11 355 (TX11 60).1 (TX11 60).2.1 (TX11 60).2.2.1 ∈ q_tb := ch_6 _ (List.mem_of_getElem? (i := 144) rfl) rfl
theorem fl_11_355 : q_FL RX11 355 11 60 := ⟨by decide, RX11, TX11, 73, rfl, rfl, by decide, uX11, tb_1467⟩
theorem fp_11_355 : q_FP RX11 355 11 60 .int := ⟨by decide, RX11, TX11, 73, tyX11, rfl, rfl, by decide, uX11, tb_1467, tyX11_ok, nmX11, rfl, by decide +kernel⟩
theorem tb_1463 : Cond.fieldLink RX11 358 (TX11 56).1 (TX11 56).2.1 (TX11 56).2.2.1 ∈ q_tb := ch_6 _ (List.mem_of_getElem? (i := 140) rfl) rfl
theorem fl_11_358 : q_FL RX11 358 11 56 := ⟨by decide, RX11, TX11, 73, rfl, rfl, by decide, uX11, tb_1463⟩
theorem fp_11_358 : q_FP RX11 358 11 56 .int := ⟨by decide, RX11, TX11, 73, tyX11, rfl, rfl, by decide, uX11, tb_1463, tyX11_ok, nmX11, rfl, by decide +kernel⟩
theorem tb_1468 : Cond.fieldLink RX11 364 (TX11 61).1 (TX11 61).2.1 (TX11 61).2.2.1 ∈ q_tb := ch_6 _ (List.mem_of_getElem? (i := 145) rfl) rfl
theorem fl_11_364 : q_FL RX11 364 11 61 := ⟨by decide, RX11, TX11, 73, rfl, rfl, by decide, uX11, tb_1468⟩
theorem fp_11_364 : q_FP RX11 364 11 61 .int := ⟨by decide, RX11, TX11, 73, tyX11, rfl, rfl, by decide, uX11, tb_1468, tyX11_ok, nmX11, rfl, by decide +kernel⟩
theorem tb_1469 : Cond.fieldLink RX11 367 (TX11 62).1 (TX11 62).2.1 (TX11 62).2.2.1 ∈ q_tb := ch_6 _ (List.mem_of_getElem? (i := 146) rfl) rfl
theorem fl_11_367 : q_FL RX11 367 11 62 := ⟨by decide, RX11, TX11, 73, rfl, rfl, by decide, uX11, tb_1469⟩
theorem fp_11_367 : q_FP RX11 367 11 62 .int := ⟨by decide, RX11, TX11, 73, tyX11, rfl, rfl, by decide, uX11, tb_1469, tyX11_ok, nmX11, rfl, by decide +kernel⟩
theorem tb_1475 : Cond.fieldLink RX11 406 (TX11 68).1 (TX11 68).2.1 (TX11 68).2.2.1 ∈ q_tb := ch_6 _ (List.mem_of_getElem? (i := 152) rfl) rfl
theorem fl_11_406 : q_FL RX11 406 11 68 := ⟨by decide, RX11, TX11, 73, rfl, rfl, by decide, uX11, tb_1475⟩
theorem fp_11_406 : q_FP RX11 406 11 68 .int := ⟨by decide, RX11, TX11, 73, tyX11, rfl, rfl, by decide, uX11, tb_1475, tyX11_ok, nmX11, rfl, by decide +kernel⟩
theorem tb_1471 : Cond.fieldLink RX11 409 (TX11 64).1 (TX11 64).2.1 (TX11 64).2.2.1 ∈ q_tb := ch_6 _ (List.mem_of_getElem? (i := 148) rfl) rfl
theorem fl_11_409 : q_FL RX11 409 11 64 := ⟨by decide, RX11, TX11, 73, rfl, rfl, by decide, uX11, tb_1471⟩
theorem fp_11_409 : q_FP RX11 409 11 64 .int := ⟨by decide, RX11, TX11, 73, tyX11, rfl, rfl, by decide, uX11, tb_1471, tyX11_ok, nmX11, rfl, by decide +kernel⟩
theorem tb_1472 : Cond.fieldLink RX11 412 (TX11 65).1 (TX11 65).2.1 (TX11 65).2.2.1 ∈ q_tb := ch_6 _ (List.mem_of_getElem? (i := 149) rfl) rfl
theorem fl_11_412 : q_FL RX11 412 11 65 := ⟨by decide, RX11, TX11, 73, rfl, rfl, by decide, uX11, tb_1472⟩
theorem fp_11_412 : q_FP RX11 412 11 65 .int := ⟨by decide, RX11, TX11, 73, tyX11, rfl, rfl, by decide, uX11, tb_1472, tyX11_ok, nmX11, rfl, by decide +kernel⟩
theorem tb_1476 : Cond.fieldLink RX11 428 (TX11 69).1 (TX11 69).2.1 (TX11 69).2.2.1 ∈ q_tb := ch_6 _ (List.mem_of_getElem? (i := 153) rfl) rfl
theorem fl_11_428 : q_FL RX11 428 11 69 := ⟨by decide, RX11, TX11, 73, rfl, rfl, by decide, uX11, tb_1476⟩
theorem fp_11_428 : q_FP RX11 428 11 69 .int := ⟨by decide, RX11, TX11, 73, tyX11, rfl, rfl, by decide, uX11, tb_1476, tyX11_ok, nmX11, rfl, by decide +kernel⟩
theorem tb_1477 : Cond.fieldLink RX11 437 (TX11 70).1 (TX11 70).2.1 (TX11 70).2.2.1 ∈ q_tb := ch_6 _ (List.mem_of_getElem? (i := 154) rfl) rfl
theorem fl_11_437 : q_FL RX11 437 11 70 := ⟨by decide, RX11, TX11, 73, rfl, rfl, by decide, uX11, tb_1477⟩
theorem fp_11_437 : q_FP RX11 437 11 70 .int := ⟨by decide, RX11, TX11, 73, tyX11, rfl, rfl, by decide, uX11, tb_1477, tyX11_ok, nmX11, rfl, by decide +kernel⟩
abbrev mX0_init : q_M := (RX0, yX0_init, cX0_init, 2, none)
abbrev mX0_begin : q_M := (RX0, yX0_begin, cX0_begin, 3, none)
abbrev mX0_pick : q_M := (RX0, yX0_pick, cX0_pick, 2, none)
abbrev mX0_size : q_M := (RX0, yX0_size, cX0_size, 1, (some .int))
abbrev mX0_reachedX : q_M := (RX0, yX0_reachedX, cX0_reachedX, 1, (some .int))
abbrev mX0_reachedY : q_M := (RX0, yX0_reachedY, cX0_reachedY, 1, (some .int))
abbrev mX0_isPoint : q_M := (RX0, yX0_isPoint, cX0_isPoint, 2, (some .boolean))
abbrev mX0_colourOf : q_M := (RX0, yX0_colourOf, cX0_colourOf, 4, (some .int))
abbrev mX0_goBack : q_M := (RX0, yX0_goBack, cX0_goBack, 5, (some .int))
abbrev mX0_goForth : q_M := (RX0, yX0_goForth, cX0_goForth, 5, (some .boolean))
abbrev mX0_leaveDrop : q_M := (RX0, yX0_leaveDrop, cX0_leaveDrop, 6, (some .boolean))
abbrev mX0_makeWay : q_M := (RX0, yX0_makeWay, cX0_makeWay, 6, none)
abbrev mX0_squareOf : q_M := (RX0, yX0_squareOf, cX0_squareOf, 2, (some .int))
abbrev mX0_tired : q_M := (RX0, yX0_tired, cX0_tired, 3, (some .int))
abbrev mX0_stretchFrom : q_M := (RX0, yX0_stretchFrom, cX0_stretchFrom, 5, none)
abbrev mX0_moveBy : q_M := (RX0, yX0_moveBy, cX0_moveBy, 3, none)
abbrev mX0_dragOf : q_M := (RX0, yX0_dragOf, cX0_dragOf, 7, (some .int))
abbrev mX0_toothDrag : q_M := (RX0, yX0_toothDrag, cX0_toothDrag, 4, (some .int))
abbrev mX0_waveDrag : q_M := (RX0, yX0_waveDrag, cX0_waveDrag, 5, (some .int))
abbrev mX0_root : q_M := (RX0, yX0_root, cX0_root, 4, (some .int))
abbrev mX1_init : q_M := (RX1, yX1_init, cX1_init, 3, none)
abbrev mX1_perform : q_M := (RX1, yX1_perform, cX1_perform, 7, (some .int))
abbrev mX1_deedPlace : q_M := (RX1, yX1_deedPlace, cX1_deedPlace, 1, (some .int))
abbrev mX1_deedsDone : q_M := (RX1, yX1_deedsDone, cX1_deedsDone, 1, (some .int))
abbrev mX1_step : q_M := (RX1, yX1_step, cX1_step, 3, none)
abbrev mX1_combine : q_M := (RX1, yX1_combine, cX1_combine, 4, none)
abbrev mX1_divide : q_M := (RX1, yX1_divide, cX1_divide, 4, none)
abbrev mX1_turn : q_M := (RX1, yX1_turn, cX1_turn, 3, none)
abbrev mX1_settle : q_M := (RX1, yX1_settle, cX1_settle, 4, none)
abbrev mX1_startLoop : q_M := (RX1, yX1_startLoop, cX1_startLoop, 6, none)
abbrev mX1_nextTurn : q_M := (RX1, yX1_nextTurn, cX1_nextTurn, 4, none)
abbrev mX1_startDeed : q_M := (RX1, yX1_startDeed, cX1_startDeed, 2, none)
abbrev mX1_stroke : q_M := (RX1, yX1_stroke, cX1_stroke, 3, none)
abbrev mX1_enter : q_M := (RX1, yX1_enter, cX1_enter, 5, none)
abbrev mX1_leave : q_M := (RX1, yX1_leave, cX1_leave, 1, none)
abbrev mX1_breakOff : q_M := (RX1, yX1_breakOff, cX1_breakOff, 2, none)
abbrev mX1_nextWord : q_M := (RX1, yX1_nextWord, cX1_nextWord, 2, (some .int))
abbrev mX1_push : q_M := (RX1, yX1_push, cX1_push, 2, none)
abbrev mX1_pop : q_M := (RX1, yX1_pop, cX1_pop, 1, (some .int))
abbrev mX1_valueOf : q_M := (RX1, yX1_valueOf, cX1_valueOf, 3, (some .int))
abbrev mX1_setValue : q_M := (RX1, yX1_setValue, cX1_setValue, 4, none)
abbrev mX2_init : q_M := (RX2, yX2_init, cX2_init, 1, none)
abbrev mX2_facts : q_M := (RX2, yX2_facts, cX2_facts, 1, (some (.object "MarbleBath$Rows")))
abbrev mX2_size : q_M := (RX2, yX2_size, cX2_size, 1, (some .int))
abbrev mX2_roomLeft : q_M := (RX2, yX2_roomLeft, cX2_roomLeft, 1, (some .int))
abbrev mX2_has : q_M := (RX2, yX2_has, cX2_has, 2, (some .boolean))
abbrev mX2_knows : q_M := (RX2, yX2_knows, cX2_knows, 2, (some .boolean))
abbrev mX2_tell : q_M := (RX2, yX2_tell, cX2_tell, 3, (some .int))
abbrev mX2_tellStrike : q_M := (RX2, yX2_tellStrike, cX2_tellStrike, 4, (some .int))
abbrev mX2_tellAll : q_M := (RX2, yX2_tellAll, cX2_tellAll, 2, none)
abbrev mX2_isOut : q_M := (RX2, yX2_isOut, cX2_isOut, 3, (some .boolean))
abbrev mX2_laysKnown : q_M := (RX2, yX2_laysKnown, cX2_laysKnown, 4, (some .int))
abbrev mX2_pickStrokes : q_M := (RX2, yX2_pickStrokes, cX2_pickStrokes, 6, (some .int))
abbrev mX2_findOut : q_M := (RX2, yX2_findOut, cX2_findOut, 3, none)
abbrev mX2_markOut : q_M := (RX2, yX2_markOut, cX2_markOut, 2, none)
abbrev mX3_init : q_M := (RX3, yX3_init, cX3_init, 5, none)
abbrev mX3_bestMade : q_M := (RX3, yX3_bestMade, cX3_bestMade, 1, (some .int))
abbrev mX3_bestOff : q_M := (RX3, yX3_bestOff, cX3_bestOff, 1, (some .int))
abbrev mX3_foundLength : q_M := (RX3, yX3_foundLength, cX3_foundLength, 1, (some .int))
abbrev mX3_foundAt : q_M := (RX3, yX3_foundAt, cX3_foundAt, 2, (some .int))
abbrev mX3_seekBest : q_M := (RX3, yX3_seekBest, cX3_seekBest, 8, (some .boolean))
abbrev mX3_compare : q_M := (RX3, yX3_compare, cX3_compare, 4, none)
abbrev mX3_pickAll : q_M := (RX3, yX3_pickAll, cX3_pickAll, 4, none)
abbrev mX3_seekRow : q_M := (RX3, yX3_seekRow, cX3_seekRow, 8, (some .boolean))
abbrev mX3_doEach : q_M := (RX3, yX3_doEach, cX3_doEach, 4, none)
abbrev mX3_setMembers : q_M := (RX3, yX3_setMembers, cX3_setMembers, 6, (some .boolean))
abbrev mX3_holdsTogether : q_M := (RX3, yX3_holdsTogether, cX3_holdsTogether, 6, (some .boolean))
abbrev mX3_pickMembers : q_M := (RX3, yX3_pickMembers, cX3_pickMembers, 5, none)
abbrev mX3_keepFound : q_M := (RX3, yX3_keepFound, cX3_keepFound, 3, none)
abbrev mX4_init : q_M := (RX4, yX4_init, cX4_init, 1, none)
abbrev mX4_clear : q_M := (RX4, yX4_clear, cX4_clear, 1, none)
abbrev mX4_size : q_M := (RX4, yX4_size, cX4_size, 1, (some .int))
abbrev mX4_has : q_M := (RX4, yX4_has, cX4_has, 2, (some .boolean))
abbrev mX4_needs : q_M := (RX4, yX4_needs, cX4_needs, 2, (some .int))
abbrev mX4_startOf : q_M := (RX4, yX4_startOf, cX4_startOf, 2, (some .int))
abbrev mX4_open : q_M := (RX4, yX4_open, cX4_open, 2, none)
abbrev mX4_close : q_M := (RX4, yX4_close, cX4_close, 1, none)
abbrev mX4_here : q_M := (RX4, yX4_here, cX4_here, 1, (some .int))
abbrev mX4_add : q_M := (RX4, yX4_add, cX4_add, 2, none)
abbrev mX4_add_ : q_M := (RX4, yX4_add_, cX4_add_, 3, none)
abbrev mX4_add__ : q_M := (RX4, yX4_add__, cX4_add__, 4, none)
abbrev mX4_aimHere : q_M := (RX4, yX4_aimHere, cX4_aimHere, 2, none)
abbrev mX4_wordAt : q_M := (RX4, yX4_wordAt, cX4_wordAt, 2, (some .int))
abbrev mX5_init : q_M := (RX5, yX5_init, cX5_init, 2, none)
abbrev mX5_readInto : q_M := (RX5, yX5_readInto, cX5_readInto, 4, (some .int))
abbrev mX5_placeOfFault : q_M := (RX5, yX5_placeOfFault, cX5_placeOfFault, 1, (some .int))
abbrev mX5_fail : q_M := (RX5, yX5_fail, cX5_fail, 2, none)
abbrev mX5_note : q_M := (RX5, yX5_note, cX5_note, 3, none)
abbrev mX5_take : q_M := (RX5, yX5_take, cX5_take, 2, none)
abbrev mX5_readPattern : q_M := (RX5, yX5_readPattern, cX5_readPattern, 1, none)
abbrev mX5_namePattern : q_M := (RX5, yX5_namePattern, cX5_namePattern, 4, none)
abbrev mX5_patternOf : q_M := (RX5, yX5_patternOf, cX5_patternOf, 4, (some .int))
abbrev mX5_readReach : q_M := (RX5, yX5_readReach, cX5_readReach, 3, none)
abbrev mX5_noteIfReached : q_M := (RX5, yX5_noteIfReached, cX5_noteIfReached, 3, none)
abbrev mX5_bringInReach : q_M := (RX5, yX5_bringInReach, cX5_bringInReach, 3, none)
abbrev mX5_reachOf : q_M := (RX5, yX5_reachOf, cX5_reachOf, 4, (some .int))
abbrev mX5_readDeeds : q_M := (RX5, yX5_readDeeds, cX5_readDeeds, 3, none)
abbrev mX5_startsDeed : q_M := (RX5, yX5_startsDeed, cX5_startsDeed, 2, (some .boolean))
abbrev mX5_readDeed : q_M := (RX5, yX5_readDeed, cX5_readDeed, 4, none)
abbrev mX5_readStroke : q_M := (RX5, yX5_readStroke, cX5_readStroke, 4, none)
abbrev mX5_readFor : q_M := (RX5, yX5_readFor, cX5_readFor, 8, none)
abbrev mX5_readIf : q_M := (RX5, yX5_readIf, cX5_readIf, 4, none)
abbrev mX5_readDo : q_M := (RX5, yX5_readDo, cX5_readDo, 4, none)
abbrev mX5_readCondition : q_M := (RX5, yX5_readCondition, cX5_readCondition, 6, none)
abbrev mX5_relationOf : q_M := (RX5, yX5_relationOf, cX5_relationOf, 1, (some .int))
abbrev mX5_readSum : q_M := (RX5, yX5_readSum, cX5_readSum, 4, none)
abbrev mX5_readProduct : q_M := (RX5, yX5_readProduct, cX5_readProduct, 4, none)
abbrev mX5_readUnit : q_M := (RX5, yX5_readUnit, cX5_readUnit, 3, none)
abbrev mX6_init : q_M := (RX6, yX6_init, cX6_init, 1, none)
abbrev mX6_clear : q_M := (RX6, yX6_clear, cX6_clear, 2, none)
abbrev mX6_allow : q_M := (RX6, yX6_allow, cX6_allow, 2, none)
abbrev mX6_size : q_M := (RX6, yX6_size, cX6_size, 1, (some .int))
abbrev mX6_roomLeft : q_M := (RX6, yX6_roomLeft, cX6_roomLeft, 1, (some .int))
abbrev mX6_isFull : q_M := (RX6, yX6_isFull, cX6_isFull, 1, (some .boolean))
abbrev mX6_add : q_M := (RX6, yX6_add, cX6_add, 4, (some .int))
abbrev mX6_addAll : q_M := (RX6, yX6_addAll, cX6_addAll, 5, none)
abbrev mX6_kindOf : q_M := (RX6, yX6_kindOf, cX6_kindOf, 2, (some .int))
abbrev mX6_numberOf : q_M := (RX6, yX6_numberOf, cX6_numberOf, 4, (some .int))
abbrev mX6_isStroke : q_M := (RX6, yX6_isStroke, cX6_isStroke, 3, (some .boolean))
abbrev mX6_numbersOf : q_M := (RX6, yX6_numbersOf, cX6_numbersOf, 1, (some .int))
abbrev mX6_fits : q_M := (RX6, yX6_fits, cX6_fits, 4, (some .boolean))
abbrev mX7_init : q_M := (RX7, yX7_init, cX7_init, 5, none)
abbrev mX7_scan : q_M := (RX7, yX7_scan, cX7_scan, 4, none)
abbrev mX7_kindAt : q_M := (RX7, yX7_kindAt, cX7_kindAt, 2, (some .int))
abbrev mX7_startAt : q_M := (RX7, yX7_startAt, cX7_startAt, 2, (some .int))
abbrev mX7_saysAt : q_M := (RX7, yX7_saysAt, cX7_saysAt, 2, (some .long))
abbrev mX7_skipBlanks : q_M := (RX7, yX7_skipBlanks, cX7_skipBlanks, 3, none)
abbrev mX7_scanToken : q_M := (RX7, yX7_scanToken, cX7_scanToken, 3, (some .int))
abbrev mX7_scanName : q_M := (RX7, yX7_scanName, cX7_scanName, 4, (some .int))
abbrev mX7_wordOrName : q_M := (RX7, yX7_wordOrName, cX7_wordOrName, 4, (some .int))
abbrev mX7_scanInt : q_M := (RX7, yX7_scanInt, cX7_scanInt, 4, (some .int))
abbrev mX7_scanSign : q_M := (RX7, yX7_scanSign, cX7_scanSign, 3, (some .int))
abbrev mX7_isBlank : q_M := (RX7, yX7_isBlank, cX7_isBlank, 1, (some .boolean))
abbrev mX7_isLetter : q_M := (RX7, yX7_isLetter, cX7_isLetter, 1, (some .boolean))
abbrev mX7_isDigit : q_M := (RX7, yX7_isDigit, cX7_isDigit, 1, (some .boolean))
abbrev mX8_init : q_M := (RX8, yX8_init, cX8_init, 1, none)
abbrev mX8_isCell : q_M := (RX8, yX8_isCell, cX8_isCell, 2, (some .boolean))
abbrev mX8_holds : q_M := (RX8, yX8_holds, cX8_holds, 3, (some .boolean))
abbrev mX8_keepAs : q_M := (RX8, yX8_keepAs, cX8_keepAs, 3, none)
abbrev mX8_fill : q_M := (RX8, yX8_fill, cX8_fill, 4, none)
abbrev mX8_pointX : q_M := (RX8, yX8_pointX, cX8_pointX, 2, (some .int))
abbrev mX8_pointY : q_M := (RX8, yX8_pointY, cX8_pointY, 2, (some .int))
abbrev mX8_unlikeUpTo : q_M := (RX8, yX8_unlikeUpTo, cX8_unlikeUpTo, 5, (some .int))
abbrev mX8_colourOf : q_M := (RX8, yX8_colourOf, cX8_colourOf, 3, (some .int))
abbrev mX8_areaOf : q_M := (RX8, yX8_areaOf, cX8_areaOf, 4, (some .int))
abbrev mX8_cellsUnlike : q_M := (RX8, yX8_cellsUnlike, cX8_cellsUnlike, 4, (some .int))
abbrev mX8_edgesUnlike : q_M := (RX8, yX8_edgesUnlike, cX8_edgesUnlike, 5, (some .int))
abbrev mX8_bestShift : q_M := (RX8, yX8_bestShift, cX8_bestShift, 7, (some .int))
abbrev mX8_countPieces : q_M := (RX8, yX8_countPieces, cX8_countPieces, 1, (some .int))
abbrev mX8_largestPiece : q_M := (RX8, yX8_largestPiece, cX8_largestPiece, 1, (some .int))
abbrev mX8_findPieces : q_M := (RX8, yX8_findPieces, cX8_findPieces, 2, none)
abbrev mX8_sizeFrom : q_M := (RX8, yX8_sizeFrom, cX8_sizeFrom, 7, (some .int))
abbrev mX8_queue : q_M := (RX8, yX8_queue, cX8_queue, 5, none)
abbrev mX9_init : q_M := (RX9, yX9_init, cX9_init, 1, none)
abbrev mX9_size : q_M := (RX9, yX9_size, cX9_size, 1, (some .int))
abbrev mX9_hasRoom : q_M := (RX9, yX9_hasRoom, cX9_hasRoom, 2, (some .boolean))
abbrev mX9_addWord : q_M := (RX9, yX9_addWord, cX9_addWord, 3, none)
abbrev mX9_addByte : q_M := (RX9, yX9_addByte, cX9_addByte, 2, none)
abbrev mX9_cut : q_M := (RX9, yX9_cut, cX9_cut, 2, (some .boolean))
abbrev mX9_byteAt : q_M := (RX9, yX9_byteAt, cX9_byteAt, 2, (some .int))
abbrev mX10_init : q_M := (RX10, yX10_init, cX10_init, 1, none)
abbrev mX10_feed : q_M := (RX10, yX10_feed, cX10_feed, 6, (some .int))
abbrev mX10_back : q_M := (RX10, yX10_back, cX10_back, 2, (some .int))
abbrev mX10_read : q_M := (RX10, yX10_read, cX10_read, 3, (some .int))
abbrev mX10_place : q_M := (RX10, yX10_place, cX10_place, 1, (some .int))
abbrev mX10_drop : q_M := (RX10, yX10_drop, cX10_drop, 5, (some .int))
abbrev mX10_line : q_M := (RX10, yX10_line, cX10_line, 5, (some .int))
abbrev mX10_comb : q_M := (RX10, yX10_comb, cX10_comb, 7, (some .int))
abbrev mX10_wave : q_M := (RX10, yX10_wave, cX10_wave, 4, (some .int))
abbrev mX10_lay : q_M := (RX10, yX10_lay, cX10_lay, 2, (some .int))
abbrev mX10_strike : q_M := (RX10, yX10_strike, cX10_strike, 2, (some .int))
abbrev mX10_run : q_M := (RX10, yX10_run, cX10_run, 5, (some .int))
abbrev mX10_broke : q_M := (RX10, yX10_broke, cX10_broke, 1, (some .int))
abbrev mX10_where : q_M := (RX10, yX10_where, cX10_where, 1, (some .int))
abbrev mX10_parameters : q_M := (RX10, yX10_parameters, cX10_parameters, 2, (some .int))
abbrev mX10_kind : q_M := (RX10, yX10_kind, cX10_kind, 2, (some .int))
abbrev mX10_number : q_M := (RX10, yX10_number, cX10_number, 4, (some .int))
abbrev mX10_struck : q_M := (RX10, yX10_struck, cX10_struck, 3, (some .int))
abbrev mX10_colour : q_M := (RX10, yX10_colour, cX10_colour, 4, (some .int))
abbrev mX10_from : q_M := (RX10, yX10_from, cX10_from, 6, (some .int))
abbrev mX10_to : q_M := (RX10, yX10_to, cX10_to, 5, (some .int))
abbrev mX10_home : q_M := (RX10, yX10_home, cX10_home, 4, (some .int))
abbrev mX10_sheets : q_M := (RX10, yX10_sheets, cX10_sheets, 2, (some .int))
abbrev mX10_cell : q_M := (RX10, yX10_cell, cX10_cell, 5, (some .int))
abbrev mX10_area : q_M := (RX10, yX10_area, cX10_area, 5, (some .int))
abbrev mX10_pieces : q_M := (RX10, yX10_pieces, cX10_pieces, 3, (some .int))
abbrev mX10_largest : q_M := (RX10, yX10_largest, cX10_largest, 3, (some .int))
abbrev mX10_edge : q_M := (RX10, yX10_edge, cX10_edge, 6, (some .int))
abbrev mX10_match : q_M := (RX10, yX10_match, cX10_match, 4, (some .int))
abbrev mX10_unlike : q_M := (RX10, yX10_unlike, cX10_unlike, 4, (some .int))
abbrev mX10_made : q_M := (RX10, yX10_made, cX10_made, 3, (some .int))
abbrev mX10_off : q_M := (RX10, yX10_off, cX10_off, 3, (some .int))
abbrev mX10_row : q_M := (RX10, yX10_row, cX10_row, 4, (some .int))
abbrev mX10_rowed : q_M := (RX10, yX10_rowed, cX10_rowed, 2, (some .int))
abbrev mX10_count : q_M := (RX10, yX10_count, cX10_count, 2, (some .int))
abbrev mX10_put : q_M := (RX10, yX10_put, cX10_put, 7, (some (.array .int)))
abbrev mX10_floatBath : q_M := (RX10, yX10_floatBath, cX10_floatBath, 4, (some .boolean))
abbrev mX10_takeSheet : q_M := (RX10, yX10_takeSheet, cX10_takeSheet, 5, (some .boolean))
abbrev mX10_takeBoth : q_M := (RX10, yX10_takeBoth, cX10_takeBoth, 4, (some .boolean))
abbrev mX11_init : q_M := (RX11, yX11_init, cX11_init, 1, none)
abbrev mX11_feed : q_M := (RX11, yX11_feed, cX11_feed, 6, (some .int))
abbrev mX11_put : q_M := (RX11, yX11_put, cX11_put, 3, none)
abbrev mX11_back : q_M := (RX11, yX11_back, cX11_back, 2, (some .int))
abbrev mX11_at : q_M := (RX11, yX11_at, cX11_at, 2, (some .int))
abbrev mX11_isDigit : q_M := (RX11, yX11_isDigit, cX11_isDigit, 1, (some .boolean))
abbrev mX11_isLetter : q_M := (RX11, yX11_isLetter, cX11_isLetter, 1, (some .boolean))
abbrev mX11_more : q_M := (RX11, yX11_more, cX11_more, 3, (some .long))
abbrev mX11_word : q_M := (RX11, yX11_word, cX11_word, 7, (some .long))
abbrev mX11_token : q_M := (RX11, yX11_token, cX11_token, 6, none)
abbrev mX11_cut : q_M := (RX11, yX11_cut, cX11_cut, 8, none)
abbrev mX11_sign : q_M := (RX11, yX11_sign, cX11_sign, 6, (some .int))
abbrev mX11_is : q_M := (RX11, yX11_is, cX11_is, 2, (some .boolean))
abbrev mX11_fail : q_M := (RX11, yX11_fail, cX11_fail, 2, none)
abbrev mX11_wrong : q_M := (RX11, yX11_wrong, cX11_wrong, 4, none)
abbrev mX11_next : q_M := (RX11, yX11_next, cX11_next, 1, none)
abbrev mX11_must : q_M := (RX11, yX11_must, cX11_must, 2, none)
abbrev mX11_read : q_M := (RX11, yX11_read, cX11_read, 2, (some .int))
abbrev mX11_place : q_M := (RX11, yX11_place, cX11_place, 1, (some .int))
abbrev mX11_emit : q_M := (RX11, yX11_emit, cX11_emit, 4, none)
abbrev mX11_reaches : q_M := (RX11, yX11_reaches, cX11_reaches, 3, none)
abbrev mX11_tellPattern : q_M := (RX11, yX11_tellPattern, cX11_tellPattern, 4, none)
abbrev mX11_tellParameter : q_M := (RX11, yX11_tellParameter, cX11_tellParameter, 2, none)
abbrev mX11_tellDeed : q_M := (RX11, yX11_tellDeed, cX11_tellDeed, 6, none)
abbrev mX11_tellStroke : q_M := (RX11, yX11_tellStroke, cX11_tellStroke, 6, none)
abbrev mX11_tellFor : q_M := (RX11, yX11_tellFor, cX11_tellFor, 3, none)
abbrev mX11_tellIf : q_M := (RX11, yX11_tellIf, cX11_tellIf, 2, none)
abbrev mX11_lands : q_M := (RX11, yX11_lands, cX11_lands, 4, none)
abbrev mX11_relation : q_M := (RX11, yX11_relation, cX11_relation, 2, none)
abbrev mX11_turnsElse : q_M := (RX11, yX11_turnsElse, cX11_turnsElse, 2, none)
abbrev mX11_ends : q_M := (RX11, yX11_ends, cX11_ends, 2, none)
abbrev mX11_tellDo : q_M := (RX11, yX11_tellDo, cX11_tellDo, 5, none)
abbrev mX11_named : q_M := (RX11, yX11_named, cX11_named, 3, none)
abbrev mX11_comesOut : q_M := (RX11, yX11_comesOut, cX11_comesOut, 4, none)
abbrev mX11_turnsRound : q_M := (RX11, yX11_turnsRound, cX11_turnsRound, 1, none)
abbrev mX11_expression : q_M := (RX11, yX11_expression, cX11_expression, 5, none)
abbrev mX11_unit : q_M := (RX11, yX11_unit, cX11_unit, 2, none)
abbrev mX11_begins : q_M := (RX11, yX11_begins, cX11_begins, 2, none)
abbrev mX11_isOver : q_M := (RX11, yX11_isOver, cX11_isOver, 1, (some .boolean))
abbrev mX11_does : q_M := (RX11, yX11_does, cX11_does, 12, (some .int))
abbrev mX11_strokes : q_M := (RX11, yX11_strokes, cX11_strokes, 6, (some .int))
abbrev mX11_in : q_M := (RX11, yX11_in, cX11_in, 3, (some .boolean))
abbrev mX11_isStroke : q_M := (RX11, yX11_isStroke, cX11_isStroke, 2, (some .boolean))
abbrev mX11_logs : q_M := (RX11, yX11_logs, cX11_logs, 3, (some .int))
abbrev mX11_stroke : q_M := (RX11, yX11_stroke, cX11_stroke, 8, (some .int))
abbrev mX11_drop : q_M := (RX11, yX11_drop, cX11_drop, 5, (some .int))
abbrev mX11_line : q_M := (RX11, yX11_line, cX11_line, 5, (some .int))
abbrev mX11_comb : q_M := (RX11, yX11_comb, cX11_comb, 7, (some .int))
abbrev mX11_wave : q_M := (RX11, yX11_wave, cX11_wave, 4, (some .int))
abbrev mX11_lay : q_M := (RX11, yX11_lay, cX11_lay, 2, (some .int))
abbrev mX11_strike : q_M := (RX11, yX11_strike, cX11_strike, 2, (some .int))
abbrev mX11_isPattern : q_M := (RX11, yX11_isPattern, cX11_isPattern, 2, (some .boolean))
abbrev mX11_run : q_M := (RX11, yX11_run, cX11_run, 7, (some .int))
abbrev mX11_broke : q_M := (RX11, yX11_broke, cX11_broke, 1, (some .int))
abbrev mX11_where : q_M := (RX11, yX11_where, cX11_where, 1, (some .int))
abbrev mX11_parameters : q_M := (RX11, yX11_parameters, cX11_parameters, 2, (some .int))
abbrev mX11_isFact : q_M := (RX11, yX11_isFact, cX11_isFact, 2, (some .boolean))
abbrev mX11_kind : q_M := (RX11, yX11_kind, cX11_kind, 2, (some .int))
abbrev mX11_number : q_M := (RX11, yX11_number, cX11_number, 4, (some .int))
abbrev mX11_isKnown : q_M := (RX11, yX11_isKnown, cX11_isKnown, 2, (some .boolean))
abbrev mX11_isStruck : q_M := (RX11, yX11_isStruck, cX11_isStruck, 4, (some .boolean))
abbrev mX11_struck : q_M := (RX11, yX11_struck, cX11_struck, 3, (some .int))
abbrev mX11_floats : q_M := (RX11, yX11_floats, cX11_floats, 6, (some .boolean))
abbrev mX11_root : q_M := (RX11, yX11_root, cX11_root, 4, (some .int))
abbrev mX11_drag : q_M := (RX11, yX11_drag, cX11_drag, 6, (some .int))
abbrev mX11_drags : q_M := (RX11, yX11_drags, cX11_drags, 7, (some .int))
abbrev mX11_isPoint : q_M := (RX11, yX11_isPoint, cX11_isPoint, 2, (some .boolean))
abbrev mX11_radius : q_M := (RX11, yX11_radius, cX11_radius, 3, (some .int))
abbrev mX11_backs : q_M := (RX11, yX11_backs, cX11_backs, 8, (some .int))
abbrev mX11_forth : q_M := (RX11, yX11_forth, cX11_forth, 8, (some .boolean))
abbrev mX11_origin : q_M := (RX11, yX11_origin, cX11_origin, 5, (some .int))
abbrev mX11_colourOf : q_M := (RX11, yX11_colourOf, cX11_colourOf, 4, (some .int))
abbrev mX11_colour : q_M := (RX11, yX11_colour, cX11_colour, 5, (some .int))
abbrev mX11_from : q_M := (RX11, yX11_from, cX11_from, 6, (some .int))
abbrev mX11_goes : q_M := (RX11, yX11_goes, cX11_goes, 4, (some .boolean))
abbrev mX11_to : q_M := (RX11, yX11_to, cX11_to, 5, (some .int))
abbrev mX11_home : q_M := (RX11, yX11_home, cX11_home, 4, (some .int))
abbrev mX11_lays : q_M := (RX11, yX11_lays, cX11_lays, 4, none)
abbrev mX11_isSheet : q_M := (RX11, yX11_isSheet, cX11_isSheet, 4, (some .boolean))
abbrev mX11_sheets : q_M := (RX11, yX11_sheets, cX11_sheets, 4, (some .int))
abbrev mX11_cell : q_M := (RX11, yX11_cell, cX11_cell, 5, (some .int))
abbrev mX11_area : q_M := (RX11, yX11_area, cX11_area, 6, (some .int))
abbrev mX11_meets : q_M := (RX11, yX11_meets, cX11_meets, 4, none)
abbrev mX11_hangs : q_M := (RX11, yX11_hangs, cX11_hangs, 5, none)
abbrev mX11_pieces : q_M := (RX11, yX11_pieces, cX11_pieces, 3, (some .int))
abbrev mX11_largest : q_M := (RX11, yX11_largest, cX11_largest, 3, (some .int))
abbrev mX11_differs : q_M := (RX11, yX11_differs, cX11_differs, 4, (some .int))
abbrev mX11_edge : q_M := (RX11, yX11_edge, cX11_edge, 5, (some .int))
abbrev mX11_match : q_M := (RX11, yX11_match, cX11_match, 10, (some .int))
abbrev mX11_unlikes : q_M := (RX11, yX11_unlikes, cX11_unlikes, 3, (some .int))
abbrev mX11_unlike : q_M := (RX11, yX11_unlike, cX11_unlike, 4, (some .int))
abbrev mX11_offOf : q_M := (RX11, yX11_offOf, cX11_offOf, 3, (some .int))
abbrev mX11_bestOf : q_M := (RX11, yX11_bestOf, cX11_bestOf, 9, (some .int))
abbrev mX11_made : q_M := (RX11, yX11_made, cX11_made, 3, (some .int))
abbrev mX11_off : q_M := (RX11, yX11_off, cX11_off, 4, (some .int))
abbrev mX11_row : q_M := (RX11, yX11_row, cX11_row, 11, (some .int))
abbrev mX11_rowed : q_M := (RX11, yX11_rowed, cX11_rowed, 2, (some .int))
abbrev mX11_count : q_M := (RX11, yX11_count, cX11_count, 3, (some .int))
theorem tb_558 : Cond.methodLink RX10 97 mX9_hasRoom.2.1 ∈ q_tb := ch_2 _ (List.mem_of_getElem? (i := 195) rfl) rfl
theorem tb_559 : Cond.instanceMethod mX9_hasRoom.2.1 ∈ q_tb := ch_2 _ (List.mem_of_getElem? (i := 196) rfl) rfl
theorem tb_560 : Cond.selects mX9_hasRoom.2.1.cls mX9_hasRoom.2.1 mX9_hasRoom.2.1 ∈ q_tb := ch_2 _ (List.mem_of_getElem? (i := 197) rfl) rfl
theorem tb_125 : Cond.initialized mX9_hasRoom.2.1.cls ∈ q_tb := ch_1 _ (List.mem_of_getElem? (i := 2) rfl) rfl
theorem tb_561 : Cond.code mX9_hasRoom.2.1 mX9_hasRoom.2.2.1 mX9_hasRoom.2.2.2.1 mX9_hasRoom.2.2.2.2 ∈ q_tb := ch_2 _ (List.mem_of_getElem? (i := 198) rfl) rfl
theorem cv_10_97 : q_CV RX10 97 mX9_hasRoom 1 := ⟨tb_558, tb_559, tb_560, tb_125, tb_561, ⟨by decide +kernel, by decide +kernel, by decide +kernel⟩, by decide⟩
theorem tb_562 : Cond.methodLink RX10 101 mX9_addWord.2.1 ∈ q_tb := ch_2 _ (List.mem_of_getElem? (i := 199) rfl) rfl
theorem tb_563 : Cond.instanceMethod mX9_addWord.2.1 ∈ q_tb := ch_2 _ (List.mem_of_getElem? (i := 200) rfl) rfl
theorem tb_564 : Cond.selects mX9_addWord.2.1.cls mX9_addWord.2.1 mX9_addWord.2.1 ∈ q_tb := ch_2 _ (List.mem_of_getElem? (i := 201) rfl) rfl
theorem tb_565 : Cond.code mX9_addWord.2.1 mX9_addWord.2.2.1 mX9_addWord.2.2.2.1 mX9_addWord.2.2.2.2 ∈ q_tb := ch_2 _ (List.mem_of_getElem? (i := 202) rfl) rfl
theorem cv_10_101 : q_CV RX10 101 mX9_addWord 1 := ⟨tb_562, tb_563, tb_564, tb_125, tb_565, ⟨by decide +kernel, by decide +kernel, by decide +kernel⟩, by decide⟩
theorem tb_570 : Cond.methodLink RX10 105 mX9_size.2.1 ∈ q_tb := ch_2 _ (List.mem_of_getElem? (i := 207) rfl) rfl
theorem tb_571 : Cond.instanceMethod mX9_size.2.1 ∈ q_tb := ch_2 _ (List.mem_of_getElem? (i := 208) rfl) rfl
theorem tb_572 : Cond.selects mX9_size.2.1.cls mX9_size.2.1 mX9_size.2.1 ∈ q_tb := ch_2 _ (List.mem_of_getElem? (i := 209) rfl) rfl
theorem tb_573 : Cond.code mX9_size.2.1 mX9_size.2.2.1 mX9_size.2.2.2.1 mX9_size.2.2.2.2 ∈ q_tb := ch_2 _ (List.mem_of_getElem? (i := 210) rfl) rfl
theorem cv_10_105 : q_CV RX10 105 mX9_size 0 := ⟨tb_570, tb_571, tb_572, tb_125, tb_573, ⟨by decide +kernel, by decide +kernel, by decide +kernel⟩, by decide⟩
theorem tb_578 : Cond.methodLink RX10 109 mX9_cut.2.1 ∈ q_tb := ch_2 _ (List.mem_of_getElem? (i := 215) rfl) rfl
theorem tb_579 : Cond.instanceMethod mX9_cut.2.1 ∈ q_tb := ch_2 _ (List.mem_of_getElem? (i := 216) rfl) rfl
theorem tb_580 : Cond.selects mX9_cut.2.1.cls mX9_cut.2.1 mX9_cut.2.1 ∈ q_tb := ch_2 _ (List.mem_of_getElem? (i := 217) rfl) rfl
theorem tb_581 : Cond.code mX9_cut.2.1 mX9_cut.2.2.1 mX9_cut.2.2.2.1 mX9_cut.2.2.2.2 ∈ q_tb := ch_2 _ (List.mem_of_getElem? (i := 218) rfl) rfl
theorem cv_10_109 : q_CV RX10 109 mX9_cut 1 := ⟨tb_578, tb_579, tb_580, tb_125, tb_581, ⟨by decide +kernel, by decide +kernel, by decide +kernel⟩, by decide⟩
theorem tb_586 : Cond.methodLink RX10 112 mX5_readInto.2.1 ∈ q_tb := ch_2 _ (List.mem_of_getElem? (i := 223) rfl) rfl
theorem tb_587 : Cond.instanceMethod mX5_readInto.2.1 ∈ q_tb := ch_2 _ (List.mem_of_getElem? (i := 224) rfl) rfl
theorem tb_588 : Cond.selects mX5_readInto.2.1.cls mX5_readInto.2.1 mX5_readInto.2.1 ∈ q_tb := ch_2 _ (List.mem_of_getElem? (i := 225) rfl) rfl
theorem tb_132 : Cond.initialized mX5_readInto.2.1.cls ∈ q_tb := ch_1 _ (List.mem_of_getElem? (i := 9) rfl) rfl
theorem tb_589 : Cond.code mX5_readInto.2.1 mX5_readInto.2.2.1 mX5_readInto.2.2.2.1 mX5_readInto.2.2.2.2 ∈ q_tb := ch_2 _ (List.mem_of_getElem? (i := 226) rfl) rfl
theorem cv_10_112 : q_CV RX10 112 mX5_readInto 2 := ⟨tb_586, tb_587, tb_588, tb_132, tb_589, ⟨by decide +kernel, by decide +kernel, by decide +kernel⟩, by decide⟩
theorem tb_838 : Cond.methodLink RX10 116 mX5_placeOfFault.2.1 ∈ q_tb := ch_3 _ (List.mem_of_getElem? (i := 235) rfl) rfl
theorem tb_839 : Cond.instanceMethod mX5_placeOfFault.2.1 ∈ q_tb := ch_3 _ (List.mem_of_getElem? (i := 236) rfl) rfl
theorem tb_840 : Cond.selects mX5_placeOfFault.2.1.cls mX5_placeOfFault.2.1 mX5_placeOfFault.2.1 ∈ q_tb := ch_3 _ (List.mem_of_getElem? (i := 237) rfl) rfl
theorem tb_841 : Cond.code mX5_placeOfFault.2.1 mX5_placeOfFault.2.2.1 mX5_placeOfFault.2.2.2.1 mX5_placeOfFault.2.2.2.2 ∈ q_tb := ch_3 _ (List.mem_of_getElem? (i := 238) rfl) rfl
theorem cv_10_116 : q_CV RX10 116 mX5_placeOfFault 0 := ⟨tb_838, tb_839, tb_840, tb_132, tb_841, ⟨by decide +kernel, by decide +kernel, by decide +kernel⟩, by decide⟩
theorem tb_850 : Cond.methodLink RX10 119 mX10_put.2.1 ∈ q_tb := ch_4 _ (List.mem_of_getElem? (i := 7) rfl) rfl
theorem tb_852 : Cond.instanceMethod mX10_put.2.1 ∈ q_tb := ch_4 _ (List.mem_of_getElem? (i := 9) rfl) rfl
theorem tb_27 : Cond.selects mX10_put.2.1.cls mX10_put.2.1 mX10_put.2.1 ∈ q_tb := ch_p2 _ (List.mem_of_getElem? (i := 11) rfl) rfl
theorem tb_124 : Cond.initialized mX10_put.2.1.cls ∈ q_tb := ch_1 _ (List.mem_of_getElem? (i := 1) rfl) rfl
theorem tb_853 : Cond.code mX10_put.2.1 mX10_put.2.2.1 mX10_put.2.2.2.1 mX10_put.2.2.2.2 ∈ q_tb := ch_4 _ (List.mem_of_getElem? (i := 10) rfl) rfl
theorem cv_10_119 : q_CV RX10 119 mX10_put 6 := ⟨tb_850, tb_852, tb_27, tb_124, tb_853, ⟨by decide +kernel, by decide +kernel, by decide +kernel⟩, by decide⟩
theorem tb_854 : Cond.methodLink RX10 123 mX2_tell.2.1 ∈ q_tb := ch_4 _ (List.mem_of_getElem? (i := 11) rfl) rfl
theorem tb_855 : Cond.instanceMethod mX2_tell.2.1 ∈ q_tb := ch_4 _ (List.mem_of_getElem? (i := 12) rfl) rfl
theorem tb_856 : Cond.selects mX2_tell.2.1.cls mX2_tell.2.1 mX2_tell.2.1 ∈ q_tb := ch_4 _ (List.mem_of_getElem? (i := 13) rfl) rfl
theorem tb_126 : Cond.initialized mX2_tell.2.1.cls ∈ q_tb := ch_1 _ (List.mem_of_getElem? (i := 3) rfl) rfl
theorem tb_857 : Cond.code mX2_tell.2.1 mX2_tell.2.2.1 mX2_tell.2.2.2.1 mX2_tell.2.2.2.2 ∈ q_tb := ch_4 _ (List.mem_of_getElem? (i := 14) rfl) rfl
theorem cv_10_123 : q_CV RX10 123 mX2_tell 2 := ⟨tb_854, tb_855, tb_856, tb_126, tb_857, ⟨by decide +kernel, by decide +kernel, by decide +kernel⟩, by decide⟩
theorem tb_894 : Cond.methodLink RX10 127 mX2_tellStrike.2.1 ∈ q_tb := ch_4 _ (List.mem_of_getElem? (i := 51) rfl) rfl
theorem tb_895 : Cond.instanceMethod mX2_tellStrike.2.1 ∈ q_tb := ch_4 _ (List.mem_of_getElem? (i := 52) rfl) rfl
theorem tb_896 : Cond.selects mX2_tellStrike.2.1.cls mX2_tellStrike.2.1 mX2_tellStrike.2.1 ∈ q_tb := ch_4 _ (List.mem_of_getElem? (i := 53) rfl) rfl
theorem tb_897 : Cond.code mX2_tellStrike.2.1 mX2_tellStrike.2.2.1 mX2_tellStrike.2.2.2.1 mX2_tellStrike.2.2.2.2 ∈ q_tb := ch_4 _ (List.mem_of_getElem? (i := 54) rfl) rfl
theorem cv_10_127 : q_CV RX10 127 mX2_tellStrike 1 := ⟨tb_894, tb_895, tb_896, tb_126, tb_897, ⟨by decide +kernel, by decide +kernel, by decide +kernel⟩, by decide⟩
theorem tb_914 : Cond.methodLink RX10 131 mX4_has.2.1 ∈ q_tb := ch_4 _ (List.mem_of_getElem? (i := 71) rfl) rfl
theorem tb_822 : Cond.instanceMethod mX4_has.2.1 ∈ q_tb := ch_3 _ (List.mem_of_getElem? (i := 219) rfl) rfl
theorem tb_823 : Cond.selects mX4_has.2.1.cls mX4_has.2.1 mX4_has.2.1 ∈ q_tb := ch_3 _ (List.mem_of_getElem? (i := 220) rfl) rfl
theorem tb_131 : Cond.initialized mX4_has.2.1.cls ∈ q_tb := ch_1 _ (List.mem_of_getElem? (i := 8) rfl) rfl
theorem tb_824 : Cond.code mX4_has.2.1 mX4_has.2.2.1 mX4_has.2.2.2.1 mX4_has.2.2.2.2 ∈ q_tb := ch_3 _ (List.mem_of_getElem? (i := 221) rfl) rfl
theorem cv_10_131 : q_CV RX10 131 mX4_has 1 := ⟨tb_914, tb_822, tb_823, tb_131, tb_824, ⟨by decide +kernel, by decide +kernel, by decide +kernel⟩, by decide⟩
theorem tb_915 : Cond.methodLink RX10 134 mX2_roomLeft.2.1 ∈ q_tb := ch_4 _ (List.mem_of_getElem? (i := 72) rfl) rfl
theorem tb_916 : Cond.instanceMethod mX2_roomLeft.2.1 ∈ q_tb := ch_4 _ (List.mem_of_getElem? (i := 73) rfl) rfl
theorem tb_917 : Cond.selects mX2_roomLeft.2.1.cls mX2_roomLeft.2.1 mX2_roomLeft.2.1 ∈ q_tb := ch_4 _ (List.mem_of_getElem? (i := 74) rfl) rfl
theorem tb_918 : Cond.code mX2_roomLeft.2.1 mX2_roomLeft.2.2.1 mX2_roomLeft.2.2.2.1 mX2_roomLeft.2.2.2.2 ∈ q_tb := ch_4 _ (List.mem_of_getElem? (i := 75) rfl) rfl
theorem cv_10_134 : q_CV RX10 134 mX2_roomLeft 0 := ⟨tb_915, tb_916, tb_917, tb_126, tb_918, ⟨by decide +kernel, by decide +kernel, by decide +kernel⟩, by decide⟩
theorem tb_923 : Cond.methodLink RX10 137 mX6_clear.2.1 ∈ q_tb := ch_4 _ (List.mem_of_getElem? (i := 80) rfl) rfl
theorem tb_191 : Cond.instanceMethod mX6_clear.2.1 ∈ q_tb := ch_1 _ (List.mem_of_getElem? (i := 68) rfl) rfl
theorem tb_192 : Cond.selects mX6_clear.2.1.cls mX6_clear.2.1 mX6_clear.2.1 ∈ q_tb := ch_1 _ (List.mem_of_getElem? (i := 69) rfl) rfl
theorem tb_127 : Cond.initialized mX6_clear.2.1.cls ∈ q_tb := ch_1 _ (List.mem_of_getElem? (i := 4) rfl) rfl
theorem tb_193 : Cond.code mX6_clear.2.1 mX6_clear.2.2.1 mX6_clear.2.2.2.1 mX6_clear.2.2.2.2 ∈ q_tb := ch_1 _ (List.mem_of_getElem? (i := 70) rfl) rfl
theorem cv_10_137 : q_CV RX10 137 mX6_clear 1 := ⟨tb_923, tb_191, tb_192, tb_127, tb_193, ⟨by decide +kernel, by decide +kernel, by decide +kernel⟩, by decide⟩
theorem tb_924 : Cond.methodLink RX10 140 mX1_perform.2.1 ∈ q_tb := ch_4 _ (List.mem_of_getElem? (i := 81) rfl) rfl
theorem tb_925 : Cond.instanceMethod mX1_perform.2.1 ∈ q_tb := ch_4 _ (List.mem_of_getElem? (i := 82) rfl) rfl
theorem tb_926 : Cond.selects mX1_perform.2.1.cls mX1_perform.2.1 mX1_perform.2.1 ∈ q_tb := ch_4 _ (List.mem_of_getElem? (i := 83) rfl) rfl
theorem tb_138 : Cond.initialized mX1_perform.2.1.cls ∈ q_tb := ch_1 _ (List.mem_of_getElem? (i := 15) rfl) rfl
theorem tb_927 : Cond.code mX1_perform.2.1 mX1_perform.2.2.1 mX1_perform.2.2.2.1 mX1_perform.2.2.2.2 ∈ q_tb := ch_4 _ (List.mem_of_getElem? (i := 84) rfl) rfl
theorem cv_10_140 : q_CV RX10 140 mX1_perform 5 := ⟨tb_924, tb_925, tb_926, tb_138, tb_927, ⟨by decide +kernel, by decide +kernel, by decide +kernel⟩, by decide⟩
theorem tb_1012 : Cond.methodLink RX10 147 mX1_deedPlace.2.1 ∈ q_tb := ch_4 _ (List.mem_of_getElem? (i := 169) rfl) rfl
theorem tb_1013 : Cond.instanceMethod mX1_deedPlace.2.1 ∈ q_tb := ch_4 _ (List.mem_of_getElem? (i := 170) rfl) rfl
theorem tb_1014 : Cond.selects mX1_deedPlace.2.1.cls mX1_deedPlace.2.1 mX1_deedPlace.2.1 ∈ q_tb := ch_4 _ (List.mem_of_getElem? (i := 171) rfl) rfl
theorem tb_1015 : Cond.code mX1_deedPlace.2.1 mX1_deedPlace.2.2.1 mX1_deedPlace.2.2.2.1 mX1_deedPlace.2.2.2.2 ∈ q_tb := ch_4 _ (List.mem_of_getElem? (i := 172) rfl) rfl
theorem cv_10_147 : q_CV RX10 147 mX1_deedPlace 0 := ⟨tb_1012, tb_1013, tb_1014, tb_138, tb_1015, ⟨by decide +kernel, by decide +kernel, by decide +kernel⟩, by decide⟩
theorem tb_1016 : Cond.methodLink RX10 150 mX2_tellAll.2.1 ∈ q_tb := ch_4 _ (List.mem_of_getElem? (i := 173) rfl) rfl
theorem tb_1017 : Cond.instanceMethod mX2_tellAll.2.1 ∈ q_tb := ch_4 _ (List.mem_of_getElem? (i := 174) rfl) rfl
theorem tb_1018 : Cond.selects mX2_tellAll.2.1.cls mX2_tellAll.2.1 mX2_tellAll.2.1 ∈ q_tb := ch_4 _ (List.mem_of_getElem? (i := 175) rfl) rfl
theorem tb_1019 : Cond.code mX2_tellAll.2.1 mX2_tellAll.2.2.1 mX2_tellAll.2.2.2.1 mX2_tellAll.2.2.2.2 ∈ q_tb := ch_4 _ (List.mem_of_getElem? (i := 176) rfl) rfl
theorem cv_10_150 : q_CV RX10 150 mX2_tellAll 1 := ⟨tb_1016, tb_1017, tb_1018, tb_126, tb_1019, ⟨by decide +kernel, by decide +kernel, by decide +kernel⟩, by decide⟩
theorem tb_1030 : Cond.methodLink RX10 153 mX6_size.2.1 ∈ q_tb := ch_4 _ (List.mem_of_getElem? (i := 187) rfl) rfl
theorem tb_903 : Cond.instanceMethod mX6_size.2.1 ∈ q_tb := ch_4 _ (List.mem_of_getElem? (i := 60) rfl) rfl
theorem tb_904 : Cond.selects mX6_size.2.1.cls mX6_size.2.1 mX6_size.2.1 ∈ q_tb := ch_4 _ (List.mem_of_getElem? (i := 61) rfl) rfl
theorem tb_905 : Cond.code mX6_size.2.1 mX6_size.2.2.1 mX6_size.2.2.2.1 mX6_size.2.2.2.2 ∈ q_tb := ch_4 _ (List.mem_of_getElem? (i := 62) rfl) rfl
theorem cv_10_153 : q_CV RX10 153 mX6_size 0 := ⟨tb_1030, tb_903, tb_904, tb_127, tb_905, ⟨by decide +kernel, by decide +kernel, by decide +kernel⟩, by decide⟩
theorem tb_1043 : Cond.methodLink RX10 154 mX4_needs.2.1 ∈ q_tb := ch_4 _ (List.mem_of_getElem? (i := 200) rfl) rfl
theorem tb_818 : Cond.instanceMethod mX4_needs.2.1 ∈ q_tb := ch_3 _ (List.mem_of_getElem? (i := 215) rfl) rfl
theorem tb_819 : Cond.selects mX4_needs.2.1.cls mX4_needs.2.1 mX4_needs.2.1 ∈ q_tb := ch_3 _ (List.mem_of_getElem? (i := 216) rfl) rfl
theorem tb_820 : Cond.code mX4_needs.2.1 mX4_needs.2.2.1 mX4_needs.2.2.2.1 mX4_needs.2.2.2.2 ∈ q_tb := ch_3 _ (List.mem_of_getElem? (i := 217) rfl) rfl
theorem cv_10_154 : q_CV RX10 154 mX4_needs 1 := ⟨tb_1043, tb_818, tb_819, tb_131, tb_820, ⟨by decide +kernel, by decide +kernel, by decide +kernel⟩, by decide⟩
theorem tb_1048 : Cond.methodLink RX10 158 mX2_has.2.1 ∈ q_tb := ch_4 _ (List.mem_of_getElem? (i := 205) rfl) rfl
theorem tb_899 : Cond.instanceMethod mX2_has.2.1 ∈ q_tb := ch_4 _ (List.mem_of_getElem? (i := 56) rfl) rfl
theorem tb_900 : Cond.selects mX2_has.2.1.cls mX2_has.2.1 mX2_has.2.1 ∈ q_tb := ch_4 _ (List.mem_of_getElem? (i := 57) rfl) rfl
theorem tb_901 : Cond.code mX2_has.2.1 mX2_has.2.2.1 mX2_has.2.2.2.1 mX2_has.2.2.2.2 ∈ q_tb := ch_4 _ (List.mem_of_getElem? (i := 58) rfl) rfl
theorem cv_10_158 : q_CV RX10 158 mX2_has 1 := ⟨tb_1048, tb_899, tb_900, tb_126, tb_901, ⟨by decide +kernel, by decide +kernel, by decide +kernel⟩, by decide⟩
theorem tb_1049 : Cond.methodLink RX10 159 mX2_facts.2.1 ∈ q_tb := ch_4 _ (List.mem_of_getElem? (i := 206) rfl) rfl
theorem tb_1050 : Cond.instanceMethod mX2_facts.2.1 ∈ q_tb := ch_4 _ (List.mem_of_getElem? (i := 207) rfl) rfl
theorem tb_1051 : Cond.selects mX2_facts.2.1.cls mX2_facts.2.1 mX2_facts.2.1 ∈ q_tb := ch_4 _ (List.mem_of_getElem? (i := 208) rfl) rfl
theorem tb_1052 : Cond.code mX2_facts.2.1 mX2_facts.2.2.1 mX2_facts.2.2.2.1 mX2_facts.2.2.2.2 ∈ q_tb := ch_4 _ (List.mem_of_getElem? (i := 209) rfl) rfl
theorem cv_10_159 : q_CV RX10 159 mX2_facts 0 := ⟨tb_1049, tb_1050, tb_1051, tb_126, tb_1052, ⟨by decide +kernel, by decide +kernel, by decide +kernel⟩, by decide⟩
theorem tb_1053 : Cond.methodLink RX10 163 mX6_kindOf.2.1 ∈ q_tb := ch_4 _ (List.mem_of_getElem? (i := 210) rfl) rfl
theorem tb_907 : Cond.instanceMethod mX6_kindOf.2.1 ∈ q_tb := ch_4 _ (List.mem_of_getElem? (i := 64) rfl) rfl
theorem tb_908 : Cond.selects mX6_kindOf.2.1.cls mX6_kindOf.2.1 mX6_kindOf.2.1 ∈ q_tb := ch_4 _ (List.mem_of_getElem? (i := 65) rfl) rfl
theorem tb_909 : Cond.code mX6_kindOf.2.1 mX6_kindOf.2.2.1 mX6_kindOf.2.2.2.1 mX6_kindOf.2.2.2.2 ∈ q_tb := ch_4 _ (List.mem_of_getElem? (i := 66) rfl) rfl
theorem cv_10_163 : q_CV RX10 163 mX6_kindOf 1 := ⟨tb_1053, tb_907, tb_908, tb_127, tb_909, ⟨by decide +kernel, by decide +kernel, by decide +kernel⟩, by decide⟩
theorem tb_1058 : Cond.methodLink RX10 166 mX6_numbersOf.2.1 ∈ q_tb := ch_4 _ (List.mem_of_getElem? (i := 215) rfl) rfl
theorem tb_830 : Cond.static mX6_numbersOf.2.1 ∈ q_tb := ch_3 _ (List.mem_of_getElem? (i := 227) rfl) rfl
theorem tb_831 : Cond.code mX6_numbersOf.2.1 mX6_numbersOf.2.2.1 mX6_numbersOf.2.2.2.1 mX6_numbersOf.2.2.2.2 ∈ q_tb := ch_3 _ (List.mem_of_getElem? (i := 228) rfl) rfl
theorem cv_10_166 : q_CS RX10 166 mX6_numbersOf 1 := ⟨tb_1058, tb_830, tb_127, tb_831, ⟨by decide +kernel, by decide +kernel, by decide +kernel⟩, by decide⟩
theorem tb_1059 : Cond.methodLink RX10 169 mX6_numberOf.2.1 ∈ q_tb := ch_4 _ (List.mem_of_getElem? (i := 216) rfl) rfl
theorem tb_1025 : Cond.instanceMethod mX6_numberOf.2.1 ∈ q_tb := ch_4 _ (List.mem_of_getElem? (i := 182) rfl) rfl
theorem tb_1026 : Cond.selects mX6_numberOf.2.1.cls mX6_numberOf.2.1 mX6_numberOf.2.1 ∈ q_tb := ch_4 _ (List.mem_of_getElem? (i := 183) rfl) rfl
theorem tb_1027 : Cond.code mX6_numberOf.2.1 mX6_numberOf.2.2.1 mX6_numberOf.2.2.2.1 mX6_numberOf.2.2.2.2 ∈ q_tb := ch_4 _ (List.mem_of_getElem? (i := 184) rfl) rfl
theorem cv_10_169 : q_CV RX10 169 mX6_numberOf 2 := ⟨tb_1059, tb_1025, tb_1026, tb_127, tb_1027, ⟨by decide +kernel, by decide +kernel, by decide +kernel⟩, by decide⟩
theorem tb_1064 : Cond.methodLink RX10 173 mX2_knows.2.1 ∈ q_tb := ch_4 _ (List.mem_of_getElem? (i := 221) rfl) rfl
theorem tb_1065 : Cond.instanceMethod mX2_knows.2.1 ∈ q_tb := ch_4 _ (List.mem_of_getElem? (i := 222) rfl) rfl
theorem tb_1066 : Cond.selects mX2_knows.2.1.cls mX2_knows.2.1 mX2_knows.2.1 ∈ q_tb := ch_4 _ (List.mem_of_getElem? (i := 223) rfl) rfl
theorem tb_1067 : Cond.code mX2_knows.2.1 mX2_knows.2.2.1 mX2_knows.2.2.2.1 mX2_knows.2.2.2.2 ∈ q_tb := ch_4 _ (List.mem_of_getElem? (i := 224) rfl) rfl
theorem cv_10_173 : q_CV RX10 173 mX2_knows 1 := ⟨tb_1064, tb_1065, tb_1066, tb_126, tb_1067, ⟨by decide +kernel, by decide +kernel, by decide +kernel⟩, by decide⟩
theorem tb_1068 : Cond.methodLink RX10 176 mX2_isOut.2.1 ∈ q_tb := ch_4 _ (List.mem_of_getElem? (i := 225) rfl) rfl
theorem tb_1069 : Cond.instanceMethod mX2_isOut.2.1 ∈ q_tb := ch_4 _ (List.mem_of_getElem? (i := 226) rfl) rfl
theorem tb_1070 : Cond.selects mX2_isOut.2.1.cls mX2_isOut.2.1 mX2_isOut.2.1 ∈ q_tb := ch_4 _ (List.mem_of_getElem? (i := 227) rfl) rfl
theorem tb_1071 : Cond.code mX2_isOut.2.1 mX2_isOut.2.2.1 mX2_isOut.2.2.2.1 mX2_isOut.2.2.2.2 ∈ q_tb := ch_4 _ (List.mem_of_getElem? (i := 228) rfl) rfl
theorem cv_10_176 : q_CV RX10 176 mX2_isOut 2 := ⟨tb_1068, tb_1069, tb_1070, tb_126, tb_1071, ⟨by decide +kernel, by decide +kernel, by decide +kernel⟩, by decide⟩
theorem tb_1085 : Cond.methodLink RX10 180 mX10_floatBath.2.1 ∈ q_tb := ch_5 _ (List.mem_of_getElem? (i := 2) rfl) rfl
theorem tb_1087 : Cond.instanceMethod mX10_floatBath.2.1 ∈ q_tb := ch_5 _ (List.mem_of_getElem? (i := 4) rfl) rfl
theorem tb_47 : Cond.selects mX10_floatBath.2.1.cls mX10_floatBath.2.1 mX10_floatBath.2.1 ∈ q_tb := ch_p3 _ (List.mem_of_getElem? (i := 15) rfl) rfl
theorem tb_1088 : Cond.code mX10_floatBath.2.1 mX10_floatBath.2.2.1 mX10_floatBath.2.2.2.1 mX10_floatBath.2.2.2.2 ∈ q_tb := ch_5 _ (List.mem_of_getElem? (i := 5) rfl) rfl
theorem cv_10_180 : q_CV RX10 180 mX10_floatBath 3 := ⟨tb_1085, tb_1087, tb_47, tb_124, tb_1088, ⟨by decide +kernel, by decide +kernel, by decide +kernel⟩, by decide⟩
theorem tb_1113 : Cond.methodLink RX10 184 mX0_colourOf.2.1 ∈ q_tb := ch_5 _ (List.mem_of_getElem? (i := 30) rfl) rfl
theorem tb_1114 : Cond.instanceMethod mX0_colourOf.2.1 ∈ q_tb := ch_5 _ (List.mem_of_getElem? (i := 31) rfl) rfl
theorem tb_1115 : Cond.selects mX0_colourOf.2.1.cls mX0_colourOf.2.1 mX0_colourOf.2.1 ∈ q_tb := ch_5 _ (List.mem_of_getElem? (i := 32) rfl) rfl
theorem tb_129 : Cond.initialized mX0_colourOf.2.1.cls ∈ q_tb := ch_1 _ (List.mem_of_getElem? (i := 6) rfl) rfl
theorem tb_1116 : Cond.code mX0_colourOf.2.1 mX0_colourOf.2.2.1 mX0_colourOf.2.2.2.1 mX0_colourOf.2.2.2.2 ∈ q_tb := ch_5 _ (List.mem_of_getElem? (i := 33) rfl) rfl
theorem cv_10_184 : q_CV RX10 184 mX0_colourOf 2 := ⟨tb_1113, tb_1114, tb_1115, tb_129, tb_1116, ⟨by decide +kernel, by decide +kernel, by decide +kernel⟩, by decide⟩
theorem tb_1160 : Cond.methodLink RX10 187 mX0_goBack.2.1 ∈ q_tb := ch_5 _ (List.mem_of_getElem? (i := 77) rfl) rfl
theorem tb_1118 : Cond.instanceMethod mX0_goBack.2.1 ∈ q_tb := ch_5 _ (List.mem_of_getElem? (i := 35) rfl) rfl
theorem tb_1119 : Cond.selects mX0_goBack.2.1.cls mX0_goBack.2.1 mX0_goBack.2.1 ∈ q_tb := ch_5 _ (List.mem_of_getElem? (i := 36) rfl) rfl
theorem tb_1120 : Cond.code mX0_goBack.2.1 mX0_goBack.2.2.1 mX0_goBack.2.2.2.1 mX0_goBack.2.2.2.2 ∈ q_tb := ch_5 _ (List.mem_of_getElem? (i := 37) rfl) rfl
theorem cv_10_187 : q_CV RX10 187 mX0_goBack 2 := ⟨tb_1160, tb_1118, tb_1119, tb_129, tb_1120, ⟨by decide +kernel, by decide +kernel, by decide +kernel⟩, by decide⟩
theorem tb_1161 : Cond.methodLink RX10 190 mX0_reachedX.2.1 ∈ q_tb := ch_5 _ (List.mem_of_getElem? (i := 78) rfl) rfl
theorem tb_1162 : Cond.instanceMethod mX0_reachedX.2.1 ∈ q_tb := ch_5 _ (List.mem_of_getElem? (i := 79) rfl) rfl
theorem tb_1163 : Cond.selects mX0_reachedX.2.1.cls mX0_reachedX.2.1 mX0_reachedX.2.1 ∈ q_tb := ch_5 _ (List.mem_of_getElem? (i := 80) rfl) rfl
theorem tb_1164 : Cond.code mX0_reachedX.2.1 mX0_reachedX.2.2.1 mX0_reachedX.2.2.2.1 mX0_reachedX.2.2.2.2 ∈ q_tb := ch_5 _ (List.mem_of_getElem? (i := 81) rfl) rfl
theorem cv_10_190 : q_CV RX10 190 mX0_reachedX 0 := ⟨tb_1161, tb_1162, tb_1163, tb_129, tb_1164, ⟨by decide +kernel, by decide +kernel, by decide +kernel⟩, by decide⟩
theorem tb_1165 : Cond.methodLink RX10 193 mX0_reachedY.2.1 ∈ q_tb := ch_5 _ (List.mem_of_getElem? (i := 82) rfl) rfl
theorem tb_1166 : Cond.instanceMethod mX0_reachedY.2.1 ∈ q_tb := ch_5 _ (List.mem_of_getElem? (i := 83) rfl) rfl
theorem tb_1167 : Cond.selects mX0_reachedY.2.1.cls mX0_reachedY.2.1 mX0_reachedY.2.1 ∈ q_tb := ch_5 _ (List.mem_of_getElem? (i := 84) rfl) rfl
theorem tb_1168 : Cond.code mX0_reachedY.2.1 mX0_reachedY.2.2.1 mX0_reachedY.2.2.2.1 mX0_reachedY.2.2.2.2 ∈ q_tb := ch_5 _ (List.mem_of_getElem? (i := 85) rfl) rfl
theorem cv_10_193 : q_CV RX10 193 mX0_reachedY 0 := ⟨tb_1165, tb_1166, tb_1167, tb_129, tb_1168, ⟨by decide +kernel, by decide +kernel, by decide +kernel⟩, by decide⟩
theorem tb_1173 : Cond.methodLink RX10 196 mX0_goForth.2.1 ∈ q_tb := ch_5 _ (List.mem_of_getElem? (i := 90) rfl) rfl
theorem tb_1174 : Cond.instanceMethod mX0_goForth.2.1 ∈ q_tb := ch_5 _ (List.mem_of_getElem? (i := 91) rfl) rfl
theorem tb_1175 : Cond.selects mX0_goForth.2.1.cls mX0_goForth.2.1 mX0_goForth.2.1 ∈ q_tb := ch_5 _ (List.mem_of_getElem? (i := 92) rfl) rfl
theorem tb_1176 : Cond.code mX0_goForth.2.1 mX0_goForth.2.2.1 mX0_goForth.2.2.2.1 mX0_goForth.2.2.2.2 ∈ q_tb := ch_5 _ (List.mem_of_getElem? (i := 93) rfl) rfl
theorem cv_10_196 : q_CV RX10 196 mX0_goForth 2 := ⟨tb_1173, tb_1174, tb_1175, tb_129, tb_1176, ⟨by decide +kernel, by decide +kernel, by decide +kernel⟩, by decide⟩
theorem tb_1185 : Cond.methodLink RX10 199 Lib.Math.abs.name ∈ q_tb := ch_5 _ (List.mem_of_getElem? (i := 102) rfl) rfl
theorem tb_1186 : Cond.static Lib.Math.abs.name ∈ q_tb := ch_5 _ (List.mem_of_getElem? (i := 103) rfl) rfl
theorem tb_128 : Cond.initialized "java/lang/Math" ∈ q_tb := ch_1 _ (List.mem_of_getElem? (i := 5) rfl) rfl
theorem tb_1187 : Cond.code Lib.Math.abs.name Lib.Math.abs.code 1 (some .int) ∈ q_tb := ch_5 _ (List.mem_of_getElem? (i := 104) rfl) rfl
theorem cv_10_199 : q_CM RX10 199 Lib.Math.abs.name Lib.Math.abs.code 1 := ⟨tb_1185, tb_1186, tb_128, tb_1187⟩
theorem tb_1092 : Cond.methodLink RX10 204 mX2_laysKnown.2.1 ∈ q_tb := ch_5 _ (List.mem_of_getElem? (i := 9) rfl) rfl
theorem tb_1093 : Cond.instanceMethod mX2_laysKnown.2.1 ∈ q_tb := ch_5 _ (List.mem_of_getElem? (i := 10) rfl) rfl
theorem tb_1094 : Cond.selects mX2_laysKnown.2.1.cls mX2_laysKnown.2.1 mX2_laysKnown.2.1 ∈ q_tb := ch_5 _ (List.mem_of_getElem? (i := 11) rfl) rfl
theorem tb_1095 : Cond.code mX2_laysKnown.2.1 mX2_laysKnown.2.2.1 mX2_laysKnown.2.2.2.1 mX2_laysKnown.2.2.2.2 ∈ q_tb := ch_5 _ (List.mem_of_getElem? (i := 12) rfl) rfl
theorem cv_10_204 : q_CV RX10 204 mX2_laysKnown 1 := ⟨tb_1092, tb_1093, tb_1094, tb_126, tb_1095, ⟨by decide +kernel, by decide +kernel, by decide +kernel⟩, by decide⟩
theorem tb_1196 : Cond.methodLink RX10 207 mX8_isCell.2.1 ∈ q_tb := ch_5 _ (List.mem_of_getElem? (i := 113) rfl) rfl
theorem tb_1197 : Cond.static mX8_isCell.2.1 ∈ q_tb := ch_5 _ (List.mem_of_getElem? (i := 114) rfl) rfl
theorem tb_130 : Cond.initialized mX8_isCell.2.1.cls ∈ q_tb := ch_1 _ (List.mem_of_getElem? (i := 7) rfl) rfl
theorem tb_1198 : Cond.code mX8_isCell.2.1 mX8_isCell.2.2.1 mX8_isCell.2.2.2.1 mX8_isCell.2.2.2.2 ∈ q_tb := ch_5 _ (List.mem_of_getElem? (i := 115) rfl) rfl
theorem cv_10_207 : q_CS RX10 207 mX8_isCell 2 := ⟨tb_1196, tb_1197, tb_130, tb_1198, ⟨by decide +kernel, by decide +kernel, by decide +kernel⟩, by decide⟩
theorem tb_1199 : Cond.methodLink RX10 210 mX10_takeSheet.2.1 ∈ q_tb := ch_5 _ (List.mem_of_getElem? (i := 116) rfl) rfl
theorem tb_1201 : Cond.instanceMethod mX10_takeSheet.2.1 ∈ q_tb := ch_5 _ (List.mem_of_getElem? (i := 118) rfl) rfl
theorem tb_54 : Cond.selects mX10_takeSheet.2.1.cls mX10_takeSheet.2.1 mX10_takeSheet.2.1 ∈ q_tb := ch_p4 _ (List.mem_of_getElem? (i := 6) rfl) rfl
theorem tb_1202 : Cond.code mX10_takeSheet.2.1 mX10_takeSheet.2.2.1 mX10_takeSheet.2.2.2.1 mX10_takeSheet.2.2.2.2 ∈ q_tb := ch_5 _ (List.mem_of_getElem? (i := 119) rfl) rfl
theorem cv_10_210 : q_CV RX10 210 mX10_takeSheet 3 := ⟨tb_1199, tb_1201, tb_54, tb_124, tb_1202, ⟨by decide +kernel, by decide +kernel, by decide +kernel⟩, by decide⟩
theorem tb_1224 : Cond.methodLink RX10 214 mX8_colourOf.2.1 ∈ q_tb := ch_5 _ (List.mem_of_getElem? (i := 141) rfl) rfl
theorem tb_1225 : Cond.instanceMethod mX8_colourOf.2.1 ∈ q_tb := ch_5 _ (List.mem_of_getElem? (i := 142) rfl) rfl
theorem tb_1226 : Cond.selects mX8_colourOf.2.1.cls mX8_colourOf.2.1 mX8_colourOf.2.1 ∈ q_tb := ch_5 _ (List.mem_of_getElem? (i := 143) rfl) rfl
theorem tb_1227 : Cond.code mX8_colourOf.2.1 mX8_colourOf.2.2.1 mX8_colourOf.2.2.2.1 mX8_colourOf.2.2.2.2 ∈ q_tb := ch_5 _ (List.mem_of_getElem? (i := 144) rfl) rfl
theorem cv_10_214 : q_CV RX10 214 mX8_colourOf 2 := ⟨tb_1224, tb_1225, tb_1226, tb_130, tb_1227, ⟨by decide +kernel, by decide +kernel, by decide +kernel⟩, by decide⟩
theorem tb_1233 : Cond.methodLink RX10 215 mX8_areaOf.2.1 ∈ q_tb := ch_5 _ (List.mem_of_getElem? (i := 150) rfl) rfl
theorem tb_1234 : Cond.instanceMethod mX8_areaOf.2.1 ∈ q_tb := ch_5 _ (List.mem_of_getElem? (i := 151) rfl) rfl
theorem tb_1235 : Cond.selects mX8_areaOf.2.1.cls mX8_areaOf.2.1 mX8_areaOf.2.1 ∈ q_tb := ch_5 _ (List.mem_of_getElem? (i := 152) rfl) rfl
theorem tb_1236 : Cond.code mX8_areaOf.2.1 mX8_areaOf.2.2.1 mX8_areaOf.2.2.2.1 mX8_areaOf.2.2.2.2 ∈ q_tb := ch_5 _ (List.mem_of_getElem? (i := 153) rfl) rfl
theorem cv_10_215 : q_CV RX10 215 mX8_areaOf 1 := ⟨tb_1233, tb_1234, tb_1235, tb_130, tb_1236, ⟨by decide +kernel, by decide +kernel, by decide +kernel⟩, by decide⟩
theorem tb_1241 : Cond.methodLink RX10 218 mX8_countPieces.2.1 ∈ q_tb := ch_5 _ (List.mem_of_getElem? (i := 158) rfl) rfl
theorem tb_1242 : Cond.instanceMethod mX8_countPieces.2.1 ∈ q_tb := ch_5 _ (List.mem_of_getElem? (i := 159) rfl) rfl
theorem tb_1243 : Cond.selects mX8_countPieces.2.1.cls mX8_countPieces.2.1 mX8_countPieces.2.1 ∈ q_tb := ch_5 _ (List.mem_of_getElem? (i := 160) rfl) rfl
theorem tb_1244 : Cond.code mX8_countPieces.2.1 mX8_countPieces.2.2.1 mX8_countPieces.2.2.2.1 mX8_countPieces.2.2.2.2 ∈ q_tb := ch_5 _ (List.mem_of_getElem? (i := 161) rfl) rfl
theorem cv_10_218 : q_CV RX10 218 mX8_countPieces 0 := ⟨tb_1241, tb_1242, tb_1243, tb_130, tb_1244, ⟨by decide +kernel, by decide +kernel, by decide +kernel⟩, by decide⟩
theorem tb_1263 : Cond.methodLink RX10 221 mX8_largestPiece.2.1 ∈ q_tb := ch_5 _ (List.mem_of_getElem? (i := 180) rfl) rfl
theorem tb_1264 : Cond.instanceMethod mX8_largestPiece.2.1 ∈ q_tb := ch_5 _ (List.mem_of_getElem? (i := 181) rfl) rfl
theorem tb_1265 : Cond.selects mX8_largestPiece.2.1.cls mX8_largestPiece.2.1 mX8_largestPiece.2.1 ∈ q_tb := ch_5 _ (List.mem_of_getElem? (i := 182) rfl) rfl
theorem tb_1266 : Cond.code mX8_largestPiece.2.1 mX8_largestPiece.2.2.1 mX8_largestPiece.2.2.2.1 mX8_largestPiece.2.2.2.2 ∈ q_tb := ch_5 _ (List.mem_of_getElem? (i := 183) rfl) rfl
theorem cv_10_221 : q_CV RX10 221 mX8_largestPiece 0 := ⟨tb_1263, tb_1264, tb_1265, tb_130, tb_1266, ⟨by decide +kernel, by decide +kernel, by decide +kernel⟩, by decide⟩
theorem tb_1271 : Cond.methodLink RX10 224 mX10_takeBoth.2.1 ∈ q_tb := ch_5 _ (List.mem_of_getElem? (i := 188) rfl) rfl
theorem tb_1273 : Cond.instanceMethod mX10_takeBoth.2.1 ∈ q_tb := ch_5 _ (List.mem_of_getElem? (i := 190) rfl) rfl
theorem tb_60 : Cond.selects mX10_takeBoth.2.1.cls mX10_takeBoth.2.1 mX10_takeBoth.2.1 ∈ q_tb := ch_p4 _ (List.mem_of_getElem? (i := 12) rfl) rfl
theorem tb_1274 : Cond.code mX10_takeBoth.2.1 mX10_takeBoth.2.2.1 mX10_takeBoth.2.2.2.1 mX10_takeBoth.2.2.2.2 ∈ q_tb := ch_5 _ (List.mem_of_getElem? (i := 191) rfl) rfl
theorem cv_10_224 : q_CV RX10 224 mX10_takeBoth 3 := ⟨tb_1271, tb_1273, tb_60, tb_124, tb_1274, ⟨by decide +kernel, by decide +kernel, by decide +kernel⟩, by decide⟩
theorem tb_1275 : Cond.methodLink RX10 227 mX8_edgesUnlike.2.1 ∈ q_tb := ch_5 _ (List.mem_of_getElem? (i := 192) rfl) rfl
theorem tb_1276 : Cond.instanceMethod mX8_edgesUnlike.2.1 ∈ q_tb := ch_5 _ (List.mem_of_getElem? (i := 193) rfl) rfl
theorem tb_1277 : Cond.selects mX8_edgesUnlike.2.1.cls mX8_edgesUnlike.2.1 mX8_edgesUnlike.2.1 ∈ q_tb := ch_5 _ (List.mem_of_getElem? (i := 194) rfl) rfl
theorem tb_1278 : Cond.code mX8_edgesUnlike.2.1 mX8_edgesUnlike.2.2.1 mX8_edgesUnlike.2.2.2.1 mX8_edgesUnlike.2.2.2.2 ∈ q_tb := ch_5 _ (List.mem_of_getElem? (i := 195) rfl) rfl
theorem cv_10_227 : q_CV RX10 227 mX8_edgesUnlike 2 := ⟨tb_1275, tb_1276, tb_1277, tb_130, tb_1278, ⟨by decide +kernel, by decide +kernel, by decide +kernel⟩, by decide⟩
theorem tb_1283 : Cond.methodLink RX10 231 mX8_bestShift.2.1 ∈ q_tb := ch_5 _ (List.mem_of_getElem? (i := 200) rfl) rfl
theorem tb_1284 : Cond.instanceMethod mX8_bestShift.2.1 ∈ q_tb := ch_5 _ (List.mem_of_getElem? (i := 201) rfl) rfl
theorem tb_1285 : Cond.selects mX8_bestShift.2.1.cls mX8_bestShift.2.1 mX8_bestShift.2.1 ∈ q_tb := ch_5 _ (List.mem_of_getElem? (i := 202) rfl) rfl
theorem tb_1286 : Cond.code mX8_bestShift.2.1 mX8_bestShift.2.2.1 mX8_bestShift.2.2.2.1 mX8_bestShift.2.2.2.2 ∈ q_tb := ch_5 _ (List.mem_of_getElem? (i := 203) rfl) rfl
theorem cv_10_231 : q_CV RX10 231 mX8_bestShift 1 := ⟨tb_1283, tb_1284, tb_1285, tb_130, tb_1286, ⟨by decide +kernel, by decide +kernel, by decide +kernel⟩, by decide⟩
theorem tb_1293 : Cond.methodLink RX10 235 mX8_cellsUnlike.2.1 ∈ q_tb := ch_5 _ (List.mem_of_getElem? (i := 210) rfl) rfl
theorem tb_1294 : Cond.instanceMethod mX8_cellsUnlike.2.1 ∈ q_tb := ch_5 _ (List.mem_of_getElem? (i := 211) rfl) rfl
theorem tb_1295 : Cond.selects mX8_cellsUnlike.2.1.cls mX8_cellsUnlike.2.1 mX8_cellsUnlike.2.1 ∈ q_tb := ch_5 _ (List.mem_of_getElem? (i := 212) rfl) rfl
theorem tb_1296 : Cond.code mX8_cellsUnlike.2.1 mX8_cellsUnlike.2.2.1 mX8_cellsUnlike.2.2.2.1 mX8_cellsUnlike.2.2.2.2 ∈ q_tb := ch_5 _ (List.mem_of_getElem? (i := 213) rfl) rfl
theorem cv_10_235 : q_CV RX10 235 mX8_cellsUnlike 1 := ⟨tb_1293, tb_1294, tb_1295, tb_130, tb_1296, ⟨by decide +kernel, by decide +kernel, by decide +kernel⟩, by decide⟩
theorem tb_1301 : Cond.methodLink RX10 238 mX3_seekBest.2.1 ∈ q_tb := ch_5 _ (List.mem_of_getElem? (i := 218) rfl) rfl
theorem tb_1302 : Cond.instanceMethod mX3_seekBest.2.1 ∈ q_tb := ch_5 _ (List.mem_of_getElem? (i := 219) rfl) rfl
theorem tb_1303 : Cond.selects mX3_seekBest.2.1.cls mX3_seekBest.2.1 mX3_seekBest.2.1 ∈ q_tb := ch_5 _ (List.mem_of_getElem? (i := 220) rfl) rfl
theorem tb_139 : Cond.initialized mX3_seekBest.2.1.cls ∈ q_tb := ch_1 _ (List.mem_of_getElem? (i := 16) rfl) rfl
theorem tb_1304 : Cond.code mX3_seekBest.2.1 mX3_seekBest.2.2.1 mX3_seekBest.2.2.2.1 mX3_seekBest.2.2.2.2 ∈ q_tb := ch_5 _ (List.mem_of_getElem? (i := 221) rfl) rfl
theorem cv_10_238 : q_CV RX10 238 mX3_seekBest 2 := ⟨tb_1301, tb_1302, tb_1303, tb_139, tb_1304, ⟨by decide +kernel, by decide +kernel, by decide +kernel⟩, by decide⟩
theorem tb_1324 : Cond.methodLink RX10 242 mX3_bestMade.2.1 ∈ q_tb := ch_6 _ (List.mem_of_getElem? (i := 1) rfl) rfl
theorem tb_1325 : Cond.instanceMethod mX3_bestMade.2.1 ∈ q_tb := ch_6 _ (List.mem_of_getElem? (i := 2) rfl) rfl
theorem tb_1326 : Cond.selects mX3_bestMade.2.1.cls mX3_bestMade.2.1 mX3_bestMade.2.1 ∈ q_tb := ch_6 _ (List.mem_of_getElem? (i := 3) rfl) rfl
theorem tb_1327 : Cond.code mX3_bestMade.2.1 mX3_bestMade.2.2.1 mX3_bestMade.2.2.2.1 mX3_bestMade.2.2.2.2 ∈ q_tb := ch_6 _ (List.mem_of_getElem? (i := 4) rfl) rfl
theorem cv_10_242 : q_CV RX10 242 mX3_bestMade 0 := ⟨tb_1324, tb_1325, tb_1326, tb_139, tb_1327, ⟨by decide +kernel, by decide +kernel, by decide +kernel⟩, by decide⟩
theorem tb_1332 : Cond.methodLink RX10 245 mX3_bestOff.2.1 ∈ q_tb := ch_6 _ (List.mem_of_getElem? (i := 9) rfl) rfl
theorem tb_1333 : Cond.instanceMethod mX3_bestOff.2.1 ∈ q_tb := ch_6 _ (List.mem_of_getElem? (i := 10) rfl) rfl
theorem tb_1334 : Cond.selects mX3_bestOff.2.1.cls mX3_bestOff.2.1 mX3_bestOff.2.1 ∈ q_tb := ch_6 _ (List.mem_of_getElem? (i := 11) rfl) rfl
theorem tb_1335 : Cond.code mX3_bestOff.2.1 mX3_bestOff.2.2.1 mX3_bestOff.2.2.2.1 mX3_bestOff.2.2.2.2 ∈ q_tb := ch_6 _ (List.mem_of_getElem? (i := 12) rfl) rfl
theorem cv_10_245 : q_CV RX10 245 mX3_bestOff 0 := ⟨tb_1332, tb_1333, tb_1334, tb_139, tb_1335, ⟨by decide +kernel, by decide +kernel, by decide +kernel⟩, by decide⟩
theorem tb_1340 : Cond.methodLink RX10 248 mX3_seekRow.2.1 ∈ q_tb := ch_6 _ (List.mem_of_getElem? (i := 17) rfl) rfl
theorem tb_1341 : Cond.instanceMethod mX3_seekRow.2.1 ∈ q_tb := ch_6 _ (List.mem_of_getElem? (i := 18) rfl) rfl
theorem tb_1342 : Cond.selects mX3_seekRow.2.1.cls mX3_seekRow.2.1 mX3_seekRow.2.1 ∈ q_tb := ch_6 _ (List.mem_of_getElem? (i := 19) rfl) rfl
theorem tb_1343 : Cond.code mX3_seekRow.2.1 mX3_seekRow.2.2.1 mX3_seekRow.2.2.2.1 mX3_seekRow.2.2.2.2 ∈ q_tb := ch_6 _ (List.mem_of_getElem? (i := 20) rfl) rfl
theorem cv_10_248 : q_CV RX10 248 mX3_seekRow 3 := ⟨tb_1340, tb_1341, tb_1342, tb_139, tb_1343, ⟨by decide +kernel, by decide +kernel, by decide +kernel⟩, by decide⟩
theorem tb_1370 : Cond.methodLink RX10 252 mX3_foundLength.2.1 ∈ q_tb := ch_6 _ (List.mem_of_getElem? (i := 47) rfl) rfl
theorem tb_1371 : Cond.instanceMethod mX3_foundLength.2.1 ∈ q_tb := ch_6 _ (List.mem_of_getElem? (i := 48) rfl) rfl
theorem tb_1372 : Cond.selects mX3_foundLength.2.1.cls mX3_foundLength.2.1 mX3_foundLength.2.1 ∈ q_tb := ch_6 _ (List.mem_of_getElem? (i := 49) rfl) rfl
theorem tb_1373 : Cond.code mX3_foundLength.2.1 mX3_foundLength.2.2.1 mX3_foundLength.2.2.2.1 mX3_foundLength.2.2.2.2 ∈ q_tb := ch_6 _ (List.mem_of_getElem? (i := 50) rfl) rfl
theorem cv_10_252 : q_CV RX10 252 mX3_foundLength 0 := ⟨tb_1370, tb_1371, tb_1372, tb_139, tb_1373, ⟨by decide +kernel, by decide +kernel, by decide +kernel⟩, by decide⟩
theorem tb_1378 : Cond.methodLink RX10 255 mX3_foundAt.2.1 ∈ q_tb := ch_6 _ (List.mem_of_getElem? (i := 55) rfl) rfl
theorem tb_1379 : Cond.instanceMethod mX3_foundAt.2.1 ∈ q_tb := ch_6 _ (List.mem_of_getElem? (i := 56) rfl) rfl
theorem tb_1380 : Cond.selects mX3_foundAt.2.1.cls mX3_foundAt.2.1 mX3_foundAt.2.1 ∈ q_tb := ch_6 _ (List.mem_of_getElem? (i := 57) rfl) rfl
theorem tb_1381 : Cond.code mX3_foundAt.2.1 mX3_foundAt.2.2.1 mX3_foundAt.2.2.2.1 mX3_foundAt.2.2.2.2 ∈ q_tb := ch_6 _ (List.mem_of_getElem? (i := 58) rfl) rfl
theorem cv_10_255 : q_CV RX10 255 mX3_foundAt 1 := ⟨tb_1378, tb_1379, tb_1380, tb_139, tb_1381, ⟨by decide +kernel, by decide +kernel, by decide +kernel⟩, by decide⟩
theorem tb_1386 : Cond.methodLink RX10 258 mX4_size.2.1 ∈ q_tb := ch_6 _ (List.mem_of_getElem? (i := 63) rfl) rfl
theorem tb_706 : Cond.instanceMethod mX4_size.2.1 ∈ q_tb := ch_3 _ (List.mem_of_getElem? (i := 103) rfl) rfl
theorem tb_707 : Cond.selects mX4_size.2.1.cls mX4_size.2.1 mX4_size.2.1 ∈ q_tb := ch_3 _ (List.mem_of_getElem? (i := 104) rfl) rfl
theorem tb_708 : Cond.code mX4_size.2.1 mX4_size.2.2.1 mX4_size.2.2.2.1 mX4_size.2.2.2.2 ∈ q_tb := ch_3 _ (List.mem_of_getElem? (i := 105) rfl) rfl
theorem cv_10_258 : q_CV RX10 258 mX4_size 0 := ⟨tb_1386, tb_706, tb_707, tb_131, tb_708, ⟨by decide +kernel, by decide +kernel, by decide +kernel⟩, by decide⟩
theorem tb_1387 : Cond.methodLink RX10 259 mX2_size.2.1 ∈ q_tb := ch_6 _ (List.mem_of_getElem? (i := 64) rfl) rfl
theorem tb_1388 : Cond.instanceMethod mX2_size.2.1 ∈ q_tb := ch_6 _ (List.mem_of_getElem? (i := 65) rfl) rfl
theorem tb_1389 : Cond.selects mX2_size.2.1.cls mX2_size.2.1 mX2_size.2.1 ∈ q_tb := ch_6 _ (List.mem_of_getElem? (i := 66) rfl) rfl
theorem tb_1390 : Cond.code mX2_size.2.1 mX2_size.2.2.1 mX2_size.2.2.2.1 mX2_size.2.2.2.2 ∈ q_tb := ch_6 _ (List.mem_of_getElem? (i := 67) rfl) rfl
theorem cv_10_259 : q_CV RX10 259 mX2_size 0 := ⟨tb_1387, tb_1388, tb_1389, tb_126, tb_1390, ⟨by decide +kernel, by decide +kernel, by decide +kernel⟩, by decide⟩
theorem tb_1096 : Cond.methodLink RX10 260 mX2_pickStrokes.2.1 ∈ q_tb := ch_5 _ (List.mem_of_getElem? (i := 13) rfl) rfl
theorem tb_1097 : Cond.instanceMethod mX2_pickStrokes.2.1 ∈ q_tb := ch_5 _ (List.mem_of_getElem? (i := 14) rfl) rfl
theorem tb_1098 : Cond.selects mX2_pickStrokes.2.1.cls mX2_pickStrokes.2.1 mX2_pickStrokes.2.1 ∈ q_tb := ch_5 _ (List.mem_of_getElem? (i := 15) rfl) rfl
theorem tb_1099 : Cond.code mX2_pickStrokes.2.1 mX2_pickStrokes.2.2.1 mX2_pickStrokes.2.2.2.1 mX2_pickStrokes.2.2.2.2 ∈ q_tb := ch_5 _ (List.mem_of_getElem? (i := 16) rfl) rfl
theorem cv_10_260 : q_CV RX10 260 mX2_pickStrokes 3 := ⟨tb_1096, tb_1097, tb_1098, tb_126, tb_1099, ⟨by decide +kernel, by decide +kernel, by decide +kernel⟩, by decide⟩
theorem tb_1391 : Cond.methodLink RX10 264 mX0_size.2.1 ∈ q_tb := ch_6 _ (List.mem_of_getElem? (i := 68) rfl) rfl
theorem tb_1392 : Cond.instanceMethod mX0_size.2.1 ∈ q_tb := ch_6 _ (List.mem_of_getElem? (i := 69) rfl) rfl
theorem tb_1393 : Cond.selects mX0_size.2.1.cls mX0_size.2.1 mX0_size.2.1 ∈ q_tb := ch_6 _ (List.mem_of_getElem? (i := 70) rfl) rfl
theorem tb_1394 : Cond.code mX0_size.2.1 mX0_size.2.2.1 mX0_size.2.2.2.1 mX0_size.2.2.2.2 ∈ q_tb := ch_6 _ (List.mem_of_getElem? (i := 71) rfl) rfl
theorem cv_10_264 : q_CV RX10 264 mX0_size 0 := ⟨tb_1391, tb_1392, tb_1393, tb_129, tb_1394, ⟨by decide +kernel, by decide +kernel, by decide +kernel⟩, by decide⟩
theorem tb_1089 : Cond.methodLink RX10 265 mX0_isPoint.2.1 ∈ q_tb := ch_5 _ (List.mem_of_getElem? (i := 6) rfl) rfl
theorem tb_1090 : Cond.static mX0_isPoint.2.1 ∈ q_tb := ch_5 _ (List.mem_of_getElem? (i := 7) rfl) rfl
theorem tb_1091 : Cond.code mX0_isPoint.2.1 mX0_isPoint.2.2.1 mX0_isPoint.2.2.2.1 mX0_isPoint.2.2.2.2 ∈ q_tb := ch_5 _ (List.mem_of_getElem? (i := 8) rfl) rfl
theorem cv_10_265 : q_CS RX10 265 mX0_isPoint 2 := ⟨tb_1089, tb_1090, tb_129, tb_1091, ⟨by decide +kernel, by decide +kernel, by decide +kernel⟩, by decide⟩
theorem tb_1203 : Cond.methodLink RX10 268 mX8_holds.2.1 ∈ q_tb := ch_5 _ (List.mem_of_getElem? (i := 120) rfl) rfl
theorem tb_1204 : Cond.instanceMethod mX8_holds.2.1 ∈ q_tb := ch_5 _ (List.mem_of_getElem? (i := 121) rfl) rfl
theorem tb_1205 : Cond.selects mX8_holds.2.1.cls mX8_holds.2.1 mX8_holds.2.1 ∈ q_tb := ch_5 _ (List.mem_of_getElem? (i := 122) rfl) rfl
theorem tb_1206 : Cond.code mX8_holds.2.1 mX8_holds.2.2.1 mX8_holds.2.2.2.1 mX8_holds.2.2.2.2 ∈ q_tb := ch_5 _ (List.mem_of_getElem? (i := 123) rfl) rfl
theorem cv_10_268 : q_CV RX10 268 mX8_holds 2 := ⟨tb_1203, tb_1204, tb_1205, tb_130, tb_1206, ⟨by decide +kernel, by decide +kernel, by decide +kernel⟩, by decide⟩
theorem tb_1207 : Cond.methodLink RX10 271 mX8_fill.2.1 ∈ q_tb := ch_5 _ (List.mem_of_getElem? (i := 124) rfl) rfl
theorem tb_1208 : Cond.instanceMethod mX8_fill.2.1 ∈ q_tb := ch_5 _ (List.mem_of_getElem? (i := 125) rfl) rfl
theorem tb_1209 : Cond.selects mX8_fill.2.1.cls mX8_fill.2.1 mX8_fill.2.1 ∈ q_tb := ch_5 _ (List.mem_of_getElem? (i := 126) rfl) rfl
theorem tb_1210 : Cond.code mX8_fill.2.1 mX8_fill.2.2.1 mX8_fill.2.2.2.1 mX8_fill.2.2.2.2 ∈ q_tb := ch_5 _ (List.mem_of_getElem? (i := 127) rfl) rfl
theorem cv_10_271 : q_CV RX10 271 mX8_fill 2 := ⟨tb_1207, tb_1208, tb_1209, tb_130, tb_1210, ⟨by decide +kernel, by decide +kernel, by decide +kernel⟩, by decide⟩
theorem tb_1220 : Cond.methodLink RX10 275 mX8_keepAs.2.1 ∈ q_tb := ch_5 _ (List.mem_of_getElem? (i := 137) rfl) rfl
theorem tb_1221 : Cond.instanceMethod mX8_keepAs.2.1 ∈ q_tb := ch_5 _ (List.mem_of_getElem? (i := 138) rfl) rfl
theorem tb_1222 : Cond.selects mX8_keepAs.2.1.cls mX8_keepAs.2.1 mX8_keepAs.2.1 ∈ q_tb := ch_5 _ (List.mem_of_getElem? (i := 139) rfl) rfl
theorem tb_1223 : Cond.code mX8_keepAs.2.1 mX8_keepAs.2.2.1 mX8_keepAs.2.2.2.1 mX8_keepAs.2.2.2.2 ∈ q_tb := ch_5 _ (List.mem_of_getElem? (i := 140) rfl) rfl
theorem cv_10_275 : q_CV RX10 275 mX8_keepAs 2 := ⟨tb_1220, tb_1221, tb_1222, tb_130, tb_1223, ⟨by decide +kernel, by decide +kernel, by decide +kernel⟩, by decide⟩
theorem tb_1104 : Cond.methodLink RX0 23 Lib.Math.min.name ∈ q_tb := ch_5 _ (List.mem_of_getElem? (i := 21) rfl) rfl
theorem tb_202 : Cond.static Lib.Math.min.name ∈ q_tb := ch_1 _ (List.mem_of_getElem? (i := 79) rfl) rfl
theorem tb_203 : Cond.code Lib.Math.min.name Lib.Math.min.code 2 (some .int) ∈ q_tb := ch_1 _ (List.mem_of_getElem? (i := 80) rfl) rfl
theorem cv_0_23 : q_CM RX0 23 Lib.Math.min.name Lib.Math.min.code 2 := ⟨tb_1104, tb_202, tb_128, tb_203⟩
theorem tb_1117 : Cond.methodLink RX0 38 mX0_goBack.2.1 ∈ q_tb := ch_5 _ (List.mem_of_getElem? (i := 34) rfl) rfl
theorem cv_0_38 : q_CV RX0 38 mX0_goBack 2 := ⟨tb_1117, tb_1118, tb_1119, tb_129, tb_1120, ⟨by decide +kernel, by decide +kernel, by decide +kernel⟩, by decide⟩
theorem tb_1127 : Cond.methodLink RX0 41 mX6_numberOf.2.1 ∈ q_tb := ch_5 _ (List.mem_of_getElem? (i := 44) rfl) rfl
theorem cv_0_41 : q_CV RX0 41 mX6_numberOf 2 := ⟨tb_1127, tb_1025, tb_1026, tb_127, tb_1027, ⟨by decide +kernel, by decide +kernel, by decide +kernel⟩, by decide⟩
theorem tb_1121 : Cond.methodLink RX0 46 mX0_isPoint.2.1 ∈ q_tb := ch_5 _ (List.mem_of_getElem? (i := 38) rfl) rfl
theorem cv_0_46 : q_CS RX0 46 mX0_isPoint 2 := ⟨tb_1121, tb_1090, tb_129, tb_1091, ⟨by decide +kernel, by decide +kernel, by decide +kernel⟩, by decide⟩
theorem tb_1122 : Cond.methodLink RX0 50 mX6_kindOf.2.1 ∈ q_tb := ch_5 _ (List.mem_of_getElem? (i := 39) rfl) rfl
theorem cv_0_50 : q_CV RX0 50 mX6_kindOf 1 := ⟨tb_1122, tb_907, tb_908, tb_127, tb_909, ⟨by decide +kernel, by decide +kernel, by decide +kernel⟩, by decide⟩
theorem tb_1123 : Cond.methodLink RX0 54 mX0_dragOf.2.1 ∈ q_tb := ch_5 _ (List.mem_of_getElem? (i := 40) rfl) rfl
theorem tb_1125 : Cond.instanceMethod mX0_dragOf.2.1 ∈ q_tb := ch_5 _ (List.mem_of_getElem? (i := 42) rfl) rfl
theorem tb_48 : Cond.selects mX0_dragOf.2.1.cls mX0_dragOf.2.1 mX0_dragOf.2.1 ∈ q_tb := ch_p4 _ (List.mem_of_getElem? (i := 0) rfl) rfl
theorem tb_1126 : Cond.code mX0_dragOf.2.1 mX0_dragOf.2.2.1 mX0_dragOf.2.2.2.1 mX0_dragOf.2.2.2.2 ∈ q_tb := ch_5 _ (List.mem_of_getElem? (i := 43) rfl) rfl
theorem cv_0_54 : q_CV RX0 54 mX0_dragOf 1 := ⟨tb_1123, tb_1125, tb_48, tb_129, tb_1126, ⟨by decide +kernel, by decide +kernel, by decide +kernel⟩, by decide⟩
theorem tb_1134 : Cond.methodLink RX0 57 mX0_moveBy.2.1 ∈ q_tb := ch_5 _ (List.mem_of_getElem? (i := 51) rfl) rfl
theorem tb_1136 : Cond.instanceMethod mX0_moveBy.2.1 ∈ q_tb := ch_5 _ (List.mem_of_getElem? (i := 53) rfl) rfl
theorem tb_49 : Cond.selects mX0_moveBy.2.1.cls mX0_moveBy.2.1 mX0_moveBy.2.1 ∈ q_tb := ch_p4 _ (List.mem_of_getElem? (i := 1) rfl) rfl
theorem tb_1137 : Cond.code mX0_moveBy.2.1 mX0_moveBy.2.2.1 mX0_moveBy.2.2.2.1 mX0_moveBy.2.2.2.2 ∈ q_tb := ch_5 _ (List.mem_of_getElem? (i := 54) rfl) rfl
theorem cv_0_57 : q_CV RX0 57 mX0_moveBy 2 := ⟨tb_1134, tb_1136, tb_49, tb_129, tb_1137, ⟨by decide +kernel, by decide +kernel, by decide +kernel⟩, by decide⟩
theorem tb_1138 : Cond.methodLink RX0 61 mX0_leaveDrop.2.1 ∈ q_tb := ch_5 _ (List.mem_of_getElem? (i := 55) rfl) rfl
theorem tb_1140 : Cond.instanceMethod mX0_leaveDrop.2.1 ∈ q_tb := ch_5 _ (List.mem_of_getElem? (i := 57) rfl) rfl
theorem tb_50 : Cond.selects mX0_leaveDrop.2.1.cls mX0_leaveDrop.2.1 mX0_leaveDrop.2.1 ∈ q_tb := ch_p4 _ (List.mem_of_getElem? (i := 2) rfl) rfl
theorem tb_1141 : Cond.code mX0_leaveDrop.2.1 mX0_leaveDrop.2.2.1 mX0_leaveDrop.2.2.2.1 mX0_leaveDrop.2.2.2.2 ∈ q_tb := ch_5 _ (List.mem_of_getElem? (i := 58) rfl) rfl
theorem cv_0_61 : q_CV RX0 61 mX0_leaveDrop 1 := ⟨tb_1138, tb_1140, tb_50, tb_129, tb_1141, ⟨by decide +kernel, by decide +kernel, by decide +kernel⟩, by decide⟩
theorem tb_1177 : Cond.methodLink RX0 65 mX0_makeWay.2.1 ∈ q_tb := ch_5 _ (List.mem_of_getElem? (i := 94) rfl) rfl
theorem tb_1179 : Cond.instanceMethod mX0_makeWay.2.1 ∈ q_tb := ch_5 _ (List.mem_of_getElem? (i := 96) rfl) rfl
theorem tb_53 : Cond.selects mX0_makeWay.2.1.cls mX0_makeWay.2.1 mX0_makeWay.2.1 ∈ q_tb := ch_p4 _ (List.mem_of_getElem? (i := 5) rfl) rfl
theorem tb_1180 : Cond.code mX0_makeWay.2.1 mX0_makeWay.2.2.1 mX0_makeWay.2.2.2.1 mX0_makeWay.2.2.2.2 ∈ q_tb := ch_5 _ (List.mem_of_getElem? (i := 97) rfl) rfl
theorem cv_0_65 : q_CV RX0 65 mX0_makeWay 1 := ⟨tb_1177, tb_1179, tb_53, tb_129, tb_1180, ⟨by decide +kernel, by decide +kernel, by decide +kernel⟩, by decide⟩
theorem tb_1142 : Cond.methodLink RX0 69 mX0_squareOf.2.1 ∈ q_tb := ch_5 _ (List.mem_of_getElem? (i := 59) rfl) rfl
theorem tb_1143 : Cond.static mX0_squareOf.2.1 ∈ q_tb := ch_5 _ (List.mem_of_getElem? (i := 60) rfl) rfl
theorem tb_1144 : Cond.code mX0_squareOf.2.1 mX0_squareOf.2.2.1 mX0_squareOf.2.2.2.1 mX0_squareOf.2.2.2.2 ∈ q_tb := ch_5 _ (List.mem_of_getElem? (i := 61) rfl) rfl
theorem cv_0_69 : q_CS RX0 69 mX0_squareOf 2 := ⟨tb_1142, tb_1143, tb_129, tb_1144, ⟨by decide +kernel, by decide +kernel, by decide +kernel⟩, by decide⟩
theorem tb_1145 : Cond.methodLink RX0 72 mX0_tired.2.1 ∈ q_tb := ch_5 _ (List.mem_of_getElem? (i := 62) rfl) rfl
theorem tb_1147 : Cond.instanceMethod mX0_tired.2.1 ∈ q_tb := ch_5 _ (List.mem_of_getElem? (i := 64) rfl) rfl
theorem tb_51 : Cond.selects mX0_tired.2.1.cls mX0_tired.2.1 mX0_tired.2.1 ∈ q_tb := ch_p4 _ (List.mem_of_getElem? (i := 3) rfl) rfl
theorem tb_1148 : Cond.code mX0_tired.2.1 mX0_tired.2.2.1 mX0_tired.2.2.2.1 mX0_tired.2.2.2.2 ∈ q_tb := ch_5 _ (List.mem_of_getElem? (i := 65) rfl) rfl
theorem cv_0_72 : q_CV RX0 72 mX0_tired 1 := ⟨tb_1145, tb_1147, tb_51, tb_129, tb_1148, ⟨by decide +kernel, by decide +kernel, by decide +kernel⟩, by decide⟩
theorem tb_1149 : Cond.methodLink RX0 75 mX0_root.2.1 ∈ q_tb := ch_5 _ (List.mem_of_getElem? (i := 66) rfl) rfl
theorem tb_1150 : Cond.static mX0_root.2.1 ∈ q_tb := ch_5 _ (List.mem_of_getElem? (i := 67) rfl) rfl
theorem tb_1151 : Cond.code mX0_root.2.1 mX0_root.2.2.1 mX0_root.2.2.2.1 mX0_root.2.2.2.2 ∈ q_tb := ch_5 _ (List.mem_of_getElem? (i := 68) rfl) rfl
theorem cv_0_75 : q_CS RX0 75 mX0_root 1 := ⟨tb_1149, tb_1150, tb_129, tb_1151, ⟨by decide +kernel, by decide +kernel, by decide +kernel⟩, by decide⟩
theorem tb_1152 : Cond.methodLink RX0 78 mX0_stretchFrom.2.1 ∈ q_tb := ch_5 _ (List.mem_of_getElem? (i := 69) rfl) rfl
theorem tb_1154 : Cond.instanceMethod mX0_stretchFrom.2.1 ∈ q_tb := ch_5 _ (List.mem_of_getElem? (i := 71) rfl) rfl
theorem tb_52 : Cond.selects mX0_stretchFrom.2.1.cls mX0_stretchFrom.2.1 mX0_stretchFrom.2.1 ∈ q_tb := ch_p4 _ (List.mem_of_getElem? (i := 4) rfl) rfl
theorem tb_1155 : Cond.code mX0_stretchFrom.2.1 mX0_stretchFrom.2.2.1 mX0_stretchFrom.2.2.2.1 mX0_stretchFrom.2.2.2.2 ∈ q_tb := ch_5 _ (List.mem_of_getElem? (i := 72) rfl) rfl
theorem cv_0_78 : q_CV RX0 78 mX0_stretchFrom 4 := ⟨tb_1152, tb_1154, tb_52, tb_129, tb_1155, ⟨by decide +kernel, by decide +kernel, by decide +kernel⟩, by decide⟩
theorem tb_1128 : Cond.methodLink RX0 82 mX0_toothDrag.2.1 ∈ q_tb := ch_5 _ (List.mem_of_getElem? (i := 45) rfl) rfl
theorem tb_1129 : Cond.static mX0_toothDrag.2.1 ∈ q_tb := ch_5 _ (List.mem_of_getElem? (i := 46) rfl) rfl
theorem tb_1130 : Cond.code mX0_toothDrag.2.1 mX0_toothDrag.2.2.1 mX0_toothDrag.2.2.2.1 mX0_toothDrag.2.2.2.2 ∈ q_tb := ch_5 _ (List.mem_of_getElem? (i := 47) rfl) rfl
theorem cv_0_82 : q_CS RX0 82 mX0_toothDrag 3 := ⟨tb_1128, tb_1129, tb_129, tb_1130, ⟨by decide +kernel, by decide +kernel, by decide +kernel⟩, by decide⟩
theorem tb_1131 : Cond.methodLink RX0 86 mX0_waveDrag.2.1 ∈ q_tb := ch_5 _ (List.mem_of_getElem? (i := 48) rfl) rfl
theorem tb_1132 : Cond.static mX0_waveDrag.2.1 ∈ q_tb := ch_5 _ (List.mem_of_getElem? (i := 49) rfl) rfl
theorem tb_1133 : Cond.code mX0_waveDrag.2.1 mX0_waveDrag.2.2.1 mX0_waveDrag.2.2.2.1 mX0_waveDrag.2.2.2.2 ∈ q_tb := ch_5 _ (List.mem_of_getElem? (i := 50) rfl) rfl
theorem cv_0_86 : q_CS RX0 86 mX0_waveDrag 3 := ⟨tb_1131, tb_1132, tb_129, tb_1133, ⟨by decide +kernel, by decide +kernel, by decide +kernel⟩, by decide⟩
theorem tb_928 : Cond.methodLink RX1 37 mX4_startOf.2.1 ∈ q_tb := ch_4 _ (List.mem_of_getElem? (i := 85) rfl) rfl
theorem tb_929 : Cond.instanceMethod mX4_startOf.2.1 ∈ q_tb := ch_4 _ (List.mem_of_getElem? (i := 86) rfl) rfl
theorem tb_930 : Cond.selects mX4_startOf.2.1.cls mX4_startOf.2.1 mX4_startOf.2.1 ∈ q_tb := ch_4 _ (List.mem_of_getElem? (i := 87) rfl) rfl
theorem tb_931 : Cond.code mX4_startOf.2.1 mX4_startOf.2.2.1 mX4_startOf.2.2.2.1 mX4_startOf.2.2.2.2 ∈ q_tb := ch_4 _ (List.mem_of_getElem? (i := 88) rfl) rfl
theorem cv_1_37 : q_CV RX1 37 mX4_startOf 1 := ⟨tb_928, tb_929, tb_930, tb_131, tb_931, ⟨by decide +kernel, by decide +kernel, by decide +kernel⟩, by decide⟩
theorem tb_932 : Cond.methodLink RX1 57 mX4_has.2.1 ∈ q_tb := ch_4 _ (List.mem_of_getElem? (i := 89) rfl) rfl
theorem cv_1_57 : q_CV RX1 57 mX4_has 1 := ⟨tb_932, tb_822, tb_823, tb_131, tb_824, ⟨by decide +kernel, by decide +kernel, by decide +kernel⟩, by decide⟩
theorem tb_933 : Cond.methodLink RX1 65 mX1_setValue.2.1 ∈ q_tb := ch_4 _ (List.mem_of_getElem? (i := 90) rfl) rfl
theorem tb_935 : Cond.instanceMethod mX1_setValue.2.1 ∈ q_tb := ch_4 _ (List.mem_of_getElem? (i := 92) rfl) rfl
theorem tb_28 : Cond.selects mX1_setValue.2.1.cls mX1_setValue.2.1 mX1_setValue.2.1 ∈ q_tb := ch_p2 _ (List.mem_of_getElem? (i := 12) rfl) rfl
theorem tb_936 : Cond.code mX1_setValue.2.1 mX1_setValue.2.2.1 mX1_setValue.2.2.2.1 mX1_setValue.2.2.2.2 ∈ q_tb := ch_4 _ (List.mem_of_getElem? (i := 93) rfl) rfl
theorem cv_1_65 : q_CV RX1 65 mX1_setValue 2 := ⟨tb_933, tb_935, tb_28, tb_138, tb_936, ⟨by decide +kernel, by decide +kernel, by decide +kernel⟩, by decide⟩
theorem tb_938 : Cond.methodLink RX1 70 mX1_step.2.1 ∈ q_tb := ch_4 _ (List.mem_of_getElem? (i := 95) rfl) rfl
theorem tb_940 : Cond.instanceMethod mX1_step.2.1 ∈ q_tb := ch_4 _ (List.mem_of_getElem? (i := 97) rfl) rfl
theorem tb_29 : Cond.selects mX1_step.2.1.cls mX1_step.2.1 mX1_step.2.1 ∈ q_tb := ch_p2 _ (List.mem_of_getElem? (i := 13) rfl) rfl
theorem tb_941 : Cond.code mX1_step.2.1 mX1_step.2.2.1 mX1_step.2.2.2.1 mX1_step.2.2.2.2 ∈ q_tb := ch_4 _ (List.mem_of_getElem? (i := 98) rfl) rfl
theorem cv_1_70 : q_CV RX1 70 mX1_step 0 := ⟨tb_938, tb_940, tb_29, tb_138, tb_941, ⟨by decide +kernel, by decide +kernel, by decide +kernel⟩, by decide⟩
theorem tb_942 : Cond.methodLink RX1 76 mX1_nextWord.2.1 ∈ q_tb := ch_4 _ (List.mem_of_getElem? (i := 99) rfl) rfl
theorem tb_944 : Cond.instanceMethod mX1_nextWord.2.1 ∈ q_tb := ch_4 _ (List.mem_of_getElem? (i := 101) rfl) rfl
theorem tb_30 : Cond.selects mX1_nextWord.2.1.cls mX1_nextWord.2.1 mX1_nextWord.2.1 ∈ q_tb := ch_p2 _ (List.mem_of_getElem? (i := 14) rfl) rfl
theorem tb_945 : Cond.code mX1_nextWord.2.1 mX1_nextWord.2.2.1 mX1_nextWord.2.2.2.1 mX1_nextWord.2.2.2.2 ∈ q_tb := ch_4 _ (List.mem_of_getElem? (i := 102) rfl) rfl
theorem cv_1_76 : q_CV RX1 76 mX1_nextWord 0 := ⟨tb_942, tb_944, tb_30, tb_138, tb_945, ⟨by decide +kernel, by decide +kernel, by decide +kernel⟩, by decide⟩
theorem tb_950 : Cond.methodLink RX1 80 mX1_startDeed.2.1 ∈ q_tb := ch_4 _ (List.mem_of_getElem? (i := 107) rfl) rfl
theorem tb_952 : Cond.instanceMethod mX1_startDeed.2.1 ∈ q_tb := ch_4 _ (List.mem_of_getElem? (i := 109) rfl) rfl
theorem tb_31 : Cond.selects mX1_startDeed.2.1.cls mX1_startDeed.2.1 mX1_startDeed.2.1 ∈ q_tb := ch_p2 _ (List.mem_of_getElem? (i := 15) rfl) rfl
theorem tb_953 : Cond.code mX1_startDeed.2.1 mX1_startDeed.2.2.1 mX1_startDeed.2.2.2.1 mX1_startDeed.2.2.2.2 ∈ q_tb := ch_4 _ (List.mem_of_getElem? (i := 110) rfl) rfl
theorem cv_1_80 : q_CV RX1 80 mX1_startDeed 1 := ⟨tb_950, tb_952, tb_31, tb_138, tb_953, ⟨by decide +kernel, by decide +kernel, by decide +kernel⟩, by decide⟩
theorem tb_958 : Cond.methodLink RX1 84 mX1_push.2.1 ∈ q_tb := ch_4 _ (List.mem_of_getElem? (i := 115) rfl) rfl
theorem tb_960 : Cond.instanceMethod mX1_push.2.1 ∈ q_tb := ch_4 _ (List.mem_of_getElem? (i := 117) rfl) rfl
theorem tb_33 : Cond.selects mX1_push.2.1.cls mX1_push.2.1 mX1_push.2.1 ∈ q_tb := ch_p3 _ (List.mem_of_getElem? (i := 1) rfl) rfl
theorem tb_961 : Cond.code mX1_push.2.1 mX1_push.2.2.1 mX1_push.2.2.2.1 mX1_push.2.2.2.2 ∈ q_tb := ch_4 _ (List.mem_of_getElem? (i := 118) rfl) rfl
theorem cv_1_84 : q_CV RX1 84 mX1_push 1 := ⟨tb_958, tb_960, tb_33, tb_138, tb_961, ⟨by decide +kernel, by decide +kernel, by decide +kernel⟩, by decide⟩
theorem tb_962 : Cond.methodLink RX1 87 mX1_valueOf.2.1 ∈ q_tb := ch_4 _ (List.mem_of_getElem? (i := 119) rfl) rfl
theorem tb_964 : Cond.instanceMethod mX1_valueOf.2.1 ∈ q_tb := ch_4 _ (List.mem_of_getElem? (i := 121) rfl) rfl
theorem tb_34 : Cond.selects mX1_valueOf.2.1.cls mX1_valueOf.2.1 mX1_valueOf.2.1 ∈ q_tb := ch_p3 _ (List.mem_of_getElem? (i := 2) rfl) rfl
theorem tb_965 : Cond.code mX1_valueOf.2.1 mX1_valueOf.2.2.1 mX1_valueOf.2.2.2.1 mX1_valueOf.2.2.2.2 ∈ q_tb := ch_4 _ (List.mem_of_getElem? (i := 122) rfl) rfl
theorem cv_1_87 : q_CV RX1 87 mX1_valueOf 1 := ⟨tb_962, tb_964, tb_34, tb_138, tb_965, ⟨by decide +kernel, by decide +kernel, by decide +kernel⟩, by decide⟩
theorem tb_966 : Cond.methodLink RX1 90 mX1_pop.2.1 ∈ q_tb := ch_4 _ (List.mem_of_getElem? (i := 123) rfl) rfl
theorem tb_968 : Cond.instanceMethod mX1_pop.2.1 ∈ q_tb := ch_4 _ (List.mem_of_getElem? (i := 125) rfl) rfl
theorem tb_35 : Cond.selects mX1_pop.2.1.cls mX1_pop.2.1 mX1_pop.2.1 ∈ q_tb := ch_p3 _ (List.mem_of_getElem? (i := 3) rfl) rfl
theorem tb_969 : Cond.code mX1_pop.2.1 mX1_pop.2.2.1 mX1_pop.2.2.2.1 mX1_pop.2.2.2.2 ∈ q_tb := ch_4 _ (List.mem_of_getElem? (i := 126) rfl) rfl
theorem cv_1_90 : q_CV RX1 90 mX1_pop 0 := ⟨tb_966, tb_968, tb_35, tb_138, tb_969, ⟨by decide +kernel, by decide +kernel, by decide +kernel⟩, by decide⟩
theorem tb_970 : Cond.methodLink RX1 93 mX1_stroke.2.1 ∈ q_tb := ch_4 _ (List.mem_of_getElem? (i := 127) rfl) rfl
theorem tb_972 : Cond.instanceMethod mX1_stroke.2.1 ∈ q_tb := ch_4 _ (List.mem_of_getElem? (i := 129) rfl) rfl
theorem tb_36 : Cond.selects mX1_stroke.2.1.cls mX1_stroke.2.1 mX1_stroke.2.1 ∈ q_tb := ch_p3 _ (List.mem_of_getElem? (i := 4) rfl) rfl
theorem tb_973 : Cond.code mX1_stroke.2.1 mX1_stroke.2.2.1 mX1_stroke.2.2.2.1 mX1_stroke.2.2.2.2 ∈ q_tb := ch_4 _ (List.mem_of_getElem? (i := 130) rfl) rfl
theorem cv_1_93 : q_CV RX1 93 mX1_stroke 1 := ⟨tb_970, tb_972, tb_36, tb_138, tb_973, ⟨by decide +kernel, by decide +kernel, by decide +kernel⟩, by decide⟩
theorem tb_979 : Cond.methodLink RX1 96 mX1_enter.2.1 ∈ q_tb := ch_4 _ (List.mem_of_getElem? (i := 136) rfl) rfl
theorem tb_981 : Cond.instanceMethod mX1_enter.2.1 ∈ q_tb := ch_4 _ (List.mem_of_getElem? (i := 138) rfl) rfl
theorem tb_37 : Cond.selects mX1_enter.2.1.cls mX1_enter.2.1 mX1_enter.2.1 ∈ q_tb := ch_p3 _ (List.mem_of_getElem? (i := 5) rfl) rfl
theorem tb_982 : Cond.code mX1_enter.2.1 mX1_enter.2.2.1 mX1_enter.2.2.2.1 mX1_enter.2.2.2.2 ∈ q_tb := ch_4 _ (List.mem_of_getElem? (i := 139) rfl) rfl
theorem cv_1_96 : q_CV RX1 96 mX1_enter 1 := ⟨tb_979, tb_981, tb_37, tb_138, tb_982, ⟨by decide +kernel, by decide +kernel, by decide +kernel⟩, by decide⟩
theorem tb_984 : Cond.methodLink RX1 99 mX1_leave.2.1 ∈ q_tb := ch_4 _ (List.mem_of_getElem? (i := 141) rfl) rfl
theorem tb_986 : Cond.instanceMethod mX1_leave.2.1 ∈ q_tb := ch_4 _ (List.mem_of_getElem? (i := 143) rfl) rfl
theorem tb_38 : Cond.selects mX1_leave.2.1.cls mX1_leave.2.1 mX1_leave.2.1 ∈ q_tb := ch_p3 _ (List.mem_of_getElem? (i := 6) rfl) rfl
theorem tb_987 : Cond.code mX1_leave.2.1 mX1_leave.2.2.1 mX1_leave.2.2.2.1 mX1_leave.2.2.2.2 ∈ q_tb := ch_4 _ (List.mem_of_getElem? (i := 144) rfl) rfl
theorem cv_1_99 : q_CV RX1 99 mX1_leave 0 := ⟨tb_984, tb_986, tb_38, tb_138, tb_987, ⟨by decide +kernel, by decide +kernel, by decide +kernel⟩, by decide⟩
theorem tb_988 : Cond.methodLink RX1 102 mX1_combine.2.1 ∈ q_tb := ch_4 _ (List.mem_of_getElem? (i := 145) rfl) rfl
theorem tb_990 : Cond.instanceMethod mX1_combine.2.1 ∈ q_tb := ch_4 _ (List.mem_of_getElem? (i := 147) rfl) rfl
theorem tb_39 : Cond.selects mX1_combine.2.1.cls mX1_combine.2.1 mX1_combine.2.1 ∈ q_tb := ch_p3 _ (List.mem_of_getElem? (i := 7) rfl) rfl
theorem tb_991 : Cond.code mX1_combine.2.1 mX1_combine.2.2.1 mX1_combine.2.2.2.1 mX1_combine.2.2.2.2 ∈ q_tb := ch_4 _ (List.mem_of_getElem? (i := 148) rfl) rfl
theorem cv_1_102 : q_CV RX1 102 mX1_combine 3 := ⟨tb_988, tb_990, tb_39, tb_138, tb_991, ⟨by decide +kernel, by decide +kernel, by decide +kernel⟩, by decide⟩
theorem tb_996 : Cond.methodLink RX1 106 mX1_turn.2.1 ∈ q_tb := ch_4 _ (List.mem_of_getElem? (i := 153) rfl) rfl
theorem tb_998 : Cond.instanceMethod mX1_turn.2.1 ∈ q_tb := ch_4 _ (List.mem_of_getElem? (i := 155) rfl) rfl
theorem tb_41 : Cond.selects mX1_turn.2.1.cls mX1_turn.2.1 mX1_turn.2.1 ∈ q_tb := ch_p3 _ (List.mem_of_getElem? (i := 9) rfl) rfl
theorem tb_999 : Cond.code mX1_turn.2.1 mX1_turn.2.2.1 mX1_turn.2.2.2.1 mX1_turn.2.2.2.2 ∈ q_tb := ch_4 _ (List.mem_of_getElem? (i := 156) rfl) rfl
theorem cv_1_106 : q_CV RX1 106 mX1_turn 1 := ⟨tb_996, tb_998, tb_41, tb_138, tb_999, ⟨by decide +kernel, by decide +kernel, by decide +kernel⟩, by decide⟩
theorem tb_992 : Cond.methodLink RX1 109 mX1_divide.2.1 ∈ q_tb := ch_4 _ (List.mem_of_getElem? (i := 149) rfl) rfl
theorem tb_994 : Cond.instanceMethod mX1_divide.2.1 ∈ q_tb := ch_4 _ (List.mem_of_getElem? (i := 151) rfl) rfl
theorem tb_40 : Cond.selects mX1_divide.2.1.cls mX1_divide.2.1 mX1_divide.2.1 ∈ q_tb := ch_p3 _ (List.mem_of_getElem? (i := 8) rfl) rfl
theorem tb_995 : Cond.code mX1_divide.2.1 mX1_divide.2.2.1 mX1_divide.2.2.2.1 mX1_divide.2.2.2.2 ∈ q_tb := ch_4 _ (List.mem_of_getElem? (i := 152) rfl) rfl
theorem cv_1_109 : q_CV RX1 109 mX1_divide 3 := ⟨tb_992, tb_994, tb_40, tb_138, tb_995, ⟨by decide +kernel, by decide +kernel, by decide +kernel⟩, by decide⟩
theorem tb_954 : Cond.methodLink RX1 112 mX1_breakOff.2.1 ∈ q_tb := ch_4 _ (List.mem_of_getElem? (i := 111) rfl) rfl
theorem tb_956 : Cond.instanceMethod mX1_breakOff.2.1 ∈ q_tb := ch_4 _ (List.mem_of_getElem? (i := 113) rfl) rfl
theorem tb_32 : Cond.selects mX1_breakOff.2.1.cls mX1_breakOff.2.1 mX1_breakOff.2.1 ∈ q_tb := ch_p3 _ (List.mem_of_getElem? (i := 0) rfl) rfl
theorem tb_957 : Cond.code mX1_breakOff.2.1 mX1_breakOff.2.2.1 mX1_breakOff.2.2.2.1 mX1_breakOff.2.2.2.2 ∈ q_tb := ch_4 _ (List.mem_of_getElem? (i := 114) rfl) rfl
theorem cv_1_112 : q_CV RX1 112 mX1_breakOff 1 := ⟨tb_954, tb_956, tb_32, tb_138, tb_957, ⟨by decide +kernel, by decide +kernel, by decide +kernel⟩, by decide⟩
theorem tb_1000 : Cond.methodLink RX1 115 mX1_settle.2.1 ∈ q_tb := ch_4 _ (List.mem_of_getElem? (i := 157) rfl) rfl
theorem tb_1002 : Cond.instanceMethod mX1_settle.2.1 ∈ q_tb := ch_4 _ (List.mem_of_getElem? (i := 159) rfl) rfl
theorem tb_42 : Cond.selects mX1_settle.2.1.cls mX1_settle.2.1 mX1_settle.2.1 ∈ q_tb := ch_p3 _ (List.mem_of_getElem? (i := 10) rfl) rfl
theorem tb_1003 : Cond.code mX1_settle.2.1 mX1_settle.2.2.1 mX1_settle.2.2.2.1 mX1_settle.2.2.2.2 ∈ q_tb := ch_4 _ (List.mem_of_getElem? (i := 160) rfl) rfl
theorem cv_1_115 : q_CV RX1 115 mX1_settle 2 := ⟨tb_1000, tb_1002, tb_42, tb_138, tb_1003, ⟨by decide +kernel, by decide +kernel, by decide +kernel⟩, by decide⟩
theorem tb_1004 : Cond.methodLink RX1 119 mX1_startLoop.2.1 ∈ q_tb := ch_4 _ (List.mem_of_getElem? (i := 161) rfl) rfl
theorem tb_1006 : Cond.instanceMethod mX1_startLoop.2.1 ∈ q_tb := ch_4 _ (List.mem_of_getElem? (i := 163) rfl) rfl
theorem tb_43 : Cond.selects mX1_startLoop.2.1.cls mX1_startLoop.2.1 mX1_startLoop.2.1 ∈ q_tb := ch_p3 _ (List.mem_of_getElem? (i := 11) rfl) rfl
theorem tb_1007 : Cond.code mX1_startLoop.2.1 mX1_startLoop.2.2.1 mX1_startLoop.2.2.2.1 mX1_startLoop.2.2.2.2 ∈ q_tb := ch_4 _ (List.mem_of_getElem? (i := 164) rfl) rfl
theorem cv_1_119 : q_CV RX1 119 mX1_startLoop 2 := ⟨tb_1004, tb_1006, tb_43, tb_138, tb_1007, ⟨by decide +kernel, by decide +kernel, by decide +kernel⟩, by decide⟩
theorem tb_1008 : Cond.methodLink RX1 122 mX1_nextTurn.2.1 ∈ q_tb := ch_4 _ (List.mem_of_getElem? (i := 165) rfl) rfl
theorem tb_1010 : Cond.instanceMethod mX1_nextTurn.2.1 ∈ q_tb := ch_4 _ (List.mem_of_getElem? (i := 167) rfl) rfl
theorem tb_44 : Cond.selects mX1_nextTurn.2.1.cls mX1_nextTurn.2.1 mX1_nextTurn.2.1 ∈ q_tb := ch_p3 _ (List.mem_of_getElem? (i := 12) rfl) rfl
theorem tb_1011 : Cond.code mX1_nextTurn.2.1 mX1_nextTurn.2.2.1 mX1_nextTurn.2.2.2.1 mX1_nextTurn.2.2.2.2 ∈ q_tb := ch_4 _ (List.mem_of_getElem? (i := 168) rfl) rfl
theorem cv_1_122 : q_CV RX1 122 mX1_nextTurn 2 := ⟨tb_1008, tb_1010, tb_44, tb_138, tb_1011, ⟨by decide +kernel, by decide +kernel, by decide +kernel⟩, by decide⟩
theorem tb_974 : Cond.methodLink RX1 125 mX6_numbersOf.2.1 ∈ q_tb := ch_4 _ (List.mem_of_getElem? (i := 131) rfl) rfl
theorem cv_1_125 : q_CS RX1 125 mX6_numbersOf 1 := ⟨tb_974, tb_830, tb_127, tb_831, ⟨by decide +kernel, by decide +kernel, by decide +kernel⟩, by decide⟩
theorem tb_975 : Cond.methodLink RX1 128 Lib.Math.min.name ∈ q_tb := ch_4 _ (List.mem_of_getElem? (i := 132) rfl) rfl
theorem cv_1_128 : q_CM RX1 128 Lib.Math.min.name Lib.Math.min.code 2 := ⟨tb_975, tb_202, tb_128, tb_203⟩
theorem tb_976 : Cond.methodLink RX1 134 mX6_fits.2.1 ∈ q_tb := ch_4 _ (List.mem_of_getElem? (i := 133) rfl) rfl
theorem tb_859 : Cond.static mX6_fits.2.1 ∈ q_tb := ch_4 _ (List.mem_of_getElem? (i := 16) rfl) rfl
theorem tb_860 : Cond.code mX6_fits.2.1 mX6_fits.2.2.1 mX6_fits.2.2.2.1 mX6_fits.2.2.2.2 ∈ q_tb := ch_4 _ (List.mem_of_getElem? (i := 17) rfl) rfl
theorem cv_1_134 : q_CS RX1 134 mX6_fits 2 := ⟨tb_976, tb_859, tb_127, tb_860, ⟨by decide +kernel, by decide +kernel, by decide +kernel⟩, by decide⟩
theorem tb_977 : Cond.methodLink RX1 138 mX6_isFull.2.1 ∈ q_tb := ch_4 _ (List.mem_of_getElem? (i := 134) rfl) rfl
theorem tb_871 : Cond.instanceMethod mX6_isFull.2.1 ∈ q_tb := ch_4 _ (List.mem_of_getElem? (i := 28) rfl) rfl
theorem tb_872 : Cond.selects mX6_isFull.2.1.cls mX6_isFull.2.1 mX6_isFull.2.1 ∈ q_tb := ch_4 _ (List.mem_of_getElem? (i := 29) rfl) rfl
theorem tb_873 : Cond.code mX6_isFull.2.1 mX6_isFull.2.2.1 mX6_isFull.2.2.2.1 mX6_isFull.2.2.2.2 ∈ q_tb := ch_4 _ (List.mem_of_getElem? (i := 30) rfl) rfl
theorem cv_1_138 : q_CV RX1 138 mX6_isFull 0 := ⟨tb_977, tb_871, tb_872, tb_127, tb_873, ⟨by decide +kernel, by decide +kernel, by decide +kernel⟩, by decide⟩
theorem tb_978 : Cond.methodLink RX1 142 mX6_add.2.1 ∈ q_tb := ch_4 _ (List.mem_of_getElem? (i := 135) rfl) rfl
theorem tb_867 : Cond.instanceMethod mX6_add.2.1 ∈ q_tb := ch_4 _ (List.mem_of_getElem? (i := 24) rfl) rfl
theorem tb_868 : Cond.selects mX6_add.2.1.cls mX6_add.2.1 mX6_add.2.1 ∈ q_tb := ch_4 _ (List.mem_of_getElem? (i := 25) rfl) rfl
theorem tb_869 : Cond.code mX6_add.2.1 mX6_add.2.2.1 mX6_add.2.2.2.1 mX6_add.2.2.2.2 ∈ q_tb := ch_4 _ (List.mem_of_getElem? (i := 26) rfl) rfl
theorem cv_1_142 : q_CV RX1 142 mX6_add 2 := ⟨tb_978, tb_867, tb_868, tb_127, tb_869, ⟨by decide +kernel, by decide +kernel, by decide +kernel⟩, by decide⟩
theorem tb_983 : Cond.methodLink RX1 146 mX4_needs.2.1 ∈ q_tb := ch_4 _ (List.mem_of_getElem? (i := 140) rfl) rfl
theorem cv_1_146 : q_CV RX1 146 mX4_needs 1 := ⟨tb_983, tb_818, tb_819, tb_131, tb_820, ⟨by decide +kernel, by decide +kernel, by decide +kernel⟩, by decide⟩
theorem tb_946 : Cond.methodLink RX1 149 mX4_wordAt.2.1 ∈ q_tb := ch_4 _ (List.mem_of_getElem? (i := 103) rfl) rfl
theorem tb_947 : Cond.instanceMethod mX4_wordAt.2.1 ∈ q_tb := ch_4 _ (List.mem_of_getElem? (i := 104) rfl) rfl
theorem tb_948 : Cond.selects mX4_wordAt.2.1.cls mX4_wordAt.2.1 mX4_wordAt.2.1 ∈ q_tb := ch_4 _ (List.mem_of_getElem? (i := 105) rfl) rfl
theorem tb_949 : Cond.code mX4_wordAt.2.1 mX4_wordAt.2.2.1 mX4_wordAt.2.2.2.1 mX4_wordAt.2.2.2.2 ∈ q_tb := ch_4 _ (List.mem_of_getElem? (i := 106) rfl) rfl
theorem cv_1_149 : q_CV RX1 149 mX4_wordAt 1 := ⟨tb_946, tb_947, tb_948, tb_131, tb_949, ⟨by decide +kernel, by decide +kernel, by decide +kernel⟩, by decide⟩
theorem tb_190 : Cond.methodLink RX2 26 mX6_clear.2.1 ∈ q_tb := ch_1 _ (List.mem_of_getElem? (i := 67) rfl) rfl
theorem cv_2_26 : q_CV RX2 26 mX6_clear 1 := ⟨tb_190, tb_191, tb_192, tb_127, tb_193, ⟨by decide +kernel, by decide +kernel, by decide +kernel⟩, by decide⟩
theorem tb_902 : Cond.methodLink RX2 30 mX6_size.2.1 ∈ q_tb := ch_4 _ (List.mem_of_getElem? (i := 59) rfl) rfl
theorem cv_2_30 : q_CV RX2 30 mX6_size 0 := ⟨tb_902, tb_903, tb_904, tb_127, tb_905, ⟨by decide +kernel, by decide +kernel, by decide +kernel⟩, by decide⟩
theorem tb_919 : Cond.methodLink RX2 34 mX6_roomLeft.2.1 ∈ q_tb := ch_4 _ (List.mem_of_getElem? (i := 76) rfl) rfl
theorem tb_920 : Cond.instanceMethod mX6_roomLeft.2.1 ∈ q_tb := ch_4 _ (List.mem_of_getElem? (i := 77) rfl) rfl
theorem tb_921 : Cond.selects mX6_roomLeft.2.1.cls mX6_roomLeft.2.1 mX6_roomLeft.2.1 ∈ q_tb := ch_4 _ (List.mem_of_getElem? (i := 78) rfl) rfl
theorem tb_922 : Cond.code mX6_roomLeft.2.1 mX6_roomLeft.2.2.1 mX6_roomLeft.2.2.2.1 mX6_roomLeft.2.2.2.2 ∈ q_tb := ch_4 _ (List.mem_of_getElem? (i := 79) rfl) rfl
theorem cv_2_34 : q_CV RX2 34 mX6_roomLeft 0 := ⟨tb_919, tb_920, tb_921, tb_127, tb_922, ⟨by decide +kernel, by decide +kernel, by decide +kernel⟩, by decide⟩
theorem tb_858 : Cond.methodLink RX2 37 mX6_fits.2.1 ∈ q_tb := ch_4 _ (List.mem_of_getElem? (i := 15) rfl) rfl
theorem cv_2_37 : q_CS RX2 37 mX6_fits 2 := ⟨tb_858, tb_859, tb_127, tb_860, ⟨by decide +kernel, by decide +kernel, by decide +kernel⟩, by decide⟩
theorem tb_866 : Cond.methodLink RX2 41 mX6_add.2.1 ∈ q_tb := ch_4 _ (List.mem_of_getElem? (i := 23) rfl) rfl
theorem cv_2_41 : q_CV RX2 41 mX6_add 2 := ⟨tb_866, tb_867, tb_868, tb_127, tb_869, ⟨by decide +kernel, by decide +kernel, by decide +kernel⟩, by decide⟩
theorem tb_898 : Cond.methodLink RX2 45 mX2_has.2.1 ∈ q_tb := ch_4 _ (List.mem_of_getElem? (i := 55) rfl) rfl
theorem cv_2_45 : q_CV RX2 45 mX2_has 1 := ⟨tb_898, tb_899, tb_900, tb_126, tb_901, ⟨by decide +kernel, by decide +kernel, by decide +kernel⟩, by decide⟩
theorem tb_906 : Cond.methodLink RX2 49 mX6_kindOf.2.1 ∈ q_tb := ch_4 _ (List.mem_of_getElem? (i := 63) rfl) rfl
theorem cv_2_49 : q_CV RX2 49 mX6_kindOf 1 := ⟨tb_906, tb_907, tb_908, tb_127, tb_909, ⟨by decide +kernel, by decide +kernel, by decide +kernel⟩, by decide⟩
theorem tb_1020 : Cond.methodLink RX2 53 mX6_addAll.2.1 ∈ q_tb := ch_4 _ (List.mem_of_getElem? (i := 177) rfl) rfl
theorem tb_1021 : Cond.instanceMethod mX6_addAll.2.1 ∈ q_tb := ch_4 _ (List.mem_of_getElem? (i := 178) rfl) rfl
theorem tb_1022 : Cond.selects mX6_addAll.2.1.cls mX6_addAll.2.1 mX6_addAll.2.1 ∈ q_tb := ch_4 _ (List.mem_of_getElem? (i := 179) rfl) rfl
theorem tb_1023 : Cond.code mX6_addAll.2.1 mX6_addAll.2.2.1 mX6_addAll.2.2.2.1 mX6_addAll.2.2.2.2 ∈ q_tb := ch_4 _ (List.mem_of_getElem? (i := 180) rfl) rfl
theorem cv_2_53 : q_CV RX2 53 mX6_addAll 2 := ⟨tb_1020, tb_1021, tb_1022, tb_127, tb_1023, ⟨by decide +kernel, by decide +kernel, by decide +kernel⟩, by decide⟩
theorem tb_1072 : Cond.methodLink RX2 57 mX2_findOut.2.1 ∈ q_tb := ch_4 _ (List.mem_of_getElem? (i := 229) rfl) rfl
theorem tb_1074 : Cond.instanceMethod mX2_findOut.2.1 ∈ q_tb := ch_4 _ (List.mem_of_getElem? (i := 231) rfl) rfl
theorem tb_45 : Cond.selects mX2_findOut.2.1.cls mX2_findOut.2.1 mX2_findOut.2.1 ∈ q_tb := ch_p3 _ (List.mem_of_getElem? (i := 13) rfl) rfl
theorem tb_1075 : Cond.code mX2_findOut.2.1 mX2_findOut.2.2.1 mX2_findOut.2.2.2.1 mX2_findOut.2.2.2.2 ∈ q_tb := ch_4 _ (List.mem_of_getElem? (i := 232) rfl) rfl
theorem cv_2_57 : q_CV RX2 57 mX2_findOut 1 := ⟨tb_1072, tb_1074, tb_45, tb_126, tb_1075, ⟨by decide +kernel, by decide +kernel, by decide +kernel⟩, by decide⟩
theorem tb_1100 : Cond.methodLink RX2 60 mX0_begin.2.1 ∈ q_tb := ch_5 _ (List.mem_of_getElem? (i := 17) rfl) rfl
theorem tb_1101 : Cond.instanceMethod mX0_begin.2.1 ∈ q_tb := ch_5 _ (List.mem_of_getElem? (i := 18) rfl) rfl
theorem tb_1102 : Cond.selects mX0_begin.2.1.cls mX0_begin.2.1 mX0_begin.2.1 ∈ q_tb := ch_5 _ (List.mem_of_getElem? (i := 19) rfl) rfl
theorem tb_1103 : Cond.code mX0_begin.2.1 mX0_begin.2.2.1 mX0_begin.2.2.2.1 mX0_begin.2.2.2.2 ∈ q_tb := ch_5 _ (List.mem_of_getElem? (i := 20) rfl) rfl
theorem cv_2_60 : q_CV RX2 60 mX0_begin 2 := ⟨tb_1100, tb_1101, tb_1102, tb_129, tb_1103, ⟨by decide +kernel, by decide +kernel, by decide +kernel⟩, by decide⟩
theorem tb_1105 : Cond.methodLink RX2 66 mX6_isStroke.2.1 ∈ q_tb := ch_5 _ (List.mem_of_getElem? (i := 22) rfl) rfl
theorem tb_1106 : Cond.instanceMethod mX6_isStroke.2.1 ∈ q_tb := ch_5 _ (List.mem_of_getElem? (i := 23) rfl) rfl
theorem tb_1107 : Cond.selects mX6_isStroke.2.1.cls mX6_isStroke.2.1 mX6_isStroke.2.1 ∈ q_tb := ch_5 _ (List.mem_of_getElem? (i := 24) rfl) rfl
theorem tb_1108 : Cond.code mX6_isStroke.2.1 mX6_isStroke.2.2.1 mX6_isStroke.2.2.2.1 mX6_isStroke.2.2.2.2 ∈ q_tb := ch_5 _ (List.mem_of_getElem? (i := 25) rfl) rfl
theorem cv_2_66 : q_CV RX2 66 mX6_isStroke 1 := ⟨tb_1105, tb_1106, tb_1107, tb_127, tb_1108, ⟨by decide +kernel, by decide +kernel, by decide +kernel⟩, by decide⟩
theorem tb_1109 : Cond.methodLink RX2 69 mX0_pick.2.1 ∈ q_tb := ch_5 _ (List.mem_of_getElem? (i := 26) rfl) rfl
theorem tb_1110 : Cond.instanceMethod mX0_pick.2.1 ∈ q_tb := ch_5 _ (List.mem_of_getElem? (i := 27) rfl) rfl
theorem tb_1111 : Cond.selects mX0_pick.2.1.cls mX0_pick.2.1 mX0_pick.2.1 ∈ q_tb := ch_5 _ (List.mem_of_getElem? (i := 28) rfl) rfl
theorem tb_1112 : Cond.code mX0_pick.2.1 mX0_pick.2.2.1 mX0_pick.2.2.2.1 mX0_pick.2.2.2.2 ∈ q_tb := ch_5 _ (List.mem_of_getElem? (i := 29) rfl) rfl
theorem cv_2_69 : q_CV RX2 69 mX0_pick 1 := ⟨tb_1109, tb_1110, tb_1111, tb_129, tb_1112, ⟨by decide +kernel, by decide +kernel, by decide +kernel⟩, by decide⟩
theorem tb_1076 : Cond.methodLink RX2 72 mX6_numberOf.2.1 ∈ q_tb := ch_4 _ (List.mem_of_getElem? (i := 233) rfl) rfl
theorem cv_2_72 : q_CV RX2 72 mX6_numberOf 2 := ⟨tb_1076, tb_1025, tb_1026, tb_127, tb_1027, ⟨by decide +kernel, by decide +kernel, by decide +kernel⟩, by decide⟩
theorem tb_1077 : Cond.methodLink RX2 76 mX2_markOut.2.1 ∈ q_tb := ch_4 _ (List.mem_of_getElem? (i := 234) rfl) rfl
theorem tb_1079 : Cond.instanceMethod mX2_markOut.2.1 ∈ q_tb := ch_4 _ (List.mem_of_getElem? (i := 236) rfl) rfl
theorem tb_46 : Cond.selects mX2_markOut.2.1.cls mX2_markOut.2.1 mX2_markOut.2.1 ∈ q_tb := ch_p3 _ (List.mem_of_getElem? (i := 14) rfl) rfl
theorem tb_1080 : Cond.code mX2_markOut.2.1 mX2_markOut.2.2.1 mX2_markOut.2.2.2.1 mX2_markOut.2.2.2.2 ∈ q_tb := ch_4 _ (List.mem_of_getElem? (i := 237) rfl) rfl
theorem cv_2_76 : q_CV RX2 76 mX2_markOut 1 := ⟨tb_1077, tb_1079, tb_46, tb_126, tb_1080, ⟨by decide +kernel, by decide +kernel, by decide +kernel⟩, by decide⟩
theorem tb_1305 : Cond.methodLink RX3 57 mX4_size.2.1 ∈ q_tb := ch_5 _ (List.mem_of_getElem? (i := 222) rfl) rfl
theorem cv_3_57 : q_CV RX3 57 mX4_size 0 := ⟨tb_1305, tb_706, tb_707, tb_131, tb_708, ⟨by decide +kernel, by decide +kernel, by decide +kernel⟩, by decide⟩
theorem tb_1306 : Cond.methodLink RX3 61 mX4_needs.2.1 ∈ q_tb := ch_5 _ (List.mem_of_getElem? (i := 223) rfl) rfl
theorem cv_3_61 : q_CV RX3 61 mX4_needs 1 := ⟨tb_1306, tb_818, tb_819, tb_131, tb_820, ⟨by decide +kernel, by decide +kernel, by decide +kernel⟩, by decide⟩
theorem tb_1307 : Cond.methodLink RX3 65 mX6_clear.2.1 ∈ q_tb := ch_5 _ (List.mem_of_getElem? (i := 224) rfl) rfl
theorem cv_3_65 : q_CV RX3 65 mX6_clear 1 := ⟨tb_1307, tb_191, tb_192, tb_127, tb_193, ⟨by decide +kernel, by decide +kernel, by decide +kernel⟩, by decide⟩
theorem tb_1308 : Cond.methodLink RX3 71 mX1_perform.2.1 ∈ q_tb := ch_5 _ (List.mem_of_getElem? (i := 225) rfl) rfl
theorem cv_3_71 : q_CV RX3 71 mX1_perform 5 := ⟨tb_1308, tb_925, tb_926, tb_138, tb_927, ⟨by decide +kernel, by decide +kernel, by decide +kernel⟩, by decide⟩
theorem tb_1309 : Cond.methodLink RX3 77 mX3_compare.2.1 ∈ q_tb := ch_5 _ (List.mem_of_getElem? (i := 226) rfl) rfl
theorem tb_1311 : Cond.instanceMethod mX3_compare.2.1 ∈ q_tb := ch_5 _ (List.mem_of_getElem? (i := 228) rfl) rfl
theorem tb_61 : Cond.selects mX3_compare.2.1.cls mX3_compare.2.1 mX3_compare.2.1 ∈ q_tb := ch_p4 _ (List.mem_of_getElem? (i := 13) rfl) rfl
theorem tb_1312 : Cond.code mX3_compare.2.1 mX3_compare.2.2.1 mX3_compare.2.2.2.1 mX3_compare.2.2.2.2 ∈ q_tb := ch_5 _ (List.mem_of_getElem? (i := 229) rfl) rfl
theorem cv_3_77 : q_CV RX3 77 mX3_compare 2 := ⟨tb_1309, tb_1311, tb_61, tb_139, tb_1312, ⟨by decide +kernel, by decide +kernel, by decide +kernel⟩, by decide⟩
theorem tb_1313 : Cond.methodLink RX3 81 mX0_begin.2.1 ∈ q_tb := ch_5 _ (List.mem_of_getElem? (i := 230) rfl) rfl
theorem cv_3_81 : q_CV RX3 81 mX0_begin 2 := ⟨tb_1313, tb_1101, tb_1102, tb_129, tb_1103, ⟨by decide +kernel, by decide +kernel, by decide +kernel⟩, by decide⟩
theorem tb_1314 : Cond.methodLink RX3 87 mX6_size.2.1 ∈ q_tb := ch_5 _ (List.mem_of_getElem? (i := 231) rfl) rfl
theorem cv_3_87 : q_CV RX3 87 mX6_size 0 := ⟨tb_1314, tb_903, tb_904, tb_127, tb_905, ⟨by decide +kernel, by decide +kernel, by decide +kernel⟩, by decide⟩
theorem tb_1315 : Cond.methodLink RX3 88 mX3_pickAll.2.1 ∈ q_tb := ch_5 _ (List.mem_of_getElem? (i := 232) rfl) rfl
theorem tb_1317 : Cond.instanceMethod mX3_pickAll.2.1 ∈ q_tb := ch_5 _ (List.mem_of_getElem? (i := 234) rfl) rfl
theorem tb_62 : Cond.selects mX3_pickAll.2.1.cls mX3_pickAll.2.1 mX3_pickAll.2.1 ∈ q_tb := ch_p4 _ (List.mem_of_getElem? (i := 14) rfl) rfl
theorem tb_1318 : Cond.code mX3_pickAll.2.1 mX3_pickAll.2.2.1 mX3_pickAll.2.2.2.1 mX3_pickAll.2.2.2.2 ∈ q_tb := ch_5 _ (List.mem_of_getElem? (i := 235) rfl) rfl
theorem cv_3_88 : q_CV RX3 88 mX3_pickAll 2 := ⟨tb_1315, tb_1317, tb_62, tb_139, tb_1318, ⟨by decide +kernel, by decide +kernel, by decide +kernel⟩, by decide⟩
theorem tb_1320 : Cond.methodLink RX3 91 mX8_unlikeUpTo.2.1 ∈ q_tb := ch_5 _ (List.mem_of_getElem? (i := 237) rfl) rfl
theorem tb_1321 : Cond.instanceMethod mX8_unlikeUpTo.2.1 ∈ q_tb := ch_5 _ (List.mem_of_getElem? (i := 238) rfl) rfl
theorem tb_1322 : Cond.selects mX8_unlikeUpTo.2.1.cls mX8_unlikeUpTo.2.1 mX8_unlikeUpTo.2.1 ∈ q_tb := ch_5 _ (List.mem_of_getElem? (i := 239) rfl) rfl
theorem tb_1323 : Cond.code mX8_unlikeUpTo.2.1 mX8_unlikeUpTo.2.2.1 mX8_unlikeUpTo.2.2.2.1 mX8_unlikeUpTo.2.2.2.2 ∈ q_tb := ch_6 _ (List.mem_of_getElem? (i := 0) rfl) rfl
theorem cv_3_91 : q_CV RX3 91 mX8_unlikeUpTo 2 := ⟨tb_1320, tb_1321, tb_1322, tb_130, tb_1323, ⟨by decide +kernel, by decide +kernel, by decide +kernel⟩, by decide⟩
theorem tb_1319 : Cond.methodLink RX3 95 mX0_pick.2.1 ∈ q_tb := ch_5 _ (List.mem_of_getElem? (i := 236) rfl) rfl
theorem cv_3_95 : q_CV RX3 95 mX0_pick 1 := ⟨tb_1319, tb_1110, tb_1111, tb_129, tb_1112, ⟨by decide +kernel, by decide +kernel, by decide +kernel⟩, by decide⟩
theorem tb_1344 : Cond.methodLink RX3 98 mX3_doEach.2.1 ∈ q_tb := ch_6 _ (List.mem_of_getElem? (i := 21) rfl) rfl
theorem tb_1346 : Cond.instanceMethod mX3_doEach.2.1 ∈ q_tb := ch_6 _ (List.mem_of_getElem? (i := 23) rfl) rfl
theorem tb_63 : Cond.selects mX3_doEach.2.1.cls mX3_doEach.2.1 mX3_doEach.2.1 ∈ q_tb := ch_p4 _ (List.mem_of_getElem? (i := 15) rfl) rfl
theorem tb_1347 : Cond.code mX3_doEach.2.1 mX3_doEach.2.2.1 mX3_doEach.2.2.2.1 mX3_doEach.2.2.2.2 ∈ q_tb := ch_6 _ (List.mem_of_getElem? (i := 24) rfl) rfl
theorem cv_3_98 : q_CV RX3 98 mX3_doEach 1 := ⟨tb_1344, tb_1346, tb_63, tb_139, tb_1347, ⟨by decide +kernel, by decide +kernel, by decide +kernel⟩, by decide⟩
theorem tb_1354 : Cond.methodLink RX3 102 mX3_setMembers.2.1 ∈ q_tb := ch_6 _ (List.mem_of_getElem? (i := 31) rfl) rfl
theorem tb_1356 : Cond.instanceMethod mX3_setMembers.2.1 ∈ q_tb := ch_6 _ (List.mem_of_getElem? (i := 33) rfl) rfl
theorem tb_64 : Cond.selects mX3_setMembers.2.1.cls mX3_setMembers.2.1 mX3_setMembers.2.1 ∈ q_tb := ch_p5 _ (List.mem_of_getElem? (i := 0) rfl) rfl
theorem tb_1357 : Cond.code mX3_setMembers.2.1 mX3_setMembers.2.2.1 mX3_setMembers.2.2.2.1 mX3_setMembers.2.2.2.2 ∈ q_tb := ch_6 _ (List.mem_of_getElem? (i := 34) rfl) rfl
theorem cv_3_102 : q_CV RX3 102 mX3_setMembers 3 := ⟨tb_1354, tb_1356, tb_64, tb_139, tb_1357, ⟨by decide +kernel, by decide +kernel, by decide +kernel⟩, by decide⟩
theorem tb_1358 : Cond.methodLink RX3 106 mX3_holdsTogether.2.1 ∈ q_tb := ch_6 _ (List.mem_of_getElem? (i := 35) rfl) rfl
theorem tb_1360 : Cond.instanceMethod mX3_holdsTogether.2.1 ∈ q_tb := ch_6 _ (List.mem_of_getElem? (i := 37) rfl) rfl
theorem tb_65 : Cond.selects mX3_holdsTogether.2.1.cls mX3_holdsTogether.2.1 mX3_holdsTogether.2.1 ∈ q_tb := ch_p5 _ (List.mem_of_getElem? (i := 1) rfl) rfl
theorem tb_1361 : Cond.code mX3_holdsTogether.2.1 mX3_holdsTogether.2.2.1 mX3_holdsTogether.2.2.2.1 mX3_holdsTogether.2.2.2.2 ∈ q_tb := ch_6 _ (List.mem_of_getElem? (i := 38) rfl) rfl
theorem cv_3_106 : q_CV RX3 106 mX3_holdsTogether 1 := ⟨tb_1358, tb_1360, tb_65, tb_139, tb_1361, ⟨by decide +kernel, by decide +kernel, by decide +kernel⟩, by decide⟩
theorem tb_1362 : Cond.methodLink RX3 110 mX3_pickMembers.2.1 ∈ q_tb := ch_6 _ (List.mem_of_getElem? (i := 39) rfl) rfl
theorem tb_1364 : Cond.instanceMethod mX3_pickMembers.2.1 ∈ q_tb := ch_6 _ (List.mem_of_getElem? (i := 41) rfl) rfl
theorem tb_66 : Cond.selects mX3_pickMembers.2.1.cls mX3_pickMembers.2.1 mX3_pickMembers.2.1 ∈ q_tb := ch_p5 _ (List.mem_of_getElem? (i := 2) rfl) rfl
theorem tb_1365 : Cond.code mX3_pickMembers.2.1 mX3_pickMembers.2.2.1 mX3_pickMembers.2.2.2.1 mX3_pickMembers.2.2.2.2 ∈ q_tb := ch_6 _ (List.mem_of_getElem? (i := 42) rfl) rfl
theorem cv_3_110 : q_CV RX3 110 mX3_pickMembers 2 := ⟨tb_1362, tb_1364, tb_66, tb_139, tb_1365, ⟨by decide +kernel, by decide +kernel, by decide +kernel⟩, by decide⟩
theorem tb_1366 : Cond.methodLink RX3 113 mX3_keepFound.2.1 ∈ q_tb := ch_6 _ (List.mem_of_getElem? (i := 43) rfl) rfl
theorem tb_1368 : Cond.instanceMethod mX3_keepFound.2.1 ∈ q_tb := ch_6 _ (List.mem_of_getElem? (i := 45) rfl) rfl
theorem tb_67 : Cond.selects mX3_keepFound.2.1.cls mX3_keepFound.2.1 mX3_keepFound.2.1 ∈ q_tb := ch_p5 _ (List.mem_of_getElem? (i := 3) rfl) rfl
theorem tb_1369 : Cond.code mX3_keepFound.2.1 mX3_keepFound.2.2.1 mX3_keepFound.2.2.2.1 mX3_keepFound.2.2.2.2 ∈ q_tb := ch_6 _ (List.mem_of_getElem? (i := 46) rfl) rfl
theorem cv_3_113 : q_CV RX3 113 mX3_keepFound 1 := ⟨tb_1366, tb_1368, tb_67, tb_139, tb_1369, ⟨by decide +kernel, by decide +kernel, by decide +kernel⟩, by decide⟩
theorem tb_1348 : Cond.methodLink RX3 116 mX6_allow.2.1 ∈ q_tb := ch_6 _ (List.mem_of_getElem? (i := 25) rfl) rfl
theorem tb_195 : Cond.instanceMethod mX6_allow.2.1 ∈ q_tb := ch_1 _ (List.mem_of_getElem? (i := 72) rfl) rfl
theorem tb_196 : Cond.selects mX6_allow.2.1.cls mX6_allow.2.1 mX6_allow.2.1 ∈ q_tb := ch_1 _ (List.mem_of_getElem? (i := 73) rfl) rfl
theorem tb_197 : Cond.code mX6_allow.2.1 mX6_allow.2.2.1 mX6_allow.2.2.2.1 mX6_allow.2.2.2.2 ∈ q_tb := ch_1 _ (List.mem_of_getElem? (i := 74) rfl) rfl
theorem cv_3_116 : q_CV RX3 116 mX6_allow 1 := ⟨tb_1348, tb_195, tb_196, tb_127, tb_197, ⟨by decide +kernel, by decide +kernel, by decide +kernel⟩, by decide⟩
theorem tb_1349 : Cond.methodLink RX3 119 mX4_has.2.1 ∈ q_tb := ch_6 _ (List.mem_of_getElem? (i := 26) rfl) rfl
theorem cv_3_119 : q_CV RX3 119 mX4_has 1 := ⟨tb_1349, tb_822, tb_823, tb_131, tb_824, ⟨by decide +kernel, by decide +kernel, by decide +kernel⟩, by decide⟩
theorem tb_1350 : Cond.methodLink RX3 122 mX1_deedsDone.2.1 ∈ q_tb := ch_6 _ (List.mem_of_getElem? (i := 27) rfl) rfl
theorem tb_1351 : Cond.instanceMethod mX1_deedsDone.2.1 ∈ q_tb := ch_6 _ (List.mem_of_getElem? (i := 28) rfl) rfl
theorem tb_1352 : Cond.selects mX1_deedsDone.2.1.cls mX1_deedsDone.2.1 mX1_deedsDone.2.1 ∈ q_tb := ch_6 _ (List.mem_of_getElem? (i := 29) rfl) rfl
theorem tb_1353 : Cond.code mX1_deedsDone.2.1 mX1_deedsDone.2.2.1 mX1_deedsDone.2.2.2.1 mX1_deedsDone.2.2.2.2 ∈ q_tb := ch_6 _ (List.mem_of_getElem? (i := 30) rfl) rfl
theorem cv_3_122 : q_CV RX3 122 mX1_deedsDone 0 := ⟨tb_1350, tb_1351, tb_1352, tb_138, tb_1353, ⟨by decide +kernel, by decide +kernel, by decide +kernel⟩, by decide⟩
theorem tb_821 : Cond.methodLink RX4 26 mX4_has.2.1 ∈ q_tb := ch_3 _ (List.mem_of_getElem? (i := 218) rfl) rfl
theorem cv_4_26 : q_CV RX4 26 mX4_has 1 := ⟨tb_821, tb_822, tb_823, tb_131, tb_824, ⟨by decide +kernel, by decide +kernel, by decide +kernel⟩, by decide⟩
theorem tb_768 : Cond.methodLink RX4 30 mX4_add.2.1 ∈ q_tb := ch_3 _ (List.mem_of_getElem? (i := 165) rfl) rfl
theorem tb_769 : Cond.instanceMethod mX4_add.2.1 ∈ q_tb := ch_3 _ (List.mem_of_getElem? (i := 166) rfl) rfl
theorem tb_770 : Cond.selects mX4_add.2.1.cls mX4_add.2.1 mX4_add.2.1 ∈ q_tb := ch_3 _ (List.mem_of_getElem? (i := 167) rfl) rfl
theorem tb_771 : Cond.code mX4_add.2.1 mX4_add.2.2.1 mX4_add.2.2.2.1 mX4_add.2.2.2.2 ∈ q_tb := ch_3 _ (List.mem_of_getElem? (i := 168) rfl) rfl
theorem cv_4_30 : q_CV RX4 30 mX4_add 1 := ⟨tb_768, tb_769, tb_770, tb_131, tb_771, ⟨by decide +kernel, by decide +kernel, by decide +kernel⟩, by decide⟩
theorem tb_793 : Cond.methodLink RX4 34 mX4_add_.2.1 ∈ q_tb := ch_3 _ (List.mem_of_getElem? (i := 190) rfl) rfl
theorem tb_765 : Cond.instanceMethod mX4_add_.2.1 ∈ q_tb := ch_3 _ (List.mem_of_getElem? (i := 162) rfl) rfl
theorem tb_766 : Cond.selects mX4_add_.2.1.cls mX4_add_.2.1 mX4_add_.2.1 ∈ q_tb := ch_3 _ (List.mem_of_getElem? (i := 163) rfl) rfl
theorem tb_767 : Cond.code mX4_add_.2.1 mX4_add_.2.2.1 mX4_add_.2.2.2.1 mX4_add_.2.2.2.2 ∈ q_tb := ch_3 _ (List.mem_of_getElem? (i := 164) rfl) rfl
theorem cv_4_34 : q_CV RX4 34 mX4_add_ 2 := ⟨tb_793, tb_765, tb_766, tb_131, tb_767, ⟨by decide +kernel, by decide +kernel, by decide +kernel⟩, by decide⟩
theorem tb_590 : Cond.methodLink RX5 33 mX4_clear.2.1 ∈ q_tb := ch_2 _ (List.mem_of_getElem? (i := 227) rfl) rfl
theorem tb_591 : Cond.instanceMethod mX4_clear.2.1 ∈ q_tb := ch_2 _ (List.mem_of_getElem? (i := 228) rfl) rfl
theorem tb_592 : Cond.selects mX4_clear.2.1.cls mX4_clear.2.1 mX4_clear.2.1 ∈ q_tb := ch_2 _ (List.mem_of_getElem? (i := 229) rfl) rfl
theorem tb_593 : Cond.code mX4_clear.2.1 mX4_clear.2.2.1 mX4_clear.2.2.2.1 mX4_clear.2.2.2.2 ∈ q_tb := ch_2 _ (List.mem_of_getElem? (i := 230) rfl) rfl
theorem cv_5_33 : q_CV RX5 33 mX4_clear 0 := ⟨tb_590, tb_591, tb_592, tb_131, tb_593, ⟨by decide +kernel, by decide +kernel, by decide +kernel⟩, by decide⟩
theorem tb_594 : Cond.methodLink RX5 43 mX7_scan.2.1 ∈ q_tb := ch_2 _ (List.mem_of_getElem? (i := 231) rfl) rfl
theorem tb_595 : Cond.instanceMethod mX7_scan.2.1 ∈ q_tb := ch_2 _ (List.mem_of_getElem? (i := 232) rfl) rfl
theorem tb_596 : Cond.selects mX7_scan.2.1.cls mX7_scan.2.1 mX7_scan.2.1 ∈ q_tb := ch_2 _ (List.mem_of_getElem? (i := 233) rfl) rfl
theorem tb_133 : Cond.initialized mX7_scan.2.1.cls ∈ q_tb := ch_1 _ (List.mem_of_getElem? (i := 10) rfl) rfl
theorem tb_597 : Cond.code mX7_scan.2.1 mX7_scan.2.2.1 mX7_scan.2.2.2.1 mX7_scan.2.2.2.2 ∈ q_tb := ch_2 _ (List.mem_of_getElem? (i := 234) rfl) rfl
theorem cv_5_43 : q_CV RX5 43 mX7_scan 1 := ⟨tb_594, tb_595, tb_596, tb_133, tb_597, ⟨by decide +kernel, by decide +kernel, by decide +kernel⟩, by decide⟩
theorem tb_693 : Cond.methodLink RX5 50 mX7_kindAt.2.1 ∈ q_tb := ch_3 _ (List.mem_of_getElem? (i := 90) rfl) rfl
theorem tb_694 : Cond.instanceMethod mX7_kindAt.2.1 ∈ q_tb := ch_3 _ (List.mem_of_getElem? (i := 91) rfl) rfl
theorem tb_695 : Cond.selects mX7_kindAt.2.1.cls mX7_kindAt.2.1 mX7_kindAt.2.1 ∈ q_tb := ch_3 _ (List.mem_of_getElem? (i := 92) rfl) rfl
theorem tb_696 : Cond.code mX7_kindAt.2.1 mX7_kindAt.2.2.1 mX7_kindAt.2.2.2.1 mX7_kindAt.2.2.2.2 ∈ q_tb := ch_3 _ (List.mem_of_getElem? (i := 93) rfl) rfl
theorem cv_5_50 : q_CV RX5 50 mX7_kindAt 1 := ⟨tb_693, tb_694, tb_695, tb_133, tb_696, ⟨by decide +kernel, by decide +kernel, by decide +kernel⟩, by decide⟩
theorem tb_697 : Cond.methodLink RX5 57 mX7_startAt.2.1 ∈ q_tb := ch_3 _ (List.mem_of_getElem? (i := 94) rfl) rfl
theorem tb_698 : Cond.instanceMethod mX7_startAt.2.1 ∈ q_tb := ch_3 _ (List.mem_of_getElem? (i := 95) rfl) rfl
theorem tb_699 : Cond.selects mX7_startAt.2.1.cls mX7_startAt.2.1 mX7_startAt.2.1 ∈ q_tb := ch_3 _ (List.mem_of_getElem? (i := 96) rfl) rfl
theorem tb_700 : Cond.code mX7_startAt.2.1 mX7_startAt.2.2.1 mX7_startAt.2.2.2.1 mX7_startAt.2.2.2.2 ∈ q_tb := ch_3 _ (List.mem_of_getElem? (i := 97) rfl) rfl
theorem cv_5_57 : q_CV RX5 57 mX7_startAt 1 := ⟨tb_697, tb_698, tb_699, tb_133, tb_700, ⟨by decide +kernel, by decide +kernel, by decide +kernel⟩, by decide⟩
theorem tb_701 : Cond.methodLink RX5 63 mX5_readPattern.2.1 ∈ q_tb := ch_3 _ (List.mem_of_getElem? (i := 98) rfl) rfl
theorem tb_703 : Cond.instanceMethod mX5_readPattern.2.1 ∈ q_tb := ch_3 _ (List.mem_of_getElem? (i := 100) rfl) rfl
theorem tb_7 : Cond.selects mX5_readPattern.2.1.cls mX5_readPattern.2.1 mX5_readPattern.2.1 ∈ q_tb := ch_p1 _ (List.mem_of_getElem? (i := 7) rfl) rfl
theorem tb_704 : Cond.code mX5_readPattern.2.1 mX5_readPattern.2.2.1 mX5_readPattern.2.2.2.1 mX5_readPattern.2.2.2.2 ∈ q_tb := ch_3 _ (List.mem_of_getElem? (i := 101) rfl) rfl
theorem cv_5_63 : q_CV RX5 63 mX5_readPattern 0 := ⟨tb_701, tb_703, tb_7, tb_132, tb_704, ⟨by decide +kernel, by decide +kernel, by decide +kernel⟩, by decide⟩
theorem tb_709 : Cond.methodLink RX5 66 mX5_fail.2.1 ∈ q_tb := ch_3 _ (List.mem_of_getElem? (i := 106) rfl) rfl
theorem tb_711 : Cond.instanceMethod mX5_fail.2.1 ∈ q_tb := ch_3 _ (List.mem_of_getElem? (i := 108) rfl) rfl
theorem tb_8 : Cond.selects mX5_fail.2.1.cls mX5_fail.2.1 mX5_fail.2.1 ∈ q_tb := ch_p1 _ (List.mem_of_getElem? (i := 8) rfl) rfl
theorem tb_712 : Cond.code mX5_fail.2.1 mX5_fail.2.2.1 mX5_fail.2.2.2.1 mX5_fail.2.2.2.2 ∈ q_tb := ch_3 _ (List.mem_of_getElem? (i := 109) rfl) rfl
theorem cv_5_66 : q_CV RX5 66 mX5_fail 1 := ⟨tb_709, tb_711, tb_8, tb_132, tb_712, ⟨by decide +kernel, by decide +kernel, by decide +kernel⟩, by decide⟩
theorem tb_705 : Cond.methodLink RX5 76 mX4_size.2.1 ∈ q_tb := ch_3 _ (List.mem_of_getElem? (i := 102) rfl) rfl
theorem cv_5_76 : q_CV RX5 76 mX4_size 0 := ⟨tb_705, tb_706, tb_707, tb_131, tb_708, ⟨by decide +kernel, by decide +kernel, by decide +kernel⟩, by decide⟩
theorem tb_713 : Cond.methodLink RX5 80 mX5_take.2.1 ∈ q_tb := ch_3 _ (List.mem_of_getElem? (i := 110) rfl) rfl
theorem tb_715 : Cond.instanceMethod mX5_take.2.1 ∈ q_tb := ch_3 _ (List.mem_of_getElem? (i := 112) rfl) rfl
theorem tb_9 : Cond.selects mX5_take.2.1.cls mX5_take.2.1 mX5_take.2.1 ∈ q_tb := ch_p1 _ (List.mem_of_getElem? (i := 9) rfl) rfl
theorem tb_716 : Cond.code mX5_take.2.1 mX5_take.2.2.1 mX5_take.2.2.2.1 mX5_take.2.2.2.2 ∈ q_tb := ch_3 _ (List.mem_of_getElem? (i := 113) rfl) rfl
theorem cv_5_80 : q_CV RX5 80 mX5_take 1 := ⟨tb_713, tb_715, tb_9, tb_132, tb_716, ⟨by decide +kernel, by decide +kernel, by decide +kernel⟩, by decide⟩
theorem tb_717 : Cond.methodLink RX5 83 mX7_saysAt.2.1 ∈ q_tb := ch_3 _ (List.mem_of_getElem? (i := 114) rfl) rfl
theorem tb_718 : Cond.instanceMethod mX7_saysAt.2.1 ∈ q_tb := ch_3 _ (List.mem_of_getElem? (i := 115) rfl) rfl
theorem tb_719 : Cond.selects mX7_saysAt.2.1.cls mX7_saysAt.2.1 mX7_saysAt.2.1 ∈ q_tb := ch_3 _ (List.mem_of_getElem? (i := 116) rfl) rfl
theorem tb_720 : Cond.code mX7_saysAt.2.1 mX7_saysAt.2.2.1 mX7_saysAt.2.2.2.1 mX7_saysAt.2.2.2.2 ∈ q_tb := ch_3 _ (List.mem_of_getElem? (i := 117) rfl) rfl
theorem cv_5_83 : q_CV RX5 83 mX7_saysAt 1 := ⟨tb_717, tb_718, tb_719, tb_133, tb_720, ⟨by decide +kernel, by decide +kernel, by decide +kernel⟩, by decide⟩
theorem tb_721 : Cond.methodLink RX5 87 mX5_namePattern.2.1 ∈ q_tb := ch_3 _ (List.mem_of_getElem? (i := 118) rfl) rfl
theorem tb_723 : Cond.instanceMethod mX5_namePattern.2.1 ∈ q_tb := ch_3 _ (List.mem_of_getElem? (i := 120) rfl) rfl
theorem tb_10 : Cond.selects mX5_namePattern.2.1.cls mX5_namePattern.2.1 mX5_namePattern.2.1 ∈ q_tb := ch_p1 _ (List.mem_of_getElem? (i := 10) rfl) rfl
theorem tb_724 : Cond.code mX5_namePattern.2.1 mX5_namePattern.2.2.1 mX5_namePattern.2.2.2.1 mX5_namePattern.2.2.2.2 ∈ q_tb := ch_3 _ (List.mem_of_getElem? (i := 121) rfl) rfl
theorem cv_5_87 : q_CV RX5 87 mX5_namePattern 1 := ⟨tb_721, tb_723, tb_10, tb_132, tb_724, ⟨by decide +kernel, by decide +kernel, by decide +kernel⟩, by decide⟩
theorem tb_733 : Cond.methodLink RX5 94 mX5_readReach.2.1 ∈ q_tb := ch_3 _ (List.mem_of_getElem? (i := 130) rfl) rfl
theorem tb_735 : Cond.instanceMethod mX5_readReach.2.1 ∈ q_tb := ch_3 _ (List.mem_of_getElem? (i := 132) rfl) rfl
theorem tb_13 : Cond.selects mX5_readReach.2.1.cls mX5_readReach.2.1 mX5_readReach.2.1 ∈ q_tb := ch_p1 _ (List.mem_of_getElem? (i := 13) rfl) rfl
theorem tb_736 : Cond.code mX5_readReach.2.1 mX5_readReach.2.2.1 mX5_readReach.2.2.2.1 mX5_readReach.2.2.2.2 ∈ q_tb := ch_3 _ (List.mem_of_getElem? (i := 133) rfl) rfl
theorem cv_5_94 : q_CV RX5 94 mX5_readReach 0 := ⟨tb_733, tb_735, tb_13, tb_132, tb_736, ⟨by decide +kernel, by decide +kernel, by decide +kernel⟩, by decide⟩
theorem tb_749 : Cond.methodLink RX5 97 mX4_open.2.1 ∈ q_tb := ch_3 _ (List.mem_of_getElem? (i := 146) rfl) rfl
theorem tb_750 : Cond.instanceMethod mX4_open.2.1 ∈ q_tb := ch_3 _ (List.mem_of_getElem? (i := 147) rfl) rfl
theorem tb_751 : Cond.selects mX4_open.2.1.cls mX4_open.2.1 mX4_open.2.1 ∈ q_tb := ch_3 _ (List.mem_of_getElem? (i := 148) rfl) rfl
theorem tb_752 : Cond.code mX4_open.2.1 mX4_open.2.2.1 mX4_open.2.2.2.1 mX4_open.2.2.2.2 ∈ q_tb := ch_3 _ (List.mem_of_getElem? (i := 149) rfl) rfl
theorem cv_5_97 : q_CV RX5 97 mX4_open 1 := ⟨tb_749, tb_750, tb_751, tb_131, tb_752, ⟨by decide +kernel, by decide +kernel, by decide +kernel⟩, by decide⟩
theorem tb_753 : Cond.methodLink RX5 100 mX5_readDeeds.2.1 ∈ q_tb := ch_3 _ (List.mem_of_getElem? (i := 150) rfl) rfl
theorem tb_755 : Cond.instanceMethod mX5_readDeeds.2.1 ∈ q_tb := ch_3 _ (List.mem_of_getElem? (i := 152) rfl) rfl
theorem tb_17 : Cond.selects mX5_readDeeds.2.1.cls mX5_readDeeds.2.1 mX5_readDeeds.2.1 ∈ q_tb := ch_p2 _ (List.mem_of_getElem? (i := 1) rfl) rfl
theorem tb_756 : Cond.code mX5_readDeeds.2.1 mX5_readDeeds.2.2.1 mX5_readDeeds.2.2.2.1 mX5_readDeeds.2.2.2.2 ∈ q_tb := ch_3 _ (List.mem_of_getElem? (i := 153) rfl) rfl
theorem cv_5_100 : q_CV RX5 100 mX5_readDeeds 1 := ⟨tb_753, tb_755, tb_17, tb_132, tb_756, ⟨by decide +kernel, by decide +kernel, by decide +kernel⟩, by decide⟩
theorem tb_788 : Cond.methodLink RX5 103 mX4_add.2.1 ∈ q_tb := ch_3 _ (List.mem_of_getElem? (i := 185) rfl) rfl
theorem cv_5_103 : q_CV RX5 103 mX4_add 1 := ⟨tb_788, tb_769, tb_770, tb_131, tb_771, ⟨by decide +kernel, by decide +kernel, by decide +kernel⟩, by decide⟩
theorem tb_834 : Cond.methodLink RX5 106 mX4_close.2.1 ∈ q_tb := ch_3 _ (List.mem_of_getElem? (i := 231) rfl) rfl
theorem tb_835 : Cond.instanceMethod mX4_close.2.1 ∈ q_tb := ch_3 _ (List.mem_of_getElem? (i := 232) rfl) rfl
theorem tb_836 : Cond.selects mX4_close.2.1.cls mX4_close.2.1 mX4_close.2.1 ∈ q_tb := ch_3 _ (List.mem_of_getElem? (i := 233) rfl) rfl
theorem tb_837 : Cond.code mX4_close.2.1 mX4_close.2.2.1 mX4_close.2.2.2.1 mX4_close.2.2.2.2 ∈ q_tb := ch_3 _ (List.mem_of_getElem? (i := 234) rfl) rfl
theorem cv_5_106 : q_CV RX5 106 mX4_close 0 := ⟨tb_834, tb_835, tb_836, tb_131, tb_837, ⟨by decide +kernel, by decide +kernel, by decide +kernel⟩, by decide⟩
theorem tb_725 : Cond.methodLink RX5 109 mX5_patternOf.2.1 ∈ q_tb := ch_3 _ (List.mem_of_getElem? (i := 122) rfl) rfl
theorem tb_727 : Cond.instanceMethod mX5_patternOf.2.1 ∈ q_tb := ch_3 _ (List.mem_of_getElem? (i := 124) rfl) rfl
theorem tb_11 : Cond.selects mX5_patternOf.2.1.cls mX5_patternOf.2.1 mX5_patternOf.2.1 ∈ q_tb := ch_p1 _ (List.mem_of_getElem? (i := 11) rfl) rfl
theorem tb_728 : Cond.code mX5_patternOf.2.1 mX5_patternOf.2.2.1 mX5_patternOf.2.2.2.1 mX5_patternOf.2.2.2.2 ∈ q_tb := ch_3 _ (List.mem_of_getElem? (i := 125) rfl) rfl
theorem cv_5_109 : q_CV RX5 109 mX5_patternOf 1 := ⟨tb_725, tb_727, tb_11, tb_132, tb_728, ⟨by decide +kernel, by decide +kernel, by decide +kernel⟩, by decide⟩
theorem tb_729 : Cond.methodLink RX5 113 mX5_note.2.1 ∈ q_tb := ch_3 _ (List.mem_of_getElem? (i := 126) rfl) rfl
theorem tb_731 : Cond.instanceMethod mX5_note.2.1 ∈ q_tb := ch_3 _ (List.mem_of_getElem? (i := 128) rfl) rfl
theorem tb_12 : Cond.selects mX5_note.2.1.cls mX5_note.2.1 mX5_note.2.1 ∈ q_tb := ch_p1 _ (List.mem_of_getElem? (i := 12) rfl) rfl
theorem tb_732 : Cond.code mX5_note.2.1 mX5_note.2.2.1 mX5_note.2.2.2.1 mX5_note.2.2.2.2 ∈ q_tb := ch_3 _ (List.mem_of_getElem? (i := 129) rfl) rfl
theorem cv_5_113 : q_CV RX5 113 mX5_note 2 := ⟨tb_729, tb_731, tb_12, tb_132, tb_732, ⟨by decide +kernel, by decide +kernel, by decide +kernel⟩, by decide⟩
theorem tb_737 : Cond.methodLink RX5 117 mX5_noteIfReached.2.1 ∈ q_tb := ch_3 _ (List.mem_of_getElem? (i := 134) rfl) rfl
theorem tb_739 : Cond.instanceMethod mX5_noteIfReached.2.1 ∈ q_tb := ch_3 _ (List.mem_of_getElem? (i := 136) rfl) rfl
theorem tb_14 : Cond.selects mX5_noteIfReached.2.1.cls mX5_noteIfReached.2.1 mX5_noteIfReached.2.1 ∈ q_tb := ch_p1 _ (List.mem_of_getElem? (i := 14) rfl) rfl
theorem tb_740 : Cond.code mX5_noteIfReached.2.1 mX5_noteIfReached.2.2.1 mX5_noteIfReached.2.2.2.1 mX5_noteIfReached.2.2.2.2 ∈ q_tb := ch_3 _ (List.mem_of_getElem? (i := 137) rfl) rfl
theorem cv_5_117 : q_CV RX5 117 mX5_noteIfReached 1 := ⟨tb_737, tb_739, tb_14, tb_132, tb_740, ⟨by decide +kernel, by decide +kernel, by decide +kernel⟩, by decide⟩
theorem tb_745 : Cond.methodLink RX5 120 mX5_bringInReach.2.1 ∈ q_tb := ch_3 _ (List.mem_of_getElem? (i := 142) rfl) rfl
theorem tb_747 : Cond.instanceMethod mX5_bringInReach.2.1 ∈ q_tb := ch_3 _ (List.mem_of_getElem? (i := 144) rfl) rfl
theorem tb_16 : Cond.selects mX5_bringInReach.2.1.cls mX5_bringInReach.2.1 mX5_bringInReach.2.1 ∈ q_tb := ch_p2 _ (List.mem_of_getElem? (i := 0) rfl) rfl
theorem tb_748 : Cond.code mX5_bringInReach.2.1 mX5_bringInReach.2.2.1 mX5_bringInReach.2.2.2.1 mX5_bringInReach.2.2.2.2 ∈ q_tb := ch_3 _ (List.mem_of_getElem? (i := 145) rfl) rfl
theorem cv_5_120 : q_CV RX5 120 mX5_bringInReach 1 := ⟨tb_745, tb_747, tb_16, tb_132, tb_748, ⟨by decide +kernel, by decide +kernel, by decide +kernel⟩, by decide⟩
theorem tb_741 : Cond.methodLink RX5 123 mX5_reachOf.2.1 ∈ q_tb := ch_3 _ (List.mem_of_getElem? (i := 138) rfl) rfl
theorem tb_743 : Cond.instanceMethod mX5_reachOf.2.1 ∈ q_tb := ch_3 _ (List.mem_of_getElem? (i := 140) rfl) rfl
theorem tb_15 : Cond.selects mX5_reachOf.2.1.cls mX5_reachOf.2.1 mX5_reachOf.2.1 ∈ q_tb := ch_p1 _ (List.mem_of_getElem? (i := 15) rfl) rfl
theorem tb_744 : Cond.code mX5_reachOf.2.1 mX5_reachOf.2.2.1 mX5_reachOf.2.2.2.1 mX5_reachOf.2.2.2.2 ∈ q_tb := ch_3 _ (List.mem_of_getElem? (i := 141) rfl) rfl
theorem cv_5_123 : q_CV RX5 123 mX5_reachOf 1 := ⟨tb_741, tb_743, tb_15, tb_132, tb_744, ⟨by decide +kernel, by decide +kernel, by decide +kernel⟩, by decide⟩
theorem tb_757 : Cond.methodLink RX5 126 mX5_startsDeed.2.1 ∈ q_tb := ch_3 _ (List.mem_of_getElem? (i := 154) rfl) rfl
theorem tb_758 : Cond.static mX5_startsDeed.2.1 ∈ q_tb := ch_3 _ (List.mem_of_getElem? (i := 155) rfl) rfl
theorem tb_759 : Cond.code mX5_startsDeed.2.1 mX5_startsDeed.2.2.1 mX5_startsDeed.2.2.2.1 mX5_startsDeed.2.2.2.2 ∈ q_tb := ch_3 _ (List.mem_of_getElem? (i := 156) rfl) rfl
theorem cv_5_126 : q_CS RX5 126 mX5_startsDeed 1 := ⟨tb_757, tb_758, tb_132, tb_759, ⟨by decide +kernel, by decide +kernel, by decide +kernel⟩, by decide⟩
theorem tb_760 : Cond.methodLink RX5 130 mX5_readDeed.2.1 ∈ q_tb := ch_3 _ (List.mem_of_getElem? (i := 157) rfl) rfl
theorem tb_762 : Cond.instanceMethod mX5_readDeed.2.1 ∈ q_tb := ch_3 _ (List.mem_of_getElem? (i := 159) rfl) rfl
theorem tb_18 : Cond.selects mX5_readDeed.2.1.cls mX5_readDeed.2.1 mX5_readDeed.2.1 ∈ q_tb := ch_p2 _ (List.mem_of_getElem? (i := 2) rfl) rfl
theorem tb_763 : Cond.code mX5_readDeed.2.1 mX5_readDeed.2.2.1 mX5_readDeed.2.2.2.1 mX5_readDeed.2.2.2.2 ∈ q_tb := ch_3 _ (List.mem_of_getElem? (i := 160) rfl) rfl
theorem cv_5_130 : q_CV RX5 130 mX5_readDeed 1 := ⟨tb_760, tb_762, tb_18, tb_132, tb_763, ⟨by decide +kernel, by decide +kernel, by decide +kernel⟩, by decide⟩
theorem tb_764 : Cond.methodLink RX5 133 mX4_add_.2.1 ∈ q_tb := ch_3 _ (List.mem_of_getElem? (i := 161) rfl) rfl
theorem cv_5_133 : q_CV RX5 133 mX4_add_ 2 := ⟨tb_764, tb_765, tb_766, tb_131, tb_767, ⟨by decide +kernel, by decide +kernel, by decide +kernel⟩, by decide⟩
theorem tb_772 : Cond.methodLink RX5 135 mX5_readFor.2.1 ∈ q_tb := ch_3 _ (List.mem_of_getElem? (i := 169) rfl) rfl
theorem tb_774 : Cond.instanceMethod mX5_readFor.2.1 ∈ q_tb := ch_3 _ (List.mem_of_getElem? (i := 171) rfl) rfl
theorem tb_19 : Cond.selects mX5_readFor.2.1.cls mX5_readFor.2.1 mX5_readFor.2.1 ∈ q_tb := ch_p2 _ (List.mem_of_getElem? (i := 3) rfl) rfl
theorem tb_775 : Cond.code mX5_readFor.2.1 mX5_readFor.2.2.1 mX5_readFor.2.2.2.1 mX5_readFor.2.2.2.2 ∈ q_tb := ch_3 _ (List.mem_of_getElem? (i := 172) rfl) rfl
theorem cv_5_135 : q_CV RX5 135 mX5_readFor 2 := ⟨tb_772, tb_774, tb_19, tb_132, tb_775, ⟨by decide +kernel, by decide +kernel, by decide +kernel⟩, by decide⟩
theorem tb_802 : Cond.methodLink RX5 138 mX5_readIf.2.1 ∈ q_tb := ch_3 _ (List.mem_of_getElem? (i := 199) rfl) rfl
theorem tb_804 : Cond.instanceMethod mX5_readIf.2.1 ∈ q_tb := ch_3 _ (List.mem_of_getElem? (i := 201) rfl) rfl
theorem tb_23 : Cond.selects mX5_readIf.2.1.cls mX5_readIf.2.1 mX5_readIf.2.1 ∈ q_tb := ch_p2 _ (List.mem_of_getElem? (i := 7) rfl) rfl
theorem tb_805 : Cond.code mX5_readIf.2.1 mX5_readIf.2.2.1 mX5_readIf.2.2.2.1 mX5_readIf.2.2.2.2 ∈ q_tb := ch_3 _ (List.mem_of_getElem? (i := 202) rfl) rfl
theorem cv_5_138 : q_CV RX5 138 mX5_readIf 1 := ⟨tb_802, tb_804, tb_23, tb_132, tb_805, ⟨by decide +kernel, by decide +kernel, by decide +kernel⟩, by decide⟩
theorem tb_813 : Cond.methodLink RX5 141 mX5_readDo.2.1 ∈ q_tb := ch_3 _ (List.mem_of_getElem? (i := 210) rfl) rfl
theorem tb_815 : Cond.instanceMethod mX5_readDo.2.1 ∈ q_tb := ch_3 _ (List.mem_of_getElem? (i := 212) rfl) rfl
theorem tb_25 : Cond.selects mX5_readDo.2.1.cls mX5_readDo.2.1 mX5_readDo.2.1 ∈ q_tb := ch_p2 _ (List.mem_of_getElem? (i := 9) rfl) rfl
theorem tb_816 : Cond.code mX5_readDo.2.1 mX5_readDo.2.2.1 mX5_readDo.2.2.2.1 mX5_readDo.2.2.2.2 ∈ q_tb := ch_3 _ (List.mem_of_getElem? (i := 213) rfl) rfl
theorem cv_5_141 : q_CV RX5 141 mX5_readDo 0 := ⟨tb_813, tb_815, tb_25, tb_132, tb_816, ⟨by decide +kernel, by decide +kernel, by decide +kernel⟩, by decide⟩
theorem tb_825 : Cond.methodLink RX5 144 mX5_readStroke.2.1 ∈ q_tb := ch_3 _ (List.mem_of_getElem? (i := 222) rfl) rfl
theorem tb_827 : Cond.instanceMethod mX5_readStroke.2.1 ∈ q_tb := ch_3 _ (List.mem_of_getElem? (i := 224) rfl) rfl
theorem tb_26 : Cond.selects mX5_readStroke.2.1.cls mX5_readStroke.2.1 mX5_readStroke.2.1 ∈ q_tb := ch_p2 _ (List.mem_of_getElem? (i := 10) rfl) rfl
theorem tb_828 : Cond.code mX5_readStroke.2.1 mX5_readStroke.2.2.1 mX5_readStroke.2.2.2.1 mX5_readStroke.2.2.2.2 ∈ q_tb := ch_3 _ (List.mem_of_getElem? (i := 225) rfl) rfl
theorem cv_5_144 : q_CV RX5 144 mX5_readStroke 1 := ⟨tb_825, tb_827, tb_26, tb_132, tb_828, ⟨by decide +kernel, by decide +kernel, by decide +kernel⟩, by decide⟩
theorem tb_829 : Cond.methodLink RX5 147 mX6_numbersOf.2.1 ∈ q_tb := ch_3 _ (List.mem_of_getElem? (i := 226) rfl) rfl
theorem cv_5_147 : q_CS RX5 147 mX6_numbersOf 1 := ⟨tb_829, tb_830, tb_127, tb_831, ⟨by decide +kernel, by decide +kernel, by decide +kernel⟩, by decide⟩
theorem tb_776 : Cond.methodLink RX5 152 mX5_readSum.2.1 ∈ q_tb := ch_3 _ (List.mem_of_getElem? (i := 173) rfl) rfl
theorem tb_778 : Cond.instanceMethod mX5_readSum.2.1 ∈ q_tb := ch_3 _ (List.mem_of_getElem? (i := 175) rfl) rfl
theorem tb_20 : Cond.selects mX5_readSum.2.1.cls mX5_readSum.2.1 mX5_readSum.2.1 ∈ q_tb := ch_p2 _ (List.mem_of_getElem? (i := 4) rfl) rfl
theorem tb_779 : Cond.code mX5_readSum.2.1 mX5_readSum.2.2.1 mX5_readSum.2.2.2.1 mX5_readSum.2.2.2.2 ∈ q_tb := ch_3 _ (List.mem_of_getElem? (i := 176) rfl) rfl
theorem cv_5_152 : q_CV RX5 152 mX5_readSum 1 := ⟨tb_776, tb_778, tb_20, tb_132, tb_779, ⟨by decide +kernel, by decide +kernel, by decide +kernel⟩, by decide⟩
theorem tb_789 : Cond.methodLink RX5 155 mX4_add__.2.1 ∈ q_tb := ch_3 _ (List.mem_of_getElem? (i := 186) rfl) rfl
theorem tb_790 : Cond.instanceMethod mX4_add__.2.1 ∈ q_tb := ch_3 _ (List.mem_of_getElem? (i := 187) rfl) rfl
theorem tb_791 : Cond.selects mX4_add__.2.1.cls mX4_add__.2.1 mX4_add__.2.1 ∈ q_tb := ch_3 _ (List.mem_of_getElem? (i := 188) rfl) rfl
theorem tb_792 : Cond.code mX4_add__.2.1 mX4_add__.2.2.1 mX4_add__.2.2.2.1 mX4_add__.2.2.2.2 ∈ q_tb := ch_3 _ (List.mem_of_getElem? (i := 189) rfl) rfl
theorem cv_5_155 : q_CV RX5 155 mX4_add__ 3 := ⟨tb_789, tb_790, tb_791, tb_131, tb_792, ⟨by decide +kernel, by decide +kernel, by decide +kernel⟩, by decide⟩
theorem tb_794 : Cond.methodLink RX5 158 mX4_here.2.1 ∈ q_tb := ch_3 _ (List.mem_of_getElem? (i := 191) rfl) rfl
theorem tb_795 : Cond.instanceMethod mX4_here.2.1 ∈ q_tb := ch_3 _ (List.mem_of_getElem? (i := 192) rfl) rfl
theorem tb_796 : Cond.selects mX4_here.2.1.cls mX4_here.2.1 mX4_here.2.1 ∈ q_tb := ch_3 _ (List.mem_of_getElem? (i := 193) rfl) rfl
theorem tb_797 : Cond.code mX4_here.2.1 mX4_here.2.2.1 mX4_here.2.2.2.1 mX4_here.2.2.2.2 ∈ q_tb := ch_3 _ (List.mem_of_getElem? (i := 194) rfl) rfl
theorem cv_5_158 : q_CV RX5 158 mX4_here 0 := ⟨tb_794, tb_795, tb_796, tb_131, tb_797, ⟨by decide +kernel, by decide +kernel, by decide +kernel⟩, by decide⟩
theorem tb_798 : Cond.methodLink RX5 161 mX4_aimHere.2.1 ∈ q_tb := ch_3 _ (List.mem_of_getElem? (i := 195) rfl) rfl
theorem tb_799 : Cond.instanceMethod mX4_aimHere.2.1 ∈ q_tb := ch_3 _ (List.mem_of_getElem? (i := 196) rfl) rfl
theorem tb_800 : Cond.selects mX4_aimHere.2.1.cls mX4_aimHere.2.1 mX4_aimHere.2.1 ∈ q_tb := ch_3 _ (List.mem_of_getElem? (i := 197) rfl) rfl
theorem tb_801 : Cond.code mX4_aimHere.2.1 mX4_aimHere.2.2.1 mX4_aimHere.2.2.2.1 mX4_aimHere.2.2.2.2 ∈ q_tb := ch_3 _ (List.mem_of_getElem? (i := 198) rfl) rfl
theorem cv_5_161 : q_CV RX5 161 mX4_aimHere 1 := ⟨tb_798, tb_799, tb_800, tb_131, tb_801, ⟨by decide +kernel, by decide +kernel, by decide +kernel⟩, by decide⟩
theorem tb_806 : Cond.methodLink RX5 164 mX5_readCondition.2.1 ∈ q_tb := ch_3 _ (List.mem_of_getElem? (i := 203) rfl) rfl
theorem tb_808 : Cond.instanceMethod mX5_readCondition.2.1 ∈ q_tb := ch_3 _ (List.mem_of_getElem? (i := 205) rfl) rfl
theorem tb_24 : Cond.selects mX5_readCondition.2.1.cls mX5_readCondition.2.1 mX5_readCondition.2.1 ∈ q_tb := ch_p2 _ (List.mem_of_getElem? (i := 8) rfl) rfl
theorem tb_809 : Cond.code mX5_readCondition.2.1 mX5_readCondition.2.2.1 mX5_readCondition.2.2.2.1 mX5_readCondition.2.2.2.2 ∈ q_tb := ch_3 _ (List.mem_of_getElem? (i := 206) rfl) rfl
theorem cv_5_164 : q_CV RX5 164 mX5_readCondition 0 := ⟨tb_806, tb_808, tb_24, tb_132, tb_809, ⟨by decide +kernel, by decide +kernel, by decide +kernel⟩, by decide⟩
theorem tb_817 : Cond.methodLink RX5 167 mX4_needs.2.1 ∈ q_tb := ch_3 _ (List.mem_of_getElem? (i := 214) rfl) rfl
theorem cv_5_167 : q_CV RX5 167 mX4_needs 1 := ⟨tb_817, tb_818, tb_819, tb_131, tb_820, ⟨by decide +kernel, by decide +kernel, by decide +kernel⟩, by decide⟩
theorem tb_810 : Cond.methodLink RX5 170 mX5_relationOf.2.1 ∈ q_tb := ch_3 _ (List.mem_of_getElem? (i := 207) rfl) rfl
theorem tb_811 : Cond.static mX5_relationOf.2.1 ∈ q_tb := ch_3 _ (List.mem_of_getElem? (i := 208) rfl) rfl
theorem tb_812 : Cond.code mX5_relationOf.2.1 mX5_relationOf.2.2.1 mX5_relationOf.2.2.2.1 mX5_relationOf.2.2.2.2 ∈ q_tb := ch_3 _ (List.mem_of_getElem? (i := 209) rfl) rfl
theorem cv_5_170 : q_CS RX5 170 mX5_relationOf 1 := ⟨tb_810, tb_811, tb_132, tb_812, ⟨by decide +kernel, by decide +kernel, by decide +kernel⟩, by decide⟩
theorem tb_780 : Cond.methodLink RX5 173 mX5_readProduct.2.1 ∈ q_tb := ch_3 _ (List.mem_of_getElem? (i := 177) rfl) rfl
theorem tb_782 : Cond.instanceMethod mX5_readProduct.2.1 ∈ q_tb := ch_3 _ (List.mem_of_getElem? (i := 179) rfl) rfl
theorem tb_21 : Cond.selects mX5_readProduct.2.1.cls mX5_readProduct.2.1 mX5_readProduct.2.1 ∈ q_tb := ch_p2 _ (List.mem_of_getElem? (i := 5) rfl) rfl
theorem tb_783 : Cond.code mX5_readProduct.2.1 mX5_readProduct.2.2.1 mX5_readProduct.2.2.2.1 mX5_readProduct.2.2.2.2 ∈ q_tb := ch_3 _ (List.mem_of_getElem? (i := 180) rfl) rfl
theorem cv_5_173 : q_CV RX5 173 mX5_readProduct 1 := ⟨tb_780, tb_782, tb_21, tb_132, tb_783, ⟨by decide +kernel, by decide +kernel, by decide +kernel⟩, by decide⟩
theorem tb_784 : Cond.methodLink RX5 176 mX5_readUnit.2.1 ∈ q_tb := ch_3 _ (List.mem_of_getElem? (i := 181) rfl) rfl
theorem tb_786 : Cond.instanceMethod mX5_readUnit.2.1 ∈ q_tb := ch_3 _ (List.mem_of_getElem? (i := 183) rfl) rfl
theorem tb_22 : Cond.selects mX5_readUnit.2.1.cls mX5_readUnit.2.1 mX5_readUnit.2.1 ∈ q_tb := ch_p2 _ (List.mem_of_getElem? (i := 6) rfl) rfl
theorem tb_787 : Cond.code mX5_readUnit.2.1 mX5_readUnit.2.2.1 mX5_readUnit.2.2.2.1 mX5_readUnit.2.2.2.2 ∈ q_tb := ch_3 _ (List.mem_of_getElem? (i := 184) rfl) rfl
theorem cv_5_176 : q_CV RX5 176 mX5_readUnit 1 := ⟨tb_784, tb_786, tb_22, tb_132, tb_787, ⟨by decide +kernel, by decide +kernel, by decide +kernel⟩, by decide⟩
theorem tb_194 : Cond.methodLink RX6 25 mX6_allow.2.1 ∈ q_tb := ch_1 _ (List.mem_of_getElem? (i := 71) rfl) rfl
theorem cv_6_25 : q_CV RX6 25 mX6_allow 1 := ⟨tb_194, tb_195, tb_196, tb_127, tb_197, ⟨by decide +kernel, by decide +kernel, by decide +kernel⟩, by decide⟩
theorem tb_198 : Cond.methodLink RX6 29 Lib.Math.max.name ∈ q_tb := ch_1 _ (List.mem_of_getElem? (i := 75) rfl) rfl
theorem tb_199 : Cond.static Lib.Math.max.name ∈ q_tb := ch_1 _ (List.mem_of_getElem? (i := 76) rfl) rfl
theorem tb_200 : Cond.code Lib.Math.max.name Lib.Math.max.code 2 (some .int) ∈ q_tb := ch_1 _ (List.mem_of_getElem? (i := 77) rfl) rfl
theorem cv_6_29 : q_CM RX6 29 Lib.Math.max.name Lib.Math.max.code 2 := ⟨tb_198, tb_199, tb_128, tb_200⟩
theorem tb_201 : Cond.methodLink RX6 35 Lib.Math.min.name ∈ q_tb := ch_1 _ (List.mem_of_getElem? (i := 78) rfl) rfl
theorem cv_6_35 : q_CM RX6 35 Lib.Math.min.name Lib.Math.min.code 2 := ⟨tb_201, tb_202, tb_128, tb_203⟩
theorem tb_870 : Cond.methodLink RX6 38 mX6_isFull.2.1 ∈ q_tb := ch_4 _ (List.mem_of_getElem? (i := 27) rfl) rfl
theorem cv_6_38 : q_CV RX6 38 mX6_isFull 0 := ⟨tb_870, tb_871, tb_872, tb_127, tb_873, ⟨by decide +kernel, by decide +kernel, by decide +kernel⟩, by decide⟩
theorem tb_1024 : Cond.methodLink RX6 42 mX6_numberOf.2.1 ∈ q_tb := ch_4 _ (List.mem_of_getElem? (i := 181) rfl) rfl
theorem cv_6_42 : q_CV RX6 42 mX6_numberOf 2 := ⟨tb_1024, tb_1025, tb_1026, tb_127, tb_1027, ⟨by decide +kernel, by decide +kernel, by decide +kernel⟩, by decide⟩
theorem tb_1028 : Cond.methodLink RX6 45 mX6_kindOf.2.1 ∈ q_tb := ch_4 _ (List.mem_of_getElem? (i := 185) rfl) rfl
theorem cv_6_45 : q_CV RX6 45 mX6_kindOf 1 := ⟨tb_1028, tb_907, tb_908, tb_127, tb_909, ⟨by decide +kernel, by decide +kernel, by decide +kernel⟩, by decide⟩
theorem tb_1029 : Cond.methodLink RX6 49 mX6_add.2.1 ∈ q_tb := ch_4 _ (List.mem_of_getElem? (i := 186) rfl) rfl
theorem cv_6_49 : q_CV RX6 49 mX6_add 2 := ⟨tb_1029, tb_867, tb_868, tb_127, tb_869, ⟨by decide +kernel, by decide +kernel, by decide +kernel⟩, by decide⟩
theorem tb_861 : Cond.methodLink RX6 56 mX6_numbersOf.2.1 ∈ q_tb := ch_4 _ (List.mem_of_getElem? (i := 18) rfl) rfl
theorem cv_6_56 : q_CS RX6 56 mX6_numbersOf 1 := ⟨tb_861, tb_830, tb_127, tb_831, ⟨by decide +kernel, by decide +kernel, by decide +kernel⟩, by decide⟩
theorem tb_598 : Cond.methodLink RX7 39 mX7_skipBlanks.2.1 ∈ q_tb := ch_2 _ (List.mem_of_getElem? (i := 235) rfl) rfl
theorem tb_600 : Cond.instanceMethod mX7_skipBlanks.2.1 ∈ q_tb := ch_2 _ (List.mem_of_getElem? (i := 237) rfl) rfl
theorem tb_1 : Cond.selects mX7_skipBlanks.2.1.cls mX7_skipBlanks.2.1 mX7_skipBlanks.2.1 ∈ q_tb := ch_p1 _ (List.mem_of_getElem? (i := 1) rfl) rfl
theorem tb_601 : Cond.code mX7_skipBlanks.2.1 mX7_skipBlanks.2.2.1 mX7_skipBlanks.2.2.2.1 mX7_skipBlanks.2.2.2.2 ∈ q_tb := ch_2 _ (List.mem_of_getElem? (i := 238) rfl) rfl
theorem cv_7_39 : q_CV RX7 39 mX7_skipBlanks 1 := ⟨tb_598, tb_600, tb_1, tb_133, tb_601, ⟨by decide +kernel, by decide +kernel, by decide +kernel⟩, by decide⟩
theorem tb_609 : Cond.methodLink RX7 43 mX7_scanToken.2.1 ∈ q_tb := ch_3 _ (List.mem_of_getElem? (i := 6) rfl) rfl
theorem tb_611 : Cond.instanceMethod mX7_scanToken.2.1 ∈ q_tb := ch_3 _ (List.mem_of_getElem? (i := 8) rfl) rfl
theorem tb_2 : Cond.selects mX7_scanToken.2.1.cls mX7_scanToken.2.1 mX7_scanToken.2.1 ∈ q_tb := ch_p1 _ (List.mem_of_getElem? (i := 2) rfl) rfl
theorem tb_612 : Cond.code mX7_scanToken.2.1 mX7_scanToken.2.2.1 mX7_scanToken.2.2.2.1 mX7_scanToken.2.2.2.2 ∈ q_tb := ch_3 _ (List.mem_of_getElem? (i := 9) rfl) rfl
theorem cv_7_43 : q_CV RX7 43 mX7_scanToken 1 := ⟨tb_609, tb_611, tb_2, tb_133, tb_612, ⟨by decide +kernel, by decide +kernel, by decide +kernel⟩, by decide⟩
theorem tb_602 : Cond.methodLink RX7 53 mX9_byteAt.2.1 ∈ q_tb := ch_2 _ (List.mem_of_getElem? (i := 239) rfl) rfl
theorem tb_603 : Cond.instanceMethod mX9_byteAt.2.1 ∈ q_tb := ch_3 _ (List.mem_of_getElem? (i := 0) rfl) rfl
theorem tb_604 : Cond.selects mX9_byteAt.2.1.cls mX9_byteAt.2.1 mX9_byteAt.2.1 ∈ q_tb := ch_3 _ (List.mem_of_getElem? (i := 1) rfl) rfl
theorem tb_605 : Cond.code mX9_byteAt.2.1 mX9_byteAt.2.2.1 mX9_byteAt.2.2.2.1 mX9_byteAt.2.2.2.2 ∈ q_tb := ch_3 _ (List.mem_of_getElem? (i := 2) rfl) rfl
theorem cv_7_53 : q_CV RX7 53 mX9_byteAt 1 := ⟨tb_602, tb_603, tb_604, tb_125, tb_605, ⟨by decide +kernel, by decide +kernel, by decide +kernel⟩, by decide⟩
theorem tb_606 : Cond.methodLink RX7 57 mX7_isBlank.2.1 ∈ q_tb := ch_3 _ (List.mem_of_getElem? (i := 3) rfl) rfl
theorem tb_607 : Cond.static mX7_isBlank.2.1 ∈ q_tb := ch_3 _ (List.mem_of_getElem? (i := 4) rfl) rfl
theorem tb_608 : Cond.code mX7_isBlank.2.1 mX7_isBlank.2.2.1 mX7_isBlank.2.2.2.1 mX7_isBlank.2.2.2.2 ∈ q_tb := ch_3 _ (List.mem_of_getElem? (i := 5) rfl) rfl
theorem cv_7_57 : q_CS RX7 57 mX7_isBlank 1 := ⟨tb_606, tb_607, tb_133, tb_608, ⟨by decide +kernel, by decide +kernel, by decide +kernel⟩, by decide⟩
theorem tb_613 : Cond.methodLink RX7 61 mX7_isLetter.2.1 ∈ q_tb := ch_3 _ (List.mem_of_getElem? (i := 10) rfl) rfl
theorem tb_614 : Cond.static mX7_isLetter.2.1 ∈ q_tb := ch_3 _ (List.mem_of_getElem? (i := 11) rfl) rfl
theorem tb_615 : Cond.code mX7_isLetter.2.1 mX7_isLetter.2.2.1 mX7_isLetter.2.2.2.1 mX7_isLetter.2.2.2.2 ∈ q_tb := ch_3 _ (List.mem_of_getElem? (i := 12) rfl) rfl
theorem cv_7_61 : q_CS RX7 61 mX7_isLetter 1 := ⟨tb_613, tb_614, tb_133, tb_615, ⟨by decide +kernel, by decide +kernel, by decide +kernel⟩, by decide⟩
theorem tb_616 : Cond.methodLink RX7 64 mX7_scanName.2.1 ∈ q_tb := ch_3 _ (List.mem_of_getElem? (i := 13) rfl) rfl
theorem tb_618 : Cond.instanceMethod mX7_scanName.2.1 ∈ q_tb := ch_3 _ (List.mem_of_getElem? (i := 15) rfl) rfl
theorem tb_3 : Cond.selects mX7_scanName.2.1.cls mX7_scanName.2.1 mX7_scanName.2.1 ∈ q_tb := ch_p1 _ (List.mem_of_getElem? (i := 3) rfl) rfl
theorem tb_619 : Cond.code mX7_scanName.2.1 mX7_scanName.2.2.1 mX7_scanName.2.2.2.1 mX7_scanName.2.2.2.2 ∈ q_tb := ch_3 _ (List.mem_of_getElem? (i := 16) rfl) rfl
theorem cv_7_64 : q_CV RX7 64 mX7_scanName 1 := ⟨tb_616, tb_618, tb_3, tb_133, tb_619, ⟨by decide +kernel, by decide +kernel, by decide +kernel⟩, by decide⟩
theorem tb_620 : Cond.methodLink RX7 67 mX7_isDigit.2.1 ∈ q_tb := ch_3 _ (List.mem_of_getElem? (i := 17) rfl) rfl
theorem tb_621 : Cond.static mX7_isDigit.2.1 ∈ q_tb := ch_3 _ (List.mem_of_getElem? (i := 18) rfl) rfl
theorem tb_622 : Cond.code mX7_isDigit.2.1 mX7_isDigit.2.2.1 mX7_isDigit.2.2.2.1 mX7_isDigit.2.2.2.2 ∈ q_tb := ch_3 _ (List.mem_of_getElem? (i := 19) rfl) rfl
theorem cv_7_67 : q_CS RX7 67 mX7_isDigit 1 := ⟨tb_620, tb_621, tb_133, tb_622, ⟨by decide +kernel, by decide +kernel, by decide +kernel⟩, by decide⟩
theorem tb_627 : Cond.methodLink RX7 70 mX7_scanInt.2.1 ∈ q_tb := ch_3 _ (List.mem_of_getElem? (i := 24) rfl) rfl
theorem tb_629 : Cond.instanceMethod mX7_scanInt.2.1 ∈ q_tb := ch_3 _ (List.mem_of_getElem? (i := 26) rfl) rfl
theorem tb_5 : Cond.selects mX7_scanInt.2.1.cls mX7_scanInt.2.1 mX7_scanInt.2.1 ∈ q_tb := ch_p1 _ (List.mem_of_getElem? (i := 5) rfl) rfl
theorem tb_630 : Cond.code mX7_scanInt.2.1 mX7_scanInt.2.2.1 mX7_scanInt.2.2.2.1 mX7_scanInt.2.2.2.2 ∈ q_tb := ch_3 _ (List.mem_of_getElem? (i := 27) rfl) rfl
theorem cv_7_70 : q_CV RX7 70 mX7_scanInt 1 := ⟨tb_627, tb_629, tb_5, tb_133, tb_630, ⟨by decide +kernel, by decide +kernel, by decide +kernel⟩, by decide⟩
theorem tb_633 : Cond.methodLink RX7 73 mX7_scanSign.2.1 ∈ q_tb := ch_3 _ (List.mem_of_getElem? (i := 30) rfl) rfl
theorem tb_635 : Cond.instanceMethod mX7_scanSign.2.1 ∈ q_tb := ch_3 _ (List.mem_of_getElem? (i := 32) rfl) rfl
theorem tb_6 : Cond.selects mX7_scanSign.2.1.cls mX7_scanSign.2.1 mX7_scanSign.2.1 ∈ q_tb := ch_p1 _ (List.mem_of_getElem? (i := 6) rfl) rfl
theorem tb_636 : Cond.code mX7_scanSign.2.1 mX7_scanSign.2.2.1 mX7_scanSign.2.2.2.1 mX7_scanSign.2.2.2.2 ∈ q_tb := ch_3 _ (List.mem_of_getElem? (i := 33) rfl) rfl
theorem cv_7_73 : q_CV RX7 73 mX7_scanSign 2 := ⟨tb_633, tb_635, tb_6, tb_133, tb_636, ⟨by decide +kernel, by decide +kernel, by decide +kernel⟩, by decide⟩
theorem tb_623 : Cond.methodLink RX7 77 mX7_wordOrName.2.1 ∈ q_tb := ch_3 _ (List.mem_of_getElem? (i := 20) rfl) rfl
theorem tb_625 : Cond.instanceMethod mX7_wordOrName.2.1 ∈ q_tb := ch_3 _ (List.mem_of_getElem? (i := 22) rfl) rfl
theorem tb_4 : Cond.selects mX7_wordOrName.2.1.cls mX7_wordOrName.2.1 mX7_wordOrName.2.1 ∈ q_tb := ch_p1 _ (List.mem_of_getElem? (i := 4) rfl) rfl
theorem tb_626 : Cond.code mX7_wordOrName.2.1 mX7_wordOrName.2.2.1 mX7_wordOrName.2.2.2.1 mX7_wordOrName.2.2.2.2 ∈ q_tb := ch_3 _ (List.mem_of_getElem? (i := 23) rfl) rfl
theorem cv_7_77 : q_CV RX7 77 mX7_wordOrName 1 := ⟨tb_623, tb_625, tb_4, tb_133, tb_626, ⟨by decide +kernel, by decide +kernel, by decide +kernel⟩, by decide⟩
theorem tb_1211 : Cond.methodLink RX8 32 mX8_pointX.2.1 ∈ q_tb := ch_5 _ (List.mem_of_getElem? (i := 128) rfl) rfl
theorem tb_1213 : Cond.instanceMethod mX8_pointX.2.1 ∈ q_tb := ch_5 _ (List.mem_of_getElem? (i := 130) rfl) rfl
theorem tb_55 : Cond.selects mX8_pointX.2.1.cls mX8_pointX.2.1 mX8_pointX.2.1 ∈ q_tb := ch_p4 _ (List.mem_of_getElem? (i := 7) rfl) rfl
theorem tb_1214 : Cond.code mX8_pointX.2.1 mX8_pointX.2.2.1 mX8_pointX.2.2.2.1 mX8_pointX.2.2.2.2 ∈ q_tb := ch_5 _ (List.mem_of_getElem? (i := 131) rfl) rfl
theorem cv_8_32 : q_CV RX8 32 mX8_pointX 1 := ⟨tb_1211, tb_1213, tb_55, tb_130, tb_1214, ⟨by decide +kernel, by decide +kernel, by decide +kernel⟩, by decide⟩
theorem tb_1215 : Cond.methodLink RX8 36 mX8_pointY.2.1 ∈ q_tb := ch_5 _ (List.mem_of_getElem? (i := 132) rfl) rfl
theorem tb_1217 : Cond.instanceMethod mX8_pointY.2.1 ∈ q_tb := ch_5 _ (List.mem_of_getElem? (i := 134) rfl) rfl
theorem tb_56 : Cond.selects mX8_pointY.2.1.cls mX8_pointY.2.1 mX8_pointY.2.1 ∈ q_tb := ch_p4 _ (List.mem_of_getElem? (i := 8) rfl) rfl
theorem tb_1218 : Cond.code mX8_pointY.2.1 mX8_pointY.2.2.1 mX8_pointY.2.2.2.1 mX8_pointY.2.2.2.2 ∈ q_tb := ch_5 _ (List.mem_of_getElem? (i := 135) rfl) rfl
theorem cv_8_36 : q_CV RX8 36 mX8_pointY 1 := ⟨tb_1215, tb_1217, tb_56, tb_130, tb_1218, ⟨by decide +kernel, by decide +kernel, by decide +kernel⟩, by decide⟩
theorem tb_1219 : Cond.methodLink RX8 39 mX0_colourOf.2.1 ∈ q_tb := ch_5 _ (List.mem_of_getElem? (i := 136) rfl) rfl
theorem cv_8_39 : q_CV RX8 39 mX0_colourOf 2 := ⟨tb_1219, tb_1114, tb_1115, tb_129, tb_1116, ⟨by decide +kernel, by decide +kernel, by decide +kernel⟩, by decide⟩
theorem tb_1228 : Cond.methodLink RX8 45 mX8_isCell.2.1 ∈ q_tb := ch_5 _ (List.mem_of_getElem? (i := 145) rfl) rfl
theorem cv_8_45 : q_CS RX8 45 mX8_isCell 2 := ⟨tb_1228, tb_1197, tb_130, tb_1198, ⟨by decide +kernel, by decide +kernel, by decide +kernel⟩, by decide⟩
theorem tb_1253 : Cond.methodLink RX8 49 mX8_colourOf.2.1 ∈ q_tb := ch_5 _ (List.mem_of_getElem? (i := 170) rfl) rfl
theorem cv_8_49 : q_CV RX8 49 mX8_colourOf 2 := ⟨tb_1253, tb_1225, tb_1226, tb_130, tb_1227, ⟨by decide +kernel, by decide +kernel, by decide +kernel⟩, by decide⟩
theorem tb_1287 : Cond.methodLink RX8 50 mX8_edgesUnlike.2.1 ∈ q_tb := ch_5 _ (List.mem_of_getElem? (i := 204) rfl) rfl
theorem cv_8_50 : q_CV RX8 50 mX8_edgesUnlike 2 := ⟨tb_1287, tb_1276, tb_1277, tb_130, tb_1278, ⟨by decide +kernel, by decide +kernel, by decide +kernel⟩, by decide⟩
theorem tb_1288 : Cond.methodLink RX8 54 Lib.Math.abs.name ∈ q_tb := ch_5 _ (List.mem_of_getElem? (i := 205) rfl) rfl
theorem cv_8_54 : q_CM RX8 54 Lib.Math.abs.name Lib.Math.abs.code 1 := ⟨tb_1288, tb_1186, tb_128, tb_1187⟩
theorem tb_1245 : Cond.methodLink RX8 59 mX8_findPieces.2.1 ∈ q_tb := ch_5 _ (List.mem_of_getElem? (i := 162) rfl) rfl
theorem tb_1247 : Cond.instanceMethod mX8_findPieces.2.1 ∈ q_tb := ch_5 _ (List.mem_of_getElem? (i := 164) rfl) rfl
theorem tb_57 : Cond.selects mX8_findPieces.2.1.cls mX8_findPieces.2.1 mX8_findPieces.2.1 ∈ q_tb := ch_p4 _ (List.mem_of_getElem? (i := 9) rfl) rfl
theorem tb_1248 : Cond.code mX8_findPieces.2.1 mX8_findPieces.2.2.1 mX8_findPieces.2.2.2.1 mX8_findPieces.2.2.2.2 ∈ q_tb := ch_5 _ (List.mem_of_getElem? (i := 165) rfl) rfl
theorem cv_8_59 : q_CV RX8 59 mX8_findPieces 0 := ⟨tb_1245, tb_1247, tb_57, tb_130, tb_1248, ⟨by decide +kernel, by decide +kernel, by decide +kernel⟩, by decide⟩
theorem tb_1249 : Cond.methodLink RX8 68 mX8_sizeFrom.2.1 ∈ q_tb := ch_5 _ (List.mem_of_getElem? (i := 166) rfl) rfl
theorem tb_1251 : Cond.instanceMethod mX8_sizeFrom.2.1 ∈ q_tb := ch_5 _ (List.mem_of_getElem? (i := 168) rfl) rfl
theorem tb_58 : Cond.selects mX8_sizeFrom.2.1.cls mX8_sizeFrom.2.1 mX8_sizeFrom.2.1 ∈ q_tb := ch_p4 _ (List.mem_of_getElem? (i := 10) rfl) rfl
theorem tb_1252 : Cond.code mX8_sizeFrom.2.1 mX8_sizeFrom.2.2.1 mX8_sizeFrom.2.2.2.1 mX8_sizeFrom.2.2.2.2 ∈ q_tb := ch_5 _ (List.mem_of_getElem? (i := 169) rfl) rfl
theorem cv_8_68 : q_CV RX8 68 mX8_sizeFrom 2 := ⟨tb_1249, tb_1251, tb_58, tb_130, tb_1252, ⟨by decide +kernel, by decide +kernel, by decide +kernel⟩, by decide⟩
theorem tb_1258 : Cond.methodLink RX8 71 Lib.Math.max.name ∈ q_tb := ch_5 _ (List.mem_of_getElem? (i := 175) rfl) rfl
theorem cv_8_71 : q_CM RX8 71 Lib.Math.max.name Lib.Math.max.code 2 := ⟨tb_1258, tb_199, tb_128, tb_200⟩
theorem tb_1254 : Cond.methodLink RX8 77 mX8_queue.2.1 ∈ q_tb := ch_5 _ (List.mem_of_getElem? (i := 171) rfl) rfl
theorem tb_1256 : Cond.instanceMethod mX8_queue.2.1 ∈ q_tb := ch_5 _ (List.mem_of_getElem? (i := 173) rfl) rfl
theorem tb_59 : Cond.selects mX8_queue.2.1.cls mX8_queue.2.1 mX8_queue.2.1 ∈ q_tb := ch_p4 _ (List.mem_of_getElem? (i := 11) rfl) rfl
theorem tb_1257 : Cond.code mX8_queue.2.1 mX8_queue.2.2.1 mX8_queue.2.2.2.1 mX8_queue.2.2.2.2 ∈ q_tb := ch_5 _ (List.mem_of_getElem? (i := 174) rfl) rfl
theorem cv_8_77 : q_CV RX8 77 mX8_queue 3 := ⟨tb_1254, tb_1256, tb_59, tb_130, tb_1257, ⟨by decide +kernel, by decide +kernel, by decide +kernel⟩, by decide⟩
theorem tb_566 : Cond.methodLink RX9 19 mX9_addByte.2.1 ∈ q_tb := ch_2 _ (List.mem_of_getElem? (i := 203) rfl) rfl
theorem tb_568 : Cond.instanceMethod mX9_addByte.2.1 ∈ q_tb := ch_2 _ (List.mem_of_getElem? (i := 205) rfl) rfl
theorem tb_0 : Cond.selects mX9_addByte.2.1.cls mX9_addByte.2.1 mX9_addByte.2.1 ∈ q_tb := ch_p1 _ (List.mem_of_getElem? (i := 0) rfl) rfl
theorem tb_569 : Cond.code mX9_addByte.2.1 mX9_addByte.2.2.1 mX9_addByte.2.2.2.1 mX9_addByte.2.2.2.2 ∈ q_tb := ch_2 _ (List.mem_of_getElem? (i := 206) rfl) rfl
theorem cv_9_19 : q_CV RX9 19 mX9_addByte 1 := ⟨tb_566, tb_568, tb_0, tb_125, tb_569, ⟨by decide +kernel, by decide +kernel, by decide +kernel⟩, by decide⟩
theorem tb_1401 : Cond.methodLink RX11 131 mX11_word.2.1 ∈ q_tb := ch_6 _ (List.mem_of_getElem? (i := 78) rfl) rfl
theorem tb_1402 : Cond.static mX11_word.2.1 ∈ q_tb := ch_6 _ (List.mem_of_getElem? (i := 79) rfl) rfl
theorem tb_140 : Cond.initialized mX11_word.2.1.cls ∈ q_tb := ch_1 _ (List.mem_of_getElem? (i := 17) rfl) rfl
theorem tb_1403 : Cond.code mX11_word.2.1 mX11_word.2.2.1 mX11_word.2.2.2.1 mX11_word.2.2.2.2 ∈ q_tb := ch_6 _ (List.mem_of_getElem? (i := 80) rfl) rfl
theorem cv_11_131 : q_CS RX11 131 mX11_word 7 := ⟨tb_1401, tb_1402, tb_140, tb_1403, ⟨by decide +kernel, by decide +kernel, by decide +kernel⟩, by decide⟩
theorem tb_1631 : Cond.methodLink RX11 138 mX11_put.2.1 ∈ q_tb := ch_7 _ (List.mem_of_getElem? (i := 68) rfl) rfl
theorem tb_1633 : Cond.instanceMethod mX11_put.2.1 ∈ q_tb := ch_7 _ (List.mem_of_getElem? (i := 70) rfl) rfl
theorem tb_68 : Cond.selects mX11_put.2.1.cls mX11_put.2.1 mX11_put.2.1 ∈ q_tb := ch_p5 _ (List.mem_of_getElem? (i := 4) rfl) rfl
theorem tb_1634 : Cond.code mX11_put.2.1 mX11_put.2.2.1 mX11_put.2.2.2.1 mX11_put.2.2.2.2 ∈ q_tb := ch_7 _ (List.mem_of_getElem? (i := 71) rfl) rfl
theorem cv_11_138 : q_CV RX11 138 mX11_put 1 := ⟨tb_1631, tb_1633, tb_68, tb_140, tb_1634, ⟨by decide +kernel, by decide +kernel, by decide +kernel⟩, by decide⟩
theorem tb_1404 : Cond.methodLink RX11 147 mX11_more.2.1 ∈ q_tb := ch_6 _ (List.mem_of_getElem? (i := 81) rfl) rfl
theorem tb_1405 : Cond.static mX11_more.2.1 ∈ q_tb := ch_6 _ (List.mem_of_getElem? (i := 82) rfl) rfl
theorem tb_1406 : Cond.code mX11_more.2.1 mX11_more.2.2.1 mX11_more.2.2.2.1 mX11_more.2.2.2.2 ∈ q_tb := ch_6 _ (List.mem_of_getElem? (i := 83) rfl) rfl
theorem cv_11_147 : q_CS RX11 147 mX11_more 2 := ⟨tb_1404, tb_1405, tb_140, tb_1406, ⟨by decide +kernel, by decide +kernel, by decide +kernel⟩, by decide⟩
theorem tb_1647 : Cond.methodLink RX11 154 mX11_at.2.1 ∈ q_tb := ch_7 _ (List.mem_of_getElem? (i := 84) rfl) rfl
theorem tb_1649 : Cond.instanceMethod mX11_at.2.1 ∈ q_tb := ch_7 _ (List.mem_of_getElem? (i := 86) rfl) rfl
theorem tb_70 : Cond.selects mX11_at.2.1.cls mX11_at.2.1 mX11_at.2.1 ∈ q_tb := ch_p5 _ (List.mem_of_getElem? (i := 6) rfl) rfl
theorem tb_1650 : Cond.code mX11_at.2.1 mX11_at.2.2.1 mX11_at.2.2.2.1 mX11_at.2.2.2.2 ∈ q_tb := ch_7 _ (List.mem_of_getElem? (i := 87) rfl) rfl
theorem cv_11_154 : q_CV RX11 154 mX11_at 1 := ⟨tb_1647, tb_1649, tb_70, tb_140, tb_1650, ⟨by decide +kernel, by decide +kernel, by decide +kernel⟩, by decide⟩
theorem tb_1651 : Cond.methodLink RX11 158 mX11_token.2.1 ∈ q_tb := ch_7 _ (List.mem_of_getElem? (i := 88) rfl) rfl
theorem tb_1653 : Cond.instanceMethod mX11_token.2.1 ∈ q_tb := ch_7 _ (List.mem_of_getElem? (i := 90) rfl) rfl
theorem tb_71 : Cond.selects mX11_token.2.1.cls mX11_token.2.1 mX11_token.2.1 ∈ q_tb := ch_p5 _ (List.mem_of_getElem? (i := 7) rfl) rfl
theorem tb_1654 : Cond.code mX11_token.2.1 mX11_token.2.2.1 mX11_token.2.2.2.1 mX11_token.2.2.2.2 ∈ q_tb := ch_7 _ (List.mem_of_getElem? (i := 91) rfl) rfl
theorem cv_11_158 : q_CV RX11 158 mX11_token 4 := ⟨tb_1651, tb_1653, tb_71, tb_140, tb_1654, ⟨by decide +kernel, by decide +kernel, by decide +kernel⟩, by decide⟩
theorem tb_1655 : Cond.methodLink RX11 162 mX11_isLetter.2.1 ∈ q_tb := ch_7 _ (List.mem_of_getElem? (i := 92) rfl) rfl
theorem tb_1656 : Cond.static mX11_isLetter.2.1 ∈ q_tb := ch_7 _ (List.mem_of_getElem? (i := 93) rfl) rfl
theorem tb_1657 : Cond.code mX11_isLetter.2.1 mX11_isLetter.2.2.1 mX11_isLetter.2.2.2.1 mX11_isLetter.2.2.2.2 ∈ q_tb := ch_7 _ (List.mem_of_getElem? (i := 94) rfl) rfl
theorem cv_11_162 : q_CS RX11 162 mX11_isLetter 1 := ⟨tb_1655, tb_1656, tb_140, tb_1657, ⟨by decide +kernel, by decide +kernel, by decide +kernel⟩, by decide⟩
theorem tb_1658 : Cond.methodLink RX11 166 mX11_isDigit.2.1 ∈ q_tb := ch_7 _ (List.mem_of_getElem? (i := 95) rfl) rfl
theorem tb_1659 : Cond.static mX11_isDigit.2.1 ∈ q_tb := ch_7 _ (List.mem_of_getElem? (i := 96) rfl) rfl
theorem tb_1660 : Cond.code mX11_isDigit.2.1 mX11_isDigit.2.2.1 mX11_isDigit.2.2.2.1 mX11_isDigit.2.2.2.2 ∈ q_tb := ch_7 _ (List.mem_of_getElem? (i := 97) rfl) rfl
theorem cv_11_166 : q_CS RX11 166 mX11_isDigit 1 := ⟨tb_1658, tb_1659, tb_140, tb_1660, ⟨by decide +kernel, by decide +kernel, by decide +kernel⟩, by decide⟩
theorem tb_1661 : Cond.methodLink RX11 169 mX11_sign.2.1 ∈ q_tb := ch_7 _ (List.mem_of_getElem? (i := 98) rfl) rfl
theorem tb_1663 : Cond.instanceMethod mX11_sign.2.1 ∈ q_tb := ch_7 _ (List.mem_of_getElem? (i := 100) rfl) rfl
theorem tb_72 : Cond.selects mX11_sign.2.1.cls mX11_sign.2.1 mX11_sign.2.1 ∈ q_tb := ch_p5 _ (List.mem_of_getElem? (i := 8) rfl) rfl
theorem tb_1664 : Cond.code mX11_sign.2.1 mX11_sign.2.2.1 mX11_sign.2.2.2.1 mX11_sign.2.2.2.2 ∈ q_tb := ch_7 _ (List.mem_of_getElem? (i := 101) rfl) rfl
theorem cv_11_169 : q_CV RX11 169 mX11_sign 3 := ⟨tb_1661, tb_1663, tb_72, tb_140, tb_1664, ⟨by decide +kernel, by decide +kernel, by decide +kernel⟩, by decide⟩
theorem tb_1673 : Cond.methodLink RX11 188 mX11_fail.2.1 ∈ q_tb := ch_7 _ (List.mem_of_getElem? (i := 110) rfl) rfl
theorem tb_1675 : Cond.instanceMethod mX11_fail.2.1 ∈ q_tb := ch_7 _ (List.mem_of_getElem? (i := 112) rfl) rfl
theorem tb_75 : Cond.selects mX11_fail.2.1.cls mX11_fail.2.1 mX11_fail.2.1 ∈ q_tb := ch_p5 _ (List.mem_of_getElem? (i := 11) rfl) rfl
theorem tb_1676 : Cond.code mX11_fail.2.1 mX11_fail.2.2.1 mX11_fail.2.2.2.1 mX11_fail.2.2.2.2 ∈ q_tb := ch_7 _ (List.mem_of_getElem? (i := 113) rfl) rfl
theorem cv_11_188 : q_CV RX11 188 mX11_fail 1 := ⟨tb_1673, tb_1675, tb_75, tb_140, tb_1676, ⟨by decide +kernel, by decide +kernel, by decide +kernel⟩, by decide⟩
theorem tb_1665 : Cond.methodLink RX11 191 mX11_is.2.1 ∈ q_tb := ch_7 _ (List.mem_of_getElem? (i := 102) rfl) rfl
theorem tb_1667 : Cond.instanceMethod mX11_is.2.1 ∈ q_tb := ch_7 _ (List.mem_of_getElem? (i := 104) rfl) rfl
theorem tb_73 : Cond.selects mX11_is.2.1.cls mX11_is.2.1 mX11_is.2.1 ∈ q_tb := ch_p5 _ (List.mem_of_getElem? (i := 9) rfl) rfl
theorem tb_1668 : Cond.code mX11_is.2.1 mX11_is.2.2.1 mX11_is.2.2.2.1 mX11_is.2.2.2.2 ∈ q_tb := ch_7 _ (List.mem_of_getElem? (i := 105) rfl) rfl
theorem cv_11_191 : q_CV RX11 191 mX11_is 1 := ⟨tb_1665, tb_1667, tb_73, tb_140, tb_1668, ⟨by decide +kernel, by decide +kernel, by decide +kernel⟩, by decide⟩
theorem tb_1681 : Cond.methodLink RX11 194 mX11_next.2.1 ∈ q_tb := ch_7 _ (List.mem_of_getElem? (i := 118) rfl) rfl
theorem tb_1683 : Cond.instanceMethod mX11_next.2.1 ∈ q_tb := ch_7 _ (List.mem_of_getElem? (i := 120) rfl) rfl
theorem tb_77 : Cond.selects mX11_next.2.1.cls mX11_next.2.1 mX11_next.2.1 ∈ q_tb := ch_p5 _ (List.mem_of_getElem? (i := 13) rfl) rfl
theorem tb_1684 : Cond.code mX11_next.2.1 mX11_next.2.2.1 mX11_next.2.2.2.1 mX11_next.2.2.2.2 ∈ q_tb := ch_7 _ (List.mem_of_getElem? (i := 121) rfl) rfl
theorem cv_11_194 : q_CV RX11 194 mX11_next 0 := ⟨tb_1681, tb_1683, tb_77, tb_140, tb_1684, ⟨by decide +kernel, by decide +kernel, by decide +kernel⟩, by decide⟩
theorem tb_1643 : Cond.methodLink RX11 197 mX11_cut.2.1 ∈ q_tb := ch_7 _ (List.mem_of_getElem? (i := 80) rfl) rfl
theorem tb_1645 : Cond.instanceMethod mX11_cut.2.1 ∈ q_tb := ch_7 _ (List.mem_of_getElem? (i := 82) rfl) rfl
theorem tb_69 : Cond.selects mX11_cut.2.1.cls mX11_cut.2.1 mX11_cut.2.1 ∈ q_tb := ch_p5 _ (List.mem_of_getElem? (i := 5) rfl) rfl
theorem tb_1646 : Cond.code mX11_cut.2.1 mX11_cut.2.2.1 mX11_cut.2.2.2.1 mX11_cut.2.2.2.2 ∈ q_tb := ch_7 _ (List.mem_of_getElem? (i := 83) rfl) rfl
theorem cv_11_197 : q_CV RX11 197 mX11_cut 0 := ⟨tb_1643, tb_1645, tb_69, tb_140, tb_1646, ⟨by decide +kernel, by decide +kernel, by decide +kernel⟩, by decide⟩
theorem tb_1669 : Cond.methodLink RX11 215 mX11_tellPattern.2.1 ∈ q_tb := ch_7 _ (List.mem_of_getElem? (i := 106) rfl) rfl
theorem tb_1671 : Cond.instanceMethod mX11_tellPattern.2.1 ∈ q_tb := ch_7 _ (List.mem_of_getElem? (i := 108) rfl) rfl
theorem tb_74 : Cond.selects mX11_tellPattern.2.1.cls mX11_tellPattern.2.1 mX11_tellPattern.2.1 ∈ q_tb := ch_p5 _ (List.mem_of_getElem? (i := 10) rfl) rfl
theorem tb_1672 : Cond.code mX11_tellPattern.2.1 mX11_tellPattern.2.2.1 mX11_tellPattern.2.2.2.1 mX11_tellPattern.2.2.2.2 ∈ q_tb := ch_7 _ (List.mem_of_getElem? (i := 109) rfl) rfl
theorem cv_11_215 : q_CV RX11 215 mX11_tellPattern 0 := ⟨tb_1669, tb_1671, tb_74, tb_140, tb_1672, ⟨by decide +kernel, by decide +kernel, by decide +kernel⟩, by decide⟩
theorem tb_1685 : Cond.methodLink RX11 221 mX11_wrong.2.1 ∈ q_tb := ch_7 _ (List.mem_of_getElem? (i := 122) rfl) rfl
theorem tb_1687 : Cond.instanceMethod mX11_wrong.2.1 ∈ q_tb := ch_7 _ (List.mem_of_getElem? (i := 124) rfl) rfl
theorem tb_78 : Cond.selects mX11_wrong.2.1.cls mX11_wrong.2.1 mX11_wrong.2.1 ∈ q_tb := ch_p5 _ (List.mem_of_getElem? (i := 14) rfl) rfl
theorem tb_1688 : Cond.code mX11_wrong.2.1 mX11_wrong.2.2.1 mX11_wrong.2.2.2.1 mX11_wrong.2.2.2.2 ∈ q_tb := ch_7 _ (List.mem_of_getElem? (i := 125) rfl) rfl
theorem cv_11_221 : q_CV RX11 221 mX11_wrong 2 := ⟨tb_1685, tb_1687, tb_78, tb_140, tb_1688, ⟨by decide +kernel, by decide +kernel, by decide +kernel⟩, by decide⟩
theorem tb_1677 : Cond.methodLink RX11 225 mX11_must.2.1 ∈ q_tb := ch_7 _ (List.mem_of_getElem? (i := 114) rfl) rfl
theorem tb_1679 : Cond.instanceMethod mX11_must.2.1 ∈ q_tb := ch_7 _ (List.mem_of_getElem? (i := 116) rfl) rfl
theorem tb_76 : Cond.selects mX11_must.2.1.cls mX11_must.2.1 mX11_must.2.1 ∈ q_tb := ch_p5 _ (List.mem_of_getElem? (i := 12) rfl) rfl
theorem tb_1680 : Cond.code mX11_must.2.1 mX11_must.2.2.1 mX11_must.2.2.2.1 mX11_must.2.2.2.2 ∈ q_tb := ch_7 _ (List.mem_of_getElem? (i := 117) rfl) rfl
theorem cv_11_225 : q_CV RX11 225 mX11_must 1 := ⟨tb_1677, tb_1679, tb_76, tb_140, tb_1680, ⟨by decide +kernel, by decide +kernel, by decide +kernel⟩, by decide⟩
theorem tb_1689 : Cond.methodLink RX11 228 mX11_tellParameter.2.1 ∈ q_tb := ch_7 _ (List.mem_of_getElem? (i := 126) rfl) rfl
theorem tb_1691 : Cond.instanceMethod mX11_tellParameter.2.1 ∈ q_tb := ch_7 _ (List.mem_of_getElem? (i := 128) rfl) rfl
theorem tb_79 : Cond.selects mX11_tellParameter.2.1.cls mX11_tellParameter.2.1 mX11_tellParameter.2.1 ∈ q_tb := ch_p5 _ (List.mem_of_getElem? (i := 15) rfl) rfl
theorem tb_1692 : Cond.code mX11_tellParameter.2.1 mX11_tellParameter.2.2.1 mX11_tellParameter.2.2.2.1 mX11_tellParameter.2.2.2.2 ∈ q_tb := ch_7 _ (List.mem_of_getElem? (i := 129) rfl) rfl
theorem cv_11_228 : q_CV RX11 228 mX11_tellParameter 0 := ⟨tb_1689, tb_1691, tb_79, tb_140, tb_1692, ⟨by decide +kernel, by decide +kernel, by decide +kernel⟩, by decide⟩
theorem tb_1697 : Cond.methodLink RX11 234 mX11_tellDeed.2.1 ∈ q_tb := ch_7 _ (List.mem_of_getElem? (i := 134) rfl) rfl
theorem tb_1699 : Cond.instanceMethod mX11_tellDeed.2.1 ∈ q_tb := ch_7 _ (List.mem_of_getElem? (i := 136) rfl) rfl
theorem tb_81 : Cond.selects mX11_tellDeed.2.1.cls mX11_tellDeed.2.1 mX11_tellDeed.2.1 ∈ q_tb := ch_p6 _ (List.mem_of_getElem? (i := 1) rfl) rfl
theorem tb_1700 : Cond.code mX11_tellDeed.2.1 mX11_tellDeed.2.2.1 mX11_tellDeed.2.2.2.1 mX11_tellDeed.2.2.2.2 ∈ q_tb := ch_7 _ (List.mem_of_getElem? (i := 137) rfl) rfl
theorem cv_11_234 : q_CV RX11 234 mX11_tellDeed 0 := ⟨tb_1697, tb_1699, tb_81, tb_140, tb_1700, ⟨by decide +kernel, by decide +kernel, by decide +kernel⟩, by decide⟩
theorem tb_1693 : Cond.methodLink RX11 237 mX11_reaches.2.1 ∈ q_tb := ch_7 _ (List.mem_of_getElem? (i := 130) rfl) rfl
theorem tb_1695 : Cond.instanceMethod mX11_reaches.2.1 ∈ q_tb := ch_7 _ (List.mem_of_getElem? (i := 132) rfl) rfl
theorem tb_80 : Cond.selects mX11_reaches.2.1.cls mX11_reaches.2.1 mX11_reaches.2.1 ∈ q_tb := ch_p6 _ (List.mem_of_getElem? (i := 0) rfl) rfl
theorem tb_1696 : Cond.code mX11_reaches.2.1 mX11_reaches.2.2.1 mX11_reaches.2.2.2.1 mX11_reaches.2.2.2.2 ∈ q_tb := ch_7 _ (List.mem_of_getElem? (i := 133) rfl) rfl
theorem cv_11_237 : q_CV RX11 237 mX11_reaches 1 := ⟨tb_1693, tb_1695, tb_80, tb_140, tb_1696, ⟨by decide +kernel, by decide +kernel, by decide +kernel⟩, by decide⟩
theorem tb_1701 : Cond.methodLink RX11 240 mX11_ends.2.1 ∈ q_tb := ch_7 _ (List.mem_of_getElem? (i := 138) rfl) rfl
theorem tb_1703 : Cond.instanceMethod mX11_ends.2.1 ∈ q_tb := ch_7 _ (List.mem_of_getElem? (i := 140) rfl) rfl
theorem tb_82 : Cond.selects mX11_ends.2.1.cls mX11_ends.2.1 mX11_ends.2.1 ∈ q_tb := ch_p6 _ (List.mem_of_getElem? (i := 2) rfl) rfl
theorem tb_1704 : Cond.code mX11_ends.2.1 mX11_ends.2.2.1 mX11_ends.2.2.2.1 mX11_ends.2.2.2.2 ∈ q_tb := ch_7 _ (List.mem_of_getElem? (i := 141) rfl) rfl
theorem cv_11_240 : q_CV RX11 240 mX11_ends 0 := ⟨tb_1701, tb_1703, tb_82, tb_140, tb_1704, ⟨by decide +kernel, by decide +kernel, by decide +kernel⟩, by decide⟩
theorem tb_1713 : Cond.methodLink RX11 243 mX11_turnsElse.2.1 ∈ q_tb := ch_7 _ (List.mem_of_getElem? (i := 150) rfl) rfl
theorem tb_1715 : Cond.instanceMethod mX11_turnsElse.2.1 ∈ q_tb := ch_7 _ (List.mem_of_getElem? (i := 152) rfl) rfl
theorem tb_85 : Cond.selects mX11_turnsElse.2.1.cls mX11_turnsElse.2.1 mX11_turnsElse.2.1 ∈ q_tb := ch_p6 _ (List.mem_of_getElem? (i := 5) rfl) rfl
theorem tb_1716 : Cond.code mX11_turnsElse.2.1 mX11_turnsElse.2.2.1 mX11_turnsElse.2.2.2.1 mX11_turnsElse.2.2.2.2 ∈ q_tb := ch_7 _ (List.mem_of_getElem? (i := 153) rfl) rfl
theorem cv_11_243 : q_CV RX11 243 mX11_turnsElse 0 := ⟨tb_1713, tb_1715, tb_85, tb_140, tb_1716, ⟨by decide +kernel, by decide +kernel, by decide +kernel⟩, by decide⟩
theorem tb_1705 : Cond.methodLink RX11 246 mX11_emit.2.1 ∈ q_tb := ch_7 _ (List.mem_of_getElem? (i := 142) rfl) rfl
theorem tb_1707 : Cond.instanceMethod mX11_emit.2.1 ∈ q_tb := ch_7 _ (List.mem_of_getElem? (i := 144) rfl) rfl
theorem tb_83 : Cond.selects mX11_emit.2.1.cls mX11_emit.2.1 mX11_emit.2.1 ∈ q_tb := ch_p6 _ (List.mem_of_getElem? (i := 3) rfl) rfl
theorem tb_1708 : Cond.code mX11_emit.2.1 mX11_emit.2.2.1 mX11_emit.2.2.2.1 mX11_emit.2.2.2.2 ∈ q_tb := ch_7 _ (List.mem_of_getElem? (i := 145) rfl) rfl
theorem cv_11_246 : q_CV RX11 246 mX11_emit 3 := ⟨tb_1705, tb_1707, tb_83, tb_140, tb_1708, ⟨by decide +kernel, by decide +kernel, by decide +kernel⟩, by decide⟩
theorem tb_1717 : Cond.methodLink RX11 250 mX11_tellFor.2.1 ∈ q_tb := ch_7 _ (List.mem_of_getElem? (i := 154) rfl) rfl
theorem tb_1719 : Cond.instanceMethod mX11_tellFor.2.1 ∈ q_tb := ch_7 _ (List.mem_of_getElem? (i := 156) rfl) rfl
theorem tb_86 : Cond.selects mX11_tellFor.2.1.cls mX11_tellFor.2.1 mX11_tellFor.2.1 ∈ q_tb := ch_p6 _ (List.mem_of_getElem? (i := 6) rfl) rfl
theorem tb_1720 : Cond.code mX11_tellFor.2.1 mX11_tellFor.2.2.1 mX11_tellFor.2.2.2.1 mX11_tellFor.2.2.2.2 ∈ q_tb := ch_7 _ (List.mem_of_getElem? (i := 157) rfl) rfl
theorem cv_11_250 : q_CV RX11 250 mX11_tellFor 1 := ⟨tb_1717, tb_1719, tb_86, tb_140, tb_1720, ⟨by decide +kernel, by decide +kernel, by decide +kernel⟩, by decide⟩
theorem tb_1741 : Cond.methodLink RX11 253 mX11_tellIf.2.1 ∈ q_tb := ch_7 _ (List.mem_of_getElem? (i := 178) rfl) rfl
theorem tb_1743 : Cond.instanceMethod mX11_tellIf.2.1 ∈ q_tb := ch_7 _ (List.mem_of_getElem? (i := 180) rfl) rfl
theorem tb_92 : Cond.selects mX11_tellIf.2.1.cls mX11_tellIf.2.1 mX11_tellIf.2.1 ∈ q_tb := ch_p6 _ (List.mem_of_getElem? (i := 12) rfl) rfl
theorem tb_1744 : Cond.code mX11_tellIf.2.1 mX11_tellIf.2.2.1 mX11_tellIf.2.2.2.1 mX11_tellIf.2.2.2.2 ∈ q_tb := ch_7 _ (List.mem_of_getElem? (i := 181) rfl) rfl
theorem cv_11_253 : q_CV RX11 253 mX11_tellIf 0 := ⟨tb_1741, tb_1743, tb_92, tb_140, tb_1744, ⟨by decide +kernel, by decide +kernel, by decide +kernel⟩, by decide⟩
theorem tb_1749 : Cond.methodLink RX11 256 mX11_tellDo.2.1 ∈ q_tb := ch_7 _ (List.mem_of_getElem? (i := 186) rfl) rfl
theorem tb_1751 : Cond.instanceMethod mX11_tellDo.2.1 ∈ q_tb := ch_7 _ (List.mem_of_getElem? (i := 188) rfl) rfl
theorem tb_94 : Cond.selects mX11_tellDo.2.1.cls mX11_tellDo.2.1 mX11_tellDo.2.1 ∈ q_tb := ch_p6 _ (List.mem_of_getElem? (i := 14) rfl) rfl
theorem tb_1752 : Cond.code mX11_tellDo.2.1 mX11_tellDo.2.2.1 mX11_tellDo.2.2.2.1 mX11_tellDo.2.2.2.2 ∈ q_tb := ch_7 _ (List.mem_of_getElem? (i := 189) rfl) rfl
theorem cv_11_256 : q_CV RX11 256 mX11_tellDo 0 := ⟨tb_1749, tb_1751, tb_94, tb_140, tb_1752, ⟨by decide +kernel, by decide +kernel, by decide +kernel⟩, by decide⟩
theorem tb_1753 : Cond.methodLink RX11 259 mX11_tellStroke.2.1 ∈ q_tb := ch_7 _ (List.mem_of_getElem? (i := 190) rfl) rfl
theorem tb_1755 : Cond.instanceMethod mX11_tellStroke.2.1 ∈ q_tb := ch_7 _ (List.mem_of_getElem? (i := 192) rfl) rfl
theorem tb_95 : Cond.selects mX11_tellStroke.2.1.cls mX11_tellStroke.2.1 mX11_tellStroke.2.1 ∈ q_tb := ch_p6 _ (List.mem_of_getElem? (i := 15) rfl) rfl
theorem tb_1756 : Cond.code mX11_tellStroke.2.1 mX11_tellStroke.2.2.1 mX11_tellStroke.2.2.2.1 mX11_tellStroke.2.2.2.2 ∈ q_tb := ch_7 _ (List.mem_of_getElem? (i := 193) rfl) rfl
theorem cv_11_259 : q_CV RX11 259 mX11_tellStroke 2 := ⟨tb_1753, tb_1755, tb_95, tb_140, tb_1756, ⟨by decide +kernel, by decide +kernel, by decide +kernel⟩, by decide⟩
theorem tb_1721 : Cond.methodLink RX11 262 mX11_expression.2.1 ∈ q_tb := ch_7 _ (List.mem_of_getElem? (i := 158) rfl) rfl
theorem tb_1723 : Cond.instanceMethod mX11_expression.2.1 ∈ q_tb := ch_7 _ (List.mem_of_getElem? (i := 160) rfl) rfl
theorem tb_87 : Cond.selects mX11_expression.2.1.cls mX11_expression.2.1 mX11_expression.2.1 ∈ q_tb := ch_p6 _ (List.mem_of_getElem? (i := 7) rfl) rfl
theorem tb_1724 : Cond.code mX11_expression.2.1 mX11_expression.2.2.1 mX11_expression.2.2.2.1 mX11_expression.2.2.2.2 ∈ q_tb := ch_7 _ (List.mem_of_getElem? (i := 161) rfl) rfl
theorem cv_11_262 : q_CV RX11 262 mX11_expression 0 := ⟨tb_1721, tb_1723, tb_87, tb_140, tb_1724, ⟨by decide +kernel, by decide +kernel, by decide +kernel⟩, by decide⟩
theorem tb_1745 : Cond.methodLink RX11 271 mX11_relation.2.1 ∈ q_tb := ch_7 _ (List.mem_of_getElem? (i := 182) rfl) rfl
theorem tb_1747 : Cond.instanceMethod mX11_relation.2.1 ∈ q_tb := ch_7 _ (List.mem_of_getElem? (i := 184) rfl) rfl
theorem tb_93 : Cond.selects mX11_relation.2.1.cls mX11_relation.2.1 mX11_relation.2.1 ∈ q_tb := ch_p6 _ (List.mem_of_getElem? (i := 13) rfl) rfl
theorem tb_1748 : Cond.code mX11_relation.2.1 mX11_relation.2.2.1 mX11_relation.2.2.2.1 mX11_relation.2.2.2.2 ∈ q_tb := ch_7 _ (List.mem_of_getElem? (i := 185) rfl) rfl
theorem cv_11_271 : q_CV RX11 271 mX11_relation 0 := ⟨tb_1745, tb_1747, tb_93, tb_140, tb_1748, ⟨by decide +kernel, by decide +kernel, by decide +kernel⟩, by decide⟩
theorem tb_1709 : Cond.methodLink RX11 274 mX11_lands.2.1 ∈ q_tb := ch_7 _ (List.mem_of_getElem? (i := 146) rfl) rfl
theorem tb_1711 : Cond.instanceMethod mX11_lands.2.1 ∈ q_tb := ch_7 _ (List.mem_of_getElem? (i := 148) rfl) rfl
theorem tb_84 : Cond.selects mX11_lands.2.1.cls mX11_lands.2.1 mX11_lands.2.1 ∈ q_tb := ch_p6 _ (List.mem_of_getElem? (i := 4) rfl) rfl
theorem tb_1712 : Cond.code mX11_lands.2.1 mX11_lands.2.2.1 mX11_lands.2.2.2.1 mX11_lands.2.2.2.2 ∈ q_tb := ch_7 _ (List.mem_of_getElem? (i := 149) rfl) rfl
theorem cv_11_274 : q_CV RX11 274 mX11_lands 1 := ⟨tb_1709, tb_1711, tb_84, tb_140, tb_1712, ⟨by decide +kernel, by decide +kernel, by decide +kernel⟩, by decide⟩
theorem tb_1725 : Cond.methodLink RX11 277 mX11_unit.2.1 ∈ q_tb := ch_7 _ (List.mem_of_getElem? (i := 162) rfl) rfl
theorem tb_1727 : Cond.instanceMethod mX11_unit.2.1 ∈ q_tb := ch_7 _ (List.mem_of_getElem? (i := 164) rfl) rfl
theorem tb_88 : Cond.selects mX11_unit.2.1.cls mX11_unit.2.1 mX11_unit.2.1 ∈ q_tb := ch_p6 _ (List.mem_of_getElem? (i := 8) rfl) rfl
theorem tb_1728 : Cond.code mX11_unit.2.1 mX11_unit.2.2.1 mX11_unit.2.2.2.1 mX11_unit.2.2.2.2 ∈ q_tb := ch_7 _ (List.mem_of_getElem? (i := 165) rfl) rfl
theorem cv_11_277 : q_CV RX11 277 mX11_unit 0 := ⟨tb_1725, tb_1727, tb_88, tb_140, tb_1728, ⟨by decide +kernel, by decide +kernel, by decide +kernel⟩, by decide⟩
theorem tb_1733 : Cond.methodLink RX11 280 mX11_turnsRound.2.1 ∈ q_tb := ch_7 _ (List.mem_of_getElem? (i := 170) rfl) rfl
theorem tb_1735 : Cond.instanceMethod mX11_turnsRound.2.1 ∈ q_tb := ch_7 _ (List.mem_of_getElem? (i := 172) rfl) rfl
theorem tb_90 : Cond.selects mX11_turnsRound.2.1.cls mX11_turnsRound.2.1 mX11_turnsRound.2.1 ∈ q_tb := ch_p6 _ (List.mem_of_getElem? (i := 10) rfl) rfl
theorem tb_1736 : Cond.code mX11_turnsRound.2.1 mX11_turnsRound.2.2.1 mX11_turnsRound.2.2.2.1 mX11_turnsRound.2.2.2.2 ∈ q_tb := ch_7 _ (List.mem_of_getElem? (i := 173) rfl) rfl
theorem cv_11_280 : q_CV RX11 280 mX11_turnsRound 0 := ⟨tb_1733, tb_1735, tb_90, tb_140, tb_1736, ⟨by decide +kernel, by decide +kernel, by decide +kernel⟩, by decide⟩
theorem tb_1737 : Cond.methodLink RX11 283 mX11_comesOut.2.1 ∈ q_tb := ch_7 _ (List.mem_of_getElem? (i := 174) rfl) rfl
theorem tb_1739 : Cond.instanceMethod mX11_comesOut.2.1 ∈ q_tb := ch_7 _ (List.mem_of_getElem? (i := 176) rfl) rfl
theorem tb_91 : Cond.selects mX11_comesOut.2.1.cls mX11_comesOut.2.1 mX11_comesOut.2.1 ∈ q_tb := ch_p6 _ (List.mem_of_getElem? (i := 11) rfl) rfl
theorem tb_1740 : Cond.code mX11_comesOut.2.1 mX11_comesOut.2.2.1 mX11_comesOut.2.2.2.1 mX11_comesOut.2.2.2.2 ∈ q_tb := ch_7 _ (List.mem_of_getElem? (i := 177) rfl) rfl
theorem cv_11_283 : q_CV RX11 283 mX11_comesOut 1 := ⟨tb_1737, tb_1739, tb_91, tb_140, tb_1740, ⟨by decide +kernel, by decide +kernel, by decide +kernel⟩, by decide⟩
theorem tb_1729 : Cond.methodLink RX11 287 mX11_named.2.1 ∈ q_tb := ch_7 _ (List.mem_of_getElem? (i := 166) rfl) rfl
theorem tb_1731 : Cond.instanceMethod mX11_named.2.1 ∈ q_tb := ch_7 _ (List.mem_of_getElem? (i := 168) rfl) rfl
theorem tb_89 : Cond.selects mX11_named.2.1.cls mX11_named.2.1 mX11_named.2.1 ∈ q_tb := ch_p6 _ (List.mem_of_getElem? (i := 9) rfl) rfl
theorem tb_1732 : Cond.code mX11_named.2.1 mX11_named.2.2.1 mX11_named.2.2.2.1 mX11_named.2.2.2.2 ∈ q_tb := ch_7 _ (List.mem_of_getElem? (i := 169) rfl) rfl
theorem cv_11_287 : q_CV RX11 287 mX11_named 1 := ⟨tb_1729, tb_1731, tb_89, tb_140, tb_1732, ⟨by decide +kernel, by decide +kernel, by decide +kernel⟩, by decide⟩
theorem tb_1816 : Cond.methodLink RX11 305 mX11_isOver.2.1 ∈ q_tb := ch_8 _ (List.mem_of_getElem? (i := 13) rfl) rfl
theorem tb_1818 : Cond.instanceMethod mX11_isOver.2.1 ∈ q_tb := ch_8 _ (List.mem_of_getElem? (i := 15) rfl) rfl
theorem tb_102 : Cond.selects mX11_isOver.2.1.cls mX11_isOver.2.1 mX11_isOver.2.1 ∈ q_tb := ch_p7 _ (List.mem_of_getElem? (i := 6) rfl) rfl
theorem tb_1819 : Cond.code mX11_isOver.2.1 mX11_isOver.2.2.1 mX11_isOver.2.2.2.1 mX11_isOver.2.2.2.2 ∈ q_tb := ch_8 _ (List.mem_of_getElem? (i := 16) rfl) rfl
theorem cv_11_305 : q_CV RX11 305 mX11_isOver 0 := ⟨tb_1816, tb_1818, tb_102, tb_140, tb_1819, ⟨by decide +kernel, by decide +kernel, by decide +kernel⟩, by decide⟩
theorem tb_1820 : Cond.methodLink RX11 309 mX11_strokes.2.1 ∈ q_tb := ch_8 _ (List.mem_of_getElem? (i := 17) rfl) rfl
theorem tb_1822 : Cond.instanceMethod mX11_strokes.2.1 ∈ q_tb := ch_8 _ (List.mem_of_getElem? (i := 19) rfl) rfl
theorem tb_103 : Cond.selects mX11_strokes.2.1.cls mX11_strokes.2.1 mX11_strokes.2.1 ∈ q_tb := ch_p7 _ (List.mem_of_getElem? (i := 7) rfl) rfl
theorem tb_1823 : Cond.code mX11_strokes.2.1 mX11_strokes.2.2.1 mX11_strokes.2.2.2.1 mX11_strokes.2.2.2.2 ∈ q_tb := ch_8 _ (List.mem_of_getElem? (i := 20) rfl) rfl
theorem cv_11_309 : q_CV RX11 309 mX11_strokes 2 := ⟨tb_1820, tb_1822, tb_103, tb_140, tb_1823, ⟨by decide +kernel, by decide +kernel, by decide +kernel⟩, by decide⟩
theorem tb_1769 : Cond.methodLink RX11 313 mX11_isStroke.2.1 ∈ q_tb := ch_7 _ (List.mem_of_getElem? (i := 206) rfl) rfl
theorem tb_1771 : Cond.instanceMethod mX11_isStroke.2.1 ∈ q_tb := ch_7 _ (List.mem_of_getElem? (i := 208) rfl) rfl
theorem tb_97 : Cond.selects mX11_isStroke.2.1.cls mX11_isStroke.2.1 mX11_isStroke.2.1 ∈ q_tb := ch_p7 _ (List.mem_of_getElem? (i := 1) rfl) rfl
theorem tb_1772 : Cond.code mX11_isStroke.2.1 mX11_isStroke.2.2.1 mX11_isStroke.2.2.2.1 mX11_isStroke.2.2.2.2 ∈ q_tb := ch_7 _ (List.mem_of_getElem? (i := 209) rfl) rfl
theorem cv_11_313 : q_CV RX11 313 mX11_isStroke 1 := ⟨tb_1769, tb_1771, tb_97, tb_140, tb_1772, ⟨by decide +kernel, by decide +kernel, by decide +kernel⟩, by decide⟩
theorem tb_1773 : Cond.methodLink RX11 316 mX11_in.2.1 ∈ q_tb := ch_7 _ (List.mem_of_getElem? (i := 210) rfl) rfl
theorem tb_1774 : Cond.static mX11_in.2.1 ∈ q_tb := ch_7 _ (List.mem_of_getElem? (i := 211) rfl) rfl
theorem tb_1775 : Cond.code mX11_in.2.1 mX11_in.2.2.1 mX11_in.2.2.2.1 mX11_in.2.2.2.2 ∈ q_tb := ch_7 _ (List.mem_of_getElem? (i := 212) rfl) rfl
theorem cv_11_316 : q_CS RX11 316 mX11_in 3 := ⟨tb_1773, tb_1774, tb_140, tb_1775, ⟨by decide +kernel, by decide +kernel, by decide +kernel⟩, by decide⟩
theorem tb_1776 : Cond.methodLink RX11 323 mX11_logs.2.1 ∈ q_tb := ch_7 _ (List.mem_of_getElem? (i := 213) rfl) rfl
theorem tb_1778 : Cond.instanceMethod mX11_logs.2.1 ∈ q_tb := ch_7 _ (List.mem_of_getElem? (i := 215) rfl) rfl
theorem tb_98 : Cond.selects mX11_logs.2.1.cls mX11_logs.2.1 mX11_logs.2.1 ∈ q_tb := ch_p7 _ (List.mem_of_getElem? (i := 2) rfl) rfl
theorem tb_1779 : Cond.code mX11_logs.2.1 mX11_logs.2.2.1 mX11_logs.2.2.2.1 mX11_logs.2.2.2.2 ∈ q_tb := ch_7 _ (List.mem_of_getElem? (i := 216) rfl) rfl
theorem cv_11_323 : q_CV RX11 323 mX11_logs 1 := ⟨tb_1776, tb_1778, tb_98, tb_140, tb_1779, ⟨by decide +kernel, by decide +kernel, by decide +kernel⟩, by decide⟩
theorem tb_1765 : Cond.methodLink RX11 326 mX11_stroke.2.1 ∈ q_tb := ch_7 _ (List.mem_of_getElem? (i := 202) rfl) rfl
theorem tb_1767 : Cond.instanceMethod mX11_stroke.2.1 ∈ q_tb := ch_7 _ (List.mem_of_getElem? (i := 204) rfl) rfl
theorem tb_96 : Cond.selects mX11_stroke.2.1.cls mX11_stroke.2.1 mX11_stroke.2.1 ∈ q_tb := ch_p7 _ (List.mem_of_getElem? (i := 0) rfl) rfl
theorem tb_1768 : Cond.code mX11_stroke.2.1 mX11_stroke.2.2.1 mX11_stroke.2.2.2.1 mX11_stroke.2.2.2.2 ∈ q_tb := ch_7 _ (List.mem_of_getElem? (i := 205) rfl) rfl
theorem cv_11_326 : q_CV RX11 326 mX11_stroke 7 := ⟨tb_1765, tb_1767, tb_96, tb_140, tb_1768, ⟨by decide +kernel, by decide +kernel, by decide +kernel⟩, by decide⟩
theorem tb_1804 : Cond.methodLink RX11 330 mX11_isPattern.2.1 ∈ q_tb := ch_8 _ (List.mem_of_getElem? (i := 1) rfl) rfl
theorem tb_1806 : Cond.instanceMethod mX11_isPattern.2.1 ∈ q_tb := ch_8 _ (List.mem_of_getElem? (i := 3) rfl) rfl
theorem tb_99 : Cond.selects mX11_isPattern.2.1.cls mX11_isPattern.2.1 mX11_isPattern.2.1 ∈ q_tb := ch_p7 _ (List.mem_of_getElem? (i := 3) rfl) rfl
theorem tb_1807 : Cond.code mX11_isPattern.2.1 mX11_isPattern.2.2.1 mX11_isPattern.2.2.2.1 mX11_isPattern.2.2.2.2 ∈ q_tb := ch_8 _ (List.mem_of_getElem? (i := 4) rfl) rfl
theorem cv_11_330 : q_CV RX11 330 mX11_isPattern 1 := ⟨tb_1804, tb_1806, tb_99, tb_140, tb_1807, ⟨by decide +kernel, by decide +kernel, by decide +kernel⟩, by decide⟩
theorem tb_1808 : Cond.methodLink RX11 333 mX11_begins.2.1 ∈ q_tb := ch_8 _ (List.mem_of_getElem? (i := 5) rfl) rfl
theorem tb_1810 : Cond.instanceMethod mX11_begins.2.1 ∈ q_tb := ch_8 _ (List.mem_of_getElem? (i := 7) rfl) rfl
theorem tb_100 : Cond.selects mX11_begins.2.1.cls mX11_begins.2.1 mX11_begins.2.1 ∈ q_tb := ch_p7 _ (List.mem_of_getElem? (i := 4) rfl) rfl
theorem tb_1811 : Cond.code mX11_begins.2.1 mX11_begins.2.2.1 mX11_begins.2.2.2.1 mX11_begins.2.2.2.2 ∈ q_tb := ch_8 _ (List.mem_of_getElem? (i := 8) rfl) rfl
theorem cv_11_333 : q_CV RX11 333 mX11_begins 1 := ⟨tb_1808, tb_1810, tb_100, tb_140, tb_1811, ⟨by decide +kernel, by decide +kernel, by decide +kernel⟩, by decide⟩
theorem tb_1812 : Cond.methodLink RX11 336 mX11_does.2.1 ∈ q_tb := ch_8 _ (List.mem_of_getElem? (i := 9) rfl) rfl
theorem tb_1814 : Cond.instanceMethod mX11_does.2.1 ∈ q_tb := ch_8 _ (List.mem_of_getElem? (i := 11) rfl) rfl
theorem tb_101 : Cond.selects mX11_does.2.1.cls mX11_does.2.1 mX11_does.2.1 ∈ q_tb := ch_p7 _ (List.mem_of_getElem? (i := 5) rfl) rfl
theorem tb_1815 : Cond.code mX11_does.2.1 mX11_does.2.2.1 mX11_does.2.2.2.1 mX11_does.2.2.2.2 ∈ q_tb := ch_8 _ (List.mem_of_getElem? (i := 12) rfl) rfl
theorem cv_11_336 : q_CV RX11 336 mX11_does 3 := ⟨tb_1812, tb_1814, tb_101, tb_140, tb_1815, ⟨by decide +kernel, by decide +kernel, by decide +kernel⟩, by decide⟩
theorem tb_1840 : Cond.methodLink RX11 342 mX11_isFact.2.1 ∈ q_tb := ch_8 _ (List.mem_of_getElem? (i := 37) rfl) rfl
theorem tb_1842 : Cond.instanceMethod mX11_isFact.2.1 ∈ q_tb := ch_8 _ (List.mem_of_getElem? (i := 39) rfl) rfl
theorem tb_104 : Cond.selects mX11_isFact.2.1.cls mX11_isFact.2.1 mX11_isFact.2.1 ∈ q_tb := ch_p7 _ (List.mem_of_getElem? (i := 8) rfl) rfl
theorem tb_1843 : Cond.code mX11_isFact.2.1 mX11_isFact.2.2.1 mX11_isFact.2.2.2.1 mX11_isFact.2.2.2.2 ∈ q_tb := ch_8 _ (List.mem_of_getElem? (i := 40) rfl) rfl
theorem cv_11_342 : q_CV RX11 342 mX11_isFact 1 := ⟨tb_1840, tb_1842, tb_104, tb_140, tb_1843, ⟨by decide +kernel, by decide +kernel, by decide +kernel⟩, by decide⟩
theorem tb_1852 : Cond.methodLink RX11 345 mX11_isKnown.2.1 ∈ q_tb := ch_8 _ (List.mem_of_getElem? (i := 49) rfl) rfl
theorem tb_1854 : Cond.instanceMethod mX11_isKnown.2.1 ∈ q_tb := ch_8 _ (List.mem_of_getElem? (i := 51) rfl) rfl
theorem tb_105 : Cond.selects mX11_isKnown.2.1.cls mX11_isKnown.2.1 mX11_isKnown.2.1 ∈ q_tb := ch_p7 _ (List.mem_of_getElem? (i := 9) rfl) rfl
theorem tb_1855 : Cond.code mX11_isKnown.2.1 mX11_isKnown.2.2.1 mX11_isKnown.2.2.2.1 mX11_isKnown.2.2.2.2 ∈ q_tb := ch_8 _ (List.mem_of_getElem? (i := 52) rfl) rfl
theorem cv_11_345 : q_CV RX11 345 mX11_isKnown 1 := ⟨tb_1852, tb_1854, tb_105, tb_140, tb_1855, ⟨by decide +kernel, by decide +kernel, by decide +kernel⟩, by decide⟩
theorem tb_1856 : Cond.methodLink RX11 348 mX11_isStruck.2.1 ∈ q_tb := ch_8 _ (List.mem_of_getElem? (i := 53) rfl) rfl
theorem tb_1858 : Cond.instanceMethod mX11_isStruck.2.1 ∈ q_tb := ch_8 _ (List.mem_of_getElem? (i := 55) rfl) rfl
theorem tb_106 : Cond.selects mX11_isStruck.2.1.cls mX11_isStruck.2.1 mX11_isStruck.2.1 ∈ q_tb := ch_p7 _ (List.mem_of_getElem? (i := 10) rfl) rfl
theorem tb_1859 : Cond.code mX11_isStruck.2.1 mX11_isStruck.2.2.1 mX11_isStruck.2.2.2.1 mX11_isStruck.2.2.2.2 ∈ q_tb := ch_8 _ (List.mem_of_getElem? (i := 56) rfl) rfl
theorem cv_11_348 : q_CV RX11 348 mX11_isStruck 2 := ⟨tb_1856, tb_1858, tb_106, tb_140, tb_1859, ⟨by decide +kernel, by decide +kernel, by decide +kernel⟩, by decide⟩
theorem tb_1894 : Cond.methodLink RX11 361 mX11_drag.2.1 ∈ q_tb := ch_8 _ (List.mem_of_getElem? (i := 91) rfl) rfl
theorem tb_1895 : Cond.static mX11_drag.2.1 ∈ q_tb := ch_8 _ (List.mem_of_getElem? (i := 92) rfl) rfl
theorem tb_1896 : Cond.code mX11_drag.2.1 mX11_drag.2.2.1 mX11_drag.2.2.2.1 mX11_drag.2.2.2.2 ∈ q_tb := ch_8 _ (List.mem_of_getElem? (i := 93) rfl) rfl
theorem cv_11_361 : q_CS RX11 361 mX11_drag 3 := ⟨tb_1894, tb_1895, tb_140, tb_1896, ⟨by decide +kernel, by decide +kernel, by decide +kernel⟩, by decide⟩
theorem tb_1883 : Cond.methodLink RX11 370 mX11_radius.2.1 ∈ q_tb := ch_8 _ (List.mem_of_getElem? (i := 80) rfl) rfl
theorem tb_1885 : Cond.instanceMethod mX11_radius.2.1 ∈ q_tb := ch_8 _ (List.mem_of_getElem? (i := 82) rfl) rfl
theorem tb_111 : Cond.selects mX11_radius.2.1.cls mX11_radius.2.1 mX11_radius.2.1 ∈ q_tb := ch_p7 _ (List.mem_of_getElem? (i := 15) rfl) rfl
theorem tb_1886 : Cond.code mX11_radius.2.1 mX11_radius.2.2.1 mX11_radius.2.2.2.1 mX11_radius.2.2.2.2 ∈ q_tb := ch_8 _ (List.mem_of_getElem? (i := 83) rfl) rfl
theorem cv_11_370 : q_CV RX11 370 mX11_radius 1 := ⟨tb_1883, tb_1885, tb_111, tb_140, tb_1886, ⟨by decide +kernel, by decide +kernel, by decide +kernel⟩, by decide⟩
theorem tb_1887 : Cond.methodLink RX11 373 mX11_root.2.1 ∈ q_tb := ch_8 _ (List.mem_of_getElem? (i := 84) rfl) rfl
theorem tb_1888 : Cond.static mX11_root.2.1 ∈ q_tb := ch_8 _ (List.mem_of_getElem? (i := 85) rfl) rfl
theorem tb_1889 : Cond.code mX11_root.2.1 mX11_root.2.2.1 mX11_root.2.2.2.1 mX11_root.2.2.2.2 ∈ q_tb := ch_8 _ (List.mem_of_getElem? (i := 86) rfl) rfl
theorem cv_11_373 : q_CS RX11 373 mX11_root 1 := ⟨tb_1887, tb_1888, tb_140, tb_1889, ⟨by decide +kernel, by decide +kernel, by decide +kernel⟩, by decide⟩
theorem tb_1890 : Cond.methodLink RX11 376 mX11_drags.2.1 ∈ q_tb := ch_8 _ (List.mem_of_getElem? (i := 87) rfl) rfl
theorem tb_1892 : Cond.instanceMethod mX11_drags.2.1 ∈ q_tb := ch_8 _ (List.mem_of_getElem? (i := 89) rfl) rfl
theorem tb_112 : Cond.selects mX11_drags.2.1.cls mX11_drags.2.1 mX11_drags.2.1 ∈ q_tb := ch_p8 _ (List.mem_of_getElem? (i := 0) rfl) rfl
theorem tb_1893 : Cond.code mX11_drags.2.1 mX11_drags.2.2.1 mX11_drags.2.2.2.1 mX11_drags.2.2.2.2 ∈ q_tb := ch_8 _ (List.mem_of_getElem? (i := 90) rfl) rfl
theorem cv_11_376 : q_CV RX11 376 mX11_drags 2 := ⟨tb_1890, tb_1892, tb_112, tb_140, tb_1893, ⟨by decide +kernel, by decide +kernel, by decide +kernel⟩, by decide⟩
theorem tb_1864 : Cond.methodLink RX11 379 mX11_isPoint.2.1 ∈ q_tb := ch_8 _ (List.mem_of_getElem? (i := 61) rfl) rfl
theorem tb_1865 : Cond.static mX11_isPoint.2.1 ∈ q_tb := ch_8 _ (List.mem_of_getElem? (i := 62) rfl) rfl
theorem tb_1866 : Cond.code mX11_isPoint.2.1 mX11_isPoint.2.2.1 mX11_isPoint.2.2.2.1 mX11_isPoint.2.2.2.2 ∈ q_tb := ch_8 _ (List.mem_of_getElem? (i := 63) rfl) rfl
theorem cv_11_379 : q_CS RX11 379 mX11_isPoint 2 := ⟨tb_1864, tb_1865, tb_140, tb_1866, ⟨by decide +kernel, by decide +kernel, by decide +kernel⟩, by decide⟩
theorem tb_1879 : Cond.methodLink RX11 382 mX11_backs.2.1 ∈ q_tb := ch_8 _ (List.mem_of_getElem? (i := 76) rfl) rfl
theorem tb_1881 : Cond.instanceMethod mX11_backs.2.1 ∈ q_tb := ch_8 _ (List.mem_of_getElem? (i := 78) rfl) rfl
theorem tb_110 : Cond.selects mX11_backs.2.1.cls mX11_backs.2.1 mX11_backs.2.1 ∈ q_tb := ch_p7 _ (List.mem_of_getElem? (i := 14) rfl) rfl
theorem tb_1882 : Cond.code mX11_backs.2.1 mX11_backs.2.2.1 mX11_backs.2.2.2.1 mX11_backs.2.2.2.2 ∈ q_tb := ch_8 _ (List.mem_of_getElem? (i := 79) rfl) rfl
theorem cv_11_382 : q_CV RX11 382 mX11_backs 1 := ⟨tb_1879, tb_1881, tb_110, tb_140, tb_1882, ⟨by decide +kernel, by decide +kernel, by decide +kernel⟩, by decide⟩
theorem tb_1875 : Cond.methodLink RX11 385 mX11_origin.2.1 ∈ q_tb := ch_8 _ (List.mem_of_getElem? (i := 72) rfl) rfl
theorem tb_1877 : Cond.instanceMethod mX11_origin.2.1 ∈ q_tb := ch_8 _ (List.mem_of_getElem? (i := 74) rfl) rfl
theorem tb_109 : Cond.selects mX11_origin.2.1.cls mX11_origin.2.1 mX11_origin.2.1 ∈ q_tb := ch_p7 _ (List.mem_of_getElem? (i := 13) rfl) rfl
theorem tb_1878 : Cond.code mX11_origin.2.1 mX11_origin.2.2.1 mX11_origin.2.2.2.1 mX11_origin.2.2.2.2 ∈ q_tb := ch_8 _ (List.mem_of_getElem? (i := 75) rfl) rfl
theorem cv_11_385 : q_CV RX11 385 mX11_origin 2 := ⟨tb_1875, tb_1877, tb_109, tb_140, tb_1878, ⟨by decide +kernel, by decide +kernel, by decide +kernel⟩, by decide⟩
theorem tb_1867 : Cond.methodLink RX11 388 mX11_floats.2.1 ∈ q_tb := ch_8 _ (List.mem_of_getElem? (i := 64) rfl) rfl
theorem tb_1869 : Cond.instanceMethod mX11_floats.2.1 ∈ q_tb := ch_8 _ (List.mem_of_getElem? (i := 66) rfl) rfl
theorem tb_107 : Cond.selects mX11_floats.2.1.cls mX11_floats.2.1 mX11_floats.2.1 ∈ q_tb := ch_p7 _ (List.mem_of_getElem? (i := 11) rfl) rfl
theorem tb_1870 : Cond.code mX11_floats.2.1 mX11_floats.2.2.1 mX11_floats.2.2.2.1 mX11_floats.2.2.2.2 ∈ q_tb := ch_8 _ (List.mem_of_getElem? (i := 67) rfl) rfl
theorem cv_11_388 : q_CV RX11 388 mX11_floats 2 := ⟨tb_1867, tb_1869, tb_107, tb_140, tb_1870, ⟨by decide +kernel, by decide +kernel, by decide +kernel⟩, by decide⟩
theorem tb_1871 : Cond.methodLink RX11 391 mX11_colourOf.2.1 ∈ q_tb := ch_8 _ (List.mem_of_getElem? (i := 68) rfl) rfl
theorem tb_1873 : Cond.instanceMethod mX11_colourOf.2.1 ∈ q_tb := ch_8 _ (List.mem_of_getElem? (i := 70) rfl) rfl
theorem tb_108 : Cond.selects mX11_colourOf.2.1.cls mX11_colourOf.2.1 mX11_colourOf.2.1 ∈ q_tb := ch_p7 _ (List.mem_of_getElem? (i := 12) rfl) rfl
theorem tb_1874 : Cond.code mX11_colourOf.2.1 mX11_colourOf.2.2.1 mX11_colourOf.2.2.2.1 mX11_colourOf.2.2.2.2 ∈ q_tb := ch_8 _ (List.mem_of_getElem? (i := 71) rfl) rfl
theorem cv_11_391 : q_CV RX11 391 mX11_colourOf 2 := ⟨tb_1871, tb_1873, tb_108, tb_140, tb_1874, ⟨by decide +kernel, by decide +kernel, by decide +kernel⟩, by decide⟩
theorem tb_1909 : Cond.methodLink RX11 394 mX11_forth.2.1 ∈ q_tb := ch_8 _ (List.mem_of_getElem? (i := 106) rfl) rfl
theorem tb_1911 : Cond.instanceMethod mX11_forth.2.1 ∈ q_tb := ch_8 _ (List.mem_of_getElem? (i := 108) rfl) rfl
theorem tb_114 : Cond.selects mX11_forth.2.1.cls mX11_forth.2.1 mX11_forth.2.1 ∈ q_tb := ch_p8 _ (List.mem_of_getElem? (i := 2) rfl) rfl
theorem tb_1912 : Cond.code mX11_forth.2.1 mX11_forth.2.2.1 mX11_forth.2.2.2.1 mX11_forth.2.2.2.2 ∈ q_tb := ch_8 _ (List.mem_of_getElem? (i := 109) rfl) rfl
theorem cv_11_394 : q_CV RX11 394 mX11_forth 1 := ⟨tb_1909, tb_1911, tb_114, tb_140, tb_1912, ⟨by decide +kernel, by decide +kernel, by decide +kernel⟩, by decide⟩
theorem tb_1905 : Cond.methodLink RX11 397 mX11_goes.2.1 ∈ q_tb := ch_8 _ (List.mem_of_getElem? (i := 102) rfl) rfl
theorem tb_1907 : Cond.instanceMethod mX11_goes.2.1 ∈ q_tb := ch_8 _ (List.mem_of_getElem? (i := 104) rfl) rfl
theorem tb_113 : Cond.selects mX11_goes.2.1.cls mX11_goes.2.1 mX11_goes.2.1 ∈ q_tb := ch_p8 _ (List.mem_of_getElem? (i := 1) rfl) rfl
theorem tb_1908 : Cond.code mX11_goes.2.1 mX11_goes.2.2.1 mX11_goes.2.2.2.1 mX11_goes.2.2.2.2 ∈ q_tb := ch_8 _ (List.mem_of_getElem? (i := 105) rfl) rfl
theorem cv_11_397 : q_CV RX11 397 mX11_goes 2 := ⟨tb_1905, tb_1907, tb_113, tb_140, tb_1908, ⟨by decide +kernel, by decide +kernel, by decide +kernel⟩, by decide⟩
theorem tb_1929 : Cond.methodLink RX11 400 mX11_lays.2.1 ∈ q_tb := ch_8 _ (List.mem_of_getElem? (i := 126) rfl) rfl
theorem tb_1931 : Cond.instanceMethod mX11_lays.2.1 ∈ q_tb := ch_8 _ (List.mem_of_getElem? (i := 128) rfl) rfl
theorem tb_116 : Cond.selects mX11_lays.2.1.cls mX11_lays.2.1 mX11_lays.2.1 ∈ q_tb := ch_p8 _ (List.mem_of_getElem? (i := 4) rfl) rfl
theorem tb_1932 : Cond.code mX11_lays.2.1 mX11_lays.2.2.1 mX11_lays.2.2.2.1 mX11_lays.2.2.2.2 ∈ q_tb := ch_8 _ (List.mem_of_getElem? (i := 129) rfl) rfl
theorem cv_11_400 : q_CV RX11 400 mX11_lays 1 := ⟨tb_1929, tb_1931, tb_116, tb_140, tb_1932, ⟨by decide +kernel, by decide +kernel, by decide +kernel⟩, by decide⟩
theorem tb_1925 : Cond.methodLink RX11 403 mX11_isSheet.2.1 ∈ q_tb := ch_8 _ (List.mem_of_getElem? (i := 122) rfl) rfl
theorem tb_1927 : Cond.instanceMethod mX11_isSheet.2.1 ∈ q_tb := ch_8 _ (List.mem_of_getElem? (i := 124) rfl) rfl
theorem tb_115 : Cond.selects mX11_isSheet.2.1.cls mX11_isSheet.2.1 mX11_isSheet.2.1 ∈ q_tb := ch_p8 _ (List.mem_of_getElem? (i := 3) rfl) rfl
theorem tb_1928 : Cond.code mX11_isSheet.2.1 mX11_isSheet.2.2.1 mX11_isSheet.2.2.2.1 mX11_isSheet.2.2.2.2 ∈ q_tb := ch_8 _ (List.mem_of_getElem? (i := 125) rfl) rfl
theorem cv_11_403 : q_CV RX11 403 mX11_isSheet 3 := ⟨tb_1925, tb_1927, tb_115, tb_140, tb_1928, ⟨by decide +kernel, by decide +kernel, by decide +kernel⟩, by decide⟩
theorem tb_1945 : Cond.methodLink RX11 415 mX11_meets.2.1 ∈ q_tb := ch_8 _ (List.mem_of_getElem? (i := 142) rfl) rfl
theorem tb_1947 : Cond.instanceMethod mX11_meets.2.1 ∈ q_tb := ch_8 _ (List.mem_of_getElem? (i := 144) rfl) rfl
theorem tb_118 : Cond.selects mX11_meets.2.1.cls mX11_meets.2.1 mX11_meets.2.1 ∈ q_tb := ch_p8 _ (List.mem_of_getElem? (i := 6) rfl) rfl
theorem tb_1948 : Cond.code mX11_meets.2.1 mX11_meets.2.2.1 mX11_meets.2.2.2.1 mX11_meets.2.2.2.2 ∈ q_tb := ch_8 _ (List.mem_of_getElem? (i := 145) rfl) rfl
theorem cv_11_415 : q_CV RX11 415 mX11_meets 3 := ⟨tb_1945, tb_1947, tb_118, tb_140, tb_1948, ⟨by decide +kernel, by decide +kernel, by decide +kernel⟩, by decide⟩
theorem tb_1941 : Cond.methodLink RX11 418 mX11_hangs.2.1 ∈ q_tb := ch_8 _ (List.mem_of_getElem? (i := 138) rfl) rfl
theorem tb_1943 : Cond.instanceMethod mX11_hangs.2.1 ∈ q_tb := ch_8 _ (List.mem_of_getElem? (i := 140) rfl) rfl
theorem tb_117 : Cond.selects mX11_hangs.2.1.cls mX11_hangs.2.1 mX11_hangs.2.1 ∈ q_tb := ch_p8 _ (List.mem_of_getElem? (i := 5) rfl) rfl
theorem tb_1944 : Cond.code mX11_hangs.2.1 mX11_hangs.2.2.1 mX11_hangs.2.2.2.1 mX11_hangs.2.2.2.2 ∈ q_tb := ch_8 _ (List.mem_of_getElem? (i := 141) rfl) rfl
theorem cv_11_418 : q_CV RX11 418 mX11_hangs 0 := ⟨tb_1941, tb_1943, tb_117, tb_140, tb_1944, ⟨by decide +kernel, by decide +kernel, by decide +kernel⟩, by decide⟩
theorem tb_1957 : Cond.methodLink RX11 421 mX11_differs.2.1 ∈ q_tb := ch_8 _ (List.mem_of_getElem? (i := 154) rfl) rfl
theorem tb_1959 : Cond.instanceMethod mX11_differs.2.1 ∈ q_tb := ch_8 _ (List.mem_of_getElem? (i := 156) rfl) rfl
theorem tb_119 : Cond.selects mX11_differs.2.1.cls mX11_differs.2.1 mX11_differs.2.1 ∈ q_tb := ch_p8 _ (List.mem_of_getElem? (i := 7) rfl) rfl
theorem tb_1960 : Cond.code mX11_differs.2.1 mX11_differs.2.2.1 mX11_differs.2.2.2.1 mX11_differs.2.2.2.2 ∈ q_tb := ch_8 _ (List.mem_of_getElem? (i := 157) rfl) rfl
theorem cv_11_421 : q_CV RX11 421 mX11_differs 1 := ⟨tb_1957, tb_1959, tb_119, tb_140, tb_1960, ⟨by decide +kernel, by decide +kernel, by decide +kernel⟩, by decide⟩
theorem tb_1969 : Cond.methodLink RX11 424 mX11_unlikes.2.1 ∈ q_tb := ch_8 _ (List.mem_of_getElem? (i := 166) rfl) rfl
theorem tb_1971 : Cond.instanceMethod mX11_unlikes.2.1 ∈ q_tb := ch_8 _ (List.mem_of_getElem? (i := 168) rfl) rfl
theorem tb_120 : Cond.selects mX11_unlikes.2.1.cls mX11_unlikes.2.1 mX11_unlikes.2.1 ∈ q_tb := ch_p8 _ (List.mem_of_getElem? (i := 8) rfl) rfl
theorem tb_1972 : Cond.code mX11_unlikes.2.1 mX11_unlikes.2.2.1 mX11_unlikes.2.2.2.1 mX11_unlikes.2.2.2.2 ∈ q_tb := ch_8 _ (List.mem_of_getElem? (i := 169) rfl) rfl
theorem cv_11_424 : q_CV RX11 424 mX11_unlikes 0 := ⟨tb_1969, tb_1971, tb_120, tb_140, tb_1972, ⟨by decide +kernel, by decide +kernel, by decide +kernel⟩, by decide⟩
theorem tb_1981 : Cond.methodLink RX11 431 mX11_offOf.2.1 ∈ q_tb := ch_8 _ (List.mem_of_getElem? (i := 178) rfl) rfl
theorem tb_1983 : Cond.instanceMethod mX11_offOf.2.1 ∈ q_tb := ch_8 _ (List.mem_of_getElem? (i := 180) rfl) rfl
theorem tb_122 : Cond.selects mX11_offOf.2.1.cls mX11_offOf.2.1 mX11_offOf.2.1 ∈ q_tb := ch_p8 _ (List.mem_of_getElem? (i := 10) rfl) rfl
theorem tb_1984 : Cond.code mX11_offOf.2.1 mX11_offOf.2.2.1 mX11_offOf.2.2.2.1 mX11_offOf.2.2.2.2 ∈ q_tb := ch_8 _ (List.mem_of_getElem? (i := 181) rfl) rfl
theorem cv_11_431 : q_CV RX11 431 mX11_offOf 0 := ⟨tb_1981, tb_1983, tb_122, tb_140, tb_1984, ⟨by decide +kernel, by decide +kernel, by decide +kernel⟩, by decide⟩
theorem tb_1977 : Cond.methodLink RX11 434 mX11_bestOf.2.1 ∈ q_tb := ch_8 _ (List.mem_of_getElem? (i := 174) rfl) rfl
theorem tb_1979 : Cond.instanceMethod mX11_bestOf.2.1 ∈ q_tb := ch_8 _ (List.mem_of_getElem? (i := 176) rfl) rfl
theorem tb_121 : Cond.selects mX11_bestOf.2.1.cls mX11_bestOf.2.1 mX11_bestOf.2.1 ∈ q_tb := ch_p8 _ (List.mem_of_getElem? (i := 9) rfl) rfl
theorem tb_1980 : Cond.code mX11_bestOf.2.1 mX11_bestOf.2.2.1 mX11_bestOf.2.2.2.1 mX11_bestOf.2.2.2.2 ∈ q_tb := ch_8 _ (List.mem_of_getElem? (i := 177) rfl) rfl
theorem cv_11_434 : q_CV RX11 434 mX11_bestOf 2 := ⟨tb_1977, tb_1979, tb_121, tb_140, tb_1980, ⟨by decide +kernel, by decide +kernel, by decide +kernel⟩, by decide⟩
theorem tb_631 : Cond.constantLong RX7 81 10 ∈ q_tb := ch_3 _ (List.mem_of_getElem? (i := 28) rfl) rfl
theorem kc_7_81 : Cond.constantLong RX7 81 10 ∈ q_tb := tb_631
theorem tb_632 : Cond.constantLong RX7 83 48 ∈ q_tb := ch_3 _ (List.mem_of_getElem? (i := 29) rfl) rfl
theorem kc_7_83 : Cond.constantLong RX7 83 48 ∈ q_tb := tb_632
theorem tb_832 : Cond.fieldLink RX6 53 "MarbleBath$Rows" (q_sn 0) "[I" ∈ q_tb := ch_3 _ (List.mem_of_getElem? (i := 229) rfl) rfl
theorem sl_6_53 : Cond.fieldLink RX6 53 "MarbleBath$Rows" (q_sn 0) "[I" ∈ q_tb := tb_832
theorem tb_862 : Cond.fieldLink RX6 59 "MarbleBath$Rows" (q_sn 1) "[I" ∈ q_tb := ch_4 _ (List.mem_of_getElem? (i := 19) rfl) rfl
theorem sl_6_59 : Cond.fieldLink RX6 59 "MarbleBath$Rows" (q_sn 1) "[I" ∈ q_tb := tb_862
theorem tb_864 : Cond.fieldLink RX6 62 "MarbleBath$Rows" (q_sn 2) "[I" ∈ q_tb := ch_4 _ (List.mem_of_getElem? (i := 21) rfl) rfl
theorem sl_6_62 : Cond.fieldLink RX6 62 "MarbleBath$Rows" (q_sn 2) "[I" ∈ q_tb := tb_864
theorem tb_937 : Cond.constant RX1 69 10000000 ∈ q_tb := ch_4 _ (List.mem_of_getElem? (i := 94) rfl) rfl
theorem kc_1_69 : Cond.constant RX1 69 10000000 ∈ q_tb := tb_937
theorem tb_1407 : Cond.constantLong RX11 145 37 ∈ q_tb := ch_6 _ (List.mem_of_getElem? (i := 84) rfl) rfl
theorem kc_11_145 : Cond.constantLong RX11 145 37 ∈ q_tb := tb_1407
abbrev mJ1_canEncode_9a6ad : q_M := (RJ1, yJ1_canEncode_9a6ad, cJ1_canEncode_9a6ad, 1, (some .boolean))
abbrev mJ1_indexOfChar_4cfef : q_M := (RJ1, yJ1_indexOfChar_4cfef, cJ1_indexOfChar_4cfef, 6, (some .int))
abbrev mJ1_indexOf_4cfef : q_M := (RJ1, yJ1_indexOf_4cfef, cJ1_indexOf_4cfef, 4, (some .int))
abbrev mJ0_isLatin1_aae02 : q_M := (RJ0, yJ0_isLatin1_aae02, cJ0_isLatin1_aae02, 1, (some .boolean))
abbrev mJ0_coder_7d493 : q_M := (RJ0, yJ0_coder_7d493, cJ0_coder_7d493, 1, (some .byte))
abbrev mJ0_length_8abf5 : q_M := (RJ0, yJ0_length_8abf5, cJ0_length_8abf5, 1, (some .int))
abbrev mJ0_indexOf_7cf53 : q_M := (RJ0, yJ0_indexOf_7cf53, cJ0_indexOf_7cf53, 3, (some .int))
abbrev mJ0_indexOf_0f7a4 : q_M := (RJ0, yJ0_indexOf_0f7a4, cJ0_indexOf_0f7a4, 2, (some .int))
abbrev mJ3_checkIndex_8e157 : q_M := (RJ3, yJ3_checkIndex_8e157, cJ3_checkIndex_8e157, 3, (some .int))
abbrev mJ0_checkIndex_df160 : q_M := (RJ0, yJ0_checkIndex_df160, cJ0_checkIndex_df160, 2, none)
abbrev mJ1_charAt_3b067 : q_M := (RJ1, yJ1_charAt_3b067, cJ1_charAt_3b067, 2, (some .char))
abbrev mJ0_charAt_5068e : q_M := (RJ0, yJ0_charAt_5068e, cJ0_charAt_5068e, 2, (some .char))
theorem tb_650 : Cond.methodLink RJ1 88 mJ1_canEncode_9a6ad.2.1 ∈ q_tb := ch_3 _ (List.mem_of_getElem? (i := 47) rfl) rfl
theorem tb_651 : Cond.static mJ1_canEncode_9a6ad.2.1 ∈ q_tb := ch_3 _ (List.mem_of_getElem? (i := 48) rfl) rfl
theorem tb_135 : Cond.initialized mJ1_canEncode_9a6ad.2.1.cls ∈ q_tb := ch_1 _ (List.mem_of_getElem? (i := 12) rfl) rfl
theorem tb_652 : Cond.code mJ1_canEncode_9a6ad.2.1 mJ1_canEncode_9a6ad.2.2.1 mJ1_canEncode_9a6ad.2.2.2.1 mJ1_canEncode_9a6ad.2.2.2.2 ∈ q_tb := ch_3 _ (List.mem_of_getElem? (i := 49) rfl) rfl
theorem cv_J1_88 : q_CS RJ1 88 mJ1_canEncode_9a6ad 1 := ⟨tb_650, tb_651, tb_135, tb_652, ⟨by decide +kernel, by decide +kernel, by decide +kernel⟩, by decide⟩
theorem tb_653 : Cond.methodLink RJ1 92 Lib.Math.max.name ∈ q_tb := ch_3 _ (List.mem_of_getElem? (i := 50) rfl) rfl
theorem cv_J1_92 : q_CM RJ1 92 Lib.Math.max.name Lib.Math.max.code 2 := ⟨tb_653, tb_199, tb_128, tb_200⟩
theorem tb_654 : Cond.methodLink RJ1 38 Lib.Math.min.name ∈ q_tb := ch_3 _ (List.mem_of_getElem? (i := 51) rfl) rfl
theorem cv_J1_38 : q_CM RJ1 38 Lib.Math.min.name Lib.Math.min.code 2 := ⟨tb_654, tb_202, tb_128, tb_203⟩
theorem tb_655 : Cond.methodLink RJ1 95 mJ1_indexOfChar_4cfef.2.1 ∈ q_tb := ch_3 _ (List.mem_of_getElem? (i := 52) rfl) rfl
theorem tb_656 : Cond.static mJ1_indexOfChar_4cfef.2.1 ∈ q_tb := ch_3 _ (List.mem_of_getElem? (i := 53) rfl) rfl
theorem tb_657 : Cond.code mJ1_indexOfChar_4cfef.2.1 mJ1_indexOfChar_4cfef.2.2.1 mJ1_indexOfChar_4cfef.2.2.2.1 mJ1_indexOfChar_4cfef.2.2.2.2 ∈ q_tb := ch_3 _ (List.mem_of_getElem? (i := 54) rfl) rfl
theorem cv_J1_95 : q_CS RJ1 95 mJ1_indexOfChar_4cfef 4 := ⟨tb_655, tb_656, tb_135, tb_657, ⟨by decide +kernel, by decide +kernel, by decide +kernel⟩, by decide⟩
theorem tb_315 : Cond.methodLink RJ0 335 mJ0_coder_7d493.2.1 ∈ q_tb := ch_1 _ (List.mem_of_getElem? (i := 192) rfl) rfl
theorem tb_316 : Cond.instanceMethod mJ0_coder_7d493.2.1 ∈ q_tb := ch_1 _ (List.mem_of_getElem? (i := 193) rfl) rfl
theorem tb_317 : Cond.selects mJ0_coder_7d493.2.1.cls mJ0_coder_7d493.2.1 mJ0_coder_7d493.2.1 ∈ q_tb := ch_1 _ (List.mem_of_getElem? (i := 194) rfl) rfl
theorem tb_134 : Cond.initialized mJ0_coder_7d493.2.1.cls ∈ q_tb := ch_1 _ (List.mem_of_getElem? (i := 11) rfl) rfl
theorem tb_318 : Cond.code mJ0_coder_7d493.2.1 mJ0_coder_7d493.2.2.1 mJ0_coder_7d493.2.2.2.1 mJ0_coder_7d493.2.2.2.2 ∈ q_tb := ch_1 _ (List.mem_of_getElem? (i := 195) rfl) rfl
theorem cv_J0_335 : q_CV RJ0 335 mJ0_coder_7d493 0 := ⟨tb_315, tb_316, tb_317, tb_134, tb_318, ⟨by decide +kernel, by decide +kernel, by decide +kernel⟩, by decide⟩
theorem tb_325 : Cond.methodLink RJ0 492 mJ0_isLatin1_aae02.2.1 ∈ q_tb := ch_1 _ (List.mem_of_getElem? (i := 202) rfl) rfl
theorem tb_326 : Cond.instanceMethod mJ0_isLatin1_aae02.2.1 ∈ q_tb := ch_1 _ (List.mem_of_getElem? (i := 203) rfl) rfl
theorem tb_327 : Cond.selects mJ0_isLatin1_aae02.2.1.cls mJ0_isLatin1_aae02.2.1 mJ0_isLatin1_aae02.2.1 ∈ q_tb := ch_1 _ (List.mem_of_getElem? (i := 204) rfl) rfl
theorem tb_328 : Cond.code mJ0_isLatin1_aae02.2.1 mJ0_isLatin1_aae02.2.2.1 mJ0_isLatin1_aae02.2.2.2.1 mJ0_isLatin1_aae02.2.2.2.2 ∈ q_tb := ch_1 _ (List.mem_of_getElem? (i := 205) rfl) rfl
theorem cv_J0_492 : q_CV RJ0 492 mJ0_isLatin1_aae02 0 := ⟨tb_325, tb_326, tb_327, tb_134, tb_328, ⟨by decide +kernel, by decide +kernel, by decide +kernel⟩, by decide⟩
theorem tb_646 : Cond.methodLink RJ0 505 mJ0_length_8abf5.2.1 ∈ q_tb := ch_3 _ (List.mem_of_getElem? (i := 43) rfl) rfl
theorem tb_312 : Cond.instanceMethod mJ0_length_8abf5.2.1 ∈ q_tb := ch_1 _ (List.mem_of_getElem? (i := 189) rfl) rfl
theorem tb_313 : Cond.selects mJ0_length_8abf5.2.1.cls mJ0_length_8abf5.2.1 mJ0_length_8abf5.2.1 ∈ q_tb := ch_1 _ (List.mem_of_getElem? (i := 190) rfl) rfl
theorem tb_314 : Cond.code mJ0_length_8abf5.2.1 mJ0_length_8abf5.2.2.1 mJ0_length_8abf5.2.2.2.1 mJ0_length_8abf5.2.2.2.2 ∈ q_tb := ch_1 _ (List.mem_of_getElem? (i := 191) rfl) rfl
theorem cv_J0_505 : q_CV RJ0 505 mJ0_length_8abf5 0 := ⟨tb_646, tb_312, tb_313, tb_134, tb_314, ⟨by decide +kernel, by decide +kernel, by decide +kernel⟩, by decide⟩
theorem tb_647 : Cond.methodLink RJ0 637 mJ1_indexOf_4cfef.2.1 ∈ q_tb := ch_3 _ (List.mem_of_getElem? (i := 44) rfl) rfl
theorem tb_648 : Cond.static mJ1_indexOf_4cfef.2.1 ∈ q_tb := ch_3 _ (List.mem_of_getElem? (i := 45) rfl) rfl
theorem tb_649 : Cond.code mJ1_indexOf_4cfef.2.1 mJ1_indexOf_4cfef.2.2.1 mJ1_indexOf_4cfef.2.2.2.1 mJ1_indexOf_4cfef.2.2.2.2 ∈ q_tb := ch_3 _ (List.mem_of_getElem? (i := 46) rfl) rfl
theorem cv_J0_637 : q_CS RJ0 637 mJ1_indexOf_4cfef 4 := ⟨tb_647, tb_648, tb_135, tb_649, ⟨by decide +kernel, by decide +kernel, by decide +kernel⟩, by decide⟩
theorem tb_642 : Cond.methodLink RJ0 633 mJ0_indexOf_7cf53.2.1 ∈ q_tb := ch_3 _ (List.mem_of_getElem? (i := 39) rfl) rfl
theorem tb_643 : Cond.instanceMethod mJ0_indexOf_7cf53.2.1 ∈ q_tb := ch_3 _ (List.mem_of_getElem? (i := 40) rfl) rfl
theorem tb_644 : Cond.selects mJ0_indexOf_7cf53.2.1.cls mJ0_indexOf_7cf53.2.1 mJ0_indexOf_7cf53.2.1 ∈ q_tb := ch_3 _ (List.mem_of_getElem? (i := 41) rfl) rfl
theorem tb_645 : Cond.code mJ0_indexOf_7cf53.2.1 mJ0_indexOf_7cf53.2.2.1 mJ0_indexOf_7cf53.2.2.2.1 mJ0_indexOf_7cf53.2.2.2.2 ∈ q_tb := ch_3 _ (List.mem_of_getElem? (i := 42) rfl) rfl
theorem cv_J0_633 : q_CV RJ0 633 mJ0_indexOf_7cf53 2 := ⟨tb_642, tb_643, tb_644, tb_134, tb_645, ⟨by decide +kernel, by decide +kernel, by decide +kernel⟩, by decide⟩
theorem tb_337 : Cond.methodLink RJ0 1059 mJ3_checkIndex_8e157.2.1 ∈ q_tb := ch_1 _ (List.mem_of_getElem? (i := 214) rfl) rfl
theorem tb_338 : Cond.static mJ3_checkIndex_8e157.2.1 ∈ q_tb := ch_1 _ (List.mem_of_getElem? (i := 215) rfl) rfl
theorem tb_136 : Cond.initialized mJ3_checkIndex_8e157.2.1.cls ∈ q_tb := ch_1 _ (List.mem_of_getElem? (i := 13) rfl) rfl
theorem tb_339 : Cond.code mJ3_checkIndex_8e157.2.1 mJ3_checkIndex_8e157.2.2.1 mJ3_checkIndex_8e157.2.2.2.1 mJ3_checkIndex_8e157.2.2.2.2 ∈ q_tb := ch_1 _ (List.mem_of_getElem? (i := 216) rfl) rfl
theorem cv_J0_1059 : q_CS RJ0 1059 mJ3_checkIndex_8e157 3 := ⟨tb_337, tb_338, tb_136, tb_339, ⟨by decide +kernel, by decide +kernel, by decide +kernel⟩, by decide⟩
theorem tb_332 : Cond.methodLink RJ1 9 mJ0_checkIndex_df160.2.1 ∈ q_tb := ch_1 _ (List.mem_of_getElem? (i := 209) rfl) rfl
theorem tb_333 : Cond.static mJ0_checkIndex_df160.2.1 ∈ q_tb := ch_1 _ (List.mem_of_getElem? (i := 210) rfl) rfl
theorem tb_334 : Cond.code mJ0_checkIndex_df160.2.1 mJ0_checkIndex_df160.2.2.1 mJ0_checkIndex_df160.2.2.2.1 mJ0_checkIndex_df160.2.2.2.2 ∈ q_tb := ch_1 _ (List.mem_of_getElem? (i := 211) rfl) rfl
theorem cv_J1_9 : q_CS RJ1 9 mJ0_checkIndex_df160 2 := ⟨tb_332, tb_333, tb_134, tb_334, ⟨by decide +kernel, by decide +kernel, by decide +kernel⟩, by decide⟩
theorem tb_329 : Cond.methodLink RJ0 495 mJ1_charAt_3b067.2.1 ∈ q_tb := ch_1 _ (List.mem_of_getElem? (i := 206) rfl) rfl
theorem tb_330 : Cond.static mJ1_charAt_3b067.2.1 ∈ q_tb := ch_1 _ (List.mem_of_getElem? (i := 207) rfl) rfl
theorem tb_331 : Cond.code mJ1_charAt_3b067.2.1 mJ1_charAt_3b067.2.2.1 mJ1_charAt_3b067.2.2.2.1 mJ1_charAt_3b067.2.2.2.2 ∈ q_tb := ch_1 _ (List.mem_of_getElem? (i := 208) rfl) rfl
theorem cv_J0_495 : q_CS RJ0 495 mJ1_charAt_3b067 2 := ⟨tb_329, tb_330, tb_135, tb_331, ⟨by decide +kernel, by decide +kernel, by decide +kernel⟩, by decide⟩
theorem tb_311 : Cond.methodLink RX7 25 mJ0_length_8abf5.2.1 ∈ q_tb := ch_1 _ (List.mem_of_getElem? (i := 188) rfl) rfl
theorem cv_X7_25 : q_CV RX7 25 mJ0_length_8abf5 0 := ⟨tb_311, tb_312, tb_313, tb_134, tb_314, ⟨by decide +kernel, by decide +kernel, by decide +kernel⟩, by decide⟩
theorem tb_321 : Cond.methodLink RX7 31 mJ0_charAt_5068e.2.1 ∈ q_tb := ch_1 _ (List.mem_of_getElem? (i := 198) rfl) rfl
theorem tb_322 : Cond.instanceMethod mJ0_charAt_5068e.2.1 ∈ q_tb := ch_1 _ (List.mem_of_getElem? (i := 199) rfl) rfl
theorem tb_323 : Cond.selects mJ0_charAt_5068e.2.1.cls mJ0_charAt_5068e.2.1 mJ0_charAt_5068e.2.1 ∈ q_tb := ch_1 _ (List.mem_of_getElem? (i := 200) rfl) rfl
theorem tb_324 : Cond.code mJ0_charAt_5068e.2.1 mJ0_charAt_5068e.2.2.1 mJ0_charAt_5068e.2.2.2.1 mJ0_charAt_5068e.2.2.2.2 ∈ q_tb := ch_1 _ (List.mem_of_getElem? (i := 201) rfl) rfl
theorem cv_X7_31 : q_CV RX7 31 mJ0_charAt_5068e 1 := ⟨tb_321, tb_322, tb_323, tb_134, tb_324, ⟨by decide +kernel, by decide +kernel, by decide +kernel⟩, by decide⟩
theorem tb_638 : Cond.methodLink RX7 87 mJ0_indexOf_0f7a4.2.1 ∈ q_tb := ch_3 _ (List.mem_of_getElem? (i := 35) rfl) rfl
theorem tb_639 : Cond.instanceMethod mJ0_indexOf_0f7a4.2.1 ∈ q_tb := ch_3 _ (List.mem_of_getElem? (i := 36) rfl) rfl
theorem tb_640 : Cond.selects mJ0_indexOf_0f7a4.2.1.cls mJ0_indexOf_0f7a4.2.1 mJ0_indexOf_0f7a4.2.1 ∈ q_tb := ch_3 _ (List.mem_of_getElem? (i := 37) rfl) rfl
theorem tb_641 : Cond.code mJ0_indexOf_0f7a4.2.1 mJ0_indexOf_0f7a4.2.2.1 mJ0_indexOf_0f7a4.2.2.2.1 mJ0_indexOf_0f7a4.2.2.2.2 ∈ q_tb := ch_3 _ (List.mem_of_getElem? (i := 38) rfl) rfl
theorem cv_X7_87 : q_CV RX7 87 mJ0_indexOf_0f7a4 1 := ⟨tb_638, tb_639, tb_640, tb_134, tb_641, ⟨by decide +kernel, by decide +kernel, by decide +kernel⟩, by decide⟩
theorem tb_2001 : Cond.fieldLink RJ0 9 "java/lang/String" "value" "[B" ∈ q_tb := ch_8 _ (List.mem_of_getElem? (i := 198) rfl) rfl
theorem sv_J0 : Cond.fieldLink RJ0 9 "java/lang/String" "value" "[B" ∈ q_tb := tb_2001
theorem tb_2002 : Cond.fieldLink RJ0 15 "java/lang/String" "coder" "B" ∈ q_tb := ch_8 _ (List.mem_of_getElem? (i := 199) rfl) rfl
theorem sc_J0 : Cond.fieldLink RJ0 15 "java/lang/String" "coder" "B" ∈ q_tb := tb_2002
theorem tb_319 : Cond.fieldLink RJ0 38 "java/lang/String" "COMPACT_STRINGS" "Z" ∈ q_tb := ch_1 _ (List.mem_of_getElem? (i := 196) rfl) rfl
theorem sz_J0 : Cond.fieldLink RJ0 38 "java/lang/String" "COMPACT_STRINGS" "Z" ∈ q_tb := tb_319
theorem tb_335 : Cond.fieldLink RJ0 1053 "jdk/internal/util/Preconditions" "SIOOBE_FORMATTER" "Ljava/util/function/BiFunction;" ∈ q_tb := ch_1 _ (List.mem_of_getElem? (i := 212) rfl) rfl
theorem sf_J0 : Cond.fieldLink RJ0 1053 "jdk/internal/util/Preconditions" "SIOOBE_FORMATTER" "Ljava/util/function/BiFunction;" ∈ q_tb := tb_335
theorem kbipush_m100 : (Int8.ofInt (-100)).toInt32 = (-100) := by decide
theorem kbipush_m16 : (Int8.ofInt (-16)).toInt32 = (-16) := by decide
theorem kbipush_m15 : (Int8.ofInt (-15)).toInt32 = (-15) := by decide
theorem kbipush_m2 : (Int8.ofInt (-2)).toInt32 = (-2) := by decide
theorem kbipush_6 : (Int8.ofInt 6).toInt32 = 6 := by decide
theorem kbipush_7 : (Int8.ofInt 7).toInt32 = 7 := by decide
theorem kbipush_8 : (Int8.ofInt 8).toInt32 = 8 := by decide
theorem kbipush_9 : (Int8.ofInt 9).toInt32 = 9 := by decide
theorem kbipush_10 : (Int8.ofInt 10).toInt32 = 10 := by decide
theorem kbipush_11 : (Int8.ofInt 11).toInt32 = 11 := by decide
theorem kbipush_12 : (Int8.ofInt 12).toInt32 = 12 := by decide
theorem kbipush_13 : (Int8.ofInt 13).toInt32 = 13 := by decide
theorem kbipush_14 : (Int8.ofInt 14).toInt32 = 14 := by decide
theorem kbipush_15 : (Int8.ofInt 15).toInt32 = 15 := by decide
theorem kbipush_16 : (Int8.ofInt 16).toInt32 = 16 := by decide
theorem kbipush_17 : (Int8.ofInt 17).toInt32 = 17 := by decide
theorem kbipush_18 : (Int8.ofInt 18).toInt32 = 18 := by decide
theorem kbipush_19 : (Int8.ofInt 19).toInt32 = 19 := by decide
theorem kbipush_20 : (Int8.ofInt 20).toInt32 = 20 := by decide
theorem kbipush_21 : (Int8.ofInt 21).toInt32 = 21 := by decide
theorem kbipush_22 : (Int8.ofInt 22).toInt32 = 22 := by decide
theorem kbipush_23 : (Int8.ofInt 23).toInt32 = 23 := by decide
theorem kbipush_24 : (Int8.ofInt 24).toInt32 = 24 := by decide
theorem kbipush_25 : (Int8.ofInt 25).toInt32 = 25 := by decide
theorem kbipush_26 : (Int8.ofInt 26).toInt32 = 26 := by decide
theorem kbipush_27 : (Int8.ofInt 27).toInt32 = 27 := by decide
theorem kbipush_28 : (Int8.ofInt 28).toInt32 = 28 := by decide
theorem kbipush_29 : (Int8.ofInt 29).toInt32 = 29 := by decide
theorem kbipush_30 : (Int8.ofInt 30).toInt32 = 30 := by decide
theorem kbipush_31 : (Int8.ofInt 31).toInt32 = 31 := by decide
theorem kbipush_32 : (Int8.ofInt 32).toInt32 = 32 := by decide
theorem kbipush_33 : (Int8.ofInt 33).toInt32 = 33 := by decide
theorem kbipush_34 : (Int8.ofInt 34).toInt32 = 34 := by decide
theorem kbipush_37 : (Int8.ofInt 37).toInt32 = 37 := by decide
theorem kbipush_40 : (Int8.ofInt 40).toInt32 = 40 := by decide
theorem kbipush_41 : (Int8.ofInt 41).toInt32 = 41 := by decide
theorem kbipush_42 : (Int8.ofInt 42).toInt32 = 42 := by decide
theorem kbipush_43 : (Int8.ofInt 43).toInt32 = 43 := by decide
theorem kbipush_44 : (Int8.ofInt 44).toInt32 = 44 := by decide
theorem kbipush_45 : (Int8.ofInt 45).toInt32 = 45 := by decide
theorem kbipush_47 : (Int8.ofInt 47).toInt32 = 47 := by decide
theorem kbipush_48 : (Int8.ofInt 48).toInt32 = 48 := by decide
theorem kbipush_57 : (Int8.ofInt 57).toInt32 = 57 := by decide
theorem kbipush_59 : (Int8.ofInt 59).toInt32 = 59 := by decide
theorem kbipush_60 : (Int8.ofInt 60).toInt32 = 60 := by decide
theorem kbipush_61 : (Int8.ofInt 61).toInt32 = 61 := by decide
theorem kbipush_63 : (Int8.ofInt 63).toInt32 = 63 := by decide
theorem kbipush_64 : (Int8.ofInt 64).toInt32 = 64 := by decide
theorem kbipush_97 : (Int8.ofInt 97).toInt32 = 97 := by decide
theorem kbipush_98 : (Int8.ofInt 98).toInt32 = 98 := by decide
theorem kbipush_99 : (Int8.ofInt 99).toInt32 = 99 := by decide
theorem kbipush_100 : (Int8.ofInt 100).toInt32 = 100 := by decide
theorem kbipush_101 : (Int8.ofInt 101).toInt32 = 101 := by decide
theorem kbipush_102 : (Int8.ofInt 102).toInt32 = 102 := by decide
theorem kbipush_105 : (Int8.ofInt 105).toInt32 = 105 := by decide
theorem kbipush_108 : (Int8.ofInt 108).toInt32 = 108 := by decide
theorem kbipush_109 : (Int8.ofInt 109).toInt32 = 109 := by decide
theorem kbipush_110 : (Int8.ofInt 110).toInt32 = 110 := by decide
theorem kbipush_111 : (Int8.ofInt 111).toInt32 = 111 := by decide
theorem kbipush_112 : (Int8.ofInt 112).toInt32 = 112 := by decide
theorem kbipush_114 : (Int8.ofInt 114).toInt32 = 114 := by decide
theorem kbipush_115 : (Int8.ofInt 115).toInt32 = 115 := by decide
theorem kbipush_116 : (Int8.ofInt 116).toInt32 = 116 := by decide
theorem kbipush_118 : (Int8.ofInt 118).toInt32 = 118 := by decide
theorem kbipush_119 : (Int8.ofInt 119).toInt32 = 119 := by decide
theorem kbipush_120 : (Int8.ofInt 120).toInt32 = 120 := by decide
theorem kbipush_121 : (Int8.ofInt 121).toInt32 = 121 := by decide
theorem kbipush_122 : (Int8.ofInt 122).toInt32 = 122 := by decide
theorem kiconst_m1 : Int32.ofInt (-1) = (-1) := by decide
theorem kiconst_0 : Int32.ofInt 0 = 0 := by decide
theorem kiconst_1 : Int32.ofInt 1 = 1 := by decide
theorem kiconst_2 : Int32.ofInt 2 = 2 := by decide
theorem kiconst_3 : Int32.ofInt 3 = 3 := by decide
theorem kiconst_4 : Int32.ofInt 4 = 4 := by decide
theorem kiconst_5 : Int32.ofInt 5 = 5 := by decide
theorem ksipush_m1023 : (Int16.ofInt (-1023)).toInt32 = (-1023) := by decide
theorem ksipush_144 : (Int16.ofInt 144).toInt32 = 144 := by decide
theorem ksipush_240 : (Int16.ofInt 240).toInt32 = 240 := by decide
theorem ksipush_255 : (Int16.ofInt 255).toInt32 = 255 := by decide
theorem ksipush_256 : (Int16.ofInt 256).toInt32 = 256 := by decide
theorem ksipush_257 : (Int16.ofInt 257).toInt32 = 257 := by decide
theorem ksipush_480 : (Int16.ofInt 480).toInt32 = 480 := by decide
theorem ksipush_500 : (Int16.ofInt 500).toInt32 = 500 := by decide
theorem ksipush_501 : (Int16.ofInt 501).toInt32 = 501 := by decide
theorem ksipush_503 : (Int16.ofInt 503).toInt32 = 503 := by decide
theorem ksipush_512 : (Int16.ofInt 512).toInt32 = 512 := by decide
theorem ksipush_600 : (Int16.ofInt 600).toInt32 = 600 := by decide
theorem ksipush_720 : (Int16.ofInt 720).toInt32 = 720 := by decide
theorem ksipush_1023 : (Int16.ofInt 1023).toInt32 = 1023 := by decide
theorem ksipush_1024 : (Int16.ofInt 1024).toInt32 = 1024 := by decide
theorem ksipush_2000 : (Int16.ofInt 2000).toInt32 = 2000 := by decide
theorem ksipush_2048 : (Int16.ofInt 2048).toInt32 = 2048 := by decide
theorem ksipush_2880 : (Int16.ofInt 2880).toInt32 = 2880 := by decide
theorem ksipush_4000 : (Int16.ofInt 4000).toInt32 = 4000 := by decide
