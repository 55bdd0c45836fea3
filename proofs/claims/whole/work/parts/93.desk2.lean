section QD
variable {M : fw_Mem}
theorem q_desk_no (I : INV M) {x : Int32} (hx : x < 0 ∨ ¬ x ≤ M 1 1) : QOK (f_L_desk st_S M 0 x 148) (fun M1 => f_X10_desk st_S M1 136 x) := by
  obtain ⟨P, L, N, A, T, U, hh, iv⟩ := id I
  obtain ⟨h, w, ⟨p3, p42, p81⟩, r3, c, im, ac, tp, sp⟩ := id iv
  refine qok1 I (M1 := M) (k := 1) (by decide) ?_ (AG.rf M) (fun k1 e => ⟨0, fw_set (fw_set M 136 6 0) 136 6 1, ?_, ?_⟩)
  · by_cases h0 : x < 0
    · simp only [f_L_desk, gO_0, gd_tt, f_X9_desk, if_pos h0, b2_s, bxr, if_true]
    · have h1 := hx.resolve_left h0
      simp only [f_L_desk, gO_0, gd_tt, f_X9_desk, if_neg h0, kc_0_0 h, gN_1, tn_1, gO_1, if_neg h1, b2_s, bxr, if_true]
  · have e15 : fw_set M 136 6 0 136 15 = M 1 1 := by rw [set_nk _ _ _ _ (by decide), tp.2.1, tp.1]
    by_cases h0 : x < 0
    · simp only [f_X10_desk, gO_136, gd_tt, bm_s, if_pos h0, f_X10_fail, b2_s]
    · have h1 := hx.resolve_left h0
      simp only [f_X10_desk, gO_136, gd_tt, bm_s, if_neg h0, e15, if_neg h1, f_X10_fail, b2_s]
  · exact ⟨⟨fun b b1 _ => by rw [set_nr _ _ _ b1, set_nr _ _ _ b1], fun j hj => by rw [set_nk _ _ _ _ hj, set_nk _ _ _ _ hj]⟩, set_eq _ _ _ _⟩
end QD
