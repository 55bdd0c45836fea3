/-! ===== the law's loop ===== -/
theorem b2_eq {α β γ : Type} {o : Option (α × β)} {v : α} {m : β} (h : o = some (v, m)) (K : α → β → Option γ) : b2 o K = K v m := by rw [h]; rfl
theorem b1_eq {α γ : Type} {o : Option α} {v : α} (h : o = some v) (K : α → Option γ) : b1 o K = K v := by rw [h]; rfl
theorem gx {L j k : Nat} (h : j + k < L) (hL : L ≤ 3584) : gX L (nI j + nI k) = true := by
  rw [nI_add]
  simp only [gX, Bool.and_eq_true, decide_eq_true_eq]
  exact ⟨Int32.not_lt.mp (nI_pos (by omega)), by rw [nI_cl (by omega)]; exact h⟩
theorem gx0 {L j : Nat} (h : j < L) (hL : L ≤ 3584) : gX L (nI j) = true := by
  simp only [gX, Bool.and_eq_true, decide_eq_true_eq]
  exact ⟨Int32.not_lt.mp (nI_pos (by omega)), by rw [nI_cl (by omega)]; exact h⟩
theorem e_thrown (M : fw_Mem) : f_X10_thrown st_S M 136 = some (M 136 6) := by simp only [f_X10_thrown, gO_136, gd_tt]
theorem lgc (x : Int64) : lg_cmp x x = 0 := (lg_cmp_eq x x).mpr rfl
section LW
variable {R : fw_Mem → Option Int32}
theorem tail_q {v b : Int32} {M2 : fw_Mem} (h3 : M2 136 6 = v) (h4 : v = 0 → M2 148 0 = b) (hR : R M2 = some 1) : b1 (f_X10_thrown st_S M2 136) (fun v19 => if v19 = v then (if v = 0 then (gd (gA st_S 2 148 0) (if (lg_cmp ((M2 148 0)).toInt64 (b).toInt64) = 0 then (R M2) else (some 0))) else (R M2)) else (some 0)) = some 1 := by
  rw [e_thrown, b1_s, if_pos h3]
  by_cases hv : v = 0
  · rw [if_pos hv, gd_h gA_148_0, h4 hv, if_pos (lgc _)]; exact hR
  · rw [if_neg hv]; exact hR
theorem tail_b {v b : Int32} {M2 : fw_Mem} (h3 : M2 136 6 = v) (h4 : v = 0 → M2 148 0 = b ∧ (b = 0 ∨ b = 1)) (hR : R M2 = some 1) : b1 (f_X10_thrown st_S M2 136) (fun v80 => if v80 = v then (if v = 0 then (gd (gA st_S 2 148 0) (if b = 0 then (if (lg_cmp ((M2 148 0)).toInt64 ((0 : Int32)).toInt64) = 0 then (R M2) else (some 0)) else (if (lg_cmp ((M2 148 0)).toInt64 ((1 : Int32)).toInt64) = 0 then (R M2) else (some 0)))) else (R M2)) else (some 0)) = some 1 := by
  rw [e_thrown, b1_s, if_pos h3]
  by_cases hv : v = 0
  · obtain ⟨e, h01⟩ := h4 hv
    rw [if_pos hv, gd_h gA_148_0, e]
    by_cases hb : b = 0
    · rw [if_pos hb, hb, if_pos (lgc _)]; exact hR
    · have h1 : b = 1 := h01.resolve_left hb
      rw [if_neg hb, h1, if_pos (lgc _)]; exact hR
  · rw [if_neg hv]; exact hR
theorem go_q {o : Option (Int32 × fw_Mem)} {F : fw_Mem → Option (Int32 × fw_Mem)} (q : QOK o F) (hR : ∀ M, INV M → R M = some 1) : b2 o (fun v16 M16 => gd (gO st_S 10 136) (b2 (F M16) (fun v17 M17 => b1 (f_X10_thrown st_S M17 136) (fun v19 => if v19 = v16 then (if v16 = 0 then (gd (gA st_S 2 148 0) (if (lg_cmp ((M17 148 0)).toInt64 (v17).toInt64) = 0 then (R M17) else (some 0))) else (R M17)) else (some 0))))) = some 1 := by
  obtain ⟨v, M1, b, M2, h1, h2, h3, h4, h5⟩ := q
  rw [h1, b2_s, gd_h gO_136, h2, b2_s]
  exact tail_q h3 h4 (hR M2 h5)
theorem go_b {o : Option (Int32 × fw_Mem)} {F : fw_Mem → Option (Int32 × fw_Mem)} (q : QOB o F) (hR : ∀ M, INV M → R M = some 1) : b2 o (fun v77 M77 => gd (gO st_S 10 136) (b2 (F M77) (fun v78 M78 => b1 (f_X10_thrown st_S M78 136) (fun v80 => if v80 = v77 then (if v77 = 0 then (gd (gA st_S 2 148 0) (if v78 = 0 then (if (lg_cmp ((M78 148 0)).toInt64 ((0 : Int32)).toInt64) = 0 then (R M78) else (some 0)) else (if (lg_cmp ((M78 148 0)).toInt64 ((1 : Int32)).toInt64) = 0 then (R M78) else (some 0)))) else (R M78)) else (some 0))))) = some 1 := by
  obtain ⟨v, M1, b, M2, h1, h2, h3, h4, h5⟩ := q
  rw [h1, b2_s, gd_h gO_136, h2, b2_s]
  exact tail_b h3 h4 (hR M2 h5)
theorem go_v {o : Option (Int32 × fw_Mem)} {F : fw_Mem → Option (Int32 × fw_Mem)} (q : ∃ v M1 M2, o = some (v, M1) ∧ F M1 = some (v, M2) ∧ INV M2) (hR : ∀ M, INV M → R M = some 1) : b2 o (fun v9 M9 => gd (gO st_S 10 136) (b2 (F M9) (fun v11 M11 => if v9 = v11 then (R M11) else (some 0)))) = some 1 := by
  obtain ⟨v, M1, M2, h1, h2, h3⟩ := q
  rw [h1, b2_s, gd_h gO_136, h2, b2_s, if_pos rfl]
  exact hR M2 h3
theorem go_f {o : Option Int32} {F : Option (Int32 × fw_Mem)} (q : ∃ v M2, o = some v ∧ F = some (v, M2) ∧ INV M2) (hR : ∀ M, INV M → R M = some 1) : b1 o (fun v25 => gd (gO st_S 10 136) (b2 F (fun v27 M27 => if v25 = v27 then (R M27) else (some 0)))) = some 1 := by
  obtain ⟨v, M2, h1, h2, h3⟩ := q
  rw [h1, b1_s, gd_h gO_136, h2, b2_s, if_pos rfl]
  exact hR M2 h3
theorem go_i {o : Option fw_Mem} {F : fw_Mem → Option fw_Mem} (q : ∃ M1 M2, o = some M1 ∧ F M1 = some M2 ∧ INV M2) (hR : ∀ M, INV M → R M = some 1) : b1 o (fun M374 => gd (gO st_S 10 136) (b1 (F M374) (fun M376 => R M376))) = some 1 := by
  obtain ⟨M1, M2, h1, h2, h3⟩ := q
  rw [h1, b1_s, gd_h gO_136, h2, b1_s]
  exact hR M2 h3
end LW
set_option maxRecDepth 100000 in
set_option maxHeartbeats 4000000 in
theorem law_all {L : Nat} (hL : L ≤ 3584) (xs : Nat → Int32) : ∀ f j M, INV M → j ≤ L + 7 → L ≤ j + 7 * f → lf_law st_S L xs (f + 1) (nI j) M = some 1 := by
  have lim : ∀ j, j ≤ L + 7 → (nI L - 7 < nI j ↔ L < j + 7) := fun j hj => by
    have e : (nI L - 7).toInt = (L : Int) - 7 := by
      by_cases h7 : 7 ≤ L
      · rw [show (7 : Int32) = nI 7 from rfl, nI_sub h7, nI_toInt (by omega)]; omega
      · exact (by decide : ∀ L : Nat, L < 7 → (nI L - 7).toInt = (L : Int) - 7) L (by omega)
    rw [fa_lt, e, nI_toInt (by omega)]
    omega
  intro f
  induction f with
  | zero =>
    intro j M I hj hf
    rw [lf_law.eq_2]
    exact if_pos ((lim j hj).mpr (by omega))
  | succ f ih =>
    intro j M I hj hf
    rw [lf_law.eq_2]
    by_cases hl : L < j + 7
    · exact if_pos ((lim j hj).mpr hl)
    refine (if_neg (fun q => hl ((lim j hj).mp q))).trans ?_
    have R : ∀ M, INV M → lf_law st_S L xs (f + 1) (nI j + 7) M = some 1 := fun M I => by
      rw [show nI j + 7 = nI (j + 7) from nI_add j 7]
      exact ih (j + 7) M I (by omega) (by omega)
    have g1 : gX L (nI j + 1) = true := gx (k := 1) (by omega) hL
    have g2 : gX L (nI j + 2) = true := gx (k := 2) (by omega) hL
    have g3 : gX L (nI j + 3) = true := gx (k := 3) (by omega) hL
    have g4 : gX L (nI j + 4) = true := gx (k := 4) (by omega) hL
    have g5 : gX L (nI j + 5) = true := gx (k := 5) (by omega) hL
    have g6 : gX L (nI j + 6) = true := gx (k := 6) (by omega) hL
    refine (gd_h (gx0 (by omega) hL) _).trans ?_
    by_cases c0 : ((xs (nI j).toNatClampNeg) &&& 31) = 0
    · refine (if_pos c0).trans ?_
      refine (gd_h g1 _).trans ?_
      refine (gd_h g2 _).trans ?_
      refine (gd_h g3 _).trans ?_
      refine (gd_h g4 _).trans ?_
      refine (gd_h g5 _).trans ?_
      refine (gd_h gO_0 _).trans ?_
      exact go_v (q_feed I _ _ _ _ _) R
    refine (if_neg c0).trans ?_
    by_cases c1 : ((xs (nI j).toNatClampNeg) &&& 31) = 1
    · refine (if_pos c1).trans ?_
      refine (gd_h g1 _).trans ?_
      exact go_q (q_desk I _) R
    refine (if_neg c1).trans ?_
    by_cases c2 : ((xs (nI j).toNatClampNeg) &&& 31) = 2
    · refine (if_pos c2).trans ?_
      refine (gd_h gO_0 _).trans ?_
      exact go_f (q_fault I ) R
    refine (if_neg c2).trans ?_
    by_cases c3 : ((xs (nI j).toNatClampNeg) &&& 31) = 3
    · refine (if_pos c3).trans ?_
      refine (gd_h g1 _).trans ?_
      exact go_q (q_count I _) R
    refine (if_neg c3).trans ?_
    by_cases c4 : ((xs (nI j).toNatClampNeg) &&& 31) = 4
    · refine (if_pos c4).trans ?_
      refine (gd_h g1 _).trans ?_
      refine (gd_h g2 _).trans ?_
      exact go_q (q_letter I _ _) R
    refine (if_neg c4).trans ?_
    by_cases c5 : ((xs (nI j).toNatClampNeg) &&& 31) = 5
    · refine (if_pos c5).trans ?_
      refine (gd_h g1 _).trans ?_
      refine (gd_h g2 _).trans ?_
      exact go_q (q_link I _ _) R
    refine (if_neg c5).trans ?_
    by_cases c6 : ((xs (nI j).toNatClampNeg) &&& 31) = 6
    · refine (if_pos c6).trans ?_
      refine (gd_h g1 _).trans ?_
      refine (gd_h g2 _).trans ?_
      exact go_q (q_suit I _ _) R
    refine (if_neg c6).trans ?_
    by_cases c7 : ((xs (nI j).toNatClampNeg) &&& 31) = 7
    · refine (if_pos c7).trans ?_
      refine (gd_h g1 _).trans ?_
      refine (gd_h g2 _).trans ?_
      refine (gd_h g3 _).trans ?_
      exact go_b (q_isBound I _ _ _) R
    refine (if_neg c7).trans ?_
    by_cases c8 : ((xs (nI j).toNatClampNeg) &&& 31) = 8
    · refine (if_pos c8).trans ?_
      refine (gd_h g1 _).trans ?_
      refine (gd_h g2 _).trans ?_
      refine (gd_h g3 _).trans ?_
      refine (gd_h g4 _).trans ?_
      exact go_q (q_chain I _ _ _ _) R
    refine (if_neg c8).trans ?_
    by_cases c9 : ((xs (nI j).toNatClampNeg) &&& 31) = 9
    · refine (if_pos c9).trans ?_
      refine (gd_h g1 _).trans ?_
      refine (gd_h g2 _).trans ?_
      refine (gd_h g3 _).trans ?_
      exact go_q (q_two I _ _ _) R
    refine (if_neg c9).trans ?_
    by_cases c10 : ((xs (nI j).toNatClampNeg) &&& 31) = 10
    · refine (if_pos c10).trans ?_
      refine (gd_h g1 _).trans ?_
      exact go_q (q_barred I _) R
    refine (if_neg c10).trans ?_
    by_cases c11 : ((xs (nI j).toNatClampNeg) &&& 31) = 11
    · refine (if_pos c11).trans ?_
      refine (gd_h g1 _).trans ?_
      refine (gd_h g2 _).trans ?_
      refine (gd_h g3 _).trans ?_
      exact go_q (q_held I _ _ _) R
    refine (if_neg c11).trans ?_
    by_cases c12 : ((xs (nI j).toNatClampNeg) &&& 31) = 12
    · refine (if_pos c12).trans ?_
      refine (gd_h g1 _).trans ?_
      refine (gd_h g2 _).trans ?_
      exact go_q (q_issues I _ _) R
    refine (if_neg c12).trans ?_
    by_cases c13 : ((xs (nI j).toNatClampNeg) &&& 31) = 13
    · refine (if_pos c13).trans ?_
      refine (gd_h g1 _).trans ?_
      exact go_q (q_forced I _) R
    refine (if_neg c13).trans ?_
    by_cases c14 : ((xs (nI j).toNatClampNeg) &&& 31) = 14
    · refine (if_pos c14).trans ?_
      refine (gd_h g1 _).trans ?_
      exact go_q (q_say I _) R
    refine (if_neg c14).trans ?_
    by_cases c15 : ((xs (nI j).toNatClampNeg) &&& 31) = 15
    · refine (if_pos c15).trans ?_
      refine (gd_h g1 _).trans ?_
      refine (gd_h gO_0 _).trans ?_
      exact go_f (q_said I _) R
    refine (if_neg c15).trans ?_
    by_cases c16 : ((xs (nI j).toNatClampNeg) &&& 31) = 16
    · refine (if_pos c16).trans ?_
      refine (gd_h g1 _).trans ?_
      exact go_q (q_latest I _) R
    refine (if_neg c16).trans ?_
    by_cases c17 : ((xs (nI j).toNatClampNeg) &&& 31) = 17
    · refine (if_pos c17).trans ?_
      refine (gd_h g1 _).trans ?_
      refine (gd_h g2 _).trans ?_
      exact go_q (q_goes I _ _) R
    refine (if_neg c17).trans ?_
    by_cases c18 : ((xs (nI j).toNatClampNeg) &&& 31) = 18
    · refine (if_pos c18).trans ?_
      refine (gd_h g1 _).trans ?_
      refine (gd_h g2 _).trans ?_
      refine (gd_h g3 _).trans ?_
      refine (gd_h g4 _).trans ?_
      refine (gd_h g5 _).trans ?_
      refine (gd_h g6 _).trans ?_
      exact go_q (q_would I _ _ _ _ _ _) R
    refine (if_neg c18).trans ?_
    by_cases c19 : ((xs (nI j).toNatClampNeg) &&& 31) = 19
    · refine (if_pos c19).trans ?_
      refine (gd_h g1 _).trans ?_
      exact go_q (q_freeTill I _) R
    refine (if_neg c19).trans ?_
    by_cases c20 : ((xs (nI j).toNatClampNeg) &&& 31) = 20
    · refine (if_pos c20).trans ?_
      refine (gd_h g1 _).trans ?_
      exact go_q (q_against I _) R
    refine (if_neg c20).trans ?_
    by_cases c21 : ((xs (nI j).toNatClampNeg) &&& 31) = 21
    · refine (if_pos c21).trans ?_
      refine (gd_h g1 _).trans ?_
      refine (gd_h g2 _).trans ?_
      refine (gd_h g3 _).trans ?_
      by_cases z : xs (nI j + 3).toNatClampNeg = 0
      · refine (if_pos z).trans ?_
        obtain ⟨v, M1, b, M2, h1, h2, h3, h4, h5⟩ := q_judge I (xs (nI j + 1).toNatClampNeg) (xs (nI j + 2).toNatClampNeg) false
        refine (b2_eq h1 _).trans ?_
        refine (if_pos z).trans ?_
        refine (gd_h gO_136 _).trans ?_
        refine (b2_eq h2 _).trans ?_
        exact tail_b h3 h4 (R M2 h5)
      · refine (if_neg z).trans ?_
        obtain ⟨v, M1, b, M2, h1, h2, h3, h4, h5⟩ := q_judge I (xs (nI j + 1).toNatClampNeg) (xs (nI j + 2).toNatClampNeg) true
        refine (b2_eq h1 _).trans ?_
        refine (if_neg z).trans ?_
        refine (gd_h gO_136 _).trans ?_
        refine (b2_eq h2 _).trans ?_
        exact tail_b h3 h4 (R M2 h5)
    refine (if_neg c21).trans ?_
    by_cases c22 : ((xs (nI j).toNatClampNeg) &&& 31) = 22
    · refine (if_pos c22).trans ?_
      refine (gd_h g1 _).trans ?_
      refine (gd_h g2 _).trans ?_
      refine (gd_h g3 _).trans ?_
      refine (gd_h g4 _).trans ?_
      by_cases z : xs (nI j + 4).toNatClampNeg = 0
      · refine (if_pos z).trans ?_
        obtain ⟨v, M1, b, M2, h1, h2, h3, h4, h5⟩ := q_find I (xs (nI j + 1).toNatClampNeg) (xs (nI j + 2).toNatClampNeg) (xs (nI j + 3).toNatClampNeg) false
        refine (b2_eq h1 _).trans ?_
        refine (if_pos z).trans ?_
        refine (gd_h gO_136 _).trans ?_
        refine (b2_eq h2 _).trans ?_
        exact tail_q h3 h4 (R M2 h5)
      · refine (if_neg z).trans ?_
        obtain ⟨v, M1, b, M2, h1, h2, h3, h4, h5⟩ := q_find I (xs (nI j + 1).toNatClampNeg) (xs (nI j + 2).toNatClampNeg) (xs (nI j + 3).toNatClampNeg) true
        refine (b2_eq h1 _).trans ?_
        refine (if_neg z).trans ?_
        refine (gd_h gO_136 _).trans ?_
        refine (b2_eq h2 _).trans ?_
        exact tail_q h3 h4 (R M2 h5)
    refine (if_neg c22).trans ?_
    by_cases c23 : ((xs (nI j).toNatClampNeg) &&& 31) = 23
    · refine (if_pos c23).trans ?_
      refine (gd_h g1 _).trans ?_
      exact go_b (q_reverse I _) R
    refine (if_neg c23).trans ?_
    by_cases c24 : ((xs (nI j).toNatClampNeg) &&& 31) = 24
    · refine (if_pos c24).trans ?_
      refine (gd_h g1 _).trans ?_
      refine (gd_h g2 _).trans ?_
      refine (gd_h g3 _).trans ?_
      refine (gd_h g4 _).trans ?_
      exact go_q (q_tie I _ _ _ _) R
    refine (if_neg c24).trans ?_
    by_cases c25 : ((xs (nI j).toNatClampNeg) &&& 31) = 25
    · refine (if_pos c25).trans ?_
      refine (gd_h g1 _).trans ?_
      exact go_q (q_cut I _) R
    refine (if_neg c25).trans ?_
    by_cases c26 : ((xs (nI j).toNatClampNeg) &&& 31) = 26
    · refine (if_pos c26).trans ?_
      refine (gd_h g1 _).trans ?_
      refine (gd_h g2 _).trans ?_
      exact go_q (q_rule I _ _) R
    refine (if_neg c26).trans ?_
    by_cases c27 : ((xs (nI j).toNatClampNeg) &&& 31) = 27
    · refine (if_pos c27).trans ?_
      refine (gd_h gO_0 _).trans ?_
      exact go_v (q_undo I ) R
    refine (if_neg c27).trans ?_
    by_cases c28 : ((xs (nI j).toNatClampNeg) &&& 31) = 28
    · refine (if_pos c28).trans ?_
      refine (gd_h g1 _).trans ?_
      exact go_q (q_ask I _) R
    refine (if_neg c28).trans ?_
    by_cases c29 : ((xs (nI j).toNatClampNeg) &&& 31) = 29
    · refine (if_pos c29).trans ?_
      refine (gd_h gO_0 _).trans ?_
      exact go_i (q_image I) R
    refine (if_neg c29).trans ?_
    by_cases c30 : ((xs (nI j).toNatClampNeg) &&& 31) = 30
    · refine (if_pos c30).trans ?_
      refine (gd_h gO_0 _).trans ?_
      exact go_v (q_back I ) R
    refine (if_neg c30).trans ?_
    exact R M I
theorem law_1 {L : Nat} (hL : L ≤ 3584) (xs : Nat → Int32) : lf_law st_S L xs 20000 0 st_M = some 1 := law_all hL xs 19999 0 st_M st_inv (by omega) (by omega)
