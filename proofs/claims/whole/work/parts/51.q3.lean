/-! ===== letter, link, suit, isBound, fault, said ===== -/
def QOB (o : Option (Int32 × fw_Mem)) (F : fw_Mem → Option (Int32 × fw_Mem)) : Prop := ∃ v M1 b M2, o = some (v, M1) ∧ F M1 = some (b, M2) ∧ M2 136 6 = v ∧ (v = 0 → M2 148 0 = b ∧ (b = 0 ∨ b = 1)) ∧ INV M2
theorem qob {o : Option (Int32 × fw_Mem)} {F : fw_Mem → Option (Int32 × fw_Mem)} (q : QOK o F) (hb : ∀ v M1 b M2, o = some (v, M1) → F M1 = some (b, M2) → v = 0 → b = 0 ∨ b = 1) : QOB o F := by
  obtain ⟨v, M1, b, M2, h1, h2, h3, h4, h5⟩ := q
  exact ⟨v, M1, b, M2, h1, h2, h3, fun hv => ⟨h4 hv, hb v M1 b M2 h1 h2 hv⟩, h5⟩
theorem qob0 {M M1 : fw_Mem} {o : Option (Int32 × fw_Mem)} {F : fw_Mem → Option (Int32 × fw_Mem)} {u : Bool} (I : INV M) (ho : o = some (0, M1)) (g : AG M M1) (hu : M1 148 0 = bI u) (hm : KC M1 → M1 137 = M 137 → ∃ M2, F M1 = some (bI u, M2) ∧ MC M1 M2 0) : QOB o F := by
  have I1 := g.inv I
  obtain ⟨P, L, N, A, T, U, h, i⟩ := id I1
  obtain ⟨M2, h1, h2, h3⟩ := hm i.1 (g.row rfl)
  exact ⟨0, M1, bI u, M2, ho, h1, h3, fun _ => ⟨by rw [h2.1 148 (by decide) (by omega)]; exact hu, by cases u <;> simp [bI]⟩, h2.ag.inv I1⟩
theorem qob1 {o : Option (Int32 × fw_Mem)} {F : fw_Mem → Option (Int32 × fw_Mem)} {v : Int32} {M1 : fw_Mem} (hv : v ≠ 0) (ho : o = some (v, M1)) (q : QOK o F) : QOB o F := by
  obtain ⟨v', M1', b, M2, h1, h2, h3, h4, h5⟩ := q
  have e : v' = v := by rw [ho] at h1; cases h1; rfl
  exact ⟨v', M1', b, M2, h1, h2, h3, fun q => absurd (e ▸ q) hv, h5⟩
theorem l_6 : (6 : Int32) = nI 6 := rfl
section Q3
variable {M : fw_Mem}
theorem q_letter (I : INV M) (x y : Int32) : QOK (f_L_letter st_S M 0 x y 148) (fun M1 => f_X10_letter st_S M1 136 x y) := by
  obtain ⟨P, L, N, A, T, U, hh, h, w, pp, r3, c, -⟩ := id I
  have p12 := w.1.1
  by_cases hx : ∃ p, p < P ∧ x = nI p
  · obtain ⟨p, hp, rfl⟩ := hx
    by_cases hy : ∃ k, k < 6 ∧ y = nI k
    · obtain ⟨k, hk, rfl⟩ := hy
      have e1 : M 4 (p * 6 + k) = M 137 (6 + 6 * p + k) := by
        have := r3.2.1 (p * 6 + k) (by omega)
        rw [show 6 + 6 * p + k = 6 + (p * 6 + k) by omega]
        exact this
      refine qok0 I (M1 := fw_set M 148 0 (M 137 (6 + 6 * p + k))) ?_ ((AG.rf M).st 148 0 _ rfl) (set_eq _ _ _ _) (fun k1 e => ?_)
      · simp only [f_L_letter, f_X9_letter, gO_0, gd_tt, kc_0_5 h, gN_121, tn_121, gO_121, b1_s, b2_s, bxl, bxr, bn_s, gA_148_0, bm_s, if_true, if_false, i10, i00, c_person h r3.1.1 p12 hp, if_neg (nI_pos (show k < 2 ^ 31 by omega)), l_6, if_pos (nI_lt hk (show 6 < 2 ^ 31 by omega)), kc_0_1 h, gN_3, tn_3, gO_3, kc_3_0 h, gN_4, tn_4, nI_mul, nI_add, gA_4 (show p * 6 + k < 72 by omega), nI_cl (show p * 6 + k < 2147483648 by omega), e1]
      · have k2 := kc_136 k1 0
        have e2 := (s137 (fw_set M 148 0 (M 137 (6 + 6 * p + k))) 0).trans e
        refine ⟨_, ?_, mf_set _ 0⟩
        simp only [f_X10_letter, gO_136, gd_tt, bm_s, mp_ok k2 e2 w hp, b1_s, i10, if_false, e_isIn, show (5 : Int32) = nI 6 - 1 from rfl, decide_eq_true ((rg (by omega)).mpr ⟨k, hk, rfl⟩ : ¬ nI k < 0 ∧ ¬ nI 6 - 1 < nI k), bI_t, kc_136_0 k2, gN_137, tn_137, l_6, nI_mul, nI_add, gA_137 (show 6 + 6 * p + k < 330 by omega), nI_cl (show 6 + 6 * p + k < 2147483648 by omega), e2]
    · refine qok1 I (M1 := M) (k := 1) (by decide) ?_ (AG.rf M) (fun k1 e => ?_)
      · simp only [f_L_letter, f_X9_letter, gO_0, gd_tt, kc_0_5 h, gN_121, tn_121, gO_121, b1_s, b2_s, bxl, bxr, bn_s, gA_148_0, bm_s, if_true, if_false, i10, i00, c_person h r3.1.1 p12 hp]
        have hy2 := (not_congr (rgc (x := y) (N := 6) (by omega))).mpr hy
        by_cases hn : y < 0
        · simp only [if_pos hn, b1_s, b2_s, bxl, bxr, bn_s, bm_s, if_true]
        · simp only [if_neg hn, if_neg (fun q => hy2 ⟨hn, q⟩ : ¬ y < 6), b1_s, b2_s, bxl, bxr, bn_s, bm_s, if_true]
      · have hy2 := (not_congr (rg (x := y) (N := 6) (by omega))).mpr hy
        exact ⟨0, _, by simp only [f_X10_letter, gO_136, gd_tt, bm_s, mp_ok (kc_136 k1 0) ((s137 _ _).trans e) w hp, b1_s, i10, if_false, e_isIn, show (5 : Int32) = nI 6 - 1 from rfl, decide_eq_false hy2, bI_f, i00, if_true, m_fail, b2_s], mc_ff M 0 1⟩
  · exact qok1 I (M1 := M) (k := 1) (by decide) (by simp only [f_L_letter, f_X9_letter, gO_0, gd_tt, kc_0_5 h, gN_121, tn_121, gO_121, b1_s, b2_s, bxl, bxr, bn_s, gA_148_0, bm_s, if_true, if_false, i10, i00, c_personNo h r3.1.1 p12 hx]) (AG.rf M) (fun k1 e => ⟨0, _, by simp only [f_X10_letter, gO_136, gd_tt, bm_s, mp_no (kc_136 k1 0) ((s137 _ _).trans e) w hx, b1_s, i00, if_true, m_fail, b2_s], mc_ff M 0 1⟩)
theorem q_link (I : INV M) (x y : Int32) : QOK (f_L_link st_S M 0 x y 148) (fun M1 => f_X10_link st_S M1 136 x y) := by
  obtain ⟨P, L, N, A, T, U, hh, h, w, ⟨p3, -⟩, r3, c, -⟩ := id I
  have l24 := w.1.2.1
  have hL0 : ∀ {B : fw_Mem}, KC B → B 137 = M 137 → f_X10_links st_S B 136 = some (nI L) := fun k e => by rw [e_links k, e, w.2.1.2.1]
  by_cases hx : ∃ p, p < L ∧ x = nI p
  · obtain ⟨l, hl, rfl⟩ := hx
    have hl24 : l < 24 := by omega
    have hm1 : ∀ {B : fw_Mem}, KC B → B 137 = M 137 → f_X10_isIn st_S B (nI l) 0 (nI L - 1) = some 1 := fun k e => by rw [e_isIn, decide_eq_true ((rg (by omega)).mpr ⟨l, hl, rfl⟩)]; rfl
    by_cases hy : y = 0 ∨ y = 1 ∨ y = 2 ∨ y = 3 ∨ y = 4
    · have hc := r3.2.2.2.1 l hl
      have g1 := lp_gN p3 hl24
      have g2 := lp_gO p3 hl24
      rw [show 3 + 2 = 5 from rfl] at hc
      have hcl : ∀ j, cl M (M 5 l).toNatClampNeg j = lq (M 137) l j := fun j => congrFun hc j
      refine qok0 I (M1 := fw_set M 148 0 (lq (M 137) l y.toNatClampNeg)) ?_ ((AG.rf M).st 148 0 _ rfl) (set_eq _ _ _ _) (fun k1 e => ?_)
      · have h0 : M (M 5 l).toNatClampNeg 0 = lq (M 137) l 0 := hcl 0
        have h1 : M (M 5 l).toNatClampNeg 1 = lq (M 137) l 1 := hcl 1
        have h2 : (if M (M 5 l).toNatClampNeg 3 = -1 then (0 : Int32) else 1) = lq (M 137) l 2 := hcl 2
        have h3 : M (M 5 l).toNatClampNeg 2 = lq (M 137) l 3 := hcl 3
        have h4 : (if M (M 5 l).toNatClampNeg 3 = -1 then (9999 : Int32) else M (M 5 l).toNatClampNeg 3) = lq (M 137) l 4 := hcl 4
        simp only [f_L_link, f_X9_link, gO_0, gd_tt, kc_0_5 h, gN_121, tn_121, gO_121, b1_s, b2_s, bxl, bxr, bn_s, gA_148_0, bm_s, if_true, if_false, i10, i00, c_link h r3.1.2.1 l24 hl, kc_0_1 h, gN_3, tn_3, gO_3, kc_3_1 h, gN_5, tn_5, gA_5 hl24, nI_cl (show l < 2147483648 by omega), g1, g2, f_X3_isRuler]
        rcases hy with rfl | rfl | rfl | rfl | rfl
        · simp [b1_s, b2_s, bxl, bxr, bn_s, bm_s, h0]
        · simp [b1_s, b2_s, bxl, bxr, bn_s, bm_s, h1]
        · rw [show (2 : Int32).toNatClampNeg = 2 from tn_2, ← h2]
          by_cases e : M (M 5 l).toNatClampNeg 3 = -1 <;> simp [b1_s, b2_s, bxl, bxr, bn_s, bm_s, e]
        · rw [show (3 : Int32).toNatClampNeg = 3 from tn_3, ← h3]; simp [b1_s, b2_s, bxl, bxr, bn_s, bm_s]
        · rw [show (4 : Int32).toNatClampNeg = 4 from tn_4, ← h4]
          by_cases e : M (M 5 l).toNatClampNeg 3 = -1 <;> simp [b1_s, b2_s, bxl, bxr, bn_s, bm_s, e]
      · have k2 := kc_136 k1 0
        have e2 := (s137 (fw_set M 148 0 (lq (M 137) l y.toNatClampNeg)) 0).trans e
        refine ⟨_, ?_, mf_set _ 0⟩
        have hin : f_X10_isIn st_S (fw_set (fw_set M 148 0 (lq (M 137) l y.toNatClampNeg)) 136 6 0) y 0 4 = some 1 := by
          rw [e_isIn]
          rcases hy with rfl | rfl | rfl | rfl | rfl <;> rfl
        have hlk : f_X10_linkOf st_S (fw_set (fw_set M 148 0 (lq (M 137) l y.toNatClampNeg)) 136 6 0) 136 (nI l) y = some (lq (M 137) l y.toNatClampNeg) := by
          have hy' : ∃ j, j < 5 ∧ y = nI j := by 
            rcases hy with rfl | rfl | rfl | rfl | rfl
            · exact ⟨0, by omega, rfl⟩
            · exact ⟨1, by omega, rfl⟩
            · exact ⟨2, by omega, rfl⟩
            · exact ⟨3, by omega, rfl⟩
            · exact ⟨4, by omega, rfl⟩
          obtain ⟨j, hj, e3⟩ := hy'
          have := e_lk k2 hl24 hj (x := y) e3
          rw [this, e2, e3, nI_cl (by omega)]
        simp only [f_X10_link, gO_136, gd_tt, bm_s, hL0 k2 e2, hm1 k2 e2, b1_s, i10, if_false, hin, hlk]
    · refine qok1 I (M1 := M) (k := 1) (by decide) ?_ (AG.rf M) (fun k1 e => ?_)
      · simp only [f_L_link, f_X9_link, gO_0, gd_tt, kc_0_5 h, gN_121, tn_121, gO_121, b1_s, b2_s, bxl, bxr, bn_s, gA_148_0, bm_s, if_true, if_false, i10, i00, c_link h r3.1.2.1 l24 hl, kc_0_1 h, gN_3, tn_3, gO_3, kc_3_1 h, gN_5, tn_5, gA_5 hl24, nI_cl (show l < 2147483648 by omega), lp_gN p3 hl24]
        simp only [not_or] at hy
        simp [b1_s, b2_s, bxl, bxr, bn_s, bm_s, hy]
      · exact ⟨0, _, by simp only [f_X10_link, gO_136, gd_tt, bm_s, hL0 (kc_136 k1 0) ((s137 _ _).trans e), hm1 (kc_136 k1 0) ((s137 _ _).trans e), b1_s, i10, if_false, wi4 hy, i00, if_true, m_fail, b2_s], mc_ff M 0 1⟩
  · refine qok1 I (M1 := M) (k := 1) (by decide) (by simp only [f_L_link, f_X9_link, gO_0, gd_tt, kc_0_5 h, gN_121, tn_121, gO_121, b1_s, b2_s, bxl, bxr, bn_s, gA_148_0, bm_s, if_true, if_false, i10, i00, c_linkNo h r3.1.2.1 l24 hx]) (AG.rf M) (fun k1 e => ⟨0, _, ?_, mc_ff M 0 1⟩)
    rw [← rg (by omega)] at hx
    simp only [f_X10_link, gO_136, gd_tt, bm_s, hL0 (kc_136 k1 0) ((s137 _ _).trans e), b1_s, e_isIn, decide_eq_false hx, bI_f, i00, if_true, m_fail, b2_s]
theorem q_suit (I : INV M) (x y : Int32) : QOK (f_L_suit st_S M 0 x y 148) (fun M1 => f_X10_suit st_S M1 136 x y) := by
  obtain ⟨P, L, N, A, T, U, hh, h, w, pp, r3, c, -⟩ := id I
  have n10 := w.n
  by_cases hx : ∃ p, p < N ∧ x = nI p
  · obtain ⟨s, hs, rfl⟩ := hx
    obtain ⟨hg, e0, eq⟩ := c.at' h w.n hs
    by_cases hy : y = 0 ∨ y = 1 ∨ y = 2 ∨ y = 3 ∨ y = 4 ∨ y = 5 ∨ y = 6 ∨ y = 7 ∨ y = 8 ∨ y = 9 ∨ y = 10 ∨ y = 11 ∨ y = 12 ∨ y = 13 ∨ y = 14
    · have hbo := c.bo w s hs
      have hwn := e_c_winner hg hbo.1
      have hnc := e_c_nec hg hbo.1 (M 7 2)
      have hst := (c.2 s hs).2.2
      have hq : ∀ j, cq M (32 + s) j = sq (M 137) s j := fun j => congrFun eq j
      rw [eq] at hwn hnc
      rw [c.1.2.2.2] at hnc
      have q0 := hq 0
      have q1 := hq 1
      have q2 := hq 2
      have q3 := hq 3
      have q4 := hq 4
      have q5 := hq 5
      have q6 := hq 6
      have q7 := hq 7
      have q8 := hq 8
      have q9 := hq 9
      have q10 := hq 10
      have q11 := hq 11
      simp only [cq0, cq1, cq2, cq3, cq4, cq5, cq6, cq7, cq8, cq9, cq10, cq11] at q0 q1 q2 q3 q4 q5 q6 q7 q8 q9 q10 q11
      refine qok0 I (M1 := fw_set M 148 0 (if y = 12 then q_wn (sq (M 137) s) else if y = 13 then q_nc (M 137 5) (sq (M 137) s) else if y = 14 then q_st (M 137 5) (sq (M 137) s) else sq (M 137) s y.toNatClampNeg)) ?_ ((AG.rf M).st 148 0 _ rfl) (set_eq _ _ _ _) (fun k1 e => ?_)
      · simp only [f_L_suit, f_X9_suit, gO_0, gd_tt, kc_0_5 h, gN_121, tn_121, gO_121, b1_s, b2_s, bxl, bxr, bn_s, gA_148_0, bm_s, if_true, if_false, i10, i00, c_suitAt h c.1.1 w.n hs, hg, kc_0_1 h, gN_3, tn_3, gO_3, kc_3_3 h, gN_7, tn_7, gA_7_2, c.1.2.2.2, hwn, hnc, hst.1, hst.2, sy_sn]
        rcases hy with rfl | rfl | rfl | rfl | rfl | rfl | rfl | rfl | rfl | rfl | rfl | rfl | rfl | rfl | rfl
        · simp [b1_s, b2_s, bxl, bxr, bn_s, bm_s, q0]
        · simp [b1_s, b2_s, bxl, bxr, bn_s, bm_s, q1]
        · simp [b1_s, b2_s, bxl, bxr, bn_s, bm_s, q2]
        · simp [b1_s, b2_s, bxl, bxr, bn_s, bm_s, q3]
        · simp [b1_s, b2_s, bxl, bxr, bn_s, bm_s, q4]
        · simp [b1_s, b2_s, bxl, bxr, bn_s, bm_s, q5]
        · simp [b1_s, b2_s, bxl, bxr, bn_s, bm_s, q6]
        · rcases hbo.1 with e | e <;> simp [b1_s, b2_s, bxl, bxr, bn_s, bm_s, ← q7, e]
        · rcases hbo.2 with e | e <;> simp [b1_s, b2_s, bxl, bxr, bn_s, bm_s, ← q8, e]
        · simp [b1_s, b2_s, bxl, bxr, bn_s, bm_s, q9]
        · simp [b1_s, b2_s, bxl, bxr, bn_s, bm_s, q10]
        · simp [b1_s, b2_s, bxl, bxr, bn_s, bm_s, q11]
        · simp [b1_s, b2_s, bxl, bxr, bn_s, bm_s]
        · simp [b1_s, b2_s, bxl, bxr, bn_s, bm_s]
        · simp [b1_s, b2_s, bxl, bxr, bn_s, bm_s]
      · have k2 := kc_136 k1 0
        generalize fw_set M 148 0 (if y = 12 then q_wn (sq (M 137) s) else if y = 13 then q_nc (M 137 5) (sq (M 137) s) else if y = 14 then q_st (M 137 5) (sq (M 137) s) else sq (M 137) s y.toNatClampNeg) = B at k1 e k2 ⊢
        have e2 := (s137 B 0).trans e
        have a1 := e_winsOf k2 (s := s) (by omega)
        have a2 := e_necessaryOf k2 (s := s) (by omega)
        have a3 := e_settledOf k2 (s := s) (by omega)
        rw [e2] at a1 a2 a3
        have a4 : ∀ j, j < 12 → ∀ z, z = nI j → f_X10_of st_S (fw_set B 136 6 0) 136 (nI s) z = some (sq (M 137) s z.toNatClampNeg) := fun j hj z hz => by
          rw [e_of k2 (s := s) (by omega) hj hz, e2, hz, nI_cl (by omega)]
        refine ⟨_, ?_, mf_set _ 0⟩
        have hin : f_X10_isIn st_S (fw_set B 136 6 0) y 0 14 = some 1 := by
          rw [e_isIn]
          rcases hy with rfl | rfl | rfl | rfl | rfl | rfl | rfl | rfl | rfl | rfl | rfl | rfl | rfl | rfl | rfl <;> rfl
        simp only [f_X10_suit, gO_136, gd_tt, bm_s, ms_ok k2 e2 w hs, b1_s, i10, if_false, hin, a1, a2, a3]
        rcases hy with rfl | rfl | rfl | rfl | rfl | rfl | rfl | rfl | rfl | rfl | rfl | rfl | rfl | rfl | rfl
        · rw [a4 0 (by omega) 0 rfl]; rfl
        · rw [a4 1 (by omega) 1 rfl]; rfl
        · rw [a4 2 (by omega) 2 rfl]; rfl
        · rw [a4 3 (by omega) 3 rfl]; rfl
        · rw [a4 4 (by omega) 4 rfl]; rfl
        · rw [a4 5 (by omega) 5 rfl]; rfl
        · rw [a4 6 (by omega) 6 rfl]; rfl
        · rw [a4 7 (by omega) 7 rfl]; rfl
        · rw [a4 8 (by omega) 8 rfl]; rfl
        · rw [a4 9 (by omega) 9 rfl]; rfl
        · rw [a4 10 (by omega) 10 rfl]; rfl
        · rw [a4 11 (by omega) 11 rfl]; rfl
        · simp [b1_s, b2_s, bxl, bxr, bn_s, bm_s]
        · simp [b1_s, b2_s, bxl, bxr, bn_s, bm_s]
        · simp [b1_s, b2_s, bxl, bxr, bn_s, bm_s]
    · refine qok1 I (M1 := M) (k := 1) (by decide) ?_ (AG.rf M) (fun k1 e => ?_)
      · simp only [f_L_suit, f_X9_suit, gO_0, gd_tt, kc_0_5 h, gN_121, tn_121, gO_121, b1_s, b2_s, bxl, bxr, bn_s, gA_148_0, bm_s, if_true, if_false, i10, i00, c_suitAt h c.1.1 w.n hs]
        simp only [not_or] at hy
        simp [b1_s, b2_s, bxl, bxr, bn_s, bm_s, hy]
      · exact ⟨0, _, by simp only [f_X10_suit, gO_136, gd_tt, bm_s, ms_ok (kc_136 k1 0) ((s137 _ _).trans e) w hs, b1_s, i10, if_false, wi14 hy, i00, if_true, m_fail, b2_s], mc_ff M 0 1⟩
  · exact qok1 I (M1 := M) (k := 1) (by decide) (by simp only [f_L_suit, f_X9_suit, gO_0, gd_tt, kc_0_5 h, gN_121, tn_121, gO_121, b1_s, b2_s, bxl, bxr, bn_s, gA_148_0, bm_s, if_true, if_false, i10, i00, c_suitNo h c.1.1 w.n hx]) (AG.rf M) (fun k1 e => ⟨0, _, by simp only [f_X10_suit, gO_136, gd_tt, bm_s, ms_no (kc_136 k1 0) ((s137 _ _).trans e) w hx, b1_s, i00, if_true, m_fail, b2_s], mc_ff M 0 1⟩)
end Q3
