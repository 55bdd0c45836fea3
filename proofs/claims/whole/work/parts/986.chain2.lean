section QG
variable {M : fw_Mem}
theorem hv_tt {x : Int32} {i : Nat} (hi : i < 12) : (((x >>> (nI i &&& 31)) &&& 1) = 0) = (bt x i = false) := by rw [and1z, hv_lo, hv_bt (by omega)]
theorem bd_j {r : Nat → Int32} {L s sd p : Nat} (hsd : sd < 2) (hj : q_jd (sq r s) = true) (ep : sq r s sd = nI p) : BDr r L (2 * s + sd) = itp (lq r) (sq r s 6) L 12 (bit p) := by
  unfold BDr
  rw [show (2 * s + sd) / 2 = s by omega, show (2 * s + sd) % 2 = sd by omega, if_pos hj, ep]
  rfl
theorem q_chain (I : INV M) (x y z u : Int32) : QOK (f_L_chain st_S M 0 x y z u 148) (fun M1 => f_X10_chain st_S M1 136 x y z u) := by
  obtain ⟨P, L, N, A, T, U, hh, h, w, pp, r3, c, -⟩ := id I
  have n10 := w.n
  have p12 := w.1.1
  by_cases hx : (∃ s, s < N ∧ x = nI s) ∧ (∃ p, p < P ∧ z = nI p) ∧ (y = 0 ∨ y = 1)
  · obtain ⟨⟨s, hs, rfl⟩, ⟨t, ht, rfl⟩, hy⟩ := hx
    obtain ⟨hg, e0, eq⟩ := c.at' h w.n hs
    have hy' : ∃ sd, sd < 2 ∧ y = nI sd ∧ f_X6_boundOn st_S M (32 + s) y = some (BDr (M 137) L (2 * s + sd)) ∧ f_X9_needSide st_S M 0 y = some (.inl ()) := by
      rcases hy with rfl | rfl
      · exact ⟨0, by omega, rfl, by simp [f_X6_boundOn, hg, gd_tt, (c.2 s hs).2.1.1], by simp [f_X9_needSide]⟩
      · exact ⟨1, by omega, rfl, by simp [f_X6_boundOn, hg, gd_tt, (c.2 s hs).2.1.2], by simp [f_X9_needSide]⟩
    obtain ⟨sd, hsd, rfl, hbo, hsi⟩ := hy'
    have hin : ∀ B, f_X10_isIn st_S B (nI sd) 0 1 = some 1 := fun B => by
      rw [e_isIn]
      rcases (by omega : sd = 0 ∨ sd = 1) with rfl | rfl <;> rfl
    have hp : ∃ p, p < P ∧ sq (M 137) s sd = nI p := by
      rcases (by omega : sd = 0 ∨ sd = 1) with rfl | rfl
      · obtain ⟨p, h1, h2⟩ := (w.q hs).1; exact ⟨p, h1, h2⟩
      · obtain ⟨p, h1, h2⟩ := (w.q hs).2.1; exact ⟨p, h1, h2⟩
    obtain ⟨p, hp, ep⟩ := hp
    have c0 := c_suitAt h c.1.1 w.n hs
    have cp := c_person h r3.1.1 p12 ht
    -- the class where it answers that nobody is bound
    have hno : bt (BDr (M 137) L (2 * s + sd)) t = false → f_L_chain st_S M 0 (nI s) (nI sd) (nI t) u 148 = some (0, fw_set M 148 0 (-1)) := fun hb => by
      simp only [f_L_chain, f_X9_chain, gO_0, gd_tt, kc_0_5 h, gN_121, tn_121, gO_121, b1_s, b2_s, bxl, bxr, bn_s, gA_148_0, bm_s, if_true, if_false, i10, i00, c0, cp, hsi, hg, hbo, hv_tt (show t < 12 by omega), if_pos hb]
    cases hj : q_jd (sq (M 137) s)
    · refine qok0 I (hno (by rw [bd_nj hsd hj]; exact b_0 t)) ((AG.rf M).st 148 0 _ rfl) (set_eq _ _ _ _) (fun k1 e => ?_)
      generalize fw_set M 148 0 (-1) = B at k1 e ⊢
      have k2 := kc_136 k1 0
      have e2 := (s137 B 0).trans e
      have hjj := e_isJudged k2 (s := s) (by omega)
      rw [e2, hj] at hjj
      refine ⟨_, ?_, mf_set B 0⟩
      simp only [f_X10_chain, gO_136, gd_tt, bm_s, ms_ok k2 e2 w hs, mp_ok k2 e2 w ht, b1_s, i10, if_false, hin, hjj, bI_f, if_true]
    · -- the model, from any memory with this row
      have mod : ∀ B, KC B → B 137 = M 137 → ∃ M13, MC B M13 0 ∧ KC M13 ∧ M13 137 = M 137 ∧ (∀ y, y < P → AW (gg (M 137)) (tt (M 137)) (bb (M 137) (sq (M 137) s 6)) L t P (M13 142) y) ∧ f_X10_chain st_S B 136 (nI s) (nI sd) (nI t) u = (if M13 142 p = (-1) then (some (M13 142 p, M13)) else (if u = (-1) then (some (M13 142 p, M13)) else (b1 (f_X10_isIn st_S M13 u 0 (M13 142 p - 1)) (fun v20 => if v20 = 0 then (b2 (f_X10_fail st_S M13 136 1) (fun v28 M28 => some (v28, M28))) else (b1 (lf_X10_chain_108 st_S M13 136 (nI s) u 20000 (nI p) 0) (fun l26 => b1 (f_X10_nearer st_S M13 136 (nI s) l26) (fun v27 => some (v27, M13)))))))) := fun B k1 e => by
        have k2 := kc_136 k1 0
        have e2 := (s137 B 0).trans e
        have w2 : WF (fw_set B 136 6 0 137) P L N := by rw [e2]; exact w
        have hjj := e_isJudged k2 (s := s) (by omega)
        rw [e2, hj] at hjj
        obtain ⟨M13, a1, a2, a3⟩ := e_layAway k2 w2 (show s ≤ 10 by omega) ht
        have k13 := kc_ne k2 142 kcn_142 a2
        have e13 : M13 137 = M 137 := by rw [a2 137 (by decide), e2]
        have ho := e_of k13 (show s ≤ 10 by omega) (show sd < 12 by omega) (show (0 : Int32) + nI sd = nI sd by rw [show (0 : Int32) = nI 0 from rfl, nI_add, Nat.zero_add])
        rw [e13, ep] at ho
        refine ⟨M13, ⟨⟨fun b b1 b2 => by rw [a2 b (by omega), set_nr _ _ _ b1], fun j hj => by rw [a2 136 (by decide), set_nk _ _ _ _ hj]⟩, by rw [a2 136 (by decide), set_eq]⟩, k13, e13, by rw [e2] at a3; exact a3, ?_⟩
        simp only [f_X10_chain, gO_136, gd_tt, bm_s, ms_ok k2 e2 w hs, mp_ok k2 e2 w ht, b1_s, i10, if_false, hin, hjj, bI_t, a1, ho, kc_136_8 k13, gN_142, tn_142, gA_142 (show p < 12 by omega), nI_cl (show p < 2147483648 by omega)]
      cases hb : bt (BDr (M 137) L (2 * s + sd)) t
      · refine qok0 I (hno hb) ((AG.rf M).st 148 0 _ rfl) (set_eq _ _ _ _) (fun k1 e => ?_)
        obtain ⟨M13, a1, a2, a3, a4, a5⟩ := mod _ k1 e
        have e142 : M13 142 p = -1 := by
          rcases a4 p hp with y1 | ⟨k, y1, y2, y3, y4⟩
          · exact y1.1
          · have h1 : bt (bit p) p = true := by rw [bt_bit (by omega)]; simp
            have h2 := itp_hit w (X := bit p) k 0 p y3 h1
            have h3 := itp_up (12 - (0 + k)) (0 + k) h2
            rw [show 0 + k + (12 - (0 + k)) = 12 by omega, ← bd_j hsd hj ep, hb] at h3
            cases h3
        refine ⟨M13, ?_, a1⟩
        rw [a5, e142, if_pos rfl]
      · have hr : ∃ e, rc (M 137) (sq (M 137) s 6) L t e p := by
          rw [bd_j hsd hj ep] at hb
          exact itp_snd w (by omega) 12 t (by omega) hb
        obtain ⟨q, v, par, cc, j, n, M9, d1, d2, TR, ej, hjc, hnj, h0, hn, d3⟩ := e_trace h pp.1 w r3 hs hsd hp ep ht hr
        have hcc := TR.le
        have k9 := d2.kc h
        have aw : ∀ {M13 : fw_Mem}, (∀ y, y < P → AW (gg (M 137)) (tt (M 137)) (bb (M 137) (sq (M 137) s 6)) L t P (M13 142) y) → M13 142 p = nI n := fun {M13} a4 => by
          have := TR.aw hjc h0 hn hnj (A := M13 142) (by rw [ej]; exact a4) (r := n) (Nat.le_refl n)
          rw [h0, TR.1.2.1] at this
          exact this
        have nm1 : ¬ nI n = (-1 : Int32) := by rw [nI_m1 (by omega)]; exact id
        have hclass : ∀ (o : Option (Int32 × fw_Mem)), o = f_L_chain st_S M 0 (nI s) (nI sd) (nI t) u 148 → o = if u = (-1) then some (0, fw_set M9 148 0 (nI n)) else (if u < 0 then some (1, M9) else (if u < nI n then b1 (f_X2_chainLink st_S M9 121 (nI n) u) (fun v15 => some (0, fw_set M9 148 0 v15)) else some (1, M9))) := fun o ho => by
          rw [ho]
          simp only [f_L_chain, f_X9_chain, gO_0, gd_tt, kc_0_5 h, gN_121, tn_121, gO_121, b1_s, b2_s, bxl, bxr, bn_s, gA_148_0, bm_s, if_true, if_false, i10, i00, c0, cp, hsi, hg, hbo, hv_tt (show t < 12 by omega), hb, d1, kc_0_5 k9, gN_121, tn_121, gO_121, Bool.true_eq_false]
          by_cases u1 : u = -1
          · simp only [if_pos u1, b2_s, bxl, gA_148_0, gd_tt, bm_s]
          · by_cases u2 : u < 0
            · simp only [if_neg u1, if_pos u2, b2_s, bxr, if_true]
            · by_cases u3 : u < nI n
              · simp only [if_neg u1, if_neg u2, if_pos u3]
                cases hq : f_X2_chainLink st_S M9 121 (nI n) u with
                | none => rfl
                | some v15 => simp only [b1_s, b2_s, bxl, gA_148_0, gd_tt, bm_s]
              · simp only [if_neg u1, if_neg u2, if_neg u3, b2_s, bxr, if_true]
        have hclass := hclass _ rfl
        by_cases u1 : u = -1
        · rw [if_pos u1] at hclass
          refine qok0 I hclass (d2.ag.st 148 0 _ rfl) (set_eq _ _ _ _) (fun k1 e => ?_)
          obtain ⟨M13, a1, a2, a3, a4, a5⟩ := mod _ k1 e
          refine ⟨M13, ?_, a1⟩
          rw [a5, aw a4, if_neg nm1, if_pos u1]
        · rw [if_neg u1] at hclass
          by_cases u2 : ∃ k, k < n ∧ u = nI k
          · obtain ⟨k, hk, rfl⟩ := u2
            have hlink : f_X2_chainLink st_S M9 121 (nI n) (nI k) = some (nI (v (ac par (n - 1 - k) j))) := by
              have e1 : nI n - 1 - nI k = nI (n - 1 - k) := by
                rw [show (1 : Int32) = nI 1 from rfl, nI_sub (show 1 ≤ n by omega), nI_sub (show k ≤ n - 1 by omega)]
              simp only [f_X2_chainLink, e1, if_neg (nI_pos (show n - 1 - k < 2 ^ 31 by omega)), if_neg (show ¬ (12 : Int32) ≤ nI (n - 1 - k) from nI_ge (b := 12) (by omega) (by omega)), gO_121, gd_tt, kc_121_5 k9, gN_126, tn_126, gA_126 (show n - 1 - k < 12 by omega), nI_cl (show n - 1 - k < 2147483648 by omega), d3 (n - 1 - k) (by omega)]
            rw [if_neg (nI_pos (show k < 2 ^ 31 by omega)), if_pos (nI_lt hk (by omega)), hlink, b1_s] at hclass
            refine qok0 I hclass (d2.ag.st 148 0 _ rfl) (set_eq _ _ _ _) (fun k1 e => ?_)
            obtain ⟨M13, a1, a2, a3, a4, a5⟩ := mod _ k1 e
            refine ⟨M13, ?_, a1⟩
            have win : f_X10_isIn st_S M13 (nI k) 0 (nI n - 1) = some 1 := by
              rw [e_isIn, decide_eq_true ((rg (by omega)).mpr ⟨k, hk, rfl⟩ : ¬ nI k < 0 ∧ ¬ nI n - 1 < nI k)]; rfl
            obtain ⟨yy, w1, w2⟩ := m_walk a2 (by rw [a3]; exact w) (show s ≤ 10 by omega) (by rw [a3]; exact TR) hjc hnj h0 hn (by rw [a3, ej]; exact a4) hk
            rw [a5, aw a4, if_neg nm1, if_neg u1, win, b1_s, if_neg (by decide), w1, b1_s, w2, b1_s]
          · have hcl : f_L_chain st_S M 0 (nI s) (nI sd) (nI t) u 148 = some (1, M9) := by
              rw [hclass]
              by_cases u3 : u < 0
              · rw [if_pos u3]
              · rw [if_neg u3, if_neg fun u4 => u2 ((rgc (by omega)).mp ⟨u3, u4⟩)]
            refine qok1 I (by decide) hcl d2.ag (fun k1 e => ?_)
            obtain ⟨M13, a1, a2, a3, a4, a5⟩ := mod _ k1 e
            have win : f_X10_isIn st_S M13 u 0 (nI n - 1) = some 0 := by
              rw [e_isIn, decide_eq_false fun hq => u2 ((rg (by omega)).mp hq)]; rfl
            refine ⟨0, fw_set M13 136 6 1, ?_, ⟨a1.1.tr (mf_set M13 1).1, set_eq _ _ _ _⟩⟩
            rw [a5, aw a4, if_neg nm1, if_neg u1, win, b1_s, if_pos rfl, m_fail, b2_s]
  · have hc : f_L_chain st_S M 0 x y z u 148 = some (1, M) := by
      by_cases hs : ∃ s, s < N ∧ x = nI s
      · obtain ⟨s, hs, rfl⟩ := hs
        by_cases hp : ∃ p, p < P ∧ z = nI p
        · have hy : ¬ (y = 0 ∨ y = 1) := fun q => hx ⟨⟨s, hs, rfl⟩, hp, q⟩
          obtain ⟨p, hp, rfl⟩ := hp
          have hsi : f_X9_needSide st_S M 0 y = some (.inr exN) := wc1 hy _ _
          simp only [f_L_chain, f_X9_chain, gO_0, gd_tt, kc_0_5 h, gN_121, tn_121, gO_121, b1_s, b2_s, bxl, bxr, bn_s, gA_148_0, bm_s, if_true, if_false, i10, i00, c_suitAt h c.1.1 w.n hs, c_person h r3.1.1 p12 hp, hsi]
        · simp only [f_L_chain, f_X9_chain, gO_0, gd_tt, kc_0_5 h, gN_121, tn_121, gO_121, b1_s, b2_s, bxl, bxr, bn_s, gA_148_0, bm_s, if_true, if_false, i10, i00, c_suitAt h c.1.1 w.n hs, c_personNo h r3.1.1 p12 hp]
      · simp only [f_L_chain, f_X9_chain, gO_0, gd_tt, kc_0_5 h, gN_121, tn_121, gO_121, b1_s, b2_s, bxl, bxr, bn_s, gA_148_0, bm_s, if_true, if_false, i10, i00, c_suitNo h c.1.1 w.n hs]
    refine qok1 I (by decide) hc (AG.rf M) (fun k1 e => ⟨0, fw_set (fw_set M 136 6 0) 136 6 1, ?_, ⟨⟨fun b b1 _ => by rw [set_nr _ _ _ b1, set_nr _ _ _ b1], fun j hj => by rw [set_nk _ _ _ _ hj, set_nk _ _ _ _ hj]⟩, set_eq _ _ _ _⟩⟩)
    have k2 := kc_136 k1 0
    have e2 := (s137 M 0).trans e
    by_cases hs : ∃ s, s < N ∧ x = nI s
    · obtain ⟨s, hs, rfl⟩ := hs
      by_cases hy : y = 0 ∨ y = 1
      · have hp : ¬ ∃ p, p < P ∧ z = nI p := fun q => hx ⟨⟨s, hs, rfl⟩, q, hy⟩
        have hin : ∀ B, f_X10_isIn st_S B y 0 1 = some 1 := fun B => by
          rw [e_isIn]
          rcases hy with rfl | rfl <;> rfl
        simp only [f_X10_chain, gO_136, gd_tt, bm_s, ms_ok k2 e2 w hs, mp_no k2 e2 w hp, b1_s, hin, i10, if_false, if_true, m_fail, b2_s]
      · simp only [f_X10_chain, gO_136, gd_tt, bm_s, ms_ok k2 e2 w hs, b1_s, wi1 hy, i10, if_false, if_true, m_fail, b2_s]
    · simp only [f_X10_chain, gO_136, gd_tt, bm_s, ms_no k2 e2 w hs, b1_s, if_true, m_fail, b2_s]
end QG
