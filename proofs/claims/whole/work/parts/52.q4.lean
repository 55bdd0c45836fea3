/-! ===== isBound, fault, said, held, latest, against ===== -/
theorem hv_0 (x : Int32) : hv 0 x = false := by
  unfold hv
  simp
theorem bI_add (n : Nat) (b : Bool) : nI n + bI b = nI (n + if b then 1 else 0) := by
  cases b
  · simp [bI]
  · simp only [bI_t, nI_1, if_true]
section Q4
variable {M : fw_Mem}
theorem m_boundBy {B : fw_Mem} {r : Nat → Int32} {P L N s sd : Nat} (h : KC B) (e : B 137 = r) (w : WF r P L N) (hs : s < N) (hsd : sd < 2) (hj : q_jd (sq r s) = true) : f_X10_boundBy st_S B 136 (nI s) (nI sd) = some (BDr r L (2 * s + sd)) := by
  have n10 := w.n
  have hq := w.q hs
  have hp : ∃ p, p < 12 ∧ sq r s sd = nI p := by
    have p12 := w.1.1
    match sd, hsd with
    | 0, _ => obtain ⟨p, h1, h2⟩ := hq.1; exact ⟨p, by omega, h2⟩
    | 1, _ => obtain ⟨p, h1, h2⟩ := hq.2.1; exact ⟨p, by omega, h2⟩
  obtain ⟨p, hp, ep⟩ := hp
  subst e
  rw [e_boundBy h w.2.1.2.1 w.1.2.1 (fun l hl => by
    obtain ⟨-, ⟨p, hp, e⟩, -⟩ := w.2.2.2.2.1 l hl
    exact ⟨p, by have := w.1.1; omega, e⟩) (by omega) hsd hp ep]
  unfold BDr
  rw [show (2 * s + sd) / 2 = s by omega, show (2 * s + sd) % 2 = sd by omega, if_pos hj, ep]
  rfl
theorem bd_nj {r : Nat → Int32} {L s sd : Nat} (hsd : sd < 2) (hj : q_jd (sq r s) = false) : BDr r L (2 * s + sd) = 0 := by
  unfold BDr
  rw [show (2 * s + sd) / 2 = s by omega, hj]
  rfl
theorem q_isBound (I : INV M) (x y z : Int32) : QOB (f_L_isBound st_S M 0 x y z 148) (fun M1 => f_X10_isBound st_S M1 136 x y z) := by
  obtain ⟨P, L, N, A, T, U, hh, h, w, pp, r3, c, -⟩ := id I
  have n10 := w.n
  have p12 := w.1.1
  by_cases hx : (∃ s, s < N ∧ x = nI s) ∧ (∃ p, p < P ∧ z = nI p) ∧ (y = 0 ∨ y = 1)
  · obtain ⟨⟨s, hs, rfl⟩, ⟨p, hp, rfl⟩, hy⟩ := hx
    obtain ⟨hg, e0, eq⟩ := c.at' h w.n hs
    have hy' : ∃ sd, sd < 2 ∧ y = nI sd ∧ f_X6_boundOn st_S M (32 + s) y = some (BDr (M 137) L (2 * s + sd)) ∧ f_X9_needSide st_S M 0 y = some (.inl ()) := by
      rcases hy with rfl | rfl
      · exact ⟨0, by omega, rfl, by simp [f_X6_boundOn, hg, gd_tt, (c.2 s hs).2.1.1], by simp [f_X9_needSide]⟩
      · exact ⟨1, by omega, rfl, by simp [f_X6_boundOn, hg, gd_tt, (c.2 s hs).2.1.2], by simp [f_X9_needSide]⟩
    obtain ⟨sd, hsd, ey, hbo, hsi⟩ := hy'
    refine qob0 I (u := hv (BDr (M 137) L (2 * s + sd)) (nI p)) (M1 := fw_set M 148 0 (bI (hv (BDr (M 137) L (2 * s + sd)) (nI p)))) ?_ ((AG.rf M).st 148 0 _ rfl) (set_eq _ _ _ _) (fun k1 e => ?_)
    · simp only [f_L_isBound, f_X9_isBound, gO_0, gd_tt, kc_0_5 h, gN_121, tn_121, gO_121, b1_s, b2_s, bxl, bxr, bn_s, gA_148_0, bm_s, if_true, if_false, i10, i00, c_suitAt h c.1.1 w.n hs, c_person h r3.1.1 p12 hp, hsi, hg, hbo, and1, hv_lo]
      cases hv (BDr (M 137) L (2 * s + sd)) (nI p) <;> simp [b1_s, b2_s, bxl, bxr, bn_s, bm_s, bI]
    · generalize fw_set M 148 0 (bI (hv (BDr (M 137) L (2 * s + sd)) (nI p))) = B at k1 e ⊢
      have k2 := kc_136 k1 0
      have e2 := (s137 B 0).trans e
      have hj := e_isJudged k2 (s := s) (by omega)
      rw [e2] at hj
      refine ⟨_, ?_, mf_set B 0⟩
      have hin : f_X10_isIn st_S B y 0 1 = some 1 := by
        rw [e_isIn]
        rcases hy with rfl | rfl <;> rfl
      simp only [f_X10_isBound, fj_X10_isBound_31, gO_136, gd_tt, bm_s, ms_ok k1 e w hs, mp_ok k1 e w hp, b1_s, i10, if_false, hin, set_eq, if_true, hj, bI_0]
      cases hq : q_jd (sq (M 137) s)
      · rw [bd_nj hsd hq, hv_0]
        simp [bI]
      · simp only [Bool.true_eq_false, if_false, ey, m_boundBy k2 e2 w hs hsd hq, b1_s, e_has, bI_0]
        cases hv (BDr (M 137) L (2 * s + sd)) (nI p) <;> simp [bI]
  · have hc : f_L_isBound st_S M 0 x y z 148 = some (1, M) := by
      by_cases hs : ∃ s, s < N ∧ x = nI s
      · obtain ⟨s, hs, rfl⟩ := hs
        by_cases hp : ∃ p, p < P ∧ z = nI p
        · have hy : ¬ (y = 0 ∨ y = 1) := fun q => hx ⟨⟨s, hs, rfl⟩, hp, q⟩
          obtain ⟨p, hp, rfl⟩ := hp
          have hsi : f_X9_needSide st_S M 0 y = some (.inr exN) := wc1 hy _ _
          simp only [f_L_isBound, f_X9_isBound, gO_0, gd_tt, kc_0_5 h, gN_121, tn_121, gO_121, b1_s, b2_s, bxl, bxr, bn_s, gA_148_0, bm_s, if_true, if_false, i10, i00, c_suitAt h c.1.1 w.n hs, c_person h r3.1.1 p12 hp, hsi]
        · simp only [f_L_isBound, f_X9_isBound, gO_0, gd_tt, kc_0_5 h, gN_121, tn_121, gO_121, b1_s, b2_s, bxl, bxr, bn_s, gA_148_0, bm_s, if_true, if_false, i10, i00, c_suitAt h c.1.1 w.n hs, c_personNo h r3.1.1 p12 hp]
      · simp only [f_L_isBound, f_X9_isBound, gO_0, gd_tt, kc_0_5 h, gN_121, tn_121, gO_121, b1_s, b2_s, bxl, bxr, bn_s, gA_148_0, bm_s, if_true, if_false, i10, i00, c_suitNo h c.1.1 w.n hs]
    refine qob1 (v := 1) (by decide) hc (qok1 I (by decide) hc (AG.rf M) (fun k1 e => ⟨0, fw_set M 136 6 1, ?_, mf_set M 1⟩))
    by_cases hs : ∃ s, s < N ∧ x = nI s
    · obtain ⟨s, hs, rfl⟩ := hs
      by_cases hy : y = 0 ∨ y = 1
      · have hp : ¬ ∃ p, p < P ∧ z = nI p := fun q => hx ⟨⟨s, hs, rfl⟩, q, hy⟩
        have hin : f_X10_isIn st_S M y 0 1 = some 1 := by
          rw [e_isIn]
          rcases hy with rfl | rfl <;> rfl
        simp [f_X10_isBound, fj_X10_isBound_31, gO_136, gd_tt, bm_s, ms_ok k1 e w hs, mp_no k1 e w hp, b1_s, hin, set_eq]
      · simp [f_X10_isBound, fj_X10_isBound_31, gO_136, gd_tt, bm_s, ms_ok k1 e w hs, b1_s, wi1 hy, set_eq]
    · simp [f_X10_isBound, fj_X10_isBound_31, gO_136, gd_tt, bm_s, ms_no k1 e w hs, b1_s, set_eq]
theorem q_fault (I : INV M) : ∃ v M2, f_X9_fault st_S M 0 = some v ∧ f_X10_fault st_S M 136 = some (v, M2) ∧ INV M2 := by
  obtain ⟨P, L, N, A, T, U, hh, h, w, pp, r3, c, im, ac, tp, sp⟩ := id I
  refine ⟨M 1 8, _, ?_, ?_, (mf_set M 0).1.ag.inv I⟩
  · simp only [f_X9_fault, gO_0, gd_tt, kc_0_0 h, gN_1, tn_1, gO_1]
  · simp only [f_X10_fault, gO_136, gd_tt, bm_s, set_nk _ _ _ _ (show (23 : Nat) ≠ 6 by decide), tp.2.2.2.2]
theorem q_said (I : INV M) (x : Int32) : ∃ v M2, f_X9_said st_S M 0 x = some v ∧ f_X10_said st_S M 136 x = some (v, M2) ∧ INV M2 := by
  obtain ⟨P, L, N, A, T, U, hh, h, w, pp, r3, c, im, ac, tp, sp⟩ := id I
  obtain ⟨s1, s2, s3, s4⟩ := sp
  have k2 := kc_136 h 0
  by_cases hx : ∃ k, k < U ∧ x = nI k
  · obtain ⟨k, hk, rfl⟩ := hx
    refine ⟨M 134 k, _, ?_, ?_, (mf_set M 0).1.ag.inv I⟩
    · simp only [f_X9_said, if_neg (nI_pos (show k < 2 ^ 31 by omega)), gO_0, gd_tt, kc_0_8 h, gN_133, tn_133, gO_133, s1, if_pos (nI_lt hk (show U < 2 ^ 31 by omega)), kc_133_0 h, gN_134, tn_134, gA_134 (show k < 256 by omega), nI_cl (show k < 2147483648 by omega)]
    · simp only [f_X10_said, gO_136, gd_tt, bm_s, set_nk _ _ _ _ (show (13 : Nat) ≠ 6 by decide), s2, e_isIn, decide_eq_true ((rg (by omega)).mpr ⟨k, hk, rfl⟩ : ¬ nI k < 0 ∧ ¬ nI U - 1 < nI k), bI_t, b1_s, i10, if_false, kc_136_12 k2, gN_146, tn_146, gA_146 (show k < 300 by omega), nI_cl (show k < 2147483648 by omega), set_na _ _ _ _ (show (146 : Nat) ≠ 136 by decide), s4 k hk]
  · refine ⟨-1, _, ?_, ?_, (mf_set M 0).1.ag.inv I⟩
    · have hx2 := (not_congr (rgc (x := x) (N := U) (by omega))).mpr hx
      by_cases hn : x < 0
      · simp only [f_X9_said, if_pos hn]
      · simp only [f_X9_said, if_neg hn, gO_0, gd_tt, kc_0_8 h, gN_133, tn_133, gO_133, s1, if_neg (fun q => hx2 ⟨hn, q⟩ : ¬ x < nI U)]
    · have hx2 := (not_congr (rg (x := x) (N := U) (by omega))).mpr hx
      simp only [f_X10_said, gO_136, gd_tt, bm_s, set_nk _ _ _ _ (show (13 : Nat) ≠ 6 by decide), s2, e_isIn, decide_eq_false hx2, bI_f, b1_s, i00, if_true]
/-! held -/
theorem e_c_hcount {r : Nat → Int32} {P L N a t : Nat} (h : KC M) (w : WF r P L N) (c : CR M r L N) (ha : gO st_S 6 a = true) (hq : QQ (cq M a)) (ht : t < 31) : f_X2_holderCount st_S M 121 a (nI t) = some (nI (fb_ct (fun i => bt (q_is (cq M a)) t && z_hold (r 5) (r 4) (M a 0) (cq M a) (nI i) (sq r i) (BDr r L (2 * i)) (BDr r L (2 * i + 1)) (nI t)) N)) := by
  obtain ⟨⟨p, hp, ep⟩, ⟨p', hp', ep'⟩, -⟩ := id hq
  have n10 := w.n
  obtain ⟨R, h1, h2⟩ := lp_up (fun n x i => lf_X2_holderCount_5 st_S M 121 a (nI t) n x (nI i)) N (fun i x => x = nI (fb_ct (fun i => bt (hbv M a i) t) i)) (fun x => x = nI (fb_ct (fun i => bt (hbv M a i) t) N))
    (by
      rintro n i x hiN rfl
      refine ⟨_, rfl, ?_⟩
      have hi : i < 10 := by omega
      have hn : ¬ nI N ≤ nI i := nI_ge hiN (by omega)
      have hg := gO_s3 i hi
      have hb := e_c_hb h hg ha ((c.bo w i hiN).2) (show p < 32 by omega) (show p' < 32 by omega) ep ep'
      rw [kc_n3 h hi] at hb
      have hb : f_X2_heldBy st_S M 121 (32 + i) a = some (hbv M a i) := hb
      simp only [lf_X2_holderCount_5, gO_121, gd_tt, b1_s, b2_s, bm_s, kc_121_0 h, gN_3, tn_3, gO_3, kc_3_2 h, gN_6, tn_6, gA_6 hi, nI_cl (show i < 2147483648 by omega), kc_s3 h hi, nI_gN (show 32 + i < 2147483648 by omega), nI_cl (show 32 + i < 2147483648 by omega), hg, c.1.1, if_neg hn, hb, and1b, hv_lo, hv_bt (show t < 32 by omega), bI_add, nI_1, fb_ct_succ])
    (by
      rintro n x rfl
      exact ⟨_, by simp only [lf_X2_holderCount_5, gO_121, gd_tt, kc_121_0 h, gN_3, tn_3, gO_3, c.1.1, if_pos (nI_le (Nat.le_refl N) (show N < 2 ^ 31 by omega))], rfl⟩) _ 0 20000 0 rfl (by omega) (by omega) rfl
  have h1' : lf_X2_holderCount_5 st_S M 121 a (nI t) 20000 0 0 = some R := h1
  rw [f_X2_holderCount, h1', b1_s, h2]
  rw [fb_ct_cong fun i hi => c_hb w c hq hi (by omega)]
theorem mb_hcount {B : fw_Mem} {r : Nat → Int32} {P L N s : Nat} (h : KC B) (e : B 137 = r) (w : WF r P L N) (hB : ∀ k, k < 2 * N → B 141 k = BDr r L k) (hs : s < N) (x : Int32) : f_X10_holdersOf st_S B 136 (nI s) x = some (nI (fb_ct (fun i => z_hold (r 5) (r 4) (nI s) (sq r s) (nI i) (sq r i) (BDr r L (2 * i)) (BDr r L (2 * i + 1)) x) N)) := by
  have n10 := w.n
  obtain ⟨R, h1, h2⟩ := lp_up (fun n y i => lf_X10_holdersOf_5 st_S B 136 (nI s) x n y (nI i)) N (fun i y => y = nI (fb_ct (fun i => z_hold (r 5) (r 4) (nI s) (sq r s) (nI i) (sq r i) (BDr r L (2 * i)) (BDr r L (2 * i + 1)) x) i)) (fun y => y = nI (fb_ct (fun i => z_hold (r 5) (r 4) (nI s) (sq r s) (nI i) (sq r i) (BDr r L (2 * i)) (BDr r L (2 * i + 1)) x) N))
    (by
      rintro n i y hiN rfl
      refine ⟨_, rfl, ?_⟩
      have hn : ¬ nI N ≤ nI i := nI_ge hiN (by omega)
      have hh := e_holds h (b := s) (a := i) (by omega) (by omega) x
      rw [e, hB (2 * i) (by omega), hB (2 * i + 1) (by omega)] at hh
      simp only [lf_X10_holdersOf_5, gO_136, gd_tt, b1_s, b2_s, bm_s, kc_136_0 h, gN_137, tn_137, bI_0, bI_1, bI_gB, e_suits h, e, w.2.1.2.2, if_neg hn, hh, nI_1, fb_ct_succ]
      cases z_hold (r 5) (r 4) (nI s) (sq r s) (nI i) (sq r i) (BDr r L (2 * i)) (BDr r L (2 * i + 1)) x
      · simp
      · simp [nI_1])
    (by
      rintro n y rfl
      exact ⟨_, by simp only [lf_X10_holdersOf_5, gO_136, gd_tt, b1_s, b2_s, bm_s, kc_136_0 h, gN_137, tn_137, bI_0, bI_1, bI_gB, e_suits h, e, w.2.1.2.2, if_pos (nI_le (Nat.le_refl N) (show N < 2 ^ 31 by omega))], rfl⟩) _ 0 20000 0 rfl (by omega) (by omega) rfl
  have h1' : lf_X10_holdersOf_5 st_S B 136 (nI s) x 20000 0 0 = some R := h1
  rw [f_X10_holdersOf, h1', b1_s, h2]
theorem q_held (I : INV M) (x y z : Int32) : QOK (f_L_held st_S M 0 x y z 148) (fun M1 => f_X10_held st_S M1 136 x y z) := by
  obtain ⟨P, L, N, A, T, U, hh, h, w, pp, r3, c, -⟩ := id I
  have n10 := w.n
  by_cases hx : ∃ s, s < N ∧ x = nI s
  rotate_left
  · exact qok1 I (M1 := M) (k := 1) (by decide) (by simp only [f_L_held, f_X9_held, gO_0, gd_tt, kc_0_5 h, gN_121, tn_121, gO_121, b1_s, b2_s, bxl, bxr, bn_s, gA_148_0, bm_s, if_true, if_false, i10, i00, c_suitNo h c.1.1 w.n hx]) (AG.rf M) (fun k1 e => ⟨0, _, by simp only [f_X10_held, gO_136, gd_tt, bm_s, ms_no (kc_136 k1 0) ((s137 _ _).trans e) w hx, b1_s, i00, if_true, m_fail, b2_s], mc_ff M 0 1⟩)
  obtain ⟨s, hs, rfl⟩ := hx
  obtain ⟨hg, e0, eq⟩ := c.at' h w.n hs
  by_cases hy : ∃ t, t < 31 ∧ y = nI t
  rotate_left
  · have hc : f_X9_needIssue st_S M 0 (32 + s) y = some (.inr exN) := by
      have hx2 := (not_congr (rgc (x := y) (N := 31) (by omega))).mpr hy
      by_cases hn : y < 0
      · simp only [f_X9_needIssue, if_pos hn]
      · have : (31 : Int32) ≤ y := Int32.not_lt.mp (fun q => hx2 ⟨hn, q⟩)
        simp only [f_X9_needIssue, if_neg hn, if_pos this]
    have hx2 := (not_congr (rg (x := y) (N := 31) (by omega))).mpr hy
    exact qok1 I (M1 := M) (k := 1) (by decide) (by simp only [f_L_held, f_X9_held, gO_0, gd_tt, kc_0_5 h, gN_121, tn_121, gO_121, b1_s, b2_s, bxl, bxr, bn_s, gA_148_0, bm_s, if_true, if_false, i10, i00, c_suitAt h c.1.1 w.n hs, hc]) (AG.rf M) (fun k1 e => ⟨0, _, by simp only [f_X10_held, gO_136, gd_tt, bm_s, ms_ok (kc_136 k1 0) ((s137 _ _).trans e) w hs, b1_s, i10, if_false, e_isIn, show (30 : Int32) = nI 31 - 1 from rfl, decide_eq_false hx2, bI_f, i00, if_true, m_fail, b2_s], mc_ff M 0 1⟩)
  obtain ⟨t, ht, rfl⟩ := hy
  have hin : ∀ B : fw_Mem, f_X10_isIn st_S B (nI t) 0 30 = some 1 := fun B => by
    rw [e_isIn, show (30 : Int32) = nI 31 - 1 from rfl, decide_eq_true ((rg (by omega)).mpr ⟨t, ht, rfl⟩)]; rfl
  have hiss : ∀ {B : fw_Mem}, KC B → B 137 = M 137 → f_X10_issuesOf st_S B 136 (nI s) = some (q_is (sq (M 137) s)) := fun k e => by rw [e_issuesOf k (by omega), e]
  have hni : f_X9_needIssue st_S M 0 (32 + s) (nI t) = if bt (q_is (sq (M 137) s)) t = false then some (.inr exN) else some (.inl ()) := by
    have hn : ¬ (31 : Int32) ≤ nI t := nI_ge (b := 31) ht (by omega)
    simp only [f_X9_needIssue, if_neg (nI_pos (show t < 2 ^ 31 by omega)), if_neg hn, hg, gd_tt, e_c_all hg, eq, b1_s, and1z, hv_lo, hv_bt (show t < 32 by omega)]
  cases hb : bt (q_is (sq (M 137) s)) t
  · rw [hb, if_pos rfl] at hni
    exact qok1 I (M1 := M) (k := 1) (by decide) (by simp only [f_L_held, f_X9_held, gO_0, gd_tt, kc_0_5 h, gN_121, tn_121, gO_121, b1_s, b2_s, bxl, bxr, bn_s, gA_148_0, bm_s, if_true, if_false, i10, i00, c_suitAt h c.1.1 w.n hs, hni]) (AG.rf M) (fun k1 e => ⟨0, _, by simp only [f_X10_held, gO_136, gd_tt, bm_s, ms_ok (kc_136 k1 0) ((s137 _ _).trans e) w hs, b1_s, i10, if_false, hin, hiss (kc_136 k1 0) ((s137 _ _).trans e), e_has, hv_bt (show t < 32 by omega), hb, bI_f, i00, if_true, m_fail, b2_s], mc_ff M 0 1⟩)
  rw [hb, if_neg (by decide)] at hni
  by_cases hz : z = 0 ∨ z = 1 ∨ z = 2
  rotate_left
  · exact qok1 I (M1 := M) (k := 1) (by decide) (by simp only [f_L_held, f_X9_held, gO_0, gd_tt, kc_0_5 h, gN_121, tn_121, gO_121, b1_s, b2_s, bxl, bxr, bn_s, gA_148_0, bm_s, if_true, if_false, i10, i00, c_suitAt h c.1.1 w.n hs, hni, wc2 hz]) (AG.rf M) (fun k1 e => ⟨0, _, by simp only [f_X10_held, gO_136, gd_tt, bm_s, ms_ok (kc_136 k1 0) ((s137 _ _).trans e) w hs, b1_s, i10, if_false, hin, hiss (kc_136 k1 0) ((s137 _ _).trans e), e_has, hv_bt (show t < 32 by omega), hb, bI_t, wi2 hz, i00, if_true, m_fail, b2_s], mc_ff M 0 1⟩)
  have hqq : QQ (cq M (32 + s)) := by rw [eq]; exact (w.q hs).qq w.1.1
  obtain ⟨M', w1, w2, w3, w4, w5⟩ := c_weigh h w c hg (by omega) (by omega) hqq
  have w3t := w3 t ht
  rw [eq, e0, hb, if_pos rfl] at w3t
  rw [eq, e0] at w4
  have hk' := w2.kc h
  have hcnt := e_c_hcount h w c hg hqq ht
  rw [eq, e0, hb] at hcnt
  simp only [Bool.true_and] at hcnt
  have hlt : ∀ k, z_h (M 137) L N (nI s) (sq (M 137) s) t = some k → k < N := fun k hk => z_ho_lt hk
  have hmod : ∀ {B : fw_Mem}, KC B → B 137 = M 137 → ∃ C, f_X10_layBound st_S (fw_set B 136 6 0) 136 = some C ∧ MC B C 0 ∧ f_X10_holderOf st_S C 136 (nI s) (nI t) = some (oI (z_h (M 137) L N (nI s) (sq (M 137) s) t)) ∧ f_X10_holdersOf st_S C 136 (nI s) (nI t) = some (nI (fb_ct (fun i => z_hold (M 137 5) (M 137 4) (nI s) (sq (M 137) s) (nI i) (sq (M 137) i) (BDr (M 137) L (2 * i)) (BDr (M 137) L (2 * i + 1)) (nI t)) N)) ∧ (∀ d, d < N → f_X10_foundYes st_S C 136 (nI d) (nI t) = some (bI (bt (sq (M 137) d 9) t))) := fun k e => by
    obtain ⟨C, h1, h2, h3, h4, h5, h6, h7⟩ := m_lay0 k e w
    refine ⟨C, h1, h2, mb_ho h4 h3 w h5 hs t, mb_hcount h4 h3 w h5 hs (nI t), fun d hd => ?_⟩
    rw [e_foundYes h4 (by omega), h3, hv_bt (by omega)]
  have hgA := gA_122 ht
  rcases hz with rfl | rfl | rfl
  · refine qok0 I (u := oI (z_h (M 137) L N (nI s) (sq (M 137) s) t)) (M1 := fw_set M' 148 0 (oI (z_h (M 137) L N (nI s) (sq (M 137) s) t))) ?_ (w2.ag.st 148 0 _ rfl) (set_eq _ _ _ _) (fun k1 e => ?_)
    · simp [f_L_held, f_X9_held, gO_0, gd_tt, kc_0_5 h, gN_121, tn_121, gO_121, b1_s, b2_s, bxl, bxr, bn_s, gA_148_0, bm_s, if_true, if_false, i10, i00, c_suitAt h c.1.1 w.n hs, hni, w1, kc_0_5 hk', kc_121_1 hk', gN_122, tn_122, hgA, nI_cl (show t < 2147483648 by omega), w3t]
    · obtain ⟨C, c1, c2, c3, c4, c5⟩ := hmod k1 e
      refine ⟨C, ?_, c2⟩
      simp [f_X10_held, gO_136, gd_tt, bm_s, ms_ok (kc_136 k1 0) ((s137 _ _).trans e) w hs, b1_s, hin, hiss (kc_136 k1 0) ((s137 _ _).trans e), e_has, hv_bt (show t < 32 by omega), hb, bI_t, e_isIn, c1, c3]
  · have hyes : bt (z_yes (sq (M 137) s) (z_h (M 137) L N (nI s) (sq (M 137) s)) (z_y (M 137))) t = (match z_h (M 137) L N (nI s) (sq (M 137) s) t with
      | none => false
      | some d => bt (sq (M 137) d 9) t) := by
      rw [z_yes, bt_mk _ 31 (by omega)]
      simp only [ht, decide_true, Bool.true_and, z_yesP, hs_bt (show t < 32 by omega), hb]
      rfl
    cases ho : z_h (M 137) L N (nI s) (sq (M 137) s) t with
    | none =>
      rw [ho] at w3t
      refine qok0 I (u := -1) (M1 := fw_set M' 148 0 (-1)) ?_ (w2.ag.st 148 0 _ rfl) (set_eq _ _ _ _) (fun k1 e => ?_)
      · simp [f_L_held, f_X9_held, gO_0, gd_tt, kc_0_5 h, gN_121, tn_121, gO_121, b1_s, b2_s, bxl, bxr, bn_s, gA_148_0, bm_s, if_true, if_false, i10, i00, c_suitAt h c.1.1 w.n hs, hni, w1, kc_0_5 hk', kc_121_1 hk', gN_122, tn_122, hgA, nI_cl (show t < 2147483648 by omega), w3t, oI]
      · obtain ⟨C, c1, c2, c3, c4, c5⟩ := hmod k1 e
        refine ⟨C, ?_, c2⟩
        rw [ho] at c3
        simp [f_X10_held, gO_136, gd_tt, bm_s, ms_ok (kc_136 k1 0) ((s137 _ _).trans e) w hs, b1_s, hin, hiss (kc_136 k1 0) ((s137 _ _).trans e), e_has, hv_bt (show t < 32 by omega), hb, bI_t, e_isIn, c1, c3, oI]
    | some d =>
      have hd := hlt d ho
      rw [ho] at w3t hyes
      have hm1 := nI_m1 (show d < 2147483648 by omega)
      refine qok0 I (u := bI (bt (sq (M 137) d 9) t)) (M1 := fw_set M' 148 0 (bI (bt (sq (M 137) d 9) t))) ?_ (w2.ag.st 148 0 _ rfl) (set_eq _ _ _ _) (fun k1 e => ?_)
      · simp only [f_L_held, f_X9_held, gO_0, gd_tt, kc_0_5 h, gN_121, tn_121, gO_121, b1_s, b2_s, bxl, bxr, bn_s, gA_148_0, bm_s, if_true, if_false, i10, i00, c_suitAt h c.1.1 w.n hs, hni, w1, kc_0_5 hk', kc_121_1 hk', gN_122, tn_122, hgA, nI_cl (show t < 2147483648 by omega), w3t, oI, hm1, and1b, w4, hv_lo, hv_bt (show t < 32 by omega), hyes]
        simp [b1_s, b2_s, bxl, bxr, bn_s, bm_s]
      · obtain ⟨C, c1, c2, c3, c4, c5⟩ := hmod k1 e
        refine ⟨C, ?_, c2⟩
        rw [ho] at c3
        simp only [f_X10_held, gO_136, gd_tt, bm_s, ms_ok (kc_136 k1 0) ((s137 _ _).trans e) w hs, b1_s, i10, if_false, hin, hiss (kc_136 k1 0) ((s137 _ _).trans e), e_has, hv_bt (show t < 32 by omega), hb, bI_t, e_isIn, c1, c3, oI, hm1, c5 d hd]
        cases bt (sq (M 137) d 9) t <;> simp [bI]
  · refine qok0 I (u := nI (fb_ct (fun i => z_hold (M 137 5) (M 137 4) (nI s) (sq (M 137) s) (nI i) (sq (M 137) i) (BDr (M 137) L (2 * i)) (BDr (M 137) L (2 * i + 1)) (nI t)) N)) (M1 := fw_set M 148 0 (nI (fb_ct (fun i => z_hold (M 137 5) (M 137 4) (nI s) (sq (M 137) s) (nI i) (sq (M 137) i) (BDr (M 137) L (2 * i)) (BDr (M 137) L (2 * i + 1)) (nI t)) N))) ?_ ((AG.rf M).st 148 0 _ rfl) (set_eq _ _ _ _) (fun k1 e => ?_)
    · simp [f_L_held, f_X9_held, gO_0, gd_tt, kc_0_5 h, gN_121, tn_121, gO_121, b1_s, b2_s, bxl, bxr, bn_s, gA_148_0, bm_s, if_true, if_false, i10, i00, c_suitAt h c.1.1 w.n hs, hni, hcnt]
    · obtain ⟨C, c1, c2, c3, c4, c5⟩ := hmod k1 e
      refine ⟨C, ?_, c2⟩
      simp [f_X10_held, gO_136, gd_tt, bm_s, ms_ok (kc_136 k1 0) ((s137 _ _).trans e) w hs, b1_s, hin, hiss (kc_136 k1 0) ((s137 _ _).trans e), e_has, hv_bt (show t < 32 by omega), hb, bI_t, e_isIn, c1, c3, c4]
end Q4
