/-! ===== judge, reverse, find ===== -/
def SC (r r' : Nat → Int32) (s : Nat) (q' : Nat → Int32) : Prop := (∀ j, j < 198 → r' j = r j) ∧ sq r' s = q' ∧ ∀ t, t ≠ s → sq r' t = sq r t
section SA
variable {M : fw_Mem} {r r' q' : Nat → Int32} {P L N A T U s : Nat} {hh : Bool}
theorem sc_upd (r : Nat → Int32) (s : Nat) {j : Nat} (hj : j < 12) (v : Int32) : SC r (upd r (198 + 12 * s + j) v) s (upd (sq r s) j v) := ⟨fun k hk => upd_ne _ _ (by omega), by rw [sq_upd r s hj, if_pos rfl], fun t ht => by rw [sq_upd r s hj, if_neg ht]⟩
theorem sc_upd2 {j : Nat} (h : SC r r' s q') (hj : j < 12) (v : Int32) : SC r (upd r' (198 + 12 * s + j) v) s (upd q' j v) := by
  obtain ⟨h1, h2, h3⟩ := h
  obtain ⟨g1, g2, g3⟩ := sc_upd r' s hj v
  exact ⟨fun k hk => (g1 k hk).trans (h1 k hk), by rw [g2, h2], fun t ht => (g3 t ht).trans (h3 t ht)⟩
theorem sc_lq (h : SC r r' s q') {l : Nat} (hl : l < 24) : lq r' l = lq r l := by
  funext j
  unfold lq
  split
  · exact h.1 _ (by omega)
  · rfl
theorem sc_wf (h : SC r r' s q') (w : WF r P L N) (wq : WQ P q') : WF r' P L N := by
  obtain ⟨h1, h2, h3, h4, h5, h6⟩ := w
  refine ⟨h1, ?_, ?_, ?_, fun l hl => ?_, fun i hi => ?_⟩
  · rw [h.1 _ (by omega), h.1 _ (by omega), h.1 _ (by omega)]; exact h2
  · rw [h.1 _ (by omega)]; exact h3
  · rw [h.1 _ (by omega), h.1 _ (by omega)]; exact h4
  · rw [sc_lq h (by omega)]; exact h5 l hl
  · by_cases e : i = s
    · subst e; rw [h.2.1]; exact wq
    · rw [h.2.2 i e]; exact h6 i hi
theorem suit_act {M9 M11 : fw_Mem} {kd a b c : Int32} (I : IV M P L N A T U hh) (hs : s < N)
    (n1 : ∀ b, b ≠ 131 → b ≠ 132 → M9 b = M b) (n2 : M9 131 0 = M 131 0) (n3 : M9 131 1 = nI (min A 11 + 1)) (n4 : ∀ j, j < min A 11 → arow (M9 132) j = arow (M 132) (j + (A - min A 11))) (n5 : arow (M9 132) (min A 11) = f6 kd (nI s) a b c 0)
    (g1 : ∀ b, b ≠ 32 + s → M11 b = M9 b) (g2 : M11 (32 + s) 0 = M9 (32 + s) 0) (g3 : cq M11 (32 + s) = q') (wq : WQ P q') (g4 : ∀ j, j < 6 → q' j = sq (M 137) s j) (sc : SC (M 137) r' s q')
    (hk : (kd = 0 ∧ sq (M 137) s 6 = -1 ∧ sq (M 137) s 7 = 0 ∧ sq (M 137) s 8 = 0 ∧ sq (M 137) s 9 = 0 ∧ sq (M 137) s 10 = 0 ∧ sq (M 137) s 11 = 0) ∨ (kd = 2 ∧ (∀ j, 6 ≤ j → j < 12 → j ≠ 8 → sq (M 137) s j = q' j) ∧ sq (M 137) s 8 = if q' 8 = 0 then 1 else 0) ∨ (kd = 1 ∧ (∀ j, 6 ≤ j → j < 9 → sq (M 137) s j = q' j) ∧ sq (M 137) s 9 = a ∧ sq (M 137) s 10 = b ∧ sq (M 137) s 11 = c)) :
    ∃ M13, f_X2_refresh st_S M11 121 = some M13 ∧ M13 (32 + s) 9 = q' 8 ∧ (∀ b, ¬ (3 ≤ b ∧ b < 42) → b ≠ 131 → b ≠ 132 → M13 b = M b) ∧ KC M11 ∧ KC M13 ∧ ∀ M2 : fw_Mem, (∀ b, b ≠ 136 → b ≠ 137 → b ≠ 140 → b ≠ 148 → M2 b = M13 b) → (∀ j, j ≠ 5 → j ≠ 6 → M2 136 j = M13 136 j) → M2 136 5 = nI (min A 11 + 1) → (∀ j, j < min A 11 → prow (M2 140) j = prow (M 140) (j + (A - min A 11))) → prow (M2 140) (min A 11) = nrm (M 137) → M2 137 = r' → IV M2 P L N (min A 11 + 1) T U hh := by
  obtain ⟨k, w, ⟨p3, -⟩, r3, cr, -⟩ := id I
  have n10 := w.n
  have l24 := w.1.2.1
  have k9 : KC M9 := kc_ac k n1 n2
  have k11 : KC M11 := by
    refine kc_cong k9 fun q hq => ?_
    have h2 := List.all_eq_true.mp (by decide +kernel : (kcl.all fun q => (decide (q.1 < 32) || decide (41 < q.1)) || q.2.1 == 0) = true) q hq
    simp only [Bool.or_eq_true, decide_eq_true_eq, beq_iff_eq] at h2
    by_cases e : q.1 = 32 + s
    · have : q.2.1 = 0 := by omega
      rw [e, this]; exact g2
    · rw [g1 _ e]
  have f11 : ∀ b, b ≠ 32 + s → b ≠ 131 → b ≠ 132 → M11 b = M b := fun b b1 b2 b3 => by rw [g1 b b1, n1 b b2 b3]
  have p11 : cLP M11 3 := by unfold cLP; rw [f11 (3 + 2) (by omega) (by omega) (by omega)]; exact p3
  have w' := sc_wf sc w wq
  have rw11 : RW M11 3 r' P L N := by
    obtain ⟨h1, h2, h3, h4, h5⟩ := r3
    refine ⟨?_, fun i hi => ?_, fun i hi => ?_, fun l hl => ?_, fun t ht => ?_⟩
    · rw [f11 3 (by omega) (by omega) (by omega)]; exact h1
    · rw [f11 (3 + 1) (by omega) (by omega) (by omega), sc.1 _ (by have := w.1.1; omega)]; exact h2 i hi
    · rw [f11 (3 + 4) (by omega) (by omega) (by omega), sc.1 _ (by omega)]; exact h3 i hi
    · obtain ⟨j, j1, j2, j3⟩ := p3.at (l := l) (by omega) (by omega)
      have := h4 l hl
      rw [f11 (3 + 2) (by omega) (by omega) (by omega), sc_lq sc (by omega)]
      rw [j3] at this ⊢
      rw [cl_fr (f11 _ (by omega) (by omega) (by omega))]; exact this
    · by_cases e : t = s
      · subst e
        rw [sc.2.1, show 3 + 29 + t = 32 + t by omega]; exact g3
      · rw [sc.2.2 t e, cq_fr (f11 _ (by omega) (by omega) (by omega))]; exact h5 t ht
  obtain ⟨M13, y1, y2, y3⟩ := c_refresh k11 w' p11 rw11
  have k13 := y2.kc k11
  have fc : ∀ b, ¬ (3 ≤ b ∧ b < 42) → b ≠ 131 → b ≠ 132 → M13 b = M b := fun b h1 h2 h3 => by rw [y2.1 b (by omega), f11 b (by omega) h2 h3]
  refine ⟨M13, y1, ?_, fc, k11, k13, fun M2 fm fm6 m5 p1 p2 e137 => ?_⟩
  · rw [y2.2 s (by omega) 9 (by omega)]; exact congrFun g3 8
  · have p13 : cLP M13 3 := by unfold cLP; rw [y2.1 (3 + 2) (by omega)]; exact p11
    have r131 : M13 131 = M9 131 := by rw [y2.1 131 (by omega), g1 131 (by omega)]
    have r132 : M13 132 = M9 132 := by rw [y2.1 132 (by omega), g1 132 (by omega)]
    refine act_done (f := f6 kd (nI s) a b c 0) I fc (by rw [r131]; exact n2) (by rw [r131]; exact n3) (fun j hj => by rw [r132]; exact n4 j hj) (by rw [r132]; exact n5) k13 p13 (rfr_rw y2 p11 l24 n10 rw11) y3 w' ⟨fun i hi => (sc.1 _ (by have := w.1.1; omega)).symm, Or.inr (Or.inr (Or.inr ⟨rfl, fun l hl => (sc_lq sc (by omega)).symm, fun k' hk' => (sc.1 _ (by omega)).symm, s, hs, rfl, fun t ht hts => (sc.2.2 t hts).symm, fun j hj => by rw [sc.2.1]; exact (g4 j hj).symm, ?_⟩))⟩ fm fm6 m5 p1 p2 e137
    rw [sc.2.1]
    exact hk
/-- the model keeps, in a call that goes well -/
theorem m_kp {B : fw_Mem} (k : KC B) (e : B 137 = r) (h5 : B 136 5 = nI A) (hA : A ≤ 12) : ∃ C, f_X10_keep st_S (fw_set B 136 6 0) 136 = some C ∧ KC C ∧ C 137 = r ∧ (∀ b, b ≠ 136 → b ≠ 140 → C b = B b) ∧ (∀ j, j ≠ 5 → j ≠ 6 → C 136 j = B 136 j) ∧ C 136 6 = 0 ∧ C 136 5 = nI (min A 11 + 1) ∧ (∀ j, j < min A 11 → prow (C 140) j = prow (B 140) (j + (A - min A 11))) ∧ prow (C 140) (min A 11) = nrm r := by
  obtain ⟨C, a1, a2, a3, a4, a5, a6, a7⟩ := m_keep (kc_136 k 0) (by rw [set_nk _ _ _ _ (by decide)]; exact h5) hA
  rw [s137, e] at a6
  refine ⟨C, a1, a7, ?_, fun b b1 b2 => by rw [a2 b b1 b2, set_nr _ _ _ b1], fun j j1 j2 => by rw [a3 j j1, set_nk _ _ _ _ j2], by rw [a3 6 (by decide), set_eq], a4, fun j hj => by rw [a5 j hj, set_nr _ _ _ (by decide)], a6⟩
  rw [a2 137 (by decide) (by decide), s137, e]
end SA
section QJ
variable {M : fw_Mem}
theorem q_judge (I : INV M) (x y : Int32) (v : Bool) : QOB (f_L_judge st_S M 0 x y (bI v) 148) (fun M1 => f_X10_judge st_S M1 136 x y (bI v)) := by
  obtain ⟨P, L, N, A, T, U, hh, iv⟩ := id I
  obtain ⟨h, w, ⟨p3, -⟩, r3, c, -, ac, -⟩ := id iv
  have n10 := w.n
  have hne : ¬ exI = exN := by decide
  by_cases hx : ∃ s, s < N ∧ x = nI s
  rotate_left
  · have hc : f_L_judge st_S M 0 x y (bI v) 148 = some (1, M) := by simp only [f_L_judge, f_X9_judge, gO_0, gd_tt, kc_0_5 h, gN_121, tn_121, gO_121, b1_s, b2_s, bxl, bxr, bn_s, gA_148_0, bm_s, if_true, if_false, i10, i00, c_suitNo h c.1.1 w.n hx]
    refine qob1 (v := 1) (by decide) hc (qok1 I (by decide) hc (AG.rf M) (fun k1 e => ⟨0, fw_set M 136 6 1, ?_, mf_set M 1⟩))
    simp only [f_X10_judge, fj_X10_judge_34, gO_136, gd_tt, ms_no k1 e w hx, b1_s, i00, if_true, bm_s, set_eq, show (0 : Int32) < 1 from by decide]
  obtain ⟨s, hs, rfl⟩ := hx
  obtain ⟨hg, e0, eq⟩ := c.at' h w.n hs
  have hs10 : s < 10 := by omega
  have e3 : M (32 + s) 3 = sq (M 137) s 2 := congrFun eq 2
  have e7 : M (32 + s) 7 = sq (M 137) s 6 := congrFun eq 6
  have wqs := w.q hs
  have hof : ∀ {B : fw_Mem}, KC B → B 137 = M 137 → f_X10_of st_S B 136 (nI s) 2 = some (sq (M 137) s 2) := fun k e => by rw [e_of2 k (by omega), e]
  by_cases hy : ¬ y < sq (M 137) s 2 ∧ y ≤ 9999
  rotate_left
  · have hc : f_L_judge st_S M 0 (nI s) y (bI v) 148 = some (2, M) := by
      simp only [f_L_judge, f_X9_judge, gO_0, gd_tt, kc_0_5 h, gN_121, tn_121, gO_121, b1_s, b2_s, bxl, bxr, bn_s, gA_148_0, bm_s, if_true, if_false, i10, i00, c_suitAt h c.1.1 w.n hs, hg, e3]
      by_cases h1 : y < sq (M 137) s 2
      · simp only [if_pos h1, b1_s, b2_s, bxl, bxr, bn_s, bm_s, if_neg hne, if_true]
      · have h2 : ¬ y ≤ 9999 := fun q => hy ⟨h1, q⟩
        simp only [if_neg h1, if_neg h2, b1_s, b2_s, bxl, bxr, bn_s, bm_s, if_neg hne, if_true]
    refine qob1 (v := 2) (by decide) hc (qok1 I (by decide) hc (AG.rf M) (fun k1 e => ⟨0, fw_set M 136 6 2, ?_, mf_set M 2⟩))
    have hf : decide (¬ y < sq (M 137) s 2 ∧ ¬ (9999 : Int32) < y) = false := decide_eq_false fun q => hy ⟨q.1, Int32.not_lt.mp q.2⟩
    simp only [f_X10_judge, fj_X10_judge_34, gO_136, gd_tt, ms_ok k1 e w hs, b1_s, i10, if_false, hof k1 e, e_isIn, hf, bI_f, i00, if_true, bm_s, set_eq, show (0 : Int32) < 2 from by decide]
  have hin : ∀ B : fw_Mem, f_X10_isIn st_S B y (sq (M 137) s 2) 9999 = some 1 := fun B => by rw [e_isIn, decide_eq_true ⟨hy.1, Int32.not_lt.mpr hy.2⟩]; rfl
  have hjd := e_c_isJudged (M := M) hg
  rw [eq] at hjd
  cases hj : q_jd (sq (M 137) s)
  rotate_left
  · rw [hj] at hjd
    refine qob0 I (u := false) (M1 := fw_set M 148 0 0) ?_ ((AG.rf M).st 148 0 _ rfl) (set_eq _ _ _ _) (fun k1 e => ⟨_, ?_, mf_set _ 0⟩)
    · simp only [f_L_judge, f_X9_judge, gO_0, gd_tt, kc_0_5 h, gN_121, tn_121, gO_121, b1_s, b2_s, bxl, bxr, bn_s, gA_148_0, bm_s, if_true, if_false, i10, i00, c_suitAt h c.1.1 w.n hs, hg, e3, if_neg hy.1, if_pos hy.2, hjd, bI_t]
    · have a1 := e_isJudged (kc_136 k1 0) (s := s) (by omega)
      rw [s137, e, hj] at a1
      simp only [f_X10_judge, fj_X10_judge_34, gO_136, gd_tt, ms_ok k1 e w hs, b1_s, i10, if_false, hof k1 e, hin, bm_s, set_eq, show ¬ (0 : Int32) < 0 from by decide, a1, bI_t, bI_f]
  rw [hj] at hjd
  have h6 : sq (M 137) s 6 = -1 := by simpa [q_jd] using hj
  obtain ⟨z7, z8, z9, z10, z11⟩ := wqs.2.2.2.2.2.2.2.2.2.1 h6
  obtain ⟨M9, n0, n1, n2, n3, n4, n5⟩ := c_note h ac.1 ac.2.2.1 0 (nI s) 0 0 0 0
  have k9 : KC M9 := kc_ac h n1 n2
  have e9 : M9 (32 + s) = M (32 + s) := n1 _ (by omega) (by omega)
  obtain ⟨M11, hM11⟩ : ∃ m, m = fw_set (fw_set (fw_set (fw_set (fw_set (fw_set M9 (32 + s) 7 y) (32 + s) 8 (bI v)) (32 + s) 9 0) (32 + s) 10 0) (32 + s) 11 0) (32 + s) 12 0 := ⟨_, rfl⟩
  have g1 : ∀ b, b ≠ 32 + s → M11 b = M9 b := fun b hb => by rw [hM11, set_nr _ _ _ hb, set_nr _ _ _ hb, set_nr _ _ _ hb, set_nr _ _ _ hb, set_nr _ _ _ hb, set_nr _ _ _ hb]
  have hdec : f_X6_decide st_S M9 (32 + s) y (bI v) = some M11 := by rw [hM11]; simp only [f_X6_decide, hg, gd_tt, bm_s, bI_gB]
  have g3 : cq M11 (32 + s) = upd (upd (sq (M 137) s) 6 y) 7 (bI v) := by
    rw [hM11, show (12 : Nat) = 1 + 11 from rfl, cq_set (by omega), show (11 : Nat) = 1 + 10 from rfl, cq_set (by omega), show (10 : Nat) = 1 + 9 from rfl, cq_set (by omega), show (9 : Nat) = 1 + 8 from rfl, cq_set (by omega), show (8 : Nat) = 1 + 7 from rfl, cq_set (by omega), show (7 : Nat) = 1 + 6 from rfl, cq_set (by omega), cq_fr e9, eq]
    funext j
    unfold upd
    by_cases j11 : j = 11
    · subst j11; simp [z11]
    by_cases j10 : j = 10
    · subst j10; simp [z10]
    by_cases j9 : j = 9
    · subst j9; simp [z9]
    by_cases j8 : j = 8
    · subst j8; simp [z8]
    simp [j11, j10, j9, j8]
  obtain ⟨d0, hd0, ed0⟩ := wqs.2.2.1
  have hyd : ∃ d, d ≤ 9999 ∧ y = nI d := by
    have hy0 : ¬ y < 0 := fun q => hy.1 (by
      rw [ed0]
      rw [fa_lt] at q ⊢
      rw [nI_toInt (by omega)]
      have : (0 : Int32).toInt = 0 := by decide
      omega)
    obtain ⟨d, hd, ed⟩ := nI_of hy0
    refine ⟨d, ?_, ed⟩
    have := hy.2
    rw [ed, show (9999 : Int32) = nI 9999 from rfl, nI_leI hd (by omega)] at this
    exact this
  have hv01 : bI v = 0 ∨ bI v = 1 := by cases v <;> simp [bI]
  obtain ⟨r', hr'⟩ : ∃ r', r' = upd (upd (M 137) (198 + 12 * s + 6) y) (198 + 12 * s + 7) (bI v) := ⟨_, rfl⟩
  have sc : SC (M 137) r' s (upd (upd (sq (M 137) s) 6 y) 7 (bI v)) := by rw [hr']; exact sc_upd2 (sc_upd _ s (by omega) _) (by omega) _
  have wq' : WQ P (upd (upd (sq (M 137) s) 6 y) 7 (bI v)) := by
    obtain ⟨a1, a2, a3, a4, a5, a6, a7, a8, a9, a10, a11⟩ := wqs
    have u : ∀ j, j ≠ 6 → j ≠ 7 → upd (upd (sq (M 137) s) 6 y) 7 (bI v) j = sq (M 137) s j := fun j h1 h2 => by rw [upd_ne _ _ h2, upd_ne _ _ h1]
    have u6 : upd (upd (sq (M 137) s) 6 y) 7 (bI v) 6 = y := by rw [upd_ne _ _ (by omega), upd_eq]
    have u7 : upd (upd (sq (M 137) s) 6 y) 7 (bI v) 7 = bI v := upd_eq _ _ _
    unfold WQ
    rw [u6, u7, u 0 (by omega) (by omega), u 1 (by omega) (by omega), u 2 (by omega) (by omega), u 4 (by omega) (by omega), u 5 (by omega) (by omega), u 8 (by omega) (by omega), u 9 (by omega) (by omega), u 10 (by omega) (by omega), u 11 (by omega) (by omega)]
    refine ⟨a1, a2, a3, a4, Or.inr hyd, hv01, a7, a8, a9, fun q => ?_, a11⟩
    obtain ⟨d, hd, ed⟩ := hyd
    rw [ed, nI_m1 (by omega)] at q
    exact absurd q id
  obtain ⟨M13, y1, -, fc, k11, k13, fin⟩ := suit_act (r' := r') (kd := 0) (a := 0) (b := 0) (c := 0) iv hs n1 n2 n3 n4 n5 g1 (by rw [hM11]; simp [fw_set]) g3 wq' (fun j hj => by rw [upd_ne _ _ (by omega), upd_ne _ _ (by omega)]) sc (Or.inl ⟨rfl, h6, z7, z8, z9, z10, z11⟩)
  have hclass : f_L_judge st_S M 0 (nI s) y (bI v) 148 = some (0, fw_set M13 148 0 1) := by
    simp only [f_L_judge, f_X9_judge, gO_0, gd_tt, kc_0_5 h, gN_121, tn_121, gO_121, b1_s, b2_s, bxl, bxr, bn_s, gA_148_0, bm_s, if_true, if_false, i10, i00, c_suitAt h c.1.1 w.n hs, hg, e3, if_neg hy.1, if_pos hy.2, hjd, bI_f, kc_0_7 h, gN_131, tn_131, gO_131, n0, hdec, kc_0_5 k11, y1]
  -- the model
  have kB : KC (fw_set M13 148 0 1) := kc_148 k13 1
  have fB : ∀ b, ¬ (3 ≤ b ∧ b < 42) → b ≠ 131 → b ≠ 132 → b ≠ 148 → fw_set M13 148 0 1 b = M b := fun b b1 b2 b3 b4 => by rw [set_nr _ _ _ b4, fc b b1 b2 b3]
  have eB : fw_set M13 148 0 1 137 = M 137 := fB 137 (by omega) (by omega) (by omega) (by omega)
  have k8 := kc_136 kB 0
  have a1 := e_isJudged k8 (s := s) (by omega)
  rw [s137, eB, hj] at a1
  obtain ⟨C, c1, c2, c3, c4, c5, c6, c7, c8, c9⟩ := m_kp kB eB (by rw [fB 136 (by omega) (by omega) (by omega) (by omega)]; exact ac.2.1) ac.2.2.1
  have q1 := e_put c2 (show s ≤ 10 by omega) (show 6 < 12 by omega) (x := 6) rfl y
  have kC6 := kc_137 c2 (198 + 12 * s + 6) y
  have q2 := e_put kC6 (show s ≤ 10 by omega) (show 7 < 12 by omega) (x := 7) rfl (bI v)
  refine ⟨0, fw_set M13 148 0 1, 1, fw_set (fw_set C 137 (198 + 12 * s + 6) y) 137 (198 + 12 * s + 7) (bI v), hclass, ?_, ?_, fun _ => ⟨?_, Or.inr rfl⟩, ⟨P, L, N, _, T, U, hh, fin _ (fun b b1 b2 b3 b4 => ?_) (fun j j1 j2 => ?_) ?_ (fun j hj => ?_) ?_ ?_⟩⟩
  · simp only [f_X10_judge, fj_X10_judge_34, gO_136, gd_tt, ms_ok kB eB w hs, b1_s, i10, if_false, hof kB eB, hin, bm_s, set_eq, show ¬ (0 : Int32) < 0 from by decide, a1, bI_f, if_true, c1, q1]
    cases v
    · rw [bI_f] at q2; simp only [bI_f, if_true, q2, b1_s]
    · rw [bI_t] at q2; simp only [bI_t, i10, if_false, q2, b1_s]
  · rw [set_na _ _ _ _ (by decide), set_na _ _ _ _ (by decide)]; exact c6
  · rw [set_na _ _ _ _ (by decide), set_na _ _ _ _ (by decide), c4 148 (by decide) (by decide), set_eq]
  · rw [set_nr _ _ _ b2, set_nr _ _ _ b2, c4 b b1 b3, set_nr _ _ _ b4]
  · rw [set_na _ _ _ _ (by decide), set_na _ _ _ _ (by decide), c5 j j1 j2, set_na _ _ _ _ (by decide)]
  · rw [set_na _ _ _ _ (by decide), set_na _ _ _ _ (by decide)]; exact c7
  · rw [set_nr _ _ _ (by decide), set_nr _ _ _ (by decide), c8 j hj, fB 140 (by omega) (by omega) (by omega) (by omega)]
  · rw [set_nr _ _ _ (by decide), set_nr _ _ _ (by decide)]; exact c9
  · rw [fw_set_row, fw_set_row, c3, hr']
theorem q_reverse (I : INV M) (x : Int32) : QOB (f_L_reverse st_S M 0 x 148) (fun M1 => f_X10_reverse st_S M1 136 x) := by
  obtain ⟨P, L, N, A, T, U, hh, iv⟩ := id I
  obtain ⟨h, w, ⟨p3, -⟩, r3, c, -, ac, -⟩ := id iv
  have n10 := w.n
  by_cases hx : ∃ s, s < N ∧ x = nI s
  rotate_left
  · have hc : f_L_reverse st_S M 0 x 148 = some (1, M) := by simp only [f_L_reverse, f_X9_reverse, gO_0, gd_tt, kc_0_5 h, gN_121, tn_121, gO_121, b1_s, b2_s, bxl, bxr, bn_s, gA_148_0, bm_s, if_true, if_false, i10, i00, c_suitNo h c.1.1 w.n hx]
    refine qob1 (v := 1) (by decide) hc (qok1 I (by decide) hc (AG.rf M) (fun k1 e => ⟨0, fw_set M 136 6 1, ?_, mf_set M 1⟩))
    simp only [f_X10_reverse, fj_X10_reverse_14, gO_136, gd_tt, ms_no k1 e w hx, b1_s, i00, if_true, bm_s, set_eq, show (0 : Int32) < 1 from by decide]
  obtain ⟨s, hs, rfl⟩ := hx
  obtain ⟨hg, e0, eq⟩ := c.at' h w.n hs
  have hs10 : s < 10 := by omega
  have e9' : M (32 + s) 9 = sq (M 137) s 8 := congrFun eq 8
  have wqs := w.q hs
  have hjd := e_c_isJudged (M := M) hg
  rw [eq] at hjd
  cases hj : q_jd (sq (M 137) s)
  · rw [hj] at hjd
    refine qob0 I (u := false) (M1 := fw_set M 148 0 0) ?_ ((AG.rf M).st 148 0 _ rfl) (set_eq _ _ _ _) (fun k1 e => ⟨_, ?_, mf_set _ 0⟩)
    · simp only [f_L_reverse, f_X9_reverse, gO_0, gd_tt, kc_0_5 h, gN_121, tn_121, gO_121, b1_s, b2_s, bxl, bxr, bn_s, gA_148_0, bm_s, if_true, if_false, i10, i00, c_suitAt h c.1.1 w.n hs, hg, hjd, bI_f]
    · have a1 := e_isJudged (kc_136 k1 0) (s := s) (by omega)
      rw [s137, e, hj] at a1
      simp only [f_X10_reverse, fj_X10_reverse_14, gO_136, gd_tt, ms_ok k1 e w hs, b1_s, i10, if_false, bm_s, set_eq, show ¬ (0 : Int32) < 0 from by decide, a1, bI_f, i00, if_true]
  rw [hj] at hjd
  obtain ⟨M9, n0, n1, n2, n3, n4, n5⟩ := c_note h ac.1 ac.2.2.1 2 (nI s) 0 0 0 0
  have k9 : KC M9 := kc_ac h n1 n2
  have e9 : M9 (32 + s) = M (32 + s) := n1 _ (by omega) (by omega)
  obtain ⟨nv, hnv⟩ : ∃ nv : Bool, nv = decide (sq (M 137) s 8 = 0) := ⟨_, rfl⟩
  have hold : sq (M 137) s 8 = bI (!nv) := by
    rcases wqs.2.2.2.2.2.2.1 with q | q <;> simp [hnv, q, bI]
  have g1 : ∀ b, b ≠ 32 + s → fw_set M9 (32 + s) 9 (bI nv) b = M9 b := fun b hb => set_nr _ _ _ hb
  have g3 : cq (fw_set M9 (32 + s) 9 (bI nv)) (32 + s) = upd (sq (M 137) s) 8 (bI nv) := by
    rw [show (9 : Nat) = 1 + 8 from rfl, cq_set (by omega), cq_fr e9, eq]
  obtain ⟨r', hr'⟩ : ∃ r', r' = upd (M 137) (198 + 12 * s + 8) (bI nv) := ⟨_, rfl⟩
  have sc : SC (M 137) r' s (upd (sq (M 137) s) 8 (bI nv)) := by rw [hr']; exact sc_upd _ s (by omega) _
  have wq' : WQ P (upd (sq (M 137) s) 8 (bI nv)) := by
    obtain ⟨a1, a2, a3, a4, a5, a6, a7, a8, a9, a10, a11⟩ := wqs
    have u : ∀ j, j ≠ 8 → upd (sq (M 137) s) 8 (bI nv) j = sq (M 137) s j := fun j h1 => upd_ne _ _ h1
    unfold WQ
    rw [upd_eq, u 0 (by omega), u 1 (by omega), u 2 (by omega), u 4 (by omega), u 5 (by omega), u 6 (by omega), u 7 (by omega), u 9 (by omega), u 10 (by omega), u 11 (by omega)]
    refine ⟨a1, a2, a3, a4, a5, a6, by cases nv <;> simp [bI], a8, a9, fun q => ?_, a11⟩
    simp [q_jd, q] at hj
  obtain ⟨M13, y1, y2, fc, k11, k13, fin⟩ := suit_act (r' := r') (kd := 2) (a := 0) (b := 0) (c := 0) iv hs n1 n2 n3 n4 n5 g1 (set_nk _ _ _ _ (by decide)) g3 wq' (fun j hj => upd_ne _ _ (by omega)) sc (Or.inr (Or.inl ⟨rfl, fun j _ _ h8 => (upd_ne _ _ h8).symm, by rw [upd_eq, hold]; cases nv <;> rfl⟩))
  rw [upd_eq] at y2
  have hclass : f_L_reverse st_S M 0 (nI s) 148 = some (0, fw_set M13 148 0 (bI nv)) := by
    simp only [f_L_reverse, f_X9_reverse, gO_0, gd_tt, kc_0_5 h, gN_121, tn_121, gO_121, b1_s, b2_s, bxl, bxr, bn_s, gA_148_0, bm_s, if_true, if_false, i10, i00, c_suitAt h c.1.1 w.n hs, hg, hjd, bI_t, kc_0_7 h, gN_131, tn_131, gO_131, n0, e9, e9', hold]
    cases nv
    · rw [bI_f] at y1 k11 y2
      simp [bI, kc_0_5 k11, gN_121, tn_121, gO_121, gd_tt, bm_s, b1_s, b2_s, bxl, y1, y2, gB]
    · rw [bI_t] at y1 k11 y2
      simp [bI, kc_0_5 k11, gN_121, tn_121, gO_121, gd_tt, bm_s, b1_s, b2_s, bxl, y1, y2, gB]
  have kB : KC (fw_set M13 148 0 (bI nv)) := kc_148 k13 _
  have fB : ∀ b, ¬ (3 ≤ b ∧ b < 42) → b ≠ 131 → b ≠ 132 → b ≠ 148 → fw_set M13 148 0 (bI nv) b = M b := fun b b1 b2 b3 b4 => by rw [set_nr _ _ _ b4, fc b b1 b2 b3]
  have eB : fw_set M13 148 0 (bI nv) 137 = M 137 := fB 137 (by omega) (by omega) (by omega) (by omega)
  have a1 := e_isJudged (kc_136 kB 0) (s := s) (by omega)
  rw [s137, eB, hj] at a1
  obtain ⟨C, c1, c2, c3, c4, c5, c6, c7, c8, c9⟩ := m_kp kB eB (by rw [fB 136 (by omega) (by omega) (by omega) (by omega)]; exact ac.2.1) ac.2.2.1
  have a8 := e_of8 c2 (s := s) (by omega)
  rw [c3, hold] at a8
  have e1v : (1 : Int32) - bI (!nv) = bI nv := by cases nv <;> decide
  have q1 := e_put c2 (show s ≤ 10 by omega) (show 8 < 12 by omega) (x := 8) rfl (bI nv)
  have kC8 := kc_137 c2 (198 + 12 * s + 8) (bI nv)
  have a9 := e_isReversed kC8 (s := s) (by omega)
  rw [fw_set_row, c3, sq_upd _ s (by omega), if_pos rfl] at a9
  have a9' : f_X10_isReversed st_S (fw_set C 137 (198 + 12 * s + 8) (bI nv)) 136 (nI s) = some (bI nv) := by
    rw [a9]; simp only [q_rv, upd_eq]; cases nv <;> rfl
  refine ⟨0, fw_set M13 148 0 (bI nv), bI nv, fw_set C 137 (198 + 12 * s + 8) (bI nv), hclass, ?_, ?_, fun _ => ⟨?_, by cases nv <;> simp [bI]⟩, ⟨P, L, N, _, T, U, hh, fin _ (fun b b1 b2 b3 b4 => ?_) (fun j j1 j2 => ?_) ?_ (fun j hj => ?_) ?_ ?_⟩⟩
  · simp only [f_X10_reverse, fj_X10_reverse_14, gO_136, gd_tt, ms_ok kB eB w hs, b1_s, i10, if_false, bm_s, set_eq, show ¬ (0 : Int32) < 0 from by decide, a1, bI_t, c1, a8, e1v, q1, a9', bI_gB]
  · rw [set_na _ _ _ _ (by decide)]; exact c6
  · rw [set_na _ _ _ _ (by decide), c4 148 (by decide) (by decide), set_eq]
  · rw [set_nr _ _ _ b2, c4 b b1 b3, set_nr _ _ _ b4]
  · rw [set_na _ _ _ _ (by decide), c5 j j1 j2, set_na _ _ _ _ (by decide)]
  · rw [set_na _ _ _ _ (by decide)]; exact c7
  · rw [set_nr _ _ _ (by decide), c8 j hj, fB 140 (by omega) (by omega) (by omega) (by omega)]
  · rw [set_nr _ _ _ (by decide)]; exact c9
  · rw [fw_set_row, c3, hr']
end QJ
