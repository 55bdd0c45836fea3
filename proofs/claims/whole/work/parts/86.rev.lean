/-! ===== a suit that is told of: reversed ===== -/
section RA
variable {M Mm : fw_Mem} {B : Nat → Nat} {n s e k P L N : Nat}
theorem m_told (h : KC Mm) {v j : Nat} (hv : v < 10) (hj : j < 12) {x : Int32} (hx : x = nI j) : f_X10_toldOf st_S Mm 136 (nI v) x = some (sq (Mm 138) v j) := by
  subst hx
  simp only [f_X10_toldOf, gO_136, gd_tt, kc_136_1 h, gN_138, tn_138, l_198, l_12, nI_mul, nI_add, gA_138 (show 198 + 12 * v + j < 330 by omega), nI_cl (show 198 + 12 * v + j < 2147483648 by omega), sq, if_pos hj]
/-- what a suit must be to be told of so: x = 0 not judged, x = 1 judged and not reversed -/
def sOk (x : Int32) (q : Nat → Int32) : Prop := if x = 0 then q 6 = -1 else (¬ q 6 = -1 ∧ q 8 = 0)
def TS (M Mm : fw_Mem) (B : Nat → Nat) (n e N : Nat) (x : Int32) : Prop :=
    (∃ v M' Mm' s' e' k', v < N ∧ sOk x (sq (Mm 138) v) ∧ f_X8_passSuit st_S M 120 x = some (some (71 + v), M') ∧ f_X10_numberHere st_S Mm 136 0 (nI N - 1) = some (nI v, Mm) ∧ f_X10_pass st_S Mm 136 = some Mm' ∧ TF M M' ∧ MU Mm Mm' ∧ TG M' Mm' B n s' e' k' ∧ e ≤ s') ∨
    (∃ u M' Mm', f_X8_passSuit st_S M 120 x = some (none, M') ∧ f_X10_numberHere st_S Mm 136 0 (nI N - 1) = some (u, Mm') ∧ F8 M M' ∧ U8 Mm Mm' ∧ TB M' Mm') ∨
    (∃ v M' Mm', v < N ∧ ¬ sOk x (sq (Mm 138) v) ∧ f_X8_passSuit st_S M 120 x = some (none, M') ∧ f_X10_numberHere st_S Mm 136 0 (nI N - 1) = some (nI v, Mm) ∧ f_X10_wrong st_S Mm 136 2 = some Mm' ∧ F8 M M' ∧ U8 Mm Mm' ∧ TB M' Mm')
theorem t_suit (h : KC M) (hm : KC Mm) (g : GD M Mm B n s e k P L N) {x : Int32} (hx : x = 0 ∨ x = 1) : TS M Mm B n e N x := by
  obtain ⟨tg, p, w, wf⟩ := id g
  obtain ⟨c, m, tk⟩ := id tg
  obtain ⟨hn, hb, h2, h4, h5, h3, h7, h6⟩ := id c
  have N10 := wf.1.2.2
  have hN6 : M 42 6 = nI N := w.1.2.2
  by_cases hk : k = 3
  · have h33 : M 1 3 = 3 := by rw [h3, hk]; rfl
    have h66 := h6.1 hk
    obtain ⟨vr, v1, v2⟩ := v_at tk hk
    by_cases hv : vC B s (e - s) < N
    · have ev : vM B s (e - s) = vC B s (e - s) := by omega
      have nh : f_X10_numberHere st_S Mm 136 0 (nI N - 1) = some (nI (vC B s (e - s)), Mm) := by
        rw [m_nh3 hm m tk hk, ev, if_pos ((rg (by omega)).mpr ⟨_, hv, rfl⟩)]
      generalize vC B s (e - s) = v at hv ev h66 vr v1 nh
      have hle : ¬ nI N ≤ nI v := nI_ge hv (by omega)
      have hv10 : v < 10 := by omega
      have e7 : M (71 + v) 7 = sq (Mm 138) v 6 := by rw [← w.2.2.2.2 v hv]; rfl
      have e9 : M (71 + v) 9 = sq (Mm 138) v 8 := by rw [← w.2.2.2.2 v hv]; rfl
      have q8 := (wf.2.2.2.2.2 v hv).2.2.2.2.2.2.1
      have f77 : ∀ z : Int32, f_X8_passSuit st_S M 120 x = fj_X8_passSuit_77 st_S M 120 (71 + v) z → (z = 1 → sOk x (sq (Mm 138) v)) → (z = 0 → ¬ sOk x (sq (Mm 138) v)) → (z = 0 ∨ z = 1) → TS M Mm B n e N x := fun z hz z1 z0 z01 => by
        rcases z01 with q | q
        · obtain ⟨M', Mm', x1, x2, x3, x4, x5⟩ := t_fail tg (f := 2) (by omega)
          rw [show nI 2 = (2 : Int32) from rfl] at x1 x2
          refine Or.inr (Or.inr ⟨v, M', Mm', hv, z0 q, ?_, nh, x2, x3, x4, x5⟩)
          rw [hz, q]
          simp only [fj_X8_passSuit_77, if_true, gO_120, gd_tt, kc_120_0 h, gN_1, tn_1, gO_1, h33, x1, b1_s]
        · obtain ⟨M', Mm', s', e', k', x1, x2, x3, x4, x5, x6⟩ := t_adv h hm tg
          refine Or.inl ⟨v, M', Mm', s', e', k', hv, z1 q, ?_, nh, x2, x3, x4, x5, x6⟩
          have n10 : ¬ (1 : Int32) = 0 := by decide
          rw [hz, q]
          simp only [fj_X8_passSuit_77, if_neg n10, gO_120, gd_tt, kc_120_0 h, gN_1, tn_1, gO_1, x1, b1_s]
      rcases hx with rfl | rfl
      · by_cases q6 : sq (Mm 138) v 6 = -1
        · refine f77 1 ?_ (fun _ => by unfold sOk; rw [if_pos rfl]; exact q6) (fun q => absurd q (by decide)) (Or.inr rfl)
          simp only [f_X8_passSuit, gO_120, gd_tt, kc_120_0 h, gN_1, tn_1, gO_1, h7, h33, if_true, kc_120_1 h, gN_42, tn_42, gO_42, hN6, h66, if_neg hle, kc_42_2 h, gN_45, tn_45, gA_45 hv10, nI_cl (show v < 2147483648 by omega), kc_s42 h hv10, nI_gN (show 71 + v < 2147483648 by omega), nI_cl (show 71 + v < 2147483648 by omega), gO_s42 v hv10, f_X6_isJudged, e7, q6, b1_s]
        · refine f77 0 ?_ (fun q => absurd q (by decide)) (fun _ => by unfold sOk; rw [if_pos rfl]; exact q6) (Or.inl rfl)
          have n10 : ¬ (1 : Int32) = 0 := by decide
          simp only [f_X8_passSuit, gO_120, gd_tt, kc_120_0 h, gN_1, tn_1, gO_1, h7, h33, if_true, kc_120_1 h, gN_42, tn_42, gO_42, hN6, h66, if_neg hle, kc_42_2 h, gN_45, tn_45, gA_45 hv10, nI_cl (show v < 2147483648 by omega), kc_s42 h hv10, nI_gN (show 71 + v < 2147483648 by omega), nI_cl (show 71 + v < 2147483648 by omega), gO_s42 v hv10, f_X6_isJudged, e7, if_neg q6, b1_s, if_neg n10]
      · have n10 : ¬ (1 : Int32) = 0 := by decide
        by_cases q6 : sq (Mm 138) v 6 = -1
        · refine f77 0 ?_ (fun q => absurd q (by decide)) (fun _ => by unfold sOk; rw [if_neg n10]; exact fun z => z.1 q6) (Or.inl rfl)
          simp only [f_X8_passSuit, gO_120, gd_tt, kc_120_0 h, gN_1, tn_1, gO_1, h7, h33, if_true, kc_120_1 h, gN_42, tn_42, gO_42, hN6, h66, if_neg hle, kc_42_2 h, gN_45, tn_45, gA_45 hv10, nI_cl (show v < 2147483648 by omega), kc_s42 h hv10, nI_gN (show 71 + v < 2147483648 by omega), nI_cl (show 71 + v < 2147483648 by omega), gO_s42 v hv10, f_X6_counts, e7, q6, b1_s, if_neg n10]
        · by_cases q88 : sq (Mm 138) v 8 = 0
          · refine f77 1 ?_ (fun _ => by unfold sOk; rw [if_neg n10]; exact ⟨q6, q88⟩) (fun q => absurd q (by decide)) (Or.inr rfl)
            simp only [f_X8_passSuit, gO_120, gd_tt, kc_120_0 h, gN_1, tn_1, gO_1, h7, h33, if_true, kc_120_1 h, gN_42, tn_42, gO_42, hN6, h66, if_neg hle, kc_42_2 h, gN_45, tn_45, gA_45 hv10, nI_cl (show v < 2147483648 by omega), kc_s42 h hv10, nI_gN (show 71 + v < 2147483648 by omega), nI_cl (show 71 + v < 2147483648 by omega), gO_s42 v hv10, f_X6_counts, e7, if_neg q6, e9, q88, b1_s, if_neg n10]
          · refine f77 0 ?_ (fun q => absurd q (by decide)) (fun _ => by unfold sOk; rw [if_neg n10]; exact fun z => q88 z.2) (Or.inl rfl)
            simp only [f_X8_passSuit, gO_120, gd_tt, kc_120_0 h, gN_1, tn_1, gO_1, h7, h33, if_true, kc_120_1 h, gN_42, tn_42, gO_42, hN6, h66, if_neg hle, kc_42_2 h, gN_45, tn_45, gA_45 hv10, nI_cl (show v < 2147483648 by omega), kc_s42 h hv10, nI_gN (show 71 + v < 2147483648 by omega), nI_cl (show 71 + v < 2147483648 by omega), gO_s42 v hv10, f_X6_counts, e7, if_neg q6, e9, if_neg q88, b1_s, if_neg n10]
    · obtain ⟨M', Mm', x1, x2, x3, x4, x5⟩ := t_fail tg (f := 2) (by omega)
      rw [show nI 2 = (2 : Int32) from rfl] at x1 x2
      have hle : nI N ≤ nI (vC B s (e - s)) := nI_le (by omega) (by omega)
      refine Or.inr (Or.inl ⟨nI (vM B s (e - s)), M', Mm', ?_, ?_, x3, x4, x5⟩)
      · simp only [f_X8_passSuit, gO_120, gd_tt, kc_120_0 h, gN_1, tn_1, gO_1, h7, h33, if_true, kc_120_1 h, gN_42, tn_42, gO_42, hN6, h66, if_pos hle, x1, b1_s]
      · rw [m_nh3 hm m tk hk, if_neg, x2, b1_s]
        intro q
        obtain ⟨t, t1, t2⟩ := (rg (by omega)).mp q
        have := (nI_eq (by omega) (by omega)).mp t2
        omega
  · have hk4 : k ≤ 4 := by rcases tk.2.2.1 with q | q | q | q <;> omega
    have h33 : ¬ M 1 3 = 3 := by
      rw [h3]
      exact fun q => hk ((nI_eq (b := 3) (by omega) (by omega)).mp q)
    obtain ⟨M', Mm', x1, x2, x3, x4, x5⟩ := t_fail tg (f := 1) (by omega)
    rw [show nI 1 = (1 : Int32) from rfl] at x1 x2
    refine Or.inr (Or.inl ⟨0, M', Mm', ?_, m_nhN m tk hk _ _ x2 x5, x3, x4, x5⟩)
    simp only [f_X8_passSuit, gO_120, gd_tt, kc_120_0 h, gN_1, tn_1, gO_1, h7, if_true, if_neg h33, x1, b1_s]
/-- the told suit has changed, on both sides alike -/
theorem GD.told {M' Mm' : fw_Mem} {v : Nat} (g : GD M Mm B n s e k P L N) (hv : v < N) (sx : SX (71 + v) M M') (u : ∀ b, b ≠ 138 → Mm' b = Mm b) (hr : ∀ j, (j < 198 + 12 * v ∨ 210 + 12 * v ≤ j) → Mm' 138 j = Mm 138 j) (hq : cq M' (71 + v) = sq (Mm' 138) v) (wq : WQ P (sq (Mm' 138) v)) : GD M' Mm' B n s e k P L N := by
  obtain ⟨tg, p, w, wf⟩ := g
  have N10 := wf.1.2.2
  have l24 := wf.1.2.1
  have hP := wf.1.1
  have sD : ∀ t, t < N → t ≠ v → sq (Mm' 138) t = sq (Mm 138) t := fun t _ ht => by
    funext j
    unfold sq
    split
    · exact hr _ (by omega)
    · rfl
  have lD : ∀ l, l < 24 → lq (Mm' 138) l = lq (Mm 138) l := fun l hl => by
    funext j
    unfold lq
    split
    · exact hr _ (by omega)
    · rfl
  refine ⟨tg.fr (sx.1 1 (by omega)) (sx.1 2 (by omega)) (u 136 (by decide)) (u 147 (by decide)), ?_, ?_, ?_⟩
  · unfold cLP; rw [sx.1 (42 + 2) (by omega)]; exact p
  · obtain ⟨r1, r2, r3, r4, r5⟩ := w
    refine ⟨by rw [sx.1 42 (by omega)]; exact r1, fun i hi => ?_, fun i hi => ?_, fun l hl => ?_, fun t ht => ?_⟩
    · rw [sx.1 _ (by omega), hr _ (by omega)]; exact r2 i hi
    · rw [sx.1 _ (by omega), hr _ (by omega)]; exact r3 i hi
    · obtain ⟨j, j1, j2, j3⟩ := p.at (l := l) (by omega) (by omega)
      have := r4 l hl
      rw [sx.1 (42 + 2) (by omega), lD l (by omega)]
      rw [j3] at this ⊢
      rw [cl_fr (sx.1 _ (by omega))]; exact this
    · by_cases et : t = v
      · subst et; exact hq
      · rw [cq_fr (sx.1 _ (by omega)), sD t ht et]; exact r5 t ht
  · obtain ⟨z1, z2, z3, z4, z5, z6⟩ := wf
    refine ⟨z1, ⟨by rw [hr _ (by omega)]; exact z2.1, by rw [hr _ (by omega)]; exact z2.2.1, by rw [hr _ (by omega)]; exact z2.2.2⟩, by rw [hr _ (by omega)]; exact z3, by rw [hr _ (by omega), hr _ (by omega)]; exact z4, fun l hl => by rw [lD l (by omega)]; exact z5 l hl, fun t ht => ?_⟩
    by_cases et : t = v
    · subst et; exact wq
    · rw [sD t ht et]; exact z6 t ht
theorem b_f52 (t : TB M Mm) (x : Int32) : fj_X10_readReversed_52 st_S Mm 136 x = some Mm := by simp only [fj_X10_readReversed_52, gO_136, gd_tt, b_pass t, b1_s, if_neg t.m]
theorem l_rev (h : KC M) (hm : KC Mm) (g : GD M Mm B n s e k P L N) : LR M Mm B n e (f_X8_readReversed st_S M 120) (f_X10_readReversed st_S Mm 136) := by
  obtain ⟨tg, p, w, wf⟩ := id g
  obtain ⟨M1, Mm1, s1, e1, k1, x1, x2, x3, x4, x5, x6⟩ := t_adv h hm tg
  have h1 := x3.kc h
  have hm1 := x4.kc hm
  have g1 := g.mv x3 x4 x5
  have t1 := x5.2.2.1
  have N10 := wf.1.2.2
  have m2 : Mm1 138 2 = nI N := g1.2.2.2.2.1.2.2
  have n10 : ¬ (1 : Int32) = 0 := by decide
  have uc : f_X8_readReversed st_S M 120 = b2 (f_X8_passSuit st_S M1 120 1) (fun v5 M5 => bn v5 (some M5) (fun w5 => gd (gO st_S 6 w5) (some (fw_set M5 w5 9 1)))) := by
    simp only [f_X8_readReversed, gO_120, gd_tt, kc_120_0 h, gN_1, tn_1, gO_1, x1, b1_s, bm_s]
  rw [uc]
  rcases t_suit h1 hm1 g1 (x := 1) (Or.inr rfl) with ⟨v, M2, Mm2, s2, e2, k2, y1, y2, y3, y4, y5, y6, y7, y8, y9⟩ | ⟨u, M2, Mm2, y1, y2, y3, y4, y5⟩ | ⟨v, M2, Mm2, y1, y2, y3, y4, y5, y6, y7, y8⟩
  · have hv10 : v < 10 := by omega
    have h2 := y6.kc h1
    have hm2 := y7.kc hm1
    have g2 := g1.mv y6 y7 y8
    have g21 := y8.2.1.2.2.2.2.2.2.2
    unfold sOk at y2
    rw [if_neg n10] at y2
    have h8 : ¬ sq (Mm1 138) v 8 = 1 := by rw [y2.2]; decide
    have m1g := x5.2.1.2.2.2.2.2.2.2
    have sx := SX.st (a := 71 + v) M2 (j := 9) (by decide) 1
    have sqr : sq (fw_set Mm2 138 (198 + 12 * v + 8) 1 138) v = upd (sq (Mm2 138) v) 8 1 := by rw [fw_set_row, sq_upd _ _ (by omega), if_pos rfl]
    have gg : GD (fw_set M2 (71 + v) 9 1) (fw_set Mm2 138 (198 + 12 * v + 8) 1) B n s2 e2 k2 P L N := by
      refine g2.told y1 sx (fun b hb => set_nr _ _ _ hb) (fun j hj => set_nk _ _ _ _ (by omega)) ?_ ?_
      · rw [sqr, ← g2.2.2.1.2.2.2.2 v y1]; exact cq_set (j := 8) (by omega) 1
      · rw [sqr]
        obtain ⟨a1, a2, a3, a4, a5, a6, a7, a8, a9, a10, a11, a12⟩ := g2.2.2.2.2.2.2.2.2 v y1
        have e6 : sq (Mm2 138) v 6 = sq (Mm1 138) v 6 := by rw [y7.1 138 (by decide)]
        unfold WQ
        rw [upd_ne _ _ (by decide), upd_ne _ _ (by decide), upd_ne _ _ (by decide), upd_ne _ _ (by decide), upd_ne _ _ (by decide), upd_ne _ _ (by decide), upd_ne _ _ (by decide), upd_eq, upd_ne _ _ (by decide), upd_ne _ _ (by decide), upd_ne _ _ (by decide)]
        exact ⟨a1, a2, a3, a4, a5, a6, Or.inr rfl, a8, a9, fun q => absurd (e6 ▸ q) y2.1, a11, a12⟩
    refine ⟨_, _, ?_, ?_, (x3.cf.tr y6.cf).tr (sx.cf hv10), (x4.mg.tr y7.mg).st (198 + 12 * v + 8) 1, gg.2.1, Or.inl ⟨s2, e2, k2, P, L, N, gg, by omega⟩⟩
    · rw [y3, b2_s]
      show gd (gO st_S 6 (71 + v)) (some (fw_set M2 (71 + v) 9 1)) = _
      rw [gO_s42 v hv10, gd_tt]
    · simp only [f_X10_readReversed, gO_136, gd_tt, x2, b1_s, kc_136_1 hm1, gN_138, tn_138, gA_138_2, m2, y4, b2_s, m1g, if_true, m_told hm1 hv10 (j := 6) (x := 6) (by omega) rfl, if_neg y2.1, m_told hm1 hv10 (j := 8) (x := nI 8) (by omega) rfl, if_neg h8, y5, g21, kc_136_1 hm2, l_198, l_12, nI_mul, nI_add, show (8 : Int32) = nI 8 from rfl, gA_138 (show 198 + 12 * v + 8 < 330 by omega), nI_cl (show 198 + 12 * v + 8 < 2147483648 by omega), bm_s]
  · rw [y1, b2_s]
    have e2 : f_X10_readReversed st_S Mm 136 = some Mm2 := by
      simp only [f_X10_readReversed, gO_136, gd_tt, x2, b1_s, kc_136_1 hm1, gN_138, tn_138, gA_138_2, m2, y2, b2_s, if_neg y5.m, b_pass y5]
    rw [e2]
    exact LR.bad (x3.cf.tr y3.cf) (x4.mg.tr y4.mg) (by unfold cLP; rw [y3.1 (42 + 2) (by decide)]; exact g1.2.1) y5
  · rw [y3, b2_s]
    have hv10 : v < 10 := by omega
    have m1g := x5.2.1.2.2.2.2.2.2.2
    have q8 := (g1.2.2.2.2.2.2.2.2 v y1).2.2.2.2.2.2.1
    have e2 : f_X10_readReversed st_S Mm 136 = some Mm2 := by
      simp only [f_X10_readReversed, gO_136, gd_tt, x2, b1_s, kc_136_1 hm1, gN_138, tn_138, gA_138_2, m2, y4, b2_s, m1g, if_true, m_told hm1 hv10 (j := 6) (x := 6) (by omega) rfl, m_told hm1 hv10 (j := 8) (x := 8) (by omega) rfl, y5, b_f52 y8]
      unfold sOk at y2
      rw [if_neg n10] at y2
      by_cases q6 : sq (Mm1 138) v 6 = -1
      · rw [if_pos q6]
      · rw [if_neg q6, if_pos (q8.resolve_left fun z => y2 ⟨q6, z⟩)]
    rw [e2]
    exact LR.bad (x3.cf.tr y6.cf) (x4.mg.tr y7.mg) (by unfold cLP; rw [y6.1 (42 + 2) (by decide)]; exact g1.2.1) y8
end RA
