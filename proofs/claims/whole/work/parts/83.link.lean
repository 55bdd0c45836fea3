/-! ===== a line of a link ===== -/
section LB
variable {M Mm : fw_Mem} {B : Nat → Nat} {n s e k P L N : Nat}
theorem l_lay (h : KC M) (hm : KC Mm) (g : GD M Mm B n s e k P L N) (hL2 : L < 24) {a b d : Nat} (ha : a < P) (hb : b < P) (hd : d ≤ 9999) {x1 u z : Int32} (hx : (x1 = 0 ∧ u = -1 ∧ z = 9999) ∨ (x1 = 1 ∧ ∃ f, f ≤ 9999 ∧ u = nI f ∧ z = nI f)) : LR M Mm B n s (fj_X8_readLink_67 st_S M 120 (nI a) (nI b) (nI d) u) (fj_X10_readLink_61 st_S Mm 136 x1 (nI a) (nI b) (nI d) z) := by
  obtain ⟨tg, p, w, wf⟩ := id g
  have h7 := tg.1.2.2.2.2.2.2.1
  have g21 := tg.2.1.2.2.2.2.2.2.2
  have h5 : M 42 5 = nI L := w.1.2.1
  have m1 : Mm 138 1 = nI L := wf.2.1.2.1
  have hP := wf.1.1
  have n10 := wf.n
  obtain ⟨M1, i1, i2, i3, i4, i5, i6, i7, i8⟩ := c_insert (c := L) (lo_42 h) p h5 hL2 (Nat.le_refl L) (nI a) (nI b) (nI d) u
  have nf : ∀ f, f ≤ 9999 → ¬ nI f = (-1 : Int32) := fun f hf q => by
    have h0 := nI_pos (show f < 2147483648 by omega)
    rw [q] at h0
    exact h0 (by decide)
  have hz : z = clk (nI a) (nI b) (nI d) u 4 := by
    rcases hx with ⟨_, q2, q3⟩ | ⟨_, f, f1, f2, f3⟩
    · rw [q3]; simp [clk, q2]
    · rw [f3]; simp [clk, f2, nf f f1]
  have hy : clk (nI a) (nI b) (nI d) u 2 = if x1 = 0 then 0 else 1 := by
    rcases hx with ⟨q1, q2, q3⟩ | ⟨q1, f, f1, f2, f3⟩
    · simp [clk, q1, q2]
    · simp [clk, q1, f2, nf f f1]
  have wl : WL P (clk (nI a) (nI b) (nI d) u) := by
    refine ⟨⟨a, ha, rfl⟩, ⟨b, hb, rfl⟩, ?_, ⟨d, hd, rfl⟩, ?_⟩
    · by_cases e : u = -1 <;> simp [clk, e]
    · rcases hx with ⟨_, q2, q3⟩ | ⟨_, f, f1, f2, f3⟩
      · exact ⟨9999, by omega, by simp [clk, q2]; rfl⟩
      · exact ⟨f, f1, by simp [clk, f2, nf f f1]⟩
  obtain ⟨D, hD⟩ : ∃ D, D = fw_set (fw_set (fw_set (fw_set (fw_set (fw_set Mm 138 (78 + 5 * L) (nI a)) 138 (78 + 5 * L + 1) (nI b)) 138 (78 + 5 * L + 2) (clk (nI a) (nI b) (nI d) u 2)) 138 (78 + 5 * L + 3) (nI d)) 138 (78 + 5 * L + 4) (clk (nI a) (nI b) (nI d) u 4)) 138 1 (nI (L + 1)) := ⟨_, rfl⟩
  have fD : ∀ b, b ≠ 138 → D b = Mm b := fun b hb => by rw [hD, set_nr _ _ _ hb, set_nr _ _ _ hb, set_nr _ _ _ hb, set_nr _ _ _ hb, set_nr _ _ _ hb, set_nr _ _ _ hb]
  have eD : D 138 = tieR (Mm 138) L (clk (nI a) (nI b) (nI d) u) := by
    rw [hD]
    funext j
    simp only [fw_set, if_true, tieR]
    by_cases j1 : j = 1
    · simp [j1]
    by_cases j4 : j = 78 + 5 * L + 4
    · subst j4; simp [show 78 + 5 * L + 4 < 83 + 5 * L by omega, show 78 + 5 * L + 4 - (78 + 5 * L) = 4 by omega]
    by_cases j3 : j = 78 + 5 * L + 3
    · subst j3; simp [show 78 + 5 * L + 3 < 83 + 5 * L by omega, show 78 + 5 * L + 3 - (78 + 5 * L) = 3 by omega, clk]
    by_cases j2 : j = 78 + 5 * L + 2
    · subst j2; simp [show 78 + 5 * L + 2 < 83 + 5 * L by omega, show 78 + 5 * L + 2 - (78 + 5 * L) = 2 by omega]
    by_cases j0 : j = 78 + 5 * L + 1
    · subst j0; simp [show 78 + 5 * L + 1 < 83 + 5 * L by omega, show 78 + 5 * L + 1 - (78 + 5 * L) = 1 by omega, clk]
    by_cases jj : j = 78 + 5 * L
    · subst jj; simp [j1, clk, show 78 + 5 * L < 83 + 5 * L by omega]
    · have : ¬ (78 + 5 * L ≤ j ∧ j < 83 + 5 * L) := by omega
      simp [j1, j4, j3, j2, j0, jj, this]
  have f1 : CF M M1 := ⟨fun b b1 b2 => i2 b (by omega) (by omega) (by omega), fun j _ => by rw [i2 1 (by omega) (by omega) (by omega)], fun j hj => i3 j (by omega), i2 45 (by omega) (by omega) (by omega), fun s hs => by rw [i2 _ (by omega) (by omega) (by omega)]⟩
  have u1 : MG Mm D := ⟨fun b _ hb => fD b hb, fun j _ => by rw [fD 136 (by decide)]⟩
  refine ⟨M1, D, ?_, ?_, f1, u1, i5, Or.inl ⟨s, e, k, P, L + 1, N, ⟨tg.fr (i2 1 (by omega) (by omega) (by omega)) (i2 2 (by omega) (by omega) (by omega)) (fD 136 (by decide)) (fD 147 (by decide)), i5, ?_, ?_⟩, Nat.le_refl _⟩⟩
  · simp only [fj_X8_readLink_67, gO_120, gd_tt, kc_120_0 h, gN_1, tn_1, gO_1, h7, if_true, kc_120_1 h, gN_42, tn_42, gO_42, h5, i1, b1_s]
  · have kE : KC (fw_set (fw_set (fw_set (fw_set (fw_set Mm 138 (78 + 5 * L) (nI a)) 138 (78 + 5 * L + 1) (nI b)) 138 (78 + 5 * L + 2) (clk (nI a) (nI b) (nI d) u 2)) 138 (78 + 5 * L + 3) (nI d)) 138 (78 + 5 * L + 4) (clk (nI a) (nI b) (nI d) u 4)) := ((((((MG.rf Mm).st _ _).st _ _).st _ _).st _ _).st _ _).kc hm
    have e1 : fw_set (fw_set (fw_set (fw_set (fw_set Mm 138 (78 + 5 * L) (nI a)) 138 (78 + 5 * L + 1) (nI b)) 138 (78 + 5 * L + 2) (clk (nI a) (nI b) (nI d) u 2)) 138 (78 + 5 * L + 3) (nI d)) 138 (78 + 5 * L + 4) (clk (nI a) (nI b) (nI d) u 4) 138 1 = nI L := by
      rw [set_nk _ _ _ _ (by omega), set_nk _ _ _ _ (by omega), set_nk _ _ _ _ (by omega), set_nk _ _ _ _ (by omega), set_nk _ _ _ _ (by omega)]; exact m1
    have f92 : ∀ y, y = clk (nI a) (nI b) (nI d) u 2 → fj_X10_readLink_92 st_S Mm 136 (nI d) z y (nI b) (nI a) (nI L) 138 = some D := fun y hy' => by
      subst hy'
      rw [hD, hz]
      simp only [fj_X10_readLink_92, e_layLink len_138 Mm hL2, b1_s, gO_136, gd_tt, kc_136_1 kE, gN_138, tn_138, gA_138_1, e1, nI_1, bm_s]
    simp only [fj_X10_readLink_61, gO_136, gd_tt, g21, if_true, kc_136_1 hm, gN_138, tn_138, gA_138_1, m1]
    rcases hx with ⟨q1, _⟩ | ⟨q1, _⟩
    · rw [if_pos q1]; exact f92 0 (by rw [hy, if_pos q1])
    · have : ¬ x1 = 0 := by rw [q1]; decide
      rw [if_neg this]; exact f92 1 (by rw [hy, if_neg this])
  · rw [eD]
    obtain ⟨r1, r2, r3, r4, r5⟩ := w
    refine ⟨⟨by rw [i3 4 (by omega)]; exact r1.1, i4, by rw [i3 6 (by omega)]; exact r1.2.2⟩, fun i hi => ?_, fun i hi => ?_, fun l hl => ?_, fun t ht => ?_⟩
    · rw [i2 (42 + 1) (by omega) (by omega) (by omega), tieR_lo (by omega) (by omega)]; exact r2 i hi
    · rw [i2 (42 + 4) (by omega) (by omega) (by omega), tieR_lo (by omega) (by omega)]; exact r3 i hi
    · by_cases e : l = L
      · subst e; rw [tieR_new (clk_5 _ _ _ _)]; exact i7
      · rw [tieR_lq (by omega), i6 l (by omega)]; exact r4 l (by omega)
    · rw [tieR_sq hL2, cq_fr (i2 _ (by omega) (by omega) (by omega))]; exact r5 t ht
  · rw [eD]
    obtain ⟨h1, h2, h3, h4, h5, h6⟩ := wf
    refine ⟨⟨h1.1, by omega, h1.2.2⟩, ?_, ?_, ?_, fun l hl => ?_, fun i hi => by rw [tieR_sq hL2]; exact h6 i hi⟩
    · exact ⟨by rw [tieR_lo (by omega) (by omega)]; exact h2.1, by simp [tieR], by rw [tieR_lo (by omega) (by omega)]; exact h2.2.2⟩
    · rw [tieR_lo (by omega) (by omega)]; exact h3
    · rw [tieR_lo (by omega) (by omega), tieR_lo (by omega) (by omega)]; exact h4
    · by_cases e : l = L
      · subst e; rw [tieR_new (clk_5 _ _ _ _)]; exact wl
      · rw [tieR_lq (by omega)]; exact h5 l (by omega)
theorem LR.pre {M0 Mm0 : fw_Mem} {s0 : Nat} {o om : Option fw_Mem} (f : CF M0 M) (u : MG Mm0 Mm) (hs : s0 ≤ s) (r : LR M Mm B n s o om) : LR M0 Mm0 B n s0 o om := by
  obtain ⟨M', Mm', x1, x2, x3, x4, x5, x6⟩ := r
  refine ⟨M', Mm', x1, x2, f.tr x3, u.tr x4, x5, ?_⟩
  rcases x6 with ⟨s', e', k', P', L', N', q1, q2⟩ | q
  · exact Or.inl ⟨s', e', k', P', L', N', q1, by omega⟩
  · exact Or.inr q
theorem LR.bad {M' Mm' : fw_Mem} (f : CF M M') (u : MG Mm Mm') (p : cLP M' 42) (t : TB M' Mm') : LR M Mm B n s (some M') (some Mm') := ⟨M', Mm', rfl, rfl, f, u, p, Or.inr t⟩
theorem b_f67 (h : KC M) (t : TB M Mm) (x y z v : Int32) : fj_X8_readLink_67 st_S M 120 x y z v = some M := by simp only [fj_X8_readLink_67, gO_120, gd_tt, kc_120_0 h, gN_1, tn_1, gO_1, if_neg t.c]
theorem b_f61 (t : TB M Mm) (x y z v u : Int32) : fj_X10_readLink_61 st_S Mm 136 x y z v u = some Mm := by simp only [fj_X10_readLink_61, gO_136, gd_tt, if_neg t.m]
theorem l_link (h : KC M) (hm : KC Mm) (g : GD M Mm B n s e k P L N) {x : Int32} (hx : x = 0 ∨ x = 1) : LR M Mm B n e (f_X8_readLink st_S M 120 x) (f_X10_readLink st_S Mm 136 x) := by
  obtain ⟨tg, p, w, wf⟩ := id g
  have h5 : M 42 5 = nI L := w.1.2.1
  have m1 : Mm 138 1 = nI L := wf.2.1.2.1
  have hP := wf.1.1
  have hL := wf.1.2.1
  have n10 : ¬ (1 : Int32) = 0 := by decide
  by_cases hL2 : L = 24
  · obtain ⟨M', Mm', x1, x2, x3, x4, x5⟩ := t_fail tg (f := 4) (by omega)
    rw [show nI 4 = (4 : Int32) from rfl] at x1 x2
    have q : ¬ nI L < 24 := by rw [hL2]; decide
    have q' : nI L = 24 := by rw [hL2]; rfl
    have e1 : f_X8_readLink st_S M 120 x = some M' := by
      simp only [f_X8_readLink, gO_120, gd_tt, kc_120_1 h, gN_42, tn_42, gO_42, h5, if_neg q, kc_120_0 h, gN_1, tn_1, gO_1, x1, b1_s]
    have e2 : f_X10_readLink st_S Mm 136 x = some Mm' := by
      simp only [f_X10_readLink, gO_136, gd_tt, kc_136_1 hm, gN_138, tn_138, gA_138_1, m1, if_pos q', x2, b1_s, fj_X10_readLink_16, b_pass x5, b_known x5, b2_s, b_number x5, b_f61 x5]
      split <;> rfl
    rw [e1, e2]
    exact LR.bad x3.cf x4.mg (by unfold cLP; rw [x3.1 (42 + 2) (by decide)]; exact p) x5
  · have q : nI L < 24 := (nI_ltI (b := 24) (by omega) (by omega)).mpr (by omega)
    have q' : ¬ nI L = 24 := fun z => hL2 ((nI_eq (b := 24) (by omega) (by omega)).mp z)
    obtain ⟨M1, Mm1, s1, e1, k1, x1, x2, x3, x4, x5, x6⟩ := t_adv h hm tg
    have h1 := x3.kc h
    have hm1 := x4.kc hm
    have g1 := g.mv x3 x4 x5
    have t1 := x5.2.2.1
    have uc : f_X8_readLink st_S M 120 x = b2 (f_X8_passName st_S M1 120 (-1)) (fun v8 M8 => b2 (f_X8_passName st_S M8 120 v8) (fun v9 M9 => b2 (f_X8_passNumber st_S M9 120 0 9999) (fun v10 M10 => if x = 0 then fj_X8_readLink_67 st_S M10 120 v8 v9 v10 (-1) else (b2 (f_X8_passNumber st_S M10 120 v10 9999) (fun v19 M19 => fj_X8_readLink_67 st_S M19 120 v8 v9 v10 v19))))) := by
      simp only [f_X8_readLink, gO_120, gd_tt, kc_120_1 h, gN_42, tn_42, gO_42, h5, if_pos q, kc_120_0 h, gN_1, tn_1, gO_1, x1, b1_s]
    have um : f_X10_readLink st_S Mm 136 x = b2 (f_X10_readKnown st_S Mm1 136 (-1)) (fun v6 M6 => b2 (f_X10_readKnown st_S M6 136 v6) (fun v7 M7 => b2 (f_X10_number st_S M7 136 0 9999) (fun v8 M8 => if x = 0 then fj_X10_readLink_61 st_S M8 136 x v6 v7 v8 9999 else (b2 (f_X10_number st_S M8 136 v8 9999) (fun v20 M20 => fj_X10_readLink_61 st_S M20 136 x v6 v7 v8 v20))))) := by
      simp only [f_X10_readLink, gO_136, gd_tt, kc_136_1 hm, gN_138, tn_138, gA_138_1, m1, if_neg q', x2, b1_s]
    rw [uc, um]
    have z0 : (0 : Int32) = nI 0 := rfl
    have z9 : (9999 : Int32) = nI 9999 := rfl
    rcases t_name h1 hm1 x5 g1.2.2.1 hP g1.2.2.2.2.1.1 (-1) with ⟨a, M2, Mm2, s2, e2, k2, a1, a2, a3, a4, a5, a6, a7, a8⟩ | ⟨u, M2, Mm2, a3, a4, a5, a6, a7⟩
    · have h2 := a5.kc h1
      have hm2 := a6.kc hm1
      have g2 := g1.mv a5 a6 a7
      have t2 := a7.2.2.1
      rw [a3, a4, b2_s, b2_s]
      rcases t_name h2 hm2 a7 g2.2.2.1 hP g2.2.2.2.2.1.1 (nI a) with ⟨b, M3, Mm3, s3, e3, k3, c1, c2, c3, c4, c5, c6, c7, c8⟩ | ⟨u, M3, Mm3, c3, c4, c5, c6, c7⟩
      · have h3 := c5.kc h2
        have hm3 := c6.kc hm2
        have g3 := g2.mv c5 c6 c7
        have t3 := c7.2.2.1
        rw [c3, c4, b2_s, b2_s]
        rcases t_number h3 hm3 c7 (lo := 0) (hi := 9999) (by omega) (by omega) with ⟨d, M4, Mm4, s4, e4, k4, d1, d2, d3, d4, d5, d6, d7, d8⟩ | ⟨u, M4, Mm4, d3, d4, d5, d6, d7⟩
        · have h4 := d5.kc h3
          have hm4 := d6.kc hm3
          have g4 := g3.mv d5 d6 d7
          have t4 := d7.2.2.1
          rw [← z0, ← z9] at d3 d4
          rw [d3, d4, b2_s, b2_s]
          rcases hx with hx | hx
          · rw [if_pos hx, if_pos hx]
            exact (l_lay h4 hm4 g4 (by omega) a1 c1 d2 (Or.inl ⟨hx, rfl, rfl⟩)).pre (((x3.cf.tr a5.cf).tr c5.cf).tr d5.cf) (((x4.mg.tr a6.mg).tr c6.mg).tr d6.mg) (by omega)
          · have hx0 : ¬ x = 0 := by rw [hx]; decide
            rw [if_neg hx0, if_neg hx0]
            rcases t_number h4 hm4 d7 (lo := d) (hi := 9999) d2 (by omega) with ⟨f, M5, Mm5, s5, e5, k5, f1, f2, f3, f4, f5, f6, f7, f8⟩ | ⟨u, M5, Mm5, f3, f4, f5, f6, f7⟩
            · have h5 := f5.kc h4
              have hm5 := f6.kc hm4
              have g5 := g4.mv f5 f6 f7
              rw [← z9] at f3 f4
              rw [f3, f4, b2_s, b2_s]
              exact (l_lay h5 hm5 g5 (by omega) a1 c1 d2 (Or.inr ⟨hx, f, f2, rfl, rfl⟩)).pre ((((x3.cf.tr a5.cf).tr c5.cf).tr d5.cf).tr f5.cf) ((((x4.mg.tr a6.mg).tr c6.mg).tr d6.mg).tr f6.mg) (by omega)
            · rw [← z9] at f3 f4
              rw [f3, f4, b2_s, b2_s, b_f67 (f5.kc h4) f7, b_f61 f7]
              exact LR.bad ((((x3.cf.tr a5.cf).tr c5.cf).tr d5.cf).tr f5.cf) ((((x4.mg.tr a6.mg).tr c6.mg).tr d6.mg).tr f6.mg) (by unfold cLP; rw [f5.1 (42 + 2) (by decide)]; exact g4.2.1) f7
        · have h4 := d5.kc h3
          rw [← z0, ← z9] at d3 d4
          rw [d3, d4, b2_s, b2_s, b_f67 h4 d7, b_f61 d7, b_passNumber h4 d7, b_number d7, b2_s, b2_s, b_f67 h4 d7, b_f61 d7]
          simp only [ite_self]
          exact LR.bad (((x3.cf.tr a5.cf).tr c5.cf).tr d5.cf) (((x4.mg.tr a6.mg).tr c6.mg).tr d6.mg) (by unfold cLP; rw [d5.1 (42 + 2) (by decide)]; exact g3.2.1) d7
      · have h4 := c5.kc h2
        rw [c3, c4, b2_s, b2_s, b_passNumber h4 c7, b_number c7, b2_s, b2_s, b_f67 h4 c7, b_f61 c7, b_passNumber h4 c7, b_number c7, b2_s, b2_s, b_f67 h4 c7, b_f61 c7]
        simp only [ite_self]
        exact LR.bad ((x3.cf.tr a5.cf).tr c5.cf) ((x4.mg.tr a6.mg).tr c6.mg) (by unfold cLP; rw [c5.1 (42 + 2) (by decide)]; exact g2.2.1) c7
    · have h4 := a5.kc h1
      rw [a3, a4, b2_s, b2_s, b_passName h4 a7, b_known a7, b2_s, b2_s, b_passNumber h4 a7, b_number a7, b2_s, b2_s, b_f67 h4 a7, b_f61 a7, b_passNumber h4 a7, b_number a7, b2_s, b2_s, b_f67 h4 a7, b_f61 a7]
      simp only [ite_self]
      exact LR.bad (x3.cf.tr a5.cf) (x4.mg.tr a6.mg) (by unfold cLP; rw [a5.1 (42 + 2) (by decide)]; exact g1.2.1) a7
end LB
