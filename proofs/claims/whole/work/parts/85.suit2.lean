section SC
variable {M Mm : fw_Mem} {B : Nat → Nat} {n s e k P L N : Nat}
def mS (Mm : fw_Mem) : Option fw_Mem := b2 (f_X10_readKnown st_S Mm 136 (-1)) (fun v6 M6 => b2 (f_X10_readKnown st_S M6 136 v6) (fun v7 M7 => b2 (f_X10_number st_S M7 136 0 9999) (fun v8 M8 => b2 (f_X10_readSet st_S M8 136 1000007 2147483647) (fun v9 M9 => b2 (f_X10_readSet st_S M9 136 1000018 2147483647) (fun v10 M10 => b2 (f_X10_readSet st_S M10 136 1000003 ((2147483647 : Int32) &&& (v10 ^^^ (-1)))) (fun v11 M11 => mS4 M11 v6 v7 v8 v9 v10 v11))))))
theorem mS4_bad (t : TB M Mm) (a b c d e f : Int32) : mS4 Mm a b c d e f = some Mm := by unfold mS4; rw [if_neg t.m]
theorem c_decide (h : KC M) (hN : N < 10) (x y : Int32) (hy : y = 0 ∨ y = 1) : ∃ M', f_X6_decide st_S M (71 + N) x y = some M' ∧ SX (71 + N) M M' ∧ M' (71 + N) 7 = x ∧ M' (71 + N) 8 = y ∧ (∀ j, 9 ≤ j → j < 13 → M' (71 + N) j = 0) ∧ ∀ j, j < 7 → M' (71 + N) j = M (71 + N) j := by
  have gb : gB y = true := by rcases hy with q | q <;> rw [q] <;> rfl
  refine ⟨_, by simp only [f_X6_decide, gO_s42 N hN, gd_tt, bm_s, gb]; rfl, ((((((SX.st M (by decide) x).tr (SX.st _ (by decide) y)).tr (SX.st _ (by decide) 0)).tr (SX.st _ (by decide) 0)).tr (SX.st _ (by decide) 0)).tr (SX.st _ (by decide) 0)), ?_, ?_, fun j h1 h2 => ?_, fun j hj => ?_⟩
  · simp [fw_set]
  · simp [fw_set]
  · rcases (by omega : j = 9 ∨ j = 10 ∨ j = 11 ∨ j = 12) with rfl | rfl | rfl | rfl <;> simp [fw_set]
  · simp [fw_set, show ¬ j = 7 by omega, show ¬ j = 8 by omega, show ¬ j = 9 by omega, show ¬ j = 10 by omega, show ¬ j = 11 by omega, show ¬ j = 12 by omega]
theorem l_suit (h : KC M) (hm : KC Mm) (g : GD M Mm B n s e k P L N) : LR M Mm B n e (f_X8_readSuit st_S M 120) (f_X10_readSuit st_S Mm 136) := by
  obtain ⟨tg, p, w, wf⟩ := id g
  have h6 : M 42 6 = nI N := w.1.2.2
  have m2 : Mm 138 2 = nI N := wf.2.1.2.2
  have hP := wf.1.1
  have hN := wf.1.2.2
  by_cases hN2 : N = 10
  · obtain ⟨M', Mm', x1, x2, x3, x4, x5⟩ := t_fail tg (f := 4) (by omega)
    rw [show nI 4 = (4 : Int32) from rfl] at x1 x2
    have q : ¬ nI N < 10 := by rw [hN2]; decide
    have q' : nI N = 10 := by rw [hN2]; rfl
    have e1 : f_X8_readSuit st_S M 120 = some M' := by
      simp only [f_X8_readSuit, gO_120, gd_tt, kc_120_1 h, gN_42, tn_42, gO_42, h6, if_neg q, kc_120_0 h, gN_1, tn_1, gO_1, x1, b1_s]
    have e2 : f_X10_readSuit st_S Mm 136 = some Mm' := by
      simp only [f_X10_readSuit, gO_136, gd_tt, kc_136_1 hm, gN_138, tn_138, gA_138_2, m2, if_pos q', x2, b1_s, fj_X10_readSuit_16, b_pass x5, b_known x5, b2_s, b_number x5, b_readSet x5, if_neg x5.m]
    rw [e1, e2]
    exact LR.bad x3.cf x4.mg (by unfold cLP; rw [x3.1 (42 + 2) (by decide)]; exact p) x5
  · have hN9 : N < 10 := by omega
    have q : nI N < 10 := (nI_ltI (b := 10) (by omega) (by omega)).mpr (by omega)
    have q' : ¬ nI N = 10 := fun z => hN2 ((nI_eq (b := 10) (by omega) (by omega)).mp z)
    obtain ⟨M1, Mm1, s1, e1, k1, x1, x2, x3, x4, x5, x6⟩ := t_adv h hm tg
    have h1 := x3.kc h
    have hm1 := x4.kc hm
    have g1 := g.mv x3 x4 x5
    have t1 := x5.2.2.1
    have m16 : M1 42 6 = nI N := g1.2.2.1.1.2.2
    obtain ⟨M2, d1, d2, d3, d4, d5, d6⟩ := c_decide h1 hN9 (-1) 0 (Or.inl rfl)
    have uc : f_X8_readSuit st_S M 120 = sT1 (71 + N) M2 := by
      simp only [f_X8_readSuit, gO_120, gd_tt, kc_120_1 h, gN_42, tn_42, gO_42, h6, if_pos q, kc_120_0 h, gN_1, tn_1, gO_1, x1, b1_s, kc_120_1 h1, kc_42_2 h1, gN_45, tn_45, m16, gA_45 hN9, nI_cl (show N < 2147483648 by omega), kc_s42 h1 hN9, nI_gN (show 71 + N < 2147483648 by omega), nI_cl (show 71 + N < 2147483648 by omega), gO_s42 N hN9, d1]
      rfl
    have um : f_X10_readSuit st_S Mm 136 = mS Mm1 := by
      simp only [f_X10_readSuit, gO_136, gd_tt, kc_136_1 hm, gN_138, tn_138, gA_138_2, m2, if_neg q', x2, b1_s]
      rfl
    rw [uc, um]
    have k2 := (d2.cf hN9).kc h1
    have g2 := d2.gd hN9 (Nat.le_refl _) g1
    have f2 : CF M M2 := x3.cf.tr (d2.cf hN9)
    have z0 : (0 : Int32) = nI 0 := rfl
    have z9 : (9999 : Int32) = nI 9999 := rfl
    unfold sT1 mS
    rcases t_name k2 hm1 g2.1 g2.2.2.1 hP g2.2.2.2.2.1.1 (-1) with ⟨a, M3, Mm3, s3, e3, k3, a1, a2, a3, a4, a5, a6, a7, a8⟩ | ⟨u, M3, Mm3, a3, a4, a5, a6, a7⟩
    rotate_left
    · have kk := a5.kc k2
      have sx := SX.st (a := 71 + N) M3 (j := 1) (by decide) (-1)
      have fx : CF M (fw_set M3 (71 + N) 1 (-1)) := (f2.tr a5.cf).tr (sx.cf hN9)
      obtain ⟨M', y⟩ := sT2_bad hN9 ((sx.cf hN9).kc kk) (sx.tb hN9 a7)
      rw [a3, a4, b2_s, b2_s]
      simp only [b_known a7, b2_s, b_number a7, b_readSet a7, mS4_bad a7]
      exact l_bad (a := 0) hN9 fx (x4.mg.tr a6.mg) (by unfold cLP; rw [sx.1 (42 + 2) (by omega), a5.1 (42 + 2) (by decide)]; exact g2.2.1) (sx.tb hN9 a7) y
    have sx3 := SX.st (a := 71 + N) M3 (j := 1) (by decide) (nI a)
    obtain ⟨M4, hM4⟩ : ∃ m, m = fw_set M3 (71 + N) 1 (nI a) := ⟨_, rfl⟩
    rw [← hM4] at sx3
    have k4 := (sx3.cf hN9).kc (a5.kc k2)
    have hm4 := a6.kc hm1
    have g4 := sx3.gd hN9 (Nat.le_refl _) (g2.mv a5 a6 a7)
    have f4 : CF M M4 := (f2.tr a5.cf).tr (sx3.cf hN9)
    have u4 : MG Mm Mm3 := x4.mg.tr a6.mg
    have t4 := a7.2.2.1
    have r4 : M4 (71 + N) 1 = nI a := by rw [hM4, set_eq]
    rw [a3, a4, b2_s, b2_s, ← hM4]
    unfold sT2
    rw [r4]
    rcases t_name k4 hm4 g4.1 g4.2.2.1 hP g4.2.2.2.2.1.1 (nI a) with ⟨b, M5, Mm5, s5, e5, k5, b1, b2', b3, b4, b5, b6, b7, b8⟩ | ⟨u, M5, Mm5, b3, b4, b5, b6, b7⟩
    rotate_left
    · have sx := SX.st (a := 71 + N) M5 (j := 2) (by decide) (-1)
      obtain ⟨M', y⟩ := sT3_bad hN9 ((sx.cf hN9).kc (b5.kc k4)) (sx.tb hN9 b7)
      rw [b3, b4, b2_s, b2_s]
      simp only [b2_s, b_number b7, b_readSet b7, mS4_bad b7]
      exact l_bad (a := 0) hN9 ((f4.tr b5.cf).tr (sx.cf hN9)) (u4.tr b6.mg) (by unfold cLP; rw [sx.1 (42 + 2) (by omega), b5.1 (42 + 2) (by decide)]; exact g4.2.1) (sx.tb hN9 b7) y
    have sx5 := SX.st (a := 71 + N) M5 (j := 2) (by decide) (nI b)
    obtain ⟨M6, hM6⟩ : ∃ m, m = fw_set M5 (71 + N) 2 (nI b) := ⟨_, rfl⟩
    rw [← hM6] at sx5
    have k6 := (sx5.cf hN9).kc (b5.kc k4)
    have hm6 := b6.kc hm4
    have g6 := sx5.gd hN9 (Nat.le_refl _) (g4.mv b5 b6 b7)
    have f6 : CF M M6 := (f4.tr b5.cf).tr (sx5.cf hN9)
    have u6 : MG Mm Mm5 := u4.tr b6.mg
    have t6 := b7.2.2.1
    rw [b3, b4, b2_s, b2_s, ← hM6]
    unfold sT3
    rcases t_number k6 hm6 g6.1 (lo := 0) (hi := 9999) (by omega) (by omega) with ⟨d, M7, Mm7, s7, e7, k7, c1, c2, c3, c4, c5, c6, c7, c8⟩ | ⟨u, M7, Mm7, c3, c4, c5, c6, c7⟩
    rotate_left
    · have sx := SX.st (a := 71 + N) M7 (j := 3) (by decide) (-1)
      obtain ⟨M', y⟩ := sT4_bad hN9 ((sx.cf hN9).kc (c5.kc k6)) (sx.tb hN9 c7)
      rw [← z0, ← z9] at c3 c4
      rw [c3, c4, b2_s, b2_s]
      simp only [b2_s, b_readSet c7, mS4_bad c7]
      exact l_bad (a := 0) hN9 ((f6.tr c5.cf).tr (sx.cf hN9)) (u6.tr c6.mg) (by unfold cLP; rw [sx.1 (42 + 2) (by omega), c5.1 (42 + 2) (by decide)]; exact g6.2.1) (sx.tb hN9 c7) y
    have sx7 := SX.st (a := 71 + N) M7 (j := 3) (by decide) (nI d)
    obtain ⟨M8, hM8⟩ : ∃ m, m = fw_set M7 (71 + N) 3 (nI d) := ⟨_, rfl⟩
    rw [← hM8] at sx7
    have k8 := (sx7.cf hN9).kc (c5.kc k6)
    have hm8 := c6.kc hm6
    have g8 := sx7.gd hN9 (Nat.le_refl _) (g6.mv c5 c6 c7)
    have f8 : CF M M8 := (f6.tr c5.cf).tr (sx7.cf hN9)
    have u8 : MG Mm Mm7 := u6.tr c6.mg
    have t8 := c7.2.2.1
    rw [← z0, ← z9] at c3 c4
    rw [c3, c4, b2_s, b2_s, ← hM8]
    unfold sT4
    rcases t_rset k8 hm8 g8.1 wd_7 2147483647 with ⟨v9, M9, Mm9, s9, e9, k9, i1, i2, i3, i4, i5, i6, i7⟩ | ⟨u, M9, Mm9, i2, i3, i4, i5, i6⟩
    rotate_left
    · have sx := SX.st (a := 71 + N) M9 (j := 4) (by decide) 0
      obtain ⟨M', y⟩ := sT5_bad hN9 ((sx.cf hN9).kc (i4.kc k8)) (sx.tb hN9 i6)
      rw [i2, i3, b2_s, b2_s]
      simp only [b2_s, b_readSet i6, mS4_bad i6]
      exact l_bad (a := 0) hN9 ((f8.tr i4.cf).tr (sx.cf hN9)) (u8.tr i5.mg) (by unfold cLP; rw [sx.1 (42 + 2) (by omega), i4.1 (42 + 2) (by decide)]; exact g8.2.1) (sx.tb hN9 i6) y
    have sx9 := SX.st (a := 71 + N) M9 (j := 4) (by decide) v9
    obtain ⟨M10, hM10⟩ : ∃ m, m = fw_set M9 (71 + N) 4 v9 := ⟨_, rfl⟩
    rw [← hM10] at sx9
    have k10 := (sx9.cf hN9).kc (i4.kc k8)
    have hm10 := i5.kc hm8
    have g10 := sx9.gd hN9 (Nat.le_refl _) (g8.mv i4 i5 i6)
    have f10 : CF M M10 := (f8.tr i4.cf).tr (sx9.cf hN9)
    have u10 : MG Mm Mm9 := u8.tr i5.mg
    rw [i2, i3, b2_s, b2_s, ← hM10]
    unfold sT5
    rcases t_rset k10 hm10 g10.1 wd_18 2147483647 with ⟨v10, M11, Mm11, s11, e11, k11, j1, j2, j3, j4, j5, j6, j7⟩ | ⟨u, M11, Mm11, j2, j3, j4, j5, j6⟩
    rotate_left
    · have sx := SX.st (a := 71 + N) M11 (j := 5) (by decide) 0
      obtain ⟨M', y⟩ := sT6_bad hN9 ((sx.cf hN9).kc (j4.kc k10)) (sx.tb hN9 j6)
      rw [j2, j3, b2_s, b2_s]
      simp only [b2_s, b_readSet j6, mS4_bad j6]
      exact l_bad (a := 0) hN9 ((f10.tr j4.cf).tr (sx.cf hN9)) (u10.tr j5.mg) (by unfold cLP; rw [sx.1 (42 + 2) (by omega), j4.1 (42 + 2) (by decide)]; exact g10.2.1) (sx.tb hN9 j6) y
    have sx11 := SX.st (a := 71 + N) M11 (j := 5) (by decide) v10
    obtain ⟨M12, hM12⟩ : ∃ m, m = fw_set M11 (71 + N) 5 v10 := ⟨_, rfl⟩
    rw [← hM12] at sx11
    have k12 := (sx11.cf hN9).kc (j4.kc k10)
    have hm12 := j5.kc hm10
    have g12 := sx11.gd hN9 (Nat.le_refl _) (g10.mv j4 j5 j6)
    have f12 : CF M M12 := (f10.tr j4.cf).tr (sx11.cf hN9)
    have u12 : MG Mm Mm11 := u10.tr j5.mg
    have r12 : M12 (71 + N) 5 = v10 := by rw [hM12, set_eq]
    rw [j2, j3, b2_s, b2_s, ← hM12]
    unfold sT6
    rw [r12]
    rcases t_rset k12 hm12 g12.1 wd_3 ((2147483647 : Int32) &&& (v10 ^^^ (-1))) with ⟨v11, M13, Mm13, s13, e13, k13, l1, l2, l3, l4, l5, l6, l7⟩ | ⟨u, M13, Mm13, l2, l3, l4, l5, l6⟩
    rotate_left
    · have sx := SX.st (a := 71 + N) M13 (j := 6) (by decide) 0
      rw [l2, l3, b2_s, b2_s, mS4_bad l6, sF_bad ((sx.cf hN9).kc (l4.kc k12)) (sx.tb hN9 l6)]
      exact LR.bad ((f12.tr l4.cf).tr (sx.cf hN9)) (u12.tr l5.mg) (by unfold cLP; rw [sx.1 (42 + 2) (by omega), l4.1 (42 + 2) (by decide)]; exact g12.2.1) (sx.tb hN9 l6)
    have sx13 := SX.st (a := 71 + N) M13 (j := 6) (by decide) v11
    obtain ⟨M14, hM14⟩ : ∃ m, m = fw_set M13 (71 + N) 6 v11 := ⟨_, rfl⟩
    rw [← hM14] at sx13
    have k14 := (sx13.cf hN9).kc (l4.kc k12)
    have hm14 := l5.kc hm12
    have g14 := sx13.gd hN9 (Nat.le_refl _) (g12.mv l4 l5 l6)
    rw [l2, l3, b2_s, b2_s, ← hM14]
    refine (l_put k14 hm14 g14 hN9 a1 b1 c2 j1 l1 (fun j hj => ?_)).pre ((f12.tr l4.cf).tr (sx13.cf hN9)) (u12.tr l5.mg) (by omega)
    have e13 : M13 (71 + N) = M12 (71 + N) := l4.1 _ (by omega)
    have e11 : M11 (71 + N) = M10 (71 + N) := j4.1 _ (by omega)
    have e9 : M9 (71 + N) = M8 (71 + N) := i4.1 _ (by omega)
    have e7 : M7 (71 + N) = M6 (71 + N) := c5.1 _ (by omega)
    have e5 : M5 (71 + N) = M4 (71 + N) := b5.1 _ (by omega)
    have e3 : M3 (71 + N) = M2 (71 + N) := a5.1 _ (by omega)
    have row : M14 (71 + N) = upd (upd (upd (upd (upd (upd (M2 (71 + N)) 1 (nI a)) 2 (nI b)) 3 (nI d)) 4 v9) 5 v10) 6 v11 := by
      rw [hM14, fw_set_row, e13, hM12, fw_set_row, e11, hM10, fw_set_row, e9, hM8, fw_set_row, e7, hM6, fw_set_row, e5, hM4, fw_set_row, e3]
    rw [row]
    rcases (by omega : j = 0 ∨ j = 1 ∨ j = 2 ∨ j = 3 ∨ j = 4 ∨ j = 5 ∨ j = 6 ∨ j = 7 ∨ 8 ≤ j) with rfl | rfl | rfl | rfl | rfl | rfl | rfl | rfl | hj8
    · rfl
    · rfl
    · rfl
    · rfl
    · rfl
    · rfl
    · rw [upd_ne _ _ (by decide), upd_ne _ _ (by decide), upd_ne _ _ (by decide), upd_ne _ _ (by decide), upd_ne _ _ (by decide), upd_ne _ _ (by decide)]; exact d3
    · rw [upd_ne _ _ (by decide), upd_ne _ _ (by decide), upd_ne _ _ (by decide), upd_ne _ _ (by decide), upd_ne _ _ (by decide), upd_ne _ _ (by decide)]; exact d4
    · rw [upd_ne _ _ (by omega), upd_ne _ _ (by omega), upd_ne _ _ (by omega), upd_ne _ _ (by omega), upd_ne _ _ (by omega), upd_ne _ _ (by omega), d5 _ (by omega) (by omega)]
      simp [show ¬ j = 0 by omega, show ¬ j = 1 by omega, show ¬ j = 2 by omega, show ¬ j = 3 by omega, show ¬ j = 4 by omega, show ¬ j = 5 by omega, show ¬ j = 6 by omega]
end SC
