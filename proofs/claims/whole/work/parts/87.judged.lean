/-! ===== a line of a judgment ===== -/
def jC (w : Nat) (M : fw_Mem) : Option fw_Mem := b2 (f_X8_passSet st_S M 120 1000029 ((M w 10) ||| (M w 11))) (fun v M' => some (fw_set M' w 12 v))
def jB (w : Nat) (M : fw_Mem) : Option fw_Mem := b1 (f_X6_allIssues st_S M w) (fun v20 => b2 (f_X8_passSet st_S M 120 1000019 (v20 &&& ((M w 10) ^^^ (-1)))) (fun v M' => jC w (fw_set M' w 11 v)))
def jA (w : Nat) (M : fw_Mem) : Option fw_Mem := b1 (f_X6_allIssues st_S M w) (fun v17 => b2 (f_X8_passSet st_S M 120 1000031 v17) (fun v M' => jB w (fw_set M' w 10 v)))
def jD (w : Nat) (M : fw_Mem) (x y : Int32) : Option fw_Mem := b1 (f_X6_decide st_S M w x y) (fun M13 => gd (gN (M13 120 0)) (gd (gO st_S 7 ((M13 120 0).toNatClampNeg)) (b1 (f_X7_advance st_S M13 ((M13 120 0).toNatClampNeg)) (fun M15 => jA w M15))))
def jE (w : Nat) (M : fw_Mem) : Option fw_Mem := b2 (f_X8_passNumber st_S M 120 (M w 3) 9999) (fun v7 M7 => gd (gN (M7 120 0)) (gd (gO st_S 7 ((M7 120 0).toNatClampNeg)) (b1 (f_X7_isWord st_S M7 ((M7 120 0).toNatClampNeg) 1000016) (fun v9 => if v9 = 0 then (b1 (f_X7_isWord st_S M7 ((M7 120 0).toNatClampNeg) 1000011) (fun v25 => if v25 = 0 then (b1 (f_X7_fail st_S M7 ((M7 120 0).toNatClampNeg) 1) (fun M40 => fj_X8_readJudged_64 st_S M40 120 w v7 v9)) else (if (M7 ((M7 120 0).toNatClampNeg) 7) = 0 then jD w M7 v7 v9 else (some M7)))) else (if (M7 ((M7 120 0).toNatClampNeg) 7) = 0 then jD w M7 v7 v9 else (some M7))))))
section JA
variable {M Mm : fw_Mem} {B : Nat → Nat} {n s e k P L N : Nat}
theorem c_allI (v : Nat) (hv : v < 10) : f_X6_allIssues st_S M (71 + v) = some (M (71 + v) 5 ||| M (71 + v) 6) := by simp only [f_X6_allIssues, gO_s42 v hv, gd_tt]
theorem jC_bad {v : Nat} (hv : v < 10) (h : KC M) (t : TB M Mm) : ∃ M', jC (71 + v) M = some M' ∧ SX (71 + v) M M' := ⟨_, by rw [jC, b_passSet h t, b2_s], SX.st M (by decide) 0⟩
theorem jB_bad {v : Nat} (hv : v < 10) (h : KC M) (t : TB M Mm) : ∃ M', jB (71 + v) M = some M' ∧ SX (71 + v) M M' := by
  have x := SX.st (a := 71 + v) M (j := 11) (by decide) 0
  obtain ⟨M', y1, y2⟩ := jC_bad hv ((x.cf hv).kc h) (x.tb hv t)
  exact ⟨M', by rw [jB, c_allI v hv, b1_s, b_passSet h t, b2_s]; exact y1, x.tr y2⟩
theorem jA_bad {v : Nat} (hv : v < 10) (h : KC M) (t : TB M Mm) : ∃ M', jA (71 + v) M = some M' ∧ SX (71 + v) M M' := by
  have x := SX.st (a := 71 + v) M (j := 10) (by decide) 0
  obtain ⟨M', y1, y2⟩ := jB_bad hv ((x.cf hv).kc h) (x.tb hv t)
  exact ⟨M', by rw [jA, c_allI v hv, b1_s, b_passSet h t, b2_s]; exact y1, x.tr y2⟩
theorem b_f64 (h : KC M) (t : TB M Mm) (w : Nat) (x y : Int32) : fj_X8_readJudged_64 st_S M 120 w x y = some M := by simp only [fj_X8_readJudged_64, gO_120, gd_tt, kc_120_0 h, gN_1, tn_1, gO_1, if_neg t.c]
theorem b_f125 (t : TB M Mm) (a b c d : Int32) : fj_X10_readJudged_125 st_S Mm 136 a b c d = some Mm := by simp only [fj_X10_readJudged_125, gO_136, gd_tt, b_readSet t, b2_s, if_neg t.m]
theorem b_f97 (t : TB M Mm) (a b c : Int32) : fj_X10_readJudged_97 st_S Mm 136 a b c = some Mm := by simp only [fj_X10_readJudged_97, gO_136, gd_tt, b_pass t, b1_s, if_neg t.m, b_f125 t]
theorem b_f63 (t : TB M Mm) (a b : Int32) : fj_X10_readJudged_63 st_S Mm 136 a b 136 = some Mm := by simp only [fj_X10_readJudged_63, gO_136, gd_tt, b_number t, b2_s, b_word t, b1_s, if_true, b_wrong t, b_f97 t]
theorem GD.told2 {M' Mm' : fw_Mem} {v s' e' k' : Nat} (g : GD M Mm B n s e k P L N) (hv : v < N) (tg : TG M' Mm' B n s' e' k') (f : ∀ b, b ≠ 1 → b ≠ 71 + v → M' b = M b) (hr : ∀ j, (j < 198 + 12 * v ∨ 210 + 12 * v ≤ j) → Mm' 138 j = Mm 138 j) (hq : cq M' (71 + v) = sq (Mm' 138) v) (wq : WQ P (sq (Mm' 138) v)) : GD M' Mm' B n s' e' k' P L N := by
  obtain ⟨_, p, w, wf⟩ := g
  have N10 := wf.1.2.2
  have l24 := wf.1.2.1
  have hP := wf.1.1
  have sD : ∀ t, t < N → t ≠ v → sq (Mm' 138) t = sq (Mm 138) t := fun t _ ht => by
    funext j
    unfold sq
    split
    · exact hr _ (by omega)
    · rfl
  have lD : ∀ l, l < 24 → lq (Mm' 138) l = lq (Mm 138) l := fun l hl => by
    funext j
    unfold lq
    split
    · exact hr _ (by omega)
    · rfl
  refine ⟨tg, ?_, ?_, ?_⟩
  · unfold cLP; rw [f (42 + 2) (by omega) (by omega)]; exact p
  · obtain ⟨r1, r2, r3, r4, r5⟩ := w
    refine ⟨by rw [f 42 (by omega) (by omega)]; exact r1, fun i hi => ?_, fun i hi => ?_, fun l hl => ?_, fun t ht => ?_⟩
    · rw [f _ (by omega) (by omega), hr _ (by omega)]; exact r2 i hi
    · rw [f _ (by omega) (by omega), hr _ (by omega)]; exact r3 i hi
    · obtain ⟨j, j1, j2, j3⟩ := p.at (l := l) (by omega) (by omega)
      have := r4 l hl
      rw [f (42 + 2) (by omega) (by omega), lD l (by omega)]
      rw [j3] at this ⊢
      rw [cl_fr (f _ (by omega) (by omega))]; exact this
    · by_cases et : t = v
      · subst et; exact hq
      · rw [cq_fr (f _ (by omega) (by omega)), sD t ht et]; exact r5 t ht
  · obtain ⟨z1, z2, z3, z4, z5, z6⟩ := wf
    refine ⟨z1, ⟨by rw [hr _ (by omega)]; exact z2.1, by rw [hr _ (by omega)]; exact z2.2.1, by rw [hr _ (by omega)]; exact z2.2.2⟩, by rw [hr _ (by omega)]; exact z3, by rw [hr _ (by omega), hr _ (by omega)]; exact z4, fun l hl => by rw [lD l (by omega)]; exact z5 l hl, fun t ht => ?_⟩
    by_cases et : t = v
    · subst et; exact wq
    · rw [sD t ht et]; exact z6 t ht
theorem sub_or {x y z : Int32} (h1 : x &&& (z ^^^ (-1)) = 0) (h2 : y &&& ((z &&& (x ^^^ (-1))) ^^^ (-1)) = 0) : x &&& y = 0 ∧ (x ||| y) &&& (z ^^^ (-1)) = 0 := by
  have hy : ∀ i, i < 32 → bt y i = true → bt z i = true ∧ bt x i = false := fun i hi hb => by
    have := sub_bt h2 hi hb
    rw [b_and, b_not _ hi] at this
    simpa using this
  refine ⟨bt_0iff.mpr fun i hi => ?_, bt_0iff.mpr fun i hi => ?_⟩
  · rw [b_and]
    cases q : bt y i
    · simp
    · rw [(hy i hi q).2]; rfl
  · rw [b_and, b_or, b_not _ hi]
    cases qx : bt x i
    · cases qy : bt y i
      · rfl
      · rw [(hy i hi qy).1]; rfl
    · rw [sub_bt h1 hi qx]; cases bt y i <;> rfl
/-- the judgment is told: from its word on -/
theorem l_dec (h : KC M) (hm : KC Mm) (g : GD M Mm B n s e k P L N) {v : Nat} (hv : v < N) (h6 : sq (Mm 138) v 6 = -1) {d : Nat} (hd : d ≤ 9999) {y : Int32} (hy : y = 0 ∨ y = 1) : LR M Mm B n e (jD (71 + v) M (nI d) y) (b1 (f_X10_pass st_S Mm 136) (fun M43 => if (M43 136 21) = 0 then (b1 (f_X10_toldOf st_S M43 136 (nI v) 4) (fun v45 => b1 (f_X10_toldOf st_S M43 136 (nI v) 5) (fun v46 => fj_X10_readJudged_125 st_S M43 136 (nI v) (nI d) y (v45 ||| v46)))) else fj_X10_readJudged_125 st_S M43 136 (nI v) (nI d) y 0)) := by
  obtain ⟨tg, p, w, wf⟩ := id g
  have N10 := wf.1.2.2
  have hv10 : v < 10 := by omega
  obtain ⟨M1, d1, d2, d3, d4, d5, d6⟩ := c_decide h hv10 (nI d) y hy
  have k1 := (d2.cf hv10).kc h
  have tg1 : TG M1 Mm B n s e k := tg.fr (d2.1 1 (by omega)) (d2.1 2 (by omega)) rfl rfl
  obtain ⟨M2, Mm2, s2, e2, k2, x1, x2, x3, x4, x5, x6⟩ := t_adv k1 hm tg1
  have h2 := x3.kc k1
  have hm2 := x4.kc hm
  have g21 := x5.2.1.2.2.2.2.2.2.2
  have f2 : CF M M2 := (d2.cf hv10).tr x3.cf
  have p2 : cLP M2 42 := by unfold cLP; rw [x3.1 (42 + 2) (by decide), d2.1 (42 + 2) (by omega)]; exact p
  have e138 : Mm2 138 = Mm 138 := x4.1 138 (by decide)
  have wq := wf.2.2.2.2.2 v hv
  have rq : ∀ j, j < 12 → M (71 + v) (1 + j) = sq (Mm 138) v j := fun j hj => by
    rw [← w.2.2.2.2 v hv]
    show _ = (if j < 12 then M (42 + 29 + v) (1 + j) else 0)
    rw [if_pos hj]
  have r2 : M2 (71 + v) = M1 (71 + v) := x3.1 _ (by omega)
  have c5 : M2 (71 + v) 5 = sq (Mm 138) v 4 := by rw [r2, d6 5 (by omega)]; exact rq 4 (by omega)
  have c6 : M2 (71 + v) 6 = sq (Mm 138) v 5 := by rw [r2, d6 6 (by omega)]; exact rq 5 (by omega)
  have uc : jD (71 + v) M (nI d) y = jA (71 + v) M2 := by
    unfold jD
    simp only [d1, b1_s, kc_120_0 k1, gN_1, tn_1, gO_1, gd_tt, x1]
  have um : b1 (f_X10_pass st_S Mm 136) (fun M43 => if (M43 136 21) = 0 then (b1 (f_X10_toldOf st_S M43 136 (nI v) 4) (fun v45 => b1 (f_X10_toldOf st_S M43 136 (nI v) 5) (fun v46 => fj_X10_readJudged_125 st_S M43 136 (nI v) (nI d) y (v45 ||| v46)))) else fj_X10_readJudged_125 st_S M43 136 (nI v) (nI d) y 0) = fj_X10_readJudged_125 st_S Mm2 136 (nI v) (nI d) y (sq (Mm 138) v 4 ||| sq (Mm 138) v 5) := by
    simp only [x2, b1_s, g21, if_true, m_told hm2 hv10 (j := 4) (x := 4) (by omega) rfl, m_told hm2 hv10 (j := 5) (x := 5) (by omega) rfl, e138]
  rw [uc, um]
  unfold jA
  rw [c_allI v hv10, b1_s, c5, c6]
  generalize hz : sq (Mm 138) v 4 ||| sq (Mm 138) v 5 = z
  rcases t_rset h2 hm2 x5 wd_31 z with ⟨v16, M3, Mm3, s3, e3, k3, i1, i2, i3, i4, i5, i6, i7⟩ | ⟨u, M3, Mm3, i2, i3, i4, i5, i6⟩
  rotate_left
  · have sx := SX.st (a := 71 + v) M3 (j := 10) (by decide) 0
    obtain ⟨M', yy⟩ := jB_bad hv10 ((sx.cf hv10).kc (i4.kc h2)) (sx.tb hv10 i6)
    rw [i2, b2_s]
    have em : fj_X10_readJudged_125 st_S Mm2 136 (nI v) (nI d) y z = some Mm3 := by simp only [fj_X10_readJudged_125, gO_136, gd_tt, i3, b2_s, b_readSet i6, if_neg i6.m]
    rw [em]
    exact l_bad (a := 0) hv10 ((f2.tr i4.cf).tr (sx.cf hv10)) (x4.mg.tr i5.mg) (by unfold cLP; rw [sx.1 (42 + 2) (by omega), i4.1 (42 + 2) (by decide)]; exact p2) (sx.tb hv10 i6) yy
  have sx3 := SX.st (a := 71 + v) M3 (j := 10) (by decide) v16
  obtain ⟨M4, hM4⟩ : ∃ m, m = fw_set M3 (71 + v) 10 v16 := ⟨_, rfl⟩
  rw [← hM4] at sx3
  have k4 := (sx3.cf hv10).kc (i4.kc h2)
  have hm4 := i5.kc hm2
  have tg4 : TG M4 Mm3 B n s3 e3 k3 := i6.fr (sx3.1 1 (by omega)) (sx3.1 2 (by omega)) rfl rfl
  have f4 : CF M M4 := (f2.tr i4.cf).tr (sx3.cf hv10)
  have u4 : MG Mm Mm3 := x4.mg.tr i5.mg
  have p4 : cLP M4 42 := by unfold cLP; rw [sx3.1 (42 + 2) (by omega), i4.1 (42 + 2) (by decide)]; exact p2
  have row4 : M4 (71 + v) = upd (M1 (71 + v)) 10 v16 := by rw [hM4, fw_set_row, i4.1 _ (by omega), r2]
  have c45 : M4 (71 + v) 5 ||| M4 (71 + v) 6 = z := by
    rw [row4, upd_ne _ _ (by decide), upd_ne _ _ (by decide), ← r2, c5, c6]; exact hz
  have c410 : M4 (71 + v) 10 = v16 := by rw [row4, upd_eq]
  rw [i2, b2_s, ← hM4]
  unfold jB
  rw [c_allI v hv10, b1_s, c45, c410]
  rcases t_rset k4 hm4 tg4 wd_19 (z &&& (v16 ^^^ (-1))) with ⟨v18, M5, Mm5, s5, e5, k5, j1, j2, j3, j4, j5, j6, j7⟩ | ⟨u, M5, Mm5, j2, j3, j4, j5, j6⟩
  rotate_left
  · have sx := SX.st (a := 71 + v) M5 (j := 11) (by decide) 0
    obtain ⟨M', yy⟩ := jC_bad hv10 ((sx.cf hv10).kc (j4.kc k4)) (sx.tb hv10 j6)
    rw [j2, b2_s]
    have em : fj_X10_readJudged_125 st_S Mm2 136 (nI v) (nI d) y z = some Mm5 := by simp only [fj_X10_readJudged_125, gO_136, gd_tt, i3, b2_s, j3, b_readSet j6, if_neg j6.m]
    rw [em]
    exact l_bad (a := 0) hv10 ((f4.tr j4.cf).tr (sx.cf hv10)) (u4.tr j5.mg) (by unfold cLP; rw [sx.1 (42 + 2) (by omega), j4.1 (42 + 2) (by decide)]; exact p4) (sx.tb hv10 j6) yy
  have sx5 := SX.st (a := 71 + v) M5 (j := 11) (by decide) v18
  obtain ⟨M6, hM6⟩ : ∃ m, m = fw_set M5 (71 + v) 11 v18 := ⟨_, rfl⟩
  rw [← hM6] at sx5
  have k6 := (sx5.cf hv10).kc (j4.kc k4)
  have hm6 := j5.kc hm4
  have tg6 : TG M6 Mm5 B n s5 e5 k5 := j6.fr (sx5.1 1 (by omega)) (sx5.1 2 (by omega)) rfl rfl
  have f6 : CF M M6 := (f4.tr j4.cf).tr (sx5.cf hv10)
  have u6 : MG Mm Mm5 := u4.tr j5.mg
  have p6 : cLP M6 42 := by unfold cLP; rw [sx5.1 (42 + 2) (by omega), j4.1 (42 + 2) (by decide)]; exact p4
  have row6 : M6 (71 + v) = upd (upd (M1 (71 + v)) 10 v16) 11 v18 := by rw [hM6, fw_set_row, j4.1 _ (by omega), row4]
  have c610 : M6 (71 + v) 10 = v16 := by rw [row6, upd_ne _ _ (by decide), upd_eq]
  have c611 : M6 (71 + v) 11 = v18 := by rw [row6, upd_eq]
  rw [j2, b2_s, ← hM6]
  unfold jC
  rw [c610, c611]
  rcases t_rset k6 hm6 tg6 wd_29 (v16 ||| v18) with ⟨v19, M7, Mm7, s7, e7, k7, l1, l2, l3, l4, l5, l6, l7⟩ | ⟨u, M7, Mm7, l2, l3, l4, l5, l6⟩
  rotate_left
  · have sx := SX.st (a := 71 + v) M7 (j := 12) (by decide) 0
    rw [l2, b2_s]
    have em : fj_X10_readJudged_125 st_S Mm2 136 (nI v) (nI d) y z = some Mm7 := by simp only [fj_X10_readJudged_125, gO_136, gd_tt, i3, b2_s, j3, l3, if_neg l6.m]
    rw [em]
    exact LR.bad ((f6.tr l4.cf).tr (sx.cf hv10)) (u6.tr l5.mg) (by unfold cLP; rw [sx.1 (42 + 2) (by omega), l4.1 (42 + 2) (by decide)]; exact p6) (sx.tb hv10 l6)
  have sx7 := SX.st (a := 71 + v) M7 (j := 12) (by decide) v19
  obtain ⟨M8, hM8⟩ : ∃ m, m = fw_set M7 (71 + v) 12 v19 := ⟨_, rfl⟩
  rw [← hM8] at sx7
  have hm8 := l5.kc hm6
  have g721 := l6.2.1.2.2.2.2.2.2.2
  have f8 : CF M M8 := (f6.tr l4.cf).tr (sx7.cf hv10)
  have u8 : MG Mm Mm7 := u6.tr l5.mg
  have row8 : M8 (71 + v) = upd (upd (upd (M1 (71 + v)) 10 v16) 11 v18) 12 v19 := by rw [hM8, fw_set_row, l4.1 _ (by omega), row6]
  have r7 : Mm7 138 = Mm 138 := by rw [l5.1 138 (by decide), j5.1 138 (by decide), i5.1 138 (by decide)]; exact e138
  obtain ⟨D, hD⟩ : ∃ D, D = fw_set (fw_set (fw_set (fw_set (fw_set Mm7 138 (198 + 12 * v + 6) (nI d)) 138 (198 + 12 * v + 7) y) 138 (198 + 12 * v + 9) v16) 138 (198 + 12 * v + 10) v18) 138 (198 + 12 * v + 11) v19 := ⟨_, rfl⟩
  have K1 := ((MG.rf Mm7).st (198 + 12 * v + 6) (nI d)).kc hm8
  have K2 := (((MG.rf Mm7).st (198 + 12 * v + 6) (nI d)).st (198 + 12 * v + 7) y).kc hm8
  have K3 := ((((MG.rf Mm7).st (198 + 12 * v + 6) (nI d)).st (198 + 12 * v + 7) y).st (198 + 12 * v + 9) v16).kc hm8
  have K4 := (((((MG.rf Mm7).st (198 + 12 * v + 6) (nI d)).st (198 + 12 * v + 7) y).st (198 + 12 * v + 9) v16).st (198 + 12 * v + 10) v18).kc hm8
  have uD : MG Mm D := by rw [hD]; exact ((((u8.st _ _).st _ _).st _ _).st _ _).st _ _
  have fD : ∀ b, b ≠ 138 → D b = Mm7 b := fun b hb => by rw [hD, set_nr _ _ _ hb, set_nr _ _ _ hb, set_nr _ _ _ hb, set_nr _ _ _ hb, set_nr _ _ _ hb]
  have rD : ∀ j, (j < 198 + 12 * v ∨ 210 + 12 * v ≤ j) → D 138 j = Mm 138 j := fun j j2 => by
    rw [hD, set_nk _ _ _ _ (by omega), set_nk _ _ _ _ (by omega), set_nk _ _ _ _ (by omega), set_nk _ _ _ _ (by omega), set_nk _ _ _ _ (by omega), r7]
  have q8 : sq (Mm 138) v 8 = 0 := (wq.2.2.2.2.2.2.2.2.2.1 h6).2.1
  have qD : ∀ j, j < 12 → sq (D 138) v j = if j = 6 then nI d else if j = 7 then y else if j = 8 then 0 else if j = 9 then v16 else if j = 10 then v18 else if j = 11 then v19 else sq (Mm 138) v j := fun j hj => by
    have hsq : sq (D 138) v j = D 138 (198 + 12 * v + j) := by unfold sq; rw [if_pos hj]
    rw [hsq, hD]
    rcases (by omega : j < 6 ∨ j = 6 ∨ j = 7 ∨ j = 8 ∨ j = 9 ∨ j = 10 ∨ j = 11) with q | rfl | rfl | rfl | rfl | rfl | rfl
    · rw [set_nk _ _ _ _ (by omega), set_nk _ _ _ _ (by omega), set_nk _ _ _ _ (by omega), set_nk _ _ _ _ (by omega), set_nk _ _ _ _ (by omega), r7]
      simp only [show ¬ j = 6 by omega, show ¬ j = 7 by omega, show ¬ j = 8 by omega, show ¬ j = 9 by omega, show ¬ j = 10 by omega, show ¬ j = 11 by omega, if_false]
      unfold sq; rw [if_pos hj]
    · rw [set_nk _ _ _ _ (by omega), set_nk _ _ _ _ (by omega), set_nk _ _ _ _ (by omega), set_nk _ _ _ _ (by omega), set_eq]; rfl
    · rw [set_nk _ _ _ _ (by omega), set_nk _ _ _ _ (by omega), set_nk _ _ _ _ (by omega), set_eq]; rfl
    · rw [set_nk _ _ _ _ (by omega), set_nk _ _ _ _ (by omega), set_nk _ _ _ _ (by omega), set_nk _ _ _ _ (by omega), set_nk _ _ _ _ (by omega), r7]
      exact q8
    · rw [set_nk _ _ _ _ (by omega), set_nk _ _ _ _ (by omega), set_eq]; rfl
    · rw [set_nk _ _ _ _ (by omega), set_eq]; rfl
    · rw [set_eq]; rfl
  have cM : cq M8 (71 + v) = sq (D 138) v := by
    funext j
    by_cases hj : j < 12
    · rw [qD j hj]
      unfold cq
      rw [if_pos hj, row8]
      rcases (by omega : j < 6 ∨ j = 6 ∨ j = 7 ∨ j = 8 ∨ j = 9 ∨ j = 10 ∨ j = 11) with q | rfl | rfl | rfl | rfl | rfl | rfl
      · rw [upd_ne _ _ (by omega), upd_ne _ _ (by omega), upd_ne _ _ (by omega), d6 _ (by omega)]
        simp only [show ¬ j = 6 by omega, show ¬ j = 7 by omega, show ¬ j = 8 by omega, show ¬ j = 9 by omega, show ¬ j = 10 by omega, show ¬ j = 11 by omega, if_false]
        exact rq j hj
      · rw [upd_ne _ _ (by omega), upd_ne _ _ (by omega), upd_ne _ _ (by omega)]; exact d3
      · rw [upd_ne _ _ (by omega), upd_ne _ _ (by omega), upd_ne _ _ (by omega)]; exact d4
      · rw [upd_ne _ _ (by omega), upd_ne _ _ (by omega), upd_ne _ _ (by omega)]; exact d5 9 (by omega) (by omega)
      · rfl
      · rfl
      · rfl
    · unfold cq sq; rw [if_neg hj, if_neg hj]
  have wqD : WQ P (sq (D 138) v) := by
    obtain ⟨so1, so2⟩ := sub_or i1 j1
    obtain ⟨a1, a2, a3, a4, a5, a6, a7, a8, a9, a10, a11, a12⟩ := wq
    unfold WQ
    rw [qD 0 (by omega), qD 1 (by omega), qD 2 (by omega), qD 4 (by omega), qD 5 (by omega), qD 6 (by omega), qD 7 (by omega), qD 8 (by omega), qD 9 (by omega), qD 10 (by omega), qD 11 (by omega)]
    refine ⟨a1, a2, a3, a4, Or.inr ⟨d, hd, rfl⟩, hy, Or.inl rfl, so1, ?_, fun q => ?_, a11, a12⟩
    · show (v16 ||| v18) &&& ((sq (Mm 138) v 4 ||| sq (Mm 138) v 5) ^^^ (-1)) = 0
      rw [hz]; exact so2
    · have h0 := nI_pos (show d < 2147483648 by omega)
      have q' : nI d = (-1 : Int32) := q
      rw [q'] at h0
      exact absurd (by decide) h0
  have tgD : TG M8 D B n s7 e7 k7 := l6.fr (sx7.1 1 (by omega)) (sx7.1 2 (by omega)) (fD 136 (by decide)) (fD 147 (by decide))
  have gD : GD M8 D B n s7 e7 k7 P L N := g.told2 hv tgD (fun b b1 b2 => by rw [sx7.1 b b2, l4.1 b b1, sx5.1 b b2, j4.1 b b1, sx3.1 b b2, i4.1 b b1, x3.1 b b1, d2.1 b b2]) rD cM wqD
  rw [l2, b2_s, ← hM8]
  refine ⟨M8, D, rfl, ?_, f8, uD, gD.2.1, Or.inl ⟨s7, e7, k7, P, L, N, gD, by omega⟩⟩
  have gA6 : ∀ j, j < 12 → gA st_S 0 138 (nI (198 + 12 * v + j)) = true := fun j hj => gA_138 (by omega)
  have f215 : ∀ t : Int32, t = y → fj_X10_readJudged_215 st_S (fw_set Mm7 138 (198 + 12 * v + 6) (nI d)) 136 v16 v18 v19 (nI (198 + 12 * v)) t (nI (198 + 12 * v + 7)) 138 = some D := fun t ht => by
    subst ht
    rw [hD]
    simp only [fj_X10_readJudged_215, gA6 7 (by omega), gd_tt, bm_s, nI_cl (show 198 + 12 * v + 7 < 2147483648 by omega), gO_136, kc_136_1 K2, gN_138, tn_138, show (9 : Int32) = nI 9 from rfl, show (10 : Int32) = nI 10 from rfl, show (11 : Int32) = nI 11 from rfl, nI_add, gA6 9 (by omega), gA6 10 (by omega), gA6 11 (by omega), nI_cl (show 198 + 12 * v + 9 < 2147483648 by omega), nI_cl (show 198 + 12 * v + 10 < 2147483648 by omega), nI_cl (show 198 + 12 * v + 11 < 2147483648 by omega), kc_136_1 K3, kc_136_1 K4]
  simp only [fj_X10_readJudged_125, gO_136, gd_tt, i3, b2_s, j3, l3, g721, if_true, l_198, l_12, nI_mul, nI_add, bm_s, kc_136_1 hm8, gN_138, tn_138, show (6 : Int32) = nI 6 from rfl, show (7 : Int32) = nI 7 from rfl, gA6 6 (by omega), nI_cl (show 198 + 12 * v + 6 < 2147483648 by omega), kc_136_1 K1]
  rcases hy with q | q
  · rw [if_pos q]; exact f215 0 q.symm
  · rw [if_neg (by rw [q]; decide)]; exact f215 1 q.symm
end JA
