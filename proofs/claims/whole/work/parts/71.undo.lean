/-! ===== undo ===== -/
section QU
variable {M : fw_Mem}
/-- the class takes its latest act back -/
theorem c_takeBack {P L N A T U L0 : Nat} {hh : Bool} {r0 : Nat → Int32} (iv : IV M P L N (A + 1) T U hh) (hA : A < 12) (w0 : WF r0 P L0 N) (u : UD (arow (M 132) A) (M 137) L r0 L0 P N) : ∃ M6, f_X0_takeBack st_S M 131 3 = some M6 ∧ (∀ b, ¬ (3 ≤ b ∧ b < 42) → b ≠ 131 → M6 b = M b) ∧ M6 131 = upd (M 131) 1 (nI A) ∧ KC M6 ∧ cLP M6 3 ∧ RW M6 3 r0 P L0 N := by
  obtain ⟨h, w, ⟨p3, -⟩, r3, c, -, ac, -⟩ := id iv
  have n10 := w.n
  have p12 := w.1.1
  have l24 := w.1.2.1
  have l024 := w0.1.2.1
  obtain ⟨M3, hM3⟩ : ∃ m, m = fw_set M 131 1 (nI A) := ⟨_, rfl⟩
  have k3 : KC M3 := by rw [hM3]; exact kc_set h (by decide +kernel)
  have f3 : ∀ b, b ≠ 131 → M3 b = M b := fun b hb => by rw [hM3, set_nr _ _ _ hb]
  have f31 : M3 131 = upd (M 131) 1 (nI A) := by rw [hM3, fw_set_row]
  have e31 : M3 131 1 = nI A := by rw [hM3, set_eq]
  have ar : ∀ k, k < 6 → M3 132 (A * 6 + k) = arow (M 132) A k := fun k hk => by
    rw [f3 132 (by omega), arow, if_pos hk, Nat.mul_comm]
  have p3' : cLP M3 3 := by unfold cLP; rw [f3 (3 + 2) (by omega)]; exact p3
  have L3 : M3 3 5 = nI L := by rw [f3 3 (by omega)]; exact r3.1.2.1
  have rw3' : RW M3 3 (M 137) P L N := RW.fr p3 (by omega) l24 n10 (fun b h1 h2 => f3 b (by omega)) r3
  obtain ⟨s1, s2, s3, s4, s5⟩ := rw3'
  have hpos : (0 : Int32) < nI (A + 1) := nI_lt (a := 0) (b := A + 1) (by omega) (by omega)
  have g0 := ar 0 (by omega)
  have g1 := ar 1 (by omega)
  rw [Nat.add_zero] at g0
  have base : f_X0_takeBack st_S M 131 3 = (if arow (M 132) A 0 = 3 then (b1 (f_X4_removeLink st_S M3 3 (arow (M 132) A 1)) (fun M46 => some M46)) else (if arow (M 132) A 0 = 4 then (b1 (f_X4_insertLink st_S M3 3 (arow (M 132) A 1) (arow (M 132) A 2) (arow (M 132) A 3) (arow (M 132) A 4) (arow (M 132) A 5)) (fun M44 => some M44)) else (if arow (M 132) A 0 = 5 then (if arow (M 132) A 1 < 0 then (some M3) else (if (2 : Int32) < arow (M 132) A 1 then (if arow (M 132) A 1 < 0 then (some M3) else (if (M3 3 6) ≤ arow (M 132) A 1 then (some M3) else (gd (gA st_S 4 6 (arow (M 132) A 1)) (gd (gN (M3 6 (arow (M 132) A 1).toNatClampNeg)) (b1 (f_X0_takeBackOf st_S M3 131 (M3 6 (arow (M 132) A 1).toNatClampNeg).toNatClampNeg (nI (A * 6))) (fun M34 => some M34)))))) else (gd (gA st_S 0 7 (arow (M 132) A 1)) (some (fw_set M3 7 (arow (M 132) A 1).toNatClampNeg (arow (M 132) A 2)))))) else (if arow (M 132) A 1 < 0 then (some M3) else (if (M3 3 6) ≤ arow (M 132) A 1 then (some M3) else (gd (gA st_S 4 6 (arow (M 132) A 1)) (gd (gN (M3 6 (arow (M 132) A 1).toNatClampNeg)) (b1 (f_X0_takeBackOf st_S M3 131 (M3 6 (arow (M 132) A 1).toNatClampNeg).toNatClampNeg (nI (A * 6))) (fun M18 => some M18))))))))) := by
    rw [hM3] at k3 e31 g0 g1 ⊢
    have g2 := ar 2 (by omega)
    have g3 := ar 3 (by omega)
    have g4 := ar 4 (by omega)
    have g5 := ar 5 (by omega)
    rw [hM3] at g2 g3 g4 g5
    have es1 : nI (A + 1) - nI 1 = nI A := nI_pred A
    simp only [f_X0_takeBack, gO_131, gd_tt, ac.1, if_pos hpos, es1, bm_s, kc_131_0 k3, gN_132, tn_132, e31, l_6, show (1 : Int32) = nI 1 from rfl, show (2 : Int32) = nI 2 from rfl, show (3 : Int32) = nI 3 from rfl, show (4 : Int32) = nI 4 from rfl, show (5 : Int32) = nI 5 from rfl, nI_mul, nI_add, gA_132 (show A * 6 < 72 by omega), gA_132 (show A * 6 + 1 < 72 by omega), gA_132 (show A * 6 + 2 < 72 by omega), gA_132 (show A * 6 + 3 < 72 by omega), gA_132 (show A * 6 + 4 < 72 by omega), gA_132 (show A * 6 + 5 < 72 by omega), nI_cl (show A * 6 < 2147483648 by omega), nI_cl (show A * 6 + 1 < 2147483648 by omega), nI_cl (show A * 6 + 2 < 2147483648 by omega), nI_cl (show A * 6 + 3 < 2147483648 by omega), nI_cl (show A * 6 + 4 < 2147483648 by omega), nI_cl (show A * 6 + 5 < 2147483648 by omega), g0, g1, g2, g3, g4, g5, gO_3, kc_3_2 k3, show gN (nI 6) = true from gN_6, show (nI 6).toNatClampNeg = 6 from tn_6, kc_3_3 k3, gN_7, tn_7]
    by_cases q : arow (M 132) A 1 < 0 <;> simp [q]
  obtain ⟨u0, u2⟩ := u
  rcases u2 with ⟨a1, a2, a3, a4, a5, a6⟩ | ⟨a1, a2, a3, a4, cc, b1', b2', b3', b4', b5'⟩ | ⟨a1, a2, a3, a4, cc, b1', b2', b3', b4'⟩ | ⟨a1, a2, a3, s, b1', b2', b3', b4', b5'⟩
  · -- a link that was tied
    obtain ⟨M6, i1, i2, i3, i4, i5, i6, i7⟩ := c_remove (c := L0) (lo_3 k3) p3' L3 l24 (by omega)
    refine ⟨M6, ?_, fun b b1 b2 => by rw [i2 b (by omega) (by omega), f3 b b2], by rw [i2 131 (by omega) (by omega), f31], kc_lk k3 (fun b b1 b2 b3 => i2 b b2 b3) i3, i5, ?_⟩
    · rw [base, if_pos a1, a5, i1, b1_s]
    · have ff : ∀ j, j ≠ 5 → M6 3 j = M3 3 j := i3
      refine ⟨⟨by rw [ff 4 (by omega)]; exact s1.1, by rw [i4]; congr 1; omega, by rw [ff 6 (by omega)]; exact s1.2.2⟩, fun i hi => ?_, fun i hi => ?_, fun t ht => ?_, fun t ht => ?_⟩
      · rw [i2 (3 + 1) (by omega) (by omega), u0 i hi]; exact s2 i hi
      · rw [i2 (3 + 4) (by omega) (by omega), a2 i hi]; exact s3 i hi
      · obtain ⟨a, x1, x2, x3⟩ := p3'.at (l := t) (by omega) (by omega)
        have := s4 t (by omega)
        rw [i6 t (by omega), a6 t ht]
        rw [x3] at this ⊢
        rw [cl_fr (i2 _ (by omega) (by omega))]; exact this
      · rw [cq_fr (i2 _ (by omega) (by omega)), a3 t ht]; exact s5 t ht
  · -- a link that was cut
    obtain ⟨M6, i1, i2, i3, i4, i5, i6, i7, i8⟩ := c_insert (c := cc) (lo_3 k3) p3' L3 (by omega) b1' (arow (M 132) A 2) (arow (M 132) A 3) (arow (M 132) A 4) (arow (M 132) A 5)
    have n4 : ¬ (4 : Int32) = 3 := by decide
    refine ⟨M6, ?_, fun b b1 b2 => by rw [i2 b (by omega) (by omega) (by omega), f3 b b2], by rw [i2 131 (by omega) (by omega) (by omega), f31], kc_lk k3 (fun b b1 b2 b3 => i2 b (by omega) b2 b3) i3, i5, ?_⟩
    · rw [base, if_neg (by rw [a1]; decide), if_pos a1, b2', i1, b1_s]
    · refine ⟨⟨by rw [i3 4 (by omega)]; exact s1.1, by rw [i4, a4], by rw [i3 6 (by omega)]; exact s1.2.2⟩, fun i hi => ?_, fun i hi => ?_, fun t ht => ?_, fun t ht => ?_⟩
      · rw [i2 (3 + 1) (by omega) (by omega) (by omega), u0 i hi]; exact s2 i hi
      · rw [i2 (3 + 4) (by omega) (by omega) (by omega), a2 i hi]; exact s3 i hi
      · by_cases e1 : t < cc
        · rw [i6 t e1, b3' t e1]; exact s4 t (by omega)
        · by_cases e2 : t = cc
          · subst e2; rw [i7, b5']
          · obtain ⟨t', rfl⟩ : ∃ t', t = t' + 1 := ⟨t - 1, by omega⟩
            rw [i8 (t' + 1) (by omega) (by omega), b4' t' (by omega) (by omega)]
            exact s4 t' (by omega)
      · rw [cq_fr (i2 _ (by omega) (by omega) (by omega)), a3 t ht]; exact s5 t ht
  · -- a rule
    have hcc : ¬ nI cc < 0 := nI_pos (by omega)
    have hc2 : ¬ (2 : Int32) < nI cc := by rw [show (2 : Int32) = nI 2 from rfl, nI_ltI (by omega) (by omega)]; omega
    have kr : KC (fw_set M3 7 cc (arow (M 132) A 2)) := kc_ne k3 7 (by decide +kernel) fun b hb => set_nr _ _ _ hb
    refine ⟨fw_set M3 7 cc (arow (M 132) A 2), ?_, fun b b1 b2 => by rw [set_nr _ _ _ (by omega), f3 b b2], by rw [set_nr _ _ _ (by omega), f31], kr, by unfold cLP; rw [set_nr _ _ _ (by omega)]; exact p3', ?_⟩
    · rw [base, if_neg (by rw [a1]; decide), if_neg (by rw [a1]; decide), if_pos a1, b2', if_neg hcc, if_neg hc2, gA_7 b1', gd_tt, nI_cl (by omega)]
    · refine ⟨⟨by rw [set_na _ _ _ _ (by omega)]; exact s1.1, by rw [set_na _ _ _ _ (by omega), a2]; exact s1.2.1, by rw [set_na _ _ _ _ (by omega)]; exact s1.2.2⟩, fun i hi => ?_, fun i hi => ?_, fun t ht => ?_, fun t ht => ?_⟩
      · rw [set_na _ _ _ _ (by omega), u0 i hi]; exact s2 i hi
      · show fw_set M3 7 cc (arow (M 132) A 2) 7 i = _
        by_cases e : i = cc
        · subst e; rw [set_eq, b3']
        · rw [set_nk _ _ _ _ e, b4' i hi e]; exact s3 i hi
      · obtain ⟨a, x1, x2, x3⟩ := p3'.at (l := t) (by omega) (by omega)
        have := s4 t (by omega)
        rw [set_nr _ _ _ (show 3 + 2 ≠ 7 by omega), a3 t (by omega)]
        rw [x3] at this ⊢
        rw [cl_fr (set_nr _ _ _ (by omega))]; exact this
      · rw [cq_fr (set_nr _ _ _ (by omega)), a4 t ht]; exact s5 t ht
  · -- a suit's judgment
    have hs10 : s < 10 := by omega
    have hss : ¬ nI s < 0 := nI_pos (by omega)
    have hsN : ¬ M3 3 6 ≤ nI s := by rw [s1.2.2]; exact nI_ge b1' (by omega)
    have hg := gO_s3 s hs10
    have eqs : cq M3 (32 + s) = sq (M 137) s := by have := s5 s b1'; rwa [show 3 + 29 + s = 32 + s by omega] at this
    have kd : ¬ arow (M 132) A 0 = 3 ∧ ¬ arow (M 132) A 0 = 4 ∧ ¬ arow (M 132) A 0 = 5 := by
      rcases b5' with q | q | q <;> (rw [q.1]; decide)
    have base2 : f_X0_takeBack st_S M 131 3 = b1 (f_X0_takeBackOf st_S M3 131 (32 + s) (nI (A * 6))) (fun M18 => some M18) := by
      rw [base, if_neg kd.1, if_neg kd.2.1, if_neg kd.2.2, b2', if_neg hss, if_neg hsN, gA_6 hs10, gd_tt, nI_cl (by omega), kc_s3 k3 hs10, nI_gN (by omega), gd_tt, nI_cl (by omega)]
    -- what is laid into the suit
    have fin : ∀ M6 : fw_Mem, f_X0_takeBackOf st_S M3 131 (32 + s) (nI (A * 6)) = some M6 → (∀ b, b ≠ 32 + s → M6 b = M3 b) → M6 (32 + s) 0 = M3 (32 + s) 0 → cq M6 (32 + s) = sq r0 s → ∃ M6, f_X0_takeBack st_S M 131 3 = some M6 ∧ (∀ b, ¬ (3 ≤ b ∧ b < 42) → b ≠ 131 → M6 b = M b) ∧ M6 131 = upd (M 131) 1 (nI A) ∧ KC M6 ∧ cLP M6 3 ∧ RW M6 3 r0 P L0 N := by
      intro M6 h1 h2 h3 h4
      refine ⟨M6, by rw [base2, h1, b1_s], fun b x1 x2 => by rw [h2 b (by omega), f3 b x2], by rw [h2 131 (by omega), f31], ?_, by unfold cLP; rw [h2 (3 + 2) (by omega)]; exact p3', ?_⟩
      · refine kc_cong k3 fun q hq => ?_
        have z2 := List.all_eq_true.mp (by decide +kernel : (kcl.all fun q => (decide (q.1 < 32) || decide (41 < q.1)) || q.2.1 == 0) = true) q hq
        simp only [Bool.or_eq_true, decide_eq_true_eq, beq_iff_eq] at z2
        by_cases e : q.1 = 32 + s
        · have : q.2.1 = 0 := by omega
          rw [e, this]; exact h3
        · rw [h2 _ e]
      · refine ⟨⟨by rw [h2 3 (by omega)]; exact s1.1, by rw [h2 3 (by omega), a1]; exact s1.2.1, by rw [h2 3 (by omega)]; exact s1.2.2⟩, fun i hi => ?_, fun i hi => ?_, fun t ht => ?_, fun t ht => ?_⟩
        · rw [h2 (3 + 1) (by omega), u0 i hi]; exact s2 i hi
        · rw [h2 (3 + 4) (by omega), a3 i hi]; exact s3 i hi
        · obtain ⟨a, x1, x2, x3⟩ := p3'.at (l := t) (by omega) (by omega)
          have := s4 t (by omega)
          rw [h2 (3 + 2) (by omega), a2 t (by omega)]
          rw [x3] at this ⊢
          rw [cl_fr (h2 _ (by omega))]; exact this
        · by_cases e : t = s
          · subst e; rw [show 3 + 29 + t = 32 + t by omega]; exact h4
          · rw [cq_fr (h2 _ (by omega)), b3' t ht e]; exact s5 t ht
    have hz12 : ∀ j, 12 ≤ j → sq r0 s j = 0 := fun j hj => by simp [sq, show ¬ j < 12 by omega]
    have g2 := ar 2 (by omega)
    have g3 := ar 3 (by omega)
    have g4 := ar 4 (by omega)
    have gg : gA st_S 0 132 (nI (A * 6)) = true := gA_132 (by omega)
    rcases b5' with ⟨q0, q6, q7, q8, q9, q10, q11⟩ | ⟨q0, qs, q8⟩ | ⟨q0, qs, q9, q10, q11⟩
    · refine fin (fw_set (fw_set (fw_set (fw_set (fw_set (fw_set M3 (32 + s) 7 (-1)) (32 + s) 8 0) (32 + s) 9 0) (32 + s) 10 0) (32 + s) 11 0) (32 + s) 12 0) ?_ (fun b hb => by rw [set_nr _ _ _ hb, set_nr _ _ _ hb, set_nr _ _ _ hb, set_nr _ _ _ hb, set_nr _ _ _ hb, set_nr _ _ _ hb]) (by simp [fw_set]) ?_
      · have gB0 : gB 0 = true := by decide
        simp only [f_X0_takeBackOf, f_X6_decide, gO_131, gd_tt, kc_131_0 k3, gN_132, tn_132, gg, nI_cl (show A * 6 < 2147483648 by omega), g0, if_pos q0, hg, bm_s, gB0, b1_s]
      · rw [show (12 : Nat) = 1 + 11 from rfl, cq_set (by omega), show (11 : Nat) = 1 + 10 from rfl, cq_set (by omega), show (10 : Nat) = 1 + 9 from rfl, cq_set (by omega), show (9 : Nat) = 1 + 8 from rfl, cq_set (by omega), show (8 : Nat) = 1 + 7 from rfl, cq_set (by omega), show (7 : Nat) = 1 + 6 from rfl, cq_set (by omega), eqs]
        funext j
        unfold upd
        by_cases j11 : j = 11
        · subst j11; simp [q11]
        by_cases j10 : j = 10
        · subst j10; simp [q10]
        by_cases j9 : j = 9
        · subst j9; simp [q9]
        by_cases j8 : j = 8
        · subst j8; simp [q8]
        by_cases j7 : j = 7
        · subst j7; simp [q7]
        by_cases j6 : j = 6
        · subst j6; simp [q6]
        simp only [j11, j10, j9, j8, j7, j6, if_false]
        by_cases hj : j < 6
        · exact (b4' j hj).symm
        · rw [hz12 j (by omega)]; simp [sq, show ¬ j < 12 by omega]
    · have e9 : M3 (32 + s) 9 = sq (M 137) s 8 := congrFun eqs 8
      refine fin (fw_set M3 (32 + s) 9 (sq r0 s 8)) ?_ (fun b hb => set_nr _ _ _ hb) (set_nk _ _ _ _ (by decide)) ?_
      · have n0 : ¬ arow (M 132) A 0 = 0 := by rw [q0]; decide
        simp only [f_X0_takeBackOf, gO_131, gd_tt, kc_131_0 k3, gN_132, tn_132, gg, nI_cl (show A * 6 < 2147483648 by omega), g0, if_neg n0, if_pos q0, hg, bm_s, e9, q8]
        split <;> rfl
      · rw [show (9 : Nat) = 1 + 8 from rfl, cq_set (by omega), eqs]
        funext j
        unfold upd
        by_cases j8 : j = 8
        · subst j8; simp
        rw [if_neg j8]
        by_cases hj : j < 6
        · exact (b4' j hj).symm
        · by_cases hj2 : j < 12
          · exact (qs j (by omega) hj2 j8).symm
          · rw [hz12 j (by omega)]; simp [sq, hj2]
    · refine fin (fw_set (fw_set (fw_set M3 (32 + s) 10 (arow (M 132) A 2)) (32 + s) 11 (arow (M 132) A 3)) (32 + s) 12 (arow (M 132) A 4)) ?_ (fun b hb => by rw [set_nr _ _ _ hb, set_nr _ _ _ hb, set_nr _ _ _ hb]) (by rw [set_nk _ _ _ _ (by decide), set_nk _ _ _ _ (by decide), set_nk _ _ _ _ (by decide)]) ?_
      · have n0 : ¬ arow (M 132) A 0 = 0 := by rw [q0]; decide
        have n2 : ¬ arow (M 132) A 0 = nI 2 := by rw [q0]; decide
        have na1 : (131 : Nat) ≠ 32 + s := by omega
        have na2 : (132 : Nat) ≠ 32 + s := by omega
        simp only [f_X0_takeBackOf, gO_131, gd_tt, kc_131_0 k3, gN_132, tn_132, gg, nI_cl (show A * 6 < 2147483648 by omega), g0, if_neg n0, if_neg n2, show (2 : Int32) = nI 2 from rfl, show (3 : Int32) = nI 3 from rfl, show (4 : Int32) = nI 4 from rfl, nI_add, gA_132 (show A * 6 + 2 < 72 by omega), gA_132 (show A * 6 + 3 < 72 by omega), gA_132 (show A * 6 + 4 < 72 by omega), hg, nI_cl (show A * 6 + 2 < 2147483648 by omega), nI_cl (show A * 6 + 3 < 2147483648 by omega), nI_cl (show A * 6 + 4 < 2147483648 by omega), g2, bm_s, set_na _ _ _ _ na1, set_na _ _ _ _ na2, g3, g4]
      · rw [show (12 : Nat) = 1 + 11 from rfl, cq_set (by omega), show (11 : Nat) = 1 + 10 from rfl, cq_set (by omega), show (10 : Nat) = 1 + 9 from rfl, cq_set (by omega), eqs]
        funext j
        unfold upd
        by_cases j11 : j = 11
        · subst j11; simp [q11]
        by_cases j10 : j = 10
        · subst j10; simp [q10]
        by_cases j9 : j = 9
        · subst j9; simp [q9]
        simp only [j11, j10, j9, if_false]
        by_cases hj : j < 6
        · exact (b4' j hj).symm
        · by_cases hj2 : j < 12
          · exact (qs j (by omega) (by omega)).symm
          · rw [hz12 j (by omega)]; simp [sq, hj2]
theorem q_undo (I : INV M) : ∃ v M1 M2, f_X9_undo st_S M 0 = some (v, M1) ∧ f_X10_undo st_S M1 136 = some (v, M2) ∧ INV M2 := by
  obtain ⟨P, L, N, A, T, U, hh, iv⟩ := id I
  obtain ⟨h, w, ⟨p3, -⟩, r3, c, -, ac, -⟩ := id iv
  have n10 := w.n
  have p12 := w.1.1
  have l24 := w.1.2.1
  by_cases hA0 : A = 0
  · subst hA0
    have e0 : M 131 1 = 0 := ac.1
    have e5 : M 136 5 = 0 := ac.2.1
    refine ⟨-1, M, fw_set M 136 6 0, ?_, ?_, (mf_set M 0).1.ag.inv I⟩
    · simp only [f_X9_undo, gO_0, gd_tt, kc_0_7 h, gN_131, tn_131, gO_131, e0, if_true]
    · simp only [f_X10_undo, gO_136, gd_tt, bm_s, set_nk _ _ _ _ (show (5 : Nat) ≠ 6 by decide), e5, if_true]
  obtain ⟨A, rfl⟩ : ∃ A', A = A' + 1 := ⟨A - 1, by omega⟩
  obtain ⟨hA12, Ls, hLs, hst⟩ := ac.2.2
  obtain ⟨w0, u⟩ := hst A (by omega)
  rw [if_pos rfl, hLs] at u
  obtain ⟨M6, x1, x2, x3, k6, p6, rw6⟩ := c_takeBack iv (by omega) w0 u
  obtain ⟨M8, y1, y2, y3⟩ := c_refresh k6 w0 p6 rw6
  have k8 := y2.kc k6
  have p8 : cLP M8 3 := by unfold cLP; rw [y2.1 (3 + 2) (by omega)]; exact p6
  have e131 : M8 131 = upd (M 131) 1 (nI A) := by rw [y2.1 131 (by omega)]; exact x3
  have hne : ¬ nI (A + 1) = 0 := nI_ne0 (by omega) (by omega)
  have f8 : ∀ b, ¬ (3 ≤ b ∧ b < 42) → b ≠ 131 → M8 b = M b := fun b b1 b2 => by rw [y2.1 b (by omega), x2 b b1 b2]
  have hclass : f_X9_undo st_S M 0 = some (nI A, M8) := by
    have e1 : M8 131 1 = nI A := by rw [e131, upd_eq]
    simp only [f_X9_undo, gO_0, gd_tt, kc_0_7 h, gN_131, tn_131, gO_131, ac.1, if_neg hne, kc_0_1 h, gN_3, tn_3, x1, b1_s, kc_0_5 k6, gN_121, tn_121, gO_121, y1, kc_0_7 k8, e1]
  -- the model
  obtain ⟨B, hB⟩ : ∃ B, B = fw_set (fw_set M8 136 6 0) 136 5 (nI A) := ⟨_, rfl⟩
  have kB : KC B := by rw [hB]; exact kc_set (kc_136 k8 0) (by decide +kernel)
  have fB : ∀ b, b ≠ 136 → B b = M8 b := fun b hb => by rw [hB, set_nr _ _ _ hb, set_nr _ _ _ hb]
  have eB5 : B 136 5 = nI A := by rw [hB, set_eq]
  obtain ⟨R, h1, h2, h3⟩ := lp_up (fun n (m : fw_Mem) k => lf_X10_undo_26 st_S 136 n (nI k) m) 330 (fun i m => (∀ b, b ≠ 137 → m b = B b) ∧ ∀ k, k < i → m 137 k = M 140 (330 * A + k)) (fun m => (∀ b, b ≠ 137 → m b = B b) ∧ ∀ k, k < 330 → m 137 k = M 140 (330 * A + k))
    (by
      rintro n i m hi ⟨b1, b2⟩
      have hn : ¬ nI 330 ≤ nI i := nI_ge (b := 330) hi (by omega)
      have km : KC m := kc_ne kB 137 kcn_137 b1
      have e5 : m 136 5 = nI A := by rw [b1 136 (by decide)]; exact eB5
      have e140 : m 140 = M 140 := by rw [b1 140 (by decide), fB 140 (by decide), f8 140 (by omega) (by omega)]
      refine ⟨fw_set m 137 i (M 140 (330 * A + i)), ⟨fun b hb => by rw [set_nr _ _ _ hb, b1 b hb], fun k hk => ?_⟩, ?_⟩
      · by_cases e : k = i
        · subst e; rw [set_eq]
        · rw [set_nk _ _ _ _ e]; exact b2 k (by omega)
      · simp only [lf_X10_undo_26, show (330 : Int32) = nI 330 from rfl, if_neg hn, gO_136, gd_tt, kc_136_0 km, gN_137, tn_137, kc_136_3 km, gN_140, tn_140, e5, nI_mul, nI_add, gA_140 (show 330 * A + i < 3960 by omega), gA_137 hi, nI_cl (show 330 * A + i < 2147483648 by omega), nI_cl (show i < 2147483648 by omega), e140, bm_s, nI_1])
    (by
      rintro n m hm
      exact ⟨m, by simp only [lf_X10_undo_26, if_pos (show (330 : Int32) ≤ nI 330 by decide)], hm⟩) _ 0 20000 B rfl (by omega) (by omega) ⟨fun _ _ => rfl, fun k hk => absurd hk (by omega)⟩
  have h1' : lf_X10_undo_26 st_S 136 20000 0 B = some R := h1
  have hmod : f_X10_undo st_S M8 136 = some (nI A, R) := by
    have e5 : fw_set M8 136 6 0 136 5 = nI (A + 1) := by rw [set_nk _ _ _ _ (by decide), f8 136 (by omega) (by omega)]; exact ac.2.1
    have eR : R 136 5 = nI A := by rw [h2 136 (by decide)]; exact eB5
    simp only [f_X10_undo, gO_136, gd_tt, bm_s, e5, if_neg hne, nI_pred]
    rw [← hB, h1', b1_s, eR]
  have hle : Lve (prow (M 140) A) (R 137) N := fun j hj => by rw [h3 j (by omega), prow, if_pos (by omega)]
  have fR : ∀ b, b ≠ 136 → b ≠ 137 → R b = M8 b := fun b b1 b2 => by rw [h2 b b2, fB b b1]
  have kR : KC R := kc_ne kB 137 kcn_137 h2
  have l024 := w0.1.2.1
  refine ⟨nI A, M8, R, hclass, hmod, ⟨P, Ls A, N, A, T, U, hh, iv_new iv (fun b j hd ha => ?_) kR (lve_wf hle w0) ?_ ?_ ?_ ⟨?_, ?_, ?_⟩⟩⟩
  · simp [acc] at ha
    by_cases e1 : b = 136
    · subst e1
      have hj6 : j ≠ 6 := fun q => by subst q; exact absurd hd (by decide)
      have hj5 : j ≠ 5 := by have := ha.2; simpa using this
      rw [h2 136 (by decide), hB, set_nk _ _ _ _ hj5, set_nk _ _ _ _ hj6, f8 136 (by omega) (by omega)]
    · rw [fR b e1 (by omega)]
      by_cases e2 : b = 131
      · subst e2
        have : j = 0 := by have := ha.1.1.1.1.2; simpa using this
        rw [this, e131, upd_ne _ _ (by omega)]
      · rw [f8 b (by omega) e2]
  · unfold cLP; rw [fR (3 + 2) (by omega) (by omega)]; exact p8
  · exact RW.fr p8 (by omega) l024 n10 (fun b h1 h2 => fR b (by omega) (by omega)) (lve_rw hle p12 l024 (rfr_rw y2 p6 l024 n10 rw6))
  · refine lve_cr hle l024 ⟨by rw [fR 3 (by omega) (by omega), fR 7 (by omega) (by omega)]; exact y3.1, fun i hi => ?_⟩
    have ei := fR (32 + i) (by omega) (by omega)
    rw [cq_fr ei, ei]; exact y3.2 i hi
  · rw [fR 131 (by omega) (by omega), e131, upd_eq]
  · rw [h2 136 (by decide)]; exact eB5
  · rw [fR 132 (by omega) (by omega), f8 132 (by omega) (by omega), fR 140 (by omega) (by omega), f8 140 (by omega) (by omega)]
    refine ⟨by omega, Ls, rfl, fun j hj => ?_⟩
    obtain ⟨b1, b2⟩ := hst j (by omega)
    refine ⟨b1, ?_⟩
    rw [if_neg (by omega)] at b2
    by_cases e : j + 1 = A
    · rw [if_pos e]
      rw [e] at b2 ⊢
      exact lve_ud hle p12 l024 b2
    · rw [if_neg e]; exact b2
end QU
