section QF
variable {M : fw_Mem}
theorem m_ends {Mm : fw_Mem} : f_X10_ends st_S Mm 136 = some (Mm 136 21, fw_set (fw_set Mm 136 15 0) 136 23 (if Mm 136 21 = 0 then -1 else Mm 136 22)) := by
  have e1 : fw_set Mm 136 15 0 136 21 = Mm 136 21 := set_nk _ _ _ _ (by decide)
  have e2 : fw_set Mm 136 15 0 136 22 = Mm 136 22 := set_nk _ _ _ _ (by decide)
  by_cases h : Mm 136 21 = 0
  · simp only [f_X10_ends, gO_136, gd_tt, bm_s, e1, if_pos h, set_nk _ _ _ _ (show (21 : Nat) ≠ 23 by decide)]
  · simp only [f_X10_ends, gO_136, gd_tt, bm_s, e1, e2, if_neg h, set_nk _ _ _ _ (show (21 : Nat) ≠ 23 by decide)]
theorem q_desk (I : INV M) (x : Int32) : QOK (f_L_desk st_S M 0 x 148) (fun M1 => f_X10_desk st_S M1 136 x) := by
  by_cases hx : x < 0 ∨ ¬ x ≤ M 1 1
  · exact q_desk_no I hx
  obtain ⟨P, L, N, A, T, U, hh, iv⟩ := id I
  obtain ⟨h, w, ⟨p3, p42, p81⟩, r3, c, im, ac, tp, sp⟩ := id iv
  have h0 : ¬ x < 0 := fun e => hx (Or.inl e)
  have h1 : x ≤ M 1 1 := Decidable.byContradiction fun e => hx (Or.inr e)
  have hT := tp.2.2.1
  obtain ⟨n, hnT, rfl⟩ := (rgk (k := T) (by omega)).mp ⟨h0, by rw [← tp.1]; exact h1⟩
  obtain ⟨B, hB⟩ := tp_by tp.2.2.2.1
  have hb1 : ∀ i, i < n → B i < 256 ∧ M 2 i = sx (B i) := fun i hi => ⟨(hB i (by omega)).1, (hB i (by omega)).2.1⟩
  have hb2 : ∀ Mm : fw_Mem, Mm 147 = M 147 → ∀ i, i < n → B i < 256 ∧ Mm 147 i = nI (B i) := fun Mm e i hi => ⟨(hB i (by omega)).1, by rw [e]; exact (hB i (by omega)).2.2⟩
  obtain ⟨M', -, -, Mm0, a1, -, -, -, a5, a6, a7, a8, a9, -, -, -, gb⟩ := rd_text h h p42 (by omega) hb1 (hb2 M rfl)
  rcases gb with ⟨P1, L1, N1, rw1, w1, g7, -, g8⟩ | tb
  · have p3' : cLP M' 3 := by unfold cLP; rw [a5 (3 + 2) (by omega) (by omega)]; exact p3
    obtain ⟨M13, c1, c2, c3, c4, c5, -, -⟩ := c_anew a8 (Or.inl rfl) p3' a9 w1 rw1
    have hclass : f_L_desk st_S M 0 (nI n) 148 = some (0, fw_set M13 148 0 (M13 3 6)) := by
      simp only [f_L_desk, gO_0, gd_tt, f_X9_desk, if_neg h0, kc_0_0 h, gN_1, tn_1, gO_1, if_pos h1, kc_0_4 h, gN_120, tn_120, gO_120, a1, b1_s, kc_0_0 a8, if_pos g7, kc_0_2 a8, gN_42, tn_42, c1, kc_0_1 c4, gN_3, tn_3, gO_3, b2_s, bxl, gA_148_0, bm_s]
    obtain ⟨M1, hM1⟩ : ∃ m, m = fw_set M13 148 0 (M13 3 6) := ⟨_, rfl⟩
    rw [← hM1] at hclass
    have k1 : KC M1 := by rw [hM1]; exact kc_148 c4 _
    have f1 : ∀ b, b ≠ 148 → M1 b = M13 b := fun b hb => by rw [hM1, set_nr _ _ _ hb]
    have fm : ∀ b, b ≠ 148 → ¬ (3 ≤ b ∧ b < 42) → b ≠ 131 → b ≠ 1 → ¬ (42 ≤ b ∧ b < 81) → M1 b = M b := fun b x1 x2 x3 x4 x5 => by rw [f1 b x1, c2 b x2 x3, a5 b x4 x5]
    have kz := kc_136 k1 0
    obtain ⟨M'', Ma, Mb, Mm, d1, d2, d3, d4, -, -, -, -, -, d10, d11, d12, gd2⟩ := rd_text h kz p42 (by omega) hb1 (hb2 _ (by rw [set_nr _ _ _ (by decide), fm 147 (by decide) (by omega) (by decide) (by decide) (by omega)]))
    obtain rfl : M' = M'' := Option.some.inj (a1.symm.trans d1)
    rcases gd2 with ⟨P2, L2, N2, rw2, w2, -, m21, -⟩ | tb
    · obtain ⟨M13', e1, -, -, -, -, e6, e7⟩ := c_anew a8 (Or.inl rfl) p3' a9 w2 rw2
      obtain rfl : M13 = M13' := Option.some.inj (c1.symm.trans e1)
      have n10 := w2.n
      have l24 := w2.1.2.1
      have p12 := w2.1.1
      obtain ⟨Me, hMe⟩ : ∃ m, m = fw_set (fw_set Mm 136 15 0) 136 23 (if Mm 136 21 = 0 then -1 else Mm 136 22) := ⟨_, rfl⟩
      have fe : ∀ b, b ≠ 136 → Me b = Mm b := fun b hb => by rw [hMe, set_nr _ _ _ hb, set_nr _ _ _ hb]
      have fe6 : ∀ j, j ≠ 15 → j ≠ 23 → Me 136 j = Mm 136 j := fun j j1 j2 => by rw [hMe, set_nk _ _ _ _ j2, set_nk _ _ _ _ j1]
      have ke : KC Me := kc_mo d12 (fun b b1 _ => fe b b1) fun j hj => fe6 j (by omega) (by omega)
      obtain ⟨Mc, q1, q2, q3⟩ := m_copy (M := Me) (a := 137) (b := 138) (by decide) len_137 len_138
      have kc' : KC Mc := kc_ne ke 137 kcn_137 q2
      have kd : KC (fw_set Mc 136 5 0) := kc_set kc' (by decide +kernel)
      have e137 : Lve (Mm 138) (fw_set Mc 136 5 0 137) N2 := fun j hj => by rw [set_na _ _ _ _ (by decide), q3 j (by omega), fe 138 (by decide)]
      have wd := lve_wf e137 w2
      have hmod : f_X10_desk st_S M1 136 (nI n) = some (nI N2, fw_set Mc 136 5 0) := by
        rw [m_desk kz h0 (by rw [fm 136 (by decide) (by omega) (by decide) (by decide) (by omega), tp.2.1, ← tp.1]; exact h1) d2 d3 d4, m_ends, ← hMe, b2_s, if_pos m21]
        simp only [kc_136_0 ke, gN_137, tn_137, gd_tt, kc_136_1 ke, gN_138, tn_138, q1, b1_s, bm_s, e_suits kd, wd.2.1.2.2]
      have fz : ∀ b, b ≠ 136 → b ≠ 137 → b ≠ 138 → fw_set Mc 136 5 0 b = M1 b := fun b x1 x2 x3 => by rw [set_nr _ _ _ x1, q2 b x2, fe b x1, d10 b x1 x3, set_nr _ _ _ x1]
      have fz6 : ∀ j, j ≠ 5 → j ≠ 6 → j ≠ 15 → (j < 16 ∨ 24 < j) → fw_set Mc 136 5 0 136 j = M 136 j := fun j x1 x2 x3 x4 => by rw [set_nk _ _ _ _ x1, q2 136 (by decide), fe6 j x3 (by omega), d11 j (by omega), set_nk _ _ _ _ x2, fm 136 (by decide) (by omega) (by decide) (by decide) (by omega)]
      have fM : ∀ b, b ≠ 136 → b ≠ 137 → b ≠ 138 → b ≠ 148 → fw_set Mc 136 5 0 b = M13 b := fun b x1 x2 x3 x4 => by rw [fz b x1 x2 x3, f1 b x4]
      refine ⟨0, M1, nI N2, _, hclass, hmod, ?_, fun _ => ?_, ⟨P2, L2, N2, 0, 0, U, hh, iv_text iv (fun b hb => ?_) (fz6 4 (by decide) (by decide) (by decide) (by omega)) (fz6 13 (by decide) (by decide) (by decide) (by omega)) kd wd ?_ ?_ ?_ ?_ ⟨?_, set_eq _ _ _ _, act_0 _ _ _ _ _ _⟩ ?_ ?_ ?_⟩⟩
      · rw [set_nk _ _ _ _ (by decide), q2 136 (by decide), fe6 6 (by decide) (by decide), d11 6 (by omega), set_eq]
      · rw [fz 148 (by decide) (by decide) (by decide), hM1, set_eq]; exact e6.1.2.2
      · simp at hb
        rw [fz b (by omega) (by omega) (by omega), fm b (by omega) (by omega) (by omega) (by omega) (by omega)]
      · unfold cLP; rw [fM (3 + 2) (by decide) (by decide) (by decide) (by decide)]; exact c5
      · unfold cLP; rw [fM (42 + 2) (by decide) (by decide) (by decide) (by decide), c2 _ (by omega) (by decide)]; exact a9
      · exact RW.fr c5 (by omega) l24 n10 (fun b h1 h2 => fM b (by omega) (by omega) (by omega) (by omega)) (lve_rw e137 p12 l24 e6)
      · refine lve_cr e137 l24 ⟨by rw [fM 3 (by decide) (by decide) (by decide) (by decide), fM 7 (by decide) (by decide) (by decide) (by decide)]; exact e7.1, fun i hi => ?_⟩
        have ei := fM (32 + i) (by omega) (by omega) (by omega) (by omega)
        rw [cq_fr ei, ei]; exact e7.2 i hi
      · rw [fM 131 (by decide) (by decide) (by decide) (by decide), c3, upd_eq]; rfl
      · rw [fM 1 (by decide) (by decide) (by decide) (by decide), c2 1 (by omega) (by decide)]; exact a7
      · rw [set_nk _ _ _ _ (by decide), q2 136 (by decide), hMe, set_nk _ _ _ _ (by decide), set_eq]
      · rw [fM 1 (by decide) (by decide) (by decide) (by decide), c2 1 (by omega) (by decide), set_nk _ _ _ _ (by decide), q2 136 (by decide), hMe, set_eq, if_pos m21]; exact g8
    · exact absurd g7 tb.c
  · have hclass : f_L_desk st_S M 0 (nI n) 148 = some (0, fw_set M' 148 0 ((-10) - M' 1 7)) := by
      simp only [f_L_desk, gO_0, gd_tt, f_X9_desk, if_neg h0, kc_0_0 h, gN_1, tn_1, gO_1, if_pos h1, kc_0_4 h, gN_120, tn_120, gO_120, a1, b1_s, kc_0_0 a8, if_neg tb.c, b2_s, bxl, gA_148_0, bm_s]
    obtain ⟨M1, hM1⟩ : ∃ m, m = fw_set M' 148 0 ((-10) - M' 1 7) := ⟨_, rfl⟩
    rw [← hM1] at hclass
    have k1 : KC M1 := by rw [hM1]; exact kc_148 a8 _
    have f1 : ∀ b, b ≠ 148 → M1 b = M' b := fun b hb => by rw [hM1, set_nr _ _ _ hb]
    have fm : ∀ b, b ≠ 148 → b ≠ 1 → ¬ (42 ≤ b ∧ b < 81) → M1 b = M b := fun b x1 x4 x5 => by rw [f1 b x1, a5 b x4 x5]
    have kz := kc_136 k1 0
    obtain ⟨M'', Ma, Mb, Mm, d1, d2, d3, d4, -, -, -, -, -, d10, d11, d12, gd2⟩ := rd_text h kz p42 (by omega) hb1 (hb2 _ (by rw [set_nr _ _ _ (by decide), fm 147 (by decide) (by decide) (by omega)]))
    obtain rfl : M' = M'' := Option.some.inj (a1.symm.trans d1)
    rcases gd2 with ⟨P2, L2, N2, rw2, w2, g7, m21, -⟩ | tb2
    · exact absurd g7 tb.c
    have m21 := tb2.m
    have e7 : M' 1 7 = Mm 136 21 := by
      obtain ⟨B', n', s', e', k', f', cc, -, -, hm, -⟩ := id tb2
      rw [hm]; exact cc.2.2.2.2.2.2.1
    have e8 : M' 1 8 = Mm 136 22 := by
      obtain ⟨B', n', s', e', k', f', cc, -, -, -, hm⟩ := id tb2
      exact hm
    obtain ⟨Me, hMe⟩ : ∃ m, m = fw_set (fw_set Mm 136 15 0) 136 23 (if Mm 136 21 = 0 then -1 else Mm 136 22) := ⟨_, rfl⟩
    have fe : ∀ b, b ≠ 136 → Me b = Mm b := fun b hb => by rw [hMe, set_nr _ _ _ hb, set_nr _ _ _ hb]
    have fe6 : ∀ j, j ≠ 15 → j ≠ 23 → Me 136 j = Mm 136 j := fun j j1 j2 => by rw [hMe, set_nk _ _ _ _ j2, set_nk _ _ _ _ j1]
    have ke : KC Me := kc_mo d12 (fun b b1 _ => fe b b1) fun j hj => fe6 j (by omega) (by omega)
    have hmod : f_X10_desk st_S M1 136 (nI n) = some ((-10) - Mm 136 21, Me) := by
      rw [m_desk kz h0 (by rw [fm 136 (by decide) (by decide) (by omega), tp.2.1, ← tp.1]; exact h1) d2 d3 d4, m_ends, ← hMe, b2_s, if_neg m21]
    have fz : ∀ b, b ≠ 136 → b ≠ 138 → Me b = M1 b := fun b x1 x3 => by rw [fe b x1, d10 b x1 x3, set_nr _ _ _ x1]
    have fz6 : ∀ j, j ≠ 6 → j ≠ 15 → (j < 16 ∨ 24 < j) → Me 136 j = M 136 j := fun j x2 x3 x4 => by rw [fe6 j x3 (by omega), d11 j (by omega), set_nk _ _ _ _ x2, fm 136 (by decide) (by decide) (by omega)]
    have fM : ∀ b, b ≠ 136 → b ≠ 138 → b ≠ 148 → b ≠ 1 → ¬ (42 ≤ b ∧ b < 81) → Me b = M b := fun b x1 x2 x3 x4 x5 => by rw [fz b x1 x2, fm b x3 x4 x5]
    have e137 : Me 137 = M 137 := fM 137 (by decide) (by decide) (by decide) (by decide) (by omega)
    have n10 := w.n
    have l24 := w.1.2.1
    refine ⟨0, M1, (-10) - Mm 136 21, Me, hclass, hmod, ?_, fun _ => ?_, ⟨P, L, N, A, 0, U, hh, iv_text iv (fun b hb => ?_) (fz6 4 (by decide) (by decide) (by omega)) (fz6 13 (by decide) (by decide) (by omega)) ke (by rw [e137]; exact w) ?_ ?_ ?_ ?_ ?_ ?_ ?_ ?_⟩⟩
    · rw [fe6 6 (by decide) (by decide), d11 6 (by omega), set_eq]
    · rw [fz 148 (by decide) (by decide), hM1, set_eq, e7]
    · simp at hb
      rw [fM b (by omega) (by omega) (by omega) (by omega) (by omega)]
    · unfold cLP; rw [fM (3 + 2) (by decide) (by decide) (by decide) (by decide) (by omega)]; exact p3
    · unfold cLP; rw [fz (42 + 2) (by decide) (by decide), f1 _ (by decide)]; exact a9
    · rw [e137]; exact RW.fr p3 (by omega) l24 n10 (fun b h1 h2 => fM b (by omega) (by omega) (by omega) (by omega) (by omega)) r3
    · rw [e137]
      refine ⟨by rw [fM 3 (by decide) (by decide) (by decide) (by decide) (by omega), fM 7 (by decide) (by decide) (by decide) (by decide) (by omega)]; exact c.1, fun i hi => ?_⟩
      have ei := fM (32 + i) (by omega) (by omega) (by omega) (by omega) (by omega)
      rw [cq_fr ei, ei]; exact c.2 i hi
    · rw [fM 131 (by decide) (by decide) (by decide) (by decide) (by omega), fM 132 (by decide) (by decide) (by decide) (by decide) (by omega), fM 140 (by decide) (by decide) (by decide) (by decide) (by omega), e137, fz6 5 (by decide) (by decide) (by omega)]; exact ac
    · rw [fz 1 (by decide) (by decide), f1 1 (by decide)]; exact a7
    · rw [hMe, set_nk _ _ _ _ (by decide), set_eq]
    · rw [fz 1 (by decide) (by decide), f1 1 (by decide), hMe, set_eq, if_neg m21]; exact e8
end QF
