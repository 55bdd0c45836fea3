/-! ===== image, back ===== -/
section IB
variable {M : fw_Mem}
theorem gc_81_3a : gC st_S (3 + 1) 0 (81 + 1) 0 (nI 72) = true := by decide +kernel
theorem gc_81_3b : gC st_S (3 + 4) 0 (81 + 4) 0 (nI 3) = true := by decide +kernel
theorem gc_3_81a : gC st_S (81 + 1) 0 (3 + 1) 0 (nI 72) = true := by decide +kernel
theorem gc_3_81b : gC st_S (81 + 4) 0 (3 + 4) 0 (nI 3) = true := by decide +kernel
theorem gc_3_42a : gC st_S (42 + 1) 0 (3 + 1) 0 (nI 72) = true := by decide +kernel
theorem gc_3_42b : gC st_S (42 + 4) 0 (3 + 4) 0 (nI 3) = true := by decide +kernel
/-- the class starts anew from other records -/
theorem c_anew {n1 P L N : Nat} {r : Nat → Int32} (h : KC M) (h1 : n1 = 42 ∨ n1 = 81) (p3 : cLP M 3) (p1 : cLP M n1) (w : WF r P L N) (rw1 : RW M n1 r P L N) : ∃ M', f_X9_startAnewFrom st_S M 0 n1 = some M' ∧ (∀ b, ¬ (3 ≤ b ∧ b < 42) → b ≠ 131 → M' b = M b) ∧ M' 131 = upd (M 131) 1 0 ∧ KC M' ∧ cLP M' 3 ∧ RW M' 3 r P L N ∧ CR M' r L N := by
  have n10 := w.n
  have l24 := w.1.2.1
  have hb : ∃ M3, f_X4_become st_S M 3 n1 = some M3 ∧ BX M M3 3 ∧ RW M3 3 r P L N := by
    rcases h1 with rfl | rfl
    · exact c_become h (Or.inl rfl) (Or.inr (Or.inl rfl)) (by decide) (rb_3 h) (rb_42 h) p3 p1 gc_3_42a gc_3_42b w rw1
    · exact c_become h (Or.inl rfl) (Or.inr (Or.inr rfl)) (by decide) (rb_3 h) (rb_81 h) p3 p1 gc_3_81a gc_3_81b w rw1
  obtain ⟨M3, a1, a2, a3⟩ := hb
  have k3 := a2.kc (Or.inl rfl) h
  have k7 : KC (fw_set M3 131 1 0) := kc_set k3 (by decide +kernel)
  have p7 : cLP (fw_set M3 131 1 0) 3 := by unfold cLP; rw [set_nr _ _ _ (by omega), a2.2.2.1]; exact p3
  have p33 : cLP M3 3 := by unfold cLP; rw [a2.2.2.1]; exact p3
  have rw7 : RW (fw_set M3 131 1 0) 3 r P L N := RW.fr p33 (by omega) l24 n10 (fun b h1 h2 => set_nr _ _ _ (by omega)) a3
  obtain ⟨M9, b1, b2, b3⟩ := c_refresh k7 w p7 rw7
  refine ⟨M9, ?_, fun b x1 x2 => by rw [b2.1 b (by omega), set_nr _ _ _ x2, a2.1 b (by omega)], by rw [b2.1 131 (by omega), fw_set_row, a2.1 131 (by omega)], b2.kc k7, by unfold cLP; rw [b2.1 (3 + 2) (by omega)]; exact p7, rfr_rw b2 p7 l24 n10 rw7, b3⟩
  simp only [f_X9_startAnewFrom, gO_0, gd_tt, kc_0_1 h, gN_3, tn_3, gO_3, a1, b1_s, kc_0_7 k3, gN_131, tn_131, gO_131, bm_s, kc_0_5 k7, gN_121, tn_121, gO_121, b1]
theorem q_image (I : INV M) : ∃ M1 M2, f_X9_image st_S M 0 = some M1 ∧ f_X10_image st_S M1 136 = some M2 ∧ INV M2 := by
  obtain ⟨P, L, N, A, T, U, hh, iv⟩ := id I
  obtain ⟨h, w, ⟨p3, p42, p81⟩, r3, c, im, ac, tp, sp⟩ := id iv
  have n10 := w.n
  have l24 := w.1.2.1
  obtain ⟨M4, a1, a2, a3⟩ := c_become h (Or.inr (Or.inr rfl)) (Or.inl rfl) (by decide) (rb_81 h) (rb_3 h) p81 p3 gc_81_3a gc_81_3b w r3
  have k4 := a2.kc (Or.inr (Or.inr rfl)) h
  have k6 : KC (fw_set M4 0 10 1) := kc_set k4 (by decide +kernel)
  have hclass : f_X9_image st_S M 0 = some (fw_set M4 0 10 1) := by
    simp only [f_X9_image, gO_0, gd_tt, kc_0_3 h, gN_81, kc_0_1 h, gN_3, tn_81, tn_3, gO_81, a1, b1_s, bm_s]
  have kB := kc_136 k6 0
  obtain ⟨m5, c1, c2, c3⟩ := m_copy (M := fw_set (fw_set M4 0 10 1) 136 6 0) (a := 139) (b := 137) (by decide) len_139 len_137
  have k5 : KC m5 := kc_ne kB 139 (by decide +kernel) c2
  have k52 : KC (fw_set m5 136 4 1) := kc_set k5 (by decide +kernel)
  have hmod : f_X10_image st_S (fw_set M4 0 10 1) 136 = some (fw_set m5 136 4 1) := by
    simp only [f_X10_image, gO_136, gd_tt, bm_s, kc_136_2 kB, gN_139, kc_136_0 kB, gN_137, tn_139, tn_137, c1, b1_s]
  refine ⟨_, _, hclass, hmod, ⟨P, L, N, A, T, U, true, ?_⟩⟩
  have f : ∀ b, ¬ (81 ≤ b ∧ b < 120) → b ≠ 0 → b ≠ 136 → b ≠ 139 → fw_set m5 136 4 1 b = M b := fun b b1 b2 b3 b4 => by rw [set_nr _ _ _ b3, c2 b b4, set_nr _ _ _ b3, set_nr _ _ _ b2, a2.1 b (by omega)]
  have g : ∀ j, j ≠ 4 → j ≠ 6 → fw_set m5 136 4 1 136 j = M 136 j := fun j j1 j2 => by rw [set_nk _ _ _ _ j1, c2 136 (by decide), set_nk _ _ _ _ j2, set_na _ _ _ _ (by decide), a2.1 136 (by omega)]
  have g81 : ∀ b, 81 ≤ b → b < 120 → fw_set m5 136 4 1 b = M4 b := fun b b1 b2 => by rw [set_nr _ _ _ (by omega), c2 b (by omega), set_nr _ _ _ (by omega), set_nr _ _ _ (by omega)]
  have e137 := f 137 (by omega) (by omega) (by omega) (by omega)
  have e139 : Lve (M 137) (fw_set m5 136 4 1 139) N := fun j hj => by rw [set_na _ _ _ _ (by decide), c3 j (by omega), set_na _ _ _ _ (by decide), set_na _ _ _ _ (by decide), a2.1 137 (by omega)]
  refine ⟨k52, by rw [e137]; exact w, ⟨?_, ?_, ?_⟩, ?_, ?_, ?_, ?_, ?_, ?_⟩
  · unfold cLP; rw [f (3 + 2) (by omega) (by omega) (by omega) (by omega)]; exact p3
  · unfold cLP; rw [f (42 + 2) (by omega) (by omega) (by omega) (by omega)]; exact p42
  · unfold cLP; rw [g81 (81 + 2) (by omega) (by omega), a2.2.2.1]; exact p81
  · rw [e137]; exact RW.fr p3 (by omega) l24 n10 (fun b h1 h2 => f b (by omega) (by omega) (by omega) (by omega)) r3
  · rw [e137]
    refine ⟨by rw [f 3 (by omega) (by omega) (by omega) (by omega), f 7 (by omega) (by omega) (by omega) (by omega)]; exact c.1, fun i hi => ?_⟩
    have ei := f (32 + i) (by omega) (by omega) (by omega) (by omega)
    rw [cq_fr ei, ei]; exact c.2 i hi
  · refine ⟨?_, set_eq _ _ _ _, fun _ => ⟨P, L, N, lve_wf e139 w, ?_⟩⟩
    · rw [set_na _ _ _ _ (by decide), c2 0 (by decide), set_na _ _ _ _ (by decide), set_eq]; rfl
    · have p81' : cLP M4 81 := by unfold cLP; rw [a2.2.2.1]; exact p81
      exact lve_rw e139 w.1.1 l24 (RW.fr p81' (by omega) l24 n10 (fun b h1 h2 => g81 b (by omega) (by omega)) a3)
  · rw [f 131 (by omega) (by omega) (by omega) (by omega), f 132 (by omega) (by omega) (by omega) (by omega), f 140 (by omega) (by omega) (by omega) (by omega), e137, g 5 (by omega) (by omega)]; exact ac
  · rw [f 1 (by omega) (by omega) (by omega) (by omega), g 15 (by omega) (by omega), f 2 (by omega) (by omega) (by omega) (by omega), f 147 (by omega) (by omega) (by omega) (by omega), g 23 (by omega) (by omega)]; exact tp
  · rw [f 133 (by omega) (by omega) (by omega) (by omega), g 13 (by omega) (by omega), f 134 (by omega) (by omega) (by omega) (by omega), f 146 (by omega) (by omega) (by omega) (by omega)]; exact sp
theorem act_0 (cr pr r : Nat → Int32) (P L N : Nat) : ACT cr pr r P L N 0 := ⟨by omega, fun _ => L, rfl, fun j hj => absurd hj (by omega)⟩
theorem q_back (I : INV M) : ∃ v M1 M2, f_X9_back st_S M 0 = some (v, M1) ∧ f_X10_back st_S M1 136 = some (v, M2) ∧ INV M2 := by
  obtain ⟨P, L, N, A, T, U, hh, iv⟩ := id I
  obtain ⟨h, w, ⟨p3, p42, p81⟩, r3, c, im, ac, tp, sp⟩ := id iv
  cases hh
  · have e0 : M 0 10 = 0 := im.1
    have e4 : M 136 4 = 0 := im.2.1
    refine ⟨0, M, fw_set M 136 6 0, ?_, ?_, (mf_set M 0).1.ag.inv I⟩
    · simp only [f_X9_back, gO_0, gd_tt, e0, if_true]
    · simp only [f_X10_back, gO_136, gd_tt, bm_s, set_nk _ _ _ _ (show (4 : Nat) ≠ 6 by decide), e4, if_true]
  obtain ⟨P', L', N', w', r'⟩ := im.2.2 rfl
  have n10 := w'.n
  have l24 := w'.1.2.1
  have p12 := w'.1.1
  obtain ⟨M1, a1, a2, a3, a4, a5, a6, a7⟩ := c_anew h (Or.inr rfl) p3 p81 w' r'
  have e0 : M 0 10 = 1 := im.1
  have e4 : M 136 4 = 1 := im.2.1
  have hclass : f_X9_back st_S M 0 = some (1, M1) := by
    simp only [f_X9_back, gO_0, gd_tt, e0, i10, if_false, kc_0_3 h, gN_81, tn_81, a1, b1_s]
  have kB := kc_136 a4 0
  obtain ⟨m5, c1, c2, c3⟩ := m_copy (M := fw_set M1 136 6 0) (a := 137) (b := 139) (by decide) len_137 len_139
  have k5 : KC m5 := kc_ne kB 137 kcn_137 c2
  have k52 : KC (fw_set m5 136 5 0) := kc_set k5 (by decide +kernel)
  have hmod : f_X10_back st_S M1 136 = some (1, fw_set m5 136 5 0) := by
    have e4' : fw_set M1 136 6 0 136 4 = 1 := by rw [set_nk _ _ _ _ (by decide), a2 136 (by omega) (by omega)]; exact e4
    simp only [f_X10_back, gO_136, gd_tt, bm_s, e4', i10, if_false, kc_136_0 kB, gN_137, kc_136_2 kB, gN_139, tn_137, tn_139, c1, b1_s]
  have f : ∀ b, b ≠ 136 → b ≠ 137 → fw_set m5 136 5 0 b = M1 b := fun b b1 b2 => by rw [set_nr _ _ _ b1, c2 b b2, set_nr _ _ _ b1]
  have e137 : Lve (M 139) (fw_set m5 136 5 0 137) N' := fun j hj => by rw [set_na _ _ _ _ (by decide), c3 j (by omega), set_na _ _ _ _ (by decide), a2 139 (by omega) (by omega)]
  refine ⟨1, M1, _, hclass, hmod, ⟨P', L', N', 0, T, U, true, iv_new iv (fun b j hd ha => ?_) k52 (lve_wf e137 w') ?_ ?_ ?_ ⟨?_, set_eq _ _ _ _, act_0 _ _ _ _ _ _⟩⟩⟩
  · simp [acc] at ha
    by_cases e1 : b = 136
    · subst e1
      have hj6 : j ≠ 6 := fun q => by subst q; exact absurd hd (by decide)
      have hj5 : j ≠ 5 := by have := ha.2; simpa using this
      rw [set_nk _ _ _ _ hj5, c2 136 (by decide), set_nk _ _ _ _ hj6, a2 136 (by omega) (by omega)]
    · rw [f b e1 (by omega)]
      by_cases e2 : b = 131
      · subst e2
        have : j = 0 := by have := ha.1.1.1.1.2; simpa using this
        rw [this, a3, upd_ne _ _ (by omega)]
      · rw [a2 b (by omega) e2]
  · unfold cLP; rw [f (3 + 2) (by omega) (by omega)]; exact a5
  · exact RW.fr a5 (by omega) l24 n10 (fun b h1 h2 => f b (by omega) (by omega)) (lve_rw e137 p12 l24 a6)
  · refine lve_cr e137 l24 ⟨by rw [f 3 (by omega) (by omega), f 7 (by omega) (by omega)]; exact a7.1, fun i hi => ?_⟩
    have ei := f (32 + i) (by omega) (by omega)
    rw [cq_fr ei, ei]; exact a7.2 i hi
  · rw [f 131 (by omega) (by omega), a3, upd_eq]; rfl
end IB
