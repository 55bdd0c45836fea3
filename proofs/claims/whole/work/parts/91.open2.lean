section OB
variable {M Mm : fw_Mem} {B : Nat → Nat} {n : Nat}
theorem c_open (h : KC M) (hn : n ≤ 600) (hb : ∀ i, i < n → B i < 256 ∧ M 2 i = sx (B i)) : ∃ M', f_X7_open st_S M 1 (nI n) = some M' ∧ (∀ b, b ≠ 1 → M' b = M b) ∧ M' 1 0 = M 1 0 ∧ M' 1 1 = 0 ∧ M' 1 8 = -1 ∧ CT M' B n (nxS B n 0) (nxE B n 0) (nxK B n 0) 0 := by
  have hle : ¬ (600 : Int32) < nI n := by rw [show (600 : Int32) = nI 600 from rfl, nI_ltI (by omega) (by omega)]; omega
  obtain ⟨A, hA⟩ : ∃ m, m = fw_set (fw_set (fw_set (fw_set (fw_set M 1 2 (nI n)) 1 1 0) 1 5 0) 1 7 0) 1 8 (-1) := ⟨_, rfl⟩
  have fA : ∀ b, b ≠ 1 → A b = M b := fun b hb => by rw [hA, set_nr _ _ _ hb, set_nr _ _ _ hb, set_nr _ _ _ hb, set_nr _ _ _ hb, set_nr _ _ _ hb]
  have a0 : A 1 0 = M 1 0 := by rw [hA, set_nk _ _ _ _ (by decide), set_nk _ _ _ _ (by decide), set_nk _ _ _ _ (by decide), set_nk _ _ _ _ (by decide), set_nk _ _ _ _ (by decide)]
  have a1 : A 1 1 = 0 := by rw [hA, set_nk _ _ _ _ (by decide), set_nk _ _ _ _ (by decide), set_nk _ _ _ _ (by decide), set_eq]
  have a2 : A 1 2 = nI n := by rw [hA, set_nk _ _ _ _ (by decide), set_nk _ _ _ _ (by decide), set_nk _ _ _ _ (by decide), set_nk _ _ _ _ (by decide), set_eq]
  have a5 : A 1 5 = nI 0 := by rw [hA, set_nk _ _ _ _ (by decide), set_nk _ _ _ _ (by decide), set_eq]; rfl
  have a7 : A 1 7 = 0 := by rw [hA, set_nk _ _ _ _ (by decide), set_eq]
  have a8 : A 1 8 = -1 := by rw [hA, set_eq]
  have kA : KC A := kc_tape h (fun b b1 _ => fA b b1) a0
  obtain ⟨M', x1, x2, x3⟩ := c_adv0 (B := B) (n := n) kA hn (fun i hi => by rw [fA 2 (by decide)]; exact hb i hi) a2 a5 a7 a8 (by omega)
  refine ⟨M', ?_, fun b hb => by rw [x2.1 b hb]; exact fA b hb, by rw [x2.2 0 (by omega)]; exact a0, by rw [x2.2 1 (by omega)]; exact a1, by rw [x2.2 8 (by omega)]; exact a8, x3⟩
  simp only [f_X7_open, gO_1, gd_tt, if_neg hle, bm_s]
  rw [← hA, x1, b1_s]
theorem m_opens (h : KC Mm) (hn : n ≤ 600) (hb : ∀ i, i < n → B i < 256 ∧ Mm 147 i = nI (B i)) : ∃ M', f_X10_opens st_S Mm 136 (nI n) = some M' ∧ (∀ b, b ≠ 136 → M' b = Mm b) ∧ (∀ j, (j < 16 ∨ j = 22 ∨ j = 23 ∨ 24 < j) → M' 136 j = Mm 136 j) ∧ MT M' B n (nxS B n 0) (nxE B n 0) (nxK B n 0) := by
  obtain ⟨A, hA⟩ : ∃ m, m = fw_set (fw_set (fw_set (fw_set Mm 136 16 (nI n)) 136 17 0) 136 21 0) 136 24 0 := ⟨_, rfl⟩
  have fA : ∀ b, b ≠ 136 → A b = Mm b := fun b hb => by rw [hA, set_nr _ _ _ hb, set_nr _ _ _ hb, set_nr _ _ _ hb, set_nr _ _ _ hb]
  have a0 : ∀ j, (j < 16 ∨ j = 22 ∨ j = 23 ∨ 24 < j) → A 136 j = Mm 136 j := fun j hj => by rw [hA, set_nk _ _ _ _ (by omega), set_nk _ _ _ _ (by omega), set_nk _ _ _ _ (by omega), set_nk _ _ _ _ (by omega)]
  have a16 : A 136 16 = nI n := by rw [hA, set_nk _ _ _ _ (by decide), set_nk _ _ _ _ (by decide), set_nk _ _ _ _ (by decide), set_eq]
  have a17 : A 136 17 = nI 0 := by rw [hA, set_nk _ _ _ _ (by decide), set_nk _ _ _ _ (by decide), set_eq]; rfl
  have a21 : A 136 21 = 0 := by rw [hA, set_nk _ _ _ _ (by decide), set_eq]
  have kA : KC A := kc_mo h (fun b b1 _ => fA b b1) fun j hj => a0 j (by omega)
  obtain ⟨M', x1, x2, x3⟩ := m_step (B := B) (n := n) kA hn (fun i hi => by rw [fA 147 (by decide)]; exact hb i hi) a16 a21 a17 (by omega)
  refine ⟨M', ?_, fun b hb => by rw [x2.1 b hb]; exact fA b hb, fun j hj => by rw [x2.2 j (by omega)]; exact a0 j hj, x3⟩
  simp only [f_X10_opens, gO_136, gd_tt, bm_s]
  rw [← hA, x1, b1_s]
/-- the whole text is read: class and model from memories with the same bytes -/
theorem rd_text (h : KC M) (hm : KC Mm) (p : cLP M 42) (hn : n ≤ 600) (hb : ∀ i, i < n → B i < 256 ∧ M 2 i = sx (B i)) (hb2 : ∀ i, i < n → B i < 256 ∧ Mm 147 i = nI (B i)) :
    ∃ M' Ma Mb Mm', f_X8_read st_S M 120 (nI n) = some M' ∧ f_X10_bare st_S Mm 138 = some Ma ∧ f_X10_opens st_S Ma 136 (nI n) = some Mb ∧ lf_X10_desk_35 st_S 136 20000 Mb = some Mm' ∧
      (∀ b, b ≠ 1 → ¬ (42 ≤ b ∧ b < 81) → M' b = M b) ∧ M' 1 0 = M 1 0 ∧ M' 1 1 = 0 ∧ KC M' ∧ cLP M' 42 ∧
      (∀ b, b ≠ 136 → b ≠ 138 → Mm' b = Mm b) ∧ (∀ j, (j < 16 ∨ j = 23 ∨ 24 < j) → Mm' 136 j = Mm 136 j) ∧ KC Mm' ∧
      ((∃ P L N, RW M' 42 (Mm' 138) P L N ∧ WF (Mm' 138) P L N ∧ M' 1 7 = 0 ∧ Mm' 136 21 = 0 ∧ M' 1 8 = -1) ∨ TB M' Mm') := by
  obtain ⟨M1, a1, a2, a3, a4, a5, a6, a7⟩ := c_clear h
  have f1 : CF M M1 := ⟨fun b _ b2 => a2 b (by omega) (by omega), fun j _ => by rw [a2 1 (by decide) (by decide)], a3, a2 45 (by decide) (by decide), fun s _ => by rw [a2 _ (by omega) (by omega)]⟩
  have k1 := f1.kc h
  obtain ⟨M2, b1', b2', b3, b4, b5, b6⟩ := c_open (B := B) k1 hn (fun i hi => by rw [a2 2 (by decide) (by decide)]; exact hb i hi)
  have k2 : KC M2 := kc_tape k1 (fun b b1 _ => b2' b b1) b3
  obtain ⟨Ma, c1, c2, c3, c4⟩ := m_bare (Mm := Mm)
  have ka : KC Ma := kc_mo hm (fun b _ b2 => c2 b b2) fun j _ => by rw [c2 136 (by decide)]
  obtain ⟨Mb, d1, d2, d3, d4⟩ := m_opens (B := B) ka hn (fun i hi => by rw [c2 147 (by decide)]; exact hb2 i hi)
  have kb : KC Mb := kc_mo ka (fun b b1 _ => d2 b b1) fun j hj => d3 j (by omega)
  have r138 : Mb 138 = Ma 138 := d2 138 (by decide)
  have z : (0 : Int32) = nI 0 := rfl
  have g : GD M2 Mb B n (nxS B n 0) (nxE B n 0) (nxK B n 0) 0 0 0 := by
    refine ⟨⟨b6, d4, (nx_tk (B := B) (n := n) (e := 0) (by omega)).1⟩, ?_, ⟨?_, fun i hi => absurd hi (by omega), fun j hj => ?_, fun l hl => absurd hl (by omega), fun t ht => absurd ht (by omega)⟩, ?_⟩
    · unfold cLP; rw [b2' (42 + 2) (by decide), a2 (42 + 2) (by decide) (by decide)]; exact p
    · rw [b2' 42 (by decide)]; exact a4
    · rw [b2' (42 + 4) (by decide), r138]
      rcases (by omega : j = 0 ∨ j = 1 ∨ j = 2) with rfl | rfl | rfl
      · exact a5.trans c3.symm
      · exact a6.trans (c4 4 (by omega) (by omega)).symm
      · exact a7.trans (c4 5 (by omega) (by omega)).symm
    · rw [r138]
      exact ⟨by omega, ⟨c4 0 (by omega) (by omega), c4 1 (by omega) (by omega), c4 2 (by omega) (by omega)⟩, ⟨50, by omega, by omega, c3⟩, ⟨Or.inl (c4 4 (by omega) (by omega)), Or.inl (c4 5 (by omega) (by omega))⟩, fun l hl => absurd hl (by omega), fun t ht => absurd ht (by omega)⟩
  obtain ⟨M3, Mm3, x1, x2, x3, x4, x5, x6⟩ := rd_loop (n - nxS B n 0) M2 Mb _ _ _ 0 0 0 0 20000 20000 k2 kb g rfl (by omega) (by omega) (by omega)
  refine ⟨M3, Ma, Mb, Mm3, ?_, c1, d1, x2, fun b b1 b2 => ?_, ?_, ?_, x3.kc k2, x5, fun b b1 b2 => ?_, fun j hj => ?_, x4.kc kb, ?_⟩
  · have r600 : (600 : Int32) = nI (600 - 0) := rfl
    simp only [f_X8_read, gO_120, gd_tt, kc_120_1 h, gN_42, tn_42, gO_42, a1, b1_s, kc_120_0 k1, gN_1, tn_1, gO_1, b1', r600, x1]
  · rw [x3.1 b b1 b2, b2' b b1, a2 b (by omega) (by omega)]
  · rw [x3.2.1 0 (by omega), b3, a2 1 (by decide) (by decide)]
  · rw [x3.2.1 1 (by omega)]; exact b4
  · rw [x4.1 b b1 b2, d2 b b1, c2 b b2]
  · rw [x4.2 j (by omega), d3 j (by omega), c2 136 (by decide)]
  · rcases x6 with ⟨s', e', k', P', L', N', gg⟩ | tb
    · exact Or.inl ⟨P', L', N', gg.2.2.1, gg.2.2.2, gg.1.1.2.2.2.2.2.2.1, gg.1.2.1.2.2.2.2.2.2.2, gg.1.1.2.2.2.2.2.2.2.2 rfl⟩
    · exact Or.inr tb
end OB
