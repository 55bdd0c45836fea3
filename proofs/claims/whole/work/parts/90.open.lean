/-! ===== a text is opened, on both sides ===== -/
section OA
variable {M Mm : fw_Mem} {B : Nat → Nat} {n : Nat}
theorem m_bareLoop (hl : fw_len2 st_S 0 138 = 330) : ∀ d i q (m : fw_Mem), i + d = 330 → d < q → (∀ b, b ≠ 138 → m b = Mm b) → (∀ j, j < i → m 138 j = 0) → ∃ m', lf_X10_bare_2 st_S 138 q (nI i) m = some m' ∧ (∀ b, b ≠ 138 → m' b = Mm b) ∧ ∀ j, j < 330 → m' 138 j = 0 := by
  intro d
  induction d with
  | zero =>
    intro i q m hi hq f1 f2
    obtain ⟨q, rfl⟩ : ∃ j, q = j + 1 := ⟨q - 1, by omega⟩
    have hle : (330 : Int32) ≤ nI i := nI_le (a := 330) (by omega) (by omega)
    exact ⟨m, by simp only [lf_X10_bare_2, if_pos hle], f1, fun j hj => f2 j (by omega)⟩
  | succ d ih =>
    intro i q m hi hq f1 f2
    obtain ⟨q, rfl⟩ : ∃ j, q = j + 1 := ⟨q - 1, by omega⟩
    have hle : ¬ (330 : Int32) ≤ nI i := nI_ge (b := 330) (by omega) (by omega)
    obtain ⟨m', x1, x2⟩ := ih (i + 1) q (fw_set m 138 i 0) (by omega) (by omega) (fun b hb => by rw [set_nr _ _ _ hb]; exact f1 b hb) (fun j hj => by
      by_cases e : j = i
      · subst e; rw [set_eq]
      · rw [set_nk _ _ _ _ e]; exact f2 j (by omega))
    refine ⟨m', ?_, x2⟩
    rw [← x1, lf_X10_bare_2]
    simp only [if_neg hle, gA_138 (show i < 330 by omega), gd_tt, bm_s, nI_cl (show i < 2147483648 by omega), nI_1]
theorem m_bare : ∃ m', f_X10_bare st_S Mm 138 = some m' ∧ (∀ b, b ≠ 138 → m' b = Mm b) ∧ m' 138 3 = 50 ∧ ∀ j, j < 330 → j ≠ 3 → m' 138 j = 0 := by
  obtain ⟨m', x1, x2, x3⟩ := m_bareLoop (Mm := Mm) len_138 330 0 20000 Mm (by omega) (by omega) (fun _ _ => rfl) (fun j hj => absurd hj (by omega))
  rw [show nI 0 = (0 : Int32) from rfl] at x1
  refine ⟨fw_set m' 138 3 50, by simp only [f_X10_bare, x1, b1_s, gA_138_3, gd_tt, bm_s], fun b hb => by rw [set_nr _ _ _ hb]; exact x2 b hb, set_eq _ _ _ _, fun j hj h3 => by rw [set_nk _ _ _ _ h3]; exact x3 j hj⟩
theorem c_clear (h : KC M) : ∃ M', f_X4_clear st_S M 42 = some M' ∧ (∀ b, b ≠ 42 → b ≠ 46 → M' b = M b) ∧ (∀ j, j < 4 → M' 42 j = M 42 j) ∧ (M' 42 4 = 0 ∧ M' 42 5 = 0 ∧ M' 42 6 = 0) ∧ M' 46 0 = 50 ∧ M' 46 1 = 0 ∧ M' 46 2 = 0 := by
  obtain ⟨A, hA⟩ : ∃ m, m = fw_set (fw_set (fw_set M 42 4 0) 42 5 0) 42 6 0 := ⟨_, rfl⟩
  have a3 : A 42 3 = 46 := by rw [hA, set_nk _ _ _ _ (by decide), set_nk _ _ _ _ (by decide), set_nk _ _ _ _ (by decide)]; exact kc_42_3 h
  have b3 : ∀ m : fw_Mem, m 42 = A 42 → m 42 3 = 46 := fun m hm => by rw [hm]; exact a3
  have r1 : fw_set A 46 0 50 42 = A 42 := set_nr _ _ _ (by decide)
  have r2 : fw_set (fw_set A 46 0 50) 46 1 0 42 = A 42 := by rw [set_nr _ _ _ (by decide)]; exact r1
  refine ⟨fw_set (fw_set (fw_set A 46 0 50) 46 1 0) 46 2 0, ?_, fun b b1 b2 => ?_, fun j hj => ?_, ⟨?_, ?_, ?_⟩, ?_, ?_, ?_⟩
  · simp only [f_X4_clear, gO_42, gd_tt, bm_s]
    rw [← hA]
    simp only [a3, gN_46, tn_46, gA_46_0, gA_46_1, gA_46_2, gd_tt, b3 _ r1, b3 _ r2]
  · rw [set_nr _ _ _ b2, set_nr _ _ _ b2, set_nr _ _ _ b2, hA, set_nr _ _ _ b1, set_nr _ _ _ b1, set_nr _ _ _ b1]
  · rw [set_nr _ _ _ (by decide), r2, hA, set_nk _ _ _ _ (by omega), set_nk _ _ _ _ (by omega), set_nk _ _ _ _ (by omega)]
  · rw [set_nr _ _ _ (by decide), r2, hA, set_nk _ _ _ _ (by decide), set_nk _ _ _ _ (by decide), set_eq]
  · rw [set_nr _ _ _ (by decide), r2, hA, set_nk _ _ _ _ (by decide), set_eq]
  · rw [set_nr _ _ _ (by decide), r2, hA, set_eq]
  · rw [set_nk _ _ _ _ (by decide), set_nk _ _ _ _ (by decide), set_eq]
  · rw [set_nk _ _ _ _ (by decide), set_eq]
  · rw [set_eq]
end OA
