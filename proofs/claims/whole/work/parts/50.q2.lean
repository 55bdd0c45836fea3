/-! ===== more questions that change nothing ===== -/
theorem rgk {x : Int32} {k : Nat} (hk : k < 2147483648) : (¬ x < 0 ∧ x ≤ nI k) ↔ ∃ j, j ≤ k ∧ x = nI j := by
  constructor
  · rintro ⟨h1, h2⟩
    obtain ⟨j, hj, rfl⟩ := nI_of h1
    rw [nI_leI hj hk] at h2
    exact ⟨j, h2, rfl⟩
  · rintro ⟨s, hs, rfl⟩
    exact ⟨nI_pos (by omega), nI_le hs hk⟩
theorem wh1 {x : Int32} : (¬ x < 0 ∧ x ≤ 1) ↔ (x = 0 ∨ x = 1) := by
  rw [show (1 : Int32) = nI 1 from rfl, rgk (by omega)]
  constructor
  · rintro ⟨j, hj, rfl⟩
    rcases (by omega : j = 0 ∨ j = 1) with rfl | rfl <;> decide
  · rintro (rfl | rfl)
    · exact ⟨0, by omega, rfl⟩
    · exact ⟨1, by omega, rfl⟩
theorem wi1 {x : Int32} (hw : ¬ (x = 0 ∨ x = 1)) (S : List fw_Sh) (M : fw_Mem) : f_X10_isIn S M x 0 1 = some 0 := by
  rw [← wh1] at hw
  rw [e_isIn, decide_eq_false (fun q => hw ⟨q.1, Int32.not_lt.mp q.2⟩)]; rfl
theorem wc1 {x : Int32} (hw : ¬ (x = 0 ∨ x = 1)) {α : Type} (a b : α) : (if x < 0 then a else if x ≤ 1 then b else a) = a := by
  rw [← wh1] at hw
  by_cases h : x < 0
  · rw [if_pos h]
  · rw [if_neg h, if_neg (fun q => hw ⟨h, q⟩)]
theorem wh2 {x : Int32} : (¬ x < 0 ∧ x ≤ 2) ↔ (x = 0 ∨ x = 1 ∨ x = 2) := by
  rw [show (2 : Int32) = nI 2 from rfl, rgk (by omega)]
  constructor
  · rintro ⟨j, hj, rfl⟩
    rcases (by omega : j = 0 ∨ j = 1 ∨ j = 2) with rfl | rfl | rfl <;> decide
  · rintro (rfl | rfl | rfl)
    · exact ⟨0, by omega, rfl⟩
    · exact ⟨1, by omega, rfl⟩
    · exact ⟨2, by omega, rfl⟩
theorem wi2 {x : Int32} (hw : ¬ (x = 0 ∨ x = 1 ∨ x = 2)) (S : List fw_Sh) (M : fw_Mem) : f_X10_isIn S M x 0 2 = some 0 := by
  rw [← wh2] at hw
  rw [e_isIn, decide_eq_false (fun q => hw ⟨q.1, Int32.not_lt.mp q.2⟩)]; rfl
theorem wc2 {x : Int32} (hw : ¬ (x = 0 ∨ x = 1 ∨ x = 2)) {α : Type} (a b : α) : (if x < 0 then a else if x ≤ 2 then b else a) = a := by
  rw [← wh2] at hw
  by_cases h : x < 0
  · rw [if_pos h]
  · rw [if_neg h, if_neg (fun q => hw ⟨h, q⟩)]
theorem wh4 {x : Int32} : (¬ x < 0 ∧ x ≤ 4) ↔ (x = 0 ∨ x = 1 ∨ x = 2 ∨ x = 3 ∨ x = 4) := by
  rw [show (4 : Int32) = nI 4 from rfl, rgk (by omega)]
  constructor
  · rintro ⟨j, hj, rfl⟩
    rcases (by omega : j = 0 ∨ j = 1 ∨ j = 2 ∨ j = 3 ∨ j = 4) with rfl | rfl | rfl | rfl | rfl <;> decide
  · rintro (rfl | rfl | rfl | rfl | rfl)
    · exact ⟨0, by omega, rfl⟩
    · exact ⟨1, by omega, rfl⟩
    · exact ⟨2, by omega, rfl⟩
    · exact ⟨3, by omega, rfl⟩
    · exact ⟨4, by omega, rfl⟩
theorem wi4 {x : Int32} (hw : ¬ (x = 0 ∨ x = 1 ∨ x = 2 ∨ x = 3 ∨ x = 4)) (S : List fw_Sh) (M : fw_Mem) : f_X10_isIn S M x 0 4 = some 0 := by
  rw [← wh4] at hw
  rw [e_isIn, decide_eq_false (fun q => hw ⟨q.1, Int32.not_lt.mp q.2⟩)]; rfl
theorem wc4 {x : Int32} (hw : ¬ (x = 0 ∨ x = 1 ∨ x = 2 ∨ x = 3 ∨ x = 4)) {α : Type} (a b : α) : (if x < 0 then a else if x ≤ 4 then b else a) = a := by
  rw [← wh4] at hw
  by_cases h : x < 0
  · rw [if_pos h]
  · rw [if_neg h, if_neg (fun q => hw ⟨h, q⟩)]
theorem wh5 {x : Int32} : (¬ x < 0 ∧ x ≤ 5) ↔ (x = 0 ∨ x = 1 ∨ x = 2 ∨ x = 3 ∨ x = 4 ∨ x = 5) := by
  rw [show (5 : Int32) = nI 5 from rfl, rgk (by omega)]
  constructor
  · rintro ⟨j, hj, rfl⟩
    rcases (by omega : j = 0 ∨ j = 1 ∨ j = 2 ∨ j = 3 ∨ j = 4 ∨ j = 5) with rfl | rfl | rfl | rfl | rfl | rfl <;> decide
  · rintro (rfl | rfl | rfl | rfl | rfl | rfl)
    · exact ⟨0, by omega, rfl⟩
    · exact ⟨1, by omega, rfl⟩
    · exact ⟨2, by omega, rfl⟩
    · exact ⟨3, by omega, rfl⟩
    · exact ⟨4, by omega, rfl⟩
    · exact ⟨5, by omega, rfl⟩
theorem wi5 {x : Int32} (hw : ¬ (x = 0 ∨ x = 1 ∨ x = 2 ∨ x = 3 ∨ x = 4 ∨ x = 5)) (S : List fw_Sh) (M : fw_Mem) : f_X10_isIn S M x 0 5 = some 0 := by
  rw [← wh5] at hw
  rw [e_isIn, decide_eq_false (fun q => hw ⟨q.1, Int32.not_lt.mp q.2⟩)]; rfl
theorem wc5 {x : Int32} (hw : ¬ (x = 0 ∨ x = 1 ∨ x = 2 ∨ x = 3 ∨ x = 4 ∨ x = 5)) {α : Type} (a b : α) : (if x < 0 then a else if x ≤ 5 then b else a) = a := by
  rw [← wh5] at hw
  by_cases h : x < 0
  · rw [if_pos h]
  · rw [if_neg h, if_neg (fun q => hw ⟨h, q⟩)]
theorem wh14 {x : Int32} : (¬ x < 0 ∧ x ≤ 14) ↔ (x = 0 ∨ x = 1 ∨ x = 2 ∨ x = 3 ∨ x = 4 ∨ x = 5 ∨ x = 6 ∨ x = 7 ∨ x = 8 ∨ x = 9 ∨ x = 10 ∨ x = 11 ∨ x = 12 ∨ x = 13 ∨ x = 14) := by
  rw [show (14 : Int32) = nI 14 from rfl, rgk (by omega)]
  constructor
  · rintro ⟨j, hj, rfl⟩
    rcases (by omega : j = 0 ∨ j = 1 ∨ j = 2 ∨ j = 3 ∨ j = 4 ∨ j = 5 ∨ j = 6 ∨ j = 7 ∨ j = 8 ∨ j = 9 ∨ j = 10 ∨ j = 11 ∨ j = 12 ∨ j = 13 ∨ j = 14) with rfl | rfl | rfl | rfl | rfl | rfl | rfl | rfl | rfl | rfl | rfl | rfl | rfl | rfl | rfl <;> decide
  · rintro (rfl | rfl | rfl | rfl | rfl | rfl | rfl | rfl | rfl | rfl | rfl | rfl | rfl | rfl | rfl)
    · exact ⟨0, by omega, rfl⟩
    · exact ⟨1, by omega, rfl⟩
    · exact ⟨2, by omega, rfl⟩
    · exact ⟨3, by omega, rfl⟩
    · exact ⟨4, by omega, rfl⟩
    · exact ⟨5, by omega, rfl⟩
    · exact ⟨6, by omega, rfl⟩
    · exact ⟨7, by omega, rfl⟩
    · exact ⟨8, by omega, rfl⟩
    · exact ⟨9, by omega, rfl⟩
    · exact ⟨10, by omega, rfl⟩
    · exact ⟨11, by omega, rfl⟩
    · exact ⟨12, by omega, rfl⟩
    · exact ⟨13, by omega, rfl⟩
    · exact ⟨14, by omega, rfl⟩
theorem wi14 {x : Int32} (hw : ¬ (x = 0 ∨ x = 1 ∨ x = 2 ∨ x = 3 ∨ x = 4 ∨ x = 5 ∨ x = 6 ∨ x = 7 ∨ x = 8 ∨ x = 9 ∨ x = 10 ∨ x = 11 ∨ x = 12 ∨ x = 13 ∨ x = 14)) (S : List fw_Sh) (M : fw_Mem) : f_X10_isIn S M x 0 14 = some 0 := by
  rw [← wh14] at hw
  rw [e_isIn, decide_eq_false (fun q => hw ⟨q.1, Int32.not_lt.mp q.2⟩)]; rfl
theorem wc14 {x : Int32} (hw : ¬ (x = 0 ∨ x = 1 ∨ x = 2 ∨ x = 3 ∨ x = 4 ∨ x = 5 ∨ x = 6 ∨ x = 7 ∨ x = 8 ∨ x = 9 ∨ x = 10 ∨ x = 11 ∨ x = 12 ∨ x = 13 ∨ x = 14)) {α : Type} (a b : α) : (if x < 0 then a else if x ≤ 14 then b else a) = a := by
  rw [← wh14] at hw
  by_cases h : x < 0
  · rw [if_pos h]
  · rw [if_neg h, if_neg (fun q => hw ⟨h, q⟩)]
section CX
variable {M : fw_Mem} {a : Nat}
theorem qc1 (M : fw_Mem) (a : Nat) : M a 1 = cq M a 0 := by rw [cq0]
theorem qc2 (M : fw_Mem) (a : Nat) : M a 2 = cq M a 1 := by rw [cq1]
theorem qc3 (M : fw_Mem) (a : Nat) : M a 3 = cq M a 2 := by rw [cq2]
theorem qc4 (M : fw_Mem) (a : Nat) : M a 4 = cq M a 3 := by rw [cq3]
theorem qc5 (M : fw_Mem) (a : Nat) : M a 5 = cq M a 4 := by rw [cq4]
theorem qc6 (M : fw_Mem) (a : Nat) : M a 6 = cq M a 5 := by rw [cq5]
theorem qc7 (M : fw_Mem) (a : Nat) : M a 7 = cq M a 6 := by rw [cq6]
theorem qc8 (M : fw_Mem) (a : Nat) : M a 8 = cq M a 7 := by rw [cq7]
theorem qc9 (M : fw_Mem) (a : Nat) : M a 9 = cq M a 8 := by rw [cq8]
theorem qc10 (M : fw_Mem) (a : Nat) : M a 10 = cq M a 9 := by rw [cq9]
theorem qc11 (M : fw_Mem) (a : Nat) : M a 11 = cq M a 10 := by rw [cq10]
theorem qc12 (M : fw_Mem) (a : Nat) : M a 12 = cq M a 11 := by rw [cq11]
theorem e_c_winner (ha : gO st_S 6 a = true) (hm : M a 8 = 0 ∨ M a 8 = 1) : f_X6_winner st_S M a = some (q_wn (cq M a)) := by
  rw [qc8 M a] at hm
  simp only [f_X6_winner, ha, gd_tt, e_c_isJudged ha, b1_s, bI_0, q_wn, qc5 M a, qc6 M a, qc8 M a, qc10 M a]
  generalize cq M a = q at hm ⊢
  cases hj : q_jd q
  · have : q_om q = false := by simp [q_om, hj]
    simp [this]
  · rcases hm with e | e
    · have : q_om q = false := by simp [q_om, hj, e]
      simp [this, e]
    · have : q_om q = true := by simp [q_om, hj, e]
      simp only [this, e, if_true, i10, if_false, Bool.true_eq_false]
      split
      · split <;> rfl
      · rfl
theorem gr_eq (q : Nat → Int32) : (q 4 &&& q 10) ||| (q 5 &&& q 9) = q_gr q := by rw [q_gr]
theorem e_c_nec (ha : gO st_S 6 a = true) (hm : M a 8 = 0 ∨ M a 8 = 1) (e : Int32) : f_X6_necessaryIssues st_S M a e = some (q_nc e (cq M a)) := by
  simp only [f_X6_necessaryIssues, ha, gd_tt, e_c_winner ha hm, b1_s, bm_s, e_bc, q_nc, gr_eq, qc5 M a, qc6 M a, qc10 M a, qc11 M a]
  generalize cq M a = q
  by_cases h1 : q_wn q = -1
  · rw [if_pos h1, if_pos h1]
  · rw [if_neg h1, if_neg h1]
    by_cases h2 : q_wn q = 0
    · rw [if_pos h2, if_pos h2]
    · rw [if_neg h2, if_neg h2]
      by_cases h3 : e = 1
      · rw [if_pos h3, if_pos h3, ite_self]
      · rw [if_neg h3, if_neg h3]
        split
        · rfl
        · rfl
theorem e_c_all (ha : gO st_S 6 a = true) : f_X6_allIssues st_S M a = some (q_is (cq M a)) := by simp only [f_X6_allIssues, ha, gd_tt]; rfl
theorem sy_sn {e : Int32} {q : Nat → Int32} : (q_st e q &&& q 9) ||| (q_st e q &&& q 10) = q_st e q := b_ext fun i hi => by
  rw [b_or, b_and, b_and]
  have := q_st_sub (e := e) (q := q) hi
  cases e1 : bt (q_st e q) i <;> cases e2 : bt (q 9) i <;> cases e3 : bt (q 10) i <;> simp [e1, e2, e3] at this ⊢
end CX
section MQ
variable {M : fw_Mem} {r : Nat → Int32} {P L N s : Nat} {x y z : Int32}
theorem m_issues (h : KC M) (e : M 137 = r) (w : WF r P L N) (hs : s < N) (hy : y = 0 ∨ y = 1) : ∃ M2, f_X10_issues st_S M 136 (nI s) y = some (if y = 0 then z_held (sq r s) (z_h r L N (nI s) (sq r s)) else q_is (sq r s) &&& (z_held (sq r s) (z_h r L N (nI s) (sq r s)) ^^^ (-1)), M2) ∧ MC M M2 0 := by
  obtain ⟨B, h1, h2, h3, h4, h5, h6, h7⟩ := m_lay0 h e w
  have n := w.n
  have hi := e_issuesOf h4 (s := s) (by omega)
  rw [h3] at hi
  refine ⟨B, ?_, h2⟩
  rcases hy with rfl | rfl <;> simp [f_X10_issues, gO_136, gd_tt, bm_s, ms_ok h6 h7 w hs, b1_s, h1, mb_held h4 h3 w h5 hs, e_isIn, bI, hi]
theorem m_issuesNo (h : KC M) (e : M 137 = r) (w : WF r P L N) (hx : ¬ ((∃ s, s < N ∧ x = nI s) ∧ (y = 0 ∨ y = 1))) : ∃ b M2, f_X10_issues st_S M 136 x y = some (b, M2) ∧ MC M M2 1 := by
  obtain ⟨B, h1, h2, h3, h4, h5, h6, h7⟩ := m_lay0 h e w
  refine ⟨0, _, ?_, mc_ff M 0 1⟩
  by_cases hs : ∃ s, s < N ∧ x = nI s
  · have hw : ¬ (y = 0 ∨ y = 1) := fun q => hx ⟨hs, q⟩
    obtain ⟨s, hs, rfl⟩ := hs
    simp only [f_X10_issues, gO_136, gd_tt, bm_s, ms_ok h6 h7 w hs, b1_s, i10, i00, if_false, wi1 hw, if_true, m_fail, b2_s]
  · simp only [f_X10_issues, gO_136, gd_tt, bm_s, ms_no h6 h7 w hs, b1_s, i00, if_true, m_fail, b2_s]
end MQ
section Q2
variable {M : fw_Mem}
theorem q_issues (I : INV M) (x y : Int32) : QOK (f_L_issues st_S M 0 x y 148) (fun M1 => f_X10_issues st_S M1 136 x y) := by
  obtain ⟨P, L, N, A, T, U, hh, h, w, pp, r3, c, -⟩ := id I
  by_cases hx : (∃ s, s < N ∧ x = nI s) ∧ (y = 0 ∨ y = 1)
  · obtain ⟨⟨s, hs, rfl⟩, hy⟩ := hx
    have n := w.n
    obtain ⟨hg, e0, eq⟩ := c.at' h w.n hs
    obtain ⟨M', hb, hf⟩ := c_held h w c hg (by omega) (by omega) (by rw [eq]; exact (w.q hs).qq w.1.1)
    rw [e0, eq] at hb
    have hi := e_c_all (M := M') hg
    rw [cq_fr (hf.1 _ (by omega)), eq] at hi
    refine qok0 I (M1 := fw_set M' 148 0 (if y = 0 then z_held (sq (M 137) s) (z_h (M 137) L N (nI s) (sq (M 137) s)) else q_is (sq (M 137) s) &&& (z_held (sq (M 137) s) (z_h (M 137) L N (nI s) (sq (M 137) s)) ^^^ (-1)))) ?_ (hf.ag.st 148 0 _ rfl) (set_eq _ _ _ _) (fun k1 e => m_issues k1 e w hs hy)
    rcases hy with rfl | rfl <;> simp [f_L_issues, f_X9_issues, gO_0, gd_tt, kc_0_5 h, gN_121, tn_121, gO_121, b1_s, b2_s, bxl, bxr, bn_s, gA_148_0, bm_s, if_true, if_false, i10, i00, c_suitAt h c.1.1 w.n hs, hb, hg, hi]
  · refine qok1 I (M1 := M) (k := 1) (by decide) ?_ (AG.rf M) (fun k1 e => m_issuesNo k1 e w hx)
    by_cases hs : ∃ s, s < N ∧ x = nI s
    · have hw : ¬ (y = 0 ∨ y = 1) := fun q => hx ⟨hs, q⟩
      obtain ⟨s, hs, rfl⟩ := hs
      simp only [f_L_issues, f_X9_issues, gO_0, gd_tt, kc_0_5 h, gN_121, tn_121, gO_121, b1_s, b2_s, bxl, bxr, bn_s, gA_148_0, bm_s, if_true, if_false, i10, i00, c_suitAt h c.1.1 w.n hs, wc1 hw]
    · simp only [f_L_issues, f_X9_issues, gO_0, gd_tt, kc_0_5 h, gN_121, tn_121, gO_121, b1_s, b2_s, bxl, bxr, bn_s, gA_148_0, bm_s, if_true, if_false, i10, i00, c_suitNo h c.1.1 w.n hs]
end Q2
