section WQ2
variable {M : fw_Mem}
theorem c_couple {P : Nat} (h : KC M) (hP : M 3 4 = nI P) (hP2 : P ≤ 12) {x y : Int32} (hx : ∃ p, p < P ∧ x = nI p) (hy : ∃ p, p < P ∧ y = nI p) (hne : ¬ x = y) : f_X9_needCouple st_S M 0 x y = some (.inl ()) := by
  obtain ⟨p, hp, rfl⟩ := hx
  obtain ⟨q, hq, rfl⟩ := hy
  simp only [f_X9_needCouple, gO_0, gd_tt, c_person h hP hP2 hp, c_person h hP hP2 hq, b1_s, bxl, if_neg hne]
theorem c_coupleNo {P : Nat} (h : KC M) (hP : M 3 4 = nI P) (hP2 : P ≤ 12) {x y : Int32} (hx : ¬ ((∃ p, p < P ∧ x = nI p) ∧ (∃ p, p < P ∧ y = nI p) ∧ ¬ x = y)) : f_X9_needCouple st_S M 0 x y = some (.inr exN) := by
  by_cases h1 : ∃ p, p < P ∧ x = nI p
  · obtain ⟨p, hp, rfl⟩ := id h1
    by_cases h2 : ∃ p, p < P ∧ y = nI p
    · obtain ⟨q, hq, rfl⟩ := id h2
      have h3 : nI p = nI q := by
        by_cases e : nI p = nI q
        · exact e
        · exact absurd ⟨h1, h2, e⟩ hx
      simp only [f_X9_needCouple, gO_0, gd_tt, c_person h hP hP2 hp, c_person h hP hP2 hq, b1_s, bxl, if_pos h3]
    · simp only [f_X9_needCouple, gO_0, gd_tt, c_person h hP hP2 hp, c_personNo h hP hP2 h2, b1_s, bxl, bxr]
  · simp only [f_X9_needCouple, gO_0, gd_tt, c_personNo h hP hP2 h1, b1_s, bxr]
/-- the model's first steps of would: are the persons there -/
theorem m_would {r : Nat → Int32} {P L N : Nat} (h : KC M) (e : M 137 = r) (w : WF r P L N) (x1 x2 x3 x4 x5 x6 : Int32) : f_X10_would st_S M 136 x1 x2 x3 x4 x5 x6 = fj_X10_would_46 st_S M 136 x2 x3 x4 x5 x6 (x1 / 12) (x1 - x1 / 12 * 12) (bI (decide (¬ x1 < 0 ∧ (∃ p, p < P ∧ x1 / 12 = nI p) ∧ (∃ p, p < P ∧ x1 - x1 / 12 * 12 = nI p) ∧ ¬ x1 / 12 = x1 - x1 / 12 * 12))) := by
  unfold f_X10_would
  by_cases h0 : x1 < 0
  · rw [if_pos h0, decide_eq_false (fun q => q.1 h0)]; rfl
  · rw [if_neg h0]
    by_cases h1 : ∃ p, p < P ∧ x1 / 12 = nI p
    · have a1 : f_X10_isPerson st_S M 136 (x1 / 12) = some 1 := by obtain ⟨p, hp, q⟩ := h1; rw [q]; exact mp_ok h e w hp
      by_cases h2 : ∃ p, p < P ∧ x1 - x1 / 12 * 12 = nI p
      · have a2 : f_X10_isPerson st_S M 136 (x1 - x1 / 12 * 12) = some 1 := by obtain ⟨p, hp, q⟩ := h2; rw [q]; exact mp_ok h e w hp
        by_cases h3 : x1 / 12 = x1 - x1 / 12 * 12
        · simp only [gO_136, gd_tt, a1, a2, b1_s, i10, if_false, if_pos h3, decide_eq_false (fun (q : ¬ x1 < 0 ∧ (∃ p, p < P ∧ x1 / 12 = nI p) ∧ (∃ p, p < P ∧ x1 - x1 / 12 * 12 = nI p) ∧ ¬ x1 / 12 = x1 - x1 / 12 * 12) => q.2.2.2 h3)]; rfl
        · simp only [gO_136, gd_tt, a1, a2, b1_s, i10, if_false, if_neg h3, decide_eq_true (show ¬ x1 < 0 ∧ (∃ p, p < P ∧ x1 / 12 = nI p) ∧ (∃ p, p < P ∧ x1 - x1 / 12 * 12 = nI p) ∧ ¬ x1 / 12 = x1 - x1 / 12 * 12 from ⟨h0, h1, h2, h3⟩)]; rfl
      · simp only [gO_136, gd_tt, a1, mp_no h e w h2, b1_s, i10, if_false, i00, if_true, decide_eq_false (fun (q : ¬ x1 < 0 ∧ (∃ p, p < P ∧ x1 / 12 = nI p) ∧ (∃ p, p < P ∧ x1 - x1 / 12 * 12 = nI p) ∧ ¬ x1 / 12 = x1 - x1 / 12 * 12) => h2 q.2.2.1)]; rfl
    · simp only [gO_136, gd_tt, mp_no h e w h1, b1_s, i00, if_true, decide_eq_false (fun (q : ¬ x1 < 0 ∧ (∃ p, p < P ∧ x1 / 12 = nI p) ∧ (∃ p, p < P ∧ x1 - x1 / 12 * 12 = nI p) ∧ ¬ x1 / 12 = x1 - x1 / 12 * 12) => h1 q.2.1)]; rfl
def wGood (x2 x3 x4 x5 : Int32) : Bool := decide (¬ x3 < 0 ∧ ¬ x4 < 0 ∧ ¬ x5 < 0 ∧ (x4 &&& x5) = 0 ∧ ¬ x2 < 0 ∧ ¬ (9999 : Int32) < x2)
theorem m_would46 (x2 x3 x4 x5 x6 x7 x8 z : Int32) : fj_X10_would_46 st_S M 136 x2 x3 x4 x5 x6 x7 x8 z = fj_X10_would_86 st_S M 136 x2 x3 x4 x5 x6 x7 x8 z (bI (wGood x2 x3 x4 x5)) := by
  unfold fj_X10_would_46 wGood
  by_cases h3 : x3 < 0
  · simp [h3, bI]
  · by_cases h4 : x4 < 0
    · simp [h4, bI]
    · by_cases h5 : x5 < 0
      · simp [h5, bI]
      · by_cases h6 : x4 &&& x5 = 0
        · rw [if_neg h3, if_neg h4, if_neg h5, if_pos h6, e_isIn, b1_s]
          by_cases h7 : ¬ x2 < 0 ∧ ¬ (9999 : Int32) < x2
          · rw [decide_eq_true h7, decide_eq_true ⟨h3, h4, h5, h6, h7.1, h7.2⟩]; rfl
          · rw [decide_eq_false h7, decide_eq_false (fun q => h7 ⟨q.2.2.2.2.1, q.2.2.2.2.2⟩)]; rfl
        · simp [h3, h4, h5, h6, bI]
theorem m_would86 (x2 x3 x4 x5 x6 x7 x8 : Int32) (a g : Bool) : fj_X10_would_86 st_S M 136 x2 x3 x4 x5 x6 x7 x8 (bI a) (bI g) = fj_X10_would_118 st_S M 136 x2 x3 x4 x5 x6 x7 x8 (if a && decide (¬ x6 < 0 ∧ ¬ (2 : Int32) < x6) then (if g then 0 else 2) else 1) 136 := by
  unfold fj_X10_would_86
  rw [e_isIn, b1_s]
  cases a
  · simp [bI]
  · rcases bcas (decide (¬ x6 < 0 ∧ ¬ (2 : Int32) < x6)) with q | q
    · rw [q]; cases g <;> simp [bI]
    · rw [q]; simp [bI]
theorem q_would (I : INV M) (x1 x2 x3 x4 x5 x6 : Int32) : QOK (f_L_would st_S M 0 x1 x2 x3 x4 x5 x6 148) (fun M1 => f_X10_would st_S M1 136 x1 x2 x3 x4 x5 x6) := by
  obtain ⟨P, L, N, A, T, U, hh, iv⟩ := id I
  obtain ⟨h, w, pp, r3, c, -⟩ := id iv
  have n10 := w.n
  have p12 := w.1.1
  have l24 := w.1.2.1
  -- what the model does where it refuses
  have mno : ∀ {M1 : fw_Mem} (k : Int32), (k = 1 ∨ k = 2) → KC M1 → M1 137 = M 137 → (if (decide (¬ x1 < 0 ∧ (∃ p, p < P ∧ x1 / 12 = nI p) ∧ (∃ p, p < P ∧ x1 - x1 / 12 * 12 = nI p) ∧ ¬ x1 / 12 = x1 - x1 / 12 * 12)) && decide (¬ x6 < 0 ∧ ¬ (2 : Int32) < x6) then (if wGood x2 x3 x4 x5 then (0 : Int32) else 2) else 1) = k → ∃ b M2, f_X10_would st_S M1 136 x1 x2 x3 x4 x5 x6 = some (b, M2) ∧ MC M1 M2 k := fun {M1} k hk k1 e hv => by
    refine ⟨0, fw_set M1 136 6 k, ?_, mf_set M1 k⟩
    rw [m_would k1 e w, m_would46, m_would86, hv]
    have : ¬ k ≤ 0 := by rcases hk with rfl | rfl <;> decide
    simp only [fj_X10_would_118, gO_136, gd_tt, bm_s, set_eq, if_neg this]
  by_cases h0 : x1 < 0
  · exact qok1 I (M1 := M) (k := 1) (by decide) (by simp [f_L_would, f_X9_would, gO_0, gd_tt, kc_0_5 h, gN_121, tn_121, gO_121, b1_s, b2_s, bxl, bxr, bn_s, gA_148_0, bm_s, if_true, if_false, i10, i00, h0]) (AG.rf M) (fun k1 e => mno 1 (Or.inl rfl) k1 e (by simp [h0]))
  by_cases h6 : x6 = 0 ∨ x6 = 1 ∨ x6 = 2
  rotate_left
  · have h6' := (not_congr wh2).mpr h6
    have h6'' : decide (¬ x6 < 0 ∧ ¬ (2 : Int32) < x6) = false := decide_eq_false fun q => h6' ⟨q.1, Int32.not_lt.mp q.2⟩
    refine qok1 I (M1 := M) (k := 1) (by decide) ?_ (AG.rf M) (fun k1 e => mno 1 (Or.inl rfl) k1 e (by rw [h6'', Bool.and_false]; rfl))
    simp only [f_L_would, f_X9_would, gO_0, gd_tt, kc_0_5 h, gN_121, tn_121, gO_121, b1_s, b2_s, bxl, bxr, bn_s, gA_148_0, bm_s, if_true, if_false, i10, i00, if_neg h0, wc2 h6]
  have h6a := wh2.mpr h6
  have h6d : decide (¬ x6 < 0 ∧ ¬ (2 : Int32) < x6) = true := decide_eq_true ⟨h6a.1, Int32.not_lt.mpr h6a.2⟩
  generalize hp : x1 / 12 = p at mno
  generalize hd : x1 - p * 12 = d at mno
  have hd' : x1 - x1 / 12 * 12 = d := by rw [hp]; exact hd
  have k7 : KC (fw_set M 135 1 p) := kc_set h (by decide +kernel)
  have k10 : KC (fw_set (fw_set M 135 1 p) 135 2 d) := kc_set k7 (by decide +kernel)
  have g10 : AG M (fw_set (fw_set M 135 1 p) 135 2 d) := ((AG.rf M).st 135 1 _ rfl).st 135 2 _ rfl
  have P10 : fw_set (fw_set M 135 1 p) 135 2 d 3 4 = nI P := by rw [set_na _ _ _ _ (by decide), set_na _ _ _ _ (by decide)]; exact r3.1.1
  have v1 : fw_set (fw_set M 135 1 p) 135 2 d 135 1 = p := by rw [set_nk _ _ _ _ (by decide), set_eq]
  have v2 : fw_set (fw_set M 135 1 p) 135 2 d 135 2 = d := set_eq _ _ _ _
  have pre : ∀ R, f_X9_needCouple st_S (fw_set (fw_set M 135 1 p) 135 2 d) 0 p d = some R → f_X9_would st_S M 0 x1 x2 x3 x4 x5 x6 = f_X9_would st_S M 0 x1 x2 x3 x4 x5 x6 := fun _ _ => rfl
  by_cases hc : (∃ q, q < P ∧ p = nI q) ∧ (∃ q, q < P ∧ d = nI q) ∧ ¬ p = d
  rotate_left
  · have hcn := c_coupleNo k10 P10 p12 hc
    refine qok1 I (M1 := fw_set (fw_set M 135 1 p) 135 2 d) (k := 1) (by decide) ?_ g10 (fun k1 e => mno 1 (Or.inl rfl) k1 e ?_)
    · simp only [f_L_would, f_X9_would, gO_0, gd_tt, kc_0_5 h, gN_121, tn_121, gO_121, b1_s, b2_s, bxl, bxr, bn_s, gA_148_0, bm_s, if_true, if_false, i10, i00, if_neg h0, if_neg h6a.1, if_pos h6a.2, kc_0_9 h, gN_135, tn_135, gO_135, hp, hd, kc_0_9 k7, kc_0_9 k10, v1, v2, hcn]
    · rw [decide_eq_false (fun q => hc q.2)]; rfl
  have hcy := c_couple k10 P10 p12 hc.1 hc.2.1 hc.2.2
  have hdec : decide (¬ x1 < 0 ∧ (∃ q, q < P ∧ p = nI q) ∧ (∃ q, q < P ∧ d = nI q) ∧ ¬ p = d) = true := decide_eq_true ⟨h0, hc⟩
  cases hgd : wGood x2 x3 x4 x5
  · refine qok1 I (M1 := fw_set (fw_set M 135 1 p) 135 2 d) (k := 2) (by decide) ?_ g10 (fun k1 e => mno 2 (Or.inr rfl) k1 e (by rw [hdec, h6d, hgd]; rfl))
    simp only [f_L_would, f_X9_would, gO_0, gd_tt, kc_0_5 h, gN_121, tn_121, gO_121, b1_s, b2_s, bxl, bxr, bn_s, gA_148_0, bm_s, if_true, if_false, i10, i00, if_neg h0, if_neg h6a.1, if_pos h6a.2, kc_0_9 h, gN_135, tn_135, gO_135, hp, hd, kc_0_9 k7, kc_0_9 k10, v1, v2, hcy]
    have hne : ¬ exI = exN := by decide
    simp only [wGood, decide_eq_false_iff_not] at hgd
    by_cases z6 : x4 &&& x5 = 0
    · rw [if_pos z6]
      by_cases z3 : x3 < 0
      · simp only [if_pos z3, b1_s, b2_s, bxl, bxr, bn_s, bm_s, if_neg hne, if_true]
      · rw [if_neg z3]
        by_cases z4 : x4 < 0
        · simp only [if_pos z4, b1_s, b2_s, bxl, bxr, bn_s, bm_s, if_neg hne, if_true]
        · rw [if_neg z4]
          by_cases z5 : x5 < 0
          · simp only [if_pos z5, b1_s, b2_s, bxl, bxr, bn_s, bm_s, if_neg hne, if_true]
          · rw [if_neg z5]
            have zd : ¬ (¬ x2 < 0 ∧ ¬ (9999 : Int32) < x2) := fun q => hgd ⟨z3, z4, z5, z6, q.1, q.2⟩
            have hday : f_X9_isDay st_S (fw_set (fw_set M 135 1 p) 135 2 d) x2 = some 0 := by
              unfold f_X9_isDay
              by_cases y1 : x2 < 0
              · rw [if_pos y1]
              · have y2 : (9999 : Int32) < x2 := by
                  by_cases y2 : (9999 : Int32) < x2
                  · exact y2
                  · exact absurd ⟨y1, y2⟩ zd
                rw [if_neg y1, if_pos y2]
            simp only [hday, b1_s, b2_s, bxl, bxr, bn_s, bm_s, i00, if_true, if_neg hne]
    · simp only [if_neg z6, b1_s, b2_s, bxl, bxr, bn_s, bm_s, if_neg hne, if_true]
  -- all is well
  have hgp := hgd
  simp only [wGood, decide_eq_true_eq] at hgp
  obtain ⟨z3, z4, z5, z6, z7, z8⟩ := hgp
  obtain ⟨M29, hM29⟩ : ∃ m, m = fw_set (fw_set (fw_set (fw_set (fw_set (fw_set M 135 1 p) 135 2 d) 135 3 x2) 135 4 x3) 135 5 x4) 135 6 x5 := ⟨_, rfl⟩
  have k20 : KC (fw_set (fw_set (fw_set M 135 1 p) 135 2 d) 135 3 x2) := kc_set k10 (by decide +kernel)
  have k23 : KC (fw_set (fw_set (fw_set (fw_set M 135 1 p) 135 2 d) 135 3 x2) 135 4 x3) := kc_set k20 (by decide +kernel)
  have k26 : KC (fw_set (fw_set (fw_set (fw_set (fw_set M 135 1 p) 135 2 d) 135 3 x2) 135 4 x3) 135 5 x4) := kc_set k23 (by decide +kernel)
  have k29 : KC M29 := by rw [hM29]; exact kc_set k26 (by decide +kernel)
  have g29 : AG M M29 := by rw [hM29]; exact (((g10.st 135 3 _ rfl).st 135 4 _ rfl).st 135 5 _ rfl).st 135 6 _ rfl
  have f29 : ∀ b, b ≠ 135 → M29 b = M b := fun b hb => by rw [hM29, set_nr _ _ _ hb, set_nr _ _ _ hb, set_nr _ _ _ hb, set_nr _ _ _ hb, set_nr _ _ _ hb, set_nr _ _ _ hb]
  have n0 : M29 135 0 = -1 := kc_135_0 k29
  have q0 : cq M29 135 0 = p := by rw [hM29]; simp [cq, fw_set]
  have q1 : cq M29 135 1 = d := by rw [hM29]; simp [cq, fw_set]
  have q2 : cq M29 135 2 = x2 := by rw [hM29]; simp [cq, fw_set]
  have q3 : cq M29 135 3 = x3 := by rw [hM29]; simp [cq, fw_set]
  have q4 : cq M29 135 4 = x4 := by rw [hM29]; simp [cq, fw_set]
  have q5 : cq M29 135 5 = x5 := by rw [hM29]; simp [cq, fw_set]
  have hqq : QQ (cq M29 135) := by
    obtain ⟨⟨a, ha, ea⟩, ⟨b, hb, eb⟩, -⟩ := hc
    exact ⟨⟨a, by omega, by rw [q0]; exact ea⟩, ⟨b, by omega, by rw [q1]; exact eb⟩, by rw [q4, q5]; exact z6⟩
  have c29 : CR M29 (M 137) L N := by
    refine ⟨by rw [f29 3 (by decide), f29 7 (by decide)]; exact c.1, fun i hi => ?_⟩
    have ei := f29 (32 + i) (by omega)
    rw [cq_fr ei, ei]; exact c.2 i hi
  have hday : f_X9_isDay st_S (fw_set (fw_set M 135 1 p) 135 2 d) x2 = some 1 := by simp only [f_X9_isDay, if_neg z7, if_neg z8]
  -- the answer, as the class has it
  obtain ⟨u, hu⟩ : ∃ u, u = (if x6 = 0 then z_bars (M 137 3) (M 137 4) (-1) (cq M29 135) (sq (M 137)) (BDr (M 137) L) N else if x6 = 1 then z_held (cq M29 135) (z_h (M 137) L N (-1) (cq M29 135)) else z_fc (cq M29 135) (z_bars (M 137 3) (M 137 4) (-1) (cq M29 135) (sq (M 137)) (BDr (M 137) L) N) (z_held (cq M29 135) (z_h (M 137) L N (-1) (cq M29 135))) (z_yes (cq M29 135) (z_h (M 137) L N (-1) (cq M29 135)) (z_y (M 137)))) := ⟨_, rfl⟩
  have hclass : ∃ M1, f_X9_would st_S M 0 x1 x2 x3 x4 x5 x6 = some (.inl u, M1) ∧ BF M29 M1 := by
    have base : f_X9_would st_S M 0 x1 x2 x3 x4 x5 x6 = (if x6 = 0 then (b1 (f_X2_barringSuits st_S M29 121 135) (fun v42 => some (.inl v42, M29))) else (if x6 = 1 then (b2 (f_X2_heldIssues st_S M29 121 135) (fun v38 M38 => some (.inl v38, M38))) else (b2 (f_X2_forcedWay st_S M29 121 135) (fun v34 M34 => some (.inl v34, M34))))) := by
      rw [hM29] at k29 ⊢
      simp only [f_X9_would, gO_0, gd_tt, kc_0_5 h, gN_121, tn_121, gO_121, b1_s, b2_s, bxl, bxr, bn_s, gA_148_0, bm_s, if_true, if_false, i10, i00, if_neg h0, if_neg h6a.1, if_pos h6a.2, kc_0_9 h, gN_135, tn_135, gO_135, hp, hd, kc_0_9 k7, kc_0_9 k10, v1, v2, hcy, if_pos z6, if_neg z3, if_neg z4, if_neg z5, hday, kc_0_9 k20, kc_0_9 k23, kc_0_9 k26, kc_0_9 k29, kc_0_5 k29]
    rw [base, hu]
    rcases h6 with rfl | rfl | rfl
    · have hb := c_bars k29 w c29 gO_135
      rw [n0] at hb
      exact ⟨M29, by simp only [if_true, hb, b1_s], BF.rfl' M29⟩
    · obtain ⟨M1, hb, hf⟩ := c_held k29 w c29 gO_135 (by decide) (by decide) hqq
      rw [n0] at hb
      exact ⟨M1, by simp only [i10, if_false, if_true, hb, b2_s], hf⟩
    · obtain ⟨M1, hb, hf⟩ := c_forced k29 w c29 gO_135 (by omega) hqq
      rw [n0] at hb
      refine ⟨M1, ?_, hf⟩
      rw [hb, b2_s]
      rfl
  obtain ⟨M1, x1', x2'⟩ := hclass
  have gA1 : AG M (fw_set M1 148 0 u) := (g29.tr x2'.ag).st 148 0 _ rfl
  -- the model
  have kB0 : KC (fw_set M1 148 0 u) := gA1.kc h
  have eB0 : fw_set M1 148 0 u 137 = M 137 := gA1.row rfl
  have ivB := gA1.iv iv
  have ho : f_L_would st_S M 0 x1 x2 x3 x4 x5 x6 148 = some (0, fw_set M1 148 0 u) := by simp only [f_L_would, gO_0, gd_tt, kc_0_5 h, gN_121, tn_121, gO_121, b1_s, b2_s, bxl, bxr, bn_s, gA_148_0, bm_s, if_true, if_false, i10, i00, x1']
  have h148 : fw_set M1 148 0 u 148 0 = u := set_eq _ _ _ _
  generalize fw_set M1 148 0 u = B0 at kB0 eB0 ivB ho h148
  have k5 := kc_136 kB0 0
  have e5 := (s137 B0 0).trans eB0
  have k11 := kc_137 k5 2 (nI (N + 1))
  obtain ⟨m13, y1, y2, y3, y4⟩ := e_lay len_137 (fw_set (fw_set B0 136 6 0) 137 2 (nI (N + 1))) (show N ≤ 10 by omega) p d x2 136
  have k13 : KC m13 := kc_ne k11 137 kcn_137 y2
  have p14 := e_put k13 (show N ≤ 10 by omega) (show 3 < 12 by omega) (x := 3) rfl x3
  have k14 := kc_137 k13 (198 + 12 * N + 3) x3
  have p15 := e_put k14 (show N ≤ 10 by omega) (show 4 < 12 by omega) (x := 4) rfl x4
  have k15 := kc_137 k14 (198 + 12 * N + 4) x4
  have p16 := e_put k15 (show N ≤ 10 by omega) (show 5 < 12 by omega) (x := 5) rfl x5
  have k16 := kc_137 k15 (198 + 12 * N + 5) x5
  obtain ⟨m16, hm16⟩ : ∃ m, m = fw_set (fw_set (fw_set m13 137 (198 + 12 * N + 3) x3) 137 (198 + 12 * N + 4) x4) 137 (198 + 12 * N + 5) x5 := ⟨_, rfl⟩
  rw [← hm16] at p16 k16
  have f16 : ∀ b, b ≠ 137 → b ≠ 136 → m16 b = B0 b := fun b b1 b2 => by rw [hm16, set_nr _ _ _ b1, set_nr _ _ _ b1, set_nr _ _ _ b1, y2 b b1, set_nr _ _ _ b1, set_nr _ _ _ b2]
  have f136 : ∀ j, j ≠ 6 → m16 136 j = B0 136 j := fun j hj => by rw [hm16, set_na _ _ _ _ (by decide), set_na _ _ _ _ (by decide), set_na _ _ _ _ (by decide), y2 136 (by decide), set_na _ _ _ _ (by decide), set_nk _ _ _ _ hj]
  have f1366 : m16 136 6 = 0 := by rw [hm16, set_na _ _ _ _ (by decide), set_na _ _ _ _ (by decide), set_na _ _ _ _ (by decide), y2 136 (by decide), set_na _ _ _ _ (by decide), set_eq]
  have lo16 : ∀ j, j < 198 + 12 * N → j ≠ 2 → m16 137 j = M 137 j := fun j hj h2 => by rw [hm16, set_nk _ _ _ _ (by omega), set_nk _ _ _ _ (by omega), set_nk _ _ _ _ (by omega), y3 j (Or.inl hj), set_nk _ _ _ _ h2, e5]
  have r2 : m16 137 2 = nI (N + 1) := by rw [hm16, set_nk _ _ _ _ (by omega), set_nk _ _ _ _ (by omega), set_nk _ _ _ _ (by omega), y3 2 (Or.inl (by omega)), set_eq]
  have hrow : ∀ j, j < 12 → m16 137 (198 + 12 * N + j) = if j = 0 then p else if j = 1 then d else if j = 2 then x2 else if j = 3 then x3 else if j = 4 then x4 else if j = 5 then x5 else if j = 6 then -1 else 0 := fun j hj => by
    rw [hm16]
    by_cases j5 : j = 5
    · subst j5; rw [set_eq]; simp
    rw [set_nk _ _ _ _ (by omega)]
    by_cases j4 : j = 4
    · subst j4; rw [set_eq]; simp
    rw [set_nk _ _ _ _ (by omega)]
    by_cases j3 : j = 3
    · subst j3; rw [set_eq]; simp
    rw [set_nk _ _ _ _ (by omega), y4 j hj]
    simp [j3, j4, j5]
  have hsq : ∀ j, j < 12 → sq (m16 137) N j = if j = 0 then p else if j = 1 then d else if j = 2 then x2 else if j = 3 then x3 else if j = 4 then x4 else if j = 5 then x5 else if j = 6 then -1 else 0 := fun j hj => by
    rw [← hrow j hj]
    simp [sq, hj]
  -- the row but for its number of suits
  let ro : Nat → Int32 := upd (m16 137) 2 (nI N)
  have hle : Lve (M 137) ro N := fun j hj => by
    by_cases e2 : j = 2
    · subst e2
      simp only [ro, upd_eq]; exact w.2.1.2.2.symm
    · simp only [ro]; rw [upd_ne _ _ e2]; exact lo16 j hj e2
  have rsq : ∀ s, sq (m16 137) s = sq ro s := fun s => by
    funext j
    unfold sq
    split
    · simp only [ro]; rw [upd_ne _ _ (by omega)]
    · rfl
  have rlq : ∀ l, lq (m16 137) l = lq ro l := fun l => by
    funext j
    unfold lq
    split
    · simp only [ro]; rw [upd_ne _ _ (by omega)]
    · rfl
  have rlo : ∀ j, j ≠ 2 → m16 137 j = ro j := fun j hj => by simp only [ro]; rw [upd_ne _ _ hj]
  have wro := lve_wf hle w
  obtain ⟨m17, t1, t2, t3⟩ := e_layBound k16 (N := N + 1) r2 (by omega) (show m16 137 1 = nI L by rw [lo16 1 (by omega) (by omega)]; exact w.2.1.2.1) l24 (fun l hl => by
    rw [rlq]
    obtain ⟨-, ⟨a, ha, ea⟩, -⟩ := wro.2.2.2.2.1 l hl
    exact ⟨a, by omega, ea⟩) (fun s hs hjd => by
    by_cases e : s = N
    · subst e
      simp [q_jd, hsq 6 (by omega)] at hjd
    · rw [rsq]
      obtain ⟨⟨a, ha, ea⟩, ⟨b, hb, eb⟩, -⟩ := wro.q (show s < N by omega)
      exact ⟨⟨a, by omega, ea⟩, ⟨b, by omega, eb⟩⟩)
  have k17 : KC m17 := kc_ne k16 141 kcn_141 t2
  have e17 : m17 137 = m16 137 := t2 137 (by decide)
  have hB17 : ∀ k, k < 2 * N → m17 141 k = BDr ro L k := fun k hk => by
    rw [t3 k (by omega)]
    exact bd_cong (fun l _ => by rw [rlq]) (by rw [rsq]) (by rw [rsq])
  have hq6 : ∀ j, j < 6 → sq ro N j = cq M29 135 j := fun j hj => by
    rw [← rsq, hsq j (by omega)]
    rcases (by omega : j = 0 ∨ j = 1 ∨ j = 2 ∨ j = 3 ∨ j = 4 ∨ j = 5) with rfl | rfl | rfl | rfl | rfl | rfl
    · rw [q0]; rfl
    · rw [q1]; rfl
    · rw [q2]; rfl
    · rw [q3]; rfl
    · rw [q4]; rfl
    · rw [q5]; rfl
  have sqe : sq (m16 137) = sq ro := funext rsq
  have N17 : m17 137 2 = nI (N + 1) := by rw [e17]; exact r2
  have a1 : f_X10_barsOf st_S m17 136 (nI N) = some (z_bars (M 137 3) (M 137 4) (-1) (cq M29 135) (sq (M 137)) (BDr (M 137) L) N) := by
    rw [e_barsOf k17 N17 (by omega) (by omega), e17, rlo 3 (by omega), rlo 4 (by omega), sqe, wd_bars hle n10 l24 hq6 hB17]
  have hoe : z_hof (m17 137 5) (m17 137 4) (nI N) (sq (m17 137) N) (sq (m17 137)) (m17 141) (N + 1) = z_h (M 137) L N (-1) (cq M29 135) := by
    rw [e17, rlo 5 (by omega), rlo 4 (by omega), sqe]; exact wd_ho hle n10 l24 hq6 hB17
  have a2 : f_X10_heldOf st_S m17 136 (nI N) = some (z_held (cq M29 135) (z_h (M 137) L N (-1) (cq M29 135))) := by
    rw [e_heldOf k17 N17 (by omega) (by omega), hoe, e17, sqe, wd_held (hq6 4 (by omega)) (hq6 5 (by omega))]
  have hyy : z_yes (sq ro N) (z_h (M 137) L N (-1) (cq M29 135)) (fun a => sq ro a 9) = z_yes (cq M29 135) (z_h (M 137) L N (-1) (cq M29 135)) (z_y (M 137)) := wd_yes (hq6 4 (by omega)) (hq6 5 (by omega)) (fun t c hc => by
    have : c < N := z_ho_lt hc
    simp only [z_y]
    rw [lve_sq hle this])
  have a3 : f_X10_forcedOf st_S m17 136 (nI N) = some (z_fc (cq M29 135) (z_bars (M 137 3) (M 137 4) (-1) (cq M29 135) (sq (M 137)) (BDr (M 137) L) N) (z_held (cq M29 135) (z_h (M 137) L N (-1) (cq M29 135))) (z_yes (cq M29 135) (z_h (M 137) L N (-1) (cq M29 135)) (z_y (M 137)))) := by
    rw [e_forcedOf k17 N17 (by omega) (by omega), hoe, e17, rlo 3 (by omega), rlo 4 (by omega), sqe, wd_bars hle n10 l24 hq6 hB17, wd_held (hq6 4 (by omega)) (hq6 5 (by omega)), hyy, wd_fc (hq6 4 (by omega)) (hq6 5 (by omega))]
  have hfin : ∀ z, fj_X10_would_226 st_S m17 136 z = some (z, fw_set m17 137 2 (nI N)) := fun z => by
    simp only [fj_X10_would_226, gO_136, gd_tt, kc_136_0 k17, gN_137, tn_137, gA_137_2, N17, nI_pred, bm_s]
  have hmod : f_X10_would st_S B0 136 x1 x2 x3 x4 x5 x6 = some (u, fw_set m17 137 2 (nI N)) := by
    rw [m_would kB0 eB0 w, m_would46, m_would86, hd', hp, hdec, h6d, hgd]
    have N5 : fw_set B0 136 6 0 137 2 = nI N := by rw [e5]; exact w.2.1.2.2
    simp only [fj_X10_would_118, gO_136, gd_tt, bm_s, Bool.and_self, if_true, set_eq, show (0 : Int32) ≤ 0 from by decide, e_suits k5, N5, b1_s, kc_136_0 k5, gN_137, tn_137, gA_137_2, nI_1, kc_136_0 k11, y1, p14, p15, p16, t1, a1, a2, a3, hfin, hu]
    rcases h6 with rfl | rfl | rfl <;> simp
  have fr2 : ∀ b, b ≠ 137 → b ≠ 136 → b ≠ 141 → fw_set m17 137 2 (nI N) b = B0 b := fun b b1 b2 b3 => by rw [set_nr _ _ _ b1, t2 b b3, f16 b b1 b2]
  -- what holds again
  have ivF : IV (fw_set m17 137 2 (nI N)) P L N A T U hh := by
    have g1 : AG B0 (fun b j => if b = 137 then M 137 j else fw_set m17 137 2 (nI N) b j) := fun b j hdd => by
      by_cases e1 : b = 137
      · subst e1; simp [eB0]
      · by_cases e2 : b = 136
        · subst e2
          have : j ≠ 6 := fun q => by subst q; exact absurd hdd (by decide)
          simp only [e1, if_false]
          rw [set_na _ _ _ _ (by decide), t2 136 (by decide), f136 j this]
        · by_cases e3 : b = 141
          · subst e3; exact absurd hdd (by simp [dd])
          · simp only [e1, if_false]
            rw [fr2 b e1 e2 e3]
    refine iv_row (g1.iv ivB) (fun b hb => funext fun j => by simp [hb]) (fun j hj => ?_)
    show fw_set m17 137 2 (nI N) 137 j = M 137 j
    rw [fw_set_row, e17]
    exact hle j hj
  refine ⟨0, B0, u, _, ho, hmod, ?_, fun _ => ?_, ⟨P, L, N, A, T, U, hh, ivF⟩⟩
  · rw [set_na _ _ _ _ (by decide), t2 136 (by decide)]; exact f1366
  · rw [fr2 148 (by decide) (by decide) (by decide)]; exact h148
end WQ2
