/-! ===== rule ===== -/
section GA
variable {M : fw_Mem} {r' f : Nat → Int32} {P L N A T U L' : Nat} {hh : Bool}
theorem gen_act {M9 M11 : fw_Mem} (I : IV M P L N A T U hh)
    (n1 : ∀ b, b ≠ 131 → b ≠ 132 → M9 b = M b) (n2 : M9 131 0 = M 131 0) (n3 : M9 131 1 = nI (min A 11 + 1)) (n4 : ∀ j, j < min A 11 → arow (M9 132) j = arow (M 132) (j + (A - min A 11))) (n5 : arow (M9 132) (min A 11) = f)
    (f11 : ∀ b, ¬ (3 ≤ b ∧ b < 42) → M11 b = M9 b) (k11 : KC M11) (p11 : cLP M11 3) (rw11 : RW M11 3 r' P L' N) (w' : WF r' P L' N) (u : UD f r' L' (M 137) L P N) :
    ∃ M13, f_X2_refresh st_S M11 121 = some M13 ∧ RFr M11 M13 ∧ (∀ b, ¬ (3 ≤ b ∧ b < 42) → b ≠ 131 → b ≠ 132 → M13 b = M b) ∧ KC M13 ∧ ∀ M2 : fw_Mem, (∀ b, b ≠ 136 → b ≠ 137 → b ≠ 140 → b ≠ 148 → M2 b = M13 b) → (∀ j, j ≠ 5 → j ≠ 6 → M2 136 j = M13 136 j) → M2 136 5 = nI (min A 11 + 1) → (∀ j, j < min A 11 → prow (M2 140) j = prow (M 140) (j + (A - min A 11))) → prow (M2 140) (min A 11) = nrm (M 137) → M2 137 = r' → IV M2 P L' N (min A 11 + 1) T U hh := by
  obtain ⟨k, w, -⟩ := id I
  have n10 := w'.n
  have l24 := w'.1.2.1
  obtain ⟨M13, y1, y2, y3⟩ := c_refresh k11 w' p11 rw11
  have k13 := y2.kc k11
  have fc : ∀ b, ¬ (3 ≤ b ∧ b < 42) → b ≠ 131 → b ≠ 132 → M13 b = M b := fun b h1 h2 h3 => by rw [y2.1 b (by omega), f11 b h1, n1 b h2 h3]
  refine ⟨M13, y1, y2, fc, k13, fun M2 fm fm6 m5 p1 p2 e137 => ?_⟩
  have p13 : cLP M13 3 := by unfold cLP; rw [y2.1 (3 + 2) (by omega)]; exact p11
  have r131 : M13 131 = M9 131 := by rw [y2.1 131 (by omega), f11 131 (by omega)]
  have r132 : M13 132 = M9 132 := by rw [y2.1 132 (by omega), f11 132 (by omega)]
  exact act_done (f := f) I fc (by rw [r131]; exact n2) (by rw [r131]; exact n3) (fun j hj => by rw [r132]; exact n4 j hj) (by rw [r132]; exact n5) k13 p13 (rfr_rw y2 p11 l24 n10 rw11) y3 w' u fm fm6 m5 p1 p2 e137
end GA
def rLo (c : Nat) : Int32 := if c = 0 then 1 else 0
def rHi (c : Nat) : Int32 := if c = 0 then 100 else if c = 1 then 2 else 1
theorem c_least {c : Nat} (hc : c < 3) (M : fw_Mem) : f_X4_leastOfRule st_S M (nI c) = some (rLo c) := by
  rcases (by omega : c = 0 ∨ c = 1 ∨ c = 2) with rfl | rfl | rfl <;> rfl
theorem c_most {c : Nat} (hc : c < 3) (M : fw_Mem) : f_X4_mostOfRule st_S M (nI c) = some (rHi c) := by
  rcases (by omega : c = 0 ∨ c = 1 ∨ c = 2) with rfl | rfl | rfl <;> rfl
theorem m_isRule {c : Nat} (hc : c < 3) (M : fw_Mem) (v : Int32) : f_X10_isRule st_S M (nI c) v = some (bI (decide (¬ v < rLo c ∧ ¬ rHi c < v))) := by
  rcases (by omega : c = 0 ∨ c = 1 ∨ c = 2) with rfl | rfl | rfl
  · have : f_X10_isRule st_S M (nI 0) v = b1 (f_X10_isIn st_S M v 1 100) (fun v7 => gd (gB v7) (some v7)) := rfl
    rw [this, e_isIn, b1_s, bI_gB, gd_tt]; rfl
  · have : f_X10_isRule st_S M (nI 1) v = b1 (f_X10_isIn st_S M v 0 2) (fun v7 => gd (gB v7) (some v7)) := rfl
    rw [this, e_isIn, b1_s, bI_gB, gd_tt]; rfl
  · have : f_X10_isRule st_S M (nI 2) v = b1 (f_X10_isIn st_S M v 0 1) (fun v7 => gd (gB v7) (some v7)) := rfl
    rw [this, e_isIn, b1_s, bI_gB, gd_tt]; rfl
theorem rule_ok {c : Nat} (hc : c < 3) {v : Int32} (h : ¬ v < rLo c ∧ v ≤ rHi c) : (c = 0 → ∃ S, 1 ≤ S ∧ S ≤ 100 ∧ v = nI S) ∧ (c = 1 → v = 0 ∨ v = 1 ∨ v = 2) ∧ (c = 2 → v = 0 ∨ v = 1) := by
  refine ⟨fun e => ?_, fun e => ?_, fun e => ?_⟩
  · subst e
    have h1 : ¬ v < 1 := h.1
    have h2 : v ≤ 100 := h.2
    have h0 : ¬ v < 0 := fun q => h1 (by
      rw [fa_lt] at q ⊢
      have a : (0 : Int32).toInt = 0 := by decide
      have b : (1 : Int32).toInt = 1 := by decide
      omega)
    obtain ⟨j, hj, rfl⟩ := nI_of h0
    rw [show (1 : Int32) = nI 1 from rfl, nI_ltI hj (by omega)] at h1
    rw [show (100 : Int32) = nI 100 from rfl, nI_leI hj (by omega)] at h2
    exact ⟨j, by omega, h2, rfl⟩
  · subst e; exact wh2.mp h
  · subst e; exact wh1.mp h
theorem lq_lo {r : Nat → Int32} {j : Nat} (hj : j < 78) (v : Int32) (l : Nat) : lq (upd r j v) l = lq r l := by
  funext k
  unfold lq
  split
  · exact upd_ne _ _ (by omega)
  · rfl
theorem sq_lo {r : Nat → Int32} {j : Nat} (hj : j < 198) (v : Int32) (s : Nat) : sq (upd r j v) s = sq r s := by
  funext k
  unfold sq
  split
  · exact upd_ne _ _ (by omega)
  · rfl
section QR
variable {M : fw_Mem}
theorem q_rule (I : INV M) (x v : Int32) : QOK (f_L_rule st_S M 0 x v 148) (fun M1 => f_X10_rule st_S M1 136 x v) := by
  obtain ⟨P, L, N, A, T, U, hh, iv⟩ := id I
  obtain ⟨h, w, ⟨p3, -⟩, r3, c, -, ac, -⟩ := id iv
  have n10 := w.n
  have p12 := w.1.1
  have l24 := w.1.2.1
  have hne : ¬ exI = exN := by decide
  have mno : ∀ {M1 : fw_Mem} (k : Int32), (k = 1 ∨ k = 2) → fj_X10_rule_27 st_S M1 136 x v k 136 = some (0, fw_set M1 136 6 k) := fun {M1} k hk => by
    have : ¬ k ≤ 0 := by rcases hk with rfl | rfl <;> decide
    simp only [fj_X10_rule_27, gO_136, gd_tt, bm_s, set_eq, if_neg this]
  by_cases hx : x = 0 ∨ x = 1 ∨ x = 2
  rotate_left
  · refine qok1 I (M1 := M) (k := 1) (by decide) ?_ (AG.rf M) (fun k1 e => ⟨0, fw_set M 136 6 1, ?_, mf_set M 1⟩)
    · simp only [f_L_rule, f_X9_rule, gO_0, gd_tt, kc_0_5 h, gN_121, tn_121, gO_121, b1_s, b2_s, bxl, bxr, bn_s, gA_148_0, bm_s, if_true, if_false, i10, i00, wc2 hx]
    · simp only [f_X10_rule, wi2 hx, b1_s, i00, if_true, mno 1 (Or.inl rfl)]
  have hxa := wh2.mpr hx
  have hin : ∀ B : fw_Mem, f_X10_isIn st_S B x 0 2 = some 1 := fun B => by rw [e_isIn, decide_eq_true ⟨hxa.1, Int32.not_lt.mpr hxa.2⟩]; rfl
  obtain ⟨q, hq, rfl⟩ : ∃ q, q < 3 ∧ x = nI q := by
    rcases hx with rfl | rfl | rfl
    · exact ⟨0, by omega, rfl⟩
    · exact ⟨1, by omega, rfl⟩
    · exact ⟨2, by omega, rfl⟩
  by_cases hv : ¬ v < rLo q ∧ v ≤ rHi q
  rotate_left
  · refine qok1 I (M1 := M) (k := 2) (by decide) ?_ (AG.rf M) (fun k1 e => ⟨0, fw_set M 136 6 2, ?_, mf_set M 2⟩)
    · simp only [f_L_rule, f_X9_rule, gO_0, gd_tt, kc_0_5 h, gN_121, tn_121, gO_121, b1_s, b2_s, bxl, bxr, bn_s, gA_148_0, bm_s, if_true, if_false, i10, i00, if_neg hxa.1, if_pos hxa.2, c_least hq, c_most hq]
      by_cases h1 : v < rLo q
      · simp only [if_pos h1, b1_s, b2_s, bxl, bxr, bn_s, bm_s, if_neg hne, if_true]
      · simp only [if_neg h1, if_neg (fun z => hv ⟨h1, z⟩ : ¬ v ≤ rHi q), b1_s, b2_s, bxl, bxr, bn_s, bm_s, if_neg hne, if_true]
    · have hf : decide (¬ v < rLo q ∧ ¬ rHi q < v) = false := decide_eq_false fun z => hv ⟨z.1, Int32.not_lt.mp z.2⟩
      simp only [f_X10_rule, hin, b1_s, i10, if_false, m_isRule hq, hf, bI_f, i00, if_true, mno 2 (Or.inr rfl)]
  obtain ⟨o1, o2, o3⟩ := rule_ok hq hv
  have e7 : M 7 q = M 137 (3 + q) := r3.2.2.1 q hq
  obtain ⟨M9, n0, n1, n2, n3, n4, n5⟩ := c_note h ac.1 ac.2.2.1 5 (nI q) (M 137 (3 + q)) 0 0 0
  have k9 : KC M9 := kc_ac h n1 n2
  have k11 : KC (fw_set M9 7 q v) := kc_ne k9 7 (by decide +kernel) fun b hb => set_nr _ _ _ hb
  obtain ⟨r', hr'⟩ : ∃ r', r' = upd (M 137) (3 + q) v := ⟨_, rfl⟩
  have w' : WF r' P L N := by
    obtain ⟨h1, h2, h3, h4, h5, h6⟩ := w
    rw [hr']
    refine ⟨h1, ?_, ?_, ⟨?_, ?_⟩, fun l hl => by rw [lq_lo (by omega)]; exact h5 l hl, fun i hi => by rw [sq_lo (by omega)]; exact h6 i hi⟩
    · rw [upd_ne _ _ (by omega), upd_ne _ _ (by omega), upd_ne _ _ (by omega)]; exact h2
    · by_cases e : q = 0
      · subst e; rw [upd_eq]; exact o1 rfl
      · rw [upd_ne _ _ (by omega)]; exact h3
    · by_cases e : q = 1
      · subst e; rw [upd_eq]; exact o2 rfl
      · rw [upd_ne _ _ (by omega)]; exact h4.1
    · by_cases e : q = 2
      · subst e; rw [upd_eq]; exact o3 rfl
      · rw [upd_ne _ _ (by omega)]; exact h4.2
  have f11 : ∀ b, b ≠ 7 → b ≠ 131 → b ≠ 132 → fw_set M9 7 q v b = M b := fun b b1 b2 b3 => by rw [set_nr _ _ _ b1, n1 b b2 b3]
  have p11 : cLP (fw_set M9 7 q v) 3 := by unfold cLP; rw [f11 (3 + 2) (by omega) (by omega) (by omega)]; exact p3
  have rw11 : RW (fw_set M9 7 q v) 3 r' P L N := by
    obtain ⟨h1, h2, h3, h4, h5⟩ := r3
    rw [hr']
    refine ⟨?_, fun i hi => ?_, fun i hi => ?_, fun l hl => ?_, fun t ht => ?_⟩
    · rw [f11 3 (by omega) (by omega) (by omega)]; exact h1
    · rw [f11 (3 + 1) (by omega) (by omega) (by omega), upd_ne _ _ (by omega)]; exact h2 i hi
    · show fw_set M9 7 q v 7 i = _
      by_cases e : i = q
      · subst e; rw [set_eq, upd_eq]
      · rw [set_nk _ _ _ _ e, upd_ne _ _ (by omega), n1 7 (by omega) (by omega)]; exact h3 i hi
    · obtain ⟨j, j1, j2, j3⟩ := p3.at (l := l) (by omega) (by omega)
      have := h4 l hl
      rw [f11 (3 + 2) (by omega) (by omega) (by omega), lq_lo (by omega)]
      rw [j3] at this ⊢
      rw [cl_fr (f11 _ (by omega) (by omega) (by omega))]; exact this
    · rw [sq_lo (by omega), cq_fr (f11 _ (by omega) (by omega) (by omega))]; exact h5 t ht
  obtain ⟨M13, y1, -, fc, k13, fin⟩ := gen_act (r' := r') (L' := L) iv n1 n2 n3 n4 n5 (fun b hb => set_nr _ _ _ (by omega)) k11 p11 rw11 w' ⟨fun i hi => by rw [hr', upd_ne _ _ (by omega)], Or.inr (Or.inr (Or.inl ⟨rfl, rfl, fun l hl => by rw [hr', lq_lo (by omega)], fun s hs => by rw [hr', sq_lo (by omega)], q, hq, rfl, rfl, fun k hk hkq => by rw [hr', upd_ne _ _ (by omega)]⟩))⟩
  have e79 : M9 7 = M 7 := n1 7 (by omega) (by omega)
  have hclass : f_L_rule st_S M 0 (nI q) v 148 = some (0, fw_set M13 148 0 (M 137 (3 + q))) := by
    simp only [f_L_rule, f_X9_rule, gO_0, gd_tt, kc_0_5 h, gN_121, tn_121, gO_121, b1_s, b2_s, bxl, bxr, bn_s, gA_148_0, bm_s, if_true, if_false, i10, i00, if_neg hxa.1, if_pos hxa.2, c_least hq, c_most hq, if_neg hv.1, if_pos hv.2, kc_0_1 h, gN_3, tn_3, gO_3, kc_3_3 h, gN_7, tn_7, gA_7 hq, nI_cl (show q < 2147483648 by omega), e7, kc_0_7 h, gN_131, tn_131, gO_131, n0, kc_0_1 k9, kc_3_3 k9, kc_0_5 k11, y1]
  obtain ⟨B, hB⟩ : ∃ B, B = fw_set M13 148 0 (M 137 (3 + q)) := ⟨_, rfl⟩
  rw [← hB] at hclass
  have kB : KC B := by rw [hB]; exact kc_148 k13 _
  have fB : ∀ b, b ≠ 148 → B b = M13 b := fun b hb => by rw [hB, set_nr _ _ _ hb]
  have fB2 : ∀ b, ¬ (3 ≤ b ∧ b < 42) → b ≠ 131 → b ≠ 132 → b ≠ 148 → B b = M b := fun b b1 b2 b3 b4 => by rw [fB b b4, fc b b1 b2 b3]
  have eB : B 137 = M 137 := fB2 137 (by omega) (by omega) (by omega) (by omega)
  obtain ⟨C, c1, c2, c3, c4, c5, c6, c7, c8, c9⟩ := m_kp kB eB (by rw [fB2 136 (by omega) (by omega) (by omega) (by omega)]; exact ac.2.1) ac.2.2.1
  have hru : decide (¬ v < rLo q ∧ ¬ rHi q < v) = true := decide_eq_true ⟨hv.1, Int32.not_lt.mpr hv.2⟩
  refine ⟨0, B, M 137 (3 + q), fw_set C 137 (3 + q) v, hclass, ?_, ?_, fun _ => ?_, ⟨P, L, N, _, T, U, hh, fin _ (fun b b1 b2 b3 b4 => ?_) (fun j j1 j2 => ?_) ?_ (fun j hj => ?_) ?_ ?_⟩⟩
  · simp only [f_X10_rule, fj_X10_rule_27, hin, b1_s, i10, if_false, m_isRule hq, hru, bI_t, gO_136, gd_tt, bm_s, set_eq, show (0 : Int32) ≤ 0 from by decide, if_true, c1, kc_136_0 c2, gN_137, tn_137, show (3 : Int32) = nI 3 from rfl, nI_add, gA_137 (show 3 + q < 330 by omega), nI_cl (show 3 + q < 2147483648 by omega), c3]
  · rw [set_na _ _ _ _ (by decide)]; exact c6
  · rw [set_na _ _ _ _ (by decide), c4 148 (by decide) (by decide), hB, set_eq]
  · rw [set_nr _ _ _ b2, c4 b b1 b3, fB b b4]
  · rw [set_na _ _ _ _ (by decide), c5 j j1 j2, fB 136 (by decide)]
  · rw [set_na _ _ _ _ (by decide)]; exact c7
  · rw [set_nr _ _ _ (by decide), c8 j hj, fB2 140 (by omega) (by omega) (by omega) (by omega)]
  · rw [set_nr _ _ _ (by decide)]; exact c9
  · rw [fw_set_row, c3, hr']
end QR
