/-! ===== tie, cut ===== -/
theorem e_layLink {a : Nat} (hlen : fw_len2 st_S 0 a = 330) (m : fw_Mem) {l : Nat} (hl : l < 24) (p q u f t : Int32) : f_X10_layLink st_S m a (nI l) p q u f t = some (fw_set (fw_set (fw_set (fw_set (fw_set m a (78 + 5 * l) p) a (78 + 5 * l + 1) q) a (78 + 5 * l + 2) u) a (78 + 5 * l + 3) f) a (78 + 5 * l + 4) t) := by
  have hg : ∀ j, j < 5 → gA st_S 0 a (nI (78 + 5 * l + j)) = true := fun j hj => gA_at 330 hlen (i := 78 + 5 * l + j) (by omega) (by omega) rfl
  have g0 : gA st_S 0 a (nI (78 + 5 * l)) = true := hg 0 (by omega)
  simp only [f_X10_layLink, l_78, l_5, show (0 : Int32) = nI 0 from rfl, show (1 : Int32) = nI 1 from rfl, show (2 : Int32) = nI 2 from rfl, show (3 : Int32) = nI 3 from rfl, show (4 : Int32) = nI 4 from rfl, nI_mul, nI_add, Nat.add_zero, g0, hg 1 (by omega), hg 2 (by omega), hg 3 (by omega), hg 4 (by omega), gd_tt, bm_s, nI_cl (show 78 + 5 * l < 2147483648 by omega), nI_cl (show 78 + 5 * l + 1 < 2147483648 by omega), nI_cl (show 78 + 5 * l + 2 < 2147483648 by omega), nI_cl (show 78 + 5 * l + 3 < 2147483648 by omega), nI_cl (show 78 + 5 * l + 4 < 2147483648 by omega)]
/-- a row with one link more -/
def tieR (r : Nat → Int32) (L : Nat) (k : Nat → Int32) : Nat → Int32 := fun j => if j = 1 then nI (L + 1) else if 78 + 5 * L ≤ j ∧ j < 83 + 5 * L then k (j - (78 + 5 * L)) else r j
theorem tieR_lo {r k : Nat → Int32} {L j : Nat} (h1 : j ≠ 1) (h2 : j < 78 + 5 * L ∨ 83 + 5 * L ≤ j) : tieR r L k j = r j := by simp [tieR, h1]; omega
theorem tieR_sq {r k : Nat → Int32} {L s : Nat} (hL : L < 24) : sq (tieR r L k) s = sq r s := by
  funext j
  unfold sq
  split
  · exact tieR_lo (by omega) (by omega)
  · rfl
theorem tieR_lq {r k : Nat → Int32} {L l : Nat} (hl : l < L) : lq (tieR r L k) l = lq r l := by
  funext j
  unfold lq
  split
  · exact tieR_lo (by omega) (by omega)
  · rfl
theorem tieR_new {r k : Nat → Int32} {L : Nat} (hk : ∀ j, 5 ≤ j → k j = 0) : lq (tieR r L k) L = k := by
  funext j
  unfold lq
  by_cases h : j < 5
  · rw [if_pos h]
    simp only [tieR, show ¬ 78 + 5 * L + j = 1 by omega, if_false]
    rw [if_pos (by omega), show 78 + 5 * L + j - (78 + 5 * L) = j by omega]
  · rw [if_neg h, hk j (by omega)]
theorem clk_5 (g t f u : Int32) (j : Nat) (hj : 5 ≤ j) : clk g t f u j = 0 := by simp [clk, show ¬ j = 0 by omega, show ¬ j = 1 by omega, show ¬ j = 2 by omega, show ¬ j = 3 by omega, show ¬ j = 4 by omega]
/-- a row with a link less -/
def cutR (r : Nat → Int32) (L c : Nat) : Nat → Int32 := fun j => if j = 1 then nI (L - 1) else if 78 + 5 * c ≤ j ∧ j < 78 + 5 * (L - 1) then r (j + 5) else r j
theorem cutR_lo {r : Nat → Int32} {L c j : Nat} (h1 : j ≠ 1) (h2 : j < 78 + 5 * c ∨ 78 + 5 * (L - 1) ≤ j) : cutR r L c j = r j := by simp [cutR, h1]; omega
theorem cutR_sq {r : Nat → Int32} {L c s : Nat} (hL : L ≤ 24) : sq (cutR r L c) s = sq r s := by
  funext j
  unfold sq
  split
  · exact cutR_lo (by omega) (by omega)
  · rfl
theorem cutR_lq {r : Nat → Int32} {L c l : Nat} (hl : l < c) : lq (cutR r L c) l = lq r l := by
  funext j
  unfold lq
  split
  · exact cutR_lo (by omega) (by omega)
  · rfl
theorem cutR_lq2 {r : Nat → Int32} {L c l : Nat} (h1 : c ≤ l) (h2 : l < L - 1) : lq (cutR r L c) l = lq r (l + 1) := by
  funext j
  unfold lq
  split
  · simp only [cutR, show ¬ 78 + 5 * l + j = 1 by omega, if_false]
    rw [if_pos (by omega), show 78 + 5 * l + j + 5 = 78 + 5 * (l + 1) + j by omega]
  · rfl
theorem kc_lk {M M' : fw_Mem} (h : KC M) (hf : ∀ b, ¬ (8 ≤ b ∧ b < 32) → b ≠ 5 → b ≠ 3 → M' b = M b) (h3 : ∀ j, j ≠ 5 → M' 3 j = M 3 j) : KC M' := by
  refine kc_cong h fun q hq => ?_
  have h2 := List.all_eq_true.mp (by decide +kernel : (kcl.all fun q => (!(q.1 == 5) && !(decide (8 ≤ q.1) && decide (q.1 < 32))) && (!(q.1 == 3) || !(q.2.1 == 5))) = true) q hq
  simp at h2
  by_cases e : q.1 = 3
  · rcases h2.2 with z | z
    · exact absurd e z
    · rw [e]; exact h3 _ z
  · rw [hf _ (by omega) h2.1.1 e]
section QT
variable {M : fw_Mem}
def tGood (z v : Int32) : Bool := decide ((¬ z < 0 ∧ ¬ (9999 : Int32) < z) ∧ (v = -1 ∨ (¬ v < z ∧ ¬ (9999 : Int32) < v)))
theorem q_tie (I : INV M) (x y z v : Int32) : QOK (f_L_tie st_S M 0 x y z v 148) (fun M1 => f_X10_tie st_S M1 136 x y z v) := by
  obtain ⟨P, L, N, A, T, U, hh, iv⟩ := id I
  obtain ⟨h, w, ⟨p3, -⟩, r3, c, -, ac, -⟩ := id iv
  have n10 := w.n
  have p12 := w.1.1
  have l24 := w.1.2.1
  have hne : ¬ exI = exN := by decide
  -- the model's way to its code
  have mway : ∀ {M1 : fw_Mem}, KC M1 → M1 137 = M 137 → f_X10_tie st_S M1 136 x y z v = fj_X10_tie_84 st_S M1 136 x y z v (bI (decide (v = -1))) (if decide ((∃ p, p < P ∧ x = nI p) ∧ (∃ p, p < P ∧ y = nI p) ∧ ¬ x = y) then (if tGood z v then 0 else 2) else 1) 136 := fun {M1} k1 e => by
    have t46 : ∀ a g : Bool, fj_X10_tie_46 st_S M1 136 x y z v (bI a) (bI g) = fj_X10_tie_84 st_S M1 136 x y z v (bI a) (if decide ((∃ p, p < P ∧ x = nI p) ∧ (∃ p, p < P ∧ y = nI p) ∧ ¬ x = y) then (if g then 0 else 2) else 1) 136 := fun a g => by
      by_cases h1 : ∃ p, p < P ∧ x = nI p
      · have a1 : f_X10_isPerson st_S M1 136 x = some 1 := by obtain ⟨p, hp, q⟩ := h1; rw [q]; exact mp_ok k1 e w hp
        by_cases h2 : ∃ p, p < P ∧ y = nI p
        · have a2 : f_X10_isPerson st_S M1 136 y = some 1 := by obtain ⟨p, hp, q⟩ := h2; rw [q]; exact mp_ok k1 e w hp
          by_cases h3 : x = y
          · rw [decide_eq_false (fun q => q.2.2 h3)]
            simp only [fj_X10_tie_46, gO_136, gd_tt, a1, a2, b1_s, i10, if_false, if_pos h3]; rfl
          · rw [decide_eq_true ⟨h1, h2, h3⟩]
            simp only [fj_X10_tie_46, gO_136, gd_tt, a1, a2, b1_s, i10, if_false, if_neg h3, bI_0, if_true]
            cases g <;> rfl
        · rw [decide_eq_false (fun q => h2 q.2.1)]
          simp only [fj_X10_tie_46, gO_136, gd_tt, a1, mp_no k1 e w h2, b1_s, i10, if_false, i00, if_true]; rfl
      · rw [decide_eq_false (fun q => h1 q.1)]
        simp only [fj_X10_tie_46, gO_136, gd_tt, mp_no k1 e w h1, b1_s, i00, if_true]; rfl
    have t11 : ∀ a : Bool, fj_X10_tie_11 st_S M1 136 x y z v (bI a) = fj_X10_tie_46 st_S M1 136 x y z v (bI a) (bI (decide ((¬ z < 0 ∧ ¬ (9999 : Int32) < z) ∧ (a = true ∨ (¬ v < z ∧ ¬ (9999 : Int32) < v))))) := fun a => by
      unfold fj_X10_tie_11
      rw [e_isIn, b1_s]
      by_cases g1 : ¬ z < 0 ∧ ¬ (9999 : Int32) < z
      · rw [decide_eq_true g1]
        cases a
        · rw [e_isIn, b1_s]
          by_cases g2 : ¬ v < z ∧ ¬ (9999 : Int32) < v
          · rw [decide_eq_true g2, decide_eq_true ⟨g1, Or.inr g2⟩]; rfl
          · rw [decide_eq_false g2, decide_eq_false (fun q => q.2.elim (fun z => absurd z (by decide)) g2)]; rfl
        · rw [decide_eq_true ⟨g1, Or.inl rfl⟩]; rfl
      · rw [decide_eq_false g1, decide_eq_false (fun q => g1 q.1)]; rfl
    unfold f_X10_tie
    by_cases hv : v = -1
    · rw [if_pos hv, decide_eq_true hv]
      refine (t11 true).trans ((t46 true _).trans ?_)
      congr 1
      simp only [tGood, hv, true_or]
    · rw [if_neg hv, decide_eq_false hv]
      refine (t11 false).trans ((t46 false _).trans ?_)
      congr 1
      simp only [tGood, hv, false_or, Bool.false_eq_true]
  have m84no : ∀ {M1 : fw_Mem} (a k : Int32), (k = 1 ∨ k = 2) → fj_X10_tie_84 st_S M1 136 x y z v a k 136 = some (0, fw_set M1 136 6 k) := fun {M1} a k hk => by
    have : ¬ k ≤ 0 := by rcases hk with rfl | rfl <;> decide
    simp only [fj_X10_tie_84, gO_136, gd_tt, bm_s, set_eq, if_neg this]
  by_cases hc : (∃ q, q < P ∧ x = nI q) ∧ (∃ q, q < P ∧ y = nI q) ∧ ¬ x = y
  rotate_left
  · refine qok1 I (M1 := M) (k := 1) (by decide) (by simp only [f_L_tie, f_X9_tie, gO_0, gd_tt, kc_0_5 h, gN_121, tn_121, gO_121, b1_s, b2_s, bxl, bxr, bn_s, gA_148_0, bm_s, if_true, if_false, i10, i00, c_coupleNo h r3.1.1 p12 hc]) (AG.rf M) (fun k1 e => ⟨0, fw_set M 136 6 1, ?_, mf_set M 1⟩)
    rw [mway k1 e, decide_eq_false hc]
    exact m84no _ 1 (Or.inl rfl)
  have hcy := c_couple h r3.1.1 p12 hc.1 hc.2.1 hc.2.2
  have hday : ∀ u : Int32, f_X9_isDay st_S M u = some (bI (decide (¬ u < 0 ∧ ¬ (9999 : Int32) < u))) := fun u => by
    unfold f_X9_isDay
    by_cases h1 : u < 0 <;> by_cases h2 : (9999 : Int32) < u <;> simp [h1, h2, bI]
  have hcl : f_X9_tie st_S M 0 x y z v = fj_X9_tie_31 st_S M 0 x y z v (bI (decide (v = -1 ∨ (¬ v < z ∧ ¬ v < 0 ∧ ¬ (9999 : Int32) < v)))) := by
    simp only [f_X9_tie, gO_0, gd_tt, hcy, b1_s, bxl]
    by_cases h1 : v = -1
    · rw [if_pos h1, decide_eq_true (Or.inl h1)]; rfl
    · rw [if_neg h1]
      by_cases h2 : v < z
      · rw [if_pos h2, decide_eq_false (fun q => q.elim h1 (fun z => z.1 h2))]; rfl
      · rw [if_neg h2, hday, b1_s]
        by_cases h3 : ¬ v < 0 ∧ ¬ (9999 : Int32) < v
        · rw [decide_eq_true h3, decide_eq_true (Or.inr ⟨h2, h3⟩)]; rfl
        · rw [decide_eq_false h3, decide_eq_false (fun q => q.elim h1 (fun z => h3 z.2))]; rfl
  have hgeq : tGood z v = (decide (¬ z < 0 ∧ ¬ (9999 : Int32) < z) && decide (v = -1 ∨ (¬ v < z ∧ ¬ v < 0 ∧ ¬ (9999 : Int32) < v))) := by
    unfold tGood
    rw [← Bool.decide_and]
    refine decide_eq_decide.mpr ⟨fun q => ⟨q.1, ?_⟩, fun q => ⟨q.1, ?_⟩⟩
    · rcases q.2 with a | a
      · exact Or.inl a
      · refine Or.inr ⟨a.1, fun b => a.1 ?_, a.2⟩
        have := q.1.1
        rw [fa_lt] at b this ⊢
        omega
    · rcases q.2 with a | a
      · exact Or.inl a
      · exact Or.inr ⟨a.1, a.2.2⟩
  cases hgd : tGood z v
  · refine qok1 I (M1 := M) (k := 2) (by decide) ?_ (AG.rf M) (fun k1 e => ⟨0, fw_set M 136 6 2, ?_, mf_set M 2⟩)
    · rw [hgeq] at hgd
      simp only [f_L_tie, gO_0, gd_tt, hcl, fj_X9_tie_31, hday, b1_s, bI_0]
      cases e1 : decide (¬ z < 0 ∧ ¬ (9999 : Int32) < z)
      · simp only [if_true, b2_s, bxr, if_neg hne]
      · rw [e1] at hgd
        have e2 : decide (v = -1 ∨ (¬ v < z ∧ ¬ v < 0 ∧ ¬ (9999 : Int32) < v)) = false := by simpa using hgd
        simp only [e2, Bool.true_eq_false, if_false, if_true, b2_s, bxr, if_neg hne]
    · rw [mway k1 e, decide_eq_true hc, hgd]
      exact m84no _ 2 (Or.inr rfl)
  have hgd2 := hgd
  rw [hgeq, Bool.and_eq_true] at hgd2
  have hmw : ∀ {M1 : fw_Mem}, KC M1 → M1 137 = M 137 → f_X10_tie st_S M1 136 x y z v = fj_X10_tie_84 st_S M1 136 x y z v (bI (decide (v = -1))) 0 136 := fun k1 e => by rw [mway k1 e, decide_eq_true hc, hgd]; rfl
  by_cases hL : L = 24
  · refine qok0 I (u := -1) (M1 := fw_set M 148 0 (-1)) ?_ ((AG.rf M).st 148 0 _ rfl) (set_eq _ _ _ _) (fun k1 e => ⟨_, ?_, mf_set _ 0⟩)
    · have h24 : ¬ nI L < (24 : Int32) := by rw [hL]; decide
      simp only [f_L_tie, gO_0, gd_tt, kc_0_5 h, gN_121, tn_121, gO_121, b1_s, b2_s, bxl, bxr, bn_s, gA_148_0, bm_s, if_true, if_false, i10, i00, hcl, fj_X9_tie_31, hday, hgd2.1, hgd2.2, bI_t, kc_0_1 h, gN_3, tn_3, gO_3, r3.1.2.1, if_neg h24]
    · rw [hmw k1 e]
      have hl : fw_set (fw_set M 148 0 (-1)) 136 6 0 137 1 = 24 := by rw [s137, e, w.2.1.2.1, hL]; rfl
      simp only [fj_X10_tie_84, gO_136, gd_tt, bm_s, set_eq, show (0 : Int32) ≤ 0 from by decide, if_true, e_links (kc_136 k1 0), hl, b1_s]
  have hL2 : L < 24 := by omega
  -- all is well
  obtain ⟨⟨dz1, dz2⟩, dv⟩ := (show (¬ z < 0 ∧ ¬ (9999 : Int32) < z) ∧ (v = -1 ∨ (¬ v < z ∧ ¬ v < 0 ∧ ¬ (9999 : Int32) < v)) from ⟨by simpa using hgd2.1, by simpa using hgd2.2⟩)
  have dayof : ∀ u : Int32, ¬ u < 0 → ¬ (9999 : Int32) < u → ∃ d, d ≤ 9999 ∧ u = nI d := fun u h1 h2 => by
    obtain ⟨d, hd, rfl⟩ := nI_of h1
    refine ⟨d, ?_, rfl⟩
    have := Int32.not_lt.mp h2
    rw [show (9999 : Int32) = nI 9999 from rfl, nI_leI hd (by omega)] at this
    exact this
  obtain ⟨M9, n0, n1, n2, n3, n4, n5⟩ := c_note h ac.1 ac.2.2.1 3 (nI L) 0 0 0 0
  have k9 : KC M9 := kc_ac h n1 n2
  have L9 : M9 3 5 = nI L := by rw [n1 3 (by omega) (by omega)]; exact r3.1.2.1
  have p9 : cLP M9 3 := by unfold cLP; rw [n1 (3 + 2) (by omega) (by omega)]; exact p3
  obtain ⟨M11, i1, i2, i3, i4, i5, i6, i7, i8⟩ := c_insert (c := L) (lo_3 k9) p9 L9 hL2 (Nat.le_refl L) x y z v
  have k11 : KC M11 := kc_lk k9 (fun b b1 b2 b3 => i2 b (by omega) b2 b3) i3
  obtain ⟨r', hr'⟩ : ∃ r', r' = tieR (M 137) L (clk x y z v) := ⟨_, rfl⟩
  have wl : WL P (clk x y z v) := by
    refine ⟨hc.1, hc.2.1, ?_, dayof z dz1 dz2, ?_⟩
    · by_cases e : v = -1 <;> simp [clk, e]
    · rcases dv with e | ⟨-, e1, e2⟩
      · exact ⟨9999, by omega, by simp [clk, e]; rfl⟩
      · have hv1 : ¬ v = -1 := fun q => e1 (by rw [q]; decide)
        obtain ⟨d, hd, ed⟩ := dayof v e1 e2
        exact ⟨d, hd, by simp [clk, hv1]; exact ed⟩
  have w' : WF r' P (L + 1) N := by
    obtain ⟨h1, h2, h3, h4, h5, h6⟩ := w
    rw [hr']
    refine ⟨⟨h1.1, by omega, h1.2.2⟩, ?_, ?_, ?_, fun l hl => ?_, fun i hi => by rw [tieR_sq hL2]; exact h6 i hi⟩
    · exact ⟨by rw [tieR_lo (by omega) (by omega)]; exact h2.1, by simp [tieR], by rw [tieR_lo (by omega) (by omega)]; exact h2.2.2⟩
    · rw [tieR_lo (by omega) (by omega)]; exact h3
    · rw [tieR_lo (by omega) (by omega), tieR_lo (by omega) (by omega)]; exact h4
    · by_cases e : l = L
      · subst e; rw [tieR_new (clk_5 x y z v)]; exact wl
      · rw [tieR_lq (by omega)]; exact h5 l (by omega)
  have rw11 : RW M11 3 r' P (L + 1) N := by
    obtain ⟨h1, h2, h3, h4, h5⟩ := r3
    have f3 : ∀ j, j ≠ 5 → M11 3 j = M 3 j := fun j hj => by rw [i3 j hj, n1 3 (by omega) (by omega)]
    have fo : ∀ b, ¬ (8 ≤ b ∧ b < 32) → b ≠ 5 → b ≠ 3 → b ≠ 131 → b ≠ 132 → M11 b = M b := fun b b1 b2 b3 b4 b5 => by rw [i2 b (by omega) b2 b3, n1 b b4 b5]
    rw [hr']
    refine ⟨⟨by rw [f3 4 (by omega)]; exact h1.1, i4, by rw [f3 6 (by omega)]; exact h1.2.2⟩, fun i hi => ?_, fun i hi => ?_, fun l hl => ?_, fun t ht => ?_⟩
    · rw [fo (3 + 1) (by omega) (by omega) (by omega) (by omega) (by omega), tieR_lo (by omega) (by omega)]; exact h2 i hi
    · rw [fo (3 + 4) (by omega) (by omega) (by omega) (by omega) (by omega), tieR_lo (by omega) (by omega)]; exact h3 i hi
    · by_cases e : l = L
      · subst e; rw [tieR_new (clk_5 x y z v)]; exact i7
      · obtain ⟨j, j1, j2, j3⟩ := p3.at (l := l) (by omega) (by omega)
        have := h4 l (by omega)
        rw [tieR_lq (by omega), i6 l (by omega), n1 (3 + 2) (by omega) (by omega)]
        rw [j3] at this ⊢
        rw [cl_fr (n1 _ (by omega) (by omega))]; exact this
    · rw [tieR_sq hL2, cq_fr (fo _ (by omega) (by omega) (by omega) (by omega) (by omega))]; exact h5 t ht
  obtain ⟨M13, y1, yr, fc, k13, fin⟩ := gen_act (r' := r') (L' := L + 1) iv n1 n2 n3 n4 n5 (fun b hb => i2 b (by omega) (by omega) (by omega)) k11 i5 rw11 w' ⟨fun i hi => by rw [hr', tieR_lo (by omega) (by omega)], Or.inl ⟨rfl, fun k hk => by rw [hr', tieR_lo (by omega) (by omega)], fun s hs => by rw [hr', tieR_sq hL2], rfl, rfl, fun l hl => by rw [hr', tieR_lq hl]⟩⟩
  have hclass : f_L_tie st_S M 0 x y z v 148 = some (0, fw_set M13 148 0 (nI L)) := by
    have h24 : nI L < (24 : Int32) := nI_lt (b := 24) hL2 (by omega)
    simp only [f_L_tie, gO_0, gd_tt, kc_0_5 h, gN_121, tn_121, gO_121, b1_s, b2_s, bxl, bxr, bn_s, gA_148_0, bm_s, if_true, if_false, i10, i00, hcl, fj_X9_tie_31, hday, hgd2.1, hgd2.2, bI_t, kc_0_1 h, gN_3, tn_3, gO_3, r3.1.2.1, if_pos h24, kc_0_7 h, gN_131, tn_131, gO_131, n0, kc_0_1 k9, i1, kc_0_5 k11, y1]
  obtain ⟨B, hB⟩ : ∃ B, B = fw_set M13 148 0 (nI L) := ⟨_, rfl⟩
  rw [← hB] at hclass
  have kB : KC B := by rw [hB]; exact kc_148 k13 _
  have fB : ∀ b, b ≠ 148 → B b = M13 b := fun b hb => by rw [hB, set_nr _ _ _ hb]
  have fB2 : ∀ b, ¬ (3 ≤ b ∧ b < 42) → b ≠ 131 → b ≠ 132 → b ≠ 148 → B b = M b := fun b b1 b2 b3 b4 => by rw [fB b b4, fc b b1 b2 b3]
  have eB : B 137 = M 137 := fB2 137 (by omega) (by omega) (by omega) (by omega)
  obtain ⟨C, c1, c2, c3, c4, c5, c6, c7, c8, c9⟩ := m_kp kB eB (by rw [fB2 136 (by omega) (by omega) (by omega) (by omega)]; exact ac.2.1) ac.2.2.1
  obtain ⟨D, hD⟩ : ∃ D, D = fw_set (fw_set (fw_set (fw_set (fw_set (fw_set C 137 (78 + 5 * L) x) 137 (78 + 5 * L + 1) y) 137 (78 + 5 * L + 2) (clk x y z v 2)) 137 (78 + 5 * L + 3) z) 137 (78 + 5 * L + 4) (clk x y z v 4)) 137 1 (nI (L + 1)) := ⟨_, rfl⟩
  have fD : ∀ b, b ≠ 137 → D b = C b := fun b hb => by rw [hD, set_nr _ _ _ hb, set_nr _ _ _ hb, set_nr _ _ _ hb, set_nr _ _ _ hb, set_nr _ _ _ hb, set_nr _ _ _ hb]
  have eD : D 137 = r' := by
    rw [hr', hD]
    funext j
    simp only [fw_set, if_true, tieR]
    rw [c3]
    by_cases j1 : j = 1
    · simp [j1]
    by_cases j4 : j = 78 + 5 * L + 4
    · subst j4; simp [show 78 + 5 * L + 4 < 83 + 5 * L by omega, show 78 + 5 * L + 4 - (78 + 5 * L) = 4 by omega]
    by_cases j3 : j = 78 + 5 * L + 3
    · subst j3; simp [show 78 + 5 * L + 3 < 83 + 5 * L by omega, show 78 + 5 * L + 3 - (78 + 5 * L) = 3 by omega, clk]
    by_cases j2 : j = 78 + 5 * L + 2
    · subst j2; simp [show 78 + 5 * L + 2 < 83 + 5 * L by omega, show 78 + 5 * L + 2 - (78 + 5 * L) = 2 by omega]
    by_cases j0 : j = 78 + 5 * L + 1
    · subst j0; simp [show 78 + 5 * L + 1 < 83 + 5 * L by omega, show 78 + 5 * L + 1 - (78 + 5 * L) = 1 by omega, clk]
    by_cases jj : j = 78 + 5 * L
    · subst jj; simp [j1, clk, show 78 + 5 * L < 83 + 5 * L by omega]
    · have : ¬ (78 + 5 * L ≤ j ∧ j < 83 + 5 * L) := by omega
      simp [j1, j4, j3, j2, j0, jj, this]
  have hlay : ∀ a b : Int32, a = clk x y z v 2 → b = clk x y z v 4 → fj_X10_tie_145 st_S C 136 b z a y x (nI L) 137 = some (nI L, D) := fun a b ha hb => by
    subst ha; subst hb
    have kE : KC (fw_set (fw_set (fw_set (fw_set (fw_set C 137 (78 + 5 * L) x) 137 (78 + 5 * L + 1) y) 137 (78 + 5 * L + 2) (clk x y z v 2)) 137 (78 + 5 * L + 3) z) 137 (78 + 5 * L + 4) (clk x y z v 4)) := kc_137 (kc_137 (kc_137 (kc_137 (kc_137 c2 _ _) _ _) _ _) _ _) _ _
    have e1 : fw_set (fw_set (fw_set (fw_set (fw_set C 137 (78 + 5 * L) x) 137 (78 + 5 * L + 1) y) 137 (78 + 5 * L + 2) (clk x y z v 2)) 137 (78 + 5 * L + 3) z) 137 (78 + 5 * L + 4) (clk x y z v 4) 137 1 = nI L := by
      rw [set_nk _ _ _ _ (by omega), set_nk _ _ _ _ (by omega), set_nk _ _ _ _ (by omega), set_nk _ _ _ _ (by omega), set_nk _ _ _ _ (by omega), c3]; exact w.2.1.2.1
    have kD : KC D := by rw [hD]; exact kc_137 kE _ _
    have e1D : D 137 1 = nI (L + 1) := by rw [hD, set_eq]
    have hlk := e_links kD
    rw [e1D] at hlk
    rw [hD] at hlk ⊢
    simp only [fj_X10_tie_145, e_layLink len_137 C hL2, b1_s, gO_136, gd_tt, kc_136_0 kE, gN_137, tn_137, gA_137_1, e1, nI_1, bm_s, hlk, nI_pred]
  refine ⟨0, B, nI L, D, hclass, ?_, ?_, fun _ => ?_, ⟨P, L + 1, N, _, T, U, hh, fin D (fun b b1 b2 b3 b4 => ?_) (fun j j1 j2 => ?_) ?_ (fun j hj => ?_) ?_ eD⟩⟩
  · show f_X10_tie st_S B 136 x y z v = some (nI L, D)
    rw [hmw kB eB]
    have e8 : fw_set B 136 6 0 137 1 = nI L := by rw [s137, eB]; exact w.2.1.2.1
    have eC : C 137 1 = nI L := by rw [c3]; exact w.2.1.2.1
    have h24 : ¬ nI L = (24 : Int32) := fun q => by have := (nI_eq (b := 24) (by omega) (by omega)).mp q; omega
    simp only [fj_X10_tie_84, fj_X10_tie_131, gO_136, gd_tt, bm_s, set_eq, show (0 : Int32) ≤ 0 from by decide, if_true, e_links (kc_136 kB 0), e8, b1_s, if_neg h24, c1, kc_136_0 c2, gN_137, tn_137, e_links c2, eC, bI_0]
    by_cases hv : v = -1
    · rw [decide_eq_true hv, if_neg (by decide), if_neg (by decide)]
      exact hlay 0 9999 (by simp [clk, hv]) (by simp [clk, hv])
    · rw [decide_eq_false hv, if_pos rfl, if_pos rfl]
      exact hlay 1 v (by simp [clk, hv]) (by simp [clk, hv])
  · rw [fD 136 (by decide)]; exact c6
  · rw [fD 148 (by decide), c4 148 (by decide) (by decide), hB, set_eq]
  · rw [fD b b2, c4 b b1 b3, fB b b4]
  · rw [fD 136 (by decide), c5 j j1 j2, fB 136 (by decide)]
  · rw [fD 136 (by decide)]; exact c7
  · rw [fD 140 (by decide), c8 j hj, fB2 140 (by omega) (by omega) (by omega) (by omega)]
  · rw [fD 140 (by decide)]; exact c9
end QT
