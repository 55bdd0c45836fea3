section QC
variable {M : fw_Mem}
theorem m_cutloop {C : fw_Mem} {r : Nat → Int32} {L c : Nat} (k : KC C) (e : C 137 = r) (hL : r 1 = nI L) (hL2 : L ≤ 24) (hc : c < L) : ∃ D, lf_X10_cut_36 st_S 136 20000 (nI (78 + 5 * c)) C = some D ∧ (∀ b, b ≠ 137 → D b = C b) ∧ ∀ t, D 137 t = if 78 + 5 * c ≤ t ∧ t < 78 + 5 * (L - 1) then r (t + 5) else r t := by
  obtain ⟨R, h1, h2, h3⟩ := lp_up (fun n (m : fw_Mem) i => lf_X10_cut_36 st_S 136 n (nI (78 + 5 * c + i)) m) (5 * (L - 1 - c)) (fun i m => (∀ b, b ≠ 137 → m b = C b) ∧ ∀ t, m 137 t = if 78 + 5 * c ≤ t ∧ t < 78 + 5 * c + i then r (t + 5) else r t) (fun m => (∀ b, b ≠ 137 → m b = C b) ∧ ∀ t, m 137 t = if 78 + 5 * c ≤ t ∧ t < 78 + 5 * (L - 1) then r (t + 5) else r t)
    (by
      rintro n i m hi ⟨b1, b2⟩
      have km : KC m := kc_ne k 137 kcn_137 b1
      have e1 : m 137 1 = nI L := by rw [b2 1, if_neg (by omega)]; exact hL
      have es : nI L - 1 = nI (L - 1) := by obtain ⟨L', rfl⟩ : ∃ L', L = L' + 1 := ⟨L - 1, by omega⟩; rw [nI_pred]; rfl
      have hn : ¬ nI (78 + 5 * (L - 1)) ≤ nI (78 + 5 * c + i) := nI_ge (by omega) (by omega)
      have e5 : m 137 (78 + 5 * c + i + 5) = r (78 + 5 * c + i + 5) := by rw [b2, if_neg (by omega)]
      refine ⟨fw_set m 137 (78 + 5 * c + i) (r (78 + 5 * c + i + 5)), ⟨fun b hb => by rw [set_nr _ _ _ hb, b1 b hb], fun t => ?_⟩, ?_⟩
      · by_cases q : t = 78 + 5 * c + i
        · subst q; rw [set_eq, if_pos (by omega)]
        · rw [set_nk _ _ _ _ q, b2 t]
          by_cases q2 : 78 + 5 * c ≤ t ∧ t < 78 + 5 * c + i
          · rw [if_pos q2, if_pos (by omega)]
          · rw [if_neg q2, if_neg (by omega)]
      · simp only [lf_X10_cut_36, gO_136, gd_tt, e_links km, e1, b1_s, l_78, l_5, es, nI_mul, nI_add, if_neg hn, kc_136_0 km, gN_137, tn_137, gA_137 (show 78 + 5 * c + i + 5 < 330 by omega), gA_137 (show 78 + 5 * c + i < 330 by omega), nI_cl (show 78 + 5 * c + i + 5 < 2147483648 by omega), nI_cl (show 78 + 5 * c + i < 2147483648 by omega), e5, bm_s, nI_1]
        rfl)
    (by
      rintro n m ⟨b1, b2⟩
      have km : KC m := kc_ne k 137 kcn_137 b1
      have e1 : m 137 1 = nI L := by rw [b2 1, if_neg (by omega)]; exact hL
      have es : nI L - 1 = nI (L - 1) := by obtain ⟨L', rfl⟩ : ∃ L', L = L' + 1 := ⟨L - 1, by omega⟩; rw [nI_pred]; rfl
      have hp : nI (78 + 5 * (L - 1)) ≤ nI (78 + 5 * c + 5 * (L - 1 - c)) := nI_le (by omega) (by omega)
      refine ⟨m, by simp only [lf_X10_cut_36, gO_136, gd_tt, e_links km, e1, b1_s, l_78, l_5, es, nI_mul, nI_add, if_pos hp], b1, fun t => ?_⟩
      rw [b2 t, show 78 + 5 * c + 5 * (L - 1 - c) = 78 + 5 * (L - 1) by omega]) _ 0 20000 C rfl (by omega) (by omega) ⟨fun _ _ => rfl, fun t => by rw [if_neg (by omega), e]⟩
  exact ⟨R, h1, h2, h3⟩
theorem q_cut (I : INV M) (x : Int32) : QOK (f_L_cut st_S M 0 x 148) (fun M1 => f_X10_cut st_S M1 136 x) := by
  obtain ⟨P, L, N, A, T, U, hh, iv⟩ := id I
  obtain ⟨h, w, ⟨p3, -⟩, r3, c, -, ac, -⟩ := id iv
  have n10 := w.n
  have p12 := w.1.1
  have l24 := w.1.2.1
  have hL0 : ∀ {B : fw_Mem}, KC B → B 137 = M 137 → f_X10_links st_S B 136 = some (nI L) := fun k e => by rw [e_links k, e, w.2.1.2.1]
  by_cases hx : ∃ l, l < L ∧ x = nI l
  rotate_left
  · refine qok1 I (M1 := M) (k := 1) (by decide) (by simp only [f_L_cut, f_X9_cut, gO_0, gd_tt, kc_0_5 h, gN_121, tn_121, gO_121, b1_s, b2_s, bxl, bxr, bn_s, gA_148_0, bm_s, if_true, if_false, i10, i00, c_linkNo h r3.1.2.1 l24 hx]) (AG.rf M) (fun k1 e => ⟨0, _, ?_, mc_ff M 0 1⟩)
    rw [← rg (by omega)] at hx
    simp only [f_X10_cut, gO_136, gd_tt, bm_s, hL0 (kc_136 k1 0) ((s137 _ _).trans e), b1_s, e_isIn, decide_eq_false hx, bI_f, i00, if_true, m_fail, b2_s]
  obtain ⟨l, hl, rfl⟩ := hx
  have hl24 : l < 24 := by omega
  obtain ⟨j, j1, j2, j3, j4, j5⟩ := (lo_3 h).at' p3 hl24
  have j2 : M 5 l = nI (8 + j) := j2
  have j3 : (M 5 l).toNatClampNeg = 8 + j := j3
  have j4 : gN (M 5 l) = true := j4
  have j5 : gO st_S 3 (8 + j) = true := j5
  have hcl := r3.2.2.2.1 l hl
  rw [show (M (3 + 2) l).toNatClampNeg = 8 + j from j3, cl_clk] at hcl
  obtain ⟨M9, n0, n1, n2, n3, n4, n5⟩ := c_note h ac.1 ac.2.2.1 4 (nI l) (M (8 + j) 0) (M (8 + j) 1) (M (8 + j) 2) (M (8 + j) 3)
  have k9 : KC M9 := kc_ac h n1 n2
  have L9 : M9 3 5 = nI L := by rw [n1 3 (by omega) (by omega)]; exact r3.1.2.1
  have p9 : cLP M9 3 := by unfold cLP; rw [n1 (3 + 2) (by omega) (by omega)]; exact p3
  obtain ⟨M11, i1, i2, i3, i4, i5, i6, i7⟩ := c_remove (c := l) (lo_3 k9) p9 L9 l24 hl
  have k11 : KC M11 := kc_lk k9 (fun b b1 b2 b3 => i2 b b2 b3) i3
  obtain ⟨r', hr'⟩ : ∃ r', r' = cutR (M 137) L l := ⟨_, rfl⟩
  have w' : WF r' P (L - 1) N := by
    obtain ⟨h1, h2, h3, h4, h5, h6⟩ := w
    rw [hr']
    refine ⟨⟨h1.1, by omega, h1.2.2⟩, ⟨by rw [cutR_lo (by omega) (by omega)]; exact h2.1, by simp [cutR], by rw [cutR_lo (by omega) (by omega)]; exact h2.2.2⟩, ?_, ?_, fun t ht => ?_, fun i hi => by rw [cutR_sq l24]; exact h6 i hi⟩
    · rw [cutR_lo (by omega) (by omega)]; exact h3
    · rw [cutR_lo (by omega) (by omega), cutR_lo (by omega) (by omega)]; exact h4
    · by_cases e : t < l
      · rw [cutR_lq e]; exact h5 t (by omega)
      · rw [cutR_lq2 (by omega) ht]; exact h5 (t + 1) (by omega)
  have rw11 : RW M11 3 r' P (L - 1) N := by
    obtain ⟨h1, h2, h3, h4, h5⟩ := r3
    have f3 : ∀ j, j ≠ 5 → M11 3 j = M 3 j := fun j hj => by rw [i3 j hj, n1 3 (by omega) (by omega)]
    have fo : ∀ b, b ≠ 5 → b ≠ 3 → b ≠ 131 → b ≠ 132 → M11 b = M b := fun b b2 b3 b4 b5 => by rw [i2 b b2 b3, n1 b b4 b5]
    rw [hr']
    refine ⟨⟨by rw [f3 4 (by omega)]; exact h1.1, i4, by rw [f3 6 (by omega)]; exact h1.2.2⟩, fun i hi => ?_, fun i hi => ?_, fun t ht => ?_, fun t ht => ?_⟩
    · rw [fo (3 + 1) (by omega) (by omega) (by omega) (by omega), cutR_lo (by omega) (by omega)]; exact h2 i hi
    · rw [fo (3 + 4) (by omega) (by omega) (by omega) (by omega), cutR_lo (by omega) (by omega)]; exact h3 i hi
    · by_cases e : t < l
      · obtain ⟨a, a1, a2, a3⟩ := p3.at (l := t) (by omega) (by omega)
        have := h4 t (by omega)
        rw [cutR_lq e, i6 t e, n1 (3 + 2) (by omega) (by omega)]
        rw [a3] at this ⊢
        rw [cl_fr (fo _ (by omega) (by omega) (by omega) (by omega))]; exact this
      · obtain ⟨a, a1, a2, a3⟩ := p3.at (l := t + 1) (by omega) (by omega)
        have := h4 (t + 1) (by omega)
        rw [cutR_lq2 (by omega) ht, i7 t (by omega) ht, n1 (3 + 2) (by omega) (by omega)]
        rw [a3] at this ⊢
        rw [cl_fr (fo _ (by omega) (by omega) (by omega) (by omega))]; exact this
    · rw [cutR_sq l24, cq_fr (fo _ (by omega) (by omega) (by omega) (by omega))]; exact h5 t ht
  obtain ⟨M13, y1, yr, fc, k13, fin⟩ := gen_act (r' := r') (L' := L - 1) iv n1 n2 n3 n4 n5 (fun b hb => i2 b (by omega) (by omega)) k11 i5 rw11 w' ⟨fun i hi => by rw [hr', cutR_lo (by omega) (by omega)], Or.inr (Or.inl ⟨rfl, fun k hk => by rw [hr', cutR_lo (by omega) (by omega)], fun s hs => by rw [hr', cutR_sq l24], by omega, l, by omega, rfl, fun t ht => by rw [hr', cutR_lq ht], fun t h1 h2 => by rw [hr', cutR_lq2 h1 h2], hcl.symm⟩)⟩
  have L13 : M13 3 5 = nI (L - 1) := by rw [yr.1 3 (by omega)]; exact i4
  have hclass : f_L_cut st_S M 0 (nI l) 148 = some (0, fw_set M13 148 0 (nI (L - 1))) := by
    simp only [f_L_cut, f_X9_cut, gO_0, gd_tt, kc_0_5 h, gN_121, tn_121, gO_121, b1_s, b2_s, bxl, bxr, bn_s, gA_148_0, bm_s, if_true, if_false, i10, i00, c_link h r3.1.2.1 l24 hl, kc_0_1 h, gN_3, tn_3, gO_3, kc_3_1 h, gN_5, tn_5, gA_5 hl24, nI_cl (show l < 2147483648 by omega), j4, j3, j5, kc_0_7 h, gN_131, tn_131, gO_131, n0, kc_0_1 k9, i1, kc_0_5 k11, y1, kc_0_1 k13, L13]
  obtain ⟨B, hB⟩ : ∃ B, B = fw_set M13 148 0 (nI (L - 1)) := ⟨_, rfl⟩
  rw [← hB] at hclass
  have kB : KC B := by rw [hB]; exact kc_148 k13 _
  have fB : ∀ b, b ≠ 148 → B b = M13 b := fun b hb => by rw [hB, set_nr _ _ _ hb]
  have fB2 : ∀ b, ¬ (3 ≤ b ∧ b < 42) → b ≠ 131 → b ≠ 132 → b ≠ 148 → B b = M b := fun b b1 b2 b3 b4 => by rw [fB b b4, fc b b1 b2 b3]
  have eB : B 137 = M 137 := fB2 137 (by omega) (by omega) (by omega) (by omega)
  obtain ⟨C, c1, c2, c3, c4, c5, c6, c7, c8, c9⟩ := m_kp kB eB (by rw [fB2 136 (by omega) (by omega) (by omega) (by omega)]; exact ac.2.1) ac.2.2.1
  obtain ⟨D0, d1, d2, d3⟩ := m_cutloop c2 c3 w.2.1.2.1 l24 hl
  have kD0 : KC D0 := kc_ne c2 137 kcn_137 d2
  have eD01 : D0 137 1 = nI L := by rw [d3 1, if_neg (by omega)]; exact w.2.1.2.1
  have es : nI L - 1 = nI (L - 1) := by obtain ⟨L', rfl⟩ : ∃ L', L = L' + 1 := ⟨L - 1, by omega⟩; rw [nI_pred]; rfl
  have kD := kc_137 kD0 1 (nI (L - 1))
  have hlkD := e_links kD
  rw [set_eq] at hlkD
  have fD : ∀ b, b ≠ 137 → fw_set D0 137 1 (nI (L - 1)) b = C b := fun b hb => by rw [set_nr _ _ _ hb, d2 b hb]
  have hin : ∀ B : fw_Mem, f_X10_isIn st_S B (nI l) 0 (nI (L - 1)) = some 1 := fun B => by rw [← es, e_isIn, decide_eq_true ((rg (by omega)).mpr ⟨l, hl, rfl⟩)]; rfl
  refine ⟨0, B, nI (L - 1), fw_set D0 137 1 (nI (L - 1)), hclass, ?_, ?_, fun _ => ?_, ⟨P, L - 1, N, _, T, U, hh, fin _ (fun b b1 b2 b3 b4 => ?_) (fun j j1 j2 => ?_) ?_ (fun j hj => ?_) ?_ ?_⟩⟩
  · simp only [f_X10_cut, gO_136, gd_tt, bm_s, hL0 (kc_136 kB 0) ((s137 _ _).trans eB), b1_s, hin, i10, if_false, c1, l_78, l_5, nI_mul, nI_add, d1, kc_136_0 kD0, gN_137, tn_137, gA_137_1, eD01, es, hlkD]
  · rw [fD 136 (by decide)]; exact c6
  · rw [fD 148 (by decide), c4 148 (by decide) (by decide), hB, set_eq]
  · rw [fD b b2, c4 b b1 b3, fB b b4]
  · rw [fD 136 (by decide), c5 j j1 j2, fB 136 (by decide)]
  · rw [fD 136 (by decide)]; exact c7
  · rw [fD 140 (by decide), c8 j hj, fB2 140 (by omega) (by omega) (by omega) (by omega)]
  · rw [fD 140 (by decide)]; exact c9
  · rw [hr']
    funext t
    rw [fw_set_row]
    unfold upd cutR
    by_cases q : t = 1
    · simp [q]
    · rw [if_neg q, if_neg q, d3 t]
end QC
