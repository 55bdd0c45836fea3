/-! ===== ask ===== -/
def MQ8 (m m' : fw_Mem) : Prop := (∀ b, b ≠ 136 → m' b = m b) ∧ ∀ j, (j < 16 ∨ j = 23 ∨ 25 < j) → m' 136 j = m 136 j
theorem MQ8.rf (m : fw_Mem) : MQ8 m m := ⟨fun _ _ => rfl, fun _ _ => rfl⟩
theorem MQ8.tr {a b c : fw_Mem} (h : MQ8 a b) (h2 : MQ8 b c) : MQ8 a c := ⟨fun x x1 => (h2.1 x x1).trans (h.1 x x1), fun j hj => (h2.2 j hj).trans (h.2 j hj)⟩
theorem MQ8.kc {m m' : fw_Mem} (f : MQ8 m m') (h : KC m) : KC m' := kc_mo h (fun b b1 _ => f.1 b b1) fun j hj => f.2 j (by omega)
section QA
variable {M : fw_Mem} {B : Nat → Nat} {n N P L : Nat} {r : Nat → Int32}
theorem m_opens24 {Mm M' : fw_Mem} (h : KC Mm) (hn : n ≤ 600) (hb : ∀ i, i < n → B i < 256 ∧ Mm 147 i = nI (B i)) (ho : f_X10_opens st_S Mm 136 (nI n) = some M') : M' 136 24 = 0 := by
  obtain ⟨A, hA⟩ : ∃ m, m = fw_set (fw_set (fw_set (fw_set Mm 136 16 (nI n)) 136 17 0) 136 21 0) 136 24 0 := ⟨_, rfl⟩
  have fA : ∀ b, b ≠ 136 → A b = Mm b := fun b hb => by rw [hA, set_nr _ _ _ hb, set_nr _ _ _ hb, set_nr _ _ _ hb, set_nr _ _ _ hb]
  have a16 : A 136 16 = nI n := by rw [hA, set_nk _ _ _ _ (by decide), set_nk _ _ _ _ (by decide), set_nk _ _ _ _ (by decide), set_eq]
  have a17 : A 136 17 = nI 0 := by rw [hA, set_nk _ _ _ _ (by decide), set_nk _ _ _ _ (by decide), set_eq]; rfl
  have a21 : A 136 21 = 0 := by rw [hA, set_nk _ _ _ _ (by decide), set_eq]
  have a24 : A 136 24 = 0 := by rw [hA, set_eq]
  have kA : KC A := kc_mo h (fun b b1 _ => fA b b1) fun j hj => by rw [hA, set_nk _ _ _ _ (by omega), set_nk _ _ _ _ (by omega), set_nk _ _ _ _ (by omega), set_nk _ _ _ _ (by omega)]
  obtain ⟨M2, x1, x2, x3⟩ := m_step (B := B) (n := n) kA hn (fun i hi => by rw [fA 147 (by decide)]; exact hb i hi) a16 a21 a17 (by omega)
  have : f_X10_opens st_S Mm 136 (nI n) = some M2 := by
    simp only [f_X10_opens, gO_136, gd_tt, bm_s]
    rw [← hA, x1, b1_s]
  obtain rfl : M2 = M' := Option.some.inj (this.symm.trans ho)
  rw [x2.2 24 (by omega)]; exact a24
theorem ask_run {M4 m0 : fw_Mem} {a : Int32} (w : WF r P L N) (h4 : KC M4) (ce : CE M4 N (zV r L N)) (hn : n ≤ 200) (c4 : CT M4 B n (nxS B n 0) (nxE B n 0) (nxK B n 0) 0) (hm : KC m0) (e137 : m0 137 = r) (e141 : ∀ k, k < 2 * N → m0 141 k = BDr r L k) (hb : ∀ i, i < n → B i < 256 ∧ m0 147 i = nI (B i)) (ha : a = -1 ∨ ∃ i, i < N ∧ a = nI i) :
    ∃ v M' b Mm', cQ M4 = some (v, M') ∧ AF M4 M' ∧ MQ8 m0 Mm' ∧
    (∀ (m0 : fw_Mem) (x : Int32), KC (fw_set m0 127 4 (nI N)) → f_X7_open st_S (fw_set m0 127 4 (nI N)) 1 x = some M4 → f_X1_answer st_S m0 127 x (nI N) = some (cA M' (wIs B (nxS B n 0) (nxE B n 0) (nxK B n 0) 1000015) v, M')) ∧
    f_X10_readQuestion st_S m0 136 (nI n) a = some (bI b, Mm') ∧
    ((M' 1 7 = 0 ∧ M' 1 8 = -1 ∧ Mm' 136 21 = 0 ∧ (∀ i, N ≤ i → bt v i = false) ∧ (∀ i, i < N → a = nI i → bt v i = b) ∧ ¬ (wIs B (nxS B n 0) (nxE B n 0) (nxK B n 0) 1000015 = 0 ∧ wIs B (nxS B n 0) (nxE B n 0) (nxK B n 0) 1000009 = 0)) ∨ TB M' Mm') := by
  have n10 := w.n
  have fs : ∀ b, b ≠ 136 → fw_set m0 136 25 a b = m0 b := fun b hb => set_nr _ _ _ hb
  have ks : KC (fw_set m0 136 25 a) := kc_mo hm (fun b b1 _ => fs b b1) fun j hj => set_nk _ _ _ _ (by omega)
  have hbs : ∀ i, i < n → B i < 256 ∧ fw_set m0 136 25 a 147 i = nI (B i) := fun i hi => by rw [fs 147 (by decide)]; exact hb i hi
  obtain ⟨Mb, d1, d2, d3, d4⟩ := m_opens (B := B) ks (show n ≤ 600 by omega) hbs
  have d24 := m_opens24 ks (show n ≤ 600 by omega) hbs d1
  have kb : KC Mb := kc_mo ks (fun b b1 _ => d2 b b1) fun j hj => d3 j (by omega)
  have t : TG M4 Mb B n (nxS B n 0) (nxE B n 0) (nxK B n 0) := ⟨c4, d4, (nx_tk (B := B) (n := n) (e := 0) (by omega)).1⟩
  have me : ME Mb N (zV r L N) a := ⟨by rw [d3 25 (by omega), set_eq], ha, fun m' f k' i hi kk hk => e_valueOf k' (by rw [f.1 137 (by decide), d2 137 (by decide), fs 137 (by decide)]; exact e137) w (fun j hj => by rw [f.1 141 (by decide), d2 141 (by decide), fs 141 (by decide)]; exact e141 j hj) hi hk⟩
  obtain ⟨v, M', b, Mm', x1, x2, x3, x4, x5, x6⟩ := t_question h4 kb ce n10 hn t me d24
  refine ⟨v, M', b, Mm', x1, x2, ⟨fun b b1 => by rw [x3.1 b b1, d2 b b1, fs b b1], fun j hj => by rw [x3.2 j (by omega), d3 j (by omega), set_nk _ _ _ _ (by omega)]⟩, x4, x5 m0 (nI n) d1, x6⟩
theorem q_ask_no (I : INV M) {x : Int32} (hx : x < 0 ∨ (200 : Int32) < x ∨ ¬ x ≤ M 1 1) : QOK (f_L_ask st_S M 0 x 148) (fun M1 => f_X10_ask st_S M1 136 x) := by
  obtain ⟨P, L, N, A, T, U, hh, iv⟩ := id I
  obtain ⟨h, w, ⟨p3, p42, p81⟩, r3, c, im, ac, tp, sp⟩ := id iv
  refine qok1 I (M1 := M) (k := 1) (by decide) ?_ (AG.rf M) (fun k1 e => ⟨0, fw_set (fw_set M 136 6 0) 136 6 1, ?_, ?_⟩)
  · by_cases h0 : x < 0
    · simp only [f_L_ask, gO_0, gd_tt, f_X9_ask, if_pos h0, b2_s, bxr, if_true]
    · by_cases h1 : (200 : Int32) < x
      · simp only [f_L_ask, gO_0, gd_tt, f_X9_ask, if_neg h0, if_pos h1, b2_s, bxr, if_true]
      · have h2 := (hx.resolve_left h0).resolve_left h1
        simp only [f_L_ask, gO_0, gd_tt, f_X9_ask, if_neg h0, if_neg h1, kc_0_0 h, gN_1, tn_1, gO_1, if_neg h2, b2_s, bxr, if_true]
  · have e15 : fw_set M 136 6 0 136 15 = M 1 1 := by rw [set_nk _ _ _ _ (by decide), tp.2.1, tp.1]
    by_cases h0 : x < 0
    · simp only [f_X10_ask, gO_136, gd_tt, bm_s, if_pos h0, f_X10_fail, b2_s]
    · by_cases h2 : M 1 1 < x
      · simp only [f_X10_ask, gO_136, gd_tt, bm_s, if_neg h0, e15, if_pos h2, f_X10_fail, b2_s]
      · have h3 : ¬ x ≤ (200 : Int32) := fun q => by
          rcases hx with q' | q' | q'
          · exact h0 q'
          · exact Int32.not_lt.mpr q q'
          · exact q' (Int32.not_lt.mp h2)
        simp only [f_X10_ask, gO_136, gd_tt, bm_s, if_neg h0, e15, if_neg h2, if_neg h3, f_X10_fail, b2_s]
  · exact ⟨⟨fun b b1 _ => by rw [set_nr _ _ _ b1, set_nr _ _ _ b1], fun j hj => by rw [set_nk _ _ _ _ hj, set_nk _ _ _ _ hj]⟩, set_eq _ _ _ _⟩
theorem q_ask (I : INV M) (x : Int32) : QOK (f_L_ask st_S M 0 x 148) (fun M1 => f_X10_ask st_S M1 136 x) := by
  by_cases hx : x < 0 ∨ (200 : Int32) < x ∨ ¬ x ≤ M 1 1
  · exact q_ask_no I hx
  obtain ⟨P, L, N, A, T, U, hh, iv⟩ := id I
  obtain ⟨h, w, ⟨p3, p42, p81⟩, r3, c, im, ac, tp, sp⟩ := id iv
  have h0 : ¬ x < 0 := fun e => hx (Or.inl e)
  have h200 : ¬ (200 : Int32) < x := fun e => hx (Or.inr (Or.inl e))
  have h1 : x ≤ M 1 1 := Decidable.byContradiction fun e => hx (Or.inr (Or.inr e))
  have hT := tp.2.2.1
  have n10 := w.n
  have l24 := w.1.2.1
  obtain ⟨n, hnT, rfl⟩ := (rgk (k := T) (by omega)).mp ⟨h0, by rw [← tp.1]; exact h1⟩
  have hn : n ≤ 200 := by
    rw [show (200 : Int32) = nI 200 from rfl, nI_ltI (by omega) (by omega)] at h200
    omega
  obtain ⟨B, hB⟩ := tp_by tp.2.2.2.1
  have hb1 : ∀ i, i < n → B i < 256 ∧ M 2 i = sx (B i) := fun i hi => ⟨(hB i (by omega)).1, (hB i (by omega)).2.1⟩
  have hb2 : ∀ Mm : fw_Mem, Mm 147 = M 147 → ∀ i, i < n → B i < 256 ∧ Mm 147 i = nI (B i) := fun Mm e i hi => ⟨(hB i (by omega)).1, by rw [e]; exact (hB i (by omega)).2.2⟩
  -- the class: the table, the tape opened
  obtain ⟨M11, a1, a2, a3⟩ := c_tab h w c
  have k11 := a2.kc h
  have kS : KC (fw_set M11 127 4 (nI N)) := kc_set k11 (by decide +kernel)
  obtain ⟨M4, o1, o2, o3, o4, o5, o6⟩ := c_open (B := B) kS (show n ≤ 600 by omega) (fun i hi => by rw [set_nr _ _ _ (by decide), a2.1 2 (by omega) (by decide)]; exact hb1 i hi)
  have k4 : KC M4 := kc_tape kS (fun b b1 _ => o2 b b1) o3
  have ce4 : CE M4 N (zV (M 137) L N) := ⟨by rw [o2 127 (by decide), set_eq], fun i hi k hk => by rw [o2 128 (by decide), set_nr _ _ _ (by decide)]; exact a3 i hi k hk⟩
  have f4 : ∀ b, b ≠ 1 → b < 121 ∨ 130 < b → M4 b = M b := fun b b1 b2 => by rw [o2 b b1, set_nr _ _ _ (by omega), a2.1 b (by omega) (by omega)]
  obtain ⟨Mx, y1, y2, y3, y4, y5, y6⟩ := m_lay h w
  obtain ⟨v, M', bx, Mmx, z1, z2, -, z4, -, -⟩ := ask_run (a := -1) w k4 ce4 hn o6 y5 y3 y6 (hb2 Mx (y2.1 147 (by decide) (by omega))) (Or.inl rfl)
  have z4' := z4 M11 (nI n) kS o1
  have k' := z2.kc k4
  obtain ⟨ans, hans⟩ : ∃ z, z = cA M' (wIs B (nxS B n 0) (nxE B n 0) (nxK B n 0) 1000015) v := ⟨_, rfl⟩
  rw [← hans] at z4'
  have hN3 : M11 3 6 = nI N := (a2.cr n10 c).1.1
  have hclass : f_L_ask st_S M 0 (nI n) 148 = some (0, fw_set M' 148 0 ans) := by
    simp only [f_L_ask, gO_0, gd_tt, f_X9_ask, if_neg h0, if_neg h200, kc_0_0 h, gN_1, tn_1, gO_1, if_pos h1, kc_0_5 h, gN_121, kc_0_6 h, gN_127, tn_127, gO_127, kc_127_1 h, gN_128, tn_121, gO_121, tn_128, a1, b1_s, kc_0_6 k11, kc_0_1 k11, gN_3, tn_3, gO_3, hN3, z4', b2_s, bxl, gA_148_0, bm_s]
  obtain ⟨M1, hM1⟩ : ∃ m, m = fw_set M' 148 0 ans := ⟨_, rfl⟩
  rw [← hM1] at hclass
  have k1 : KC M1 := by rw [hM1]; exact kc_148 k' _
  have f1 : ∀ b, b ≠ 148 → M1 b = M' b := fun b hb => by rw [hM1, set_nr _ _ _ hb]
  have fM : ∀ b, b ≠ 1 → b ≠ 148 → b < 121 ∨ 130 < b → M1 b = M b := fun b b1 b2 b3 => by rw [f1 b b2, z2.1 b b1 (by omega) (by omega), f4 b b1 b3]
  have m11 : M1 1 1 = 0 := by rw [f1 1 (by decide), z2.2 1 (by omega)]; exact o4
  -- the model
  have kz := kc_136 k1 0
  have e137z : fw_set M1 136 6 0 137 = M 137 := by rw [set_nr _ _ _ (by decide), fM 137 (by decide) (by decide) (by omega)]
  obtain ⟨M8, u1, u2, u3, u4, u5, u6⟩ := m_lay kz (by rw [e137z]; exact w)
  rw [e137z] at u3 u6
  have e147 : M8 147 = M 147 := by rw [u2.1 147 (by decide) (by omega), set_nr _ _ _ (by decide), fM 147 (by decide) (by decide) (by omega)]
  obtain ⟨M9, v1, v2, v3, v4⟩ := m_opens (B := B) u5 (show n ≤ 600 by omega) (hb2 M8 e147)
  have k9 : KC M9 := kc_mo u5 (fun b b1 _ => v2 b b1) fun j hj => v3 j (by omega)
  have tk := (nx_tk (B := B) (n := n) (e := 0) (by omega)).1
  have b9 := m_word' k9 v4 tk wd_9
  obtain ⟨first, hfirst⟩ : ∃ z, z = wIs B (nxS B n 0) (nxE B n 0) (nxK B n 0) 1000009 := ⟨_, rfl⟩
  rw [← hfirst] at b9
  have run : ∀ (m0 : fw_Mem) (a : Int32), KC m0 → (∀ b, b ≠ 136 → m0 b = M9 b) → (a = -1 ∨ ∃ i, i < N ∧ a = nI i) → ∃ b Mm', MQ8 m0 Mm' ∧ f_X10_readQuestion st_S m0 136 (nI n) a = some (bI b, Mm') ∧ ((M' 1 7 = 0 ∧ M' 1 8 = -1 ∧ Mm' 136 21 = 0 ∧ (∀ i, N ≤ i → bt v i = false) ∧ (∀ i, i < N → a = nI i → bt v i = b) ∧ ¬ (wIs B (nxS B n 0) (nxE B n 0) (nxK B n 0) 1000015 = 0 ∧ first = 0)) ∨ TB M' Mm') := fun m0 a km f0 ha => by
    obtain ⟨v', M'', b, Mm', g1, -, g3, -, g5, g6⟩ := ask_run (a := a) w k4 ce4 hn o6 km (by rw [f0 137 (by decide), v2 137 (by decide)]; exact u3) (fun k hk => by rw [f0 141 (by decide), v2 141 (by decide)]; exact u6 k hk) (hb2 m0 (by rw [f0 147 (by decide), v2 147 (by decide)]; exact e147)) ha
    have e := Option.some.inj (z1.symm.trans g1)
    obtain ⟨rfl, rfl⟩ : v = v' ∧ M' = M'' := ⟨congrArg Prod.fst e, congrArg Prod.snd e⟩
    rw [← hfirst] at g6
    exact ⟨b, Mm', g3, g5, g6⟩
  obtain ⟨b, Mm', g1, g2, g3⟩ := run M9 (-1) k9 (fun _ _ => rfl) (Or.inl rfl)
  have km' := g1.kc k9
  obtain ⟨Me, hMe⟩ : ∃ m, m = fw_set (fw_set Mm' 136 15 0) 136 23 (if Mm' 136 21 = 0 then -1 else Mm' 136 22) := ⟨_, rfl⟩
  have fe : ∀ b, b ≠ 136 → Me b = Mm' b := fun b hb => by rw [hMe, set_nr _ _ _ hb, set_nr _ _ _ hb]
  have fe6 : ∀ j, j ≠ 15 → j ≠ 23 → Me 136 j = Mm' 136 j := fun j j1 j2 => by rw [hMe, set_nk _ _ _ _ j2, set_nk _ _ _ _ j1]
  have ke : KC Me := kc_mo km' (fun b b1 _ => fe b b1) fun j hj => fe6 j (by omega) (by omega)
  have base : f_X10_ask st_S M1 136 (nI n) = (if Mm' 136 21 = 0 then (b1 (lf_X10_ask_78 st_S 136 (nI n) first 20000 0 0 Me) (fun l20 => bl l20 (fun t20 => some t20) (fun d20 => if first = 0 then (some (d20.1, d20.2)) else (some ((-1), d20.2))))) else (some ((((-1000000000) : Int32) - Mm' 136 21), Me))) := by
    have e15 : fw_set M1 136 6 0 136 15 = M 1 1 := by rw [set_nk _ _ _ _ (by decide), fM 136 (by decide) (by decide) (by omega), tp.2.1, tp.1]
    have hle : nI n ≤ (200 : Int32) := nI_le (b := 200) hn (by omega)
    have hnl : ¬ M 1 1 < nI n := Int32.not_lt.mpr h1
    simp only [f_X10_ask, gO_136, gd_tt, bm_s, if_neg h0, e15, if_neg hnl, if_pos hle, u1, b1_s, v1, b9, g2, b2_s, m_ends]
    rw [← hMe]
  -- what holds behind it
  have fin : ∀ Mf, MQ8 Me Mf → Mf 1 8 = Me 136 23 → INV Mf := fun Mf q e8 => by
    have kf := q.kc ke
    have ff : ∀ b, b ≠ 136 → b < 141 ∨ 145 < b → Mf b = M1 b := fun b b1 b2 => by rw [q.1 b b1, fe b b1, g1.1 b b1, v2 b b1, u2.1 b b1 b2, set_nr _ _ _ b1]
    have ff6 : ∀ j, j ≠ 6 → j ≠ 15 → (j < 16 ∨ 25 < j) → Mf 136 j = M 136 j := fun j j1 j2 j3 => by rw [q.2 j (by omega), fe6 j j2 (by omega), g1.2 j (by omega), v3 j (by omega), u2.2 j j1, set_nk _ _ _ _ j1, fM 136 (by decide) (by decide) (by omega)]
    have fA : ∀ b, b ≠ 136 → b ≠ 1 → b ≠ 148 → b < 121 ∨ (130 < b ∧ b < 141) ∨ 145 < b → Mf b = M b := fun b b1 b2 b3 b4 => by rw [ff b b1 (by omega), fM b b2 b3 (by omega)]
    have e137 := fA 137 (by decide) (by decide) (by decide) (by omega)
    refine ⟨P, L, N, A, 0, U, hh, iv_text iv (fun b hb => ?_) (ff6 4 (by decide) (by decide) (by omega)) (ff6 13 (by decide) (by decide) (by omega)) kf (by rw [e137]; exact w) ?_ ?_ ?_ ?_ ?_ ?_ ?_ ?_⟩
    · simp at hb
      exact fA b (by omega) (by omega) (by omega) (by omega)
    · unfold cLP; rw [fA (3 + 2) (by decide) (by decide) (by decide) (by omega)]; exact p3
    · unfold cLP; rw [fA (42 + 2) (by decide) (by decide) (by decide) (by omega)]; exact p42
    · rw [e137]; exact RW.fr p3 (by omega) l24 n10 (fun b h1 h2 => fA b (by omega) (by omega) (by omega) (by omega)) r3
    · rw [e137]
      refine ⟨by rw [fA 3 (by decide) (by decide) (by decide) (by omega), fA 7 (by decide) (by decide) (by decide) (by omega)]; exact c.1, fun i hi => ?_⟩
      have ei := fA (32 + i) (by omega) (by omega) (by omega) (by omega)
      rw [cq_fr ei, ei]; exact c.2 i hi
    · rw [fA 131 (by decide) (by decide) (by decide) (by omega), fA 132 (by decide) (by decide) (by decide) (by omega), fA 140 (by decide) (by decide) (by decide) (by omega), e137, ff6 5 (by decide) (by decide) (by omega)]; exact ac
    · rw [ff 1 (by decide) (by omega)]; exact m11
    · rw [q.2 15 (by omega), hMe, set_nk _ _ _ _ (by decide), set_eq]
    · rw [e8, q.2 23 (by omega)]
  have f1e : ∀ Mf, MQ8 Me Mf → Mf 1 = M' 1 := fun Mf q => by rw [q.1 1 (by decide), fe 1 (by decide), g1.1 1 (by decide), v2 1 (by decide), u2.1 1 (by decide) (by omega), set_nr _ _ _ (by decide), f1 1 (by decide)]
  have f148 : ∀ Mf, MQ8 Me Mf → Mf 148 0 = ans := fun Mf q => by rw [q.1 148 (by decide), fe 148 (by decide), g1.1 148 (by decide), v2 148 (by decide), u2.1 148 (by decide) (by omega), set_nr _ _ _ (by decide), hM1, set_eq]
  have fcode : ∀ Mf, MQ8 Me Mf → Mf 136 6 = 0 := fun Mf q => by rw [q.2 6 (by omega), fe6 6 (by decide) (by decide), g1.2 6 (by omega), v3 6 (by omega), u4, set_eq]
  rcases g3 with ⟨h7, h8, h21, hi1, -, hmf⟩ | tb
  · -- the loop over the suits
    have e23 : Me 136 23 = -1 := by rw [hMe, set_eq, if_pos h21]
    rw [if_pos h21] at base
    obtain ⟨R, s1, Mf, s2, s3⟩ := lp_out (fun f (σ : Int32 × fw_Mem) i => lf_X10_ask_78 st_S 136 (nI n) first f σ.1 (nI i) σ.2) N (fun i σ => MQ8 Me σ.2 ∧ (first ≠ 0 → ∀ j, j < i → bt v j = false) ∧ (first = 0 → σ.1 = nI (fb_ct (bt v) i))) (fun R => ∃ Mf, MQ8 Me Mf ∧ bl R (fun t20 => some t20) (fun d20 => if first = 0 then (some (d20.1, d20.2)) else (some ((-1), d20.2))) = some (ans, Mf))
      (by
        rintro f i ⟨x5, m⟩ hi ⟨q1, q2, q3⟩
        dsimp only at q1 q2 q3 ⊢
        have km := q1.kc ke
        have f0 : ∀ b, b ≠ 136 → m b = M9 b := fun b hb => by rw [q1.1 b hb, fe b hb, g1.1 b hb]
        have eN : m 137 2 = nI N := by rw [f0 137 (by decide), v2 137 (by decide), u3]; exact w.2.1.2.2
        have hni : ¬ nI N ≤ nI i := nI_ge hi (by omega)
        obtain ⟨bb', m', w1, w2, w3⟩ := run m (nI i) km f0 (Or.inr ⟨i, hi, rfl⟩)
        rcases w3 with ⟨-, -, -, -, w3, -⟩ | tb
        rotate_left
        · exact absurd h7 tb.c
        have hbi : bt v i = bb' := w3 i hi rfl
        have stp : lf_X10_ask_78 st_S 136 (nI n) first (f + 1) x5 (nI i) m = if bb' = false then lf_X10_ask_78 st_S 136 (nI n) first f x5 (nI (i + 1)) m' else (if first = 0 then lf_X10_ask_78 st_S 136 (nI n) first f (x5 + 1) (nI (i + 1)) m' else some (.inl (nI i, m'))) := by
          simp only [lf_X10_ask_78, gO_136, gd_tt, e_suits km, eN, b1_s, if_neg hni, w2, b2_s, bI_0, nI_1]
        rw [stp]
        cases bb'
        · left
          refine ⟨(x5, m'), ⟨q1.tr w1, fun hf j hj => ?_, fun hf => ?_⟩, by rw [if_pos rfl]⟩
          · by_cases e : j = i
            · rw [e]; exact hbi
            · exact q2 hf j (by omega)
          · dsimp only
            rw [q3 hf, fb_ct_succ, hbi]; rfl
        · by_cases hf : first = 0
          · left
            refine ⟨(x5 + 1, m'), ⟨q1.tr w1, fun hf' => absurd hf hf', fun _ => ?_⟩, by rw [if_neg (by decide), if_pos hf]⟩
            dsimp only
            rw [q3 hf, nI_1, fb_ct_succ, hbi]; rfl
          · right
            refine ⟨.inl (nI i, m'), by rw [if_neg (by decide), if_neg hf], m', q1.tr w1, ?_⟩
            have hm0 : wIs B (nxS B n 0) (nxE B n 0) (nxK B n 0) 1000015 = 0 := Decidable.byContradiction fun q => hf (by rw [hfirst]; exact wIs_mf q)
            have hz : z_first (hs v) 31 = some i := z_first_some.mpr ⟨by omega, by rw [hs_bt (by omega)]; exact hbi, fun j hj => by rw [hs_bt (by omega)]; exact q2 hf j hj⟩
            have : ans = nI i := by rw [hans, cA, if_pos h7, if_pos hm0, z_low, hz]; rfl
            rw [this]; rfl)
      (by
        rintro f ⟨x5, m⟩ ⟨q1, q2, q3⟩
        dsimp only at q1 q2 q3 ⊢
        have km := q1.kc ke
        have eN : m 137 2 = nI N := by rw [q1.1 137 (by decide), fe 137 (by decide), g1.1 137 (by decide), v2 137 (by decide), u3]; exact w.2.1.2.2
        refine ⟨.inr (x5, m), by simp only [lf_X10_ask_78, gO_136, gd_tt, e_suits km, eN, b1_s, if_pos (nI_le (Nat.le_refl N) (show N < 2 ^ 31 by omega))], m, q1, ?_⟩
        show (if first = 0 then (some (x5, m)) else (some ((-1), m))) = some (ans, m)
        by_cases hf : first = 0
        · have hm0 : ¬ wIs B (nxS B n 0) (nxE B n 0) (nxK B n 0) 1000015 = 0 := fun q => hmf ⟨q, hf⟩
          have hp : pc v = fb_ct (bt v) N := by
            have e1 : fb_ct (bt v) (N + (32 - N)) = fb_ct (bt v) N + fb_ct (fun k => bt v (N + k)) (32 - N) := fb_ct_split (bt v) N (32 - N)
            have e2 : fb_ct (fun k => bt v (N + k)) (32 - N) = 0 := fb_ct_zero.mpr fun k _ => hi1 _ (by omega)
            rw [show N + (32 - N) = 32 by omega] at e1
            show fb_ct (bt v) 32 = _
            omega
          rw [if_pos hf, q3 hf, hans, cA, if_pos h7, if_neg hm0, hp]
        · have hm0 : wIs B (nxS B n 0) (nxE B n 0) (nxK B n 0) 1000015 = 0 := Decidable.byContradiction fun q => hf (by rw [hfirst]; exact wIs_mf q)
          have hz : z_first (hs v) 31 = none := z_first_none.mpr fun j hj => by
            rw [hs_bt (by omega)]
            by_cases e : j < N
            · exact q2 hf j e
            · exact hi1 j (by omega)
          rw [if_neg hf, hans, cA, if_pos h7, if_pos hm0, z_low, hz]; rfl) _ 0 20000 (0, Me) rfl (by omega) (by omega) ⟨MQ8.rf Me, fun _ j hj => absurd hj (by omega), fun _ => rfl⟩
    have s1' : lf_X10_ask_78 st_S 136 (nI n) first 20000 0 0 Me = some R := s1
    rw [s1', b1_s, s3] at base
    exact ⟨0, M1, ans, Mf, hclass, base, fcode Mf s2, fun _ => f148 Mf s2, fin Mf s2 (by rw [f1e Mf s2, h8, e23])⟩
  · have m21 := tb.m
    have e7 : M' 1 7 = Mm' 136 21 := by
      obtain ⟨B', n', s', e', kk, f', cc, -, -, hm, -⟩ := id tb
      rw [hm]; exact cc.2.2.2.2.2.2.1
    have e8 : M' 1 8 = Mm' 136 22 := by
      obtain ⟨B', n', s', e', kk, f', cc, -, -, -, hm⟩ := id tb
      exact hm
    rw [if_neg m21] at base
    have : (-1000000000) - Mm' 136 21 = ans := by rw [hans, cA, if_neg tb.c, e7]
    rw [this] at base
    exact ⟨0, M1, ans, Me, hclass, base, fcode Me (MQ8.rf Me), fun _ => f148 Me (MQ8.rf Me), fin Me (MQ8.rf Me) (by rw [f1e Me (MQ8.rf Me), e8, hMe, set_eq, if_neg m21])⟩
end QA
