/-! ===== a line of a person ===== -/
theorem lq_hi {r r' : Nat → Int32} (h : ∀ j, 78 ≤ j → r' j = r j) (l : Nat) : lq r' l = lq r l := by
  funext j
  unfold lq
  split
  · exact h _ (by omega)
  · rfl
theorem sq_hi {r r' : Nat → Int32} (h : ∀ j, 198 ≤ j → r' j = r j) (l : Nat) : sq r' l = sq r l := by
  funext j
  unfold sq
  split
  · exact h _ (by omega)
  · rfl
section PA
variable {M Mm : fw_Mem} {B : Nat → Nat} {n s e k P L N : Nat}
theorem c_plp (h : KC M) (c : CT M B n s e k 0) (t : TK B n s e k) (hk : k = 2) (hP : P < 12) (h4 : M 42 4 = nI P) : ∀ d i q (m : fw_Mem), i + d = 6 → d < q → (∀ b, b ≠ 43 → m b = M b) → (∀ j, j < 6 * P → m 43 j = M 43 j) → (∀ l, l < i → m 43 (6 * P + l) = ltr B s e l) → ∃ m', lf_X8_readPerson_66 st_S 120 q (nI i) m = some m' ∧ (∀ b, b ≠ 43 → m' b = M b) ∧ (∀ j, j < 6 * P → m' 43 j = M 43 j) ∧ ∀ l, l < 6 → m' 43 (6 * P + l) = ltr B s e l := by
  intro d
  induction d with
  | zero =>
    intro i q m hi hq f1 f2 f3
    obtain ⟨q, rfl⟩ : ∃ j, q = j + 1 := ⟨q - 1, by omega⟩
    have hle : (6 : Int32) ≤ nI i := nI_le (a := 6) (by omega) (by omega)
    refine ⟨m, by simp only [lf_X8_readPerson_66, if_pos hle], f1, f2, fun l hl => f3 l (by omega)⟩
  | succ d ih =>
    intro i q m hi hq f1 f2 f3
    obtain ⟨q, rfl⟩ : ∃ j, q = j + 1 := ⟨q - 1, by omega⟩
    have hle : ¬ nI 6 ≤ nI i := nI_ge (by omega) (by omega)
    have km : KC m := (CF.kc (M := M) ⟨fun b h1 h2 => f1 b (by omega), fun j _ => by rw [f1 1 (by decide)], fun j _ => by rw [f1 42 (by decide)], f1 45 (by decide), fun s _ => by rw [f1 _ (by omega)]⟩ h)
    have cm : CT m B n s e k 0 := by unfold CT; rw [f1 1 (by decide), f1 2 (by decide)]; exact c
    have m4 : m 42 4 = nI P := by rw [f1 42 (by decide)]; exact h4
    obtain ⟨m', x1, x2⟩ := ih (i + 1) q (fw_set m 43 (P * 6 + i) (ltr B s e i)) (by omega) (by omega) (fun b hb => by rw [set_nr _ _ _ hb]; exact f1 b hb) (fun j hj => by rw [set_nk _ _ _ _ (by omega)]; exact f2 j hj) (fun l hl => by
      by_cases el : l = i
      · subst el; rw [show 6 * P + l = P * 6 + l by omega, set_eq]
      · rw [set_nk _ _ _ _ (by omega)]; exact f3 l (by omega))
    refine ⟨m', ?_, x2⟩
    rw [← x1, lf_X8_readPerson_66]
    simp only [show (6 : Int32) = nI 6 from rfl, if_neg hle, gO_120, gd_tt, kc_120_1 km, gN_42, tn_42, gO_42, kc_42_0 km, gN_43, tn_43, kc_120_0 km, gN_1, tn_1, gO_1, c_letter km cm t hk (show i < 6 by omega), b1_s, m4, nI_mul, nI_add, gA_43 (show P * 6 + i < 72 by omega), bm_s, nI_cl (show P * 6 + i < 2147483648 by omega), nI_1]
theorem m_plp (h : KC Mm) (c : MT Mm B n s e k) (t : TK B n s e k) (hk : k = 2) (hP : P < 12) (h0 : Mm 138 0 = nI P) : ∀ d i q (m : fw_Mem), i + d = 6 → d < q → (∀ b, b ≠ 138 → m b = Mm b) → (∀ j, (j < 6 + 6 * P ∨ 12 + 6 * P ≤ j) → m 138 j = Mm 138 j) → (∀ l, l < i → m 138 (6 + 6 * P + l) = ltr B s e l) → ∃ m', lf_X10_readPerson_58 st_S 136 q (nI i) m = some m' ∧ (∀ b, b ≠ 138 → m' b = Mm b) ∧ (∀ j, (j < 6 + 6 * P ∨ 12 + 6 * P ≤ j) → m' 138 j = Mm 138 j) ∧ ∀ l, l < 6 → m' 138 (6 + 6 * P + l) = ltr B s e l := by
  intro d
  induction d with
  | zero =>
    intro i q m hi hq f1 f2 f3
    obtain ⟨q, rfl⟩ : ∃ j, q = j + 1 := ⟨q - 1, by omega⟩
    have hle : (6 : Int32) ≤ nI i := nI_le (a := 6) (by omega) (by omega)
    refine ⟨m, by simp only [lf_X10_readPerson_58, if_pos hle], f1, f2, fun l hl => f3 l (by omega)⟩
  | succ d ih =>
    intro i q m hi hq f1 f2 f3
    obtain ⟨q, rfl⟩ : ∃ j, q = j + 1 := ⟨q - 1, by omega⟩
    have hle : ¬ nI 6 ≤ nI i := nI_ge (by omega) (by omega)
    have km : KC m := kc_mo h (fun b _ b2 => f1 b b2) fun j _ => by rw [f1 136 (by decide)]
    have cm : MT m B n s e k := by unfold MT; rw [f1 136 (by decide), f1 147 (by decide)]; exact c
    have m0 : m 138 0 = nI P := by rw [f2 0 (by omega)]; exact h0
    obtain ⟨m', x1, x2⟩ := ih (i + 1) q (fw_set m 138 (6 + 6 * P + i) (ltr B s e i)) (by omega) (by omega) (fun b hb => by rw [set_nr _ _ _ hb]; exact f1 b hb) (fun j hj => by rw [set_nk _ _ _ _ (by omega)]; exact f2 j hj) (fun l hl => by
      by_cases el : l = i
      · subst el; rw [set_eq]
      · rw [set_nk _ _ _ _ (by omega)]; exact f3 l (by omega))
    refine ⟨m', ?_, x2⟩
    rw [← x1, lf_X10_readPerson_58]
    simp only [show (6 : Int32) = nI 6 from rfl, if_neg hle, gO_136, gd_tt, kc_136_1 km, gN_138, tn_138, gA_138_0, m_letter km cm t hk (show i < 6 by omega), b1_s, m0, nI_mul, nI_add, gA_138 (show 6 + 6 * P + i < 330 by omega), bm_s, nI_cl (show 6 + 6 * P + i < 2147483648 by omega), nI_1]
theorem b_fj48 {M' Mm' : fw_Mem} (x5 : TB M' Mm') : fj_X10_readPerson_48 st_S Mm' 136 = some Mm' := by simp only [fj_X10_readPerson_48, gO_136, gd_tt, if_neg x5.m]
theorem l_person (h : KC M) (hm : KC Mm) (g : GD M Mm B n s e k P L N) : LR M Mm B n e (f_X8_readPerson st_S M 120) (f_X10_readPerson st_S Mm 136) := by
  obtain ⟨tg, p, w, wf⟩ := id g
  have h4 : M 42 4 = nI P := w.1.1
  have h0 : Mm 138 0 = nI P := wf.2.1.1
  have hP := wf.1.1
  by_cases hP2 : P = 12
  · obtain ⟨M', Mm', x1, x2, x3, x4, x5⟩ := t_fail tg (f := 4) (by omega)
    rw [show nI 4 = (4 : Int32) from rfl] at x1 x2
    refine ⟨M', Mm', ?_, ?_, x3.cf, x4.mg, ?_, Or.inr x5⟩
    · have q : ¬ nI P < 12 := by rw [hP2]; decide
      simp only [f_X8_readPerson, gO_120, gd_tt, kc_120_1 h, gN_42, tn_42, gO_42, h4, if_neg q, kc_120_0 h, gN_1, tn_1, gO_1, x1, b1_s]
    · have q : nI P = 12 := by rw [hP2]; rfl
      simp only [f_X10_readPerson, gO_136, gd_tt, kc_136_1 hm, gN_138, tn_138, gA_138_0, h0, if_pos q, x2, b1_s, fj_X10_readPerson_16, b_pass x5, b_name x5, if_true, b_wrong x5, b_fj48 x5]
    · unfold cLP; rw [x3.1 (42 + 2) (by decide)]; exact p
  · have q : nI P < 12 := (nI_ltI (b := 12) (by omega) (by omega)).mpr (by omega)
    have q' : ¬ nI P = 12 := fun z => hP2 ((nI_eq (b := 12) (by omega) (by omega)).mp z)
    obtain ⟨M1, Mm1, s1, e1, k1, x1, x2, x3, x4, x5, x6⟩ := t_adv h hm tg
    have h1 := x3.kc h
    have hm1 := x4.kc hm
    obtain ⟨_, p1, w1, wf1⟩ := g.mv x3 x4 x5
    obtain ⟨c1, m1, tk1⟩ := id x5
    have g21 := m1.2.2.2.2.2.2.2
    have bad : ∀ f, 1 ≤ f ∧ f ≤ 4 → (∀ M' Mm', f_X7_fail st_S M1 1 (nI f) = some M' → f_X10_wrong st_S Mm1 136 (nI f) = some Mm' → TB M' Mm' → f_X8_readPerson st_S M 120 = some M' ∧ f_X10_readPerson st_S Mm 136 = some Mm') → LR M Mm B n e (f_X8_readPerson st_S M 120) (f_X10_readPerson st_S Mm 136) := by
      intro f hf ho
      obtain ⟨M', Mm', y1, y2, y3, y4, y5⟩ := t_fail x5 hf
      obtain ⟨z1, z2⟩ := ho M' Mm' y1 y2 y5
      refine ⟨M', Mm', z1, z2, x3.cf.tr y3.cf, x4.mg.tr y4.mg, ?_, Or.inr y5⟩
      unfold cLP; rw [y3.1 (42 + 2) (by decide)]; exact p1
    by_cases hn : nIs B s1 e1 k1 = 0
    · refine bad 1 (by omega) fun M' Mm' y1 y2 y5 => ⟨?_, ?_⟩
      · rw [show nI 1 = (1 : Int32) from rfl] at y1
        simp only [f_X8_readPerson, gO_120, gd_tt, kc_120_1 h, gN_42, tn_42, gO_42, h4, if_pos q, kc_120_0 h, gN_1, tn_1, gO_1, x1, b1_s, kc_120_0 h1, c_isName h1 c1 tk1, hn, if_true, y1]
      · rw [show nI 1 = (1 : Int32) from rfl] at y2
        simp only [f_X10_readPerson, gO_136, gd_tt, kc_136_1 hm, gN_138, tn_138, gA_138_0, h0, if_neg q', x2, b1_s, m_isName hm1 m1 tk1, hn, if_true, y2, b_fj48 y5]
    · have hk2 := nIs_2 hn
      obtain ⟨v, y1, y2, y3⟩ := t_named h1 hm1 x5 hk2 w1 hP wf1.2.1.1
      by_cases hv : v = -1
      · have m42 : M1 42 4 = nI P := w1.1.1
        have m0 : Mm1 138 0 = nI P := wf1.2.1.1
        obtain ⟨M2, a1, a2, a3, a4⟩ := c_plp h1 c1 tk1 hk2 (show P < 12 by omega) m42 6 0 20000 M1 (by omega) (by omega) (fun _ _ => rfl) (fun _ _ => rfl) (fun l hl => absurd hl (by omega))
        obtain ⟨Mm2, b1, b2, b3, b4⟩ := m_plp hm1 m1 tk1 hk2 (show P < 12 by omega) m0 6 0 20000 Mm1 (by omega) (by omega) (fun _ _ => rfl) (fun _ _ => rfl) (fun l hl => absurd hl (by omega))
        rw [show nI 0 = (0 : Int32) from rfl] at a1 b1
        have f2 : CF M1 M2 := ⟨fun b z1 z2 => a2 b (by omega), fun j _ => by rw [a2 1 (by decide)], fun j _ => by rw [a2 42 (by decide)], a2 45 (by decide), fun s _ => by rw [a2 _ (by omega)]⟩
        have u2 : MG Mm1 Mm2 := ⟨fun b _ z => b2 b z, fun j _ => by rw [b2 136 (by decide)]⟩
        have f3 : CF M1 (fw_set M2 42 4 (nI (P + 1))) := f2.tr ⟨fun b z1 z2 => set_nr _ _ _ (by omega), fun j _ => by rw [set_nr _ _ _ (by decide)], fun j hj => set_nk _ _ _ _ (by omega), set_nr _ _ _ (by decide), fun s _ => by rw [set_nr _ _ _ (by omega)]⟩
        have u3 : MG Mm1 (fw_set Mm2 138 0 (nI (P + 1))) := u2.st _ _
        have t3 : TG (fw_set M2 42 4 (nI (P + 1))) (fw_set Mm2 138 0 (nI (P + 1))) B n s1 e1 k1 := x5.fr (by rw [set_nr _ _ _ (by decide)]; exact a2 1 (by decide)) (by rw [set_nr _ _ _ (by decide)]; exact a2 2 (by decide)) (by rw [set_nr _ _ _ (by decide)]; exact b2 136 (by decide)) (by rw [set_nr _ _ _ (by decide)]; exact b2 147 (by decide))
        obtain ⟨M4, Mm4, s4, e4, k4, d1, d2, d3, d4, d5, d6⟩ := t_adv (f3.kc h1) (u3.kc hm1) t3
        have k2 := f2.kc h1
        have km2 := u2.kc hm1
        have k3 := f3.kc h1
        have g3 : GD (fw_set M2 42 4 (nI (P + 1))) (fw_set Mm2 138 0 (nI (P + 1))) B n s1 e1 k1 (P + 1) L N := by
          have n10 := wf1.n
          have l24 := wf1.1.2.1
          have rhi : ∀ j, 78 ≤ j → fw_set Mm2 138 0 (nI (P + 1)) 138 j = Mm1 138 j := fun j hj => by rw [set_nk _ _ _ _ (by omega)]; exact b3 j (by omega)
          have p3 : cLP (fw_set M2 42 4 (nI (P + 1))) 42 := by unfold cLP; rw [set_nr _ _ _ (by decide), a2 (42 + 2) (by decide)]; exact p1
          refine ⟨t3, p3, ⟨⟨set_eq _ _ _ _, by rw [set_nk _ _ _ _ (by decide), a2 42 (by decide)]; exact w1.1.2.1, by rw [set_nk _ _ _ _ (by decide), a2 42 (by decide)]; exact w1.1.2.2⟩, fun i hi => ?_, fun j hj => ?_, fun l hl => ?_, fun t ht => ?_⟩, ⟨by omega, wf1.1.2⟩, ⟨set_eq _ _ _ _, by rw [set_nk _ _ _ _ (by decide), b3 1 (by omega)]; exact wf1.2.1.2.1, by rw [set_nk _ _ _ _ (by decide), b3 2 (by omega)]; exact wf1.2.1.2.2⟩, ?_, ⟨?_, ?_⟩, fun l hl => ?_, fun t ht => ?_⟩
          · rw [set_nr _ _ _ (by decide), set_nk _ _ _ _ (by omega)]
            by_cases hi6 : i < 6 * P
            · rw [b3 _ (by omega), ← w1.2.1 i hi6]; exact a3 i hi6
            · obtain ⟨l, rfl⟩ : ∃ l, i = 6 * P + l := ⟨i - 6 * P, by omega⟩
              rw [show 6 + (6 * P + l) = 6 + 6 * P + l by omega, b4 l (by omega)]; exact a4 l (by omega)
          · rw [set_nr _ _ _ (by decide), a2 _ (by decide), set_nk _ _ _ _ (by omega), b3 _ (by omega)]; exact w1.2.2.1 j hj
          · obtain ⟨j, j1, j2, j3⟩ := p1.at (l := l) (by omega) (by omega)
            have := w1.2.2.2.1 l hl
            rw [lq_hi rhi, set_nr _ _ _ (by decide), a2 _ (by decide)]
            rw [j3] at this ⊢
            rw [cl_fr (show fw_set M2 42 4 (nI (P + 1)) (42 + 5 + j) = M1 (42 + 5 + j) by rw [set_nr _ _ _ (by omega)]; exact a2 _ (by omega))]; exact this
          · rw [sq_hi fun j hj => rhi j (by omega), cq_fr (show fw_set M2 42 4 (nI (P + 1)) (42 + 29 + t) = M1 (42 + 29 + t) by rw [set_nr _ _ _ (by omega)]; exact a2 _ (by omega))]; exact w1.2.2.2.2 t ht
          · rw [set_nk _ _ _ _ (by decide), b3 _ (by omega)]; exact wf1.2.2.1
          · rw [set_nk _ _ _ _ (by decide), b3 _ (by omega)]; exact wf1.2.2.2.1.1
          · rw [set_nk _ _ _ _ (by decide), b3 _ (by omega)]; exact wf1.2.2.2.1.2
          · rw [lq_hi rhi]
            obtain ⟨⟨a, a1, a2⟩, ⟨b, b1, b2⟩, z⟩ := wf1.2.2.2.2.1 l hl
            exact ⟨⟨a, by omega, a2⟩, ⟨b, by omega, b2⟩, z⟩
          · rw [sq_hi fun j hj => rhi j (by omega)]
            obtain ⟨⟨a, a1, a2⟩, ⟨b, b1, b2⟩, z⟩ := wf1.2.2.2.2.2 t ht
            exact ⟨⟨a, by omega, a2⟩, ⟨b, by omega, b2⟩, z⟩
        have g4 := g3.mv d3 d4 d5
        refine ⟨M4, Mm4, ?_, ?_, (x3.cf.tr f3).tr d3.cf, (x4.mg.tr u3).tr d4.mg, g4.2.1, Or.inl ⟨s4, e4, k4, P + 1, L, N, g4, by have := x5.2.2.1; omega⟩⟩
        · have m24 : M2 42 4 = nI P := by rw [a2 42 (by decide)]; exact m42
          simp only [f_X8_readPerson, gO_120, gd_tt, kc_120_1 h, gN_42, tn_42, gO_42, h4, if_pos q, kc_120_0 h, gN_1, tn_1, gO_1, x1, b1_s, kc_120_0 h1, c_isName h1 c1 tk1, if_neg hn, y1, if_pos hv, a1, kc_120_1 k2, m24, nI_1, bm_s, kc_120_0 k3, d1]
        · have m20 : Mm2 138 0 = nI P := by rw [b3 0 (by omega)]; exact m0
          simp only [f_X10_readPerson, gO_136, gd_tt, kc_136_1 hm, gN_138, tn_138, gA_138_0, h0, if_neg q', x2, b1_s, m_isName hm1 m1 tk1, if_neg hn, y2, if_pos hv, g21, if_true, b1, kc_136_1 km2, m20, nI_1, bm_s, d2]
      · refine bad 3 (by omega) fun M' Mm' z1 z2 z5 => ⟨?_, ?_⟩
        · rw [show nI 3 = (3 : Int32) from rfl] at z1
          simp only [f_X8_readPerson, gO_120, gd_tt, kc_120_1 h, gN_42, tn_42, gO_42, h4, if_pos q, kc_120_0 h, gN_1, tn_1, gO_1, x1, b1_s, kc_120_0 h1, c_isName h1 c1 tk1, if_neg hn, y1, if_neg hv, z1]
        · rw [show nI 3 = (3 : Int32) from rfl] at z2
          simp only [f_X10_readPerson, gO_136, gd_tt, kc_136_1 hm, gN_138, tn_138, gA_138_0, h0, if_neg q', x2, b1_s, m_isName hm1 m1 tk1, if_neg hn, y2, if_neg hv, z2, b_fj48 z5]
end PA
