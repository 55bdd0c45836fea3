/-! ===== all lines of a text ===== -/
section RD
variable {B : Nat → Nat} {n : Nat}
theorem c_line {M Mm : fw_Mem} {s e k P L N : Nat} (h : KC M) (hm : KC Mm) (g : GD M Mm B n s e k P L N) : ∃ Ml, f_X8_readLine st_S M 120 = some Ml ∧ CF M Ml := by
  obtain ⟨c, m, tk⟩ := id g.1
  have take : ∀ {o om : Option fw_Mem}, LR M Mm B n e o om → ∃ Ml, o = some Ml ∧ CF M Ml := fun r => by
    obtain ⟨M', _, x1, _, x3, _⟩ := r
    exact ⟨M', x1, x3⟩
  simp only [f_X8_readLine, gO_120, gd_tt, kc_120_0 h, gN_1, tn_1, gO_1, c_word h c tk wd_23, c_word h c tk wd_12, c_word h c tk wd_26, c_word h c tk wd_28, c_word h c tk wd_14, c_word h c tk wd_25, c_word h c tk wd_27, c_word h c tk wd_17, c_word h c tk wd_6, b1_s, b1_sm]
  by_cases w23 : wIs B s e k 1000023 = 0
  rotate_left
  · rw [if_neg w23]; exact take (l_person h hm g)
  rw [if_pos w23]
  by_cases w12 : wIs B s e k 1000012 = 0
  rotate_left
  · rw [if_neg w12]; exact take (l_link h hm g (Or.inl rfl))
  rw [if_pos w12]
  by_cases w26 : wIs B s e k 1000026 = 0
  rotate_left
  · rw [if_neg w26]; exact take (l_link h hm g (Or.inr rfl))
  rw [if_pos w26]
  by_cases w28 : wIs B s e k 1000028 = 0
  rotate_left
  · rw [if_neg w28]; exact take (l_suit h hm g)
  rw [if_pos w28]
  by_cases w14 : wIs B s e k 1000014 = 0
  rotate_left
  · rw [if_neg w14]; exact take (l_judged h hm g)
  rw [if_pos w14]
  by_cases w25 : wIs B s e k 1000025 = 0
  rotate_left
  · rw [if_neg w25]; exact take (l_rev h hm g)
  rw [if_pos w25]
  by_cases w27 : wIs B s e k 1000027 = 0
  rotate_left
  · rw [if_neg w27]; exact take (l_rule h hm g (c := 0) (by omega))
  rw [if_pos w27]
  by_cases w17 : wIs B s e k 1000017 = 0
  rotate_left
  · rw [if_neg w17]; exact take (l_rule h hm g (c := 1) (by omega))
  rw [if_pos w17]
  by_cases w6 : wIs B s e k 1000006 = 0
  rotate_left
  · rw [if_neg w6]; exact take (l_rule h hm g (c := 2) (by omega))
  rw [if_pos w6]
  obtain ⟨M', Mm', z1, z2, z3, z4, z5⟩ := t_fail g.1 (f := 1) (by omega)
  exact ⟨M', z1, z3.cf⟩
theorem rd_loop : ∀ d (M Mm : fw_Mem) s e k P L N t q q2, KC M → KC Mm → GD M Mm B n s e k P L N → n - s = d → t ≤ s → d + 1 < q → d + 1 < q2 → ∃ M' Mm', lf_X8_read_19 st_S 120 q (nI (600 - t)) M = some M' ∧ lf_X10_desk_35 st_S 136 q2 Mm = some Mm' ∧ CF M M' ∧ MG Mm Mm' ∧ cLP M' 42 ∧ ((∃ s' e' k' P' L' N', GD M' Mm' B n s' e' k' P' L' N') ∨ TB M' Mm') := by
  intro d
  induction d using Nat.strongRecOn with
  | ind d ih =>
    intro M Mm s e k P L N t q q2 h hm g hd hts hq hq2
    obtain ⟨q, rfl⟩ : ∃ j, q = j + 2 := ⟨q - 2, by omega⟩
    obtain ⟨q2, rfl⟩ : ∃ j, q2 = j + 2 := ⟨q2 - 2, by omega⟩
    obtain ⟨tg, p, w, wf⟩ := id g
    obtain ⟨c, m, tk⟩ := id tg
    obtain ⟨hn, hb, h2, h4, h5, h3, h7, h6⟩ := id c
    obtain ⟨_, _, g2, g17, g19, g20, g18, g21⟩ := id m
    have hse := tk.1
    have hen := tk.2.1
    have hk4 : k ≤ 4 := by rcases tk.2.2.1 with q | q | q | q <;> omega
    have hk1 : k ≠ 1 := by rcases tk.2.2.1 with q | q | q | q <;> omega
    by_cases hk : k = 0
    · have h30 : M 1 3 = 0 := by rw [h3, hk]; rfl
      have g180 : Mm 136 18 = 0 := by rw [g18, hk]; rfl
      refine ⟨M, Mm, ?_, ?_, CF.rf M, MG.rf Mm, p, Or.inl ⟨s, e, k, P, L, N, g⟩⟩
      · rw [lf_X8_read_19]
        by_cases hx : nI (600 - t) ≤ 0
        · rw [if_pos hx]
        · rw [if_neg hx]
          simp only [gO_120, gd_tt, kc_120_0 h, gN_1, tn_1, gO_1, h7, h30, if_true]
      · rw [lf_X10_desk_35]
        simp only [gO_136, gd_tt, g21, g180, if_true]
    · have hlt : s < e := by
        rcases tk.2.2.1 with q | q | q | q
        · exact absurd q hk
        · exact (tk.2.2.2.2.2 (Or.inl q)).1
        · exact (tk.2.2.2.2.2 (Or.inr q)).1
        · have := (tk.2.2.2.2.1 q).1; omega
      have hx : ¬ nI (600 - t) ≤ 0 := nI_ge (a := 0) (by omega) (by omega)
      have h30 : ¬ M 1 3 = 0 := by
        rw [h3]; exact fun z => hk ((nI_eq (b := 0) (by omega) (by omega)).mp z)
      have g180 : ¬ Mm 136 18 = 0 := by
        rw [g18]; exact fun z => hk (by have := (nI_eq (b := 0) (by omega) (by omega)).mp z; omega)
      have hpred : nI (600 - t) + (-1) = nI (600 - (t + 1)) := by
        rw [show 600 - t = (600 - (t + 1)) + 1 by omega, ← nI_1]
        generalize nI (600 - (t + 1)) = z
        apply Int32.toBitVec_inj.mp
        simp only [Int32.toBitVec_add]
        rw [BitVec.add_assoc]
        show z.toBitVec + 0 = _
        simp
      obtain ⟨M1, Mm1, x1, x2, x3, x4, x5, x6⟩ := l_line h hm g
      have h1 := x3.kc h
      have hm1 := x4.kc hm
      have e1 : lf_X8_read_19 st_S 120 (q + 2) (nI (600 - t)) M = lf_X8_read_19 st_S 120 (q + 1) (nI (600 - (t + 1))) M1 := by
        obtain ⟨Ml, hl, fl⟩ := c_line h hm g
        rw [hl, b1_s] at x1
        have kl : Ml 120 0 = 1 := kc_120_0 (fl.kc h)
        rw [lf_X8_read_19]
        simp only [if_neg hx, gO_120, gd_tt, kc_120_0 h, gN_1, tn_1, gO_1, h7, if_true, if_neg h30, hl, b1_s, kl, x1, hpred]
      have e2 : lf_X10_desk_35 st_S 136 (q2 + 2) Mm = lf_X10_desk_35 st_S 136 (q2 + 1) Mm1 := by
        rw [lf_X10_desk_35]
        simp only [gO_136, gd_tt, g21, if_true, if_neg g180, x2, b1_s]
      rw [e1, e2]
      rcases x6 with ⟨s', e', k', P', L', N', g', hs'⟩ | tb
      · have := g'.1.2.2.1
        have := g'.1.2.2.2.1
        obtain ⟨M2, Mm2, y1, y2, y3, y4, y5, y6⟩ := ih (n - s') (by omega) M1 Mm1 s' e' k' P' L' N' (t + 1) (q + 1) (q2 + 1) h1 hm1 g' rfl (by omega) (by omega) (by omega)
        exact ⟨M2, Mm2, y1, y2, x3.tr y3, x4.tr y4, y5, y6⟩
      · refine ⟨M1, Mm1, ?_, ?_, x3, x4, x5, Or.inr tb⟩
        · rw [lf_X8_read_19]
          simp only [gO_120, gd_tt, kc_120_0 h1, gN_1, tn_1, gO_1, if_neg tb.c, ite_self]
        · rw [lf_X10_desk_35]
          simp only [gO_136, gd_tt, if_neg tb.m]
end RD
