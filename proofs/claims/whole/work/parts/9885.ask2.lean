/-! ===== ask: a fact ===== -/
def AR (M Mm : fw_Mem) (B : Nat → Nat) (n s N : Nat) (a : Int32) (o om : Option (Int32 × fw_Mem)) : Prop := ∃ v M' b Mm', o = some (v, M') ∧ om = some (bI b, Mm') ∧ AF M M' ∧ MW Mm Mm' ∧ ((∃ s' e' k', TG M' Mm' B n s' e' k' ∧ s ≤ s' ∧ Mm' 136 24 = Mm 136 24 ∧ (∀ i, N ≤ i → bt v i = false) ∧ ∀ i, i < N → a = nI i → bt v i = b) ∨ TB M' Mm')
theorem sx_60 : ∀ b, b < 256 → (sx b = 60 ↔ nI b = 60) := by decide +kernel
theorem sx_61 : ∀ b, b < 256 → (sx b = 61 ↔ nI b = 61) := by decide +kernel
theorem sx_62 : ∀ b, b < 256 → (sx b = 62 ↔ nI b = 62) := by decide +kernel
theorem sx_123 : ∀ b, b < 256 → (sx b = 123 ↔ nI b = 123) := by decide +kernel
theorem sx_125 : ∀ b, b < 256 → (sx b = 125 ↔ nI b = 125) := by decide +kernel
theorem sIs_ne {B : Nat → Nat} {s k : Nat} {x y : Int32} (h : x ≠ y) (hx : ¬ sIs B s k x = 0) : sIs B s k y = 0 := by
  unfold sIs at hx ⊢
  split at hx
  · split at hx
    · rename_i h1 h2
      rw [if_pos h1, if_neg (fun q => h (h2.symm.trans q))]
    · exact absurd rfl hx
  · exact absurd rfl hx
theorem sIs_1 {B : Nat → Nat} {s k : Nat} {x : Int32} (hx : ¬ sIs B s k x = 0) : sIs B s k x = 1 := by
  unfold sIs at hx ⊢
  by_cases h1 : k = 4
  · rw [if_pos h1] at hx ⊢
    by_cases h2 : nI (B s) = x
    · rw [if_pos h2]
    · rw [if_neg h2] at hx; exact absurd rfl hx
  · rw [if_neg h1] at hx; exact absurd rfl hx
theorem bI_if (c : Prop) [Decidable c] (m : fw_Mem) : (if c then (some (1, m) : Option (Int32 × fw_Mem)) else some (0, m)) = some (bI (decide c), m) := by by_cases h : c <;> simp [h, bI]
theorem bI_ifn (c : Prop) [Decidable c] (m : fw_Mem) : (if c then (some (0, m) : Option (Int32 × fw_Mem)) else some (1, m)) = some (bI (decide (¬ c)), m) := by by_cases h : c <;> simp [h, bI]
section FA
variable {M Mm : fw_Mem} {B : Nat → Nat} {n s e k N : Nat} {T : Nat → Nat → Int32} {a : Int32}
theorem t_cmp2 (h : KC M) (hm : KC Mm) (ce : CE M N T) (hN : N ≤ 10) (me : ME Mm N T a) (t : TG M Mm B n s e k) {u : Int32} (hu : ∀ i, i < N → a = nI i → M 129 i = u) (x1 x2 : Int32) {K : Int32 → fw_Mem → Option (Int32 × fw_Mem)} (hK : ∀ v m, K v m = some (bI (cnd x1 x2 u v), m)) : AR M Mm B n e N a (b1 (f_X7_advance st_S M 1) (fun M9 => gd (gN (M9 127 3)) (b1 (f_X1_readValue st_S M9 127 ((M9 127 3).toNatClampNeg)) (fun M11 => b1 (lf_X1_compare_76 st_S M11 127 x1 x2 20000 0 0) (fun l65 => some (l65, M11)))))) (b1 (f_X10_pass st_S Mm 136) (fun M14 => b2 (f_X10_readValue st_S M14 136) K)) := by
  obtain ⟨M', Mm', s', e', k', y1, y2, y3, y4, y5, y6⟩ := t_adv h hm t
  have kM := y3.kc h
  have kMm := y4.kc hm
  have ce' := ce.fr y3.f8.af
  obtain ⟨M3, v, Mm3, z1, z2, z3, z4, z5⟩ := t_value kM kMm ce' hN (me.fr y4.u8.mw) y5 (Or.inr rfl)
  have af3 := z3.af (Or.inr rfl)
  have k3 := af3.kc kM
  have ce3 := ce'.fr af3
  refine ⟨mk (fun i => cnd x1 x2 (M3 129 i) (M3 130 i)) N, M3, cnd x1 x2 u v, Mm3, ?_, ?_, y3.f8.af.tr af3, y4.u8.mw.tr z4.mw, ?_⟩
  · simp only [y1, b1_s, kc_127_3 kM, gN_130, gd_tt, show (130 : Int32).toNatClampNeg = 130 by decide +kernel, z1, c_cmp k3 ce3 hN]
  · simp only [y2, b1_s, z2, b2_s, hK]
  · rcases z5 with ⟨s2, e2, k2, w1, w2, w3⟩ | tb
    · refine Or.inl ⟨s2, e2, k2, w1, ?_, ?_, fun i hi => ?_, fun i hi ha => ?_⟩
      · have := y5.2.2.1; omega
      · rw [z4.2 24 (by omega), y4.2 24 (by omega)]
      · rw [bt_mk _ N (by omega)]; simp; omega
      · rw [bt_mk _ N (by omega), decide_eq_true hi, Bool.true_and, w3 i hi ha, z3.1 129 (by decide) (by decide), y3.1 129 (by decide), hu i hi ha]
    · exact Or.inr tb
theorem t_cmp (h : KC M) (hm : KC Mm) (ce : CE M N T) (hN : N ≤ 10) (me : ME Mm N T a) (t : TG M Mm B n s e k) (w0 : wIs B s e k 1000020 = 0) (s0 : sIs B s k 123 = 0) (q0 q1 q2 : List fw_Sh → fw_Mem → Nat → Option (Int32 × fw_Mem)) : AR M Mm B n e N a (f_X1_compare st_S M 127) (f_X10_readFact q0 q1 q2 st_S Mm 136) := by
  obtain ⟨c, mt, tk⟩ := id t
  have mw := m_word' hm mt tk wd_20
  have ms := m_sign hm mt tk 123
  rw [w0] at mw
  rw [s0] at ms
  obtain ⟨M3, u, Mm6, z1, z2, z3, z4, z5⟩ := t_value h hm ce hN me t (Or.inl rfl)
  have af3 := z3.af (Or.inl rfl)
  have k3 := af3.kc h
  have k6 := z4.kc hm
  have ce3 := ce.fr af3
  have me6 := me.fr z4.mw
  have tr : ∀ {o om : Option (Int32 × fw_Mem)} {s1 : Nat}, e ≤ s1 → AR M3 Mm6 B n s1 N a o om → AR M Mm B n e N a o om := fun {o om s1} hs ⟨v, M', b, Mm', x1, x2, x3, x4, x5⟩ => ⟨v, M', b, Mm', x1, x2, af3.tr x3, z4.mw.tr x4, by
    rcases x5 with ⟨s', e', k', y1, y2, y3, y4⟩ | y
    · exact Or.inl ⟨s', e', k', y1, by omega, by rw [y3, z4.2 24 (by omega)], y4⟩
    · exact Or.inr y⟩
  have t129 : (129 : Int32).toNatClampNeg = 129 := tn_129
  have mb : f_X10_readFact q0 q1 q2 st_S Mm 136 = b1 (f_X10_isSign st_S Mm6 136 60) (fun v7 => if v7 = 0 then (b1 (f_X10_isSign st_S Mm6 136 61) (fun v9 => if v9 = 0 then (b1 (f_X10_isSign st_S Mm6 136 62) (fun v11 => if v11 = 0 then fj_X10_readFact_120 q0 q1 q2 st_S Mm6 136 u 2 else fj_X10_readFact_120 q0 q1 q2 st_S Mm6 136 u 1)) else fj_X10_readFact_120 q0 q1 q2 st_S Mm6 136 u 0)) else fj_X10_readFact_120 q0 q1 q2 st_S Mm6 136 u (-1)) := by
    unfold f_X10_readFact
    rw [gd_h gO_136, mw, b1_s, if_pos rfl, ms, b1_s, if_pos rfl, z2, b2_s]
  rcases z5 with ⟨s1, e1, k1, g1, g2, g3⟩ | tb
  · obtain ⟨c1, m1, tk1⟩ := id g1
    have he1 := tk1.1
    have a60 := c_sign k3 c1 tk1 sx_60
    have a61 := c_sign k3 c1 tk1 sx_61
    have a62 := c_sign k3 c1 tk1 sx_62
    have b60 := m_sign k6 m1 tk1 60
    have b61 := m_sign k6 m1 tk1 61
    have b62 := m_sign k6 m1 tk1 62
    have cmpc : f_X1_compare st_S M 127 = b1 (f_X7_isSign st_S M3 1 60) (fun v5 => b1 (f_X7_isSign st_S M3 1 62) (fun v7 => if v5 = 0 then (if v7 = 0 then (b1 (f_X7_isSign st_S M3 1 61) (fun v71 => if v71 = 0 then (b1 (f_X7_fail st_S M3 1 1) (fun M77 => fj_X1_compare_56 st_S M77 127 v5 v7)) else (b1 (f_X7_advance st_S M3 1) (fun M73 => gd (gN (M73 127 3)) (b1 (f_X1_readValue st_S M73 127 ((M73 127 3).toNatClampNeg)) (fun M75 => b1 (lf_X1_compare_76 st_S M75 127 v5 v7 20000 0 0) (fun l76 => some (l76, M75)))))))) else (b1 (f_X7_advance st_S M3 1) (fun M67 => gd (gN (M67 127 3)) (b1 (f_X1_readValue st_S M67 127 ((M67 127 3).toNatClampNeg)) (fun M69 => b1 (lf_X1_compare_76 st_S M69 127 v5 v7 20000 0 0) (fun l70 => some (l70, M69))))))) else (b1 (f_X7_advance st_S M3 1) (fun M9 => gd (gN (M9 127 3)) (b1 (f_X1_readValue st_S M9 127 ((M9 127 3).toNatClampNeg)) (fun M11 => b1 (lf_X1_compare_76 st_S M11 127 v5 v7 20000 0 0) (fun l65 => some (l65, M11)))))))) := by
      unfold f_X1_compare
      rw [gd_h gO_127, kc_127_2 h, gd_h gN_129, t129, z1, b1_s, kc_127_0 k3, gd_h gN_1, tn_1, gd_h gO_1]
    have go : ∀ (x1 x2 : Int32) (K : Int32 → fw_Mem → Option (Int32 × fw_Mem)), (∀ v m, K v m = some (bI (cnd x1 x2 u v), m)) → _ := fun x1 x2 K hK => tr (by omega) (t_cmp2 k3 k6 ce3 hN me6 g1 g3 x1 x2 hK)
    by_cases h60 : sIs B s1 k1 60 = 0
    · by_cases h61 : sIs B s1 k1 61 = 0
      · by_cases h62 : sIs B s1 k1 62 = 0
        · -- no sign
          obtain ⟨M77, Mm8, y1, y2, y3, y4, y5⟩ := t_fail g1 (f := 1) (by omega)
          rw [show nI 1 = (1 : Int32) from rfl] at y1 y2
          have k77 := y3.kc k3
          obtain ⟨M83, w1, w2, w3⟩ := b_value k77 (ce3.fr y3.af) hN y5 (Or.inr rfl)
          have af83 := w2.af (Or.inr rfl)
          refine ⟨mk (fun i => cnd 0 0 (M83 129 i) (M83 130 i)) N, M83, decide (¬ u ≤ 0), Mm8, ?_, ?_, af3.tr (y3.af.tr af83), z4.mw.tr y4.mw, Or.inr w3⟩
          · rw [cmpc, a60, b1_s, a62, b1_s, h60, if_pos rfl, h62, if_pos rfl, a61, b1_s, h61, if_pos rfl, y1, b1_s]
            simp only [fj_X1_compare_56, gO_127, gd_tt, kc_127_0 k77, gN_1, tn_1, gO_1, b_adv y5, b1_s, kc_127_3 k77, gN_130, show (130 : Int32).toNatClampNeg = 130 by decide +kernel, w1, c_cmp (af83.kc k77) ((ce3.fr y3.af).fr af83) hN]
          · rw [mb, b60, b1_s, h60, if_pos rfl, b61, b1_s, h61, if_pos rfl, b62, b1_s, h62, if_pos rfl]
            simp only [fj_X10_readFact_120, if_true, gO_136, gd_tt, y2, b1_s, fj_X10_readFact_131, b_pass y5, bm_value y5, b2_s, if_pos (show (0 : Int32) ≤ 2 by decide), if_neg (show ¬ (2 : Int32) = 0 by decide), bI_ifn]
        · have e62 : sIs B s1 k1 62 = 1 := sIs_1 h62
          have := go 0 1 (fun v16 M16 => if u ≤ v16 then (some (0, M16)) else (some (1, M16))) (fun v m => by simp only [bI_ifn, cnd, if_true, if_neg (show ¬ (1 : Int32) = 0 by decide)])
          rw [cmpc, a60, b1_s, a62, b1_s, h60, if_pos rfl, e62, if_neg (by decide), mb, b60, b1_s, h60, if_pos rfl, b61, b1_s, h61, if_pos rfl, b62, b1_s, e62, if_neg (by decide)]
          simp only [fj_X10_readFact_120, if_neg (show ¬ (1 : Int32) = 2 by decide), gO_136, gd_tt, if_pos (show (0 : Int32) ≤ 1 by decide), if_neg (show ¬ (1 : Int32) = 0 by decide)]
          exact this
      · have h62 := sIs_ne (show (61 : Int32) ≠ 62 by decide) h61
        have := go 0 0 (fun v16 M16 => if u = v16 then (some (1, M16)) else (some (0, M16))) (fun v m => by simp only [bI_if, cnd, if_true])
        rw [cmpc, a60, b1_s, a62, b1_s, h60, if_pos rfl, h62, if_pos rfl, a61, b1_s, if_neg h61, mb, b60, b1_s, h60, if_pos rfl, b61, b1_s, if_neg h61]
        simp only [fj_X10_readFact_120, if_neg (show ¬ (0 : Int32) = 2 by decide), gO_136, gd_tt, if_pos (show (0 : Int32) ≤ 0 by decide), if_true]
        exact this
    · have h62 := sIs_ne (show (60 : Int32) ≠ 62 by decide) h60
      have e60 : sIs B s1 k1 60 = 1 := sIs_1 h60
      have := go 1 0 (fun v16 M16 => if v16 ≤ u then (some (0, M16)) else (some (1, M16))) (fun v m => by
        simp only [bI_ifn, cnd, if_true, if_neg (show ¬ (1 : Int32) = 0 by decide)]
        by_cases q : u < v
        · simp [q, Int32.not_le.mpr q]
        · simp [q, Int32.not_lt.mp q])
      rw [cmpc, a60, b1_s, a62, b1_s, e60, if_neg (by decide), h62, mb, b60, b1_s, e60, if_neg (by decide)]
      simp only [fj_X10_readFact_120, if_neg (show ¬ (-1 : Int32) = 2 by decide), gO_136, gd_tt, if_neg (show ¬ (0 : Int32) ≤ -1 by decide)]
      exact this
  · -- the first value is wrong
    obtain ⟨v5, a60⟩ := b_csign k3 tb sx_60
    obtain ⟨v7, a62⟩ := b_csign k3 tb sx_62
    obtain ⟨v71, a61⟩ := b_csign k3 tb sx_61
    obtain ⟨M83, w1, w2, w3⟩ := b_value k3 ce3 hN tb (Or.inr rfl)
    have af83 := w2.af (Or.inr rfl)
    refine ⟨mk (fun i => cnd v5 v7 (M83 129 i) (M83 130 i)) N, M83, decide (¬ u ≤ 0), Mm6, ?_, ?_, af3.tr af83, z4.mw, Or.inr w3⟩
    · have cc := c_cmp (af83.kc k3) (ce3.fr af83) hN v5 v7
      have t130 : (130 : Int32).toNatClampNeg = 130 := by decide +kernel
      unfold f_X1_compare
      rw [gd_h gO_127, kc_127_2 h, gd_h gN_129, t129, z1, b1_s, kc_127_0 k3, gd_h gN_1, tn_1, gd_h gO_1, a60, b1_s, a62, b1_s]
      simp only [a61, b1_s, b_fail tb, fj_X1_compare_56, gO_127, gd_tt, kc_127_0 k3, gN_1, tn_1, gO_1, b_adv tb, kc_127_3 k3, gN_130, t130, w1, cc, ite_self]
    · rw [mb, b_sign tb, b1_s, if_pos rfl, b_sign tb, b1_s, if_pos rfl, b_sign tb, b1_s, if_pos rfl]
      simp only [fj_X10_readFact_120, if_true, gO_136, gd_tt, b_wrong tb, b1_s, fj_X10_readFact_131, b_pass tb, bm_value tb, b2_s, if_pos (show (0 : Int32) ≤ 2 by decide), if_neg (show ¬ (2 : Int32) = 0 by decide), bI_ifn]
theorem t_must (h : KC M) (hm : KC Mm) (t : TG M Mm B n s e k) : ∃ M' Mm', f_X7_passSign st_S M 1 125 = some M' ∧ f_X10_must st_S Mm 136 125 = some Mm' ∧ F8 M M' ∧ U8 Mm Mm' ∧ ((∃ s' e' k', TG M' Mm' B n s' e' k' ∧ e ≤ s') ∨ TB M' Mm') := by
  obtain ⟨c, mt, tk⟩ := id t
  have a1 := c_sign h c tk sx_125
  have b1' := m_sign hm mt tk 125
  by_cases hs : sIs B s k 125 = 0
  · obtain ⟨M', Mm', y1, y2, y3, y4, y5⟩ := t_fail t (f := 1) (by omega)
    rw [show nI 1 = (1 : Int32) from rfl] at y1 y2
    exact ⟨M', Mm', by simp only [f_X7_passSign, gO_1, gd_tt, a1, b1_s, hs, if_true, y1, b_adv y5], by simp only [f_X10_must, gO_136, gd_tt, b1', b1_s, hs, if_true, y2, b_pass y5], y3, y4, Or.inr y5⟩
  · obtain ⟨M', Mm', s', e', k', y1, y2, y3, y4, y5, y6⟩ := t_adv h hm t
    exact ⟨M', Mm', by simp only [f_X7_passSign, gO_1, gd_tt, a1, b1_s, if_neg hs, y1], by simp only [f_X10_must, gO_136, gd_tt, b1', b1_s, if_neg hs, y2], y3.f8, y4.u8, Or.inl ⟨s', e', k', y5, y6⟩⟩
theorem bt_must (h : KC M) (t : TB M Mm) : f_X7_passSign st_S M 1 125 = some M ∧ f_X10_must st_S Mm 136 125 = some Mm := by
  obtain ⟨v, hv⟩ := b_csign h t sx_125
  exact ⟨by simp only [f_X7_passSign, gO_1, gd_tt, hv, b1_s, b_fail t, b_adv t, ite_self], by simp only [f_X10_must, gO_136, gd_tt, b_sign t, b1_s, if_true, b_wrong t, b_pass t]⟩
end FA
