/-! ===== ask: facts, both sides ===== -/
theorem mask_lo : ∀ N, N ≤ 10 → ∀ i, i < 32 → bt (((1 : Int32) <<< (nI N &&& 31)) - 1) i = decide (i < N) := by decide +kernel
theorem mask_bt {N i : Nat} (hN : N ≤ 10) : bt (((1 : Int32) <<< (nI N &&& 31)) - 1) i = decide (i < N) := by
  by_cases h : i < 32
  · exact mask_lo N hN i h
  · rw [b_big (by omega), decide_eq_false (by omega)]
theorem TG.s24 {M Mm : fw_Mem} {B : Nat → Nat} {n s e k : Nat} (t : TG M Mm B n s e k) (v : Int32) : TG M (fw_set Mm 136 24 v) B n s e k := by
  obtain ⟨c, ⟨m1, m2, m3, m4, m5, m6, m7, m8⟩, tk⟩ := t
  refine ⟨c, ⟨m1, fun i hi => by rw [set_na _ _ _ _ (by decide)]; exact m2 i hi, ?_, ?_, ?_, ?_, ?_, ?_⟩, tk⟩ <;> rw [set_nk _ _ _ _ (by decide)] <;> assumption
theorem TB.s24 {M Mm : fw_Mem} (t : TB M Mm) (v : Int32) : TB M (fw_set Mm 136 24 v) := t.fr rfl rfl (set_nk _ _ _ _ (by decide)) (set_nk _ _ _ _ (by decide))
abbrev QX := List fw_Sh → fw_Mem → Nat → Int32 → Option (Int32 × fw_Mem)
abbrev PX := List fw_Sh → fw_Mem → Nat → Option (Int32 × fw_Mem)
/-- at o open brackets class (q) and model (p) read alike -/
def OKA (B : Nat → Nat) (n N : Nat) (T : Nat → Nat → Int32) (a : Int32) (o : Nat) (q : QX) (p : PX) : Prop := ∀ M Mm s e k, KC M → KC Mm → CE M N T → ME Mm N T a → TG M Mm B n s e k → Mm 136 24 = nI o → AR M Mm B n e N a (q st_S M 127 (nI o)) (p st_S Mm 136)
def BDA (p : PX) : Prop := ∀ M Mm, TB M Mm → p st_S Mm 136 = some (0, Mm)
section FB
variable {M Mm : fw_Mem} {B : Nat → Nat} {n s e k N o : Nat} {T : Nat → Nat → Int32} {a : Int32} {q0 q1 q2 : QX} {p0 p1 p2 : PX}
theorem m_in (hm : KC Mm) (h21 : Mm 136 21 = 0) (h24 : Mm 136 24 = nI o) (ho : o < 6) : f_X10_goesIn st_S Mm 136 = f_X10_pass st_S (fw_set Mm 136 24 (nI (o + 1))) 136 := by
  have hn : ¬ nI o = (6 : Int32) := fun q => absurd ((nI_eq (b := 6) (by omega) (by omega)).mp q) (by omega)
  simp only [f_X10_goesIn, gO_136, gd_tt, h21, if_true, h24, if_neg hn, bm_s, nI_1]
  cases f_X10_pass st_S (fw_set Mm 136 24 (nI (o + 1))) 136 <;> rfl
theorem t_fact (hN : N ≤ 10) (ho : o ≤ 6) (i2 : o < 6 → OKA B n N T a (o + 1) q2 p2) (i0 : o < 6 → OKA B n N T a (o + 1) q0 p0) (j2 : BDA p2) (j0 : BDA p0) : OKA B n N T a o (f_X1_factHolds q0 q1 q2) (f_X10_readFact p0 p1 p2) := by
  intro M Mm s e k h hm ce me t h24
  obtain ⟨c, mt, tk⟩ := id t
  have h7 : M 1 7 = 0 := c.2.2.2.2.2.2.1
  have h21 : Mm 136 21 = 0 := mt.2.2.2.2.2.2.2
  have aw := c_word h c tk wd_20
  have as := c_sign h c tk sx_123
  have bw := m_word' hm mt tk wd_20
  have bs := m_sign hm mt tk 123
  have lt6 : o < 6 → nI o < (6 : Int32) := fun q => nI_lt (b := 6) q (by omega)
  have nlt6 : ¬ o < 6 → ¬ nI o < (6 : Int32) := fun q => by rw [show (6 : Int32) = nI 6 from rfl, nI_ltI (by omega) (by omega)]; exact q
  by_cases w0 : wIs B s e k 1000020 = 0
  · by_cases s0 : sIs B s k 123 = 0
    · have := t_cmp h hm ce hN me t w0 s0 p0 p1 p2
      obtain ⟨v, M', b, Mm', x1, x2⟩ := this
      refine ⟨v, M', b, Mm', ?_, x2⟩
      simp only [f_X1_factHolds, gO_127, gd_tt, kc_127_0 h, gN_1, tn_1, gO_1, aw, as, b1_s, h7, if_true, w0, s0, x1, b2_s]
    · by_cases ho6 : o < 6
      · have mi := m_in hm h21 h24 ho6
        obtain ⟨M1, Mm1, s1, e1, k1, y1, y2, y3, y4, y5, y6⟩ := t_adv h (MW.kc ((MW.rf Mm).st (nI (o + 1))) hm) (t.s24 (nI (o + 1)))
        have mw1 : MW Mm Mm1 := ((MW.rf Mm).st (nI (o + 1))).tr y4.u8.mw
        have k1' := y3.kc h
        obtain ⟨v, M2, b, Mm2, x1, x2, x3, x4, x5⟩ := i0 ho6 M1 Mm1 s1 e1 k1 k1' (mw1.kc hm) (ce.fr y3.f8.af) (me.fr mw1) y5 (by rw [y4.2 24 (by omega), set_eq])
        have k2 := x3.kc k1'
        have km2 := x4.kc (mw1.kc hm)
        have hcl : f_X1_factHolds q0 q1 q2 st_S M 127 (nI o) = b1 (f_X7_passSign st_S M2 1 125) (fun M53 => some (v, M53)) := by
          simp only [f_X1_factHolds, gO_127, gd_tt, kc_127_0 h, gN_1, tn_1, gO_1, aw, as, b1_s, h7, if_true, w0, if_neg s0, if_pos (lt6 ho6), y1, nI_1, x1, b2_s, kc_127_0 k2]
        have hmo : f_X10_readFact p0 p1 p2 st_S Mm 136 = b1 (f_X10_must st_S Mm2 136 125) (fun M34 => some (bI b, fw_set M34 136 24 (M34 136 24 - 1))) := by
          simp only [f_X10_readFact, gO_136, gd_tt, bw, w0, b1_s, if_true, bs, if_neg s0, mi, y2, x2, b2_s, bI_gB, bm_s]
        rcases x5 with ⟨s2, e2, k2', g1, g2, g3, g4, g5⟩ | tb
        · obtain ⟨M3, Mm3, z1, z2, z3, z4, z5⟩ := t_must k2 km2 g1
          have e24 : Mm3 136 24 - 1 = nI o := by
            rw [z4.2 24 (by omega), g3, y4.2 24 (by omega), set_eq]; exact nI_pred o
          refine ⟨v, M3, b, fw_set Mm3 136 24 (Mm3 136 24 - 1), by rw [hcl, z1, b1_s], by rw [hmo, z2, b1_s], y3.f8.af.tr (x3.tr z3.af), (mw1.tr (x4.tr z4.mw)).st _, ?_⟩
          rcases z5 with ⟨s3, e3, k3, u1, u2⟩ | tb
          · refine Or.inl ⟨s3, e3, k3, u1.s24 _, ?_, by rw [set_eq, e24, h24], g4, g5⟩
            have := y5.2.2.1
            have := g1.2.2.1
            omega
          · exact Or.inr (tb.s24 _)
        · obtain ⟨z1, z2⟩ := bt_must k2 tb
          exact ⟨v, M2, b, fw_set Mm2 136 24 (Mm2 136 24 - 1), by rw [hcl, z1, b1_s], by rw [hmo, z2, b1_s], y3.f8.af.tr x3, (mw1.tr x4).st _, Or.inr (tb.s24 _)⟩
      · obtain ⟨M', Mm', y1, y2, y3, y4, y5⟩ := t_fail t (f := 3) (by omega)
        rw [show nI 3 = (3 : Int32) from rfl] at y1 y2
        have o6 : nI o = 6 := by rw [show o = 6 by omega]; rfl
        have tb := y5.s24 (Mm' 136 24 + 1)
        have jj := j0 _ _ tb
        refine ⟨0, M', false, fw_set (fw_set Mm' 136 24 (Mm' 136 24 + 1)) 136 24 (fw_set Mm' 136 24 (Mm' 136 24 + 1) 136 24 - 1), ?_, ?_, y3.af, (y4.mw.st _).st _, Or.inr (tb.s24 _)⟩
        · simp only [f_X1_factHolds, gO_127, gd_tt, kc_127_0 h, gN_1, tn_1, gO_1, aw, as, b1_s, h7, if_true, w0, if_neg s0, if_neg (nlt6 ho6), y1, fj_X1_factHolds_52, kc_127_0 (y3.kc h), if_neg y5.c]
        · have gi : f_X10_goesIn st_S Mm 136 = some (fw_set Mm' 136 24 (Mm' 136 24 + 1)) := by
            simp only [f_X10_goesIn, gO_136, gd_tt, h21, if_true, h24, o6, y2, b1_s, fj_X10_goesIn_21, bm_s, b_pass tb]
          simp only [f_X10_readFact, gO_136, gd_tt, bw, w0, b1_s, if_true, bs, if_neg s0, gi, jj, b2_s, (bt_must (y3.kc h) tb).2, bm_s, show gB (0 : Int32) = true from rfl, bI_f]
  · by_cases ho6 : o < 6
    · have mi := m_in hm h21 h24 ho6
      obtain ⟨M1, Mm1, s1, e1, k1, y1, y2, y3, y4, y5, y6⟩ := t_adv h (MW.kc ((MW.rf Mm).st (nI (o + 1))) hm) (t.s24 (nI (o + 1)))
      have mw1 : MW Mm Mm1 := ((MW.rf Mm).st (nI (o + 1))).tr y4.u8.mw
      have k1' := y3.kc h
      have ce1 := ce.fr y3.f8.af
      obtain ⟨v, M2, b, Mm2, x1, x2, x3, x4, x5⟩ := i2 ho6 M1 Mm1 s1 e1 k1 k1' (mw1.kc hm) ce1 (me.fr mw1) y5 (by rw [y4.2 24 (by omega), set_eq])
      have ce2 := ce1.fr x3
      have hcl : f_X1_factHolds q0 q1 q2 st_S M 127 (nI o) = some ((v ^^^ (-1)) &&& (((1 : Int32) <<< (nI N &&& 31)) - 1), M2) := by
        by_cases s0 : sIs B s k 123 = 0
        · simp only [f_X1_factHolds, gO_127, gd_tt, kc_127_0 h, gN_1, tn_1, gO_1, aw, as, b1_s, h7, if_true, if_neg w0, s0, if_pos (lt6 ho6), y1, nI_1, x1, b2_s, ce2.1]
        · simp only [f_X1_factHolds, gO_127, gd_tt, kc_127_0 h, gN_1, tn_1, gO_1, aw, as, b1_s, h7, if_true, if_neg w0, if_neg s0, if_pos (lt6 ho6), y1, nI_1, x1, b2_s, ce2.1]
      have hmo : f_X10_readFact p0 p1 p2 st_S Mm 136 = some (bI (!b), fw_set Mm2 136 24 (Mm2 136 24 - 1)) := by
        simp only [f_X10_readFact, gO_136, gd_tt, bw, b1_s, if_neg w0, mi, y2, x2, b2_s, bm_s, bI_0]
        cases b <;> rfl
      refine ⟨_, M2, !b, _, hcl, hmo, y3.f8.af.tr x3, (mw1.tr x4).st _, ?_⟩
      rcases x5 with ⟨s2, e2, k2', g1, g2, g3, g4, g5⟩ | tb
      · refine Or.inl ⟨s2, e2, k2', g1.s24 _, ?_, ?_, fun i hi => ?_, fun i hi ha => ?_⟩
        · have := y5.2.2.1; omega
        · rw [set_eq, g3, y4.2 24 (by omega), set_eq, h24]; exact nI_pred o
        · rw [b_and, mask_bt hN, decide_eq_false (by omega), Bool.and_false]
        · rw [b_and, mask_bt hN, decide_eq_true hi, Bool.and_true, b_not _ (by omega), g5 i hi ha]
      · exact Or.inr (tb.s24 _)
    · obtain ⟨M', Mm', y1, y2, y3, y4, y5⟩ := t_fail t (f := 3) (by omega)
      rw [show nI 3 = (3 : Int32) from rfl] at y1 y2
      have o6 : nI o = 6 := by rw [show o = 6 by omega]; rfl
      have tb := y5.s24 (Mm' 136 24 + 1)
      have jj := j2 _ _ tb
      refine ⟨0, M', true, fw_set (fw_set Mm' 136 24 (Mm' 136 24 + 1)) 136 24 (fw_set Mm' 136 24 (Mm' 136 24 + 1) 136 24 - 1), ?_, ?_, y3.af, (y4.mw.st _).st _, Or.inr (tb.s24 _)⟩
      · by_cases s0 : sIs B s k 123 = 0
        · simp only [f_X1_factHolds, gO_127, gd_tt, kc_127_0 h, gN_1, tn_1, gO_1, aw, as, b1_s, h7, if_true, if_neg w0, s0, if_neg (nlt6 ho6), y1, fj_X1_factHolds_52, kc_127_0 (y3.kc h), if_neg y5.c]
        · simp only [f_X1_factHolds, gO_127, gd_tt, kc_127_0 h, gN_1, tn_1, gO_1, aw, as, b1_s, h7, if_true, if_neg w0, if_neg s0, if_neg (nlt6 ho6), y1, fj_X1_factHolds_52, kc_127_0 (y3.kc h), if_neg y5.c]
      · have gi : f_X10_goesIn st_S Mm 136 = some (fw_set Mm' 136 24 (Mm' 136 24 + 1)) := by
          simp only [f_X10_goesIn, gO_136, gd_tt, h21, if_true, h24, o6, y2, b1_s, fj_X10_goesIn_21, bm_s, b_pass tb]
        simp only [f_X10_readFact, gO_136, gd_tt, bw, b1_s, if_neg w0, if_true, gi, jj, b2_s, bm_s, bI_t]
/-- a word that is there: the token is a row of letters -/
theorem wIs_2 (q : ¬ wIs B s e k o = 0) : k = 2 := Decidable.byContradiction fun hk => q (wIs_k hk o)
theorem lp_all (hN : N ≤ 10) (hn : n ≤ 200) (i2 : OKA B n N T a o q2 p2) : ∀ d M Mm s e k v b f1 f2 tn, n - s ≤ d → d ≤ tn → tn ≤ 200 → d < f1 → d < f2 → KC M → KC Mm → CE M N T → ME Mm N T a → TG M Mm B n s e k → Mm 136 24 = nI o → (∀ i, N ≤ i → bt v i = false) → (∀ i, i < N → a = nI i → bt v i = b) →
    AR M Mm B n s N a (lf_X1_allHold_10 q0 q1 q2 st_S 127 (nI o) f1 v (nI tn) M) (lf_X10_readBoth_5 p0 p1 p2 st_S 136 f2 (bI b) Mm) := by
  intro d
  induction d with
  | zero =>
    intro M Mm s e k v b f1 f2 tn hd ht ht2 hf1 hf2 h hm ce me t h24 v1 v2
    obtain ⟨f1, rfl⟩ : ∃ j, f1 = j + 1 := ⟨f1 - 1, by omega⟩
    obtain ⟨f2, rfl⟩ : ∃ j, f2 = j + 1 := ⟨f2 - 1, by omega⟩
    obtain ⟨c, mt, tk⟩ := id t
    have h7 : M 1 7 = 0 := c.2.2.2.2.2.2.1
    have hk : k ≠ 2 := fun q => by have := (tk.2.2.2.2.2 (Or.inl q)).1; have := tk.2.1; omega
    have w0 : wIs B s e k 1000001 = 0 := wIs_k hk _
    refine ⟨v, M, b, Mm, ?_, ?_, AF.rf M, MW.rf Mm, Or.inl ⟨s, e, k, t, Nat.le_refl s, rfl, v1, v2⟩⟩
    · by_cases q : nI tn ≤ 0
      · rw [lf_X1_allHold_10, if_pos q]
      · simp only [lf_X1_allHold_10, if_neg q, gO_127, gd_tt, kc_127_0 h, gN_1, tn_1, gO_1, h7, if_true, c_word h c tk wd_1, b1_s, w0]
    · simp only [lf_X10_readBoth_5, gO_136, gd_tt, m_word' hm mt tk wd_1, b1_s, w0, if_true]
  | succ d ih =>
    intro M Mm s e k v b f1 f2 tn hd ht ht2 hf1 hf2 h hm ce me t h24 v1 v2
    obtain ⟨f1, rfl⟩ : ∃ j, f1 = j + 1 := ⟨f1 - 1, by omega⟩
    obtain ⟨f2, rfl⟩ : ∃ j, f2 = j + 1 := ⟨f2 - 1, by omega⟩
    obtain ⟨c, mt, tk⟩ := id t
    have h7 : M 1 7 = 0 := c.2.2.2.2.2.2.1
    have q : ¬ nI tn ≤ 0 := nI_ge (a := 0) (by omega) (by omega)
    by_cases w0 : wIs B s e k 1000001 = 0
    · refine ⟨v, M, b, Mm, ?_, ?_, AF.rf M, MW.rf Mm, Or.inl ⟨s, e, k, t, Nat.le_refl s, rfl, v1, v2⟩⟩
      · simp only [lf_X1_allHold_10, if_neg q, gO_127, gd_tt, kc_127_0 h, gN_1, tn_1, gO_1, h7, if_true, c_word h c tk wd_1, b1_s, w0]
      · simp only [lf_X10_readBoth_5, gO_136, gd_tt, m_word' hm mt tk wd_1, b1_s, w0, if_true]
    · have hk := wIs_2 w0
      have hse := (tk.2.2.2.2.2 (Or.inl hk)).1
      have hen := tk.2.1
      obtain ⟨M1, Mm1, s1, e1, k1, y1, y2, y3, y4, y5, y6⟩ := t_adv h hm t
      have k1' := y3.kc h
      have km1 := y4.kc hm
      have ce1 := ce.fr y3.f8.af
      have me1 := me.fr y4.u8.mw
      obtain ⟨v', M2, b', Mm2, x1, x2, x3, x4, x5⟩ := i2 M1 Mm1 s1 e1 k1 k1' km1 ce1 me1 y5 (by rw [y4.2 24 (by omega)]; exact h24)
      have hcl : lf_X1_allHold_10 q0 q1 q2 st_S 127 (nI o) (f1 + 1) v (nI tn) M = lf_X1_allHold_10 q0 q1 q2 st_S 127 (nI o) f1 (v &&& v') (nI (tn - 1)) M2 := by
        have e1 : nI tn + (-1) = nI (tn - 1) := by
          obtain ⟨m, rfl⟩ : ∃ m, tn = m + 1 := ⟨tn - 1, by omega⟩
          rw [← Int32.sub_eq_add_neg]; exact nI_pred m
        rw [lf_X1_allHold_10]
        simp only [if_neg q, gO_127, gd_tt, kc_127_0 h, gN_1, tn_1, gO_1, h7, if_true, c_word h c tk wd_1, b1_s, if_neg w0, y1, x1, b2_s, e1]
      have hmo : lf_X10_readBoth_5 p0 p1 p2 st_S 136 (f2 + 1) (bI b) Mm = lf_X10_readBoth_5 p0 p1 p2 st_S 136 f2 (bI (b && b')) Mm2 := by
        rw [lf_X10_readBoth_5]
        simp only [gO_136, gd_tt, m_word' hm mt tk wd_1, b1_s, if_neg w0, y2, x2, b2_s, bI_0]
        cases b <;> cases b' <;> rfl
      rw [hcl, hmo]
      rcases x5 with ⟨s2, e2, k2, g1, g2, g3, g4, g5⟩ | tb
      · have hs1 := y5.2.2.1
        obtain ⟨vv, M3, bb', Mm3, z1, z2, z3, z4, z5⟩ := ih M2 Mm2 s2 e2 k2 (v &&& v') (b && b') f1 f2 (tn - 1) (by omega) (by omega) (by omega) (by omega) (by omega) (x3.kc k1') (x4.kc km1) (ce1.fr x3) (me1.fr x4) g1 (by rw [g3, y4.2 24 (by omega)]; exact h24) (fun i hi => by rw [b_and, v1 i hi]; rfl) (fun i hi ha => by rw [b_and, v2 i hi ha, g5 i hi ha])
        refine ⟨vv, M3, bb', Mm3, z1, z2, y3.f8.af.tr (x3.tr z3), y4.u8.mw.tr (x4.tr z4), ?_⟩
        rcases z5 with ⟨s3, e3, k3, u1, u2, u3, u4⟩ | tb
        · exact Or.inl ⟨s3, e3, k3, u1, by omega, by rw [u3, g3, y4.2 24 (by omega)], u4⟩
        · exact Or.inr tb
      · obtain ⟨f1, rfl⟩ : ∃ j, f1 = j + 1 := ⟨f1 - 1, by omega⟩
        obtain ⟨f2, rfl⟩ : ∃ j, f2 = j + 1 := ⟨f2 - 1, by omega⟩
        refine ⟨v &&& v', M2, b && b', Mm2, ?_, ?_, y3.f8.af.tr x3, y4.u8.mw.tr x4, Or.inr tb⟩
        · by_cases q' : nI (tn - 1) ≤ 0
          · rw [lf_X1_allHold_10, if_pos q']
          · simp only [lf_X1_allHold_10, if_neg q', gO_127, gd_tt, kc_127_0 (x3.kc k1'), gN_1, tn_1, gO_1, if_neg tb.c]
        · simp only [lf_X10_readBoth_5, gO_136, gd_tt, b_word tb, b1_s, if_true]
theorem t_both (hN : N ≤ 10) (hn : n ≤ 200) (i2 : OKA B n N T a o q2 p2) : OKA B n N T a o (f_X1_allHold q0 q1 q2) (f_X10_readBoth p0 p1 p2) := by
  intro M Mm s e k h hm ce me t h24
  obtain ⟨v, M1, b, Mm1, x1, x2, x3, x4, x5⟩ := i2 M Mm s e k h hm ce me t h24
  rcases x5 with ⟨s2, e2, k2, g1, g2, g3, g4, g5⟩ | tb
  · obtain ⟨vv, M3, bb', Mm3, z1, z2, z3, z4, z5⟩ := lp_all (q0 := q0) (q1 := q1) (p0 := p0) (p1 := p1) hN hn i2 200 M1 Mm1 s2 e2 k2 v b 20000 20000 200 (by omega) (by omega) (by omega) (by omega) (by omega) (x3.kc h) (x4.kc hm) (ce.fr x3) (me.fr x4) g1 (by rw [g3]; exact h24) g4 g5
    refine ⟨vv, M3, bb', Mm3, ?_, ?_, x3.tr z3, x4.tr z4, ?_⟩
    · have z1' : lf_X1_allHold_10 q0 q1 q2 st_S 127 (nI o) 20000 v 200 M1 = some (vv, M3) := z1
      simp only [f_X1_allHold, gO_127, gd_tt, x1, b2_s, z1', b1_s]
    · simp only [f_X10_readBoth, gO_136, gd_tt, x2, b2_s, z2, b1_s, bI_gB]
    · rcases z5 with ⟨s3, e3, k3, u1, u2, u3, u4⟩ | tb
      · exact Or.inl ⟨s3, e3, k3, u1, by omega, by rw [u3, g3], u4⟩
      · exact Or.inr tb
  · refine ⟨v, M1, b, Mm1, ?_, ?_, x3, x4, Or.inr tb⟩
    · have this : ∀ f, lf_X1_allHold_10 q0 q1 q2 st_S 127 (nI o) (f + 1) v 200 M1 = some (v, M1) := fun f => by
        simp only [lf_X1_allHold_10, if_neg (show ¬ (200 : Int32) ≤ 0 by decide), gO_127, gd_tt, kc_127_0 (x3.kc h), gN_1, tn_1, gO_1, if_neg tb.c]
      simp only [f_X1_allHold, gO_127, gd_tt, x1, b2_s, show lf_X1_allHold_10 q0 q1 q2 st_S 127 (nI o) 20000 v 200 M1 = some (v, M1) from this 19999, b1_s]
    · have this : ∀ f, lf_X10_readBoth_5 p0 p1 p2 st_S 136 (f + 1) (bI b) Mm1 = some (bI b, Mm1) := fun f => by
        simp only [lf_X10_readBoth_5, gO_136, gd_tt, b_word tb, b1_s, if_true]
      simp only [f_X10_readBoth, gO_136, gd_tt, x2, b2_s, show lf_X10_readBoth_5 p0 p1 p2 st_S 136 20000 (bI b) Mm1 = some (bI b, Mm1) from this 19999, b1_s, bI_gB]
theorem lp_any (hN : N ≤ 10) (hn : n ≤ 200) (i2 : OKA B n N T a o q1 p1) : ∀ d M Mm s e k v b f1 f2 tn, n - s ≤ d → d ≤ tn → tn ≤ 200 → d < f1 → d < f2 → KC M → KC Mm → CE M N T → ME Mm N T a → TG M Mm B n s e k → Mm 136 24 = nI o → (∀ i, N ≤ i → bt v i = false) → (∀ i, i < N → a = nI i → bt v i = b) →
    AR M Mm B n s N a (lf_X1_anyHolds_10 q0 q1 q2 st_S 127 (nI o) f1 v (nI tn) M) (lf_X10_readTest_5 p0 p1 p2 st_S 136 f2 (bI b) Mm) := by
  intro d
  induction d with
  | zero =>
    intro M Mm s e k v b f1 f2 tn hd ht ht2 hf1 hf2 h hm ce me t h24 v1 v2
    obtain ⟨f1, rfl⟩ : ∃ j, f1 = j + 1 := ⟨f1 - 1, by omega⟩
    obtain ⟨f2, rfl⟩ : ∃ j, f2 = j + 1 := ⟨f2 - 1, by omega⟩
    obtain ⟨c, mt, tk⟩ := id t
    have h7 : M 1 7 = 0 := c.2.2.2.2.2.2.1
    have hk : k ≠ 2 := fun q => by have := (tk.2.2.2.2.2 (Or.inl q)).1; have := tk.2.1; omega
    have w0 : wIs B s e k 1000022 = 0 := wIs_k hk _
    refine ⟨v, M, b, Mm, ?_, ?_, AF.rf M, MW.rf Mm, Or.inl ⟨s, e, k, t, Nat.le_refl s, rfl, v1, v2⟩⟩
    · by_cases q : nI tn ≤ 0
      · rw [lf_X1_anyHolds_10, if_pos q]
      · simp only [lf_X1_anyHolds_10, if_neg q, gO_127, gd_tt, kc_127_0 h, gN_1, tn_1, gO_1, h7, if_true, c_word h c tk wd_22, b1_s, w0]
    · simp only [lf_X10_readTest_5, gO_136, gd_tt, m_word' hm mt tk wd_22, b1_s, w0, if_true]
  | succ d ih =>
    intro M Mm s e k v b f1 f2 tn hd ht ht2 hf1 hf2 h hm ce me t h24 v1 v2
    obtain ⟨f1, rfl⟩ : ∃ j, f1 = j + 1 := ⟨f1 - 1, by omega⟩
    obtain ⟨f2, rfl⟩ : ∃ j, f2 = j + 1 := ⟨f2 - 1, by omega⟩
    obtain ⟨c, mt, tk⟩ := id t
    have h7 : M 1 7 = 0 := c.2.2.2.2.2.2.1
    have q : ¬ nI tn ≤ 0 := nI_ge (a := 0) (by omega) (by omega)
    by_cases w0 : wIs B s e k 1000022 = 0
    · refine ⟨v, M, b, Mm, ?_, ?_, AF.rf M, MW.rf Mm, Or.inl ⟨s, e, k, t, Nat.le_refl s, rfl, v1, v2⟩⟩
      · simp only [lf_X1_anyHolds_10, if_neg q, gO_127, gd_tt, kc_127_0 h, gN_1, tn_1, gO_1, h7, if_true, c_word h c tk wd_22, b1_s, w0]
      · simp only [lf_X10_readTest_5, gO_136, gd_tt, m_word' hm mt tk wd_22, b1_s, w0, if_true]
    · have hk := wIs_2 w0
      have hse := (tk.2.2.2.2.2 (Or.inl hk)).1
      have hen := tk.2.1
      obtain ⟨M1, Mm1, s1, e1, k1, y1, y2, y3, y4, y5, y6⟩ := t_adv h hm t
      have k1' := y3.kc h
      have km1 := y4.kc hm
      have ce1 := ce.fr y3.f8.af
      have me1 := me.fr y4.u8.mw
      obtain ⟨v', M2, b', Mm2, x1, x2, x3, x4, x5⟩ := i2 M1 Mm1 s1 e1 k1 k1' km1 ce1 me1 y5 (by rw [y4.2 24 (by omega)]; exact h24)
      have hcl : lf_X1_anyHolds_10 q0 q1 q2 st_S 127 (nI o) (f1 + 1) v (nI tn) M = lf_X1_anyHolds_10 q0 q1 q2 st_S 127 (nI o) f1 (v ||| v') (nI (tn - 1)) M2 := by
        have e1 : nI tn + (-1) = nI (tn - 1) := by
          obtain ⟨m, rfl⟩ : ∃ m, tn = m + 1 := ⟨tn - 1, by omega⟩
          rw [← Int32.sub_eq_add_neg]; exact nI_pred m
        rw [lf_X1_anyHolds_10]
        simp only [if_neg q, gO_127, gd_tt, kc_127_0 h, gN_1, tn_1, gO_1, h7, if_true, c_word h c tk wd_22, b1_s, if_neg w0, y1, x1, b2_s, e1]
      have hmo : lf_X10_readTest_5 p0 p1 p2 st_S 136 (f2 + 1) (bI b) Mm = lf_X10_readTest_5 p0 p1 p2 st_S 136 f2 (bI (b || b')) Mm2 := by
        rw [lf_X10_readTest_5]
        simp only [gO_136, gd_tt, m_word' hm mt tk wd_22, b1_s, if_neg w0, y2, x2, b2_s, bI_0]
        cases b <;> cases b' <;> rfl
      rw [hcl, hmo]
      rcases x5 with ⟨s2, e2, k2, g1, g2, g3, g4, g5⟩ | tb
      · have hs1 := y5.2.2.1
        obtain ⟨vv, M3, bb', Mm3, z1, z2, z3, z4, z5⟩ := ih M2 Mm2 s2 e2 k2 (v ||| v') (b || b') f1 f2 (tn - 1) (by omega) (by omega) (by omega) (by omega) (by omega) (x3.kc k1') (x4.kc km1) (ce1.fr x3) (me1.fr x4) g1 (by rw [g3, y4.2 24 (by omega)]; exact h24) (fun i hi => by rw [b_or, v1 i hi, g4 i hi]; rfl) (fun i hi ha => by rw [b_or, v2 i hi ha, g5 i hi ha])
        refine ⟨vv, M3, bb', Mm3, z1, z2, y3.f8.af.tr (x3.tr z3), y4.u8.mw.tr (x4.tr z4), ?_⟩
        rcases z5 with ⟨s3, e3, k3, u1, u2, u3, u4⟩ | tb
        · exact Or.inl ⟨s3, e3, k3, u1, by omega, by rw [u3, g3, y4.2 24 (by omega)], u4⟩
        · exact Or.inr tb
      · obtain ⟨f1, rfl⟩ : ∃ j, f1 = j + 1 := ⟨f1 - 1, by omega⟩
        obtain ⟨f2, rfl⟩ : ∃ j, f2 = j + 1 := ⟨f2 - 1, by omega⟩
        refine ⟨v ||| v', M2, b || b', Mm2, ?_, ?_, y3.f8.af.tr x3, y4.u8.mw.tr x4, Or.inr tb⟩
        · by_cases q' : nI (tn - 1) ≤ 0
          · rw [lf_X1_anyHolds_10, if_pos q']
          · simp only [lf_X1_anyHolds_10, if_neg q', gO_127, gd_tt, kc_127_0 (x3.kc k1'), gN_1, tn_1, gO_1, if_neg tb.c]
        · simp only [lf_X10_readTest_5, gO_136, gd_tt, b_word tb, b1_s, if_true]
theorem t_test (hN : N ≤ 10) (hn : n ≤ 200) (i2 : OKA B n N T a o q1 p1) : OKA B n N T a o (f_X1_anyHolds q0 q1 q2) (f_X10_readTest p0 p1 p2) := by
  intro M Mm s e k h hm ce me t h24
  obtain ⟨v, M1, b, Mm1, x1, x2, x3, x4, x5⟩ := i2 M Mm s e k h hm ce me t h24
  rcases x5 with ⟨s2, e2, k2, g1, g2, g3, g4, g5⟩ | tb
  · obtain ⟨vv, M3, bb', Mm3, z1, z2, z3, z4, z5⟩ := lp_any (q0 := q0) (q2 := q2) (p0 := p0) (p2 := p2) hN hn i2 200 M1 Mm1 s2 e2 k2 v b 20000 20000 200 (by omega) (by omega) (by omega) (by omega) (by omega) (x3.kc h) (x4.kc hm) (ce.fr x3) (me.fr x4) g1 (by rw [g3]; exact h24) g4 g5
    refine ⟨vv, M3, bb', Mm3, ?_, ?_, x3.tr z3, x4.tr z4, ?_⟩
    · have z1' : lf_X1_anyHolds_10 q0 q1 q2 st_S 127 (nI o) 20000 v 200 M1 = some (vv, M3) := z1
      simp only [f_X1_anyHolds, gO_127, gd_tt, x1, b2_s, z1', b1_s]
    · simp only [f_X10_readTest, gO_136, gd_tt, x2, b2_s, z2, b1_s, bI_gB]
    · rcases z5 with ⟨s3, e3, k3, u1, u2, u3, u4⟩ | tb
      · exact Or.inl ⟨s3, e3, k3, u1, by omega, by rw [u3, g3], u4⟩
      · exact Or.inr tb
  · refine ⟨v, M1, b, Mm1, ?_, ?_, x3, x4, Or.inr tb⟩
    · have this : ∀ f, lf_X1_anyHolds_10 q0 q1 q2 st_S 127 (nI o) (f + 1) v 200 M1 = some (v, M1) := fun f => by
        simp only [lf_X1_anyHolds_10, if_neg (show ¬ (200 : Int32) ≤ 0 by decide), gO_127, gd_tt, kc_127_0 (x3.kc h), gN_1, tn_1, gO_1, if_neg tb.c]
      simp only [f_X1_anyHolds, gO_127, gd_tt, x1, b2_s, show lf_X1_anyHolds_10 q0 q1 q2 st_S 127 (nI o) 20000 v 200 M1 = some (v, M1) from this 19999, b1_s]
    · have this : ∀ f, lf_X10_readTest_5 p0 p1 p2 st_S 136 (f + 1) (bI b) Mm1 = some (bI b, Mm1) := fun f => by
        simp only [lf_X10_readTest_5, gO_136, gd_tt, b_word tb, b1_s, if_true]
      simp only [f_X10_readTest, gO_136, gd_tt, x2, b2_s, show lf_X10_readTest_5 p0 p1 p2 st_S 136 20000 (bI b) Mm1 = some (bI b, Mm1) from this 19999, b1_s, bI_gB]
end FB
