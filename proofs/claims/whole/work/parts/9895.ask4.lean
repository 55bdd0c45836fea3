/-! ===== ask: the question ===== -/
theorem rx1_0 (d : Nat) : rf_X1 (d + 1) 0 = f_X1_anyHolds (rf_X1 d 0) (rf_X1 d 1) (rf_X1 d 2) := rfl
theorem rx1_1 (d : Nat) : rf_X1 (d + 1) 1 = f_X1_allHold (rf_X1 d 0) (rf_X1 d 1) (rf_X1 d 2) := rfl
theorem rx1_2 (d : Nat) : rf_X1 (d + 1) 2 = f_X1_factHolds (rf_X1 d 0) (rf_X1 d 1) (rf_X1 d 2) := rfl
theorem rx10_0 (d : Nat) : rf_X10 (d + 1) 0 = f_X10_readTest (rf_X10 d 0) (rf_X10 d 1) (rf_X10 d 2) := rfl
theorem rx10_1 (d : Nat) : rf_X10 (d + 1) 1 = f_X10_readBoth (rf_X10 d 0) (rf_X10 d 1) (rf_X10 d 2) := rfl
theorem rx10_2 (d : Nat) : rf_X10 (d + 1) 2 = f_X10_readFact (rf_X10 d 0) (rf_X10 d 1) (rf_X10 d 2) := rfl
section FC
variable {M Mm : fw_Mem} {B : Nat → Nat} {n s e k N o : Nat} {T : Nat → Nat → Int32} {a : Int32} {q0 q1 q2 : QX} {p0 p1 p2 : PX}
theorem bd_fact : BDA (f_X10_readFact p0 p1 p2) := fun M Mm tb => by
  simp only [f_X10_readFact, gO_136, gd_tt, b_word tb, b1_s, if_true, b_sign tb, bm_value tb, b2_s, fj_X10_readFact_120, b_wrong tb, fj_X10_readFact_131, b_pass tb, if_pos (show (0 : Int32) ≤ 2 by decide), if_neg (show ¬ (2 : Int32) = 0 by decide), if_pos (show (0 : Int32) ≤ 0 by decide)]
theorem bd_both (h : BDA p2) : BDA (f_X10_readBoth p0 p1 p2) := fun M Mm tb => by
  have this : ∀ f, lf_X10_readBoth_5 p0 p1 p2 st_S 136 (f + 1) 0 Mm = some (0, Mm) := fun f => by
    simp only [lf_X10_readBoth_5, gO_136, gd_tt, b_word tb, b1_s, if_true]
  simp only [f_X10_readBoth, gO_136, gd_tt, h M Mm tb, b2_s, show lf_X10_readBoth_5 p0 p1 p2 st_S 136 20000 0 Mm = some (0, Mm) from this 19999, b1_s, show gB (0 : Int32) = true from rfl]
theorem bd_test (h : BDA p1) : BDA (f_X10_readTest p0 p1 p2) := fun M Mm tb => by
  have this : ∀ f, lf_X10_readTest_5 p0 p1 p2 st_S 136 (f + 1) 0 Mm = some (0, Mm) := fun f => by
    simp only [lf_X10_readTest_5, gO_136, gd_tt, b_word tb, b1_s, if_true]
  simp only [f_X10_readTest, gO_136, gd_tt, h M Mm tb, b2_s, show lf_X10_readTest_5 p0 p1 p2 st_S 136 20000 0 Mm = some (0, Mm) from this 19999, b1_s, show gB (0 : Int32) = true from rfl]
theorem bd_r2 {d : Nat} (h : 1 ≤ d) : BDA (rf_X10 d 2) := by
  obtain ⟨d, rfl⟩ : ∃ j, d = j + 1 := ⟨d - 1, by omega⟩
  rw [rx10_2]; exact bd_fact
theorem bd_r1 {d : Nat} (h : 2 ≤ d) : BDA (rf_X10 d 1) := by
  obtain ⟨d, rfl⟩ : ∃ j, d = j + 1 := ⟨d - 1, by omega⟩
  rw [rx10_1]; exact bd_both (bd_r2 (by omega))
theorem bd_r0 {d : Nat} (h : 3 ≤ d) : BDA (rf_X10 d 0) := by
  obtain ⟨d, rfl⟩ : ∃ j, d = j + 1 := ⟨d - 1, by omega⟩
  rw [rx10_0]; exact bd_test (bd_r1 (by omega))
/-- the class, when something is wrong -/
theorem bc_fact (h : KC M) (tb : TB M Mm) (x : Int32) : f_X1_factHolds q0 q1 q2 st_S M 127 x = some (0, M) := by
  obtain ⟨v, hv⟩ := b_cword h tb wd_20
  obtain ⟨u, hu⟩ := b_csign h tb sx_123
  simp only [f_X1_factHolds, gO_127, gd_tt, kc_127_0 h, gN_1, tn_1, gO_1, hv, hu, b1_s, if_neg tb.c]
theorem bc_test (h : KC M) (tb : TB M Mm) (x : Int32) : rf_X1 30 0 st_S M 127 x = some (0, M) := by
  have l1 : ∀ d f, lf_X1_allHold_10 (rf_X1 d 0) (rf_X1 d 1) (rf_X1 d 2) st_S 127 x (f + 1) 0 200 M = some (0, M) := fun d f => by
    simp only [lf_X1_allHold_10, if_neg (show ¬ (200 : Int32) ≤ 0 by decide), gO_127, gd_tt, kc_127_0 h, gN_1, tn_1, gO_1, if_neg tb.c]
  have l2 : ∀ d f, lf_X1_anyHolds_10 (rf_X1 d 0) (rf_X1 d 1) (rf_X1 d 2) st_S 127 x (f + 1) 0 200 M = some (0, M) := fun d f => by
    simp only [lf_X1_anyHolds_10, if_neg (show ¬ (200 : Int32) ≤ 0 by decide), gO_127, gd_tt, kc_127_0 h, gN_1, tn_1, gO_1, if_neg tb.c]
  have e2 : rf_X1 28 2 st_S M 127 x = some (0, M) := by rw [rx1_2]; exact bc_fact h tb x
  have e1 : rf_X1 29 1 st_S M 127 x = some (0, M) := by
    rw [rx1_1]
    simp only [f_X1_allHold, gO_127, gd_tt, e2, b2_s, show lf_X1_allHold_10 (rf_X1 28 0) (rf_X1 28 1) (rf_X1 28 2) st_S 127 x 20000 0 200 M = some (0, M) from l1 28 19999, b1_s]
  rw [rx1_0]
  simp only [f_X1_anyHolds, gO_127, gd_tt, e1, b2_s, show lf_X1_anyHolds_10 (rf_X1 29 0) (rf_X1 29 1) (rf_X1 29 2) st_S 127 x 20000 0 200 M = some (0, M) from l2 29 19999, b1_s]
theorem t_rec (hN : N ≤ 10) (hn : n ≤ 200) : ∀ m o, o + m = 6 → ∀ d d', 3 * m + 4 ≤ d → 3 * m + 4 ≤ d' → OKA B n N T a o (rf_X1 d 2) (rf_X10 d' 2) := by
  intro m
  induction m with
  | zero =>
    intro o ho d d' hd hd'
    obtain ⟨d, rfl⟩ : ∃ j, d = j + 1 := ⟨d - 1, by omega⟩
    obtain ⟨d', rfl⟩ : ∃ j, d' = j + 1 := ⟨d' - 1, by omega⟩
    rw [rx1_2, rx10_2]
    exact t_fact hN (by omega) (fun q => absurd q (by omega)) (fun q => absurd q (by omega)) (bd_r2 (by omega)) (bd_r0 (by omega))
  | succ m ih =>
    intro o ho d d' hd hd'
    obtain ⟨d, rfl⟩ : ∃ j, d = j + 1 := ⟨d - 1, by omega⟩
    obtain ⟨d', rfl⟩ : ∃ j, d' = j + 1 := ⟨d' - 1, by omega⟩
    rw [rx1_2, rx10_2]
    refine t_fact hN (by omega) (fun _ => ih (o + 1) (by omega) d d' (by omega) (by omega)) (fun _ => ?_) (bd_r2 (by omega)) (bd_r0 (by omega))
    obtain ⟨d, rfl⟩ : ∃ j, d = j + 1 + 1 := ⟨d - 2, by omega⟩
    obtain ⟨d', rfl⟩ : ∃ j, d' = j + 1 + 1 := ⟨d' - 2, by omega⟩
    rw [rx1_0, rx10_0]
    refine t_test hN hn ?_
    rw [rx1_1, rx10_1]
    exact t_both hN hn (ih (o + 1) (by omega) d d' (by omega) (by omega))
theorem t_top (hN : N ≤ 10) (hn : n ≤ 200) : OKA B n N T a 0 (rf_X1 30 0) (rf_X10 30 0) := by
  rw [rx1_0 29, rx10_0 29]
  refine t_test hN hn ?_
  rw [rx1_1 28, rx10_1 28]
  exact t_both hN hn (t_rec hN hn 6 0 rfl 28 28 (by omega) (by omega))
/-- the class reads the question -/
def cQ (M : fw_Mem) : Option (Int32 × fw_Mem) := b1 (f_X7_isWord st_S M 1 1000015) (fun v7 => b1 (f_X7_isWord st_S M 1 1000009) (fun v27 => b1 (if v7 = 0 ∧ v27 = 0 then f_X7_fail st_S M 1 1 else some M) (fun M5 => b1 (f_X7_advance st_S M5 1) (fun M6 => b2 (rf_X1 30 0 st_S M6 127 0) (fun v M7 => if M7 1 3 = 0 then some (v, M7) else b1 (f_X7_fail st_S M7 1 1) (fun M8 => some (v, M8)))))))
theorem sLen_15 : sLen 1000015 = 4 := by decide +kernel
theorem sLen_9 : sLen 1000009 = 5 := by decide +kernel
theorem wIs_mf (q : ¬ wIs B s e k 1000015 = 0) : wIs B s e k 1000009 = 0 := by
  unfold wIs wIl at q ⊢
  rw [sLen_15] at q
  rw [sLen_9]
  by_cases h1 : k = 2
  · rw [if_pos h1] at q ⊢
    by_cases h2 : e - s = 4
    · rw [if_neg (by omega)]
    · rw [if_neg h2] at q; exact absurd rfl q
  · rw [if_neg h1]
/-- what the class answers, once it has read -/
def cA (M' : fw_Mem) (many v : Int32) : Int32 := if M' 1 7 = 0 then (if many = 0 then z_low v else nI (pc v)) else (-1000000000) - M' 1 7
theorem t_question (h : KC M) (hm : KC Mm) (ce : CE M N T) (hN : N ≤ 10) (hn : n ≤ 200) (t : TG M Mm B n s e k) (me : ME Mm N T a) (h24 : Mm 136 24 = 0) : ∃ v M' b Mm', cQ M = some (v, M') ∧ AF M M' ∧ MW Mm Mm' ∧
    (∀ (m0 : fw_Mem) (x : Int32), KC (fw_set m0 127 4 (nI N)) → f_X7_open st_S (fw_set m0 127 4 (nI N)) 1 x = some M → f_X1_answer st_S m0 127 x (nI N) = some (cA M' (wIs B s e k 1000015) v, M')) ∧
    (∀ (m0 : fw_Mem) (x : Int32), f_X10_opens st_S (fw_set m0 136 25 a) 136 x = some Mm → f_X10_readQuestion st_S m0 136 x a = some (bI b, Mm')) ∧
    ((M' 1 7 = 0 ∧ M' 1 8 = -1 ∧ Mm' 136 21 = 0 ∧ (∀ i, N ≤ i → bt v i = false) ∧ (∀ i, i < N → a = nI i → bt v i = b) ∧ ¬ (wIs B s e k 1000015 = 0 ∧ wIs B s e k 1000009 = 0)) ∨ TB M' Mm') := by
  obtain ⟨c, mt, tk⟩ := id t
  have a15 := c_word h c tk wd_15
  have a9 := c_word h c tk wd_9
  have b15 := m_word' hm mt tk wd_15
  have b9 := m_word' hm mt tk wd_9
  have hmin : (if (10 : Int32) < nI N then (10 : Int32) else nI N) = nI N := by rw [if_neg]; rw [show (10 : Int32) = nI 10 from rfl, nI_ltI (by omega) (by omega)]; omega
  by_cases h0 : wIs B s e k 1000015 = 0 ∧ wIs B s e k 1000009 = 0
  · obtain ⟨M5, Mm5, y1, y2, y3, y4, y5⟩ := t_fail t (f := 1) (by omega)
    rw [show nI 1 = (1 : Int32) from rfl] at y1 y2
    have k5 := y3.kc h
    have rr := bc_test k5 y5 0
    have hA : cA M5 (wIs B s e k 1000015) 0 = (-1000000000) - M5 1 7 := by rw [cA, if_neg y5.c]
    refine ⟨0, M5, false, Mm5, ?_, y3.af, y4.mw, fun m0 x k0 ho => ?_, fun m0 x ho => ?_, Or.inr y5⟩
    · by_cases c3 : M5 1 3 = 0
      · simp only [cQ, a15, a9, b1_s, if_pos h0, y1, b_adv y5, rr, b2_s, if_pos c3]
      · simp only [cQ, a15, a9, b1_s, if_pos h0, y1, b_adv y5, rr, b2_s, if_neg c3, b_fail y5]
    · rw [hA]
      by_cases c3 : M5 1 3 = 0
      · simp only [f_X1_answer, gO_127, gd_tt, hmin, bm_s, kc_127_0 k0, gN_1, tn_1, gO_1, ho, b1_s, kc_127_0 h, a15, a9, h0.1, h0.2, if_true, y1, fj_X1_answer_52, kc_127_0 k5, b_adv y5, rr, b2_s, c3, if_neg y5.c]
      · simp only [f_X1_answer, gO_127, gd_tt, hmin, bm_s, kc_127_0 k0, gN_1, tn_1, gO_1, ho, b1_s, kc_127_0 h, a15, a9, h0.1, h0.2, if_true, y1, fj_X1_answer_52, kc_127_0 k5, b_adv y5, rr, b2_s, if_neg c3, b_fail y5, fj_X1_answer_84, if_neg y5.c]
    · simp only [f_X10_readQuestion, gO_136, gd_tt, bm_s, ho, b1_s, b15, b9, h0.1, h0.2, if_true, y2, fj_X10_readQuestion_35, b_pass y5, bd_r0 (show 3 ≤ 30 by omega) _ _ y5, b2_s, if_neg y5.m, show gB (0 : Int32) = true from rfl, bI_f]
  · obtain ⟨M6, Mm6, s1, e1, k1, y1, y2, y3, y4, y5, y6⟩ := t_adv h hm t
    have k6 := y3.kc h
    have km6 := y4.kc hm
    obtain ⟨v, M7, b, Mm7, x1, x2, x3, x4, x5⟩ := t_top hN hn M6 Mm6 s1 e1 k1 k6 km6 (ce.fr y3.f8.af) (me.fr y4.u8.mw) y5 (by rw [y4.2 24 (by omega), h24]; rfl)
    rw [show nI 0 = (0 : Int32) from rfl] at x1
    have k7 := x3.kc k6
    -- class and model from here
    have cq : ∀ {R : Option (Int32 × fw_Mem)}, (if M7 1 3 = 0 then some (v, M7) else b1 (f_X7_fail st_S M7 1 1) (fun M8 => some (v, M8))) = R → cQ M = R := fun {R} hR => by
      rw [← hR]
      simp only [cQ, a15, a9, b1_s, if_neg h0, y1, x1, b2_s]
    have ca : ∀ (m0 : fw_Mem) (x : Int32), KC (fw_set m0 127 4 (nI N)) → f_X7_open st_S (fw_set m0 127 4 (nI N)) 1 x = some M → f_X1_answer st_S m0 127 x (nI N) = (if M7 1 3 = 0 then (if M7 1 7 = 0 then (if wIs B s e k 1000015 = 0 then some (z_low v, M7) else some (nI (pc v), M7)) else (some ((-1000000000) - M7 1 7, M7))) else (b1 (f_X7_fail st_S M7 1 1) (fun M8 => fj_X1_answer_84 st_S M8 127 (wIs B s e k 1000015) v))) := fun m0 x k0 ho => by
      by_cases h15 : wIs B s e k 1000015 = 0
      · have h9 : ¬ wIs B s e k 1000009 = 0 := fun q => h0 ⟨h15, q⟩
        simp only [f_X1_answer, gO_127, gd_tt, hmin, bm_s, kc_127_0 k0, gN_1, tn_1, gO_1, ho, b1_s, kc_127_0 h, a15, a9, h15, if_neg h9, if_true, y1, x1, b2_s, kc_127_0 k7, c_low]
      · simp only [f_X1_answer, gO_127, gd_tt, hmin, bm_s, kc_127_0 k0, gN_1, tn_1, gO_1, ho, b1_s, kc_127_0 h, a15, if_neg h15, y1, x1, b2_s, kc_127_0 k7, e_bc]
    have mq : ∀ (m0 : fw_Mem) (x : Int32), f_X10_opens st_S (fw_set m0 136 25 a) 136 x = some Mm → f_X10_readQuestion st_S m0 136 x a = (if Mm7 136 21 = 0 then (if Mm7 136 18 = 0 then (some (bI b, Mm7)) else (b1 (f_X10_wrong st_S Mm7 136 1) (fun M12 => some (bI b, M12)))) else (some (bI b, Mm7))) := fun m0 x ho => by
      by_cases h15 : wIs B s e k 1000015 = 0
      · have h9 : ¬ wIs B s e k 1000009 = 0 := fun q => h0 ⟨h15, q⟩
        simp only [f_X10_readQuestion, gO_136, gd_tt, bm_s, ho, b1_s, b15, b9, h15, if_neg h9, if_true, y2, x2, b2_s, bI_gB]
      · simp only [f_X10_readQuestion, gO_136, gd_tt, bm_s, ho, b1_s, b15, if_neg h15, y2, x2, b2_s, bI_gB]
    rcases x5 with ⟨s2, e2, k2, g1, g2, g3, g4, g5⟩ | tb
    · obtain ⟨c2, m2, tk2⟩ := id g1
      have h73 : M7 1 3 = nI k2 := c2.2.2.2.2.2.1
      have h77 : M7 1 7 = 0 := c2.2.2.2.2.2.2.1
      have m18 : Mm7 136 18 = nI (k2 - 1) := m2.2.2.2.2.2.2.1
      have m21 : Mm7 136 21 = 0 := m2.2.2.2.2.2.2.2
      have hk4 : k2 ≤ 4 := by rcases tk2.2.2.1 with q | q | q | q <;> omega
      by_cases hk : k2 = 0
      · have e3 : M7 1 3 = 0 := by rw [h73, hk]; rfl
        have e18 : Mm7 136 18 = 0 := by rw [m18, hk]; rfl
        refine ⟨v, M7, b, Mm7, cq (by rw [if_pos e3]), y3.f8.af.tr x3, y4.u8.mw.tr x4, fun m0 x k0 ho => ?_, fun m0 x ho => ?_, Or.inl ⟨h77, c2.2.2.2.2.2.2.2.2 rfl, m21, g4, g5, h0⟩⟩
        · rw [ca m0 x k0 ho, if_pos e3, if_pos h77, cA, if_pos h77]
          split <;> rfl
        · rw [mq m0 x ho, if_pos m21, if_pos e18]
      · have e3 : ¬ M7 1 3 = 0 := by rw [h73]; exact fun q => hk ((nI_eq (b := 0) (by omega) (by omega)).mp q)
        have hk1 : k2 ≠ 1 := by rcases tk2.2.2.1 with q | q | q | q <;> omega
        have e18 : ¬ Mm7 136 18 = 0 := by rw [m18]; exact fun q => absurd ((nI_eq (b := 0) (by omega) (by omega)).mp q) (by omega)
        obtain ⟨M8, Mm8, z1, z2, z3, z4, z5⟩ := t_fail g1 (f := 1) (by omega)
        rw [show nI 1 = (1 : Int32) from rfl] at z1 z2
        refine ⟨v, M8, b, Mm8, cq (by rw [if_neg e3, z1, b1_s]), y3.f8.af.tr (x3.tr z3.af), y4.u8.mw.tr (x4.tr z4.mw), fun m0 x k0 ho => ?_, fun m0 x ho => ?_, Or.inr z5⟩
        · rw [ca m0 x k0 ho, if_neg e3, z1, b1_s, cA, if_neg z5.c]
          simp only [fj_X1_answer_84, gO_127, gd_tt, kc_127_0 (z3.kc k7), gN_1, tn_1, gO_1, if_neg z5.c]
        · rw [mq m0 x ho, if_pos m21, if_neg e18, z2, b1_s]
    · refine ⟨v, M7, b, Mm7, cq ?_, y3.f8.af.tr x3, y4.u8.mw.tr x4, fun m0 x k0 ho => ?_, fun m0 x ho => ?_, Or.inr tb⟩
      · by_cases e3 : M7 1 3 = 0
        · rw [if_pos e3]
        · rw [if_neg e3, b_fail tb, b1_s]
      · rw [ca m0 x k0 ho, cA, if_neg tb.c, if_neg tb.c, b_fail tb, b1_s]
        simp only [fj_X1_answer_84, gO_127, gd_tt, kc_127_0 k7, gN_1, tn_1, gO_1, if_neg tb.c, ite_self]
      · rw [mq m0 x ho, if_neg tb.m]
end FC
