section JB
variable {M Mm : fw_Mem} {B : Nat → Nat} {n s e k P L N : Nat}
theorem jE_bad {M7 Mm7 : fw_Mem} (h7 : KC M7) (t : TB M7 Mm7) {w : Nat} {u : Int32} (hp : f_X8_passNumber st_S M 120 (M w 3) 9999 = some (u, M7)) : jE w M = some M7 := by
  obtain ⟨v9, q9⟩ := b_cword h7 t wd_16
  obtain ⟨v25, q25⟩ := b_cword h7 t wd_11
  unfold jE
  rw [hp, b2_s]
  simp only [kc_120_0 h7, gN_1, tn_1, gO_1, gd_tt, q9, q25, b1_s, b_fail t, b_f64 h7 t, if_neg t.c, ite_self]
theorem l_judged (h : KC M) (hm : KC Mm) (g : GD M Mm B n s e k P L N) : LR M Mm B n e (f_X8_readJudged st_S M 120) (f_X10_readJudged st_S Mm 136) := by
  obtain ⟨tg, p, w, wf⟩ := id g
  obtain ⟨M1, Mm1, s1, e1, k1, x1, x2, x3, x4, x5, x6⟩ := t_adv h hm tg
  have h1 := x3.kc h
  have hm1 := x4.kc hm
  have g1 := g.mv x3 x4 x5
  have t1 := x5.2.2.1
  have N10 := wf.1.2.2
  have m2 : Mm1 138 2 = nI N := g1.2.2.2.2.1.2.2
  have m1g := x5.2.1.2.2.2.2.2.2.2
  have n10 : ¬ (1 : Int32) = 0 := by decide
  have uc : f_X8_readJudged st_S M 120 = b2 (f_X8_passSuit st_S M1 120 0) (fun v5 M5 => bn v5 (some M5) (fun w5 => gd (gO st_S 6 w5) (jE w5 M5))) := by
    simp only [f_X8_readJudged, gO_120, gd_tt, kc_120_0 h, gN_1, tn_1, gO_1, x1, b1_s]
    rfl
  rw [uc]
  rcases t_suit h1 hm1 g1 (x := 0) (Or.inl rfl) with ⟨v, M2, Mm2, s2, e2, k2, y1, y2, y3, y4, y5, y6, y7, y8, y9⟩ | ⟨u, M2, Mm2, y1, y2, y3, y4, y5⟩ | ⟨v, M2, Mm2, y1, y2, y3, y4, y5, y6, y7, y8⟩
  · have hv10 : v < 10 := by omega
    have h2 := y6.kc h1
    have hm2 := y7.kc hm1
    have g2 := g1.mv y6 y7 y8
    have g21 := y8.2.1.2.2.2.2.2.2.2
    have t2 := y8.2.2.1
    unfold sOk at y2
    rw [if_pos rfl] at y2
    have e138 : Mm2 138 = Mm1 138 := y7.1 138 (by decide)
    obtain ⟨q2, hq2, eq2⟩ := (g2.2.2.2.2.2.2.2.2 v y1).2.2.1
    have r3 : M2 (71 + v) 3 = nI q2 := by
      rw [← eq2, ← g2.2.2.1.2.2.2.2 v y1]; rfl
    have um : f_X10_readJudged st_S Mm 136 = fj_X10_readJudged_63 st_S Mm2 136 (nI v) (nI q2) 136 := by
      simp only [f_X10_readJudged, gO_136, gd_tt, x2, b1_s, kc_136_1 hm1, gN_138, tn_138, gA_138_2, m2, y4, b2_s, m1g, if_true, m_told hm1 hv10 (j := 6) (x := 6) (by omega) rfl, y2, y5, g21, m_told hm2 hv10 (j := 2) (x := 2) (by omega) rfl, eq2]
    rw [y3, b2_s, um]
    show LR M Mm B n e (gd (gO st_S 6 (71 + v)) (jE (71 + v) M2)) _
    rw [gO_s42 v hv10, gd_tt]
    have z9 : (9999 : Int32) = nI 9999 := rfl
    rcases t_number h2 hm2 y8 (lo := q2) (hi := 9999) hq2 (by omega) with ⟨d, M3, Mm3, s3, e3, k3, c1, c2, c3, c4, c5, c6, c7, c8⟩ | ⟨u, M3, Mm3, c3, c4, c5, c6, c7⟩
    · have h3 := c5.kc h2
      have hm3 := c6.kc hm2
      have g3 := g2.mv c5 c6 c7
      have t3 := c7.2.2.1
      obtain ⟨cc, cm, ct⟩ := id c7
      have f7 := cc.2.2.2.2.2.2.1
      rw [← z9] at c3 c4
      have hq6 : sq (Mm3 138) v 6 = -1 := by rw [c6.1 138 (by decide), e138]; exact y2
      have fin : ∀ y : Int32, (y = 0 ∨ y = 1) → LR M Mm B n e (jD (71 + v) M3 (nI d) y) _ := fun y hy => (l_dec h3 hm3 g3 y1 hq6 c2 hy).pre ((x3.cf.tr y6.cf).tr c5.cf) ((x4.mg.tr y7.mg).tr c6.mg) (by omega)
      have ue : jE (71 + v) M2 = (if wIs B s3 e3 k3 1000016 = 0 then (if wIs B s3 e3 k3 1000011 = 0 then (b1 (f_X7_fail st_S M3 1 1) (fun M40 => fj_X8_readJudged_64 st_S M40 120 (71 + v) (nI d) (wIs B s3 e3 k3 1000016))) else jD (71 + v) M3 (nI d) (wIs B s3 e3 k3 1000016)) else jD (71 + v) M3 (nI d) (wIs B s3 e3 k3 1000016)) := by
        unfold jE
        rw [r3, c3, b2_s]
        simp only [kc_120_0 h3, gN_1, tn_1, gO_1, gd_tt, c_word h3 cc ct wd_16, c_word h3 cc ct wd_11, b1_s, f7, if_true]
      have uf : fj_X10_readJudged_63 st_S Mm2 136 (nI v) (nI q2) 136 = (if wIs B s3 e3 k3 1000016 = 0 then (if wIs B s3 e3 k3 1000011 = 0 then (b1 (f_X10_wrong st_S Mm3 136 1) (fun M47 => fj_X10_readJudged_97 st_S M47 136 (nI v) (nI d) (wIs B s3 e3 k3 1000016))) else (b1 (f_X10_pass st_S Mm3 136) (fun M43 => if (M43 136 21) = 0 then (b1 (f_X10_toldOf st_S M43 136 (nI v) 4) (fun v45 => b1 (f_X10_toldOf st_S M43 136 (nI v) 5) (fun v46 => fj_X10_readJudged_125 st_S M43 136 (nI v) (nI d) (wIs B s3 e3 k3 1000016) (v45 ||| v46)))) else fj_X10_readJudged_125 st_S M43 136 (nI v) (nI d) (wIs B s3 e3 k3 1000016) 0))) else (b1 (f_X10_pass st_S Mm3 136) (fun M43 => if (M43 136 21) = 0 then (b1 (f_X10_toldOf st_S M43 136 (nI v) 4) (fun v45 => b1 (f_X10_toldOf st_S M43 136 (nI v) 5) (fun v46 => fj_X10_readJudged_125 st_S M43 136 (nI v) (nI d) (wIs B s3 e3 k3 1000016) (v45 ||| v46)))) else fj_X10_readJudged_125 st_S M43 136 (nI v) (nI d) (wIs B s3 e3 k3 1000016) 0))) := by
        simp only [fj_X10_readJudged_63, gO_136, gd_tt, c4, b2_s, m_word' hm3 cm ct wd_16, m_word' hm3 cm ct wd_11, b1_s]
      rw [ue, uf]
      by_cases w16 : wIs B s3 e3 k3 1000016 = 0
      · rw [if_pos w16, if_pos w16]
        by_cases w11 : wIs B s3 e3 k3 1000011 = 0
        · rw [if_pos w11, if_pos w11]
          obtain ⟨M', Mm', z1, z2, z3, z4, z5⟩ := t_fail c7 (f := 1) (by omega)
          rw [show nI 1 = (1 : Int32) from rfl] at z1 z2
          rw [z1, z2, b1_s, b1_s, b_f64 (z3.kc h3) z5, b_f97 z5]
          exact LR.bad (((x3.cf.tr y6.cf).tr c5.cf).tr z3.cf) (((x4.mg.tr y7.mg).tr c6.mg).tr z4.mg) (by unfold cLP; rw [z3.1 (42 + 2) (by decide)]; exact g3.2.1) z5
        · rw [if_neg w11, if_neg w11]
          exact fin _ (wIs_01 ..)
      · rw [if_neg w16, if_neg w16]
        exact fin _ (wIs_01 ..)
    · rw [← z9] at c3 c4
      have h3 := c5.kc h2
      have em : fj_X10_readJudged_63 st_S Mm2 136 (nI v) (nI q2) 136 = some Mm3 := by
        simp only [fj_X10_readJudged_63, gO_136, gd_tt, c4, b2_s, b_word c7, b1_s, if_true, b_wrong c7, b_f97 c7]
      rw [jE_bad h3 c7 (by rw [r3]; exact c3), em]
      exact LR.bad ((x3.cf.tr y6.cf).tr c5.cf) ((x4.mg.tr y7.mg).tr c6.mg) (by unfold cLP; rw [c5.1 (42 + 2) (by decide)]; exact g2.2.1) c7
  · rw [y1, b2_s]
    have e2 : f_X10_readJudged st_S Mm 136 = some Mm2 := by
      simp only [f_X10_readJudged, gO_136, gd_tt, x2, b1_s, kc_136_1 hm1, gN_138, tn_138, gA_138_2, m2, y2, b2_s, if_neg y5.m, b_pass y5, b_f63 y5]
    rw [e2]
    exact LR.bad (x3.cf.tr y3.cf) (x4.mg.tr y4.mg) (by unfold cLP; rw [y3.1 (42 + 2) (by decide)]; exact g1.2.1) y5
  · rw [y3, b2_s]
    have hv10 : v < 10 := by omega
    unfold sOk at y2
    rw [if_pos rfl] at y2
    have e2 : f_X10_readJudged st_S Mm 136 = some Mm2 := by
      simp only [f_X10_readJudged, gO_136, gd_tt, x2, b1_s, kc_136_1 hm1, gN_138, tn_138, gA_138_2, m2, y4, b2_s, m1g, if_true, m_told hm1 hv10 (j := 6) (x := 6) (by omega) rfl, if_neg y2, y5, fj_X10_readJudged_41, b_pass y8, if_neg y8.m, b_f63 y8]
    rw [e2]
    exact LR.bad (x3.cf.tr y6.cf) (x4.mg.tr y7.mg) (by unfold cLP; rw [y6.1 (42 + 2) (by decide)]; exact g1.2.1) y8
theorem sx_59 : ∀ b, b < 256 → (sx b = 59 ↔ nI b = 59) := by decide +kernel
/-- a reader, and then the sign that ends a line -/
theorem l_then {o om : Option fw_Mem} (h : KC M) (hm : KC Mm) (r : LR M Mm B n s o om) : LR M Mm B n s (b1 o (fun M' => f_X7_passSign st_S M' 1 59)) (b1 om (fun Mm' => f_X10_must st_S Mm' 136 59)) := by
  obtain ⟨M1, Mm1, x1, x2, x3, x4, x5, x6⟩ := r
  have h1 := x3.kc h
  have hm1 := x4.kc hm
  have n10 : ¬ (1 : Int32) = 0 := by decide
  rw [x1, x2, b1_s, b1_s]
  rcases x6 with ⟨s', e', k', P', L', N', g, q⟩ | t
  · obtain ⟨tg, p, w, wf⟩ := id g
    obtain ⟨c, m, tk⟩ := id tg
    by_cases hs : sIs B s' k' 59 = 0
    · obtain ⟨M2, Mm2, z1, z2, z3, z4, z5⟩ := t_fail tg (f := 1) (by omega)
      rw [show nI 1 = (1 : Int32) from rfl] at z1 z2
      have e1 : f_X7_passSign st_S M1 1 59 = some M2 := by simp only [f_X7_passSign, gO_1, gd_tt, c_sign h1 c tk sx_59, b1_s, hs, if_true, z1, b_adv z5]
      have e2 : f_X10_must st_S Mm1 136 59 = some Mm2 := by simp only [f_X10_must, gO_136, gd_tt, m_sign hm1 m tk, b1_s, hs, if_true, z2, b_pass z5]
      rw [e1, e2]
      exact LR.bad (x3.tr z3.cf) (x4.tr z4.mg) (by unfold cLP; rw [z3.1 (42 + 2) (by decide)]; exact p) z5
    · obtain ⟨M2, Mm2, s2, e2, k2, y1, y2, y3, y4, y5, y6⟩ := t_adv h1 hm1 tg
      have g2 := g.mv y3 y4 y5
      refine ⟨M2, Mm2, ?_, ?_, x3.tr y3.cf, x4.tr y4.mg, g2.2.1, Or.inl ⟨s2, e2, k2, P', L', N', g2, by have := tk.1; omega⟩⟩
      · simp only [f_X7_passSign, gO_1, gd_tt, c_sign h1 c tk sx_59, b1_s, if_neg hs, y1]
      · simp only [f_X10_must, gO_136, gd_tt, m_sign hm1 m tk, b1_s, if_neg hs, y2]
  · obtain ⟨v, hv⟩ := b_csign h1 t sx_59
    have e1 : f_X7_passSign st_S M1 1 59 = some M1 := by simp only [f_X7_passSign, gO_1, gd_tt, hv, b1_s, b_fail t, b_adv t, ite_self]
    have e2 : f_X10_must st_S Mm1 136 59 = some Mm1 := by simp only [f_X10_must, gO_136, gd_tt, b_sign t, b1_s, if_true, b_wrong t, b_pass t]
    rw [e1, e2]
    exact LR.bad x3 x4 x5 t
theorem b1_sm (o : Option fw_Mem) : b1 o (fun M' => some M') = o := by cases o <;> rfl
theorem l_line (h : KC M) (hm : KC Mm) (g : GD M Mm B n s e k P L N) : LR M Mm B n e (b1 (f_X8_readLine st_S M 120) (fun M' => f_X7_passSign st_S M' 1 59)) (f_X10_readLine st_S Mm 136) := by
  obtain ⟨c, m, tk⟩ := id g.1
  simp only [f_X8_readLine, f_X10_readLine, gO_120, gO_136, gd_tt, kc_120_0 h, gN_1, tn_1, gO_1, c_word h c tk wd_23, c_word h c tk wd_12, c_word h c tk wd_26, c_word h c tk wd_28, c_word h c tk wd_14, c_word h c tk wd_25, c_word h c tk wd_27, c_word h c tk wd_17, c_word h c tk wd_6, m_word' hm m tk wd_23, m_word' hm m tk wd_12, m_word' hm m tk wd_26, m_word' hm m tk wd_28, m_word' hm m tk wd_14, m_word' hm m tk wd_25, m_word' hm m tk wd_27, m_word' hm m tk wd_17, m_word' hm m tk wd_6, b1_s, b1_sm]
  by_cases w23 : wIs B s e k 1000023 = 0
  rotate_left
  · rw [if_neg w23, if_neg w23]; exact l_then h hm (l_person h hm g)
  rw [if_pos w23, if_pos w23]
  by_cases w12 : wIs B s e k 1000012 = 0
  rotate_left
  · rw [if_neg w12, if_neg w12]; exact l_then h hm (l_link h hm g (Or.inl rfl))
  rw [if_pos w12, if_pos w12]
  by_cases w26 : wIs B s e k 1000026 = 0
  rotate_left
  · rw [if_neg w26, if_neg w26]; exact l_then h hm (l_link h hm g (Or.inr rfl))
  rw [if_pos w26, if_pos w26]
  by_cases w28 : wIs B s e k 1000028 = 0
  rotate_left
  · rw [if_neg w28, if_neg w28]; exact l_then h hm (l_suit h hm g)
  rw [if_pos w28, if_pos w28]
  by_cases w14 : wIs B s e k 1000014 = 0
  rotate_left
  · rw [if_neg w14, if_neg w14]; exact l_then h hm (l_judged h hm g)
  rw [if_pos w14, if_pos w14]
  by_cases w25 : wIs B s e k 1000025 = 0
  rotate_left
  · rw [if_neg w25, if_neg w25]; exact l_then h hm (l_rev h hm g)
  rw [if_pos w25, if_pos w25]
  by_cases w27 : wIs B s e k 1000027 = 0
  rotate_left
  · rw [if_neg w27, if_neg w27]; exact l_then h hm (l_rule h hm g (c := 0) (by omega))
  rw [if_pos w27, if_pos w27]
  by_cases w17 : wIs B s e k 1000017 = 0
  rotate_left
  · rw [if_neg w17, if_neg w17]; exact l_then h hm (l_rule h hm g (c := 1) (by omega))
  rw [if_pos w17, if_pos w17]
  by_cases w6 : wIs B s e k 1000006 = 0
  rotate_left
  · rw [if_neg w6, if_neg w6]; exact l_then h hm (l_rule h hm g (c := 2) (by omega))
  rw [if_pos w6, if_pos w6]
  obtain ⟨M', Mm', z1, z2, z3, z4, z5⟩ := t_fail g.1 (f := 1) (by omega)
  rw [show nI 1 = (1 : Int32) from rfl] at z1 z2
  refine l_then h hm ?_
  rw [z1, z2]
  exact LR.bad z3.cf z4.mg (by unfold cLP; rw [z3.1 (42 + 2) (by decide)]; exact g.2.1) z5
end JB
