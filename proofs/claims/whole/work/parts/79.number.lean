/-! ===== numbers and sets, both sides ===== -/
section NA
variable {M Mm : fw_Mem} {B : Nat → Nat} {n s e k : Nat}
theorem m_numLoop (h : KC Mm) (c : MT Mm B n s e k) (t : TK B n s e k) (hk : k = 3) (x y : Int32) : ∀ d i q, i + d = e - s → d < q → lf_X10_numberHere_28 st_S Mm 136 x y q (nI (vM B s i)) (nI (s + i)) = some (nI (vM B s (e - s))) := by
  obtain ⟨hn, hb, h2, h17, h19, h20, h18, h21⟩ := c
  have hte := t.2.1
  have hse := t.1
  have h3 := (t.2.2.2.2.2 (Or.inr hk)).2
  intro d
  induction d with
  | zero =>
    intro i q hi hq
    obtain ⟨q, rfl⟩ : ∃ j, q = j + 1 := ⟨q - 1, by omega⟩
    have hle : nI e ≤ nI (s + i) := nI_le (by omega) (by omega)
    have ei : i = e - s := by omega
    subst ei
    simp only [lf_X10_numberHere_28, gO_136, gd_tt, h21, if_true, h20, if_pos hle]
  | succ d ih =>
    intro i q hi hq
    obtain ⟨q, rfl⟩ : ∃ j, q = j + 1 := ⟨q - 1, by omega⟩
    have hle : ¬ nI e ≤ nI (s + i) := nI_ge (by omega) (by omega)
    have b3 := bk_3 ((h3 (s + i) (by omega) (by omega)).trans hk)
    have eb := (hb (s + i) (by omega)).2
    have hv := (v_rel (B := B) (s := s) (i := i) fun j hj => (h3 (s + j) (by omega) (by omega)).trans hk).2.2
    have ihh := ih (i + 1) q (by omega) (by omega)
    have hval : (10 : Int32) * nI (vM B s i) + nI (B (s + i)) - 48 = nI (10 * vM B s i + (B (s + i) - 48)) := by
      rw [show (10 : Int32) = nI 10 from rfl, nI_mul, nI_add, show (48 : Int32) = nI 48 from rfl, nI_sub (by omega)]
      congr 1
      omega
    have hmin : (if nI (10 * vM B s i + (B (s + i) - 48)) < 1000000 then nI (10 * vM B s i + (B (s + i) - 48)) else 1000000) = nI (vM B s (i + 1)) := by
      rw [vM]
      have nl : nI (10 * vM B s i + (B (s + i) - 48)) < 1000000 ↔ 10 * vM B s i + (B (s + i) - 48) < 1000000 := nI_ltI (b := 1000000) (by omega) (by omega)
      by_cases q1 : 10 * vM B s i + (B (s + i) - 48) < 1000000
      · rw [if_pos (nl.mpr q1), Nat.min_eq_right (by omega)]
      · rw [if_neg fun z => q1 (nl.mp z), Nat.min_eq_left (by omega)]; rfl
    simp only [lf_X10_numberHere_28, gO_136, gd_tt, h21, if_true, h20, if_neg hle, kc_136_14 h, gN_147, tn_147, gA_147 (show s + i < 600 by omega), nI_cl (show s + i < 2147483648 by omega), eb, hval, hmin, bm_s, nI_1]
    exact ihh
theorem m_nh3 (h : KC Mm) (c : MT Mm B n s e k) (t : TK B n s e k) (hk : k = 3) (x y : Int32) : f_X10_numberHere st_S Mm 136 x y = if (¬ nI (vM B s (e - s)) < x ∧ ¬ y < nI (vM B s (e - s))) then some (nI (vM B s (e - s)), Mm) else b1 (f_X10_wrong st_S Mm 136 2) fun M26 => some (nI (vM B s (e - s)), M26) := by
  obtain ⟨hn, hb, h2, h17, h19, h20, h18, h21⟩ := id c
  have hte := t.2.1
  have lp := m_numLoop h c t hk x y (e - s) 0 20000 (by omega) (by omega)
  rw [show vM B s 0 = 0 from rfl, show nI 0 = (0 : Int32) from rfl, Nat.add_zero] at lp
  have h18' : Mm 136 18 = 2 := by rw [h18, hk]; rfl
  simp only [f_X10_numberHere, gO_136, gd_tt, h21, if_true, h18', h19, lp, b1_s, e_isIn]
  by_cases q : (¬ nI (vM B s (e - s)) < x ∧ ¬ y < nI (vM B s (e - s)))
  · rw [if_pos q, decide_eq_true q, bI_t, if_neg (by decide)]
  · rw [if_neg q, decide_eq_false q, bI_f, if_pos rfl]
theorem m_nhN (c : MT Mm B n s e k) (t : TK B n s e k) (hk : k ≠ 3) (x y : Int32) {M' Mm' : fw_Mem} (hw : f_X10_wrong st_S Mm 136 1 = some Mm') (tb : TB M' Mm') : f_X10_numberHere st_S Mm 136 x y = some (0, Mm') := by
  obtain ⟨hn, hb, h2, h17, h19, h20, h18, h21⟩ := id c
  have hk4 : k ≤ 4 := by rcases t.2.2.1 with q | q | q | q <;> omega
  have h18' : ¬ Mm 136 18 = 2 := by
    rw [h18]
    exact fun q => hk (by have := (nI_eq (b := 2) (by omega) (by omega)).mp q; omega)
  simp only [f_X10_numberHere, gO_136, gd_tt, h21, if_true, if_neg h18', hw, b1_s, fj_X10_numberHere_20, b_numLoop tb x y (show 0 < 20000 by omega), if_neg tb.m]
/-- a number's two values -/
theorem v_at (t : TK B n s e k) (hk : k = 3) : (vC B s (e - s) = vM B s (e - s) ∨ (9999 < vC B s (e - s) ∧ 9999 < vM B s (e - s))) ∧ vC B s (e - s) ≤ 99999 ∧ vM B s (e - s) ≤ 1000000 := by
  have h3 := (t.2.2.2.2.2 (Or.inr hk)).2
  have := t.1
  exact v_rel fun j hj => (h3 (s + j) (by omega) (by omega)).trans hk
theorem t_number (h : KC M) (hm : KC Mm) (t : TG M Mm B n s e k) {lo hi : Nat} (hlo : lo ≤ 9999) (hhi : hi ≤ 9999) :
    (∃ v M' Mm' s' e' k', lo ≤ v ∧ v ≤ hi ∧ f_X8_passNumber st_S M 120 (nI lo) (nI hi) = some (nI v, M') ∧ f_X10_number st_S Mm 136 (nI lo) (nI hi) = some (nI v, Mm') ∧ TF M M' ∧ MU Mm Mm' ∧ TG M' Mm' B n s' e' k' ∧ e ≤ s') ∨
    (∃ w M' Mm', f_X8_passNumber st_S M 120 (nI lo) (nI hi) = some (-1, M') ∧ f_X10_number st_S Mm 136 (nI lo) (nI hi) = some (w, Mm') ∧ F8 M M' ∧ U8 Mm Mm' ∧ TB M' Mm') := by
  obtain ⟨c, m, tk⟩ := id t
  obtain ⟨hn, hb, h2, h4, h5, h3, h7, h6⟩ := id c
  by_cases hk : k = 3
  · have h33 : M 1 3 = 3 := by rw [h3, hk]; rfl
    have h66 := h6.1 hk
    obtain ⟨vr, v1, v2⟩ := v_at tk hk
    by_cases hr : lo ≤ vC B s (e - s) ∧ vC B s (e - s) ≤ hi
    · have ev : vM B s (e - s) = vC B s (e - s) := by omega
      obtain ⟨M', Mm', s', e', k', x1, x2, x3, x4, x5, x6⟩ := t_adv h hm t
      refine Or.inl ⟨vC B s (e - s), M', Mm', s', e', k', hr.1, hr.2, ?_, ?_, x3, x4, x5, x6⟩
      · have q1 : ¬ nI (vC B s (e - s)) < nI lo := by rw [nI_ltI (by omega) (by omega)]; omega
        have q2 : nI (vC B s (e - s)) ≤ nI hi := nI_le (by omega) (by omega)
        simp only [f_X8_passNumber, gO_120, gd_tt, kc_120_0 h, gN_1, tn_1, gO_1, h7, h33, h66, if_true, if_neg q1, if_pos q2, bm_s, x1, b1_s]
      · have q1 : ¬ nI (vC B s (e - s)) < nI lo := by rw [nI_ltI (by omega) (by omega)]; omega
        have q2 : ¬ nI hi < nI (vC B s (e - s)) := by rw [nI_ltI (by omega) (by omega)]; omega
        unfold f_X10_number
        rw [m_nh3 hm m tk hk, ev, if_pos ⟨q1, q2⟩, gO_136, gd_tt, b2_s, x2, b1_s]
    · obtain ⟨M', Mm', x1, x2, x3, x4, x5⟩ := t_fail t (f := 2) (by omega)
      rw [show nI 2 = (2 : Int32) from rfl] at x1 x2
      refine Or.inr ⟨nI (vM B s (e - s)), M', Mm', ?_, ?_, x3, x4, x5⟩
      · have kM' := x3.kc h
        have fj : fj_X8_passNumber_69 st_S M' 120 = some (-1, M') := by simp only [fj_X8_passNumber_69, gO_120, gd_tt, kc_120_0 kM', gN_1, tn_1, gO_1, if_neg x5.c]
        simp only [f_X8_passNumber, gO_120, gd_tt, kc_120_0 h, gN_1, tn_1, gO_1, h7, h33, h66, if_true, x1, b1_s, fj]
        by_cases q1 : nI (vC B s (e - s)) < nI lo
        · rw [if_pos q1]
        · rw [if_neg q1, if_neg]
          intro q2
          rw [nI_ltI (by omega) (by omega)] at q1
          have : ¬ hi < vC B s (e - s) := fun z => (nI_ge z (by omega)) q2
          omega
      · unfold f_X10_number
        rw [m_nh3 hm m tk hk, if_neg, gO_136, gd_tt, x2, b1_s, b2_s, b_pass x5, b1_s]
        rintro ⟨q1, q2⟩
        rw [nI_ltI (by omega) (by omega)] at q1 q2
        omega
  · have hk4 : k ≤ 4 := by rcases tk.2.2.1 with q | q | q | q <;> omega
    have h33 : ¬ M 1 3 = 3 := by
      rw [h3]
      exact fun q => hk ((nI_eq (b := 3) (by omega) (by omega)).mp q)
    obtain ⟨M', Mm', x1, x2, x3, x4, x5⟩ := t_fail t (f := 1) (by omega)
    rw [show nI 1 = (1 : Int32) from rfl] at x1 x2
    have kM' := x3.kc h
    refine Or.inr ⟨0, M', Mm', ?_, ?_, x3, x4, x5⟩
    · simp only [f_X8_passNumber, gO_120, gd_tt, kc_120_0 h, gN_1, tn_1, gO_1, h7, if_neg h33, if_true, x1, b1_s, fj_X8_passNumber_29, kc_120_0 kM', if_neg x5.c]
    · simp only [f_X10_number, gO_136, gd_tt, m_nhN m tk hk _ _ x2 x5, b2_s, b_pass x5, b1_s]
/-! sets -/
theorem set_sub {x a : Int32} {v : Nat} (hv : v < 32) (h : a &&& (x ^^^ (-1)) = 0) (hb : bt (x &&& (a ^^^ (-1))) v = true) : (a ||| bit v) &&& (x ^^^ (-1)) = 0 := by
  rw [bt_0iff] at h ⊢
  intro i hi
  have h1 := h i hi
  rw [b_and, b_not x hi] at h1
  rw [b_and, b_not x hi, b_or, bt_bit hv]
  by_cases e : i = v
  · subst e
    rw [b_and] at hb
    simp only [Bool.and_eq_true] at hb
    rw [hb.1]; simp
  · simp [e]; simpa using h1
theorem t_setLoop {x : Int32} : ∀ d (M Mm : fw_Mem) s e k (a : Int32) t q q2, KC M → KC Mm → TG M Mm B n s e k → n - s = d → t ≤ s → d < q → d + 1 < q2 → a &&& (x ^^^ (-1)) = 0 →
    (∃ v M' Mm' s' e' k', v &&& (x ^^^ (-1)) = 0 ∧ lf_X8_passSet_37 st_S 120 x q a (nI (600 - t)) M = some (.inr (v, M')) ∧ lf_X10_readSet_16 st_S 136 x q2 a Mm = some (v, Mm') ∧ TF M M' ∧ MU Mm Mm' ∧ TG M' Mm' B n s' e' k' ∧ s ≤ s') ∨
    (∃ w M' Mm', lf_X8_passSet_37 st_S 120 x q a (nI (600 - t)) M = some (.inl (0, M')) ∧ lf_X10_readSet_16 st_S 136 x q2 a Mm = some (w, Mm') ∧ F8 M M' ∧ U8 Mm Mm' ∧ TB M' Mm') := by
  intro d
  induction d using Nat.strongRecOn with
  | ind d ih =>
    intro M Mm s e k a t q q2 h hm tg hd hts hq hq2 ha
    obtain ⟨q, rfl⟩ : ∃ j, q = j + 1 := ⟨q - 1, by omega⟩
    obtain ⟨q2, rfl⟩ : ∃ j, q2 = j + 2 := ⟨q2 - 2, by omega⟩
    obtain ⟨c, m, tk⟩ := id tg
    obtain ⟨hn, hb, h2, h4, h5, h3, h7, h6⟩ := id c
    obtain ⟨_, _, g2, g17, g19, g20, g18, g21⟩ := id m
    have hsn : s ≤ n := Nat.le_trans tk.1 tk.2.1
    have hk4 : k ≤ 4 := by rcases tk.2.2.1 with q | q | q | q <;> omega
    by_cases hk : k = 3
    · have hlt : s < e := (tk.2.2.2.2.2 (Or.inr hk)).1
      have hen := tk.2.1
      have h33 : M 1 3 = 3 := by rw [h3, hk]; rfl
      have g182 : Mm 136 18 = 2 := by rw [g18, hk]; rfl
      have h66 := h6.1 hk
      have hx4 : ¬ nI (600 - t) ≤ 0 := nI_ge (a := 0) (by omega) (by omega)
      obtain ⟨vr, v1, v2⟩ := v_at tk hk
      have g00 : ¬ nI (vM B s (e - s)) < 0 := nI_pos (by omega)
      by_cases h31 : 31 ≤ vC B s (e - s)
      · obtain ⟨M', Mm', x1, x2, x3, x4, x5⟩ := t_fail tg (f := 2) (by omega)
        rw [show nI 2 = (2 : Int32) from rfl] at x1 x2
        refine Or.inr ⟨a, M', Mm', ?_, ?_, x3, x4, x5⟩
        · have q1 : (31 : Int32) ≤ nI (vC B s (e - s)) := nI_le (a := 31) (by omega) (by omega)
          simp only [lf_X8_passSet_37, if_neg hx4, gO_120, gd_tt, kc_120_0 h, gN_1, tn_1, gO_1, h33, if_true, h66, bm_s, if_pos q1, x1, b1_s]
        · have hno : ¬ (¬ nI (vM B s (e - s)) < 0 ∧ ¬ (30 : Int32) < nI (vM B s (e - s))) := by
            rintro ⟨_, q2⟩
            exact q2 ((nI_ltI (a := 30) (by omega) (by omega)).mpr (by omega))
          have nb : ∀ j a', lf_X10_readSet_16 st_S 136 x (j + 1) a' Mm' = some (a', Mm') := fun j a' => by simp only [lf_X10_readSet_16, gO_136, gd_tt, if_neg x5.m]
          rw [lf_X10_readSet_16]
          simp only [gO_136, gd_tt, g21, if_true, g182, m_nh3 hm m tk hk, if_neg hno, x2, b1_s, b2_s, if_neg x5.m, b_pass x5, nb]
      · have ev : vM B s (e - s) = vC B s (e - s) := by omega
        have hv32 : vC B s (e - s) < 32 := by omega
        generalize vC B s (e - s) = v at h31 ev hv32 h66 vr v1
        have q1 : ¬ (31 : Int32) ≤ nI v := nI_ge (b := 31) (by omega) (by omega)
        have hyes : (¬ nI v < 0 ∧ ¬ (30 : Int32) < nI v) := ⟨nI_pos (by omega), fun z => absurd ((nI_ltI (a := 30) (by omega) (by omega)).mp z) (by omega)⟩
        cases hbt : bt (x &&& (a ^^^ (-1))) v
        · obtain ⟨M', Mm', x1, x2, x3, x4, x5⟩ := t_fail tg (f := 2) (by omega)
          rw [show nI 2 = (2 : Int32) from rfl] at x1 x2
          refine Or.inr ⟨a, M', Mm', ?_, ?_, x3, x4, x5⟩
          · have q3 : (((x &&& (a ^^^ (-1))) >>> (nI v &&& 31)) &&& 1) = 0 := by rw [and1z, hv_lo, hv_bt hv32]; exact hbt
            simp only [lf_X8_passSet_37, if_neg hx4, gO_120, gd_tt, kc_120_0 h, gN_1, tn_1, gO_1, h33, if_true, h66, bm_s, if_neg q1, if_pos q3, x1, b1_s]
          · have nb : ∀ j a', lf_X10_readSet_16 st_S 136 x (j + 1) a' Mm' = some (a', Mm') := fun j a' => by simp only [lf_X10_readSet_16, gO_136, gd_tt, if_neg x5.m]
            rw [lf_X10_readSet_16]
            simp only [gO_136, gd_tt, g21, if_true, g182, m_nh3 hm m tk hk, ev, if_pos hyes, b2_s, e_has, hv_bt hv32, hbt, bI_f, b1_s, x2, if_neg x5.m, b_pass x5, nb]
        · obtain ⟨M', Mm', s', e', k', x1, x2, x3, x4, x5, x6⟩ := t_adv h hm tg
          have q3 : ¬ (((x &&& (a ^^^ (-1))) >>> (nI v &&& 31)) &&& 1) = 0 := by rw [and1z, hv_lo, hv_bt hv32, hbt]; simp
          have e1 : lf_X8_passSet_37 st_S 120 x (q + 1) a (nI (600 - t)) M = lf_X8_passSet_37 st_S 120 x q (a ||| bit v) (nI (600 - (t + 1))) M' := by
            have : nI (600 - t) + (-1) = nI (600 - (t + 1)) := by
              rw [show 600 - t = (600 - (t + 1)) + 1 by omega, ← nI_1]
              generalize nI (600 - (t + 1)) = z
              apply Int32.toBitVec_inj.mp
              simp only [Int32.toBitVec_add]
              rw [BitVec.add_assoc]
              show z.toBitVec + 0 = _
              simp
            rw [lf_X8_passSet_37]
            simp only [if_neg hx4, gO_120, gd_tt, kc_120_0 h, gN_1, tn_1, gO_1, h33, if_true, h66, bm_s, if_neg q1, if_neg q3, x1, b1_s, this]
            rfl
          have e2 : lf_X10_readSet_16 st_S 136 x (q2 + 2) a Mm = lf_X10_readSet_16 st_S 136 x (q2 + 1) (a ||| bit v) Mm' := by
            have n10 : ¬ (1 : Int32) = 0 := by decide
            rw [lf_X10_readSet_16]
            simp only [gO_136, gd_tt, g21, if_true, g182, m_nh3 hm m tk hk, ev, if_pos hyes, b2_s, e_has, hv_bt hv32, hbt, bI_t, b1_s, if_neg n10, bm_s, x2]
            rfl
          rw [e1, e2]
          have := x5.2.2
          have hs'n : s' ≤ n := Nat.le_trans this.1 this.2.1
          rcases ih (n - s') (by omega) M' Mm' s' e' k' (a ||| bit v) (t + 1) q (q2 + 1) (x3.kc h) (x4.kc hm) x5 rfl (by omega) (by omega) (by omega) (set_sub hv32 ha hbt) with ⟨v', M2, Mm2, s2, e2', k2, y1, y2, y3, y4, y5, y6, y7⟩ | ⟨w, M2, Mm2, y1, y2, y3, y4, y5⟩ 
          · exact Or.inl ⟨v', M2, Mm2, s2, e2', k2, y1, y2, y3, x3.tr y4, x4.tr y5, y6, by omega⟩
          · exact Or.inr ⟨w, M2, Mm2, y1, y2, x3.f8.tr y3, x4.u8.tr y4, y5⟩
    · have h33 : ¬ M 1 3 = 3 := by
        rw [h3]
        exact fun q => hk ((nI_eq (b := 3) (by omega) (by omega)).mp q)
      have g182 : ¬ Mm 136 18 = 2 := by
        rw [g18]
        exact fun q => hk (by have := (nI_eq (b := 2) (by omega) (by omega)).mp q; omega)
      refine Or.inl ⟨a, M, Mm, s, e, k, ha, ?_, ?_, TF.rf M, MU.rf Mm, tg, Nat.le_refl _⟩
      · by_cases hx4 : nI (600 - t) ≤ 0
        · simp only [lf_X8_passSet_37, if_pos hx4]
        · simp only [lf_X8_passSet_37, if_neg hx4, gO_120, gd_tt, kc_120_0 h, gN_1, tn_1, gO_1, if_neg h33]
      · simp only [lf_X10_readSet_16, gO_136, gd_tt, g21, if_true, if_neg g182]
theorem t_rset (h : KC M) (hm : KC Mm) (t : TG M Mm B n s e k) {a : Nat} (w : WD a) (x : Int32) :
    (∃ v M' Mm' s' e' k', v &&& (x ^^^ (-1)) = 0 ∧ f_X8_passSet st_S M 120 a x = some (v, M') ∧ f_X10_readSet st_S Mm 136 a x = some (v, Mm') ∧ TF M M' ∧ MU Mm Mm' ∧ TG M' Mm' B n s' e' k' ∧ s ≤ s') ∨
    (∃ u M' Mm', f_X8_passSet st_S M 120 a x = some (0, M') ∧ f_X10_readSet st_S Mm 136 a x = some (u, Mm') ∧ F8 M M' ∧ U8 Mm Mm' ∧ TB M' Mm') := by
  obtain ⟨c, m, tk⟩ := id t
  have h7 := c.2.2.2.2.2.2.1
  rcases wIs_01 B s e k a with q | q
  · refine Or.inl ⟨0, M, Mm, s, e, k, ?_, ?_, ?_, TF.rf M, MU.rf Mm, t, Nat.le_refl _⟩
    · rw [bt_0iff]; intro i hi; rw [b_and, b_0]; rfl
    · simp only [f_X8_passSet, gO_120, gd_tt, kc_120_0 h, gN_1, tn_1, gO_1, h7, if_true, c_word h c tk w, q, b1_s]
    · simp only [f_X10_readSet, gO_136, gd_tt, m_word' hm m tk w, q, b1_s, if_true]
  · have n10 : ¬ (1 : Int32) = 0 := by decide
    obtain ⟨M1, Mm1, s1, e1, k1, x1, x2, x3, x4, x5, x6⟩ := t_adv h hm t
    have hs1 : s1 ≤ n := Nat.le_trans x5.2.2.1 x5.2.2.2.1
    have hn := c.1
    have h0 : (0 : Int32) &&& (x ^^^ (-1)) = 0 := by rw [bt_0iff]; intro i hi; rw [b_and, b_0]; rfl
    have r600 : (600 : Int32) = nI (600 - 0) := rfl
    rcases t_setLoop (x := x) (n - s1) M1 Mm1 s1 e1 k1 0 0 20000 20000 (x3.kc h) (x4.kc hm) x5 rfl (Nat.zero_le _) (by omega) (by omega) h0 with ⟨v, M2, Mm2, s2, e2, k2, y1, y2, y3, y4, y5, y6, y7⟩ | ⟨u, M2, Mm2, y1, y2, y3, y4, y5⟩
    · refine Or.inl ⟨v, M2, Mm2, s2, e2, k2, y1, ?_, ?_, x3.tr y4, x4.tr y5, y6, ?_⟩
      · simp only [f_X8_passSet, gO_120, gd_tt, kc_120_0 h, gN_1, tn_1, gO_1, h7, if_true, c_word h c tk w, q, b1_s, if_neg n10, x1, r600, y2]
        rfl
      · simp only [f_X10_readSet, gO_136, gd_tt, m_word' hm m tk w, q, b1_s, if_neg n10, x2, y3]
      · have := tk.1; omega
    · refine Or.inr ⟨u, M2, Mm2, ?_, ?_, x3.f8.tr y3, x4.u8.tr y4, y5⟩
      · simp only [f_X8_passSet, gO_120, gd_tt, kc_120_0 h, gN_1, tn_1, gO_1, h7, if_true, c_word h c tk w, q, b1_s, if_neg n10, x1, r600, y1]
        rfl
      · simp only [f_X10_readSet, gO_136, gd_tt, m_word' hm m tk w, q, b1_s, if_neg n10, x2, y2]
end NA
