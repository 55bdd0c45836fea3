theorem m_item {m : fw_Mem} {σ : sTx} (h : KC m) (c : MSp m σ) (hl : σ.1 + 7 ≤ 300) {t d s : Nat} (ht : t < 31) (hd : d < 10) (x2 x3 : Int32) (y : Bool) (hx2 : hv x2 (nI t) = true) (hx3 : hv x3 (nI t) = y) (hho : ∀ m', MSF m m' → f_X10_holderOf st_S m' 136 (nI s) (nI t) = some (nI d)) (n : Nat) : ∃ m', lf_X10_say_43 st_S 136 (nI s) x2 x3 (n + 1) (nI t) m = lf_X10_say_43 st_S 136 (nI s) x2 x3 n (nI (t + 1)) m' ∧ MSp m' (appI σ t y d) ∧ MSF m m' := by
  have hn : ¬ (31 : Int32) ≤ nI t := nI_ge (b := 31) ht (by omega)
  have rest : ∀ (m0 : fw_Mem) (σ0 : sTx), KC m0 → MSp m0 σ0 → σ0.1 ≤ σ.1 + 1 → ∃ m1 m2 m3 m4, f_X10_writesNumber st_S m0 136 (nI t) = some m1 ∧ f_X10_writes st_S m1 136 (if y then 121 else 110) = some m2 ∧ f_X10_writes st_S m2 136 64 = some m3 ∧ f_X10_writesNumber st_S m3 136 (nI d) = some m4 ∧ MSp m4 (appN (app (app (appN σ0 t) (if y then 121 else 110)) 64) d) ∧ MSF m0 m4 ∧ MSF m0 m3 := by
    intro m0 σ0 h0 c0 hl0
    obtain ⟨m1, a1, a2, a3⟩ := m_num h0 c0 (by omega) ht
    have l1 := appN_1 σ0 t
    obtain ⟨m2, b1', b2', b3'⟩ := m_app (a3.kc h0) a2 (by omega) (show (if y then (121 : Int32) else 110) = nI (if y then 121 else 110) by cases y <;> rfl)
    obtain ⟨m3, c1', c2', c3'⟩ := m_app (b3'.kc (a3.kc h0)) b2' (by rw [app_1]; omega) (x := 64) (k := 64) rfl
    obtain ⟨m4, d1', d2', d3'⟩ := m_num (c3'.kc (b3'.kc (a3.kc h0))) c2' (by rw [app_1, app_1]; omega) (show d < 31 by omega)
    exact ⟨m1, m2, m3, m4, a1, b1', c1', d1', d2', ((a3.tr b3').tr c3').tr d3', (a3.tr b3').tr c3'⟩
  by_cases h0 : σ.1 = 0
  · obtain ⟨m1, m2, m3, m4, a1, a2, a3, a4, a5, a6, a7⟩ := rest m σ h c (by omega)
    have hz : nI σ.1 ≤ 0 := by rw [h0]; decide
    have hh := hho m3 a7
    refine ⟨m4, ?_, by rw [appI, if_pos h0]; exact a5, a6⟩
    simp only [lf_X10_say_43, if_neg hn, e_has, hx2, hx3, bI_t, b1_s, i10, if_false, gO_136, gd_tt, c.1, if_pos hz, a1, bI_0, nI_1]
    cases y <;> simp at a2 <;> simp [a2, a3, hh, a4, b1_s]
  · obtain ⟨m0, b1', b2', b3'⟩ := m_app h c (by omega) (x := 44) (k := 44) rfl
    obtain ⟨m1, m2, m3, m4, a1, a2, a3, a4, a5, a6, a7⟩ := rest m0 (app σ 44) (b3'.kc h) b2' (by rw [app_1]; omega)
    have hz : ¬ nI σ.1 ≤ 0 := nI_nle (by omega) (by omega)
    have hh := hho m3 (b3'.tr a7)
    refine ⟨m4, ?_, by rw [appI, if_neg h0]; exact a5, b3'.tr a6⟩
    simp only [lf_X10_say_43, if_neg hn, e_has, hx2, hx3, bI_t, b1_s, i10, if_false, gO_136, gd_tt, c.1, if_neg hz, b1', a1, bI_0, nI_1]
    cases y <;> simp at a2 <;> simp [a2, a3, hh, a4, b1_s]
def spc (b j : Nat) : Bool := (b == 133 && !(j == 0)) || b == 134 || b == 146 || (b == 136 && j == 13)
def XG (M M' : fw_Mem) : Prop := ∀ b j, dd b j = false → spc b j = false → M' b j = M b j
theorem XG.tr {a b c : fw_Mem} (h : XG a b) (h2 : XG b c) : XG a c := fun x j h3 h4 => (h2 x j h3 h4).trans (h x j h3 h4)
theorem AG.xg {a b : fw_Mem} (h : AG a b) : XG a b := fun x j h3 _ => h x j h3
theorem SF.xg {a b : fw_Mem} (f : SF a b) : XG a b := fun x j _ h4 => by
  simp [spc] at h4
  by_cases e : x = 133
  · subst e
    have : j = 0 := by have := h4.1.1.1; simpa using this
    rw [this]; exact f.2
  · rw [f.1 x e h4.1.1.2]
theorem MSF.xg {a b : fw_Mem} (f : MSF a b) : XG a b := fun x j _ h4 => by
  simp [spc] at h4
  by_cases e : x = 136
  · subst e
    exact f.2 j (by have := h4.2; simpa using this)
  · rw [f.1 x e h4.1.2]
theorem XG.iv {M M' : fw_Mem} {P L N A T U U' : Nat} {h : Bool} (I : IV M P L N A T U h) (g : XG M M') (sp' : M' 133 1 = nI U' ∧ M' 136 13 = nI U' ∧ U' ≤ 256 ∧ ∀ i, i < U' → M' 134 i = M' 146 i) : IV M' P L N A T U' h := by
  have tp := I.2.2.2.2.2.2.2.1
  refine iv_gen I (fun b j h1 h2 => g b j h1 ?_) ?_ sp'
  · simp [xx] at h2
    simp [spc]
    refine ⟨⟨⟨?_, h2.1.1.1.1.2⟩, h2.1.1.1.2⟩, ?_⟩
    · exact h2.1.1.2
    · intro e
      exact (h2.2 e).1.1
  · rw [g 1 1 rfl rfl, g 136 15 rfl rfl, g 1 8 rfl rfl, g 136 23 rfl rfl, show M' 2 = M 2 from funext fun j => g 2 j rfl rfl, show M' 147 = M 147 from funext fun j => g 147 j rfl rfl]
    exact tp
theorem fc_cases (q : Nat → Int32) (b H Y : Int32) : z_fc q b H Y = -1 ∨ ∃ k, k < 3 ∧ z_fc q b H Y = nI k := by
  unfold z_fc
  split
  · split
    · split
      · split
        · exact Or.inr ⟨0, by omega, rfl⟩
        · exact Or.inl rfl
      · exact Or.inr ⟨1, by omega, rfl⟩
    · exact Or.inr ⟨1, by omega, rfl⟩
  · exact Or.inr ⟨2, by omega, rfl⟩
theorem q_say {M : fw_Mem} (I : INV M) (x : Int32) : QOK (f_L_say st_S M 0 x 148) (fun M1 => f_X10_say st_S M1 136 x) := by
  obtain ⟨P, L, N, A, T, U, hh, iv⟩ := id I
  obtain ⟨h, w, pp, r3, c, -⟩ := id iv
  have n10 := w.n
  by_cases hx : ∃ s, s < N ∧ x = nI s
  rotate_left
  · exact qok1 I (M1 := M) (k := 1) (by decide) (by simp only [f_L_say, f_X9_say, gO_0, gd_tt, kc_0_5 h, gN_121, tn_121, gO_121, b1_s, b2_s, bxl, bxr, bn_s, gA_148_0, bm_s, if_true, if_false, i10, i00, c_suitNo h c.1.1 w.n hx]) (AG.rf M) (fun k1 e => ⟨0, _, by simp only [f_X10_say, gO_136, gd_tt, bm_s, ms_no (kc_136 k1 0) ((s137 _ _).trans e) w hx, b1_s, i00, if_true, m_fail, b2_s], mc_ff M 0 1⟩)
  obtain ⟨s, hs, rfl⟩ := hx
  obtain ⟨hg, e0, eq⟩ := c.at' h w.n hs
  have hqq : QQ (cq M (32 + s)) := by rw [eq]; exact (w.q hs).qq w.1.1
  obtain ⟨M4, f1, f2⟩ := c_forced h w c hg (by omega) hqq
  rw [eq, e0] at f1
  have k4 := f2.kc h
  have c4 : CR M4 (M 137) L N := CR.bf f2 n10 c
  have eq4 : cq M4 (32 + s) = sq (M 137) s := (c4.2 s hs).1
  obtain ⟨M7, w1, w2, w3, w4, w5⟩ := c_weigh k4 w c4 hg (by omega) (by omega) (by rw [eq4]; exact (w.q hs).qq w.1.1)
  have e04 : M4 (32 + s) 0 = nI s := kc_n3 k4 (by omega)
  rw [eq4, e04] at w4
  simp only [eq4, e04] at w3
  have k7 := w2.kc k4
  let zo : Nat → Option Nat := fun t => if bt (q_is (sq (M 137) s)) t = true then z_h (M 137) L N (nI s) (sq (M 137) s) t else none
  let yy : Nat → Bool := fun t => bt (z_yes (sq (M 137) s) (z_h (M 137) L N (nI s) (sq (M 137) s)) (z_y (M 137))) t
  have hzo : ∀ t d, zo t = some d → d < 10 := fun t d hd => by
    simp only [zo] at hd
    split at hd
    · have : d < N := z_ho_lt hd
      omega
    · cases hd
  have hlen : ∀ t, t ≤ 31 → (sgm zo yy t).1 + 7 ≤ 256 := fun t ht => by have := sgm_1 (y := yy) hzo t; omega
  have s11 : CSp (fw_set M7 133 1 0) (sgm zo yy 0) := ⟨set_eq _ _ _ _, fun i hi => absurd hi (by simp [sgm])⟩
  have sf11 : SF M7 (fw_set M7 133 1 0) := ⟨fun b b1 _ => set_nr _ _ _ b1, set_nk _ _ _ _ (by decide)⟩
  obtain ⟨mC, l1, l2, l3⟩ := lp_up (fun n (m : fw_Mem) t => lf_X9_say_34 st_S 0 (z_fc (sq (M 137) s) (z_bars (M 137 3) (M 137 4) (nI s) (sq (M 137) s) (sq (M 137)) (BDr (M 137) L) N) (z_held (sq (M 137) s) (z_h (M 137) L N (nI s) (sq (M 137) s))) (z_yes (sq (M 137) s) (z_h (M 137) L N (nI s) (sq (M 137) s)) (z_y (M 137)))) n (nI t) m) 31 (fun t m => CSp m (sgm zo yy t) ∧ SF M7 m) (fun m => CSp m (sgm zo yy 31) ∧ SF M7 m)
    (by
      rintro n t m ht ⟨i1, i2⟩
      have hm := i2.kc k7
      have hn : ¬ (31 : Int32) ≤ nI t := nI_ge (b := 31) ht (by omega)
      have e122 : m 122 t = oI (zo t) := by rw [i2.1 122 (by decide) (by decide)]; exact w3 t ht
      have e121 : m 121 6 = z_yes (sq (M 137) s) (z_h (M 137) L N (nI s) (sq (M 137) s)) (z_y (M 137)) := by rw [i2.1 121 (by decide) (by decide)]; exact w4
      have hgA := gA_122 ht
      cases hz : zo t with
      | none =>
        rw [hz] at e122
        refine ⟨m, ⟨by rw [sgm, hz]; exact i1, i2⟩, ?_⟩
        simp only [lf_X9_say_34, if_neg hn, gO_0, gd_tt, kc_0_5 hm, gN_121, tn_121, gO_121, kc_121_1 hm, gN_122, tn_122, hgA, nI_cl (show t < 2147483648 by omega), e122, oI, bm_s, if_true, nI_1]
      | some d =>
        rw [hz] at e122
        have hd := hzo t d hz
        obtain ⟨m', a1, a2, a3⟩ := c_item hm i1 (hlen t (by omega)) ht hd (yy t)
        refine ⟨m', ⟨by rw [sgm, hz]; exact a2, i2.tr a3⟩, ?_⟩
        simp only [lf_X9_say_34, if_neg hn, gO_0, gd_tt, kc_0_5 hm, gN_121, tn_121, gO_121, kc_121_1 hm, gN_122, tn_122, hgA, nI_cl (show t < 2147483648 by omega), e122, oI, nI_m1 (show d < 2147483648 by omega), bm_s, if_false, kc_0_8 hm, gN_133, tn_133, gO_133, e121, and1, hv_lo, hv_bt (show t < 32 by omega), nI_1]
        cases hy : bt (z_yes (sq (M 137) s) (z_h (M 137) L N (nI s) (sq (M 137) s)) (z_y (M 137))) t
        · rw [show yy t = false from hy, bI_f] at a1
          simp [a1, b1_s]
        · rw [show yy t = true from hy, bI_t] at a1
          simp [a1, b1_s])
    (by
      rintro n m hm
      exact ⟨m, by simp only [lf_X9_say_34, if_pos (show (31 : Int32) ≤ nI 31 by decide)], hm⟩) _ 0 20000 (fw_set M7 133 1 0) rfl (by omega) (by omega) ⟨s11, sf11⟩
  have l1' : lf_X9_say_34 st_S 0 (z_fc (sq (M 137) s) (z_bars (M 137 3) (M 137 4) (nI s) (sq (M 137) s) (sq (M 137)) (BDr (M 137) L) N) (z_held (sq (M 137) s) (z_h (M 137) L N (nI s) (sq (M 137) s))) (z_yes (sq (M 137) s) (z_h (M 137) L N (nI s) (sq (M 137) s)) (z_y (M 137)))) 20000 0 (fw_set M7 133 1 0) = some mC := l1
  generalize hF : z_fc (sq (M 137) s) (z_bars (M 137 3) (M 137 4) (nI s) (sq (M 137) s) (sq (M 137)) (BDr (M 137) L) N) (z_held (sq (M 137) s) (z_h (M 137) L N (nI s) (sq (M 137) s))) (z_yes (sq (M 137) s) (z_h (M 137) L N (nI s) (sq (M 137) s)) (z_y (M 137))) = F at f1 l1'
  have hFc : F = -1 ∨ ∃ k, k < 3 ∧ F = nI k := by rw [← hF]; exact fc_cases _ _ _ _
  let fin : sTx := if F = -1 then sgm zo yy 31 else appN (app (sgm zo yy 31) 33) F.toNatClampNeg
  have h31 := sgm_1 (y := yy) hzo 31
  have hfin : fin.1 ≤ 256 := by
    simp only [fin]
    split
    · omega
    · have := appN_1 (app (sgm zo yy 31) 33) F.toNatClampNeg
      rw [app_1] at this
      omega
  have kC := l3.kc k7
  -- the class
  have hclass : ∃ M1, f_X9_say st_S M 0 (nI s) = some (.inl (nI fin.1), M1) ∧ CSp M1 fin ∧ SF M7 M1 := by
    rcases hFc with e | ⟨k, hk, e⟩
    · refine ⟨mC, ?_, by simp only [fin, if_pos e]; exact l2, l3⟩
      have : fin.1 = (sgm zo yy 31).1 := by simp only [fin, if_pos e]
      rw [this]
      simp only [f_X9_say, gO_0, gd_tt, kc_0_5 h, gN_121, tn_121, gO_121, b1_s, b2_s, bxl, bxr, bn_s, gA_148_0, bm_s, if_true, if_false, i10, i00, c_suitAt h c.1.1 w.n hs, f1, kc_0_5 k4, w1, kc_0_8 k7, gN_133, tn_133, gO_133, l1', if_pos e, kc_0_8 kC, l2.1]
    · have hne : ¬ F = -1 := by rw [e, nI_m1 (by omega)]; exact id
      obtain ⟨m1, a1, a2, a3⟩ := c_app kC l2 (by omega) (show 33 < 128 by omega) (x := 33) rfl
      obtain ⟨m2, b1', b2', b3'⟩ := c_num (a3.kc kC) a2 (by rw [app_1]; omega) (show k < 31 by omega)
      have ef : fin = appN (app (sgm zo yy 31) 33) k := by simp only [fin, if_neg hne, e, nI_cl (show k < 2147483648 by omega)]
      refine ⟨m2, ?_, by rw [ef]; exact b2', (l3.tr a3).tr b3'⟩
      rw [ef]
      have k1 := a3.kc kC
      have k2 := b3'.kc k1
      rw [← e] at b1'
      simp only [f_X9_say, gO_0, gd_tt, kc_0_5 h, gN_121, tn_121, gO_121, b1_s, b2_s, bxl, bxr, bn_s, gA_148_0, bm_s, if_true, if_false, i10, i00, c_suitAt h c.1.1 w.n hs, f1, kc_0_5 k4, w1, kc_0_8 k7, gN_133, tn_133, gO_133, l1', if_neg hne, kc_0_8 kC, a1, kc_0_8 k1, b1', kc_0_8 k2, b2'.1]
  obtain ⟨M1, x1, x2, x3⟩ := hclass
  have xg1 : XG M (fw_set M1 148 0 (nI fin.1)) := ((f2.ag.xg.tr w2.ag.xg).tr x3.xg).tr ((AG.rf M1).st 148 0 _ rfl).xg
  -- the model
  have kB0 : KC (fw_set M1 148 0 (nI fin.1)) := kc_148 (x3.kc k7) _
  have eB0 : fw_set M1 148 0 (nI fin.1) 137 = M 137 := funext fun j => xg1 137 j rfl rfl
  generalize hB0 : fw_set M1 148 0 (nI fin.1) = B0 at xg1 kB0 eB0
  obtain ⟨B, h1, h2, h3, h4, h5, h6, h7⟩ := m_lay0 kB0 eB0 w
  have f6 : MSF B (fw_set B 136 13 0) := ⟨fun b b1 _ => set_nr _ _ _ b1, fun j hj => set_nk _ _ _ _ hj⟩
  have q0 : ∀ {m : fw_Mem}, MSF B m → KC m ∧ m 137 = M 137 ∧ ∀ k, k < 2 * N → m 141 k = BDr (M 137) L k := fun {m} f => ⟨f.kc h4, by rw [f.1 137 (by decide) (by decide)]; exact h3, fun k hk => by rw [f.1 141 (by decide) (by decide)]; exact h5 k hk⟩
  obtain ⟨k6, e6, b6⟩ := q0 f6
  have a1 := mb_held k6 e6 w b6 hs
  have a2 := mb_yes k6 e6 w b6 hs
  have hheld : ∀ t, t < 31 → (hv (z_held (sq (M 137) s) (z_h (M 137) L N (nI s) (sq (M 137) s))) (nI t) = (zo t).isSome) := fun t ht => by
    rw [hv_bt (by omega), z_held, bt_mk _ 31 (by omega)]
    simp only [ht, decide_true, Bool.true_and, z_heldP, hs_bt (show t < 32 by omega), zo]
    cases bt (q_is (sq (M 137) s)) t <;> simp
  obtain ⟨mM, n1, n2, n3⟩ := lp_up (fun n (m : fw_Mem) t => lf_X10_say_43 st_S 136 (nI s) (z_held (sq (M 137) s) (z_h (M 137) L N (nI s) (sq (M 137) s))) (z_yes (sq (M 137) s) (z_h (M 137) L N (nI s) (sq (M 137) s)) (z_y (M 137))) n (nI t) m) 31 (fun t m => MSp m (sgm zo yy t) ∧ MSF B m) (fun m => MSp m (sgm zo yy 31) ∧ MSF B m)
    (by
      rintro n t m ht ⟨i1, i2⟩
      have hn : ¬ (31 : Int32) ≤ nI t := nI_ge (b := 31) ht (by omega)
      have hht := hheld t ht
      cases hz : zo t with
      | none =>
        rw [hz] at hht
        refine ⟨m, ⟨by rw [sgm, hz]; exact i1, i2⟩, ?_⟩
        simp only [lf_X10_say_43, if_neg hn, e_has, hht, Option.isSome, bI_f, b1_s, i00, if_true, nI_1]
      | some d =>
        rw [hz] at hht
        have hd := hzo t d hz
        have hdz : z_h (M 137) L N (nI s) (sq (M 137) s) t = some d := by
          simp only [zo] at hz
          split at hz
          · exact hz
          · cases hz
        obtain ⟨m', p1, p2, p3⟩ := m_item (q0 i2).1 i1 (by have := hlen t (by omega); omega) (s := s) ht hd _ (z_yes (sq (M 137) s) (z_h (M 137) L N (nI s) (sq (M 137) s)) (z_y (M 137))) (yy t) hht (hv_bt (by omega)) (fun m' f => by
          obtain ⟨j1, j2, j3⟩ := q0 (i2.tr f)
          rw [mb_ho j1 j2 w j3 hs t, hdz]
          rfl) n
        exact ⟨m', ⟨by rw [sgm, hz]; exact p2, i2.tr p3⟩, p1⟩)
    (by
      rintro n m hm
      exact ⟨m, by simp only [lf_X10_say_43, if_pos (show (31 : Int32) ≤ nI 31 by decide)], hm⟩) _ 0 20000 (fw_set B 136 13 0) rfl (by omega) (by omega) ⟨⟨set_eq _ _ _ _, fun i hi => absurd hi (by simp [sgm])⟩, f6⟩
  have n1' : lf_X10_say_43 st_S 136 (nI s) (z_held (sq (M 137) s) (z_h (M 137) L N (nI s) (sq (M 137) s))) (z_yes (sq (M 137) s) (z_h (M 137) L N (nI s) (sq (M 137) s)) (z_y (M 137))) 20000 0 (fw_set B 136 13 0) = some mM := n1
  obtain ⟨kM, eM, bM⟩ := q0 n3
  have aF := mb_forced kM eM w bM hs
  rw [hF] at aF
  have hmodel : ∃ M2, f_X10_say st_S B0 136 (nI s) = some (nI fin.1, M2) ∧ MSp M2 fin ∧ MSF B M2 := by
    rcases hFc with e | ⟨k, hk, e⟩
    · have ef : fin = sgm zo yy 31 := by simp only [fin, if_pos e]
      refine ⟨mM, ?_, by rw [ef]; exact n2, n3⟩
      rw [ef]
      simp only [f_X10_say, gO_136, gd_tt, bm_s, ms_ok h6 h7 w hs, b1_s, i10, if_false, h1, a1, a2, n1', aF, if_pos e, n2.1]
    · have hne : ¬ F = -1 := by rw [e, nI_m1 (by omega)]; exact id
      obtain ⟨m1, p1, p2, p3⟩ := m_app kM n2 (by omega) (x := 33) (k := 33) rfl
      obtain ⟨m2, b1', b2', b3'⟩ := m_num (p3.kc kM) p2 (by rw [app_1]; omega) (show k < 31 by omega)
      have ef : fin = appN (app (sgm zo yy 31) 33) k := by simp only [fin, if_neg hne, e, nI_cl (show k < 2147483648 by omega)]
      refine ⟨m2, ?_, by rw [ef]; exact b2', (n3.tr p3).tr b3'⟩
      rw [ef]
      rw [← e] at b1'
      simp only [f_X10_say, gO_136, gd_tt, bm_s, ms_ok h6 h7 w hs, b1_s, i10, if_false, h1, a1, a2, n1', aF, if_neg hne, p1, b1', b2'.1]
  obtain ⟨M2, y1, y2, y3⟩ := hmodel
  have xg2 : XG M M2 := (xg1.tr h2.1.ag.xg).tr y3.xg
  have r133 : M2 133 = M1 133 := by rw [y3.1 133 (by decide) (by decide), h2.1.1 133 (by decide) (by omega), ← hB0, set_nr _ _ _ (by decide)]
  have r134 : M2 134 = M1 134 := by rw [y3.1 134 (by decide) (by decide), h2.1.1 134 (by decide) (by omega), ← hB0, set_nr _ _ _ (by decide)]
  have r148 : M2 148 0 = nI fin.1 := by rw [y3.1 148 (by decide) (by decide), h2.1.1 148 (by decide) (by omega), ← hB0, set_eq]
  refine ⟨0, B0, nI fin.1, M2, ?_, y1, ?_, fun _ => r148, ⟨P, L, N, A, T, fin.1, hh, xg2.iv iv ⟨by rw [r133]; exact x2.1, y2.1, hfin, fun i hi => by rw [r134, x2.2 i hi, y2.2 i hi]⟩⟩⟩
  · rw [← hB0]
    simp only [f_L_say, gO_0, gd_tt, kc_0_5 h, gN_121, tn_121, gO_121, b1_s, b2_s, bxl, bxr, bn_s, gA_148_0, bm_s, if_true, if_false, i10, i00, x1]
  · rw [y3.2 6 (by decide)]; exact h2.2
