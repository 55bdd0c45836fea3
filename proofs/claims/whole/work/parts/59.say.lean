/-! ===== say ===== -/
def xx (b j : Nat) : Bool := b == 2 || b == 147 || b == 134 || b == 146 || (b == 133 && !(j == 0)) || (b == 1 && !(j == 0)) || (b == 136 && (j == 13 || j == 15 || j == 23))
theorem iv_gen {M M' : fw_Mem} {P L N A T U T' U' : Nat} {h : Bool} (I : IV M P L N A T U h) (g : ∀ b j, dd b j = false → xx b j = false → M' b j = M b j)
    (tp' : M' 1 1 = nI T' ∧ M' 136 15 = nI T' ∧ T' ≤ 600 ∧ TP (M' 2) (M' 147) T' ∧ M' 1 8 = M' 136 23) (sp' : M' 133 1 = nI U' ∧ M' 136 13 = nI U' ∧ U' ≤ 256 ∧ ∀ i, i < U' → M' 134 i = M' 146 i) : IV M' P L N A T' U' h := by
  obtain ⟨k, w, ⟨p1, p2, p3⟩, r3, c, im, ac, tp, sp⟩ := I
  have n10 := w.1.2.2
  have l24 := w.1.2.1
  have e : ∀ b, (dr b && !(b == 1)) = true → (b == 2 || b == 147 || b == 134 || b == 146 || b == 133) = false → M' b = M b := fun b hb hx => funext fun j => g b j (dd_row hb j) (by
    have hb1 : (b == 1) = false := by simp at hb ⊢; exact hb.2
    have h136 : (b == 136) = false := by simp [dr] at hb ⊢; omega
    simp at hx
    simp [xx, hx, hb1, h136])
  have e137 := e 137 rfl rfl
  refine ⟨?_, by rw [e137]; exact w, ⟨?_, ?_, ?_⟩, ?_, ?_, ?_, ?_, tp', sp'⟩
  · refine kc_cong k fun q hq => ?_
    have h2 := List.all_eq_true.mp (by decide +kernel : (kcl.all fun q => !dd q.1 q.2.1 && !xx q.1 q.2.1) = true) q hq
    simp at h2
    exact g _ _ h2.1 h2.2
  · unfold cLP; rw [e (3 + 2) rfl rfl]; exact p1
  · unfold cLP; rw [e (42 + 2) rfl rfl]; exact p2
  · unfold cLP; rw [e (81 + 2) rfl rfl]; exact p3
  · rw [e137]
    exact RW.fr p1 (by omega) l24 n10 (fun b h1 h2 => e b (by simp [dr]; omega) (by simp; omega)) r3
  · rw [e137]
    refine ⟨by rw [e 3 rfl rfl, e 7 rfl rfl]; exact c.1, fun i hi => ?_⟩
    have ei := e (32 + i) (by simp [dr]; omega) (by simp; omega)
    rw [cq_fr ei, ei]; exact c.2 i hi
  · refine ⟨by rw [e 0 rfl rfl]; exact im.1, by rw [g 136 4 rfl rfl]; exact im.2.1, fun hh => ?_⟩
    obtain ⟨P', L', N', w', r'⟩ := im.2.2 hh
    refine ⟨P', L', N', by rw [e 139 rfl rfl]; exact w', ?_⟩
    rw [e 139 rfl rfl]
    exact RW.fr p3 (by omega) w'.1.2.1 w'.1.2.2 (fun b h1 h2 => e b (by simp [dr]; omega) (by simp; omega)) r'
  · rw [e 131 rfl rfl, e 132 rfl rfl, e 140 rfl rfl, e137, g 136 5 rfl rfl]; exact ac
abbrev sTx : Type := Nat × (Nat → Int32)
def app (σ : sTx) (k : Nat) : sTx := (σ.1 + 1, upd σ.2 σ.1 (nI k))
def appN (σ : sTx) (k : Nat) : sTx := if k < 10 then app σ (48 + k % 10) else app (app σ (48 + k / 10)) (48 + k % 10)
def appI (σ : sTx) (t : Nat) (y : Bool) (d : Nat) : sTx := appN (app (app (appN (if σ.1 = 0 then σ else app σ 44) t) (if y then 121 else 110)) 64) d
def sgm (zo : Nat → Option Nat) (y : Nat → Bool) : Nat → sTx
  | 0 => (0, fun _ => 0)
  | t + 1 => match zo t with
    | none => sgm zo y t
    | some d => appI (sgm zo y t) t (y t) d
theorem app_1 (σ : sTx) (k : Nat) : (app σ k).1 = σ.1 + 1 := rfl
theorem appN_1 (σ : sTx) (k : Nat) : (appN σ k).1 ≤ σ.1 + 2 := by unfold appN; split <;> simp [app_1]
theorem appI_1 (σ : sTx) (t : Nat) (y : Bool) {d : Nat} (hd : d < 10) : (appI σ t y d).1 ≤ σ.1 + 6 := by
  unfold appI
  have h1 := appN_1 (if σ.1 = 0 then σ else app σ 44) t
  have h2 : (if σ.1 = 0 then σ else app σ 44).1 ≤ σ.1 + 1 := by split <;> simp [app_1]
  rw [appN, if_pos hd]
  simp only [app_1]
  omega
theorem sgm_1 {zo : Nat → Option Nat} {y : Nat → Bool} (hz : ∀ t d, zo t = some d → d < 10) : ∀ t, (sgm zo y t).1 ≤ 6 * t
  | 0 => Nat.le_refl _
  | t + 1 => by
    have ih := sgm_1 (y := y) hz t
    rw [sgm]
    split
    · omega
    · rename_i d hd
      have := appI_1 (sgm zo y t) t (y t) (hz t d hd)
      omega
/-! the class's speech -/
def CSp (m : fw_Mem) (σ : sTx) : Prop := m 133 1 = nI σ.1 ∧ ∀ i, i < σ.1 → m 134 i = σ.2 i
def SF (m m' : fw_Mem) : Prop := (∀ b, b ≠ 133 → b ≠ 134 → m' b = m b) ∧ m' 133 0 = m 133 0
theorem SF.rf (m : fw_Mem) : SF m m := ⟨fun _ _ _ => rfl, rfl⟩
theorem SF.tr {a b c : fw_Mem} (h : SF a b) (h2 : SF b c) : SF a c := ⟨fun x x1 x2 => (h2.1 x x1 x2).trans (h.1 x x1 x2), h2.2.trans h.2⟩
theorem SF.kc {m m' : fw_Mem} (f : SF m m') (h : KC m) : KC m' := by
  refine kc_cong h fun q hq => ?_
  have h2 := List.all_eq_true.mp (by decide +kernel : (kcl.all fun q => !(q.1 == 134) && (!(q.1 == 133) || q.2.1 == 0)) = true) q hq
  simp at h2
  rcases h2.2 with e | e
  · rw [f.1 _ e h2.1]
  · by_cases e1 : q.1 = 133
    · rw [e, e1]; exact f.2
    · rw [f.1 _ e1 h2.1]
theorem sx_asc : ∀ k, k < 128 → vp_nar .byte ((nI k).toInt8.toInt32) = nI k := by decide +kernel
theorem c_app {m : fw_Mem} {σ : sTx} (h : KC m) (c : CSp m σ) (hl : σ.1 < 256) {k : Nat} (hk : k < 128) {x : Int32} (hx : x = nI k) : ∃ m', f_X5_addSign st_S m 133 x = some m' ∧ CSp m' (app σ k) ∧ SF m m' := by
  subst hx
  have hn : ¬ (256 : Int32) ≤ nI σ.1 := nI_ge (b := 256) hl (by omega)
  refine ⟨fw_set (fw_set m 134 σ.1 (nI k)) 133 1 (nI (σ.1 + 1)), ?_, ⟨set_eq _ _ _ _, fun i hi => ?_⟩, ⟨fun b h1 h2 => by rw [set_nr _ _ _ h1, set_nr _ _ _ h2], by rw [set_nk _ _ _ _ (by decide), set_na _ _ _ _ (by decide)]⟩⟩
  · simp only [f_X5_addSign, gO_133, gd_tt, c.1, if_neg hn, kc_133_0 h, gN_134, tn_134, gA_134 hl, nI_cl (show σ.1 < 2147483648 by omega), sx_asc k hk, bm_s, set_na _ _ _ _ (show (133 : Nat) ≠ 134 by decide), nI_1]
  · rw [set_na _ _ _ _ (by decide)]
    simp only [app, upd] at hi ⊢
    by_cases e : i = σ.1
    · subst e; rw [set_eq, if_pos rfl]
    · rw [set_nk _ _ _ _ e, if_neg e]; exact c.2 i (by omega)
theorem dig1 : ∀ k, k < 31 → (((48 : Int32) + (nI k - nI k / 10 * 10) : Int32).toUInt32 % 65536).toInt32 = nI (48 + k % 10) := by decide +kernel
theorem dig2 : ∀ k, k < 31 → (((48 : Int32) + (nI k / 10) : Int32).toUInt32 % 65536).toInt32 = nI (48 + k / 10) := by decide +kernel
theorem dig3 : ∀ k, k < 31 → (48 : Int32) + (nI k - nI k / 10 * 10) = nI (48 + k % 10) := by decide +kernel
theorem dig4 : ∀ k, k < 31 → (48 : Int32) + (nI k / 10) = nI (48 + k / 10) := by decide +kernel
theorem c_num {m : fw_Mem} {σ : sTx} (h : KC m) (c : CSp m σ) (hl : σ.1 + 2 ≤ 256) {k : Nat} (hk : k < 31) : ∃ m', f_X5_addNumber st_S m 133 (nI k) = some m' ∧ CSp m' (appN σ k) ∧ SF m m' := by
  by_cases h10 : k < 10
  · obtain ⟨m', a1, a2, a3⟩ := c_app h c (by omega) (show 48 + k % 10 < 128 by omega) (dig1 k hk)
    have hl10 : nI k < (10 : Int32) := nI_lt (b := 10) h10 (by omega)
    refine ⟨m', by simp only [f_X5_addNumber, if_pos hl10, gO_133, gd_tt, a1, b1_s], ?_, a3⟩
    rw [appN, if_pos h10]; exact a2
  · obtain ⟨m1, a1, a2, a3⟩ := c_app h c (by omega) (show 48 + k / 10 < 128 by omega) (dig2 k hk)
    obtain ⟨m2, b1', b2', b3'⟩ := c_app (a3.kc h) a2 (by rw [app_1]; omega) (show 48 + k % 10 < 128 by omega) (dig1 k hk)
    have hl10 : ¬ nI k < (10 : Int32) := fun q => h10 ((nI_ltI (b := 10) (by omega) (by omega)).mp q)
    refine ⟨m2, by simp only [f_X5_addNumber, fj_X5_addNumber_18, if_neg hl10, gO_133, gd_tt, a1, b1_s, b1'], ?_, a3.tr b3'⟩
    rw [appN, if_neg h10]; exact b2'
theorem c_item {m : fw_Mem} {σ : sTx} (h : KC m) (c : CSp m σ) (hl : σ.1 + 7 ≤ 256) {t d : Nat} (ht : t < 31) (hd : d < 10) (y : Bool) : ∃ m', f_X5_addHeld st_S m 133 (nI t) (bI y) (nI d) = some m' ∧ CSp m' (appI σ t y d) ∧ SF m m' := by
  have rest : ∀ (m0 : fw_Mem) (σ0 : sTx), KC m0 → CSp m0 σ0 → σ0.1 ≤ σ.1 + 1 → ∃ m1 m2 m3 m4, f_X5_addNumber st_S m0 133 (nI t) = some m1 ∧ f_X5_addSign st_S m1 133 (if y then 121 else 110) = some m2 ∧ f_X5_addSign st_S m2 133 64 = some m3 ∧ f_X5_addNumber st_S m3 133 (nI d) = some m4 ∧ CSp m4 (appN (app (app (appN σ0 t) (if y then 121 else 110)) 64) d) ∧ SF m0 m4 := by
    intro m0 σ0 h0 c0 hl0
    obtain ⟨m1, a1, a2, a3⟩ := c_num h0 c0 (by omega) ht
    have l1 := appN_1 σ0 t
    obtain ⟨m2, b1', b2', b3'⟩ := c_app (a3.kc h0) a2 (by omega) (show (if y then 121 else 110) < 128 by split <;> omega) (show (if y then (121 : Int32) else 110) = nI (if y then 121 else 110) by cases y <;> rfl)
    obtain ⟨m3, c1', c2', c3'⟩ := c_app (b3'.kc (a3.kc h0)) b2' (by rw [app_1]; omega) (show 64 < 128 by omega) (x := 64) rfl
    obtain ⟨m4, d1', d2', d3'⟩ := c_num (c3'.kc (b3'.kc (a3.kc h0))) c2' (by rw [app_1, app_1]; omega) (show d < 31 by omega)
    exact ⟨m1, m2, m3, m4, a1, b1', c1', d1', d2', ((a3.tr b3').tr c3').tr d3'⟩
  by_cases h0 : σ.1 = 0
  · obtain ⟨m1, m2, m3, m4, a1, a2, a3, a4, a5, a6⟩ := rest m σ h c (by omega)
    have hz : nI σ.1 ≤ 0 := by rw [h0]; decide
    refine ⟨m4, ?_, by rw [appI, if_pos h0]; exact a5, a6⟩
    simp only [f_X5_addHeld, gO_133, gd_tt, c.1, if_pos hz, a1, b1_s, bI_0]
    cases y <;> simp at a2 <;> simp [a2, a3, a4, b1_s]
  · obtain ⟨m0, b1', b2', b3'⟩ := c_app h c (by omega) (show 44 < 128 by omega) (x := 44) rfl
    obtain ⟨m1, m2, m3, m4, a1, a2, a3, a4, a5, a6⟩ := rest m0 (app σ 44) (b3'.kc h) b2' (by rw [app_1]; omega)
    have hz : ¬ nI σ.1 ≤ 0 := nI_nle (by omega) (by omega)
    refine ⟨m4, ?_, by rw [appI, if_neg h0]; exact a5, b3'.tr a6⟩
    simp only [f_X5_addHeld, fj_X5_addHeld_13, gO_133, gd_tt, c.1, if_neg hz, b1', a1, b1_s, bI_0]
    cases y <;> simp at a2 <;> simp [a2, a3, a4, b1_s]
/-! the model's text -/
def MSp (m : fw_Mem) (σ : sTx) : Prop := m 136 13 = nI σ.1 ∧ ∀ i, i < σ.1 → m 146 i = σ.2 i
def MSF (m m' : fw_Mem) : Prop := (∀ b, b ≠ 136 → b ≠ 146 → m' b = m b) ∧ ∀ j, j ≠ 13 → m' 136 j = m 136 j
theorem MSF.rf (m : fw_Mem) : MSF m m := ⟨fun _ _ _ => rfl, fun _ _ => rfl⟩
theorem MSF.tr {a b c : fw_Mem} (h : MSF a b) (h2 : MSF b c) : MSF a c := ⟨fun x x1 x2 => (h2.1 x x1 x2).trans (h.1 x x1 x2), fun j hj => (h2.2 j hj).trans (h.2 j hj)⟩
theorem MSF.kc {m m' : fw_Mem} (f : MSF m m') (h : KC m) : KC m' := by
  refine kc_cong h fun q hq => ?_
  have h2 := List.all_eq_true.mp (by decide +kernel : (kcl.all fun q => !(q.1 == 146) && (!(q.1 == 136) || !(q.2.1 == 13))) = true) q hq
  simp at h2
  by_cases e1 : q.1 = 136
  · rcases h2.2 with e | e
    · exact absurd e1 e
    · rw [e1]; exact f.2 _ e
  · rw [f.1 _ e1 h2.1]
theorem m_app {m : fw_Mem} {σ : sTx} (h : KC m) (c : MSp m σ) (hl : σ.1 < 300) {k : Nat} {x : Int32} (hx : x = nI k) : ∃ m', f_X10_writes st_S m 136 x = some m' ∧ MSp m' (app σ k) ∧ MSF m m' := by
  subst hx
  refine ⟨fw_set (fw_set m 146 σ.1 (nI k)) 136 13 (nI (σ.1 + 1)), ?_, ⟨set_eq _ _ _ _, fun i hi => ?_⟩, ⟨fun b h1 h2 => by rw [set_nr _ _ _ h1, set_nr _ _ _ h2], fun j hj => by rw [set_nk _ _ _ _ hj, set_na _ _ _ _ (by decide)]⟩⟩
  · simp only [f_X10_writes, gO_136, gd_tt, c.1, kc_136_12 h, gN_146, tn_146, gA_146 hl, nI_cl (show σ.1 < 2147483648 by omega), bm_s, set_na _ _ _ _ (show (136 : Nat) ≠ 146 by decide), nI_1]
  · rw [set_na _ _ _ _ (by decide)]
    simp only [app, upd] at hi ⊢
    by_cases e : i = σ.1
    · subst e; rw [set_eq, if_pos rfl]
    · rw [set_nk _ _ _ _ e, if_neg e]; exact c.2 i (by omega)
theorem m_num {m : fw_Mem} {σ : sTx} (h : KC m) (c : MSp m σ) (hl : σ.1 + 2 ≤ 300) {k : Nat} (hk : k < 31) : ∃ m', f_X10_writesNumber st_S m 136 (nI k) = some m' ∧ MSp m' (appN σ k) ∧ MSF m m' := by
  by_cases h10 : k < 10
  · obtain ⟨m', a1, a2, a3⟩ := m_app h c (by omega) (dig3 k hk)
    have hl10 : nI k ≤ (9 : Int32) := nI_le (b := 9) (by omega) (by omega)
    refine ⟨m', by simp only [f_X10_writesNumber, if_pos hl10, gO_136, gd_tt, a1, b1_s], ?_, a3⟩
    rw [appN, if_pos h10]; exact a2
  · obtain ⟨m1, a1, a2, a3⟩ := m_app h c (by omega) (dig4 k hk)
    obtain ⟨m2, b1', b2', b3'⟩ := m_app (a3.kc h) a2 (by rw [app_1]; omega) (dig3 k hk)
    have hl10 : ¬ nI k ≤ (9 : Int32) := fun q => h10 (by have := (nI_leI (b := 9) (by omega) (by omega)).mp q; omega)
    refine ⟨m2, by simp only [f_X10_writesNumber, if_neg hl10, gO_136, gd_tt, a1, b1_s, b1'], ?_, a3.tr b3'⟩
    rw [appN, if_neg h10]; exact b2'
