/-! ===== chain: the model's distances ===== -/
def gg (r : Nat → Int32) (l : Nat) : Nat := (lq r l 0).toNatClampNeg
def tt (r : Nat → Int32) (l : Nat) : Nat := (lq r l 1).toNatClampNeg
def bb (r : Nat → Int32) (d : Int32) (l : Nat) : Bool := bnd (lq r l) d
section AY
variable {r : Nat → Int32} {P L N : Nat} {d : Int32}
theorem gg_at (w : WF r P L N) {l : Nat} (hl : l < L) : lq r l 0 = nI (gg r l) ∧ gg r l < P := by
  obtain ⟨⟨p, hp, e⟩, -⟩ := w.2.2.2.2.1 l hl
  have h12 := w.1.1
  unfold gg
  rw [e, nI_cl (by omega)]
  exact ⟨rfl, hp⟩
theorem tt_at (w : WF r P L N) {l : Nat} (hl : l < L) : lq r l 1 = nI (tt r l) ∧ tt r l < P := by
  obtain ⟨-, ⟨p, hp, e⟩, -⟩ := w.2.2.2.2.1 l hl
  have h12 := w.1.1
  unfold tt
  rw [e, nI_cl (by omega)]
  exact ⟨rfl, hp⟩
abbrev rc (r : Nat → Int32) (d : Int32) (L x : Nat) : Nat → Nat → Prop := Rc (gg r) (tt r) (bb r d) L x
/-- in round R, links below i are through -/
def LA (r : Nat → Int32) (d : Int32) (L x R i : Nat) (A : Nat → Int32) (y : Nat) : Prop :=
  (A y = -1 ∧ (∀ k, k ≤ R → ¬ rc r d L x k y) ∧ ∀ l, l < i → bb r d l = true → gg r l = y → ¬ rc r d L x R (tt r l)) ∨
  (∃ k, k ≤ R ∧ A y = nI k ∧ rc r d L x k y ∧ ∀ k', k' < k → ¬ rc r d L x k' y) ∨
  (A y = nI (R + 1) ∧ rc r d L x (R + 1) y ∧ ∀ k, k ≤ R → ¬ rc r d L x k y)
theorem la_0 {x R y : Nat} {A : Nat → Int32} (h : AW (gg r) (tt r) (bb r d) L x R A y) : LA r d L x R 0 A y := by
  rcases h with h | h
  · exact Or.inl ⟨h.1, h.2, fun l hl => absurd hl (by omega)⟩
  · exact Or.inr (Or.inl h)
theorem la_L {x R y : Nat} {A : Nat → Int32} (h : LA r d L x R L A y) : AW (gg r) (tt r) (bb r d) L x (R + 1) A y := by
  rcases h with ⟨h1, h2, h3⟩ | ⟨k, h1, h2, h3, h4⟩ | ⟨h1, h2, h3⟩
  · refine Or.inl ⟨h1, fun k hk hc => ?_⟩
    by_cases e : k ≤ R
    · exact h2 k e hc
    · obtain rfl : k = R + 1 := by omega
      obtain ⟨l, l1, l2, l3, l4⟩ := hc
      exact h3 l l1 l2 l3 l4
  · exact Or.inr ⟨k, by omega, h2, h3, h4⟩
  · exact Or.inr ⟨R + 1, by omega, h1, h2, fun k hk => h3 k (by omega)⟩
/-- the link's taker lies R away exactly where the row says so -/
theorem la_R {x R i y : Nat} {A : Nat → Int32} (hR : R ≤ 100) (h : LA r d L x R i A y) (e : A y = nI R) : rc r d L x R y := by
  rcases h with ⟨h1, h2, h3⟩ | ⟨k, h1, h2, h3, h4⟩ | ⟨h1, h2, h3⟩
  · rw [h1] at e
    exact absurd e.symm (by rw [nI_m1 (by omega)]; exact id)
  · have : k = R := (nI_eq (by omega) (by omega)).mp (h2.symm.trans e)
    rw [← this]; exact h3
  · exact absurd ((nI_eq (by omega) (by omega)).mp (h1.symm.trans e)) (by omega)
theorem la_skip {x R i : Nat} {A : Nat → Int32} (hi : i < L) (hP : ∀ y, y < P → LA r d L x R i A y) (ht : tt r i < P) (hs : ¬ (A (tt r i) = nI R ∧ A (gg r i) = -1 ∧ bb r d i = true)) : ∀ y, y < P → LA r d L x R (i + 1) A y := fun y hy => by
  rcases hP y hy with ⟨h1, h2, h3⟩ | h | h
  · refine Or.inl ⟨h1, h2, fun l hl hb hg hc => ?_⟩
    by_cases e : l < i
    · exact h3 l e hb hg hc
    · obtain rfl : l = i := by omega
      have up : ∀ k, rc r d L x k (tt r l) → rc r d L x (k + 1) y := fun k hk => ⟨l, hi, hb, hg, hk⟩
      rcases hP (tt r l) ht with ⟨a1, a2, a3⟩ | ⟨k, a1, a2, a3, a4⟩ | ⟨a1, a2, a3⟩
      · exact a2 R (Nat.le_refl R) hc
      · by_cases ek : k < R
        · exact h2 (k + 1) (by omega) (up k a3)
        · obtain rfl : k = R := by omega
          exact hs ⟨a2, by rw [hg]; exact h1, hb⟩
      · exact a3 R (Nat.le_refl R) hc
  · exact Or.inr (Or.inl h)
  · exact Or.inr (Or.inr h)
theorem la_set {x R i : Nat} {A : Nat → Int32} (hR : R ≤ 100) (hi : i < L) (hP : ∀ y, y < P → LA r d L x R i A y) (ht : tt r i < P) (hg : gg r i < P) (h1 : A (tt r i) = nI R) (h2 : A (gg r i) = -1) (hb : bb r d i = true) {A' : Nat → Int32} (e1 : A' (gg r i) = nI (R + 1)) (e2 : ∀ y, y ≠ gg r i → A' y = A y) : ∀ y, y < P → LA r d L x R (i + 1) A' y := fun y hy => by
  by_cases e : y = gg r i
  · subst e
    refine Or.inr (Or.inr ⟨e1, ⟨i, hi, hb, rfl, la_R hR (hP _ ht) h1⟩, ?_⟩)
    rcases hP _ hg with ⟨a1, a2, a3⟩ | ⟨k, a1, a2, a3, a4⟩ | ⟨a1, a2, a3⟩
    · exact a2
    · rw [h2] at a2
      exact absurd a2.symm (by rw [nI_m1 (by omega)]; exact id)
    · exact a3
  · rcases hP y hy with ⟨h1', h2', h3'⟩ | ⟨k, h⟩ | h
    · refine Or.inl ⟨by rw [e2 y e]; exact h1', h2', fun l hl hb' hg' => ?_⟩
      by_cases el : l < i
      · exact h3' l el hb' hg'
      · obtain rfl : l = i := by omega
        exact absurd hg'.symm e
    · exact Or.inr (Or.inl ⟨k, h.1, by rw [e2 y e]; exact h.2.1, h.2.2⟩)
    · exact Or.inr (Or.inr ⟨by rw [e2 y e]; exact h.1, h.2⟩)
theorem kcn_142 : (kcl.all fun q => !(q.1 == 142)) = true := by decide +kernel
theorem e_layAway {M : fw_Mem} (h : KC M) (w : WF (M 137) P L N) {s x : Nat} (hs : s ≤ 10) (hx : x < P) : ∃ M', f_X10_layAway st_S M 136 (nI s) (nI x) = some M' ∧ (∀ b, b ≠ 142 → M' b = M b) ∧ ∀ y, y < P → AW (gg (M 137)) (tt (M 137)) (bb (M 137) (sq (M 137) s 6)) L x P (M' 142) y := by
  have p12 := w.1.1
  have l24 := w.1.2.1
  obtain ⟨m0, a1, a2, a3⟩ := lp_up (fun n (m : fw_Mem) i => lf_X10_layAway_2 st_S 136 (nI s) (nI x) n (nI i) m) 12 (fun i m => (∀ b, b ≠ 142 → m b = M b) ∧ ∀ y, y < i → m 142 y = -1) (fun m => (∀ b, b ≠ 142 → m b = M b) ∧ ∀ y, y < 12 → m 142 y = -1)
    (by
      rintro n i m hi ⟨i1, i2⟩
      have hm := kc_ne h 142 kcn_142 i1
      have hn : ¬ (12 : Int32) ≤ nI i := nI_ge (b := 12) hi (by omega)
      refine ⟨fw_set m 142 i (-1), ⟨fun b hb => by rw [set_nr _ _ _ hb, i1 b hb], fun y hy => ?_⟩, ?_⟩
      · by_cases e : y = i
        · subst e; rw [set_eq]
        · rw [set_nk _ _ _ _ e]; exact i2 y (by omega)
      · simp only [lf_X10_layAway_2, if_neg hn, gO_136, gd_tt, kc_136_8 hm, gN_142, tn_142, gA_142 hi, nI_cl (show i < 2147483648 by omega), bm_s, nI_1])
    (by
      rintro n m hm
      exact ⟨m, by simp only [lf_X10_layAway_2, if_pos (show (12 : Int32) ≤ nI 12 by decide)], hm⟩) _ 0 20000 M rfl (by omega) (by omega) ⟨fun _ _ => rfl, fun y hy => absurd hy (by omega)⟩
  have a1' : lf_X10_layAway_2 st_S 136 (nI s) (nI x) 20000 0 M = some m0 := a1
  have k0 := kc_ne h 142 kcn_142 a2
  obtain ⟨m1, hm1⟩ : ∃ m, m = fw_set m0 142 x 0 := ⟨_, rfl⟩
  have f1 : ∀ b, b ≠ 142 → m1 b = M b := fun b hb => by rw [hm1, set_nr _ _ _ hb, a2 b hb]
  have z1 : ∀ y, y < P → AW (gg (M 137)) (tt (M 137)) (bb (M 137) (sq (M 137) s 6)) L x 0 (m1 142) y := fun y hy => by
    by_cases e : y = x
    · subst e
      exact Or.inr ⟨0, by omega, by rw [hm1, set_eq]; rfl, rfl, fun k hk => absurd hk (by omega)⟩
    · refine Or.inl ⟨by rw [hm1, set_nk _ _ _ _ e]; exact a3 y (by omega), fun k hk hc => ?_⟩
      obtain rfl : k = 0 := by omega
      exact e hc
  obtain ⟨m2, b1', b2', b3'⟩ := lp_up (fun n (m : fw_Mem) R => lf_X10_layAway_30 st_S 136 (nI s) n (nI R) m) P (fun R m => (∀ b, b ≠ 142 → m b = M b) ∧ ∀ y, y < P → AW (gg (M 137)) (tt (M 137)) (bb (M 137) (sq (M 137) s 6)) L x R (m 142) y) (fun m => (∀ b, b ≠ 142 → m b = M b) ∧ ∀ y, y < P → AW (gg (M 137)) (tt (M 137)) (bb (M 137) (sq (M 137) s 6)) L x P (m 142) y)
    (by
      rintro n R m hR ⟨i1, i2⟩
      have hm := kc_ne h 142 kcn_142 i1
      have e137 : m 137 = M 137 := i1 137 (by decide)
      have hn : ¬ nI P ≤ nI R := nI_ge hR (by omega)
      obtain ⟨m', c1, c2, c3⟩ := lp_up (fun n (m : fw_Mem) i => lf_X10_layAway_41 st_S 136 (nI s) (nI R) n (nI i) m) L (fun i m => (∀ b, b ≠ 142 → m b = M b) ∧ ∀ y, y < P → LA (M 137) (sq (M 137) s 6) L x R i (m 142) y) (fun m => (∀ b, b ≠ 142 → m b = M b) ∧ ∀ y, y < P → LA (M 137) (sq (M 137) s 6) L x R L (m 142) y)
        (by
          rintro n i m hi ⟨j1, j2⟩
          have hm := kc_ne h 142 kcn_142 j1
          have e137 : m 137 = M 137 := j1 137 (by decide)
          have hn : ¬ nI L ≤ nI i := nI_ge hi (by omega)
          have h24 : i < 24 := by omega
          obtain ⟨g1, g2⟩ := gg_at w hi
          obtain ⟨t1, t2⟩ := tt_at w hi
          have eL : m 137 1 = nI L := by rw [e137]; exact w.2.1.2.1
          have e0 := e_lk0 hm h24
          have e1 := e_lk1 hm h24
          have eb := e_binds hm h24 (sq (m 137) s 6)
          have e6 := e_of6 hm hs
          rw [e137, g1] at e0
          rw [e137, t1] at e1
          rw [e137] at eb e6
          replace eb : f_X10_binds st_S m 136 (nI i) (sq (M 137) s 6) = some (bI (bb (M 137) (sq (M 137) s 6) i)) := eb
          have base : lf_X10_layAway_41 st_S 136 (nI s) (nI R) (n + 1) (nI i) m = if m 142 (tt (M 137) i) = nI R then (if m 142 (gg (M 137) i) = -1 then (if bb (M 137) (sq (M 137) s 6) i = false then lf_X10_layAway_41 st_S 136 (nI s) (nI R) n (nI (i + 1)) m else lf_X10_layAway_41 st_S 136 (nI s) (nI R) n (nI (i + 1)) (fw_set m 142 (gg (M 137) i) (nI (R + 1)))) else lf_X10_layAway_41 st_S 136 (nI s) (nI R) n (nI (i + 1)) m) else lf_X10_layAway_41 st_S 136 (nI s) (nI R) n (nI (i + 1)) m := by
            simp only [lf_X10_layAway_41, gO_136, gd_tt, e_links hm, eL, b1_s, if_neg hn, e0, e1, kc_136_8 hm, gN_142, tn_142, gA_142 (show tt (M 137) i < 12 by omega), gA_142 (show gg (M 137) i < 12 by omega), nI_cl (show tt (M 137) i < 2147483648 by omega), nI_cl (show gg (M 137) i < 2147483648 by omega), e6, eb, bI_0, bm_s, nI_1]
          by_cases c : m 142 (tt (M 137) i) = nI R ∧ m 142 (gg (M 137) i) = -1 ∧ bb (M 137) (sq (M 137) s 6) i = true
          · refine ⟨fw_set m 142 (gg (M 137) i) (nI (R + 1)), ⟨fun b hb => by rw [set_nr _ _ _ hb, j1 b hb], la_set (by omega) hi j2 t2 g2 c.1 c.2.1 c.2.2 (set_eq _ _ _ _) fun y hy => set_nk _ _ _ _ hy⟩, ?_⟩
            show lf_X10_layAway_41 st_S 136 (nI s) (nI R) (n + 1) (nI i) m = _
            rw [base, if_pos c.1, if_pos c.2.1, if_neg (by rw [c.2.2]; decide)]
          · refine ⟨m, ⟨j1, la_skip hi j2 t2 c⟩, ?_⟩
            show lf_X10_layAway_41 st_S 136 (nI s) (nI R) (n + 1) (nI i) m = _
            rw [base]
            by_cases c1 : m 142 (tt (M 137) i) = nI R
            · rw [if_pos c1]
              by_cases c2 : m 142 (gg (M 137) i) = -1
              · rw [if_pos c2, if_pos (by
                  cases hb : bb (M 137) (sq (M 137) s 6) i
                  · rfl
                  · exact absurd ⟨c1, c2, hb⟩ c)]
              · rw [if_neg c2]
            · rw [if_neg c1])
        (by
          rintro n m ⟨j1, j2⟩
          have hm := kc_ne h 142 kcn_142 j1
          have eL : m 137 1 = nI L := by rw [j1 137 (by decide)]; exact w.2.1.2.1
          exact ⟨m, by simp only [lf_X10_layAway_41, gO_136, gd_tt, e_links hm, eL, b1_s, if_pos (nI_le (Nat.le_refl L) (show L < 2 ^ 31 by omega))], j1, j2⟩) _ 0 20000 m rfl (by omega) (by omega) ⟨i1, fun y hy => la_0 (i2 y hy)⟩
      have c1' : lf_X10_layAway_41 st_S 136 (nI s) (nI R) 20000 0 m = some m' := c1
      refine ⟨m', ⟨c2, fun y hy => la_L (c3 y hy)⟩, ?_⟩
      have eP : m 137 0 = nI P := by rw [e137]; exact w.2.1.1
      simp only [lf_X10_layAway_30, gO_136, gd_tt, e_persons hm, eP, b1_s, if_neg hn, c1', nI_1])
    (by
      rintro n m ⟨i1, i2⟩
      have hm := kc_ne h 142 kcn_142 i1
      have eP : m 137 0 = nI P := by rw [i1 137 (by decide)]; exact w.2.1.1
      exact ⟨m, by simp only [lf_X10_layAway_30, gO_136, gd_tt, e_persons hm, eP, b1_s, if_pos (nI_le (Nat.le_refl P) (show P < 2 ^ 31 by omega))], i1, i2⟩) _ 0 20000 m1 rfl (by omega) (by omega) ⟨f1, z1⟩
  have b1'' : lf_X10_layAway_30 st_S 136 (nI s) 20000 0 m1 = some m2 := b1'
  refine ⟨m2, ?_, b2', b3'⟩
  simp only [f_X10_layAway, a1', b1_s, gO_136, gd_tt, kc_136_8 k0, gN_142, tn_142, gA_142 (show x < 12 by omega), nI_cl (show x < 2147483648 by omega), bm_s]
  rw [← hm1, b1'', b1_s]
theorem e_nearer {M : fw_Mem} (h : KC M) (w : WF (M 137) P L N) {s y k : Nat} (hs : s ≤ 10) (hy : y < P) (hA : M 142 y = nI (k + 1)) {c : Nat} (hc : c < L) (c1 : gg (M 137) c = y) (c2 : bb (M 137) (sq (M 137) s 6) c = true) (c3 : M 142 (tt (M 137) c) = nI k) (hl : ∀ l, l < c → gg (M 137) l = y → bb (M 137) (sq (M 137) s 6) l = true → M 142 (tt (M 137) l) = nI k → False) : f_X10_nearer st_S M 136 (nI s) (nI y) = some (nI c) := by
  have p12 := w.1.1
  have l24 := w.1.2.1
  have base : ∀ n i, i < L → lf_X10_nearer_2 st_S M 136 (nI s) (nI y) (n + 1) (nI i) = if gg (M 137) i = y then (if bb (M 137) (sq (M 137) s 6) i = false then lf_X10_nearer_2 st_S M 136 (nI s) (nI y) n (nI (i + 1)) else if M 142 (tt (M 137) i) = nI k then some (nI i) else lf_X10_nearer_2 st_S M 136 (nI s) (nI y) n (nI (i + 1))) else lf_X10_nearer_2 st_S M 136 (nI s) (nI y) n (nI (i + 1)) := fun n i hi => by
    have h24 : i < 24 := by omega
    obtain ⟨g1, g2⟩ := gg_at w hi
    obtain ⟨t1, t2⟩ := tt_at w hi
    have e0 := e_lk0 h h24
    have e1 := e_lk1 h h24
    rw [g1] at e0
    rw [t1] at e1
    have eb : f_X10_binds st_S M 136 (nI i) (sq (M 137) s 6) = some (bI (bb (M 137) (sq (M 137) s 6) i)) := e_binds h h24 _
    have ek : nI (k + 1) - 1 = nI k := nI_pred k
    have eg : (nI (gg (M 137) i) = nI y) = (gg (M 137) i = y) := propext (nI_eq (by omega) (by omega))
    simp only [lf_X10_nearer_2, gO_136, gd_tt, b1_s, e0, e1, eg, e_of6 h hs, eb, bI_0, kc_136_8 h, gN_142, tn_142, gA_142 (show tt (M 137) i < 12 by omega), gA_142 (show y < 12 by omega), nI_cl (show tt (M 137) i < 2147483648 by omega), nI_cl (show y < 2147483648 by omega), hA, ek, nI_1]
  obtain ⟨z, z1, z2⟩ := lp_up (fun n (_ : Unit) i => lf_X10_nearer_2 st_S M 136 (nI s) (nI y) n (nI i)) c (fun _ _ => True) (fun z => z = nI c)
    (by
      rintro n i _ hi -
      refine ⟨(), trivial, ?_⟩
      show lf_X10_nearer_2 st_S M 136 (nI s) (nI y) (n + 1) (nI i) = _
      rw [base n i (by omega)]
      by_cases e1 : gg (M 137) i = y
      · rw [if_pos e1]
        cases hb : bb (M 137) (sq (M 137) s 6) i
        · rw [if_pos rfl]
        · rw [if_neg (by decide), if_neg fun q => hl i hi e1 hb q]
      · rw [if_neg e1])
    (by
      rintro n _ -
      refine ⟨nI c, ?_, rfl⟩
      show lf_X10_nearer_2 st_S M 136 (nI s) (nI y) (n + 1) (nI c) = _
      rw [base n c hc, if_pos c1, if_neg (by rw [c2]; decide), if_pos c3]) _ 0 20000 () rfl (by omega) (by omega) trivial
  have z1' : lf_X10_nearer_2 st_S M 136 (nI s) (nI y) 20000 0 = some z := z1
  rw [f_X10_nearer, z1', b1_s, z2]
end AY
