/-! ===== chain: the class's queue ===== -/
theorem kcn_125 : (kcl.all fun q => !(q.1 == 125)) = true := by decide +kernel
theorem kcn_126 : (kcl.all fun q => !(q.1 == 126)) = true := by decide +kernel
theorem e_c_isP {m : fw_Mem} {y : Nat} (hy : y < 12) : f_X2_isPerson st_S m (nI y) = some 1 := by
  rw [f_X2_isPerson, if_neg (show ¬ nI y < 0 from Int32.not_lt.mpr (nI_le (a := 0) (Nat.zero_le y) (by omega))), if_neg (show ¬ (12 : Int32) ≤ nI y from nI_ge (b := 12) hy (by omega))]
theorem e_c_linkTo {m : fw_Mem} (k : KC m) {y : Nat} (hy : y < 12) : f_X2_linkTo st_S m 121 (nI y) = some (m 125 y) := by
  simp only [f_X2_linkTo, e_c_isP hy, b1_s, i10, if_false, gO_121, gd_tt, kc_121_4 k, gN_125, tn_125, gA_125 hy, nI_cl (show y < 2147483648 by omega)]
section TC
variable {M m : fw_Mem} {r : Nat → Int32} {d : Int32} {P L N p a : Nat} {q v par : Nat → Nat} {c h i : Nat}
theorem lk_at (k : KC m) (pp : cLP m 3) (rw3 : RW m 3 r P L N) (w : WF r P L N) (hi : i < L) (d : Int32) : gN (m 5 i) = true ∧ gO st_S 3 (m 5 i).toNatClampNeg = true ∧ m (m 5 i).toNatClampNeg 0 = nI (gg r i) ∧ m (m 5 i).toNatClampNeg 1 = nI (tt r i) ∧ f_X3_carries st_S m (m 5 i).toNatClampNeg d = some (bI (bb r d i)) := by
  have h24 : i < 24 := by have := w.1.2.1; omega
  have hl : cl m (cl3 m i) = lq r i := rw3.2.2.2.1 i hi
  have hc := e_carries (M := m) (lp_gO pp h24) d
  rw [show cl m (m 5 i).toNatClampNeg = lq r i from hl] at hc
  exact ⟨lp_gN pp h24, lp_gO pp h24, (congrFun hl 0).trans (gg_at w hi).1, (congrFun hl 1).trans (tt_at w hi).1, hc⟩
def TI (M m : fw_Mem) (r : Nat → Int32) (d : Int32) (L P p : Nat) (q v par : Nat → Nat) (c h i : Nat) (x5 x6 : Int32) : Prop :=
  BQ (gg r) (tt r) (bb r d) L P p q v par c h i ∧ (∀ b, b ≠ 124 → b ≠ 125 → m b = M b) ∧ x6 = nI c ∧ (∀ y, y < 12 → (bt x5 y = true ↔ ∃ e, e < c ∧ q e = y)) ∧ (∀ k, k < c → m 124 k = nI (q k)) ∧ ∀ y, y < 12 → (m 125 y = -1 ∧ ∀ e, 0 < e → e < c → q e ≠ y) ∨ ∃ e, 0 < e ∧ e < c ∧ q e = y ∧ m 125 y = nI (v e)
theorem ti_env (k : KC M) (pp : cLP M 3) (w : WF r P L N) (rw3 : RW M 3 r P L N) (f : ∀ b, b ≠ 124 → b ≠ 125 → m b = M b) : KC m ∧ cLP m 3 ∧ RW m 3 r P L N := by
  refine ⟨kc_bf k (fun b hb => f b (by omega) (by omega)) (fun j _ => by rw [f 121 (by decide) (by decide)]), by unfold cLP; rw [f (3 + 2) (by decide) (by decide)]; exact pp, RW.fr pp (by omega) w.1.2.1 w.1.2.2 (fun b h1 h2 => f b (by omega) (by omega)) rw3⟩
theorem tc_in (k : KC M) (pp : cLP M 3) (w : WF r P L N) (rw3 : RW M 3 r P L N) (ha : gO st_S 6 a = true) (ha1 : a ≠ 124) (ha2 : a ≠ 125) (hd : M a 7 = d) (x3 x5 x6 : Int32) (hh : h < c) (T : TI M m r d L P p q v par c h 0 x5 x6) :
    ∃ σ : Int32 × Int32 × fw_Mem, lf_X2_traceChain_52 st_S 121 a x3 (nI h) 20000 x5 x6 0 m = some σ ∧ ∃ q v par c', h < c' ∧ TI M σ.2.2 r d L P p q v par c' h L σ.1 σ.2.1 := by
  have p12 := w.1.1
  have l24 := w.1.2.1
  obtain ⟨σ, z1, z2⟩ := lp_up (fun n (σ : Int32 × Int32 × fw_Mem) i => lf_X2_traceChain_52 st_S 121 a x3 (nI h) n σ.1 σ.2.1 (nI i) σ.2.2) L (fun i σ => ∃ q v par c', h < c' ∧ TI M σ.2.2 r d L P p q v par c' h i σ.1 σ.2.1) (fun σ => ∃ q v par c', h < c' ∧ TI M σ.2.2 r d L P p q v par c' h L σ.1 σ.2.1)
    (by
      rintro n i ⟨x5, x6, m⟩ hi ⟨q, v, par, c, hc, t1, t2, t3, t4, t5, t6⟩
      dsimp only at t1 t2 t3 t4 t5 t6 ⊢
      obtain ⟨km, pm, rm⟩ := ti_env k pp w rw3 t2
      obtain ⟨g1, g2, g3, g4, g5⟩ := lk_at km pm rm w hi d
      have hn : ¬ nI L ≤ nI i := nI_ge hi (by omega)
      have h24 : i < 24 := by omega
      have hc12 := t1.le
      have gl := (gg_at w hi).2
      have tl := (tt_at w hi).2
      have q12 := t1.1.2.2 h hc
      have hL : m 3 5 = nI L := rm.1.2.1
      have hd' : m a 7 = d := by rw [t2 a ha1 ha2]; exact hd
      have eg : (nI (gg r i) = nI (q h)) = (gg r i = q h) := propext (nI_eq (by omega) (by omega))
      have es : (((x5 >>> (nI (tt r i) &&& 31)) &&& 1) = 0) = (bt x5 (tt r i) = false) := by rw [and1z, hv_lo, hv_bt (by omega)]
      have base : lf_X2_traceChain_52 st_S 121 a x3 (nI h) (n + 1) x5 x6 (nI i) m = if gg r i = q h then (if bb r d i = false then lf_X2_traceChain_52 st_S 121 a x3 (nI h) n x5 x6 (nI (i + 1)) m else (if bt x5 (tt r i) = false then (if (12 : Int32) ≤ x6 then lf_X2_traceChain_52 st_S 121 a x3 (nI h) n x5 x6 (nI (i + 1)) m else gd (gA st_S 0 124 x6) (lf_X2_traceChain_52 st_S 121 a x3 (nI h) n (x5 ||| bit (tt r i)) (x6 + 1) (nI (i + 1)) (fw_set (fw_set m 125 (tt r i) (nI i)) 124 x6.toNatClampNeg (nI (tt r i))))) else lf_X2_traceChain_52 st_S 121 a x3 (nI h) n x5 x6 (nI (i + 1)) m)) else lf_X2_traceChain_52 st_S 121 a x3 (nI h) n x5 x6 (nI (i + 1)) m := by
        have km2 : KC (fw_set m 125 (tt r i) (nI i)) := kc_ne km 125 kcn_125 fun b hb => set_nr _ _ _ hb
        have e4 : fw_set m 125 (tt r i) (nI i) (m 5 i).toNatClampNeg 1 = nI (tt r i) := by
          obtain ⟨j, j1, j2⟩ := pm.1 i h24
          have : (m 5 i).toNatClampNeg = 8 + j := by rw [show m 5 i = nI (3 + 5 + j) from j2, nI_cl (by omega)]
          rw [set_na _ _ _ _ (by omega)]; exact g4
        simp only [lf_X2_traceChain_52, gO_121, gd_tt, kc_121_0 km, gN_3, tn_3, gO_3, hL, if_neg hn, kc_3_1 km, gN_5, tn_5, gA_5 h24, nI_cl (show i < 2147483648 by omega), g1, g2, kc_121_3 km, gN_124, tn_124, gA_124 (show h < 12 by omega), nI_cl (show h < 2147483648 by omega), g3, t5 h hc, eg, g4, es, ha, hd', g5, b1_s, e_c_isP (show tt r i < 12 by omega), i10, if_false, ite_self, bI_0, bm_s, kc_121_4 km, gN_125, tn_125, gA_125 (show tt r i < 12 by omega), nI_cl (show tt r i < 2147483648 by omega), kc_121_3 km2, e4, nI_1]
        rfl
      by_cases c1 : gg r i = q h ∧ bt x5 (tt r i) = false ∧ bb r d i = true
      · obtain ⟨c1, c2, c3⟩ := c1
        have fr : ∀ e, e < c → tt r i ≠ q e := fun e he e2 => by
          have := (t4 (tt r i) (by omega)).mpr ⟨e, he, e2.symm⟩
          rw [c2] at this
          cases this
        have B' := t1.push hc hi tl c1 c3 fr
        have hc' := B'.le
        have n12 : ¬ (12 : Int32) ≤ x6 := by rw [t3]; exact nI_ge (b := 12) (by omega) (by omega)
        refine ⟨(x5 ||| bit (tt r i), nI (c + 1), fw_set (fw_set m 125 (tt r i) (nI i)) 124 c (nI (tt r i))), ⟨_, _, _, c + 1, by omega, B', fun b b1 b2 => by dsimp only; rw [set_nr _ _ _ b1, set_nr _ _ _ b2, t2 b b1 b2], rfl, fun y hy => ?_, fun e he => ?_, fun y hy => ?_⟩, ?_⟩
        · dsimp only
          rw [b_or, bt_bit (by omega)]
          constructor
          · intro hb
            by_cases ey : y = tt r i
            · exact ⟨c, by omega, by rw [if_pos rfl]; exact ey.symm⟩
            · simp [ey] at hb
              obtain ⟨e, e1, e2⟩ := (t4 y hy).mp hb
              exact ⟨e, by omega, by rw [if_neg (by omega)]; exact e2⟩
          · rintro ⟨e, e1, e2⟩
            by_cases ec : e = c
            · rw [if_pos ec] at e2; simp [e2]
            · rw [if_neg ec] at e2; rw [(t4 y hy).mpr ⟨e, by omega, e2⟩]; rfl
        · dsimp only
          by_cases ec : e = c
          · rw [ec, set_eq, if_pos rfl]
          · rw [set_nk _ _ _ _ ec, set_na _ _ _ _ (by decide), if_neg ec]; exact t5 e (by omega)
        · dsimp only
          rw [set_na _ _ _ _ (by decide)]
          by_cases ey : y = tt r i
          · right
            refine ⟨c, by omega, by omega, by rw [if_pos rfl]; exact ey.symm, by rw [ey, set_eq, if_pos rfl]⟩
          · rw [set_nk _ _ _ _ ey]
            rcases t6 y hy with ⟨u1, u2⟩ | ⟨e, u1, u2, u3, u4⟩
            · left
              refine ⟨u1, fun e e1 e2 => ?_⟩
              by_cases ec : e = c
              · rw [if_pos ec]; exact fun z => ey z.symm
              · rw [if_neg ec]; exact u2 e e1 (by omega)
            · right
              refine ⟨e, u1, by omega, by rw [if_neg (by omega)]; exact u3, by rw [if_neg (by omega)]; exact u4⟩
        · rw [base, if_pos c1, if_neg (by rw [c3]; decide), if_pos c2, if_neg n12, t3, gA_124 (show c < 12 by omega), gd_tt, nI_cl (show c < 2147483648 by omega), nI_1]
      · refine ⟨(x5, x6, m), ⟨q, v, par, c, hc, t1.skip fun e1 e2 => ?_, t2, t3, t4, t5, t6⟩, ?_⟩
        · exact (t4 (tt r i) (by omega)).mp (by
            cases hb : bt x5 (tt r i)
            · exact absurd ⟨e1, hb, e2⟩ c1
            · rfl) |>.imp fun e he => ⟨he.1, he.2.symm⟩
        · rw [base]
          by_cases c2 : gg r i = q h
          · rw [if_pos c2]
            by_cases c3 : bb r d i = false
            · rw [if_pos c3]
            · rw [if_neg c3, if_neg (fun hb => c1 ⟨c2, hb, by simpa using c3⟩)]
          · rw [if_neg c2])
    (by
      rintro n ⟨x5, x6, m⟩ hT
      obtain ⟨q, v, par, c, hc, t1, t2, t3⟩ := id hT
      dsimp only at t1 t2 t3 ⊢
      obtain ⟨km, pm, rm⟩ := ti_env k pp w rw3 t2
      have hL : m 3 5 = nI L := rm.1.2.1
      exact ⟨(x5, x6, m), by simp only [lf_X2_traceChain_52, gO_121, gd_tt, kc_121_0 km, gN_3, tn_3, gO_3, hL, if_pos (nI_le (Nat.le_refl L) (show L < 2 ^ 31 by omega))], hT⟩) _ 0 20000 (x5, x6, m) rfl (by omega) (by omega) ⟨q, v, par, c, hh, T⟩
  exact ⟨σ, z1, z2⟩
/-- the queue is through -/
def TJ (M m : fw_Mem) (r : Nat → Int32) (d : Int32) (L P p : Nat) : Prop := ∃ q v par c, TRE (gg r) (tt r) (bb r d) L P p q v par c ∧ (∀ b, b ≠ 124 → b ≠ 125 → m b = M b) ∧ ∀ y, y < 12 → (m 125 y = -1 ∧ ∀ e, 0 < e → e < c → q e ≠ y) ∨ ∃ e, 0 < e ∧ e < c ∧ q e = y ∧ m 125 y = nI (v e)
theorem tc_out (k : KC M) (pp : cLP M 3) (w : WF r P L N) (rw3 : RW M 3 r P L N) (ha : gO st_S 6 a = true) (ha1 : a ≠ 124) (ha2 : a ≠ 125) (hd : M a 7 = d) (x3 : Int32) : ∀ f h n x5 x6 m, 13 - h = f → f < n → (∃ q v par c, h ≤ c ∧ TI M m r d L P p q v par c h 0 x5 x6) → ∃ m', lf_X2_traceChain_35 st_S 121 a x3 n x5 x6 (nI h) m = some m' ∧ TJ M m' r d L P p := by
  have p12 := w.1.1
  intro f
  induction f with
  | zero =>
    rintro h n x5 x6 m hf hn ⟨q, v, par, c, hc, T⟩
    have := T.1.le
    omega
  | succ f ih =>
    rintro h n x5 x6 m hf hn ⟨q, v, par, c, hc, T⟩
    have hle := T.1.le
    obtain ⟨n, rfl⟩ : ∃ k, n = k + 1 := ⟨n - 1, by omega⟩
    by_cases e : h = c
    · subst e
      refine ⟨m, ?_, q, v, par, h, T.1, T.2.1, T.2.2.2.2.2⟩
      rw [lf_X2_traceChain_35, T.2.2.1, if_pos (nI_le (Nat.le_refl h) (by omega))]
    · obtain ⟨σ, z1, q', v', par', c', z2, z3⟩ := tc_in k pp w rw3 ha ha1 ha2 hd x3 x5 x6 (by omega) T
      obtain ⟨m', y1, y2⟩ := ih (h + 1) n σ.1 σ.2.1 σ.2.2 (by omega) (by omega) ⟨q', v', par', c', by omega, z3.1.next, z3.2⟩
      refine ⟨m', ?_, y2⟩
      rw [lf_X2_traceChain_35, if_neg (by rw [T.2.2.1]; exact nI_ge (by omega) (by omega)), if_neg (show ¬ (12 : Int32) ≤ nI h from nI_ge (b := 12) (by omega) (by omega)), z1, b1_s, nI_1]
      exact y1
/-- back from the person to the party -/
theorem e_goBack {j n : Nat} (k : KC M) (pp : cLP M 3) (w : WF r P L N) (rw3 : RW M 3 r P L N) (T : TRE (gg r) (tt r) (bb r d) L P p q v par c) (hv : ∀ y, y < 12 → (M 125 y = -1 ∧ ∀ e, 0 < e → e < c → q e ≠ y) ∨ ∃ e, 0 < e ∧ e < c ∧ q e = y ∧ M 125 y = nI (v e)) (hj : j < c) (hnj : n ≤ j) (h0 : ac par n j = 0) (hn : ∀ s, s < n → 0 < ac par s j ∧ ac par s j < c) : ∃ M', f_X2_goBack st_S M 121 (nI (q j)) = some (nI n, M') ∧ (∀ b, b ≠ 126 → M' b = M b) ∧ ∀ s, s < n → M' 126 s = nI (v (ac par s j)) := by
  have p12 := w.1.1
  have l24 := w.1.2.1
  have hc := T.le
  obtain ⟨σ, z1, z2, z3, z4⟩ := lp_up (fun f (m : fw_Mem) i => lf_X2_goBack_8 st_S 121 f (nI i) (M 125 (q (ac par i j))) m) n (fun i m => (∀ b, b ≠ 126 → m b = M b) ∧ ∀ s, s < i → m 126 s = nI (v (ac par s j))) (fun σ => σ.1 = nI n ∧ (∀ b, b ≠ 126 → σ.2 b = M b) ∧ ∀ s, s < n → σ.2 126 s = nI (v (ac par s j)))
    (by
      rintro f i m hi ⟨x1, x2⟩
      have hi2 := hn i hi
      obtain ⟨y1, y2, y3, y4, y5⟩ := T.2.2.1 _ hi2.1 hi2.2
      have km : KC m := kc_bf k (fun b hb => x1 b (by omega)) (fun j _ => by rw [x1 121 (by decide)])
      have q12 := T.1.2.2 _ hi2.2
      have e125 : M 125 (q (ac par i j)) = nI (v (ac par i j)) := by
        rcases hv (q (ac par i j)) (by omega) with ⟨u1, u2⟩ | ⟨e, u1, u2, u3, u4⟩
        · exact absurd rfl (u2 _ hi2.1 hi2.2)
        · have := T.2.1 e _ u2 hi2.2 u3
          subst this; exact u4
      have hL : m 3 5 = nI L := by rw [x1 3 (by decide)]; exact rw3.1.2.1
      have km8 : KC (fw_set m 126 i (nI (v (ac par i j)))) := kc_ne km 126 kcn_126 fun b hb => set_nr _ _ _ hb
      have f8 : ∀ b, b ≠ 126 → fw_set m 126 i (nI (v (ac par i j))) b = M b := fun b hb => by rw [set_nr _ _ _ hb, x1 b hb]
      have p8 : cLP (fw_set m 126 i (nI (v (ac par i j)))) 3 := by unfold cLP; rw [f8 (3 + 2) (by decide)]; exact pp
      have r8 : RW (fw_set m 126 i (nI (v (ac par i j)))) 3 r P L N := RW.fr pp (by omega) l24 w.1.2.2 (fun b h1 h2 => f8 b (by omega)) rw3
      obtain ⟨g1, g2, g3, g4, g5⟩ := lk_at km8 p8 r8 w y2 d
      refine ⟨fw_set m 126 i (nI (v (ac par i j))), ⟨f8, fun s hs => ?_⟩, ?_⟩
      · by_cases e : s = i
        · rw [e, set_eq]
        · rw [set_nk _ _ _ _ e]; exact x2 s (by omega)
      · have n12 : ¬ (12 : Int32) ≤ nI i := nI_ge (b := 12) (by omega) (by omega)
        have h0 : ¬ nI (v (ac par i j)) < 0 := Int32.not_lt.mpr (nI_le (a := 0) (Nat.zero_le _) (by omega))
        have h1 : ¬ nI L ≤ nI (v (ac par i j)) := nI_ge y2 (by omega)
        have hq : q (par (ac par i j)) < 12 := by
          have := T.1.2.2 (par (ac par i j)) (by omega)
          omega
        have e8 : fw_set m 126 i (nI (v (ac par i j))) 125 = M 125 := f8 125 (by decide)
        simp only [e125, lf_X2_goBack_8, if_neg n12, if_neg h0, gO_121, gd_tt, kc_121_0 km, gN_3, tn_3, gO_3, hL, if_neg h1, kc_121_5 km, gN_126, tn_126, gA_126 (show i < 12 by omega), nI_cl (show i < 2147483648 by omega), bm_s, kc_121_0 km8, kc_3_1 km8, gN_5, tn_5, gA_5 (show v (ac par i j) < 24 by omega), nI_cl (show v (ac par i j) < 2147483648 by omega), g1, g2, g3, y4, e_c_linkTo km8 hq, e8, b1_s, nI_1]
        rfl)
    (by
      rintro f m ⟨x1, x2⟩
      have km : KC m := kc_bf k (fun b hb => x1 b (by omega)) (fun j _ => by rw [x1 121 (by decide)])
      have n12 : ¬ (12 : Int32) ≤ nI n := nI_ge (b := 12) (by omega) (by omega)
      have c0 := T.1.1
      have q12 := T.1.2.2 0 (by omega)
      have e125 : M 125 (q (ac par n j)) = -1 := by
        rw [h0]
        rcases hv (q 0) (by omega) with ⟨u1, u2⟩ | ⟨e, u1, u2, u3, u4⟩
        · exact u1
        · exact absurd (T.2.1 e 0 u2 (by omega) u3) (by omega)
      refine ⟨(nI n, m), ?_, rfl, x1, x2⟩
      simp only [e125, lf_X2_goBack_8, if_neg n12, if_pos (show (-1 : Int32) < 0 by decide)]) _ 0 20000 M rfl (by omega) (by omega) ⟨fun _ _ => rfl, fun s hs => absurd hs (by omega)⟩
  have z1' : lf_X2_goBack_8 st_S 121 20000 0 (M 125 (q j)) M = some σ := z1
  have qj := T.1.2.2 j hj
  exact ⟨σ.2, by rw [f_X2_goBack, gO_121, gd_tt, e_c_linkTo k (show q j < 12 by omega), b1_s, z1', b1_s, z2], z3, z4⟩
end TC
