/-! ===== chain ===== -/
section QC
variable {M : fw_Mem} {r : Nat → Int32} {d : Int32} {P L N p s sd x : Nat}
/-- who is bound, and chains -/
theorem pss_hit (w : WF r P L N) {X : Int32} : ∀ n l, n ≤ L → l < n → bb r d l = true → bt X (gg r l) = true → bt (pss (lq r) d n X) (tt r l) = true
  | 0, l, _, hl, _, _ => absurd hl (by omega)
  | n + 1, l, hn, hl, hb, hg => by
    have p12 := w.1.1
    by_cases e : l = n
    · subst e
      have h1 := pss_sup (lk := lq r) (day := d) l X (gg r l) hg
      have hg2 := gg_at w (l := l) (by omega)
      have ht2 := tt_at w (l := l) (by omega)
      show bt (stp (lq r l) d (pss (lq r) d l X)) (tt r l) = true
      unfold stp
      rw [hg2.1, if_pos (by rw [hv_bt (by omega)]; exact h1), if_pos (show bnd (lq r l) d = true from hb), ht2.1, b_or]
      show (_ || bt (bit (tt r l)) (tt r l)) = true
      rw [bt_bit (by omega)]
      simp
    · exact stp_sup _ _ _ (pss_hit w n l (by omega) (by omega) hb hg)
theorem itp_hit (w : WF r P L N) {X : Int32} : ∀ k j y, rc r d L x k y → bt (itp (lq r) d L j X) y = true → bt (itp (lq r) d L (j + k) X) x = true
  | 0, j, y, h, hb => by
    have : y = x := h
    rw [← this]; exact hb
  | k + 1, j, y, ⟨l, l1, l2, l3, l4⟩, hb => by
    have := itp_hit w k (j + 1) _ l4 (pss_hit w L l (Nat.le_refl L) l1 l2 (by rw [l3]; exact hb))
    rwa [show j + 1 + k = j + (k + 1) by omega] at this
theorem itp_up {X : Int32} {y : Nat} : ∀ e k, bt (itp (lq r) d L k X) y = true → bt (itp (lq r) d L (k + e) X) y = true
  | 0, k, h => h
  | e + 1, k, h => pss_sup L _ _ (itp_up e k h)
theorem pss_snd (w : WF r P L N) {X : Int32} (hX : ∀ y, y < 12 → bt X y = true → ∃ k, rc r d L y k p) : ∀ n, n ≤ L → ∀ y, y < 12 → bt (pss (lq r) d n X) y = true → ∃ k, rc r d L y k p
  | 0, _, y, hy, h => hX y hy h
  | n + 1, hn, y, hy, h => by
    have p12 := w.1.1
    have ih := pss_snd w hX n (by omega)
    have hg2 := gg_at w (l := n) (by omega)
    have ht2 := tt_at w (l := n) (by omega)
    replace h : bt (stp (lq r n) d (pss (lq r) d n X)) y = true := h
    unfold stp at h
    rw [hg2.1, ht2.1] at h
    split at h
    · rename_i h1
      rw [hv_bt (by omega)] at h1
      split at h
      · rename_i h2
        rw [b_or] at h
        replace h : (bt (pss (lq r) d n X) y || bt (bit (tt r n)) y) = true := h
        rw [bt_bit (by omega)] at h
        by_cases e : y = tt r n
        · obtain ⟨k, hk⟩ := ih (gg r n) (by omega) h1
          rw [e]
          exact ⟨k + 1, rc_app k _ _ n hk (by omega) h2 rfl⟩
        · simp [e] at h
          exact ih y hy h
      · exact ih y hy h
    · exact ih y hy h
theorem itp_snd (w : WF r P L N) (hp : p < 12) : ∀ j y, y < 12 → bt (itp (lq r) d L j (bit p)) y = true → ∃ k, rc r d L y k p
  | 0, y, hy, h => by
    replace h : bt (bit p) y = true := h
    rw [bt_bit (by omega)] at h
    exact ⟨0, (of_decide_eq_true h).symm⟩
  | j + 1, y, hy, h => pss_snd w (itp_snd w hp j) L (Nat.le_refl L) y hy h
theorem e_trace (k : KC M) (pp : cLP M 3) (w : WF r P L N) (rw3 : RW M 3 r P L N) (hs : s < N) (hsd : sd < 2) (hp : p < P) (ep : sq r s sd = nI p) (hx : x < P) (hr : ∃ e, rc r (sq r s 6) L x e p) : ∃ q v par c j n M', f_X2_traceChain st_S M 121 (32 + s) (nI sd) (nI x) = some (nI n, M') ∧ BF M M' ∧ TRE (gg r) (tt r) (bb r (sq r s 6)) L P p q v par c ∧ q j = x ∧ j < c ∧ n ≤ j ∧ ac par n j = 0 ∧ (∀ e, e < n → 0 < ac par e j ∧ ac par e j < c) ∧ ∀ e, e < n → M' 126 e = nI (v (ac par e j)) := by
  have p12 := w.1.1
  have n10 := w.n
  have hg := gO_s3 s (by omega)
  have eq : cq M (32 + s) = sq r s := by have := rw3.2.2.2.2 s hs; rwa [show 3 + 29 + s = 32 + s by omega] at this
  have e7 : M (32 + s) 7 = sq r s 6 := congrFun eq 6
  obtain ⟨M3, a1, a2, a3⟩ := e_fill gL_125 len_125 (by omega) M (-1)
  have ep2 : f_X6_party st_S M3 (32 + s) (nI sd) = some (nI p) := by
    rcases (by omega : sd = 0 ∨ sd = 1) with rfl | rfl
    · simp only [f_X6_party, if_pos (show nI 0 = 0 from rfl), hg, gd_tt, a2 (32 + s) (by omega)]
      rw [show M (32 + s) 1 = sq r s 0 from congrFun eq 0, ep]
    · simp only [f_X6_party, if_neg (show ¬ nI 1 = 0 by decide), hg, gd_tt, a2 (32 + s) (by omega)]
      rw [show M (32 + s) 2 = sq r s 1 from congrFun eq 1, ep]
  have k3 : KC M3 := kc_ne k 125 kcn_125 a2
  obtain ⟨M9, hM9⟩ : ∃ m, m = fw_set M3 124 0 (nI p) := ⟨_, rfl⟩
  have f9 : ∀ b, b ≠ 124 → b ≠ 125 → M9 b = M b := fun b b1 b2 => by rw [hM9, set_nr _ _ _ b1, a2 b b2]
  obtain ⟨m', y1, q, v, par, c, T, fr, hv⟩ := tc_out (p := p) (P := P) k pp w rw3 hg (by omega) (by omega) e7 (nI x) 13 0 20000 (bit p) 1 M9 rfl (by omega) ⟨fun _ => p, fun _ => 0, fun _ => 0, 1, by omega, bq_start hp, f9, rfl, fun y hy => by
    rw [bt_bit (by omega)]
    constructor
    · intro h; exact ⟨0, by omega, (of_decide_eq_true h).symm⟩
    · rintro ⟨e, _, h⟩; exact decide_eq_true (Eq.symm h), fun e he => by
    obtain rfl : e = 0 := by omega
    rw [hM9, set_eq], fun y hy => Or.inl ⟨by rw [hM9, set_na _ _ _ _ (by decide)]; exact a3 y hy, fun e h1 h2 => absurd h1 (by omega)⟩⟩
  obtain ⟨km, pm, rm⟩ := ti_env k pp w rw3 fr
  obtain ⟨e, he⟩ := hr
  obtain ⟨j, hj, ej⟩ := T.all e 0 x (by have := T.1.1; omega) (by rw [T.1.2.1]; exact he)
  obtain ⟨n, n1, n2, n3⟩ := T.up j hj
  obtain ⟨M', c1, c2, c3⟩ := e_goBack km pm w rm T hv hj n1 n2 n3
  rw [ej] at c1
  have y1' : lf_X2_traceChain_35 st_S 121 (32 + s) (nI x) 20000 (bit p) 1 0 M9 = some m' := y1
  refine ⟨q, v, par, c, j, n, M', ?_, ⟨fun b hb => by rw [c2 b (by omega), fr b (by omega) (by omega)], fun i _ => by rw [c2 121 (by decide), fr 121 (by decide) (by decide)]⟩, T, ej, hj, n1, n2, n3, c3⟩
  simp only [f_X2_traceChain, gO_121, gd_tt, kc_121_4 k, gN_125, tn_125, a1, b1_s, hg, ep2, bm_s, kc_121_3 k3, gN_124, tn_124, gA_124_0]
  rw [← hM9]
  show b1 (lf_X2_traceChain_35 st_S 121 (32 + s) (nI x) 20000 (bit p) 1 0 M9) _ = _
  rw [y1', b1_s, c1, b2_s]
/-- the model at the k-th link of a chain -/
theorem m_walk (h : KC M) (w : WF (M 137) P L N) (hs : s ≤ 10) {q v par : Nat → Nat} {c j n : Nat} (T : TRE (gg (M 137)) (tt (M 137)) (bb (M 137) (sq (M 137) s 6)) L P p q v par c) (hj : j < c) (hnj : n ≤ j) (h0 : ac par n j = 0) (hn : ∀ e, e < n → 0 < ac par e j ∧ ac par e j < c) (hA : ∀ y, y < P → AW (gg (M 137)) (tt (M 137)) (bb (M 137) (sq (M 137) s 6)) L (q j) P (M 142) y) {k : Nat} (hk : k < n) : ∃ y, lf_X10_chain_108 st_S M 136 (nI s) (nI k) 20000 (nI p) 0 = some y ∧ f_X10_nearer st_S M 136 (nI s) y = some (nI (v (ac par (n - 1 - k) j))) := by
  have p12 := w.1.1
  have l24 := w.1.2.1
  have hc := T.le
  have near : ∀ e, e < n → f_X10_nearer st_S M 136 (nI s) (nI (q (ac par (e + 1) j))) = some (nI (v (ac par e j))) := fun e he => by
    have h2 := hn e he
    obtain ⟨x1, x2, x3, x4, x5⟩ := T.2.2.1 _ h2.1 h2.2
    have y1 := ac_m T hj h0 hn (r := e + 1) (by omega)
    refine e_nearer h w hs (T.1.2.2 _ y1) (T.aw hj h0 hn hnj hA (r := e + 1) (by omega)) x2 x4 x3 (by rw [x5]; exact T.aw hj h0 hn hnj hA (r := e) (by omega)) (fun l hl g1 g2 g3 => ?_)
    have := T.near hj h0 hn hnj p12 hA he (by omega) g1 g2 (tt_at w (by omega)).2 g3
    omega
  obtain ⟨y, z1, z2⟩ := lp_up (fun f (σ : Int32) i => lf_X10_chain_108 st_S M 136 (nI s) (nI k) f σ (nI i)) k (fun i σ => σ = nI (q (ac par (n - i) j))) (fun σ => σ = nI (q (ac par (n - k) j)))
    (by
      rintro f i σ hi rfl
      have h2 := hn (n - i - 1) (by omega)
      obtain ⟨x1, x2, x3, x4, x5⟩ := T.2.2.1 _ h2.1 h2.2
      have e1 := near (n - i - 1) (by omega)
      rw [show n - i - 1 + 1 = n - i by omega] at e1
      have e2 := e_lk1 h (show v (ac par (n - i - 1) j) < 24 by omega)
      rw [(tt_at w x2).1, x5] at e2
      refine ⟨_, rfl, ?_⟩
      simp only [lf_X10_chain_108, if_neg (nI_ge hi (by omega) : ¬ nI k ≤ nI i), gO_136, gd_tt, e1, b1_s, e2, nI_1]
      rw [show n - (i + 1) = n - i - 1 by omega])
    (by
      rintro f σ rfl
      exact ⟨_, by simp only [lf_X10_chain_108, if_pos (nI_le (Nat.le_refl k) (show k < 2 ^ 31 by omega))], rfl⟩) _ 0 20000 (nI p) rfl (by omega) (by omega) (by rw [show n - 0 = n from rfl, h0, T.1.2.1])
  refine ⟨y, z1, ?_⟩
  have := near (n - 1 - k) (by omega)
  rw [show n - 1 - k + 1 = n - k by omega] at this
  rw [z2]; exact this
end QC
