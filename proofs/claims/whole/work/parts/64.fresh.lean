section RF2
variable {M : fw_Mem} {r : Nat → Int32} {P L N : Nat}
theorem rfr_rw {M' : fw_Mem} (f : RFr M M') (hp : cLP M 3) (hL : L ≤ 24) (hN : N ≤ 10) (w : RW M 3 r P L N) : RW M' 3 r P L N := by
  obtain ⟨h1, h2, h3, h4, h5⟩ := w
  refine ⟨?_, ?_, ?_, fun l hl => ?_, fun s hs => ?_⟩
  · rw [f.1 3 (by omega)]; exact h1
  · rw [f.1 (3 + 1) (by omega)]; exact h2
  · rw [f.1 (3 + 4) (by omega)]; exact h3
  · obtain ⟨j, j1, j2, j3⟩ := hp.at (l := l) (by omega) (by omega)
    have := h4 l hl
    rw [f.1 (3 + 2) (by omega)]
    rw [j3] at this ⊢
    rw [cl_fr (f.1 _ (by omega))]; exact this
  · rw [show 3 + 29 + s = 32 + s by omega, rfr_cq f (by omega)]; exact h5 s hs
theorem reach_at {m : fw_Mem} (k : KC m) (w : WF r P L N) (p : cLP m 3) (rw3 : RW m 3 r P L N) {i sd : Nat} (hi : i < N) (hsd : sd < 2) : f_X2_reachOf st_S m 121 (32 + i) (m (32 + i) (1 + sd)) = some (BDr r L (2 * i + sd)) := by
  have n10 := w.n
  have l24 := w.1.2.1
  have p12 := w.1.1
  have eq : cq m (32 + i) = sq r i := by have := rw3.2.2.2.2 i hi; rwa [show 3 + 29 + i = 32 + i by omega] at this
  have hl : ∀ l, l < L → cl m (cl3 m l) = lq r l := fun l hl => rw3.2.2.2.1 l hl
  have hp : ∃ q, q < 12 ∧ sq r i sd = nI q := by
    match sd, hsd with
    | 0, _ => obtain ⟨q, h1, h2⟩ := (w.q hi).1; exact ⟨q, by omega, h2⟩
    | 1, _ => obtain ⟨q, h1, h2⟩ := (w.q hi).2.1; exact ⟨q, by omega, h2⟩
  obtain ⟨q, hq, eqq⟩ := hp
  have e1 : m (32 + i) (1 + sd) = nI q := by
    have := congrFun eq sd
    rw [eqq] at this
    rw [← this]
    simp [cq, show sd < 12 by omega]
  have e7 : m (32 + i) 7 = sq r i 6 := congrFun eq 6
  rw [e1, e_reachOf k p rw3.1.2.1 l24 (fun l hl' => by
    rw [hl l hl']
    obtain ⟨-, ⟨a, ha, ea⟩, -⟩ := w.2.2.2.2.1 l hl'
    exact ⟨a, by omega, ea⟩) (gO_s3 i (by omega)) hq, eq, e7, itp_cong hl]
  unfold BDr
  rw [show (2 * i + sd) / 2 = i by omega, show (2 * i + sd) % 2 = sd by omega, eqq]
  rfl
theorem rfr_set {m : fw_Mem} (f : RFr M m) {i j : Nat} (hj : 13 ≤ j) (v : Int32) (hi : i < 10) : RFr M (fw_set m (32 + i) j v) := ⟨fun b hb => by rw [set_nr _ _ _ (by omega), f.1 b hb], fun s hs j' hj' => by rw [set_nk _ _ _ _ (by omega), f.2 s hs j' hj']⟩
theorem c_refresh (h : KC M) (w : WF r P L N) (p3 : cLP M 3) (rw3 : RW M 3 r P L N) : ∃ M', f_X2_refresh st_S M 121 = some M' ∧ RFr M M' ∧ CR M' r L N := by
  have n10 := w.n
  have l24 := w.1.2.1
  have facts : ∀ {m : fw_Mem}, RFr M m → KC m ∧ cLP m 3 ∧ RW m 3 r P L N := fun {m} f => ⟨f.kc h, by unfold cLP; rw [f.1 (3 + 2) (by omega)]; exact p3, rfr_rw f p3 l24 n10 rw3⟩
  obtain ⟨R, h1, h2⟩ := lp_up (fun n (m : fw_Mem) i => lf_X2_refresh_2 st_S 121 n (nI i) m) N (fun i m => RFr M m ∧ ∀ k, k < i → (m (32 + k) 13 = BDr r L (2 * k) ∧ m (32 + k) 14 = BDr r L (2 * k + 1)) ∧ (m (32 + k) 15 = q_st (r 5) (sq r k) &&& sq r k 9 ∧ m (32 + k) 16 = q_st (r 5) (sq r k) &&& sq r k 10)) (fun m => RFr M m ∧ ∀ k, k < N → (m (32 + k) 13 = BDr r L (2 * k) ∧ m (32 + k) 14 = BDr r L (2 * k + 1)) ∧ (m (32 + k) 15 = q_st (r 5) (sq r k) &&& sq r k 9 ∧ m (32 + k) 16 = q_st (r 5) (sq r k) &&& sq r k 10))
    (by
      rintro n i m hiN ⟨f, g⟩
      have hi : i < 10 := by omega
      have hn : ¬ nI N ≤ nI i := nI_ge hiN (by omega)
      have hg := gO_s3 i hi
      obtain ⟨k0, p0, w0⟩ := facts f
      have eq : cq m (32 + i) = sq r i := by have := w0.2.2.2.2 i hiN; rwa [show 3 + 29 + i = 32 + i by omega] at this
      have hq := w.q hiN
      have hb8 : m (32 + i) 8 = 0 ∨ m (32 + i) 8 = 1 := by have := hq.2.2.2.2.2.1; rw [← eq] at this; exact this
      have hb9 : m (32 + i) 9 = 0 ∨ m (32 + i) 9 = 1 := by have := hq.2.2.2.2.2.2.1; rw [← eq] at this; exact this
      have hst := e_c_settled hg hb8 hb9 (m 7 2)
      have e72 : m 7 2 = r 5 := w0.2.2.1 2 (by omega)
      rw [eq, e72] at hst
      have e10 : m (32 + i) 10 = sq r i 9 := congrFun eq 9
      have e11 : m (32 + i) 11 = sq r i 10 := congrFun eq 10
      obtain ⟨m13, hm13⟩ : ∃ x, x = fw_set (fw_set m (32 + i) 15 (q_st (r 5) (sq r i) &&& sq r i 9)) (32 + i) 16 (q_st (r 5) (sq r i) &&& sq r i 10) := ⟨_, rfl⟩
      have f13 : RFr M m13 := by rw [hm13]; exact rfr_set (rfr_set f (by omega) _ hi) (by omega) _ hi
      obtain ⟨k13, p13, w13⟩ := facts f13
      have a1 := reach_at k13 w p13 w13 hiN (show 0 < 2 by omega)
      have f15 : RFr M (fw_set m13 (32 + i) 13 (BDr r L (2 * i))) := rfr_set f13 (by omega) _ hi
      obtain ⟨k15, p15, w15⟩ := facts f15
      have a2 := reach_at k15 w p15 w15 hiN (show 1 < 2 by omega)
      have f17 : RFr M (fw_set (fw_set m13 (32 + i) 13 (BDr r L (2 * i))) (32 + i) 14 (BDr r L (2 * i + 1))) := rfr_set f15 (by omega) _ hi
      have h3N : m 3 6 = nI N := w0.1.2.2
      refine ⟨fw_set (fw_set m13 (32 + i) 13 (BDr r L (2 * i))) (32 + i) 14 (BDr r L (2 * i + 1)), ⟨f17, fun k hk => ?_⟩, ?_⟩
      · by_cases e : k = i
        · subst e
          refine ⟨⟨?_, set_eq _ _ _ _⟩, ?_, ?_⟩
          · rw [set_nk _ _ _ _ (by omega), set_eq]
          · rw [set_nk _ _ _ _ (by omega), set_nk _ _ _ _ (by omega), hm13, set_nk _ _ _ _ (by omega), set_eq]
          · rw [set_nk _ _ _ _ (by omega), set_nk _ _ _ _ (by omega), hm13, set_eq]
        · have hne : 32 + k ≠ 32 + i := by omega
          rw [set_nr _ _ _ hne, set_nr _ _ _ hne, hm13, set_nr _ _ _ hne, set_nr _ _ _ hne]
          exact g k (by omega)
      · rw [hm13] at a1 a2 ⊢
        have a1' : f_X2_reachOf st_S (fw_set (fw_set m (32 + i) 15 (q_st (r 5) (sq r i) &&& sq r i 9)) (32 + i) 16 (q_st (r 5) (sq r i) &&& sq r i 10)) 121 (32 + i) (m (32 + i) 1) = some (BDr r L (2 * i)) := by
          rw [set_nk _ _ _ _ (by omega), set_nk _ _ _ _ (by omega)] at a1; exact a1
        have a2' : f_X2_reachOf st_S (fw_set (fw_set (fw_set m (32 + i) 15 (q_st (r 5) (sq r i) &&& sq r i 9)) (32 + i) 16 (q_st (r 5) (sq r i) &&& sq r i 10)) (32 + i) 13 (BDr r L (2 * i))) 121 (32 + i) (m (32 + i) 2) = some (BDr r L (2 * i + 1)) := by
          rw [set_nk _ _ _ _ (by omega), set_nk _ _ _ _ (by omega), set_nk _ _ _ _ (by omega)] at a2; exact a2
        have h := k0
        simp only [lf_X2_refresh_2, gO_121, gd_tt, b1_s, b2_s, bm_s, kc_121_0 h, gN_3, tn_3, gO_3, kc_3_2 h, gN_6, tn_6, gA_6 hi, nI_cl (show i < 2147483648 by omega), kc_s3 h hi, nI_gN (show 32 + i < 2147483648 by omega), nI_cl (show 32 + i < 2147483648 by omega), hg, h3N, if_neg hn, kc_3_3 h, gN_7, tn_7, gA_7_2, e72, hst, e10, set_nk _ _ _ _ (show (11 : Nat) ≠ 15 by decide), e11, set_nk _ _ _ _ (show (1 : Nat) ≠ 16 by decide), set_nk _ _ _ _ (show (1 : Nat) ≠ 15 by decide), a1', set_nk _ _ _ _ (show (2 : Nat) ≠ 13 by decide), set_nk _ _ _ _ (show (2 : Nat) ≠ 16 by decide), set_nk _ _ _ _ (show (2 : Nat) ≠ 15 by decide), a2', nI_1])
    (by
      rintro n m ⟨f, g⟩
      obtain ⟨k0, p0, w0⟩ := facts f
      have h3N : m 3 6 = nI N := w0.1.2.2
      exact ⟨m, by simp only [lf_X2_refresh_2, gO_121, gd_tt, kc_121_0 k0, gN_3, tn_3, gO_3, h3N, if_pos (nI_le (Nat.le_refl N) (show N < 2 ^ 31 by omega))], f, g⟩) _ 0 20000 M rfl (by omega) (by omega) ⟨⟨fun _ _ => rfl, fun _ _ _ _ => rfl⟩, fun k hk => absurd hk (by omega)⟩
  have h1' : lf_X2_refresh_2 st_S 121 20000 0 M = some R := h1
  obtain ⟨k0, p0, w0⟩ := facts h2.1
  refine ⟨R, by rw [f_X2_refresh, h1', b1_s], h2.1, ⟨⟨w0.1.2.2, w0.2.2.1 0 (by omega), w0.2.2.1 1 (by omega), w0.2.2.1 2 (by omega)⟩, fun i hi => ?_⟩⟩
  have := w0.2.2.2.2 i hi
  rw [show 3 + 29 + i = 32 + i by omega] at this
  exact ⟨this, h2.2 i hi⟩
end RF2
/-! what holds behind a call that tells something anew -/
def acc (b j : Nat) : Bool := (decide (3 ≤ b) && decide (b < 42)) || (b == 131 && !(j == 0)) || b == 132 || b == 137 || b == 140 || (b == 136 && j == 5)
theorem iv_new {M M' : fw_Mem} {P L N A T U P' L' N' A' : Nat} {h : Bool} (I : IV M P L N A T U h) (g : ∀ b j, dd b j = false → acc b j = false → M' b j = M b j) (k : KC M') (w : WF (M' 137) P' L' N') (p3 : cLP M' 3) (r3 : RW M' 3 (M' 137) P' L' N') (c : CR M' (M' 137) L' N') (ac : M' 131 1 = nI A' ∧ M' 136 5 = nI A' ∧ ACT (M' 132) (M' 140) (M' 137) P' L' N' A') : IV M' P' L' N' A' T U h := by
  obtain ⟨k0, w0, ⟨q1, q2, q3⟩, -, -, im, -, tp, sp⟩ := I
  have e : ∀ b, (b == 0 || b == 2 || b == 44 || (decide (81 ≤ b) && decide (b < 121)) || b == 133 || b == 134 || b == 139 || b == 146 || b == 147) = true → M' b = M b := fun b hb => funext fun j => by
    refine g b j (dd_row ?_ j) ?_
    · simp [dr] at hb ⊢; omega
    · simp [acc] at hb ⊢; omega
  refine ⟨k, w, ⟨p3, ?_, ?_⟩, r3, c, ?_, ac, ?_, ?_⟩
  · unfold cLP; rw [e (42 + 2) rfl]; exact q2
  · unfold cLP; rw [e (81 + 2) rfl]; exact q3
  · refine ⟨by rw [e 0 rfl]; exact im.1, by rw [g 136 4 rfl rfl]; exact im.2.1, fun hh => ?_⟩
    obtain ⟨P1, L1, N1, w1, r1⟩ := im.2.2 hh
    refine ⟨P1, L1, N1, by rw [e 139 rfl]; exact w1, ?_⟩
    rw [e 139 rfl]
    exact RW.fr q3 (by omega) w1.1.2.1 w1.1.2.2 (fun b h1 h2 => e b (by simp; omega)) r1
  · rw [g 1 1 rfl rfl, g 136 15 rfl rfl, e 2 rfl, e 147 rfl, g 1 8 rfl rfl, g 136 23 rfl rfl]; exact tp
  · rw [e 133 rfl, e 134 rfl, e 146 rfl, g 136 13 rfl rfl]; exact sp
theorem act_done {M M13 M2 : fw_Mem} {P L N A T U L' : Nat} {hh : Bool} {r' f : Nat → Int32} (I : IV M P L N A T U hh)
    (fc : ∀ b, ¬ (3 ≤ b ∧ b < 42) → b ≠ 131 → b ≠ 132 → M13 b = M b) (f0 : M13 131 0 = M 131 0)
    (a1 : M13 131 1 = nI (min A 11 + 1)) (a2 : ∀ j, j < min A 11 → arow (M13 132) j = arow (M 132) (j + (A - min A 11))) (a3 : arow (M13 132) (min A 11) = f)
    (k13 : KC M13) (p13 : cLP M13 3) (rw13 : RW M13 3 r' P L' N) (c13 : CR M13 r' L' N) (w' : WF r' P L' N) (u : UD f r' L' (M 137) L P N)
    (fm : ∀ b, b ≠ 136 → b ≠ 137 → b ≠ 140 → b ≠ 148 → M2 b = M13 b) (fm6 : ∀ j, j ≠ 5 → j ≠ 6 → M2 136 j = M13 136 j) (m5 : M2 136 5 = nI (min A 11 + 1)) (p1 : ∀ j, j < min A 11 → prow (M2 140) j = prow (M 140) (j + (A - min A 11))) (p2 : prow (M2 140) (min A 11) = nrm (M 137)) (e137 : M2 137 = r') : IV M2 P L' N (min A 11 + 1) T U hh := by
  obtain ⟨-, w, -, -, -, -, ac, -⟩ := id I
  have n10 := w'.n
  have l24 := w'.1.2.1
  refine iv_new I (fun b j hd ha => ?_) ?_ (by rw [e137]; exact w') ?_ ?_ ?_ ⟨?_, m5, ?_⟩
  · simp [acc] at ha
    by_cases e1 : b = 136
    · subst e1
      have hj6 : j ≠ 6 := fun q => by subst q; exact absurd hd (by decide)
      rw [fm6 j (by have := ha.2; simpa using this) hj6, fc 136 (by omega) (by omega) (by omega)]
    · have hb148 : b ≠ 148 := fun q => by subst q; exact absurd hd (by simp [dd])
      rw [fm b e1 (by omega) (by omega) hb148]
      by_cases e2 : b = 131
      · subst e2
        have : j = 0 := by have := ha.1.1.1.1.2; simpa using this
        rw [this]; exact f0
      · rw [fc b (by omega) e2 (by omega)]
  · refine kc_cong k13 fun q hq => ?_
    have h2 := List.all_eq_true.mp (by decide +kernel : (kcl.all fun q => (!(q.1 == 137) && (!(q.1 == 140) && !(q.1 == 148))) && (!(q.1 == 136) || (!(q.2.1 == 5) && !(q.2.1 == 6)))) = true) q hq
    simp at h2
    by_cases e1 : q.1 = 136
    · rw [e1]
      rcases h2.2 with z | z
      · exact absurd e1 z
      · exact fm6 _ z.1 z.2
    · rw [fm _ e1 h2.1.1 h2.1.2.1 h2.1.2.2]
  · unfold cLP; rw [fm (3 + 2) (by decide) (by decide) (by decide) (by decide)]; exact p13
  · rw [e137]; exact RW.fr p13 (by omega) l24 n10 (fun b h1 h2 => fm b (by omega) (by omega) (by omega) (by omega)) rw13
  · rw [e137]
    refine ⟨by rw [fm 3 (by decide) (by decide) (by decide) (by decide), fm 7 (by decide) (by decide) (by decide) (by decide)]; exact c13.1, fun i hi => ?_⟩
    have ei := fm (32 + i) (by omega) (by omega) (by omega) (by omega)
    rw [cq_fr ei, ei]; exact c13.2 i hi
  · rw [fm 131 (by decide) (by decide) (by decide) (by decide)]; exact a1
  · rw [e137, fm 132 (by decide) (by decide) (by decide) (by decide)]
    exact act_push ac.2.2 w a2 p1 a3 p2 u
