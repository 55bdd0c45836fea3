/-! ===== count ===== -/
section Q7
variable {M : fw_Mem} {r : Nat → Int32} {P L N : Nat}
theorem c_judged (h : KC M) (w : WF r P L N) (c : CR M r L N) : f_X4_judgedCount st_S M 3 = some (nI (fb_ct (fun i => q_jd (sq r i)) N)) := by
  have n10 := w.n
  obtain ⟨R, h1, h2⟩ := lp_up (fun n x i => lf_X4_judgedCount_4 st_S M 3 n x (nI i)) N (fun i x => x = nI (fb_ct (fun i => q_jd (sq r i)) i)) (fun x => x = nI (fb_ct (fun i => q_jd (sq r i)) N))
    (by
      rintro n i x hiN rfl
      refine ⟨_, rfl, ?_⟩
      have hi : i < 10 := by omega
      have hn : ¬ nI N ≤ nI i := nI_ge hiN (by omega)
      have hg := gO_s3 i hi
      simp only [lf_X4_judgedCount_4, gO_121, gd_tt, b1_s, b2_s, bm_s, kc_121_0 h, gN_3, tn_3, gO_3, kc_3_2 h, gN_6, tn_6, gA_6 hi, nI_cl (show i < 2147483648 by omega), kc_s3 h hi, nI_gN (show 32 + i < 2147483648 by omega), nI_cl (show 32 + i < 2147483648 by omega), hg, c.1.1, if_neg hn, e_c_isJudged hg, (c.2 i hiN).1, bI_0, nI_1, fb_ct_succ]
      cases q_jd (sq r i) <;> simp [nI_1])
    (by
      rintro n x rfl
      exact ⟨_, by simp only [lf_X4_judgedCount_4, gd_tt, gO_3, c.1.1, if_pos (nI_le (Nat.le_refl N) (show N < 2 ^ 31 by omega))], rfl⟩) _ 0 20000 0 rfl (by omega) (by omega) rfl
  have h1' : lf_X4_judgedCount_4 st_S M 3 20000 0 0 = some R := h1
  rw [f_X4_judgedCount, h1', b1_s, h2]
theorem c_reversed (h : KC M) (w : WF r P L N) (c : CR M r L N) : f_X4_reversedCount st_S M 3 = some (nI (fb_ct (fun i => q_rv (sq r i)) N)) := by
  have n10 := w.n
  obtain ⟨R, h1, h2⟩ := lp_up (fun n x i => lf_X4_reversedCount_4 st_S M 3 n x (nI i)) N (fun i x => x = nI (fb_ct (fun i => q_rv (sq r i)) i)) (fun x => x = nI (fb_ct (fun i => q_rv (sq r i)) N))
    (by
      rintro n i x hiN rfl
      refine ⟨_, rfl, ?_⟩
      have hi : i < 10 := by omega
      have hn : ¬ nI N ≤ nI i := nI_ge hiN (by omega)
      have hg := gO_s3 i hi
      have h9 : M (32 + i) 9 = sq r i 8 := congrFun (c.2 i hiN).1 8
      simp only [lf_X4_reversedCount_4, gO_121, gd_tt, b1_s, b2_s, bm_s, kc_121_0 h, gN_3, tn_3, gO_3, kc_3_2 h, gN_6, tn_6, gA_6 hi, nI_cl (show i < 2147483648 by omega), kc_s3 h hi, nI_gN (show 32 + i < 2147483648 by omega), nI_cl (show 32 + i < 2147483648 by omega), hg, c.1.1, if_neg hn, h9, nI_1, fb_ct_succ]
      rcases (w.q hiN).2.2.2.2.2.2.1 with e | e <;> simp [e, q_rv, nI_1])
    (by
      rintro n x rfl
      exact ⟨_, by simp only [lf_X4_reversedCount_4, gd_tt, gO_3, c.1.1, if_pos (nI_le (Nat.le_refl N) (show N < 2 ^ 31 by omega))], rfl⟩) _ 0 20000 0 rfl (by omega) (by omega) rfl
  have h1' : lf_X4_reversedCount_4 st_S M 3 20000 0 0 = some R := h1
  rw [f_X4_reversedCount, h1', b1_s, h2]
theorem mb_judged {B : fw_Mem} (h : KC B) (e : B 137 = r) (w : WF r P L N) (v : Bool) : f_X10_judgedOnes st_S B 136 (bI v) = some (nI (fb_ct (fun i => if v then q_rv (sq r i) else q_jd (sq r i)) N)) := by
  have n10 := w.n
  obtain ⟨R, h1, h2⟩ := lp_up (fun n x i => lf_X10_judgedOnes_4 st_S B 136 (bI v) n x (nI i)) N (fun i x => x = nI (fb_ct (fun i => if v then q_rv (sq r i) else q_jd (sq r i)) i)) (fun x => x = nI (fb_ct (fun i => if v then q_rv (sq r i) else q_jd (sq r i)) N))
    (by
      rintro n i x hiN rfl
      refine ⟨_, rfl, ?_⟩
      have hn : ¬ nI N ≤ nI i := nI_ge hiN (by omega)
      have a1 := e_isJudged h (s := i) (by omega)
      have a2 := e_isReversed h (s := i) (by omega)
      rw [e] at a1 a2
      have hrj : q_rv (sq r i) = true → q_jd (sq r i) = true := fun hq => by
        cases hj : q_jd (sq r i)
        · have h6 : sq r i 6 = -1 := by simpa [q_jd] using hj
          have h8 := ((w.q hiN).2.2.2.2.2.2.2.2.2.1 h6).2.1
          simp [q_rv, h8] at hq
        · rfl
      simp only [lf_X10_judgedOnes_4, gO_136, gd_tt, b1_s, b2_s, bm_s, kc_136_0 h, gN_137, tn_137, bI_0, bI_1, bI_gB, e_suits h, e, w.2.1.2.2, if_neg hn, a1, a2, nI_1, fb_ct_succ]
      cases hj : q_jd (sq r i) <;> cases hv' : q_rv (sq r i) <;> cases v <;> simp [hj, hv', nI_1] at hrj ⊢)
    (by
      rintro n x rfl
      exact ⟨_, by simp only [lf_X10_judgedOnes_4, gO_136, gd_tt, b1_s, b2_s, bm_s, kc_136_0 h, gN_137, tn_137, bI_0, bI_1, bI_gB, e_suits h, e, w.2.1.2.2, if_pos (nI_le (Nat.le_refl N) (show N < 2 ^ 31 by omega))], rfl⟩) _ 0 20000 0 rfl (by omega) (by omega) rfl
  have h1' : lf_X10_judgedOnes_4 st_S B 136 (bI v) 20000 0 0 = some R := h1
  rw [f_X10_judgedOnes, h1', b1_s, h2]
/-! clashes -/
def z_g (r : Nat → Int32) (L a b : Nat) : Bool := !decide (z_ci r L a b = 0)
def z_cc (g : Nat → Nat → Bool) : Nat → Nat
  | 0 => 0
  | n + 1 => z_cc g n + fb_ct (g n) n
def z_cm (g : Nat → Nat → Bool) (N : Nat) : Nat → Nat
  | 0 => 0
  | n + 1 => z_cm g N n + fb_ct (fun b => decide (n < b) && g n b) N
theorem z_cm_succ (g : Nat → Nat → Bool) (N : Nat) : ∀ n, z_cm g (N + 1) n = z_cm g N n + fb_ct (fun a => decide (a < N) && g a N) n
  | 0 => rfl
  | n + 1 => by
    rw [z_cm, z_cm, z_cm_succ g N n, fb_ct_succ, fb_ct_succ]
    omega
theorem z_cm_cc (g : Nat → Nat → Bool) (hg : ∀ a b, g a b = g b a) : ∀ N, z_cm g N N = z_cc g N
  | 0 => rfl
  | N + 1 => by
    have h0 : fb_ct (fun b => decide (N < b) && g N b) (N + 1) = 0 := fb_ct_zero.mpr fun b hb => by simp; omega
    have h1 : fb_ct (fun a => decide (a < N) && g a N) N = fb_ct (g N) N := fb_ct_cong fun a ha => by simp [ha, hg]
    rw [z_cm, z_cc, h0, z_cm_succ, z_cm_cc g hg N, h1]
    rfl
theorem z_cc_le (g : Nat → Nat → Bool) : ∀ n, z_cc g n ≤ n * n
  | 0 => by simp [z_cc]
  | n + 1 => by
    have h1 := z_cc_le g n
    have h2 := fb_ct_le (g n) n
    rw [z_cc, Nat.succ_mul_succ]
    omega
theorem c_clashes (h : KC M) (w : WF r P L N) (c : CR M r L N) : f_X2_clashCount st_S M 121 = some (nI (z_cc (z_g r L) N)) := by
  have n10 := w.n
  have hin : ∀ i, i < N → ∀ c0 : Nat, lf_X2_clashCount_17 st_S M 121 (nI i) 20000 (nI c0) 0 = some (nI (c0 + fb_ct (z_g r L i) i)) := by
    intro a haN c0
    obtain ⟨R, h1, h2⟩ := lp_up (fun n x j => lf_X2_clashCount_17 st_S M 121 (nI a) n x (nI j)) a (fun j x => x = nI (c0 + fb_ct (z_g r L a) j)) (fun x => x = nI (c0 + fb_ct (z_g r L a) a))
      (by
        rintro n i x hia rfl
        refine ⟨_, rfl, ?_⟩
        have hi : i < 10 := by omega
        have ha : a < 10 := by omega
        have hn : ¬ nI a ≤ nI i := nI_ge hia (by omega)
        have hg := gO_s3 i hi
        have hcl := c_clash w c haN (show i < N by omega)
        simp only [lf_X2_clashCount_17, gO_121, gd_tt, b1_s, b2_s, bm_s, kc_121_0 h, gN_3, tn_3, gO_3, kc_3_2 h, gN_6, tn_6, gA_6 hi, nI_cl (show i < 2147483648 by omega), kc_s3 h hi, nI_gN (show 32 + i < 2147483648 by omega), nI_cl (show 32 + i < 2147483648 by omega), hg, if_neg hn, gA_6 ha, nI_cl (show a < 2147483648 by omega), kc_s3 h ha, nI_gN (show 32 + a < 2147483648 by omega), nI_cl (show 32 + a < 2147483648 by omega), hcl, nI_1, fb_ct_succ]
        by_cases q : z_ci r L a i = 0 <;> simp [q, z_g, nI_1, Nat.add_assoc])
      (by
        rintro n x rfl
        exact ⟨_, by simp only [lf_X2_clashCount_17, if_pos (nI_le (Nat.le_refl a) (show a < 2 ^ 31 by omega))], rfl⟩) _ 0 20000 (nI c0) rfl (by omega) (by omega) rfl
    rw [← h2]; exact h1
  obtain ⟨R, h1, h2⟩ := lp_up (fun n x i => lf_X2_clashCount_4 st_S M 121 n x (nI i)) N (fun i x => x = nI (z_cc (z_g r L) i)) (fun x => x = nI (z_cc (z_g r L) N))
    (by
      rintro n i x hiN rfl
      refine ⟨_, rfl, ?_⟩
      have hn : ¬ nI N ≤ nI i := nI_ge hiN (by omega)
      simp only [lf_X2_clashCount_4, gO_121, gd_tt, kc_121_0 h, gN_3, tn_3, gO_3, c.1.1, if_neg hn, hin i hiN, b1_s, nI_1, z_cc])
    (by
      rintro n x rfl
      exact ⟨_, by simp only [lf_X2_clashCount_4, gO_121, gd_tt, kc_121_0 h, gN_3, tn_3, gO_3, c.1.1, if_pos (nI_le (Nat.le_refl N) (show N < 2 ^ 31 by omega))], rfl⟩) _ 0 20000 0 rfl (by omega) (by omega) rfl
  have h1' : lf_X2_clashCount_4 st_S M 121 20000 0 0 = some R := h1
  rw [f_X2_clashCount, h1', b1_s, h2]
theorem ci_31 (w : WF r P L N) {a b : Nat} (ha : a < N) : bt (z_ci r L a b) 31 = false := by
  have hq := w.q ha
  have h1 := congrArg (fun x => bt x 31) hq.2.2.2.2.2.2.2.2.1
  have h2 := q_st_sub (e := r 5) (q := sq r a) (show 31 < 32 by omega)
  simp only [b_and, b_or, b_not _ (show 31 < 32 by omega), b_0, hq.2.2.2.2.2.2.2.2.2.2.1, hq.2.2.2.2.2.2.2.2.2.2.2] at h1
  unfold z_ci
  split
  · exact b_0 31
  · rw [b_and, b_and]
    cases e1 : bt (q_st (r 5) (sq r a)) 31
    · simp
    · cases e2 : bt (sq r a 9) 31 <;> cases e3 : bt (sq r a 10) 31 <;> simp [e1, e2, e3] at h1 h2
theorem mb_clashes {B : fw_Mem} (h : KC B) (e : B 137 = r) (w : WF r P L N) (hB : ∀ k, k < 2 * N → B 141 k = BDr r L k) : lf_X10_clashes_8 st_S B 136 20000 0 0 = some (nI (z_cc (z_g r L) N)) := by
  have n10 := w.n
  have hin : ∀ a, a < N → ∀ c0 : Nat, lf_X10_clashes_20 st_S B 136 (nI a) 20000 (nI c0) (nI (a + 1)) = some (nI (c0 + fb_ct (fun b => decide (a < b) && z_g r L a b) N)) := by
    intro a haN c0
    have h0 : fb_ct (fun b => decide (a < b) && z_g r L a b) (a + 1) = 0 := fb_ct_zero.mpr fun b hb => by simp; omega
    obtain ⟨R, h1, h2⟩ := lp_up (fun n x j => lf_X10_clashes_20 st_S B 136 (nI a) n x (nI j)) N (fun j x => a + 1 ≤ j ∧ x = nI (c0 + fb_ct (fun b => decide (a < b) && z_g r L a b) j)) (fun x => x = nI (c0 + fb_ct (fun b => decide (a < b) && z_g r L a b) N))
      (by
        rintro n i x hiN ⟨hai, rfl⟩
        refine ⟨_, ⟨by omega, rfl⟩, ?_⟩
        have hn : ¬ nI N ≤ nI i := nI_ge hiN (by omega)
        have hcl := mb_clash h e w hB haN hiN
        simp only [lf_X10_clashes_20, gO_136, gd_tt, b1_s, b2_s, bm_s, kc_136_0 h, gN_137, tn_137, bI_0, bI_1, bI_gB, e_suits h, e, w.2.1.2.2, if_neg hn, hcl, nI_1, fb_ct_succ, z_low_m1 (ci_31 w haN)]
        by_cases q : z_ci r L a i = 0 <;> simp [q, z_g, nI_1, Nat.add_assoc, show a < i by omega])
      (by
        rintro n x ⟨-, rfl⟩
        exact ⟨_, by simp only [lf_X10_clashes_20, gO_136, gd_tt, b1_s, b2_s, bm_s, kc_136_0 h, gN_137, tn_137, bI_0, bI_1, bI_gB, e_suits h, e, w.2.1.2.2, if_pos (nI_le (Nat.le_refl N) (show N < 2 ^ 31 by omega))], rfl⟩) _ (a + 1) 20000 (nI c0) rfl (by omega) (by omega) ⟨by omega, by rw [h0]; rfl⟩
    rw [← h2]; exact h1
  obtain ⟨R, h1, h2⟩ := lp_up (fun n x i => lf_X10_clashes_8 st_S B 136 n x (nI i)) N (fun i x => x = nI (z_cm (z_g r L) N i)) (fun x => x = nI (z_cm (z_g r L) N N))
    (by
      rintro n i x hiN rfl
      refine ⟨_, rfl, ?_⟩
      have hn : ¬ nI N ≤ nI i := nI_ge hiN (by omega)
      simp only [lf_X10_clashes_8, gO_136, gd_tt, b1_s, b2_s, bm_s, kc_136_0 h, gN_137, tn_137, bI_0, bI_1, bI_gB, e_suits h, e, w.2.1.2.2, if_neg hn, nI_1, hin i hiN, z_cm])
    (by
      rintro n x rfl
      exact ⟨_, by simp only [lf_X10_clashes_8, gO_136, gd_tt, b1_s, b2_s, bm_s, kc_136_0 h, gN_137, tn_137, bI_0, bI_1, bI_gB, e_suits h, e, w.2.1.2.2, if_pos (nI_le (Nat.le_refl N) (show N < 2 ^ 31 by omega))], rfl⟩) _ 0 20000 0 rfl (by omega) (by omega) rfl
  have h1' : lf_X10_clashes_8 st_S B 136 20000 0 0 = some R := h1
  rw [h1', h2, z_cm_cc _ fun a b => by rw [z_g, z_g, z_ci_comm]]
theorem q_count (I : INV M) (x : Int32) : QOK (f_L_count st_S M 0 x 148) (fun M1 => f_X10_count st_S M1 136 x) := by
  obtain ⟨P, L, N, A, T, U, hh, h, w, pp, r3, c, im, ac, tp, sp⟩ := id I
  have cl : ∀ u : Int32, f_X9_count st_S M 0 x = some (.inl u) → f_L_count st_S M 0 x 148 = some (0, fw_set M 148 0 u) := fun u hu => by simp only [f_L_count, gO_0, gd_tt, kc_0_5 h, gN_121, tn_121, gO_121, b1_s, b2_s, bxl, bxr, bn_s, gA_148_0, bm_s, if_true, if_false, i10, i00, hu]
  by_cases hx : x = 0 ∨ x = 1 ∨ x = 2 ∨ x = 3 ∨ x = 4 ∨ x = 5 ∨ x = 6 ∨ x = 7 ∨ x = 8 ∨ x = 9 ∨ x = 10
  rotate_left
  · simp only [not_or] at hx
    refine qok1 I (M1 := M) (k := 1) (by decide) ?_ (AG.rf M) (fun k1 e => ⟨0, _, ?_, mc_ff M 0 1⟩)
    · simp [f_L_count, f_X9_count, gO_0, gd_tt, kc_0_5 h, gN_121, tn_121, gO_121, b1_s, b2_s, bxl, bxr, bn_s, gA_148_0, bm_s, if_true, if_false, i10, i00, hx]
    · simp [f_X10_count, gO_136, gd_tt, bm_s, hx, m_fail, b2_s]
  have hrow : ∀ {B : fw_Mem}, KC B → B 137 = M 137 → ∀ j, j < 6 → ∀ y, y = nI j → gA st_S 0 137 y = true ∧ fw_set B 136 6 0 137 y.toNatClampNeg = M 137 j := fun k e j hj y hy => by
    subst hy
    exact ⟨gA_137 (by omega), by rw [s137, e, nI_cl (by omega)]⟩
  rcases hx with rfl | rfl | rfl | rfl | rfl | rfl | rfl | rfl | rfl | rfl | rfl
  · refine qok0 I (cl (nI P) (by simp [f_X9_count, gO_0, gd_tt, kc_0_1 h, gN_3, tn_3, gO_3, r3.1.1])) ((AG.rf M).st 148 0 _ rfl) (set_eq _ _ _ _) (fun k1 e => ⟨_, ?_, mf_set _ 0⟩)
    have k2 := kc_136 k1 0
    obtain ⟨a1, a2⟩ := hrow k1 e 0 (by omega) 0 rfl
    simp only [f_X10_count, gO_136, gd_tt, bm_s, if_true, kc_136_0 k2, gN_137, tn_137, a1, a2, w.2.1.1]
  · refine qok0 I (cl (nI L) (by simp [f_X9_count, gO_0, gd_tt, kc_0_1 h, gN_3, tn_3, gO_3, r3.1.2.1])) ((AG.rf M).st 148 0 _ rfl) (set_eq _ _ _ _) (fun k1 e => ⟨_, ?_, mf_set _ 0⟩)
    have k2 := kc_136 k1 0
    obtain ⟨a1, a2⟩ := hrow k1 e 1 (by omega) 1 rfl
    simp only [f_X10_count, gO_136, gd_tt, bm_s, if_true, i10, if_false, kc_136_0 k2, gN_137, tn_137, a1, a2, w.2.1.2.1]
  · refine qok0 I (cl (nI N) (by simp [f_X9_count, gO_0, gd_tt, kc_0_1 h, gN_3, tn_3, gO_3, r3.1.2.2])) ((AG.rf M).st 148 0 _ rfl) (set_eq _ _ _ _) (fun k1 e => ⟨_, ?_, mf_set _ 0⟩)
    have k2 := kc_136 k1 0
    obtain ⟨a1, a2⟩ := hrow k1 e 2 (by omega) 2 rfl
    simp only [f_X10_count, gO_136, gd_tt, bm_s, kc_136_0 k2, gN_137, tn_137, a1, a2, w.2.1.2.2]
    rfl
  · refine qok0 I (cl _ (by simp [f_X9_count, gO_0, gd_tt, kc_0_1 h, gN_3, tn_3, gO_3, c_judged h w c, b1_s]; rfl)) ((AG.rf M).st 148 0 _ rfl) (set_eq _ _ _ _) (fun k1 e => ⟨_, ?_, mf_set _ 0⟩)
    have a1 := mb_judged (kc_136 k1 0) ((s137 _ _).trans e) w false
    rw [bI_f] at a1
    simp [f_X10_count, gO_136, gd_tt, bm_s, a1, b1_s]
  · refine qok0 I (cl _ (by simp [f_X9_count, gO_0, gd_tt, kc_0_1 h, gN_3, tn_3, gO_3, c_reversed h w c, b1_s]; rfl)) ((AG.rf M).st 148 0 _ rfl) (set_eq _ _ _ _) (fun k1 e => ⟨_, ?_, mf_set _ 0⟩)
    have a1 := mb_judged (kc_136 k1 0) ((s137 _ _).trans e) w true
    rw [bI_t] at a1
    simp [f_X10_count, gO_136, gd_tt, bm_s, a1, b1_s]
  · refine qok0 I (cl (M 137 3) (by simp [f_X9_count, gO_0, gd_tt, kc_0_1 h, gN_3, tn_3, gO_3, kc_3_3 h, gN_7, tn_7, gA_7_0, c.1.2.1])) ((AG.rf M).st 148 0 _ rfl) (set_eq _ _ _ _) (fun k1 e => ⟨_, ?_, mf_set _ 0⟩)
    have k2 := kc_136 k1 0
    obtain ⟨a1, a2⟩ := hrow k1 e 3 (by omega) (3 + 5 - 5) rfl
    simp only [f_X10_count, gO_136, gd_tt, bm_s, kc_136_0 k2, gN_137, tn_137, a1, a2]
    rfl
  · refine qok0 I (cl (M 137 4) (by simp [f_X9_count, gO_0, gd_tt, kc_0_1 h, gN_3, tn_3, gO_3, kc_3_3 h, gN_7, tn_7, gA_7_1, c.1.2.2.1])) ((AG.rf M).st 148 0 _ rfl) (set_eq _ _ _ _) (fun k1 e => ⟨_, ?_, mf_set _ 0⟩)
    have k2 := kc_136 k1 0
    obtain ⟨a1, a2⟩ := hrow k1 e 4 (by omega) (3 + 6 - 5) rfl
    simp only [f_X10_count, gO_136, gd_tt, bm_s, kc_136_0 k2, gN_137, tn_137, a1, a2]
    rfl
  · refine qok0 I (cl (M 137 5) (by simp [f_X9_count, gO_0, gd_tt, kc_0_1 h, gN_3, tn_3, gO_3, kc_3_3 h, gN_7, tn_7, gA_7_2, c.1.2.2.2])) ((AG.rf M).st 148 0 _ rfl) (set_eq _ _ _ _) (fun k1 e => ⟨_, ?_, mf_set _ 0⟩)
    have k2 := kc_136 k1 0
    obtain ⟨a1, a2⟩ := hrow k1 e 5 (by omega) (3 + 7 - 5) rfl
    simp only [f_X10_count, gO_136, gd_tt, bm_s, kc_136_0 k2, gN_137, tn_137, a1, a2]
    rfl
  · refine qok0 I (cl (nI A) (by simp [f_X9_count, gO_0, gd_tt, kc_0_7 h, gN_131, tn_131, gO_131, ac.1])) ((AG.rf M).st 148 0 _ rfl) (set_eq _ _ _ _) (fun k1 e => ⟨_, ?_, mf_set _ 0⟩)
    simp [f_X10_count, gO_136, gd_tt, bm_s, set_nk _ _ _ _ (show (5 : Nat) ≠ 6 by decide), set_na _ _ _ _ (show (136 : Nat) ≠ 148 by decide), ac.2.1]
  · refine qok0 I (cl (nI T) (by simp [f_X9_count, gO_0, gd_tt, kc_0_0 h, gN_1, tn_1, gO_1, tp.1])) ((AG.rf M).st 148 0 _ rfl) (set_eq _ _ _ _) (fun k1 e => ⟨_, ?_, mf_set _ 0⟩)
    simp [f_X10_count, gO_136, gd_tt, bm_s, set_nk _ _ _ _ (show (15 : Nat) ≠ 6 by decide), set_na _ _ _ _ (show (136 : Nat) ≠ 148 by decide), tp.2.1]
  · refine qok0 I (cl _ (by simp [f_X9_count, gO_0, gd_tt, kc_0_5 h, gN_121, tn_121, gO_121, c_clashes h w c, b1_s]; rfl)) ((AG.rf M).st 148 0 _ rfl) (set_eq _ _ _ _) (fun k1 e => ?_)
    obtain ⟨C, h1, h2, h3, h4, h5, h6, h7⟩ := m_lay0 k1 e w
    exact ⟨C, by simp [f_X10_count, f_X10_clashes, gO_136, gd_tt, bm_s, h1, mb_clashes h4 h3 w h5, b1_s, b2_s], h2⟩
end Q7
