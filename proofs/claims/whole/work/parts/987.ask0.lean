/-! ===== ask: what is asked of a suit ===== -/
theorem pc_diff {x y : Int32} (h : ∀ i, i < 32 → bt y i = true → bt x i = true) : pc x = pc y + pc (x &&& (y ^^^ (-1))) := by
  have h1 : fb_ct (fun k => bt y k || bt (x &&& (y ^^^ (-1))) k) 32 = fb_ct (bt y) 32 + fb_ct (bt (x &&& (y ^^^ (-1)))) 32 := fb_ct_or fun k hk => by
    rw [b_and, b_not _ hk]
    cases bt y k <;> simp
  have h2 : fb_ct (bt x) 32 = fb_ct (fun k => bt y k || bt (x &&& (y ^^^ (-1))) k) 32 := fb_ct_cong fun k hk => by
    have := h k hk
    rw [b_and, b_not _ hk]
    cases e : bt y k
    · simp
    · rw [this e]; rfl
  show fb_ct (bt x) 32 = fb_ct (bt y) 32 + fb_ct (bt (x &&& (y ^^^ (-1)))) 32
  rw [h2, h1]
def zV (r : Nat → Int32) (L N i : Nat) : Nat → Int32
  | 0 => nI i
  | 1 => sq r i 0
  | 2 => sq r i 1
  | 3 => sq r i 2
  | 4 => sq r i 6
  | 5 => if q_rv (sq r i) = false then q_wn (sq r i) else -1
  | 6 => nI (pc (zB r L N i))
  | 7 => nI (pc (zH r L N i))
  | 8 => nI (pc (q_is (sq r i) &&& (zH r L N i ^^^ (-1))))
  | _ => zF r L N i
section AV
variable {M B : fw_Mem} {r : Nat → Int32} {P L N s : Nat}
theorem e_valueOf (h : KC B) (e : B 137 = r) (w : WF r P L N) (hB : ∀ k, k < 2 * N → B 141 k = BDr r L k) (hs : s < N) {k : Nat} (hk : k < 10) : f_X10_valueOf st_S B 136 (nI s) (nI k) = some (zV r L N s k) := by
  have n10 := w.n
  have h10 : s ≤ 10 := by omega
  have a1 := e_of h h10 (show 0 < 12 by omega) rfl
  have a2 := e_of h h10 (show 1 < 12 by omega) rfl
  have a3 := e_of h h10 (show 2 < 12 by omega) rfl
  have a4 := e_of6 h h10
  have a5 := e_isReversed h h10
  have a6 := e_winsOf h h10
  have a7 := e_issuesOf h h10
  rw [e] at a1 a2 a3 a4 a5 a6 a7
  have a8 : f_X10_barsOf st_S B 136 (nI s) = some (zB r L N s) := mb_bars h e w hB hs
  have a9 : f_X10_heldOf st_S B 136 (nI s) = some (zH r L N s) := mb_held h e w hB hs
  have a10 : f_X10_forcedOf st_S B 136 (nI s) = some (zF r L N s) := mb_forced h e w hB hs
  match k, hk with
  | 0, _ => simp [f_X10_valueOf, zV, nI]
  | 1, _ => show f_X10_valueOf st_S B 136 (nI s) 1 = _; simp only [f_X10_valueOf, if_neg (show ¬ (1 : Int32) = 0 by decide), if_true, gO_136, gd_tt, show f_X10_of st_S B 136 (nI s) 0 = some (sq r s 0) from a1, b1_s, zV]
  | 2, _ => show f_X10_valueOf st_S B 136 (nI s) 2 = _; simp only [f_X10_valueOf, if_neg (show ¬ (2 : Int32) = 0 by decide), if_neg (show ¬ (2 : Int32) = 1 by decide), if_true, gO_136, gd_tt, show f_X10_of st_S B 136 (nI s) 1 = some (sq r s 1) from a2, b1_s, zV]
  | 3, _ => show f_X10_valueOf st_S B 136 (nI s) 3 = _; simp only [f_X10_valueOf, if_neg (show ¬ (3 : Int32) = 0 by decide), if_neg (show ¬ (3 : Int32) = 1 by decide), if_neg (show ¬ (3 : Int32) = 2 by decide), if_true, gO_136, gd_tt, show f_X10_of st_S B 136 (nI s) 2 = some (sq r s 2) from a3, b1_s, zV]
  | 4, _ => show f_X10_valueOf st_S B 136 (nI s) 4 = _; simp only [f_X10_valueOf, if_neg (show ¬ (4 : Int32) = 0 by decide), if_neg (show ¬ (4 : Int32) = 1 by decide), if_neg (show ¬ (4 : Int32) = 2 by decide), if_neg (show ¬ (4 : Int32) = 3 by decide), if_true, gO_136, gd_tt, a4, b1_s, zV]
  | 5, _ =>
    show f_X10_valueOf st_S B 136 (nI s) 5 = _
    simp only [f_X10_valueOf, if_neg (show ¬ (5 : Int32) = 0 by decide), if_neg (show ¬ (5 : Int32) = 1 by decide), if_neg (show ¬ (5 : Int32) = 2 by decide), if_neg (show ¬ (5 : Int32) = 3 by decide), if_neg (show ¬ (5 : Int32) = 4 by decide), if_true, gO_136, gd_tt, a5, a6, b1_s, bI_0, zV]
    cases q_rv (sq r s) <;> rfl
  | 6, _ => show f_X10_valueOf st_S B 136 (nI s) 6 = _; simp only [f_X10_valueOf, if_neg (show ¬ (6 : Int32) = 0 by decide), if_neg (show ¬ (6 : Int32) = 1 by decide), if_neg (show ¬ (6 : Int32) = 2 by decide), if_neg (show ¬ (6 : Int32) = 3 by decide), if_neg (show ¬ (6 : Int32) = 4 by decide), if_neg (show ¬ (6 : Int32) = 5 by decide), if_true, gO_136, gd_tt, a8, e_bits, b1_s, zV]
  | 7, _ => show f_X10_valueOf st_S B 136 (nI s) 7 = _; simp only [f_X10_valueOf, if_neg (show ¬ (7 : Int32) = 0 by decide), if_neg (show ¬ (7 : Int32) = 1 by decide), if_neg (show ¬ (7 : Int32) = 2 by decide), if_neg (show ¬ (7 : Int32) = 3 by decide), if_neg (show ¬ (7 : Int32) = 4 by decide), if_neg (show ¬ (7 : Int32) = 5 by decide), if_neg (show ¬ (7 : Int32) = 6 by decide), if_true, gO_136, gd_tt, a9, e_bits, b1_s, zV]
  | 8, _ =>
    show f_X10_valueOf st_S B 136 (nI s) 8 = _
    have hd := pc_diff (x := q_is (sq r s)) (y := zH r L N s) fun i _ hb => z_held_sub hb
    have e8 : nI (pc (q_is (sq r s))) - nI (pc (zH r L N s)) = zV r L N s 8 := by
      rw [nI_sub (by omega), show pc (q_is (sq r s)) - pc (zH r L N s) = pc (q_is (sq r s) &&& (zH r L N s ^^^ (-1))) by omega]; rfl
    simp only [f_X10_valueOf, if_neg (show ¬ (8 : Int32) = 0 by decide), if_neg (show ¬ (8 : Int32) = 1 by decide), if_neg (show ¬ (8 : Int32) = 2 by decide), if_neg (show ¬ (8 : Int32) = 3 by decide), if_neg (show ¬ (8 : Int32) = 4 by decide), if_neg (show ¬ (8 : Int32) = 5 by decide), if_neg (show ¬ (8 : Int32) = 6 by decide), if_neg (show ¬ (8 : Int32) = 7 by decide), if_true, gO_136, gd_tt, a7, a9, e_bits, b1_s, e8]
  | 9, _ => show f_X10_valueOf st_S B 136 (nI s) 9 = _; simp only [f_X10_valueOf, if_neg (show ¬ (9 : Int32) = 0 by decide), if_neg (show ¬ (9 : Int32) = 1 by decide), if_neg (show ¬ (9 : Int32) = 2 by decide), if_neg (show ¬ (9 : Int32) = 3 by decide), if_neg (show ¬ (9 : Int32) = 4 by decide), if_neg (show ¬ (9 : Int32) = 5 by decide), if_neg (show ¬ (9 : Int32) = 6 by decide), if_neg (show ¬ (9 : Int32) = 7 by decide), if_neg (show ¬ (9 : Int32) = 8 by decide), gO_136, gd_tt, a10, b1_s, zV]
/-- the bench's notes and the table have changed, nothing else -/
def TU (M m : fw_Mem) : Prop := (∀ b, b < 121 ∨ 126 < b → b ≠ 128 → m b = M b) ∧ ∀ j, j < 6 → m 121 j = M 121 j
theorem TU.kc {m : fw_Mem} (f : TU M m) (h : KC M) : KC m := by
  refine kc_cong h fun q hq => ?_
  have z := List.all_eq_true.mp (by decide +kernel : (kcl.all fun q => ((decide (q.1 < 121) || decide (126 < q.1)) && !(q.1 == 128)) || (q.1 == 121 && decide (q.2.1 < 6))) = true) q hq
  simp only [Bool.or_eq_true, decide_eq_true_eq, Bool.and_eq_true, beq_iff_eq, Bool.not_eq_true', beq_eq_false_iff_ne] at z
  rcases z with y | y
  · rw [f.1 _ y.1 y.2]
  · rw [y.1]; exact f.2 _ y.2
theorem TU.cr {m : fw_Mem} (f : TU M m) (hN : N ≤ 10) (c : CR M r L N) : CR m r L N := by
  refine ⟨by rw [f.1 3 (by omega) (by omega), f.1 7 (by omega) (by omega)]; exact c.1, fun i hi => ?_⟩
  have ei := f.1 (32 + i) (by omega) (by omega)
  rw [cq_fr ei, ei]; exact c.2 i hi
theorem TU.bf {m m' : fw_Mem} (f : TU M m) (b : BF m m') : TU M m' := ⟨fun x hx h => by rw [b.1 x hx, f.1 x hx h], fun j hj => by rw [b.2 j hj, f.2 j hj]⟩
theorem TU.st {m : fw_Mem} (f : TU M m) (j : Nat) (v : Int32) : TU M (fw_set m 128 j v) := ⟨fun x hx h => by rw [set_nr _ _ _ h, f.1 x hx h], fun i hi => by rw [set_na _ _ _ _ (by decide), f.2 i hi]⟩
theorem gL_128 : gL st_S 0 128 = true := by decide +kernel
theorem c_tab (h : KC M) (w : WF r P L N) (c : CR M r L N) : ∃ M', f_X2_tabulate st_S M 121 128 = some M' ∧ TU M M' ∧ ∀ i, i < N → ∀ k, k < 10 → M' 128 (10 * i + k) = zV r L N i k := by
  have n10 := w.n
  obtain ⟨R, z1, z2⟩ := lp_up (fun n (m : fw_Mem) i => lf_X2_tabulate_2 st_S 121 128 n (nI i) m) N (fun i m => TU M m ∧ ∀ j, j < i → ∀ k, k < 10 → m 128 (10 * j + k) = zV r L N j k) (fun m => TU M m ∧ ∀ j, j < N → ∀ k, k < 10 → m 128 (10 * j + k) = zV r L N j k)
    (by
      rintro n i m hi ⟨f, g⟩
      have h10 : i < 10 := by omega
      have km := f.kc h
      have cm := f.cr n10 c
      have hg := gO_s3 i h10
      have hN : m 3 6 = nI N := cm.1.1
      have hqq : QQ (sq r i) := (w.q hi).qq w.1.1
      have facts : ∀ {m' : fw_Mem}, TU M m' → KC m' ∧ CR m' r L N ∧ m' (32 + i) 0 = nI i ∧ cq m' (32 + i) = sq r i := fun {m'} f' => ⟨f'.kc h, f'.cr n10 c, kc_n3 (f'.kc h) h10, ((f'.cr n10 c).2 i hi).1⟩
      obtain ⟨-, -, e0, eq⟩ := facts f
      obtain ⟨M10, a1, a2⟩ := c_held km w cm hg (by omega) (by omega) (by rw [eq]; exact hqq)
      rw [eq, e0] at a1
      replace a1 : f_X2_heldIssues st_S m 121 (32 + i) = some (zH r L N i, M10) := a1
      have f10 := f.bf a2
      have sq' : ∀ {m' : fw_Mem}, TU M m' → m' (32 + i) 1 = sq r i 0 ∧ m' (32 + i) 2 = sq r i 1 ∧ m' (32 + i) 3 = sq r i 2 ∧ m' (32 + i) 7 = sq r i 6 ∧ m' (32 + i) 9 = sq r i 8 ∧ m' (32 + i) 8 = sq r i 7 := fun {m'} f' => by
        have e := (facts f').2.2.2
        exact ⟨congrFun e 0, congrFun e 1, congrFun e 2, congrFun e 6, congrFun e 8, congrFun e 7⟩
      obtain ⟨M12, hM12⟩ : ∃ x, x = fw_set M10 128 (10 * i) (nI i) := ⟨_, rfl⟩
      have f12 : TU M M12 := by rw [hM12]; exact f10.st _ _
      obtain ⟨M15, hM15⟩ : ∃ x, x = fw_set M12 128 (10 * i + 1) (sq r i 0) := ⟨_, rfl⟩
      have f15 : TU M M15 := by rw [hM15]; exact f12.st _ _
      obtain ⟨M17, hM17⟩ : ∃ x, x = fw_set M15 128 (10 * i + 2) (sq r i 1) := ⟨_, rfl⟩
      have f17 : TU M M17 := by rw [hM17]; exact f15.st _ _
      obtain ⟨M19, hM19⟩ : ∃ x, x = fw_set M17 128 (10 * i + 3) (sq r i 2) := ⟨_, rfl⟩
      have f19 : TU M M19 := by rw [hM19]; exact f17.st _ _
      obtain ⟨M21, hM21⟩ : ∃ x, x = fw_set M19 128 (10 * i + 4) (sq r i 6) := ⟨_, rfl⟩
      have f21 : TU M M21 := by rw [hM21]; exact f19.st _ _
      obtain ⟨M25, hM25⟩ : ∃ x, x = fw_set M21 128 (10 * i + 5) (zV r L N i 5) := ⟨_, rfl⟩
      have f25 : TU M M25 := by rw [hM25]; exact f21.st _ _
      obtain ⟨M29, hM29⟩ : ∃ x, x = fw_set M25 128 (10 * i + 6) (zV r L N i 6) := ⟨_, rfl⟩
      have f29 : TU M M29 := by rw [hM29]; exact f25.st _ _
      obtain ⟨M32, hM32⟩ : ∃ x, x = fw_set M29 128 (10 * i + 7) (zV r L N i 7) := ⟨_, rfl⟩
      have f32 : TU M M32 := by rw [hM32]; exact f29.st _ _
      obtain ⟨M36, hM36⟩ : ∃ x, x = fw_set M32 128 (10 * i + 8) (zV r L N i 8) := ⟨_, rfl⟩
      have f36 : TU M M36 := by rw [hM36]; exact f32.st _ _
      obtain ⟨k36, c36, e36, eq36⟩ := facts f36
      obtain ⟨M37, b1', b2'⟩ := c_forced k36 w c36 hg (by omega) (by rw [eq36]; exact hqq)
      rw [eq36, e36] at b1'
      replace b1' : f_X2_forcedWay st_S M36 121 (32 + i) = some (zF r L N i, M37) := b1'
      have f37 := f36.bf b2'
      obtain ⟨k25, c25, e25, eq25⟩ := facts f25
      have d1 := cw_bars k25 w c25.cw hg
      rw [eq25, e25] at d1
      replace d1 : f_X2_barringSuits st_S M25 121 (32 + i) = some (zB r L N i) := d1
      have d2 : f_X6_winner st_S M21 (32 + i) = some (q_wn (sq r i)) := by
        have := e_c_winner (M := M21) hg (by rw [(sq' f21).2.2.2.2.2]; exact (w.q hi).2.2.2.2.2.1)
        rw [(facts f21).2.2.2] at this
        exact this
      have d3 : f_X6_allIssues st_S M32 (32 + i) = some (q_is (sq r i)) := by
        have := e_c_all (M := M32) hg
        rw [(facts f32).2.2.2] at this
        exact this
      have t0 : nI i * 10 = nI (10 * i) := by rw [show (10 : Int32) = nI 10 from rfl, nI_mul, Nat.mul_comm]
      have t10 : nI (i + 1) * 10 = nI (10 * (i + 1)) := by rw [show (10 : Int32) = nI 10 from rfl, nI_mul, Nat.mul_comm]
      have t2 : nI (10 * i) + 2 = nI (10 * i + 2) := nI_add _ 2
      have t3 : nI (10 * i) + 3 = nI (10 * i + 3) := nI_add _ 3
      have t4 : nI (10 * i) + 4 = nI (10 * i + 4) := nI_add _ 4
      have t5 : nI (10 * i) + 5 = nI (10 * i + 5) := nI_add _ 5
      have t6 : nI (10 * i) + 6 = nI (10 * i + 6) := nI_add _ 6
      have t7 : nI (10 * i) + 7 = nI (10 * i + 7) := nI_add _ 7
      have t8 : nI (10 * i) + 8 = nI (10 * i + 8) := nI_add _ 8
      have t9 : nI (10 * i) + 9 = nI (10 * i + 9) := nI_add _ 9
      have hn : ¬ nI N ≤ nI i := nI_ge hi (by omega)
      have hn2 : ¬ nI 100 < nI (10 * (i + 1)) := by rw [nI_ltI (by omega) (by omega)]; omega
      have v6 : zV r L N i 6 = nI (pc (zB r L N i)) := rfl
      have v7 : zV r L N i 7 = nI (pc (zH r L N i)) := rfl
      have v8 : zV r L N i 8 = nI (pc (q_is (sq r i) &&& (zH r L N i ^^^ (-1)))) := rfl
      have v9 : zV r L N i 9 = zF r L N i := rfl
      refine ⟨fw_set M37 128 (10 * i + 9) (zV r L N i 9), ⟨f37.st _ _, fun j hj k hk => ?_⟩, ?_⟩
      · by_cases e : j = i
        · subst e
          by_cases k9 : k = 9
          · subst k9; rw [set_eq]
          rw [set_nk _ _ _ _ (by omega), b2'.1 128 (by omega), hM36]
          by_cases k8 : k = 8
          · subst k8; rw [set_eq]
          rw [set_nk _ _ _ _ (by omega), hM32]
          by_cases k7 : k = 7
          · subst k7; rw [set_eq]
          rw [set_nk _ _ _ _ (by omega), hM29]
          by_cases k6 : k = 6
          · subst k6; rw [set_eq]
          rw [set_nk _ _ _ _ (by omega), hM25]
          by_cases k5 : k = 5
          · subst k5; rw [set_eq]
          rw [set_nk _ _ _ _ (by omega), hM21]
          by_cases k4 : k = 4
          · subst k4; rw [set_eq]; rfl
          rw [set_nk _ _ _ _ (by omega), hM19]
          by_cases k3 : k = 3
          · subst k3; rw [set_eq]; rfl
          rw [set_nk _ _ _ _ (by omega), hM17]
          by_cases k2 : k = 2
          · subst k2; rw [set_eq]; rfl
          rw [set_nk _ _ _ _ (by omega), hM15]
          by_cases k1 : k = 1
          · subst k1; rw [set_eq]; rfl
          rw [set_nk _ _ _ _ (by omega), hM12]
          obtain rfl : k = 0 := by omega
          rw [Nat.add_zero, set_eq]; rfl
        · rw [set_nk _ _ _ _ (by omega), b2'.1 128 (by omega), hM36, set_nk _ _ _ _ (by omega), hM32, set_nk _ _ _ _ (by omega), hM29, set_nk _ _ _ _ (by omega), hM25, set_nk _ _ _ _ (by omega), hM21, set_nk _ _ _ _ (by omega), hM19, set_nk _ _ _ _ (by omega), hM17, set_nk _ _ _ _ (by omega), hM15, set_nk _ _ _ _ (by omega), hM12, set_nk _ _ _ _ (by omega), a2.1 128 (by omega)]
          exact g j (by omega) k hk
      · rw [lf_X2_tabulate_2]
        simp only [gO_121, gd_tt, kc_121_0 km, gN_3, tn_3, gO_3, hN, if_neg hn, gL_128, len_128, nI_1, t10, if_neg hn2, kc_3_2 km, gN_6, tn_6, gA_6 h10, nI_cl (show i < 2147483648 by omega), kc_s3 km h10, nI_gN (show 32 + i < 2147483648 by omega), nI_cl (show 32 + i < 2147483648 by omega), a1, b2_s, t0, gA_128 (show 10 * i < 100 by omega), nI_cl (show 10 * i < 2147483648 by omega), bm_s, hg]
        rw [← hM12]
        simp only [gA_128 (show 10 * i + 1 < 100 by omega), nI_cl (show 10 * i + 1 < 2147483648 by omega), gd_tt, (sq' f12).1]
        rw [← hM15]
        simp only [t2, gA_128 (show 10 * i + 2 < 100 by omega), nI_cl (show 10 * i + 2 < 2147483648 by omega), gd_tt, (sq' f15).2.1]
        rw [← hM17]
        simp only [t3, gA_128 (show 10 * i + 3 < 100 by omega), nI_cl (show 10 * i + 3 < 2147483648 by omega), gd_tt, (sq' f17).2.2.1]
        rw [← hM19]
        simp only [t4, gA_128 (show 10 * i + 4 < 100 by omega), nI_cl (show 10 * i + 4 < 2147483648 by omega), gd_tt, (sq' f19).2.2.2.1]
        rw [← hM21]
        have rest : ∀ v5, v5 = zV r L N i 5 → (gd (gA st_S 0 128 (nI (10 * i) + 5)) (bm (fw_set M21 128 (nI (10 * i) + 5).toNatClampNeg v5) (fun M25 => b1 (f_X2_barringSuits st_S M25 121 (32 + i)) (fun v26 => b1 (f_J6_bitCount_0f7a4 st_S M25 v26) (fun v27 => gd (gA st_S 0 128 (nI (10 * i) + 6)) (bm (fw_set M25 128 (nI (10 * i) + 6).toNatClampNeg v27) (fun M29 => b1 (f_J6_bitCount_0f7a4 st_S M29 (zH r L N i)) (fun v30 => gd (gA st_S 0 128 (nI (10 * i) + 7)) (bm (fw_set M29 128 (nI (10 * i) + 7).toNatClampNeg v30) (fun M32 => b1 (f_X6_allIssues st_S M32 (32 + i)) (fun v33 => b1 (f_J6_bitCount_0f7a4 st_S M32 (v33 &&& (zH r L N i ^^^ (-1)))) (fun v34 => gd (gA st_S 0 128 (nI (10 * i) + 8)) (bm (fw_set M32 128 (nI (10 * i) + 8).toNatClampNeg v34) (fun M36 => b2 (f_X2_forcedWay st_S M36 121 (32 + i)) (fun v37 M37 => gd (gA st_S 0 128 (nI (10 * i) + 9)) (bm (fw_set M37 128 (nI (10 * i) + 9).toNatClampNeg v37) (fun M39 => lf_X2_tabulate_2 st_S 121 128 n (nI (i + 1)) M39))))))))))))))))) = lf_X2_tabulate_2 st_S 121 128 n (nI (i + 1)) (fw_set M37 128 (10 * i + 9) (zV r L N i 9)) := fun v5 e5 => by
          rw [e5]
          simp only [t5, gA_128 (show 10 * i + 5 < 100 by omega), nI_cl (show 10 * i + 5 < 2147483648 by omega), gd_tt, bm_s]
          rw [← hM25]
          simp only [d1, b1_s, e_bc, t6, gA_128 (show 10 * i + 6 < 100 by omega), nI_cl (show 10 * i + 6 < 2147483648 by omega), gd_tt, bm_s]
          rw [← v6, ← hM29]
          simp only [b1_s, e_bc, t7, gA_128 (show 10 * i + 7 < 100 by omega), nI_cl (show 10 * i + 7 < 2147483648 by omega), gd_tt, bm_s]
          rw [← v7, ← hM32]
          simp only [d3, b1_s, e_bc, t8, gA_128 (show 10 * i + 8 < 100 by omega), nI_cl (show 10 * i + 8 < 2147483648 by omega), gd_tt, bm_s]
          rw [← v8, ← hM36]
          simp only [b1', b2_s, t9, gA_128 (show 10 * i + 9 < 100 by omega), nI_cl (show 10 * i + 9 < 2147483648 by omega), gd_tt, bm_s, v9]
        simp only [(sq' f21).2.2.2.2.1]
        by_cases hr : sq r i 8 = 0
        · rw [if_pos hr, d2, b1_s]
          exact rest _ (by simp [zV, q_rv, hr])
        · rw [if_neg hr]
          have h1 : sq r i 8 = 1 := ((w.q hi).2.2.2.2.2.2.1).resolve_left hr
          exact rest _ (by simp [zV, q_rv, h1]))
    (by
      rintro n m ⟨f, g⟩
      have km := f.kc h
      have hN : m 3 6 = nI N := (f.cr n10 c).1.1
      exact ⟨m, by simp only [lf_X2_tabulate_2, gO_121, gd_tt, kc_121_0 km, gN_3, tn_3, gO_3, hN, if_pos (nI_le (Nat.le_refl N) (show N < 2 ^ 31 by omega))], f, g⟩) _ 0 20000 M rfl (by omega) (by omega) ⟨⟨fun _ _ _ => rfl, fun _ _ => rfl⟩, fun j hj => absurd hj (by omega)⟩
  have z1' : lf_X2_tabulate_2 st_S 121 128 20000 0 M = some R := z1
  exact ⟨R, by rw [f_X2_tabulate, z1', b1_s], z2.1, z2.2⟩
end AV
