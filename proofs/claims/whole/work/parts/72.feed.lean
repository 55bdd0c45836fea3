/-! ===== feed ===== -/
theorem i8_and (y : Int32) : (y &&& 255).toInt8 = y.toInt8 := by
  apply Int8.toBitVec_inj.mp
  apply BitVec.eq_of_getLsbD_eq
  intro i hi
  rw [Int32.toBitVec_toInt8, Int32.toBitVec_toInt8, BitVec.getLsbD_signExtend, BitVec.getLsbD_signExtend]
  have h1 := b_and y 255 i
  unfold bt at h1
  have h2 := b_255 i
  unfold bt at h2
  rw [h2] at h1
  have h32 : i < 32 := by omega
  simp only [h32, if_true, h1, hi, decide_true, Bool.and_true]
theorem sx_and (y : Int32) : ∃ b, b < 256 ∧ y &&& 255 = nI b ∧ vp_nar .byte (y.toInt8.toInt32) = sx b := by
  have hlt : uI (y &&& 255) < 256 := by
    rw [uI_and]
    have : uI 255 = 255 := by decide
    rw [this]
    exact Nat.lt_of_le_of_lt Nat.and_le_right (by omega)
  refine ⟨uI (y &&& 255), hlt, (nI_uI _).symm, ?_⟩
  unfold sx
  rw [nI_uI, i8_and]
def sxv (x : Int32) (k : Nat) : Int32 := vp_nar .byte ((x >>> (nI (24 - 8 * k) &&& 31)).toInt8.toInt32)
section FD
variable {m : fw_Mem} {t : Nat}
theorem take1 (h : KC m) (hl : m 1 1 = nI t) (ht : t < 600) (x sh : Int32) (hs : ¬ sh < 0) (n : Nat) : lf_X7_take_3 st_S 1 x (n + 1) sh m = lf_X7_take_3 st_S 1 x n (sh + -8) (fw_set (fw_set m 2 t (vp_nar .byte ((x >>> (sh &&& 31)).toInt8.toInt32))) 1 1 (nI (t + 1))) := by
  have hn : ¬ (600 : Int32) ≤ nI t := nI_ge (b := 600) ht (by omega)
  simp only [lf_X7_take_3, if_neg hs, gO_1, gd_tt, hl, if_neg hn, kc_1_0 h, gN_2, tn_2, gA_2 ht, nI_cl (show t < 2147483648 by omega), bm_s, set_na _ _ _ _ (show (1 : Nat) ≠ 2 by decide), nI_1]
theorem kc_tape {m m' : fw_Mem} (h : KC m) (hf : ∀ b, b ≠ 1 → b ≠ 2 → m' b = m b) (h0 : m' 1 0 = m 1 0) : KC m' := by
  refine kc_cong h fun q hq => ?_
  have h2 := List.all_eq_true.mp (by decide +kernel : (kcl.all fun q => !(q.1 == 2) && (!(q.1 == 1) || q.2.1 == 0)) = true) q hq
  simp at h2
  by_cases e : q.1 = 1
  · rcases h2.2 with z | z
    · exact absurd e z
    · rw [e, z]; exact h0
  · rw [hf _ e h2.1]
theorem c_take (h : KC m) (hl : m 1 1 = nI t) (ht : t + 4 ≤ 600) (x : Int32) : ∃ m', f_X7_take st_S m 1 x = some m' ∧ (∀ b, b ≠ 1 → b ≠ 2 → m' b = m b) ∧ (∀ j, j ≠ 1 → m' 1 j = m 1 j) ∧ m' 1 1 = nI (t + 4) ∧ (∀ i, i < t → m' 2 i = m 2 i) ∧ ∀ k, k < 4 → m' 2 (t + k) = sxv x k := by
  have step : ∀ {a : fw_Mem} {u : Nat} (v : Int32), KC a → KC (fw_set (fw_set a 2 u v) 1 1 (nI (u + 1))) := fun {a u} v k => kc_tape k (fun b b1 b2 => by rw [set_nr _ _ _ b1, set_nr _ _ _ b2]) (by rw [set_nk _ _ _ _ (by decide), set_na _ _ _ _ (by decide)])
  have s1 := take1 h hl (by omega) x 24 (by decide) 19999
  have k1 := step (u := t) (sxv x 0) h
  have s2 := take1 (t := t + 1) k1 (set_eq _ _ _ _) (by omega) x 16 (by decide) 19998
  have k2 := step (u := t + 1) (sxv x 1) k1
  have s3 := take1 (t := t + 1 + 1) k2 (set_eq _ _ _ _) (by omega) x 8 (by decide) 19997
  have k3 := step (u := t + 1 + 1) (sxv x 2) k2
  have s4 := take1 (t := t + 1 + 1 + 1) k3 (set_eq _ _ _ _) (by omega) x 0 (by decide) 19996
  refine ⟨fw_set (fw_set (fw_set (fw_set (fw_set (fw_set (fw_set (fw_set m 2 t (sxv x 0)) 1 1 (nI (t + 1))) 2 (t + 1) (sxv x 1)) 1 1 (nI (t + 1 + 1))) 2 (t + 1 + 1) (sxv x 2)) 1 1 (nI (t + 1 + 1 + 1))) 2 (t + 1 + 1 + 1) (sxv x 3)) 1 1 (nI (t + 1 + 1 + 1 + 1)), ?_, fun b b1 b2 => by rw [set_nr _ _ _ b1, set_nr _ _ _ b2, set_nr _ _ _ b1, set_nr _ _ _ b2, set_nr _ _ _ b1, set_nr _ _ _ b2, set_nr _ _ _ b1, set_nr _ _ _ b2], fun j hj => ?_, by rw [set_eq], fun i hi => ?_, fun k hk => ?_⟩
  · have e : lf_X7_take_3 st_S 1 x 20000 24 m = some (fw_set (fw_set (fw_set (fw_set (fw_set (fw_set (fw_set (fw_set m 2 t (sxv x 0)) 1 1 (nI (t + 1))) 2 (t + 1) (sxv x 1)) 1 1 (nI (t + 1 + 1))) 2 (t + 1 + 1) (sxv x 2)) 1 1 (nI (t + 1 + 1 + 1))) 2 (t + 1 + 1 + 1) (sxv x 3)) 1 1 (nI (t + 1 + 1 + 1 + 1))) := by
      refine s1.trans (s2.trans (s3.trans (s4.trans ?_)))
      show lf_X7_take_3 st_S 1 x (19995 + 1) (0 + -8) _ = _
      rw [lf_X7_take_3, if_pos (by decide)]
      rfl
    rw [f_X7_take, e, b1_s]
  · rw [set_nk _ _ _ _ hj, set_na _ _ _ _ (by decide), set_nk _ _ _ _ hj, set_na _ _ _ _ (by decide), set_nk _ _ _ _ hj, set_na _ _ _ _ (by decide), set_nk _ _ _ _ hj, set_na _ _ _ _ (by decide)]
  · rw [set_na _ _ _ _ (by decide), set_nk _ _ _ _ (by omega), set_na _ _ _ _ (by decide), set_nk _ _ _ _ (by omega), set_na _ _ _ _ (by decide), set_nk _ _ _ _ (by omega), set_na _ _ _ _ (by decide), set_nk _ _ _ _ (by omega)]
  · rw [set_na _ _ _ _ (by decide)]
    rcases (by omega : k = 0 ∨ k = 1 ∨ k = 2 ∨ k = 3) with rfl | rfl | rfl | rfl
    · rw [set_nk _ _ _ _ (by omega), set_na _ _ _ _ (by decide), set_nk _ _ _ _ (by omega), set_na _ _ _ _ (by decide), set_nk _ _ _ _ (by omega), set_na _ _ _ _ (by decide), Nat.add_zero, set_eq]
    · rw [set_nk _ _ _ _ (by omega), set_na _ _ _ _ (by decide), set_nk _ _ _ _ (by omega), set_na _ _ _ _ (by decide), set_eq]
    · rw [set_nk _ _ _ _ (by omega), set_na _ _ _ _ (by decide), set_eq]
    · rw [set_eq]
def wsel (a b c d e : Int32) (k : Nat) : Int32 := if k < 4 then a else if k < 8 then b else if k < 12 then c else if k < 16 then d else e
theorem shk : ∀ k, k < 20 → (24 : Int32) - 8 * (nI k - nI k / 4 * 4) = nI (24 - 8 * (k % 4)) := by decide +kernel
theorem m_feed1 (h : KC m) (hl : m 136 15 = nI t) (ht : t < 600) (a b c d e : Int32) {k : Nat} (hk : k < 20) (n : Nat) : lf_X10_feed_23 st_S 136 a b c d e (n + 1) (nI k) m = lf_X10_feed_23 st_S 136 a b c d e n (nI (k + 1)) (fw_set (fw_set m 147 t ((wsel a b c d e k >>> (nI (24 - 8 * (k % 4)) &&& 31)) &&& 255)) 136 15 (nI (t + 1))) := by
  have h20 : ¬ (20 : Int32) ≤ nI k := nI_ge (b := 20) hk (by omega)
  have sw : ∀ j : Nat, j < 20 → ((nI j ≤ nI k) ↔ j ≤ k) := fun j hj => nI_leI (by omega) (by omega)
  simp only [lf_X10_feed_23, if_neg h20, gO_136, gd_tt, kc_136_14 h, gN_147, tn_147, hl, gA_147 ht, nI_cl (show t < 2147483648 by omega), shk k hk, bm_s, set_na _ _ _ _ (show (136 : Nat) ≠ 147 by decide), nI_1, wsel]
  have s4 : ((4 : Int32) ≤ nI k) ↔ 4 ≤ k := sw 4 (by omega)
  have s8 : ((8 : Int32) ≤ nI k) ↔ 8 ≤ k := sw 8 (by omega)
  have s12 : ((12 : Int32) ≤ nI k) ↔ 12 ≤ k := sw 12 (by omega)
  have s16 : ((16 : Int32) ≤ nI k) ↔ 16 ≤ k := sw 16 (by omega)
  by_cases e4 : 4 ≤ k
  · rw [if_pos (s4.mpr e4)]
    by_cases e8 : 8 ≤ k
    · rw [if_pos (s8.mpr e8)]
      by_cases e12 : 12 ≤ k
      · rw [if_pos (s12.mpr e12)]
        by_cases e16 : 16 ≤ k
        · rw [if_pos (s16.mpr e16), if_neg (by omega), if_neg (by omega), if_neg (by omega), if_neg (by omega)]
        · rw [if_neg (fun q => e16 (s16.mp q)), if_neg (by omega), if_neg (by omega), if_neg (by omega), if_pos (by omega)]
      · rw [if_neg (fun q => e12 (s12.mp q)), if_neg (by omega), if_neg (by omega), if_pos (by omega)]
    · rw [if_neg (fun q => e8 (s8.mp q)), if_neg (by omega), if_pos (by omega)]
  · rw [if_neg (fun q => e4 (s4.mp q)), if_pos (by omega)]
end FD
theorem q_feed {M : fw_Mem} (I : INV M) (a b c d e : Int32) : ∃ v M1 M2, f_X9_feed st_S M 0 a b c d e = some (v, M1) ∧ f_X10_feed st_S M1 136 a b c d e = some (v, M2) ∧ INV M2 := by
  obtain ⟨P, L, N, A, T, U, hh, iv⟩ := id I
  obtain ⟨h, w, pp, r3, cr, im, ac, ⟨t1, t2, t3, t4, t5⟩, sp⟩ := id iv
  by_cases hT : T ≤ 580
  rotate_left
  · have hc : ¬ nI T ≤ (580 : Int32) := fun q => hT ((nI_leI (b := 580) (by omega) (by omega)).mp q)
    refine ⟨-1, M, fw_set M 136 6 0, ?_, ?_, (mf_set M 0).1.ag.inv I⟩
    · simp only [f_X9_feed, gO_0, gd_tt, kc_0_0 h, gN_1, tn_1, gO_1, t1, if_neg hc]
    · have hm : ¬ nI T + 20 ≤ (600 : Int32) := by
        rw [show nI T + 20 = nI (T + 20) from nI_add T 20, show (600 : Int32) = nI 600 from rfl, nI_leI (by omega) (by omega)]; omega
      simp only [f_X10_feed, gO_136, gd_tt, bm_s, set_nk _ _ _ _ (show (15 : Nat) ≠ 6 by decide), t2, if_neg hm]
  have hc : nI T ≤ (580 : Int32) := nI_le (b := 580) hT (by omega)
  obtain ⟨m1, a1, a2, a3, a4, a5, a6⟩ := c_take h t1 (by omega) a
  have k1 := kc_tape h a2 (a3 0 (by decide))
  obtain ⟨m2, b1, b2, b3, b4, b5, b6⟩ := c_take k1 a4 (by omega) b
  have k2 := kc_tape k1 b2 (b3 0 (by decide))
  obtain ⟨m3, c1, c2, c3, c4, c5, c6⟩ := c_take k2 b4 (by omega) c
  have k3 := kc_tape k2 c2 (c3 0 (by decide))
  obtain ⟨m4, d1, d2, d3, d4, d5, d6⟩ := c_take k3 c4 (by omega) d
  have k4 := kc_tape k3 d2 (d3 0 (by decide))
  obtain ⟨m5, e1, e2, e3, e4, e5, e6⟩ := c_take k4 d4 (by omega) e
  have k5 := kc_tape k4 e2 (e3 0 (by decide))
  have f5 : ∀ b, b ≠ 1 → b ≠ 2 → m5 b = M b := fun x x1 x2 => by rw [e2 x x1 x2, d2 x x1 x2, c2 x x1 x2, b2 x x1 x2, a2 x x1 x2]
  have g5 : ∀ j, j ≠ 1 → m5 1 j = M 1 j := fun j hj => by rw [e3 j hj, d3 j hj, c3 j hj, b3 j hj, a3 j hj]
  have hclass : f_X9_feed st_S M 0 a b c d e = some (nI (T + 20), m5) := by
    simp only [f_X9_feed, gO_0, gd_tt, kc_0_0 h, gN_1, tn_1, gO_1, t1, if_pos hc, a1, b1_s, kc_0_0 k1, b1, kc_0_0 k2, c1, kc_0_0 k3, d1, kc_0_0 k4, e1, kc_0_0 k5, e4]
  -- the class's bytes
  have old : ∀ i, i < T → m5 2 i = M 2 i := fun i hi => by rw [e5 i (by omega), d5 i (by omega), c5 i (by omega), b5 i (by omega), a5 i hi]
  have new : ∀ k, k < 20 → m5 2 (T + k) = sxv (wsel a b c d e k) (k % 4) := fun k hk => by
    unfold wsel
    by_cases q4 : k < 4
    · rw [if_pos q4, e5 _ (by omega), d5 _ (by omega), c5 _ (by omega), b5 _ (by omega), a6 k q4, Nat.mod_eq_of_lt q4]
    rw [if_neg q4]
    by_cases q8 : k < 8
    · rw [if_pos q8, e5 _ (by omega), d5 _ (by omega), c5 _ (by omega), show T + k = T + 4 + (k - 4) by omega, b6 _ (by omega), show k % 4 = k - 4 by omega]
    rw [if_neg q8]
    by_cases q12 : k < 12
    · rw [if_pos q12, e5 _ (by omega), d5 _ (by omega), show T + k = T + 4 + 4 + (k - 8) by omega, c6 _ (by omega), show k % 4 = k - 8 by omega]
    rw [if_neg q12]
    by_cases q16 : k < 16
    · rw [if_pos q16, e5 _ (by omega), show T + k = T + 4 + 4 + 4 + (k - 12) by omega, d6 _ (by omega), show k % 4 = k - 12 by omega]
    rw [if_neg q16, show T + k = T + 4 + 4 + 4 + 4 + (k - 16) by omega, e6 _ (by omega), show k % 4 = k - 16 by omega]
  -- the model
  have hm : nI T + 20 ≤ (600 : Int32) := by
    rw [show nI T + 20 = nI (T + 20) from nI_add T 20, show (600 : Int32) = nI 600 from rfl, nI_leI (by omega) (by omega)]; omega
  have kB := kc_136 k5 0
  have eB : fw_set m5 136 6 0 136 15 = nI T := by rw [set_nk _ _ _ _ (by decide), f5 136 (by decide) (by decide)]; exact t2
  generalize hB : fw_set m5 136 6 0 = B at kB eB
  obtain ⟨R, h1, h2, h3, h4, h5, h6⟩ := lp_up (fun n (m : fw_Mem) k => lf_X10_feed_23 st_S 136 a b c d e n (nI k) m) 20 (fun i m => (∀ x, x ≠ 136 → x ≠ 147 → m x = B x) ∧ (∀ j, j ≠ 15 → m 136 j = B 136 j) ∧ m 136 15 = nI (T + i) ∧ (∀ x, x < T → m 147 x = B 147 x) ∧ ∀ k, k < i → m 147 (T + k) = (wsel a b c d e k >>> (nI (24 - 8 * (k % 4)) &&& 31)) &&& 255) (fun m => (∀ x, x ≠ 136 → x ≠ 147 → m x = B x) ∧ (∀ j, j ≠ 15 → m 136 j = B 136 j) ∧ m 136 15 = nI (T + 20) ∧ (∀ x, x < T → m 147 x = B 147 x) ∧ ∀ k, k < 20 → m 147 (T + k) = (wsel a b c d e k >>> (nI (24 - 8 * (k % 4)) &&& 31)) &&& 255)
    (by
      rintro n i m hi ⟨x1, x2, x3, x4, x5⟩
      have km : KC m := by
        refine kc_cong kB fun q hq => ?_
        have z := List.all_eq_true.mp (by decide +kernel : (kcl.all fun q => !(q.1 == 147) && (!(q.1 == 136) || !(q.2.1 == 15))) = true) q hq
        simp at z
        by_cases y1 : q.1 = 136
        · rcases z.2 with y | y
          · exact absurd y1 y
          · rw [y1]; exact x2 _ y
        · rw [x1 _ y1 z.1]
      refine ⟨_, ⟨fun x y1 y2 => ?_, fun j hj => ?_, set_eq _ _ _ _, fun x hx => ?_, fun k hk => ?_⟩, m_feed1 km x3 (by omega) a b c d e hi n⟩
      · rw [set_nr _ _ _ y1, set_nr _ _ _ y2, x1 x y1 y2]
      · rw [set_nk _ _ _ _ hj, set_na _ _ _ _ (by decide), x2 j hj]
      · rw [set_na _ _ _ _ (by decide), set_nk _ _ _ _ (by omega), x4 x hx]
      · rw [set_na _ _ _ _ (by decide)]
        by_cases q : k = i
        · subst q; rw [set_eq]
        · rw [set_nk _ _ _ _ (by omega)]; exact x5 k (by omega))
    (by
      rintro n m hm
      exact ⟨m, by simp only [lf_X10_feed_23, if_pos (show (20 : Int32) ≤ nI 20 by decide)], hm⟩) _ 0 20000 B rfl (by omega) (by omega) ⟨fun _ _ _ => rfl, fun _ _ => rfl, eB, fun _ _ => rfl, fun k hk => absurd hk (by omega)⟩
  have h1' : lf_X10_feed_23 st_S 136 a b c d e 20000 0 B = some R := h1
  have hmod : f_X10_feed st_S m5 136 a b c d e = some (nI (T + 20), R) := by
    have e15 : fw_set m5 136 6 0 136 15 = nI T := by rw [hB]; exact eB
    simp only [f_X10_feed, gO_136, gd_tt, bm_s, e15, if_pos hm]
    rw [hB, h1', b1_s, h4]
  have fB : ∀ x, x ≠ 136 → B x = m5 x := fun x hx => by rw [← hB, set_nr _ _ _ hx]
  have gB : ∀ j, j ≠ 6 → B 136 j = m5 136 j := fun j hj => by rw [← hB, set_nk _ _ _ _ hj]
  refine ⟨nI (T + 20), m5, R, hclass, hmod, ⟨P, L, N, A, T + 20, U, hh, iv_gen iv (fun x j hd hx => ?_) ⟨?_, h4, by omega, fun i hi => ?_, ?_⟩ ?_⟩⟩
  · simp [xx] at hx
    by_cases y1 : x = 136
    · subst y1
      have hj6 : j ≠ 6 := fun q => by subst q; exact absurd hd (by decide)
      have hj := hx.2 rfl
      rw [h3 j hj.1.2, gB j hj6, f5 136 (by decide) (by decide)]
    · rw [h2 x y1 hx.1.1.1.1.1.2, fB x y1]
      by_cases y2 : x = 1
      · subst y2
        have : j = 0 := by have := hx.1.2; simpa using this
        rw [this, g5 0 (by decide)]
      · rw [f5 x y2 hx.1.1.1.1.1.1]
  · rw [h2 1 (by decide) (by decide), fB 1 (by decide)]; exact e4
  · rw [h2 2 (by decide) (by decide), fB 2 (by decide)]
    by_cases q : i < T
    · rw [h5 i q, fB 147 (by decide), f5 147 (by decide) (by decide), old i q]; exact t4 i q
    · obtain ⟨k, rfl⟩ : ∃ k, i = T + k := ⟨i - T, by omega⟩
      rw [h6 k (by omega), new k (by omega)]
      exact sx_and _
  · rw [h2 1 (by decide) (by decide), fB 1 (by decide), g5 8 (by decide), h3 23 (by decide), gB 23 (by decide), f5 136 (by decide) (by decide)]; exact t5
  · rw [h2 133 (by decide) (by decide), fB 133 (by decide), f5 133 (by decide) (by decide), h3 13 (by decide), gB 13 (by decide), f5 136 (by decide) (by decide), h2 134 (by decide) (by decide), fB 134 (by decide), f5 134 (by decide) (by decide), h2 146 (by decide) (by decide), fB 146 (by decide), f5 146 (by decide) (by decide)]
    exact sp
