/-! ===== freeTill ===== -/
theorem upd_eq (f : Nat → Int32) (k : Nat) (v : Int32) : upd f k v k = v := by simp [upd]
theorem upd_ne (f : Nat → Int32) {k j : Nat} (v : Int32) (h : j ≠ k) : upd f k v j = f j := by simp [upd, h]
theorem sq_upd (r : Nat → Int32) (s : Nat) {j : Nat} (hj : j < 12) (v : Int32) (i : Nat) : sq (upd r (198 + 12 * s + j) v) i = if i = s then upd (sq r s) j v else sq r i := by
  funext k
  unfold sq upd
  by_cases hk : k < 12
  · by_cases hi : i = s
    · subst hi
      by_cases hkj : k = j
      · subst hkj; simp [hk]
      · simp [hk, hkj]
    · have : ¬ 198 + 12 * i + k = 198 + 12 * s + j := by omega
      simp [hk, hi, this]
  · by_cases hi : i = s
    · subst hi
      have : ¬ k = j := by omega
      simp [hk, this]
    · simp [hk, hi]
theorem lq_upd (r : Nat → Int32) (s j : Nat) (v : Int32) {l : Nat} (hl : l < 24) : lq (upd r (198 + 12 * s + j) v) l = lq r l := by
  funext k
  unfold lq upd
  by_cases hk : k < 5
  · have : ¬ 78 + 5 * l + k = 198 + 12 * s + j := by omega
    simp [hk, this]
  · simp [hk]
theorem pss_cong {lk lk' : Nat → Nat → Int32} {day : Int32} : ∀ {n : Nat}, (∀ l, l < n → lk l = lk' l) → ∀ x, pss lk day n x = pss lk' day n x
  | 0, _, _ => rfl
  | n + 1, h, x => by rw [pss, pss, pss_cong (n := n) fun l hl => h l (by omega), h n (by omega)]
theorem itp_cong {lk lk' : Nat → Nat → Int32} {day : Int32} {L : Nat} (h : ∀ l, l < L → lk l = lk' l) : ∀ k x, itp lk day L k x = itp lk' day L k x
  | 0, _ => rfl
  | k + 1, x => by rw [itp, itp, itp_cong h k x, pss_cong h]
/-- bonds depend on the links, the party and the day alone -/
theorem bd_cong {r r' : Nat → Int32} {L k : Nat} (hl : ∀ l, l < L → lq r l = lq r' l) (h6 : sq r (k / 2) 6 = sq r' (k / 2) 6) (hp : sq r (k / 2) (k % 2) = sq r' (k / 2) (k % 2)) : BDr r L k = BDr r' L k := by
  unfold BDr
  rw [hp, h6, itp_cong hl, show q_jd (sq r (k / 2)) = q_jd (sq r' (k / 2)) by simp only [q_jd, h6]]
theorem bd_upd {r : Nat → Int32} {L s j k : Nat} {v : Int32} (hL : L ≤ 24) (hj : j < 12) (h2 : 2 ≤ j) (h6 : j ≠ 6) : BDr (upd r (198 + 12 * s + j) v) L k = BDr r L k := by
  refine bd_cong (fun l hl => lq_upd r s j v (by omega)) ?_ ?_
  · rw [sq_upd r s hj]
    split
    · rename_i e; rw [upd_ne _ _ (by omega), e]
    · rfl
  · rw [sq_upd r s hj]
    split
    · rename_i e; rw [upd_ne _ _ (by omega), e]
    · rfl
theorem kcn_137 : (kcl.all fun q => !(q.1 == 137)) = true := by decide +kernel
theorem kc_137 {M : fw_Mem} (h : KC M) (k : Nat) (v : Int32) : KC (fw_set M 137 k v) := kc_ne h 137 kcn_137 fun b hb => set_nr _ _ _ hb
theorem e_put {M : fw_Mem} (h : KC M) {s w : Nat} (hs : s ≤ 10) (hw : w < 12) {x : Int32} (hx : x = nI w) (v : Int32) : f_X10_put st_S M 136 (nI s) x v = some (fw_set M 137 (198 + 12 * s + w) v) := by
  subst hx
  simp only [f_X10_put, gO_136, gd_tt, b1_s, b2_s, bm_s, kc_136_0 h, gN_137, tn_137, bI_0, bI_1, bI_gB, l_198, l_12, nI_mul, nI_add, gA_137 (show 198 + 12 * s + w < 330 by omega), nI_cl (show 198 + 12 * s + w < 2147483648 by omega)]
theorem mk_0 {p : Nat → Bool} {n : Nat} (hn : n ≤ 32) : mk p n = 0 ↔ ∀ i, i < n → p i = false := by
  constructor
  · intro h i hi
    have := bt_mk p n hn i
    rw [h, b_0] at this
    simpa [hi] using this.symm
  · intro h
    refine b_ext fun i _ => ?_
    rw [bt_mk p n hn, b_0]
    by_cases hi : i < n
    · rw [h i hi]; simp
    · simp [hi]
def z_A (r : Nat → Int32) (L s i : Nat) : Bool := !decide (nI i = nI s) && ((q_jd (sq r i) && !q_rv (sq r i)) && (decide (sq r i 7 = 1) && (z_same (r 3) (sq r s) (sq r i) && z_bd (r 4) (sq r s) (BDr r L (2 * i)) (BDr r L (2 * i + 1)))))
def z_ft (r : Nat → Int32) (L s : Nat) : Nat → Nat
  | 0 => 10000
  | n + 1 => if z_A r L s n = true then min (z_ft r L s n) (sq r n 6).toNatClampNeg else z_ft r L s n
theorem ft_le (r : Nat → Int32) (L s : Nat) : ∀ n, z_ft r L s n ≤ 10000
  | 0 => Nat.le_refl _
  | n + 1 => by
    have := ft_le r L s n
    rw [z_ft]
    split <;> omega
theorem ft_iff {r : Nat → Int32} {L s d : Nat} : ∀ {n}, d < z_ft r L s n ↔ d < 10000 ∧ ∀ i, i < n → z_A r L s i = true → d < (sq r i 6).toNatClampNeg
  | 0 => by simp [z_ft]
  | n + 1 => by
    rw [z_ft]
    split
    · rename_i hA
      rw [Nat.lt_min, ft_iff]
      constructor
      · rintro ⟨⟨h1, h2⟩, h3⟩
        refine ⟨h1, fun i hi hq => ?_⟩
        by_cases e : i = n
        · subst e; exact h3
        · exact h2 i (by omega) hq
      · rintro ⟨h1, h2⟩
        exact ⟨⟨h1, fun i hi hq => h2 i (by omega) hq⟩, h2 n (by omega) hA⟩
    · rename_i hA
      rw [ft_iff]
      constructor
      · rintro ⟨h1, h2⟩
        refine ⟨h1, fun i hi hq => ?_⟩
        by_cases e : i = n
        · subst e; exact absurd hq hA
        · exact h2 i (by omega) hq
      · rintro ⟨h1, h2⟩
        exact ⟨h1, fun i hi hq => h2 i (by omega) hq⟩
theorem nI_lt1 {a b : Nat} (ha : a ≤ 10000) (hb : b ≤ 10000) : (nI a - 1 < nI b - 1) ↔ a < b := by
  have e : ∀ n : Nat, n ≤ 10000 → (nI n - 1).toInt = (n : Int) - 1 := fun n hn => by
    by_cases h0 : n = 0
    · subst h0; decide
    · obtain ⟨m, rfl⟩ : ∃ m, n = m + 1 := ⟨n - 1, by omega⟩
      rw [nI_pred, nI_toInt (by omega)]
      omega
  rw [fa_lt, e a ha, e b hb]
  omega
section Q8
variable {M : fw_Mem} {r : Nat → Int32} {P L N : Nat}
theorem day_nat {q : Nat → Int32} (w : WQ P q) (hj : q_jd q = true) : ∃ d, d ≤ 9999 ∧ q 6 = nI d ∧ (q 6).toNatClampNeg = d := by
  rcases w.2.2.2.2.1 with e | ⟨d, hd, e⟩
  · simp [q_jd, e] at hj
  · exact ⟨d, hd, e, by rw [e, nI_cl (by omega)]⟩
theorem c_free (h : KC M) (w : WF r P L N) (c : CR M r L N) {s : Nat} (hs : s < N) : f_X2_lastFreeDay st_S M 121 (32 + s) = some (nI (z_ft r L s N) - 1) := by
  have n10 := w.n
  obtain ⟨hgs, es0, eqs⟩ := c.at' h w.n hs
  obtain ⟨R, h1, h2⟩ := lp_up (fun n x i => lf_X2_lastFreeDay_6 st_S M 121 (32 + s) n x (nI i)) N (fun i x => x = nI (z_ft r L s i) - 1) (fun x => x = nI (z_ft r L s N) - 1)
    (by
      rintro n i x hiN rfl
      refine ⟨_, rfl, ?_⟩
      have hi : i < 10 := by omega
      have hn : ¬ nI N ≤ nI i := nI_ge hiN (by omega)
      have hg := gO_s3 i hi
      have hc := e_c_counts (M := M) hg (c.bo w i hiN).2
      have hw := e_c_what h (c.ru w) hg hgs (c.bo w i hiN).1
      have h7 : M (32 + i) 7 = sq r i 6 := congrFun (c.2 i hiN).1 6
      rw [(c.2 i hiN).1] at hc
      rw [(c.2 i hiN).1, eqs, c.1.2.1, c.1.2.2.1, (c.2 i hiN).2.1.1, (c.2 i hiN).2.1.2] at hw
      have hA : z_A r L s i = (!decide (nI i = nI s) && ((q_jd (sq r i) && !q_rv (sq r i)) && (decide (sq r i 7 = 1) && (z_same (r 3) (sq r s) (sq r i) && z_bd (r 4) (sq r s) (BDr r L (2 * i)) (BDr r L (2 * i + 1)))))) := rfl
      simp only [lf_X2_lastFreeDay_6, gO_121, gd_tt, b1_s, b2_s, bm_s, kc_121_0 h, gN_3, tn_3, gO_3, kc_3_2 h, gN_6, tn_6, gA_6 hi, nI_cl (show i < 2147483648 by omega), kc_s3 h hi, nI_gN (show 32 + i < 2147483648 by omega), nI_cl (show 32 + i < 2147483648 by omega), hg, c.1.1, if_neg hn, hgs, es0, hc, hw, bI_0, h7, nI_1, z_ft]
      by_cases e1 : nI i = nI s
      · rw [if_pos e1, if_neg (by rw [hA]; simp [e1])]
      · rw [if_neg e1]
        cases e2 : (q_jd (sq r i) && !q_rv (sq r i))
        · rw [if_pos rfl, if_neg (by rw [hA, e2]; simp)]
        · rw [if_neg (by decide)]
          cases e3 : (decide (sq r i 7 = 1) && (z_same (r 3) (sq r s) (sq r i) && z_bd (r 4) (sq r s) (BDr r L (2 * i)) (BDr r L (2 * i + 1))))
          · rw [if_pos rfl, if_neg (by rw [hA, e3]; simp)]
          · have hAt : z_A r L s i = true := by rw [hA, e2, e3]; simp [e1]
            rw [if_neg (by decide), if_pos hAt]
            obtain ⟨d, hd, e6, e6'⟩ := day_nat (w.q hiN) (by simp at e2; exact e2.1)
            have hle := ft_le r L s i
            rw [e6', e6]
            congr 1
            simp only [nI_lt1 (show d ≤ 10000 by omega) hle]
            split
            · rw [Nat.min_eq_right (by omega)]
            · rw [Nat.min_eq_left (by omega)])
    (by
      rintro n x rfl
      exact ⟨_, by simp only [lf_X2_lastFreeDay_6, gO_121, gd_tt, kc_121_0 h, gN_3, tn_3, gO_3, c.1.1, if_pos (nI_le (Nat.le_refl N) (show N < 2 ^ 31 by omega))], rfl⟩) _ 0 20000 9999 rfl (by omega) (by omega) (show (9999 : Int32) = nI 10000 - 1 by decide +kernel)
  have h1' : lf_X2_lastFreeDay_6 st_S M 121 (32 + s) 20000 9999 0 = some R := h1
  rw [f_X2_lastFreeDay, h1', b1_s, h2]
theorem ft_bars {B : fw_Mem} (h : KC B) (e : B 137 = r) (w : WF r P L N) (hB : ∀ k, k < 2 * N → B 141 k = BDr r L k) {s d : Nat} (hs : s < N) (hd : d ≤ 9999) : ∃ v, f_X10_barsOf st_S (fw_set B 137 (198 + 12 * s + 2) (nI d)) 136 (nI s) = some v ∧ (v = 0 ↔ d < z_ft r L s N) := by
  have n10 := w.n
  have e' : fw_set B 137 (198 + 12 * s + 2) (nI d) 137 = upd r (198 + 12 * s + 2) (nI d) := by rw [fw_set_row, e]
  have e141 : fw_set B 137 (198 + 12 * s + 2) (nI d) 141 = B 141 := set_nr _ _ _ (by decide)
  have hq := e_barsOf (kc_137 h (198 + 12 * s + 2) (nI d)) (N := N) (b := s) (by rw [e', upd_ne _ _ (by omega)]; exact w.2.1.2.2) (by omega) (by omega)
  rw [e', e141] at hq
  refine ⟨_, hq, ?_⟩
  rw [Nat.min_eq_right n10, z_bars, mk_0 (by omega), ft_iff]
  rw [upd_ne _ _ (show 3 ≠ 198 + 12 * s + 2 by omega), upd_ne _ _ (show 4 ≠ 198 + 12 * s + 2 by omega), sq_upd r s (show 2 < 12 by omega) (nI d) s, if_pos rfl]
  have key : ∀ i, i < N → (z_bar (r 3) (r 4) (nI s) (upd (sq r s) 2 (nI d)) (nI i) (sq (upd r (198 + 12 * s + 2) (nI d)) i) (B 141 (2 * i)) (B 141 (2 * i + 1)) = false ↔ (z_A r L s i = true → d < (sq r i 6).toNatClampNeg)) := fun i hi => by
    rw [hB (2 * i) (by omega), hB (2 * i + 1) (by omega), z_bar_c]
    by_cases e1 : nI i = nI s
    · simp [z_comes, z_A, e1]
    · have ne : i ≠ s := fun q => e1 (by rw [q])
      rw [sq_upd r s (show 2 < 12 by omega) (nI d) i, if_neg ne]
      have a1 : z_same (r 3) (upd (sq r s) 2 (nI d)) (sq r i) = z_same (r 3) (sq r s) (sq r i) := by
        unfold z_same z_few
        rw [upd_ne _ _ (show 3 ≠ 2 by omega)]
      have a2 : z_bd (r 4) (upd (sq r s) 2 (nI d)) (BDr r L (2 * i)) (BDr r L (2 * i + 1)) = z_bd (r 4) (sq r s) (BDr r L (2 * i)) (BDr r L (2 * i + 1)) := by
        unfold z_bd
        rw [upd_ne _ _ (show 0 ≠ 2 by omega), upd_ne _ _ (show 1 ≠ 2 by omega)]
      rw [a1, a2]
      unfold z_comes z_A
      rw [upd_eq]
      cases hj : q_jd (sq r i)
      · simp
      · obtain ⟨dd, hdd, e6, e6'⟩ := day_nat (w.q hi) hj
        rw [e6', e6]
        simp only [nI_ltI (show d < 2 ^ 31 by omega) (show dd < 2 ^ 31 by omega), decide_eq_false e1]
        cases q_rv (sq r i) <;> cases (decide (sq r i 7 = 1) && (z_same (r 3) (sq r s) (sq r i) && z_bd (r 4) (sq r s) (BDr r L (2 * i)) (BDr r L (2 * i + 1)))) <;> simp
  constructor
  · intro hh
    exact ⟨by omega, fun i hi => (key i hi).mp (hh i hi)⟩
  · rintro ⟨-, hh⟩ i hi
    exact (key i hi).mpr (hh i hi)
theorem mb_free {B : fw_Mem} (h : KC B) (e : B 137 = r) (w : WF r P L N) (hB : ∀ k, k < 2 * N → B 141 k = BDr r L k) {s : Nat} (hs : s < N) (x : Int32) : ∀ k n v, k ≤ 10000 → k + 1 < n → z_ft r L s N ≤ k → ∃ v', lf_X10_freeTill_37 st_S 136 (nI s) x n (-1) (nI k - 1) (fw_set B 137 (198 + 12 * s + 2) v) = some (nI (z_ft r L s N) - 1, fw_set B 137 (198 + 12 * s + 2) v') := by
  have n10 := w.n
  intro k
  induction k with
  | zero =>
    intro n v _ hn hz
    obtain ⟨m, rfl⟩ : ∃ m, n = m + 1 := ⟨n - 1, by omega⟩
    refine ⟨v, ?_⟩
    rw [lf_X10_freeTill_37, if_pos (by decide), show z_ft r L s N = 0 by omega]
    rfl
  | succ k ih =>
    intro n v hk hn hz
    obtain ⟨m, rfl⟩ : ∃ m, n = m + 1 := ⟨n - 1, by omega⟩
    obtain ⟨bv, b1', b2'⟩ := ft_bars h e w hB hs (show k ≤ 9999 by omega)
    have hp := e_put (kc_137 h (198 + 12 * s + 2) v) (show s ≤ 10 by omega) (show 2 < 12 by omega) (x := 2) rfl (nI k)
    rw [set_set] at hp
    rw [nI_pred, lf_X10_freeTill_37, if_neg (nI_pos (by omega)), if_pos rfl, gO_136, gd_tt, hp, b1_s, b1', b1_s]
    by_cases hf : k < z_ft r L s N
    · rw [if_pos (b2'.mpr hf)]
      obtain ⟨m', rfl⟩ : ∃ m', m = m' + 1 := ⟨m - 1, by omega⟩
      refine ⟨nI k, ?_⟩
      have e1 : ¬ nI k = -1 := by rw [nI_m1 (by omega)]; exact id
      have e2 : nI (z_ft r L s N) - 1 = nI k := by rw [show z_ft r L s N = k + 1 by omega, nI_pred]
      rw [lf_X10_freeTill_37, e2]
      split
      · rfl
      · first | rfl | rw [if_neg e1]
    · rw [if_neg (fun q => hf (b2'.mp q))]
      have := ih m (nI k) (by omega) (by omega) (by omega)
      rw [show nI k + -1 = nI k - 1 from (Int32.sub_eq_add_neg _ _).symm]
      exact this
theorem q_freeTill (I : INV M) (x : Int32) : QOK (f_L_freeTill st_S M 0 x 148) (fun M1 => f_X10_freeTill st_S M1 136 x) := by
  obtain ⟨P, L, N, A, T, U, hh, h, w, pp, r3, c, -⟩ := id I
  have n10 := w.n
  by_cases hx : ∃ s, s < N ∧ x = nI s
  · obtain ⟨s, hs, rfl⟩ := hx
    have hb := c_free h w c hs
    refine qok0 I (M1 := fw_set M 148 0 (nI (z_ft (M 137) L s N) - 1)) ?_ ((AG.rf M).st 148 0 _ rfl) (set_eq _ _ _ _) (fun k1 e => ?_)
    · simp only [f_L_freeTill, f_X9_freeTill, gO_0, gd_tt, kc_0_5 h, gN_121, tn_121, gO_121, b1_s, b2_s, bxl, bxr, bn_s, gA_148_0, bm_s, if_true, if_false, i10, i00, c_suitAt h c.1.1 w.n hs, hb]
    · obtain ⟨C, h1, h2, h3, h4, h5, h6, h7⟩ := m_lay0 k1 e w
      have a2 := e_of2 h4 (s := s) (by omega)
      rw [h3] at a2
      obtain ⟨v', hl⟩ := mb_free h4 h3 w h5 hs (sq (M 137) s 2) 10000 20000 (sq (M 137) s 2) (by omega) (by omega) (ft_le _ _ _ _)
      have hself : ∀ v, fw_set (fw_set C 137 (198 + 12 * s + 2) v) 137 (198 + 12 * s + 2) (sq (M 137) s 2) = C := fun v => by
        rw [set_set]
        funext b j
        simp only [fw_set]
        by_cases q1 : b = 137
        · subst q1
          by_cases q2 : j = 198 + 12 * s + 2
          · subst q2; simp [h3, sq]
          · simp [q2]
        · simp [q1]
      have hC : fw_set C 137 (198 + 12 * s + 2) (sq (M 137) s 2) = C := by rw [← hself 0, set_set, hself]
      rw [hC] at hl
      have hl' : lf_X10_freeTill_37 st_S 136 (nI s) (sq (M 137) s 2) 20000 (-1) 9999 C = some (nI (z_ft (M 137) L s N) - 1, fw_set C 137 (198 + 12 * s + 2) v') := by
        rw [show (9999 : Int32) = nI 10000 - 1 by decide +kernel]; exact hl
      have hp := e_put (kc_137 h4 (198 + 12 * s + 2) v') (show s ≤ 10 by omega) (show 2 < 12 by omega) (x := 2) rfl (sq (M 137) s 2)
      rw [hself] at hp
      exact ⟨C, by simp only [f_X10_freeTill, gO_136, gd_tt, bm_s, ms_ok h6 h7 w hs, b1_s, i10, if_false, h1, a2, hl', hp], h2⟩
  · exact qok1 I (M1 := M) (k := 1) (by decide) (by simp only [f_L_freeTill, f_X9_freeTill, gO_0, gd_tt, kc_0_5 h, gN_121, tn_121, gO_121, b1_s, b2_s, bxl, bxr, bn_s, gA_148_0, bm_s, if_true, if_false, i10, i00, c_suitNo h c.1.1 w.n hx]) (AG.rf M) (fun k1 e => ⟨0, _, by simp only [f_X10_freeTill, gO_136, gd_tt, bm_s, ms_no (kc_136 k1 0) ((s137 _ _).trans e) w hx, b1_s, i00, if_true, m_fail, b2_s], mc_ff M 0 1⟩)
end Q8
