/-! ===== would ===== -/
def Lve (r r' : Nat → Int32) (N : Nat) : Prop := ∀ j, j < 198 + 12 * N → r' j = r j
section LEs
variable {r r' : Nat → Int32} {P L N : Nat}
theorem lve_sq (h : Lve r r' N) {s : Nat} (hs : s < N) : sq r' s = sq r s := by
  funext j
  unfold sq
  split
  · exact h _ (by omega)
  · rfl
theorem lve_lq (h : Lve r r' N) {l : Nat} (hl : l < 24) : lq r' l = lq r l := by
  funext j
  unfold lq
  split
  · exact h _ (by omega)
  · rfl
theorem lve_wf (h : Lve r r' N) (w : WF r P L N) : WF r' P L N := by
  obtain ⟨h1, h2, h3, h4, h5, h6⟩ := w
  refine ⟨h1, ?_, ?_, ?_, fun l hl => ?_, fun i hi => ?_⟩
  · rw [h _ (by omega), h _ (by omega), h _ (by omega)]; exact h2
  · rw [h _ (by omega)]; exact h3
  · rw [h _ (by omega), h _ (by omega)]; exact h4
  · rw [lve_lq h (by omega)]; exact h5 l hl
  · rw [lve_sq h hi]; exact h6 i hi
theorem lve_bd (h : Lve r r' N) (hL : L ≤ 24) {k : Nat} (hk : k < 2 * N) : BDr r' L k = BDr r L k :=
  bd_cong (fun l hl => lve_lq h (by omega)) (by rw [lve_sq h (by omega)]) (by rw [lve_sq h (by omega)])
theorem lve_rw {M : fw_Mem} {n : Nat} (h : Lve r r' N) (hP : P ≤ 12) (hL : L ≤ 24) (w : RW M n r P L N) : RW M n r' P L N :=
  ⟨w.1, fun i hi => by rw [h _ (by omega)]; exact w.2.1 i hi, fun k hk => by rw [h _ (by omega)]; exact w.2.2.1 k hk, fun l hl => by rw [lve_lq h (by omega)]; exact w.2.2.2.1 l hl, fun s hs => by rw [lve_sq h hs]; exact w.2.2.2.2 s hs⟩
theorem lve_cr {M : fw_Mem} (h : Lve r r' N) (hL : L ≤ 24) (c : CR M r L N) : CR M r' L N := by
  refine ⟨by rw [h 3 (by omega), h 4 (by omega), h 5 (by omega)]; exact c.1, fun i hi => ?_⟩
  rw [lve_sq h hi, lve_bd h hL (by omega), lve_bd h hL (by omega), h 5 (by omega)]
  exact c.2 i hi
theorem lve_ud {f r0 : Nat → Int32} {L0 : Nat} (h : Lve r r' N) (hP : P ≤ 12) (hL : L ≤ 24) (u : UD f r L r0 L0 P N) : UD f r' L r0 L0 P N := by
  obtain ⟨u1, u2⟩ := u
  refine ⟨fun i hi => by rw [h _ (by omega)]; exact u1 i hi, ?_⟩
  have hr : ∀ k, k < 3 → r' (3 + k) = r (3 + k) := fun k hk => h _ (by omega)
  rcases u2 with ⟨a1, a2, a3, a4, a5, a6⟩ | ⟨a1, a2, a3, a4, c, b1, b2, b3, b4, b5⟩ | ⟨a1, a2, a3, a4, c, b1, b2, b3, b4⟩ | ⟨a1, a2, a3, s, b1, b2, b3, b4, b5⟩
  · exact Or.inl ⟨a1, fun k hk => by rw [hr k hk]; exact a2 k hk, fun s hs => by rw [lve_sq h hs]; exact a3 s hs, a4, a5, fun l hl => by rw [lve_lq h (by omega)]; exact a6 l hl⟩
  · exact Or.inr (Or.inl ⟨a1, fun k hk => by rw [hr k hk]; exact a2 k hk, fun s hs => by rw [lve_sq h hs]; exact a3 s hs, a4, c, b1, b2, fun l hl => by rw [lve_lq h (by omega)]; exact b3 l hl, fun l h1 h2 => by rw [lve_lq h (by omega)]; exact b4 l h1 h2, b5⟩)
  · exact Or.inr (Or.inr (Or.inl ⟨a1, a2, fun l hl => by rw [lve_lq h (by omega)]; exact a3 l hl, fun s hs => by rw [lve_sq h hs]; exact a4 s hs, c, b1, b2, b3, fun k hk hc => by rw [hr k hk]; exact b4 k hk hc⟩))
  · refine Or.inr (Or.inr (Or.inr ⟨a1, fun l hl => by rw [lve_lq h (by omega)]; exact a2 l hl, fun k hk => by rw [hr k hk]; exact a3 k hk, s, b1, b2, fun t ht hts => by rw [lve_sq h ht]; exact b3 t ht hts, ?_⟩))
    rw [lve_sq h b1]
    exact ⟨b4, b5⟩
theorem lve_act {cr pr : Nat → Int32} {A : Nat} (h : Lve r r' N) (hP : P ≤ 12) (hL : L ≤ 24) (a : ACT cr pr r P L N A) : ACT cr pr r' P L N A := by
  obtain ⟨a1, Ls, a2, a3⟩ := a
  refine ⟨a1, Ls, a2, fun j hj => ?_⟩
  obtain ⟨b1, b2⟩ := a3 j hj
  refine ⟨b1, ?_⟩
  by_cases e : j + 1 = A
  · rw [if_pos e] at b2 ⊢
    exact lve_ud h hP (by rw [e, a2]; exact hL) b2
  · rw [if_neg e] at b2 ⊢
    exact b2
theorem iv_row {M M' : fw_Mem} {A T U : Nat} {hh : Bool} (I : IV M P L N A T U hh) (hM : ∀ b, b ≠ 137 → M' b = M b) (hl : Lve (M 137) (M' 137) N) : IV M' P L N A T U hh := by
  obtain ⟨k, w, ⟨p1, p2, p3⟩, r3, c, im, ac, tp, sp⟩ := I
  have n10 := w.1.2.2
  have l24 := w.1.2.1
  have p12 := w.1.1
  refine ⟨kc_ne k 137 kcn_137 hM, lve_wf hl w, ⟨?_, ?_, ?_⟩, ?_, ?_, ?_, ?_, ?_, ?_⟩
  · unfold cLP; rw [hM (3 + 2) (by decide)]; exact p1
  · unfold cLP; rw [hM (42 + 2) (by decide)]; exact p2
  · unfold cLP; rw [hM (81 + 2) (by decide)]; exact p3
  · exact RW.fr p1 (by omega) l24 n10 (fun b h1 h2 => hM b (by omega)) (lve_rw hl p12 l24 r3)
  · refine lve_cr hl l24 ⟨by rw [hM 3 (by decide), hM 7 (by decide)]; exact c.1, fun i hi => ?_⟩
    have ei := hM (32 + i) (by omega)
    rw [cq_fr ei, ei]; exact c.2 i hi
  · refine ⟨by rw [hM 0 (by decide)]; exact im.1, by rw [hM 136 (by decide)]; exact im.2.1, fun q => ?_⟩
    obtain ⟨P', L', N', w', r'⟩ := im.2.2 q
    refine ⟨P', L', N', by rw [hM 139 (by decide)]; exact w', ?_⟩
    rw [hM 139 (by decide)]
    exact RW.fr p3 (by omega) w'.1.2.1 w'.1.2.2 (fun b h1 h2 => hM b (by omega)) r'
  · rw [hM 131 (by decide), hM 132 (by decide), hM 140 (by decide), hM 136 (by decide)]
    exact ⟨ac.1, ac.2.1, lve_act hl p12 l24 ac.2.2⟩
  · rw [hM 1 (by decide), hM 136 (by decide), hM 2 (by decide), hM 147 (by decide)]; exact tp
  · rw [hM 133 (by decide), hM 134 (by decide), hM 146 (by decide), hM 136 (by decide)]; exact sp
end LEs
/-! a suit laid in a row -/
theorem e_lay {a : Nat} (hlen : fw_len2 st_S 0 a = 330) (m : fw_Mem) {s : Nat} (hs : s ≤ 10) (p d f : Int32) (a0 : Nat) : ∃ m', f_X10_lay st_S m a0 a (nI s) p d f = some m' ∧ (∀ b, b ≠ a → m' b = m b) ∧ (∀ j, j < 198 + 12 * s ∨ 210 + 12 * s ≤ j → m' a j = m a j) ∧ ∀ j, j < 12 → m' a (198 + 12 * s + j) = if j = 0 then p else if j = 1 then d else if j = 2 then f else if j = 6 then -1 else 0 := by
  have hg : ∀ j, j < 12 → gA st_S 0 a (nI (198 + 12 * s + j)) = true := fun j hj => gA_at 330 hlen (i := 198 + 12 * s + j) (by omega) (by omega) rfl
  obtain ⟨m1, h1, h2, h3, h4⟩ := lp_up (fun n (x : fw_Mem) i => lf_X10_lay_13 st_S a p d f (nI (198 + 12 * s)) n (nI i) x) 12 (fun i x => (∀ b, b ≠ a → x b = m b) ∧ (∀ j, j < 198 + 12 * s ∨ 210 + 12 * s ≤ j → x a j = m a j) ∧ ∀ j, j < i → x a (198 + 12 * s + j) = 0) (fun x => (∀ b, b ≠ a → x b = m b) ∧ (∀ j, j < 198 + 12 * s ∨ 210 + 12 * s ≤ j → x a j = m a j) ∧ ∀ j, j < 12 → x a (198 + 12 * s + j) = 0)
    (by
      rintro n i x hi ⟨b1, b2, b3⟩
      have hn : ¬ (12 : Int32) ≤ nI i := nI_ge (b := 12) hi (by omega)
      refine ⟨fw_set x a (198 + 12 * s + i) 0, ⟨fun b hb => by rw [set_nr _ _ _ hb, b1 b hb], fun j hj => by rw [set_nk _ _ _ _ (by omega), b2 j hj], fun j hj => ?_⟩, ?_⟩
      · by_cases e : j = i
        · subst e; rw [set_eq]
        · rw [set_nk _ _ _ _ (by omega)]; exact b3 j (by omega)
      · simp only [lf_X10_lay_13, if_neg hn, nI_add, hg i hi, gd_tt, bm_s, nI_cl (show 198 + 12 * s + i < 2147483648 by omega), nI_1])
    (by
      rintro n x hx
      exact ⟨x, by simp only [lf_X10_lay_13, if_pos (show (12 : Int32) ≤ nI 12 by decide)], hx⟩) _ 0 20000 m rfl (by omega) (by omega) ⟨fun _ _ => rfl, fun _ _ => rfl, fun j hj => absurd hj (by omega)⟩
  have h1' : lf_X10_lay_13 st_S a p d f (nI (198 + 12 * s)) 20000 0 m = some m1 := h1
  refine ⟨fw_set (fw_set (fw_set (fw_set m1 a (198 + 12 * s) p) a (198 + 12 * s + 1) d) a (198 + 12 * s + 2) f) a (198 + 12 * s + 6) (-1), ?_, fun b hb => by rw [set_nr _ _ _ hb, set_nr _ _ _ hb, set_nr _ _ _ hb, set_nr _ _ _ hb, h2 b hb], fun j hj => by rw [set_nk _ _ _ _ (by omega), set_nk _ _ _ _ (by omega), set_nk _ _ _ _ (by omega), set_nk _ _ _ _ (by omega), h3 j hj], fun j hj => ?_⟩
  · have g0 : gA st_S 0 a (nI (198 + 12 * s)) = true := hg 0 (by omega)
    have h1 : lf_X10_lay_13 st_S a p d f (nI (198 + 12 * s)) 20000 (nI 0) m = some m1 := h1
    have g1 := hg 1 (by omega)
    have g2 := hg 2 (by omega)
    have g6 := hg 6 (by omega)
    simp only [f_X10_lay, l_198, l_12, nI_mul, nI_add, bm_s, h1, b1_s, show (0 : Int32) = nI 0 from rfl, show (1 : Int32) = nI 1 from rfl, show (2 : Int32) = nI 2 from rfl, l_6, g0, g1, g2, g6, gd_tt, nI_cl (show 198 + 12 * s < 2147483648 by omega), nI_cl (show 198 + 12 * s + 1 < 2147483648 by omega), nI_cl (show 198 + 12 * s + 2 < 2147483648 by omega), nI_cl (show 198 + 12 * s + 6 < 2147483648 by omega), Nat.add_zero]
  · by_cases e6 : j = 6
    · subst e6; rw [set_eq]; simp
    · rw [set_nk _ _ _ _ (by omega)]
      by_cases e2 : j = 2
      · subst e2; rw [set_eq]; simp
      · rw [set_nk _ _ _ _ (by omega)]
        by_cases e1 : j = 1
        · subst e1; rw [set_eq]; simp
        · rw [set_nk _ _ _ _ (by omega)]
          by_cases e0 : j = 0
          · subst e0; rw [Nat.add_zero, set_eq]; simp
          · rw [set_nk _ _ _ _ (by omega), h4 j hj]; simp [e0, e1, e2, e6]
theorem z_num {num num' : Int32} {q qa : Nat → Int32} {a : Int32} (h1 : ¬ a = num) (h2 : ¬ a = num') : z_comes num q a qa = z_comes num' q a qa := by simp [z_comes, h1, h2]
section WD
variable {r r' : Nat → Int32} {P L N : Nat} {q : Nat → Int32} {B : Nat → Int32}
theorem wd_bars (hle : Lve r r' N) (hN : N ≤ 10) (hL : L ≤ 24) (hq : ∀ j, j < 6 → sq r' N j = q j) (hB : ∀ k, k < 2 * N → B k = BDr r' L k) : z_bars (r' 3) (r' 4) (nI N) (sq r' N) (sq r') B (min 10 (N + 1)) = z_bars (r 3) (r 4) (-1) q (sq r) (BDr r L) N := by
  have e : z_bars (r' 3) (r' 4) (nI N) (sq r' N) (sq r') B N = z_bars (r 3) (r 4) (-1) q (sq r) (BDr r L) N := by
    refine mk_cong fun i hi => ?_
    rw [hB (2 * i) (by omega), hB (2 * i + 1) (by omega), lve_bd hle hL (by omega), lve_bd hle hL (by omega), lve_sq hle hi, hle 3 (by omega), hle 4 (by omega), zq_bar hq]
    unfold z_bar
    rw [z_num (num' := -1) (fun e => by have := (nI_eq (by omega) (by omega)).mp e; omega) (by rw [nI_m1 (by omega)]; exact id)]
  by_cases h10 : N = 10
  · subst h10; exact e
  · rw [Nat.min_eq_right (by omega), z_bars, mk]
    have : z_bar (r' 3) (r' 4) (nI N) (sq r' N) (nI N) (sq r' N) (B (2 * N)) (B (2 * N + 1)) = false := by simp [z_bar, z_comes]
    rw [this]
    exact e
theorem wd_ho (hle : Lve r r' N) (hN : N ≤ 10) (hL : L ≤ 24) (hq : ∀ j, j < 6 → sq r' N j = q j) (hB : ∀ k, k < 2 * N → B k = BDr r' L k) : z_hof (r' 5) (r' 4) (nI N) (sq r' N) (sq r') B (N + 1) = z_h r L N (-1) q := by
  funext t
  unfold z_hof
  rw [z_ho]
  have : z_hold (r' 5) (r' 4) (nI N) (sq r' N) (nI N) (sq r' N) (B (2 * N)) (B (2 * N + 1)) (nI t) = false := by simp [z_hold, z_comes]
  rw [this]
  simp only [Bool.false_eq_true, if_false]
  refine z_ho_cong (fun i hi => ?_) (fun i hi => by rw [lve_sq hle hi])
  rw [hB (2 * i) (by omega), hB (2 * i + 1) (by omega), lve_bd hle hL (by omega), lve_bd hle hL (by omega), lve_sq hle hi, hle 4 (by omega), hle 5 (by omega), zq_hold hq]
  unfold z_hold
  rw [z_num (num' := -1) (fun e => by have := (nI_eq (by omega) (by omega)).mp e; omega) (by rw [nI_m1 (by omega)]; exact id)]
theorem wd_held {q q' : Nat → Int32} {ho : Nat → Option Nat} (h4 : q' 4 = q 4) (h5 : q' 5 = q 5) : z_held q' ho = z_held q ho := by
  unfold z_held z_heldP q_is
  rw [h4, h5]
theorem wd_yes {q q' : Nat → Int32} {ho : Nat → Option Nat} {y y' : Nat → Int32} (h4 : q' 4 = q 4) (h5 : q' 5 = q 5) (hy : ∀ t c, ho t = some c → y' c = y c) : z_yes q' ho y' = z_yes q ho y := by
  unfold z_yes
  refine mk_cong fun t _ => ?_
  unfold z_yesP q_is
  rw [h4, h5]
  cases e : ho t with
  | none => rfl
  | some c => simp only [hy t c e]
theorem wd_fc {q q' : Nat → Int32} {b H Y : Int32} (h4 : q' 4 = q 4) (h5 : q' 5 = q 5) : z_fc q' b H Y = z_fc q b H Y := by
  unfold z_fc q_is
  rw [h4, h5]
end WD
