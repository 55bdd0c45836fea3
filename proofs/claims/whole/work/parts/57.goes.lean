/-! ===== goes ===== -/
def zB (r : Nat → Int32) (L N i : Nat) : Int32 := z_bars (r 3) (r 4) (nI i) (sq r i) (sq r) (BDr r L) N
def zH (r : Nat → Int32) (L N i : Nat) : Int32 := z_held (sq r i) (z_h r L N (nI i) (sq r i))
def zF (r : Nat → Int32) (L N i : Nat) : Int32 := z_fc (sq r i) (zB r L N i) (zH r L N i) (z_yes (sq r i) (z_h r L N (nI i) (sq r i)) (z_y r))
def z_ms (r : Nat → Int32) (L N : Nat) (k : Int32) (i : Nat) : Int32 := if k = 0 then (if zB r L N i = 0 then 0 else 1) else if k = 1 then nI (pc (zH r L N i)) else zF r L N i
theorem kc_suit {M : fw_Mem} (h : KC M) {s j : Nat} (hs : s < 10) (hj : j ≠ 0) (v : Int32) : KC (fw_set M (32 + s) j v) := by
  refine kc_cong h fun q hq => ?_
  have h2 := List.all_eq_true.mp (by decide +kernel : (kcl.all fun q => (decide (q.1 < 32) || decide (41 < q.1)) || q.2.1 == 0) = true) q hq
  simp only [Bool.or_eq_true, decide_eq_true_eq, beq_iff_eq] at h2
  rcases h2 with h2 | h2
  · exact set_na _ _ _ _ (by omega)
  · exact set_nk _ _ _ _ (by omega)
theorem cq_set {M : fw_Mem} {a j : Nat} (hj : j < 12) (v : Int32) : cq (fw_set M a (1 + j) v) a = upd (cq M a) j v := by
  funext k
  unfold cq upd fw_set
  by_cases hk : k < 12
  · by_cases e : k = j
    · subst e; simp [hk]
    · have : ¬ 1 + k = 1 + j := by omega
      simp [hk, e, this]
  · have : ¬ k = j := by omega
    simp [hk, this]
section GO
variable {M : fw_Mem} {r : Nat → Int32} {P L N s : Nat}
theorem c_measure (h : KC M) (w : WF r P L N) (c : CW M r L N) {i : Nat} (hi : i < N) {k : Int32} (hk : k = 0 ∨ k = 1 ∨ k = 2) : ∃ M', f_X2_measure st_S M 121 (32 + i) k = some (z_ms r L N k i, M') ∧ BF M M' := by
  have n10 := w.n
  have hg := gO_s3 i (by omega)
  have e0 : M (32 + i) 0 = nI i := kc_n3 h (by omega)
  have eq := (c.2 i hi).1
  have hq : QQ (cq M (32 + i)) := by rw [eq]; exact (w.q hi).qq w.1.1
  rcases hk with rfl | rfl | rfl
  · have hb := cw_bars h w c hg
    rw [eq, e0] at hb
    refine ⟨M, ?_, BF.rfl' M⟩
    simp only [f_X2_measure, if_true, gO_121, gd_tt, hb, b1_s, z_ms]
    rw [show z_bars (r 3) (r 4) (nI i) (sq r i) (sq r) (BDr r L) N = zB r L N i from rfl]
    by_cases q : zB r L N i = 0 <;> simp [q]
  · obtain ⟨M', hb, hf⟩ := cw_held h w c hg (by omega) (by omega) hq
    rw [eq, e0] at hb
    exact ⟨M', by simp [f_X2_measure, gO_121, gd_tt, hb, b2_s, e_bc, b1_s, z_ms, zH], hf⟩
  · obtain ⟨M', hb, hf⟩ := cw_forced h w c hg (by omega) hq
    rw [eq, e0] at hb
    exact ⟨M', by simp [f_X2_measure, gO_121, gd_tt, hb, b2_s, z_ms, zF, zB, zH], hf⟩
/-- the row with a judgment reversed -/
abbrev rvr (r : Nat → Int32) (s : Nat) : Nat → Int32 := upd r (198 + 12 * s + 8) 1
theorem rvr_lo {j : Nat} (hj : j < 198) : rvr r s j = r j := upd_ne _ _ (by omega)
theorem rvr_sq (i : Nat) : sq (rvr r s) i = if i = s then upd (sq r s) 8 1 else sq r i := sq_upd r s (by omega) 1 i
theorem rvr_6 {i j : Nat} (hj : j ≠ 8) : sq (rvr r s) i j = sq r i j := by
  rw [rvr_sq]
  split
  · rename_i e; rw [upd_ne _ _ hj, e]
  · rfl
theorem rvr_bd (hL : L ≤ 24) (k : Nat) : BDr (rvr r s) L k = BDr r L k := bd_upd hL (by omega) (by omega) (by omega)
theorem wf_rev (w : WF r P L N) (hj : q_jd (sq r s) = true) : WF (rvr r s) P L N := by
  obtain ⟨h1, h2, h3, h4, h5, h6⟩ := w
  refine ⟨h1, ?_, ?_, ?_, fun l hl => ?_, fun i hi => ?_⟩
  · rw [rvr_lo (by omega), rvr_lo (by omega), rvr_lo (by omega)]; exact h2
  · rw [rvr_lo (by omega)]; exact h3
  · rw [rvr_lo (by omega), rvr_lo (by omega)]; exact h4
  · rw [show lq (rvr r s) l = lq r l from lq_upd r s 8 1 (by omega)]; exact h5 l hl
  · obtain ⟨a1, a2, a3, a4, a5, a6, a7, a8, a9, a10, a11⟩ := h6 i hi
    refine ⟨?_, ?_, ?_, ?_, ?_, ?_, ?_, ?_, ?_, ?_, ?_⟩
    · rw [rvr_6 (by omega)]; exact a1
    · rw [rvr_6 (by omega)]; exact a2
    · rw [rvr_6 (by omega)]; exact a3
    · rw [rvr_6 (by omega), rvr_6 (by omega)]; exact a4
    · rw [rvr_6 (by omega)]; exact a5
    · rw [rvr_6 (by omega)]; exact a6
    · rw [rvr_sq]
      split
      · right; exact upd_eq _ _ _
      · exact a7
    · rw [rvr_6 (by omega), rvr_6 (by omega)]; exact a8
    · rw [rvr_6 (by omega), rvr_6 (by omega), rvr_6 (by omega), rvr_6 (by omega)]; exact a9
    · intro e
      rw [rvr_6 (by omega)] at e
      have hne : i ≠ s := fun q => by subst q; simp [q_jd, e] at hj
      rw [rvr_sq, if_neg hne]
      exact a10 e
    · rw [rvr_6 (by omega), rvr_6 (by omega)]; exact a11
theorem cw_rev (w : WF r P L N) (c : CW M r L N) (hs : s < N) : CW (fw_set M (32 + s) 9 1) (rvr r s) L N := by
  have n10 := w.n
  have l24 := w.1.2.1
  refine ⟨?_, fun i hi => ?_⟩
  · rw [set_na _ _ _ _ (by omega), set_na _ _ _ _ (by omega), set_na _ _ _ _ (by omega), set_na _ _ _ _ (by omega), rvr_lo (by omega), rvr_lo (by omega), rvr_lo (by omega)]
    exact c.1
  · obtain ⟨c1, c2, c3⟩ := c.2 i hi
    rw [rvr_bd l24, rvr_bd l24, set_nk _ _ _ _ (by omega), set_nk _ _ _ _ (by omega), set_nk _ _ _ _ (by omega), set_nk _ _ _ _ (by omega), rvr_lo (by omega)]
    refine ⟨?_, c2, ?_⟩
    · rw [rvr_sq]
      by_cases e : i = s
      · subst e
        rw [if_pos rfl, show (9 : Nat) = 1 + 8 from rfl, cq_set (by omega), c1]
      · rw [if_neg e, cq_fr (set_nr _ _ _ (by omega)), c1]
    · intro hv
      by_cases e : i = s
      · subst e
        rw [rvr_sq, if_pos rfl] at hv
        simp [q_rv, upd_eq] at hv
      · rw [rvr_sq, if_neg e] at hv ⊢
        exact c3 hv
theorem c_changed (h : KC M) (w : WF r P L N) (c : CR M r L N) (hs : s < N) (hj : q_jd (sq r s) = true) (hv : q_rv (sq r s) = false) {k : Int32} (hk : k = 0 ∨ k = 1 ∨ k = 2) : ∃ M', f_X2_changedWithout st_S M 121 (32 + s) k = some (mk (fun i => !decide (z_ms r L N k i = z_ms (rvr r s) L N k i)) N, M') ∧ BF M M' := by
  have n10 := w.n
  have w' := wf_rev w hj
  have hgs := gO_s3 s (by omega)
  have h9 : M (32 + s) 9 = 0 := by
    have e := congrFun (c.2 s hs).1 8
    have e : M (32 + s) 9 = sq r s 8 := e
    rcases (w.q hs).2.2.2.2.2.2.1 with q | q
    · rw [e, q]
    · simp [q_rv, q] at hv
  obtain ⟨R, h1, h2⟩ := lp_up (fun n (x : Int32 × fw_Mem) i => lf_X2_changedWithout_5 st_S 121 (32 + s) k n x.1 (nI i) x.2) N (fun i x => x.1 = mk (fun i => !decide (z_ms r L N k i = z_ms (rvr r s) L N k i)) i ∧ BF M x.2) (fun x => x.1 = mk (fun i => !decide (z_ms r L N k i = z_ms (rvr r s) L N k i)) N ∧ BF M x.2)
    (by
      rintro n i ⟨x, m⟩ hiN ⟨hx, hf⟩
      simp only at hx hf
      subst hx
      have hi : i < 10 := by omega
      have hn : ¬ nI N ≤ nI i := nI_ge hiN (by omega)
      have hg := gO_s3 i hi
      have hm := hf.kc h
      have cm : CW m r L N := CW.bf hf n10 c.cw
      obtain ⟨M8, q1, f1⟩ := c_measure hm w cm hiN hk
      have h8 := f1.kc hm
      obtain ⟨M11, q2, f2⟩ := c_measure (kc_suit h8 (show s < 10 by omega) (show 9 ≠ 0 by omega) 1) w' (cw_rev w (CW.bf f1 n10 cm) hs) hiN hk
      have f8 := hf.trans' f1
      have hbf : BF M (fw_set M11 (32 + s) 9 0) := by
        refine ⟨fun b hb => ?_, fun j hj => ?_⟩
        · by_cases e : b = 32 + s
          · subst e
            rw [fw_set_row, f2.1 _ hb, fw_set_row, f8.1 _ hb]
            funext j
            unfold upd
            by_cases q : j = 9
            · subst q; simp [h9]
            · simp [q]
          · rw [set_nr _ _ _ e, f2.1 b hb, set_nr _ _ _ e, f8.1 b hb]
        · rw [set_na _ _ _ _ (by omega), f2.2 j hj, set_na _ _ _ _ (by omega), f8.2 j hj]
      have h3N : m 3 6 = nI N := cm.1.1
      have h := hm
      refine ⟨(mk (fun i => !decide (z_ms r L N k i = z_ms (rvr r s) L N k i)) (i + 1), fw_set M11 (32 + s) 9 0), ⟨rfl, hbf⟩, ?_⟩
      simp only [lf_X2_changedWithout_5, gO_121, gd_tt, b1_s, b2_s, bm_s, kc_121_0 h, gN_3, tn_3, gO_3, kc_3_2 h, gN_6, tn_6, gA_6 hi, nI_cl (show i < 2147483648 by omega), kc_s3 h hi, nI_gN (show 32 + i < 2147483648 by omega), nI_cl (show 32 + i < 2147483648 by omega), hg, h3N, if_neg hn, q1, hgs, q2, nI_1, mk, bit]
      by_cases q : z_ms r L N k i = z_ms (rvr r s) L N k i <;> simp [q])
    (by
      rintro n ⟨x, m⟩ ⟨hx, hf⟩
      simp only at hx hf
      have hm := hf.kc h
      have h3N : m 3 6 = nI N := (CW.bf hf n10 c.cw).1.1
      exact ⟨(x, m), by simp only [lf_X2_changedWithout_5, gO_121, gd_tt, kc_121_0 hm, gN_3, tn_3, gO_3, h3N, if_pos (nI_le (Nat.le_refl N) (show N < 2 ^ 31 by omega))], hx, hf⟩) _ 0 20000 (0, M) rfl (by omega) (by omega) ⟨rfl, BF.rfl' M⟩
  have h1' : lf_X2_changedWithout_5 st_S 121 (32 + s) k 20000 0 0 M = some R := h1
  refine ⟨R.2, ?_, h2.2⟩
  rw [f_X2_changedWithout, h1', b1_s, h2.1]
/-! the model -/
theorem kcn_345 {M M' : fw_Mem} (h : KC M) (hf : ∀ b, b ≠ 143 → b ≠ 144 → b ≠ 145 → M' b = M b) : KC M' := by
  refine kc_cong h fun q hq => ?_
  have h2 := List.all_eq_true.mp (by decide +kernel : (kcl.all fun q => !(q.1 == 143) && (!(q.1 == 144) && !(q.1 == 145))) = true) q hq
  simp at h2
  rw [hf _ h2.1 h2.2.1 h2.2.2]
theorem mb_then {B : fw_Mem} (h : KC B) (e : B 137 = r) (w : WF r P L N) (hB : ∀ k, k < 2 * N → B 141 k = BDr r L k) : ∃ C, f_X10_layThen st_S B 136 = some C ∧ (∀ b, b ≠ 143 → b ≠ 144 → b ≠ 145 → C b = B b) ∧ ∀ j, j < N → C 143 j = zB r L N j ∧ C 144 j = nI (pc (zH r L N j)) ∧ C 145 j = zF r L N j := by
  have n10 := w.n
  obtain ⟨R, h1, h2⟩ := lp_up (fun n (m : fw_Mem) i => lf_X10_layThen_2 st_S 136 n (nI i) m) N (fun i m => (∀ b, b ≠ 143 → b ≠ 144 → b ≠ 145 → m b = B b) ∧ ∀ j, j < i → m 143 j = zB r L N j ∧ m 144 j = nI (pc (zH r L N j)) ∧ m 145 j = zF r L N j) (fun m => (∀ b, b ≠ 143 → b ≠ 144 → b ≠ 145 → m b = B b) ∧ ∀ j, j < N → m 143 j = zB r L N j ∧ m 144 j = nI (pc (zH r L N j)) ∧ m 145 j = zF r L N j)
    (by
      rintro n i m hiN ⟨f, g⟩
      have hn : ¬ nI N ≤ nI i := nI_ge hiN (by omega)
      have hi : i < 10 := by omega
      have km := kcn_345 h f
      have em : m 137 = r := by rw [f 137 (by decide) (by decide) (by decide)]; exact e
      have bm' : ∀ k, k < 2 * N → m 141 k = BDr r L k := by rw [f 141 (by decide) (by decide) (by decide)]; exact hB
      have f7 : ∀ b, b ≠ 143 → b ≠ 144 → b ≠ 145 → fw_set m 143 i (zB r L N i) b = B b := fun b b1 b2 b3 => by rw [set_nr _ _ _ b1, f b b1 b2 b3]
      have k7 := kcn_345 h f7
      have e7 : fw_set m 143 i (zB r L N i) 137 = r := by rw [f7 137 (by decide) (by decide) (by decide)]; exact e
      have b7 : ∀ k, k < 2 * N → fw_set m 143 i (zB r L N i) 141 k = BDr r L k := by rw [f7 141 (by decide) (by decide) (by decide)]; exact hB
      have f12 : ∀ b, b ≠ 143 → b ≠ 144 → b ≠ 145 → fw_set (fw_set m 143 i (zB r L N i)) 144 i (nI (pc (zH r L N i))) b = B b := fun b b1 b2 b3 => by rw [set_nr _ _ _ b2, f7 b b1 b2 b3]
      have k12 := kcn_345 h f12
      have e12 : fw_set (fw_set m 143 i (zB r L N i)) 144 i (nI (pc (zH r L N i))) 137 = r := by rw [f12 137 (by decide) (by decide) (by decide)]; exact e
      have b12 : ∀ k, k < 2 * N → fw_set (fw_set m 143 i (zB r L N i)) 144 i (nI (pc (zH r L N i))) 141 k = BDr r L k := by rw [f12 141 (by decide) (by decide) (by decide)]; exact hB
      refine ⟨fw_set (fw_set (fw_set m 143 i (zB r L N i)) 144 i (nI (pc (zH r L N i)))) 145 i (zF r L N i), ⟨fun b b1 b2 b3 => by rw [set_nr _ _ _ b3, f12 b b1 b2 b3], fun j hj => ?_⟩, ?_⟩
      · by_cases q : j = i
        · subst q
          refine ⟨?_, ?_, ?_⟩
          · rw [set_na _ _ _ _ (by decide), set_na _ _ _ _ (by decide), set_eq]
          · rw [set_na _ _ _ _ (by decide), set_eq]
          · rw [set_eq]
        · obtain ⟨g1, g2, g3⟩ := g j (by omega)
          refine ⟨?_, ?_, ?_⟩
          · rw [set_nk _ _ _ _ q, set_nk _ _ _ _ q, set_nk _ _ _ _ q, g1]
          · rw [set_nk _ _ _ _ q, set_nk _ _ _ _ q, set_nk _ _ _ _ q, g2]
          · rw [set_nk _ _ _ _ q, set_nk _ _ _ _ q, set_nk _ _ _ _ q, g3]
      · have a1 := mb_bars km em w bm' hiN
        have a2 := mb_held k7 e7 w b7 hiN
        have a3 := mb_forced k12 e12 w b12 hiN
        rw [show z_bars (r 3) (r 4) (nI i) (sq r i) (sq r) (BDr r L) N = zB r L N i from rfl] at a1 a3
        rw [show z_held (sq r i) (z_h r L N (nI i) (sq r i)) = zH r L N i from rfl] at a2 a3
        rw [show z_fc (sq r i) (zB r L N i) (zH r L N i) (z_yes (sq r i) (z_h r L N (nI i) (sq r i)) (z_y r)) = zF r L N i from rfl] at a3
        simp only [lf_X10_layThen_2, gO_136, gd_tt, e_suits km, em, w.2.1.2.2, b1_s, if_neg hn, kc_136_9 km, gN_143, tn_143, a1, gA_143 hi, nI_cl (show i < 2147483648 by omega), bm_s, kc_136_10 k7, gN_144, tn_144, a2, e_bits, gA_144 hi, kc_136_11 k12, gN_145, tn_145, a3, gA_145 hi, nI_1])
    (by
      rintro n m ⟨f, g⟩
      have km := kcn_345 h f
      have em : m 137 = r := by rw [f 137 (by decide) (by decide) (by decide)]; exact e
      exact ⟨m, by simp only [lf_X10_layThen_2, gO_136, gd_tt, e_suits km, em, w.2.1.2.2, b1_s, if_pos (nI_le (Nat.le_refl N) (show N < 2 ^ 31 by omega))], f, g⟩) _ 0 20000 B rfl (by omega) (by omega) ⟨fun _ _ _ _ => rfl, fun j hj => absurd hj (by omega)⟩
  have h1' : lf_X10_layThen_2 st_S 136 20000 0 B = some R := h1
  exact ⟨R, by rw [f_X10_layThen, h1', b1_s], h2.1, h2.2⟩
theorem z_ho_some {h : Nat → Bool} {d : Nat → Int32} {n : Nat} : (z_ho h d n).isSome = true ↔ ∃ a, a < n ∧ h a = true := by
  constructor
  · intro q
    obtain ⟨c, hc⟩ := Option.isSome_iff_exists.mp q
    exact ⟨c, z_ho_lt hc, z_ho_h hc⟩
  · rintro ⟨a, ha, h1⟩
    cases e : z_ho h d n with
    | some c => rfl
    | none =>
      exfalso
      have : ∀ m, m ≤ n → a < m → z_ho h d m ≠ none := by
        intro m
        induction m with
        | zero => intro _ q; omega
        | succ m ih =>
          intro hm ham
          rw [z_ho]
          by_cases q : a = m
          · subst q
            rw [h1]
            simp only [if_true]
            split
            · simp
            · split <;> simp
          · split
            · split
              · simp
              · split <;> simp
            · exact ih (by omega) (by omega)
      exact this n (Nat.le_refl n) ha e
theorem zq_bar {sh mu num a bl br : Int32} {q q' qa : Nat → Int32} (hq : ∀ j, j < 6 → q j = q' j) : z_bar sh mu num q a qa bl br = z_bar sh mu num q' a qa bl br := by
  unfold z_bar z_comes z_same z_few z_bd
  rw [hq 0 (by omega), hq 1 (by omega), hq 2 (by omega), hq 3 (by omega)]
theorem zq_hold {e mu num a bl br i : Int32} {q q' qa : Nat → Int32} (hq : ∀ j, j < 6 → q j = q' j) : z_hold e mu num q a qa bl br i = z_hold e mu num q' a qa bl br i := by
  unfold z_hold z_comes
  rw [hq 0 (by omega), hq 1 (by omega), hq 2 (by omega), hq 4 (by omega)]
theorem rev_bars (w : WF r P L N) {i t : Nat} (h : bt (zB (rvr r s) L N i) t = true) : bt (zB r L N i) t = true := by
  have n10 := w.n
  have l24 := w.1.2.1
  rw [zB, z_bars, bt_mk _ N (by omega)] at h ⊢
  simp only [Bool.and_eq_true] at h ⊢
  refine ⟨h.1, ?_⟩
  have h2 := h.2
  rw [rvr_bd l24, rvr_bd l24, rvr_lo (by omega), rvr_lo (by omega), zq_bar (q' := sq r i) (fun j hj => rvr_6 (by omega))] at h2
  rw [rvr_sq t] at h2
  by_cases e : t = s
  · subst e
    rw [if_pos rfl] at h2
    simp [z_bar, z_comes, q_rv, upd_eq] at h2
  · rw [if_neg e] at h2
    exact h2
theorem rev_held (w : WF r P L N) {i t : Nat} (h : bt (zH (rvr r s) L N i) t = true) : bt (zH r L N i) t = true := by
  have n10 := w.n
  have l24 := w.1.2.1
  rw [zH, z_held, bt_mk _ 31 (by omega)] at h ⊢
  simp only [Bool.and_eq_true, z_heldP] at h ⊢
  obtain ⟨h1, h2, h3⟩ := h
  refine ⟨h1, ?_, ?_⟩
  · rw [show q_is (sq r i) = q_is (sq (rvr r s) i) by unfold q_is; rw [rvr_6 (by omega), rvr_6 (by omega)]]; exact h2
  · obtain ⟨a, ha, hh⟩ := z_ho_some.mp h3
    refine z_ho_some.mpr ⟨a, ha, ?_⟩
    rw [rvr_bd l24, rvr_bd l24, rvr_lo (by omega), rvr_lo (by omega), zq_hold (q' := sq r i) (fun j hj => rvr_6 (by omega))] at hh
    rw [rvr_sq a] at hh
    by_cases e : a = s
    · subst e
      rw [if_pos rfl] at hh
      simp [z_hold, z_comes, q_rv, upd_eq] at hh
    · rw [if_neg e] at hh
      exact hh
theorem mb_changed {C : fw_Mem} (h : KC C) (e : C 137 = rvr r s) (w : WF r P L N) (w' : WF (rvr r s) P L N) (hB : ∀ k, k < 2 * N → C 141 k = BDr r L k) (hC : ∀ j, j < N → C 143 j = zB r L N j ∧ C 144 j = nI (pc (zH r L N j)) ∧ C 145 j = zF r L N j) {k : Int32} (hk : k = 0 ∨ k = 1 ∨ k = 2) : f_X10_changed st_S C 136 k = some (mk (fun i => !decide (z_ms r L N k i = z_ms (rvr r s) L N k i)) N) := by
  have n10 := w.n
  have l24 := w.1.2.1
  have hB' : ∀ k, k < 2 * N → C 141 k = BDr (rvr r s) L k := fun k hk => by rw [rvr_bd l24]; exact hB k hk
  obtain ⟨R, h1, h2⟩ := lp_up (fun n x i => lf_X10_changed_4 st_S C 136 k n x (nI i)) N (fun i x => x = mk (fun i => !decide (z_ms r L N k i = z_ms (rvr r s) L N k i)) i) (fun x => x = mk (fun i => !decide (z_ms r L N k i = z_ms (rvr r s) L N k i)) N)
    (by
      rintro n i x hiN rfl
      refine ⟨_, rfl, ?_⟩
      have hn : ¬ nI N ≤ nI i := nI_ge hiN (by omega)
      have hi : i < 10 := by omega
      obtain ⟨g1, g2, g3⟩ := hC i hiN
      have a1 : f_X10_barsOf st_S C 136 (nI i) = some (zB (rvr r s) L N i) := mb_bars h e w' hB' hiN
      have a2 : f_X10_heldOf st_S C 136 (nI i) = some (zH (rvr r s) L N i) := mb_held h e w' hB' hiN
      have a3 : f_X10_forcedOf st_S C 136 (nI i) = some (zF (rvr r s) L N i) := mb_forced h e w' hB' hiN
      have o0 : ∀ y : Int32, y ||| 0 = y := fun y => b_ext fun j _ => by rw [b_or, b_0, Bool.or_false]
      have eN : rvr r s 2 = nI N := by rw [rvr_lo (by omega)]; exact w.2.1.2.2
      simp only [lf_X10_changed_4, gO_136, gd_tt, e_suits h, e, eN, b1_s, if_neg hn, kc_136_9 h, gN_143, tn_143, gA_143 hi, nI_cl (show i < 2147483648 by omega), g1, a1, a2, e_bits, kc_136_10 h, gN_144, tn_144, gA_144 hi, g2, a3, kc_136_11 h, gN_145, tn_145, gA_145 hi, g3, bm_s, nI_1, o0, mk, bit, z_ms]
      rcases hk with rfl | rfl | rfl
      · have hsub : zB r L N i = 0 → zB (rvr r s) L N i = 0 := fun q => bt_0iff.mpr fun t _ => by
          cases hb : bt (zB (rvr r s) L N i) t
          · rfl
          · have := rev_bars w hb
            rw [q, b_0] at this; cases this
        by_cases q1 : zB r L N i = 0
        · simp [q1, hsub q1]
        · by_cases q2 : zB (rvr r s) L N i = 0 <;> simp [q1, q2]
      · have hle : pc (zH (rvr r s) L N i) ≤ pc (zH r L N i) := pc_sub fun t _ => rev_held w
        have l1 := pc_le (zH r L N i)
        have hle2 : (nI (pc (zH r L N i)) ≤ nI (pc (zH (rvr r s) L N i))) = (nI (pc (zH r L N i)) = nI (pc (zH (rvr r s) L N i))) := by
          rw [nI_leI (by omega) (by omega), nI_eq (by omega) (by omega)]
          exact propext ⟨fun q => by omega, fun q => by omega⟩
        by_cases q : nI (pc (zH r L N i)) = nI (pc (zH (rvr r s) L N i))
        · simp [q]
        · have q' : ¬ nI (pc (zH r L N i)) ≤ nI (pc (zH (rvr r s) L N i)) := by rw [hle2]; exact q
          simp [q, q']
      · by_cases q : zF r L N i = zF (rvr r s) L N i
        · simp [q]
        · have q' : ¬ zF (rvr r s) L N i = zF r L N i := fun z => q z.symm
          simp [q, q'])
    (by
      rintro n x rfl
      have eN : rvr r s 2 = nI N := by rw [rvr_lo (by omega)]; exact w.2.1.2.2
      exact ⟨_, by simp only [lf_X10_changed_4, gO_136, gd_tt, e_suits h, e, eN, b1_s, if_pos (nI_le (Nat.le_refl N) (show N < 2 ^ 31 by omega))], rfl⟩) _ 0 20000 0 rfl (by omega) (by omega) rfl
  have h1' : lf_X10_changed_4 st_S C 136 k 20000 0 0 = some R := h1
  rw [f_X10_changed, h1', b1_s, h2]
end GO
