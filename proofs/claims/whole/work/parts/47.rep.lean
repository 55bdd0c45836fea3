/-! ===== a row that is well formed; who is bound; the class's picture of a row ===== -/
def WQ (P : Nat) (q : Nat → Int32) : Prop := (∃ p, p < P ∧ q 0 = nI p) ∧ (∃ p, p < P ∧ q 1 = nI p) ∧ (∃ d, d ≤ 9999 ∧ q 2 = nI d) ∧ q 4 &&& q 5 = 0 ∧ (q 6 = -1 ∨ ∃ d, d ≤ 9999 ∧ q 6 = nI d) ∧ (q 7 = 0 ∨ q 7 = 1) ∧ (q 8 = 0 ∨ q 8 = 1) ∧ q 9 &&& q 10 = 0 ∧ (q 9 ||| q 10) &&& ((q 4 ||| q 5) ^^^ (-1)) = 0 ∧ (q 6 = -1 → q 7 = 0 ∧ q 8 = 0 ∧ q 9 = 0 ∧ q 10 = 0 ∧ q 11 = 0) ∧ bt (q 4) 31 = false ∧ bt (q 5) 31 = false
def WL (P : Nat) (k : Nat → Int32) : Prop := (∃ p, p < P ∧ k 0 = nI p) ∧ (∃ p, p < P ∧ k 1 = nI p) ∧ (k 2 = 0 ∨ k 2 = 1) ∧ (∃ d, d ≤ 9999 ∧ k 3 = nI d) ∧ ∃ d, d ≤ 9999 ∧ k 4 = nI d
def WF (r : Nat → Int32) (P L N : Nat) : Prop := (P ≤ 12 ∧ L ≤ 24 ∧ N ≤ 10) ∧ (r 0 = nI P ∧ r 1 = nI L ∧ r 2 = nI N) ∧ (∃ S, 1 ≤ S ∧ S ≤ 100 ∧ r 3 = nI S) ∧ ((r 4 = 0 ∨ r 4 = 1 ∨ r 4 = 2) ∧ (r 5 = 0 ∨ r 5 = 1)) ∧ (∀ l, l < L → WL P (lq r l)) ∧ ∀ s, s < N → WQ P (sq r s)
def BDr (r : Nat → Int32) (L : Nat) (k : Nat) : Int32 := if q_jd (sq r (k / 2)) = true then itp (lq r) (sq r (k / 2) 6) L 12 ((1 : Int32) <<< (sq r (k / 2) (k % 2) &&& 31)) else 0
theorem kc_ne {M M' : fw_Mem} (h : KC M) (c : Nat) (hc : (kcl.all fun q => !(q.1 == c)) = true) (hf : ∀ b, b ≠ c → M' b = M b) : KC M' := by
  refine kc_cong h fun q hq => ?_
  have h1 := List.all_eq_true.mp hc q hq
  simp at h1
  rw [hf _ h1]
theorem kcn_141 : (kcl.all fun q => !(q.1 == 141)) = true := by decide +kernel
section LB
variable {M : fw_Mem} {L N : Nat}
theorem e_lb1 {m : fw_Mem} (h : KC m) (hL : m 137 1 = nI L) (hL2 : L ≤ 24) (hk : ∀ l, l < L → ∃ p, p < 12 ∧ lq (m 137) l 1 = nI p) {s sd : Nat} (hs : s ≤ 10) (hsd : sd < 2) (hj : q_jd (sq (m 137) s) = true → ∃ p, p < 12 ∧ sq (m 137) s sd = nI p) (n : Nat) : lf_X10_layBound_12 st_S 136 (nI s) (n + 1) (nI sd) m = lf_X10_layBound_12 st_S 136 (nI s) n (nI (sd + 1)) (fw_set m 141 (2 * s + sd) (BDr (m 137) L (2 * s + sd))) := by
  have e1 : (2 * s + sd) / 2 = s := by omega
  have e2 : (2 * s + sd) % 2 = sd := by omega
  simp only [lf_X10_layBound_12, if_neg (nI_ge (b := 2) hsd (by omega) : ¬ (2 : Int32) ≤ nI sd), gO_136, gd_tt, b1_s, b2_s, bm_s, kc_136_0 h, gN_137, tn_137, bI_0, bI_1, bI_gB, kc_136_7 h, gN_141, tn_141, e_isJudged h hs, l_2, nI_mul, nI_add, nI_1, gA_141 (show 2 * s + sd < 22 by omega), nI_cl (show 2 * s + sd < 2147483648 by omega), BDr, e1, e2]
  cases hq : q_jd (sq (m 137) s)
  · simp
  · obtain ⟨p, hp, hp2⟩ := hj hq
    simp only [if_neg (show ¬ true = false by decide), if_pos, e_boundBy h hL hL2 hk hs hsd hp hp2, b1_s, hp2]
    rfl
theorem e_layBound (h : KC M) (hN : M 137 2 = nI N) (hN2 : N ≤ 11) (hL : M 137 1 = nI L) (hL2 : L ≤ 24) (hk : ∀ l, l < L → ∃ p, p < 12 ∧ lq (M 137) l 1 = nI p) (hj : ∀ s, s < N → q_jd (sq (M 137) s) = true → (∃ p, p < 12 ∧ sq (M 137) s 0 = nI p) ∧ ∃ p, p < 12 ∧ sq (M 137) s 1 = nI p) : ∃ M', f_X10_layBound st_S M 136 = some M' ∧ (∀ b, b ≠ 141 → M' b = M b) ∧ ∀ k, k < 2 * N → M' 141 k = BDr (M 137) L k := by
  obtain ⟨r, h1, h2⟩ := lp_up (fun n (m : fw_Mem) i => lf_X10_layBound_2 st_S 136 n (nI i) m) N (fun i m => (∀ b, b ≠ 141 → m b = M b) ∧ ∀ k, k < 2 * i → m 141 k = BDr (M 137) L k) (fun m => (∀ b, b ≠ 141 → m b = M b) ∧ ∀ k, k < 2 * N → m 141 k = BDr (M 137) L k)
    (by
      rintro n i m hi ⟨i1, i2⟩
      have hm := kc_ne h 141 kcn_141 i1
      have e : m 137 = M 137 := i1 137 (by decide)
      refine ⟨fw_set (fw_set m 141 (2 * i + 0) (BDr (M 137) L (2 * i + 0))) 141 (2 * i + 1) (BDr (M 137) L (2 * i + 1)), ⟨fun b hb => ?_, fun k hk => ?_⟩, ?_⟩
      · rw [set_nr _ _ _ hb, set_nr _ _ _ hb, i1 b hb]
      · by_cases e1 : k = 2 * i + 1
        · subst e1; rw [set_eq]
        · rw [set_nk _ _ _ _ e1]
          by_cases e2 : k = 2 * i + 0
          · subst e2; rw [set_eq]
          · rw [set_nk _ _ _ _ e2]; exact i2 k (by omega)
      · have hn : ¬ nI N ≤ nI i := nI_ge hi (by omega)
        have hm2 : KC (fw_set m 141 (2 * i + 0) (BDr (M 137) L (2 * i + 0))) := kc_ne h 141 kcn_141 fun b hb => by rw [set_nr _ _ _ hb, i1 b hb]
        have e' : fw_set m 141 (2 * i + 0) (BDr (M 137) L (2 * i + 0)) 137 = M 137 := by rw [set_nr _ _ _ (by decide), e]
        have s1 := e_lb1 (s := i) (sd := 0) hm (by rw [e]; exact hL) hL2 (by rw [e]; exact hk) (by omega) (by omega) (by rw [e]; exact fun q => (hj i hi q).1) 19999
        have s2 := e_lb1 (s := i) (sd := 1) hm2 (by rw [e']; exact hL) hL2 (by rw [e']; exact hk) (by omega) (by omega) (by rw [e']; exact fun q => (hj i hi q).2) 19998
        rw [e] at s1
        rw [e'] at s2
        have s3 : lf_X10_layBound_12 st_S 136 (nI i) 20000 0 m = some (fw_set (fw_set m 141 (2 * i + 0) (BDr (M 137) L (2 * i + 0))) 141 (2 * i + 1) (BDr (M 137) L (2 * i + 1))) := by
          refine s1.trans (s2.trans ?_)
          show lf_X10_layBound_12 st_S 136 (nI i) (19997 + 1) (nI 2) _ = _
          rw [lf_X10_layBound_12, if_pos (by decide)]
        have h := hm
        have e2 : m 137 2 = nI N := by rw [e]; exact hN
        simp only [lf_X10_layBound_2, gO_136, gd_tt, b1_s, b2_s, bm_s, kc_136_0 h, gN_137, tn_137, bI_0, bI_1, bI_gB, e_suits h, e2, if_neg hn, s3, nI_1])
    (by
      rintro n m ⟨i1, i2⟩
      have hm := kc_ne h 141 kcn_141 i1
      have e2 : m 137 2 = nI N := by rw [i1 137 (by decide)]; exact hN
      have h := hm
      exact ⟨m, by simp only [lf_X10_layBound_2, gO_136, gd_tt, b1_s, b2_s, bm_s, kc_136_0 h, gN_137, tn_137, bI_0, bI_1, bI_gB, e_suits h, e2, if_pos (nI_le (Nat.le_refl N) (show N < 2 ^ 31 by omega))], i1, i2⟩) _ 0 20000 M rfl (by omega) (by omega) ⟨fun _ _ => rfl, fun k hk => absurd hk (by omega)⟩
  refine ⟨r, ?_, h2⟩
  have h1' : lf_X10_layBound_2 st_S 136 20000 0 M = some r := h1
  rw [f_X10_layBound, h1', b1_s]
end LB
/-! the class's picture of a row's suits, with what follows from them -/
def CR (M : fw_Mem) (r : Nat → Int32) (L N : Nat) : Prop := (M 3 6 = nI N ∧ M 7 0 = r 3 ∧ M 7 1 = r 4 ∧ M 7 2 = r 5) ∧ ∀ i, i < N → cq M (32 + i) = sq r i ∧ (M (32 + i) 13 = BDr r L (2 * i) ∧ M (32 + i) 14 = BDr r L (2 * i + 1)) ∧ (M (32 + i) 15 = q_st (r 5) (sq r i) &&& sq r i 9 ∧ M (32 + i) 16 = q_st (r 5) (sq r i) &&& sq r i 10)
/-- the same, but of what is settled only where the judgment isn't reversed -/
def CW (M : fw_Mem) (r : Nat → Int32) (L N : Nat) : Prop := (M 3 6 = nI N ∧ M 7 0 = r 3 ∧ M 7 1 = r 4 ∧ M 7 2 = r 5) ∧ ∀ i, i < N → cq M (32 + i) = sq r i ∧ (M (32 + i) 13 = BDr r L (2 * i) ∧ M (32 + i) 14 = BDr r L (2 * i + 1)) ∧ (q_rv (sq r i) = false → M (32 + i) 15 = q_st (r 5) (sq r i) &&& sq r i 9 ∧ M (32 + i) 16 = q_st (r 5) (sq r i) &&& sq r i 10)
theorem CR.cw {M : fw_Mem} {r : Nat → Int32} {L N : Nat} (c : CR M r L N) : CW M r L N := ⟨c.1, fun i hi => ⟨(c.2 i hi).1, (c.2 i hi).2.1, fun _ => (c.2 i hi).2.2⟩⟩
/-- nothing but the bench's own notes has changed -/
def BF (M M' : fw_Mem) : Prop := (∀ b, b < 121 ∨ 126 < b → M' b = M b) ∧ ∀ j, j < 6 → M' 121 j = M 121 j
theorem BF.rfl' (M : fw_Mem) : BF M M := ⟨fun _ _ => rfl, fun _ _ => rfl⟩
theorem BF.trans' {M M' M'' : fw_Mem} (h : BF M M') (h2 : BF M' M'') : BF M M'' := ⟨fun b hb => (h2.1 b hb).trans (h.1 b hb), fun j hj => (h2.2 j hj).trans (h.2 j hj)⟩
theorem BF.kc {M M' : fw_Mem} (f : BF M M') (h : KC M) : KC M' := kc_bf h f.1 f.2
theorem CR.bf {M M' : fw_Mem} {r : Nat → Int32} {L N : Nat} (f : BF M M') (hN : N ≤ 10) (c : CR M r L N) : CR M' r L N := by
  refine ⟨?_, fun i hi => ?_⟩
  · rw [f.1 3 (by omega), f.1 7 (by omega)]; exact c.1
  · have e := f.1 (32 + i) (by omega)
    rw [cq_fr e, e]; exact c.2 i hi
section RP
variable {M : fw_Mem} {r : Nat → Int32} {P L N a : Nat}
theorem WF.n (w : WF r P L N) : N ≤ 10 := w.1.2.2
theorem WF.q (w : WF r P L N) {s : Nat} (hs : s < N) : WQ P (sq r s) := w.2.2.2.2.2 s hs
theorem CW.ru (w : WF r P L N) (c : CW M r L N) : RU M := by
  obtain ⟨S, h1, h2, h3⟩ := w.2.2.1
  exact ⟨S, h1, h2, c.1.2.1.trans h3⟩
theorem CW.bo (w : WF r P L N) (c : CW M r L N) : BO M N := fun i hi => by
  have h := w.q hi
  rw [← (c.2 i hi).1] at h
  exact ⟨h.2.2.2.2.2.1, h.2.2.2.2.2.2.1⟩
theorem cw_bars (h : KC M) (w : WF r P L N) (c : CW M r L N) (ha : gO st_S 6 a = true) : f_X2_barringSuits st_S M 121 a = some (z_bars (r 3) (r 4) (M a 0) (cq M a) (sq r) (BDr r L) N) := by
  rw [e_c_bars h (c.ru w) c.1.1 w.n (c.bo w) ha, c.1.2.1, c.1.2.2.1]
  refine congrArg some (mk_cong fun i hi => ?_)
  simp only [cB_0, cB_1, (c.2 i hi).1, (c.2 i hi).2.1.1, (c.2 i hi).2.1.2]
theorem z_ho_none {h : Nat → Bool} {d : Nat → Int32} : ∀ {n}, (∀ i, i < n → h i = false) → z_ho h d n = none
  | 0, _ => rfl
  | n + 1, e => by rw [z_ho, e n (by omega), z_ho_none (n := n) fun i hi => e i (by omega)]; rfl
theorem z_ho_h {h : Nat → Bool} {d : Nat → Int32} : ∀ {n c}, z_ho h d n = some c → h c = true
  | 0, _, e => by cases e
  | n + 1, c, e => by
    rw [z_ho] at e
    split at e
    · rename_i hn
      split at e
      · cases e; exact hn
      · rename_i b hb
        split at e
        · cases e; exact z_ho_h hb
        · cases e; exact hn
    · exact z_ho_h e
theorem q_st_sub {e : Int32} {q : Nat → Int32} {i : Nat} (hi : i < 32) (h : bt (q_st e q) i = true) : (bt (q 9) i || bt (q 10) i) = true := by
  unfold q_st at h
  split at h
  rotate_left
  · rw [b_0] at h; cases h
  rw [b_and] at h
  simp only [Bool.and_eq_true] at h
  have h := h.1
  unfold q_nc at h
  have hg : bt (q_gr q) i = true → (bt (q 9) i || bt (q 10) i) = true := by
    unfold q_gr
    rw [b_or, b_and, b_and]
    cases bt (q 4) i <;> cases bt (q 5) i <;> cases bt (q 9) i <;> cases bt (q 10) i <;> simp
  split at h
  · rw [b_0] at h; cases h
  · split at h
    · rename_i h0
      have h1 : q 4 &&& (q 9 ^^^ (-1)) = 0 := by
        unfold q_wn at h0
        split at h0
        · split at h0
          · assumption
          · exact absurd h0 (by decide)
        · exact absurd h0 (by decide)
      have h2 := congrArg (fun x => bt x i) h1
      simp only [b_and, b_not _ hi, b_0] at h2
      rw [b_or, b_and] at h
      cases e1 : bt (q 4) i <;> cases e2 : bt (q 5) i <;> cases e3 : bt (q 9) i <;> cases e4 : bt (q 10) i <;> simp [e1, e2, e3, e4] at h h2 ⊢
    · split at h
      · exact hg h
      · split at h
        · exact hg h
        · rw [b_0] at h; cases h
/-- of a suit in question -/
def QQ (q : Nat → Int32) : Prop := (∃ p, p < 12 ∧ q 0 = nI p) ∧ (∃ p, p < 12 ∧ q 1 = nI p) ∧ q 4 &&& q 5 = 0
theorem WQ.qq {q : Nat → Int32} (hP : P ≤ 12) (w : WQ P q) : QQ q := by
  obtain ⟨⟨p, h1, h2⟩, ⟨p', h3, h4⟩, -, h5, -⟩ := w
  exact ⟨⟨p, by omega, h2⟩, ⟨p', by omega, h4⟩, h5⟩
abbrev z_h (r : Nat → Int32) (L N : Nat) (num : Int32) (q : Nat → Int32) : Nat → Option Nat := z_hof (r 5) (r 4) num q (sq r) (BDr r L) N
abbrev z_y (r : Nat → Int32) : Nat → Int32 := fun c => sq r c 9
theorem cw_hb (w : WF r P L N) (c : CW M r L N) (hq : QQ (cq M a)) {i t : Nat} (hi : i < N) (ht : t < 32) : bt (hbv M a i) t = (bt (q_is (cq M a)) t && z_hold (r 5) (r 4) (M a 0) (cq M a) (nI i) (sq r i) (BDr r L (2 * i)) (BDr r L (2 * i + 1)) (nI t)) := by
  unfold hbv
  have hc := c.2 i hi
  rw [c.1.2.2.1, hc.1, hc.2.1.1, hc.2.1.2]
  cases hrv : q_rv (sq r i)
  · rw [(hc.2.2 hrv).1, (hc.2.2 hrv).2]
    exact z_hb_bt ht hq.2.2 (q_st_sub ht) (w.q hi).2.2.2.2.2.2.2.1
  · have hz : z_comes (M a 0) (cq M a) (nI i) (sq r i) = false := by simp [z_comes, hrv]
    rw [z_hb, z_hold, hz]
    simp [b_0]
theorem cw_ho (w : WF r P L N) (c : CW M r L N) (hq : QQ (cq M a)) {t : Nat} (ht : t < 32) : hoC M a N t = if bt (q_is (cq M a)) t = true then z_h r L N (M a 0) (cq M a) t else none := by
  unfold hoC
  cases hb : bt (q_is (cq M a)) t
  · rw [z_ho_none fun i hi => by rw [cw_hb w c hq hi ht, hb]; rfl]
    rfl
  · rw [if_pos rfl]
    refine z_ho_cong (fun i hi => ?_) (fun i hi => ?_)
    · rw [cw_hb w c hq hi ht, hb]; rfl
    · have := congrFun (c.2 i hi).1 6
      exact this
theorem cw_weigh (h : KC M) (w : WF r P L N) (c : CW M r L N) (ha : gO st_S 6 a = true) (ha1 : a ≠ 121) (ha2 : a ≠ 122) (hq : QQ (cq M a)) : ∃ M', f_X2_weigh st_S M 121 a = some M' ∧ BF M M' ∧ (∀ t, t < 31 → M' 122 t = oI (if bt (q_is (cq M a)) t = true then z_h r L N (M a 0) (cq M a) t else none)) ∧ M' 121 6 = z_yes (cq M a) (z_h r L N (M a 0) (cq M a)) (z_y r) ∧ M' 121 7 = z_held (cq M a) (z_h r L N (M a 0) (cq M a)) &&& (z_yes (cq M a) (z_h r L N (M a 0) (cq M a)) (z_y r) ^^^ (-1)) := by
  obtain ⟨⟨p, hp, ep⟩, ⟨p', hp', ep'⟩, -⟩ := id hq
  obtain ⟨M', h1, w1, w2, w3, w4, w5⟩ := e_weigh h c.1.1 w.n (c.bo w) ha ha1 ha2 (show p < 32 by omega) (show p' < 32 by omega) ep ep'
  refine ⟨M', h1, ⟨fun b hb => w1 b (by omega) (by omega), fun j hj => w2 j (by omega) (by omega)⟩, fun t ht => ?_, b_ext fun t ht => ?_, b_ext fun t ht => ?_⟩
  · rw [w3 t ht, cw_ho w c hq (by omega)]
  · rw [w4 t ht, cw_ho w c hq ht, z_yes, bt_mk _ 31 (by omega)]
    by_cases h31 : t < 31
    · simp only [h31, decide_true, Bool.true_and, z_yesP, hs_bt ht]
      cases bt (q_is (cq M a)) t
      · rfl
      · simp only [if_pos, Bool.true_and]
        cases ho : z_h r L N (M a 0) (cq M a) t with
        | none => rfl
        | some d =>
          have hd : d < N := z_ho_lt ho
          simp only [ybC]
          rw [show M (32 + d) 10 = sq r d 9 from congrFun (c.2 d hd).1 9]
    · simp [h31]
  · rw [w5 t ht, cw_ho w c hq ht, b_and, b_not _ ht, z_yes, z_held, bt_mk _ 31 (by omega), bt_mk _ 31 (by omega)]
    by_cases h31 : t < 31
    · simp only [h31, decide_true, Bool.true_and, z_yesP, z_heldP, hs_bt ht]
      cases bt (q_is (cq M a)) t
      · rfl
      · simp only [if_pos, Bool.true_and]
        cases ho : z_h r L N (M a 0) (cq M a) t with
        | none => rfl
        | some d =>
          have hd : d < N := z_ho_lt ho
          have hh := z_ho_h ho
          simp only [z_hold, Bool.and_eq_true] at hh
          have hs1 := hh.2.1
          rw [hv_bt ht] at hs1
          have h2 := q_st_sub ht hs1
          have h3 := congrArg (fun x => bt x t) (w.q hd).2.2.2.2.2.2.2.1
          simp only [b_and, b_0] at h3
          simp only [ybC, Option.isSome, Bool.true_and]
          rw [show M (32 + d) 11 = sq r d 10 from congrFun (c.2 d hd).1 10]
          cases e9 : bt (sq r d 9) t <;> cases e10 : bt (sq r d 10) t <;> simp [e9, e10] at h2 h3 ⊢
    · simp [h31]
theorem z_yes_sub {q : Nat → Int32} {ho : Nat → Option Nat} {y : Nat → Int32} {t : Nat} (h : bt (z_yes q ho y) t = true) : bt (z_held q ho) t = true := by
  rw [z_yes, bt_mk _ 31 (by omega)] at h
  rw [z_held, bt_mk _ 31 (by omega)]
  simp only [Bool.and_eq_true, z_yesP, z_heldP] at h ⊢
  refine ⟨h.1, h.2.1, ?_⟩
  have := h.2.2
  cases e : ho t
  · rw [e] at this; cases this
  · rfl
theorem z_held_sub {q : Nat → Int32} {ho : Nat → Option Nat} {t : Nat} (h : bt (z_held q ho) t = true) : bt (q_is q) t = true := by
  rw [z_held, bt_mk _ 31 (by omega)] at h
  simp only [Bool.and_eq_true, z_heldP, decide_eq_true_eq] at h
  have := h.2.1
  rwa [hs_bt (by omega)] at this
theorem cw_held (h : KC M) (w : WF r P L N) (c : CW M r L N) (ha : gO st_S 6 a = true) (ha1 : a ≠ 121) (ha2 : a ≠ 122) (hq : QQ (cq M a)) : ∃ M', f_X2_heldIssues st_S M 121 a = some (z_held (cq M a) (z_h r L N (M a 0) (cq M a)), M') ∧ BF M M' := by
  obtain ⟨M', h1, h2, -, h4, h5⟩ := cw_weigh h w c ha ha1 ha2 hq
  refine ⟨M', ?_, h2⟩
  simp only [f_X2_heldIssues, gO_121, gd_tt, h1, b1_s, h4, h5]
  refine congrArg (fun x => some (x, M')) (b_ext fun t ht => ?_)
  rw [b_or, b_and, b_not _ ht]
  have := @z_yes_sub (cq M a) (z_h r L N (M a 0) (cq M a)) (z_y r) t
  cases e1 : bt (z_yes (cq M a) (z_h r L N (M a 0) (cq M a)) (z_y r)) t <;> cases e2 : bt (z_held (cq M a) (z_h r L N (M a 0) (cq M a))) t <;> simp [e1, e2] at this ⊢
theorem z_fc_eq {q : Nat → Int32} {bars H Y : Int32} (hd : q 4 &&& q 5 = 0) (hs : ∀ t, bt Y t = true → bt H t = true) (hi : ∀ t, bt H t = true → bt (q_is q) t = true) : z_fc q bars H Y = if bars = 0 then (if ((q 4 &&& (H &&& (Y ^^^ (-1)))) ||| (q 5 &&& Y)) = 0 then (if ((q 4 &&& (Y ^^^ (-1))) ||| (q 5 &&& ((H &&& (Y ^^^ (-1))) ^^^ (-1)))) = 0 then 0 else -1) else 1) else 2 := by
  unfold z_fc
  by_cases hb : bars = 0
  rotate_left
  · rw [if_neg hb, if_neg hb]
  rw [if_pos hb, if_pos hb]
  have o0 : ∀ x y : Int32, (x ||| y = 0) ↔ x = 0 ∧ y = 0 := fun x y => by
    constructor
    · intro e
      constructor
      · exact b_ext fun i hi => by have := congrArg (fun z => bt z i) e; simp only [b_or, b_0] at this; rw [b_0]; cases e1 : bt x i <;> simp [e1] at this ⊢
      · exact b_ext fun i hi => by have := congrArg (fun z => bt z i) e; simp only [b_or, b_0] at this; rw [b_0]; cases e1 : bt y i <;> simp [e1] at this ⊢
    · rintro ⟨rfl, rfl⟩; rfl
  by_cases c1 : q 4 &&& (H &&& (Y ^^^ (-1))) = 0
  rotate_left
  · rw [if_neg c1, if_neg (fun e => c1 ((o0 _ _).mp e).1)]
  by_cases c2 : q 5 &&& Y = 0
  rotate_left
  · rw [if_pos c1, if_neg c2, if_neg (fun e => c2 ((o0 _ _).mp e).2)]
  rw [if_pos c1, if_pos c2, if_pos ((o0 _ _).mpr ⟨c1, c2⟩)]
  have key : H = q_is q ↔ ((q 4 &&& (Y ^^^ (-1))) ||| (q 5 &&& ((H &&& (Y ^^^ (-1))) ^^^ (-1)))) = 0 := by
    have kb : ∀ i, i < 32 → (bt H i = bt (q_is q) i ↔ bt ((q 4 &&& (Y ^^^ (-1))) ||| (q 5 &&& ((H &&& (Y ^^^ (-1))) ^^^ (-1)))) i = false) := fun i hi' => by
      have g1 := congrArg (fun z => bt z i) hd
      have g2 := congrArg (fun z => bt z i) c1
      have g3 := congrArg (fun z => bt z i) c2
      have g4 := hs i
      have g5 := hi i
      simp only [b_and, b_or, b_not _ hi', b_0, q_is] at g1 g2 g3 g4 g5 ⊢
      cases e1 : bt (q 4) i <;> cases e2 : bt (q 5) i <;> cases e3 : bt H i <;> cases e4 : bt Y i <;> simp [e1, e2, e3, e4] at g1 g2 g3 g4 g5 ⊢
    constructor
    · intro e
      exact bt_0iff.mpr fun i hi' => (kb i hi').mp (by rw [e])
    · intro e
      exact b_ext fun i hi' => (kb i hi').mpr (bt_0iff.mp e i hi')
  by_cases c3 : H = q_is q
  · rw [if_pos c3, if_pos (key.mp c3)]
  · rw [if_neg c3, if_neg (fun e => c3 (key.mpr e))]
theorem ifp {α β : Type} (c : Prop) [Decidable c] (x y : α) (m : β) : some (if c then x else y, m) = if c then some (x, m) else some (y, m) := by split <;> rfl
theorem cw_forced (h : KC M) (w : WF r P L N) (c : CW M r L N) (ha : gO st_S 6 a = true) (ha1 : a < 121 ∨ 126 < a) (hq : QQ (cq M a)) : ∃ M', f_X2_forcedWay st_S M 121 a = some (z_fc (cq M a) (z_bars (r 3) (r 4) (M a 0) (cq M a) (sq r) (BDr r L) N) (z_held (cq M a) (z_h r L N (M a 0) (cq M a))) (z_yes (cq M a) (z_h r L N (M a 0) (cq M a)) (z_y r)), M') ∧ BF M M' := by
  obtain ⟨M', h1, h2, -, h4, h5⟩ := cw_weigh h w c ha (by omega) (by omega) hq
  have ea : M' a = M a := h2.1 a ha1
  rw [z_fc_eq hq.2.2 (fun t => z_yes_sub) (fun t => z_held_sub)]
  simp only [f_X2_forcedWay, gO_121, gd_tt, cw_bars h w c ha, b1_s, h1, h4, h5, ea, ha]
  rw [show M a 5 = cq M a 4 from rfl, show M a 6 = cq M a 5 from rfl]
  generalize z_bars (r 3) (r 4) (M a 0) (cq M a) (sq r) (BDr r L) N = B
  by_cases hb : B = 0
  · rw [if_pos hb, if_pos hb]
    exact ⟨M', by simp only [ifp], h2⟩
  · rw [if_neg hb, if_neg hb]
    exact ⟨M, rfl, BF.rfl' M⟩
theorem CR.ru (w : WF r P L N) (c : CR M r L N) : RU M := c.cw.ru w
theorem CR.bo (w : WF r P L N) (c : CR M r L N) : BO M N := c.cw.bo w
theorem c_hb (w : WF r P L N) (c : CR M r L N) (hq : QQ (cq M a)) {i t : Nat} (hi : i < N) (ht : t < 32) : bt (hbv M a i) t = (bt (q_is (cq M a)) t && z_hold (r 5) (r 4) (M a 0) (cq M a) (nI i) (sq r i) (BDr r L (2 * i)) (BDr r L (2 * i + 1)) (nI t)) := cw_hb w c.cw hq hi ht
theorem c_bars (h : KC M) (w : WF r P L N) (c : CR M r L N) (ha : gO st_S 6 a = true) : f_X2_barringSuits st_S M 121 a = some (z_bars (r 3) (r 4) (M a 0) (cq M a) (sq r) (BDr r L) N) := cw_bars h w c.cw ha
theorem c_weigh (h : KC M) (w : WF r P L N) (c : CR M r L N) (ha : gO st_S 6 a = true) (ha1 : a ≠ 121) (ha2 : a ≠ 122) (hq : QQ (cq M a)) : ∃ M', f_X2_weigh st_S M 121 a = some M' ∧ BF M M' ∧ (∀ t, t < 31 → M' 122 t = oI (if bt (q_is (cq M a)) t = true then z_h r L N (M a 0) (cq M a) t else none)) ∧ M' 121 6 = z_yes (cq M a) (z_h r L N (M a 0) (cq M a)) (z_y r) ∧ M' 121 7 = z_held (cq M a) (z_h r L N (M a 0) (cq M a)) &&& (z_yes (cq M a) (z_h r L N (M a 0) (cq M a)) (z_y r) ^^^ (-1)) := cw_weigh h w c.cw ha ha1 ha2 hq
theorem c_held (h : KC M) (w : WF r P L N) (c : CR M r L N) (ha : gO st_S 6 a = true) (ha1 : a ≠ 121) (ha2 : a ≠ 122) (hq : QQ (cq M a)) : ∃ M', f_X2_heldIssues st_S M 121 a = some (z_held (cq M a) (z_h r L N (M a 0) (cq M a)), M') ∧ BF M M' := cw_held h w c.cw ha ha1 ha2 hq
theorem c_forced (h : KC M) (w : WF r P L N) (c : CR M r L N) (ha : gO st_S 6 a = true) (ha1 : a < 121 ∨ 126 < a) (hq : QQ (cq M a)) : ∃ M', f_X2_forcedWay st_S M 121 a = some (z_fc (cq M a) (z_bars (r 3) (r 4) (M a 0) (cq M a) (sq r) (BDr r L) N) (z_held (cq M a) (z_h r L N (M a 0) (cq M a))) (z_yes (cq M a) (z_h r L N (M a 0) (cq M a)) (z_y r)), M') ∧ BF M M' := cw_forced h w c.cw ha ha1 hq
theorem CW.bf {M M' : fw_Mem} {r : Nat → Int32} {L N : Nat} (f : BF M M') (hN : N ≤ 10) (c : CW M r L N) : CW M' r L N := by
  refine ⟨?_, fun i hi => ?_⟩
  · rw [f.1 3 (by omega), f.1 7 (by omega)]; exact c.1
  · have e := f.1 (32 + i) (by omega)
    rw [cq_fr e, e]; exact c.2 i hi
end RP
