/-! ===== latest, against, stands on, two ===== -/
section Q5
variable {M : fw_Mem} {r : Nat → Int32} {P L N : Nat}
def z_la (r : Nat → Int32) (L : Nat) (p : Nat) : Nat → Option Nat := z_ho (fun i => (q_jd (sq r i) && !q_rv (sq r i)) && (hv (BDr r L (2 * i)) (nI p) || hv (BDr r L (2 * i + 1)) (nI p))) (fun i => sq r i 6)
theorem c_latest (h : KC M) (w : WF r P L N) (c : CR M r L N) {p : Nat} (hp : p < 12) : f_X2_latestBinding st_S M 121 (nI p) = some (oI (z_la r L p N)) := by
  have n10 := w.n
  obtain ⟨R, h1, h2⟩ := lp_up (fun n (x : Int32 × Int32) i => lf_X2_latestBinding_7 st_S M 121 (nI p) n x.1 x.2 (nI i)) N (fun i x => x = (oI (z_la r L p i), match z_la r L p i with
      | none => -1
      | some b => sq r b 6)) (fun x => x = oI (z_la r L p N))
    (by
      rintro n i x hiN rfl
      refine ⟨_, rfl, ?_⟩
      have hi : i < 10 := by omega
      have hn : ¬ nI N ≤ nI i := nI_ge hiN (by omega)
      have hg := gO_s3 i hi
      have hc := e_c_counts (M := M) hg (c.bo w i hiN).2
      have hq := (c.2 i hiN).1
      have h7 : M (32 + i) 7 = sq r i 6 := congrFun hq 6
      rw [hq] at hc
      have hz : z_la r L p (i + 1) = if ((q_jd (sq r i) && !q_rv (sq r i)) && (hv (BDr r L (2 * i)) (nI p) || hv (BDr r L (2 * i + 1)) (nI p))) = true then (match z_la r L p i with
        | none => some i
        | some b => if sq r i 6 < sq r b 6 then some b else some i) else z_la r L p i := rfl
      simp only [lf_X2_latestBinding_7, gO_121, gd_tt, b1_s, b2_s, bm_s, kc_121_0 h, gN_3, tn_3, gO_3, kc_3_2 h, gN_6, tn_6, gA_6 hi, nI_cl (show i < 2147483648 by omega), kc_s3 h hi, nI_gN (show 32 + i < 2147483648 by omega), nI_cl (show 32 + i < 2147483648 by omega), hg, c.1.1, if_neg hn, hc, bI_0, f_X6_boundAtAll, (c.2 i hiN).2.1.1, (c.2 i hiN).2.1.2, and1, hv_lo, hv_or (show p < 32 by omega), h7, nI_1]
      rcases bcas (q_jd (sq r i) && !q_rv (sq r i)) with hj | hj
      · rcases bcas (hv (BDr r L (2 * i)) (nI p) || hv (BDr r L (2 * i + 1)) (nI p)) with hb | hb
        · rw [hj, hb] at hz
          simp only [Bool.and_self, if_true] at hz
          simp only [hj, hb, Bool.true_eq_false, if_false, if_true]
          cases hl : z_la r L p i with
          | none =>
            rw [hl] at hz
            have hd : ¬ sq r i 6 < -1 := by
              rcases (w.q hiN).2.2.2.2.1 with e | ⟨d, hd, e⟩
              · rw [e]; decide
              · rw [e, fa_lt, nI_toInt (by omega)]
                have : (-1 : Int32).toInt = -1 := by decide
                omega
            simp only [hz, if_neg hd, oI]
          | some b =>
            rw [hl] at hz
            simp only [] at hz
            by_cases hd : sq r i 6 < sq r b 6
            · rw [if_pos hd] at hz
              simp only [hz, if_pos hd]
            · rw [if_neg hd] at hz
              simp only [hz, if_neg hd, oI]
        · rw [hj, hb] at hz
          simp only [Bool.and_false, Bool.false_eq_true, if_false] at hz
          simp only [hj, hb, Bool.true_eq_false, Bool.false_eq_true, if_false, hz]
      · rw [hj] at hz
        simp only [Bool.false_and, Bool.false_eq_true, if_false] at hz
        simp only [hj, if_true, hz])
    (by
      rintro n x rfl
      exact ⟨_, by simp only [lf_X2_latestBinding_7, gO_121, gd_tt, kc_121_0 h, gN_3, tn_3, gO_3, c.1.1, if_pos (nI_le (Nat.le_refl N) (show N < 2 ^ 31 by omega))], rfl⟩) _ 0 20000 (-1, -1) rfl (by omega) (by omega) rfl
  have h1' : lf_X2_latestBinding_7 st_S M 121 (nI p) 20000 (-1) (-1) 0 = some R := h1
  rw [f_X2_latestBinding, h1', b1_s, h2]
theorem mb_latest {B : fw_Mem} (h : KC B) (e : B 137 = r) (w : WF r P L N) (hB : ∀ k, k < 2 * N → B 141 k = BDr r L k) (p : Nat) : lf_X10_latest_27 st_S B 136 (nI p) 20000 (-1) 0 = some (oI (z_la r L p N)) := by
  have n10 := w.n
  obtain ⟨R, h1, h2⟩ := lp_up (fun n x i => lf_X10_latest_27 st_S B 136 (nI p) n x (nI i)) N (fun i x => x = oI (z_la r L p i)) (fun x => x = oI (z_la r L p N))
    (by
      rintro n i x hiN rfl
      refine ⟨_, rfl, ?_⟩
      have hn : ¬ nI N ≤ nI i := nI_ge hiN (by omega)
      have hz : z_la r L p (i + 1) = if ((q_jd (sq r i) && !q_rv (sq r i)) && (hv (BDr r L (2 * i)) (nI p) || hv (BDr r L (2 * i + 1)) (nI p))) = true then (match z_la r L p i with
        | none => some i
        | some b => if sq r i 6 < sq r b 6 then some b else some i) else z_la r L p i := rfl
      have a1 := e_isJudged h (s := i) (by omega)
      have a2 := e_isReversed h (s := i) (by omega)
      have a3 := e_ibAll h (a := i) (by omega) (nI p)
      rw [e] at a1 a2
      rw [hB (2 * i) (by omega), hB (2 * i + 1) (by omega)] at a3
      simp only [lf_X10_latest_27, gO_136, gd_tt, b1_s, b2_s, bm_s, kc_136_0 h, gN_137, tn_137, bI_0, bI_1, bI_gB, e_suits h, e, w.2.1.2.2, if_neg hn, a1, a2, a3, nI_1]
      cases hj : q_jd (sq r i)
      · rw [hj] at hz
        simp only [Bool.false_and, Bool.false_eq_true, if_false] at hz
        simp only [if_true, hz]
      · cases hv' : q_rv (sq r i)
        · cases hb : (hv (BDr r L (2 * i)) (nI p) || hv (BDr r L (2 * i + 1)) (nI p))
          · rw [hj, hv', hb] at hz
            simp only [Bool.and_false, Bool.false_eq_true, if_false] at hz
            simp only [Bool.true_eq_false, if_false, if_true, hz]
          · rw [hj, hv', hb] at hz
            simp only [Bool.not_false, Bool.and_self, if_true] at hz
            simp only [Bool.true_eq_false, if_false, if_true]
            cases hl : z_la r L p i with
            | none =>
              rw [hl] at hz
              simp only [oI, if_true, hz]
            | some b =>
              have hb' : b < i := z_ho_lt hl
              rw [hl] at hz
              simp only [] at hz
              have a6 := e_of6 h (s := i) (by omega)
              have a7 := e_of6 h (s := b) (by omega)
              rw [e] at a6 a7
              simp only [oI, nI_m1 (show b < 2147483648 by omega), if_false, a6, a7, b1_s]
              by_cases hd : sq r i 6 < sq r b 6
              · rw [if_pos hd] at hz
                simp only [hz, if_pos hd]
              · rw [if_neg hd] at hz
                simp only [hz, if_neg hd]
        · rw [hj, hv'] at hz
          simp only [Bool.not_true, Bool.and_false, Bool.false_and, Bool.false_eq_true, if_false] at hz
          simp only [Bool.true_eq_false, if_false, hz])
    (by
      rintro n x rfl
      exact ⟨_, by simp only [lf_X10_latest_27, gO_136, gd_tt, b1_s, b2_s, bm_s, kc_136_0 h, gN_137, tn_137, bI_0, bI_1, bI_gB, e_suits h, e, w.2.1.2.2, if_pos (nI_le (Nat.le_refl N) (show N < 2 ^ 31 by omega))], rfl⟩) _ 0 20000 (-1) rfl (by omega) (by omega) rfl
  have h1' : lf_X10_latest_27 st_S B 136 (nI p) 20000 (-1) 0 = some R := h1
  rw [h1', h2]
theorem q_latest (I : INV M) (x : Int32) : QOK (f_L_latest st_S M 0 x 148) (fun M1 => f_X10_latest st_S M1 136 x) := by
  obtain ⟨P, L, N, A, T, U, hh, h, w, pp, r3, c, -⟩ := id I
  have p12 := w.1.1
  by_cases hx : ∃ p, p < P ∧ x = nI p
  · obtain ⟨p, hp, rfl⟩ := hx
    have hc := c_latest h w c (show p < 12 by omega)
    refine qok0 I (M1 := fw_set M 148 0 (oI (z_la (M 137) L p N))) ?_ ((AG.rf M).st 148 0 _ rfl) (set_eq _ _ _ _) (fun k1 e => ?_)
    · simp only [f_L_latest, f_X9_latest, gO_0, gd_tt, kc_0_5 h, gN_121, tn_121, gO_121, b1_s, b2_s, bxl, bxr, bn_s, gA_148_0, bm_s, if_true, if_false, i10, i00, c_person h r3.1.1 p12 hp, hc]
    · obtain ⟨C, h1, h2, h3, h4, h5, h6, h7⟩ := m_lay0 k1 e w
      exact ⟨C, by simp only [f_X10_latest, gO_136, gd_tt, bm_s, mp_ok h6 h7 w hp, b1_s, i10, if_false, h1, mb_latest h4 h3 w h5 p], h2⟩
  · exact qok1 I (M1 := M) (k := 1) (by decide) (by simp only [f_L_latest, f_X9_latest, gO_0, gd_tt, kc_0_5 h, gN_121, tn_121, gO_121, b1_s, b2_s, bxl, bxr, bn_s, gA_148_0, bm_s, if_true, if_false, i10, i00, c_personNo h r3.1.1 p12 hx]) (AG.rf M) (fun k1 e => ⟨0, _, by simp only [f_X10_latest, gO_136, gd_tt, bm_s, mp_no (kc_136 k1 0) ((s137 _ _).trans e) w hx, b1_s, i00, if_true, m_fail, b2_s], mc_ff M 0 1⟩)
def z_agf (r : Nat → Int32) (L t : Nat) : Nat → Int32
  | 0 => 0
  | n + 1 => if bt (q_st (r 5) (sq r n)) t = true then z_agf r L t n ||| (BDr r L (2 * n) ||| BDr r L (2 * n + 1)) else z_agf r L t n
theorem c_against (h : KC M) (w : WF r P L N) (c : CR M r L N) {t : Nat} (ht : t < 31) : f_X2_boundOverIssue st_S M 121 (nI t) = some (z_agf r L t N) := by
  have n10 := w.n
  obtain ⟨R, h1, h2⟩ := lp_up (fun n x i => lf_X2_boundOverIssue_4 st_S M 121 (nI t) n x (nI i)) N (fun i x => x = z_agf r L t i) (fun x => x = z_agf r L t N)
    (by
      rintro n i x hiN rfl
      refine ⟨_, rfl, ?_⟩
      have hi : i < 10 := by omega
      have hn : ¬ nI N ≤ nI i := nI_ge hiN (by omega)
      have hg := gO_s3 i hi
      simp only [lf_X2_boundOverIssue_4, gO_121, gd_tt, b1_s, b2_s, bm_s, kc_121_0 h, gN_3, tn_3, gO_3, kc_3_2 h, gN_6, tn_6, gA_6 hi, nI_cl (show i < 2147483648 by omega), kc_s3 h hi, nI_gN (show 32 + i < 2147483648 by omega), nI_cl (show 32 + i < 2147483648 by omega), hg, c.1.1, if_neg hn, f_X6_boundAtAll, (c.2 i hiN).2.1.1, (c.2 i hiN).2.1.2, (c.2 i hiN).2.2.1, (c.2 i hiN).2.2.2, sy_sn, and1, hv_lo, hv_bt (show t < 32 by omega), nI_1, z_agf]
      cases bt (q_st (r 5) (sq r i)) t <;> simp)
    (by
      rintro n x rfl
      exact ⟨_, by simp only [lf_X2_boundOverIssue_4, gO_121, gd_tt, kc_121_0 h, gN_3, tn_3, gO_3, c.1.1, if_pos (nI_le (Nat.le_refl N) (show N < 2 ^ 31 by omega))], rfl⟩) _ 0 20000 0 rfl (by omega) (by omega) rfl
  have h1' : lf_X2_boundOverIssue_4 st_S M 121 (nI t) 20000 0 0 = some R := h1
  rw [f_X2_boundOverIssue, h1', b1_s, h2]
theorem mb_against {B : fw_Mem} (h : KC B) (e : B 137 = r) (w : WF r P L N) (hB : ∀ k, k < 2 * N → B 141 k = BDr r L k) {t : Nat} (ht : t < 31) : lf_X10_against_29 st_S B 136 (nI t) 20000 0 0 = some (z_agf r L t N) := by
  have n10 := w.n
  obtain ⟨R, h1, h2⟩ := lp_up (fun n x i => lf_X10_against_29 st_S B 136 (nI t) n x (nI i)) N (fun i x => x = z_agf r L t i) (fun x => x = z_agf r L t N)
    (by
      rintro n i x hiN rfl
      refine ⟨_, rfl, ?_⟩
      have hn : ¬ nI N ≤ nI i := nI_ge hiN (by omega)
      have a1 := e_settledOf h (s := i) (by omega)
      rw [e] at a1
      simp only [lf_X10_against_29, gO_136, gd_tt, b1_s, b2_s, bm_s, kc_136_0 h, gN_137, tn_137, bI_0, bI_1, bI_gB, e_suits h, e, w.2.1.2.2, if_neg hn, a1, e_has, hv_bt (show t < 32 by omega), kc_136_7 h, gN_141, tn_141, l_2, nI_mul, nI_1, gA_141 (show 2 * i < 22 by omega), gA_141 (show 2 * i + 1 < 22 by omega), nI_cl (show 2 * i < 2147483648 by omega), nI_cl (show 2 * i + 1 < 2147483648 by omega), hB (2 * i) (by omega), hB (2 * i + 1) (by omega), z_agf]
      cases bt (q_st (r 5) (sq r i)) t <;> simp)
    (by
      rintro n x rfl
      exact ⟨_, by simp only [lf_X10_against_29, gO_136, gd_tt, b1_s, b2_s, bm_s, kc_136_0 h, gN_137, tn_137, bI_0, bI_1, bI_gB, e_suits h, e, w.2.1.2.2, if_pos (nI_le (Nat.le_refl N) (show N < 2 ^ 31 by omega))], rfl⟩) _ 0 20000 0 rfl (by omega) (by omega) rfl
  have h1' : lf_X10_against_29 st_S B 136 (nI t) 20000 0 0 = some R := h1
  rw [h1', h2]
theorem q_against (I : INV M) (x : Int32) : QOK (f_L_against st_S M 0 x 148) (fun M1 => f_X10_against st_S M1 136 x) := by
  obtain ⟨P, L, N, A, T, U, hh, h, w, pp, r3, c, -⟩ := id I
  by_cases hx : ∃ p, p < 31 ∧ x = nI p
  · obtain ⟨t, ht, rfl⟩ := hx
    have hc := c_against h w c ht
    have hl : nI t < (31 : Int32) := nI_lt (b := 31) ht (by omega)
    refine qok0 I (M1 := fw_set M 148 0 (z_agf (M 137) L t N)) ?_ ((AG.rf M).st 148 0 _ rfl) (set_eq _ _ _ _) (fun k1 e => ?_)
    · simp only [f_L_against, f_X9_against, gO_0, gd_tt, kc_0_5 h, gN_121, tn_121, gO_121, b1_s, b2_s, bxl, bxr, bn_s, gA_148_0, bm_s, if_true, if_false, i10, i00, if_neg (nI_pos (show t < 2 ^ 31 by omega)), if_pos hl, hc]
    · obtain ⟨C, h1, h2, h3, h4, h5, h6, h7⟩ := m_lay0 k1 e w
      exact ⟨C, by simp only [f_X10_against, gO_136, gd_tt, bm_s, e_isIn, show (30 : Int32) = nI 31 - 1 from rfl, decide_eq_true ((rg (by omega)).mpr ⟨t, ht, rfl⟩ : ¬ nI t < 0 ∧ ¬ nI 31 - 1 < nI t), bI_t, b1_s, i10, if_false, h1, mb_against h4 h3 w h5 ht], h2⟩
  · have hx2 := (not_congr (rgc (x := x) (N := 31) (by omega))).mpr hx
    have hx3 := (not_congr (rg (x := x) (N := 31) (by omega))).mpr hx
    refine qok1 I (M1 := M) (k := 1) (by decide) ?_ (AG.rf M) (fun k1 e => ⟨0, _, by simp only [f_X10_against, gO_136, gd_tt, bm_s, e_isIn, show (30 : Int32) = nI 31 - 1 from rfl, decide_eq_false hx3, bI_f, b1_s, i00, if_true, m_fail, b2_s], mc_ff M 0 1⟩)
    by_cases hn : x < 0
    · simp only [f_L_against, f_X9_against, gO_0, gd_tt, kc_0_5 h, gN_121, tn_121, gO_121, b1_s, b2_s, bxl, bxr, bn_s, gA_148_0, bm_s, if_true, if_false, i10, i00, if_pos hn]
    · simp only [f_L_against, f_X9_against, gO_0, gd_tt, kc_0_5 h, gN_121, tn_121, gO_121, b1_s, b2_s, bxl, bxr, bn_s, gA_148_0, bm_s, if_true, if_false, i10, i00, if_neg hn, if_neg (fun q => hx2 ⟨hn, q⟩ : ¬ x < (31 : Int32))]
/-! stands on -/
def stO (r : Nat → Int32) (L N s j : Nat) : Bool := q_jd (sq r s) && (!q_rv (sq r s) && exB (z_stP (sq r s) (z_h r L N (nI s) (sq r s)) (z_y r) j) 31)
theorem zh_self {s t : Nat} (hs : s < 100) : z_h r L N (nI s) (sq r s) t ≠ some s := fun e => by
  have := z_ho_h e
  simp [z_hold, z_comes] at this
theorem st_self {s : Nat} (hs : s < 100) : stO r L N s s = false := by
  have : exB (z_stP (sq r s) (z_h r L N (nI s) (sq r s)) (z_y r) s) 31 = false := by
    cases hq : exB (z_stP (sq r s) (z_h r L N (nI s) (sq r s)) (z_y r) s) 31
    · rfl
    · obtain ⟨t, -, h⟩ := exB_iff.mp hq
      simp only [z_stP, Bool.and_eq_true, decide_eq_true_eq] at h
      exact absurd h.2.1 (zh_self hs)
  simp [stO, this]
theorem mb_stands {B : fw_Mem} (h : KC B) (e : B 137 = r) (w : WF r P L N) (hB : ∀ k, k < 2 * N → B 141 k = BDr r L k) {s a : Nat} (hs : s < N) (ha : a < N) : f_X10_standsOn st_S B 136 (nI s) (nI a) = some (bI (stO r L N s a)) := by
  have n10 := w.n
  rw [e_standsOn h (N := N) (by rw [e]; exact w.2.1.2.2) (by omega) (by omega) (by omega), e, m_hof_eq hB]
  by_cases q : a = s
  · subst q
    rw [st_self (by omega)]
    simp
  · simp [q, stO]
theorem weigh_fr (h : KC M) (w : WF r P L N) (c : CW M r L N) {a : Nat} (ha : gO st_S 6 a = true) (ha1 : a ≠ 121) (ha2 : a ≠ 122) (hq : QQ (cq M a)) {M' : fw_Mem} (hw : f_X2_weigh st_S M 121 a = some M') : ∀ b, b ≠ 121 → b ≠ 122 → M' b = M b := by
  obtain ⟨⟨p, hp, ep⟩, ⟨p', hp', ep'⟩, -⟩ := id hq
  obtain ⟨M2, h1, w1, -⟩ := e_weigh h c.1.1 w.n (c.bo w) ha ha1 ha2 (show p < 32 by omega) (show p' < 32 by omega) ep ep'
  rw [hw] at h1
  cases h1
  exact w1
theorem c_rests (h : KC M) (w : WF r P L N) (c : CR M r L N) {s : Nat} (hs : s < N) : ∃ R M', f_X2_restsOn st_S M 121 (32 + s) = some (R, M') ∧ BF M M' ∧ (∀ j, j < 32 → bt R j = stO r L N s j) ∧ M' 123 = M 123 := by
  have n10 := w.n
  obtain ⟨hg, e0, eq⟩ := c.at' h w.n hs
  have hc := e_c_counts (M := M) hg (c.bo w s hs).2
  rw [eq] at hc
  have hqq : QQ (cq M (32 + s)) := by rw [eq]; exact (w.q hs).qq w.1.1
  cases hcv : (q_jd (sq r s) && !q_rv (sq r s))
  · refine ⟨0, M, ?_, BF.rfl' M, fun j hj => ?_, rfl⟩
    · simp only [f_X2_restsOn, hg, gd_tt, hc, hcv, bI_f, b1_s, i00, if_true]
    · rw [b_0, stO, ← Bool.and_assoc, hcv]; rfl
  obtain ⟨M', w1, w2, w3, w4, w5⟩ := c_weigh h w c hg (by omega) (by omega) hqq
  rw [eq, e0] at w4 w5
  simp only [eq, e0] at w3
  have hk' := w2.kc h
  have ea : M' (32 + s) = M (32 + s) := w2.1 _ (by omega)
  have h10 : M' (32 + s) 10 = sq r s 9 := by rw [ea]; exact congrFun eq 9
  have h11 : M' (32 + s) 11 = sq r s 10 := by rw [ea]; exact congrFun eq 10
  generalize hal : ((M' (32 + s) 10 &&& M' 121 6) ||| (M' (32 + s) 11 &&& M' 121 7)) = al
  have hbit : ∀ t, t < 31 → bt al t = (bt (sq r s 9 ||| sq r s 10) t && (match z_h r L N (nI s) (sq r s) t with
      | none => false
      | some d => decide (bt (sq r d 9) t = bt (sq r s 9) t))) := fun t ht => by
    have wq := w.q hs
    have g1 := congrArg (fun x => bt x t) wq.2.2.2.2.2.2.2.1
    have g2 := congrArg (fun x => bt x t) wq.2.2.2.2.2.2.2.2.1
    simp only [b_and, b_or, b_not _ (show t < 32 by omega), b_0] at g1 g2
    rw [← hal, h10, h11, w4, w5, b_or, b_and, b_and, b_and, b_not _ (by omega), z_yes, z_held, bt_mk _ 31 (by omega), bt_mk _ 31 (by omega), b_or]
    simp only [ht, decide_true, Bool.true_and, z_yesP, z_heldP, hs_bt (show t < 32 by omega), q_is, b_or]
    cases z_h r L N (nI s) (sq r s) t with
    | none => simp
    | some d =>
      simp only [Option.isSome]
      cases e1 : bt (sq r s 9) t <;> cases e2 : bt (sq r s 10) t <;> cases e3 : bt (sq r s 4) t <;> cases e4 : bt (sq r s 5) t <;> cases e5 : bt (sq r d 9) t <;> simp [e1, e2, e3, e4, e5] at g1 g2 ⊢
  obtain ⟨R, h1, h2⟩ := lp_up (fun n x t => lf_X2_restsOn_39 st_S M' 121 al n x (nI t)) 31 (fun t x => ∀ j, j < 32 → bt x j = exB (z_stP (sq r s) (z_h r L N (nI s) (sq r s)) (z_y r) j) t) (fun x => ∀ j, j < 32 → bt x j = exB (z_stP (sq r s) (z_h r L N (nI s) (sq r s)) (z_y r) j) 31)
    (by
      rintro n t x ht hx
      have hn : ¬ (31 : Int32) ≤ nI t := nI_ge (b := 31) ht (by omega)
      have hb := hbit t ht
      have hw3 := w3 t ht
      have gA := gA_122 ht
      cases hat : bt al t
      · refine ⟨x, fun j hj => ?_, ?_⟩
        · rw [exB, ← hx j hj]
          have : z_stP (sq r s) (z_h r L N (nI s) (sq r s)) (z_y r) j t = false := by
            rw [hat] at hb
            cases hq : z_stP (sq r s) (z_h r L N (nI s) (sq r s)) (z_y r) j t
            · rfl
            · simp only [z_stP, Bool.and_eq_true, decide_eq_true_eq, hs_bt (show t < 32 by omega)] at hq
              rw [hq.1, hq.2.1] at hb
              simp [hq.2.2] at hb
          rw [this, Bool.or_false]
        · simp only [lf_X2_restsOn_39, if_neg hn, and1, hv_lo, hv_bt (show t < 32 by omega), hat, Bool.false_eq_true, if_false, nI_1]
      · rw [hat] at hb
        cases ho : z_h r L N (nI s) (sq r s) t with
        | none => rw [ho] at hb; simp at hb
        | some d =>
          have hd : d < N := z_ho_lt ho
          rw [ho] at hb
          have hb := hb.symm
          simp only [Bool.and_eq_true, decide_eq_true_eq] at hb
          have hiss : bt (q_is (sq r s)) t = true := by
            have g2 := congrArg (fun x => bt x t) (w.q hs).2.2.2.2.2.2.2.2.1
            have q1 := hb.1
            simp only [b_and, b_or, b_not _ (show t < 32 by omega), b_0, q_is] at g2 q1 ⊢
            rw [q1] at g2
            cases e4 : bt (sq r s 4) t <;> cases e5 : bt (sq r s 5) t <;> simp [e4, e5] at g2 ⊢
          rw [hiss, if_pos rfl, ho] at hw3
          refine ⟨x ||| bit d, fun j hj => ?_, ?_⟩
          · rw [b_or, hx j hj, bt_bit (by omega), exB]
            congr 1
            simp only [z_stP, hs_bt (show t < 32 by omega), hb.1, ho, Bool.true_and]
            by_cases q : j = d
            · subst q; simp [hb.2]
            · simp [q]; intro q2; exact absurd q2.symm q
          · simp only [lf_X2_restsOn_39, if_neg hn, and1, hv_lo, hv_bt (show t < 32 by omega), hat, if_true, gO_121, gd_tt, kc_121_1 hk', gN_122, tn_122, gA, nI_cl (show t < 2147483648 by omega), hw3, oI, bm_s, nI_1, bit])
    (by
      rintro n x hx
      exact ⟨x, by simp only [lf_X2_restsOn_39, if_pos (show (31 : Int32) ≤ nI 31 by decide)], hx⟩) _ 0 20000 0 rfl (by omega) (by omega) (fun j _ => by rw [b_0]; rfl)
  have h1' : lf_X2_restsOn_39 st_S M' 121 al 20000 0 0 = some R := h1
  refine ⟨R, M', ?_, w2, fun j hj => ?_, weigh_fr h w c.cw hg (by omega) (by omega) hqq w1 123 (by omega) (by omega)⟩
  · simp only [f_X2_restsOn, hg, gd_tt, hc, hcv, bI_t, b1_s, i10, if_false, gO_121, w1, bm_s, hal, h1']
  · rw [h2 j hj, stO, ← Bool.and_assoc, hcv, Bool.true_and]
end Q5
