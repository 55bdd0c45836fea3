/-! ===== two, count ===== -/
section Q6
variable {M : fw_Mem} {r : Nat → Int32} {P L N : Nat}
theorem c_low (M : fw_Mem) (x : Int32) : f_X9_lowestBit st_S M x = some (z_low x) := by
  have : ∃ R, lf_X9_lowestBit_2 st_S M x 20000 (nI 0) = some R ∧ bl R (fun t => (some t : Option Int32)) (fun _ => some (-1)) = some (z_low x) := by
    refine lp_out (fun n (_ : Unit) i => lf_X9_lowestBit_2 st_S M x n (nI i)) 31 (fun i _ => z_first (hs x) i = none) _ ?_ ?_ 31 0 20000 () rfl (by omega) (by omega) rfl
    · intro n i _ hi hI
      have hn : ¬ (31 : Int32) ≤ nI i := nI_ge (b := 31) hi (by omega)
      simp only [lf_X9_lowestBit_2, if_neg hn, and1, hv_lo, hv_n, nI_1]
      cases hp : hs x i
      · left
        exact ⟨(), by rw [z_first, hI]; simp [hp], by simp⟩
      · right
        refine ⟨.inl (nI i), by simp, ?_⟩
        have : z_first (hs x) 31 = some i := z_first_some.mpr ⟨hi, hp, z_first_none.mp hI⟩
        rw [z_low, this]
        rfl
    · intro n _ hI
      exact ⟨.inr (), by simp only [lf_X9_lowestBit_2, if_pos (show (31 : Int32) ≤ nI 31 by decide)], by rw [z_low, hI]; rfl⟩
  obtain ⟨R, h1, h2⟩ := this
  have h1' : lf_X9_lowestBit_2 st_S M x 20000 0 = some R := h1
  rw [f_X9_lowestBit, h1', b1_s, h2]
theorem z_low_0 : z_low 0 = -1 := by
  have : z_first (hs 0) 31 = none := z_first_none.mpr fun i hi => by rw [hs_bt (by omega), b_0]
  rw [z_low, this]; rfl
theorem z_low_m1 {x : Int32} (h31 : bt x 31 = false) : z_low x = -1 ↔ x = 0 := by
  constructor
  · intro h
    have hn : z_first (hs x) 31 = none := by
      cases e : z_first (hs x) 31 with
      | none => rfl
      | some k =>
        rw [z_low, e] at h
        have := (z_first_some.mp e).1
        exact absurd h (by rw [oI, nI_m1 (by omega)]; exact id)
    refine b_ext fun i hi => ?_
    rw [b_0]
    by_cases q : i < 31
    · rw [← hs_bt hi]; exact z_first_none.mp hn i q
    · rw [show i = 31 by omega]; exact h31
  · rintro rfl; exact z_low_0
/-- the issues by which two judgments clash -/
def z_ci (r : Nat → Int32) (L a b : Nat) : Int32 := if (BDr r L (2 * a) ||| BDr r L (2 * a + 1)) &&& (BDr r L (2 * b) ||| BDr r L (2 * b + 1)) = 0 then 0 else (q_st (r 5) (sq r a) &&& q_st (r 5) (sq r b)) &&& (sq r a 9 ^^^ sq r b 9)
theorem ci_eq (w : WF r P L N) {a b : Nat} (ha : a < N) (hb : b < N) : (((q_st (r 5) (sq r a) &&& sq r a 9) &&& (q_st (r 5) (sq r b) &&& sq r b 10)) ||| ((q_st (r 5) (sq r a) &&& sq r a 10) &&& (q_st (r 5) (sq r b) &&& sq r b 9))) = (q_st (r 5) (sq r a) &&& q_st (r 5) (sq r b)) &&& (sq r a 9 ^^^ sq r b 9) := b_ext fun i hi => by
  have g1 := congrArg (fun x => bt x i) (w.q ha).2.2.2.2.2.2.2.1
  have g2 := congrArg (fun x => bt x i) (w.q hb).2.2.2.2.2.2.2.1
  have g3 := q_st_sub (e := r 5) (q := sq r a) hi
  have g4 := q_st_sub (e := r 5) (q := sq r b) hi
  simp only [b_and, b_or, b_xor, b_0] at g1 g2 g3 g4 ⊢
  cases e1 : bt (q_st (r 5) (sq r a)) i <;> cases e2 : bt (q_st (r 5) (sq r b)) i <;> cases e3 : bt (sq r a 9) i <;> cases e4 : bt (sq r a 10) i <;> cases e5 : bt (sq r b 9) i <;> cases e6 : bt (sq r b 10) i <;> simp [e1, e2, e3, e4, e5, e6] at g1 g2 g3 g4 ⊢
theorem c_clash (w : WF r P L N) (c : CR M r L N) {a b : Nat} (ha : a < N) (hb : b < N) : f_X2_clashingIssues st_S M 121 (32 + a) (32 + b) = some (z_ci r L a b) := by
  have n10 := w.n
  simp only [f_X2_clashingIssues, gO_s3 a (by omega), gO_s3 b (by omega), gd_tt, f_X6_boundAtAll, b1_s, (c.2 a ha).2.1.1, (c.2 a ha).2.1.2, (c.2 b hb).2.1.1, (c.2 b hb).2.1.2, (c.2 a ha).2.2.1, (c.2 a ha).2.2.2, (c.2 b hb).2.2.1, (c.2 b hb).2.2.2, ci_eq w ha hb, z_ci]
  split <;> rfl
theorem z_ci_self {a : Nat} : z_ci r L a a = 0 := by
  have : sq r a 9 ^^^ sq r a 9 = 0 := b_ext fun i _ => by rw [b_xor, b_0]; simp
  unfold z_ci
  rw [this]
  split
  · rfl
  · exact b_ext fun i _ => by rw [b_and, b_0]; simp
theorem z_ci_comm {a b : Nat} : z_ci r L a b = z_ci r L b a := by
  unfold z_ci
  rw [and_comm32 (BDr r L (2 * a) ||| BDr r L (2 * a + 1)), and_comm32 (q_st (r 5) (sq r a)), show sq r a 9 ^^^ sq r b 9 = sq r b 9 ^^^ sq r a 9 from b_ext fun i _ => by rw [b_xor, b_xor, Bool.xor_comm]]
theorem mb_clash {B : fw_Mem} (h : KC B) (e : B 137 = r) (w : WF r P L N) (hB : ∀ k, k < 2 * N → B 141 k = BDr r L k) {a b : Nat} (ha : a < N) (hb : b < N) : f_X10_clashOf st_S B 136 (nI a) (nI b) = some (z_low (z_ci r L a b)) := by
  have n10 := w.n
  rw [e_clashOf h (by omega) (by omega), e, hB (2 * a) (by omega), hB (2 * a + 1) (by omega), hB (2 * b) (by omega), hB (2 * b + 1) (by omega)]
  by_cases q : a = b
  · subst q
    rw [if_pos rfl, z_ci_self, z_low_0]
  · rw [if_neg q, z_clash, z_ci]
    split
    · rw [z_low_0]
    · rfl
theorem q_two (I : INV M) (x y z : Int32) : QOK (f_L_two st_S M 0 x y z 148) (fun M1 => f_X10_two st_S M1 136 x y z) := by
  obtain ⟨P, L, N, A, T, U, hh, h, w, pp, r3, c, -⟩ := id I
  have n10 := w.n
  by_cases hx : ∃ s, s < N ∧ x = nI s
  rotate_left
  · exact qok1 I (M1 := M) (k := 1) (by decide) (by simp only [f_L_two, f_X9_two, gO_0, gd_tt, kc_0_5 h, gN_121, tn_121, gO_121, b1_s, b2_s, bxl, bxr, bn_s, gA_148_0, bm_s, if_true, if_false, i10, i00, c_suitNo h c.1.1 w.n hx]) (AG.rf M) (fun k1 e => ⟨0, _, by simp only [f_X10_two, gO_136, gd_tt, bm_s, ms_no (kc_136 k1 0) ((s137 _ _).trans e) w hx, b1_s, i00, if_true, m_fail, b2_s], mc_ff M 0 1⟩)
  obtain ⟨a, ha, rfl⟩ := hx
  by_cases hy : ∃ s, s < N ∧ y = nI s
  rotate_left
  · exact qok1 I (M1 := M) (k := 1) (by decide) (by simp only [f_L_two, f_X9_two, gO_0, gd_tt, kc_0_5 h, gN_121, tn_121, gO_121, b1_s, b2_s, bxl, bxr, bn_s, gA_148_0, bm_s, if_true, if_false, i10, i00, c_suitAt h c.1.1 w.n ha, c_suitNo h c.1.1 w.n hy]) (AG.rf M) (fun k1 e => ⟨0, _, by simp only [f_X10_two, gO_136, gd_tt, bm_s, ms_ok (kc_136 k1 0) ((s137 _ _).trans e) w ha, ms_no (kc_136 k1 0) ((s137 _ _).trans e) w hy, b1_s, i10, if_false, i00, if_true, m_fail, b2_s], mc_ff M 0 1⟩)
  obtain ⟨b, hb, rfl⟩ := hy
  by_cases hz : z = 0 ∨ z = 1 ∨ z = 2 ∨ z = 3 ∨ z = 4 ∨ z = 5
  rotate_left
  · refine qok1 I (M1 := M) (k := 1) (by decide) ?_ (AG.rf M) (fun k1 e => ⟨0, _, by simp only [f_X10_two, gO_136, gd_tt, bm_s, ms_ok (kc_136 k1 0) ((s137 _ _).trans e) w ha, ms_ok (kc_136 k1 0) ((s137 _ _).trans e) w hb, b1_s, i10, if_false, wi5 hz, i00, if_true, m_fail, b2_s], mc_ff M 0 1⟩)
    simp only [f_L_two, f_X9_two, gO_0, gd_tt, kc_0_5 h, gN_121, tn_121, gO_121, b1_s, b2_s, bxl, bxr, bn_s, gA_148_0, bm_s, if_true, if_false, i10, i00, c_suitAt h c.1.1 w.n ha, c_suitAt h c.1.1 w.n hb]
    simp only [not_or] at hz
    simp [b1_s, b2_s, bxl, bxr, bn_s, bm_s, hz]
  obtain ⟨hga, ea0, eqa⟩ := c.at' h w.n ha
  obtain ⟨hgb, eb0, eqb⟩ := c.at' h w.n hb
  have hmod : ∀ {B : fw_Mem}, KC B → B 137 = M 137 → ∃ C, f_X10_layBound st_S (fw_set B 136 6 0) 136 = some C ∧ MC B C 0 ∧ KC C ∧ C 137 = M 137 ∧ (∀ k, k < 2 * N → C 141 k = BDr (M 137) L k) ∧ f_X10_isIn st_S (fw_set B 136 6 0) z 0 5 = some 1 := fun k e => by
    obtain ⟨C, h1, h2, h3, h4, h5, h6, h7⟩ := m_lay0 k e w
    exact ⟨C, h1, h2, h4, h3, h5, by
      rw [e_isIn]
      rcases hz with rfl | rfl | rfl | rfl | rfl | rfl <;> rfl⟩
  have hpre : ∀ {B : fw_Mem}, KC B → B 137 = M 137 → f_X10_isSuit st_S (fw_set B 136 6 0) 136 (nI a) = some 1 ∧ f_X10_isSuit st_S (fw_set B 136 6 0) 136 (nI b) = some 1 := fun k e => ⟨ms_ok (kc_136 k 0) ((s137 _ _).trans e) w ha, ms_ok (kc_136 k 0) ((s137 _ _).trans e) w hb⟩
  have ca := c_suitAt h c.1.1 w.n ha
  have cb := c_suitAt h c.1.1 w.n hb
  rcases hz with rfl | rfl | rfl | rfl | rfl | rfl
  · refine qok0 I (M1 := fw_set M 148 0 (sq (M 137) a 3 &&& sq (M 137) b 3)) ?_ ((AG.rf M).st 148 0 _ rfl) (set_eq _ _ _ _) (fun k1 e => ?_)
    · rw [← eqa, ← eqb]
      simp [f_L_two, f_X9_two, gO_0, gd_tt, kc_0_5 h, gN_121, tn_121, gO_121, b1_s, b2_s, bxl, bxr, bn_s, gA_148_0, bm_s, if_true, if_false, i10, i00, ca, cb, hga, hgb, cq3]
    · obtain ⟨C, c1, c2, c3, c4, c5, c6⟩ := hmod k1 e
      obtain ⟨d1, d2⟩ := hpre k1 e
      have a1 := e_of3 c3 (s := a) (by omega)
      have a2 := e_of3 c3 (s := b) (by omega)
      rw [c4] at a1 a2
      exact ⟨C, by simp [f_X10_two, gO_136, gd_tt, bm_s, d1, d2, b1_s, c6, c1, a1, a2], c2⟩
  · have hc := e_c_same h (c.ru w) hga hgb
    rw [eqa, eqb, c.1.2.1, z_same_comm] at hc
    refine qok0 I (M1 := fw_set M 148 0 (bI (z_same (M 137 3) (sq (M 137) a) (sq (M 137) b)))) ?_ ((AG.rf M).st 148 0 _ rfl) (set_eq _ _ _ _) (fun k1 e => ?_)
    · simp only [f_L_two, f_X9_two, gO_0, gd_tt, kc_0_5 h, gN_121, tn_121, gO_121, b1_s, b2_s, bxl, bxr, bn_s, gA_148_0, bm_s, if_true, if_false, i10, i00, ca, cb, hc]
      cases z_same (M 137 3) (sq (M 137) a) (sq (M 137) b) <;> simp [b1_s, b2_s, bxl, bxr, bn_s, bm_s, bI]
    · obtain ⟨C, c1, c2, c3, c4, c5, c6⟩ := hmod k1 e
      obtain ⟨d1, d2⟩ := hpre k1 e
      have a1 := e_areSame c3 (b := a) (a := b) (by omega) (by omega)
      rw [c4] at a1
      refine ⟨C, ?_, c2⟩
      simp only [f_X10_two, gO_136, gd_tt, bm_s, d1, d2, b1_s, c6, c1, a1]
      cases z_same (M 137 3) (sq (M 137) a) (sq (M 137) b) <;> simp [bI]
  · have hc := c_bars h w c hga
    rw [eqa, ea0] at hc
    have hbt : bt (z_bars (M 137 3) (M 137 4) (nI a) (sq (M 137) a) (sq (M 137)) (BDr (M 137) L) N) b = z_bar (M 137 3) (M 137 4) (nI a) (sq (M 137) a) (nI b) (sq (M 137) b) (BDr (M 137) L (2 * b)) (BDr (M 137) L (2 * b + 1)) := by
      rw [z_bars, bt_mk _ N (by omega)]
      simp [hb]
    refine qok0 I (M1 := fw_set M 148 0 (bI (z_bar (M 137 3) (M 137 4) (nI a) (sq (M 137) a) (nI b) (sq (M 137) b) (BDr (M 137) L (2 * b)) (BDr (M 137) L (2 * b + 1))))) ?_ ((AG.rf M).st 148 0 _ rfl) (set_eq _ _ _ _) (fun k1 e => ?_)
    · rw [← hbt]
      simp [f_L_two, f_X9_two, gO_0, gd_tt, kc_0_5 h, gN_121, tn_121, gO_121, b1_s, b2_s, bxl, bxr, bn_s, gA_148_0, bm_s, if_true, if_false, i10, i00, ca, cb, hc, and1b, hv_lo, hv_bt (show b < 32 by omega)]
    · obtain ⟨C, c1, c2, c3, c4, c5, c6⟩ := hmod k1 e
      obtain ⟨d1, d2⟩ := hpre k1 e
      have a1 := e_isBarredBy c3 (b := a) (a := b) (by omega) (by omega)
      rw [c4, c5 (2 * b) (by omega), c5 (2 * b + 1) (by omega)] at a1
      refine ⟨C, ?_, c2⟩
      simp only [f_X10_two, gO_136, gd_tt, bm_s, d1, d2, b1_s, c6, c1, a1]
      cases z_bar (M 137 3) (M 137 4) (nI a) (sq (M 137) a) (nI b) (sq (M 137) b) (BDr (M 137) L (2 * b)) (BDr (M 137) L (2 * b + 1)) <;> simp [bI]
  · have hc := e_c_comes (M := M) hga hgb (c.bo w b hb).2
    rw [eqa, ea0, eqb, eb0] at hc
    refine qok0 I (M1 := fw_set M 148 0 (bI (z_comes (nI a) (sq (M 137) a) (nI b) (sq (M 137) b)))) ?_ ((AG.rf M).st 148 0 _ rfl) (set_eq _ _ _ _) (fun k1 e => ?_)
    · simp only [f_L_two, f_X9_two, gO_0, gd_tt, kc_0_5 h, gN_121, tn_121, gO_121, b1_s, b2_s, bxl, bxr, bn_s, gA_148_0, bm_s, if_true, if_false, i10, i00, ca, cb, hc]
      cases z_comes (nI a) (sq (M 137) a) (nI b) (sq (M 137) b) <;> simp [b1_s, b2_s, bxl, bxr, bn_s, bm_s, bI]
    · obtain ⟨C, c1, c2, c3, c4, c5, c6⟩ := hmod k1 e
      obtain ⟨d1, d2⟩ := hpre k1 e
      have a1 := e_comes c3 (b := a) (a := b) (by omega) (by omega)
      rw [c4] at a1
      refine ⟨C, ?_, c2⟩
      simp only [f_X10_two, gO_136, gd_tt, bm_s, d1, d2, b1_s, c6, c1, a1]
      cases z_comes (nI a) (sq (M 137) a) (nI b) (sq (M 137) b) <;> simp [bI]
  · obtain ⟨R, M', hc, hf, hbt, -⟩ := c_rests h w c ha
    refine qok0 I (M1 := fw_set M' 148 0 (bI (stO (M 137) L N a b))) ?_ (hf.ag.st 148 0 _ rfl) (set_eq _ _ _ _) (fun k1 e => ?_)
    · rw [← hbt b (by omega)]
      simp [f_L_two, f_X9_two, gO_0, gd_tt, kc_0_5 h, gN_121, tn_121, gO_121, b1_s, b2_s, bxl, bxr, bn_s, gA_148_0, bm_s, if_true, if_false, i10, i00, ca, cb, hc, and1b, hv_lo, hv_bt (show b < 32 by omega)]
    · obtain ⟨C, c1, c2, c3, c4, c5, c6⟩ := hmod k1 e
      obtain ⟨d1, d2⟩ := hpre k1 e
      have a1 := mb_stands c3 c4 w c5 ha hb
      refine ⟨C, ?_, c2⟩
      simp only [f_X10_two, gO_136, gd_tt, bm_s, d1, d2, b1_s, c6, c1, a1]
      cases stO (M 137) L N a b <;> simp [bI]
  · have hc := c_clash w c ha hb
    refine qok0 I (M1 := fw_set M 148 0 (z_low (z_ci (M 137) L a b))) ?_ ((AG.rf M).st 148 0 _ rfl) (set_eq _ _ _ _) (fun k1 e => ?_)
    · simp [f_L_two, f_X9_two, gO_0, gd_tt, kc_0_5 h, gN_121, tn_121, gO_121, b1_s, b2_s, bxl, bxr, bn_s, gA_148_0, bm_s, if_true, if_false, i10, i00, ca, cb, hc, c_low]
    · obtain ⟨C, c1, c2, c3, c4, c5, c6⟩ := hmod k1 e
      obtain ⟨d1, d2⟩ := hpre k1 e
      have a1 := mb_clash c3 c4 w c5 ha hb
      exact ⟨C, by simp [f_X10_two, gO_136, gd_tt, bm_s, d1, d2, b1_s, c6, c1, a1], c2⟩
end Q6
