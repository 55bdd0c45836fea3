/-! ===== find, rule ===== -/
theorem whm {z : Int32} : (¬ z < -1 ∧ z ≤ 1) ↔ (z = -1 ∨ z = 0 ∨ z = 1) := by
  have h1 : (-1 : Int32).toInt = -1 := by decide
  have h2 : (1 : Int32).toInt = 1 := by decide
  have h0 : (0 : Int32).toInt = 0 := by decide
  rw [fa_lt, fa_le, fa_eq, fa_eq, fa_eq, h1, h2, h0]
  omega
theorem or_put {x : Int32} {t : Nat} (ht : t < 32) : (x &&& (bit t ^^^ (-1))) ||| bit t = x ||| bit t := b_ext fun j hj => by
  rw [b_or, b_or, b_and, b_not _ hj, bt_bit ht]
  cases bt x j <;> cases decide (j = t) <;> rfl
theorem b_cmp (x : Int32) {i : Nat} (h : i < 32) : bt (~~~x) i = !bt x i := by
  unfold bt
  rw [Int32.toBitVec_not, BitVec.getLsbD_not]
  simp [h]
theorem e_sets {m : fw_Mem} (k : KC m) {s w t : Nat} (hs : s ≤ 10) (hw : w < 12) (ht : t < 32) {x : Int32} (hx : x = nI w) (b : Bool) : f_X10_sets st_S m 136 (nI s) x (nI t) (bI b) = some (fw_set m 137 (198 + 12 * s + w) (if b = true then sq (m 137) s w ||| bit t else sq (m 137) s w &&& (bit t ^^^ (-1)))) := by
  have h1 := e_of k hs hw hx
  have h2 := fun v => e_put k hs hw hx v
  have e : ((1 : Int32) <<< (nI t &&& 31)) = bit t := rfl
  simp only [f_X10_sets, gO_136, gd_tt, h1, b1_s, bm_s, e]
  cases b
  · simp only [bI_f, i00, if_true, h2, b1_s, Bool.false_eq_true, if_false]
  · simp only [bI_t, i10, if_false, h2, b1_s, if_true, or_put ht]
section QF
variable {M : fw_Mem}
theorem q_find (I : INV M) (x y z : Int32) (v : Bool) : QOK (f_L_find st_S M 0 x y z (bI v) 148) (fun M1 => f_X10_find st_S M1 136 x y z (bI v)) := by
  obtain ⟨P, L, N, A, T, U, hh, iv⟩ := id I
  obtain ⟨h, w, ⟨p3, -⟩, r3, c, -, ac, -⟩ := id iv
  have n10 := w.n
  have hne : ¬ exI = exN := by decide
  have mno : ∀ {M1 : fw_Mem} (k : Int32), (k = 1 ∨ k = 2) → fj_X10_find_61 st_S M1 136 x y z (bI v) k 136 = some (0, fw_set M1 136 6 k) := fun {M1} k hk => by
    have : ¬ k ≤ 0 := by rcases hk with rfl | rfl <;> decide
    simp only [fj_X10_find_61, gO_136, gd_tt, bm_s, set_eq, if_neg this]
  by_cases hx : ∃ s, s < N ∧ x = nI s
  rotate_left
  · refine qok1 I (M1 := M) (k := 1) (by decide) (by simp only [f_L_find, f_X9_find, gO_0, gd_tt, kc_0_5 h, gN_121, tn_121, gO_121, b1_s, b2_s, bxl, bxr, bn_s, gA_148_0, bm_s, if_true, if_false, i10, i00, c_suitNo h c.1.1 w.n hx]) (AG.rf M) (fun k1 e => ⟨0, fw_set M 136 6 1, ?_, mf_set M 1⟩)
    simp only [f_X10_find, fj_X10_find_35, gO_136, gd_tt, ms_no k1 e w hx, b1_s, i00, if_true, mno 1 (Or.inl rfl)]
  obtain ⟨s, hs, rfl⟩ := hx
  obtain ⟨hg, e0, eq⟩ := c.at' h w.n hs
  have hs10 : s < 10 := by omega
  by_cases hy : ∃ t, t < 31 ∧ y = nI t
  rotate_left
  · have hc : f_X9_needIssue st_S M 0 (32 + s) y = some (.inr exN) := by
      have hx2 := (not_congr (rgc (x := y) (N := 31) (by omega))).mpr hy
      by_cases hn : y < 0
      · simp only [f_X9_needIssue, if_pos hn]
      · have : (31 : Int32) ≤ y := Int32.not_lt.mp (fun q => hx2 ⟨hn, q⟩)
        simp only [f_X9_needIssue, if_neg hn, if_pos this]
    have hx2 := (not_congr (rg (x := y) (N := 31) (by omega))).mpr hy
    refine qok1 I (M1 := M) (k := 1) (by decide) (by simp only [f_L_find, f_X9_find, gO_0, gd_tt, kc_0_5 h, gN_121, tn_121, gO_121, b1_s, b2_s, bxl, bxr, bn_s, gA_148_0, bm_s, if_true, if_false, i10, i00, c_suitAt h c.1.1 w.n hs, hc]) (AG.rf M) (fun k1 e => ⟨0, fw_set M 136 6 1, ?_, mf_set M 1⟩)
    simp only [f_X10_find, fj_X10_find_35, gO_136, gd_tt, ms_ok k1 e w hs, b1_s, i10, if_false, e_isIn, show (30 : Int32) = nI 31 - 1 from rfl, decide_eq_false hx2, bI_f, i00, if_true, mno 1 (Or.inl rfl)]
  obtain ⟨t, ht, rfl⟩ := hy
  have hin : ∀ B : fw_Mem, f_X10_isIn st_S B (nI t) 0 30 = some 1 := fun B => by
    rw [e_isIn, show (30 : Int32) = nI 31 - 1 from rfl, decide_eq_true ((rg (by omega)).mpr ⟨t, ht, rfl⟩)]; rfl
  have hiss : ∀ {B : fw_Mem}, KC B → B 137 = M 137 → f_X10_issuesOf st_S B 136 (nI s) = some (q_is (sq (M 137) s)) := fun k e => by rw [e_issuesOf k (by omega), e]
  have hni : f_X9_needIssue st_S M 0 (32 + s) (nI t) = if bt (q_is (sq (M 137) s)) t = false then some (.inr exN) else some (.inl ()) := by
    have hn : ¬ (31 : Int32) ≤ nI t := nI_ge (b := 31) ht (by omega)
    simp only [f_X9_needIssue, if_neg (nI_pos (show t < 2 ^ 31 by omega)), if_neg hn, hg, gd_tt, e_c_all hg, eq, b1_s, and1z, hv_lo, hv_bt (show t < 32 by omega)]
  cases hb : bt (q_is (sq (M 137) s)) t
  · rw [hb, if_pos rfl] at hni
    refine qok1 I (M1 := M) (k := 1) (by decide) (by simp only [f_L_find, f_X9_find, gO_0, gd_tt, kc_0_5 h, gN_121, tn_121, gO_121, b1_s, b2_s, bxl, bxr, bn_s, gA_148_0, bm_s, if_true, if_false, i10, i00, c_suitAt h c.1.1 w.n hs, hni]) (AG.rf M) (fun k1 e => ⟨0, fw_set M 136 6 1, ?_, mf_set M 1⟩)
    simp only [f_X10_find, fj_X10_find_35, gO_136, gd_tt, ms_ok k1 e w hs, b1_s, i10, if_false, hin, hiss k1 e, e_has, hv_bt (show t < 32 by omega), hb, bI_f, i00, if_true, mno 1 (Or.inl rfl)]
  rw [hb, if_neg (by decide)] at hni
  by_cases hz : z = -1 ∨ z = 0 ∨ z = 1
  rotate_left
  · have hz' := (not_congr whm).mpr hz
    refine qok1 I (M1 := M) (k := 2) (by decide) ?_ (AG.rf M) (fun k1 e => ⟨0, fw_set M 136 6 2, ?_, mf_set M 2⟩)
    · simp only [f_L_find, f_X9_find, gO_0, gd_tt, kc_0_5 h, gN_121, tn_121, gO_121, b1_s, b2_s, bxl, bxr, bn_s, gA_148_0, bm_s, if_true, if_false, i10, i00, c_suitAt h c.1.1 w.n hs, hni]
      by_cases h1 : z < -1
      · simp only [if_pos h1, b1_s, b2_s, bxl, bxr, bn_s, bm_s, if_neg hne, if_true]
      · simp only [if_neg h1, if_neg (fun q => hz' ⟨h1, q⟩ : ¬ z ≤ 1), b1_s, b2_s, bxl, bxr, bn_s, bm_s, if_neg hne, if_true]
    · have hf : decide (¬ z < -1 ∧ ¬ (1 : Int32) < z) = false := decide_eq_false fun q => hz' ⟨q.1, Int32.not_lt.mp q.2⟩
      simp only [f_X10_find, fj_X10_find_35, gO_136, gd_tt, ms_ok k1 e w hs, b1_s, i10, if_false, hin, hiss k1 e, e_has, hv_bt (show t < 32 by omega), hb, bI_t, e_isIn, hf, bI_f, i00, if_true, mno 2 (Or.inr rfl)]
  have hz' := whm.mpr hz
  have hzi : ∀ B : fw_Mem, f_X10_isIn st_S B z (-1) 1 = some 1 := fun B => by rw [e_isIn, decide_eq_true ⟨hz'.1, Int32.not_lt.mpr hz'.2⟩]; rfl
  have wqs := w.q hs
  have hjd := e_c_isJudged (M := M) hg
  rw [eq] at hjd
  cases hj : q_jd (sq (M 137) s)
  · rw [hj] at hjd
    refine qok0 I (u := -1) (M1 := fw_set M 148 0 (-1)) ?_ ((AG.rf M).st 148 0 _ rfl) (set_eq _ _ _ _) (fun k1 e => ⟨_, ?_, mf_set _ 0⟩)
    · simp only [f_L_find, f_X9_find, gO_0, gd_tt, kc_0_5 h, gN_121, tn_121, gO_121, b1_s, b2_s, bxl, bxr, bn_s, gA_148_0, bm_s, if_true, if_false, i10, i00, c_suitAt h c.1.1 w.n hs, hni, if_neg hz'.1, if_pos hz'.2, hg, hjd, bI_f]
    · have a1 := e_isJudged (kc_136 k1 0) (s := s) (by omega)
      rw [s137, e, hj] at a1
      simp only [f_X10_find, fj_X10_find_35, fj_X10_find_61, gO_136, gd_tt, ms_ok k1 e w hs, b1_s, i10, if_false, hin, hiss k1 e, e_has, hv_bt (show t < 32 by omega), hb, bI_t, hzi, bm_s, set_eq, show (0 : Int32) ≤ 0 from by decide, if_true, a1, bI_f, i00]
  rw [hj] at hjd
  have e10 : M (32 + s) 10 = sq (M 137) s 9 := congrFun eq 9
  have e11 : M (32 + s) 11 = sq (M 137) s 10 := congrFun eq 10
  have e12 : M (32 + s) 12 = sq (M 137) s 11 := congrFun eq 11
  obtain ⟨M9, n0, n1, n2, n3, n4, n5⟩ := c_note h ac.1 ac.2.2.1 1 (nI s) (sq (M 137) s 9) (sq (M 137) s 10) (sq (M 137) s 11) 0
  have k9 : KC M9 := kc_ac h n1 n2
  have e9 : M9 (32 + s) = M (32 + s) := n1 _ (by omega) (by omega)
  obtain ⟨yy, hyy⟩ : ∃ u, u = (if z = 1 then sq (M 137) s 9 ||| bit t else sq (M 137) s 9 &&& (bit t ^^^ (-1))) := ⟨_, rfl⟩
  obtain ⟨nn, hnn⟩ : ∃ u, u = (if z = 0 then sq (M 137) s 10 ||| bit t else sq (M 137) s 10 &&& (bit t ^^^ (-1))) := ⟨_, rfl⟩
  obtain ⟨uu, huu⟩ : ∃ u, u = (if z = -1 then sq (M 137) s 11 &&& (bit t ^^^ (-1)) else if v = true then sq (M 137) s 11 &&& (bit t ^^^ (-1)) else sq (M 137) s 11 ||| bit t) := ⟨_, rfl⟩
  have hset : f_X6_setFound st_S M9 (32 + s) (nI t) z (bI v) = some (fw_set (fw_set (fw_set M9 (32 + s) 10 yy) (32 + s) 11 nn) (32 + s) 12 uu) := by
    have eb : ((1 : Int32) <<< (nI t &&& 31)) = bit t := rfl
    have m10 : M9 (32 + s) 10 = sq (M 137) s 9 := by rw [e9]; exact e10
    have m11 : M9 (32 + s) 11 = sq (M 137) s 10 := by rw [e9]; exact e11
    have m12 : M9 (32 + s) 12 = sq (M 137) s 11 := by rw [e9]; exact e12
    simp only [f_X6_setFound, fj_X6_setFound_30, fj_X6_setFound_57, hg, gd_tt, bm_s, eb, m10, set_nk _ _ _ _ (show (11 : Nat) ≠ 10 by decide), m11, set_nk _ _ _ _ (show (12 : Nat) ≠ 11 by decide), set_nk _ _ _ _ (show (12 : Nat) ≠ 10 by decide), m12, hyy, hnn, huu]
    rcases hz with rfl | rfl | rfl <;> cases v <;> simp [bI]
  obtain ⟨q', hq'⟩ : ∃ q', q' = upd (upd (upd (sq (M 137) s) 9 yy) 10 nn) 11 uu := ⟨_, rfl⟩
  have g3 : cq (fw_set (fw_set (fw_set M9 (32 + s) 10 yy) (32 + s) 11 nn) (32 + s) 12 uu) (32 + s) = q' := by
    rw [show (12 : Nat) = 1 + 11 from rfl, cq_set (by omega), show (11 : Nat) = 1 + 10 from rfl, cq_set (by omega), show (10 : Nat) = 1 + 9 from rfl, cq_set (by omega), cq_fr e9, eq, hq']
  obtain ⟨r', hr'⟩ : ∃ r', r' = upd (upd (upd (M 137) (198 + 12 * s + 9) yy) (198 + 12 * s + 10) nn) (198 + 12 * s + 11) uu := ⟨_, rfl⟩
  have sc : SC (M 137) r' s q' := by rw [hr', hq']; exact sc_upd2 (sc_upd2 (sc_upd _ s (by omega) _) (by omega) _) (by omega) _
  have u : ∀ j, j < 9 → q' j = sq (M 137) s j := fun j h1 => by rw [hq', upd_ne _ _ (by omega), upd_ne _ _ (by omega), upd_ne _ _ (by omega)]
  have u9 : q' 9 = yy := by rw [hq', upd_ne _ _ (by omega), upd_ne _ _ (by omega), upd_eq]
  have u10 : q' 10 = nn := by rw [hq', upd_ne _ _ (by omega), upd_eq]
  have wq' : WQ P q' := by
    obtain ⟨a1, a2, a3, a4, a5, a6, a7, a8, a9, a10, a11⟩ := wqs
    have by1 : ∀ j, j < 32 → bt yy j = if j = t then decide (z = 1) else bt (sq (M 137) s 9) j := fun j hj => by
      rw [hyy]
      by_cases e : j = t
      · subst e
        rcases hz with rfl | rfl | rfl <;> simp [b_or, b_and, b_cmp _ hj, bt_bit hj]
      · rcases hz with rfl | rfl | rfl <;> simp [b_or, b_and, b_cmp _ hj, bt_bit (show t < 32 by omega), e]
    have bn1 : ∀ j, j < 32 → bt nn j = if j = t then decide (z = 0) else bt (sq (M 137) s 10) j := fun j hj => by
      rw [hnn]
      by_cases e : j = t
      · subst e
        rcases hz with rfl | rfl | rfl <;> simp [b_or, b_and, b_cmp _ hj, bt_bit hj]
      · rcases hz with rfl | rfl | rfl <;> simp [b_or, b_and, b_cmp _ hj, bt_bit (show t < 32 by omega), e]
    unfold WQ
    rw [u9, u10, u 0 (by omega), u 1 (by omega), u 2 (by omega), u 4 (by omega), u 5 (by omega), u 6 (by omega), u 7 (by omega), u 8 (by omega)]
    refine ⟨a1, a2, a3, a4, a5, a6, a7, b_ext fun j hj => ?_, b_ext fun j hj => ?_, fun q => ?_, a11⟩
    · have g := congrArg (fun x => bt x j) a8
      simp only [b_and, b_0] at g
      rw [b_and, by1 j hj, bn1 j hj, b_0]
      by_cases e : j = t
      · simp only [if_pos e]
        rcases hz with rfl | rfl | rfl <;> decide
      · rw [if_neg e, if_neg e]; exact g
    · have g := congrArg (fun x => bt x j) a9
      simp only [b_and, b_or, b_not _ hj, b_0] at g
      rw [b_and, b_or, b_not _ hj, b_or, by1 j hj, bn1 j hj, b_0]
      by_cases e : j = t
      · have hi : (bt (sq (M 137) s 4) j || bt (sq (M 137) s 5) j) = true := by rw [e, ← b_or]; exact hb
        rw [hi]; simp
      · rw [if_neg e, if_neg e]; exact g
    · simp [q_jd, q] at hj
  obtain ⟨M13, y1, -, fc, k11, k13, fin⟩ := suit_act (r' := r') (q' := q') (kd := 1) (a := sq (M 137) s 9) (b := sq (M 137) s 10) (c := sq (M 137) s 11) iv hs n1 n2 n3 n4 n5 (fun b hb => by rw [set_nr _ _ _ hb, set_nr _ _ _ hb, set_nr _ _ _ hb]) (by rw [set_nk _ _ _ _ (by decide), set_nk _ _ _ _ (by decide), set_nk _ _ _ _ (by decide)]) g3 wq' (fun j hj => u j (by omega)) sc (Or.inr (Or.inr ⟨rfl, fun j _ h9 => (u j h9).symm, rfl, rfl, rfl⟩))
  obtain ⟨fw, hfw⟩ : ∃ f : Int32, f = (if bt (sq (M 137) s 9) t = true then 1 else if bt (sq (M 137) s 10) t = true then 0 else -1) := ⟨_, rfl⟩
  have hfound : f_X6_foundWay st_S M (32 + s) (nI t) = some fw := by
    simp only [f_X6_foundWay, hg, gd_tt, e10, e11, and1, hv_lo, hv_bt (show t < 32 by omega), hfw]
    cases bt (sq (M 137) s 9) t <;> cases bt (sq (M 137) s 10) t <;> rfl
  have hclass : f_L_find st_S M 0 (nI s) (nI t) z (bI v) 148 = some (0, fw_set M13 148 0 fw) := by
    simp only [f_L_find, f_X9_find, gO_0, gd_tt, kc_0_5 h, gN_121, tn_121, gO_121, b1_s, b2_s, bxl, bxr, bn_s, gA_148_0, bm_s, if_true, if_false, i10, i00, c_suitAt h c.1.1 w.n hs, hni, if_neg hz'.1, if_pos hz'.2, hg, hjd, bI_t, hfound, kc_0_7 h, gN_131, tn_131, gO_131, e10, e11, e12, n0, hset, kc_0_5 k11, y1]
  have kB : KC (fw_set M13 148 0 fw) := kc_148 k13 _
  have fB : ∀ b, ¬ (3 ≤ b ∧ b < 42) → b ≠ 131 → b ≠ 132 → b ≠ 148 → fw_set M13 148 0 fw b = M b := fun b b1 b2 b3 b4 => by rw [set_nr _ _ _ b4, fc b b1 b2 b3]
  have eB : fw_set M13 148 0 fw 137 = M 137 := fB 137 (by omega) (by omega) (by omega) (by omega)
  have a1 := e_isJudged (kc_136 kB 0) (s := s) (by omega)
  rw [s137, eB, hj] at a1
  obtain ⟨C, c1, c2, c3, c4, c5, c6, c7, c8, c9⟩ := m_kp kB eB (by rw [fB 136 (by omega) (by omega) (by omega) (by omega)]; exact ac.2.1) ac.2.2.1
  have aF := e_foundYes c2 (s := s) (by omega) (nI t)
  have aN := e_of10 c2 (s := s) (by omega)
  rw [c3, hv_bt (by omega)] at aF
  rw [c3] at aN
  obtain ⟨D, hD⟩ : ∃ D, D = fw_set (fw_set (fw_set C 137 (198 + 12 * s + 9) yy) 137 (198 + 12 * s + 10) nn) 137 (198 + 12 * s + 11) uu := ⟨_, rfl⟩
  have s1 : f_X10_sets st_S C 136 (nI s) 9 (nI t) (bI (decide (z = 1))) = some (fw_set C 137 (198 + 12 * s + 9) yy) := by
    rw [e_sets c2 (by omega) (show 9 < 12 by omega) (show t < 32 by omega) (x := 9) rfl, c3, hyy]
    by_cases q : z = 1 <;> simp [q]
  have kC1 := kc_137 c2 (198 + 12 * s + 9) yy
  have s2 : f_X10_sets st_S (fw_set C 137 (198 + 12 * s + 9) yy) 136 (nI s) 10 (nI t) (bI (decide (z = 0))) = some (fw_set (fw_set C 137 (198 + 12 * s + 9) yy) 137 (198 + 12 * s + 10) nn) := by
    rw [e_sets kC1 (by omega) (show 10 < 12 by omega) (show t < 32 by omega) (x := 10) rfl, fw_set_row, c3, sq_upd _ s (by omega), if_pos rfl, upd_ne _ _ (by omega), hnn]
    by_cases q : z = 0 <;> simp [q]
  have kC2 := kc_137 kC1 (198 + 12 * s + 10) nn
  have s3 : ∀ b : Bool, b = (!decide (z = -1) && !v) → f_X10_sets st_S (fw_set (fw_set C 137 (198 + 12 * s + 9) yy) 137 (198 + 12 * s + 10) nn) 136 (nI s) 11 (nI t) (bI b) = some D := fun b hb' => by
    rw [e_sets kC2 (by omega) (show 11 < 12 by omega) (show t < 32 by omega) (x := 11) rfl, fw_set_row, fw_set_row, c3, sq_upd _ s (by omega), if_pos rfl, upd_ne _ _ (by omega), sq_upd _ s (by omega), if_pos rfl, upd_ne _ _ (by omega), hD, huu, hb']
    by_cases q : z = -1 <;> cases v <;> simp [q]
  have h119 : ∀ k : Int32, fj_X10_find_119 st_S C 136 (nI s) (nI t) z (bI v) k = some (k, D) := fun k => by
    simp only [fj_X10_find_119, fj_X10_find_136, fj_X10_find_153, gO_136, gd_tt]
    rcases hz with rfl | rfl | rfl
    · have := s3 false (by simp)
      rw [show decide ((-1 : Int32) = 1) = false from by decide, bI_f] at s1
      rw [show decide ((-1 : Int32) = 0) = false from by decide, bI_f] at s2
      rw [bI_f] at this
      simp [s1, s2, this, b1_s]
    · rw [show decide ((0 : Int32) = 1) = false from by decide, bI_f] at s1
      rw [show decide ((0 : Int32) = 0) = true from by decide, bI_t] at s2
      cases v
      · have := s3 true (by decide)
        rw [bI_t] at this
        simp [s1, s2, this, b1_s, bI]
      · have := s3 false (by decide)
        rw [bI_f] at this
        simp [s1, s2, this, b1_s, bI]
    · rw [show decide ((1 : Int32) = 1) = true from by decide, bI_t] at s1
      rw [show decide ((1 : Int32) = 0) = false from by decide, bI_f] at s2
      cases v
      · have := s3 true (by decide)
        rw [bI_t] at this
        simp [s1, s2, this, b1_s, bI]
      · have := s3 false (by decide)
        rw [bI_f] at this
        simp [s1, s2, this, b1_s, bI]
  have fD : ∀ b, b ≠ 137 → D b = C b := fun b hb => by rw [hD, set_nr _ _ _ hb, set_nr _ _ _ hb, set_nr _ _ _ hb]
  refine ⟨0, fw_set M13 148 0 fw, fw, D, hclass, ?_, ?_, fun _ => ?_, ⟨P, L, N, _, T, U, hh, fin D (fun b b1 b2 b3 b4 => ?_) (fun j j1 j2 => ?_) ?_ (fun j hj => ?_) ?_ ?_⟩⟩
  · simp only [f_X10_find, fj_X10_find_35, fj_X10_find_61, gO_136, gd_tt, ms_ok kB eB w hs, b1_s, i10, if_false, hin, hiss kB eB, e_has, hv_bt (show t < 32 by omega), hb, bI_t, hzi, bm_s, set_eq, show (0 : Int32) ≤ 0 from by decide, if_true, a1, c1, aF, aN, h119, bI_0]
    rw [hfw]
    cases bt (sq (M 137) s 9) t <;> cases bt (sq (M 137) s 10) t <;> rfl
  · rw [fD 136 (by decide)]; exact c6
  · rw [fD 148 (by decide), c4 148 (by decide) (by decide), set_eq]
  · rw [fD b b2, c4 b b1 b3, set_nr _ _ _ b4]
  · rw [fD 136 (by decide), c5 j j1 j2, set_na _ _ _ _ (by decide)]
  · rw [fD 136 (by decide)]; exact c7
  · rw [fD 140 (by decide), c8 j hj, fB 140 (by omega) (by omega) (by omega) (by omega)]
  · rw [fD 140 (by decide)]; exact c9
  · rw [hD, fw_set_row, fw_set_row, fw_set_row, c3, hr']
end QF
