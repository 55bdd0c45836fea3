/-! ===== questions that change nothing ===== -/
theorem i10 : ((1 : Int32) = 0) = False := by decide
theorem i00 : ((0 : Int32) = 0) = True := by decide
theorem mc_ff (M : fw_Mem) (v k : Int32) : MC M (fw_set (fw_set M 136 6 v) 136 6 k) k := by rw [set_set]; exact mf_set M k
section MQ
variable {M : fw_Mem} {r : Nat → Int32} {P L N s : Nat} {x : Int32}
theorem ms_ok (h : KC M) (e : M 137 = r) (w : WF r P L N) (hs : s < N) : f_X10_isSuit st_S M 136 (nI s) = some 1 := m_isSuit h (by rw [e]; exact w) hs
theorem ms_no (h : KC M) (e : M 137 = r) (w : WF r P L N) (hx : ¬ ∃ s, s < N ∧ x = nI s) : f_X10_isSuit st_S M 136 x = some 0 := m_suitNo h (by rw [e]; exact w) hx
theorem mp_ok (h : KC M) (e : M 137 = r) (w : WF r P L N) (hs : s < P) : f_X10_isPerson st_S M 136 (nI s) = some 1 := m_isPerson h (by rw [e]; exact w) hs
theorem mp_no (h : KC M) (e : M 137 = r) (w : WF r P L N) (hx : ¬ ∃ s, s < P ∧ x = nI s) : f_X10_isPerson st_S M 136 x = some 0 := m_personNo h (by rw [e]; exact w) hx
theorem m_lay0 (h : KC M) (e : M 137 = r) (w : WF r P L N) : ∃ M', f_X10_layBound st_S (fw_set M 136 6 0) 136 = some M' ∧ MC M M' 0 ∧ M' 137 = r ∧ KC M' ∧ (∀ k, k < 2 * N → M' 141 k = BDr r L k) ∧ KC (fw_set M 136 6 0) ∧ fw_set M 136 6 0 137 = r := by
  have e0 : fw_set M 136 6 0 137 = r := by rw [s137, e]
  obtain ⟨M', h1, h2, h3, h4, h5, h6⟩ := m_lay (kc_136 h 0) (by rw [e0]; exact w)
  rw [e0] at h3 h6
  exact ⟨M', h1, ⟨(mf_set M 0).1.tr h2, by rw [h4]; exact set_eq _ _ _ _⟩, h3, h5, h6, kc_136 h 0, e0⟩
theorem mb_bars {B : fw_Mem} (h : KC B) (e : B 137 = r) (w : WF r P L N) (hB : ∀ k, k < 2 * N → B 141 k = BDr r L k) (hs : s < N) : f_X10_barsOf st_S B 136 (nI s) = some (z_bars (r 3) (r 4) (nI s) (sq r s) (sq r) (BDr r L) N) := by
  have n := w.n
  rw [e_barsOf h (N := N) (by rw [e]; exact w.2.1.2.2) (by omega) (by omega), e, m_bars_eq n hB]
theorem mb_held {B : fw_Mem} (h : KC B) (e : B 137 = r) (w : WF r P L N) (hB : ∀ k, k < 2 * N → B 141 k = BDr r L k) (hs : s < N) : f_X10_heldOf st_S B 136 (nI s) = some (z_held (sq r s) (z_h r L N (nI s) (sq r s))) := by
  have n := w.n
  rw [e_heldOf h (N := N) (by rw [e]; exact w.2.1.2.2) (by omega) (by omega), e, m_hof_eq hB]
theorem mb_yes {B : fw_Mem} (h : KC B) (e : B 137 = r) (w : WF r P L N) (hB : ∀ k, k < 2 * N → B 141 k = BDr r L k) (hs : s < N) : f_X10_heldYesOf st_S B 136 (nI s) = some (z_yes (sq r s) (z_h r L N (nI s) (sq r s)) (z_y r)) := by
  have n := w.n
  rw [e_heldYesOf h (N := N) (by rw [e]; exact w.2.1.2.2) (by omega) (by omega), e, m_hof_eq hB]
theorem mb_ho {B : fw_Mem} (h : KC B) (e : B 137 = r) (w : WF r P L N) (hB : ∀ k, k < 2 * N → B 141 k = BDr r L k) (hs : s < N) (t : Nat) : f_X10_holderOf st_S B 136 (nI s) (nI t) = some (oI (z_h r L N (nI s) (sq r s) t)) := by
  have n := w.n
  rw [e_holderOf h (N := N) (by rw [e]; exact w.2.1.2.2) (by omega) (by omega), e, m_hof_eq hB]
theorem mb_forced {B : fw_Mem} (h : KC B) (e : B 137 = r) (w : WF r P L N) (hB : ∀ k, k < 2 * N → B 141 k = BDr r L k) (hs : s < N) : f_X10_forcedOf st_S B 136 (nI s) = some (z_fc (sq r s) (z_bars (r 3) (r 4) (nI s) (sq r s) (sq r) (BDr r L) N) (z_held (sq r s) (z_h r L N (nI s) (sq r s))) (z_yes (sq r s) (z_h r L N (nI s) (sq r s)) (z_y r))) := by
  have n := w.n
  rw [e_forcedOf h (N := N) (by rw [e]; exact w.2.1.2.2) (by omega) (by omega), e, m_hof_eq hB, m_bars_eq n hB]
theorem m_barred (h : KC M) (e : M 137 = r) (w : WF r P L N) (hs : s < N) : ∃ M2, f_X10_barred st_S M 136 (nI s) = some (z_bars (r 3) (r 4) (nI s) (sq r s) (sq r) (BDr r L) N, M2) ∧ MC M M2 0 := by
  obtain ⟨B, h1, h2, h3, h4, h5, h6, h7⟩ := m_lay0 h e w
  exact ⟨B, by simp only [f_X10_barred, gO_136, gd_tt, bm_s, ms_ok h6 h7 w hs, b1_s, i10, if_false, h1, mb_bars h4 h3 w h5 hs], h2⟩
theorem m_barredNo (h : KC M) (e : M 137 = r) (w : WF r P L N) (hx : ¬ ∃ s, s < N ∧ x = nI s) : ∃ b M2, f_X10_barred st_S M 136 x = some (b, M2) ∧ MC M M2 1 := by
  obtain ⟨B, h1, h2, h3, h4, h5, h6, h7⟩ := m_lay0 h e w
  exact ⟨0, _, by simp only [f_X10_barred, gO_136, gd_tt, bm_s, ms_no h6 h7 w hx, b1_s, i00, if_true, m_fail, b2_s], mc_ff M 0 1⟩
theorem m_forced (h : KC M) (e : M 137 = r) (w : WF r P L N) (hs : s < N) : ∃ M2, f_X10_forced st_S M 136 (nI s) = some (z_fc (sq r s) (z_bars (r 3) (r 4) (nI s) (sq r s) (sq r) (BDr r L) N) (z_held (sq r s) (z_h r L N (nI s) (sq r s))) (z_yes (sq r s) (z_h r L N (nI s) (sq r s)) (z_y r)), M2) ∧ MC M M2 0 := by
  obtain ⟨B, h1, h2, h3, h4, h5, h6, h7⟩ := m_lay0 h e w
  exact ⟨B, by simp only [f_X10_forced, gO_136, gd_tt, bm_s, ms_ok h6 h7 w hs, b1_s, i10, if_false, h1, mb_forced h4 h3 w h5 hs], h2⟩
theorem m_forcedNo (h : KC M) (e : M 137 = r) (w : WF r P L N) (hx : ¬ ∃ s, s < N ∧ x = nI s) : ∃ b M2, f_X10_forced st_S M 136 x = some (b, M2) ∧ MC M M2 1 := by
  obtain ⟨B, h1, h2, h3, h4, h5, h6, h7⟩ := m_lay0 h e w
  exact ⟨0, _, by simp only [f_X10_forced, gO_136, gd_tt, bm_s, ms_no h6 h7 w hx, b1_s, i00, if_true, m_fail, b2_s], mc_ff M 0 1⟩
end MQ
section Q1
variable {M : fw_Mem}
theorem CR.at' {r : Nat → Int32} {L N s : Nat} (h : KC M) (c : CR M r L N) (hN : N ≤ 10) (hs : s < N) : gO st_S 6 (32 + s) = true ∧ M (32 + s) 0 = nI s ∧ cq M (32 + s) = sq r s := ⟨gO_s3 s (by omega), kc_n3 h (by omega), (c.2 s hs).1⟩
theorem q_barred (I : INV M) (x : Int32) : QOK (f_L_barred st_S M 0 x 148) (fun M1 => f_X10_barred st_S M1 136 x) := by
  obtain ⟨P, L, N, A, T, U, hh, h, w, pp, r3, c, -⟩ := id I
  by_cases hx : ∃ s, s < N ∧ x = nI s
  · obtain ⟨s, hs, rfl⟩ := hx
    obtain ⟨hg, e0, eq⟩ := c.at' h w.n hs
    have hb := c_bars h w c hg
    rw [e0, eq] at hb
    exact qok0 I (by simp only [f_L_barred, f_X9_barred, gO_0, gd_tt, kc_0_5 h, gN_121, tn_121, gO_121, c_suitAt h c.1.1 w.n hs, b1_s, bxl, bn_s, hb, gA_148_0, bm_s]) ((AG.rf M).st 148 0 _ rfl) (set_eq _ _ _ _) (fun k1 e => m_barred k1 e w hs)
  · exact qok1 I (by decide) (by simp only [f_L_barred, f_X9_barred, gO_0, gd_tt, kc_0_5 h, gN_121, c_suitNo h c.1.1 w.n hx, b1_s, bxr, if_true]) (AG.rf M) (fun k1 e => m_barredNo k1 e w hx)
theorem q_forced (I : INV M) (x : Int32) : QOK (f_L_forced st_S M 0 x 148) (fun M1 => f_X10_forced st_S M1 136 x) := by
  obtain ⟨P, L, N, A, T, U, hh, h, w, pp, r3, c, -⟩ := id I
  by_cases hx : ∃ s, s < N ∧ x = nI s
  · obtain ⟨s, hs, rfl⟩ := hx
    have n := w.n
    obtain ⟨hg, e0, eq⟩ := c.at' h w.n hs
    obtain ⟨M', hb, hf⟩ := c_forced h w c hg (by omega) (by rw [eq]; exact (w.q hs).qq w.1.1)
    rw [e0, eq] at hb
    exact qok0 I (by simp only [f_L_forced, f_X9_forced, gO_0, gd_tt, kc_0_5 h, gN_121, tn_121, gO_121, c_suitAt h c.1.1 w.n hs, b1_s, b2_s, bxl, bn_s, hb, gA_148_0, bm_s]) (hf.ag.st 148 0 _ rfl) (set_eq _ _ _ _) (fun k1 e => m_forced k1 e w hs)
  · exact qok1 I (by decide) (by simp only [f_L_forced, f_X9_forced, gO_0, gd_tt, kc_0_5 h, gN_121, c_suitNo h c.1.1 w.n hx, b1_s, b2_s, bxr, if_true]) (AG.rf M) (fun k1 e => m_forcedNo k1 e w hx)
end Q1
