/-! ===== tokens of the model ===== -/
def MT (M : fw_Mem) (B : Nat → Nat) (n s e k : Nat) : Prop := n ≤ 600 ∧ (∀ i, i < n → B i < 256 ∧ M 147 i = nI (B i)) ∧ M 136 16 = nI n ∧ M 136 17 = nI e ∧ M 136 19 = nI s ∧ M 136 20 = nI e ∧ M 136 18 = nI (k - 1) ∧ M 136 21 = 0
/-- only the model's own cells of the token have changed -/
def MU (M M' : fw_Mem) : Prop := (∀ b, b ≠ 136 → M' b = M b) ∧ ∀ j, (j < 17 ∨ 20 < j) → M' 136 j = M 136 j
theorem MU.rf (M : fw_Mem) : MU M M := ⟨fun _ _ => rfl, fun _ _ => rfl⟩
theorem MU.tr {a b c : fw_Mem} (h : MU a b) (h2 : MU b c) : MU a c := ⟨fun x hx => (h2.1 x hx).trans (h.1 x hx), fun j hj => (h2.2 j hj).trans (h.2 j hj)⟩
theorem MU.st (M : fw_Mem) {j : Nat} (h1 : 17 ≤ j) (h2 : j < 21) (v : Int32) : MU M (fw_set M 136 j v) := ⟨fun b hb => set_nr _ _ _ hb, fun i hi => set_nk _ _ _ _ (by omega)⟩
theorem kc_mo {m m' : fw_Mem} (h : KC m) (hf : ∀ b, b ≠ 136 → b ≠ 138 → m' b = m b) (h0 : ∀ j, j < 15 → m' 136 j = m 136 j) : KC m' := by
  intro q hq
  rw [← h q hq]
  have hz : (kcl.all fun q => (!(q.1 == 136) || decide (q.2.1 < 15)) && !(q.1 == 138)) = true := by decide +kernel
  have := List.all_eq_true.mp hz q hq
  simp only [Bool.and_eq_true, Bool.or_eq_true, Bool.not_eq_true', beq_eq_false_iff_ne, ne_eq, decide_eq_true_eq] at this
  by_cases h1 : q.1 = 136
  · rw [h1]; exact h0 _ (this.1.resolve_left fun z => z h1)
  · rw [hf q.1 h1 this.2]
theorem MU.kc {M M' : fw_Mem} (f : MU M M') (h : KC M) : KC M' := kc_mo h (fun b b1 _ => f.1 b b1) fun j hj => f.2 j (by omega)
theorem e_small (S : List fw_Sh) (M : fw_Mem) : ∀ b, b < 256 → f_X10_isSmall S M (nI b) = some (if bk b = 2 then 1 else 0) := by
  intro b hb
  have : ∀ b, b < 256 → (if nI b < 97 then some (0 : Int32) else if (122 : Int32) < nI b then some 0 else some 1) = some (if bk b = 2 then 1 else 0) := by decide +kernel
  exact this b hb
theorem e_figure (S : List fw_Sh) (M : fw_Mem) : ∀ b, b < 256 → f_X10_isFigure S M (nI b) = some (if bk b = 3 then 1 else 0) := by
  intro b hb
  have : ∀ b, b < 256 → (if nI b < 48 then some (0 : Int32) else if (57 : Int32) < nI b then some 0 else some 1) = some (if bk b = 3 then 1 else 0) := by decide +kernel
  exact this b hb
theorem e_blank : ∀ b, b < 256 → (bk b = 1 ↔ (nI b = 32 ∨ nI b = 10)) := by decide +kernel
theorem nI_ne1 : ∀ b, b < 256 → ¬ nI b = (-1 : Int32) := by decide +kernel
section MA
variable {M : fw_Mem} {B : Nat → Nat} {n : Nat}
theorem m_byte (h : KC M) (hn : n ≤ 600) (hb : ∀ i, i < n → B i < 256 ∧ M 147 i = nI (B i)) (h2 : M 136 16 = nI n) {e : Nat} (he : e < n) : f_X10_byteAt st_S M 136 (nI e) = some (nI (B e)) := by
  have hlt : ¬ nI n ≤ nI e := nI_ge he (by omega)
  simp only [f_X10_byteAt, gO_136, gd_tt, h2, if_neg hlt, kc_136_14 h, gN_147, tn_147, gA_147 (show e < 600 by omega), nI_cl (show e < 2147483648 by omega), (hb e he).2]
theorem m_byteN (h2 : M 136 16 = nI n) {e : Nat} (he : n ≤ e) (hn : e < 2147483648) : f_X10_byteAt st_S M 136 (nI e) = some (-1) := by
  have hlt : nI n ≤ nI e := nI_le he (by omega)
  simp only [f_X10_byteAt, gO_136, gd_tt, h2, if_pos hlt]
theorem m_skip (h : KC M) (hn : n ≤ 600) (hb : ∀ i, i < n → B i < 256 ∧ M 147 i = nI (B i)) (h2 : M 136 16 = nI n) : ∀ d e (m : fw_Mem) k, n - e = d → e ≤ n → d < k → MU M m → m 136 17 = nI e → ∃ m', lf_X10_step_0 st_S 136 k m = some m' ∧ MU M m' ∧ m' 136 17 = nI (nxS B n e) := by
  intro d
  induction d with
  | zero =>
    intro e m k hd he hk f h4
    obtain ⟨k', rfl⟩ : ∃ k', k = k' + 1 := ⟨k - 1, by omega⟩
    have e2 : m 136 16 = nI n := by rw [f.2 16 (by omega)]; exact h2
    have q1 : ¬ (-1 : Int32) = 32 := by decide
    have q2 : ¬ (-1 : Int32) = 10 := by decide
    refine ⟨m, by simp only [lf_X10_step_0, gO_136, gd_tt, h4, m_byteN e2 (show n ≤ e by omega) (by omega), b1_s, if_neg q1, if_neg q2], f, ?_⟩
    rw [nxS, run_end (by omega)]; exact h4
  | succ d ih =>
    intro e m k hd he hk f h4
    obtain ⟨k', rfl⟩ : ∃ k', k = k' + 1 := ⟨k - 1, by omega⟩
    have e2 : m 136 16 = nI n := by rw [f.2 16 (by omega)]; exact h2
    have km := f.kc h
    have hb' : ∀ i, i < n → B i < 256 ∧ m 147 i = nI (B i) := fun i hi => by rw [f.1 147 (by omega)]; exact hb i hi
    have eb := m_byte km hn hb' e2 (show e < n by omega)
    have b1 := (hb e (by omega)).1
    by_cases hk1 : bk (B e) = 1
    · obtain ⟨m', x1, x2, x3⟩ := ih (e + 1) (fw_set m 136 17 (nI (e + 1))) k' (by omega) (by omega) (by omega) (f.tr (MU.st m (by omega) (by omega) _)) (set_eq _ _ _ _)
      refine ⟨m', ?_, x2, ?_⟩
      · rw [← x1]
        simp only [lf_X10_step_0, gO_136, gd_tt, h4, eb, b1_s, nI_1, bm_s]
        rcases (e_blank _ b1).mp hk1 with q | q
        · rw [if_pos q]
        · rw [if_neg (by rw [q]; decide), if_pos q]
      · rw [x3, nxS, nxS, run_step ⟨by omega, hk1⟩]
    · refine ⟨m, ?_, f, ?_⟩
      · simp only [lf_X10_step_0, gO_136, gd_tt, h4, eb, b1_s]
        rw [if_neg fun q => hk1 ((e_blank _ b1).mpr (Or.inl q)), if_neg fun q => hk1 ((e_blank _ b1).mpr (Or.inr q))]
      · rw [nxS, run_end (fun q => hk1 q.2)]; exact h4
theorem m_word (h : KC M) (hn : n ≤ 600) (hb : ∀ i, i < n → B i < 256 ∧ M 147 i = nI (B i)) (h2 : M 136 16 = nI n) : ∀ d e (m : fw_Mem) k, n - e = d → e ≤ n → d < k → MU M m → m 136 17 = nI e → ∃ m', lf_X10_step_76 st_S 136 k m = some m' ∧ MU M m' ∧ m' 136 17 = nI (run B n 2 n e) ∧ m' 136 19 = m 136 19 := by
  intro d
  induction d with
  | zero =>
    intro e m k hd he hk f h4
    obtain ⟨k', rfl⟩ : ∃ k', k = k' + 1 := ⟨k - 1, by omega⟩
    have e2 : m 136 16 = nI n := by rw [f.2 16 (by omega)]; exact h2
    have q1 : f_X10_isSmall st_S m (-1) = some 0 := rfl
    refine ⟨m, by simp only [lf_X10_step_76, gO_136, gd_tt, h4, m_byteN e2 (show n ≤ e by omega) (by omega), b1_s, q1, if_true], f, ?_, rfl⟩
    rw [run_end (by omega)]; exact h4
  | succ d ih =>
    intro e m k hd he hk f h4
    obtain ⟨k', rfl⟩ : ∃ k', k = k' + 1 := ⟨k - 1, by omega⟩
    have e2 : m 136 16 = nI n := by rw [f.2 16 (by omega)]; exact h2
    have km := f.kc h
    have hb' : ∀ i, i < n → B i < 256 ∧ m 147 i = nI (B i) := fun i hi => by rw [f.1 147 (by omega)]; exact hb i hi
    have eb := m_byte km hn hb' e2 (show e < n by omega)
    have b1 := (hb e (by omega)).1
    by_cases hk1 : bk (B e) = 2
    · obtain ⟨m', x1, x2, x3, x4⟩ := ih (e + 1) (fw_set m 136 17 (nI (e + 1))) k' (by omega) (by omega) (by omega) (f.tr (MU.st m (by omega) (by omega) _)) (set_eq _ _ _ _)
      refine ⟨m', ?_, x2, ?_, ?_⟩
      · rw [← x1]
        have n10 : ¬ (1 : Int32) = 0 := by decide
        simp only [lf_X10_step_76, gO_136, gd_tt, h4, eb, b1_s, e_small st_S m _ b1, if_pos hk1, if_neg n10, nI_1, bm_s]
      · rw [x3, run_step ⟨by omega, hk1⟩]
      · rw [x4, set_nk _ _ _ _ (by decide)]
    · refine ⟨m, ?_, f, ?_, rfl⟩
      · simp only [lf_X10_step_76, gO_136, gd_tt, h4, eb, b1_s, e_small st_S m _ b1, if_neg hk1, if_true]
      · rw [run_end (fun q => hk1 q.2)]; exact h4
theorem m_figs (h : KC M) (hn : n ≤ 600) (hb : ∀ i, i < n → B i < 256 ∧ M 147 i = nI (B i)) (h2 : M 136 16 = nI n) : ∀ d e (m : fw_Mem) k, n - e = d → e ≤ n → d < k → MU M m → m 136 17 = nI e → ∃ m', lf_X10_step_118 st_S 136 k m = some m' ∧ MU M m' ∧ m' 136 17 = nI (run B n 3 n e) ∧ m' 136 19 = m 136 19 := by
  intro d
  induction d with
  | zero =>
    intro e m k hd he hk f h4
    obtain ⟨k', rfl⟩ : ∃ k', k = k' + 1 := ⟨k - 1, by omega⟩
    have e2 : m 136 16 = nI n := by rw [f.2 16 (by omega)]; exact h2
    have q1 : f_X10_isFigure st_S m (-1) = some 0 := rfl
    refine ⟨m, by simp only [lf_X10_step_118, gO_136, gd_tt, h4, m_byteN e2 (show n ≤ e by omega) (by omega), b1_s, q1, if_true], f, ?_, rfl⟩
    rw [run_end (by omega)]; exact h4
  | succ d ih =>
    intro e m k hd he hk f h4
    obtain ⟨k', rfl⟩ : ∃ k', k = k' + 1 := ⟨k - 1, by omega⟩
    have e2 : m 136 16 = nI n := by rw [f.2 16 (by omega)]; exact h2
    have km := f.kc h
    have hb' : ∀ i, i < n → B i < 256 ∧ m 147 i = nI (B i) := fun i hi => by rw [f.1 147 (by omega)]; exact hb i hi
    have eb := m_byte km hn hb' e2 (show e < n by omega)
    have b1 := (hb e (by omega)).1
    by_cases hk1 : bk (B e) = 3
    · obtain ⟨m', x1, x2, x3, x4⟩ := ih (e + 1) (fw_set m 136 17 (nI (e + 1))) k' (by omega) (by omega) (by omega) (f.tr (MU.st m (by omega) (by omega) _)) (set_eq _ _ _ _)
      refine ⟨m', ?_, x2, ?_, ?_⟩
      · rw [← x1]
        have n10 : ¬ (1 : Int32) = 0 := by decide
        simp only [lf_X10_step_118, gO_136, gd_tt, h4, eb, b1_s, e_figure st_S m _ b1, if_pos hk1, if_neg n10, nI_1, bm_s]
      · rw [x3, run_step ⟨by omega, hk1⟩]
      · rw [x4, set_nk _ _ _ _ (by decide)]
    · refine ⟨m, ?_, f, ?_, rfl⟩
      · simp only [lf_X10_step_118, gO_136, gd_tt, h4, eb, b1_s, e_figure st_S m _ b1, if_neg hk1, if_true]
      · rw [run_end (fun q => hk1 q.2)]; exact h4
/-- the model goes on by one token: from any place e of look -/
theorem m_step (h : KC M) (hn : n ≤ 600) (hb : ∀ i, i < n → B i < 256 ∧ M 147 i = nI (B i)) (h2 : M 136 16 = nI n) (h21 : M 136 21 = 0) {e : Nat} (h17 : M 136 17 = nI e) (he : e ≤ n) : ∃ M', f_X10_step st_S M 136 = some M' ∧ MU M M' ∧ MT M' B n (nxS B n e) (nxE B n e) (nxK B n e) := by
  obtain ⟨⟨g1, g2, g3, g4, g5, g6⟩, g7, g8⟩ := nx_tk (B := B) he
  obtain ⟨m1, x1, x2, x3⟩ := m_skip h hn hb h2 (n - e) e M 20000 rfl he (by omega) (MU.rf M) h17
  obtain ⟨m2, hm2⟩ : ∃ m, m = fw_set m1 136 19 (nI (nxS B n e)) := ⟨_, rfl⟩
  have f2 : MU M m2 := by rw [hm2]; exact x2.tr (MU.st m1 (by omega) (by omega) _)
  have k2 := f2.kc h
  have e16 : m2 136 16 = nI n := by rw [f2.2 16 (by omega)]; exact h2
  have e17 : m2 136 17 = nI (nxS B n e) := by rw [hm2, set_nk _ _ _ _ (by decide)]; exact x3
  have e19 : m2 136 19 = nI (nxS B n e) := by rw [hm2, set_eq]
  have hb2 : ∀ i, i < n → B i < 256 ∧ m2 147 i = nI (B i) := fun i hi => by rw [f2.1 147 (by omega)]; exact hb i hi
  have fin : ∀ m' : fw_Mem, MU M m' → m' 136 17 = nI (nxE B n e) → m' 136 19 = nI (nxS B n e) → ∀ t, t = nI (nxK B n e - 1) → MU M (fw_set (fw_set m' 136 18 t) 136 20 (nI (nxE B n e))) ∧ MT (fw_set (fw_set m' 136 18 t) 136 20 (nI (nxE B n e))) B n (nxS B n e) (nxE B n e) (nxK B n e) := by
    intro m' t1 t2 t3 t ht
    have t4 : MU M (fw_set (fw_set m' 136 18 t) 136 20 (nI (nxE B n e))) := (t1.tr (MU.st m' (by omega) (by omega) _)).tr (MU.st _ (by omega) (by omega) _)
    refine ⟨t4, hn, fun i hi => by rw [t4.1 147 (by omega)]; exact hb i hi, by rw [t4.2 16 (by omega)]; exact h2, ?_, ?_, set_eq _ _ _ _, ?_, by rw [t4.2 21 (by omega)]; exact h21⟩
    · rw [set_nk _ _ _ _ (by decide), set_nk _ _ _ _ (by decide)]; exact t2
    · rw [set_nk _ _ _ _ (by decide), set_nk _ _ _ _ (by decide)]; exact t3
    · rw [set_nk _ _ _ _ (by decide), set_eq, ht]
  have n10 : ¬ (1 : Int32) = 0 := by decide
  by_cases hs : nxS B n e < n
  · have hk : nxK B n e = bk (B (nxS B n e)) := if_pos hs
    have b1 := (hb2 _ hs).1
    have eb := m_byte k2 hn hb2 e16 hs
    have nn := nI_ne1 _ b1
    by_cases k2' : nxK B n e = 2
    · have hE : nxE B n e = run B n 2 n (nxS B n e) := by unfold nxE; rw [if_neg (by omega), if_neg (by omega), k2']
      have hkb : bk (B (nxS B n e)) = 2 := by omega
      obtain ⟨m3, y1, y2, y3, y4⟩ := m_word h hn hb h2 (n - nxS B n e) (nxS B n e) m2 20000 rfl (by omega) (by omega) f2 e17
      rw [← hE] at y3
      obtain ⟨z1, z2⟩ := fin m3 y2 y3 (y4.trans e19) 1 (by rw [k2']; rfl)
      refine ⟨_, ?_, z1, z2⟩
      simp only [f_X10_step, x1, b1_s, gO_136, gd_tt, x3, bm_s]
      rw [← hm2]
      simp only [e17, eb, b1_s, if_neg nn, e_small st_S m2 _ b1, if_pos hkb, if_neg n10, y1, bm_s, set_nk _ _ _ _ (show (17 : Nat) ≠ 18 by decide), y3]
    · have hkb : ¬ bk (B (nxS B n e)) = 2 := by omega
      by_cases k3' : nxK B n e = 3
      · have hE : nxE B n e = run B n 3 n (nxS B n e) := by unfold nxE; rw [if_neg (by omega), if_neg (by omega), k3']
        have hkc : bk (B (nxS B n e)) = 3 := by omega
        obtain ⟨m3, y1, y2, y3, y4⟩ := m_figs h hn hb h2 (n - nxS B n e) (nxS B n e) m2 20000 rfl (by omega) (by omega) f2 e17
        rw [← hE] at y3
        obtain ⟨z1, z2⟩ := fin m3 y2 y3 (y4.trans e19) 2 (by rw [k3']; rfl)
        refine ⟨_, ?_, z1, z2⟩
        simp only [f_X10_step, x1, b1_s, gO_136, gd_tt, x3, bm_s]
        rw [← hm2]
        simp only [e17, eb, b1_s, if_neg nn, e_small st_S m2 _ b1, if_neg hkb, if_true, e_figure st_S m2 _ b1, if_pos hkc, if_neg n10, y1, bm_s, set_nk _ _ _ _ (show (17 : Nat) ≠ 18 by decide), y3]
      · have hkc : ¬ bk (B (nxS B n e)) = 3 := by omega
        have k4' : nxK B n e = 4 := by have := bk_lt (B (nxS B n e)); have : nxK B n e ≠ 1 := by omega
                                       omega
        have hE := (g5 k4').1
        obtain ⟨z1, z2⟩ := fin (fw_set m2 136 17 (nI (nxE B n e))) (f2.tr (MU.st m2 (by omega) (by omega) _)) (set_eq _ _ _ _) (by rw [set_nk _ _ _ _ (by decide)]; exact e19) 3 (by rw [k4']; rfl)
        refine ⟨_, ?_, z1, z2⟩
        simp only [f_X10_step, x1, b1_s, gO_136, gd_tt, x3, bm_s]
        rw [← hm2]
        simp only [e17, eb, b1_s, if_neg nn, e_small st_S m2 _ b1, if_neg hkb, if_true, e_figure st_S m2 _ b1, if_neg hkc, bm_s, set_nk _ _ _ _ (show (17 : Nat) ≠ 18 by decide), set_eq, nI_1, hE]
  · have hk : nxK B n e = 0 := if_neg hs
    have hE : nxE B n e = nxS B n e := by unfold nxE; rw [if_pos hk]
    have hsn : nxS B n e = n := by omega
    obtain ⟨z1, z2⟩ := fin m2 f2 (by rw [hE]; exact e17) e19 0 (by rw [hk]; rfl)
    refine ⟨_, ?_, z1, z2⟩
    simp only [f_X10_step, x1, b1_s, gO_136, gd_tt, x3, bm_s]
    rw [← hm2]
    simp only [e17, m_byteN e16 (show n ≤ nxS B n e by omega) (by omega), b1_s, if_true, bm_s, set_nk _ _ _ _ (show (17 : Nat) ≠ 18 by decide), hE]
theorem m_pass (h : KC M) {s e k : Nat} (c : MT M B n s e k) (he : e ≤ n) : ∃ M', f_X10_pass st_S M 136 = some M' ∧ MU M M' ∧ MT M' B n (nxS B n e) (nxE B n e) (nxK B n e) := by
  obtain ⟨hn, hb, h2, h17, h19, h20, h18, h21⟩ := c
  obtain ⟨M', x1, x2⟩ := m_step h hn hb h2 h21 h17 he
  exact ⟨M', by simp only [f_X10_pass, gO_136, gd_tt, h21, if_true, x1, b1_s], x2⟩
end MA
