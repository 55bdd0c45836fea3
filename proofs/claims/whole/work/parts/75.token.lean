/-! ===== tokens: one reading of the bytes, both sides ===== -/
def bk (b : Nat) : Nat := if b = 32 ∨ b = 10 then 1 else if 97 ≤ b ∧ b ≤ 122 then 2 else if 48 ≤ b ∧ b ≤ 57 then 3 else 4
def run (B : Nat → Nat) (n k : Nat) : Nat → Nat → Nat
  | 0, e => e
  | d + 1, e => if e < n ∧ bk (B e) = k then run B n k d (e + 1) else e
def nxS (B : Nat → Nat) (n e : Nat) : Nat := run B n 1 n e
def nxK (B : Nat → Nat) (n e : Nat) : Nat := if nxS B n e < n then bk (B (nxS B n e)) else 0
def nxE (B : Nat → Nat) (n e : Nat) : Nat := if nxK B n e = 0 then nxS B n e else if nxK B n e = 4 then nxS B n e + 1 else run B n (nxK B n e) n (nxS B n e)
theorem run_ge (B : Nat → Nat) (n k : Nat) : ∀ d e, e ≤ run B n k d e
  | 0, _ => Nat.le_refl _
  | d + 1, e => by
    rw [run]
    split
    · have := run_ge B n k d (e + 1); omega
    · exact Nat.le_refl _
theorem run_le (B : Nat → Nat) (n k : Nat) : ∀ d e, e ≤ n → run B n k d e ≤ n
  | 0, _, h => h
  | d + 1, e, h => by
    rw [run]
    split
    · rename_i q; exact run_le B n k d (e + 1) (by omega)
    · exact h
theorem run_in (B : Nat → Nat) (n k : Nat) : ∀ d e i, e ≤ i → i < run B n k d e → bk (B i) = k
  | 0, e, i, h1, h2 => by rw [run] at h2; omega
  | d + 1, e, i, h1, h2 => by
    rw [run] at h2
    split at h2
    · rename_i q
      by_cases e1 : i = e
      · rw [e1]; exact q.2
      · exact run_in B n k d (e + 1) i (by omega) h2
    · omega
theorem run_stop (B : Nat → Nat) (n k : Nat) : ∀ d e, n ≤ e + d → ¬ (run B n k d e < n ∧ bk (B (run B n k d e)) = k)
  | 0, e, h => by rw [run]; omega
  | d + 1, e, h => by
    rw [run]
    split
    · exact run_stop B n k d (e + 1) (by omega)
    · rename_i q; exact q
theorem run_fuel (B : Nat → Nat) (n k : Nat) : ∀ d e, n ≤ e + d → run B n k (d + 1) e = run B n k d e
  | 0, e, h => by rw [run, run, if_neg (by omega)]
  | d + 1, e, h => by
    rw [run]
    split
    · rename_i q
      rw [run_fuel B n k d (e + 1) (by omega)]
      conv => rhs; rw [run, if_pos q]
    · rename_i q
      rw [run, if_neg q]
theorem run_step {B : Nat → Nat} {n k e : Nat} (q : e < n ∧ bk (B e) = k) : run B n k n e = run B n k n (e + 1) := by
  obtain ⟨d, rfl⟩ : ∃ d, n = d + 1 := ⟨n - 1, by omega⟩
  rw [run, if_pos q, ← run_fuel B (d + 1) k d (e + 1) (by omega)]
theorem run_end {B : Nat → Nat} {n k e : Nat} (q : ¬ (e < n ∧ bk (B e) = k)) : run B n k n e = e := by
  cases n with
  | zero => rfl
  | succ d => rw [run, if_neg q]
def vC (B : Nat → Nat) (s : Nat) : Nat → Nat
  | 0 => 0
  | i + 1 => if vC B s i ≤ 9999 then vC B s i * 10 + (B (s + i) - 48) else vC B s i
def vM (B : Nat → Nat) (s : Nat) : Nat → Nat
  | 0 => 0
  | i + 1 => min 1000000 (10 * vM B s i + (B (s + i) - 48))
theorem v_rel {B : Nat → Nat} {s : Nat} : ∀ {i : Nat}, (∀ j, j < i → bk (B (s + j)) = 3) → (vC B s i = vM B s i ∨ (9999 < vC B s i ∧ 9999 < vM B s i)) ∧ vC B s i ≤ 99999 ∧ vM B s i ≤ 1000000
  | 0, _ => by simp [vC, vM]
  | i + 1, h => by
    obtain ⟨ih, h1, h2⟩ := v_rel (i := i) fun j hj => h j (by omega)
    have hd : 48 ≤ B (s + i) ∧ B (s + i) ≤ 57 := by
      have := h i (by omega)
      unfold bk at this
      split at this
      · omega
      · split at this
        · omega
        · split at this
          · assumption
          · omega
    rw [vC, vM]
    rcases ih with q | q
    · by_cases h9 : vC B s i ≤ 9999
      · rw [if_pos h9]
        refine ⟨Or.inl ?_, by omega, by omega⟩
        rw [← q]
        omega
      · rw [if_neg h9]
        refine ⟨Or.inr ⟨by omega, ?_⟩, h1, by omega⟩
        rw [← q]
        omega
    · rw [if_neg (by omega)]
      exact ⟨Or.inr ⟨q.1, by omega⟩, h1, by omega⟩
/-! the class's bytes and kinds -/
theorem sx_lo : ∀ b, b < 128 → sx b = nI b := by decide +kernel
def kI (x : Int32) : Int32 := if x = 32 then 1 else if x = 10 then 1 else if x < 97 then (if x < 48 then 4 else if (57 : Int32) < x then 4 else 3) else if (122 : Int32) < x then (if x < 48 then 4 else if (57 : Int32) < x then 4 else 3) else 2
theorem e_kind (S : List fw_Sh) (M : fw_Mem) (x : Int32) : f_X7_kindOf S M x = some (kI x) := by
  unfold f_X7_kindOf kI
  split
  · rfl
  · split
    · rfl
    · split
      · split
        · rfl
        · split <;> rfl
      · split
        · split
          · rfl
          · split <;> rfl
        · rfl
theorem kI_sx : ∀ b, b < 256 → kI (sx b) = nI (bk b) := by decide +kernel
theorem bk_lt (b : Nat) : bk b = 1 ∨ bk b = 2 ∨ bk b = 3 ∨ bk b = 4 := by
  unfold bk
  split
  · simp
  · split
    · simp
    · split <;> simp
/-- the bytes that both read -/
def BY (cb mb : Nat → Int32) (B : Nat → Nat) (n : Nat) : Prop := n ≤ 600 ∧ ∀ i, i < n → B i < 256 ∧ mb i = nI (B i) ∧ cb i = sx (B i)
/-- the class's tape stands at a token from s to e, of kind k, without a fault -/
def CT (M : fw_Mem) (B : Nat → Nat) (n s e k : Nat) (fa : Int32) : Prop := n ≤ 600 ∧ (∀ i, i < n → B i < 256 ∧ M 2 i = sx (B i)) ∧ M 1 2 = nI n ∧ M 1 4 = nI s ∧ M 1 5 = nI e ∧ M 1 3 = nI k ∧ M 1 7 = fa ∧ (k = 3 → M 1 6 = nI (vC B s (e - s))) ∧ (fa = 0 → M 1 8 = -1)
/-- a token that can be -/
def TK (B : Nat → Nat) (n s e k : Nat) : Prop := s ≤ e ∧ e ≤ n ∧ (k = 0 ∨ k = 2 ∨ k = 3 ∨ k = 4) ∧ (k = 0 → s = n ∧ e = n) ∧ (k = 4 → e = s + 1 ∧ bk (B s) = 4) ∧ (k = 2 ∨ k = 3 → s < e ∧ ∀ i, s ≤ i → i < e → bk (B i) = k)
theorem nx_tk {B : Nat → Nat} {n e : Nat} (he : e ≤ n) : TK B n (nxS B n e) (nxE B n e) (nxK B n e) ∧ e ≤ nxS B n e ∧ (nxK B n e ≠ 0 → e < nxE B n e) := by
  have h1 : e ≤ nxS B n e := run_ge B n 1 n e
  have h2 : nxS B n e ≤ n := run_le B n 1 n e he
  by_cases hs : nxS B n e < n
  · have hk : nxK B n e = bk (B (nxS B n e)) := if_pos hs
    have hk1 : nxK B n e ≠ 1 := fun q => run_stop B n 1 n e (by omega) ⟨hs, hk.symm.trans q⟩
    have hk4 := bk_lt (B (nxS B n e))
    rw [← hk] at hk4
    by_cases k4 : nxK B n e = 4
    · have hE : nxE B n e = nxS B n e + 1 := by unfold nxE; rw [if_neg (by omega), if_pos k4]
      refine ⟨⟨by omega, by omega, by omega, by omega, fun _ => ⟨hE, by rw [← hk]; exact k4⟩, by omega⟩, h1, by omega⟩
    · have hE : nxE B n e = run B n (nxK B n e) n (nxS B n e) := by unfold nxE; rw [if_neg (by omega), if_neg k4]
      have g1 : nxS B n e + 1 ≤ run B n (nxK B n e) n (nxS B n e) := by rw [run_step ⟨hs, hk.symm⟩]; exact run_ge B n _ n _
      have g2 : run B n (nxK B n e) n (nxS B n e) ≤ n := run_le B n _ n _ h2
      refine ⟨⟨by omega, by omega, by omega, by omega, by omega, fun _ => ⟨by omega, fun i i1 i2 => run_in B n _ n _ i i1 (by rw [← hE]; exact i2)⟩⟩, h1, by omega⟩
  · have hk : nxK B n e = 0 := if_neg hs
    have hE : nxE B n e = nxS B n e := by unfold nxE; rw [if_pos hk]
    refine ⟨⟨by omega, by omega, by omega, fun _ => ⟨by omega, by omega⟩, by omega, by omega⟩, h1, by omega⟩
/-- only the tape's own cells of the token have changed -/
def TF (M M' : fw_Mem) : Prop := (∀ b, b ≠ 1 → M' b = M b) ∧ ∀ j, (j < 3 ∨ 7 ≤ j) → M' 1 j = M 1 j
theorem TF.rf (M : fw_Mem) : TF M M := ⟨fun _ _ => rfl, fun _ _ => rfl⟩
theorem TF.tr {a b c : fw_Mem} (h : TF a b) (h2 : TF b c) : TF a c := ⟨fun x hx => (h2.1 x hx).trans (h.1 x hx), fun j hj => (h2.2 j hj).trans (h.2 j hj)⟩
theorem TF.st (M : fw_Mem) {j : Nat} (h1 : 3 ≤ j) (h2 : j < 7) (v : Int32) : TF M (fw_set M 1 j v) := ⟨fun b hb => set_nr _ _ _ hb, fun i hi => set_nk _ _ _ _ (by omega)⟩
theorem TF.kc {M M' : fw_Mem} (f : TF M M') (h : KC M) : KC M' := kc_tape h (fun b b1 _ => f.1 b b1) (f.2 0 (by omega))
section CA
variable {M : fw_Mem} {B : Nat → Nat} {n : Nat}
theorem c_skip (h : KC M) (hn : n ≤ 600) (hb : ∀ i, i < n → B i < 256 ∧ M 2 i = sx (B i)) (h2 : M 1 2 = nI n) : ∀ d e (m : fw_Mem) k, n - e = d → e ≤ n → d < k → TF M m → m 1 4 = nI e → ∃ m', lf_X7_advance_16 st_S 1 k m = some m' ∧ TF M m' ∧ m' 1 4 = nI (nxS B n e) := by
  intro d
  induction d with
  | zero =>
    intro e m k hd he hk f h4
    obtain ⟨k', rfl⟩ : ∃ k', k = k' + 1 := ⟨k - 1, by omega⟩
    have e2 : m 1 2 = nI n := by rw [f.2 2 (by omega)]; exact h2
    have hle : nI n ≤ nI e := nI_le (by omega) (by omega)
    refine ⟨m, by simp only [lf_X7_advance_16, gO_1, gd_tt, e2, h4, if_pos hle], f, ?_⟩
    rw [nxS, run_end (by omega)]; exact h4
  | succ d ih =>
    intro e m k hd he hk f h4
    obtain ⟨k', rfl⟩ : ∃ k', k = k' + 1 := ⟨k - 1, by omega⟩
    have e2 : m 1 2 = nI n := by rw [f.2 2 (by omega)]; exact h2
    have km := f.kc h
    have hlt : ¬ nI n ≤ nI e := nI_ge (by omega) (by omega)
    obtain ⟨b1, b2⟩ := hb e (by omega)
    have eb : m 2 e = sx (B e) := by rw [f.1 2 (by omega)]; exact b2
    by_cases hk1 : bk (B e) = 1
    · obtain ⟨m', x1, x2, x3⟩ := ih (e + 1) (fw_set m 1 4 (nI (e + 1))) k' (by omega) (by omega) (by omega) (f.tr (TF.st m (by omega) (by omega) _)) (set_eq _ _ _ _)
      refine ⟨m', ?_, x2, ?_⟩
      · rw [← x1]
        simp only [lf_X7_advance_16, gO_1, gd_tt, e2, h4, if_neg hlt, kc_1_0 km, gN_2, tn_2, gA_2 (show e < 600 by omega), nI_cl (show e < 2147483648 by omega), eb, e_kind, kI_sx _ b1, hk1, b1_s, show nI 1 = 1 from rfl, if_true, bm_s, nI_1]
      · rw [x3, nxS, nxS, run_step ⟨by omega, hk1⟩]
    · have hne : ¬ nI (bk (B e)) = 1 := fun q => hk1 ((nI_eq (b := 1) (by have := bk_lt (B e); omega) (by omega)).mp q)
      refine ⟨m, by simp only [lf_X7_advance_16, gO_1, gd_tt, e2, h4, if_neg hlt, kc_1_0 km, gN_2, tn_2, gA_2 (show e < 600 by omega), nI_cl (show e < 2147483648 by omega), eb, e_kind, kI_sx _ b1, b1_s, if_neg hne], f, ?_⟩
      rw [nxS, run_end (fun q => hk1 q.2)]; exact h4
theorem c_row (h : KC M) (hn : n ≤ 600) (hb : ∀ i, i < n → B i < 256 ∧ M 2 i = sx (B i)) (h2 : M 1 2 = nI n) {s k : Nat} (hk : k = 2 ∨ k = 3) : ∀ d e (m : fw_Mem) q, n - e = d → s ≤ e → e ≤ n → d < q → (∀ i, s ≤ i → i < e → bk (B i) = k) → TF M m → m 1 4 = nI s → m 1 3 = nI k → m 1 5 = nI e → m 1 6 = (if k = 3 then nI (vC B s (e - s)) else 0) → ∃ m', lf_X7_passRow_5 st_S 1 q m = some m' ∧ TF M m' ∧ m' 1 4 = nI s ∧ m' 1 3 = nI k ∧ m' 1 5 = nI (run B n k n e) ∧ m' 1 6 = (if k = 3 then nI (vC B s (run B n k n e - s)) else 0) := by
  intro d
  induction d with
  | zero =>
    intro e m q hd hse he hq hin f h4 h3 h5 h6
    obtain ⟨q', rfl⟩ : ∃ q', q = q' + 1 := ⟨q - 1, by omega⟩
    have e2 : m 1 2 = nI n := by rw [f.2 2 (by omega)]; exact h2
    have hle : nI n ≤ nI e := nI_le (by omega) (by omega)
    have hr : run B n k n e = e := run_end (by omega)
    rw [hr]
    exact ⟨m, by simp only [lf_X7_passRow_5, gO_1, gd_tt, e2, h5, if_pos hle], f, h4, h3, h5, h6⟩
  | succ d ih =>
    intro e m q hd hse he hq hin f h4 h3 h5 h6
    obtain ⟨q', rfl⟩ : ∃ q', q = q' + 1 := ⟨q - 1, by omega⟩
    have e2 : m 1 2 = nI n := by rw [f.2 2 (by omega)]; exact h2
    have km := f.kc h
    have hlt : ¬ nI n ≤ nI e := nI_ge (by omega) (by omega)
    obtain ⟨b1, b2⟩ := hb e (by omega)
    have eb : m 2 e = sx (B e) := by rw [f.1 2 (by omega)]; exact b2
    have hbk := bk_lt (B e)
    by_cases hk1 : bk (B e) = k
    · rw [run_step ⟨by omega, hk1⟩]
      have hin' : ∀ i, s ≤ i → i < e + 1 → bk (B i) = k := fun i i1 i2 => by
        by_cases e1 : i = e
        · rw [e1]; exact hk1
        · exact hin i i1 (by omega)
      rcases hk with rfl | rfl
      · obtain ⟨m', x1, x2⟩ := ih (e + 1) (fw_set m 1 5 (nI (e + 1))) q' (by omega) (by omega) (by omega) (by omega) hin' (f.tr (TF.st m (by omega) (by omega) _)) (by rw [set_nk _ _ _ _ (by decide)]; exact h4) (by rw [set_nk _ _ _ _ (by decide)]; exact h3) (set_eq _ _ _ _) (by rw [set_nk _ _ _ _ (by decide)]; simpa using h6)
        refine ⟨m', ?_, x2⟩
        rw [← x1]
        have n23 : ¬ nI 2 = (3 : Int32) := by decide
        simp only [lf_X7_passRow_5, gO_1, gd_tt, e2, h5, if_neg hlt, kc_1_0 km, gN_2, tn_2, gA_2 (show e < 600 by omega), nI_cl (show e < 2147483648 by omega), eb, e_kind, kI_sx _ b1, hk1, b1_s, h3, if_true, if_neg n23, bm_s, nI_1]
      · have hdg : 48 ≤ B e ∧ B e ≤ 57 := by
          unfold bk at hk1
          split at hk1
          · omega
          · split at hk1
            · omega
            · split at hk1
              · assumption
              · omega
        have ex : sx (B e) = nI (B e) := sx_lo _ (by omega)
        have eb' : m 2 e = nI (B e) := eb.trans ex
        have hkk : kI (nI (B e)) = 3 := by rw [← ex, kI_sx _ b1, hk1]; rfl
        simp only [if_true] at h6
        have hv := (v_rel (B := B) (s := s) (i := e - s) fun j hj => hin (s + j) (by omega) (by omega)).2.1
        have e6 : ∀ v, vC B s (e + 1 - s) = v → True := fun _ _ => trivial
        have hes : e + 1 - s = (e - s) + 1 := by omega
        have hsi : s + (e - s) = e := by omega
        by_cases h9 : vC B s (e - s) ≤ 9999
        · have hvn : vC B s (e + 1 - s) = vC B s (e - s) * 10 + (B e - 48) := by rw [hes, vC, if_pos h9, hsi]
          have hc : ¬ (9999 : Int32) < nI (vC B s (e - s)) := by rw [show (9999 : Int32) = nI 9999 from rfl, nI_ltI (by omega) (by omega)]; omega
          have hval : nI (vC B s (e - s)) * 10 + nI (B e) - 48 = nI (vC B s (e + 1 - s)) := by
            rw [hvn, show (10 : Int32) = nI 10 from rfl, nI_mul, nI_add, show (48 : Int32) = nI 48 from rfl, nI_sub (by omega)]
            congr 1
            omega
          obtain ⟨m', x1, x2⟩ := ih (e + 1) (fw_set (fw_set m 1 6 (nI (vC B s (e + 1 - s)))) 1 5 (nI (e + 1))) q' (by omega) (by omega) (by omega) (by omega) hin' ((f.tr (TF.st m (by omega) (by omega) _)).tr (TF.st _ (by omega) (by omega) _)) (by rw [set_nk _ _ _ _ (by decide), set_nk _ _ _ _ (by decide)]; exact h4) (by rw [set_nk _ _ _ _ (by decide), set_nk _ _ _ _ (by decide)]; exact h3) (set_eq _ _ _ _) (by rw [set_nk _ _ _ _ (by decide), set_eq]; simp)
          refine ⟨m', ?_, x2⟩
          rw [← x1]
          simp only [lf_X7_passRow_5, gO_1, gd_tt, e2, h5, if_neg hlt, kc_1_0 km, gN_2, tn_2, gA_2 (show e < 600 by omega), nI_cl (show e < 2147483648 by omega), eb', e_kind, hkk, b1_s, h3, if_true, show nI 3 = 3 from rfl, h6, if_neg hc, hval, bm_s, set_nk _ _ _ _ (show (5 : Nat) ≠ 6 by decide), nI_1]
        · have hvn : vC B s (e + 1 - s) = vC B s (e - s) := by rw [hes, vC, if_neg h9]
          have hc : (9999 : Int32) < nI (vC B s (e - s)) := by rw [show (9999 : Int32) = nI 9999 from rfl, nI_ltI (by omega) (by omega)]; omega
          obtain ⟨m', x1, x2⟩ := ih (e + 1) (fw_set m 1 5 (nI (e + 1))) q' (by omega) (by omega) (by omega) (by omega) hin' (f.tr (TF.st m (by omega) (by omega) _)) (by rw [set_nk _ _ _ _ (by decide)]; exact h4) (by rw [set_nk _ _ _ _ (by decide)]; exact h3) (set_eq _ _ _ _) (by rw [set_nk _ _ _ _ (by decide), hvn]; simpa using h6)
          refine ⟨m', ?_, x2⟩
          rw [← x1]
          simp only [lf_X7_passRow_5, gO_1, gd_tt, e2, h5, if_neg hlt, kc_1_0 km, gN_2, tn_2, gA_2 (show e < 600 by omega), nI_cl (show e < 2147483648 by omega), eb', e_kind, hkk, b1_s, h3, if_true, show nI 3 = 3 from rfl, h6, if_pos hc, bm_s, nI_1]
    · rw [run_end (fun z => hk1 z.2)]
      have hne : ¬ nI (bk (B e)) = nI k := fun z => hk1 ((nI_eq (by omega) (by omega)).mp z)
      exact ⟨m, by simp only [lf_X7_passRow_5, gO_1, gd_tt, e2, h5, if_neg hlt, kc_1_0 km, gN_2, tn_2, gA_2 (show e < 600 by omega), nI_cl (show e < 2147483648 by omega), eb, e_kind, kI_sx _ b1, b1_s, h3, if_neg hne], f, h4, h3, h5, h6⟩
/-- the class goes on by one token -/
theorem c_adv0 (h : KC M) {e : Nat} (hn : n ≤ 600) (hb : ∀ i, i < n → B i < 256 ∧ M 2 i = sx (B i)) (h2 : M 1 2 = nI n) (h5 : M 1 5 = nI e) (h7 : M 1 7 = 0) (h8 : M 1 8 = -1) (he : e ≤ n) : ∃ M', f_X7_advance st_S M 1 = some M' ∧ TF M M' ∧ CT M' B n (nxS B n e) (nxE B n e) (nxK B n e) 0 := by
  obtain ⟨⟨g1, g2, g3, g4, g5, g6⟩, g7, g8⟩ := nx_tk (B := B) he
  obtain ⟨m1, x1, x2, x3⟩ := c_skip h hn hb h2 (n - e) e (fw_set M 1 4 (nI e)) 20000 rfl he (by omega) (TF.st M (by omega) (by omega) _) (set_eq _ _ _ _)
  have hs600 : nxS B n e ≤ 600 := by omega
  obtain ⟨m2, hm2⟩ : ∃ m, m = fw_set m1 1 5 (nI (nxS B n e)) := ⟨_, rfl⟩
  have f2 : TF M m2 := by rw [hm2]; exact x2.tr (TF.st m1 (by omega) (by omega) _)
  have k2 := f2.kc h
  have e22 : m2 1 2 = nI n := by rw [f2.2 2 (by omega)]; exact h2
  have e24 : m2 1 4 = nI (nxS B n e) := by rw [hm2, set_nk _ _ _ _ (by decide)]; exact x3
  have e25 : m2 1 5 = nI (nxS B n e) := by rw [hm2, set_eq]
  have join : ∀ z, f_X7_advance st_S M 1 = fj_X7_advance_92 st_S m2 1 z 1 → z = nI (nxK B n e) → ∃ M', f_X7_advance st_S M 1 = some M' ∧ TF M M' ∧ CT M' B n (nxS B n e) (nxE B n e) (nxK B n e) 0 := by
    intro z hj hz
    rw [hj, hz]
    obtain ⟨m3, hm3⟩ : ∃ m, m = fw_set m2 1 3 (nI (nxK B n e)) := ⟨_, rfl⟩
    have f3 : TF M m3 := by rw [hm3]; exact f2.tr (TF.st m2 (by omega) (by omega) _)
    have e33 : m3 1 3 = nI (nxK B n e) := by rw [hm3, set_eq]
    have e34 : m3 1 4 = nI (nxS B n e) := by rw [hm3, set_nk _ _ _ _ (by decide)]; exact e24
    have e35 : m3 1 5 = nI (nxS B n e) := by rw [hm3, set_nk _ _ _ _ (by decide)]; exact e25
    have unf : fj_X7_advance_92 st_S m2 1 (nI (nxK B n e)) 1 = if nI (nxK B n e) = 4 then some (fw_set m3 1 5 (nI (nxS B n e) + 1)) else if nI (nxK B n e) = 0 then some m3 else b1 (f_X7_passRow st_S m3 1) (fun M19 => some M19) := by
      simp only [fj_X7_advance_92, gO_1, gd_tt, bm_s]
      rw [← hm3]
      simp only [e33, e35]
    rw [unf]
    have fin : ∀ m' : fw_Mem, TF M m' → m' 1 4 = nI (nxS B n e) → m' 1 5 = nI (nxE B n e) → m' 1 3 = nI (nxK B n e) → (nxK B n e = 3 → m' 1 6 = nI (vC B (nxS B n e) (nxE B n e - nxS B n e))) → CT m' B n (nxS B n e) (nxE B n e) (nxK B n e) 0 := fun m' t1 t2 t3 t4 t5 => ⟨hn, fun i hi => by rw [t1.1 2 (by omega)]; exact hb i hi, by rw [t1.2 2 (by omega)]; exact h2, t2, t3, t4, by rw [t1.2 7 (by omega)]; exact h7, t5, fun _ => by rw [t1.2 8 (by omega)]; exact h8⟩
    have n4 : nI (nxK B n e) = (4 : Int32) → nxK B n e = 4 := fun q => (nI_eq (b := 4) (by omega) (by omega)).mp q
    have n0 : nI (nxK B n e) = (0 : Int32) → nxK B n e = 0 := fun q => (nI_eq (b := 0) (by omega) (by omega)).mp q
    by_cases k4 : nxK B n e = 4
    · rw [if_pos (by rw [k4]; rfl)]
      refine ⟨_, rfl, f3.tr (TF.st m3 (by omega) (by omega) _), fin _ (f3.tr (TF.st m3 (by omega) (by omega) _)) (by rw [set_nk _ _ _ _ (by decide)]; exact e34) (by rw [set_eq, nI_1, (g5 k4).1]) (by rw [set_nk _ _ _ _ (by decide)]; exact e33) (fun q => absurd q (by omega))⟩
    · rw [if_neg fun q => k4 (n4 q)]
      by_cases k0 : nxK B n e = 0
      · rw [if_pos (by rw [k0]; rfl)]
        have hE : nxE B n e = nxS B n e := by unfold nxE; rw [if_pos k0]
        exact ⟨_, rfl, f3, fin _ f3 e34 (by rw [hE]; exact e35) e33 (fun q => absurd q (by omega))⟩
      · rw [if_neg fun q => k0 (n0 q)]
        have hk23 : nxK B n e = 2 ∨ nxK B n e = 3 := by omega
        have hE : nxE B n e = run B n (nxK B n e) n (nxS B n e) := by unfold nxE; rw [if_neg k0, if_neg k4]
        obtain ⟨m', y1, y2, y3, y4, y5, y6⟩ := c_row h hn hb h2 hk23 (n - nxS B n e) (nxS B n e) (fw_set m3 1 6 0) 20000 rfl (Nat.le_refl _) (by omega) (by omega) (fun i i1 i2 => absurd i2 (by omega)) (f3.tr (TF.st m3 (by omega) (by omega) _)) (by rw [set_nk _ _ _ _ (by decide)]; exact e34) (by rw [set_nk _ _ _ _ (by decide)]; exact e33) (by rw [set_nk _ _ _ _ (by decide)]; exact e35) (by rw [set_eq, Nat.sub_self]; split <;> rfl)
        rw [← hE] at y5 y6
        refine ⟨m', ?_, y2, fin m' y2 y3 y5 y4 (fun q => by rw [y6, if_pos q])⟩
        simp only [f_X7_passRow, gO_1, gd_tt, bm_s, y1, b1_s]
  have pre : f_X7_advance st_S M 1 = if nI n ≤ nI (nxS B n e) then fj_X7_advance_92 st_S m2 1 0 1 else gd (gA st_S 1 2 (nI (nxS B n e))) (b1 (f_X7_kindOf st_S m2 (m2 2 (nxS B n e))) (fun v23 => fj_X7_advance_92 st_S m2 1 v23 1)) := by
    simp only [f_X7_advance, gO_1, gd_tt, h7, if_true, h5, bm_s, x1, b1_s, x3]
    rw [← hm2]
    simp only [e22, e24, kc_1_0 k2, gN_2, tn_2, gd_tt, nI_cl (show nxS B n e < 2147483648 by omega)]
  by_cases hs : nxS B n e < n
  · have hk : nxK B n e = bk (B (nxS B n e)) := if_pos hs
    obtain ⟨b1, b2⟩ := hb (nxS B n e) hs
    have eb : m2 2 (nxS B n e) = sx (B (nxS B n e)) := by rw [f2.1 2 (by omega)]; exact b2
    refine join (nI (nxK B n e)) ?_ rfl
    rw [pre, if_neg (nI_ge hs (by omega)), gA_2 (by omega), gd_tt, eb, e_kind, b1_s, kI_sx _ b1, hk]
  · refine join 0 ?_ (by unfold nxK; rw [if_neg hs]; rfl)
    rw [pre, if_pos (nI_le (by omega) (by omega))]
theorem c_adv (h : KC M) {s e k : Nat} (c : CT M B n s e k 0) (he : e ≤ n) : ∃ M', f_X7_advance st_S M 1 = some M' ∧ TF M M' ∧ CT M' B n (nxS B n e) (nxE B n e) (nxK B n e) 0 := c_adv0 h c.1 c.2.1 c.2.2.1 c.2.2.2.2.1 c.2.2.2.2.2.2.1 (c.2.2.2.2.2.2.2.2 rfl) he
end CA
