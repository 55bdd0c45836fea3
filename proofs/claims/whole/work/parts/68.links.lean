/-! ===== a link put in, a link taken out ===== -/
section LK
variable {M : fw_Mem} {n L c : Nat}
/-- what the code needs to know of the records at n -/
def LO (M : fw_Mem) (n : Nat) : Prop := n ≤ 100 ∧ gO st_S 4 n = true ∧ M n 1 = nI (n + 2) ∧ fw_len2 st_S 3 (n + 2) = 24 ∧ ∀ j, j < 24 → gO st_S 3 (n + 5 + j) = true
theorem lo_3 (h : KC M) : LO M 3 := ⟨by omega, gO_3, kc_3_1 h, len_5, gO_l3⟩
theorem lo_42 (h : KC M) : LO M 42 := ⟨by omega, gO_42, kc_42_1 h, len_44, gO_l42⟩
theorem LO.gA (o : LO M n) {i : Nat} (hi : i < 24) : gA st_S 3 (n + 2) (nI i) = true := gA_at 24 o.2.2.2.1 hi (by omega) rfl
/-- a pointer -/
theorem LO.at' (o : LO M n) (p : cLP M n) {l : Nat} (hl : l < 24) : ∃ j, j < 24 ∧ M (n + 2) l = nI (n + 5 + j) ∧ (M (n + 2) l).toNatClampNeg = n + 5 + j ∧ gN (M (n + 2) l) = true ∧ gO st_S 3 (n + 5 + j) = true := by
  have hn := o.1
  obtain ⟨j, j1, j2, j3⟩ := p.at (l := l) (by omega) hl
  exact ⟨j, j1, j2, j3, by rw [j2]; exact nI_gN (by omega), o.2.2.2.2 j j1⟩
theorem ins_loop (o : LO M n) (p : cLP M n) (hL : L < 24) (g t f u : Int32) (a6 : Nat) : ∀ d i (m : fw_Mem) k, i = c + d → i ≤ L → d < k → (∀ b, b ≠ n + 2 → m b = M b) → (∀ l, l ≤ i → m (n + 2) l = M (n + 2) l) → (∀ l, i < l → l ≤ L → m (n + 2) l = M (n + 2) (l - 1)) → (∀ l, L < l → m (n + 2) l = M (n + 2) l) → ∃ m', lf_X4_insertLink_39 st_S n (nI c) g t f u a6 k (nI i) m = some m' ∧ (∀ b, b ≠ n + 2 → m' b = M b) ∧ (∀ l, l ≤ c → m' (n + 2) l = M (n + 2) l) ∧ (∀ l, c < l → l ≤ L → m' (n + 2) l = M (n + 2) (l - 1)) ∧ ∀ l, L < l → m' (n + 2) l = M (n + 2) l := by
  intro d
  induction d with
  | zero =>
    intro i m k hi hiL hk h1 h2 h3 h4
    obtain ⟨k', rfl⟩ : ∃ k', k = k' + 1 := ⟨k - 1, by omega⟩
    subst hi
    exact ⟨m, by rw [lf_X4_insertLink_39, if_pos (nI_le (Nat.le_refl _) (by omega))], h1, h2, h3, h4⟩
  | succ d ih =>
    intro i m k hi hiL hk h1 h2 h3 h4
    obtain ⟨k', rfl⟩ : ∃ k', k = k' + 1 := ⟨k - 1, by omega⟩
    have hn := o.1
    obtain ⟨j, j1, j2, j3, j4, j5⟩ := o.at' p (l := i - 1) (by omega)
    have e1 : m n 1 = nI (n + 2) := by rw [h1 n (by omega)]; exact o.2.2.1
    have em : m (n + 2) (i - 1) = M (n + 2) (i - 1) := h2 _ (by omega)
    have hgt : ¬ nI i ≤ nI c := nI_ge (by omega) (by omega)
    have es : nI i - 1 = nI (i - 1) := by obtain ⟨i', rfl⟩ : ∃ i', i = i' + 1 := ⟨i - 1, by omega⟩; rw [nI_pred]; rfl
    obtain ⟨m', q1, q2⟩ := ih (i - 1) (fw_set m (n + 2) i (M (n + 2) (i - 1))) k' (by omega) (by omega) (by omega) (fun b hb => by rw [set_nr _ _ _ hb, h1 b hb]) (fun l hl => by rw [set_nk _ _ _ _ (by omega)]; exact h2 l (by omega)) (fun l hl hl2 => by
      by_cases e : l = i
      · subst e; rw [set_eq]
      · rw [set_nk _ _ _ _ e]; exact h3 l (by omega) hl2) (fun l hl => by rw [set_nk _ _ _ _ (by omega)]; exact h4 l hl)
    refine ⟨m', ?_, q2⟩
    rw [← q1]
    have hdec : decide (n + 5 + j < 1000000) = true := decide_eq_true (by omega)
    have es2 : nI i + -1 = nI (i - 1) := by rw [← Int32.sub_eq_add_neg]; exact es
    simp only [lf_X4_insertLink_39, if_neg hgt, o.2.1, gd_tt, e1, nI_gN (show n + 2 < 2147483648 by omega), nI_cl (show n + 2 < 2147483648 by omega), es, es2, o.gA (show i - 1 < 24 by omega), o.gA (show i < 24 by omega), nI_cl (show i - 1 < 2147483648 by omega), nI_cl (show i < 2147483648 by omega), em, j4, j3, j5, hdec, bm_s, j2, nI_gN (show n + 5 + j < 2147483648 by omega), nI_cl (show n + 5 + j < 2147483648 by omega)]
theorem c_insert (o : LO M n) (p : cLP M n) (hL : M n 5 = nI L) (hL2 : L < 24) (hc : c ≤ L) (g t f u : Int32) : ∃ M', f_X4_insertLink st_S M n (nI c) g t f u = some M' ∧ (∀ b, ¬ (n + 5 ≤ b ∧ b < n + 29) → b ≠ n + 2 → b ≠ n → M' b = M b) ∧ (∀ j, j ≠ 5 → M' n j = M n j) ∧ M' n 5 = nI (L + 1) ∧ cLP M' n ∧ (∀ l, l < c → cl M' (M' (n + 2) l).toNatClampNeg = cl M (M (n + 2) l).toNatClampNeg) ∧ cl M' (M' (n + 2) c).toNatClampNeg = clk g t f u ∧ ∀ l, c < l → l ≤ L → cl M' (M' (n + 2) l).toNatClampNeg = cl M (M (n + 2) (l - 1)).toNatClampNeg := by
  have hn := o.1
  obtain ⟨jL, l1, l2, l3, l4, l5⟩ := o.at' p (l := L) hL2
  obtain ⟨m', q1, q2, q3, q4, q5⟩ := ins_loop (c := c) o p hL2 g t f u (n + 5 + jL) (L - c) L M 20000 (by omega) (by omega) (by omega) (fun _ _ => rfl) (fun _ _ => rfl) (fun l h1 h2 => absurd h1 (by omega)) (fun _ _ => rfl)
  obtain ⟨M', hM'⟩ : ∃ x, x = fw_set (fw_set (fw_set (fw_set (fw_set (fw_set m' (n + 5 + jL) 0 g) (n + 5 + jL) 1 t) (n + 5 + jL) 2 f) (n + 5 + jL) 3 u) (n + 2) c (nI (n + 5 + jL))) n 5 (nI (L + 1)) := ⟨_, rfl⟩
  have rowp : ∀ l, M' (n + 2) l = if l = c then M (n + 2) L else m' (n + 2) l := fun l => by
    rw [hM', set_na _ _ _ _ (by omega)]
    by_cases e : l = c
    · subst e; rw [set_eq, if_pos rfl, l2]
    · rw [set_nk _ _ _ _ e, set_na _ _ _ _ (by omega), set_na _ _ _ _ (by omega), set_na _ _ _ _ (by omega), set_na _ _ _ _ (by omega), if_neg e]
  let σ : Nat → Nat := fun l => if l < c then l else if l = c then L else if l ≤ L then l - 1 else l
  have hσ : ∀ l, M' (n + 2) l = M (n + 2) (σ l) := fun l => by
    rw [rowp]
    by_cases e : l = c
    · simp [σ, e]
    · rw [if_neg e]
      by_cases e1 : l < c
      · rw [q3 l (by omega)]; simp [σ, e1]
      · by_cases e2 : l ≤ L
        · rw [q4 l (by omega) e2]; simp [σ, e, e1, e2]
        · rw [q5 l (by omega)]; simp [σ, e, e1, e2]
  have hσlt : ∀ l, l < 24 → σ l < 24 := fun l hl => by 
    simp only [σ]
    split
    · exact hl
    · split
      · omega
      · split <;> omega
  have hσinj : ∀ l l', σ l = σ l' → l = l' := fun l l' => by
    simp only [σ]
    intro e
    (repeat' split at e) <;> omega
  have rowo : ∀ b, b ≠ n + 2 → b ≠ n → b ≠ n + 5 + jL → M' b = M b := fun b b1 b2 b3 => by rw [hM', set_nr _ _ _ b2, set_nr _ _ _ b1, set_nr _ _ _ b3, set_nr _ _ _ b3, set_nr _ _ _ b3, set_nr _ _ _ b3, q2 b b1]
  have hfr : ∀ l, l < 24 → l ≠ c → cl M' (M' (n + 2) l).toNatClampNeg = cl M (M (n + 2) (σ l)).toNatClampNeg := fun l hl hlc => by
    rw [hσ l]
    obtain ⟨j, j1, j2, j3, -, -⟩ := o.at' p (l := σ l) (hσlt l hl)
    rw [j3]
    have hne : j ≠ jL := fun e => by
      have e2 : M (n + 2) (σ l) = M (n + 2) L := by rw [j2, l2, e]
      have e3 := p.2 (σ l) L (hσlt l hl) hL2 e2
      have e4 : σ c = L := by simp [σ]
      exact hlc (hσinj l c (e3.trans e4.symm))
    exact cl_fr (rowo _ (by omega) (by omega) (by omega))
  refine ⟨M', ?_, fun b b1 b2 b3 => rowo b b2 b3 (by omega), fun j hj => ?_, ?_, ⟨fun l hl => ?_, fun l l' hl hl' e => ?_⟩, fun l hl => ?_, ?_, fun l h1 h2 => ?_⟩
  · have h24 : ¬ (24 : Int32) ≤ nI L := nI_ge (b := 24) hL2 (by omega)
    have hdec : decide (n + 5 + jL < 1000000) = true := decide_eq_true (by omega)
    have e1 : m' n 1 = nI (n + 2) := by rw [q2 n (by omega)]; exact o.2.2.1
    have e5 : m' n 5 = nI L := by rw [q2 n (by omega)]; exact hL
    have na : n ≠ n + 5 + jL := by omega
    have nb : n ≠ n + 2 := by omega
    rw [hM']
    simp only [f_X4_insertLink, o.2.1, gd_tt, hL, if_neg h24, if_neg (nI_pos (show c < 2 ^ 31 by omega)), if_pos (nI_le hc (show L < 2 ^ 31 by omega)), o.2.2.1, nI_gN (show n + 2 < 2147483648 by omega), nI_cl (show n + 2 < 2147483648 by omega), o.gA hL2, nI_cl (show L < 2147483648 by omega), l4, l3, q1, b1_s, l5, bm_s, set_na _ _ _ _ na, e1, o.gA (show c < 24 by omega), hdec, nI_cl (show c < 2147483648 by omega), set_na _ _ _ _ nb, e5, nI_1]
  · rw [hM', set_nk _ _ _ _ hj, set_na _ _ _ _ (by omega), set_na _ _ _ _ (by omega), set_na _ _ _ _ (by omega), set_na _ _ _ _ (by omega), set_na _ _ _ _ (by omega), q2 n (by omega)]
  · rw [hM', set_eq]
  · rw [hσ l]; exact p.1 _ (hσlt l hl)
  · rw [hσ l, hσ l'] at e
    exact hσinj l l' (p.2 _ _ (hσlt l hl) (hσlt l' hl') e)
  · rw [hfr l (by omega) (by omega)]; simp [σ, hl]
  · rw [hσ c, show σ c = L by simp [σ], l3, cl_clk, hM']
    simp [fw_set, show ¬ n + 5 + jL = n by omega, show ¬ n + 5 + jL = n + 2 by omega]
  · rw [hfr l (by omega) (by omega)]; simp [σ, show ¬ l < c by omega, show ¬ l = c by omega, h2]
theorem rem_loop (o : LO M n) (p : cLP M n) (hL : M n 5 = nI L) (hL2 : L ≤ 24) (hc : c < L) (a2 : Nat) : ∀ d i (m : fw_Mem) k, L - 1 - i = d → c ≤ i → i ≤ L - 1 → d < k → (∀ b, b ≠ n + 2 → m b = M b) → (∀ l, l < c ∨ i ≤ l → m (n + 2) l = M (n + 2) l) → (∀ l, c ≤ l → l < i → m (n + 2) l = M (n + 2) (l + 1)) → ∃ m', lf_X4_removeLink_22 st_S n a2 k (nI i) m = some m' ∧ (∀ b, b ≠ n + 2 → m' b = M b) ∧ (∀ l, l < c ∨ L - 1 ≤ l → m' (n + 2) l = M (n + 2) l) ∧ ∀ l, c ≤ l → l < L - 1 → m' (n + 2) l = M (n + 2) (l + 1) := by
  intro d
  have e5' : ∀ {m : fw_Mem}, (∀ b, b ≠ n + 2 → m b = M b) → m n 5 - 1 = nI (L - 1) := fun {m} h1 => by
    rw [h1 n (by omega), hL]
    obtain ⟨L', rfl⟩ : ∃ L', L = L' + 1 := ⟨L - 1, by omega⟩
    rw [nI_pred]; rfl
  induction d with
  | zero =>
    intro i m k hd h0 hi hk h1 h2 h3
    obtain ⟨k', rfl⟩ : ∃ k', k = k' + 1 := ⟨k - 1, by omega⟩
    have ei : i = L - 1 := by omega
    subst ei
    exact ⟨m, by rw [lf_X4_removeLink_22, o.2.1, gd_tt, e5' h1, if_pos (nI_le (Nat.le_refl _) (by omega))], h1, h2, h3⟩
  | succ d ih =>
    intro i m k hd h0 hi hk h1 h2 h3
    obtain ⟨k', rfl⟩ : ∃ k', k = k' + 1 := ⟨k - 1, by omega⟩
    have hn := o.1
    obtain ⟨j, j1, j2, j3, j4, j5⟩ := o.at' p (l := i + 1) (by omega)
    have e1 : m n 1 = nI (n + 2) := by rw [h1 n (by omega)]; exact o.2.2.1
    have em : m (n + 2) (i + 1) = M (n + 2) (i + 1) := h2 _ (by omega)
    have hgt : ¬ nI (L - 1) ≤ nI i := nI_ge (by omega) (by omega)
    obtain ⟨m', q1, q2⟩ := ih (i + 1) (fw_set m (n + 2) i (M (n + 2) (i + 1))) k' (by omega) (by omega) (by omega) (by omega) (fun b hb => by rw [set_nr _ _ _ hb, h1 b hb]) (fun l hl => by rw [set_nk _ _ _ _ (by omega)]; exact h2 l (by omega)) (fun l hl hl2 => by
      by_cases e : l = i
      · subst e; rw [set_eq]
      · rw [set_nk _ _ _ _ e]; exact h3 l hl (by omega))
    refine ⟨m', ?_, q2⟩
    rw [← q1]
    have hdec : decide (n + 5 + j < 1000000) = true := decide_eq_true (by omega)
    simp only [lf_X4_removeLink_22, o.2.1, gd_tt, e5' h1, if_neg hgt, e1, nI_gN (show n + 2 < 2147483648 by omega), nI_cl (show n + 2 < 2147483648 by omega), nI_1, o.gA (show i + 1 < 24 by omega), o.gA (show i < 24 by omega), nI_cl (show i + 1 < 2147483648 by omega), nI_cl (show i < 2147483648 by omega), em, j4, j3, j5, hdec, bm_s, j2, nI_gN (show n + 5 + j < 2147483648 by omega), nI_cl (show n + 5 + j < 2147483648 by omega)]
theorem c_remove (o : LO M n) (p : cLP M n) (hL : M n 5 = nI L) (hL2 : L ≤ 24) (hc : c < L) : ∃ M', f_X4_removeLink st_S M n (nI c) = some M' ∧ (∀ b, b ≠ n + 2 → b ≠ n → M' b = M b) ∧ (∀ j, j ≠ 5 → M' n j = M n j) ∧ M' n 5 = nI (L - 1) ∧ cLP M' n ∧ (∀ l, l < c → M' (n + 2) l = M (n + 2) l) ∧ ∀ l, c ≤ l → l < L - 1 → M' (n + 2) l = M (n + 2) (l + 1) := by
  have hn := o.1
  obtain ⟨jc, l1, l2, l3, l4, l5⟩ := o.at' p (l := c) (by omega)
  obtain ⟨m', q1, q2, q3, q4⟩ := rem_loop (c := c) o p hL hL2 hc (n + 5 + jc) (L - 1 - c) c M 20000 rfl (by omega) (by omega) (by omega) (fun _ _ => rfl) (fun _ _ => rfl) (fun l h1 h2 => absurd h1 (by omega))
  obtain ⟨M', hM'⟩ : ∃ x, x = fw_set (fw_set m' n 5 (nI (L - 1))) (n + 2) (L - 1) (nI (n + 5 + jc)) := ⟨_, rfl⟩
  let τ : Nat → Nat := fun l => if l < c then l else if l < L - 1 then l + 1 else if l = L - 1 then c else l
  have hτ : ∀ l, M' (n + 2) l = M (n + 2) (τ l) := fun l => by
    rw [hM']
    by_cases e : l = L - 1
    · subst e
      rw [set_eq, ← l2]
      simp [τ, show ¬ L - 1 < c by omega]
    · rw [set_nk _ _ _ _ e, set_na _ _ _ _ (by omega)]
      by_cases e1 : l < c
      · rw [q3 l (by omega)]; simp [τ, e1]
      · by_cases e2 : l < L - 1
        · rw [q4 l (by omega) e2]; simp [τ, e1, e2]
        · rw [q3 l (by omega)]; simp [τ, e, e1, e2]
  have hτlt : ∀ l, l < 24 → τ l < 24 := fun l hl => by 
    simp only [τ]
    split
    · exact hl
    · split
      · omega
      · split <;> omega
  have hτinj : ∀ l l', τ l = τ l' → l = l' := fun l l' => by
    simp only [τ]
    intro e
    (repeat' split at e) <;> omega
  refine ⟨M', ?_, fun b b1 b2 => by rw [hM', set_nr _ _ _ b1, set_nr _ _ _ b2, q2 b b1], fun j hj => by rw [hM', set_na _ _ _ _ (by omega), set_nk _ _ _ _ hj, q2 n (by omega)], by rw [hM', set_na _ _ _ _ (by omega), set_eq], ⟨fun l hl => by rw [hτ l]; exact p.1 _ (hτlt l hl), fun l l' hl hl' e => ?_⟩, fun l hl => by rw [hτ l]; simp [τ, hl], fun l h1 h2 => by rw [hτ l]; simp [τ, show ¬ l < c by omega, h2]⟩
  · have hdec : decide (n + 5 + jc < 1000000) = true := decide_eq_true (by omega)
    have e1 : m' n 1 = nI (n + 2) := by rw [q2 n (by omega)]; exact o.2.2.1
    have e5 : m' n 5 - 1 = nI (L - 1) := by
      rw [q2 n (by omega), hL]
      obtain ⟨L', rfl⟩ : ∃ L', L = L' + 1 := ⟨L - 1, by omega⟩
      rw [nI_pred]; rfl
    rw [hM']
    simp only [f_X4_removeLink, if_neg (nI_pos (show c < 2 ^ 31 by omega)), o.2.1, gd_tt, hL, if_pos (nI_lt hc (show L < 2 ^ 31 by omega)), o.2.2.1, nI_gN (show n + 2 < 2147483648 by omega), nI_cl (show n + 2 < 2147483648 by omega), o.gA (show c < 24 by omega), nI_cl (show c < 2147483648 by omega), l4, l3, q1, b1_s, e5, bm_s, set_nk _ _ _ _ (show (1 : Nat) ≠ 5 by decide), e1, set_eq, o.gA (show L - 1 < 24 by omega), l5, hdec, nI_cl (show L - 1 < 2147483648 by omega)]
  · rw [hτ l, hτ l'] at e
    exact hτinj l l' (p.2 _ _ (hτlt l hl) (hτlt l' hl') e)
end LK
