/-! ===== drawers: more things than places ===== -/
theorem fb_holes : ∀ (m n : Nat) (f : Nat → Nat), (∀ i, i < n → f i < m) → (∀ i j, i < j → j < n → f i ≠ f j) → n ≤ m := by
  intro m
  induction m with
  | zero =>
    intro n f h1 _
    rcases Nat.eq_zero_or_pos n with h | h
    · omega
    · exact absurd (h1 0 h) (Nat.not_lt_zero _)
  | succ m ih =>
    intro n f h1 h2
    by_cases hx : ∃ i, i < n ∧ f i = m
    · obtain ⟨a, ha, hfa⟩ := hx
      have hg := ih (n - 1) (fun i => if i < a then f i else f (i + 1)) (by
        intro i hi
        by_cases q : i < a
        · simp only [if_pos q]
          have b1 := h1 i (by omega)
          have b2 := h2 i a q ha
          omega
        · simp only [if_neg q]
          have b1 := h1 (i + 1) (by omega)
          have b2 := h2 a (i + 1) (by omega) (by omega)
          omega) (by
        intro i j hij hj
        by_cases q : i < a
        · by_cases r : j < a
          · simp only [if_pos q, if_pos r]
            exact h2 i j hij (by omega)
          · simp only [if_pos q, if_neg r]
            exact h2 i (j + 1) (by omega) (by omega)
        · have r : ¬ j < a := by omega
          simp only [if_neg q, if_neg r]
          exact h2 (i + 1) (j + 1) (by omega) (by omega))
      omega
    · have hg := ih n f (fun i hi => by
        have b1 := h1 i hi
        have b2 : f i ≠ m := fun e => hx ⟨i, hi, e⟩
        omega) h2
      omega
/-- two of them in one place -/
theorem fb_twice {m n : Nat} {f : Nat → Nat} (h : ∀ i, i < n → f i < m) (hm : m < n) : ∃ i j, i < j ∧ j < n ∧ f i = f j := by
  refine Classical.byContradiction fun hx => ?_
  have := fb_holes m n f h (fun i j hij hj e => hx ⟨i, j, hij, hj, e⟩)
  omega
/-- as many as places, none twice: each place is taken -/
theorem fb_onto {n : Nat} {f : Nat → Nat} (h : ∀ i, i < n → f i < n) (h2 : ∀ i j, i < j → j < n → f i ≠ f j) {y : Nat} (hy : y < n) : ∃ i, i < n ∧ f i = y := by
  refine Classical.byContradiction fun hx => ?_
  have hne : ∀ i, i < n → f i ≠ y := fun i hi e => hx ⟨i, hi, e⟩
  have := fb_holes (n - 1) n (fun i => if f i < y then f i else f i - 1) (by
    intro i hi
    have b1 := h i hi
    have b2 := hne i hi
    by_cases q : f i < y
    · simp only [if_pos q]; omega
    · simp only [if_neg q]; omega) (by
    intro i j hij hj
    have b1 := hne i (by omega)
    have b2 := hne j hj
    have b3 := h2 i j hij hj
    by_cases q : f i < y
    · by_cases r : f j < y
      · simp only [if_pos q, if_pos r]; exact b3
      · simp only [if_pos q, if_neg r]; omega
    · by_cases r : f j < y
      · simp only [if_neg q, if_pos r]; omega
      · simp only [if_neg q, if_neg r]; omega)
  omega
/-! ===== how many places have a property ===== -/
def fb_ct (p : Nat → Bool) : Nat → Nat
  | 0 => 0
  | n + 1 => fb_ct p n + (if p n then 1 else 0)
theorem fb_ct_succ (p : Nat → Bool) (n : Nat) : fb_ct p (n + 1) = fb_ct p n + (if p n then 1 else 0) := rfl
theorem fb_ct_le (p : Nat → Bool) : ∀ n, fb_ct p n ≤ n
  | 0 => Nat.le_refl _
  | n + 1 => by
    have h := fb_ct_le p n
    rw [fb_ct_succ]
    split <;> omega
theorem fb_ct_step (p : Nat → Bool) (m : Nat) : ∀ n, fb_ct p m ≤ fb_ct p (m + n)
  | 0 => Nat.le_refl _
  | n + 1 => by
    have h := fb_ct_step p m n
    show fb_ct p m ≤ fb_ct p (m + n + 1)
    rw [fb_ct_succ]
    omega
theorem fb_ct_mono (p : Nat → Bool) {m n : Nat} (h : m ≤ n) : fb_ct p m ≤ fb_ct p n := by
  have := fb_ct_step p m (n - m)
  rwa [Nat.add_sub_cancel' h] at this
theorem fb_ct_cong {p q : Nat → Bool} : ∀ {n : Nat}, (∀ k, k < n → p k = q k) → fb_ct p n = fb_ct q n
  | 0, _ => rfl
  | n + 1, h => by
    rw [fb_ct_succ, fb_ct_succ, fb_ct_cong (fun k hk => h k (by omega)), h n (by omega)]
/-- one place changed -/
theorem fb_ct_out (p : Nat → Bool) (b : Bool) {i n : Nat} (h : n ≤ i) : fb_ct (fun k => if k = i then b else p k) n = fb_ct p n :=
  fb_ct_cong fun k hk => if_neg (by omega)
theorem fb_ct_upd (p : Nat → Bool) (b : Bool) {i : Nat} : ∀ {n : Nat}, i < n → fb_ct (fun k => if k = i then b else p k) n + (if p i then 1 else 0) = fb_ct p n + (if b then 1 else 0)
  | 0, h => absurd h (Nat.not_lt_zero i)
  | n + 1, h => by
    rw [fb_ct_succ, fb_ct_succ]
    rcases Nat.lt_or_ge i n with q | q
    · have := fb_ct_upd p b q
      have e : (if n = i then b else p n) = p n := if_neg (by omega)
      rw [e]
      omega
    · have e : i = n := by omega
      subst e
      rw [fb_ct_out p b (Nat.le_refl _)]
      simp only [if_true]
      omega
theorem fb_ct_sub {p q : Nat → Bool} : ∀ {n : Nat}, (∀ k, k < n → p k = true → q k = true) → fb_ct p n ≤ fb_ct q n
  | 0, _ => Nat.le_refl _
  | n + 1, h => by
    have h1 := fb_ct_sub (n := n) (p := p) (q := q) (fun k hk => h k (by omega))
    have h2 := h n (by omega)
    rw [fb_ct_succ, fb_ct_succ]
    cases hp : p n <;> cases hq : q n <;> simp_all <;> omega
theorem fb_ct_or {p q : Nat → Bool} : ∀ {n : Nat}, (∀ k, k < n → ¬ (p k = true ∧ q k = true)) → fb_ct (fun k => p k || q k) n = fb_ct p n + fb_ct q n
  | 0, _ => rfl
  | n + 1, h => by
    have h1 := fb_ct_or (n := n) (p := p) (q := q) (fun k hk => h k (by omega))
    have h2 := h n (by omega)
    rw [fb_ct_succ, fb_ct_succ, fb_ct_succ, h1]
    cases hp : p n <;> cases hq : q n <;> simp_all <;> omega
theorem fb_ct_not (p : Nat → Bool) : ∀ n, fb_ct p n + fb_ct (fun k => !p k) n = n
  | 0 => rfl
  | n + 1 => by
    have h := fb_ct_not p n
    rw [fb_ct_succ, fb_ct_succ]
    cases p n <;> simp <;> omega
theorem fb_ct_split (p : Nat → Bool) (m : Nat) : ∀ n, fb_ct p (m + n) = fb_ct p m + fb_ct (fun k => p (m + k)) n
  | 0 => rfl
  | n + 1 => by
    have h := fb_ct_split p m n
    show fb_ct p (m + n + 1) = _
    rw [fb_ct_succ, fb_ct_succ, h, Nat.add_assoc]
theorem fb_ct_zero {p : Nat → Bool} : ∀ {n : Nat}, fb_ct p n = 0 ↔ ∀ k, k < n → p k = false
  | 0 => ⟨fun _ k hk => absurd hk (Nat.not_lt_zero k), fun _ => rfl⟩
  | n + 1 => by
    have h := fb_ct_zero (p := p) (n := n)
    rw [fb_ct_succ]
    constructor
    · intro e k hk
      have e1 : fb_ct p n = 0 := by omega
      rcases Nat.lt_or_ge k n with q | q
      · exact h.mp e1 k q
      · have ek : k = n := by omega
        subst ek
        cases hp : p k
        · rfl
        · simp [hp] at e
    · intro a
      rw [h.mpr (fun k hk => a k (by omega)), a n (by omega)]
      rfl
theorem fb_ct_pos {p : Nat → Bool} {n : Nat} : 0 < fb_ct p n ↔ ∃ k, k < n ∧ p k = true := by
  constructor
  · intro h
    refine Classical.byContradiction fun hx => ?_
    have := fb_ct_zero.mpr (fun k hk => by
      cases hp : p k
      · rfl
      · exact absurd ⟨k, hk, hp⟩ hx : ∀ k, k < n → p k = false)
    omega
  · rintro ⟨k, hk, hp⟩
    rcases Nat.eq_zero_or_pos (fb_ct p n) with e | e
    · have := fb_ct_zero.mp e k hk
      rw [this] at hp
      cases hp
    · exact e
theorem fb_ct_all {p : Nat → Bool} {n : Nat} : fb_ct p n = n ↔ ∀ k, k < n → p k = true := by
  have h := fb_ct_not p n
  constructor
  · intro e k hk
    have z : fb_ct (fun k => !p k) n = 0 := by omega
    have := fb_ct_zero.mp z k hk
    cases hp : p k
    · simp [hp] at this
    · rfl
  · intro a
    have z : fb_ct (fun k => !p k) n = 0 := fb_ct_zero.mpr (fun k hk => by simp [a k hk])
    omega
/-- the k-th place with the property -/
theorem fb_ct_kth {p : Nat → Bool} {k : Nat} : ∀ {n : Nat}, k < fb_ct p n → ∃ i, i < n ∧ p i = true ∧ fb_ct p i = k
  | 0, h => absurd h (Nat.not_lt_zero k)
  | n + 1, h => by
    rcases Nat.lt_or_ge k (fb_ct p n) with q | q
    · obtain ⟨i, h1, h2⟩ := fb_ct_kth q
      exact ⟨i, by omega, h2⟩
    · rw [fb_ct_succ] at h
      cases hp : p n
      · simp [hp] at h; omega
      · simp [hp] at h
        exact ⟨n, by omega, hp, by omega⟩
theorem fb_ct_kth_one {p : Nat → Bool} {i j : Nat} (hi : p i = true) (hj : p j = true) (e : fb_ct p i = fb_ct p j) : i = j := by
  have key : ∀ a b : Nat, a < b → p a = true → fb_ct p a < fb_ct p b := by
    intro a b hab ha
    have h := fb_ct_mono p (show a + 1 ≤ b from hab)
    rw [fb_ct_succ, ha] at h
    simp at h
    omega
  rcases Nat.lt_trichotomy i j with q | q | q
  · have := key i j q hi; omega
  · exact q
  · have := key j i q hj; omega
theorem bx_il {α β : Type} (a : α) (k : α → β) (kx : String → β) : bx (.inl a) k kx = k a := rfl
theorem bx_ir {α β : Type} (e : String) (k : α → β) (kx : String → β) : bx (.inr e) k kx = kx e := rfl
theorem bl_il {α δ β : Type} (a : α) (kr : α → β) (k : δ → β) : bl (.inl a) kr k = kr a := rfl
theorem bl_ir {α δ β : Type} (d : δ) (kr : α → β) (k : δ → β) : bl (.inr d) kr k = k d := rfl
/-! ===== how many bits ===== -/
def uI (x : Int32) : Nat := x.toBitVec.toNat
theorem uI_lt (x : Int32) : uI x < 4294967296 := x.toBitVec.isLt
theorem uI_inj {x y : Int32} (h : uI x = uI y) : x = y := Int32.toBitVec_inj.mp (BitVec.eq_of_toNat_eq h)
theorem uI_nI {n : Nat} (h : n < 4294967296) : uI (nI n) = n := by
  show (BitVec.ofNat 32 n).toNat = n
  rw [BitVec.toNat_ofNat]
  exact Nat.mod_eq_of_lt h
theorem nI_uI (x : Int32) : nI (uI x) = x := uI_inj (uI_nI (uI_lt x))
theorem uI_and (x y : Int32) : uI (x &&& y) = uI x &&& uI y := by unfold uI; rw [Int32.toBitVec_and, BitVec.toNat_and]
theorem uI_bt (x : Int32) (i : Nat) : bt x i = (uI x).testBit i := rfl
theorem uI_add {x y : Int32} (h : uI x + uI y < 4294967296) : uI (x + y) = uI x + uI y := by
  unfold uI at *
  rw [Int32.toBitVec_add, BitVec.toNat_add]
  exact Nat.mod_eq_of_lt h
theorem uI_sub {x y : Int32} (h : uI y ≤ uI x) : uI (x - y) = uI x - uI y := by
  have h1 := uI_lt x
  have h2 := uI_lt y
  unfold uI at *
  rw [Int32.toBitVec_sub, BitVec.toNat_sub]
  omega
theorem uI_ushr (x : Int32) {n : Nat} (hn : n < 32) : uI ((x.toUInt32 >>> ((nI n).toUInt32 &&& Int32.toUInt32 31)).toInt32) = uI x / 2 ^ n := by
  show (x.toUInt32 >>> ((nI n).toUInt32 &&& Int32.toUInt32 31)).toBitVec.toNat = x.toUInt32.toBitVec.toNat / 2 ^ n
  rw [UInt32.toBitVec_shiftRight]
  show (x.toUInt32.toBitVec >>> (((nI n).toUInt32 &&& Int32.toUInt32 31).toBitVec % 32).toNat).toNat = _
  rw [s_u n hn, BitVec.toNat_ushiftRight, Nat.shiftRight_eq_div_pow]
/-- popcount -/
def pc (x : Int32) : Nat := fb_ct (bt x) 32
theorem pc_le (x : Int32) : pc x ≤ 32 := fb_ct_le _ _
def pn (k n : Nat) : Nat := fb_ct n.testBit k
theorem pc_pn (x : Int32) : pc x = pn 32 (uI x) := rfl
theorem pn_0 : ∀ k, pn k 0 = 0 := fun k => fb_ct_zero.mpr fun i _ => Nat.zero_testBit i
theorem pn_half (k n : Nat) : pn (k + 1) n = n % 2 + pn k (n / 2) := by
  have h := fb_ct_split n.testBit 1 k
  rw [Nat.add_comm] at h
  unfold pn
  rw [h]
  congr 1
  · have h0 : n.testBit 0 = decide (n % 2 = 1) := Nat.testBit_zero n
    simp only [fb_ct, h0]
    rcases Nat.mod_two_eq_zero_or_one n with e | e <;> simp [e]
  · exact fb_ct_cong fun i _ => by rw [Nat.add_comm 1 i, Nat.testBit_succ]
theorem pn_low : ∀ k n, 0 < n → n < 2 ^ k → pn k (n &&& (n - 1)) + 1 = pn k n
  | 0, n, h, h2 => by simp at h2; omega
  | k + 1, n, h, h2 => by
    rw [pn_half, pn_half k n]
    have h2' : n < 2 * 2 ^ k := by rw [Nat.pow_succ] at h2; omega
    have e2 : (n &&& (n - 1)) / 2 = (n / 2) &&& ((n - 1) / 2) := Nat.and_div_two
    have e0 : (n &&& (n - 1)) % 2 = 0 := by
      have h3 : (n &&& (n - 1)).testBit 0 = (n.testBit 0 && (n - 1).testBit 0) := Nat.testBit_and n (n - 1) 0
      rw [Nat.testBit_zero, Nat.testBit_zero, Nat.testBit_zero] at h3
      rcases Nat.mod_two_eq_zero_or_one n with e | e
      · rw [e] at h3
        have : ¬ (n &&& (n - 1)) % 2 = 1 := by simpa using h3
        omega
      · have e' : (n - 1) % 2 = 0 := by omega
        rw [e'] at h3
        have : ¬ (n &&& (n - 1)) % 2 = 1 := by simpa using h3
        omega
    rw [e0, e2]
    rcases Nat.mod_two_eq_zero_or_one n with e | e
    · have e1 : (n - 1) / 2 = n / 2 - 1 := by omega
      rw [e1, e]
      have := pn_low k (n / 2) (by omega) (by omega)
      omega
    · have e1 : (n - 1) / 2 = n / 2 := by omega
      rw [e1, Nat.and_self, e]
      omega
theorem pc_low {x : Int32} (h : x ≠ 0) : pc (x &&& (x - 1)) + 1 = pc x := by
  have h0 : 0 < uI x := Nat.pos_of_ne_zero fun e => h (uI_inj (e.trans rfl))
  have h1 : uI (x - 1) = uI x - 1 := uI_sub (show 1 ≤ uI x from h0)
  rw [pc_pn, pc_pn, uI_and, h1]
  exact pn_low 32 _ h0 (uI_lt x)
theorem pc_0 : pc 0 = 0 := pn_0 32
theorem pc_z {x : Int32} : pc x = 0 ↔ x = 0 := by
  constructor
  · intro h
    exact bt_0iff.mpr (fb_ct_zero.mp h)
  · intro h; rw [h]; exact pc_0
theorem pc_sub {x y : Int32} (h : ∀ i, i < 32 → bt x i = true → bt y i = true) : pc x ≤ pc y := fb_ct_sub h
theorem pc_eq_sub {x y : Int32} (h : ∀ i, i < 32 → bt x i = true → bt y i = true) (e : pc x = pc y) : x = y := by
  have h1 : fb_ct (fun i => bt x i || (bt y i && !bt x i)) 32 = pc x + fb_ct (fun i => bt y i && !bt x i) 32 := fb_ct_or fun k _ q => by simp [q.1] at q
  have h2 : fb_ct (fun i => bt x i || (bt y i && !bt x i)) 32 = pc y := fb_ct_cong fun i hi => by
    have := h i hi
    cases hx : bt x i <;> cases hy : bt y i <;> simp_all
  have h3 : fb_ct (fun i => bt y i && !bt x i) 32 = 0 := by omega
  have h4 := fb_ct_zero.mp h3
  refine b_ext fun i hi => ?_
  have q1 := h i hi
  have q2 := h4 i hi
  cases hx : bt x i <;> cases hy : bt y i <;> simp_all
theorem e_bits_lp (S : List fw_Sh) (M : fw_Mem) : ∀ d n x v, pc x = d → d < n → lf_X10_bitsOf_4 S M n (nI v) x = some (nI (v + d)) := by
  intro d
  induction d with
  | zero =>
    intro n x v hx hn
    obtain ⟨m, rfl⟩ : ∃ m, n = m + 1 := ⟨n - 1, by omega⟩
    rw [pc_z.mp hx]
    simp [lf_X10_bitsOf_4]
  | succ d ih =>
    intro n x v hx hn
    obtain ⟨m, rfl⟩ : ∃ m, n = m + 1 := ⟨n - 1, by omega⟩
    have h0 : x ≠ 0 := fun e => by rw [e, pc_0] at hx; omega
    have h1 := pc_low h0
    rw [lf_X10_bitsOf_4, if_neg h0, nI_1, ih m _ (v + 1) (by omega) (by omega)]
    congr 2
    omega
theorem e_bits (S : List fw_Sh) (M : fw_Mem) (x : Int32) : f_X10_bitsOf S M x = some (nI (pc x)) := by
  have h := e_bits_lp S M (pc x) 20000 x 0 rfl (by have := pc_le x; omega)
  rw [Nat.zero_add] at h
  rw [f_X10_bitsOf, show (0 : Int32) = nI 0 from rfl, h]
  rfl
/-! Integer.bitCount -/
theorem pand {b : Nat} (k : Nat) (hb : b = 2 ^ k) (m n r t : Nat) (hr : r < b) (ht : t < b) : (b * m + r) &&& (b * n + t) = b * (m &&& n) + (r &&& t) := by
  subst hb
  have hrt : r &&& t < 2 ^ k := Nat.and_lt_two_pow _ ht
  apply Nat.eq_of_testBit_eq
  intro i
  rw [Nat.testBit_and, Nat.testBit_two_pow_mul_add _ hr, Nat.testBit_two_pow_mul_add _ ht, Nat.testBit_two_pow_mul_add _ hrt]
  split <;> simp [Nat.testBit_and]
def bm1 : Nat → Nat
  | 0 => 0
  | k + 1 => 4 * bm1 k + 1
def bf1 : Nat → Nat → Nat
  | 0, _ => 0
  | k + 1, x => 4 * bf1 k (x / 4) + (x % 4 - x % 4 / 2)
theorem bc1 : ∀ k x, x < 4 ^ k → ((x / 2) &&& bm1 k) ≤ x ∧ x - ((x / 2) &&& bm1 k) = bf1 k x
  | 0, x, h => by simp at h; subst h; simp [bm1, bf1]
  | k + 1, x, h => by
    have ih := bc1 k (x / 4) (by rw [Nat.pow_succ] at h; omega)
    have e1 : x / 2 = 4 * (x / 4 / 2) + (x / 2) % 4 := by omega
    have e2 : (x / 2) &&& bm1 (k + 1) = 4 * ((x / 4 / 2) &&& bm1 k) + ((x / 2) % 4 &&& 1) := by
      rw [bm1]
      conv => lhs; lhs; rw [e1]
      exact pand 2 rfl _ _ _ _ (by omega) (by omega)
    have e3 : (x / 2) % 4 &&& 1 = x % 4 / 2 := by
      have : (x / 2) % 4 &&& 1 = (x / 2) % 4 % 2 := Nat.and_two_pow_sub_one_eq_mod _ 1
      rw [this]
      omega
    rw [e2, e3, bf1]
    omega
def bm2 : Nat → Nat
  | 0 => 0
  | k + 1 => 16 * bm2 k + 3
def bf2 : Nat → Nat → Nat
  | 0, _ => 0
  | k + 1, x => 16 * bf2 k (x / 16) + (x % 4 + x / 4 % 4)
theorem and3 (x : Nat) : x &&& 3 = x % 4 := Nat.and_two_pow_sub_one_eq_mod x 2
theorem and15 (x : Nat) : x &&& 15 = x % 16 := Nat.and_two_pow_sub_one_eq_mod x 4
theorem bc2 : ∀ k x, x < 16 ^ k → (x &&& bm2 k) + ((x / 4) &&& bm2 k) = bf2 k x
  | 0, x, h => by simp at h; subst h; simp [bm2, bf2]
  | k + 1, x, h => by
    have ih := bc2 k (x / 16) (by rw [Nat.pow_succ] at h; omega)
    have e1 : x = 16 * (x / 16) + x % 16 := by omega
    have e2 : x / 4 = 16 * (x / 16 / 4) + x / 4 % 16 := by omega
    have q1 : x &&& bm2 (k + 1) = 16 * ((x / 16) &&& bm2 k) + (x % 16 &&& 3) := by
      rw [bm2]
      conv => lhs; lhs; rw [e1]
      exact pand 4 rfl _ _ _ _ (by omega) (by omega)
    have q2 : x / 4 &&& bm2 (k + 1) = 16 * ((x / 16 / 4) &&& bm2 k) + (x / 4 % 16 &&& 3) := by
      rw [bm2]
      conv => lhs; lhs; rw [e2]
      exact pand 4 rfl _ _ _ _ (by omega) (by omega)
    rw [q1, q2, and3, and3, bf2]
    omega
def bm3 : Nat → Nat
  | 0 => 0
  | k + 1 => 256 * bm3 k + 15
def bf3 : Nat → Nat → Nat
  | 0, _ => 0
  | k + 1, x => 256 * bf3 k (x / 256) + (x % 16 + x / 16 % 16)
/-- digits of base 16 that are at most 4 -/
def bd4 : Nat → Nat → Prop
  | 0, x => x = 0
  | k + 1, x => x % 16 ≤ 4 ∧ bd4 k (x / 16)
theorem bd4_lt : ∀ k x, bd4 k x → x < 16 ^ k
  | 0, x, h => by simp [bd4] at h; simp [h]
  | k + 1, x, h => by
    have := bd4_lt k _ h.2
    rw [Nat.pow_succ]; omega
theorem bd4_mod : ∀ k x, bd4 k x → x % 16 ≤ 4
  | 0, x, h => by simp [bd4] at h; simp [h]
  | k + 1, x, h => h.1
theorem bc3 : ∀ k x, bd4 (2 * k) x → (x + x / 16) &&& bm3 k = bf3 k x
  | 0, x, h => by simp [bm3, bf3]
  | k + 1, x, h => by
    have h' : bd4 (2 * k + 1 + 1) x := h
    obtain ⟨h1, h2, h3⟩ := h'
    have e0 : x / 16 / 16 = x / 256 := by omega
    rw [e0] at h3
    have h4 := bd4_mod _ _ h3
    have ih := bc3 k (x / 256) h3
    have e1 : x + x / 16 = 256 * (x / 256 + x / 256 / 16) + (16 * (x / 16 % 16 + x / 256 % 16) + (x % 16 + x / 16 % 16)) := by omega
    have q1 : (x + x / 16) &&& bm3 (k + 1) = 256 * ((x / 256 + x / 256 / 16) &&& bm3 k) + ((16 * (x / 16 % 16 + x / 256 % 16) + (x % 16 + x / 16 % 16)) &&& 15) := by
      rw [bm3]
      conv => lhs; lhs; rw [e1]
      exact pand 8 rfl _ _ _ _ (by omega) (by omega)
    rw [q1, and15, bf3, ih]
    omega
theorem pn_pair (k n : Nat) : pn (k + 1 + 1) n = (n % 4 - n % 4 / 2) + pn k (n / 4) := by
  rw [pn_half, pn_half]
  have e : n / 2 / 2 = n / 4 := by omega
  rw [e]
  omega
def ps (g : Nat → Nat) (b : Nat) : Nat → Nat → Nat
  | 0, _ => 0
  | k + 1, x => g (x % b) + ps g b k (x / b)
theorem pn_f1 : ∀ k x, pn (2 * k) x = ps id 4 k (bf1 k x)
  | 0, x => rfl
  | k + 1, x => by
    show pn (2 * k + 1 + 1) x = _
    rw [pn_pair, pn_f1 k, ps, bf1]
    have e1 : (4 * bf1 k (x / 4) + (x % 4 - x % 4 / 2)) % 4 = x % 4 - x % 4 / 2 := by omega
    have e2 : (4 * bf1 k (x / 4) + (x % 4 - x % 4 / 2)) / 4 = bf1 k (x / 4) := by omega
    rw [e1, e2]
    rfl
theorem bf1_dig : ∀ k x, bf1 k x % 4 ≤ 2
  | 0, _ => by simp [bf1]
  | k + 1, x => by rw [bf1]; omega
theorem f1_f2 : ∀ k x, (bd4 (k) (bf2 k (bf1 (2 * k) x))) ∧ ps id 4 (2 * k) (bf1 (2 * k) x) = ps id 16 k (bf2 k (bf1 (2 * k) x))
  | 0, x => ⟨by simp [bd4, bf2], rfl⟩
  | k + 1, x => by
    obtain ⟨i1, i2⟩ := f1_f2 k (x / 16)
    show bd4 (k + 1) (bf2 (k + 1) (bf1 (2 * k + 1 + 1) x)) ∧ ps id 4 (2 * k + 1 + 1) (bf1 (2 * k + 1 + 1) x) = ps id 16 (k + 1) (bf2 (k + 1) (bf1 (2 * k + 1 + 1) x))
    have e0 : x / 4 / 4 = x / 16 := by omega
    simp only [bf1, ps, bf2, bd4, e0]
    generalize bf1 (2 * k) (x / 16) = z at i1 i2 ⊢
    have q1 : (4 * (4 * z + (x / 4 % 4 - x / 4 % 4 / 2)) + (x % 4 - x % 4 / 2)) / 16 = z := by omega
    have q2 : (4 * (4 * z + (x / 4 % 4 - x / 4 % 4 / 2)) + (x % 4 - x % 4 / 2)) / 4 / 4 = z := by omega
    rw [q1, q2]
    generalize hc : (4 * (4 * z + (x / 4 % 4 - x / 4 % 4 / 2)) + (x % 4 - x % 4 / 2)) % 4 + (4 * (4 * z + (x / 4 % 4 - x / 4 % 4 / 2)) + (x % 4 - x % 4 / 2)) / 4 % 4 = c
    have hc4 : c ≤ 4 := by omega
    have q3 : (16 * bf2 k z + c) % 16 = c := by omega
    have q4 : (16 * bf2 k z + c) / 16 = bf2 k z := by omega
    rw [q3, q4, i2]
    refine ⟨⟨hc4, i1⟩, ?_⟩
    simp only [id]
    omega
theorem f2_f3 : ∀ k x, bd4 (2 * k) x → ps id 16 (2 * k) x = ps id 256 k (bf3 k x)
  | 0, x, _ => rfl
  | k + 1, x, h => by
    have h' : bd4 (2 * k + 1 + 1) x := h
    obtain ⟨h1, h2, h3⟩ := h'
    have e0 : x / 16 / 16 = x / 256 := by omega
    rw [e0] at h3
    have ih := f2_f3 k (x / 256) h3
    show ps id 16 (2 * k + 1 + 1) x = _
    simp only [ps, bf3, e0, ih]
    have q1 : (256 * bf3 k (x / 256) + (x % 16 + x / 16 % 16)) % 256 = x % 16 + x / 16 % 16 := by omega
    have q2 : (256 * bf3 k (x / 256) + (x % 16 + x / 16 % 16)) / 256 = bf3 k (x / 256) := by omega
    rw [q1, q2]
    simp only [id]
    omega
theorem bf3_dig : ∀ k x, bd4 (2 * k) x → bf3 k x % 256 ≤ 8 ∧ bf3 k x < 256 ^ k
  | 0, x, h => by simp [bf3]
  | k + 1, x, h => by
    have h' : bd4 (2 * k + 1 + 1) x := h
    obtain ⟨h1, h2, h3⟩ := h'
    have e0 : x / 16 / 16 = x / 256 := by omega
    rw [e0] at h3
    have ih := bf3_dig k _ h3
    rw [bf3, Nat.pow_succ]
    generalize bf3 k (x / 256) = z at ih ⊢
    generalize 256 ^ k = w at ih ⊢
    have hc : x % 16 + x / 16 % 16 ≤ 8 := by omega
    generalize x % 16 + x / 16 % 16 = cc at hc ⊢
    omega
theorem bf3_tail (k x : Nat) (h : bd4 (2 * (k + 1)) x) : bf3 (k + 1) x / 256 = bf3 k (x / 256) ∧ bd4 (2 * k) (x / 256) := by
  have h' : bd4 (2 * k + 1 + 1) x := h
  obtain ⟨h1, h2, h3⟩ := h'
  have e0 : x / 16 / 16 = x / 256 := by omega
  rw [e0] at h3
  refine ⟨?_, h3⟩
  rw [bf3]; omega
theorem fin_sum {c0 c1 c2 c3 h y4 y5 : Nat} (h0 : c0 ≤ 8) (h1 : c1 ≤ 8) (h2 : c2 ≤ 8) (h3 : c3 ≤ 8) (hh : h = c0 + 256 * (c1 + 256 * (c2 + 256 * c3))) (e4 : y4 = h + h / 256) (e5 : y5 = y4 + y4 / 65536) : y4 < 4294967296 ∧ y5 < 4294967296 ∧ y5 % 64 = c0 + (c1 + (c2 + c3)) := by
  have q1 : h / 256 = c1 + 256 * (c2 + 256 * c3) := by omega
  have q2 : y4 = (c0 + c1) + 256 * ((c1 + c2) + 256 * ((c2 + c3) + 256 * c3)) := by omega
  have q3 : y4 / 65536 = (c2 + c3) + 256 * c3 := by omega
  have q4 : y5 = (c0 + c1 + c2 + c3) + 64 * (4 * ((c1 + c2 + c3) + 256 * ((c2 + c3) + 256 * c3))) := by omega
  omega
theorem e_bc (S : List fw_Sh) (M : fw_Mem) (x : Int32) : f_J6_bitCount_0f7a4 S M x = some (nI (pc x)) := by
  unfold f_J6_bitCount_0f7a4
  simp only [bm_s]
  generalize hy1 : x - (((x.toUInt32 >>> ((1 : Int32).toUInt32 &&& Int32.toUInt32 31)).toInt32) &&& 1431655765) = y1
  generalize hy2 : (y1 &&& 858993459) + (((y1.toUInt32 >>> ((2 : Int32).toUInt32 &&& Int32.toUInt32 31)).toInt32) &&& 858993459) = y2
  generalize hy3 : (y2 + ((y2.toUInt32 >>> ((4 : Int32).toUInt32 &&& Int32.toUInt32 31)).toInt32)) &&& 252645135 = y3
  generalize hy4 : y3 + ((y3.toUInt32 >>> ((8 : Int32).toUInt32 &&& Int32.toUInt32 31)).toInt32) = y4
  generalize hy5 : y4 + ((y4.toUInt32 >>> ((16 : Int32).toUInt32 &&& Int32.toUInt32 31)).toInt32) = y5
  have s1 : ∀ z : Int32, uI ((z.toUInt32 >>> ((1 : Int32).toUInt32 &&& Int32.toUInt32 31)).toInt32) = uI z / 2 := fun z => uI_ushr z (n := 1) (by decide)
  have s2 : ∀ z : Int32, uI ((z.toUInt32 >>> ((2 : Int32).toUInt32 &&& Int32.toUInt32 31)).toInt32) = uI z / 4 := fun z => uI_ushr z (n := 2) (by decide)
  have s4 : ∀ z : Int32, uI ((z.toUInt32 >>> ((4 : Int32).toUInt32 &&& Int32.toUInt32 31)).toInt32) = uI z / 16 := fun z => uI_ushr z (n := 4) (by decide)
  have s8 : ∀ z : Int32, uI ((z.toUInt32 >>> ((8 : Int32).toUInt32 &&& Int32.toUInt32 31)).toInt32) = uI z / 256 := fun z => uI_ushr z (n := 8) (by decide)
  have s16 : ∀ z : Int32, uI ((z.toUInt32 >>> ((16 : Int32).toUInt32 &&& Int32.toUInt32 31)).toInt32) = uI z / 65536 := fun z => uI_ushr z (n := 16) (by decide)
  have k1 : uI 1431655765 = bm1 16 := by decide +kernel
  have k2 : uI 858993459 = bm2 8 := by decide +kernel
  have k3 : uI 252645135 = bm3 4 := by decide +kernel
  have hx := uI_lt x
  have g1 := bc1 16 (uI x) (by omega)
  have e1 : uI y1 = bf1 16 (uI x) := by
    rw [← hy1, uI_sub (by rw [uI_and, s1, k1]; exact g1.1), uI_and, s1, k1]
    exact g1.2
  have hy1l := uI_lt y1
  have g2 := bc2 8 (uI y1) (by omega)
  have gd8 := f1_f2 8 (uI x)
  have gl := bd4_lt _ _ gd8.1
  have e2 : uI y2 = bf2 8 (uI y1) := by
    rw [← hy2, uI_add, uI_and, uI_and, s2, k2]
    · exact g2
    · rw [uI_and, uI_and, s2, k2, g2, e1]
      exact gl
  rw [e1] at e2
  have gd : bd4 (2 * 4) (uI y2) := by rw [e2]; exact gd8.1
  have g3 := bc3 4 (uI y2) gd
  have hy2l : uI y2 < 1431655766 := by
    have q0 : ∀ k z, bd4 k z → 15 * z ≤ 4 * (16 ^ k - 1) := by
      intro k
      induction k with
      | zero => intro z hz; simp [bd4] at hz; simp [hz]
      | succ k ih =>
        intro z hz
        have := ih _ hz.2
        have h1 := hz.1
        have hp : 0 < 16 ^ k := Nat.pow_pos (by decide)
        rw [Nat.pow_succ]
        omega
    have := q0 8 _ gd
    omega
  have e3 : uI y3 = bf3 4 (uI y2) := by
    rw [← hy3, uI_and, uI_add, s4, k3]
    · exact g3
    · rw [s4]; omega
  obtain ⟨t1, d1⟩ := bf3_tail 3 (uI y2) gd
  obtain ⟨t2, d2⟩ := bf3_tail 2 _ d1
  obtain ⟨t3, d3⟩ := bf3_tail 1 _ d2
  have m0 := bf3_dig 4 _ gd
  have m1 := bf3_dig 3 _ d1
  have m2 := bf3_dig 2 _ d2
  have m3 := bf3_dig 1 _ d3
  rw [← e3] at m0 t1
  rw [← t1] at m1 t2
  rw [← t2] at m2 t3
  rw [← t3] at m3
  have hps : pc x = uI y3 % 256 + (uI y3 / 256 % 256 + (uI y3 / 256 / 256 % 256 + uI y3 / 256 / 256 / 256 % 256)) := by
    rw [pc_pn, show (32 : Nat) = 2 * 16 from rfl, pn_f1 16, show (16 : Nat) = 2 * 8 from rfl, gd8.2, ← e2, show (8 : Nat) = 2 * 4 from rfl, f2_f3 4 _ gd, ← e3]
    simp only [ps, id]
    omega
  obtain ⟨f1, f2, f3⟩ := fin_sum (c0 := uI y3 % 256) (c1 := uI y3 / 256 % 256) (c2 := uI y3 / 256 / 256 % 256) (c3 := uI y3 / 256 / 256 / 256 % 256) (h := uI y3) (by omega) (by omega) (by omega) (by omega) (by omega) rfl rfl
  have e4 : uI y4 = uI y3 + uI y3 / 256 := by
    rw [← hy4, uI_add, s8]
    rw [s8]; exact f1
  rw [← e4] at f2 f3
  have e5 : uI y5 = uI y4 + uI y4 / 65536 := by
    rw [← hy5, uI_add, s16]
    rw [s16]; exact f2
  rw [← e5] at f3
  congr 1
  apply uI_inj
  rw [uI_nI (by have := pc_le x; omega), uI_and, hps, ← f3]
  exact Nat.and_two_pow_sub_one_eq_mod (uI y5) 6
