/-! ===== bits of an Int32 (pasted from kit/laws) ===== -/
def bt (x : Int32) (i : Nat) : Bool := x.toBitVec.getLsbD i
theorem b_ext {x y : Int32} (h : ∀ i, i < 32 → bt x i = bt y i) : x = y := Int32.toBitVec_inj.mp (BitVec.eq_of_getLsbD_eq (fun i hi => h i hi))
theorem b_or (x y : Int32) (i : Nat) : bt (x ||| y) i = (bt x i || bt y i) := by unfold bt; rw [Int32.toBitVec_or, BitVec.getLsbD_or]
theorem b_and (x y : Int32) (i : Nat) : bt (x &&& y) i = (bt x i && bt y i) := by unfold bt; rw [Int32.toBitVec_and, BitVec.getLsbD_and]
theorem b_xor (x y : Int32) (i : Nat) : bt (x ^^^ y) i = (bt x i ^^ bt y i) := by unfold bt; rw [Int32.toBitVec_xor, BitVec.getLsbD_xor]
theorem b_big {x : Int32} {i : Nat} (h : 32 ≤ i) : bt x i = false := BitVec.getLsbD_of_ge _ _ h
theorem b_255 (i : Nat) : bt 255 i = decide (i < 8) := by
  rcases Nat.lt_or_ge i 32 with h | h
  · exact (by decide +kernel : ∀ i, i < 32 → bt 255 i = decide (i < 8)) i h
  · rw [b_big h, decide_eq_false (by omega)]
theorem b_65535 (i : Nat) : bt 65535 i = decide (i < 16) := by
  rcases Nat.lt_or_ge i 32 with h | h
  · exact (by decide +kernel : ∀ i, i < 32 → bt 65535 i = decide (i < 16)) i h
  · rw [b_big h, decide_eq_false (by omega)]
theorem b_m1 : ∀ i, i < 32 → bt (-1) i = true := by decide +kernel
theorem b_0 (i : Nat) : bt 0 i = false := BitVec.getLsbD_zero
theorem s_l : ∀ n, n < 32 → ((nI n &&& 31).toBitVec.smod 32).toNat = n := by decide +kernel
theorem s_u : ∀ n, n < 32 → (((nI n).toUInt32 &&& Int32.toUInt32 31).toBitVec % 32).toNat = n := by decide +kernel
theorem b_shl (n : Nat) (hn : n < 32) (x : Int32) {i : Nat} (hi : i < 32) : bt (x <<< (nI n &&& 31)) i = (decide (n ≤ i) && bt x (i - n)) := by
  unfold bt
  rw [Int32.toBitVec_shiftLeft]
  show (x.toBitVec <<< ((nI n &&& 31).toBitVec.smod 32).toNat).getLsbD i = _
  rw [s_l n hn, BitVec.getLsbD_shiftLeft]
  rcases Nat.lt_or_ge i n with h | h
  · simp [h, Nat.not_le.mpr h]
  · simp [hi, h, Nat.not_lt.mpr h]
theorem b_ushr (n : Nat) (hn : n < 32) (x : Int32) (i : Nat) : bt ((x.toUInt32 >>> ((nI n).toUInt32 &&& Int32.toUInt32 31)).toInt32) i = bt x (n + i) := by
  show (x.toUInt32 >>> ((nI n).toUInt32 &&& Int32.toUInt32 31)).toBitVec.getLsbD i = x.toUInt32.toBitVec.getLsbD (n + i)
  rw [UInt32.toBitVec_shiftRight]
  show (x.toUInt32.toBitVec >>> (((nI n).toUInt32 &&& Int32.toUInt32 31).toBitVec % 32).toNat).getLsbD i = _
  rw [s_u n hn, BitVec.getLsbD_ushiftRight]
theorem b_sshr (n : Nat) (hn : n < 32) (x : Int32) {i : Nat} (hi : i < 32) : bt (x >>> (nI n &&& 31)) i = if n + i < 32 then bt x (n + i) else bt x 31 := by
  unfold bt
  rw [Int32.toBitVec_shiftRight]
  show (x.toBitVec.sshiftRight ((nI n &&& 31).toBitVec.smod 32).toNat).getLsbD i = _
  rw [s_l n hn, BitVec.getLsbD_sshiftRight, BitVec.msb_eq_getLsbD_last]
  simp [hi]
theorem fa_lt (a b : Int32) : a < b ↔ a.toInt < b.toInt := Int32.lt_iff_toInt_lt
theorem fa_le (a b : Int32) : a ≤ b ↔ a.toInt ≤ b.toInt := Int32.le_iff_toInt_le
theorem fa_eq (a b : Int32) : a = b ↔ a.toInt = b.toInt := Int32.toInt_inj.symm
theorem fa_lt64 (a b : Int64) : a < b ↔ a.toInt < b.toInt := Int64.lt_iff_toInt_lt
theorem fa_le64 (a b : Int64) : a ≤ b ↔ a.toInt ≤ b.toInt := Int64.le_iff_toInt_le
theorem fa_eq64 (a b : Int64) : a = b ↔ a.toInt = b.toInt := Int64.toInt_inj.symm
/-- a comparison of two ints taken as longs -/
theorem fa_wide_lt (a b : Int32) : a.toInt64 < b.toInt64 ↔ a < b := by rw [fa_lt64, fa_lt, Int32.toInt_toInt64, Int32.toInt_toInt64]
theorem fa_wide_le (a b : Int32) : a.toInt64 ≤ b.toInt64 ↔ a ≤ b := by rw [fa_le64, fa_le, Int32.toInt_toInt64, Int32.toInt_toInt64]
theorem fa_wide_eq (a b : Int32) : a.toInt64 = b.toInt64 ↔ a = b := by rw [fa_eq64, fa_eq, Int32.toInt_toInt64, Int32.toInt_toInt64]
/-- one strict comparison gives all the others -/
theorem fa_of_lt {a b : Int32} (h : a < b) : a ≤ b ∧ ¬ b ≤ a ∧ ¬ b < a ∧ a ≠ b ∧ b ≠ a := by
  rw [fa_lt] at h
  refine ⟨?_, ?_, ?_, ?_, ?_⟩
  · rw [fa_le]; omega
  · rw [fa_le]; omega
  · rw [fa_lt]; omega
  · intro e; rw [fa_eq] at e; omega
  · intro e; rw [fa_eq] at e; omega
theorem fa_of_nlt {a b : Int32} (h : ¬ a < b) : b ≤ a := by
  rw [fa_lt] at h
  rw [fa_le]
  omega
theorem fa_of_nle {a b : Int32} (h : ¬ a ≤ b) : b < a := by
  rw [fa_le] at h
  rw [fa_lt]
  omega
theorem fa_le_ne {a b : Int32} (h : a ≤ b) (h2 : a ≠ b) : a < b := by
  rw [fa_le] at h
  rw [fa_lt]
  have h3 : a.toInt ≠ b.toInt := fun e => h2 ((fa_eq a b).mpr e)
  omega
theorem fa_three (a b : Int32) : a < b ∨ a = b ∨ b < a := by
  rw [fa_lt, fa_lt, fa_eq]
  omega
theorem fa_trans {a b c : Int32} (h : a < b) (h2 : b ≤ c) : a < c := by
  rw [fa_lt] at *
  rw [fa_le] at h2
  omega
/-! ===== the pure side's ground ===== -/
theorem gd_tt {α : Type} (x : Option α) : gd true x = x := rfl
theorem b1_s {α γ : Type} (a : α) (k : α → Option γ) : b1 (some a) k = k a := rfl
theorem b2_s {α β γ : Type} (a : α) (b : β) (k : α → β → Option γ) : b2 (some (a, b)) k = k a b := rfl
theorem bm_s {α γ : Type} (x : α) (k : α → Option γ) : bm x k = k x := rfl
def bI (b : Bool) : Int32 := if b then 1 else 0
theorem bI_t : bI true = 1 := rfl
theorem bI_f : bI false = 0 := rfl
theorem bI_0 (b : Bool) : (bI b = 0) = (b = false) := by cases b <;> simp [bI]
theorem bI_1 (b : Bool) : (bI b = 1) = (b = true) := by cases b <;> simp [bI]
theorem bI_gB (b : Bool) : gB (bI b) = true := by cases b <;> rfl
theorem bI_inj (a b : Bool) : (bI a = bI b) = (a = b) := by cases a <;> cases b <;> simp [bI]
theorem bI_d (p : Prop) [Decidable p] : (if p then (some 1 : Option Int32) else some 0) = some (bI (decide p)) := by by_cases h : p <;> simp [h, bI]
theorem bI_dn (p : Prop) [Decidable p] : (if p then (some 0 : Option Int32) else some 1) = some (bI (decide (¬ p))) := by by_cases h : p <;> simp [h, bI]
theorem nI_mul (a b : Nat) : nI a * nI b = nI (a * b) := (Int32.ofNat_mul a b).symm
theorem nI_sub {a b : Nat} (h : b ≤ a) : nI a - nI b = nI (a - b) := by
  have h2 : nI a = nI (a - b) + nI b := by rw [nI_add, Nat.sub_add_cancel h]
  rw [h2, Int32.add_sub_cancel]
theorem nI_cl {n : Nat} (h : n < 2147483648) : (nI n).toNatClampNeg = n := nI_clamp h
theorem nI_gN {n : Nat} (h : n < 2147483648) : gN (nI n) = true := by
  have h1 : nI n ≠ -1 := fun e => by
    have h2 := congrArg Int32.toInt e
    rw [nI_toInt h] at h2
    have h3 : (-1 : Int32).toInt = -1 := by decide
    omega
  simp [gN, h1]
theorem nI_m1 {n : Nat} (h : n < 2147483648) : (nI n = -1) = False := by
  have h0 := nI_gN h
  simpa [gN] using h0
/-- a number that isn't below zero, by its name -/
theorem nI_ex {x : Int32} (h : 0 ≤ x) : ∃ n : Nat, n < 2147483648 ∧ x = nI n := by
  obtain ⟨j, h1, h2⟩ := nI_of (x := x) (Int32.not_lt.mpr h)
  exact ⟨j, h1, h2⟩
theorem gA_at {k a n i : Nat} (len : Nat) (hl : fw_len2 st_S k a = len) (hi : i < len) (hn : len < 2147483648) (he : i = n) : gA st_S k a (nI n) = true := by
  subst he
  simp only [gA, hl, nI_clamp (show i < 2 ^ 31 by omega), Bool.and_eq_true, decide_eq_true_eq]
  exact ⟨nI_pos' (by omega), hi⟩
/-! a row of the memory replaced -/
def fw_row (M : fw_Mem) (a : Nat) (f : Nat → Int32) : fw_Mem := fun b j => if b = a then f j else M b j
theorem row_eq (M : fw_Mem) (a : Nat) (f : Nat → Int32) : fw_row M a f a = f := by funext j; simp [fw_row]
theorem row_ne (M : fw_Mem) {a b : Nat} (f : Nat → Int32) (h : b ≠ a) : fw_row M a f b = M b := by funext j; simp [fw_row, h]
theorem set_row (M : fw_Mem) (a k : Nat) (v : Int32) : fw_set M a k v = fw_row M a (upd (M a) k v) := by
  funext b j
  simp only [fw_set, fw_row, upd]
  by_cases h : b = a
  · subst h; simp
  · simp [h]
theorem row_row (M : fw_Mem) (a : Nat) (f g : Nat → Int32) : fw_row (fw_row M a f) a g = fw_row M a g := by
  funext b j
  simp only [fw_row]
  split <;> rfl
theorem row_self (M : fw_Mem) (a : Nat) : fw_row M a (M a) = M := by
  funext b j
  simp only [fw_row]
  by_cases h : b = a
  · subst h; simp
  · simp [h]
theorem set_eq (M : fw_Mem) (a k : Nat) (v : Int32) : fw_set M a k v a k = v := by simp [fw_set]
theorem set_nk (M : fw_Mem) (a b : Nat) {k j : Nat} (v : Int32) (h : j ≠ k) : fw_set M a k v b j = M b j := by
  simp only [fw_set]
  by_cases hb : b = a
  · simp [hb, h]
  · simp [hb]
theorem set_na (M : fw_Mem) {a b : Nat} (k j : Nat) (v : Int32) (h : b ≠ a) : fw_set M a k v b j = M b j := by simp [fw_set, h]
theorem set_nr (M : fw_Mem) {a b : Nat} (k : Nat) (v : Int32) (h : b ≠ a) : fw_set M a k v b = M b := by funext j; simp [fw_set, h]
theorem set_set (M : fw_Mem) (a k : Nat) (v w : Int32) : fw_set (fw_set M a k v) a k w = fw_set M a k w := by
  funext b j
  simp only [fw_set]
  by_cases h : b = a <;> by_cases h2 : j = k <;> simp [h, h2]
/-! loops that count up -/
theorem lp_up {σ ρ : Type} (F : Nat → σ → Nat → Option ρ) (N : Nat) (I : Nat → σ → Prop) (Q : ρ → Prop)
    (hs : ∀ n i s, i < N → I i s → ∃ s', I (i + 1) s' ∧ F (n + 1) s i = F n s' (i + 1)) (he : ∀ n s, I N s → ∃ r, F (n + 1) s N = some r ∧ Q r) :
    ∀ d k n s, N - k = d → k ≤ N → d < n → I k s → ∃ r, F n s k = some r ∧ Q r := by
  intro d
  induction d with
  | zero =>
    intro k n s hd hk hn hI
    have e : k = N := by omega
    subst e
    obtain ⟨m, rfl⟩ : ∃ m, n = m + 1 := ⟨n - 1, by omega⟩
    exact he m s hI
  | succ d ih =>
    intro k n s hd hk hn hI
    obtain ⟨m, rfl⟩ : ∃ m, n = m + 1 := ⟨n - 1, by omega⟩
    obtain ⟨s', h1, h2⟩ := hs m k s (by omega) hI
    rw [h2]
    exact ih (k + 1) m s' (by omega) (by omega) (by omega) h1
/-- .. with early ends -/
theorem lp_out {σ ρ : Type} (F : Nat → σ → Nat → Option ρ) (N : Nat) (I : Nat → σ → Prop) (Q : ρ → Prop)
    (hs : ∀ n i s, i < N → I i s → (∃ s', I (i + 1) s' ∧ F (n + 1) s i = F n s' (i + 1)) ∨ ∃ r, F (n + 1) s i = some r ∧ Q r) (he : ∀ n s, I N s → ∃ r, F (n + 1) s N = some r ∧ Q r) :
    ∀ d k n s, N - k = d → k ≤ N → d < n → I k s → ∃ r, F n s k = some r ∧ Q r := by
  intro d
  induction d with
  | zero =>
    intro k n s hd hk hn hI
    have e : k = N := by omega
    subst e
    obtain ⟨m, rfl⟩ : ∃ m, n = m + 1 := ⟨n - 1, by omega⟩
    exact he m s hI
  | succ d ih =>
    intro k n s hd hk hn hI
    obtain ⟨m, rfl⟩ : ∃ m, n = m + 1 := ⟨n - 1, by omega⟩
    rcases hs m k s (by omega) hI with ⟨s', h1, h2⟩ | h
    · rw [h2]
      exact ih (k + 1) m s' (by omega) (by omega) (by omega) h1
    · exact h
/-! sets of numbers below n -/
def bit (i : Nat) : Int32 := (1 : Int32) <<< (nI i &&& 31)
def mk (p : Nat → Bool) : Nat → Int32
  | 0 => 0
  | n + 1 => if p n then mk p n ||| bit n else mk p n
def hs (x : Int32) (i : Nat) : Bool := decide (((x >>> (nI i &&& 31)) &&& 1) = 1)
theorem b_1 (i : Nat) : bt 1 i = decide (i = 0) := by
  by_cases h : i < 32
  · revert h; revert i; decide +kernel
  · rw [b_big (by omega)]; simp; omega
theorem hs_bt {x : Int32} {i : Nat} (h : i < 32) : hs x i = bt x i := by
  have h1 : ∀ j, j < 32 → bt ((x >>> (nI i &&& 31)) &&& 1) j = (decide (j = 0) && bt x i) := by
    intro j hj
    rw [b_and, b_1, b_sshr i h x hj]
    by_cases h0 : j = 0
    · subst h0; simp [h]
    · simp [h0]
  unfold hs
  by_cases hb : bt x i = true
  · have : ((x >>> (nI i &&& 31)) &&& 1) = 1 := b_ext fun j hj => by rw [h1 j hj, hb, b_1]; simp
    simp [this, hb]
  · have hb' : bt x i = false := by simpa using hb
    have : ((x >>> (nI i &&& 31)) &&& 1) = 0 := b_ext fun j hj => by rw [h1 j hj, hb', b_0]; simp
    simp [this, hb']
theorem bt_bit {i j : Nat} (hi : i < 32) : bt (bit i) j = decide (j = i) := by
  by_cases hj : j < 32
  · unfold bit
    rw [b_shl i hi 1 hj, b_1]
    by_cases h : j = i
    · subst h; simp
    · simp [h]; omega
  · rw [b_big (by omega)]; simp; omega
theorem bt_mk (p : Nat → Bool) : ∀ n, n ≤ 32 → ∀ i, bt (mk p n) i = (decide (i < n) && p i)
  | 0, _, i => by simp [mk, b_0]
  | n + 1, h, i => by
    have ih := bt_mk p n (by omega) i
    unfold mk
    by_cases hp : p n = true
    · rw [if_pos hp, b_or, ih, bt_bit (by omega)]
      by_cases h1 : i = n
      · subst h1; simp [hp]
      · by_cases h2 : i < n
        · simp [h2, h1]; intro; omega
        · have : ¬ i < n + 1 := by omega
          simp [h1, h2, this]
    · rw [if_neg hp, ih]
      by_cases h1 : i = n
      · subst h1; simp [hp]
      · by_cases h2 : i < n
        · have : i < n + 1 := by omega
          simp [h2, this]
        · have : ¬ i < n + 1 := by omega
          simp [h2, this]
theorem mk_cong {p q : Nat → Bool} : ∀ {n : Nat}, (∀ i, i < n → p i = q i) → mk p n = mk q n
  | 0, _ => rfl
  | n + 1, h => by
    unfold mk
    rw [h n (by omega), mk_cong (n := n) fun i hi => h i (by omega)]
theorem b_not (x : Int32) {i : Nat} (h : i < 32) : bt (x ^^^ (-1)) i = !bt x i := by rw [b_xor, b_m1 i h]; simp
theorem bt_0iff {x : Int32} : x = 0 ↔ ∀ i, i < 32 → bt x i = false := ⟨fun h i _ => by rw [h, b_0], fun h => b_ext fun i hi => by rw [h i hi, b_0]⟩
def kcl : List (Nat × Nat × Int32) := [(0, 0, 1), (0, 1, 3), (0, 2, 42), (0, 3, 81), (0, 4, 120), (0, 5, 121), (0, 6, 127), (0, 7, 131), (0, 8, 133), (0, 9, 135), (1, 0, 2), (3, 0, 4), (3, 1, 5), (3, 2, 6), (3, 3, 7), (42, 0, 43), (42, 1, 44), (42, 2, 45), (42, 3, 46), (81, 0, 82), (81, 1, 83), (81, 2, 84), (81, 3, 85), (120, 0, 1), (120, 1, 42), (121, 0, 3), (121, 1, 122), (121, 2, 123), (121, 3, 124), (121, 4, 125), (121, 5, 126), (127, 0, 1), (127, 1, 128), (127, 2, 129), (127, 3, 130), (131, 0, 132), (133, 0, 134), (136, 0, 137), (136, 1, 138), (136, 2, 139), (136, 3, 140), (136, 7, 141), (136, 8, 142), (136, 9, 143), (136, 10, 144), (136, 11, 145), (136, 12, 146), (136, 14, 147), (135, 0, -1), (6, 0, 32), (6, 1, 33), (6, 2, 34), (6, 3, 35), (6, 4, 36), (6, 5, 37), (6, 6, 38), (6, 7, 39), (6, 8, 40), (6, 9, 41), (32, 0, 0), (33, 0, 1), (34, 0, 2), (35, 0, 3), (36, 0, 4), (37, 0, 5), (38, 0, 6), (39, 0, 7), (40, 0, 8), (41, 0, 9), (45, 0, 71), (45, 1, 72), (45, 2, 73), (45, 3, 74), (45, 4, 75), (45, 5, 76), (45, 6, 77), (45, 7, 78), (45, 8, 79), (45, 9, 80), (71, 0, 0), (72, 0, 1), (73, 0, 2), (74, 0, 3), (75, 0, 4), (76, 0, 5), (77, 0, 6), (78, 0, 7), (79, 0, 8), (80, 0, 9), (84, 0, 110), (84, 1, 111), (84, 2, 112), (84, 3, 113), (84, 4, 114), (84, 5, 115), (84, 6, 116), (84, 7, 117), (84, 8, 118), (84, 9, 119), (110, 0, 0), (111, 0, 1), (112, 0, 2), (113, 0, 3), (114, 0, 4), (115, 0, 5), (116, 0, 6), (117, 0, 7), (118, 0, 8), (119, 0, 9)]
/-- what never changes: the pointers -/
def KC (M : fw_Mem) : Prop := ∀ q ∈ kcl, M q.1 q.2.1 = q.2.2
theorem kc_0_0 {M : fw_Mem} (h : KC M) : M 0 0 = 1 := h (0, 0, 1) (List.mem_of_getElem? (i := 0) rfl)
theorem kc_0_1 {M : fw_Mem} (h : KC M) : M 0 1 = 3 := h (0, 1, 3) (List.mem_of_getElem? (i := 1) rfl)
theorem kc_0_2 {M : fw_Mem} (h : KC M) : M 0 2 = 42 := h (0, 2, 42) (List.mem_of_getElem? (i := 2) rfl)
theorem kc_0_3 {M : fw_Mem} (h : KC M) : M 0 3 = 81 := h (0, 3, 81) (List.mem_of_getElem? (i := 3) rfl)
theorem kc_0_4 {M : fw_Mem} (h : KC M) : M 0 4 = 120 := h (0, 4, 120) (List.mem_of_getElem? (i := 4) rfl)
theorem kc_0_5 {M : fw_Mem} (h : KC M) : M 0 5 = 121 := h (0, 5, 121) (List.mem_of_getElem? (i := 5) rfl)
theorem kc_0_6 {M : fw_Mem} (h : KC M) : M 0 6 = 127 := h (0, 6, 127) (List.mem_of_getElem? (i := 6) rfl)
theorem kc_0_7 {M : fw_Mem} (h : KC M) : M 0 7 = 131 := h (0, 7, 131) (List.mem_of_getElem? (i := 7) rfl)
theorem kc_0_8 {M : fw_Mem} (h : KC M) : M 0 8 = 133 := h (0, 8, 133) (List.mem_of_getElem? (i := 8) rfl)
theorem kc_0_9 {M : fw_Mem} (h : KC M) : M 0 9 = 135 := h (0, 9, 135) (List.mem_of_getElem? (i := 9) rfl)
theorem kc_1_0 {M : fw_Mem} (h : KC M) : M 1 0 = 2 := h (1, 0, 2) (List.mem_of_getElem? (i := 10) rfl)
theorem kc_3_0 {M : fw_Mem} (h : KC M) : M 3 0 = 4 := h (3, 0, 4) (List.mem_of_getElem? (i := 11) rfl)
theorem kc_3_1 {M : fw_Mem} (h : KC M) : M 3 1 = 5 := h (3, 1, 5) (List.mem_of_getElem? (i := 12) rfl)
theorem kc_3_2 {M : fw_Mem} (h : KC M) : M 3 2 = 6 := h (3, 2, 6) (List.mem_of_getElem? (i := 13) rfl)
theorem kc_3_3 {M : fw_Mem} (h : KC M) : M 3 3 = 7 := h (3, 3, 7) (List.mem_of_getElem? (i := 14) rfl)
theorem kc_42_0 {M : fw_Mem} (h : KC M) : M 42 0 = 43 := h (42, 0, 43) (List.mem_of_getElem? (i := 15) rfl)
theorem kc_42_1 {M : fw_Mem} (h : KC M) : M 42 1 = 44 := h (42, 1, 44) (List.mem_of_getElem? (i := 16) rfl)
theorem kc_42_2 {M : fw_Mem} (h : KC M) : M 42 2 = 45 := h (42, 2, 45) (List.mem_of_getElem? (i := 17) rfl)
theorem kc_42_3 {M : fw_Mem} (h : KC M) : M 42 3 = 46 := h (42, 3, 46) (List.mem_of_getElem? (i := 18) rfl)
theorem kc_81_0 {M : fw_Mem} (h : KC M) : M 81 0 = 82 := h (81, 0, 82) (List.mem_of_getElem? (i := 19) rfl)
theorem kc_81_1 {M : fw_Mem} (h : KC M) : M 81 1 = 83 := h (81, 1, 83) (List.mem_of_getElem? (i := 20) rfl)
theorem kc_81_2 {M : fw_Mem} (h : KC M) : M 81 2 = 84 := h (81, 2, 84) (List.mem_of_getElem? (i := 21) rfl)
theorem kc_81_3 {M : fw_Mem} (h : KC M) : M 81 3 = 85 := h (81, 3, 85) (List.mem_of_getElem? (i := 22) rfl)
theorem kc_120_0 {M : fw_Mem} (h : KC M) : M 120 0 = 1 := h (120, 0, 1) (List.mem_of_getElem? (i := 23) rfl)
theorem kc_120_1 {M : fw_Mem} (h : KC M) : M 120 1 = 42 := h (120, 1, 42) (List.mem_of_getElem? (i := 24) rfl)
theorem kc_121_0 {M : fw_Mem} (h : KC M) : M 121 0 = 3 := h (121, 0, 3) (List.mem_of_getElem? (i := 25) rfl)
theorem kc_121_1 {M : fw_Mem} (h : KC M) : M 121 1 = 122 := h (121, 1, 122) (List.mem_of_getElem? (i := 26) rfl)
theorem kc_121_2 {M : fw_Mem} (h : KC M) : M 121 2 = 123 := h (121, 2, 123) (List.mem_of_getElem? (i := 27) rfl)
theorem kc_121_3 {M : fw_Mem} (h : KC M) : M 121 3 = 124 := h (121, 3, 124) (List.mem_of_getElem? (i := 28) rfl)
theorem kc_121_4 {M : fw_Mem} (h : KC M) : M 121 4 = 125 := h (121, 4, 125) (List.mem_of_getElem? (i := 29) rfl)
theorem kc_121_5 {M : fw_Mem} (h : KC M) : M 121 5 = 126 := h (121, 5, 126) (List.mem_of_getElem? (i := 30) rfl)
theorem kc_127_0 {M : fw_Mem} (h : KC M) : M 127 0 = 1 := h (127, 0, 1) (List.mem_of_getElem? (i := 31) rfl)
theorem kc_127_1 {M : fw_Mem} (h : KC M) : M 127 1 = 128 := h (127, 1, 128) (List.mem_of_getElem? (i := 32) rfl)
theorem kc_127_2 {M : fw_Mem} (h : KC M) : M 127 2 = 129 := h (127, 2, 129) (List.mem_of_getElem? (i := 33) rfl)
theorem kc_127_3 {M : fw_Mem} (h : KC M) : M 127 3 = 130 := h (127, 3, 130) (List.mem_of_getElem? (i := 34) rfl)
theorem kc_131_0 {M : fw_Mem} (h : KC M) : M 131 0 = 132 := h (131, 0, 132) (List.mem_of_getElem? (i := 35) rfl)
theorem kc_133_0 {M : fw_Mem} (h : KC M) : M 133 0 = 134 := h (133, 0, 134) (List.mem_of_getElem? (i := 36) rfl)
theorem kc_136_0 {M : fw_Mem} (h : KC M) : M 136 0 = 137 := h (136, 0, 137) (List.mem_of_getElem? (i := 37) rfl)
theorem kc_136_1 {M : fw_Mem} (h : KC M) : M 136 1 = 138 := h (136, 1, 138) (List.mem_of_getElem? (i := 38) rfl)
theorem kc_136_2 {M : fw_Mem} (h : KC M) : M 136 2 = 139 := h (136, 2, 139) (List.mem_of_getElem? (i := 39) rfl)
theorem kc_136_3 {M : fw_Mem} (h : KC M) : M 136 3 = 140 := h (136, 3, 140) (List.mem_of_getElem? (i := 40) rfl)
theorem kc_136_7 {M : fw_Mem} (h : KC M) : M 136 7 = 141 := h (136, 7, 141) (List.mem_of_getElem? (i := 41) rfl)
theorem kc_136_8 {M : fw_Mem} (h : KC M) : M 136 8 = 142 := h (136, 8, 142) (List.mem_of_getElem? (i := 42) rfl)
theorem kc_136_9 {M : fw_Mem} (h : KC M) : M 136 9 = 143 := h (136, 9, 143) (List.mem_of_getElem? (i := 43) rfl)
theorem kc_136_10 {M : fw_Mem} (h : KC M) : M 136 10 = 144 := h (136, 10, 144) (List.mem_of_getElem? (i := 44) rfl)
theorem kc_136_11 {M : fw_Mem} (h : KC M) : M 136 11 = 145 := h (136, 11, 145) (List.mem_of_getElem? (i := 45) rfl)
theorem kc_136_12 {M : fw_Mem} (h : KC M) : M 136 12 = 146 := h (136, 12, 146) (List.mem_of_getElem? (i := 46) rfl)
theorem kc_136_14 {M : fw_Mem} (h : KC M) : M 136 14 = 147 := h (136, 14, 147) (List.mem_of_getElem? (i := 47) rfl)
theorem kc_135_0 {M : fw_Mem} (h : KC M) : M 135 0 = -1 := h (135, 0, -1) (List.mem_of_getElem? (i := 48) rfl)
theorem kc_s3 {M : fw_Mem} (h : KC M) {s : Nat} (hs : s < 10) : M 6 s = nI (32 + s) := by
  match s, hs with
  | 0, _ => exact h (6, 0, 32) (List.mem_of_getElem? (i := 49) rfl)
  | 1, _ => exact h (6, 1, 33) (List.mem_of_getElem? (i := 50) rfl)
  | 2, _ => exact h (6, 2, 34) (List.mem_of_getElem? (i := 51) rfl)
  | 3, _ => exact h (6, 3, 35) (List.mem_of_getElem? (i := 52) rfl)
  | 4, _ => exact h (6, 4, 36) (List.mem_of_getElem? (i := 53) rfl)
  | 5, _ => exact h (6, 5, 37) (List.mem_of_getElem? (i := 54) rfl)
  | 6, _ => exact h (6, 6, 38) (List.mem_of_getElem? (i := 55) rfl)
  | 7, _ => exact h (6, 7, 39) (List.mem_of_getElem? (i := 56) rfl)
  | 8, _ => exact h (6, 8, 40) (List.mem_of_getElem? (i := 57) rfl)
  | 9, _ => exact h (6, 9, 41) (List.mem_of_getElem? (i := 58) rfl)
theorem kc_n3 {M : fw_Mem} (h : KC M) {s : Nat} (hs : s < 10) : M (32 + s) 0 = nI s := by
  match s, hs with
  | 0, _ => exact h (32, 0, 0) (List.mem_of_getElem? (i := 59) rfl)
  | 1, _ => exact h (33, 0, 1) (List.mem_of_getElem? (i := 60) rfl)
  | 2, _ => exact h (34, 0, 2) (List.mem_of_getElem? (i := 61) rfl)
  | 3, _ => exact h (35, 0, 3) (List.mem_of_getElem? (i := 62) rfl)
  | 4, _ => exact h (36, 0, 4) (List.mem_of_getElem? (i := 63) rfl)
  | 5, _ => exact h (37, 0, 5) (List.mem_of_getElem? (i := 64) rfl)
  | 6, _ => exact h (38, 0, 6) (List.mem_of_getElem? (i := 65) rfl)
  | 7, _ => exact h (39, 0, 7) (List.mem_of_getElem? (i := 66) rfl)
  | 8, _ => exact h (40, 0, 8) (List.mem_of_getElem? (i := 67) rfl)
  | 9, _ => exact h (41, 0, 9) (List.mem_of_getElem? (i := 68) rfl)
theorem kc_s42 {M : fw_Mem} (h : KC M) {s : Nat} (hs : s < 10) : M 45 s = nI (71 + s) := by
  match s, hs with
  | 0, _ => exact h (45, 0, 71) (List.mem_of_getElem? (i := 69) rfl)
  | 1, _ => exact h (45, 1, 72) (List.mem_of_getElem? (i := 70) rfl)
  | 2, _ => exact h (45, 2, 73) (List.mem_of_getElem? (i := 71) rfl)
  | 3, _ => exact h (45, 3, 74) (List.mem_of_getElem? (i := 72) rfl)
  | 4, _ => exact h (45, 4, 75) (List.mem_of_getElem? (i := 73) rfl)
  | 5, _ => exact h (45, 5, 76) (List.mem_of_getElem? (i := 74) rfl)
  | 6, _ => exact h (45, 6, 77) (List.mem_of_getElem? (i := 75) rfl)
  | 7, _ => exact h (45, 7, 78) (List.mem_of_getElem? (i := 76) rfl)
  | 8, _ => exact h (45, 8, 79) (List.mem_of_getElem? (i := 77) rfl)
  | 9, _ => exact h (45, 9, 80) (List.mem_of_getElem? (i := 78) rfl)
theorem kc_n42 {M : fw_Mem} (h : KC M) {s : Nat} (hs : s < 10) : M (71 + s) 0 = nI s := by
  match s, hs with
  | 0, _ => exact h (71, 0, 0) (List.mem_of_getElem? (i := 79) rfl)
  | 1, _ => exact h (72, 0, 1) (List.mem_of_getElem? (i := 80) rfl)
  | 2, _ => exact h (73, 0, 2) (List.mem_of_getElem? (i := 81) rfl)
  | 3, _ => exact h (74, 0, 3) (List.mem_of_getElem? (i := 82) rfl)
  | 4, _ => exact h (75, 0, 4) (List.mem_of_getElem? (i := 83) rfl)
  | 5, _ => exact h (76, 0, 5) (List.mem_of_getElem? (i := 84) rfl)
  | 6, _ => exact h (77, 0, 6) (List.mem_of_getElem? (i := 85) rfl)
  | 7, _ => exact h (78, 0, 7) (List.mem_of_getElem? (i := 86) rfl)
  | 8, _ => exact h (79, 0, 8) (List.mem_of_getElem? (i := 87) rfl)
  | 9, _ => exact h (80, 0, 9) (List.mem_of_getElem? (i := 88) rfl)
theorem kc_s81 {M : fw_Mem} (h : KC M) {s : Nat} (hs : s < 10) : M 84 s = nI (110 + s) := by
  match s, hs with
  | 0, _ => exact h (84, 0, 110) (List.mem_of_getElem? (i := 89) rfl)
  | 1, _ => exact h (84, 1, 111) (List.mem_of_getElem? (i := 90) rfl)
  | 2, _ => exact h (84, 2, 112) (List.mem_of_getElem? (i := 91) rfl)
  | 3, _ => exact h (84, 3, 113) (List.mem_of_getElem? (i := 92) rfl)
  | 4, _ => exact h (84, 4, 114) (List.mem_of_getElem? (i := 93) rfl)
  | 5, _ => exact h (84, 5, 115) (List.mem_of_getElem? (i := 94) rfl)
  | 6, _ => exact h (84, 6, 116) (List.mem_of_getElem? (i := 95) rfl)
  | 7, _ => exact h (84, 7, 117) (List.mem_of_getElem? (i := 96) rfl)
  | 8, _ => exact h (84, 8, 118) (List.mem_of_getElem? (i := 97) rfl)
  | 9, _ => exact h (84, 9, 119) (List.mem_of_getElem? (i := 98) rfl)
theorem kc_n81 {M : fw_Mem} (h : KC M) {s : Nat} (hs : s < 10) : M (110 + s) 0 = nI s := by
  match s, hs with
  | 0, _ => exact h (110, 0, 0) (List.mem_of_getElem? (i := 99) rfl)
  | 1, _ => exact h (111, 0, 1) (List.mem_of_getElem? (i := 100) rfl)
  | 2, _ => exact h (112, 0, 2) (List.mem_of_getElem? (i := 101) rfl)
  | 3, _ => exact h (113, 0, 3) (List.mem_of_getElem? (i := 102) rfl)
  | 4, _ => exact h (114, 0, 4) (List.mem_of_getElem? (i := 103) rfl)
  | 5, _ => exact h (115, 0, 5) (List.mem_of_getElem? (i := 104) rfl)
  | 6, _ => exact h (116, 0, 6) (List.mem_of_getElem? (i := 105) rfl)
  | 7, _ => exact h (117, 0, 7) (List.mem_of_getElem? (i := 106) rfl)
  | 8, _ => exact h (118, 0, 8) (List.mem_of_getElem? (i := 107) rfl)
  | 9, _ => exact h (119, 0, 9) (List.mem_of_getElem? (i := 108) rfl)
theorem kc_cong {M M' : fw_Mem} (h : KC M) (e : ∀ q ∈ kcl, M' q.1 q.2.1 = M q.1 q.2.1) : KC M' := fun q hq => (e q hq).trans (h q hq)
theorem kc_set {M : fw_Mem} {a k : Nat} {v : Int32} (h : KC M) (hn : (kcl.all fun q => !(q.1 == a && q.2.1 == k)) = true) : KC (fw_set M a k v) := by
  refine kc_cong h fun q hq => ?_
  have h1 := List.all_eq_true.mp hn q hq
  simp only [fw_set]
  by_cases ha : q.1 = a <;> by_cases hk : q.2.1 = k <;> simp [ha, hk] at h1 ⊢
theorem kc_row {M : fw_Mem} {a : Nat} {f : Nat → Int32} (h : KC M) (hn : (kcl.all fun q => !(q.1 == a)) = true) : KC (fw_row M a f) := by
  refine kc_cong h fun q hq => ?_
  have h1 := List.all_eq_true.mp hn q hq
  simp only [fw_row]
  by_cases ha : q.1 = a <;> simp [ha] at h1 ⊢
theorem gO_0 : gO st_S 9 0 = true := by decide +kernel
theorem gO_1 : gO st_S 7 1 = true := by decide +kernel
theorem gO_3 : gO st_S 4 3 = true := by decide +kernel
theorem gO_42 : gO st_S 4 42 = true := by decide +kernel
theorem gO_81 : gO st_S 4 81 = true := by decide +kernel
theorem gO_120 : gO st_S 8 120 = true := by decide +kernel
theorem gO_121 : gO st_S 2 121 = true := by decide +kernel
theorem gO_127 : gO st_S 1 127 = true := by decide +kernel
theorem gO_131 : gO st_S 0 131 = true := by decide +kernel
theorem gO_133 : gO st_S 5 133 = true := by decide +kernel
theorem gO_135 : gO st_S 6 135 = true := by decide +kernel
theorem gO_136 : gO st_S 10 136 = true := by decide +kernel
theorem gO_s3 : ∀ s, s < 10 → gO st_S 6 (32 + s) = true := by decide +kernel
theorem gO_l3 : ∀ s, s < 24 → gO st_S 3 (8 + s) = true := by decide +kernel
theorem gO_s42 : ∀ s, s < 10 → gO st_S 6 (71 + s) = true := by decide +kernel
theorem gO_l42 : ∀ s, s < 24 → gO st_S 3 (47 + s) = true := by decide +kernel
theorem gO_s81 : ∀ s, s < 10 → gO st_S 6 (110 + s) = true := by decide +kernel
theorem gO_l81 : ∀ s, s < 24 → gO st_S 3 (86 + s) = true := by decide +kernel
theorem len_2 : fw_len2 st_S 1 2 = 600 := by decide +kernel
theorem gA_2 {i : Nat} (h : i < 600) : gA st_S 1 2 (nI i) = true := gA_at 600 len_2 h (by omega) rfl
theorem len_4 : fw_len2 st_S 0 4 = 72 := by decide +kernel
theorem gA_4 {i : Nat} (h : i < 72) : gA st_S 0 4 (nI i) = true := gA_at 72 len_4 h (by omega) rfl
theorem len_5 : fw_len2 st_S 3 5 = 24 := by decide +kernel
theorem gA_5 {i : Nat} (h : i < 24) : gA st_S 3 5 (nI i) = true := gA_at 24 len_5 h (by omega) rfl
theorem len_6 : fw_len2 st_S 4 6 = 10 := by decide +kernel
theorem gA_6 {i : Nat} (h : i < 10) : gA st_S 4 6 (nI i) = true := gA_at 10 len_6 h (by omega) rfl
theorem len_7 : fw_len2 st_S 0 7 = 3 := by decide +kernel
theorem gA_7 {i : Nat} (h : i < 3) : gA st_S 0 7 (nI i) = true := gA_at 3 len_7 h (by omega) rfl
theorem len_43 : fw_len2 st_S 0 43 = 72 := by decide +kernel
theorem gA_43 {i : Nat} (h : i < 72) : gA st_S 0 43 (nI i) = true := gA_at 72 len_43 h (by omega) rfl
theorem len_44 : fw_len2 st_S 3 44 = 24 := by decide +kernel
theorem gA_44 {i : Nat} (h : i < 24) : gA st_S 3 44 (nI i) = true := gA_at 24 len_44 h (by omega) rfl
theorem len_45 : fw_len2 st_S 4 45 = 10 := by decide +kernel
theorem gA_45 {i : Nat} (h : i < 10) : gA st_S 4 45 (nI i) = true := gA_at 10 len_45 h (by omega) rfl
theorem len_46 : fw_len2 st_S 0 46 = 3 := by decide +kernel
theorem gA_46 {i : Nat} (h : i < 3) : gA st_S 0 46 (nI i) = true := gA_at 3 len_46 h (by omega) rfl
theorem len_82 : fw_len2 st_S 0 82 = 72 := by decide +kernel
theorem gA_82 {i : Nat} (h : i < 72) : gA st_S 0 82 (nI i) = true := gA_at 72 len_82 h (by omega) rfl
theorem len_83 : fw_len2 st_S 3 83 = 24 := by decide +kernel
theorem gA_83 {i : Nat} (h : i < 24) : gA st_S 3 83 (nI i) = true := gA_at 24 len_83 h (by omega) rfl
theorem len_84 : fw_len2 st_S 4 84 = 10 := by decide +kernel
theorem gA_84 {i : Nat} (h : i < 10) : gA st_S 4 84 (nI i) = true := gA_at 10 len_84 h (by omega) rfl
theorem len_85 : fw_len2 st_S 0 85 = 3 := by decide +kernel
theorem gA_85 {i : Nat} (h : i < 3) : gA st_S 0 85 (nI i) = true := gA_at 3 len_85 h (by omega) rfl
theorem len_122 : fw_len2 st_S 0 122 = 31 := by decide +kernel
theorem gA_122 {i : Nat} (h : i < 31) : gA st_S 0 122 (nI i) = true := gA_at 31 len_122 h (by omega) rfl
theorem len_123 : fw_len2 st_S 0 123 = 10 := by decide +kernel
theorem gA_123 {i : Nat} (h : i < 10) : gA st_S 0 123 (nI i) = true := gA_at 10 len_123 h (by omega) rfl
theorem len_124 : fw_len2 st_S 0 124 = 12 := by decide +kernel
theorem gA_124 {i : Nat} (h : i < 12) : gA st_S 0 124 (nI i) = true := gA_at 12 len_124 h (by omega) rfl
theorem len_125 : fw_len2 st_S 0 125 = 12 := by decide +kernel
theorem gA_125 {i : Nat} (h : i < 12) : gA st_S 0 125 (nI i) = true := gA_at 12 len_125 h (by omega) rfl
theorem len_126 : fw_len2 st_S 0 126 = 12 := by decide +kernel
theorem gA_126 {i : Nat} (h : i < 12) : gA st_S 0 126 (nI i) = true := gA_at 12 len_126 h (by omega) rfl
theorem len_128 : fw_len2 st_S 0 128 = 100 := by decide +kernel
theorem gA_128 {i : Nat} (h : i < 100) : gA st_S 0 128 (nI i) = true := gA_at 100 len_128 h (by omega) rfl
theorem len_129 : fw_len2 st_S 0 129 = 10 := by decide +kernel
theorem gA_129 {i : Nat} (h : i < 10) : gA st_S 0 129 (nI i) = true := gA_at 10 len_129 h (by omega) rfl
theorem len_130 : fw_len2 st_S 0 130 = 10 := by decide +kernel
theorem gA_130 {i : Nat} (h : i < 10) : gA st_S 0 130 (nI i) = true := gA_at 10 len_130 h (by omega) rfl
theorem len_132 : fw_len2 st_S 0 132 = 72 := by decide +kernel
theorem gA_132 {i : Nat} (h : i < 72) : gA st_S 0 132 (nI i) = true := gA_at 72 len_132 h (by omega) rfl
theorem len_134 : fw_len2 st_S 1 134 = 256 := by decide +kernel
theorem gA_134 {i : Nat} (h : i < 256) : gA st_S 1 134 (nI i) = true := gA_at 256 len_134 h (by omega) rfl
theorem len_137 : fw_len2 st_S 0 137 = 330 := by decide +kernel
theorem gA_137 {i : Nat} (h : i < 330) : gA st_S 0 137 (nI i) = true := gA_at 330 len_137 h (by omega) rfl
theorem len_138 : fw_len2 st_S 0 138 = 330 := by decide +kernel
theorem gA_138 {i : Nat} (h : i < 330) : gA st_S 0 138 (nI i) = true := gA_at 330 len_138 h (by omega) rfl
theorem len_139 : fw_len2 st_S 0 139 = 330 := by decide +kernel
theorem gA_139 {i : Nat} (h : i < 330) : gA st_S 0 139 (nI i) = true := gA_at 330 len_139 h (by omega) rfl
theorem len_140 : fw_len2 st_S 0 140 = 3960 := by decide +kernel
theorem gA_140 {i : Nat} (h : i < 3960) : gA st_S 0 140 (nI i) = true := gA_at 3960 len_140 h (by omega) rfl
theorem len_141 : fw_len2 st_S 0 141 = 22 := by decide +kernel
theorem gA_141 {i : Nat} (h : i < 22) : gA st_S 0 141 (nI i) = true := gA_at 22 len_141 h (by omega) rfl
theorem len_142 : fw_len2 st_S 0 142 = 12 := by decide +kernel
theorem gA_142 {i : Nat} (h : i < 12) : gA st_S 0 142 (nI i) = true := gA_at 12 len_142 h (by omega) rfl
theorem len_143 : fw_len2 st_S 0 143 = 10 := by decide +kernel
theorem gA_143 {i : Nat} (h : i < 10) : gA st_S 0 143 (nI i) = true := gA_at 10 len_143 h (by omega) rfl
theorem len_144 : fw_len2 st_S 0 144 = 10 := by decide +kernel
theorem gA_144 {i : Nat} (h : i < 10) : gA st_S 0 144 (nI i) = true := gA_at 10 len_144 h (by omega) rfl
theorem len_145 : fw_len2 st_S 0 145 = 10 := by decide +kernel
theorem gA_145 {i : Nat} (h : i < 10) : gA st_S 0 145 (nI i) = true := gA_at 10 len_145 h (by omega) rfl
theorem len_146 : fw_len2 st_S 0 146 = 300 := by decide +kernel
theorem gA_146 {i : Nat} (h : i < 300) : gA st_S 0 146 (nI i) = true := gA_at 300 len_146 h (by omega) rfl
theorem len_147 : fw_len2 st_S 0 147 = 600 := by decide +kernel
theorem gA_147 {i : Nat} (h : i < 600) : gA st_S 0 147 (nI i) = true := gA_at 600 len_147 h (by omega) rfl
theorem len_148 : fw_len2 st_S 2 148 = 1 := by decide +kernel
theorem gA_148 {i : Nat} (h : i < 1) : gA st_S 2 148 (nI i) = true := gA_at 1 len_148 h (by omega) rfl
theorem gA_137_0 : gA st_S 0 137 0 = true := by decide +kernel
theorem gA_137_1 : gA st_S 0 137 1 = true := by decide +kernel
theorem gA_137_2 : gA st_S 0 137 2 = true := by decide +kernel
theorem gA_137_3 : gA st_S 0 137 3 = true := by decide +kernel
theorem gA_137_4 : gA st_S 0 137 4 = true := by decide +kernel
theorem gA_137_5 : gA st_S 0 137 5 = true := by decide +kernel
theorem gA_138_0 : gA st_S 0 138 0 = true := by decide +kernel
theorem gA_138_1 : gA st_S 0 138 1 = true := by decide +kernel
theorem gA_138_2 : gA st_S 0 138 2 = true := by decide +kernel
theorem gA_138_3 : gA st_S 0 138 3 = true := by decide +kernel
theorem gA_138_4 : gA st_S 0 138 4 = true := by decide +kernel
theorem gA_138_5 : gA st_S 0 138 5 = true := by decide +kernel
theorem gA_7_0 : gA st_S 0 7 0 = true := by decide +kernel
theorem gA_7_1 : gA st_S 0 7 1 = true := by decide +kernel
theorem gA_7_2 : gA st_S 0 7 2 = true := by decide +kernel
theorem gA_46_0 : gA st_S 0 46 0 = true := by decide +kernel
theorem gA_46_1 : gA st_S 0 46 1 = true := by decide +kernel
theorem gA_46_2 : gA st_S 0 46 2 = true := by decide +kernel
theorem gA_85_0 : gA st_S 0 85 0 = true := by decide +kernel
theorem gA_85_1 : gA st_S 0 85 1 = true := by decide +kernel
theorem gA_85_2 : gA st_S 0 85 2 = true := by decide +kernel
theorem gA_148_0 : gA st_S 2 148 0 = true := by decide +kernel
theorem gA_124_0 : gA st_S 0 124 0 = true := by decide +kernel
theorem gA_144_0 : gA st_S 0 144 0 = true := by decide +kernel
theorem tn_0 : (0 : Int32).toNatClampNeg = 0 := by decide +kernel
theorem gN_0 : gN (0 : Int32) = true := by decide +kernel
theorem tn_1 : (1 : Int32).toNatClampNeg = 1 := by decide +kernel
theorem gN_1 : gN (1 : Int32) = true := by decide +kernel
theorem tn_2 : (2 : Int32).toNatClampNeg = 2 := by decide +kernel
theorem gN_2 : gN (2 : Int32) = true := by decide +kernel
theorem tn_3 : (3 : Int32).toNatClampNeg = 3 := by decide +kernel
theorem gN_3 : gN (3 : Int32) = true := by decide +kernel
theorem tn_4 : (4 : Int32).toNatClampNeg = 4 := by decide +kernel
theorem gN_4 : gN (4 : Int32) = true := by decide +kernel
theorem tn_5 : (5 : Int32).toNatClampNeg = 5 := by decide +kernel
theorem gN_5 : gN (5 : Int32) = true := by decide +kernel
theorem tn_6 : (6 : Int32).toNatClampNeg = 6 := by decide +kernel
theorem gN_6 : gN (6 : Int32) = true := by decide +kernel
theorem tn_7 : (7 : Int32).toNatClampNeg = 7 := by decide +kernel
theorem gN_7 : gN (7 : Int32) = true := by decide +kernel
theorem tn_8 : (8 : Int32).toNatClampNeg = 8 := by decide +kernel
theorem gN_8 : gN (8 : Int32) = true := by decide +kernel
theorem tn_9 : (9 : Int32).toNatClampNeg = 9 := by decide +kernel
theorem gN_9 : gN (9 : Int32) = true := by decide +kernel
theorem tn_10 : (10 : Int32).toNatClampNeg = 10 := by decide +kernel
theorem gN_10 : gN (10 : Int32) = true := by decide +kernel
theorem tn_11 : (11 : Int32).toNatClampNeg = 11 := by decide +kernel
theorem gN_11 : gN (11 : Int32) = true := by decide +kernel
theorem tn_12 : (12 : Int32).toNatClampNeg = 12 := by decide +kernel
theorem gN_12 : gN (12 : Int32) = true := by decide +kernel
theorem tn_42 : (42 : Int32).toNatClampNeg = 42 := by decide +kernel
theorem gN_42 : gN (42 : Int32) = true := by decide +kernel
theorem tn_43 : (43 : Int32).toNatClampNeg = 43 := by decide +kernel
theorem gN_43 : gN (43 : Int32) = true := by decide +kernel
theorem tn_44 : (44 : Int32).toNatClampNeg = 44 := by decide +kernel
theorem gN_44 : gN (44 : Int32) = true := by decide +kernel
theorem tn_45 : (45 : Int32).toNatClampNeg = 45 := by decide +kernel
theorem gN_45 : gN (45 : Int32) = true := by decide +kernel
theorem tn_46 : (46 : Int32).toNatClampNeg = 46 := by decide +kernel
theorem gN_46 : gN (46 : Int32) = true := by decide +kernel
theorem tn_81 : (81 : Int32).toNatClampNeg = 81 := by decide +kernel
theorem gN_81 : gN (81 : Int32) = true := by decide +kernel
theorem tn_82 : (82 : Int32).toNatClampNeg = 82 := by decide +kernel
theorem gN_82 : gN (82 : Int32) = true := by decide +kernel
theorem tn_83 : (83 : Int32).toNatClampNeg = 83 := by decide +kernel
theorem gN_83 : gN (83 : Int32) = true := by decide +kernel
theorem tn_84 : (84 : Int32).toNatClampNeg = 84 := by decide +kernel
theorem gN_84 : gN (84 : Int32) = true := by decide +kernel
theorem tn_85 : (85 : Int32).toNatClampNeg = 85 := by decide +kernel
theorem gN_85 : gN (85 : Int32) = true := by decide +kernel
theorem tn_120 : (120 : Int32).toNatClampNeg = 120 := by decide +kernel
theorem gN_120 : gN (120 : Int32) = true := by decide +kernel
theorem tn_121 : (121 : Int32).toNatClampNeg = 121 := by decide +kernel
theorem gN_121 : gN (121 : Int32) = true := by decide +kernel
theorem tn_122 : (122 : Int32).toNatClampNeg = 122 := by decide +kernel
theorem gN_122 : gN (122 : Int32) = true := by decide +kernel
theorem tn_123 : (123 : Int32).toNatClampNeg = 123 := by decide +kernel
theorem gN_123 : gN (123 : Int32) = true := by decide +kernel
theorem tn_124 : (124 : Int32).toNatClampNeg = 124 := by decide +kernel
theorem gN_124 : gN (124 : Int32) = true := by decide +kernel
theorem tn_125 : (125 : Int32).toNatClampNeg = 125 := by decide +kernel
theorem gN_125 : gN (125 : Int32) = true := by decide +kernel
theorem tn_126 : (126 : Int32).toNatClampNeg = 126 := by decide +kernel
theorem gN_126 : gN (126 : Int32) = true := by decide +kernel
theorem tn_127 : (127 : Int32).toNatClampNeg = 127 := by decide +kernel
theorem gN_127 : gN (127 : Int32) = true := by decide +kernel
theorem tn_128 : (128 : Int32).toNatClampNeg = 128 := by decide +kernel
theorem gN_128 : gN (128 : Int32) = true := by decide +kernel
theorem tn_129 : (129 : Int32).toNatClampNeg = 129 := by decide +kernel
theorem gN_129 : gN (129 : Int32) = true := by decide +kernel
theorem tn_130 : (130 : Int32).toNatClampNeg = 130 := by decide +kernel
theorem gN_130 : gN (130 : Int32) = true := by decide +kernel
theorem tn_131 : (131 : Int32).toNatClampNeg = 131 := by decide +kernel
theorem gN_131 : gN (131 : Int32) = true := by decide +kernel
theorem tn_132 : (132 : Int32).toNatClampNeg = 132 := by decide +kernel
theorem gN_132 : gN (132 : Int32) = true := by decide +kernel
theorem tn_133 : (133 : Int32).toNatClampNeg = 133 := by decide +kernel
theorem gN_133 : gN (133 : Int32) = true := by decide +kernel
theorem tn_134 : (134 : Int32).toNatClampNeg = 134 := by decide +kernel
theorem gN_134 : gN (134 : Int32) = true := by decide +kernel
theorem tn_135 : (135 : Int32).toNatClampNeg = 135 := by decide +kernel
theorem gN_135 : gN (135 : Int32) = true := by decide +kernel
theorem tn_136 : (136 : Int32).toNatClampNeg = 136 := by decide +kernel
theorem gN_136 : gN (136 : Int32) = true := by decide +kernel
theorem tn_137 : (137 : Int32).toNatClampNeg = 137 := by decide +kernel
theorem gN_137 : gN (137 : Int32) = true := by decide +kernel
theorem tn_138 : (138 : Int32).toNatClampNeg = 138 := by decide +kernel
theorem gN_138 : gN (138 : Int32) = true := by decide +kernel
theorem tn_139 : (139 : Int32).toNatClampNeg = 139 := by decide +kernel
theorem gN_139 : gN (139 : Int32) = true := by decide +kernel
theorem tn_140 : (140 : Int32).toNatClampNeg = 140 := by decide +kernel
theorem gN_140 : gN (140 : Int32) = true := by decide +kernel
theorem tn_141 : (141 : Int32).toNatClampNeg = 141 := by decide +kernel
theorem gN_141 : gN (141 : Int32) = true := by decide +kernel
theorem tn_142 : (142 : Int32).toNatClampNeg = 142 := by decide +kernel
theorem gN_142 : gN (142 : Int32) = true := by decide +kernel
theorem tn_143 : (143 : Int32).toNatClampNeg = 143 := by decide +kernel
theorem gN_143 : gN (143 : Int32) = true := by decide +kernel
theorem tn_144 : (144 : Int32).toNatClampNeg = 144 := by decide +kernel
theorem gN_144 : gN (144 : Int32) = true := by decide +kernel
theorem tn_145 : (145 : Int32).toNatClampNeg = 145 := by decide +kernel
theorem gN_145 : gN (145 : Int32) = true := by decide +kernel
theorem tn_146 : (146 : Int32).toNatClampNeg = 146 := by decide +kernel
theorem gN_146 : gN (146 : Int32) = true := by decide +kernel
theorem tn_147 : (147 : Int32).toNatClampNeg = 147 := by decide +kernel
theorem gN_147 : gN (147 : Int32) = true := by decide +kernel
theorem tn_148 : (148 : Int32).toNatClampNeg = 148 := by decide +kernel
theorem gN_148 : gN (148 : Int32) = true := by decide +kernel
theorem l_0 : (0 : Int32) = nI 0 := rfl
theorem l_1 : (1 : Int32) = nI 1 := rfl
theorem l_2 : (2 : Int32) = nI 2 := rfl
theorem l_5 : (5 : Int32) = nI 5 := rfl
theorem l_12 : (12 : Int32) = nI 12 := rfl
theorem l_78 : (78 : Int32) = nI 78 := rfl
theorem l_198 : (198 : Int32) = nI 198 := rfl
