/-! ===== chains of links, without memory ===== -/
theorem pig : ∀ (P m : Nat) (f : Nat → Nat), (∀ i, i < m → f i < P) → (∀ i j, i < m → j < m → f i = f j → i = j) → m ≤ P
  | 0, m, f, h, _ => by
    rcases Nat.eq_zero_or_pos m with e | e
    · omega
    · exact absurd (h 0 e) (by omega)
  | P + 1, m, f, h, hi => by
    by_cases hc : ∃ i, i < m ∧ f i = P
    · obtain ⟨i0, h0, e0⟩ := hc
      have := pig P (m - 1) (fun j => if j < i0 then f j else f (j + 1)) (fun j hj => by
        by_cases q : j < i0
        · simp only [if_pos q]
          have h1 := h j (by omega)
          have h2 : f j ≠ P := fun e => by have := hi j i0 (by omega) h0 (by rw [e, e0]); omega
          omega
        · simp only [if_neg q]
          have h1 := h (j + 1) (by omega)
          have h2 : f (j + 1) ≠ P := fun e => by have := hi (j + 1) i0 (by omega) h0 (by rw [e, e0]); omega
          omega) (fun a b ha hb e => by
        by_cases q : a < i0 <;> by_cases q2 : b < i0 <;> simp only [q, q2, if_true, if_false] at e
        · exact hi a b (by omega) (by omega) e
        · have := hi a (b + 1) (by omega) (by omega) e; omega
        · have := hi (a + 1) b (by omega) (by omega) e; omega
        · have := hi (a + 1) (b + 1) (by omega) (by omega) e; omega)
      omega
    · have := pig P m f (fun i hi' => by
        have h1 := h i hi'
        have h2 : f i ≠ P := fun e => hc ⟨i, hi', e⟩
        omega) hi
      omega
/-- a chain of r links from y to x -/
def Rc (g t : Nat → Nat) (b : Nat → Bool) (L x : Nat) : Nat → Nat → Prop
  | 0, y => y = x
  | r + 1, y => ∃ l, l < L ∧ b l = true ∧ g l = y ∧ Rc g t b L x r (t l)
def ac (par : Nat → Nat) : Nat → Nat → Nat
  | 0, j => j
  | r + 1, j => par (ac par r j)
/-- the queue q of m persons, each but the first reached from the one at par by link v; keys below (h, i) are through -/
def BQ (g t : Nat → Nat) (b : Nat → Bool) (L P p : Nat) (q v par : Nat → Nat) (m h i : Nat) : Prop :=
  (1 ≤ m ∧ q 0 = p ∧ ∀ k, k < m → q k < P) ∧ (∀ j k, j < m → k < m → q j = q k → j = k) ∧
  (∀ k, 0 < k → k < m → par k < k ∧ v k < L ∧ b (v k) = true ∧ g (v k) = q (par k) ∧ t (v k) = q k) ∧
  (∀ j k, 0 < j → j ≤ k → k < m → par j < par k ∨ (par j = par k ∧ v j ≤ v k)) ∧
  (∀ k, 0 < k → k < m → par k < h ∨ (par k = h ∧ v k < i)) ∧
  ∀ a l, a < m → l < L → g l = q a → b l = true → (a < h ∨ (a = h ∧ l < i)) → ∃ c, c < m ∧ t l = q c ∧ (c = 0 ∨ par c < a ∨ (par c = a ∧ v c ≤ l))
section GR
variable {g t : Nat → Nat} {b : Nat → Bool} {L P p : Nat} {q v par : Nat → Nat} {m h i : Nat}
theorem BQ.le (B : BQ g t b L P p q v par m h i) : m ≤ P := pig P m q B.1.2.2 B.2.1
theorem bq_start (hp : p < P) : BQ g t b L P p (fun _ => p) (fun _ => 0) (fun _ => 0) 1 0 0 :=
  ⟨⟨by omega, rfl, fun _ _ => hp⟩, fun j k hj hk _ => by omega, fun k h1 h2 => by omega, fun j k h1 h2 h3 => by omega, fun k h1 h2 => by omega, fun a l _ _ _ _ hh => by omega⟩
theorem BQ.skip (B : BQ g t b L P p q v par m h i) (hs : g i = q h → b i = true → ∃ c, c < m ∧ t i = q c) : BQ g t b L P p q v par m h (i + 1) := by
  obtain ⟨b1, b2, b3, b4, b5, b6⟩ := B
  refine ⟨b1, b2, b3, b4, fun k h1 h2 => ?_, fun a l h1 h2 h3 h4 h5 => ?_⟩
  · rcases b5 k h1 h2 with x | x
    · exact Or.inl x
    · exact Or.inr ⟨x.1, by omega⟩
  · by_cases e : a < h ∨ (a = h ∧ l < i)
    · exact b6 a l h1 h2 h3 h4 e
    · have e1 : a = h := by omega
      have e2 : l = i := by omega
      subst e1; subst e2
      obtain ⟨c, hc, ec⟩ := hs h3 h4
      refine ⟨c, hc, ec, ?_⟩
      by_cases c0 : c = 0
      · exact Or.inl c0
      · rcases b5 c (by omega) hc with x | x
        · exact Or.inr (Or.inl x)
        · exact Or.inr (Or.inr ⟨x.1, by omega⟩)
theorem BQ.push (B : BQ g t b L P p q v par m h i) (hh : h < m) (hi : i < L) (ht : t i < P) (h1 : g i = q h) (h2 : b i = true) (hf : ∀ c, c < m → t i ≠ q c) : BQ g t b L P p (fun k => if k = m then t i else q k) (fun k => if k = m then i else v k) (fun k => if k = m then h else par k) (m + 1) h (i + 1) := by
  obtain ⟨b1, b2, b3, b4, b5, b6⟩ := B
  refine ⟨⟨by omega, by show (if 0 = m then t i else q 0) = p; rw [if_neg (by omega)]; exact b1.2.1, fun k hk => ?_⟩, fun j k hj hk e => ?_, fun k x1 x2 => ?_, fun j k x1 x2 x3 => ?_, fun k x1 x2 => ?_, fun a l x1 x2 x3 x4 x5 => ?_⟩
  · show (if k = m then t i else q k) < P
    by_cases e : k = m
    · rw [if_pos e]; exact ht
    · rw [if_neg e]; exact b1.2.2 k (by omega)
  · replace e : (if j = m then t i else q j) = (if k = m then t i else q k) := e
    by_cases e1 : j = m <;> by_cases e2 : k = m
    · omega
    · rw [if_pos e1, if_neg e2] at e; exact absurd e (hf k (by omega))
    · rw [if_neg e1, if_pos e2] at e; exact absurd e.symm (hf j (by omega))
    · rw [if_neg e1, if_neg e2] at e; exact b2 j k (by omega) (by omega) e
  · by_cases e : k = m
    · simp only [if_pos e]
      rw [if_neg (by omega)]
      exact ⟨by omega, hi, h2, h1, trivial⟩
    · simp only [if_neg e]
      have := b3 k x1 (by omega)
      rw [if_neg (by omega)]
      exact this
  · by_cases e2 : k = m
    · by_cases e1 : j = m
      · simp only [if_pos e1, if_pos e2]; right; exact ⟨trivial, Nat.le_refl _⟩
      · simp only [if_neg e1, if_pos e2]
        rcases b5 j x1 (by omega) with y | y
        · exact Or.inl y
        · exact Or.inr ⟨y.1, by omega⟩
    · simp only [if_neg (show ¬ j = m by omega), if_neg e2]
      exact b4 j k x1 x2 (by omega)
  · by_cases e : k = m
    · simp only [if_pos e]; right; exact ⟨trivial, by omega⟩
    · simp only [if_neg e]
      rcases b5 k x1 (by omega) with y | y
      · exact Or.inl y
      · exact Or.inr ⟨y.1, by omega⟩
  · have ha : a ≠ m := by omega
    simp only [if_neg ha] at x3
    by_cases e : a < h ∨ (a = h ∧ l < i)
    · obtain ⟨c, c1, c2, c3⟩ := b6 a l (by omega) x2 x3 x4 e
      refine ⟨c, by omega, ?_⟩
      simp only [if_neg (show c ≠ m by omega)]
      exact ⟨c2, c3⟩
    · have e1 : a = h := by omega
      have e2 : l = i := by omega
      subst e1; subst e2
      refine ⟨m, by omega, ?_⟩
      simp only [if_true]
      exact ⟨trivial, Or.inr (Or.inr ⟨trivial, Nat.le_refl _⟩)⟩
theorem BQ.next (B : BQ g t b L P p q v par m h L) : BQ g t b L P p q v par m (h + 1) 0 := by
  obtain ⟨b1, b2, b3, b4, b5, b6⟩ := B
  refine ⟨b1, b2, b3, b4, fun k h1 h2 => ?_, fun a l h1 h2 h3 h4 h5 => b6 a l h1 h2 h3 h4 (by omega)⟩
  rcases b5 k h1 h2 with x | x
  · exact Or.inl (by omega)
  · exact Or.inl (by omega)
/-- behind the last: the tree -/
def TRE (g t : Nat → Nat) (b : Nat → Bool) (L P p : Nat) (q v par : Nat → Nat) (m : Nat) : Prop := BQ g t b L P p q v par m m 0
theorem TRE.cl (T : TRE g t b L P p q v par m) {a l : Nat} (h1 : a < m) (h2 : l < L) (h3 : g l = q a) (h4 : b l = true) : ∃ c, c < m ∧ t l = q c ∧ (c = 0 ∨ par c < a ∨ (par c = a ∧ v c ≤ l)) := T.2.2.2.2.2 a l h1 h2 h3 h4 (Or.inl h1)
theorem TRE.up (T : TRE g t b L P p q v par m) : ∀ j, j < m → ∃ n, n ≤ j ∧ ac par n j = 0 ∧ ∀ r, r < n → 0 < ac par r j ∧ ac par r j < m := by
  intro j
  induction j using Nat.strongRecOn with
  | ind j ih =>
    intro hj
    rcases Nat.eq_zero_or_pos j with e | e
    · exact ⟨0, by omega, e, fun r hr => absurd hr (by omega)⟩
    · have hp := (T.2.2.1 j e hj).1
      obtain ⟨n, n1, n2, n3⟩ := ih (par j) hp (by omega)
      have sh : ∀ r, ac par (r + 1) j = ac par r (par j) := fun r => by
        induction r with
        | zero => rfl
        | succ r ihr => show par (ac par (r + 1) j) = par (ac par r (par j)); rw [ihr]
      refine ⟨n + 1, by omega, by rw [sh]; exact n2, fun r hr => ?_⟩
      cases r with
      | zero => exact ⟨e, hj⟩
      | succ r => rw [sh]; exact n3 r (by omega)
variable {n j : Nat}
theorem TRE.lx (T : TRE g t b L P p q v par m) (hj : j < m) (hn : ∀ r, r < n → 0 < ac par r j ∧ ac par r j < m) : ∀ r u, r ≤ n → u < m → Rc g t b L (q j) r (q u) → ac par r j ≤ u := by
  intro r
  induction r with
  | zero =>
    intro u _ hu e
    have := T.2.1 u j hu hj e
    show j ≤ u
    omega
  | succ r ih =>
    intro u hr hu hc
    obtain ⟨l, l1, l2, l3, l4⟩ := hc
    obtain ⟨c, c1, c2, c3⟩ := T.cl hu l1 l3 l2
    rw [c2] at l4
    have h1 := ih c (by omega) c1 l4
    have h2 := hn r (by omega)
    have h3 := T.2.2.2.1 (ac par r j) c h2.1 h1 c1
    show par (ac par r j) ≤ u
    omega
theorem ac_lt (T : TRE g t b L P p q v par m) (hn : ∀ r, r < n → 0 < ac par r j ∧ ac par r j < m) : ∀ r, r ≤ n → ∀ r', r' < r → ac par r j < ac par r' j := by
  intro r
  induction r with
  | zero => intro _ r' h; omega
  | succ r ih =>
    intro hr r' h
    have h2 := hn r (by omega)
    have h3 := (T.2.2.1 _ h2.1 h2.2).1
    by_cases e : r' = r
    · subst e; exact h3
    · have := ih (by omega) r' (by omega)
      show par (ac par r j) < _
      omega
theorem TRE.rc (T : TRE g t b L P p q v par m) (hn : ∀ r, r < n → 0 < ac par r j ∧ ac par r j < m) : ∀ r, r ≤ n → Rc g t b L (q j) r (q (ac par r j)) := by
  intro r
  induction r with
  | zero => intro _; rfl
  | succ r ih =>
    intro hr
    have h2 := hn r (by omega)
    obtain ⟨x1, x2, x3, x4, x5⟩ := T.2.2.1 _ h2.1 h2.2
    exact ⟨v (ac par r j), x2, x3, x4, by rw [x5]; exact ih (by omega)⟩
theorem ac_m (T : TRE g t b L P p q v par m) (hj : j < m) (h0 : ac par n j = 0) (hn : ∀ r, r < n → 0 < ac par r j ∧ ac par r j < m) {r : Nat} (hr : r ≤ n) : ac par r j < m := by
  by_cases e : r = n
  · subst e; have := T.1.1; omega
  · exact (hn r (by omega)).2
theorem TRE.min (T : TRE g t b L P p q v par m) (hj : j < m) (h0 : ac par n j = 0) (hn : ∀ r, r < n → 0 < ac par r j ∧ ac par r j < m) {r r' : Nat} (hr : r ≤ n) (h : r' < r) : ¬ Rc g t b L (q j) r' (q (ac par r j)) := fun hc => by
  have h1 := T.lx hj hn r' _ (by omega) (ac_m T hj h0 hn hr) hc
  have h2 := ac_lt T hn r hr r' h
  omega
/-- what the model lays: how far a person is from x -/
def AW (g t : Nat → Nat) (b : Nat → Bool) (L x R : Nat) (A : Nat → Int32) (y : Nat) : Prop := (A y = -1 ∧ ∀ r, r ≤ R → ¬ Rc g t b L x r y) ∨ ∃ k, k ≤ R ∧ A y = nI k ∧ Rc g t b L x k y ∧ ∀ r, r < k → ¬ Rc g t b L x r y
theorem TRE.aw (T : TRE g t b L P p q v par m) (hj : j < m) (h0 : ac par n j = 0) (hn : ∀ r, r < n → 0 < ac par r j ∧ ac par r j < m) (hnj : n ≤ j) {A : Nat → Int32} (hA : ∀ y, y < P → AW g t b L (q j) P A y) {r : Nat} (hr : r ≤ n) : A (q (ac par r j)) = nI r := by
  have hm := T.le
  have h1 := T.rc hn r hr
  rcases hA (q (ac par r j)) (T.1.2.2 _ (ac_m T hj h0 hn hr)) with ⟨x1, x2⟩ | ⟨k, k1, k2, k3, k4⟩
  · exact absurd h1 (x2 r (by omega))
  · rcases Nat.lt_trichotomy k r with y | y | y
    · exact absurd k3 (T.min hj h0 hn hr y)
    · rw [k2, y]
    · exact absurd h1 (k4 r y)
/-- the first link that brings one nearer is the tree's -/
theorem TRE.near (T : TRE g t b L P p q v par m) (hj : j < m) (h0 : ac par n j = 0) (hn : ∀ r, r < n → 0 < ac par r j ∧ ac par r j < m) (hnj : n ≤ j) {A : Nat → Int32} (hP : P ≤ 12) (hA : ∀ y, y < P → AW g t b L (q j) P A y) {r : Nat} (hr : r < n) {l : Nat} (hl : l < L) (hg : g l = q (ac par (r + 1) j)) (hb : b l = true) (ht : t l < P) (ha : A (t l) = nI r) : v (ac par r j) ≤ l := by
  have h2 := hn r hr
  obtain ⟨x1, x2, x3, x4, x5⟩ := T.2.2.1 _ h2.1 h2.2
  obtain ⟨c, c1, c2, c3⟩ := T.cl (ac_m T hj h0 hn (r := r + 1) (by omega)) hl hg hb
  have hm := T.le
  have hc : Rc g t b L (q j) r (q c) := by
    rw [← c2]
    rcases hA (t l) ht with ⟨y1, y2⟩ | ⟨k, k1, k2, k3, k4⟩
    · rw [y1] at ha
      exact absurd ha.symm (by rw [nI_m1 (by omega)]; exact id)
    · have : k = r := (nI_eq (by omega) (by omega)).mp (k2.symm.trans ha)
      rw [← this]; exact k3
  have h3 := T.lx hj hn r c (by omega) c1 hc
  have h4 := T.2.2.2.1 (ac par r j) c h2.1 h3 c1
  have e : ac par (r + 1) j = par (ac par r j) := rfl
  rw [e] at c3
  omega
theorem rc_app : ∀ r y z l, Rc g t b L y r z → l < L → b l = true → g l = y → Rc g t b L (t l) (r + 1) z
  | 0, y, z, l, h, h1, h2, h3 => ⟨l, h1, h2, by rw [h3]; exact h.symm, rfl⟩
  | r + 1, y, z, l, ⟨l', a1, a2, a3, a4⟩, h1, h2, h3 => ⟨l', a1, a2, a3, rc_app r y _ l a4 h1 h2 h3⟩
theorem TRE.all (T : TRE g t b L P p q v par m) : ∀ r u x, u < m → Rc g t b L x r (q u) → ∃ j, j < m ∧ q j = x
  | 0, u, x, hu, h => ⟨u, hu, h⟩
  | r + 1, u, x, hu, ⟨l, a1, a2, a3, a4⟩ => by
    obtain ⟨c, c1, c2, _⟩ := T.cl hu a1 a3 a2
    rw [c2] at a4
    exact TRE.all T r c x c1 a4
end GR
