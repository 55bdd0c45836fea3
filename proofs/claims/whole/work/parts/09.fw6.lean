/-! ===== the words of decompiled functions: guards and binds ===== -/
def gd {α : Type} (b : Bool) (x : Option α) : Option α := match b with
  | true => x
  | false => none
theorem gd_some {α : Type} {b : Bool} {x : Option α} {r : α} (h : gd b x = some r) : b = true ∧ x = some r := by
  cases b
  · cases h
  · exact ⟨rfl, h⟩
theorem gd_t {α : Type} {b : Bool} (h : b = true) (x : Option α) : gd b x = x := by subst h; rfl
/-- place a is an object of class ci -/
def gO (S : List fw_Sh) (ci a : Nat) : Bool := decide (S[a]? = some (.inr ci))
/-- i is an index of the array of kind k at place a -/
def gA (S : List fw_Sh) (k a : Nat) (i : Int32) : Bool := decide (0 ≤ i) && decide (i.toNatClampNeg < fw_len2 S k a)
def gN (x : Int32) : Bool := decide (¬ x = -1)
def gZ (x : Int32) : Bool := decide (¬ x = 0)
def gB (x : Int32) : Bool := decide (x = 0 ∨ x = 1)
/-- place a is an array of kind k -/
def gL (S : List fw_Sh) (k a : Nat) : Bool := decide (S[a]? = some (.inl (k, fw_len2 S k a)))
theorem gO_of {S : List fw_Sh} {ci a : Nat} (h : gO S ci a = true) : fw_isO S ci a := (of_decide_eq_true h : S[a]? = some (.inr ci))
theorem gL_of {S : List fw_Sh} {k a : Nat} (h : gL S k a = true) : S[a]? = some (.inl (k, fw_len2 S k a)) := of_decide_eq_true h
theorem gA_of {S : List fw_Sh} {k a : Nat} {i : Int32} (h : gA S k a i = true) : vp_in i (fw_len2 S k a) := by
  simp only [gA, Bool.and_eq_true, decide_eq_true_eq] at h
  intro q
  rcases q with q | q
  · have h1 := Int32.le_iff_toInt_le.mp h.1
    have h2 := Int32.lt_iff_toInt_lt.mp q
    omega
  · omega
theorem gN_of {x : Int32} (h : gN x = true) : ¬ x = -1 := of_decide_eq_true h
theorem gZ_of {x : Int32} (h : gZ x = true) : ¬ x = 0 := of_decide_eq_true h
theorem gB_of {x : Int32} (h : gB x = true) : x = 0 ∨ x = 1 := of_decide_eq_true h
theorem gB_n {x : Int32} (h : gB x = true) : narrow .boolean (.int x) = .int x := by rcases gB_of h with rfl | rfl <;> rfl
theorem gB_f {x : Int32} (h : gB x = true) : fits .boolean (.int x) = true := by rcases gB_of h with rfl | rfl <;> rfl
def b1 {α γ : Type} (o : Option α) (k : α → Option γ) : Option γ := match o with
  | some a => k a
  | none => none
def b2 {α β γ : Type} (o : Option (α × β)) (k : α → β → Option γ) : Option γ := match o with
  | some (a, b) => k a b
  | none => none
theorem b1_some {α γ : Type} {o : Option α} {k : α → Option γ} {r : γ} (h : b1 o k = some r) : ∃ a, o = some a ∧ k a = some r := by
  cases o with
  | none => cases h
  | some a => exact ⟨a, rfl, h⟩
theorem b2_some {α β γ : Type} {o : Option (α × β)} {k : α → β → Option γ} {r : γ} (h : b2 o k = some r) : ∃ a b, o = some (a, b) ∧ k a b = some r := by
  cases o with
  | none => cases h
  | some a => exact ⟨a.1, a.2, rfl, h⟩
/-- goes on, or on with what was thrown -/
def bx {α β : Type} (r : α ⊕ String) (k : α → β) (kx : String → β) : β := match r with
  | .inl a => k a
  | .inr E => kx E
theorem bx_l {α β : Type} {a : α} {k : α → β} {kx : String → β} {x : β} (h : bx (.inl a) k kx = x) : k a = x := h
theorem bx_r {α β : Type} {E : String} {k : α → β} {kx : String → β} {x : β} (h : bx (.inr E) k kx = x) : kx E = x := h
/-- a loop's end: the method's, or the loop's -/
def bl {α δ β : Type} (r : α ⊕ δ) (kr : α → β) (k : δ → β) : β := match r with
  | .inl a => kr a
  | .inr d => k d
theorem bl_l {α δ β : Type} {a : α} {kr : α → β} {k : δ → β} {x : β} (h : bl (.inl a) kr k = x) : kr a = x := h
theorem bl_r {α δ β : Type} {d : δ} {kr : α → β} {k : δ → β} {x : β} (h : bl (.inr d) kr k = x) : k d = x := h
/-- a reference that may be null -/
def bn {β : Type} (r : Option Nat) (kn : β) (k : Nat → β) : β := match r with
  | none => kn
  | some a => k a
def fw_mcO (o : fw_O) : Nat := match o.1 with
  | .inl _ => 0
  | .inr _ => 1
def fw_msO (o : fw_O) : Nat := match o.1 with
  | .inl _ => 0
  | .inr _ => 6
/-- a reference or null as a value -/
def rv (r : Option Nat) : Value := match r with
  | none => .null
  | some a => .ref a
section FWU
variable {G : fw_G} {own : String} {cc : ByteArray} {nL : Nat} {p : Program} {l : Launch} {e : Env} {R : Room} {s : State} {m : MethodId} {args : Array Value} {below : List Frame} {meth : Method} {c : Code} {Q : State → Prop} {cb sb pc : Nat} {lv : List (Nat × Value)} {st : List Value} {S S' : List fw_Sh} {M M' : fw_Mem}
theorem fw_sub (ks : List Nat) {lv' : List (Nat × Value)} (h : lv_pick lv ks = lv') (k : fw_W G p l e R s m args below meth c nL Q cb sb pc lv' st S M) : fw_W G p l e R s m args below meth c nL Q cb sb pc lv st S M := by
  intro H locs ls hl hR hS
  refine k H locs ls (lv_sub hl ks ?_) hR hS
  rw [← h]
  simp only [lv_pick, List.map_filterMap]
  congr 1
  funext i
  simp only [List.getElem?_map]
end FWU
