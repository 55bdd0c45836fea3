/-! ===== more words and rules: names for memories and numbers, min, arraycopy, strings' length and signs ===== -/
def bm {α γ : Type} (x : α) (k : α → Option γ) : Option γ := k x
def fw_oI (r : Int32 ⊕ String) : Option Value ⊕ String := match r with
  | .inl v => .inl (some (.int v))
  | .inr E => .inr E
def fw_oV (r : Unit ⊕ String) : Option Value ⊕ String := match r with
  | .inl _ => .inl none
  | .inr E => .inr E
def fw_oA (r : Option Nat ⊕ String) : Option Value ⊕ String := match r with
  | .inl v => .inl (some (rv v))
  | .inr E => .inr E
/-- arraycopy of ints stays in bounds -/
def gC (S : List fw_Sh) (a0 : Nat) (sp : Int32) (a1 : Nat) (dp n : Int32) : Bool := decide (S[a0]? = some (.inl (0, fw_len2 S 0 a0))) && decide (S[a1]? = some (.inl (0, fw_len2 S 0 a1))) && decide (0 ≤ sp) && decide (0 ≤ dp) && decide (0 ≤ n) && decide (sp.toNatClampNeg + n.toNatClampNeg ≤ fw_len2 S 0 a0) && decide (dp.toNatClampNeg + n.toNatClampNeg ≤ fw_len2 S 0 a1)
def fw_cpy (M : fw_Mem) (a0 a1 sp dp n : Nat) : fw_Mem := fun b j => if b = a1 then (if dp ≤ j ∧ j < dp + n then M a0 (sp + (j - dp)) else M b j) else M b j
theorem gC_of {S : List fw_Sh} {a0 a1 : Nat} {sp dp n : Int32} (h : gC S a0 sp a1 dp n = true) : S[a0]? = some (.inl (0, fw_len2 S 0 a0)) ∧ S[a1]? = some (.inl (0, fw_len2 S 0 a1)) ∧ ¬ sp < 0 ∧ ¬ dp < 0 ∧ ¬ n < 0 ∧ sp.toNatClampNeg + n.toNatClampNeg ≤ fw_len2 S 0 a0 ∧ dp.toNatClampNeg + n.toNatClampNeg ≤ fw_len2 S 0 a1 := by
  simp only [gC, Bool.and_eq_true, decide_eq_true_eq] at h
  obtain ⟨⟨⟨⟨⟨⟨h1, h2⟩, h3⟩, h4⟩, h5⟩, h6⟩, h7⟩ := h
  exact ⟨h1, h2, Int32.not_lt.mpr h3, Int32.not_lt.mpr h4, Int32.not_lt.mpr h5, h6, h7⟩
/-- strings lie at places 1000001 + i, i below 31 -/
def gS (a : Nat) : Bool := decide (1000001 ≤ a) && decide (a < 1000001 + fw_nS)
def sLen (a : Nat) : Nat := fw_len.getD (a - 1000001) 0
def sChr (a j : Nat) : Int32 := (fw_byt.getD (a - 1000001) []).getD j 0
def gT (a : Nat) (i : Int32) : Bool := decide (0 ≤ i) && decide (i.toNatClampNeg < sLen a)
theorem gS_of {a : Nat} (h : gS a = true) : ∃ i, i < fw_nS ∧ a = 1000001 + i := by
  simp only [gS, Bool.and_eq_true, decide_eq_true_eq] at h
  exact ⟨a - 1000001, by omega, by omega⟩
theorem gT_of {a : Nat} {i : Int32} (h : gT a i = true) : vp_in i (sLen a) := by
  simp only [gT, Bool.and_eq_true, decide_eq_true_eq] at h
  intro q
  rcases q with q | q
  · exact Int32.not_lt.mpr h.1 q
  · omega
section FWV
variable {G : fw_G} {own : String} {cc : ByteArray} {nL : Nat} {p : Program} {l : Launch} {e : Env} {R : Room} {s : State} {m : MethodId} {args : Array Value} {below : List Frame} {meth : Method} {c : Code} {Q : State → Prop} {cb sb pc : Nat} {lv : List (Nat × Value)} {st : List Value} {S S' : List fw_Sh} {M M' : fw_Mem}
theorem fw_bm {γ : Type} {x : fw_Mem} {k : fw_Mem → Option γ} {r : γ} (h : bm x k = some r) (kk : ∀ y, k y = some r → fw_W G p l e R s m args below meth c nL Q cb sb pc lv st S y) : fw_W G p l e R s m args below meth c nL Q cb sb pc lv st S x := kk x h
theorem fw_bi {γ : Type} {x : Int32} {k : Int32 → Option γ} {r : γ} (h : bm x k = some r) (kk : ∀ y, k y = some r → fw_W G p l e R s m args below meth c nL Q cb sb pc lv (.int y :: st) S M) : fw_W G p l e R s m args below meth c nL Q cb sb pc lv (.int x :: st) S M := kk x h
theorem fw_iushr (C : fw_C G own cc nL p s m args c) {x y : Int32} (d : decode cc pc = .ok (.iushr, 1)) (k : fw_W G p l e R s m args below meth c nL Q cb sb (pc + 1) lv (.int (x.toUInt32 >>> (y.toUInt32 &&& Int32.toUInt32 31)).toInt32 :: st) S M) : fw_W G p l e R s m args below meth c nL Q cb sb pc lv (.int y :: .int x :: st) S M :=
  fun H locs ls hl hR hS => lv_iushr C.1.1 C.1.2.1 d rfl (k H locs ls hl hR hS)
theorem fw_min (C : fw_C G own cc nL p s m args c) {ix : Nat} {x y : Int32} (w : Cond.methodLink own ix Lib.Math.min.name ∈ wsU) (hst : (st.map fun v => v.category).sum ≤ 8) (hf : 1 ≤ R.frames) (hlo : 21 ≤ R.locals) (hc : cb ≤ R.cells) (hs : sb ≤ R.slots) (d : decode cc pc = .ok (.invokestatic ix, 3)) (k : fw_W G p l e R s m args below meth c nL Q cb sb (pc + 3) lv (.int (if y < x then y else x) :: st) S M) : fw_W G p l e R s m args below meth c nL Q cb sb pc lv (.int y :: .int x :: st) S M := by
  intro H locs ls hl hR hS
  exact va_mmin C.1.1 C.1.2.1 (by rw [C.1.2.2.1]; exact hl.1.symm) C.1.2.2.2.1 (C.1.2.2.2.2 _ w) (C.1.2.2.2.2 _ wt_yJ9_min_7cf53) (C.1.2.2.2.2 _ wini_J9) (C.1.2.2.2.2 _ wc_mathMin) hf (by rw [fw_cats]; omega) hc hs d (k H locs ls hl hR hS)
theorem fw_copy (C : fw_C G own cc nL p s m args c) {ix a0 a1 : Nat} {sp dp n : Int32} (w : Cond.methodLink own ix arraycopyName ∈ wsU) (hst : (st.map fun v => v.category).sum ≤ 8) (h : S[a0]? = some (.inl (0, fw_len2 S 0 a0)) ∧ S[a1]? = some (.inl (0, fw_len2 S 0 a1)) ∧ ¬ sp < 0 ∧ ¬ dp < 0 ∧ ¬ n < 0 ∧ sp.toNatClampNeg + n.toNatClampNeg ≤ fw_len2 S 0 a0 ∧ dp.toNatClampNeg + n.toNatClampNeg ≤ fw_len2 S 0 a1) (hf : 1 ≤ R.frames) (hlo : 8 + (nativeFrameWords "java/lang/System" "arraycopy" 5 + 11) ≤ R.locals) (d : decode cc pc = .ok (.invokestatic ix, 3)) (k : fw_W G p l e R s m args below meth c nL Q cb sb (pc + 3) lv st S (fw_cpy M a0 a1 sp.toNatClampNeg dp.toNatClampNeg n.toNatClampNeg)) : fw_W G p l e R s m args below meth c nL Q cb sb pc lv (.int n :: .int dp :: .ref a1 :: .int sp :: .ref a0 :: st) S M := by
  intro H locs ls hl hR hS
  obtain ⟨h1, h2, h3, h4, h5, h6, h7⟩ := h
  refine va_copyi C.1.1 C.1.2.1 (by rw [C.1.2.2.1]; exact hl.1.symm) C.1.2.2.2.1 (C.1.2.2.2.2 _ w) (C.1.2.2.2.2 _ wn_arraycopyName) (C.1.2.2.2.2 _ wt_arraycopyName) (C.1.2.2.2.2 _ wini_J10) C.2.1 hR.2 (fw_isD G M hR.1) hS a0 a1 0 0 (fw_ws_get G M h1) (fw_ws_get G M h2) rfl rfl rfl h3 h4 h5 h6 h7 (fun _ _ => rfl) hf (by rw [fw_cats]; omega) d (fun H1 locs1 hP hD hV => k H1 locs1 ls hl ⟨hR.1, ?_⟩ hV)
  have h9 := fw_ws_put G (M := M) (M' := fw_cpy M a0 a1 sp.toNatClampNeg dp.toNatClampNeg n.toNatClampNeg) h2 (fun b hb => by funext j; simp only [fw_cpy, if_neg hb])
  rw [← h9]
  have e9 : fw_cpy M a0 a1 sp.toNatClampNeg dp.toNatClampNeg n.toNatClampNeg a1 = va_cpy (M a0) (M a1) sp.toNatClampNeg dp.toNatClampNeg n.toNatClampNeg := by
    funext j
    simp only [fw_cpy, va_cpy, if_pos]
  rw [e9]
  exact hP
end FWV
