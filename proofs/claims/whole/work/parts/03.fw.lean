/-! ===== the abstract memory: places, their shapes, what they hold; the heap that it stands for ===== -/
abbrev fw_Mem : Type := Nat → Nat → Int32
/-- a place's shape: .inl (kind, length) an array, .inr ci an object of class ci -/
abbrev fw_Sh : Type := (Nat × Nat) ⊕ Nat
/-- the numbers of a run: base, classes' ids, slots, array classes' ids (kinds 0 int, 1 byte, 2 long, 3 Link, 4 Suit), strings' and their arrays' addresses, the script's address, length and ints -/
abbrev fw_G : Type := Nat × (Nat → ClassId) × (Nat → Nat → Nat) × (Nat → ClassId) × (Nat → Nat) × (Nat → Nat) × Nat × Nat × (Nat → Int32)
def fw_base (G : fw_G) : Nat := G.1
def fw_D (G : fw_G) : va_G := (G.2.1, G.2.2.1)
def fw_cA (G : fw_G) : Nat → ClassId := G.2.2.2.1
def fw_adK (G : fw_G) : Nat → Nat := G.2.2.2.2.1
def fw_adV (G : fw_G) : Nat → Nat := G.2.2.2.2.2.1
def fw_b (G : fw_G) : Nat := G.2.2.2.2.2.2.1
def fw_L (G : fw_G) : Nat := G.2.2.2.2.2.2.2.1
def fw_xs (G : fw_G) : Nat → Int32 := G.2.2.2.2.2.2.2.2
/-- places below 500000 are the run's own cells, those from 500000 on the strings' byte arrays, 1000000 is the script, those behind are strings -/
def fw_ad (G : fw_G) (a : Nat) : Nat := if a < 500000 then fw_base G + a else if a < 1000000 then fw_adV G (a - 500000) else if a = 1000000 then fw_b G else fw_adK G (a - 1000001)
def fw_cv (G : fw_G) : Value → Value
  | .ref a => .ref (fw_ad G a)
  | v => v
def fw_cl (G : fw_G) (q : Nat × Value) : Nat × Value := (q.1, fw_cv G q.2)
def fw_fr (G : fw_G) (x : Int32) : Option Nat := if x = -1 then none else some (fw_ad G x.toNatClampNeg)
def fw_isR : FieldType → Bool
  | .object _ => true
  | .array _ => true
  | _ => false
def fw_fv (G : fw_G) (ty : FieldType) (x : Int32) : Value := if fw_isR ty = true then va_rf (fw_fr G x) else .int x
def fw_nF (ci : Nat) : Nat := match ci with
  | 0 => 2 | 1 => 5 | 2 => 8 | 3 => 4 | 4 => 7 | 5 => 2 | 6 => 17 | 7 => 9 | 8 => 2 | 9 => 11 | _ => 26
def fw_ty (ci : Nat) : Nat → FieldType := match ci with
  | 0 => tyX0 | 1 => tyX1 | 2 => tyX2 | 3 => tyX3 | 4 => tyX4 | 5 => tyX5 | 6 => tyX6 | 7 => tyX7 | 8 => tyX8 | 9 => tyX9 | _ => tyX10
def fw_TT (ci : Nat) : u_T := match ci with
  | 0 => TX0 | 1 => TX1 | 2 => TX2 | 3 => TX3 | 4 => TX4 | 5 => TX5 | 6 => TX6 | 7 => TX7 | 8 => TX8 | 9 => TX9 | _ => TX10
def fw_RR (ci : Nat) : String := match ci with
  | 0 => RX0 | 1 => RX1 | 2 => RX2 | 3 => RX3 | 4 => RX4 | 5 => RX5 | 6 => RX6 | 7 => RX7 | 8 => RX8 | 9 => RX9 | _ => RX10
theorem fw_cls (ci : Nat) (h : ci < 11) : vwCl[ci]? = some (fw_RR ci, fw_TT ci, fw_nF ci) := by
  match ci, h with
  | 0, _ => rfl
  | 1, _ => rfl
  | 2, _ => rfl
  | 3, _ => rfl
  | 4, _ => rfl
  | 5, _ => rfl
  | 6, _ => rfl
  | 7, _ => rfl
  | 8, _ => rfl
  | 9, _ => rfl
  | 10, _ => rfl
theorem fw_tyok (ci : Nat) (h : ci < 11) : ∀ k, k < fw_nF ci → parseFieldDescriptor (fw_TT ci k).2.2.1 = some (fw_ty ci k) := by
  match ci, h with
  | 0, _ => exact tyX0_ok
  | 1, _ => exact tyX1_ok
  | 2, _ => exact tyX2_ok
  | 3, _ => exact tyX3_ok
  | 4, _ => exact tyX4_ok
  | 5, _ => exact tyX5_ok
  | 6, _ => exact tyX6_ok
  | 7, _ => exact tyX7_ok
  | 8, _ => exact tyX8_ok
  | 9, _ => exact tyX9_ok
  | 10, _ => exact tyX10_ok
theorem fw_nmok (ci : Nat) (h : ci < 11) : ∀ a, a < fw_nF ci → ∀ b, b < fw_nF ci → a ≠ b → (fw_TT ci a).2.1 ≠ (fw_TT ci b).2.1 := by
  match ci, h with
  | 0, _ => exact nmX0
  | 1, _ => exact nmX1
  | 2, _ => exact nmX2
  | 3, _ => exact nmX3
  | 4, _ => exact nmX4
  | 5, _ => exact nmX5
  | 6, _ => exact nmX6
  | 7, _ => exact nmX7
  | 8, _ => exact nmX8
  | 9, _ => exact nmX9
  | 10, _ => exact nmX10
def fw_tys (G : fw_G) : List (ClassId × FieldType) := [(fw_cA G 0, .int), (fw_cA G 1, .byte), (fw_cA G 2, .long), (fw_cA G 3, .object RX3), (fw_cA G 4, .object RX6)]
def fw_ar (G : fw_G) (k : Nat) (f : Nat → Int32) : (Nat → Int32) ⊕ (Nat → Int64) ⊕ (Nat → UInt32) ⊕ (Nat → UInt64) ⊕ (Nat → Option Nat) := match k with
  | 0 => .inl f
  | 1 => .inl f
  | 2 => .inr (.inl (fun j => (f j).toInt64))
  | _ => .inr (.inr (.inr (.inr (fun j => fw_fr G (f j)))))
def fw_fs (G : fw_G) (ci : Nat) (f : Nat → Int32) : List Value := (List.range (fw_nF ci)).map fun j => fw_fv G (fw_ty ci j) (f j)
def fw_cell (G : fw_G) (sh : fw_Sh) (f : Nat → Int32) : va_E := match sh with
  | .inl (k, n) => .inl (fw_cA G k, n, fw_ar G k f)
  | .inr ci => .inr (ci, fw_fs G ci f)
def fw_ws (G : fw_G) (S : List fw_Sh) (M : fw_Mem) : va_W := (List.range S.length).map fun a => (fw_ad G a, fw_cell G (S.getD a (.inr 0)) (M a))
def fw_A (G : fw_G) : Nat → Prop := fun q => fw_base G ≤ q
def fw_R (G : fw_G) (S : List fw_Sh) (M : fw_Mem) (H : Heap) : Prop := S.length ≤ 500000 ∧ va_P (fw_D G) vwCl (fw_ws G S M) H
def fw_set (M : fw_Mem) (a k : Nat) (v : Int32) : fw_Mem := fun b j => if b = a then (if j = k then v else M b j) else M b j
theorem fw_set_row (M : fw_Mem) (a k : Nat) (v : Int32) : fw_set M a k v a = upd (M a) k v := by
  funext j
  simp only [fw_set, upd, if_pos]
theorem fw_set_ne (M : fw_Mem) {a b k : Nat} {v : Int32} (h : b ≠ a) : fw_set M a k v b = M b := by
  funext j
  simp only [fw_set, if_neg h]
theorem fw_ws_get (G : fw_G) {S : List fw_Sh} (M : fw_Mem) {a : Nat} {sh : fw_Sh} (h : S[a]? = some sh) : (fw_ws G S M)[a]? = some (fw_ad G a, fw_cell G sh (M a)) := by
  have hl : a < S.length := (List.getElem?_eq_some_iff.mp h).1
  have hd : S.getD a (.inr 0) = sh := by rw [List.getD_eq_getElem?_getD, h]; rfl
  simp only [fw_ws, List.getElem?_map, List.getElem?_range hl, Option.map_some, hd]
theorem fw_ws_len (G : fw_G) (S : List fw_Sh) (M : fw_Mem) : (fw_ws G S M).length = S.length := by simp [fw_ws]
theorem fw_ws_some (G : fw_G) {S : List fw_Sh} {M : fw_Mem} {a : Nat} {q : Nat × va_E} (h : (fw_ws G S M)[a]? = some q) : a < S.length ∧ q.1 = fw_ad G a := by
  have hl : a < S.length := by
    have := (List.getElem?_eq_some_iff.mp h).1
    rwa [fw_ws_len] at this
  refine ⟨hl, ?_⟩
  simp only [fw_ws, List.getElem?_map, List.getElem?_range hl, Option.map_some] at h
  cases h
  rfl
theorem fw_ws_put (G : fw_G) {S : List fw_Sh} {M M' : fw_Mem} {a : Nat} {sh : fw_Sh} (h : S[a]? = some sh) (ho : ∀ b, b ≠ a → M' b = M b) : (fw_ws G S M).set a (fw_ad G a, fw_cell G sh (M' a)) = fw_ws G S M' := by
  apply List.ext_getElem?
  intro i
  have hl : a < S.length := (List.getElem?_eq_some_iff.mp h).1
  rw [List.getElem?_set, fw_ws_len]
  by_cases hi : a = i
  · subst hi
    rw [if_pos rfl, if_pos hl, fw_ws_get G M' h]
  · rw [if_neg hi]
    by_cases hil : i < S.length
    · have hs : S[i]? = some S[i] := List.getElem?_eq_getElem hil
      rw [fw_ws_get G M hs, fw_ws_get G M' hs, ho i (fun e => hi e.symm)]
    · rw [List.getElem?_eq_none (by rw [fw_ws_len]; omega), List.getElem?_eq_none (by rw [fw_ws_len]; omega)]
theorem fw_ad_low (G : fw_G) {a : Nat} (h : a < 500000) : fw_ad G a = fw_base G + a := by simp [fw_ad, h]
theorem fw_isD (G : fw_G) {S : List fw_Sh} (M : fw_Mem) (h : S.length ≤ 500000) : va_D (fw_A G) (fw_ws G S M) := by
  constructor
  · intro i j p q hp hq e
    obtain ⟨h1, e1⟩ := fw_ws_some G hp
    obtain ⟨h2, e2⟩ := fw_ws_some G hq
    rw [e1, e2, fw_ad_low G (by omega), fw_ad_low G (by omega)] at e
    omega
  · intro k q hk
    obtain ⟨h1, e1⟩ := fw_ws_some G hk
    rw [e1, fw_ad_low G (by omega)]
    exact Nat.le_add_right _ _
theorem fw_fs_len (G : fw_G) (ci : Nat) (f : Nat → Int32) : (fw_fs G ci f).length = fw_nF ci := by simp [fw_fs]
theorem fw_fs_get (G : fw_G) {ci k : Nat} (f : Nat → Int32) (h : k < fw_nF ci) : (fw_fs G ci f)[k]? = some (fw_fv G (fw_ty ci k) (f k)) := by
  simp only [fw_fs, List.getElem?_map, List.getElem?_range h, Option.map_some]
theorem fw_fs_set (G : fw_G) {ci k : Nat} (f : Nat → Int32) (h : k < fw_nF ci) (x : Int32) : (fw_fs G ci f).set k (fw_fv G (fw_ty ci k) x) = fw_fs G ci (upd f k x) := by
  apply List.ext_getElem?
  intro i
  rw [List.getElem?_set, fw_fs_len]
  by_cases hi : k = i
  · subst hi
    rw [if_pos rfl, if_pos h, fw_fs_get G _ h]
    simp [upd]
  · rw [if_neg hi]
    by_cases hil : i < fw_nF ci
    · rw [fw_fs_get G _ hil, fw_fs_get G _ hil]
      simp only [upd, if_neg (fun e => hi (Eq.symm e))]
    · rw [List.getElem?_eq_none (by rw [fw_fs_len]; omega), List.getElem?_eq_none (by rw [fw_fs_len]; omega)]
theorem fw_cv_cat (G : fw_G) (v : Value) : (fw_cv G v).category = v.category := by cases v <;> rfl
theorem fw_cats (G : fw_G) (st : List Value) : ((st.map (fw_cv G)).map fun v => v.category).sum = (st.map fun v => v.category).sum := by
  rw [List.map_map]
  congr 1
  exact List.map_congr_left fun v _ => fw_cv_cat G v
