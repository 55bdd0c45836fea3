/-! ===== rules: fields, arrays, switches ===== -/
theorem fw_inU (ci : Nat) (h : ci < 11) : ∀ w ∈ u_ws (fw_RR ci) (fw_TT ci) (fw_nF ci), w ∈ wsU := by
  match ci, h with
  | 0, _ => exact inU0
  | 1, _ => exact inU1
  | 2, _ => exact inU2
  | 3, _ => exact inU3
  | 4, _ => exact inU4
  | 5, _ => exact inU5
  | 6, _ => exact inU6
  | 7, _ => exact inU7
  | 8, _ => exact inU8
  | 9, _ => exact inU9
  | 10, _ => exact inU10
/-- the length of the array of kind k at place a (0: none such) -/
def fw_len2 (S : List fw_Sh) (k a : Nat) : Nat := match S[a]? with
  | some (.inl (k', n)) => if k' = k then n else 0
  | _ => 0
def fw_isO (S : List fw_Sh) (ci a : Nat) : Prop := S[a]? = some (.inr ci)
theorem fw_len2_sh {S : List fw_Sh} {k a : Nat} {i : Int32} (h : vp_in i (fw_len2 S k a)) : ∃ n, S[a]? = some (.inl (k, n)) ∧ vp_in i n := by
  unfold fw_len2 at h
  split at h
  · rename_i k' n e
    by_cases hk : k' = k
    · subst hk
      rw [if_pos rfl] at h
      exact ⟨n, e, h⟩
    · rw [if_neg hk] at h
      exact absurd (Or.inr (Nat.zero_le _)) h
  · exact absurd (Or.inr (Nat.zero_le _)) h
section FWF
variable {G : fw_G} {own : String} {cc : ByteArray} {nL : Nat} {p : Program} {l : Launch} {e : Env} {R : Room} {s : State} {m : MethodId} {args : Array Value} {below : List Frame} {meth : Method} {c : Code} {Q : State → Prop} {cb sb pc : Nat} {lv lv' : List (Nat × Value)} {st : List Value} {S S' : List fw_Sh} {M M' : fw_Mem}
theorem fw_getI (C : fw_C G own cc nL p s m args c) {ix a : Nat} (ci k : Nat) (hci : ci < 11) (hk : k < fw_nF ci) (w : Cond.fieldLink own ix (fw_TT ci k).1 (fw_TT ci k).2.1 (fw_TT ci k).2.2.1 ∈ wsU) (hi : fw_isR (fw_ty ci k) = false) (hS : fw_isO S ci a) (d : decode cc pc = .ok (.getfield ix, 3)) (kk : fw_W G p l e R s m args below meth c nL Q cb sb (pc + 3) lv (.int (M a k) :: st) S M) : fw_W G p l e R s m args below meth c nL Q cb sb pc lv (.ref a :: st) S M := by
  intro H locs ls hl hR hv
  refine va_get C.1.1 C.1.2.1 C.1.2.2.2.2 (fw_inU ci hci) C.1.2.2.2.1 C.2.1 hR.2 a (fw_ws_get G M hS) (fw_cls ci hci) k hk (C.1.2.2.2.2 _ w) (fun _ h9 => h9) (v := .int (M a k)) ?_ d (kk H locs ls hl hR hv)
  rw [fw_fs_get G _ hk]
  simp [fw_fv, hi]
theorem fw_getR (C : fw_C G own cc nL p s m args c) {ix a : Nat} (ci k : Nat) (hci : ci < 11) (hk : k < fw_nF ci) (w : Cond.fieldLink own ix (fw_TT ci k).1 (fw_TT ci k).2.1 (fw_TT ci k).2.2.1 ∈ wsU) (hi : fw_isR (fw_ty ci k) = true) (hS : fw_isO S ci a) (hn : ¬ M a k = -1) (d : decode cc pc = .ok (.getfield ix, 3)) (kk : fw_W G p l e R s m args below meth c nL Q cb sb (pc + 3) lv (.ref (M a k).toNatClampNeg :: st) S M) : fw_W G p l e R s m args below meth c nL Q cb sb pc lv (.ref a :: st) S M := by
  intro H locs ls hl hR hv
  refine va_get C.1.1 C.1.2.1 C.1.2.2.2.2 (fw_inU ci hci) C.1.2.2.2.1 C.2.1 hR.2 a (fw_ws_get G M hS) (fw_cls ci hci) k hk (C.1.2.2.2.2 _ w) (fun _ h9 => h9) (v := .ref (fw_ad G (M a k).toNatClampNeg)) ?_ d (kk H locs ls hl hR hv)
  rw [fw_fs_get G _ hk]
  simp [fw_fv, hi, fw_fr, hn, va_rf]
theorem fw_putG {H : Heap} {a k ci : Nat} {x : Int32} (hR : va_P (fw_D G) vwCl ((fw_ws G S M).set a (fw_ad G a, .inr (ci, (fw_fs G ci (M a)).set k (fw_fv G (fw_ty ci k) x)))) H) (hk : k < fw_nF ci) (hS : fw_isO S ci a) : va_P (fw_D G) vwCl (fw_ws G S (fw_set M a k x)) H := by
  rw [fw_fs_set G _ hk, ← fw_set_row] at hR
  have h := fw_ws_put G (M := M) (M' := fw_set M a k x) hS (fun b hb => fw_set_ne M hb)
  rw [← h]
  exact hR
theorem fw_putI (C : fw_C G own cc nL p s m args c) {ix a : Nat} {x : Int32} (ci k : Nat) (hci : ci < 11) (hk : k < fw_nF ci) (w : Cond.fieldLink own ix (fw_TT ci k).1 (fw_TT ci k).2.1 (fw_TT ci k).2.2.1 ∈ wsU) (hi : fw_isR (fw_ty ci k) = false) (hf : (fw_TT ci k).2.2.2 = false) (hn : narrow (fw_ty ci k) (.int x) = .int x) (hfi : fits (fw_ty ci k) (.int x) = true) (hS : fw_isO S ci a) (d : decode cc pc = .ok (.putfield ix, 3)) (kk : fw_W G p l e R s m args below meth c nL Q cb sb (pc + 3) lv st S (fw_set M a k x)) : fw_W G p l e R s m args below meth c nL Q cb sb pc lv (.int x :: .ref a :: st) S M := by
  intro H locs ls hl hR hv
  have hx : fw_fv G (fw_ty ci k) x = .int x := by simp [fw_fv, hi]
  refine va_put C.1.1 C.1.2.1 C.1.2.2.2.2 (fw_inU ci hci) (fw_ty ci) (fw_tyok ci hci) (fw_nmok ci hci) C.1.2.2.2.1 C.2.1 hR.2 (fw_isD G M hR.1) hv a (fw_ws_get G M hS) (fw_cls ci hci) k hk (C.1.2.2.2.2 _ w) (fun _ h9 => h9) hf (fw_tyok ci hci k hk) hn hfi (by rw [fw_fs_len]; exact hk) d (fun H1 locs1 hP hD hV => kk H1 locs1 ls hl ⟨hR.1, ?_⟩ hV)
  exact fw_putG (by rw [hx]; exact hP) hk hS
/-- a final field, in its constructor -/
theorem fw_putFI (C : fw_C G own cc nL p s m args c) {ix a : Nat} {x : Int32} (ci k : Nat) (hci : ci < 11) (hk : k < fw_nF ci) (w : Cond.fieldLink own ix (fw_TT ci k).1 (fw_TT ci k).2.1 (fw_TT ci k).2.2.1 ∈ wsU) (hi : fw_isR (fw_ty ci k) = false) (hf : (fw_TT ci k).2.2.2 = true) (hm : meth.name = "<init>") (ho : (fw_TT ci k).1 = own) (hn : narrow (fw_ty ci k) (.int x) = .int x) (hfi : fits (fw_ty ci k) (.int x) = true) (hS : fw_isO S ci a) (d : decode cc pc = .ok (.putfield ix, 3)) (kk : fw_W G p l e R s m args below meth c nL Q cb sb (pc + 3) lv st S (fw_set M a k x)) : fw_W G p l e R s m args below meth c nL Q cb sb pc lv (.int x :: .ref a :: st) S M := by
  intro H locs ls hl hR hv
  have hx : fw_fv G (fw_ty ci k) x = .int x := by simp [fw_fv, hi]
  refine va_putF C.1.1 C.1.2.1 C.1.2.2.2.2 (fw_inU ci hci) (fw_ty ci) (fw_tyok ci hci) (fw_nmok ci hci) C.1.2.2.2.1 C.2.1 hR.2 (fw_isD G M hR.1) hv a (fw_ws_get G M hS) (fw_cls ci hci) k hk (C.1.2.2.2.2 _ w) (fun _ h9 => h9) hf hm ho (fw_tyok ci hci k hk) hn hfi (by rw [fw_fs_len]; exact hk) d (fun H1 locs1 hP hD hV => kk H1 locs1 ls hl ⟨hR.1, ?_⟩ hV)
  exact fw_putG (by rw [hx]; exact hP) hk hS
theorem fw_nar_ref {ty : FieldType} (h : fw_isR ty = true) (a : Nat) : narrow ty (.ref a) = .ref a ∧ fits ty (.ref a) = true := by
  cases ty <;> first | exact ⟨rfl, rfl⟩ | cases h
theorem fw_toN {a : Nat} (h : a < 1000000) : (nI a).toNatClampNeg = a ∧ ¬ nI a = -1 := by
  refine ⟨nI_clamp (by omega), fun e => ?_⟩
  have h1 := nI_toInt (n := a) (by omega)
  rw [e] at h1
  have h2 : (-1 : Int32).toInt = -1 := rfl
  omega
theorem fw_putFR (C : fw_C G own cc nL p s m args c) {ix a b : Nat} (ci k : Nat) (hci : ci < 11) (hk : k < fw_nF ci) (w : Cond.fieldLink own ix (fw_TT ci k).1 (fw_TT ci k).2.1 (fw_TT ci k).2.2.1 ∈ wsU) (hi : fw_isR (fw_ty ci k) = true) (hf : (fw_TT ci k).2.2.2 = true) (hm : meth.name = "<init>") (ho : (fw_TT ci k).1 = own) (hb : b < 1000000) (hS : fw_isO S ci a) (d : decode cc pc = .ok (.putfield ix, 3)) (kk : fw_W G p l e R s m args below meth c nL Q cb sb (pc + 3) lv st S (fw_set M a k (nI b))) : fw_W G p l e R s m args below meth c nL Q cb sb pc lv (.ref b :: .ref a :: st) S M := by
  intro H locs ls hl hR hv
  have hx : fw_fv G (fw_ty ci k) (nI b) = .ref (fw_ad G b) := by simp [fw_fv, hi, fw_fr, (fw_toN hb).1, (fw_toN hb).2, va_rf]
  refine va_putF C.1.1 C.1.2.1 C.1.2.2.2.2 (fw_inU ci hci) (fw_ty ci) (fw_tyok ci hci) (fw_nmok ci hci) C.1.2.2.2.1 C.2.1 hR.2 (fw_isD G M hR.1) hv a (fw_ws_get G M hS) (fw_cls ci hci) k hk (C.1.2.2.2.2 _ w) (fun _ h9 => h9) hf hm ho (fw_tyok ci hci k hk) (fw_nar_ref hi _).1 (fw_nar_ref hi _).2 (by rw [fw_fs_len]; exact hk) d (fun H1 locs1 hP hD hV => kk H1 locs1 ls hl ⟨hR.1, ?_⟩ hV)
  exact fw_putG (by rw [hx]; exact hP) hk hS
theorem fw_putA {H : Heap} {a k n : Nat} {f : Nat → Int32} {j : Nat} {x : Int32} (hS : S[a]? = some (.inl (k, n))) (hf : fw_set M a j x a = f) (hP : va_P (fw_D G) vwCl ((fw_ws G S M).set a (fw_ad G a, .inl (fw_cA G k, n, fw_ar G k f))) H) : va_P (fw_D G) vwCl (fw_ws G S (fw_set M a j x)) H := by
  have h := fw_ws_put G (M := M) (M' := fw_set M a j x) hS (fun b hb => fw_set_ne M hb)
  rw [← h, hf]
  exact hP
theorem fw_iald (C : fw_C G own cc nL p s m args c) {a : Nat} {i : Int32} (hin : vp_in i (fw_len2 S 0 a)) (d : decode cc pc = .ok (.iaload, 1)) (kk : fw_W G p l e R s m args below meth c nL Q cb sb (pc + 1) lv (.int (M a i.toNatClampNeg) :: st) S M) : fw_W G p l e R s m args below meth c nL Q cb sb pc lv (.int i :: .ref a :: st) S M := by
  intro H locs ls hl hR hv
  obtain ⟨n, hS, hi⟩ := fw_len2_sh hin
  exact va_iald C.1.1 C.1.2.1 C.2.1 hR.2 a 0 (fw_ws_get G M hS) rfl hi d (kk H locs ls hl hR hv)
theorem fw_bald (C : fw_C G own cc nL p s m args c) {a : Nat} {i : Int32} (hin : vp_in i (fw_len2 S 1 a)) (d : decode cc pc = .ok (.baload, 1)) (kk : fw_W G p l e R s m args below meth c nL Q cb sb (pc + 1) lv (.int (M a i.toNatClampNeg) :: st) S M) : fw_W G p l e R s m args below meth c nL Q cb sb pc lv (.int i :: .ref a :: st) S M := by
  intro H locs ls hl hR hv
  obtain ⟨n, hS, hi⟩ := fw_len2_sh hin
  exact va_bald C.1.1 C.1.2.1 C.2.1 hR.2 a 1 (fw_ws_get G M hS) rfl hi d (kk H locs ls hl hR hv)
theorem fw_lald (C : fw_C G own cc nL p s m args c) {a : Nat} {i : Int32} (hin : vp_in i (fw_len2 S 2 a)) (d : decode cc pc = .ok (.laload, 1)) (kk : fw_W G p l e R s m args below meth c nL Q cb sb (pc + 1) lv (.long (M a i.toNatClampNeg).toInt64 :: st) S M) : fw_W G p l e R s m args below meth c nL Q cb sb pc lv (.int i :: .ref a :: st) S M := by
  intro H locs ls hl hR hv
  obtain ⟨n, hS, hi⟩ := fw_len2_sh hin
  exact va_lald C.1.1 C.1.2.1 C.2.1 hR.2 a 2 (fw_ws_get G M hS) rfl hi d (kk H locs ls hl hR hv)
/-- kinds 3 (Link) and 4 (Suit) -/
theorem fw_aald (C : fw_C G own cc nL p s m args c) (kd : Nat) {a : Nat} {i : Int32} (hkd : kd = 3 ∨ kd = 4) (hin : vp_in i (fw_len2 S kd a)) (hn : ¬ M a i.toNatClampNeg = -1) (d : decode cc pc = .ok (.aaload, 1)) (kk : fw_W G p l e R s m args below meth c nL Q cb sb (pc + 1) lv (.ref (M a i.toNatClampNeg).toNatClampNeg :: st) S M) : fw_W G p l e R s m args below meth c nL Q cb sb pc lv (.int i :: .ref a :: st) S M := by
  intro H locs ls hl hR hv
  obtain ⟨n, hS, hi⟩ := fw_len2_sh hin
  have k9 := kk H locs ls hl hR hv
  have e9 : va_rf (fw_fr G (M a i.toNatClampNeg)) = .ref (fw_ad G (M a i.toNatClampNeg).toNatClampNeg) := by simp [fw_fr, hn, va_rf]
  rw [show List.map (fw_cv G) (Value.ref (M a i.toNatClampNeg).toNatClampNeg :: st) = va_rf (fw_fr G (M a i.toNatClampNeg)) :: st.map (fw_cv G) by rw [e9]; rfl] at k9
  rcases hkd with rfl | rfl
  · exact va_aldq (f := fun j => fw_fr G (M a j)) C.1.1 C.1.2.1 C.2.1 hR.2 a 3 (fw_ws_get G M hS) rfl hi d k9
  · exact va_aldq (f := fun j => fw_fr G (M a j)) C.1.1 C.1.2.1 C.2.1 hR.2 a 4 (fw_ws_get G M hS) rfl hi d k9
theorem fw_iast (C : fw_C G own cc nL p s m args c) {a : Nat} {i x : Int32} (hin : vp_in i (fw_len2 S 0 a)) (d : decode cc pc = .ok (.iastore, 1)) (kk : fw_W G p l e R s m args below meth c nL Q cb sb (pc + 1) lv st S (fw_set M a i.toNatClampNeg x)) : fw_W G p l e R s m args below meth c nL Q cb sb pc lv (.int x :: .int i :: .ref a :: st) S M := by
  intro H locs ls hl hR hv
  obtain ⟨n, hS, hi⟩ := fw_len2_sh hin
  exact va_iast C.1.1 C.1.2.1 C.2.1 hR.2 (fw_isD G M hR.1) hv a 0 (fw_ws_get G M hS) rfl hi d (fun H1 locs1 hP hD hV => kk H1 locs1 ls hl ⟨hR.1, fw_putA hS (fw_set_row M _ _ _) hP⟩ hV)
theorem fw_bast (C : fw_C G own cc nL p s m args c) {a : Nat} {i x : Int32} (hin : vp_in i (fw_len2 S 1 a)) (d : decode cc pc = .ok (.bastore, 1)) (kk : fw_W G p l e R s m args below meth c nL Q cb sb (pc + 1) lv st S (fw_set M a i.toNatClampNeg (vp_nar .byte x))) : fw_W G p l e R s m args below meth c nL Q cb sb pc lv (.int x :: .int i :: .ref a :: st) S M := by
  intro H locs ls hl hR hv
  obtain ⟨n, hS, hi⟩ := fw_len2_sh hin
  exact va_bast C.1.1 C.1.2.1 C.2.1 hR.2 (fw_isD G M hR.1) hv a 1 (fw_ws_get G M hS) rfl hi d (fun H1 locs1 hP hD hV => kk H1 locs1 ls hl ⟨hR.1, fw_putA hS (fw_set_row M _ _ _) hP⟩ hV)
theorem fw_last (C : fw_C G own cc nL p s m args c) {a : Nat} {i x : Int32} (hin : vp_in i (fw_len2 S 2 a)) (d : decode cc pc = .ok (.lastore, 1)) (kk : fw_W G p l e R s m args below meth c nL Q cb sb (pc + 1) lv st S (fw_set M a i.toNatClampNeg x)) : fw_W G p l e R s m args below meth c nL Q cb sb pc lv (.long x.toInt64 :: .int i :: .ref a :: st) S M := by
  intro H locs ls hl hR hv
  obtain ⟨n, hS, hi⟩ := fw_len2_sh hin
  refine va_last C.1.1 C.1.2.1 C.2.1 hR.2 (fw_isD G M hR.1) hv a 2 (fw_ws_get G M hS) rfl hi d (fun H1 locs1 hP hD hV => kk H1 locs1 ls hl ⟨hR.1, fw_putA hS (fw_set_row M _ _ _) ?_⟩ hV)
  have e9 : (fun j => (upd (M a) i.toNatClampNeg x j).toInt64) = vp_updL (fun j => (M a j).toInt64) i.toNatClampNeg x.toInt64 := by
    funext j
    by_cases hj : j = i.toNatClampNeg
    · simp [upd, vp_updL, hj]
    · simp [upd, vp_updL, hj]
  show va_P _ _ (List.set _ _ (_, Sum.inl (_, _, Sum.inr (Sum.inl (fun j => (upd (M a) i.toNatClampNeg x j).toInt64))))) _
  rw [e9]
  exact hP
theorem fw_aast (C : fw_C G own cc nL p s m args c) (kd ci : Nat) {a b : Nat} {i : Int32} (hkd : (kd = 3 ∧ ci = 3) ∨ (kd = 4 ∧ ci = 6)) (hin : vp_in i (fw_len2 S kd a)) (hb : fw_isO S ci b) (hb2 : b < 1000000) (d : decode cc pc = .ok (.aastore, 1)) (kk : fw_W G p l e R s m args below meth c nL Q cb sb (pc + 1) lv st S (fw_set M a i.toNatClampNeg (nI b))) : fw_W G p l e R s m args below meth c nL Q cb sb pc lv (.ref b :: .int i :: .ref a :: st) S M := by
  intro H locs ls hl hR hv
  obtain ⟨n, hS, hi⟩ := fw_len2_sh hin
  have e9 : (fun j => fw_fr G (upd (M a) i.toNatClampNeg (nI b) j)) = va_up (fun j => fw_fr G (M a j)) i.toNatClampNeg (some (fw_ad G b)) := by
    funext j
    by_cases hj : j = i.toNatClampNeg
    · simp [upd, va_up, hj, fw_fr, (fw_toN hb2).1, (fw_toN hb2).2]
    · simp [upd, va_up, hj]
  rcases hkd with ⟨rfl, rfl⟩ | ⟨rfl, rfl⟩
  · refine va_astq (f := fun j => fw_fr G (M a j)) C.1.1 C.1.2.1 C.2.1 hR.2 (fw_isD G M hR.1) hv a 3 b 3 (fw_ws_get G M hS) rfl (fw_ws_get G M hb) (fw_cls 3 (by omega)) hi d (fun H1 locs1 hP hD hV => kk H1 locs1 ls hl ⟨hR.1, fw_putA hS (fw_set_row M _ _ _) ?_⟩ hV)
    show va_P _ _ (List.set _ _ (_, Sum.inl (_, _, Sum.inr (Sum.inr (Sum.inr (Sum.inr (fun j => fw_fr G (upd (M a) i.toNatClampNeg (nI b) j)))))))) _
    rw [e9]
    exact hP
  · refine va_astq (f := fun j => fw_fr G (M a j)) C.1.1 C.1.2.1 C.2.1 hR.2 (fw_isD G M hR.1) hv a 4 b 6 (fw_ws_get G M hS) rfl (fw_ws_get G M hb) (fw_cls 6 (by omega)) hi d (fun H1 locs1 hP hD hV => kk H1 locs1 ls hl ⟨hR.1, fw_putA hS (fw_set_row M _ _ _) ?_⟩ hV)
    show va_P _ _ (List.set _ _ (_, Sum.inl (_, _, Sum.inr (Sum.inr (Sum.inr (Sum.inr (fun j => fw_fr G (upd (M a) i.toNatClampNeg (nI b) j)))))))) _
    rw [e9]
    exact hP
theorem fw_alen (C : fw_C G own cc nL p s m args c) {a : Nat} (kd n : Nat) (hkd : kd = 0 ∨ kd = 1) (hS : S[a]? = some (.inl (kd, n))) (d : decode cc pc = .ok (.arraylength, 1)) (kk : fw_W G p l e R s m args below meth c nL Q cb sb (pc + 1) lv (.int (nI n) :: st) S M) : fw_W G p l e R s m args below meth c nL Q cb sb pc lv (.ref a :: st) S M := by
  intro H locs ls hl hR hv
  rcases hkd with rfl | rfl
  · exact va_alen C.1.1 C.1.2.1 C.2.1 hR.2 a 0 (fw_ws_get G M hS) rfl rfl d (kk H locs ls hl hR hv)
  · exact va_alen C.1.1 C.1.2.1 C.2.1 hR.2 a 1 (fw_ws_get G M hS) rfl rfl d (kk H locs ls hl hR hv)
theorem fw_sld (C : fw_C G own cc nL p s m args c) {i : Int32} (hin : vp_in i (fw_L G)) (d : decode cc pc = .ok (.iaload, 1)) (kk : fw_W G p l e R s m args below meth c nL Q cb sb (pc + 1) lv (.int (fw_xs G i.toNatClampNeg) :: st) S M) : fw_W G p l e R s m args below meth c nL Q cb sb pc lv (.int i :: .ref 1000000 :: st) S M := by
  intro H locs ls hl hR hv
  obtain ⟨-, -, -, -, -, -, -, -, -, -, hX, hb, hz⟩ := C.2
  exact va_sld (b := fw_b G) C.1.1 C.1.2.1 hX (Nat.lt_of_lt_of_le hb hz) (fun q => by unfold fw_A at q; omega) hv hin d (kk H locs ls hl hR hv)
theorem fw_slen (C : fw_C G own cc nL p s m args c) (d : decode cc pc = .ok (.arraylength, 1)) (kk : fw_W G p l e R s m args below meth c nL Q cb sb (pc + 1) lv (.int (nI (fw_L G)) :: st) S M) : fw_W G p l e R s m args below meth c nL Q cb sb pc lv (.ref 1000000 :: st) S M := by
  intro H locs ls hl hR hv
  obtain ⟨-, -, -, -, -, -, -, -, -, -, hX, hb, hz⟩ := C.2
  exact va_slen (b := fw_b G) C.1.1 C.1.2.1 hX (Nat.lt_of_lt_of_le hb hz) (fun q => by unfold fw_A at q; omega) hv d (kk H locs ls hl hR hv)
end FWF
