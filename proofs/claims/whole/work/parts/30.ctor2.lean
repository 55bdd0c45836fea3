/-! ===== Records(): four rows, cleared, 24 links, 10 suits ===== -/
def rk_L (pL n0 : Nat) (M : fw_Mem) : Nat → fw_Mem
  | 0 => M
  | i + 1 => fw_set (fw_nO (rk_L pL n0 M i) (n0 + i) 3) pL i (nI (n0 + i))
def rk_S (pL n0 : Nat) (M : fw_Mem) : Nat → fw_Mem
  | 0 => M
  | i + 1 => fw_set (fw_set (fw_set (fw_nO (rk_S pL n0 M i) (n0 + i) 6) (n0 + i) 0 (nI i)) (n0 + i) 7 (-1)) pL i (nI (n0 + i))
theorem rk_L_old {pL n0 b : Nat} {M : fw_Mem} (hb : b < n0) (hp : b ≠ pL) : ∀ i, rk_L pL n0 M i b = M b := by
  intro i
  induction i with
  | zero => rfl
  | succ i ih =>
    funext j
    show fw_set (fw_nO (rk_L pL n0 M i) (n0 + i) 3) pL i (nI (n0 + i)) b j = _
    simp only [fw_set, fw_nO, if_neg hp, if_neg (show b ≠ n0 + i by omega), ih]
theorem rk_S_old {pL n0 b : Nat} {M : fw_Mem} (hb : b < n0) (hp : b ≠ pL) : ∀ i, rk_S pL n0 M i b = M b := by
  intro i
  induction i with
  | zero => rfl
  | succ i ih =>
    funext j
    show fw_set (fw_set (fw_set (fw_nO (rk_S pL n0 M i) (n0 + i) 6) (n0 + i) 0 (nI i)) (n0 + i) 7 (-1)) pL i (nI (n0 + i)) b j = _
    simp only [fw_set, fw_nO, if_neg hp, if_neg (show b ≠ n0 + i by omega), ih]
theorem rk_rep (T : List fw_Sh) (i : Nat) (x : fw_Sh) : T ++ List.replicate (i + 1) x = (T ++ List.replicate i x) ++ [x] := by
  rw [List.replicate_succ', List.append_assoc]
theorem rk_len (T : List fw_Sh) (i : Nat) (x : fw_Sh) : (T ++ List.replicate i x).length = T.length + i := by
  rw [List.length_append, List.length_replicate]
theorem rk_at {T : List fw_Sh} {a i : Nat} {x y : fw_Sh} (h : T[a]? = some y) : (T ++ List.replicate i x)[a]? = some y := by
  rw [List.getElem?_append_left (List.getElem?_eq_some_iff.mp h).1]
  exact h
theorem rk_in {S : List fw_Sh} {k a n i : Nat} (h : S[a]? = some (.inl (k, n))) (hi : i < n) (hn : n < 1000) : vp_in (nI i) (fw_len2 S k a) := by
  have e : fw_len2 S k a = n := by simp [fw_len2, h]
  rw [e]
  exact vp_in_nI hi (by omega)
section RKL
variable {G : fw_G} {p : Program} {l : Launch} {e : Env} {R : Room} {s : State} {m : MethodId} {args : Array Value} {below : List Frame} {meth : Method} {c : Code} {Q : State → Prop} {cb sb : Nat} {T : List fw_Sh} {M : fw_Mem} {a0 pL : Nat}
set_option maxHeartbeats 4000000 in
set_option maxRecDepth 100000 in
theorem rk_loop1 (C : fw_C G RX4 cX4_init 2 p s m args c) (hfr : 10 ≤ R.frames) (hlo : 640 ≤ R.locals) (hx : s.heap.size + cb = fw_base G + T.length) (hT : T.length < 200000) (hO : fw_isO T 4 a0) (hL : T[pL]? = some (.inl (3, 24))) (hM : M a0 1 = nI pL) (hne : a0 ≠ pL) (hc : cb + 24 ≤ R.cells) (hs : sb + 96 ≤ R.slots)
    (kx : fw_W G p l e R s m args below meth c 2 Q (cb + 24) (sb + 4 * 24) 68 [(0, .ref a0), (1, .int (nI 24))] [] (T ++ List.replicate 24 (Sum.inr 3)) (rk_L pL T.length M 24)) :
    ∀ k i, i + k = 24 → fw_W G p l e R s m args below meth c 2 Q (cb + i) (sb + 4 * i) 43 [(0, .ref a0), (1, .int (nI i))] [] (T ++ List.replicate i (Sum.inr 3)) (rk_L pL T.length M i) := by
  have ha : a0 < T.length := (List.getElem?_eq_some_iff.mp hO).1
  have hpl : pL < T.length := (List.getElem?_eq_some_iff.mp hL).1
  intro k
  induction k with
  | zero =>
    intro i hi
    have hi : i = 24 := by omega
    subst hi
    refine fw_iload_n C 1 dX4_init_43 rfl rfl ?_
    refine fw_bipush C 24 dX4_init_44 rfl ?_
    exact fw_icmp_ge C 68 dX4_init_46 (by decide) (fun _ => kx) (fun q => absurd (by decide) q)
  | succ k ih =>
    intro i hi
    have hrow : rk_L pL T.length M i a0 1 = nI pL := by rw [rk_L_old ha hne]; exact hM
    have hlen := rk_len T i (Sum.inr 3)
    have hO' : fw_isO (T ++ List.replicate i (Sum.inr 3)) 4 a0 := rk_at hO
    have h9 := ih (i + 1) (by omega)
    rw [rk_rep, ← nI_1] at h9
    refine fw_iload_n C 1 dX4_init_43 rfl rfl ?_
    refine fw_bipush C 24 dX4_init_44 rfl ?_
    refine fw_icmp_ge C 68 dX4_init_46 (by decide) (fun q => absurd q (nI_ge (a := i) (b := 24) (by omega) (by decide))) (fun _ => ?_)
    refine fw_aload_n C 0 dX4_init_49 rfl rfl ?_
    refine fw_getR C 4 1 (Nat.le_of_ble_eq_true rfl) (Nat.le_of_ble_eq_true rfl) wf_X4_17 rfl hO' (by rw [hrow]; exact (fw_toN (by omega)).2) dX4_init_50 ?_
    rw [hrow, (fw_toN (a := pL) (by omega)).1]
    refine fw_iload_n C 1 dX4_init_53 rfl rfl ?_
    refine fw_newO C 3 (Nat.le_of_ble_eq_true rfl) wcl_X4_15 wins_X3 wini_X3 (by rw [hlen]; omega) (by rw [hlen]; omega) (by omega) (by show sb + 4 * i + 4 ≤ _; omega) dX4_init_54 ?_
    refine fw_dup C dX4_init_57 rfl ?_
    refine fw_callIN [] C (cI_X3_init (by rw [List.length_append, hlen]; show T.length + i + 1 < _; omega) (fw_isO_last _ 3)) cal_X3_init rfl (List.mem_of_getElem? (i := 1) rfl) wi_yX3_init rfl (Nat.le_of_ble_eq_true rfl) ⟨by omega, by omega⟩ ⟨by omega, by show sb + 4 * i + 4 + 0 ≤ _; omega⟩ (by rw [List.length_append, hlen]; show s.heap.size + (cb + i + 1) = fw_base G + (T.length + i + 1); omega) dX4_init_58 ?_
    refine fw_aast C 3 3 (Or.inl ⟨rfl, rfl⟩) (rk_in (n := 24) (by rw [List.getElem?_append_left (by rw [hlen]; omega)]; exact rk_at hL) (by omega) (by omega)) (fw_isO_last _ 3) (by rw [hlen]; omega) dX4_init_61 ?_
    refine fw_iinc C _ 1 [(1, _), (0, _)] dX4_init_62 rfl rfl (Nat.le_of_ble_eq_true rfl) rfl ?_
    refine fw_goto C 43 dX4_init_65 (by decide) ?_
    refine fw_sub [1, 0] rfl ?_
    have e5 : (nI i).toNatClampNeg = i := nI_clamp (by omega)
    rw [e5, hlen]
    exact h9
set_option maxHeartbeats 4000000 in
set_option maxRecDepth 100000 in
theorem rk_loop2 (C : fw_C G RX4 cX4_init 2 p s m args c) (hfr : 10 ≤ R.frames) (hlo : 640 ≤ R.locals) (hx : s.heap.size + cb = fw_base G + T.length) (hT : T.length < 200000) (hO : fw_isO T 4 a0) (hL : T[pL]? = some (.inl (4, 10))) (hM : M a0 2 = nI pL) (hne : a0 ≠ pL) (hc : cb + 10 ≤ R.cells) (hs : sb + 170 ≤ R.slots)
    (kx : fw_W G p l e R s m args below meth c 2 Q (cb + 10) (sb + 17 * 10) 96 [(0, .ref a0), (1, .int (nI 10))] [] (T ++ List.replicate 10 (Sum.inr 6)) (rk_S pL T.length M 10)) :
    ∀ k i, i + k = 10 → fw_W G p l e R s m args below meth c 2 Q (cb + i) (sb + 17 * i) 70 [(0, .ref a0), (1, .int (nI i))] [] (T ++ List.replicate i (Sum.inr 6)) (rk_S pL T.length M i) := by
  have ha : a0 < T.length := (List.getElem?_eq_some_iff.mp hO).1
  have hpl : pL < T.length := (List.getElem?_eq_some_iff.mp hL).1
  intro k
  induction k with
  | zero =>
    intro i hi
    have hi : i = 10 := by omega
    subst hi
    refine fw_iload_n C 1 dX4_init_70 rfl rfl ?_
    refine fw_bipush C 10 dX4_init_71 rfl ?_
    exact fw_icmp_ge C 96 dX4_init_73 (by decide) (fun _ => kx) (fun q => absurd (by decide) q)
  | succ k ih =>
    intro i hi
    have hrow : rk_S pL T.length M i a0 2 = nI pL := by rw [rk_S_old ha hne]; exact hM
    have hlen := rk_len T i (Sum.inr 6)
    have hO' : fw_isO (T ++ List.replicate i (Sum.inr 6)) 4 a0 := rk_at hO
    have h9 := ih (i + 1) (by omega)
    rw [rk_rep, ← nI_1] at h9
    refine fw_iload_n C 1 dX4_init_70 rfl rfl ?_
    refine fw_bipush C 10 dX4_init_71 rfl ?_
    refine fw_icmp_ge C 96 dX4_init_73 (by decide) (fun q => absurd q (nI_ge (a := i) (b := 10) (by omega) (by decide))) (fun _ => ?_)
    refine fw_aload_n C 0 dX4_init_76 rfl rfl ?_
    refine fw_getR C 4 2 (Nat.le_of_ble_eq_true rfl) (Nat.le_of_ble_eq_true rfl) wf_X4_23 rfl hO' (by rw [hrow]; exact (fw_toN (by omega)).2) dX4_init_77 ?_
    rw [hrow, (fw_toN (a := pL) (by omega)).1]
    refine fw_iload_n C 1 dX4_init_80 rfl rfl ?_
    refine fw_newO C 6 (Nat.le_of_ble_eq_true rfl) wcl_X4_21 wins_X6 wini_X6 (by rw [hlen]; omega) (by rw [hlen]; omega) (by omega) (by show sb + 17 * i + 17 ≤ _; omega) dX4_init_81 ?_
    refine fw_dup C dX4_init_84 rfl ?_
    refine fw_iload_n C 1 dX4_init_85 rfl rfl ?_
    refine fw_callI [_] C (cI_X6_init (by rw [List.length_append, hlen]; show T.length + i + 1 < _; omega) (fw_isO_last _ 6)) cal_X6_init rfl wm_X4_34 wi_yX6_init rfl (Nat.le_of_ble_eq_true rfl) ⟨by omega, by omega⟩ ⟨by omega, by show sb + 17 * i + 17 + 0 ≤ _; omega⟩ (by rw [List.length_append, hlen]; show s.heap.size + (cb + i + 1) = fw_base G + (T.length + i + 1); omega) dX4_init_86 ?_
    refine fw_aast C 4 6 (Or.inr ⟨rfl, rfl⟩) (rk_in (n := 10) (by rw [List.getElem?_append_left (by rw [hlen]; omega)]; exact rk_at hL) (by omega) (by omega)) (fw_isO_last _ 6) (by rw [hlen]; omega) dX4_init_89 ?_
    refine fw_iinc C _ 1 [(1, _), (0, _)] dX4_init_90 rfl rfl (Nat.le_of_ble_eq_true rfl) rfl ?_
    refine fw_goto C 70 dX4_init_93 (by decide) ?_
    refine fw_sub [1, 0] rfl ?_
    have e5 : (nI i).toNatClampNeg = i := nI_clamp (by omega)
    rw [e5]
    unfold mI_X6_init
    rw [hlen]
    exact h9
end RKL
