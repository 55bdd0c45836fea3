section RKR
variable {G : fw_G} {p : Program} {l : Launch} {e : Env} {R : Room} {s : State} {m : MethodId} {args : Array Value} {below : List Frame} {meth : Method} {c : Code} {Q : State → Prop} {cb sb : Nat} {T : List fw_Sh} {M : fw_Mem} {a0 pL : Nat}
theorem rk_run1 (C : fw_C G RX4 cX4_init 2 p s m args c) (hfr : 10 ≤ R.frames) (hlo : 640 ≤ R.locals) (hx : s.heap.size + cb = fw_base G + T.length) (hT : T.length < 200000) (hO : fw_isO T 4 a0) (hL : T[pL]? = some (.inl (3, 24))) (hM : M a0 1 = nI pL) (hne : a0 ≠ pL) (hc : cb + 24 ≤ R.cells) (hs : sb + 96 ≤ R.slots)
    (kx : fw_W G p l e R s m args below meth c 2 Q (cb + 24) (sb + 4 * 24) 68 [(0, .ref a0), (1, .int (nI 24))] [] (T ++ List.replicate 24 (Sum.inr 3)) (rk_L pL T.length M 24)) :
    fw_W G p l e R s m args below meth c 2 Q cb sb 43 [(0, .ref a0), (1, .int 0)] [] T M := by
  have h9 := rk_loop1 C hfr hlo hx hT hO hL hM hne hc hs kx 24 0 rfl
  rw [List.replicate_zero, List.append_nil, nI_0] at h9
  exact h9
theorem rk_run2 (C : fw_C G RX4 cX4_init 2 p s m args c) (hfr : 10 ≤ R.frames) (hlo : 640 ≤ R.locals) (hx : s.heap.size + cb = fw_base G + T.length) (hT : T.length < 200000) (hO : fw_isO T 4 a0) (hL : T[pL]? = some (.inl (4, 10))) (hM : M a0 2 = nI pL) (hne : a0 ≠ pL) (hc : cb + 10 ≤ R.cells) (hs : sb + 170 ≤ R.slots)
    (kx : fw_W G p l e R s m args below meth c 2 Q (cb + 10) (sb + 17 * 10) 96 [(0, .ref a0), (1, .int (nI 10))] [] (T ++ List.replicate 10 (Sum.inr 6)) (rk_S pL T.length M 10)) :
    fw_W G p l e R s m args below meth c 2 Q cb sb 70 [(0, .ref a0), (1, .int 0)] [] T M := by
  have h9 := rk_loop2 C hfr hlo hx hT hO hL hM hne hc hs kx 10 0 rfl
  rw [List.replicate_zero, List.append_nil, nI_0] at h9
  exact h9
end RKR
def rk_S4 (S : List fw_Sh) : List fw_Sh := (((S ++ [Sum.inl (0, 72)]) ++ [Sum.inl (3, 24)]) ++ [Sum.inl (4, 10)]) ++ [Sum.inl (0, 3)]
def rk_M4 (n0 a0 : Nat) (M : fw_Mem) : fw_Mem := fw_set (fw_nA (fw_set (fw_nA (fw_set (fw_nA (fw_set (fw_nA M n0 0) a0 0 (nI n0)) (n0 + 1) (-1)) a0 1 (nI (n0 + 1))) (n0 + 2) (-1)) a0 2 (nI (n0 + 2))) (n0 + 3) 0) a0 3 (nI (n0 + 3))
def rk_S5 (S : List fw_Sh) : List fw_Sh := (rk_S4 S ++ List.replicate 24 (Sum.inr 3)) ++ List.replicate 10 (Sum.inr 6)
def rk_M5 (n0 : Nat) (Mc : fw_Mem) : fw_Mem := rk_S (n0 + 2) (n0 + 28) (rk_L (n0 + 1) (n0 + 4) Mc 24) 10
theorem rk_S4_len (S : List fw_Sh) : (rk_S4 S).length = S.length + 4 := by simp [rk_S4]
set_option maxHeartbeats 4000000 in
set_option maxRecDepth 100000 in
theorem cI_X4_init {l : Launch} {G : fw_G} {S : List fw_Sh} {M Mc : fw_Mem} {a0 : Nat} (hl0 : l.stackTraces = false) (hs : S.length < 100000) (ha : fw_isO S 4 a0) (hclr : f_X4_clear (rk_S4 S) (rk_M4 S.length a0 M) a0 = some Mc) (h1 : Mc a0 1 = nI (S.length + 1)) (h2 : Mc a0 2 = nI (S.length + 2)) : fw_MI l G yX4_init (.code yX4_init cX4_init 2 none) 10 38 375 S M [.ref a0] (rk_S5 S) (rk_M5 S.length Mc) := by
  have hal : a0 < S.length := (List.getElem?_eq_some_iff.mp ha).1
  refine fw_ofI [(0, .ref a0)] (by decide) (Nat.le_of_ble_eq_true rfl) rfl ?_
  intro p e s m args below meth c C hr hlk hnm hz
  have l1 : (S ++ [Sum.inl (0, 72)] : List fw_Sh).length = S.length + 1 := by simp
  have l2 : ((S ++ [Sum.inl (0, 72)]) ++ [Sum.inl (3, 24)] : List fw_Sh).length = S.length + 2 := by simp
  have l3 : (((S ++ [Sum.inl (0, 72)]) ++ [Sum.inl (3, 24)]) ++ [Sum.inl (4, 10)] : List fw_Sh).length = S.length + 3 := by simp
  have o1 := fw_isO_app [Sum.inl (0, 72)] ha
  have o2 := fw_isO_app [Sum.inl (3, 24)] o1
  have o3 := fw_isO_app [Sum.inl (4, 10)] o2
  have o4 : fw_isO (rk_S4 S) 4 a0 := fw_isO_app [Sum.inl (0, 3)] o3
  refine fw_aload_n C 0 dX4_init_0 rfl rfl ?_
  refine fw_objI C wm_X4_3 (Nat.le_of_ble_eq_true rfl) (Nat.le_of_ble_eq_true rfl) (Nat.le_of_ble_eq_true rfl) dX4_init_1 ?_
  refine fw_aload_n C 0 dX4_init_4 rfl rfl ?_
  refine fw_bipush C 72 dX4_init_5 rfl ?_
  refine fw_newP C 0 .int 72 (by decide) warr_int (by decide) rfl (Nat.le_of_ble_eq_true rfl) (by rw [hz]; rfl) (by omega) (Nat.le_of_ble_eq_true rfl) (Nat.le_of_ble_eq_true rfl) dX4_init_7 ?_
  refine fw_putFR C 4 0 (Nat.le_of_ble_eq_true rfl) (Nat.le_of_ble_eq_true rfl) wf_X4_9 rfl rfl hnm rfl (by omega) o1 dX4_init_9 ?_
  refine fw_aload_n C 0 dX4_init_12 rfl rfl ?_
  refine fw_bipush C 24 dX4_init_13 rfl ?_
  refine fw_newR C 3 3 24 (Or.inl ⟨rfl, rfl⟩) wcl_X4_15 (by decide) rfl (Nat.le_of_ble_eq_true rfl) (by rw [hz, l1]; omega) (by rw [l1]; omega) (Nat.le_of_ble_eq_true rfl) (Nat.le_of_ble_eq_true rfl) dX4_init_15 ?_
  rw [l1]
  refine fw_putFR C 4 1 (Nat.le_of_ble_eq_true rfl) (Nat.le_of_ble_eq_true rfl) wf_X4_17 rfl rfl hnm rfl (by omega) o2 dX4_init_18 ?_
  refine fw_aload_n C 0 dX4_init_21 rfl rfl ?_
  refine fw_bipush C 10 dX4_init_22 rfl ?_
  refine fw_newR C 4 6 10 (Or.inr ⟨rfl, rfl⟩) wcl_X4_21 (by decide) rfl (Nat.le_of_ble_eq_true rfl) (by rw [hz, l2]; omega) (by rw [l2]; omega) (Nat.le_of_ble_eq_true rfl) (Nat.le_of_ble_eq_true rfl) dX4_init_24 ?_
  rw [l2]
  refine fw_putFR C 4 2 (Nat.le_of_ble_eq_true rfl) (Nat.le_of_ble_eq_true rfl) wf_X4_23 rfl rfl hnm rfl (by omega) o3 dX4_init_27 ?_
  refine fw_aload_n C 0 dX4_init_30 rfl rfl ?_
  refine fw_iconst C 3 dX4_init_31 rfl ?_
  refine fw_newP C 0 .int 3 (by decide) warr_int (by decide) rfl (Nat.le_of_ble_eq_true rfl) (by rw [hz, l3]; omega) (by rw [l3]; omega) (Nat.le_of_ble_eq_true rfl) (Nat.le_of_ble_eq_true rfl) dX4_init_32 ?_
  rw [l3]
  refine fw_putFR C 4 3 (Nat.le_of_ble_eq_true rfl) (Nat.le_of_ble_eq_true rfl) wf_X4_27 rfl rfl hnm rfl (by omega) o4 dX4_init_34 ?_
  refine fw_aload_n C 0 dX4_init_37 rfl rfl ?_
  refine fw_callV (ci := 4) [] C (c_X4_clear hl0 hclr) cal_X4_clear wm_X4_30 wi_yX4_clear wsl_yX4_clear (Nat.le_of_ble_eq_true rfl) rfl o4 rfl (Nat.le_of_ble_eq_true rfl) ⟨Nat.le_of_ble_eq_true rfl, Nat.le_of_ble_eq_true rfl⟩ ⟨Nat.le_of_ble_eq_true rfl, Nat.le_of_ble_eq_true rfl⟩ dX4_init_38 ?_
  refine fw_iconst C 0 dX4_init_41 rfl ?_
  refine fw_istore_n C [(1, _), (0, _)] dX4_init_42 rfl (Nat.le_of_ble_eq_true rfl) rfl ?_
  refine fw_sub [1, 0] rfl ?_
  have hL1 : (rk_S4 S)[S.length + 1]? = some (.inl (3, 24)) := by simp [rk_S4]
  have hL2 : (rk_S4 S)[S.length + 2]? = some (.inl (4, 10)) := by simp [rk_S4]
  have l4 := rk_S4_len S
  have l5 : (rk_S4 S ++ List.replicate 24 (Sum.inr 3)).length = S.length + 28 := by rw [rk_len, l4]
  refine rk_run1 (R := fw_rm 10 38 375) (cb := 4) (sb := 109) (pL := S.length + 1) (M := Mc) (T := rk_S4 S) C (Nat.le_of_ble_eq_true rfl) (Nat.le_of_ble_eq_true rfl) (by rw [l4, hz]; omega) (by rw [l4]; omega) o4 hL1 h1 (by omega) (Nat.le_of_ble_eq_true rfl) (Nat.le_of_ble_eq_true rfl) ?_
  refine fw_iconst C 0 dX4_init_68 rfl ?_
  refine fw_istore_n C [(1, _), (0, _)] dX4_init_69 rfl (Nat.le_of_ble_eq_true rfl) rfl ?_
  refine fw_sub [1, 0] rfl ?_
  rw [l4]
  refine rk_run2 (R := fw_rm 10 38 375) (cb := 28) (sb := 205) (pL := S.length + 2) (M := rk_L (S.length + 1) (S.length + 4) Mc 24) (T := rk_S4 S ++ List.replicate 24 (Sum.inr 3)) C (Nat.le_of_ble_eq_true rfl) (Nat.le_of_ble_eq_true rfl) (by rw [l5, hz]; omega) (by rw [l5]; omega) (rk_at o4) (rk_at hL2) (by rw [rk_L_old (by omega) (by omega)]; exact h2) (by omega) (Nat.le_of_ble_eq_true rfl) (Nat.le_of_ble_eq_true rfl) ?_
  rw [l5]
  exact fw_vret C hr hlk dX4_init_96
