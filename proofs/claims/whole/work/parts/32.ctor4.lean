theorem fw_eqm {G : fw_G} {p : Program} {l : Launch} {e : Env} {R : Room} {s : State} {m : MethodId} {args : Array Value} {below : List Frame} {meth : Method} {c : Code} {nL : Nat} {Q : State → Prop} {cb sb pc : Nat} {lv : List (Nat × Value)} {st : List Value} {S S' : List fw_Sh} {M M' : fw_Mem} (hS : S = S') (hM : M = M') (k : fw_W G p l e R s m args below meth c nL Q cb sb pc lv st S' M') : fw_W G p l e R s m args below meth c nL Q cb sb pc lv st S M := by
  subst hS; subst hM; exact k
theorem fw_getD {α : Type} {o : Option α} (z : α) (h : o.isSome = true) : o = some (o.getD z) := by
  cases o with
  | none => cases h
  | some a => rfl
theorem fw_refeq {G : fw_G} {p : Program} {l : Launch} {e : Env} {R : Room} {s : State} {m : MethodId} {args : Array Value} {below : List Frame} {meth : Method} {c : Code} {nL : Nat} {Q : State → Prop} {cb sb pc : Nat} {lv : List (Nat × Value)} {st : List Value} {S : List fw_Sh} {M : fw_Mem} {a b : Nat} (h : a = b) (k : fw_W G p l e R s m args below meth c nL Q cb sb pc lv (.ref b :: st) S M) : fw_W G p l e R s m args below meth c nL Q cb sb pc lv (.ref a :: st) S M := by
  subst h; exact k
def xz_M : fw_Mem := fun _ _ => 0
def xs_0 : List fw_Sh := [Sum.inr 9]
def xm_0 : fw_Mem := fw_nO xz_M 0 9
def xs_1 : List fw_Sh := xs_0 ++ [Sum.inr 7]
def xm_1 : fw_Mem := fw_nO xm_0 1 7
def xs_2 : List fw_Sh := (xs_1 ++ [Sum.inl (1, 600)])
def xm_2 : fw_Mem := mI_X7_init xs_1 xm_1 1
def xs_3 : List fw_Sh := xs_2
def xm_3 : fw_Mem := fw_set xm_2 0 0 (nI 1)
def xs_4 : List fw_Sh := xs_3 ++ [Sum.inr 4]
def xm_4 : fw_Mem := fw_nO xm_3 3 4
def xc_4 : fw_Mem := (f_X4_clear (rk_S4 xs_4) (rk_M4 4 3 xm_4) 3).getD xz_M
theorem xc_4_ok : f_X4_clear (rk_S4 xs_4) (rk_M4 xs_4.length 3 xm_4) 3 = some xc_4 := fw_getD xz_M (by decide +kernel)
def xs_5 : List fw_Sh := rk_S5 xs_4
def xm_5 : fw_Mem := rk_M5 4 xc_4
def xs_6 : List fw_Sh := xs_5
def xm_6 : fw_Mem := fw_set xm_5 0 1 (nI 3)
def xs_7 : List fw_Sh := xs_6 ++ [Sum.inr 4]
def xm_7 : fw_Mem := fw_nO xm_6 42 4
def xc_7 : fw_Mem := (f_X4_clear (rk_S4 xs_7) (rk_M4 43 42 xm_7) 42).getD xz_M
theorem xc_7_ok : f_X4_clear (rk_S4 xs_7) (rk_M4 xs_7.length 42 xm_7) 42 = some xc_7 := fw_getD xz_M (by decide +kernel)
def xs_8 : List fw_Sh := rk_S5 xs_7
def xm_8 : fw_Mem := rk_M5 43 xc_7
def xs_9 : List fw_Sh := xs_8
def xm_9 : fw_Mem := fw_set xm_8 0 2 (nI 42)
def xs_10 : List fw_Sh := xs_9 ++ [Sum.inr 4]
def xm_10 : fw_Mem := fw_nO xm_9 81 4
def xc_10 : fw_Mem := (f_X4_clear (rk_S4 xs_10) (rk_M4 82 81 xm_10) 81).getD xz_M
theorem xc_10_ok : f_X4_clear (rk_S4 xs_10) (rk_M4 xs_10.length 81 xm_10) 81 = some xc_10 := fw_getD xz_M (by decide +kernel)
def xs_11 : List fw_Sh := rk_S5 xs_10
def xm_11 : fw_Mem := rk_M5 82 xc_10
def xs_12 : List fw_Sh := xs_11
def xm_12 : fw_Mem := fw_set xm_11 0 3 (nI 81)
def xs_13 : List fw_Sh := xs_12 ++ [Sum.inr 8]
def xm_13 : fw_Mem := fw_nO xm_12 120 8
def xs_14 : List fw_Sh := xs_13
def xm_14 : fw_Mem := mI_X8_init xs_13 xm_13 120 1 42
def xs_15 : List fw_Sh := xs_14
def xm_15 : fw_Mem := fw_set xm_14 0 4 (nI 120)
def xs_16 : List fw_Sh := xs_15 ++ [Sum.inr 2]
def xm_16 : fw_Mem := fw_nO xm_15 121 2
def xs_17 : List fw_Sh := (((((xs_16 ++ [Sum.inl (0, 31)]) ++ [Sum.inl (0, 10)]) ++ [Sum.inl (0, 12)]) ++ [Sum.inl (0, 12)]) ++ [Sum.inl (0, 12)])
def xm_17 : fw_Mem := mI_X2_init xs_16 xm_16 121 3
def xs_18 : List fw_Sh := xs_17
def xm_18 : fw_Mem := fw_set xm_17 0 5 (nI 121)
def xs_19 : List fw_Sh := xs_18 ++ [Sum.inr 1]
def xm_19 : fw_Mem := fw_nO xm_18 127 1
def xs_20 : List fw_Sh := (((xs_19 ++ [Sum.inl (0, 100)]) ++ [Sum.inl (0, 10)]) ++ [Sum.inl (0, 10)])
def xm_20 : fw_Mem := mI_X1_init xs_19 xm_19 127 1
def xs_21 : List fw_Sh := xs_20
def xm_21 : fw_Mem := fw_set xm_20 0 6 (nI 127)
def xs_22 : List fw_Sh := xs_21 ++ [Sum.inr 0]
def xm_22 : fw_Mem := fw_nO xm_21 131 0
def xs_23 : List fw_Sh := (xs_22 ++ [Sum.inl (0, 72)])
def xm_23 : fw_Mem := mI_X0_init xs_22 xm_22 131
def xs_24 : List fw_Sh := xs_23
def xm_24 : fw_Mem := fw_set xm_23 0 7 (nI 131)
def xs_25 : List fw_Sh := xs_24 ++ [Sum.inr 5]
def xm_25 : fw_Mem := fw_nO xm_24 133 5
def xs_26 : List fw_Sh := (xs_25 ++ [Sum.inl (1, 256)])
def xm_26 : fw_Mem := mI_X5_init xs_25 xm_25 133
def xs_27 : List fw_Sh := xs_26
def xm_27 : fw_Mem := fw_set xm_26 0 8 (nI 133)
def xs_28 : List fw_Sh := xs_27 ++ [Sum.inr 6]
def xm_28 : fw_Mem := fw_nO xm_27 135 6
def xs_29 : List fw_Sh := xs_28
def xm_29 : fw_Mem := mI_X6_init xs_28 xm_28 135 (-1)
def xs_30 : List fw_Sh := xs_29
def xm_30 : fw_Mem := fw_set xm_29 0 9 (nI 135)
def xs_31 : List fw_Sh := xs_30
def xm_31 : fw_Mem := fw_set xm_30 0 10 0
set_option maxHeartbeats 4000000 in
set_option maxRecDepth 100000 in
theorem cI_X9_init {l : Launch} {G : fw_G} (hl0 : l.stackTraces = false) : fw_MI l G yX9_init (.code yX9_init cX9_init 1 none) 12 135 2316 xs_0 xm_0 [.ref 0] xs_31 xm_31 := by
  refine fw_ofI [(0, .ref 0)] (by decide) (Nat.le_of_ble_eq_true rfl) rfl ?_
  intro p e s m args below meth c C hr hlk hnm hz
  refine fw_aload_n C 0 dX9_init_0 rfl rfl ?_
  refine fw_objI C wm_X9_3 (Nat.le_of_ble_eq_true rfl) (Nat.le_of_ble_eq_true rfl) (Nat.le_of_ble_eq_true rfl) dX9_init_1 ?_
  refine fw_aload_n C 0 dX9_init_4 rfl rfl ?_
  refine fw_newO C 7 (Nat.le_of_ble_eq_true rfl) wcl_X9_9 wins_X7 wini_X7 (by rw [hz]; rfl) (by decide +kernel) (Nat.le_of_ble_eq_true rfl) (Nat.le_of_ble_eq_true rfl) dX9_init_5 ?_
  refine fw_eqm (S' := xs_1) (M' := xm_1) rfl rfl ?_
  refine fw_refeq (b := 1) rfl ?_
  refine fw_dup C dX9_init_8 rfl ?_
  refine fw_callIN [] C (cI_X7_init (by decide +kernel) (by decide +kernel : xs_1[1]? = some (.inr 7))) cal_X7_init rfl (List.mem_of_getElem? (i := 0) rfl) wi_yX7_init rfl (Nat.le_of_ble_eq_true rfl) ⟨Nat.le_of_ble_eq_true rfl, Nat.le_of_ble_eq_true rfl⟩ ⟨Nat.le_of_ble_eq_true rfl, Nat.le_of_ble_eq_true rfl⟩ (by rw [hz]; rfl) dX9_init_9 ?_
  refine fw_eqm (S' := xs_2) (M' := xm_2) rfl rfl ?_
  refine fw_putFR C 9 0 (Nat.le_of_ble_eq_true rfl) (Nat.le_of_ble_eq_true rfl) wf_X9_12 rfl rfl hnm rfl (by decide) (by decide +kernel : xs_2[0]? = some (.inr 9)) dX9_init_12 ?_
  refine fw_eqm (S' := xs_3) (M' := xm_3) rfl rfl ?_
  refine fw_aload_n C 0 dX9_init_15 rfl rfl ?_
  refine fw_newO C 4 (Nat.le_of_ble_eq_true rfl) wcl_X9_18 wins_X4 wini_X4 (by rw [hz]; rfl) (by decide +kernel) (Nat.le_of_ble_eq_true rfl) (Nat.le_of_ble_eq_true rfl) dX9_init_16 ?_
  refine fw_eqm (S' := xs_4) (M' := xm_4) rfl rfl ?_
  refine fw_refeq (b := 3) rfl ?_
  refine fw_dup C dX9_init_19 rfl ?_
  refine fw_callI [] C (cI_X4_init hl0 (by decide +kernel) (by decide +kernel : xs_4[3]? = some (.inr 4)) xc_4_ok (by decide +kernel) (by decide +kernel)) cal_X4_init rfl wm_X9_20 wi_yX4_init rfl (Nat.le_of_ble_eq_true rfl) ⟨Nat.le_of_ble_eq_true rfl, Nat.le_of_ble_eq_true rfl⟩ ⟨Nat.le_of_ble_eq_true rfl, Nat.le_of_ble_eq_true rfl⟩ (by rw [hz]; rfl) dX9_init_20 ?_
  refine fw_eqm (S' := xs_5) (M' := xm_5) rfl rfl ?_
  refine fw_putFR C 9 1 (Nat.le_of_ble_eq_true rfl) (Nat.le_of_ble_eq_true rfl) wf_X9_21 rfl rfl hnm rfl (by decide) (by decide +kernel : xs_5[0]? = some (.inr 9)) dX9_init_23 ?_
  refine fw_eqm (S' := xs_6) (M' := xm_6) rfl rfl ?_
  refine fw_aload_n C 0 dX9_init_26 rfl rfl ?_
  refine fw_newO C 4 (Nat.le_of_ble_eq_true rfl) wcl_X9_18 wins_X4 wini_X4 (by rw [hz]; rfl) (by decide +kernel) (Nat.le_of_ble_eq_true rfl) (Nat.le_of_ble_eq_true rfl) dX9_init_27 ?_
  refine fw_eqm (S' := xs_7) (M' := xm_7) rfl rfl ?_
  refine fw_refeq (b := 42) rfl ?_
  refine fw_dup C dX9_init_30 rfl ?_
  refine fw_callI [] C (cI_X4_init hl0 (by decide +kernel) (by decide +kernel : xs_7[42]? = some (.inr 4)) xc_7_ok (by decide +kernel) (by decide +kernel)) cal_X4_init rfl wm_X9_20 wi_yX4_init rfl (Nat.le_of_ble_eq_true rfl) ⟨Nat.le_of_ble_eq_true rfl, Nat.le_of_ble_eq_true rfl⟩ ⟨Nat.le_of_ble_eq_true rfl, Nat.le_of_ble_eq_true rfl⟩ (by rw [hz]; rfl) dX9_init_31 ?_
  refine fw_eqm (S' := xs_8) (M' := xm_8) rfl rfl ?_
  refine fw_putFR C 9 2 (Nat.le_of_ble_eq_true rfl) (Nat.le_of_ble_eq_true rfl) wf_X9_25 rfl rfl hnm rfl (by decide) (by decide +kernel : xs_8[0]? = some (.inr 9)) dX9_init_34 ?_
  refine fw_eqm (S' := xs_9) (M' := xm_9) rfl rfl ?_
  refine fw_aload_n C 0 dX9_init_37 rfl rfl ?_
  refine fw_newO C 4 (Nat.le_of_ble_eq_true rfl) wcl_X9_18 wins_X4 wini_X4 (by rw [hz]; rfl) (by decide +kernel) (Nat.le_of_ble_eq_true rfl) (Nat.le_of_ble_eq_true rfl) dX9_init_38 ?_
  refine fw_eqm (S' := xs_10) (M' := xm_10) rfl rfl ?_
  refine fw_refeq (b := 81) rfl ?_
  refine fw_dup C dX9_init_41 rfl ?_
  refine fw_callI [] C (cI_X4_init hl0 (by decide +kernel) (by decide +kernel : xs_10[81]? = some (.inr 4)) xc_10_ok (by decide +kernel) (by decide +kernel)) cal_X4_init rfl wm_X9_20 wi_yX4_init rfl (Nat.le_of_ble_eq_true rfl) ⟨Nat.le_of_ble_eq_true rfl, Nat.le_of_ble_eq_true rfl⟩ ⟨Nat.le_of_ble_eq_true rfl, Nat.le_of_ble_eq_true rfl⟩ (by rw [hz]; rfl) dX9_init_42 ?_
  refine fw_eqm (S' := xs_11) (M' := xm_11) rfl rfl ?_
  refine fw_putFR C 9 3 (Nat.le_of_ble_eq_true rfl) (Nat.le_of_ble_eq_true rfl) wf_X9_28 rfl rfl hnm rfl (by decide) (by decide +kernel : xs_11[0]? = some (.inr 9)) dX9_init_45 ?_
  refine fw_eqm (S' := xs_12) (M' := xm_12) rfl rfl ?_
  refine fw_aload_n C 0 dX9_init_48 rfl rfl ?_
  refine fw_newO C 8 (Nat.le_of_ble_eq_true rfl) wcl_X9_31 wins_X8 wini_X8 (by rw [hz]; rfl) (by decide +kernel) (Nat.le_of_ble_eq_true rfl) (Nat.le_of_ble_eq_true rfl) dX9_init_49 ?_
  refine fw_eqm (S' := xs_13) (M' := xm_13) rfl rfl ?_
  refine fw_refeq (b := 120) rfl ?_
  refine fw_dup C dX9_init_52 rfl ?_
  refine fw_aload_n C 0 dX9_init_53 rfl rfl ?_
  refine fw_getR C 9 0 (Nat.le_of_ble_eq_true rfl) (Nat.le_of_ble_eq_true rfl) wf_X9_12 rfl (by decide +kernel : xs_13[0]? = some (.inr 9)) (by decide +kernel) dX9_init_54 ?_
  refine fw_refeq (b := 1) (by decide +kernel) ?_
  refine fw_aload_n C 0 dX9_init_57 rfl rfl ?_
  refine fw_getR C 9 2 (Nat.le_of_ble_eq_true rfl) (Nat.le_of_ble_eq_true rfl) wf_X9_25 rfl (by decide +kernel : xs_13[0]? = some (.inr 9)) (by decide +kernel) dX9_init_58 ?_
  refine fw_refeq (b := 42) (by decide +kernel) ?_
  refine fw_callI [_, _] C (cI_X8_init (by decide +kernel) (by decide +kernel : xs_13[120]? = some (.inr 8)) (by decide) (by decide)) cal_X8_init rfl wm_X9_33 wi_yX8_init rfl (Nat.le_of_ble_eq_true rfl) ⟨Nat.le_of_ble_eq_true rfl, Nat.le_of_ble_eq_true rfl⟩ ⟨Nat.le_of_ble_eq_true rfl, Nat.le_of_ble_eq_true rfl⟩ (by rw [hz]; rfl) dX9_init_61 ?_
  refine fw_eqm (S' := xs_14) (M' := xm_14) rfl rfl ?_
  refine fw_putFR C 9 4 (Nat.le_of_ble_eq_true rfl) (Nat.le_of_ble_eq_true rfl) wf_X9_36 rfl rfl hnm rfl (by decide) (by decide +kernel : xs_14[0]? = some (.inr 9)) dX9_init_64 ?_
  refine fw_eqm (S' := xs_15) (M' := xm_15) rfl rfl ?_
  refine fw_aload_n C 0 dX9_init_67 rfl rfl ?_
  refine fw_newO C 2 (Nat.le_of_ble_eq_true rfl) wcl_X9_40 wins_X2 wini_X2 (by rw [hz]; rfl) (by decide +kernel) (Nat.le_of_ble_eq_true rfl) (Nat.le_of_ble_eq_true rfl) dX9_init_68 ?_
  refine fw_eqm (S' := xs_16) (M' := xm_16) rfl rfl ?_
  refine fw_refeq (b := 121) rfl ?_
  refine fw_dup C dX9_init_71 rfl ?_
  refine fw_aload_n C 0 dX9_init_72 rfl rfl ?_
  refine fw_getR C 9 1 (Nat.le_of_ble_eq_true rfl) (Nat.le_of_ble_eq_true rfl) wf_X9_21 rfl (by decide +kernel : xs_16[0]? = some (.inr 9)) (by decide +kernel) dX9_init_73 ?_
  refine fw_refeq (b := 3) (by decide +kernel) ?_
  refine fw_callI [_] C (cI_X2_init (by decide +kernel) (by decide +kernel : xs_16[121]? = some (.inr 2)) (by decide)) cal_X2_init rfl wm_X9_42 wi_yX2_init rfl (Nat.le_of_ble_eq_true rfl) ⟨Nat.le_of_ble_eq_true rfl, Nat.le_of_ble_eq_true rfl⟩ ⟨Nat.le_of_ble_eq_true rfl, Nat.le_of_ble_eq_true rfl⟩ (by rw [hz]; rfl) dX9_init_76 ?_
  refine fw_eqm (S' := xs_17) (M' := xm_17) rfl rfl ?_
  refine fw_putFR C 9 5 (Nat.le_of_ble_eq_true rfl) (Nat.le_of_ble_eq_true rfl) wf_X9_45 rfl rfl hnm rfl (by decide) (by decide +kernel : xs_17[0]? = some (.inr 9)) dX9_init_79 ?_
  refine fw_eqm (S' := xs_18) (M' := xm_18) rfl rfl ?_
  refine fw_aload_n C 0 dX9_init_82 rfl rfl ?_
  refine fw_newO C 1 (Nat.le_of_ble_eq_true rfl) wcl_X9_49 wins_X1 wini_X1 (by rw [hz]; rfl) (by decide +kernel) (Nat.le_of_ble_eq_true rfl) (Nat.le_of_ble_eq_true rfl) dX9_init_83 ?_
  refine fw_eqm (S' := xs_19) (M' := xm_19) rfl rfl ?_
  refine fw_refeq (b := 127) rfl ?_
  refine fw_dup C dX9_init_86 rfl ?_
  refine fw_aload_n C 0 dX9_init_87 rfl rfl ?_
  refine fw_getR C 9 0 (Nat.le_of_ble_eq_true rfl) (Nat.le_of_ble_eq_true rfl) wf_X9_12 rfl (by decide +kernel : xs_19[0]? = some (.inr 9)) (by decide +kernel) dX9_init_88 ?_
  refine fw_refeq (b := 1) (by decide +kernel) ?_
  refine fw_callI [_] C (cI_X1_init (by decide +kernel) (by decide +kernel : xs_19[127]? = some (.inr 1)) (by decide)) cal_X1_init rfl wm_X9_51 wi_yX1_init rfl (Nat.le_of_ble_eq_true rfl) ⟨Nat.le_of_ble_eq_true rfl, Nat.le_of_ble_eq_true rfl⟩ ⟨Nat.le_of_ble_eq_true rfl, Nat.le_of_ble_eq_true rfl⟩ (by rw [hz]; rfl) dX9_init_91 ?_
  refine fw_eqm (S' := xs_20) (M' := xm_20) rfl rfl ?_
  refine fw_putFR C 9 6 (Nat.le_of_ble_eq_true rfl) (Nat.le_of_ble_eq_true rfl) wf_X9_54 rfl rfl hnm rfl (by decide) (by decide +kernel : xs_20[0]? = some (.inr 9)) dX9_init_94 ?_
  refine fw_eqm (S' := xs_21) (M' := xm_21) rfl rfl ?_
  refine fw_aload_n C 0 dX9_init_97 rfl rfl ?_
  refine fw_newO C 0 (Nat.le_of_ble_eq_true rfl) wcl_X9_58 wins_X0 wini_X0 (by rw [hz]; rfl) (by decide +kernel) (Nat.le_of_ble_eq_true rfl) (Nat.le_of_ble_eq_true rfl) dX9_init_98 ?_
  refine fw_eqm (S' := xs_22) (M' := xm_22) rfl rfl ?_
  refine fw_refeq (b := 131) rfl ?_
  refine fw_dup C dX9_init_101 rfl ?_
  refine fw_callIN [] C (cI_X0_init (by decide +kernel) (by decide +kernel : xs_22[131]? = some (.inr 0))) cal_X0_init rfl (List.mem_of_getElem? (i := 2) rfl) wi_yX0_init rfl (Nat.le_of_ble_eq_true rfl) ⟨Nat.le_of_ble_eq_true rfl, Nat.le_of_ble_eq_true rfl⟩ ⟨Nat.le_of_ble_eq_true rfl, Nat.le_of_ble_eq_true rfl⟩ (by rw [hz]; rfl) dX9_init_102 ?_
  refine fw_eqm (S' := xs_23) (M' := xm_23) rfl rfl ?_
  refine fw_putFR C 9 7 (Nat.le_of_ble_eq_true rfl) (Nat.le_of_ble_eq_true rfl) wf_X9_61 rfl rfl hnm rfl (by decide) (by decide +kernel : xs_23[0]? = some (.inr 9)) dX9_init_105 ?_
  refine fw_eqm (S' := xs_24) (M' := xm_24) rfl rfl ?_
  refine fw_aload_n C 0 dX9_init_108 rfl rfl ?_
  refine fw_newO C 5 (Nat.le_of_ble_eq_true rfl) wcl_X9_65 wins_X5 wini_X5 (by rw [hz]; rfl) (by decide +kernel) (Nat.le_of_ble_eq_true rfl) (Nat.le_of_ble_eq_true rfl) dX9_init_109 ?_
  refine fw_eqm (S' := xs_25) (M' := xm_25) rfl rfl ?_
  refine fw_refeq (b := 133) rfl ?_
  refine fw_dup C dX9_init_112 rfl ?_
  refine fw_callIN [] C (cI_X5_init (by decide +kernel) (by decide +kernel : xs_25[133]? = some (.inr 5))) cal_X5_init rfl (List.mem_of_getElem? (i := 3) rfl) wi_yX5_init rfl (Nat.le_of_ble_eq_true rfl) ⟨Nat.le_of_ble_eq_true rfl, Nat.le_of_ble_eq_true rfl⟩ ⟨Nat.le_of_ble_eq_true rfl, Nat.le_of_ble_eq_true rfl⟩ (by rw [hz]; rfl) dX9_init_113 ?_
  refine fw_eqm (S' := xs_26) (M' := xm_26) rfl rfl ?_
  refine fw_putFR C 9 8 (Nat.le_of_ble_eq_true rfl) (Nat.le_of_ble_eq_true rfl) wf_X9_68 rfl rfl hnm rfl (by decide) (by decide +kernel : xs_26[0]? = some (.inr 9)) dX9_init_116 ?_
  refine fw_eqm (S' := xs_27) (M' := xm_27) rfl rfl ?_
  refine fw_aload_n C 0 dX9_init_119 rfl rfl ?_
  refine fw_newO C 6 (Nat.le_of_ble_eq_true rfl) wcl_X9_72 wins_X6 wini_X6 (by rw [hz]; rfl) (by decide +kernel) (Nat.le_of_ble_eq_true rfl) (Nat.le_of_ble_eq_true rfl) dX9_init_120 ?_
  refine fw_eqm (S' := xs_28) (M' := xm_28) rfl rfl ?_
  refine fw_refeq (b := 135) rfl ?_
  refine fw_dup C dX9_init_123 rfl ?_
  refine fw_iconst C (-1) dX9_init_124 rfl ?_
  refine fw_callI [_] C (cI_X6_init (by decide +kernel) (by decide +kernel : xs_28[135]? = some (.inr 6))) cal_X6_init rfl wm_X9_74 wi_yX6_init rfl (Nat.le_of_ble_eq_true rfl) ⟨Nat.le_of_ble_eq_true rfl, Nat.le_of_ble_eq_true rfl⟩ ⟨Nat.le_of_ble_eq_true rfl, Nat.le_of_ble_eq_true rfl⟩ (by rw [hz]; rfl) dX9_init_125 ?_
  refine fw_eqm (S' := xs_29) (M' := xm_29) rfl rfl ?_
  refine fw_putFR C 9 9 (Nat.le_of_ble_eq_true rfl) (Nat.le_of_ble_eq_true rfl) wf_X9_77 rfl rfl hnm rfl (by decide) (by decide +kernel : xs_29[0]? = some (.inr 9)) dX9_init_128 ?_
  refine fw_eqm (S' := xs_30) (M' := xm_30) rfl rfl ?_
  refine fw_aload_n C 0 dX9_init_131 rfl rfl ?_
  refine fw_iconst C 0 dX9_init_132 rfl ?_
  refine fw_putI C 9 10 (Nat.le_of_ble_eq_true rfl) (Nat.le_of_ble_eq_true rfl) wf_X9_81 rfl rfl rfl rfl (by decide +kernel : xs_30[0]? = some (.inr 9)) dX9_init_133 ?_
  refine fw_eqm (S' := xs_31) (M' := xm_31) rfl rfl ?_
  exact fw_vret C hr hlk dX9_init_136
def xs_100 : List fw_Sh := xs_31 ++ [Sum.inr 10]
def xm_100 : fw_Mem := fw_nO xm_31 136 10
def xs_101 : List fw_Sh := xs_100 ++ [Sum.inl (0, 330)]
def xm_101 : fw_Mem := fw_nA xm_100 137 0
def xs_102 : List fw_Sh := xs_101
def xm_102 : fw_Mem := fw_set xm_101 136 0 (nI 137)
def xs_103 : List fw_Sh := xs_102 ++ [Sum.inl (0, 330)]
def xm_103 : fw_Mem := fw_nA xm_102 138 0
def xs_104 : List fw_Sh := xs_103
def xm_104 : fw_Mem := fw_set xm_103 136 1 (nI 138)
def xs_105 : List fw_Sh := xs_104 ++ [Sum.inl (0, 330)]
def xm_105 : fw_Mem := fw_nA xm_104 139 0
def xs_106 : List fw_Sh := xs_105
def xm_106 : fw_Mem := fw_set xm_105 136 2 (nI 139)
def xs_107 : List fw_Sh := xs_106 ++ [Sum.inl (0, 3960)]
def xm_107 : fw_Mem := fw_nA xm_106 140 0
def xs_108 : List fw_Sh := xs_107
def xm_108 : fw_Mem := fw_set xm_107 136 3 (nI 140)
def xs_109 : List fw_Sh := xs_108 ++ [Sum.inl (0, 22)]
def xm_109 : fw_Mem := fw_nA xm_108 141 0
def xs_110 : List fw_Sh := xs_109
def xm_110 : fw_Mem := fw_set xm_109 136 7 (nI 141)
def xs_111 : List fw_Sh := xs_110 ++ [Sum.inl (0, 12)]
def xm_111 : fw_Mem := fw_nA xm_110 142 0
def xs_112 : List fw_Sh := xs_111
def xm_112 : fw_Mem := fw_set xm_111 136 8 (nI 142)
def xs_113 : List fw_Sh := xs_112 ++ [Sum.inl (0, 10)]
def xm_113 : fw_Mem := fw_nA xm_112 143 0
def xs_114 : List fw_Sh := xs_113
def xm_114 : fw_Mem := fw_set xm_113 136 9 (nI 143)
def xs_115 : List fw_Sh := xs_114 ++ [Sum.inl (0, 10)]
def xm_115 : fw_Mem := fw_nA xm_114 144 0
def xs_116 : List fw_Sh := xs_115
def xm_116 : fw_Mem := fw_set xm_115 136 10 (nI 144)
def xs_117 : List fw_Sh := xs_116 ++ [Sum.inl (0, 10)]
def xm_117 : fw_Mem := fw_nA xm_116 145 0
def xs_118 : List fw_Sh := xs_117
def xm_118 : fw_Mem := fw_set xm_117 136 11 (nI 145)
def xs_119 : List fw_Sh := xs_118 ++ [Sum.inl (0, 300)]
def xm_119 : fw_Mem := fw_nA xm_118 146 0
def xs_120 : List fw_Sh := xs_119
def xm_120 : fw_Mem := fw_set xm_119 136 12 (nI 146)
def xs_121 : List fw_Sh := xs_120 ++ [Sum.inl (0, 600)]
def xm_121 : fw_Mem := fw_nA xm_120 147 0
def xs_122 : List fw_Sh := xs_121
def xm_122 : fw_Mem := fw_set xm_121 136 14 (nI 147)
def xs_123 : List fw_Sh := xs_122
def xm_123 : fw_Mem := fw_set xm_122 136 23 (-1)
def xb_M : fw_Mem := (f_X10_bare xs_123 xm_123 137).getD xz_M
theorem xb_ok : f_X10_bare xs_123 xm_123 137 = some xb_M := fw_getD xz_M (by decide +kernel)
set_option maxHeartbeats 4000000 in
set_option maxRecDepth 100000 in
theorem cI_X10_init {l : Launch} {G : fw_G} (hl0 : l.stackTraces = false) : fw_MI l G yX10_init (.code yX10_init cX10_init 1 none) 12 11 5914 xs_100 xm_100 [.ref 136] xs_123 xb_M := by
  refine fw_ofI [(0, .ref 136)] (by decide) (Nat.le_of_ble_eq_true rfl) rfl ?_
  intro p e s m args below meth c C hr hlk hnm hz
  refine fw_aload_n C 0 dX10_init_0 rfl rfl ?_
  refine fw_objI C wm_X10_1 (Nat.le_of_ble_eq_true rfl) (Nat.le_of_ble_eq_true rfl) (Nat.le_of_ble_eq_true rfl) dX10_init_1 ?_
  refine fw_aload_n C 0 dX10_init_4 rfl rfl ?_
  refine fw_sipush C 330 dX10_init_5 rfl ?_
  refine fw_newP C 0 .int 330 (by decide) warr_int (by decide) rfl (Nat.le_of_ble_eq_true rfl) (by rw [hz]; rfl) (by decide +kernel) (Nat.le_of_ble_eq_true rfl) (Nat.le_of_ble_eq_true rfl) dX10_init_8 ?_
  refine fw_eqm (S' := xs_101) (M' := xm_101) rfl rfl ?_
  refine fw_refeq (b := 137) rfl ?_
  refine fw_putFR C 10 0 (Nat.le_of_ble_eq_true rfl) (Nat.le_of_ble_eq_true rfl) wf_X10_9 rfl rfl hnm rfl (by decide) (by decide +kernel : xs_101[136]? = some (.inr 10)) dX10_init_10 ?_
  refine fw_eqm (S' := xs_102) (M' := xm_102) rfl rfl ?_
  refine fw_aload_n C 0 dX10_init_13 rfl rfl ?_
  refine fw_sipush C 330 dX10_init_14 rfl ?_
  refine fw_newP C 0 .int 330 (by decide) warr_int (by decide) rfl (Nat.le_of_ble_eq_true rfl) (by rw [hz]; rfl) (by decide +kernel) (Nat.le_of_ble_eq_true rfl) (Nat.le_of_ble_eq_true rfl) dX10_init_17 ?_
  refine fw_eqm (S' := xs_103) (M' := xm_103) rfl rfl ?_
  refine fw_refeq (b := 138) rfl ?_
  refine fw_putFR C 10 1 (Nat.le_of_ble_eq_true rfl) (Nat.le_of_ble_eq_true rfl) wf_X10_13 rfl rfl hnm rfl (by decide) (by decide +kernel : xs_103[136]? = some (.inr 10)) dX10_init_19 ?_
  refine fw_eqm (S' := xs_104) (M' := xm_104) rfl rfl ?_
  refine fw_aload_n C 0 dX10_init_22 rfl rfl ?_
  refine fw_sipush C 330 dX10_init_23 rfl ?_
  refine fw_newP C 0 .int 330 (by decide) warr_int (by decide) rfl (Nat.le_of_ble_eq_true rfl) (by rw [hz]; rfl) (by decide +kernel) (Nat.le_of_ble_eq_true rfl) (Nat.le_of_ble_eq_true rfl) dX10_init_26 ?_
  refine fw_eqm (S' := xs_105) (M' := xm_105) rfl rfl ?_
  refine fw_refeq (b := 139) rfl ?_
  refine fw_putFR C 10 2 (Nat.le_of_ble_eq_true rfl) (Nat.le_of_ble_eq_true rfl) wf_X10_16 rfl rfl hnm rfl (by decide) (by decide +kernel : xs_105[136]? = some (.inr 10)) dX10_init_28 ?_
  refine fw_eqm (S' := xs_106) (M' := xm_106) rfl rfl ?_
  refine fw_aload_n C 0 dX10_init_31 rfl rfl ?_
  refine fw_sipush C 3960 dX10_init_32 rfl ?_
  refine fw_newP C 0 .int 3960 (by decide) warr_int (by decide) rfl (Nat.le_of_ble_eq_true rfl) (by rw [hz]; rfl) (by decide +kernel) (Nat.le_of_ble_eq_true rfl) (Nat.le_of_ble_eq_true rfl) dX10_init_35 ?_
  refine fw_eqm (S' := xs_107) (M' := xm_107) rfl rfl ?_
  refine fw_refeq (b := 140) rfl ?_
  refine fw_putFR C 10 3 (Nat.le_of_ble_eq_true rfl) (Nat.le_of_ble_eq_true rfl) wf_X10_19 rfl rfl hnm rfl (by decide) (by decide +kernel : xs_107[136]? = some (.inr 10)) dX10_init_37 ?_
  refine fw_eqm (S' := xs_108) (M' := xm_108) rfl rfl ?_
  refine fw_aload_n C 0 dX10_init_40 rfl rfl ?_
  refine fw_bipush C 22 dX10_init_41 rfl ?_
  refine fw_newP C 0 .int 22 (by decide) warr_int (by decide) rfl (Nat.le_of_ble_eq_true rfl) (by rw [hz]; rfl) (by decide +kernel) (Nat.le_of_ble_eq_true rfl) (Nat.le_of_ble_eq_true rfl) dX10_init_43 ?_
  refine fw_eqm (S' := xs_109) (M' := xm_109) rfl rfl ?_
  refine fw_refeq (b := 141) rfl ?_
  refine fw_putFR C 10 7 (Nat.le_of_ble_eq_true rfl) (Nat.le_of_ble_eq_true rfl) wf_X10_22 rfl rfl hnm rfl (by decide) (by decide +kernel : xs_109[136]? = some (.inr 10)) dX10_init_45 ?_
  refine fw_eqm (S' := xs_110) (M' := xm_110) rfl rfl ?_
  refine fw_aload_n C 0 dX10_init_48 rfl rfl ?_
  refine fw_bipush C 12 dX10_init_49 rfl ?_
  refine fw_newP C 0 .int 12 (by decide) warr_int (by decide) rfl (Nat.le_of_ble_eq_true rfl) (by rw [hz]; rfl) (by decide +kernel) (Nat.le_of_ble_eq_true rfl) (Nat.le_of_ble_eq_true rfl) dX10_init_51 ?_
  refine fw_eqm (S' := xs_111) (M' := xm_111) rfl rfl ?_
  refine fw_refeq (b := 142) rfl ?_
  refine fw_putFR C 10 8 (Nat.le_of_ble_eq_true rfl) (Nat.le_of_ble_eq_true rfl) wf_X10_25 rfl rfl hnm rfl (by decide) (by decide +kernel : xs_111[136]? = some (.inr 10)) dX10_init_53 ?_
  refine fw_eqm (S' := xs_112) (M' := xm_112) rfl rfl ?_
  refine fw_aload_n C 0 dX10_init_56 rfl rfl ?_
  refine fw_bipush C 10 dX10_init_57 rfl ?_
  refine fw_newP C 0 .int 10 (by decide) warr_int (by decide) rfl (Nat.le_of_ble_eq_true rfl) (by rw [hz]; rfl) (by decide +kernel) (Nat.le_of_ble_eq_true rfl) (Nat.le_of_ble_eq_true rfl) dX10_init_59 ?_
  refine fw_eqm (S' := xs_113) (M' := xm_113) rfl rfl ?_
  refine fw_refeq (b := 143) rfl ?_
  refine fw_putFR C 10 9 (Nat.le_of_ble_eq_true rfl) (Nat.le_of_ble_eq_true rfl) wf_X10_28 rfl rfl hnm rfl (by decide) (by decide +kernel : xs_113[136]? = some (.inr 10)) dX10_init_61 ?_
  refine fw_eqm (S' := xs_114) (M' := xm_114) rfl rfl ?_
  refine fw_aload_n C 0 dX10_init_64 rfl rfl ?_
  refine fw_bipush C 10 dX10_init_65 rfl ?_
  refine fw_newP C 0 .int 10 (by decide) warr_int (by decide) rfl (Nat.le_of_ble_eq_true rfl) (by rw [hz]; rfl) (by decide +kernel) (Nat.le_of_ble_eq_true rfl) (Nat.le_of_ble_eq_true rfl) dX10_init_67 ?_
  refine fw_eqm (S' := xs_115) (M' := xm_115) rfl rfl ?_
  refine fw_refeq (b := 144) rfl ?_
  refine fw_putFR C 10 10 (Nat.le_of_ble_eq_true rfl) (Nat.le_of_ble_eq_true rfl) wf_X10_31 rfl rfl hnm rfl (by decide) (by decide +kernel : xs_115[136]? = some (.inr 10)) dX10_init_69 ?_
  refine fw_eqm (S' := xs_116) (M' := xm_116) rfl rfl ?_
  refine fw_aload_n C 0 dX10_init_72 rfl rfl ?_
  refine fw_bipush C 10 dX10_init_73 rfl ?_
  refine fw_newP C 0 .int 10 (by decide) warr_int (by decide) rfl (Nat.le_of_ble_eq_true rfl) (by rw [hz]; rfl) (by decide +kernel) (Nat.le_of_ble_eq_true rfl) (Nat.le_of_ble_eq_true rfl) dX10_init_75 ?_
  refine fw_eqm (S' := xs_117) (M' := xm_117) rfl rfl ?_
  refine fw_refeq (b := 145) rfl ?_
  refine fw_putFR C 10 11 (Nat.le_of_ble_eq_true rfl) (Nat.le_of_ble_eq_true rfl) wf_X10_34 rfl rfl hnm rfl (by decide) (by decide +kernel : xs_117[136]? = some (.inr 10)) dX10_init_77 ?_
  refine fw_eqm (S' := xs_118) (M' := xm_118) rfl rfl ?_
  refine fw_aload_n C 0 dX10_init_80 rfl rfl ?_
  refine fw_sipush C 300 dX10_init_81 rfl ?_
  refine fw_newP C 0 .int 300 (by decide) warr_int (by decide) rfl (Nat.le_of_ble_eq_true rfl) (by rw [hz]; rfl) (by decide +kernel) (Nat.le_of_ble_eq_true rfl) (Nat.le_of_ble_eq_true rfl) dX10_init_84 ?_
  refine fw_eqm (S' := xs_119) (M' := xm_119) rfl rfl ?_
  refine fw_refeq (b := 146) rfl ?_
  refine fw_putFR C 10 12 (Nat.le_of_ble_eq_true rfl) (Nat.le_of_ble_eq_true rfl) wf_X10_37 rfl rfl hnm rfl (by decide) (by decide +kernel : xs_119[136]? = some (.inr 10)) dX10_init_86 ?_
  refine fw_eqm (S' := xs_120) (M' := xm_120) rfl rfl ?_
  refine fw_aload_n C 0 dX10_init_89 rfl rfl ?_
  refine fw_sipush C 600 dX10_init_90 rfl ?_
  refine fw_newP C 0 .int 600 (by decide) warr_int (by decide) rfl (Nat.le_of_ble_eq_true rfl) (by rw [hz]; rfl) (by decide +kernel) (Nat.le_of_ble_eq_true rfl) (Nat.le_of_ble_eq_true rfl) dX10_init_93 ?_
  refine fw_eqm (S' := xs_121) (M' := xm_121) rfl rfl ?_
  refine fw_refeq (b := 147) rfl ?_
  refine fw_putFR C 10 14 (Nat.le_of_ble_eq_true rfl) (Nat.le_of_ble_eq_true rfl) wf_X10_40 rfl rfl hnm rfl (by decide) (by decide +kernel : xs_121[136]? = some (.inr 10)) dX10_init_95 ?_
  refine fw_eqm (S' := xs_122) (M' := xm_122) rfl rfl ?_
  refine fw_aload_n C 0 dX10_init_98 rfl rfl ?_
  refine fw_iconst C (-1) dX10_init_99 rfl ?_
  refine fw_putI C 10 23 (Nat.le_of_ble_eq_true rfl) (Nat.le_of_ble_eq_true rfl) wf_X10_43 rfl rfl rfl rfl (by decide +kernel : xs_122[136]? = some (.inr 10)) dX10_init_100 ?_
  refine fw_eqm (S' := xs_123) (M' := xm_123) rfl rfl ?_
  refine fw_aload_n C 0 dX10_init_103 rfl rfl ?_
  refine fw_getR C 10 0 (Nat.le_of_ble_eq_true rfl) (Nat.le_of_ble_eq_true rfl) wf_X10_9 rfl (by decide +kernel : xs_123[136]? = some (.inr 10)) (by decide +kernel) dX10_init_104 ?_
  refine fw_refeq (b := 137) (by decide +kernel) ?_
  refine fw_callS [_] C (c_X10_bare hl0 xb_ok) cal_X10_bare wm_X10_47 wt_yX10_bare rfl (Nat.le_of_ble_eq_true rfl) ⟨Nat.le_of_ble_eq_true rfl, Nat.le_of_ble_eq_true rfl⟩ ⟨Nat.le_of_ble_eq_true rfl, Nat.le_of_ble_eq_true rfl⟩ dX10_init_107 ?_
  exact fw_vret C hr hlk dX10_init_110
