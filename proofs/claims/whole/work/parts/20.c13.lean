set_option maxRecDepth 100000 in
def lf_X10_desk_35 (S : List fw_Sh) (a0 : Nat) : Nat → fw_Mem → Option (fw_Mem)
  | 0, _ => none
  | n + 1, M => gd (gO S 10 a0) (if (M a0 21) = 0 then (if (M a0 18) = 0 then (some M) else (b1 (f_X10_readLine S M a0) (fun M12 => lf_X10_desk_35 S a0 n M12))) else (some M))
set_option maxHeartbeats 4000000 in
set_option maxRecDepth 100000 in
theorem lc_X10_desk_35 {G : fw_G} {p : Program} {l : Launch} {e : Env} {s : State} {m : MethodId} {args : Array Value} {below : List Frame} {meth : Method} {c : Code} {S : List fw_Sh} {o : fw_O} {a0 : Nat} (C : fw_C G RX10 cX10_desk 3 p s m args c) (hr : meth.sig.returnType = (some .int)) (hlk : meth.locks = false) (hl : l.stackTraces = false) (ht : ∀ x ∈ c.exceptionTable.toList, False) :
    ∀ {n : Nat} {M : fw_Mem} {r : (fw_Mem)} (h : lf_X10_desk_35 S a0 n M = some r) (kx : fw_W G p l e (fw_rm 12 (fw_mcO o) (fw_msO o)) s m args below meth c 3 (fw_Z G below args s (fw_mcO o) (fw_msO o) o) 0 0 56 [(0, .ref a0)] [] S r), fw_W G p l e (fw_rm 12 (fw_mcO o) (fw_msO o)) s m args below meth c 3 (fw_Z G below args s (fw_mcO o) (fw_msO o) o) 0 0 35 [(0, .ref a0)] [] S M := by
  intro n
  induction n with
  | zero =>
    intro M r h
    exact nomatch (show (none : Option (fw_Mem)) = some r from h)
  | succ n ih =>
    intro M r h kx
    rw [lf_X10_desk_35.eq_2] at h
    refine fw_aload_n C 0 dX10_desk_35 rfl rfl ?_
    obtain ⟨g9, h⟩ := gd_some h
    refine fw_getI C 10 21 (Nat.le_of_ble_eq_true rfl) (Nat.le_of_ble_eq_true rfl) wf_X10_272 rfl (gO_of g9) dX10_desk_36 ?_
    refine fw_if_ne C 56 dX10_desk_39 (by decide) (fun c10 => ?_) (fun c10 => ?_)
    · replace h := (if_neg c10).symm.trans h
      obtain rfl := Option.some.inj h
      exact kx
    · replace h := (if_pos c10).symm.trans h
      refine fw_aload_n C 0 dX10_desk_42 rfl rfl ?_
      refine fw_getI C 10 18 (Nat.le_of_ble_eq_true rfl) (Nat.le_of_ble_eq_true rfl) wf_X10_260 rfl (gO_of g9) dX10_desk_43 ?_
      refine fw_if_eq C 56 dX10_desk_46 (by decide) (fun c11 => ?_) (fun c11 => ?_)
      · replace h := (if_pos c11).symm.trans h
        obtain rfl := Option.some.inj h
        exact kx
      · replace h := (if_neg c11).symm.trans h
        refine fw_aload_n C 0 dX10_desk_49 rfl rfl ?_
        obtain ⟨M12, e12, h⟩ := b1_some h
        refine fw_callV (ci := 10) [] C (c_X10_readLine hl e12) cal_X10_readLine wm_X10_395 wi_yX10_readLine wsl_yX10_readLine (Nat.le_of_ble_eq_true rfl) rfl (gO_of g9) rfl (Nat.le_of_ble_eq_true rfl) ⟨Nat.le_of_ble_eq_true rfl, Nat.le_of_ble_eq_true rfl⟩ ⟨Nat.zero_le _, Nat.zero_le _⟩ dX10_desk_50 ?_
        refine fw_goto C 35 dX10_desk_53 (by decide) ?_
        exact ih h kx
set_option maxRecDepth 100000 in
def f_X10_desk (S : List fw_Sh) (M : fw_Mem) (a0 : Nat) (x1 : Int32) : Option (Int32 × fw_Mem) := gd (gO S 10 a0) (bm (fw_set M a0 6 0) (fun M2 => if x1 < 0 then (b2 (f_X10_fail S M2 a0 1) (fun v4 M4 => some (v4, M4))) else (if x1 ≤ (M2 a0 15) then (gd (gN (M2 a0 1)) (b1 (f_X10_bare S M2 ((M2 a0 1).toNatClampNeg)) (fun M7 => b1 (f_X10_opens S M7 a0 x1) (fun M8 => b1 (lf_X10_desk_35 S a0 20000 M8) (fun l13 => b2 (f_X10_ends S l13 a0) (fun v14 M14 => if v14 = 0 then (gd (gN (M14 a0 0)) (gd (gN (M14 a0 1)) (b1 (f_X10_copy S M14 ((M14 a0 0).toNatClampNeg) ((M14 a0 1).toNatClampNeg)) (fun M18 => bm (fw_set M18 a0 5 0) (fun M19 => b1 (f_X10_suits S M19 a0) (fun v20 => some (v20, M19))))))) else (some ((((-10) : Int32) - v14), M14)))))))) else (b2 (f_X10_fail S M2 a0 1) (fun v21 M21 => some (v21, M21))))))
set_option maxHeartbeats 4000000 in
set_option maxRecDepth 100000 in
theorem c_X10_desk {l : Launch} {G : fw_G} {S : List fw_Sh} {M : fw_Mem} {a0 : Nat} {x1 : Int32} {r : (Int32 × fw_Mem)} (hl : l.stackTraces = false) (h : f_X10_desk S M a0 x1 = some r) : fw_M l G yX10_desk (.code yX10_desk cX10_desk 3 (some .int)) 12 (fw_mcO (.inl (some (.int r.1)), S, r.2)) (fw_msO (.inl (some (.int r.1)), S, r.2)) S M [.ref a0, .int x1] (.inl (some (.int r.1)), S, r.2) := by
  refine fw_of [(0, .ref a0), (1, .int x1)] (by decide) (Nat.le_of_ble_eq_true rfl) rfl ?_
  intro p e s m args below meth c C hr hlk hnm ht _
  unfold f_X10_desk at h
  refine fw_aload_n C 0 dX10_desk_0 rfl rfl ?_
  refine fw_iconst C 0 dX10_desk_1 rfl ?_
  obtain ⟨g1, h⟩ := gd_some h
  refine fw_putI C 10 6 (Nat.le_of_ble_eq_true rfl) (Nat.le_of_ble_eq_true rfl) wf_X10_51 rfl rfl rfl rfl (gO_of g1) dX10_desk_2 ?_
  refine fw_bm h (fun M2 h => ?_)
  refine fw_iload_n C 1 dX10_desk_5 rfl rfl ?_
  refine fw_if_lt C 17 dX10_desk_6 (by decide) (fun c3 => ?_) (fun c3 => ?_)
  · replace h := (if_pos c3).symm.trans h
    refine fw_aload_n C 0 dX10_desk_17 rfl rfl ?_
    refine fw_iconst C 1 dX10_desk_18 rfl ?_
    obtain ⟨v4, M4, e4, h⟩ := b2_some h
    refine fw_callV (ci := 10) [_] C (c_X10_fail hl e4) cal_X10_fail wm_X10_171 wi_yX10_fail wsl_yX10_fail (Nat.le_of_ble_eq_true rfl) rfl (gO_of g1) rfl (Nat.le_of_ble_eq_true rfl) ⟨Nat.le_of_ble_eq_true rfl, Nat.le_of_ble_eq_true rfl⟩ ⟨Nat.zero_le _, Nat.zero_le _⟩ dX10_desk_19 ?_
    obtain rfl := Option.some.inj h
    exact fw_iret C hr hlk dX10_desk_22
  · replace h := (if_neg c3).symm.trans h
    refine fw_iload_n C 1 dX10_desk_9 rfl rfl ?_
    refine fw_aload_n C 0 dX10_desk_10 rfl rfl ?_
    refine fw_getI C 10 15 (Nat.le_of_ble_eq_true rfl) (Nat.le_of_ble_eq_true rfl) wf_X10_165 rfl (gO_of g1) dX10_desk_11 ?_
    refine fw_icmp_le C 23 dX10_desk_14 (by decide) (fun c5 => ?_) (fun c5 => ?_)
    · replace h := (if_pos c5).symm.trans h
      refine fw_aload_n C 0 dX10_desk_23 rfl rfl ?_
      obtain ⟨g6, h⟩ := gd_some h
      refine fw_getR C 10 1 (Nat.le_of_ble_eq_true rfl) (Nat.le_of_ble_eq_true rfl) wf_X10_13 rfl (gO_of g1) (gN_of g6) dX10_desk_24 ?_
      obtain ⟨M7, e7, h⟩ := b1_some h
      refine fw_callS [_] C (c_X10_bare hl e7) cal_X10_bare wm_X10_47 wt_yX10_bare rfl (Nat.le_of_ble_eq_true rfl) ⟨Nat.le_of_ble_eq_true rfl, Nat.le_of_ble_eq_true rfl⟩ ⟨Nat.zero_le _, Nat.zero_le _⟩ dX10_desk_27 ?_
      refine fw_aload_n C 0 dX10_desk_30 rfl rfl ?_
      refine fw_iload_n C 1 dX10_desk_31 rfl rfl ?_
      obtain ⟨M8, e8, h⟩ := b1_some h
      refine fw_callV (ci := 10) [_] C (c_X10_opens hl e8) cal_X10_opens wm_X10_392 wi_yX10_opens wsl_yX10_opens (Nat.le_of_ble_eq_true rfl) rfl (gO_of g1) rfl (Nat.le_of_ble_eq_true rfl) ⟨Nat.le_of_ble_eq_true rfl, Nat.le_of_ble_eq_true rfl⟩ ⟨Nat.zero_le _, Nat.zero_le _⟩ dX10_desk_32 ?_
      refine fw_sub [0] rfl ?_
      obtain ⟨l13, e13, h⟩ := b1_some h
      refine lc_X10_desk_35 C hr hlk hl ht e13 ?_
      refine fw_aload_n C 0 dX10_desk_56 rfl rfl ?_
      obtain ⟨v14, M14, e14, h⟩ := b2_some h
      refine fw_callV (ci := 10) [] C (c_X10_ends hl e14) cal_X10_ends wm_X10_398 wi_yX10_ends wsl_yX10_ends (Nat.le_of_ble_eq_true rfl) rfl (gO_of g1) rfl (Nat.le_of_ble_eq_true rfl) ⟨Nat.le_of_ble_eq_true rfl, Nat.le_of_ble_eq_true rfl⟩ ⟨Nat.zero_le _, Nat.zero_le _⟩ dX10_desk_57 ?_
      refine fw_istore_n C [(2, _), (0, _)] dX10_desk_60 rfl (Nat.le_of_ble_eq_true rfl) rfl ?_
      refine fw_iload_n C 0 dX10_desk_61 rfl rfl ?_
      refine fw_if_eq C 70 dX10_desk_62 (by decide) (fun c15 => ?_) (fun c15 => ?_)
      · replace h := (if_pos c15).symm.trans h
        refine fw_aload_n C 1 dX10_desk_70 rfl rfl ?_
        obtain ⟨g16, h⟩ := gd_some h
        refine fw_getR C 10 0 (Nat.le_of_ble_eq_true rfl) (Nat.le_of_ble_eq_true rfl) wf_X10_9 rfl (gO_of g1) (gN_of g16) dX10_desk_71 ?_
        refine fw_aload_n C 1 dX10_desk_74 rfl rfl ?_
        obtain ⟨g17, h⟩ := gd_some h
        refine fw_getR C 10 1 (Nat.le_of_ble_eq_true rfl) (Nat.le_of_ble_eq_true rfl) wf_X10_13 rfl (gO_of g1) (gN_of g17) dX10_desk_75 ?_
        obtain ⟨M18, e18, h⟩ := b1_some h
        refine fw_callS [_, _] C (c_X10_copy hl e18) cal_X10_copy wm_X10_240 wt_yX10_copy rfl (Nat.le_of_ble_eq_true rfl) ⟨Nat.le_of_ble_eq_true rfl, Nat.le_of_ble_eq_true rfl⟩ ⟨Nat.zero_le _, Nat.zero_le _⟩ dX10_desk_78 ?_
        refine fw_aload_n C 1 dX10_desk_81 rfl rfl ?_
        refine fw_iconst C 0 dX10_desk_82 rfl ?_
        refine fw_putI C 10 5 (Nat.le_of_ble_eq_true rfl) (Nat.le_of_ble_eq_true rfl) wf_X10_162 rfl rfl rfl rfl (gO_of g1) dX10_desk_83 ?_
        refine fw_bm h (fun M19 h => ?_)
        refine fw_aload_n C 1 dX10_desk_86 rfl rfl ?_
        obtain ⟨v20, e20, h⟩ := b1_some h
        refine fw_callV (ci := 10) [] C (c_X10_suits hl e20) cal_X10_suits wm_X10_62 wi_yX10_suits wsl_yX10_suits (Nat.le_of_ble_eq_true rfl) rfl (gO_of g1) rfl (Nat.le_of_ble_eq_true rfl) ⟨Nat.le_of_ble_eq_true rfl, Nat.le_of_ble_eq_true rfl⟩ ⟨Nat.zero_le _, Nat.zero_le _⟩ dX10_desk_87 ?_
        obtain rfl := Option.some.inj h
        exact fw_iret C hr hlk dX10_desk_90
      · replace h := (if_neg c15).symm.trans h
        refine fw_bipush C (-10) dX10_desk_65 rfl ?_
        refine fw_iload_n C 0 dX10_desk_67 rfl rfl ?_
        refine fw_isub C dX10_desk_68 ?_
        obtain rfl := Option.some.inj h
        exact fw_iret C hr hlk dX10_desk_69
    · replace h := (if_neg c5).symm.trans h
      refine fw_aload_n C 0 dX10_desk_17 rfl rfl ?_
      refine fw_iconst C 1 dX10_desk_18 rfl ?_
      obtain ⟨v21, M21, e21, h⟩ := b2_some h
      refine fw_callV (ci := 10) [_] C (c_X10_fail hl e21) cal_X10_fail wm_X10_171 wi_yX10_fail wsl_yX10_fail (Nat.le_of_ble_eq_true rfl) rfl (gO_of g1) rfl (Nat.le_of_ble_eq_true rfl) ⟨Nat.le_of_ble_eq_true rfl, Nat.le_of_ble_eq_true rfl⟩ ⟨Nat.zero_le _, Nat.zero_le _⟩ dX10_desk_19 ?_
      obtain rfl := Option.some.inj h
      exact fw_iret C hr hlk dX10_desk_22
set_option maxRecDepth 100000 in
def f_X10_valueOf (S : List fw_Sh) (M : fw_Mem) (a0 : Nat) (x1 : Int32) (x2 : Int32) : Option Int32 := if x2 = 0 then (some x1) else (if x2 = 1 then (gd (gO S 10 a0) (b1 (f_X10_of S M a0 x1 0) (fun v3 => some v3))) else (if x2 = 2 then (gd (gO S 10 a0) (b1 (f_X10_of S M a0 x1 1) (fun v6 => some v6))) else (if x2 = 3 then (gd (gO S 10 a0) (b1 (f_X10_of S M a0 x1 2) (fun v9 => some v9))) else (if x2 = 4 then (gd (gO S 10 a0) (b1 (f_X10_of S M a0 x1 6) (fun v12 => some v12))) else (if x2 = 5 then (gd (gO S 10 a0) (b1 (f_X10_isReversed S M a0 x1) (fun v15 => if v15 = 0 then (b1 (f_X10_winsOf S M a0 x1) (fun v18 => some v18)) else (some (-1))))) else (if x2 = 6 then (gd (gO S 10 a0) (b1 (f_X10_barsOf S M a0 x1) (fun v20 => b1 (f_X10_bitsOf S M v20) (fun v22 => some v22)))) else (if x2 = 7 then (gd (gO S 10 a0) (b1 (f_X10_heldOf S M a0 x1) (fun v24 => b1 (f_X10_bitsOf S M v24) (fun v26 => some v26)))) else (if x2 = 8 then (gd (gO S 10 a0) (b1 (f_X10_issuesOf S M a0 x1) (fun v28 => b1 (f_X10_bitsOf S M v28) (fun v30 => b1 (f_X10_heldOf S M a0 x1) (fun v31 => b1 (f_X10_bitsOf S M v31) (fun v32 => some (v30 - v32))))))) else (gd (gO S 10 a0) (b1 (f_X10_forcedOf S M a0 x1) (fun v33 => some v33)))))))))))
set_option maxHeartbeats 4000000 in
set_option maxRecDepth 100000 in
theorem c_X10_valueOf {l : Launch} {G : fw_G} {S : List fw_Sh} {M : fw_Mem} {a0 : Nat} {x1 : Int32} {x2 : Int32} {r : Int32} (hl : l.stackTraces = false) (h : f_X10_valueOf S M a0 x1 x2 = some r) : fw_M l G yX10_valueOf (.code yX10_valueOf cX10_valueOf 3 (some .int)) 11 (fw_mcO (.inl (some (.int r)), S, M)) (fw_msO (.inl (some (.int r)), S, M)) S M [.ref a0, .int x1, .int x2] (.inl (some (.int r)), S, M) := by
  refine fw_of [(0, .ref a0), (1, .int x1), (2, .int x2)] (by decide) (Nat.le_of_ble_eq_true rfl) rfl ?_
  intro p e s m args below meth c C hr hlk hnm ht _
  unfold f_X10_valueOf at h
  refine fw_iload_n C 2 dX10_valueOf_0 rfl rfl ?_
  by_cases c1 : x2 = 0
  · replace h := (if_pos c1).symm.trans h
    refine fw_tableIn C 0 52 dX10_valueOf_1 c1 (by decide) (by decide) rfl (by decide) ?_
    refine fw_iload_n C 1 dX10_valueOf_52 rfl rfl ?_
    obtain rfl := Option.some.inj h
    exact fw_iret C hr hlk dX10_valueOf_53
  replace h := (if_neg c1).symm.trans h
  by_cases c2 : x2 = 1
  · replace h := (if_pos c2).symm.trans h
    refine fw_tableIn C 1 54 dX10_valueOf_1 c2 (by decide) (by decide) rfl (by decide) ?_
    refine fw_aload_n C 0 dX10_valueOf_54 rfl rfl ?_
    refine fw_iload_n C 1 dX10_valueOf_55 rfl rfl ?_
    refine fw_iconst C 0 dX10_valueOf_56 rfl ?_
    obtain ⟨g4, h⟩ := gd_some h
    obtain ⟨v3, e3, h⟩ := b1_some h
    refine fw_callV (ci := 10) [_, _] C (c_X10_of hl e3) cal_X10_of wm_X10_65 wi_yX10_of wsl_yX10_of (Nat.le_of_ble_eq_true rfl) rfl (gO_of g4) rfl (Nat.le_of_ble_eq_true rfl) ⟨Nat.le_of_ble_eq_true rfl, Nat.le_of_ble_eq_true rfl⟩ ⟨Nat.zero_le _, Nat.zero_le _⟩ dX10_valueOf_57 ?_
    obtain rfl := Option.some.inj h
    exact fw_iret C hr hlk dX10_valueOf_60
  replace h := (if_neg c2).symm.trans h
  by_cases c5 : x2 = 2
  · replace h := (if_pos c5).symm.trans h
    refine fw_tableIn C 2 61 dX10_valueOf_1 c5 (by decide) (by decide) rfl (by decide) ?_
    refine fw_aload_n C 0 dX10_valueOf_61 rfl rfl ?_
    refine fw_iload_n C 1 dX10_valueOf_62 rfl rfl ?_
    refine fw_iconst C 1 dX10_valueOf_63 rfl ?_
    obtain ⟨g7, h⟩ := gd_some h
    obtain ⟨v6, e6, h⟩ := b1_some h
    refine fw_callV (ci := 10) [_, _] C (c_X10_of hl e6) cal_X10_of wm_X10_65 wi_yX10_of wsl_yX10_of (Nat.le_of_ble_eq_true rfl) rfl (gO_of g7) rfl (Nat.le_of_ble_eq_true rfl) ⟨Nat.le_of_ble_eq_true rfl, Nat.le_of_ble_eq_true rfl⟩ ⟨Nat.zero_le _, Nat.zero_le _⟩ dX10_valueOf_64 ?_
    obtain rfl := Option.some.inj h
    exact fw_iret C hr hlk dX10_valueOf_67
  replace h := (if_neg c5).symm.trans h
  by_cases c8 : x2 = 3
  · replace h := (if_pos c8).symm.trans h
    refine fw_tableIn C 3 68 dX10_valueOf_1 c8 (by decide) (by decide) rfl (by decide) ?_
    refine fw_aload_n C 0 dX10_valueOf_68 rfl rfl ?_
    refine fw_iload_n C 1 dX10_valueOf_69 rfl rfl ?_
    refine fw_iconst C 2 dX10_valueOf_70 rfl ?_
    obtain ⟨g10, h⟩ := gd_some h
    obtain ⟨v9, e9, h⟩ := b1_some h
    refine fw_callV (ci := 10) [_, _] C (c_X10_of hl e9) cal_X10_of wm_X10_65 wi_yX10_of wsl_yX10_of (Nat.le_of_ble_eq_true rfl) rfl (gO_of g10) rfl (Nat.le_of_ble_eq_true rfl) ⟨Nat.le_of_ble_eq_true rfl, Nat.le_of_ble_eq_true rfl⟩ ⟨Nat.zero_le _, Nat.zero_le _⟩ dX10_valueOf_71 ?_
    obtain rfl := Option.some.inj h
    exact fw_iret C hr hlk dX10_valueOf_74
  replace h := (if_neg c8).symm.trans h
  by_cases c11 : x2 = 4
  · replace h := (if_pos c11).symm.trans h
    refine fw_tableIn C 4 75 dX10_valueOf_1 c11 (by decide) (by decide) rfl (by decide) ?_
    refine fw_aload_n C 0 dX10_valueOf_75 rfl rfl ?_
    refine fw_iload_n C 1 dX10_valueOf_76 rfl rfl ?_
    refine fw_bipush C 6 dX10_valueOf_77 rfl ?_
    obtain ⟨g13, h⟩ := gd_some h
    obtain ⟨v12, e12, h⟩ := b1_some h
    refine fw_callV (ci := 10) [_, _] C (c_X10_of hl e12) cal_X10_of wm_X10_65 wi_yX10_of wsl_yX10_of (Nat.le_of_ble_eq_true rfl) rfl (gO_of g13) rfl (Nat.le_of_ble_eq_true rfl) ⟨Nat.le_of_ble_eq_true rfl, Nat.le_of_ble_eq_true rfl⟩ ⟨Nat.zero_le _, Nat.zero_le _⟩ dX10_valueOf_79 ?_
    obtain rfl := Option.some.inj h
    exact fw_iret C hr hlk dX10_valueOf_82
  replace h := (if_neg c11).symm.trans h
  by_cases c14 : x2 = 5
  · replace h := (if_pos c14).symm.trans h
    refine fw_tableIn C 5 83 dX10_valueOf_1 c14 (by decide) (by decide) rfl (by decide) ?_
    refine fw_aload_n C 0 dX10_valueOf_83 rfl rfl ?_
    refine fw_iload_n C 1 dX10_valueOf_84 rfl rfl ?_
    obtain ⟨g16, h⟩ := gd_some h
    obtain ⟨v15, e15, h⟩ := b1_some h
    refine fw_callV (ci := 10) [_] C (c_X10_isReversed hl e15) cal_X10_isReversed wm_X10_86 wi_yX10_isReversed wsl_yX10_isReversed (Nat.le_of_ble_eq_true rfl) rfl (gO_of g16) rfl (Nat.le_of_ble_eq_true rfl) ⟨Nat.le_of_ble_eq_true rfl, Nat.le_of_ble_eq_true rfl⟩ ⟨Nat.zero_le _, Nat.zero_le _⟩ dX10_valueOf_85 ?_
    refine fw_if_eq C 95 dX10_valueOf_88 (by decide) (fun c17 => ?_) (fun c17 => ?_)
    · replace h := (if_pos c17).symm.trans h
      refine fw_aload_n C 0 dX10_valueOf_95 rfl rfl ?_
      refine fw_iload_n C 1 dX10_valueOf_96 rfl rfl ?_
      obtain ⟨v18, e18, h⟩ := b1_some h
      refine fw_callV (ci := 10) [_] C (c_X10_winsOf hl e18) cal_X10_winsOf wm_X10_76 wi_yX10_winsOf wsl_yX10_winsOf (Nat.le_of_ble_eq_true rfl) rfl (gO_of g16) rfl (Nat.le_of_ble_eq_true rfl) ⟨Nat.le_of_ble_eq_true rfl, Nat.le_of_ble_eq_true rfl⟩ ⟨Nat.zero_le _, Nat.zero_le _⟩ dX10_valueOf_97 ?_
      obtain rfl := Option.some.inj h
      exact fw_iret C hr hlk dX10_valueOf_100
    · replace h := (if_neg c17).symm.trans h
      refine fw_iconst C (-1) dX10_valueOf_91 rfl ?_
      refine fw_goto C 100 dX10_valueOf_92 (by decide) ?_
      obtain rfl := Option.some.inj h
      exact fw_iret C hr hlk dX10_valueOf_100
  replace h := (if_neg c14).symm.trans h
  by_cases c19 : x2 = 6
  · replace h := (if_pos c19).symm.trans h
    refine fw_tableIn C 6 101 dX10_valueOf_1 c19 (by decide) (by decide) rfl (by decide) ?_
    refine fw_aload_n C 0 dX10_valueOf_101 rfl rfl ?_
    refine fw_iload_n C 1 dX10_valueOf_102 rfl rfl ?_
    obtain ⟨g21, h⟩ := gd_some h
    obtain ⟨v20, e20, h⟩ := b1_some h
    refine fw_callV (ci := 10) [_] C (c_X10_barsOf hl e20) cal_X10_barsOf wm_X10_143 wi_yX10_barsOf wsl_yX10_barsOf (Nat.le_of_ble_eq_true rfl) rfl (gO_of g21) rfl (Nat.le_of_ble_eq_true rfl) ⟨Nat.le_of_ble_eq_true rfl, Nat.le_of_ble_eq_true rfl⟩ ⟨Nat.zero_le _, Nat.zero_le _⟩ dX10_valueOf_103 ?_
    obtain ⟨v22, e22, h⟩ := b1_some h
    refine fw_callS [_] C (c_X10_bitsOf hl e22) cal_X10_bitsOf wm_X10_83 wt_yX10_bitsOf rfl (Nat.le_of_ble_eq_true rfl) ⟨Nat.le_of_ble_eq_true rfl, Nat.le_of_ble_eq_true rfl⟩ ⟨Nat.zero_le _, Nat.zero_le _⟩ dX10_valueOf_106 ?_
    obtain rfl := Option.some.inj h
    exact fw_iret C hr hlk dX10_valueOf_109
  replace h := (if_neg c19).symm.trans h
  by_cases c23 : x2 = 7
  · replace h := (if_pos c23).symm.trans h
    refine fw_tableIn C 7 110 dX10_valueOf_1 c23 (by decide) (by decide) rfl (by decide) ?_
    refine fw_aload_n C 0 dX10_valueOf_110 rfl rfl ?_
    refine fw_iload_n C 1 dX10_valueOf_111 rfl rfl ?_
    obtain ⟨g25, h⟩ := gd_some h
    obtain ⟨v24, e24, h⟩ := b1_some h
    refine fw_callV (ci := 10) [_] C (c_X10_heldOf hl e24) cal_X10_heldOf wm_X10_146 wi_yX10_heldOf wsl_yX10_heldOf (Nat.le_of_ble_eq_true rfl) rfl (gO_of g25) rfl (Nat.le_of_ble_eq_true rfl) ⟨Nat.le_of_ble_eq_true rfl, Nat.le_of_ble_eq_true rfl⟩ ⟨Nat.zero_le _, Nat.zero_le _⟩ dX10_valueOf_112 ?_
    obtain ⟨v26, e26, h⟩ := b1_some h
    refine fw_callS [_] C (c_X10_bitsOf hl e26) cal_X10_bitsOf wm_X10_83 wt_yX10_bitsOf rfl (Nat.le_of_ble_eq_true rfl) ⟨Nat.le_of_ble_eq_true rfl, Nat.le_of_ble_eq_true rfl⟩ ⟨Nat.zero_le _, Nat.zero_le _⟩ dX10_valueOf_115 ?_
    obtain rfl := Option.some.inj h
    exact fw_iret C hr hlk dX10_valueOf_118
  replace h := (if_neg c23).symm.trans h
  by_cases c27 : x2 = 8
  · replace h := (if_pos c27).symm.trans h
    refine fw_tableIn C 8 119 dX10_valueOf_1 c27 (by decide) (by decide) rfl (by decide) ?_
    refine fw_aload_n C 0 dX10_valueOf_119 rfl rfl ?_
    refine fw_iload_n C 1 dX10_valueOf_120 rfl rfl ?_
    obtain ⟨g29, h⟩ := gd_some h
    obtain ⟨v28, e28, h⟩ := b1_some h
    refine fw_callV (ci := 10) [_] C (c_X10_issuesOf hl e28) cal_X10_issuesOf wm_X10_137 wi_yX10_issuesOf wsl_yX10_issuesOf (Nat.le_of_ble_eq_true rfl) rfl (gO_of g29) rfl (Nat.le_of_ble_eq_true rfl) ⟨Nat.le_of_ble_eq_true rfl, Nat.le_of_ble_eq_true rfl⟩ ⟨Nat.zero_le _, Nat.zero_le _⟩ dX10_valueOf_121 ?_
    obtain ⟨v30, e30, h⟩ := b1_some h
    refine fw_callS [_] C (c_X10_bitsOf hl e30) cal_X10_bitsOf wm_X10_83 wt_yX10_bitsOf rfl (Nat.le_of_ble_eq_true rfl) ⟨Nat.le_of_ble_eq_true rfl, Nat.le_of_ble_eq_true rfl⟩ ⟨Nat.zero_le _, Nat.zero_le _⟩ dX10_valueOf_124 ?_
    refine fw_aload_n C 0 dX10_valueOf_127 rfl rfl ?_
    refine fw_iload_n C 1 dX10_valueOf_128 rfl rfl ?_
    obtain ⟨v31, e31, h⟩ := b1_some h
    refine fw_callV (ci := 10) [_] C (c_X10_heldOf hl e31) cal_X10_heldOf wm_X10_146 wi_yX10_heldOf wsl_yX10_heldOf (Nat.le_of_ble_eq_true rfl) rfl (gO_of g29) rfl (Nat.le_of_ble_eq_true rfl) ⟨Nat.le_of_ble_eq_true rfl, Nat.le_of_ble_eq_true rfl⟩ ⟨Nat.zero_le _, Nat.zero_le _⟩ dX10_valueOf_129 ?_
    obtain ⟨v32, e32, h⟩ := b1_some h
    refine fw_callS [_] C (c_X10_bitsOf hl e32) cal_X10_bitsOf wm_X10_83 wt_yX10_bitsOf rfl (Nat.le_of_ble_eq_true rfl) ⟨Nat.le_of_ble_eq_true rfl, Nat.le_of_ble_eq_true rfl⟩ ⟨Nat.zero_le _, Nat.zero_le _⟩ dX10_valueOf_132 ?_
    refine fw_isub C dX10_valueOf_135 ?_
    obtain rfl := Option.some.inj h
    exact fw_iret C hr hlk dX10_valueOf_136
  replace h := (if_neg c27).symm.trans h
  have qc1 := lv_neT c1 (a := 0) rfl
  have qc2 := lv_neT c2 (a := 1) rfl
  have qc5 := lv_neT c5 (a := 2) rfl
  have qc8 := lv_neT c8 (a := 3) rfl
  have qc11 := lv_neT c11 (a := 4) rfl
  have qc14 := lv_neT c14 (a := 5) rfl
  have qc19 := lv_neT c19 (a := 6) rfl
  have qc23 := lv_neT c23 (a := 7) rfl
  have qc27 := lv_neT c27 (a := 8) rfl
  refine fw_tableOut C 137 dX10_valueOf_1 (by omega) (by decide) ?_
  refine fw_aload_n C 0 dX10_valueOf_137 rfl rfl ?_
  refine fw_iload_n C 1 dX10_valueOf_138 rfl rfl ?_
  obtain ⟨g34, h⟩ := gd_some h
  obtain ⟨v33, e33, h⟩ := b1_some h
  refine fw_callV (ci := 10) [_] C (c_X10_forcedOf hl e33) cal_X10_forcedOf wm_X10_193 wi_yX10_forcedOf wsl_yX10_forcedOf (Nat.le_of_ble_eq_true rfl) rfl (gO_of g34) rfl (Nat.le_of_ble_eq_true rfl) ⟨Nat.le_of_ble_eq_true rfl, Nat.le_of_ble_eq_true rfl⟩ ⟨Nat.zero_le _, Nat.zero_le _⟩ dX10_valueOf_139 ?_
  obtain rfl := Option.some.inj h
  exact fw_iret C hr hlk dX10_valueOf_142
set_option maxRecDepth 100000 in
def f_X10_wordHere (S : List fw_Sh) (M : fw_Mem) (a0 : Nat) : Option Int32 := gd (gO S 10 a0) (b1 (f_X10_isWord S M a0 1000028) (fun v1 => if v1 = 0 then (b1 (f_X10_isWord S M a0 1000024) (fun v4 => if v4 = 0 then (b1 (f_X10_isWord S M a0 1000005) (fun v6 => if v6 = 0 then (b1 (f_X10_isWord S M a0 1000008) (fun v8 => if v8 = 0 then (b1 (f_X10_isWord S M a0 1000004) (fun v10 => if v10 = 0 then (b1 (f_X10_isWord S M a0 1000030) (fun v12 => if v12 = 0 then (b1 (f_X10_isWord S M a0 1000002) (fun v14 => if v14 = 0 then (b1 (f_X10_isWord S M a0 1000013) (fun v16 => if v16 = 0 then (b1 (f_X10_isWord S M a0 1000021) (fun v18 => if v18 = 0 then (b1 (f_X10_isWord S M a0 1000010) (fun v20 => if v20 = 0 then (some (-1)) else (some 9))) else (some 8))) else (some 7))) else (some 6))) else (some 5))) else (some 4))) else (some 3))) else (some 2))) else (some 1))) else (some 0)))
set_option maxHeartbeats 4000000 in
set_option maxRecDepth 100000 in
theorem c_X10_wordHere {l : Launch} {G : fw_G} {S : List fw_Sh} {M : fw_Mem} {a0 : Nat} {r : Int32} (hl : l.stackTraces = false) (h : f_X10_wordHere S M a0 = some r) : fw_M l G yX10_wordHere (.code yX10_wordHere cX10_wordHere 1 (some .int)) 8 (fw_mcO (.inl (some (.int r)), S, M)) (fw_msO (.inl (some (.int r)), S, M)) S M [.ref a0] (.inl (some (.int r)), S, M) := by
  refine fw_of [(0, .ref a0)] (by decide) (Nat.le_of_ble_eq_true rfl) rfl ?_
  intro p e s m args below meth c C hr hlk hnm ht _
  unfold f_X10_wordHere at h
  refine fw_aload_n C 0 dX10_wordHere_0 rfl rfl ?_
  refine fw_ldcSw C (i := 27) (List.mem_of_getElem? (i := 61) rfl) dX10_wordHere_1 ?_
  obtain ⟨g2, h⟩ := gd_some h
  obtain ⟨v1, e1, h⟩ := b1_some h
  refine fw_callV (ci := 10) [_] C (c_X10_isWord hl e1) cal_X10_isWord wm_X10_308 wi_yX10_isWord wsl_yX10_isWord (Nat.le_of_ble_eq_true rfl) rfl (gO_of g2) rfl (Nat.le_of_ble_eq_true rfl) ⟨Nat.le_of_ble_eq_true rfl, Nat.le_of_ble_eq_true rfl⟩ ⟨Nat.zero_le _, Nat.zero_le _⟩ dX10_wordHere_4 ?_
  refine fw_if_eq C 12 dX10_wordHere_7 (by decide) (fun c3 => ?_) (fun c3 => ?_)
  · replace h := (if_pos c3).symm.trans h
    refine fw_aload_n C 0 dX10_wordHere_12 rfl rfl ?_
    refine fw_ldcSw C (i := 23) (List.mem_of_getElem? (i := 78) rfl) dX10_wordHere_13 ?_
    obtain ⟨v4, e4, h⟩ := b1_some h
    refine fw_callV (ci := 10) [_] C (c_X10_isWord hl e4) cal_X10_isWord wm_X10_308 wi_yX10_isWord wsl_yX10_isWord (Nat.le_of_ble_eq_true rfl) rfl (gO_of g2) rfl (Nat.le_of_ble_eq_true rfl) ⟨Nat.le_of_ble_eq_true rfl, Nat.le_of_ble_eq_true rfl⟩ ⟨Nat.zero_le _, Nat.zero_le _⟩ dX10_wordHere_16 ?_
    refine fw_if_eq C 24 dX10_wordHere_19 (by decide) (fun c5 => ?_) (fun c5 => ?_)
    · replace h := (if_pos c5).symm.trans h
      refine fw_aload_n C 0 dX10_wordHere_24 rfl rfl ?_
      refine fw_ldcSw C (i := 4) (List.mem_of_getElem? (i := 79) rfl) dX10_wordHere_25 ?_
      obtain ⟨v6, e6, h⟩ := b1_some h
      refine fw_callV (ci := 10) [_] C (c_X10_isWord hl e6) cal_X10_isWord wm_X10_308 wi_yX10_isWord wsl_yX10_isWord (Nat.le_of_ble_eq_true rfl) rfl (gO_of g2) rfl (Nat.le_of_ble_eq_true rfl) ⟨Nat.le_of_ble_eq_true rfl, Nat.le_of_ble_eq_true rfl⟩ ⟨Nat.zero_le _, Nat.zero_le _⟩ dX10_wordHere_28 ?_
      refine fw_if_eq C 36 dX10_wordHere_31 (by decide) (fun c7 => ?_) (fun c7 => ?_)
      · replace h := (if_pos c7).symm.trans h
        refine fw_aload_n C 0 dX10_wordHere_36 rfl rfl ?_
        refine fw_ldcSw C (i := 7) (List.mem_of_getElem? (i := 80) rfl) dX10_wordHere_37 ?_
        obtain ⟨v8, e8, h⟩ := b1_some h
        refine fw_callV (ci := 10) [_] C (c_X10_isWord hl e8) cal_X10_isWord wm_X10_308 wi_yX10_isWord wsl_yX10_isWord (Nat.le_of_ble_eq_true rfl) rfl (gO_of g2) rfl (Nat.le_of_ble_eq_true rfl) ⟨Nat.le_of_ble_eq_true rfl, Nat.le_of_ble_eq_true rfl⟩ ⟨Nat.zero_le _, Nat.zero_le _⟩ dX10_wordHere_40 ?_
        refine fw_if_eq C 48 dX10_wordHere_43 (by decide) (fun c9 => ?_) (fun c9 => ?_)
        · replace h := (if_pos c9).symm.trans h
          refine fw_aload_n C 0 dX10_wordHere_48 rfl rfl ?_
          refine fw_ldcSw C (i := 3) (List.mem_of_getElem? (i := 81) rfl) dX10_wordHere_49 ?_
          obtain ⟨v10, e10, h⟩ := b1_some h
          refine fw_callV (ci := 10) [_] C (c_X10_isWord hl e10) cal_X10_isWord wm_X10_308 wi_yX10_isWord wsl_yX10_isWord (Nat.le_of_ble_eq_true rfl) rfl (gO_of g2) rfl (Nat.le_of_ble_eq_true rfl) ⟨Nat.le_of_ble_eq_true rfl, Nat.le_of_ble_eq_true rfl⟩ ⟨Nat.zero_le _, Nat.zero_le _⟩ dX10_wordHere_52 ?_
          refine fw_if_eq C 60 dX10_wordHere_55 (by decide) (fun c11 => ?_) (fun c11 => ?_)
          · replace h := (if_pos c11).symm.trans h
            refine fw_aload_n C 0 dX10_wordHere_60 rfl rfl ?_
            refine fw_ldcSw C (i := 29) (List.mem_of_getElem? (i := 82) rfl) dX10_wordHere_61 ?_
            obtain ⟨v12, e12, h⟩ := b1_some h
            refine fw_callV (ci := 10) [_] C (c_X10_isWord hl e12) cal_X10_isWord wm_X10_308 wi_yX10_isWord wsl_yX10_isWord (Nat.le_of_ble_eq_true rfl) rfl (gO_of g2) rfl (Nat.le_of_ble_eq_true rfl) ⟨Nat.le_of_ble_eq_true rfl, Nat.le_of_ble_eq_true rfl⟩ ⟨Nat.zero_le _, Nat.zero_le _⟩ dX10_wordHere_64 ?_
            refine fw_if_eq C 72 dX10_wordHere_67 (by decide) (fun c13 => ?_) (fun c13 => ?_)
            · replace h := (if_pos c13).symm.trans h
              refine fw_aload_n C 0 dX10_wordHere_72 rfl rfl ?_
              refine fw_ldcSw C (i := 1) (List.mem_of_getElem? (i := 83) rfl) dX10_wordHere_73 ?_
              obtain ⟨v14, e14, h⟩ := b1_some h
              refine fw_callV (ci := 10) [_] C (c_X10_isWord hl e14) cal_X10_isWord wm_X10_308 wi_yX10_isWord wsl_yX10_isWord (Nat.le_of_ble_eq_true rfl) rfl (gO_of g2) rfl (Nat.le_of_ble_eq_true rfl) ⟨Nat.le_of_ble_eq_true rfl, Nat.le_of_ble_eq_true rfl⟩ ⟨Nat.zero_le _, Nat.zero_le _⟩ dX10_wordHere_76 ?_
              refine fw_if_eq C 85 dX10_wordHere_79 (by decide) (fun c15 => ?_) (fun c15 => ?_)
              · replace h := (if_pos c15).symm.trans h
                refine fw_aload_n C 0 dX10_wordHere_85 rfl rfl ?_
                refine fw_ldcSw C (i := 12) (List.mem_of_getElem? (i := 84) rfl) dX10_wordHere_86 ?_
                obtain ⟨v16, e16, h⟩ := b1_some h
                refine fw_callV (ci := 10) [_] C (c_X10_isWord hl e16) cal_X10_isWord wm_X10_308 wi_yX10_isWord wsl_yX10_isWord (Nat.le_of_ble_eq_true rfl) rfl (gO_of g2) rfl (Nat.le_of_ble_eq_true rfl) ⟨Nat.le_of_ble_eq_true rfl, Nat.le_of_ble_eq_true rfl⟩ ⟨Nat.zero_le _, Nat.zero_le _⟩ dX10_wordHere_89 ?_
                refine fw_if_eq C 98 dX10_wordHere_92 (by decide) (fun c17 => ?_) (fun c17 => ?_)
                · replace h := (if_pos c17).symm.trans h
                  refine fw_aload_n C 0 dX10_wordHere_98 rfl rfl ?_
                  refine fw_ldcSw C (i := 20) (List.mem_of_getElem? (i := 85) rfl) dX10_wordHere_99 ?_
                  obtain ⟨v18, e18, h⟩ := b1_some h
                  refine fw_callV (ci := 10) [_] C (c_X10_isWord hl e18) cal_X10_isWord wm_X10_308 wi_yX10_isWord wsl_yX10_isWord (Nat.le_of_ble_eq_true rfl) rfl (gO_of g2) rfl (Nat.le_of_ble_eq_true rfl) ⟨Nat.le_of_ble_eq_true rfl, Nat.le_of_ble_eq_true rfl⟩ ⟨Nat.zero_le _, Nat.zero_le _⟩ dX10_wordHere_102 ?_
                  refine fw_if_eq C 111 dX10_wordHere_105 (by decide) (fun c19 => ?_) (fun c19 => ?_)
                  · replace h := (if_pos c19).symm.trans h
                    refine fw_aload_n C 0 dX10_wordHere_111 rfl rfl ?_
                    refine fw_ldcSw C (i := 9) (List.mem_of_getElem? (i := 86) rfl) dX10_wordHere_112 ?_
                    obtain ⟨v20, e20, h⟩ := b1_some h
                    refine fw_callV (ci := 10) [_] C (c_X10_isWord hl e20) cal_X10_isWord wm_X10_308 wi_yX10_isWord wsl_yX10_isWord (Nat.le_of_ble_eq_true rfl) rfl (gO_of g2) rfl (Nat.le_of_ble_eq_true rfl) ⟨Nat.le_of_ble_eq_true rfl, Nat.le_of_ble_eq_true rfl⟩ ⟨Nat.zero_le _, Nat.zero_le _⟩ dX10_wordHere_115 ?_
                    refine fw_if_eq C 126 dX10_wordHere_118 (by decide) (fun c21 => ?_) (fun c21 => ?_)
                    · replace h := (if_pos c21).symm.trans h
                      refine fw_iconst C (-1) dX10_wordHere_126 rfl ?_
                      obtain rfl := Option.some.inj h
                      exact fw_iret C hr hlk dX10_wordHere_127
                    · replace h := (if_neg c21).symm.trans h
                      refine fw_bipush C 9 dX10_wordHere_121 rfl ?_
                      refine fw_goto C 127 dX10_wordHere_123 (by decide) ?_
                      obtain rfl := Option.some.inj h
                      exact fw_iret C hr hlk dX10_wordHere_127
                  · replace h := (if_neg c19).symm.trans h
                    refine fw_bipush C 8 dX10_wordHere_108 rfl ?_
                    obtain rfl := Option.some.inj h
                    exact fw_iret C hr hlk dX10_wordHere_110
                · replace h := (if_neg c17).symm.trans h
                  refine fw_bipush C 7 dX10_wordHere_95 rfl ?_
                  obtain rfl := Option.some.inj h
                  exact fw_iret C hr hlk dX10_wordHere_97
              · replace h := (if_neg c15).symm.trans h
                refine fw_bipush C 6 dX10_wordHere_82 rfl ?_
                obtain rfl := Option.some.inj h
                exact fw_iret C hr hlk dX10_wordHere_84
            · replace h := (if_neg c13).symm.trans h
              refine fw_iconst C 5 dX10_wordHere_70 rfl ?_
              obtain rfl := Option.some.inj h
              exact fw_iret C hr hlk dX10_wordHere_71
          · replace h := (if_neg c11).symm.trans h
            refine fw_iconst C 4 dX10_wordHere_58 rfl ?_
            obtain rfl := Option.some.inj h
            exact fw_iret C hr hlk dX10_wordHere_59
        · replace h := (if_neg c9).symm.trans h
          refine fw_iconst C 3 dX10_wordHere_46 rfl ?_
          obtain rfl := Option.some.inj h
          exact fw_iret C hr hlk dX10_wordHere_47
      · replace h := (if_neg c7).symm.trans h
        refine fw_iconst C 2 dX10_wordHere_34 rfl ?_
        obtain rfl := Option.some.inj h
        exact fw_iret C hr hlk dX10_wordHere_35
    · replace h := (if_neg c5).symm.trans h
      refine fw_iconst C 1 dX10_wordHere_22 rfl ?_
      obtain rfl := Option.some.inj h
      exact fw_iret C hr hlk dX10_wordHere_23
  · replace h := (if_neg c3).symm.trans h
    refine fw_iconst C 0 dX10_wordHere_10 rfl ?_
    obtain rfl := Option.some.inj h
    exact fw_iret C hr hlk dX10_wordHere_11
set_option maxRecDepth 100000 in
def fj_X10_readValue_39 (S : List fw_Sh) (M : fw_Mem) (a0 : Nat) (x1 : Int32) : Option (Int32 × fw_Mem) := gd (gO S 10 a0) (b1 (f_X10_pass S M a0) (fun M12 => if (M12 a0 21) = 0 then (if (M12 a0 25) = (-1) then (some (0, M12)) else (b1 (f_X10_valueOf S M12 a0 (M12 a0 25) x1) (fun v16 => some (v16, M12)))) else (some (0, M12))))
set_option maxHeartbeats 4000000 in
set_option maxRecDepth 100000 in
theorem jc_X10_readValue_39 {G : fw_G} {p : Program} {l : Launch} {e : Env} {s : State} {m : MethodId} {args : Array Value} {below : List Frame} {meth : Method} {c : Code} {S : List fw_Sh} {M : fw_Mem} {a0 : Nat} {x1 : Int32} {r : (Int32 × fw_Mem)} {o : fw_O} (C : fw_C G RX10 cX10_readValue 2 p s m args c) (hr : meth.sig.returnType = (some .int)) (hlk : meth.locks = false) (hl : l.stackTraces = false) (ht : ∀ x ∈ c.exceptionTable.toList, False) (ho : o = (.inl (some (.int r.1)), S, r.2)) (h : fj_X10_readValue_39 S M a0 x1 = some r) :
    fw_W G p l e (fw_rm 12 (fw_mcO o) (fw_msO o)) s m args below meth c 2 (fw_Z G below args s (fw_mcO o) (fw_msO o) o) 0 0 39 [(0, .ref a0), (1, .int x1)] [] S M := by
  subst ho
  unfold fj_X10_readValue_39 at h
  refine fw_aload_n C 0 dX10_readValue_39 rfl rfl ?_
  obtain ⟨g13, h⟩ := gd_some h
  obtain ⟨M12, e12, h⟩ := b1_some h
  refine fw_callV (ci := 10) [] C (c_X10_pass hl e12) cal_X10_pass wm_X10_299 wi_yX10_pass wsl_yX10_pass (Nat.le_of_ble_eq_true rfl) rfl (gO_of g13) rfl (Nat.le_of_ble_eq_true rfl) ⟨Nat.le_of_ble_eq_true rfl, Nat.le_of_ble_eq_true rfl⟩ ⟨Nat.zero_le _, Nat.zero_le _⟩ dX10_readValue_40 ?_
  refine fw_aload_n C 0 dX10_readValue_43 rfl rfl ?_
  refine fw_getI C 10 21 (Nat.le_of_ble_eq_true rfl) (Nat.le_of_ble_eq_true rfl) wf_X10_272 rfl (gO_of g13) dX10_readValue_44 ?_
  refine fw_if_ne C 58 dX10_readValue_47 (by decide) (fun c14 => ?_) (fun c14 => ?_)
  · replace h := (if_neg c14).symm.trans h
    refine fw_iconst C 0 dX10_readValue_58 rfl ?_
    refine fw_goto C 71 dX10_readValue_59 (by decide) ?_
    obtain rfl := Option.some.inj h
    exact fw_iret C hr hlk dX10_readValue_71
  · replace h := (if_pos c14).symm.trans h
    refine fw_aload_n C 0 dX10_readValue_50 rfl rfl ?_
    refine fw_getI C 10 25 (Nat.le_of_ble_eq_true rfl) (Nat.le_of_ble_eq_true rfl) wf_X10_404 rfl (gO_of g13) dX10_readValue_51 ?_
    refine fw_iconst C (-1) dX10_readValue_54 rfl ?_
    refine fw_icmp_ne C 62 dX10_readValue_55 (by decide) (fun c15 => ?_) (fun c15 => ?_)
    · replace h := (if_neg c15).symm.trans h
      refine fw_aload_n C 0 dX10_readValue_62 rfl rfl ?_
      refine fw_aload_n C 0 dX10_readValue_63 rfl rfl ?_
      refine fw_getI C 10 25 (Nat.le_of_ble_eq_true rfl) (Nat.le_of_ble_eq_true rfl) wf_X10_404 rfl (gO_of g13) dX10_readValue_64 ?_
      refine fw_iload_n C 1 dX10_readValue_67 rfl rfl ?_
      obtain ⟨v16, e16, h⟩ := b1_some h
      refine fw_callV (ci := 10) [_, _] C (c_X10_valueOf hl e16) cal_X10_valueOf wm_X10_407 wi_yX10_valueOf wsl_yX10_valueOf (Nat.le_of_ble_eq_true rfl) rfl (gO_of g13) rfl (Nat.le_of_ble_eq_true rfl) ⟨Nat.le_of_ble_eq_true rfl, Nat.le_of_ble_eq_true rfl⟩ ⟨Nat.zero_le _, Nat.zero_le _⟩ dX10_readValue_68 ?_
      obtain rfl := Option.some.inj h
      exact fw_iret C hr hlk dX10_readValue_71
    · replace h := (if_pos c15).symm.trans h
      refine fw_iconst C 0 dX10_readValue_58 rfl ?_
      refine fw_goto C 71 dX10_readValue_59 (by decide) ?_
      obtain rfl := Option.some.inj h
      exact fw_iret C hr hlk dX10_readValue_71
set_option maxRecDepth 100000 in
def f_X10_readValue (S : List fw_Sh) (M : fw_Mem) (a0 : Nat) : Option (Int32 × fw_Mem) := gd (gO S 10 a0) (if (M a0 21) = 0 then (if (M a0 18) = 2 then (b2 (f_X10_number S M a0 0 9999) (fun v17 M17 => some (v17, M17))) else (b1 (f_X10_wordHere S M a0) (fun v5 => if v5 = (-1) then (b1 (f_X10_wrong S M a0 1) (fun M11 => fj_X10_readValue_39 S M11 a0 v5)) else (b1 (f_X10_pass S M a0) (fun M7 => if (M7 a0 21) = 0 then (if (M7 a0 25) = (-1) then (some (0, M7)) else (b1 (f_X10_valueOf S M7 a0 (M7 a0 25) v5) (fun v10 => some (v10, M7)))) else (some (0, M7))))))) else (b2 (f_X10_number S M a0 0 9999) (fun v3 M3 => some (v3, M3))))
set_option maxHeartbeats 4000000 in
set_option maxRecDepth 100000 in
theorem c_X10_readValue {l : Launch} {G : fw_G} {S : List fw_Sh} {M : fw_Mem} {a0 : Nat} {r : (Int32 × fw_Mem)} (hl : l.stackTraces = false) (h : f_X10_readValue S M a0 = some r) : fw_M l G yX10_readValue (.code yX10_readValue cX10_readValue 2 (some .int)) 12 (fw_mcO (.inl (some (.int r.1)), S, r.2)) (fw_msO (.inl (some (.int r.1)), S, r.2)) S M [.ref a0] (.inl (some (.int r.1)), S, r.2) := by
  refine fw_of [(0, .ref a0)] (by decide) (Nat.le_of_ble_eq_true rfl) rfl ?_
  intro p e s m args below meth c C hr hlk hnm ht _
  unfold f_X10_readValue at h
  refine fw_aload_n C 0 dX10_readValue_0 rfl rfl ?_
  obtain ⟨g1, h⟩ := gd_some h
  refine fw_getI C 10 21 (Nat.le_of_ble_eq_true rfl) (Nat.le_of_ble_eq_true rfl) wf_X10_272 rfl (gO_of g1) dX10_readValue_1 ?_
  refine fw_if_ne C 15 dX10_readValue_4 (by decide) (fun c2 => ?_) (fun c2 => ?_)
  · replace h := (if_neg c2).symm.trans h
    refine fw_aload_n C 0 dX10_readValue_15 rfl rfl ?_
    refine fw_iconst C 0 dX10_readValue_16 rfl ?_
    refine fw_sipush C 9999 dX10_readValue_17 rfl ?_
    obtain ⟨v3, M3, e3, h⟩ := b2_some h
    refine fw_callV (ci := 10) [_, _] C (c_X10_number hl e3) cal_X10_number wm_X10_325 wi_yX10_number wsl_yX10_number (Nat.le_of_ble_eq_true rfl) rfl (gO_of g1) rfl (Nat.le_of_ble_eq_true rfl) ⟨Nat.le_of_ble_eq_true rfl, Nat.le_of_ble_eq_true rfl⟩ ⟨Nat.zero_le _, Nat.zero_le _⟩ dX10_readValue_20 ?_
    obtain rfl := Option.some.inj h
    exact fw_iret C hr hlk dX10_readValue_23
  · replace h := (if_pos c2).symm.trans h
    refine fw_aload_n C 0 dX10_readValue_7 rfl rfl ?_
    refine fw_getI C 10 18 (Nat.le_of_ble_eq_true rfl) (Nat.le_of_ble_eq_true rfl) wf_X10_260 rfl (gO_of g1) dX10_readValue_8 ?_
    refine fw_iconst C 2 dX10_readValue_11 rfl ?_
    refine fw_icmp_ne C 24 dX10_readValue_12 (by decide) (fun c4 => ?_) (fun c4 => ?_)
    · replace h := (if_neg c4).symm.trans h
      refine fw_aload_n C 0 dX10_readValue_24 rfl rfl ?_
      obtain ⟨v5, e5, h⟩ := b1_some h
      refine fw_callV (ci := 10) [] C (c_X10_wordHere hl e5) cal_X10_wordHere wm_X10_401 wi_yX10_wordHere wsl_yX10_wordHere (Nat.le_of_ble_eq_true rfl) rfl (gO_of g1) rfl (Nat.le_of_ble_eq_true rfl) ⟨Nat.le_of_ble_eq_true rfl, Nat.le_of_ble_eq_true rfl⟩ ⟨Nat.zero_le _, Nat.zero_le _⟩ dX10_readValue_25 ?_
      refine fw_istore_n C [(1, _), (0, _)] dX10_readValue_28 rfl (Nat.le_of_ble_eq_true rfl) rfl ?_
      refine fw_iload_n C 0 dX10_readValue_29 rfl rfl ?_
      refine fw_iconst C (-1) dX10_readValue_30 rfl ?_
      refine fw_icmp_ne C 39 dX10_readValue_31 (by decide) (fun c6 => ?_) (fun c6 => ?_)
      · replace h := (if_neg c6).symm.trans h
        refine fw_aload_n C 1 dX10_readValue_39 rfl rfl ?_
        obtain ⟨M7, e7, h⟩ := b1_some h
        refine fw_callV (ci := 10) [] C (c_X10_pass hl e7) cal_X10_pass wm_X10_299 wi_yX10_pass wsl_yX10_pass (Nat.le_of_ble_eq_true rfl) rfl (gO_of g1) rfl (Nat.le_of_ble_eq_true rfl) ⟨Nat.le_of_ble_eq_true rfl, Nat.le_of_ble_eq_true rfl⟩ ⟨Nat.zero_le _, Nat.zero_le _⟩ dX10_readValue_40 ?_
        refine fw_aload_n C 1 dX10_readValue_43 rfl rfl ?_
        refine fw_getI C 10 21 (Nat.le_of_ble_eq_true rfl) (Nat.le_of_ble_eq_true rfl) wf_X10_272 rfl (gO_of g1) dX10_readValue_44 ?_
        refine fw_if_ne C 58 dX10_readValue_47 (by decide) (fun c8 => ?_) (fun c8 => ?_)
        · replace h := (if_neg c8).symm.trans h
          refine fw_iconst C 0 dX10_readValue_58 rfl ?_
          refine fw_goto C 71 dX10_readValue_59 (by decide) ?_
          obtain rfl := Option.some.inj h
          exact fw_iret C hr hlk dX10_readValue_71
        · replace h := (if_pos c8).symm.trans h
          refine fw_aload_n C 1 dX10_readValue_50 rfl rfl ?_
          refine fw_getI C 10 25 (Nat.le_of_ble_eq_true rfl) (Nat.le_of_ble_eq_true rfl) wf_X10_404 rfl (gO_of g1) dX10_readValue_51 ?_
          refine fw_iconst C (-1) dX10_readValue_54 rfl ?_
          refine fw_icmp_ne C 62 dX10_readValue_55 (by decide) (fun c9 => ?_) (fun c9 => ?_)
          · replace h := (if_neg c9).symm.trans h
            refine fw_aload_n C 1 dX10_readValue_62 rfl rfl ?_
            refine fw_aload_n C 1 dX10_readValue_63 rfl rfl ?_
            refine fw_getI C 10 25 (Nat.le_of_ble_eq_true rfl) (Nat.le_of_ble_eq_true rfl) wf_X10_404 rfl (gO_of g1) dX10_readValue_64 ?_
            refine fw_iload_n C 0 dX10_readValue_67 rfl rfl ?_
            obtain ⟨v10, e10, h⟩ := b1_some h
            refine fw_callV (ci := 10) [_, _] C (c_X10_valueOf hl e10) cal_X10_valueOf wm_X10_407 wi_yX10_valueOf wsl_yX10_valueOf (Nat.le_of_ble_eq_true rfl) rfl (gO_of g1) rfl (Nat.le_of_ble_eq_true rfl) ⟨Nat.le_of_ble_eq_true rfl, Nat.le_of_ble_eq_true rfl⟩ ⟨Nat.zero_le _, Nat.zero_le _⟩ dX10_readValue_68 ?_
            obtain rfl := Option.some.inj h
            exact fw_iret C hr hlk dX10_readValue_71
          · replace h := (if_pos c9).symm.trans h
            refine fw_iconst C 0 dX10_readValue_58 rfl ?_
            refine fw_goto C 71 dX10_readValue_59 (by decide) ?_
            obtain rfl := Option.some.inj h
            exact fw_iret C hr hlk dX10_readValue_71
      · replace h := (if_pos c6).symm.trans h
        refine fw_aload_n C 1 dX10_readValue_34 rfl rfl ?_
        refine fw_iconst C 1 dX10_readValue_35 rfl ?_
        obtain ⟨M11, e11, h⟩ := b1_some h
        refine fw_callV (ci := 10) [_] C (c_X10_wrong hl e11) cal_X10_wrong wm_X10_296 wi_yX10_wrong wsl_yX10_wrong (Nat.le_of_ble_eq_true rfl) rfl (gO_of g1) rfl (Nat.le_of_ble_eq_true rfl) ⟨Nat.le_of_ble_eq_true rfl, Nat.le_of_ble_eq_true rfl⟩ ⟨Nat.zero_le _, Nat.zero_le _⟩ dX10_readValue_36 ?_
        refine fw_sub [1, 0] rfl ?_
        exact jc_X10_readValue_39 C hr hlk hl ht rfl h
    · replace h := (if_pos c4).symm.trans h
      refine fw_aload_n C 0 dX10_readValue_15 rfl rfl ?_
      refine fw_iconst C 0 dX10_readValue_16 rfl ?_
      refine fw_sipush C 9999 dX10_readValue_17 rfl ?_
      obtain ⟨v17, M17, e17, h⟩ := b2_some h
      refine fw_callV (ci := 10) [_, _] C (c_X10_number hl e17) cal_X10_number wm_X10_325 wi_yX10_number wsl_yX10_number (Nat.le_of_ble_eq_true rfl) rfl (gO_of g1) rfl (Nat.le_of_ble_eq_true rfl) ⟨Nat.le_of_ble_eq_true rfl, Nat.le_of_ble_eq_true rfl⟩ ⟨Nat.zero_le _, Nat.zero_le _⟩ dX10_readValue_20 ?_
      obtain rfl := Option.some.inj h
      exact fw_iret C hr hlk dX10_readValue_23
set_option maxRecDepth 100000 in
def fj_X10_goesIn_21 (S : List fw_Sh) (M : fw_Mem) (a0 : Nat) : Option fw_Mem := gd (gO S 10 a0) (bm (fw_set M a0 24 ((M a0 24) + 1)) (fun M10 => b1 (f_X10_pass S M10 a0) (fun M11 => some M11)))
set_option maxHeartbeats 4000000 in
set_option maxRecDepth 100000 in
theorem jc_X10_goesIn_21 {G : fw_G} {p : Program} {l : Launch} {e : Env} {s : State} {m : MethodId} {args : Array Value} {below : List Frame} {meth : Method} {c : Code} {S : List fw_Sh} {M : fw_Mem} {a0 : Nat} {r : fw_Mem} {o : fw_O} (C : fw_C G RX10 cX10_goesIn 1 p s m args c) (hr : meth.sig.returnType = none) (hlk : meth.locks = false) (hl : l.stackTraces = false) (ht : ∀ x ∈ c.exceptionTable.toList, False) (ho : o = (.inl none, S, r)) (h : fj_X10_goesIn_21 S M a0 = some r) :
    fw_W G p l e (fw_rm 4 (fw_mcO o) (fw_msO o)) s m args below meth c 1 (fw_Z G below args s (fw_mcO o) (fw_msO o) o) 0 0 21 [(0, .ref a0)] [] S M := by
  subst ho
  unfold fj_X10_goesIn_21 at h
  refine fw_aload_n C 0 dX10_goesIn_21 rfl rfl ?_
  refine fw_dup C dX10_goesIn_22 rfl ?_
  obtain ⟨g9, h⟩ := gd_some h
  refine fw_getI C 10 24 (Nat.le_of_ble_eq_true rfl) (Nat.le_of_ble_eq_true rfl) wf_X10_275 rfl (gO_of g9) dX10_goesIn_23 ?_
  refine fw_iconst C 1 dX10_goesIn_26 rfl ?_
  refine fw_iadd C dX10_goesIn_27 ?_
  refine fw_putI C 10 24 (Nat.le_of_ble_eq_true rfl) (Nat.le_of_ble_eq_true rfl) wf_X10_275 rfl rfl rfl rfl (gO_of g9) dX10_goesIn_28 ?_
  refine fw_bm h (fun M10 h => ?_)
  refine fw_aload_n C 0 dX10_goesIn_31 rfl rfl ?_
  obtain ⟨M11, e11, h⟩ := b1_some h
  refine fw_callV (ci := 10) [] C (c_X10_pass hl e11) cal_X10_pass wm_X10_299 wi_yX10_pass wsl_yX10_pass (Nat.le_of_ble_eq_true rfl) rfl (gO_of g9) rfl (Nat.le_of_ble_eq_true rfl) ⟨Nat.le_of_ble_eq_true rfl, Nat.le_of_ble_eq_true rfl⟩ ⟨Nat.zero_le _, Nat.zero_le _⟩ dX10_goesIn_32 ?_
  obtain rfl := Option.some.inj h
  exact fw_vret C hr hlk dX10_goesIn_35
set_option maxRecDepth 100000 in
def f_X10_goesIn (S : List fw_Sh) (M : fw_Mem) (a0 : Nat) : Option fw_Mem := gd (gO S 10 a0) (if (M a0 21) = 0 then (if (M a0 24) = 6 then (b1 (f_X10_wrong S M a0 3) (fun M8 => fj_X10_goesIn_21 S M8 a0)) else (bm (fw_set M a0 24 ((M a0 24) + 1)) (fun M6 => b1 (f_X10_pass S M6 a0) (fun M7 => some M7)))) else (bm (fw_set M a0 24 ((M a0 24) + 1)) (fun M3 => b1 (f_X10_pass S M3 a0) (fun M4 => some M4))))
set_option maxHeartbeats 4000000 in
set_option maxRecDepth 100000 in
theorem c_X10_goesIn {l : Launch} {G : fw_G} {S : List fw_Sh} {M : fw_Mem} {a0 : Nat} {r : fw_Mem} (hl : l.stackTraces = false) (h : f_X10_goesIn S M a0 = some r) : fw_M l G yX10_goesIn (.code yX10_goesIn cX10_goesIn 1 none) 4 (fw_mcO (.inl none, S, r)) (fw_msO (.inl none, S, r)) S M [.ref a0] (.inl none, S, r) := by
  refine fw_of [(0, .ref a0)] (by decide) (Nat.le_of_ble_eq_true rfl) rfl ?_
  intro p e s m args below meth c C hr hlk hnm ht _
  unfold f_X10_goesIn at h
  refine fw_aload_n C 0 dX10_goesIn_0 rfl rfl ?_
  obtain ⟨g1, h⟩ := gd_some h
  refine fw_getI C 10 21 (Nat.le_of_ble_eq_true rfl) (Nat.le_of_ble_eq_true rfl) wf_X10_272 rfl (gO_of g1) dX10_goesIn_1 ?_
  refine fw_if_ne C 21 dX10_goesIn_4 (by decide) (fun c2 => ?_) (fun c2 => ?_)
  · replace h := (if_neg c2).symm.trans h
    refine fw_aload_n C 0 dX10_goesIn_21 rfl rfl ?_
    refine fw_dup C dX10_goesIn_22 rfl ?_
    refine fw_getI C 10 24 (Nat.le_of_ble_eq_true rfl) (Nat.le_of_ble_eq_true rfl) wf_X10_275 rfl (gO_of g1) dX10_goesIn_23 ?_
    refine fw_iconst C 1 dX10_goesIn_26 rfl ?_
    refine fw_iadd C dX10_goesIn_27 ?_
    refine fw_putI C 10 24 (Nat.le_of_ble_eq_true rfl) (Nat.le_of_ble_eq_true rfl) wf_X10_275 rfl rfl rfl rfl (gO_of g1) dX10_goesIn_28 ?_
    refine fw_bm h (fun M3 h => ?_)
    refine fw_aload_n C 0 dX10_goesIn_31 rfl rfl ?_
    obtain ⟨M4, e4, h⟩ := b1_some h
    refine fw_callV (ci := 10) [] C (c_X10_pass hl e4) cal_X10_pass wm_X10_299 wi_yX10_pass wsl_yX10_pass (Nat.le_of_ble_eq_true rfl) rfl (gO_of g1) rfl (Nat.le_of_ble_eq_true rfl) ⟨Nat.le_of_ble_eq_true rfl, Nat.le_of_ble_eq_true rfl⟩ ⟨Nat.zero_le _, Nat.zero_le _⟩ dX10_goesIn_32 ?_
    obtain rfl := Option.some.inj h
    exact fw_vret C hr hlk dX10_goesIn_35
  · replace h := (if_pos c2).symm.trans h
    refine fw_aload_n C 0 dX10_goesIn_7 rfl rfl ?_
    refine fw_getI C 10 24 (Nat.le_of_ble_eq_true rfl) (Nat.le_of_ble_eq_true rfl) wf_X10_275 rfl (gO_of g1) dX10_goesIn_8 ?_
    refine fw_bipush C 6 dX10_goesIn_11 rfl ?_
    refine fw_icmp_ne C 21 dX10_goesIn_13 (by decide) (fun c5 => ?_) (fun c5 => ?_)
    · replace h := (if_neg c5).symm.trans h
      refine fw_aload_n C 0 dX10_goesIn_21 rfl rfl ?_
      refine fw_dup C dX10_goesIn_22 rfl ?_
      refine fw_getI C 10 24 (Nat.le_of_ble_eq_true rfl) (Nat.le_of_ble_eq_true rfl) wf_X10_275 rfl (gO_of g1) dX10_goesIn_23 ?_
      refine fw_iconst C 1 dX10_goesIn_26 rfl ?_
      refine fw_iadd C dX10_goesIn_27 ?_
      refine fw_putI C 10 24 (Nat.le_of_ble_eq_true rfl) (Nat.le_of_ble_eq_true rfl) wf_X10_275 rfl rfl rfl rfl (gO_of g1) dX10_goesIn_28 ?_
      refine fw_bm h (fun M6 h => ?_)
      refine fw_aload_n C 0 dX10_goesIn_31 rfl rfl ?_
      obtain ⟨M7, e7, h⟩ := b1_some h
      refine fw_callV (ci := 10) [] C (c_X10_pass hl e7) cal_X10_pass wm_X10_299 wi_yX10_pass wsl_yX10_pass (Nat.le_of_ble_eq_true rfl) rfl (gO_of g1) rfl (Nat.le_of_ble_eq_true rfl) ⟨Nat.le_of_ble_eq_true rfl, Nat.le_of_ble_eq_true rfl⟩ ⟨Nat.zero_le _, Nat.zero_le _⟩ dX10_goesIn_32 ?_
      obtain rfl := Option.some.inj h
      exact fw_vret C hr hlk dX10_goesIn_35
    · replace h := (if_pos c5).symm.trans h
      refine fw_aload_n C 0 dX10_goesIn_16 rfl rfl ?_
      refine fw_iconst C 3 dX10_goesIn_17 rfl ?_
      obtain ⟨M8, e8, h⟩ := b1_some h
      refine fw_callV (ci := 10) [_] C (c_X10_wrong hl e8) cal_X10_wrong wm_X10_296 wi_yX10_wrong wsl_yX10_wrong (Nat.le_of_ble_eq_true rfl) rfl (gO_of g1) rfl (Nat.le_of_ble_eq_true rfl) ⟨Nat.le_of_ble_eq_true rfl, Nat.le_of_ble_eq_true rfl⟩ ⟨Nat.zero_le _, Nat.zero_le _⟩ dX10_goesIn_18 ?_
      exact jc_X10_goesIn_21 C hr hlk hl ht rfl h
set_option maxRecDepth 100000 in
def lf_X10_readTest_5 (q0 q1 q2 : List fw_Sh → fw_Mem → Nat → Option (Int32 × fw_Mem)) (S : List fw_Sh) (a0 : Nat) : Nat → Int32 → fw_Mem → Option (Int32 × fw_Mem)
  | 0, _, _ => none
  | n + 1, x1, M => gd (gO S 10 a0) (b1 (f_X10_isWord S M a0 1000022) (fun v3 => if v3 = 0 then (some (x1, M)) else (b1 (f_X10_pass S M a0) (fun M6 => b2 (q1 S M6 a0) (fun v7 M7 => if x1 = 0 then (if v7 = 0 then (lf_X10_readTest_5 q0 q1 q2 S a0 n 0 M7) else (lf_X10_readTest_5 q0 q1 q2 S a0 n 1 M7)) else (lf_X10_readTest_5 q0 q1 q2 S a0 n 1 M7))))))
set_option maxHeartbeats 4000000 in
set_option maxRecDepth 100000 in
theorem lc_X10_readTest_5 {G : fw_G} {p : Program} {l : Launch} {e : Env} {s : State} {m : MethodId} {args : Array Value} {below : List Frame} {meth : Method} {c : Code} {S : List fw_Sh} {o : fw_O} {d9 : Nat} {q0 q1 q2 : List fw_Sh → fw_Mem → Nat → Option (Int32 × fw_Mem)} {a0 : Nat} (C : fw_C G RX10 cX10_readTest 3 p s m args c) (hr : meth.sig.returnType = (some .boolean)) (hlk : meth.locks = false) (hl : l.stackTraces = false) (ht : ∀ x ∈ c.exceptionTable.toList, False) (hd : 20 ≤ d9) (hq0 : ∀ {S : List fw_Sh} {M : fw_Mem} {a : Nat} {r : Int32 × fw_Mem}, q0 S M a = some r → fw_M l G yX10_readTest (.code yX10_readTest cX10_readTest 3 (some .boolean)) d9 (fw_mcO (.inl (some (.int r.1)), S, r.2)) (fw_msO (.inl (some (.int r.1)), S, r.2)) S M [.ref a] (.inl (some (.int r.1)), S, r.2)) (hq1 : ∀ {S : List fw_Sh} {M : fw_Mem} {a : Nat} {r : Int32 × fw_Mem}, q1 S M a = some r → fw_M l G yX10_readBoth (.code yX10_readBoth cX10_readBoth 3 (some .boolean)) d9 (fw_mcO (.inl (some (.int r.1)), S, r.2)) (fw_msO (.inl (some (.int r.1)), S, r.2)) S M [.ref a] (.inl (some (.int r.1)), S, r.2)) (hq2 : ∀ {S : List fw_Sh} {M : fw_Mem} {a : Nat} {r : Int32 × fw_Mem}, q2 S M a = some r → fw_M l G yX10_readFact (.code yX10_readFact cX10_readFact 4 (some .boolean)) d9 (fw_mcO (.inl (some (.int r.1)), S, r.2)) (fw_msO (.inl (some (.int r.1)), S, r.2)) S M [.ref a] (.inl (some (.int r.1)), S, r.2)) :
    ∀ {n : Nat} {x1 : Int32} {M : fw_Mem} {r : (Int32 × fw_Mem)} (h : lf_X10_readTest_5 q0 q1 q2 S a0 n x1 M = some r) (kx : fw_W G p l e (fw_rm (d9 + 1) (fw_mcO o) (fw_msO o)) s m args below meth c 3 (fw_Z G below args s (fw_mcO o) (fw_msO o) o) 0 0 41 [(1, .int r.1)] [] S r.2), fw_W G p l e (fw_rm (d9 + 1) (fw_mcO o) (fw_msO o)) s m args below meth c 3 (fw_Z G below args s (fw_mcO o) (fw_msO o) o) 0 0 5 [(0, .ref a0), (1, .int x1)] [] S M := by
  intro n
  induction n with
  | zero =>
    intro x1 M r h
    exact nomatch (show (none : Option (Int32 × fw_Mem)) = some r from h)
  | succ n ih =>
    intro x1 M r h kx
    rw [lf_X10_readTest_5.eq_2] at h
    refine fw_aload_n C 0 dX10_readTest_5 rfl rfl ?_
    refine fw_ldcSw C (i := 21) (List.mem_of_getElem? (i := 88) rfl) dX10_readTest_6 ?_
    obtain ⟨g4, h⟩ := gd_some h
    obtain ⟨v3, e3, h⟩ := b1_some h
    refine fw_callV (ci := 10) [_] C (c_X10_isWord hl e3) cal_X10_isWord wm_X10_308 wi_yX10_isWord wsl_yX10_isWord (Nat.le_of_ble_eq_true rfl) rfl (gO_of g4) rfl (Nat.le_of_ble_eq_true rfl) (fw_room (by omega) (by omega)) ⟨Nat.zero_le _, Nat.zero_le _⟩ dX10_readTest_9 ?_
    refine fw_if_eq C 41 dX10_readTest_12 (by decide) (fun c5 => ?_) (fun c5 => ?_)
    · replace h := (if_pos c5).symm.trans h
      obtain rfl := Option.some.inj h
      refine fw_sub [1] rfl ?_
      exact kx
    · replace h := (if_neg c5).symm.trans h
      refine fw_aload_n C 0 dX10_readTest_15 rfl rfl ?_
      obtain ⟨M6, e6, h⟩ := b1_some h
      refine fw_callV (ci := 10) [] C (c_X10_pass hl e6) cal_X10_pass wm_X10_299 wi_yX10_pass wsl_yX10_pass (Nat.le_of_ble_eq_true rfl) rfl (gO_of g4) rfl (Nat.le_of_ble_eq_true rfl) (fw_room (by omega) (by omega)) ⟨Nat.zero_le _, Nat.zero_le _⟩ dX10_readTest_16 ?_
      refine fw_aload_n C 0 dX10_readTest_19 rfl rfl ?_
      obtain ⟨v7, M7, e7, h⟩ := b2_some h
      refine fw_callV (ci := 10) [] C (hq1 e7) cal_X10_readBoth wm_X10_443 wi_yX10_readBoth wsl_yX10_readBoth (Nat.le_of_ble_eq_true rfl) rfl (gO_of g4) rfl (Nat.le_of_ble_eq_true rfl) (fw_room (by omega) (by omega)) ⟨Nat.zero_le _, Nat.zero_le _⟩ dX10_readTest_20 ?_
      refine fw_istore_n C [(2, _), (0, _), (1, _)] dX10_readTest_23 rfl (Nat.le_of_ble_eq_true rfl) rfl ?_
      refine fw_iload_n C 2 dX10_readTest_24 rfl rfl ?_
      refine fw_if_ne C 32 dX10_readTest_25 (by decide) (fun c8 => ?_) (fun c8 => ?_)
      · replace h := (if_neg c8).symm.trans h
        refine fw_iconst C 1 dX10_readTest_32 rfl ?_
        refine fw_goto C 37 dX10_readTest_33 (by decide) ?_
        refine fw_istore_n C [(1, _), (2, _), (0, _)] dX10_readTest_37 rfl (Nat.le_of_ble_eq_true rfl) rfl ?_
        refine fw_goto C 5 dX10_readTest_38 (by decide) ?_
        refine fw_sub [2, 0] rfl ?_
        exact ih h kx
      · replace h := (if_pos c8).symm.trans h
        refine fw_iload_n C 0 dX10_readTest_28 rfl rfl ?_
        refine fw_if_eq C 36 dX10_readTest_29 (by decide) (fun c9 => ?_) (fun c9 => ?_)
        · replace h := (if_pos c9).symm.trans h
          refine fw_iconst C 0 dX10_readTest_36 rfl ?_
          refine fw_istore_n C [(1, _), (2, _), (0, _)] dX10_readTest_37 rfl (Nat.le_of_ble_eq_true rfl) rfl ?_
          refine fw_goto C 5 dX10_readTest_38 (by decide) ?_
          refine fw_sub [2, 0] rfl ?_
          exact ih h kx
        · replace h := (if_neg c9).symm.trans h
          refine fw_iconst C 1 dX10_readTest_32 rfl ?_
          refine fw_goto C 37 dX10_readTest_33 (by decide) ?_
          refine fw_istore_n C [(1, _), (2, _), (0, _)] dX10_readTest_37 rfl (Nat.le_of_ble_eq_true rfl) rfl ?_
          refine fw_goto C 5 dX10_readTest_38 (by decide) ?_
          refine fw_sub [2, 0] rfl ?_
          exact ih h kx
set_option maxRecDepth 100000 in
def f_X10_readTest (q0 q1 q2 : List fw_Sh → fw_Mem → Nat → Option (Int32 × fw_Mem)) (S : List fw_Sh) (M : fw_Mem) (a0 : Nat) : Option (Int32 × fw_Mem) := gd (gO S 10 a0) (b2 (q1 S M a0) (fun v1 M1 => b1 (lf_X10_readTest_5 q0 q1 q2 S a0 20000 v1 M1) (fun l10 => gd (gB l10.1) (some (l10.1, l10.2)))))
set_option maxHeartbeats 4000000 in
set_option maxRecDepth 100000 in
theorem c_X10_readTest {l : Launch} {G : fw_G} {d9 : Nat} {q0 q1 q2 : List fw_Sh → fw_Mem → Nat → Option (Int32 × fw_Mem)} {S : List fw_Sh} {M : fw_Mem} {a0 : Nat} {r : (Int32 × fw_Mem)} (hl : l.stackTraces = false) (hd : 20 ≤ d9) (hq0 : ∀ {S : List fw_Sh} {M : fw_Mem} {a : Nat} {r : Int32 × fw_Mem}, q0 S M a = some r → fw_M l G yX10_readTest (.code yX10_readTest cX10_readTest 3 (some .boolean)) d9 (fw_mcO (.inl (some (.int r.1)), S, r.2)) (fw_msO (.inl (some (.int r.1)), S, r.2)) S M [.ref a] (.inl (some (.int r.1)), S, r.2)) (hq1 : ∀ {S : List fw_Sh} {M : fw_Mem} {a : Nat} {r : Int32 × fw_Mem}, q1 S M a = some r → fw_M l G yX10_readBoth (.code yX10_readBoth cX10_readBoth 3 (some .boolean)) d9 (fw_mcO (.inl (some (.int r.1)), S, r.2)) (fw_msO (.inl (some (.int r.1)), S, r.2)) S M [.ref a] (.inl (some (.int r.1)), S, r.2)) (hq2 : ∀ {S : List fw_Sh} {M : fw_Mem} {a : Nat} {r : Int32 × fw_Mem}, q2 S M a = some r → fw_M l G yX10_readFact (.code yX10_readFact cX10_readFact 4 (some .boolean)) d9 (fw_mcO (.inl (some (.int r.1)), S, r.2)) (fw_msO (.inl (some (.int r.1)), S, r.2)) S M [.ref a] (.inl (some (.int r.1)), S, r.2)) (h : f_X10_readTest q0 q1 q2 S M a0 = some r) : fw_M l G yX10_readTest (.code yX10_readTest cX10_readTest 3 (some .boolean)) (d9 + 1) (fw_mcO (.inl (some (.int r.1)), S, r.2)) (fw_msO (.inl (some (.int r.1)), S, r.2)) S M [.ref a0] (.inl (some (.int r.1)), S, r.2) := by
  refine fw_of [(0, .ref a0)] (by decide) (Nat.le_of_ble_eq_true rfl) rfl ?_
  intro p e s m args below meth c C hr hlk hnm ht _
  unfold f_X10_readTest at h
  refine fw_aload_n C 0 dX10_readTest_0 rfl rfl ?_
  obtain ⟨g2, h⟩ := gd_some h
  obtain ⟨v1, M1, e1, h⟩ := b2_some h
  refine fw_callV (ci := 10) [] C (hq1 e1) cal_X10_readBoth wm_X10_443 wi_yX10_readBoth wsl_yX10_readBoth (Nat.le_of_ble_eq_true rfl) rfl (gO_of g2) rfl (Nat.le_of_ble_eq_true rfl) (fw_room (by omega) (by omega)) ⟨Nat.zero_le _, Nat.zero_le _⟩ dX10_readTest_1 ?_
  refine fw_istore_n C [(1, _), (0, _)] dX10_readTest_4 rfl (Nat.le_of_ble_eq_true rfl) rfl ?_
  refine fw_sub [1, 0] rfl ?_
  obtain ⟨l10, e10, h⟩ := b1_some h
  refine lc_X10_readTest_5 C hr hlk hl ht hd hq0 hq1 hq2 e10 ?_
  refine fw_iload_n C 0 dX10_readTest_41 rfl rfl ?_
  obtain ⟨g11, h⟩ := gd_some h
  obtain rfl := Option.some.inj h
  exact fw_zret C hr (gB_of g11) hlk dX10_readTest_42
set_option maxRecDepth 100000 in
def lf_X10_readBoth_5 (q0 q1 q2 : List fw_Sh → fw_Mem → Nat → Option (Int32 × fw_Mem)) (S : List fw_Sh) (a0 : Nat) : Nat → Int32 → fw_Mem → Option (Int32 × fw_Mem)
  | 0, _, _ => none
  | n + 1, x1, M => gd (gO S 10 a0) (b1 (f_X10_isWord S M a0 1000001) (fun v3 => if v3 = 0 then (some (x1, M)) else (b1 (f_X10_pass S M a0) (fun M6 => b2 (q2 S M6 a0) (fun v7 M7 => if x1 = 0 then (lf_X10_readBoth_5 q0 q1 q2 S a0 n 0 M7) else (if v7 = 0 then (lf_X10_readBoth_5 q0 q1 q2 S a0 n 0 M7) else (lf_X10_readBoth_5 q0 q1 q2 S a0 n 1 M7)))))))
set_option maxHeartbeats 4000000 in
set_option maxRecDepth 100000 in
theorem lc_X10_readBoth_5 {G : fw_G} {p : Program} {l : Launch} {e : Env} {s : State} {m : MethodId} {args : Array Value} {below : List Frame} {meth : Method} {c : Code} {S : List fw_Sh} {o : fw_O} {d9 : Nat} {q0 q1 q2 : List fw_Sh → fw_Mem → Nat → Option (Int32 × fw_Mem)} {a0 : Nat} (C : fw_C G RX10 cX10_readBoth 3 p s m args c) (hr : meth.sig.returnType = (some .boolean)) (hlk : meth.locks = false) (hl : l.stackTraces = false) (ht : ∀ x ∈ c.exceptionTable.toList, False) (hd : 20 ≤ d9) (hq0 : ∀ {S : List fw_Sh} {M : fw_Mem} {a : Nat} {r : Int32 × fw_Mem}, q0 S M a = some r → fw_M l G yX10_readTest (.code yX10_readTest cX10_readTest 3 (some .boolean)) d9 (fw_mcO (.inl (some (.int r.1)), S, r.2)) (fw_msO (.inl (some (.int r.1)), S, r.2)) S M [.ref a] (.inl (some (.int r.1)), S, r.2)) (hq1 : ∀ {S : List fw_Sh} {M : fw_Mem} {a : Nat} {r : Int32 × fw_Mem}, q1 S M a = some r → fw_M l G yX10_readBoth (.code yX10_readBoth cX10_readBoth 3 (some .boolean)) d9 (fw_mcO (.inl (some (.int r.1)), S, r.2)) (fw_msO (.inl (some (.int r.1)), S, r.2)) S M [.ref a] (.inl (some (.int r.1)), S, r.2)) (hq2 : ∀ {S : List fw_Sh} {M : fw_Mem} {a : Nat} {r : Int32 × fw_Mem}, q2 S M a = some r → fw_M l G yX10_readFact (.code yX10_readFact cX10_readFact 4 (some .boolean)) d9 (fw_mcO (.inl (some (.int r.1)), S, r.2)) (fw_msO (.inl (some (.int r.1)), S, r.2)) S M [.ref a] (.inl (some (.int r.1)), S, r.2)) :
    ∀ {n : Nat} {x1 : Int32} {M : fw_Mem} {r : (Int32 × fw_Mem)} (h : lf_X10_readBoth_5 q0 q1 q2 S a0 n x1 M = some r) (kx : fw_W G p l e (fw_rm (d9 + 1) (fw_mcO o) (fw_msO o)) s m args below meth c 3 (fw_Z G below args s (fw_mcO o) (fw_msO o) o) 0 0 41 [(1, .int r.1)] [] S r.2), fw_W G p l e (fw_rm (d9 + 1) (fw_mcO o) (fw_msO o)) s m args below meth c 3 (fw_Z G below args s (fw_mcO o) (fw_msO o) o) 0 0 5 [(0, .ref a0), (1, .int x1)] [] S M := by
  intro n
  induction n with
  | zero =>
    intro x1 M r h
    exact nomatch (show (none : Option (Int32 × fw_Mem)) = some r from h)
  | succ n ih =>
    intro x1 M r h kx
    rw [lf_X10_readBoth_5.eq_2] at h
    refine fw_aload_n C 0 dX10_readBoth_5 rfl rfl ?_
    refine fw_ldcSw C (i := 0) (List.mem_of_getElem? (i := 87) rfl) dX10_readBoth_6 ?_
    obtain ⟨g4, h⟩ := gd_some h
    obtain ⟨v3, e3, h⟩ := b1_some h
    refine fw_callV (ci := 10) [_] C (c_X10_isWord hl e3) cal_X10_isWord wm_X10_308 wi_yX10_isWord wsl_yX10_isWord (Nat.le_of_ble_eq_true rfl) rfl (gO_of g4) rfl (Nat.le_of_ble_eq_true rfl) (fw_room (by omega) (by omega)) ⟨Nat.zero_le _, Nat.zero_le _⟩ dX10_readBoth_9 ?_
    refine fw_if_eq C 41 dX10_readBoth_12 (by decide) (fun c5 => ?_) (fun c5 => ?_)
    · replace h := (if_pos c5).symm.trans h
      obtain rfl := Option.some.inj h
      refine fw_sub [1] rfl ?_
      exact kx
    · replace h := (if_neg c5).symm.trans h
      refine fw_aload_n C 0 dX10_readBoth_15 rfl rfl ?_
      obtain ⟨M6, e6, h⟩ := b1_some h
      refine fw_callV (ci := 10) [] C (c_X10_pass hl e6) cal_X10_pass wm_X10_299 wi_yX10_pass wsl_yX10_pass (Nat.le_of_ble_eq_true rfl) rfl (gO_of g4) rfl (Nat.le_of_ble_eq_true rfl) (fw_room (by omega) (by omega)) ⟨Nat.zero_le _, Nat.zero_le _⟩ dX10_readBoth_16 ?_
      refine fw_aload_n C 0 dX10_readBoth_19 rfl rfl ?_
      obtain ⟨v7, M7, e7, h⟩ := b2_some h
      refine fw_callV (ci := 10) [] C (hq2 e7) cal_X10_readFact wm_X10_432 wi_yX10_readFact wsl_yX10_readFact (Nat.le_of_ble_eq_true rfl) rfl (gO_of g4) rfl (Nat.le_of_ble_eq_true rfl) (fw_room (by omega) (by omega)) ⟨Nat.zero_le _, Nat.zero_le _⟩ dX10_readBoth_20 ?_
      refine fw_istore_n C [(2, _), (0, _), (1, _)] dX10_readBoth_23 rfl (Nat.le_of_ble_eq_true rfl) rfl ?_
      refine fw_iload_n C 2 dX10_readBoth_24 rfl rfl ?_
      refine fw_if_eq C 36 dX10_readBoth_25 (by decide) (fun c8 => ?_) (fun c8 => ?_)
      · replace h := (if_pos c8).symm.trans h
        refine fw_iconst C 0 dX10_readBoth_36 rfl ?_
        refine fw_istore_n C [(1, _), (2, _), (0, _)] dX10_readBoth_37 rfl (Nat.le_of_ble_eq_true rfl) rfl ?_
        refine fw_goto C 5 dX10_readBoth_38 (by decide) ?_
        refine fw_sub [2, 0] rfl ?_
        exact ih h kx
      · replace h := (if_neg c8).symm.trans h
        refine fw_iload_n C 0 dX10_readBoth_28 rfl rfl ?_
        refine fw_if_eq C 36 dX10_readBoth_29 (by decide) (fun c9 => ?_) (fun c9 => ?_)
        · replace h := (if_pos c9).symm.trans h
          refine fw_iconst C 0 dX10_readBoth_36 rfl ?_
          refine fw_istore_n C [(1, _), (2, _), (0, _)] dX10_readBoth_37 rfl (Nat.le_of_ble_eq_true rfl) rfl ?_
          refine fw_goto C 5 dX10_readBoth_38 (by decide) ?_
          refine fw_sub [2, 0] rfl ?_
          exact ih h kx
        · replace h := (if_neg c9).symm.trans h
          refine fw_iconst C 1 dX10_readBoth_32 rfl ?_
          refine fw_goto C 37 dX10_readBoth_33 (by decide) ?_
          refine fw_istore_n C [(1, _), (2, _), (0, _)] dX10_readBoth_37 rfl (Nat.le_of_ble_eq_true rfl) rfl ?_
          refine fw_goto C 5 dX10_readBoth_38 (by decide) ?_
          refine fw_sub [2, 0] rfl ?_
          exact ih h kx
set_option maxRecDepth 100000 in
def f_X10_readBoth (q0 q1 q2 : List fw_Sh → fw_Mem → Nat → Option (Int32 × fw_Mem)) (S : List fw_Sh) (M : fw_Mem) (a0 : Nat) : Option (Int32 × fw_Mem) := gd (gO S 10 a0) (b2 (q2 S M a0) (fun v1 M1 => b1 (lf_X10_readBoth_5 q0 q1 q2 S a0 20000 v1 M1) (fun l10 => gd (gB l10.1) (some (l10.1, l10.2)))))
set_option maxHeartbeats 4000000 in
set_option maxRecDepth 100000 in
theorem c_X10_readBoth {l : Launch} {G : fw_G} {d9 : Nat} {q0 q1 q2 : List fw_Sh → fw_Mem → Nat → Option (Int32 × fw_Mem)} {S : List fw_Sh} {M : fw_Mem} {a0 : Nat} {r : (Int32 × fw_Mem)} (hl : l.stackTraces = false) (hd : 20 ≤ d9) (hq0 : ∀ {S : List fw_Sh} {M : fw_Mem} {a : Nat} {r : Int32 × fw_Mem}, q0 S M a = some r → fw_M l G yX10_readTest (.code yX10_readTest cX10_readTest 3 (some .boolean)) d9 (fw_mcO (.inl (some (.int r.1)), S, r.2)) (fw_msO (.inl (some (.int r.1)), S, r.2)) S M [.ref a] (.inl (some (.int r.1)), S, r.2)) (hq1 : ∀ {S : List fw_Sh} {M : fw_Mem} {a : Nat} {r : Int32 × fw_Mem}, q1 S M a = some r → fw_M l G yX10_readBoth (.code yX10_readBoth cX10_readBoth 3 (some .boolean)) d9 (fw_mcO (.inl (some (.int r.1)), S, r.2)) (fw_msO (.inl (some (.int r.1)), S, r.2)) S M [.ref a] (.inl (some (.int r.1)), S, r.2)) (hq2 : ∀ {S : List fw_Sh} {M : fw_Mem} {a : Nat} {r : Int32 × fw_Mem}, q2 S M a = some r → fw_M l G yX10_readFact (.code yX10_readFact cX10_readFact 4 (some .boolean)) d9 (fw_mcO (.inl (some (.int r.1)), S, r.2)) (fw_msO (.inl (some (.int r.1)), S, r.2)) S M [.ref a] (.inl (some (.int r.1)), S, r.2)) (h : f_X10_readBoth q0 q1 q2 S M a0 = some r) : fw_M l G yX10_readBoth (.code yX10_readBoth cX10_readBoth 3 (some .boolean)) (d9 + 1) (fw_mcO (.inl (some (.int r.1)), S, r.2)) (fw_msO (.inl (some (.int r.1)), S, r.2)) S M [.ref a0] (.inl (some (.int r.1)), S, r.2) := by
  refine fw_of [(0, .ref a0)] (by decide) (Nat.le_of_ble_eq_true rfl) rfl ?_
  intro p e s m args below meth c C hr hlk hnm ht _
  unfold f_X10_readBoth at h
  refine fw_aload_n C 0 dX10_readBoth_0 rfl rfl ?_
  obtain ⟨g2, h⟩ := gd_some h
  obtain ⟨v1, M1, e1, h⟩ := b2_some h
  refine fw_callV (ci := 10) [] C (hq2 e1) cal_X10_readFact wm_X10_432 wi_yX10_readFact wsl_yX10_readFact (Nat.le_of_ble_eq_true rfl) rfl (gO_of g2) rfl (Nat.le_of_ble_eq_true rfl) (fw_room (by omega) (by omega)) ⟨Nat.zero_le _, Nat.zero_le _⟩ dX10_readBoth_1 ?_
  refine fw_istore_n C [(1, _), (0, _)] dX10_readBoth_4 rfl (Nat.le_of_ble_eq_true rfl) rfl ?_
  refine fw_sub [1, 0] rfl ?_
  obtain ⟨l10, e10, h⟩ := b1_some h
  refine lc_X10_readBoth_5 C hr hlk hl ht hd hq0 hq1 hq2 e10 ?_
  refine fw_iload_n C 0 dX10_readBoth_41 rfl rfl ?_
  obtain ⟨g11, h⟩ := gd_some h
  obtain rfl := Option.some.inj h
  exact fw_zret C hr (gB_of g11) hlk dX10_readBoth_42
set_option maxRecDepth 100000 in
def fj_X10_readFact_131 (q0 q1 q2 : List fw_Sh → fw_Mem → Nat → Option (Int32 × fw_Mem)) (S : List fw_Sh) (M : fw_Mem) (a0 : Nat) (x1 : Int32) (x2 : Int32) : Option (Int32 × fw_Mem) := gd (gO S 10 a0) (b1 (f_X10_pass S M a0) (fun M24 => b2 (f_X10_readValue S M24 a0) (fun v26 M26 => if (0 : Int32) ≤ x2 then (if x2 = 0 then (if x1 = v26 then (some (1, M26)) else (some (0, M26))) else (if x1 ≤ v26 then (some (0, M26)) else (some (1, M26)))) else (if v26 ≤ x1 then (some (0, M26)) else (some (1, M26))))))
set_option maxHeartbeats 4000000 in
set_option maxRecDepth 100000 in
theorem jc_X10_readFact_131 {G : fw_G} {p : Program} {l : Launch} {e : Env} {s : State} {m : MethodId} {args : Array Value} {below : List Frame} {meth : Method} {c : Code} {S : List fw_Sh} {M : fw_Mem} {a0 : Nat} {x1 : Int32} {x2 : Int32} {d9 : Nat} {q0 q1 q2 : List fw_Sh → fw_Mem → Nat → Option (Int32 × fw_Mem)} {r : (Int32 × fw_Mem)} {o : fw_O} (C : fw_C G RX10 cX10_readFact 4 p s m args c) (hr : meth.sig.returnType = (some .boolean)) (hlk : meth.locks = false) (hl : l.stackTraces = false) (ht : ∀ x ∈ c.exceptionTable.toList, False) (hd : 20 ≤ d9) (hq0 : ∀ {S : List fw_Sh} {M : fw_Mem} {a : Nat} {r : Int32 × fw_Mem}, q0 S M a = some r → fw_M l G yX10_readTest (.code yX10_readTest cX10_readTest 3 (some .boolean)) d9 (fw_mcO (.inl (some (.int r.1)), S, r.2)) (fw_msO (.inl (some (.int r.1)), S, r.2)) S M [.ref a] (.inl (some (.int r.1)), S, r.2)) (hq1 : ∀ {S : List fw_Sh} {M : fw_Mem} {a : Nat} {r : Int32 × fw_Mem}, q1 S M a = some r → fw_M l G yX10_readBoth (.code yX10_readBoth cX10_readBoth 3 (some .boolean)) d9 (fw_mcO (.inl (some (.int r.1)), S, r.2)) (fw_msO (.inl (some (.int r.1)), S, r.2)) S M [.ref a] (.inl (some (.int r.1)), S, r.2)) (hq2 : ∀ {S : List fw_Sh} {M : fw_Mem} {a : Nat} {r : Int32 × fw_Mem}, q2 S M a = some r → fw_M l G yX10_readFact (.code yX10_readFact cX10_readFact 4 (some .boolean)) d9 (fw_mcO (.inl (some (.int r.1)), S, r.2)) (fw_msO (.inl (some (.int r.1)), S, r.2)) S M [.ref a] (.inl (some (.int r.1)), S, r.2)) (ho : o = (.inl (some (.int r.1)), S, r.2)) (h : fj_X10_readFact_131 q0 q1 q2 S M a0 x1 x2 = some r) :
    fw_W G p l e (fw_rm (d9 + 1) (fw_mcO o) (fw_msO o)) s m args below meth c 4 (fw_Z G below args s (fw_mcO o) (fw_msO o) o) 0 0 131 [(0, .ref a0), (1, .int x1), (2, .int x2)] [] S M := by
  subst ho
  unfold fj_X10_readFact_131 at h
  refine fw_aload_n C 0 dX10_readFact_131 rfl rfl ?_
  obtain ⟨g25, h⟩ := gd_some h
  obtain ⟨M24, e24, h⟩ := b1_some h
  refine fw_callV (ci := 10) [] C (c_X10_pass hl e24) cal_X10_pass wm_X10_299 wi_yX10_pass wsl_yX10_pass (Nat.le_of_ble_eq_true rfl) rfl (gO_of g25) rfl (Nat.le_of_ble_eq_true rfl) (fw_room (by omega) (by omega)) ⟨Nat.zero_le _, Nat.zero_le _⟩ dX10_readFact_132 ?_
  refine fw_aload_n C 0 dX10_readFact_135 rfl rfl ?_
  obtain ⟨v26, M26, e26, h⟩ := b2_some h
  refine fw_callV (ci := 10) [] C (c_X10_readValue hl e26) cal_X10_readValue wm_X10_438 wi_yX10_readValue wsl_yX10_readValue (Nat.le_of_ble_eq_true rfl) rfl (gO_of g25) rfl (Nat.le_of_ble_eq_true rfl) (fw_room (by omega) (by omega)) ⟨Nat.zero_le _, Nat.zero_le _⟩ dX10_readFact_136 ?_
  refine fw_istore_n C [(3, _), (0, _), (1, _), (2, _)] dX10_readFact_139 rfl (Nat.le_of_ble_eq_true rfl) rfl ?_
  refine fw_iload_n C 3 dX10_readFact_140 rfl rfl ?_
  refine fw_if_ge C 157 dX10_readFact_141 (by decide) (fun c27 => ?_) (fun c27 => ?_)
  · replace h := (if_pos c27).symm.trans h
    refine fw_iload_n C 3 dX10_readFact_157 rfl rfl ?_
    refine fw_if_ne C 174 dX10_readFact_158 (by decide) (fun c28 => ?_) (fun c28 => ?_)
    · replace h := (if_neg c28).symm.trans h
      refine fw_iload_n C 2 dX10_readFact_174 rfl rfl ?_
      refine fw_iload_n C 0 dX10_readFact_175 rfl rfl ?_
      refine fw_icmp_le C 183 dX10_readFact_176 (by decide) (fun c29 => ?_) (fun c29 => ?_)
      · replace h := (if_pos c29).symm.trans h
        refine fw_iconst C 0 dX10_readFact_183 rfl ?_
        obtain rfl := Option.some.inj h
        exact fw_zret C hr (Or.inl rfl) hlk dX10_readFact_184
      · replace h := (if_neg c29).symm.trans h
        refine fw_iconst C 1 dX10_readFact_179 rfl ?_
        refine fw_goto C 184 dX10_readFact_180 (by decide) ?_
        obtain rfl := Option.some.inj h
        exact fw_zret C hr (Or.inr rfl) hlk dX10_readFact_184
    · replace h := (if_pos c28).symm.trans h
      refine fw_iload_n C 2 dX10_readFact_161 rfl rfl ?_
      refine fw_iload_n C 0 dX10_readFact_162 rfl rfl ?_
      refine fw_icmp_ne C 170 dX10_readFact_163 (by decide) (fun c30 => ?_) (fun c30 => ?_)
      · replace h := (if_neg c30).symm.trans h
        refine fw_iconst C 0 dX10_readFact_170 rfl ?_
        refine fw_goto C 184 dX10_readFact_171 (by decide) ?_
        obtain rfl := Option.some.inj h
        exact fw_zret C hr (Or.inl rfl) hlk dX10_readFact_184
      · replace h := (if_pos c30).symm.trans h
        refine fw_iconst C 1 dX10_readFact_166 rfl ?_
        refine fw_goto C 184 dX10_readFact_167 (by decide) ?_
        obtain rfl := Option.some.inj h
        exact fw_zret C hr (Or.inr rfl) hlk dX10_readFact_184
  · replace h := (if_neg c27).symm.trans h
    refine fw_iload_n C 2 dX10_readFact_144 rfl rfl ?_
    refine fw_iload_n C 0 dX10_readFact_145 rfl rfl ?_
    refine fw_icmp_ge C 153 dX10_readFact_146 (by decide) (fun c31 => ?_) (fun c31 => ?_)
    · replace h := (if_pos c31).symm.trans h
      refine fw_iconst C 0 dX10_readFact_153 rfl ?_
      refine fw_goto C 184 dX10_readFact_154 (by decide) ?_
      obtain rfl := Option.some.inj h
      exact fw_zret C hr (Or.inl rfl) hlk dX10_readFact_184
    · replace h := (if_neg c31).symm.trans h
      refine fw_iconst C 1 dX10_readFact_149 rfl ?_
      refine fw_goto C 184 dX10_readFact_150 (by decide) ?_
      obtain rfl := Option.some.inj h
      exact fw_zret C hr (Or.inr rfl) hlk dX10_readFact_184
set_option maxRecDepth 100000 in
def fj_X10_readFact_120 (q0 q1 q2 : List fw_Sh → fw_Mem → Nat → Option (Int32 × fw_Mem)) (S : List fw_Sh) (M : fw_Mem) (a0 : Nat) (x1 : Int32) (z0 : Int32) : Option (Int32 × fw_Mem) := if z0 = 2 then (gd (gO S 10 a0) (b1 (f_X10_wrong S M a0 1) (fun M22 => fj_X10_readFact_131 q0 q1 q2 S M22 a0 x1 z0))) else (gd (gO S 10 a0) (b1 (f_X10_pass S M a0) (fun M14 => b2 (f_X10_readValue S M14 a0) (fun v16 M16 => if (0 : Int32) ≤ z0 then (if z0 = 0 then (if x1 = v16 then (some (1, M16)) else (some (0, M16))) else (if x1 ≤ v16 then (some (0, M16)) else (some (1, M16)))) else (if v16 ≤ x1 then (some (0, M16)) else (some (1, M16)))))))
set_option maxHeartbeats 4000000 in
set_option maxRecDepth 100000 in
theorem jc_X10_readFact_120 {G : fw_G} {p : Program} {l : Launch} {e : Env} {s : State} {m : MethodId} {args : Array Value} {below : List Frame} {meth : Method} {c : Code} {S : List fw_Sh} {M : fw_Mem} {a0 : Nat} {x1 : Int32} {z0 : Int32} {d9 : Nat} {q0 q1 q2 : List fw_Sh → fw_Mem → Nat → Option (Int32 × fw_Mem)} {r : (Int32 × fw_Mem)} {o : fw_O} (C : fw_C G RX10 cX10_readFact 4 p s m args c) (hr : meth.sig.returnType = (some .boolean)) (hlk : meth.locks = false) (hl : l.stackTraces = false) (ht : ∀ x ∈ c.exceptionTable.toList, False) (hd : 20 ≤ d9) (hq0 : ∀ {S : List fw_Sh} {M : fw_Mem} {a : Nat} {r : Int32 × fw_Mem}, q0 S M a = some r → fw_M l G yX10_readTest (.code yX10_readTest cX10_readTest 3 (some .boolean)) d9 (fw_mcO (.inl (some (.int r.1)), S, r.2)) (fw_msO (.inl (some (.int r.1)), S, r.2)) S M [.ref a] (.inl (some (.int r.1)), S, r.2)) (hq1 : ∀ {S : List fw_Sh} {M : fw_Mem} {a : Nat} {r : Int32 × fw_Mem}, q1 S M a = some r → fw_M l G yX10_readBoth (.code yX10_readBoth cX10_readBoth 3 (some .boolean)) d9 (fw_mcO (.inl (some (.int r.1)), S, r.2)) (fw_msO (.inl (some (.int r.1)), S, r.2)) S M [.ref a] (.inl (some (.int r.1)), S, r.2)) (hq2 : ∀ {S : List fw_Sh} {M : fw_Mem} {a : Nat} {r : Int32 × fw_Mem}, q2 S M a = some r → fw_M l G yX10_readFact (.code yX10_readFact cX10_readFact 4 (some .boolean)) d9 (fw_mcO (.inl (some (.int r.1)), S, r.2)) (fw_msO (.inl (some (.int r.1)), S, r.2)) S M [.ref a] (.inl (some (.int r.1)), S, r.2)) (ho : o = (.inl (some (.int r.1)), S, r.2)) (h : fj_X10_readFact_120 q0 q1 q2 S M a0 x1 z0 = some r) :
    fw_W G p l e (fw_rm (d9 + 1) (fw_mcO o) (fw_msO o)) s m args below meth c 4 (fw_Z G below args s (fw_mcO o) (fw_msO o) o) 0 0 120 [(0, .ref a0), (1, .int x1)] [.int z0] S M := by
  subst ho
  unfold fj_X10_readFact_120 at h
  refine fw_istore_n C [(2, _), (0, _), (1, _)] dX10_readFact_120 rfl (Nat.le_of_ble_eq_true rfl) rfl ?_
  refine fw_iload_n C 0 dX10_readFact_121 rfl rfl ?_
  refine fw_iconst C 2 dX10_readFact_122 rfl ?_
  refine fw_icmp_ne C 131 dX10_readFact_123 (by decide) (fun c13 => ?_) (fun c13 => ?_)
  · replace h := (if_neg c13).symm.trans h
    refine fw_aload_n C 1 dX10_readFact_131 rfl rfl ?_
    obtain ⟨g15, h⟩ := gd_some h
    obtain ⟨M14, e14, h⟩ := b1_some h
    refine fw_callV (ci := 10) [] C (c_X10_pass hl e14) cal_X10_pass wm_X10_299 wi_yX10_pass wsl_yX10_pass (Nat.le_of_ble_eq_true rfl) rfl (gO_of g15) rfl (Nat.le_of_ble_eq_true rfl) (fw_room (by omega) (by omega)) ⟨Nat.zero_le _, Nat.zero_le _⟩ dX10_readFact_132 ?_
    refine fw_aload_n C 1 dX10_readFact_135 rfl rfl ?_
    obtain ⟨v16, M16, e16, h⟩ := b2_some h
    refine fw_callV (ci := 10) [] C (c_X10_readValue hl e16) cal_X10_readValue wm_X10_438 wi_yX10_readValue wsl_yX10_readValue (Nat.le_of_ble_eq_true rfl) rfl (gO_of g15) rfl (Nat.le_of_ble_eq_true rfl) (fw_room (by omega) (by omega)) ⟨Nat.zero_le _, Nat.zero_le _⟩ dX10_readFact_136 ?_
    refine fw_istore_n C [(3, _), (2, _), (0, _), (1, _)] dX10_readFact_139 rfl (Nat.le_of_ble_eq_true rfl) rfl ?_
    refine fw_iload_n C 1 dX10_readFact_140 rfl rfl ?_
    refine fw_if_ge C 157 dX10_readFact_141 (by decide) (fun c17 => ?_) (fun c17 => ?_)
    · replace h := (if_pos c17).symm.trans h
      refine fw_iload_n C 1 dX10_readFact_157 rfl rfl ?_
      refine fw_if_ne C 174 dX10_readFact_158 (by decide) (fun c18 => ?_) (fun c18 => ?_)
      · replace h := (if_neg c18).symm.trans h
        refine fw_iload_n C 3 dX10_readFact_174 rfl rfl ?_
        refine fw_iload_n C 0 dX10_readFact_175 rfl rfl ?_
        refine fw_icmp_le C 183 dX10_readFact_176 (by decide) (fun c19 => ?_) (fun c19 => ?_)
        · replace h := (if_pos c19).symm.trans h
          refine fw_iconst C 0 dX10_readFact_183 rfl ?_
          obtain rfl := Option.some.inj h
          exact fw_zret C hr (Or.inl rfl) hlk dX10_readFact_184
        · replace h := (if_neg c19).symm.trans h
          refine fw_iconst C 1 dX10_readFact_179 rfl ?_
          refine fw_goto C 184 dX10_readFact_180 (by decide) ?_
          obtain rfl := Option.some.inj h
          exact fw_zret C hr (Or.inr rfl) hlk dX10_readFact_184
      · replace h := (if_pos c18).symm.trans h
        refine fw_iload_n C 3 dX10_readFact_161 rfl rfl ?_
        refine fw_iload_n C 0 dX10_readFact_162 rfl rfl ?_
        refine fw_icmp_ne C 170 dX10_readFact_163 (by decide) (fun c20 => ?_) (fun c20 => ?_)
        · replace h := (if_neg c20).symm.trans h
          refine fw_iconst C 0 dX10_readFact_170 rfl ?_
          refine fw_goto C 184 dX10_readFact_171 (by decide) ?_
          obtain rfl := Option.some.inj h
          exact fw_zret C hr (Or.inl rfl) hlk dX10_readFact_184
        · replace h := (if_pos c20).symm.trans h
          refine fw_iconst C 1 dX10_readFact_166 rfl ?_
          refine fw_goto C 184 dX10_readFact_167 (by decide) ?_
          obtain rfl := Option.some.inj h
          exact fw_zret C hr (Or.inr rfl) hlk dX10_readFact_184
    · replace h := (if_neg c17).symm.trans h
      refine fw_iload_n C 3 dX10_readFact_144 rfl rfl ?_
      refine fw_iload_n C 0 dX10_readFact_145 rfl rfl ?_
      refine fw_icmp_ge C 153 dX10_readFact_146 (by decide) (fun c21 => ?_) (fun c21 => ?_)
      · replace h := (if_pos c21).symm.trans h
        refine fw_iconst C 0 dX10_readFact_153 rfl ?_
        refine fw_goto C 184 dX10_readFact_154 (by decide) ?_
        obtain rfl := Option.some.inj h
        exact fw_zret C hr (Or.inl rfl) hlk dX10_readFact_184
      · replace h := (if_neg c21).symm.trans h
        refine fw_iconst C 1 dX10_readFact_149 rfl ?_
        refine fw_goto C 184 dX10_readFact_150 (by decide) ?_
        obtain rfl := Option.some.inj h
        exact fw_zret C hr (Or.inr rfl) hlk dX10_readFact_184
  · replace h := (if_pos c13).symm.trans h
    refine fw_aload_n C 1 dX10_readFact_126 rfl rfl ?_
    refine fw_iconst C 1 dX10_readFact_127 rfl ?_
    obtain ⟨g23, h⟩ := gd_some h
    obtain ⟨M22, e22, h⟩ := b1_some h
    refine fw_callV (ci := 10) [_] C (c_X10_wrong hl e22) cal_X10_wrong wm_X10_296 wi_yX10_wrong wsl_yX10_wrong (Nat.le_of_ble_eq_true rfl) rfl (gO_of g23) rfl (Nat.le_of_ble_eq_true rfl) (fw_room (by omega) (by omega)) ⟨Nat.zero_le _, Nat.zero_le _⟩ dX10_readFact_128 ?_
    refine fw_sub [1, 2, 0] rfl ?_
    exact jc_X10_readFact_131 C hr hlk hl ht hd hq0 hq1 hq2 rfl h
set_option maxRecDepth 100000 in
def f_X10_readFact (q0 q1 q2 : List fw_Sh → fw_Mem → Nat → Option (Int32 × fw_Mem)) (S : List fw_Sh) (M : fw_Mem) (a0 : Nat) : Option (Int32 × fw_Mem) := gd (gO S 10 a0) (b1 (f_X10_isWord S M a0 1000020) (fun v1 => if v1 = 0 then (b1 (f_X10_isSign S M a0 123) (fun v4 => if v4 = 0 then (b2 (f_X10_readValue S M a0) (fun v6 M6 => b1 (f_X10_isSign S M6 a0 60) (fun v7 => if v7 = 0 then (b1 (f_X10_isSign S M6 a0 61) (fun v9 => if v9 = 0 then (b1 (f_X10_isSign S M6 a0 62) (fun v11 => if v11 = 0 then fj_X10_readFact_120 q0 q1 q2 S M6 a0 v6 2 else fj_X10_readFact_120 q0 q1 q2 S M6 a0 v6 1)) else fj_X10_readFact_120 q0 q1 q2 S M6 a0 v6 0)) else fj_X10_readFact_120 q0 q1 q2 S M6 a0 v6 (-1)))) else (b1 (f_X10_goesIn S M a0) (fun M32 => b2 (q0 S M32 a0) (fun v33 M33 => b1 (f_X10_must S M33 a0 125) (fun M34 => bm (fw_set M34 a0 24 ((M34 a0 24) - 1)) (fun M35 => gd (gB v33) (some (v33, M35))))))))) else (b1 (f_X10_goesIn S M a0) (fun M37 => b2 (q2 S M37 a0) (fun v38 M38 => bm (fw_set M38 a0 24 ((M38 a0 24) - 1)) (fun M39 => if v38 = 0 then (some (1, M39)) else (some (0, M39))))))))
set_option maxHeartbeats 4000000 in
set_option maxRecDepth 100000 in
theorem c_X10_readFact {l : Launch} {G : fw_G} {d9 : Nat} {q0 q1 q2 : List fw_Sh → fw_Mem → Nat → Option (Int32 × fw_Mem)} {S : List fw_Sh} {M : fw_Mem} {a0 : Nat} {r : (Int32 × fw_Mem)} (hl : l.stackTraces = false) (hd : 20 ≤ d9) (hq0 : ∀ {S : List fw_Sh} {M : fw_Mem} {a : Nat} {r : Int32 × fw_Mem}, q0 S M a = some r → fw_M l G yX10_readTest (.code yX10_readTest cX10_readTest 3 (some .boolean)) d9 (fw_mcO (.inl (some (.int r.1)), S, r.2)) (fw_msO (.inl (some (.int r.1)), S, r.2)) S M [.ref a] (.inl (some (.int r.1)), S, r.2)) (hq1 : ∀ {S : List fw_Sh} {M : fw_Mem} {a : Nat} {r : Int32 × fw_Mem}, q1 S M a = some r → fw_M l G yX10_readBoth (.code yX10_readBoth cX10_readBoth 3 (some .boolean)) d9 (fw_mcO (.inl (some (.int r.1)), S, r.2)) (fw_msO (.inl (some (.int r.1)), S, r.2)) S M [.ref a] (.inl (some (.int r.1)), S, r.2)) (hq2 : ∀ {S : List fw_Sh} {M : fw_Mem} {a : Nat} {r : Int32 × fw_Mem}, q2 S M a = some r → fw_M l G yX10_readFact (.code yX10_readFact cX10_readFact 4 (some .boolean)) d9 (fw_mcO (.inl (some (.int r.1)), S, r.2)) (fw_msO (.inl (some (.int r.1)), S, r.2)) S M [.ref a] (.inl (some (.int r.1)), S, r.2)) (h : f_X10_readFact q0 q1 q2 S M a0 = some r) : fw_M l G yX10_readFact (.code yX10_readFact cX10_readFact 4 (some .boolean)) (d9 + 1) (fw_mcO (.inl (some (.int r.1)), S, r.2)) (fw_msO (.inl (some (.int r.1)), S, r.2)) S M [.ref a0] (.inl (some (.int r.1)), S, r.2) := by
  refine fw_of [(0, .ref a0)] (by decide) (Nat.le_of_ble_eq_true rfl) rfl ?_
  intro p e s m args below meth c C hr hlk hnm ht _
  unfold f_X10_readFact at h
  refine fw_aload_n C 0 dX10_readFact_0 rfl rfl ?_
  refine fw_ldcSw C (i := 19) (List.mem_of_getElem? (i := 77) rfl) dX10_readFact_1 ?_
  obtain ⟨g2, h⟩ := gd_some h
  obtain ⟨v1, e1, h⟩ := b1_some h
  refine fw_callV (ci := 10) [_] C (c_X10_isWord hl e1) cal_X10_isWord wm_X10_308 wi_yX10_isWord wsl_yX10_isWord (Nat.le_of_ble_eq_true rfl) rfl (gO_of g2) rfl (Nat.le_of_ble_eq_true rfl) (fw_room (by omega) (by omega)) ⟨Nat.zero_le _, Nat.zero_le _⟩ dX10_readFact_4 ?_
  refine fw_if_eq C 39 dX10_readFact_7 (by decide) (fun c3 => ?_) (fun c3 => ?_)
  · replace h := (if_pos c3).symm.trans h
    refine fw_aload_n C 0 dX10_readFact_39 rfl rfl ?_
    refine fw_bipush C 123 dX10_readFact_40 rfl ?_
    obtain ⟨v4, e4, h⟩ := b1_some h
    refine fw_callV (ci := 10) [_] C (c_X10_isSign hl e4) cal_X10_isSign wm_X10_293 wi_yX10_isSign wsl_yX10_isSign (Nat.le_of_ble_eq_true rfl) rfl (gO_of g2) rfl (Nat.le_of_ble_eq_true rfl) (fw_room (by omega) (by omega)) ⟨Nat.zero_le _, Nat.zero_le _⟩ dX10_readFact_42 ?_
    refine fw_if_eq C 75 dX10_readFact_45 (by decide) (fun c5 => ?_) (fun c5 => ?_)
    · replace h := (if_pos c5).symm.trans h
      refine fw_aload_n C 0 dX10_readFact_75 rfl rfl ?_
      obtain ⟨v6, M6, e6, h⟩ := b2_some h
      refine fw_callV (ci := 10) [] C (c_X10_readValue hl e6) cal_X10_readValue wm_X10_438 wi_yX10_readValue wsl_yX10_readValue (Nat.le_of_ble_eq_true rfl) rfl (gO_of g2) rfl (Nat.le_of_ble_eq_true rfl) (fw_room (by omega) (by omega)) ⟨Nat.zero_le _, Nat.zero_le _⟩ dX10_readFact_76 ?_
      refine fw_istore_n C [(1, _), (0, _)] dX10_readFact_79 rfl (Nat.le_of_ble_eq_true rfl) rfl ?_
      refine fw_aload_n C 1 dX10_readFact_80 rfl rfl ?_
      refine fw_bipush C 60 dX10_readFact_81 rfl ?_
      obtain ⟨v7, e7, h⟩ := b1_some h
      refine fw_callV (ci := 10) [_] C (c_X10_isSign hl e7) cal_X10_isSign wm_X10_293 wi_yX10_isSign wsl_yX10_isSign (Nat.le_of_ble_eq_true rfl) rfl (gO_of g2) rfl (Nat.le_of_ble_eq_true rfl) (fw_room (by omega) (by omega)) ⟨Nat.zero_le _, Nat.zero_le _⟩ dX10_readFact_83 ?_
      refine fw_if_eq C 93 dX10_readFact_86 (by decide) (fun c8 => ?_) (fun c8 => ?_)
      · replace h := (if_pos c8).symm.trans h
        refine fw_aload_n C 1 dX10_readFact_93 rfl rfl ?_
        refine fw_bipush C 61 dX10_readFact_94 rfl ?_
        obtain ⟨v9, e9, h⟩ := b1_some h
        refine fw_callV (ci := 10) [_] C (c_X10_isSign hl e9) cal_X10_isSign wm_X10_293 wi_yX10_isSign wsl_yX10_isSign (Nat.le_of_ble_eq_true rfl) rfl (gO_of g2) rfl (Nat.le_of_ble_eq_true rfl) (fw_room (by omega) (by omega)) ⟨Nat.zero_le _, Nat.zero_le _⟩ dX10_readFact_96 ?_
        refine fw_if_eq C 106 dX10_readFact_99 (by decide) (fun c10 => ?_) (fun c10 => ?_)
        · replace h := (if_pos c10).symm.trans h
          refine fw_aload_n C 1 dX10_readFact_106 rfl rfl ?_
          refine fw_bipush C 62 dX10_readFact_107 rfl ?_
          obtain ⟨v11, e11, h⟩ := b1_some h
          refine fw_callV (ci := 10) [_] C (c_X10_isSign hl e11) cal_X10_isSign wm_X10_293 wi_yX10_isSign wsl_yX10_isSign (Nat.le_of_ble_eq_true rfl) rfl (gO_of g2) rfl (Nat.le_of_ble_eq_true rfl) (fw_room (by omega) (by omega)) ⟨Nat.zero_le _, Nat.zero_le _⟩ dX10_readFact_109 ?_
          refine fw_if_eq C 119 dX10_readFact_112 (by decide) (fun c12 => ?_) (fun c12 => ?_)
          · replace h := (if_pos c12).symm.trans h
            refine fw_iconst C 2 dX10_readFact_119 rfl ?_
            refine fw_sub [1, 0] rfl ?_
            exact jc_X10_readFact_120 C hr hlk hl ht hd hq0 hq1 hq2 rfl h
          · replace h := (if_neg c12).symm.trans h
            refine fw_iconst C 1 dX10_readFact_115 rfl ?_
            refine fw_goto C 120 dX10_readFact_116 (by decide) ?_
            refine fw_sub [1, 0] rfl ?_
            exact jc_X10_readFact_120 C hr hlk hl ht hd hq0 hq1 hq2 rfl h
        · replace h := (if_neg c10).symm.trans h
          refine fw_iconst C 0 dX10_readFact_102 rfl ?_
          refine fw_goto C 120 dX10_readFact_103 (by decide) ?_
          refine fw_sub [1, 0] rfl ?_
          exact jc_X10_readFact_120 C hr hlk hl ht hd hq0 hq1 hq2 rfl h
      · replace h := (if_neg c8).symm.trans h
        refine fw_iconst C (-1) dX10_readFact_89 rfl ?_
        refine fw_goto C 120 dX10_readFact_90 (by decide) ?_
        refine fw_sub [1, 0] rfl ?_
        exact jc_X10_readFact_120 C hr hlk hl ht hd hq0 hq1 hq2 rfl h
    · replace h := (if_neg c5).symm.trans h
      refine fw_aload_n C 0 dX10_readFact_48 rfl rfl ?_
      obtain ⟨M32, e32, h⟩ := b1_some h
      refine fw_callV (ci := 10) [] C (c_X10_goesIn hl e32) cal_X10_goesIn wm_X10_429 wi_yX10_goesIn wsl_yX10_goesIn (Nat.le_of_ble_eq_true rfl) rfl (gO_of g2) rfl (Nat.le_of_ble_eq_true rfl) (fw_room (by omega) (by omega)) ⟨Nat.zero_le _, Nat.zero_le _⟩ dX10_readFact_49 ?_
      refine fw_aload_n C 0 dX10_readFact_52 rfl rfl ?_
      obtain ⟨v33, M33, e33, h⟩ := b2_some h
      refine fw_callV (ci := 10) [] C (hq0 e33) cal_X10_readTest wm_X10_435 wi_yX10_readTest wsl_yX10_readTest (Nat.le_of_ble_eq_true rfl) rfl (gO_of g2) rfl (Nat.le_of_ble_eq_true rfl) (fw_room (by omega) (by omega)) ⟨Nat.zero_le _, Nat.zero_le _⟩ dX10_readFact_53 ?_
      refine fw_istore_n C [(1, _), (0, _)] dX10_readFact_56 rfl (Nat.le_of_ble_eq_true rfl) rfl ?_
      refine fw_aload_n C 1 dX10_readFact_57 rfl rfl ?_
      refine fw_bipush C 125 dX10_readFact_58 rfl ?_
      obtain ⟨M34, e34, h⟩ := b1_some h
      refine fw_callV (ci := 10) [_] C (c_X10_must hl e34) cal_X10_must wm_X10_389 wi_yX10_must wsl_yX10_must (Nat.le_of_ble_eq_true rfl) rfl (gO_of g2) rfl (Nat.le_of_ble_eq_true rfl) (fw_room (by omega) (by omega)) ⟨Nat.zero_le _, Nat.zero_le _⟩ dX10_readFact_60 ?_
      refine fw_aload_n C 1 dX10_readFact_63 rfl rfl ?_
      refine fw_dup C dX10_readFact_64 rfl ?_
      refine fw_getI C 10 24 (Nat.le_of_ble_eq_true rfl) (Nat.le_of_ble_eq_true rfl) wf_X10_275 rfl (gO_of g2) dX10_readFact_65 ?_
      refine fw_iconst C 1 dX10_readFact_68 rfl ?_
      refine fw_isub C dX10_readFact_69 ?_
      refine fw_putI C 10 24 (Nat.le_of_ble_eq_true rfl) (Nat.le_of_ble_eq_true rfl) wf_X10_275 rfl rfl rfl rfl (gO_of g2) dX10_readFact_70 ?_
      refine fw_bm h (fun M35 h => ?_)
      refine fw_iload_n C 0 dX10_readFact_73 rfl rfl ?_
      obtain ⟨g36, h⟩ := gd_some h
      obtain rfl := Option.some.inj h
      exact fw_zret C hr (gB_of g36) hlk dX10_readFact_74
  · replace h := (if_neg c3).symm.trans h
    refine fw_aload_n C 0 dX10_readFact_10 rfl rfl ?_
    obtain ⟨M37, e37, h⟩ := b1_some h
    refine fw_callV (ci := 10) [] C (c_X10_goesIn hl e37) cal_X10_goesIn wm_X10_429 wi_yX10_goesIn wsl_yX10_goesIn (Nat.le_of_ble_eq_true rfl) rfl (gO_of g2) rfl (Nat.le_of_ble_eq_true rfl) (fw_room (by omega) (by omega)) ⟨Nat.zero_le _, Nat.zero_le _⟩ dX10_readFact_11 ?_
    refine fw_aload_n C 0 dX10_readFact_14 rfl rfl ?_
    obtain ⟨v38, M38, e38, h⟩ := b2_some h
    refine fw_callV (ci := 10) [] C (hq2 e38) cal_X10_readFact wm_X10_432 wi_yX10_readFact wsl_yX10_readFact (Nat.le_of_ble_eq_true rfl) rfl (gO_of g2) rfl (Nat.le_of_ble_eq_true rfl) (fw_room (by omega) (by omega)) ⟨Nat.zero_le _, Nat.zero_le _⟩ dX10_readFact_15 ?_
    refine fw_istore_n C [(1, _), (0, _)] dX10_readFact_18 rfl (Nat.le_of_ble_eq_true rfl) rfl ?_
    refine fw_aload_n C 1 dX10_readFact_19 rfl rfl ?_
    refine fw_dup C dX10_readFact_20 rfl ?_
    refine fw_getI C 10 24 (Nat.le_of_ble_eq_true rfl) (Nat.le_of_ble_eq_true rfl) wf_X10_275 rfl (gO_of g2) dX10_readFact_21 ?_
    refine fw_iconst C 1 dX10_readFact_24 rfl ?_
    refine fw_isub C dX10_readFact_25 ?_
    refine fw_putI C 10 24 (Nat.le_of_ble_eq_true rfl) (Nat.le_of_ble_eq_true rfl) wf_X10_275 rfl rfl rfl rfl (gO_of g2) dX10_readFact_26 ?_
    refine fw_bm h (fun M39 h => ?_)
    refine fw_iload_n C 0 dX10_readFact_29 rfl rfl ?_
    refine fw_if_ne C 37 dX10_readFact_30 (by decide) (fun c40 => ?_) (fun c40 => ?_)
    · replace h := (if_neg c40).symm.trans h
      refine fw_iconst C 0 dX10_readFact_37 rfl ?_
      obtain rfl := Option.some.inj h
      exact fw_zret C hr (Or.inl rfl) hlk dX10_readFact_38
    · replace h := (if_pos c40).symm.trans h
      refine fw_iconst C 1 dX10_readFact_33 rfl ?_
      refine fw_goto C 38 dX10_readFact_34 (by decide) ?_
      obtain rfl := Option.some.inj h
      exact fw_zret C hr (Or.inr rfl) hlk dX10_readFact_38
set_option maxRecDepth 100000 in
def rf_X10 : Nat → Nat → List fw_Sh → fw_Mem → Nat → Option (Int32 × fw_Mem)
  | 0, _, _, _, _ => none
  | d + 1, k, S, M, a => if k = 0 then f_X10_readTest (rf_X10 d 0) (rf_X10 d 1) (rf_X10 d 2) S M a else if k = 1 then f_X10_readBoth (rf_X10 d 0) (rf_X10 d 1) (rf_X10 d 2) S M a else f_X10_readFact (rf_X10 d 0) (rf_X10 d 1) (rf_X10 d 2) S M a
set_option maxHeartbeats 4000000 in
set_option maxRecDepth 100000 in
theorem cr_X10 {l : Launch} {G : fw_G} (hl : l.stackTraces = false) : ∀ d : Nat, (∀ {S : List fw_Sh} {M : fw_Mem} {a : Nat} {r : Int32 × fw_Mem}, rf_X10 d 0 S M a = some r → fw_M l G yX10_readTest (.code yX10_readTest cX10_readTest 3 (some .boolean)) (20 + d) (fw_mcO (.inl (some (.int r.1)), S, r.2)) (fw_msO (.inl (some (.int r.1)), S, r.2)) S M [.ref a] (.inl (some (.int r.1)), S, r.2)) ∧ (∀ {S : List fw_Sh} {M : fw_Mem} {a : Nat} {r : Int32 × fw_Mem}, rf_X10 d 1 S M a = some r → fw_M l G yX10_readBoth (.code yX10_readBoth cX10_readBoth 3 (some .boolean)) (20 + d) (fw_mcO (.inl (some (.int r.1)), S, r.2)) (fw_msO (.inl (some (.int r.1)), S, r.2)) S M [.ref a] (.inl (some (.int r.1)), S, r.2)) ∧ (∀ {S : List fw_Sh} {M : fw_Mem} {a : Nat} {r : Int32 × fw_Mem}, rf_X10 d 2 S M a = some r → fw_M l G yX10_readFact (.code yX10_readFact cX10_readFact 4 (some .boolean)) (20 + d) (fw_mcO (.inl (some (.int r.1)), S, r.2)) (fw_msO (.inl (some (.int r.1)), S, r.2)) S M [.ref a] (.inl (some (.int r.1)), S, r.2)) := by
  intro d
  induction d with
  | zero =>
    refine ⟨fun {S M a r} h => ?_, fun {S M a r} h => ?_, fun {S M a r} h => ?_⟩ <;> exact nomatch (show (none : Option (Int32 × fw_Mem)) = some r from h)
  | succ d ih =>
    obtain ⟨i0, i1, i2⟩ := ih
    exact ⟨fun {S M a r} h => c_X10_readTest hl (Nat.le_add_right 20 d) i0 i1 i2 h, fun {S M a r} h => c_X10_readBoth hl (Nat.le_add_right 20 d) i0 i1 i2 h, fun {S M a r} h => c_X10_readFact hl (Nat.le_add_right 20 d) i0 i1 i2 h⟩
set_option maxRecDepth 100000 in
def fj_X10_readQuestion_35 (S : List fw_Sh) (M : fw_Mem) (a0 : Nat) : Option (Int32 × fw_Mem) := gd (gO S 10 a0) (b1 (f_X10_pass S M a0) (fun M25 => b2 (rf_X10 30 0 S M25 a0) (fun v27 M27 => if (M27 a0 21) = 0 then (if (M27 a0 18) = 0 then (gd (gB v27) (some (v27, M27))) else (b1 (f_X10_wrong S M27 a0 1) (fun M32 => gd (gB v27) (some (v27, M32))))) else (gd (gB v27) (some (v27, M27))))))
set_option maxHeartbeats 4000000 in
set_option maxRecDepth 100000 in
theorem jc_X10_readQuestion_35 {G : fw_G} {p : Program} {l : Launch} {e : Env} {s : State} {m : MethodId} {args : Array Value} {below : List Frame} {meth : Method} {c : Code} {S : List fw_Sh} {M : fw_Mem} {a0 : Nat} {r : (Int32 × fw_Mem)} {o : fw_O} (C : fw_C G RX10 cX10_readQuestion 4 p s m args c) (hr : meth.sig.returnType = (some .boolean)) (hlk : meth.locks = false) (hl : l.stackTraces = false) (ht : ∀ x ∈ c.exceptionTable.toList, False) (ho : o = (.inl (some (.int r.1)), S, r.2)) (h : fj_X10_readQuestion_35 S M a0 = some r) :
    fw_W G p l e (fw_rm 51 (fw_mcO o) (fw_msO o)) s m args below meth c 4 (fw_Z G below args s (fw_mcO o) (fw_msO o) o) 0 0 35 [(0, .ref a0)] [] S M := by
  subst ho
  unfold fj_X10_readQuestion_35 at h
  refine fw_aload_n C 0 dX10_readQuestion_35 rfl rfl ?_
  obtain ⟨g26, h⟩ := gd_some h
  obtain ⟨M25, e25, h⟩ := b1_some h
  refine fw_callV (ci := 10) [] C (c_X10_pass hl e25) cal_X10_pass wm_X10_299 wi_yX10_pass wsl_yX10_pass (Nat.le_of_ble_eq_true rfl) rfl (gO_of g26) rfl (Nat.le_of_ble_eq_true rfl) ⟨Nat.le_of_ble_eq_true rfl, Nat.le_of_ble_eq_true rfl⟩ ⟨Nat.zero_le _, Nat.zero_le _⟩ dX10_readQuestion_36 ?_
  refine fw_aload_n C 0 dX10_readQuestion_39 rfl rfl ?_
  obtain ⟨v27, M27, e27, h⟩ := b2_some h
  refine fw_callV (ci := 10) [] C ((cr_X10 hl 30).1 e27) cal_X10_readTest wm_X10_435 wi_yX10_readTest wsl_yX10_readTest (Nat.le_of_ble_eq_true rfl) rfl (gO_of g26) rfl (Nat.le_of_ble_eq_true rfl) ⟨Nat.le_of_ble_eq_true rfl, Nat.le_of_ble_eq_true rfl⟩ ⟨Nat.zero_le _, Nat.zero_le _⟩ dX10_readQuestion_40 ?_
  refine fw_istore_n C [(3, _), (0, _)] dX10_readQuestion_43 rfl (Nat.le_of_ble_eq_true rfl) rfl ?_
  refine fw_aload_n C 1 dX10_readQuestion_44 rfl rfl ?_
  refine fw_getI C 10 21 (Nat.le_of_ble_eq_true rfl) (Nat.le_of_ble_eq_true rfl) wf_X10_272 rfl (gO_of g26) dX10_readQuestion_45 ?_
  refine fw_if_ne C 63 dX10_readQuestion_48 (by decide) (fun c28 => ?_) (fun c28 => ?_)
  · replace h := (if_neg c28).symm.trans h
    refine fw_iload_n C 0 dX10_readQuestion_63 rfl rfl ?_
    obtain ⟨g29, h⟩ := gd_some h
    obtain rfl := Option.some.inj h
    exact fw_zret C hr (gB_of g29) hlk dX10_readQuestion_64
  · replace h := (if_pos c28).symm.trans h
    refine fw_aload_n C 1 dX10_readQuestion_51 rfl rfl ?_
    refine fw_getI C 10 18 (Nat.le_of_ble_eq_true rfl) (Nat.le_of_ble_eq_true rfl) wf_X10_260 rfl (gO_of g26) dX10_readQuestion_52 ?_
    refine fw_if_eq C 63 dX10_readQuestion_55 (by decide) (fun c30 => ?_) (fun c30 => ?_)
    · replace h := (if_pos c30).symm.trans h
      refine fw_iload_n C 0 dX10_readQuestion_63 rfl rfl ?_
      obtain ⟨g31, h⟩ := gd_some h
      obtain rfl := Option.some.inj h
      exact fw_zret C hr (gB_of g31) hlk dX10_readQuestion_64
    · replace h := (if_neg c30).symm.trans h
      refine fw_aload_n C 1 dX10_readQuestion_58 rfl rfl ?_
      refine fw_iconst C 1 dX10_readQuestion_59 rfl ?_
      obtain ⟨M32, e32, h⟩ := b1_some h
      refine fw_callV (ci := 10) [_] C (c_X10_wrong hl e32) cal_X10_wrong wm_X10_296 wi_yX10_wrong wsl_yX10_wrong (Nat.le_of_ble_eq_true rfl) rfl (gO_of g26) rfl (Nat.le_of_ble_eq_true rfl) ⟨Nat.le_of_ble_eq_true rfl, Nat.le_of_ble_eq_true rfl⟩ ⟨Nat.zero_le _, Nat.zero_le _⟩ dX10_readQuestion_60 ?_
      refine fw_iload_n C 0 dX10_readQuestion_63 rfl rfl ?_
      obtain ⟨g33, h⟩ := gd_some h
      obtain rfl := Option.some.inj h
      exact fw_zret C hr (gB_of g33) hlk dX10_readQuestion_64
set_option maxRecDepth 100000 in
def f_X10_readQuestion (S : List fw_Sh) (M : fw_Mem) (a0 : Nat) (x1 : Int32) (x2 : Int32) : Option (Int32 × fw_Mem) := gd (gO S 10 a0) (bm (fw_set M a0 25 x2) (fun M2 => b1 (f_X10_opens S M2 a0 x1) (fun M3 => b1 (f_X10_isWord S M3 a0 1000015) (fun v4 => if v4 = 0 then (b1 (f_X10_isWord S M3 a0 1000009) (fun v14 => if v14 = 0 then (b1 (f_X10_wrong S M3 a0 1) (fun M24 => fj_X10_readQuestion_35 S M24 a0)) else (b1 (f_X10_pass S M3 a0) (fun M16 => b2 (rf_X10 30 0 S M16 a0) (fun v17 M17 => if (M17 a0 21) = 0 then (if (M17 a0 18) = 0 then (gd (gB v17) (some (v17, M17))) else (b1 (f_X10_wrong S M17 a0 1) (fun M22 => gd (gB v17) (some (v17, M22))))) else (gd (gB v17) (some (v17, M17)))))))) else (b1 (f_X10_pass S M3 a0) (fun M6 => b2 (rf_X10 30 0 S M6 a0) (fun v7 M7 => if (M7 a0 21) = 0 then (if (M7 a0 18) = 0 then (gd (gB v7) (some (v7, M7))) else (b1 (f_X10_wrong S M7 a0 1) (fun M12 => gd (gB v7) (some (v7, M12))))) else (gd (gB v7) (some (v7, M7))))))))))
set_option maxHeartbeats 4000000 in
set_option maxRecDepth 100000 in
theorem c_X10_readQuestion {l : Launch} {G : fw_G} {S : List fw_Sh} {M : fw_Mem} {a0 : Nat} {x1 : Int32} {x2 : Int32} {r : (Int32 × fw_Mem)} (hl : l.stackTraces = false) (h : f_X10_readQuestion S M a0 x1 x2 = some r) : fw_M l G yX10_readQuestion (.code yX10_readQuestion cX10_readQuestion 4 (some .boolean)) 51 (fw_mcO (.inl (some (.int r.1)), S, r.2)) (fw_msO (.inl (some (.int r.1)), S, r.2)) S M [.ref a0, .int x1, .int x2] (.inl (some (.int r.1)), S, r.2) := by
  refine fw_of [(0, .ref a0), (1, .int x1), (2, .int x2)] (by decide) (Nat.le_of_ble_eq_true rfl) rfl ?_
  intro p e s m args below meth c C hr hlk hnm ht _
  unfold f_X10_readQuestion at h
  refine fw_aload_n C 0 dX10_readQuestion_0 rfl rfl ?_
  refine fw_iload_n C 2 dX10_readQuestion_1 rfl rfl ?_
  obtain ⟨g1, h⟩ := gd_some h
  refine fw_putI C 10 25 (Nat.le_of_ble_eq_true rfl) (Nat.le_of_ble_eq_true rfl) wf_X10_404 rfl rfl rfl rfl (gO_of g1) dX10_readQuestion_2 ?_
  refine fw_bm h (fun M2 h => ?_)
  refine fw_aload_n C 0 dX10_readQuestion_5 rfl rfl ?_
  refine fw_iload_n C 1 dX10_readQuestion_6 rfl rfl ?_
  obtain ⟨M3, e3, h⟩ := b1_some h
  refine fw_callV (ci := 10) [_] C (c_X10_opens hl e3) cal_X10_opens wm_X10_392 wi_yX10_opens wsl_yX10_opens (Nat.le_of_ble_eq_true rfl) rfl (gO_of g1) rfl (Nat.le_of_ble_eq_true rfl) ⟨Nat.le_of_ble_eq_true rfl, Nat.le_of_ble_eq_true rfl⟩ ⟨Nat.zero_le _, Nat.zero_le _⟩ dX10_readQuestion_7 ?_
  refine fw_aload_n C 0 dX10_readQuestion_10 rfl rfl ?_
  refine fw_ldcSw C (i := 14) (List.mem_of_getElem? (i := 76) rfl) dX10_readQuestion_11 ?_
  obtain ⟨v4, e4, h⟩ := b1_some h
  refine fw_callV (ci := 10) [_] C (c_X10_isWord hl e4) cal_X10_isWord wm_X10_308 wi_yX10_isWord wsl_yX10_isWord (Nat.le_of_ble_eq_true rfl) rfl (gO_of g1) rfl (Nat.le_of_ble_eq_true rfl) ⟨Nat.le_of_ble_eq_true rfl, Nat.le_of_ble_eq_true rfl⟩ ⟨Nat.zero_le _, Nat.zero_le _⟩ dX10_readQuestion_14 ?_
  refine fw_if_ne C 35 dX10_readQuestion_17 (by decide) (fun c5 => ?_) (fun c5 => ?_)
  · replace h := (if_neg c5).symm.trans h
    refine fw_aload_n C 0 dX10_readQuestion_35 rfl rfl ?_
    obtain ⟨M6, e6, h⟩ := b1_some h
    refine fw_callV (ci := 10) [] C (c_X10_pass hl e6) cal_X10_pass wm_X10_299 wi_yX10_pass wsl_yX10_pass (Nat.le_of_ble_eq_true rfl) rfl (gO_of g1) rfl (Nat.le_of_ble_eq_true rfl) ⟨Nat.le_of_ble_eq_true rfl, Nat.le_of_ble_eq_true rfl⟩ ⟨Nat.zero_le _, Nat.zero_le _⟩ dX10_readQuestion_36 ?_
    refine fw_aload_n C 0 dX10_readQuestion_39 rfl rfl ?_
    obtain ⟨v7, M7, e7, h⟩ := b2_some h
    refine fw_callV (ci := 10) [] C ((cr_X10 hl 30).1 e7) cal_X10_readTest wm_X10_435 wi_yX10_readTest wsl_yX10_readTest (Nat.le_of_ble_eq_true rfl) rfl (gO_of g1) rfl (Nat.le_of_ble_eq_true rfl) ⟨Nat.le_of_ble_eq_true rfl, Nat.le_of_ble_eq_true rfl⟩ ⟨Nat.zero_le _, Nat.zero_le _⟩ dX10_readQuestion_40 ?_
    refine fw_istore_n C [(3, _), (0, _), (1, _), (2, _)] dX10_readQuestion_43 rfl (Nat.le_of_ble_eq_true rfl) rfl ?_
    refine fw_aload_n C 1 dX10_readQuestion_44 rfl rfl ?_
    refine fw_getI C 10 21 (Nat.le_of_ble_eq_true rfl) (Nat.le_of_ble_eq_true rfl) wf_X10_272 rfl (gO_of g1) dX10_readQuestion_45 ?_
    refine fw_if_ne C 63 dX10_readQuestion_48 (by decide) (fun c8 => ?_) (fun c8 => ?_)
    · replace h := (if_neg c8).symm.trans h
      refine fw_iload_n C 0 dX10_readQuestion_63 rfl rfl ?_
      obtain ⟨g9, h⟩ := gd_some h
      obtain rfl := Option.some.inj h
      exact fw_zret C hr (gB_of g9) hlk dX10_readQuestion_64
    · replace h := (if_pos c8).symm.trans h
      refine fw_aload_n C 1 dX10_readQuestion_51 rfl rfl ?_
      refine fw_getI C 10 18 (Nat.le_of_ble_eq_true rfl) (Nat.le_of_ble_eq_true rfl) wf_X10_260 rfl (gO_of g1) dX10_readQuestion_52 ?_
      refine fw_if_eq C 63 dX10_readQuestion_55 (by decide) (fun c10 => ?_) (fun c10 => ?_)
      · replace h := (if_pos c10).symm.trans h
        refine fw_iload_n C 0 dX10_readQuestion_63 rfl rfl ?_
        obtain ⟨g11, h⟩ := gd_some h
        obtain rfl := Option.some.inj h
        exact fw_zret C hr (gB_of g11) hlk dX10_readQuestion_64
      · replace h := (if_neg c10).symm.trans h
        refine fw_aload_n C 1 dX10_readQuestion_58 rfl rfl ?_
        refine fw_iconst C 1 dX10_readQuestion_59 rfl ?_
        obtain ⟨M12, e12, h⟩ := b1_some h
        refine fw_callV (ci := 10) [_] C (c_X10_wrong hl e12) cal_X10_wrong wm_X10_296 wi_yX10_wrong wsl_yX10_wrong (Nat.le_of_ble_eq_true rfl) rfl (gO_of g1) rfl (Nat.le_of_ble_eq_true rfl) ⟨Nat.le_of_ble_eq_true rfl, Nat.le_of_ble_eq_true rfl⟩ ⟨Nat.zero_le _, Nat.zero_le _⟩ dX10_readQuestion_60 ?_
        refine fw_iload_n C 0 dX10_readQuestion_63 rfl rfl ?_
        obtain ⟨g13, h⟩ := gd_some h
        obtain rfl := Option.some.inj h
        exact fw_zret C hr (gB_of g13) hlk dX10_readQuestion_64
  · replace h := (if_pos c5).symm.trans h
    refine fw_aload_n C 0 dX10_readQuestion_20 rfl rfl ?_
    refine fw_ldcSw C (i := 8) (List.mem_of_getElem? (i := 75) rfl) dX10_readQuestion_21 ?_
    obtain ⟨v14, e14, h⟩ := b1_some h
    refine fw_callV (ci := 10) [_] C (c_X10_isWord hl e14) cal_X10_isWord wm_X10_308 wi_yX10_isWord wsl_yX10_isWord (Nat.le_of_ble_eq_true rfl) rfl (gO_of g1) rfl (Nat.le_of_ble_eq_true rfl) ⟨Nat.le_of_ble_eq_true rfl, Nat.le_of_ble_eq_true rfl⟩ ⟨Nat.zero_le _, Nat.zero_le _⟩ dX10_readQuestion_24 ?_
    refine fw_if_ne C 35 dX10_readQuestion_27 (by decide) (fun c15 => ?_) (fun c15 => ?_)
    · replace h := (if_neg c15).symm.trans h
      refine fw_aload_n C 0 dX10_readQuestion_35 rfl rfl ?_
      obtain ⟨M16, e16, h⟩ := b1_some h
      refine fw_callV (ci := 10) [] C (c_X10_pass hl e16) cal_X10_pass wm_X10_299 wi_yX10_pass wsl_yX10_pass (Nat.le_of_ble_eq_true rfl) rfl (gO_of g1) rfl (Nat.le_of_ble_eq_true rfl) ⟨Nat.le_of_ble_eq_true rfl, Nat.le_of_ble_eq_true rfl⟩ ⟨Nat.zero_le _, Nat.zero_le _⟩ dX10_readQuestion_36 ?_
      refine fw_aload_n C 0 dX10_readQuestion_39 rfl rfl ?_
      obtain ⟨v17, M17, e17, h⟩ := b2_some h
      refine fw_callV (ci := 10) [] C ((cr_X10 hl 30).1 e17) cal_X10_readTest wm_X10_435 wi_yX10_readTest wsl_yX10_readTest (Nat.le_of_ble_eq_true rfl) rfl (gO_of g1) rfl (Nat.le_of_ble_eq_true rfl) ⟨Nat.le_of_ble_eq_true rfl, Nat.le_of_ble_eq_true rfl⟩ ⟨Nat.zero_le _, Nat.zero_le _⟩ dX10_readQuestion_40 ?_
      refine fw_istore_n C [(3, _), (0, _), (1, _), (2, _)] dX10_readQuestion_43 rfl (Nat.le_of_ble_eq_true rfl) rfl ?_
      refine fw_aload_n C 1 dX10_readQuestion_44 rfl rfl ?_
      refine fw_getI C 10 21 (Nat.le_of_ble_eq_true rfl) (Nat.le_of_ble_eq_true rfl) wf_X10_272 rfl (gO_of g1) dX10_readQuestion_45 ?_
      refine fw_if_ne C 63 dX10_readQuestion_48 (by decide) (fun c18 => ?_) (fun c18 => ?_)
      · replace h := (if_neg c18).symm.trans h
        refine fw_iload_n C 0 dX10_readQuestion_63 rfl rfl ?_
        obtain ⟨g19, h⟩ := gd_some h
        obtain rfl := Option.some.inj h
        exact fw_zret C hr (gB_of g19) hlk dX10_readQuestion_64
      · replace h := (if_pos c18).symm.trans h
        refine fw_aload_n C 1 dX10_readQuestion_51 rfl rfl ?_
        refine fw_getI C 10 18 (Nat.le_of_ble_eq_true rfl) (Nat.le_of_ble_eq_true rfl) wf_X10_260 rfl (gO_of g1) dX10_readQuestion_52 ?_
        refine fw_if_eq C 63 dX10_readQuestion_55 (by decide) (fun c20 => ?_) (fun c20 => ?_)
        · replace h := (if_pos c20).symm.trans h
          refine fw_iload_n C 0 dX10_readQuestion_63 rfl rfl ?_
          obtain ⟨g21, h⟩ := gd_some h
          obtain rfl := Option.some.inj h
          exact fw_zret C hr (gB_of g21) hlk dX10_readQuestion_64
        · replace h := (if_neg c20).symm.trans h
          refine fw_aload_n C 1 dX10_readQuestion_58 rfl rfl ?_
          refine fw_iconst C 1 dX10_readQuestion_59 rfl ?_
          obtain ⟨M22, e22, h⟩ := b1_some h
          refine fw_callV (ci := 10) [_] C (c_X10_wrong hl e22) cal_X10_wrong wm_X10_296 wi_yX10_wrong wsl_yX10_wrong (Nat.le_of_ble_eq_true rfl) rfl (gO_of g1) rfl (Nat.le_of_ble_eq_true rfl) ⟨Nat.le_of_ble_eq_true rfl, Nat.le_of_ble_eq_true rfl⟩ ⟨Nat.zero_le _, Nat.zero_le _⟩ dX10_readQuestion_60 ?_
          refine fw_iload_n C 0 dX10_readQuestion_63 rfl rfl ?_
          obtain ⟨g23, h⟩ := gd_some h
          obtain rfl := Option.some.inj h
          exact fw_zret C hr (gB_of g23) hlk dX10_readQuestion_64
    · replace h := (if_pos c15).symm.trans h
      refine fw_aload_n C 0 dX10_readQuestion_30 rfl rfl ?_
      refine fw_iconst C 1 dX10_readQuestion_31 rfl ?_
      obtain ⟨M24, e24, h⟩ := b1_some h
      refine fw_callV (ci := 10) [_] C (c_X10_wrong hl e24) cal_X10_wrong wm_X10_296 wi_yX10_wrong wsl_yX10_wrong (Nat.le_of_ble_eq_true rfl) rfl (gO_of g1) rfl (Nat.le_of_ble_eq_true rfl) ⟨Nat.le_of_ble_eq_true rfl, Nat.le_of_ble_eq_true rfl⟩ ⟨Nat.zero_le _, Nat.zero_le _⟩ dX10_readQuestion_32 ?_
      refine fw_sub [0] rfl ?_
      exact jc_X10_readQuestion_35 C hr hlk hl ht rfl h
set_option maxRecDepth 100000 in
def lf_X10_ask_78 (S : List fw_Sh) (a0 : Nat) (x1 : Int32) (x2 : Int32) : Nat → Int32 → Int32 → fw_Mem → Option ((Int32 × fw_Mem) ⊕ (Int32 × fw_Mem))
  | 0, _, _, _ => none
  | n + 1, x5, x6, M => gd (gO S 10 a0) (b1 (f_X10_suits S M a0) (fun v14 => if v14 ≤ x6 then (some (.inr (x5, M))) else (b2 (f_X10_readQuestion S M a0 x1 x6) (fun v17 M17 => if v17 = 0 then (lf_X10_ask_78 S a0 x1 x2 n x5 (x6 + 1) M17) else (if x2 = 0 then (lf_X10_ask_78 S a0 x1 x2 n (x5 + 1) (x6 + 1) M17) else (some (.inl (x6, M17))))))))
set_option maxHeartbeats 4000000 in
set_option maxRecDepth 100000 in
theorem lc_X10_ask_78 {G : fw_G} {p : Program} {l : Launch} {e : Env} {s : State} {m : MethodId} {args : Array Value} {below : List Frame} {meth : Method} {c : Code} {S : List fw_Sh} {o : fw_O} {a0 : Nat} {x1 : Int32} {x2 : Int32} (C : fw_C G RX10 cX10_ask 7 p s m args c) (hr : meth.sig.returnType = (some .int)) (hlk : meth.locks = false) (hl : l.stackTraces = false) (ht : ∀ x ∈ c.exceptionTable.toList, False) :
    ∀ {n : Nat} {x5 : Int32} {x6 : Int32} {M : fw_Mem} {r : ((Int32 × fw_Mem) ⊕ (Int32 × fw_Mem))} (h : lf_X10_ask_78 S a0 x1 x2 n x5 x6 M = some r) (kx : ∀ d, r = .inr d → fw_W G p l e (fw_rm 52 (fw_mcO o) (fw_msO o)) s m args below meth c 7 (fw_Z G below args s (fw_mcO o) (fw_msO o) o) 0 0 116 [(2, .int x2), (5, .int d.1)] [] S d.2) (hret : ∀ t, r = .inl t → o = (.inl (some (.int t.1)), S, t.2)), fw_W G p l e (fw_rm 52 (fw_mcO o) (fw_msO o)) s m args below meth c 7 (fw_Z G below args s (fw_mcO o) (fw_msO o) o) 0 0 78 [(0, .ref a0), (1, .int x1), (2, .int x2), (5, .int x5), (6, .int x6)] [] S M := by
  intro n
  induction n with
  | zero =>
    intro x5 x6 M r h
    exact nomatch (show (none : Option ((Int32 × fw_Mem) ⊕ (Int32 × fw_Mem))) = some r from h)
  | succ n ih =>
    intro x5 x6 M r h kx hret
    rw [lf_X10_ask_78.eq_2] at h
    refine fw_iload C 4 dX10_ask_78 rfl ?_
    refine fw_aload_n C 0 dX10_ask_80 rfl rfl ?_
    obtain ⟨g15, h⟩ := gd_some h
    obtain ⟨v14, e14, h⟩ := b1_some h
    refine fw_callV (ci := 10) [] C (c_X10_suits hl e14) cal_X10_suits wm_X10_62 wi_yX10_suits wsl_yX10_suits (Nat.le_of_ble_eq_true rfl) rfl (gO_of g15) rfl (Nat.le_of_ble_eq_true rfl) ⟨Nat.le_of_ble_eq_true rfl, Nat.le_of_ble_eq_true rfl⟩ ⟨Nat.zero_le _, Nat.zero_le _⟩ dX10_ask_81 ?_
    refine fw_icmp_ge C 116 dX10_ask_84 (by decide) (fun c16 => ?_) (fun c16 => ?_)
    · replace h := (if_pos c16).symm.trans h
      refine fw_sub [2, 3] rfl ?_
      exact kx _ (Option.some.inj h).symm
    · replace h := (if_neg c16).symm.trans h
      refine fw_aload_n C 0 dX10_ask_87 rfl rfl ?_
      refine fw_iload_n C 1 dX10_ask_88 rfl rfl ?_
      refine fw_iload C 4 dX10_ask_89 rfl ?_
      obtain ⟨v17, M17, e17, h⟩ := b2_some h
      refine fw_callV (ci := 10) [_, _] C (c_X10_readQuestion hl e17) cal_X10_readQuestion wm_X10_452 wi_yX10_readQuestion wsl_yX10_readQuestion (Nat.le_of_ble_eq_true rfl) rfl (gO_of g15) rfl (Nat.le_of_ble_eq_true rfl) ⟨Nat.le_of_ble_eq_true rfl, Nat.le_of_ble_eq_true rfl⟩ ⟨Nat.zero_le _, Nat.zero_le _⟩ dX10_ask_91 ?_
      refine fw_if_ne C 100 dX10_ask_94 (by decide) (fun c18 => ?_) (fun c18 => ?_)
      · replace h := (if_neg c18).symm.trans h
        refine fw_iload_n C 2 dX10_ask_100 rfl rfl ?_
        refine fw_if_eq C 107 dX10_ask_101 (by decide) (fun c19 => ?_) (fun c19 => ?_)
        · replace h := (if_pos c19).symm.trans h
          refine fw_iinc C _ 3 [(5, _), (0, _), (1, _), (2, _), (6, _)] dX10_ask_107 rfl rfl (Nat.le_of_ble_eq_true rfl) rfl ?_
          refine fw_iinc C _ 4 [(6, _), (5, _), (0, _), (1, _), (2, _)] dX10_ask_110 rfl rfl (Nat.le_of_ble_eq_true rfl) rfl ?_
          refine fw_goto C 78 dX10_ask_113 (by decide) ?_
          refine fw_sub [2, 3, 4, 1, 0] rfl ?_
          exact ih h kx hret
        · replace h := (if_neg c19).symm.trans h
          refine fw_iload C 4 dX10_ask_104 rfl ?_
          have ho := hret _ (Option.some.inj h).symm
          subst ho
          exact fw_iret C hr hlk dX10_ask_106
      · replace h := (if_pos c18).symm.trans h
        refine fw_goto C 110 dX10_ask_97 (by decide) ?_
        refine fw_iinc C _ 4 [(6, _), (0, _), (1, _), (2, _), (5, _)] dX10_ask_110 rfl rfl (Nat.le_of_ble_eq_true rfl) rfl ?_
        refine fw_goto C 78 dX10_ask_113 (by decide) ?_
        refine fw_sub [1, 2, 3, 4, 0] rfl ?_
        exact ih h kx hret
set_option maxRecDepth 100000 in
def f_X10_ask (S : List fw_Sh) (M : fw_Mem) (a0 : Nat) (x1 : Int32) : Option (Int32 × fw_Mem) := gd (gO S 10 a0) (bm (fw_set M a0 6 0) (fun M2 => if x1 < 0 then (b2 (f_X10_fail S M2 a0 1) (fun v4 M4 => some (v4, M4))) else (if (M2 a0 15) < x1 then (b2 (f_X10_fail S M2 a0 1) (fun v6 M6 => some (v6, M6))) else (if x1 ≤ 200 then (b1 (f_X10_layBound S M2 a0) (fun M8 => b1 (f_X10_opens S M8 a0 x1) (fun M9 => b1 (f_X10_isWord S M9 a0 1000009) (fun v10 => b2 (f_X10_readQuestion S M9 a0 x1 (-1)) (fun v11 M11 => b2 (f_X10_ends S M11 a0) (fun v12 M12 => if v12 = 0 then (b1 (lf_X10_ask_78 S a0 x1 v10 20000 0 0 M12) (fun l20 => bl l20 (fun t20 => some t20) (fun d20 => if v10 = 0 then (some (d20.1, d20.2)) else (some ((-1), d20.2))))) else (some ((((-1000000000) : Int32) - v12), M12)))))))) else (b2 (f_X10_fail S M2 a0 1) (fun v22 M22 => some (v22, M22)))))))
set_option maxHeartbeats 4000000 in
set_option maxRecDepth 100000 in
theorem c_X10_ask {l : Launch} {G : fw_G} {S : List fw_Sh} {M : fw_Mem} {a0 : Nat} {x1 : Int32} {r : (Int32 × fw_Mem)} (hl : l.stackTraces = false) (h : f_X10_ask S M a0 x1 = some r) : fw_M l G yX10_ask (.code yX10_ask cX10_ask 7 (some .int)) 52 (fw_mcO (.inl (some (.int r.1)), S, r.2)) (fw_msO (.inl (some (.int r.1)), S, r.2)) S M [.ref a0, .int x1] (.inl (some (.int r.1)), S, r.2) := by
  refine fw_of [(0, .ref a0), (1, .int x1)] (by decide) (Nat.le_of_ble_eq_true rfl) rfl ?_
  intro p e s m args below meth c C hr hlk hnm ht _
  unfold f_X10_ask at h
  refine fw_aload_n C 0 dX10_ask_0 rfl rfl ?_
  refine fw_iconst C 0 dX10_ask_1 rfl ?_
  obtain ⟨g1, h⟩ := gd_some h
  refine fw_putI C 10 6 (Nat.le_of_ble_eq_true rfl) (Nat.le_of_ble_eq_true rfl) wf_X10_51 rfl rfl rfl rfl (gO_of g1) dX10_ask_2 ?_
  refine fw_bm h (fun M2 h => ?_)
  refine fw_iload_n C 1 dX10_ask_5 rfl rfl ?_
  refine fw_if_lt C 24 dX10_ask_6 (by decide) (fun c3 => ?_) (fun c3 => ?_)
  · replace h := (if_pos c3).symm.trans h
    refine fw_aload_n C 0 dX10_ask_24 rfl rfl ?_
    refine fw_iconst C 1 dX10_ask_25 rfl ?_
    obtain ⟨v4, M4, e4, h⟩ := b2_some h
    refine fw_callV (ci := 10) [_] C (c_X10_fail hl e4) cal_X10_fail wm_X10_171 wi_yX10_fail wsl_yX10_fail (Nat.le_of_ble_eq_true rfl) rfl (gO_of g1) rfl (Nat.le_of_ble_eq_true rfl) ⟨Nat.le_of_ble_eq_true rfl, Nat.le_of_ble_eq_true rfl⟩ ⟨Nat.zero_le _, Nat.zero_le _⟩ dX10_ask_26 ?_
    obtain rfl := Option.some.inj h
    exact fw_iret C hr hlk dX10_ask_29
  · replace h := (if_neg c3).symm.trans h
    refine fw_iload_n C 1 dX10_ask_9 rfl rfl ?_
    refine fw_aload_n C 0 dX10_ask_10 rfl rfl ?_
    refine fw_getI C 10 15 (Nat.le_of_ble_eq_true rfl) (Nat.le_of_ble_eq_true rfl) wf_X10_165 rfl (gO_of g1) dX10_ask_11 ?_
    refine fw_icmp_gt C 24 dX10_ask_14 (by decide) (fun c5 => ?_) (fun c5 => ?_)
    · replace h := (if_pos c5).symm.trans h
      refine fw_aload_n C 0 dX10_ask_24 rfl rfl ?_
      refine fw_iconst C 1 dX10_ask_25 rfl ?_
      obtain ⟨v6, M6, e6, h⟩ := b2_some h
      refine fw_callV (ci := 10) [_] C (c_X10_fail hl e6) cal_X10_fail wm_X10_171 wi_yX10_fail wsl_yX10_fail (Nat.le_of_ble_eq_true rfl) rfl (gO_of g1) rfl (Nat.le_of_ble_eq_true rfl) ⟨Nat.le_of_ble_eq_true rfl, Nat.le_of_ble_eq_true rfl⟩ ⟨Nat.zero_le _, Nat.zero_le _⟩ dX10_ask_26 ?_
      obtain rfl := Option.some.inj h
      exact fw_iret C hr hlk dX10_ask_29
    · replace h := (if_neg c5).symm.trans h
      refine fw_iload_n C 1 dX10_ask_17 rfl rfl ?_
      refine fw_sipush C 200 dX10_ask_18 rfl ?_
      refine fw_icmp_le C 30 dX10_ask_21 (by decide) (fun c7 => ?_) (fun c7 => ?_)
      · replace h := (if_pos c7).symm.trans h
        refine fw_aload_n C 0 dX10_ask_30 rfl rfl ?_
        obtain ⟨M8, e8, h⟩ := b1_some h
        refine fw_callV (ci := 10) [] C (c_X10_layBound hl e8) cal_X10_layBound wm_X10_152 wi_yX10_layBound wsl_yX10_layBound (Nat.le_of_ble_eq_true rfl) rfl (gO_of g1) rfl (Nat.le_of_ble_eq_true rfl) ⟨Nat.le_of_ble_eq_true rfl, Nat.le_of_ble_eq_true rfl⟩ ⟨Nat.zero_le _, Nat.zero_le _⟩ dX10_ask_31 ?_
        refine fw_aload_n C 0 dX10_ask_34 rfl rfl ?_
        refine fw_iload_n C 1 dX10_ask_35 rfl rfl ?_
        obtain ⟨M9, e9, h⟩ := b1_some h
        refine fw_callV (ci := 10) [_] C (c_X10_opens hl e9) cal_X10_opens wm_X10_392 wi_yX10_opens wsl_yX10_opens (Nat.le_of_ble_eq_true rfl) rfl (gO_of g1) rfl (Nat.le_of_ble_eq_true rfl) ⟨Nat.le_of_ble_eq_true rfl, Nat.le_of_ble_eq_true rfl⟩ ⟨Nat.zero_le _, Nat.zero_le _⟩ dX10_ask_36 ?_
        refine fw_aload_n C 0 dX10_ask_39 rfl rfl ?_
        refine fw_ldcSw C (i := 8) (List.mem_of_getElem? (i := 75) rfl) dX10_ask_40 ?_
        obtain ⟨v10, e10, h⟩ := b1_some h
        refine fw_callV (ci := 10) [_] C (c_X10_isWord hl e10) cal_X10_isWord wm_X10_308 wi_yX10_isWord wsl_yX10_isWord (Nat.le_of_ble_eq_true rfl) rfl (gO_of g1) rfl (Nat.le_of_ble_eq_true rfl) ⟨Nat.le_of_ble_eq_true rfl, Nat.le_of_ble_eq_true rfl⟩ ⟨Nat.zero_le _, Nat.zero_le _⟩ dX10_ask_43 ?_
        refine fw_istore_n C [(2, _), (0, _), (1, _)] dX10_ask_46 rfl (Nat.le_of_ble_eq_true rfl) rfl ?_
        refine fw_aload_n C 1 dX10_ask_47 rfl rfl ?_
        refine fw_iload_n C 2 dX10_ask_48 rfl rfl ?_
        refine fw_iconst C (-1) dX10_ask_49 rfl ?_
        obtain ⟨v11, M11, e11, h⟩ := b2_some h
        refine fw_callV (ci := 10) [_, _] C (c_X10_readQuestion hl e11) cal_X10_readQuestion wm_X10_452 wi_yX10_readQuestion wsl_yX10_readQuestion (Nat.le_of_ble_eq_true rfl) rfl (gO_of g1) rfl (Nat.le_of_ble_eq_true rfl) ⟨Nat.le_of_ble_eq_true rfl, Nat.le_of_ble_eq_true rfl⟩ ⟨Nat.zero_le _, Nat.zero_le _⟩ dX10_ask_50 ?_
        refine fw_istore_n C [(3, _), (2, _), (0, _), (1, _)] dX10_ask_53 rfl (Nat.le_of_ble_eq_true rfl) rfl ?_
        refine fw_aload_n C 2 dX10_ask_54 rfl rfl ?_
        obtain ⟨v12, M12, e12, h⟩ := b2_some h
        refine fw_callV (ci := 10) [] C (c_X10_ends hl e12) cal_X10_ends wm_X10_398 wi_yX10_ends wsl_yX10_ends (Nat.le_of_ble_eq_true rfl) rfl (gO_of g1) rfl (Nat.le_of_ble_eq_true rfl) ⟨Nat.le_of_ble_eq_true rfl, Nat.le_of_ble_eq_true rfl⟩ ⟨Nat.zero_le _, Nat.zero_le _⟩ dX10_ask_55 ?_
        refine fw_istore C [(4, _), (3, _), (2, _), (0, _), (1, _)] dX10_ask_58 (Nat.le_of_ble_eq_true rfl) rfl ?_
        refine fw_iload C 0 dX10_ask_60 rfl ?_
        refine fw_if_eq C 72 dX10_ask_62 (by decide) (fun c13 => ?_) (fun c13 => ?_)
        · replace h := (if_pos c13).symm.trans h
          refine fw_iconst C 0 dX10_ask_72 rfl ?_
          refine fw_istore C [(5, _), (4, _), (3, _), (2, _), (0, _), (1, _)] dX10_ask_73 (Nat.le_of_ble_eq_true rfl) rfl ?_
          refine fw_iconst C 0 dX10_ask_75 rfl ?_
          refine fw_istore C [(6, _), (5, _), (4, _), (3, _), (2, _), (0, _), (1, _)] dX10_ask_76 (Nat.le_of_ble_eq_true rfl) rfl ?_
          refine fw_sub [5, 6, 4, 1, 0] rfl ?_
          obtain ⟨l20, e20, h⟩ := b1_some h
          rcases l20 with t20 | d20
          · obtain rfl := Option.some.inj (bl_l h)
            exact lc_X10_ask_78 C hr hlk hl ht e20 (fun d hd => nomatch hd) (fun t ht => by cases ht; rfl)
          replace h := bl_r h
          refine lc_X10_ask_78 C hr hlk hl ht e20 (fun d hd => ?_) (fun t ht => nomatch ht)
          cases hd
          refine fw_iload_n C 0 dX10_ask_116 rfl rfl ?_
          refine fw_if_eq C 124 dX10_ask_117 (by decide) (fun c21 => ?_) (fun c21 => ?_)
          · replace h := (if_pos c21).symm.trans h
            refine fw_iload C 1 dX10_ask_124 rfl ?_
            obtain rfl := Option.some.inj h
            exact fw_iret C hr hlk dX10_ask_126
          · replace h := (if_neg c21).symm.trans h
            refine fw_iconst C (-1) dX10_ask_120 rfl ?_
            refine fw_goto C 126 dX10_ask_121 (by decide) ?_
            obtain rfl := Option.some.inj h
            exact fw_iret C hr hlk dX10_ask_126
        · replace h := (if_neg c13).symm.trans h
          refine fw_ldcw C wk_X10_455 dX10_ask_65 ?_
          refine fw_iload C 0 dX10_ask_68 rfl ?_
          refine fw_isub C dX10_ask_70 ?_
          obtain rfl := Option.some.inj h
          exact fw_iret C hr hlk dX10_ask_71
      · replace h := (if_neg c7).symm.trans h
        refine fw_aload_n C 0 dX10_ask_24 rfl rfl ?_
        refine fw_iconst C 1 dX10_ask_25 rfl ?_
        obtain ⟨v22, M22, e22, h⟩ := b2_some h
        refine fw_callV (ci := 10) [_] C (c_X10_fail hl e22) cal_X10_fail wm_X10_171 wi_yX10_fail wsl_yX10_fail (Nat.le_of_ble_eq_true rfl) rfl (gO_of g1) rfl (Nat.le_of_ble_eq_true rfl) ⟨Nat.le_of_ble_eq_true rfl, Nat.le_of_ble_eq_true rfl⟩ ⟨Nat.zero_le _, Nat.zero_le _⟩ dX10_ask_26 ?_
        obtain rfl := Option.some.inj h
        exact fw_iret C hr hlk dX10_ask_29
