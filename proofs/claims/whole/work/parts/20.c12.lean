set_option maxRecDepth 100000 in
def fj_X10_readReversed_52 (S : List fw_Sh) (M : fw_Mem) (a0 : Nat) (x1 : Int32) : Option fw_Mem := gd (gO S 10 a0) (b1 (f_X10_pass S M a0) (fun M15 => if (M15 a0 21) = 0 then (gd (gN (M15 a0 1)) (gd (gA S 0 ((M15 a0 1).toNatClampNeg) (((198 : Int32) + ((12 : Int32) * x1)) + 8)) (bm (fw_set M15 ((M15 a0 1).toNatClampNeg) (((198 : Int32) + ((12 : Int32) * x1)) + 8).toNatClampNeg 1) (fun M20 => some M20)))) else (some M15)))
set_option maxHeartbeats 4000000 in
set_option maxRecDepth 100000 in
theorem jc_X10_readReversed_52 {G : fw_G} {p : Program} {l : Launch} {e : Env} {s : State} {m : MethodId} {args : Array Value} {below : List Frame} {meth : Method} {c : Code} {S : List fw_Sh} {M : fw_Mem} {a0 : Nat} {x1 : Int32} {r : fw_Mem} {o : fw_O} (C : fw_C G RX10 cX10_readReversed 2 p s m args c) (hr : meth.sig.returnType = none) (hlk : meth.locks = false) (hl : l.stackTraces = false) (ht : ∀ x ∈ c.exceptionTable.toList, False) (ho : o = (.inl none, S, r)) (h : fj_X10_readReversed_52 S M a0 x1 = some r) :
    fw_W G p l e (fw_rm 4 (fw_mcO o) (fw_msO o)) s m args below meth c 2 (fw_Z G below args s (fw_mcO o) (fw_msO o) o) 0 0 52 [(0, .ref a0), (1, .int x1)] [] S M := by
  subst ho
  unfold fj_X10_readReversed_52 at h
  refine fw_aload_n C 0 dX10_readReversed_52 rfl rfl ?_
  obtain ⟨g16, h⟩ := gd_some h
  obtain ⟨M15, e15, h⟩ := b1_some h
  refine fw_callV (ci := 10) [] C (c_X10_pass hl e15) cal_X10_pass wm_X10_299 wi_yX10_pass wsl_yX10_pass (Nat.le_of_ble_eq_true rfl) rfl (gO_of g16) rfl (Nat.le_of_ble_eq_true rfl) ⟨Nat.le_of_ble_eq_true rfl, Nat.le_of_ble_eq_true rfl⟩ ⟨Nat.zero_le _, Nat.zero_le _⟩ dX10_readReversed_53 ?_
  refine fw_aload_n C 0 dX10_readReversed_56 rfl rfl ?_
  refine fw_getI C 10 21 (Nat.le_of_ble_eq_true rfl) (Nat.le_of_ble_eq_true rfl) wf_X10_272 rfl (gO_of g16) dX10_readReversed_57 ?_
  refine fw_if_ne C 80 dX10_readReversed_60 (by decide) (fun c17 => ?_) (fun c17 => ?_)
  · replace h := (if_neg c17).symm.trans h
    obtain rfl := Option.some.inj h
    exact fw_vret C hr hlk dX10_readReversed_80
  · replace h := (if_pos c17).symm.trans h
    refine fw_aload_n C 0 dX10_readReversed_63 rfl rfl ?_
    obtain ⟨g18, h⟩ := gd_some h
    refine fw_getR C 10 1 (Nat.le_of_ble_eq_true rfl) (Nat.le_of_ble_eq_true rfl) wf_X10_13 rfl (gO_of g16) (gN_of g18) dX10_readReversed_64 ?_
    refine fw_sipush C 198 dX10_readReversed_67 rfl ?_
    refine fw_bipush C 12 dX10_readReversed_70 rfl ?_
    refine fw_iload_n C 1 dX10_readReversed_72 rfl rfl ?_
    refine fw_imul C dX10_readReversed_73 ?_
    refine fw_iadd C dX10_readReversed_74 ?_
    refine fw_bipush C 8 dX10_readReversed_75 rfl ?_
    refine fw_iadd C dX10_readReversed_77 ?_
    refine fw_iconst C 1 dX10_readReversed_78 rfl ?_
    obtain ⟨g19, h⟩ := gd_some h
    refine fw_iast C (gA_of g19) dX10_readReversed_79 ?_
    refine fw_bm h (fun M20 h => ?_)
    obtain rfl := Option.some.inj h
    exact fw_vret C hr hlk dX10_readReversed_80
set_option maxRecDepth 100000 in
def f_X10_readReversed (S : List fw_Sh) (M : fw_Mem) (a0 : Nat) : Option fw_Mem := gd (gO S 10 a0) (b1 (f_X10_pass S M a0) (fun M1 => gd (gN (M1 a0 1)) (gd (gA S 0 ((M1 a0 1).toNatClampNeg) 2) (b2 (f_X10_numberHere S M1 a0 0 ((M1 ((M1 a0 1).toNatClampNeg) 2) - 1)) (fun v5 M5 => if (M5 a0 21) = 0 then (b1 (f_X10_toldOf S M5 a0 v5 6) (fun v12 => if v12 = (-1) then (b1 (f_X10_wrong S M5 a0 2) (fun M14 => fj_X10_readReversed_52 S M14 a0 v5)) else (b1 (f_X10_toldOf S M5 a0 v5 8) (fun v21 => if v21 = 1 then (b1 (f_X10_wrong S M5 a0 2) (fun M28 => fj_X10_readReversed_52 S M28 a0 v5)) else (b1 (f_X10_pass S M5 a0) (fun M23 => if (M23 a0 21) = 0 then (gd (gN (M23 a0 1)) (gd (gA S 0 ((M23 a0 1).toNatClampNeg) (((198 : Int32) + ((12 : Int32) * v5)) + 8)) (bm (fw_set M23 ((M23 a0 1).toNatClampNeg) (((198 : Int32) + ((12 : Int32) * v5)) + 8).toNatClampNeg 1) (fun M27 => some M27)))) else (some M23))))))) else (b1 (f_X10_pass S M5 a0) (fun M7 => if (M7 a0 21) = 0 then (gd (gN (M7 a0 1)) (gd (gA S 0 ((M7 a0 1).toNatClampNeg) (((198 : Int32) + ((12 : Int32) * v5)) + 8)) (bm (fw_set M7 ((M7 a0 1).toNatClampNeg) (((198 : Int32) + ((12 : Int32) * v5)) + 8).toNatClampNeg 1) (fun M11 => some M11)))) else (some M7))))))))
theorem cal_X10_readReversed : fw_cal yX10_readReversed (.code yX10_readReversed cX10_readReversed 2 none) 0 := ⟨wc_yX10_readReversed, wini_X10, by decide, by decide, by decide +kernel⟩
set_option maxHeartbeats 4000000 in
set_option maxRecDepth 100000 in
theorem c_X10_readReversed {l : Launch} {G : fw_G} {S : List fw_Sh} {M : fw_Mem} {a0 : Nat} {r : fw_Mem} (hl : l.stackTraces = false) (h : f_X10_readReversed S M a0 = some r) : fw_M l G yX10_readReversed (.code yX10_readReversed cX10_readReversed 2 none) 4 (fw_mcO (.inl none, S, r)) (fw_msO (.inl none, S, r)) S M [.ref a0] (.inl none, S, r) := by
  refine fw_of [(0, .ref a0)] (by decide) (Nat.le_of_ble_eq_true rfl) rfl ?_
  intro p e s m args below meth c C hr hlk hnm ht _
  unfold f_X10_readReversed at h
  refine fw_aload_n C 0 dX10_readReversed_0 rfl rfl ?_
  obtain ⟨g2, h⟩ := gd_some h
  obtain ⟨M1, e1, h⟩ := b1_some h
  refine fw_callV (ci := 10) [] C (c_X10_pass hl e1) cal_X10_pass wm_X10_299 wi_yX10_pass wsl_yX10_pass (Nat.le_of_ble_eq_true rfl) rfl (gO_of g2) rfl (Nat.le_of_ble_eq_true rfl) ⟨Nat.le_of_ble_eq_true rfl, Nat.le_of_ble_eq_true rfl⟩ ⟨Nat.zero_le _, Nat.zero_le _⟩ dX10_readReversed_1 ?_
  refine fw_aload_n C 0 dX10_readReversed_4 rfl rfl ?_
  refine fw_iconst C 0 dX10_readReversed_5 rfl ?_
  refine fw_aload_n C 0 dX10_readReversed_6 rfl rfl ?_
  obtain ⟨g3, h⟩ := gd_some h
  refine fw_getR C 10 1 (Nat.le_of_ble_eq_true rfl) (Nat.le_of_ble_eq_true rfl) wf_X10_13 rfl (gO_of g2) (gN_of g3) dX10_readReversed_7 ?_
  refine fw_iconst C 2 dX10_readReversed_10 rfl ?_
  obtain ⟨g4, h⟩ := gd_some h
  refine fw_iald C (gA_of g4) dX10_readReversed_11 ?_
  refine fw_iconst C 1 dX10_readReversed_12 rfl ?_
  refine fw_isub C dX10_readReversed_13 ?_
  obtain ⟨v5, M5, e5, h⟩ := b2_some h
  refine fw_callV (ci := 10) [_, _] C (c_X10_numberHere hl e5) cal_X10_numberHere wm_X10_303 wi_yX10_numberHere wsl_yX10_numberHere (Nat.le_of_ble_eq_true rfl) rfl (gO_of g2) rfl (Nat.le_of_ble_eq_true rfl) ⟨Nat.le_of_ble_eq_true rfl, Nat.le_of_ble_eq_true rfl⟩ ⟨Nat.zero_le _, Nat.zero_le _⟩ dX10_readReversed_14 ?_
  refine fw_istore_n C [(1, _), (0, _)] dX10_readReversed_17 rfl (Nat.le_of_ble_eq_true rfl) rfl ?_
  refine fw_aload_n C 1 dX10_readReversed_18 rfl rfl ?_
  refine fw_getI C 10 21 (Nat.le_of_ble_eq_true rfl) (Nat.le_of_ble_eq_true rfl) wf_X10_272 rfl (gO_of g2) dX10_readReversed_19 ?_
  refine fw_if_ne C 52 dX10_readReversed_22 (by decide) (fun c6 => ?_) (fun c6 => ?_)
  · replace h := (if_neg c6).symm.trans h
    refine fw_aload_n C 1 dX10_readReversed_52 rfl rfl ?_
    obtain ⟨M7, e7, h⟩ := b1_some h
    refine fw_callV (ci := 10) [] C (c_X10_pass hl e7) cal_X10_pass wm_X10_299 wi_yX10_pass wsl_yX10_pass (Nat.le_of_ble_eq_true rfl) rfl (gO_of g2) rfl (Nat.le_of_ble_eq_true rfl) ⟨Nat.le_of_ble_eq_true rfl, Nat.le_of_ble_eq_true rfl⟩ ⟨Nat.zero_le _, Nat.zero_le _⟩ dX10_readReversed_53 ?_
    refine fw_aload_n C 1 dX10_readReversed_56 rfl rfl ?_
    refine fw_getI C 10 21 (Nat.le_of_ble_eq_true rfl) (Nat.le_of_ble_eq_true rfl) wf_X10_272 rfl (gO_of g2) dX10_readReversed_57 ?_
    refine fw_if_ne C 80 dX10_readReversed_60 (by decide) (fun c8 => ?_) (fun c8 => ?_)
    · replace h := (if_neg c8).symm.trans h
      obtain rfl := Option.some.inj h
      exact fw_vret C hr hlk dX10_readReversed_80
    · replace h := (if_pos c8).symm.trans h
      refine fw_aload_n C 1 dX10_readReversed_63 rfl rfl ?_
      obtain ⟨g9, h⟩ := gd_some h
      refine fw_getR C 10 1 (Nat.le_of_ble_eq_true rfl) (Nat.le_of_ble_eq_true rfl) wf_X10_13 rfl (gO_of g2) (gN_of g9) dX10_readReversed_64 ?_
      refine fw_sipush C 198 dX10_readReversed_67 rfl ?_
      refine fw_bipush C 12 dX10_readReversed_70 rfl ?_
      refine fw_iload_n C 0 dX10_readReversed_72 rfl rfl ?_
      refine fw_imul C dX10_readReversed_73 ?_
      refine fw_iadd C dX10_readReversed_74 ?_
      refine fw_bipush C 8 dX10_readReversed_75 rfl ?_
      refine fw_iadd C dX10_readReversed_77 ?_
      refine fw_iconst C 1 dX10_readReversed_78 rfl ?_
      obtain ⟨g10, h⟩ := gd_some h
      refine fw_iast C (gA_of g10) dX10_readReversed_79 ?_
      refine fw_bm h (fun M11 h => ?_)
      obtain rfl := Option.some.inj h
      exact fw_vret C hr hlk dX10_readReversed_80
  · replace h := (if_pos c6).symm.trans h
    refine fw_aload_n C 1 dX10_readReversed_25 rfl rfl ?_
    refine fw_iload_n C 0 dX10_readReversed_26 rfl rfl ?_
    refine fw_bipush C 6 dX10_readReversed_27 rfl ?_
    obtain ⟨v12, e12, h⟩ := b1_some h
    refine fw_callV (ci := 10) [_, _] C (c_X10_toldOf hl e12) cal_X10_toldOf wm_X10_341 wi_yX10_toldOf wsl_yX10_toldOf (Nat.le_of_ble_eq_true rfl) rfl (gO_of g2) rfl (Nat.le_of_ble_eq_true rfl) ⟨Nat.le_of_ble_eq_true rfl, Nat.le_of_ble_eq_true rfl⟩ ⟨Nat.zero_le _, Nat.zero_le _⟩ dX10_readReversed_29 ?_
    refine fw_iconst C (-1) dX10_readReversed_32 rfl ?_
    refine fw_icmp_eq C 47 dX10_readReversed_33 (by decide) (fun c13 => ?_) (fun c13 => ?_)
    · replace h := (if_pos c13).symm.trans h
      refine fw_aload_n C 1 dX10_readReversed_47 rfl rfl ?_
      refine fw_iconst C 2 dX10_readReversed_48 rfl ?_
      obtain ⟨M14, e14, h⟩ := b1_some h
      refine fw_callV (ci := 10) [_] C (c_X10_wrong hl e14) cal_X10_wrong wm_X10_296 wi_yX10_wrong wsl_yX10_wrong (Nat.le_of_ble_eq_true rfl) rfl (gO_of g2) rfl (Nat.le_of_ble_eq_true rfl) ⟨Nat.le_of_ble_eq_true rfl, Nat.le_of_ble_eq_true rfl⟩ ⟨Nat.zero_le _, Nat.zero_le _⟩ dX10_readReversed_49 ?_
      refine fw_sub [1, 0] rfl ?_
      exact jc_X10_readReversed_52 C hr hlk hl ht rfl h
    · replace h := (if_neg c13).symm.trans h
      refine fw_aload_n C 1 dX10_readReversed_36 rfl rfl ?_
      refine fw_iload_n C 0 dX10_readReversed_37 rfl rfl ?_
      refine fw_bipush C 8 dX10_readReversed_38 rfl ?_
      obtain ⟨v21, e21, h⟩ := b1_some h
      refine fw_callV (ci := 10) [_, _] C (c_X10_toldOf hl e21) cal_X10_toldOf wm_X10_341 wi_yX10_toldOf wsl_yX10_toldOf (Nat.le_of_ble_eq_true rfl) rfl (gO_of g2) rfl (Nat.le_of_ble_eq_true rfl) ⟨Nat.le_of_ble_eq_true rfl, Nat.le_of_ble_eq_true rfl⟩ ⟨Nat.zero_le _, Nat.zero_le _⟩ dX10_readReversed_40 ?_
      refine fw_iconst C 1 dX10_readReversed_43 rfl ?_
      refine fw_icmp_ne C 52 dX10_readReversed_44 (by decide) (fun c22 => ?_) (fun c22 => ?_)
      · replace h := (if_neg c22).symm.trans h
        refine fw_aload_n C 1 dX10_readReversed_52 rfl rfl ?_
        obtain ⟨M23, e23, h⟩ := b1_some h
        refine fw_callV (ci := 10) [] C (c_X10_pass hl e23) cal_X10_pass wm_X10_299 wi_yX10_pass wsl_yX10_pass (Nat.le_of_ble_eq_true rfl) rfl (gO_of g2) rfl (Nat.le_of_ble_eq_true rfl) ⟨Nat.le_of_ble_eq_true rfl, Nat.le_of_ble_eq_true rfl⟩ ⟨Nat.zero_le _, Nat.zero_le _⟩ dX10_readReversed_53 ?_
        refine fw_aload_n C 1 dX10_readReversed_56 rfl rfl ?_
        refine fw_getI C 10 21 (Nat.le_of_ble_eq_true rfl) (Nat.le_of_ble_eq_true rfl) wf_X10_272 rfl (gO_of g2) dX10_readReversed_57 ?_
        refine fw_if_ne C 80 dX10_readReversed_60 (by decide) (fun c24 => ?_) (fun c24 => ?_)
        · replace h := (if_neg c24).symm.trans h
          obtain rfl := Option.some.inj h
          exact fw_vret C hr hlk dX10_readReversed_80
        · replace h := (if_pos c24).symm.trans h
          refine fw_aload_n C 1 dX10_readReversed_63 rfl rfl ?_
          obtain ⟨g25, h⟩ := gd_some h
          refine fw_getR C 10 1 (Nat.le_of_ble_eq_true rfl) (Nat.le_of_ble_eq_true rfl) wf_X10_13 rfl (gO_of g2) (gN_of g25) dX10_readReversed_64 ?_
          refine fw_sipush C 198 dX10_readReversed_67 rfl ?_
          refine fw_bipush C 12 dX10_readReversed_70 rfl ?_
          refine fw_iload_n C 0 dX10_readReversed_72 rfl rfl ?_
          refine fw_imul C dX10_readReversed_73 ?_
          refine fw_iadd C dX10_readReversed_74 ?_
          refine fw_bipush C 8 dX10_readReversed_75 rfl ?_
          refine fw_iadd C dX10_readReversed_77 ?_
          refine fw_iconst C 1 dX10_readReversed_78 rfl ?_
          obtain ⟨g26, h⟩ := gd_some h
          refine fw_iast C (gA_of g26) dX10_readReversed_79 ?_
          refine fw_bm h (fun M27 h => ?_)
          obtain rfl := Option.some.inj h
          exact fw_vret C hr hlk dX10_readReversed_80
      · replace h := (if_pos c22).symm.trans h
        refine fw_aload_n C 1 dX10_readReversed_47 rfl rfl ?_
        refine fw_iconst C 2 dX10_readReversed_48 rfl ?_
        obtain ⟨M28, e28, h⟩ := b1_some h
        refine fw_callV (ci := 10) [_] C (c_X10_wrong hl e28) cal_X10_wrong wm_X10_296 wi_yX10_wrong wsl_yX10_wrong (Nat.le_of_ble_eq_true rfl) rfl (gO_of g2) rfl (Nat.le_of_ble_eq_true rfl) ⟨Nat.le_of_ble_eq_true rfl, Nat.le_of_ble_eq_true rfl⟩ ⟨Nat.zero_le _, Nat.zero_le _⟩ dX10_readReversed_49 ?_
        refine fw_sub [1, 0] rfl ?_
        exact jc_X10_readReversed_52 C hr hlk hl ht rfl h
set_option maxRecDepth 100000 in
def f_X10_readRule (S : List fw_Sh) (M : fw_Mem) (a0 : Nat) (x1 : Int32) (x2 : Int32) (x3 : Int32) : Option fw_Mem := gd (gO S 10 a0) (b1 (f_X10_pass S M a0) (fun M1 => gd (gN (M1 a0 1)) (b2 (f_X10_number S M1 a0 x2 x3) (fun v4 M4 => gd (gA S 0 ((M1 a0 1).toNatClampNeg) ((3 : Int32) + x1)) (bm (fw_set M4 ((M1 a0 1).toNatClampNeg) ((3 : Int32) + x1).toNatClampNeg v4) (fun M6 => some M6))))))
theorem cal_X10_readRule : fw_cal yX10_readRule (.code yX10_readRule cX10_readRule 4 none) 3 := ⟨wc_yX10_readRule, wini_X10, by decide, by decide, by decide +kernel⟩
set_option maxHeartbeats 4000000 in
set_option maxRecDepth 100000 in
theorem c_X10_readRule {l : Launch} {G : fw_G} {S : List fw_Sh} {M : fw_Mem} {a0 : Nat} {x1 : Int32} {x2 : Int32} {x3 : Int32} {r : fw_Mem} (hl : l.stackTraces = false) (h : f_X10_readRule S M a0 x1 x2 x3 = some r) : fw_M l G yX10_readRule (.code yX10_readRule cX10_readRule 4 none) 5 (fw_mcO (.inl none, S, r)) (fw_msO (.inl none, S, r)) S M [.ref a0, .int x1, .int x2, .int x3] (.inl none, S, r) := by
  refine fw_of [(0, .ref a0), (1, .int x1), (2, .int x2), (3, .int x3)] (by decide) (Nat.le_of_ble_eq_true rfl) rfl ?_
  intro p e s m args below meth c C hr hlk hnm ht _
  unfold f_X10_readRule at h
  refine fw_aload_n C 0 dX10_readRule_0 rfl rfl ?_
  obtain ⟨g2, h⟩ := gd_some h
  obtain ⟨M1, e1, h⟩ := b1_some h
  refine fw_callV (ci := 10) [] C (c_X10_pass hl e1) cal_X10_pass wm_X10_299 wi_yX10_pass wsl_yX10_pass (Nat.le_of_ble_eq_true rfl) rfl (gO_of g2) rfl (Nat.le_of_ble_eq_true rfl) ⟨Nat.le_of_ble_eq_true rfl, Nat.le_of_ble_eq_true rfl⟩ ⟨Nat.zero_le _, Nat.zero_le _⟩ dX10_readRule_1 ?_
  refine fw_aload_n C 0 dX10_readRule_4 rfl rfl ?_
  obtain ⟨g3, h⟩ := gd_some h
  refine fw_getR C 10 1 (Nat.le_of_ble_eq_true rfl) (Nat.le_of_ble_eq_true rfl) wf_X10_13 rfl (gO_of g2) (gN_of g3) dX10_readRule_5 ?_
  refine fw_iconst C 3 dX10_readRule_8 rfl ?_
  refine fw_iload_n C 1 dX10_readRule_9 rfl rfl ?_
  refine fw_iadd C dX10_readRule_10 ?_
  refine fw_aload_n C 0 dX10_readRule_11 rfl rfl ?_
  refine fw_iload_n C 2 dX10_readRule_12 rfl rfl ?_
  refine fw_iload_n C 3 dX10_readRule_13 rfl rfl ?_
  obtain ⟨v4, M4, e4, h⟩ := b2_some h
  refine fw_callV (ci := 10) [_, _] C (c_X10_number hl e4) cal_X10_number wm_X10_325 wi_yX10_number wsl_yX10_number (Nat.le_of_ble_eq_true rfl) rfl (gO_of g2) rfl (Nat.le_of_ble_eq_true rfl) ⟨Nat.le_of_ble_eq_true rfl, Nat.le_of_ble_eq_true rfl⟩ ⟨Nat.zero_le _, Nat.zero_le _⟩ dX10_readRule_14 ?_
  obtain ⟨g5, h⟩ := gd_some h
  refine fw_iast C (gA_of g5) dX10_readRule_17 ?_
  refine fw_bm h (fun M6 h => ?_)
  obtain rfl := Option.some.inj h
  exact fw_vret C hr hlk dX10_readRule_18
set_option maxRecDepth 100000 in
def f_X10_readLine (S : List fw_Sh) (M : fw_Mem) (a0 : Nat) : Option fw_Mem := gd (gO S 10 a0) (b1 (f_X10_isWord S M a0 1000023) (fun v1 => if v1 = 0 then (b1 (f_X10_isWord S M a0 1000012) (fun v4 => if v4 = 0 then (b1 (f_X10_isWord S M a0 1000026) (fun v6 => if v6 = 0 then (b1 (f_X10_isWord S M a0 1000028) (fun v8 => if v8 = 0 then (b1 (f_X10_isWord S M a0 1000014) (fun v10 => if v10 = 0 then (b1 (f_X10_isWord S M a0 1000025) (fun v12 => if v12 = 0 then (b1 (f_X10_isWord S M a0 1000027) (fun v14 => if v14 = 0 then (b1 (f_X10_isWord S M a0 1000017) (fun v16 => if v16 = 0 then (b1 (f_X10_isWord S M a0 1000006) (fun v18 => if v18 = 0 then (b1 (f_X10_wrong S M a0 1) (fun M20 => b1 (f_X10_must S M20 a0 59) (fun M21 => some M21))) else (b1 (f_X10_readRule S M a0 2 0 1) (fun M22 => b1 (f_X10_must S M22 a0 59) (fun M23 => some M23))))) else (b1 (f_X10_readRule S M a0 1 0 2) (fun M24 => b1 (f_X10_must S M24 a0 59) (fun M25 => some M25))))) else (b1 (f_X10_readRule S M a0 0 1 100) (fun M26 => b1 (f_X10_must S M26 a0 59) (fun M27 => some M27))))) else (b1 (f_X10_readReversed S M a0) (fun M28 => b1 (f_X10_must S M28 a0 59) (fun M29 => some M29))))) else (b1 (f_X10_readJudged S M a0) (fun M30 => b1 (f_X10_must S M30 a0 59) (fun M31 => some M31))))) else (b1 (f_X10_readSuit S M a0) (fun M32 => b1 (f_X10_must S M32 a0 59) (fun M33 => some M33))))) else (b1 (f_X10_readLink S M a0 1) (fun M34 => b1 (f_X10_must S M34 a0 59) (fun M35 => some M35))))) else (b1 (f_X10_readLink S M a0 0) (fun M36 => b1 (f_X10_must S M36 a0 59) (fun M37 => some M37))))) else (b1 (f_X10_readPerson S M a0) (fun M38 => b1 (f_X10_must S M38 a0 59) (fun M39 => some M39)))))
theorem cal_X10_readLine : fw_cal yX10_readLine (.code yX10_readLine cX10_readLine 1 none) 0 := ⟨wc_yX10_readLine, wini_X10, by decide, by decide, by decide +kernel⟩
set_option maxHeartbeats 4000000 in
set_option maxRecDepth 100000 in
theorem c_X10_readLine {l : Launch} {G : fw_G} {S : List fw_Sh} {M : fw_Mem} {a0 : Nat} {r : fw_Mem} (hl : l.stackTraces = false) (h : f_X10_readLine S M a0 = some r) : fw_M l G yX10_readLine (.code yX10_readLine cX10_readLine 1 none) 11 (fw_mcO (.inl none, S, r)) (fw_msO (.inl none, S, r)) S M [.ref a0] (.inl none, S, r) := by
  refine fw_of [(0, .ref a0)] (by decide) (Nat.le_of_ble_eq_true rfl) rfl ?_
  intro p e s m args below meth c C hr hlk hnm ht _
  unfold f_X10_readLine at h
  refine fw_aload_n C 0 dX10_readLine_0 rfl rfl ?_
  refine fw_ldcSw C (i := 22) (List.mem_of_getElem? (i := 58) rfl) dX10_readLine_1 ?_
  obtain ⟨g2, h⟩ := gd_some h
  obtain ⟨v1, e1, h⟩ := b1_some h
  refine fw_callV (ci := 10) [_] C (c_X10_isWord hl e1) cal_X10_isWord wm_X10_308 wi_yX10_isWord wsl_yX10_isWord (Nat.le_of_ble_eq_true rfl) rfl (gO_of g2) rfl (Nat.le_of_ble_eq_true rfl) ⟨Nat.le_of_ble_eq_true rfl, Nat.le_of_ble_eq_true rfl⟩ ⟨Nat.zero_le _, Nat.zero_le _⟩ dX10_readLine_4 ?_
  refine fw_if_eq C 17 dX10_readLine_7 (by decide) (fun c3 => ?_) (fun c3 => ?_)
  · replace h := (if_pos c3).symm.trans h
    refine fw_aload_n C 0 dX10_readLine_17 rfl rfl ?_
    refine fw_ldcSw C (i := 11) (List.mem_of_getElem? (i := 59) rfl) dX10_readLine_18 ?_
    obtain ⟨v4, e4, h⟩ := b1_some h
    refine fw_callV (ci := 10) [_] C (c_X10_isWord hl e4) cal_X10_isWord wm_X10_308 wi_yX10_isWord wsl_yX10_isWord (Nat.le_of_ble_eq_true rfl) rfl (gO_of g2) rfl (Nat.le_of_ble_eq_true rfl) ⟨Nat.le_of_ble_eq_true rfl, Nat.le_of_ble_eq_true rfl⟩ ⟨Nat.zero_le _, Nat.zero_le _⟩ dX10_readLine_21 ?_
    refine fw_if_eq C 35 dX10_readLine_24 (by decide) (fun c5 => ?_) (fun c5 => ?_)
    · replace h := (if_pos c5).symm.trans h
      refine fw_aload_n C 0 dX10_readLine_35 rfl rfl ?_
      refine fw_ldcSw C (i := 25) (List.mem_of_getElem? (i := 60) rfl) dX10_readLine_36 ?_
      obtain ⟨v6, e6, h⟩ := b1_some h
      refine fw_callV (ci := 10) [_] C (c_X10_isWord hl e6) cal_X10_isWord wm_X10_308 wi_yX10_isWord wsl_yX10_isWord (Nat.le_of_ble_eq_true rfl) rfl (gO_of g2) rfl (Nat.le_of_ble_eq_true rfl) ⟨Nat.le_of_ble_eq_true rfl, Nat.le_of_ble_eq_true rfl⟩ ⟨Nat.zero_le _, Nat.zero_le _⟩ dX10_readLine_39 ?_
      refine fw_if_eq C 53 dX10_readLine_42 (by decide) (fun c7 => ?_) (fun c7 => ?_)
      · replace h := (if_pos c7).symm.trans h
        refine fw_aload_n C 0 dX10_readLine_53 rfl rfl ?_
        refine fw_ldcSw C (i := 27) (List.mem_of_getElem? (i := 61) rfl) dX10_readLine_54 ?_
        obtain ⟨v8, e8, h⟩ := b1_some h
        refine fw_callV (ci := 10) [_] C (c_X10_isWord hl e8) cal_X10_isWord wm_X10_308 wi_yX10_isWord wsl_yX10_isWord (Nat.le_of_ble_eq_true rfl) rfl (gO_of g2) rfl (Nat.le_of_ble_eq_true rfl) ⟨Nat.le_of_ble_eq_true rfl, Nat.le_of_ble_eq_true rfl⟩ ⟨Nat.zero_le _, Nat.zero_le _⟩ dX10_readLine_57 ?_
        refine fw_if_eq C 70 dX10_readLine_60 (by decide) (fun c9 => ?_) (fun c9 => ?_)
        · replace h := (if_pos c9).symm.trans h
          refine fw_aload_n C 0 dX10_readLine_70 rfl rfl ?_
          refine fw_ldcSw C (i := 13) (List.mem_of_getElem? (i := 65) rfl) dX10_readLine_71 ?_
          obtain ⟨v10, e10, h⟩ := b1_some h
          refine fw_callV (ci := 10) [_] C (c_X10_isWord hl e10) cal_X10_isWord wm_X10_308 wi_yX10_isWord wsl_yX10_isWord (Nat.le_of_ble_eq_true rfl) rfl (gO_of g2) rfl (Nat.le_of_ble_eq_true rfl) ⟨Nat.le_of_ble_eq_true rfl, Nat.le_of_ble_eq_true rfl⟩ ⟨Nat.zero_le _, Nat.zero_le _⟩ dX10_readLine_74 ?_
          refine fw_if_eq C 87 dX10_readLine_77 (by decide) (fun c11 => ?_) (fun c11 => ?_)
          · replace h := (if_pos c11).symm.trans h
            refine fw_aload_n C 0 dX10_readLine_87 rfl rfl ?_
            refine fw_ldcSw C (i := 24) (List.mem_of_getElem? (i := 71) rfl) dX10_readLine_88 ?_
            obtain ⟨v12, e12, h⟩ := b1_some h
            refine fw_callV (ci := 10) [_] C (c_X10_isWord hl e12) cal_X10_isWord wm_X10_308 wi_yX10_isWord wsl_yX10_isWord (Nat.le_of_ble_eq_true rfl) rfl (gO_of g2) rfl (Nat.le_of_ble_eq_true rfl) ⟨Nat.le_of_ble_eq_true rfl, Nat.le_of_ble_eq_true rfl⟩ ⟨Nat.zero_le _, Nat.zero_le _⟩ dX10_readLine_91 ?_
            refine fw_if_eq C 104 dX10_readLine_94 (by decide) (fun c13 => ?_) (fun c13 => ?_)
            · replace h := (if_pos c13).symm.trans h
              refine fw_aload_n C 0 dX10_readLine_104 rfl rfl ?_
              refine fw_ldcSw C (i := 26) (List.mem_of_getElem? (i := 72) rfl) dX10_readLine_105 ?_
              obtain ⟨v14, e14, h⟩ := b1_some h
              refine fw_callV (ci := 10) [_] C (c_X10_isWord hl e14) cal_X10_isWord wm_X10_308 wi_yX10_isWord wsl_yX10_isWord (Nat.le_of_ble_eq_true rfl) rfl (gO_of g2) rfl (Nat.le_of_ble_eq_true rfl) ⟨Nat.le_of_ble_eq_true rfl, Nat.le_of_ble_eq_true rfl⟩ ⟨Nat.zero_le _, Nat.zero_le _⟩ dX10_readLine_108 ?_
              refine fw_if_eq C 125 dX10_readLine_111 (by decide) (fun c15 => ?_) (fun c15 => ?_)
              · replace h := (if_pos c15).symm.trans h
                refine fw_aload_n C 0 dX10_readLine_125 rfl rfl ?_
                refine fw_ldcSw C (i := 16) (List.mem_of_getElem? (i := 73) rfl) dX10_readLine_126 ?_
                obtain ⟨v16, e16, h⟩ := b1_some h
                refine fw_callV (ci := 10) [_] C (c_X10_isWord hl e16) cal_X10_isWord wm_X10_308 wi_yX10_isWord wsl_yX10_isWord (Nat.le_of_ble_eq_true rfl) rfl (gO_of g2) rfl (Nat.le_of_ble_eq_true rfl) ⟨Nat.le_of_ble_eq_true rfl, Nat.le_of_ble_eq_true rfl⟩ ⟨Nat.zero_le _, Nat.zero_le _⟩ dX10_readLine_129 ?_
                refine fw_if_eq C 145 dX10_readLine_132 (by decide) (fun c17 => ?_) (fun c17 => ?_)
                · replace h := (if_pos c17).symm.trans h
                  refine fw_aload_n C 0 dX10_readLine_145 rfl rfl ?_
                  refine fw_ldcSw C (i := 5) (List.mem_of_getElem? (i := 74) rfl) dX10_readLine_146 ?_
                  obtain ⟨v18, e18, h⟩ := b1_some h
                  refine fw_callV (ci := 10) [_] C (c_X10_isWord hl e18) cal_X10_isWord wm_X10_308 wi_yX10_isWord wsl_yX10_isWord (Nat.le_of_ble_eq_true rfl) rfl (gO_of g2) rfl (Nat.le_of_ble_eq_true rfl) ⟨Nat.le_of_ble_eq_true rfl, Nat.le_of_ble_eq_true rfl⟩ ⟨Nat.zero_le _, Nat.zero_le _⟩ dX10_readLine_149 ?_
                  refine fw_if_eq C 165 dX10_readLine_152 (by decide) (fun c19 => ?_) (fun c19 => ?_)
                  · replace h := (if_pos c19).symm.trans h
                    refine fw_aload_n C 0 dX10_readLine_165 rfl rfl ?_
                    refine fw_iconst C 1 dX10_readLine_166 rfl ?_
                    obtain ⟨M20, e20, h⟩ := b1_some h
                    refine fw_callV (ci := 10) [_] C (c_X10_wrong hl e20) cal_X10_wrong wm_X10_296 wi_yX10_wrong wsl_yX10_wrong (Nat.le_of_ble_eq_true rfl) rfl (gO_of g2) rfl (Nat.le_of_ble_eq_true rfl) ⟨Nat.le_of_ble_eq_true rfl, Nat.le_of_ble_eq_true rfl⟩ ⟨Nat.zero_le _, Nat.zero_le _⟩ dX10_readLine_167 ?_
                    refine fw_aload_n C 0 dX10_readLine_170 rfl rfl ?_
                    refine fw_bipush C 59 dX10_readLine_171 rfl ?_
                    obtain ⟨M21, e21, h⟩ := b1_some h
                    refine fw_callV (ci := 10) [_] C (c_X10_must hl e21) cal_X10_must wm_X10_389 wi_yX10_must wsl_yX10_must (Nat.le_of_ble_eq_true rfl) rfl (gO_of g2) rfl (Nat.le_of_ble_eq_true rfl) ⟨Nat.le_of_ble_eq_true rfl, Nat.le_of_ble_eq_true rfl⟩ ⟨Nat.zero_le _, Nat.zero_le _⟩ dX10_readLine_173 ?_
                    obtain rfl := Option.some.inj h
                    exact fw_vret C hr hlk dX10_readLine_176
                  · replace h := (if_neg c19).symm.trans h
                    refine fw_aload_n C 0 dX10_readLine_155 rfl rfl ?_
                    refine fw_iconst C 2 dX10_readLine_156 rfl ?_
                    refine fw_iconst C 0 dX10_readLine_157 rfl ?_
                    refine fw_iconst C 1 dX10_readLine_158 rfl ?_
                    obtain ⟨M22, e22, h⟩ := b1_some h
                    refine fw_callV (ci := 10) [_, _, _] C (c_X10_readRule hl e22) cal_X10_readRule wm_X10_382 wi_yX10_readRule wsl_yX10_readRule (Nat.le_of_ble_eq_true rfl) rfl (gO_of g2) rfl (Nat.le_of_ble_eq_true rfl) ⟨Nat.le_of_ble_eq_true rfl, Nat.le_of_ble_eq_true rfl⟩ ⟨Nat.zero_le _, Nat.zero_le _⟩ dX10_readLine_159 ?_
                    refine fw_goto C 170 dX10_readLine_162 (by decide) ?_
                    refine fw_aload_n C 0 dX10_readLine_170 rfl rfl ?_
                    refine fw_bipush C 59 dX10_readLine_171 rfl ?_
                    obtain ⟨M23, e23, h⟩ := b1_some h
                    refine fw_callV (ci := 10) [_] C (c_X10_must hl e23) cal_X10_must wm_X10_389 wi_yX10_must wsl_yX10_must (Nat.le_of_ble_eq_true rfl) rfl (gO_of g2) rfl (Nat.le_of_ble_eq_true rfl) ⟨Nat.le_of_ble_eq_true rfl, Nat.le_of_ble_eq_true rfl⟩ ⟨Nat.zero_le _, Nat.zero_le _⟩ dX10_readLine_173 ?_
                    obtain rfl := Option.some.inj h
                    exact fw_vret C hr hlk dX10_readLine_176
                · replace h := (if_neg c17).symm.trans h
                  refine fw_aload_n C 0 dX10_readLine_135 rfl rfl ?_
                  refine fw_iconst C 1 dX10_readLine_136 rfl ?_
                  refine fw_iconst C 0 dX10_readLine_137 rfl ?_
                  refine fw_iconst C 2 dX10_readLine_138 rfl ?_
                  obtain ⟨M24, e24, h⟩ := b1_some h
                  refine fw_callV (ci := 10) [_, _, _] C (c_X10_readRule hl e24) cal_X10_readRule wm_X10_382 wi_yX10_readRule wsl_yX10_readRule (Nat.le_of_ble_eq_true rfl) rfl (gO_of g2) rfl (Nat.le_of_ble_eq_true rfl) ⟨Nat.le_of_ble_eq_true rfl, Nat.le_of_ble_eq_true rfl⟩ ⟨Nat.zero_le _, Nat.zero_le _⟩ dX10_readLine_139 ?_
                  refine fw_goto C 170 dX10_readLine_142 (by decide) ?_
                  refine fw_aload_n C 0 dX10_readLine_170 rfl rfl ?_
                  refine fw_bipush C 59 dX10_readLine_171 rfl ?_
                  obtain ⟨M25, e25, h⟩ := b1_some h
                  refine fw_callV (ci := 10) [_] C (c_X10_must hl e25) cal_X10_must wm_X10_389 wi_yX10_must wsl_yX10_must (Nat.le_of_ble_eq_true rfl) rfl (gO_of g2) rfl (Nat.le_of_ble_eq_true rfl) ⟨Nat.le_of_ble_eq_true rfl, Nat.le_of_ble_eq_true rfl⟩ ⟨Nat.zero_le _, Nat.zero_le _⟩ dX10_readLine_173 ?_
                  obtain rfl := Option.some.inj h
                  exact fw_vret C hr hlk dX10_readLine_176
              · replace h := (if_neg c15).symm.trans h
                refine fw_aload_n C 0 dX10_readLine_114 rfl rfl ?_
                refine fw_iconst C 0 dX10_readLine_115 rfl ?_
                refine fw_iconst C 1 dX10_readLine_116 rfl ?_
                refine fw_bipush C 100 dX10_readLine_117 rfl ?_
                obtain ⟨M26, e26, h⟩ := b1_some h
                refine fw_callV (ci := 10) [_, _, _] C (c_X10_readRule hl e26) cal_X10_readRule wm_X10_382 wi_yX10_readRule wsl_yX10_readRule (Nat.le_of_ble_eq_true rfl) rfl (gO_of g2) rfl (Nat.le_of_ble_eq_true rfl) ⟨Nat.le_of_ble_eq_true rfl, Nat.le_of_ble_eq_true rfl⟩ ⟨Nat.zero_le _, Nat.zero_le _⟩ dX10_readLine_119 ?_
                refine fw_goto C 170 dX10_readLine_122 (by decide) ?_
                refine fw_aload_n C 0 dX10_readLine_170 rfl rfl ?_
                refine fw_bipush C 59 dX10_readLine_171 rfl ?_
                obtain ⟨M27, e27, h⟩ := b1_some h
                refine fw_callV (ci := 10) [_] C (c_X10_must hl e27) cal_X10_must wm_X10_389 wi_yX10_must wsl_yX10_must (Nat.le_of_ble_eq_true rfl) rfl (gO_of g2) rfl (Nat.le_of_ble_eq_true rfl) ⟨Nat.le_of_ble_eq_true rfl, Nat.le_of_ble_eq_true rfl⟩ ⟨Nat.zero_le _, Nat.zero_le _⟩ dX10_readLine_173 ?_
                obtain rfl := Option.some.inj h
                exact fw_vret C hr hlk dX10_readLine_176
            · replace h := (if_neg c13).symm.trans h
              refine fw_aload_n C 0 dX10_readLine_97 rfl rfl ?_
              obtain ⟨M28, e28, h⟩ := b1_some h
              refine fw_callV (ci := 10) [] C (c_X10_readReversed hl e28) cal_X10_readReversed wm_X10_377 wi_yX10_readReversed wsl_yX10_readReversed (Nat.le_of_ble_eq_true rfl) rfl (gO_of g2) rfl (Nat.le_of_ble_eq_true rfl) ⟨Nat.le_of_ble_eq_true rfl, Nat.le_of_ble_eq_true rfl⟩ ⟨Nat.zero_le _, Nat.zero_le _⟩ dX10_readLine_98 ?_
              refine fw_goto C 170 dX10_readLine_101 (by decide) ?_
              refine fw_aload_n C 0 dX10_readLine_170 rfl rfl ?_
              refine fw_bipush C 59 dX10_readLine_171 rfl ?_
              obtain ⟨M29, e29, h⟩ := b1_some h
              refine fw_callV (ci := 10) [_] C (c_X10_must hl e29) cal_X10_must wm_X10_389 wi_yX10_must wsl_yX10_must (Nat.le_of_ble_eq_true rfl) rfl (gO_of g2) rfl (Nat.le_of_ble_eq_true rfl) ⟨Nat.le_of_ble_eq_true rfl, Nat.le_of_ble_eq_true rfl⟩ ⟨Nat.zero_le _, Nat.zero_le _⟩ dX10_readLine_173 ?_
              obtain rfl := Option.some.inj h
              exact fw_vret C hr hlk dX10_readLine_176
          · replace h := (if_neg c11).symm.trans h
            refine fw_aload_n C 0 dX10_readLine_80 rfl rfl ?_
            obtain ⟨M30, e30, h⟩ := b1_some h
            refine fw_callV (ci := 10) [] C (c_X10_readJudged hl e30) cal_X10_readJudged wm_X10_372 wi_yX10_readJudged wsl_yX10_readJudged (Nat.le_of_ble_eq_true rfl) rfl (gO_of g2) rfl (Nat.le_of_ble_eq_true rfl) ⟨Nat.le_of_ble_eq_true rfl, Nat.le_of_ble_eq_true rfl⟩ ⟨Nat.zero_le _, Nat.zero_le _⟩ dX10_readLine_81 ?_
            refine fw_goto C 170 dX10_readLine_84 (by decide) ?_
            refine fw_aload_n C 0 dX10_readLine_170 rfl rfl ?_
            refine fw_bipush C 59 dX10_readLine_171 rfl ?_
            obtain ⟨M31, e31, h⟩ := b1_some h
            refine fw_callV (ci := 10) [_] C (c_X10_must hl e31) cal_X10_must wm_X10_389 wi_yX10_must wsl_yX10_must (Nat.le_of_ble_eq_true rfl) rfl (gO_of g2) rfl (Nat.le_of_ble_eq_true rfl) ⟨Nat.le_of_ble_eq_true rfl, Nat.le_of_ble_eq_true rfl⟩ ⟨Nat.zero_le _, Nat.zero_le _⟩ dX10_readLine_173 ?_
            obtain rfl := Option.some.inj h
            exact fw_vret C hr hlk dX10_readLine_176
        · replace h := (if_neg c9).symm.trans h
          refine fw_aload_n C 0 dX10_readLine_63 rfl rfl ?_
          obtain ⟨M32, e32, h⟩ := b1_some h
          refine fw_callV (ci := 10) [] C (c_X10_readSuit hl e32) cal_X10_readSuit wm_X10_367 wi_yX10_readSuit wsl_yX10_readSuit (Nat.le_of_ble_eq_true rfl) rfl (gO_of g2) rfl (Nat.le_of_ble_eq_true rfl) ⟨Nat.le_of_ble_eq_true rfl, Nat.le_of_ble_eq_true rfl⟩ ⟨Nat.zero_le _, Nat.zero_le _⟩ dX10_readLine_64 ?_
          refine fw_goto C 170 dX10_readLine_67 (by decide) ?_
          refine fw_aload_n C 0 dX10_readLine_170 rfl rfl ?_
          refine fw_bipush C 59 dX10_readLine_171 rfl ?_
          obtain ⟨M33, e33, h⟩ := b1_some h
          refine fw_callV (ci := 10) [_] C (c_X10_must hl e33) cal_X10_must wm_X10_389 wi_yX10_must wsl_yX10_must (Nat.le_of_ble_eq_true rfl) rfl (gO_of g2) rfl (Nat.le_of_ble_eq_true rfl) ⟨Nat.le_of_ble_eq_true rfl, Nat.le_of_ble_eq_true rfl⟩ ⟨Nat.zero_le _, Nat.zero_le _⟩ dX10_readLine_173 ?_
          obtain rfl := Option.some.inj h
          exact fw_vret C hr hlk dX10_readLine_176
      · replace h := (if_neg c7).symm.trans h
        refine fw_aload_n C 0 dX10_readLine_45 rfl rfl ?_
        refine fw_iconst C 1 dX10_readLine_46 rfl ?_
        obtain ⟨M34, e34, h⟩ := b1_some h
        refine fw_callV (ci := 10) [_] C (c_X10_readLink hl e34) cal_X10_readLink wm_X10_359 wi_yX10_readLink wsl_yX10_readLink (Nat.le_of_ble_eq_true rfl) rfl (gO_of g2) rfl (Nat.le_of_ble_eq_true rfl) ⟨Nat.le_of_ble_eq_true rfl, Nat.le_of_ble_eq_true rfl⟩ ⟨Nat.zero_le _, Nat.zero_le _⟩ dX10_readLine_47 ?_
        refine fw_goto C 170 dX10_readLine_50 (by decide) ?_
        refine fw_aload_n C 0 dX10_readLine_170 rfl rfl ?_
        refine fw_bipush C 59 dX10_readLine_171 rfl ?_
        obtain ⟨M35, e35, h⟩ := b1_some h
        refine fw_callV (ci := 10) [_] C (c_X10_must hl e35) cal_X10_must wm_X10_389 wi_yX10_must wsl_yX10_must (Nat.le_of_ble_eq_true rfl) rfl (gO_of g2) rfl (Nat.le_of_ble_eq_true rfl) ⟨Nat.le_of_ble_eq_true rfl, Nat.le_of_ble_eq_true rfl⟩ ⟨Nat.zero_le _, Nat.zero_le _⟩ dX10_readLine_173 ?_
        obtain rfl := Option.some.inj h
        exact fw_vret C hr hlk dX10_readLine_176
    · replace h := (if_neg c5).symm.trans h
      refine fw_aload_n C 0 dX10_readLine_27 rfl rfl ?_
      refine fw_iconst C 0 dX10_readLine_28 rfl ?_
      obtain ⟨M36, e36, h⟩ := b1_some h
      refine fw_callV (ci := 10) [_] C (c_X10_readLink hl e36) cal_X10_readLink wm_X10_359 wi_yX10_readLink wsl_yX10_readLink (Nat.le_of_ble_eq_true rfl) rfl (gO_of g2) rfl (Nat.le_of_ble_eq_true rfl) ⟨Nat.le_of_ble_eq_true rfl, Nat.le_of_ble_eq_true rfl⟩ ⟨Nat.zero_le _, Nat.zero_le _⟩ dX10_readLine_29 ?_
      refine fw_goto C 170 dX10_readLine_32 (by decide) ?_
      refine fw_aload_n C 0 dX10_readLine_170 rfl rfl ?_
      refine fw_bipush C 59 dX10_readLine_171 rfl ?_
      obtain ⟨M37, e37, h⟩ := b1_some h
      refine fw_callV (ci := 10) [_] C (c_X10_must hl e37) cal_X10_must wm_X10_389 wi_yX10_must wsl_yX10_must (Nat.le_of_ble_eq_true rfl) rfl (gO_of g2) rfl (Nat.le_of_ble_eq_true rfl) ⟨Nat.le_of_ble_eq_true rfl, Nat.le_of_ble_eq_true rfl⟩ ⟨Nat.zero_le _, Nat.zero_le _⟩ dX10_readLine_173 ?_
      obtain rfl := Option.some.inj h
      exact fw_vret C hr hlk dX10_readLine_176
  · replace h := (if_neg c3).symm.trans h
    refine fw_aload_n C 0 dX10_readLine_10 rfl rfl ?_
    obtain ⟨M38, e38, h⟩ := b1_some h
    refine fw_callV (ci := 10) [] C (c_X10_readPerson hl e38) cal_X10_readPerson wm_X10_354 wi_yX10_readPerson wsl_yX10_readPerson (Nat.le_of_ble_eq_true rfl) rfl (gO_of g2) rfl (Nat.le_of_ble_eq_true rfl) ⟨Nat.le_of_ble_eq_true rfl, Nat.le_of_ble_eq_true rfl⟩ ⟨Nat.zero_le _, Nat.zero_le _⟩ dX10_readLine_11 ?_
    refine fw_goto C 170 dX10_readLine_14 (by decide) ?_
    refine fw_aload_n C 0 dX10_readLine_170 rfl rfl ?_
    refine fw_bipush C 59 dX10_readLine_171 rfl ?_
    obtain ⟨M39, e39, h⟩ := b1_some h
    refine fw_callV (ci := 10) [_] C (c_X10_must hl e39) cal_X10_must wm_X10_389 wi_yX10_must wsl_yX10_must (Nat.le_of_ble_eq_true rfl) rfl (gO_of g2) rfl (Nat.le_of_ble_eq_true rfl) ⟨Nat.le_of_ble_eq_true rfl, Nat.le_of_ble_eq_true rfl⟩ ⟨Nat.zero_le _, Nat.zero_le _⟩ dX10_readLine_173 ?_
    obtain rfl := Option.some.inj h
    exact fw_vret C hr hlk dX10_readLine_176
set_option maxRecDepth 100000 in
def lf_X10_desk_35 (S : List fw_Sh) (a0 : Nat) : Nat → fw_Mem → Option (fw_Mem)
  | 0, _ => none
  | n + 1, M => gd (gO S 10 a0) (if (M a0 21) = 0 then (if (M a0 18) = 0 then (some M) else (b1 (f_X10_readLine S M a0) (fun M12 => lf_X10_desk_35 S a0 n M12))) else (some M))
set_option maxHeartbeats 4000000 in
set_option maxRecDepth 100000 in
theorem lc_X10_desk_35 {G : fw_G} {p : Program} {l : Launch} {e : Env} {s : State} {m : MethodId} {args : Array Value} {below : List Frame} {meth : Method} {c : Code} {S : List fw_Sh} {o : fw_O} {a0 : Nat} (C : fw_C G RX10 cX10_desk 3 p s m args c) (hr : meth.sig.returnType = (some .int)) (hlk : meth.locks = false) (hl : l.stackTraces = false) (ht : ∀ x ∈ c.exceptionTable.toList, False) :
    ∀ {n : Nat} {M : fw_Mem} {r : (fw_Mem)} (h : lf_X10_desk_35 S a0 n M = some r) (kx : fw_W G p l e (fw_rm 12 (fw_mcO o) (fw_msO o)) s m args below meth c 3 (fw_Z G below args s (fw_mcO o) (fw_msO o) o) 0 0 56 [(0, .ref a0)] [] S r), fw_W G p l e (fw_rm 12 (fw_mcO o) (fw_msO o)) s m args below meth c 3 (fw_Z G below args s (fw_mcO o) (fw_msO o) o) 0 0 35 [(0, .ref a0)] [] S M := by
  intro n
  induction n with
  | zero =>
    intro M r h
    exact nomatch (show (none : Option (fw_Mem)) = some r from h)
  | succ n ih =>
    intro M r h kx
    rw [lf_X10_desk_35.eq_2] at h
    refine fw_aload_n C 0 dX10_desk_35 rfl rfl ?_
    obtain ⟨g9, h⟩ := gd_some h
    refine fw_getI C 10 21 (Nat.le_of_ble_eq_true rfl) (Nat.le_of_ble_eq_true rfl) wf_X10_272 rfl (gO_of g9) dX10_desk_36 ?_
    refine fw_if_ne C 56 dX10_desk_39 (by decide) (fun c10 => ?_) (fun c10 => ?_)
    · replace h := (if_neg c10).symm.trans h
      obtain rfl := Option.some.inj h
      exact kx
    · replace h := (if_pos c10).symm.trans h
      refine fw_aload_n C 0 dX10_desk_42 rfl rfl ?_
      refine fw_getI C 10 18 (Nat.le_of_ble_eq_true rfl) (Nat.le_of_ble_eq_true rfl) wf_X10_260 rfl (gO_of g9) dX10_desk_43 ?_
      refine fw_if_eq C 56 dX10_desk_46 (by decide) (fun c11 => ?_) (fun c11 => ?_)
      · replace h := (if_pos c11).symm.trans h
        obtain rfl := Option.some.inj h
        exact kx
      · replace h := (if_neg c11).symm.trans h
        refine fw_aload_n C 0 dX10_desk_49 rfl rfl ?_
        obtain ⟨M12, e12, h⟩ := b1_some h
        refine fw_callV (ci := 10) [] C (c_X10_readLine hl e12) cal_X10_readLine wm_X10_395 wi_yX10_readLine wsl_yX10_readLine (Nat.le_of_ble_eq_true rfl) rfl (gO_of g9) rfl (Nat.le_of_ble_eq_true rfl) ⟨Nat.le_of_ble_eq_true rfl, Nat.le_of_ble_eq_true rfl⟩ ⟨Nat.zero_le _, Nat.zero_le _⟩ dX10_desk_50 ?_
        refine fw_goto C 35 dX10_desk_53 (by decide) ?_
        exact ih h kx
set_option maxRecDepth 100000 in
def f_X10_desk (S : List fw_Sh) (M : fw_Mem) (a0 : Nat) (x1 : Int32) : Option (Int32 × fw_Mem) := gd (gO S 10 a0) (bm (fw_set M a0 6 0) (fun M2 => if x1 < 0 then (b2 (f_X10_fail S M2 a0 1) (fun v4 M4 => some (v4, M4))) else (if x1 ≤ (M2 a0 15) then (gd (gN (M2 a0 1)) (b1 (f_X10_bare S M2 ((M2 a0 1).toNatClampNeg)) (fun M7 => b1 (f_X10_opens S M7 a0 x1) (fun M8 => b1 (lf_X10_desk_35 S a0 20000 M8) (fun l13 => b2 (f_X10_ends S l13 a0) (fun v14 M14 => if v14 = 0 then (gd (gN (M14 a0 0)) (gd (gN (M14 a0 1)) (b1 (f_X10_copy S M14 ((M14 a0 0).toNatClampNeg) ((M14 a0 1).toNatClampNeg)) (fun M18 => bm (fw_set M18 a0 5 0) (fun M19 => b1 (f_X10_suits S M19 a0) (fun v20 => some (v20, M19))))))) else (some ((((-10) : Int32) - v14), M14)))))))) else (b2 (f_X10_fail S M2 a0 1) (fun v21 M21 => some (v21, M21))))))
theorem cal_X10_desk : fw_cal yX10_desk (.code yX10_desk cX10_desk 3 (some .int)) 1 := ⟨wc_yX10_desk, wini_X10, by decide, by decide, by decide +kernel⟩
set_option maxHeartbeats 4000000 in
set_option maxRecDepth 100000 in
theorem c_X10_desk {l : Launch} {G : fw_G} {S : List fw_Sh} {M : fw_Mem} {a0 : Nat} {x1 : Int32} {r : (Int32 × fw_Mem)} (hl : l.stackTraces = false) (h : f_X10_desk S M a0 x1 = some r) : fw_M l G yX10_desk (.code yX10_desk cX10_desk 3 (some .int)) 12 (fw_mcO (.inl (some (.int r.1)), S, r.2)) (fw_msO (.inl (some (.int r.1)), S, r.2)) S M [.ref a0, .int x1] (.inl (some (.int r.1)), S, r.2) := by
  refine fw_of [(0, .ref a0), (1, .int x1)] (by decide) (Nat.le_of_ble_eq_true rfl) rfl ?_
  intro p e s m args below meth c C hr hlk hnm ht _
  unfold f_X10_desk at h
  refine fw_aload_n C 0 dX10_desk_0 rfl rfl ?_
  refine fw_iconst C 0 dX10_desk_1 rfl ?_
  obtain ⟨g1, h⟩ := gd_some h
  refine fw_putI C 10 6 (Nat.le_of_ble_eq_true rfl) (Nat.le_of_ble_eq_true rfl) wf_X10_51 rfl rfl rfl rfl (gO_of g1) dX10_desk_2 ?_
  refine fw_bm h (fun M2 h => ?_)
  refine fw_iload_n C 1 dX10_desk_5 rfl rfl ?_
  refine fw_if_lt C 17 dX10_desk_6 (by decide) (fun c3 => ?_) (fun c3 => ?_)
  · replace h := (if_pos c3).symm.trans h
    refine fw_aload_n C 0 dX10_desk_17 rfl rfl ?_
    refine fw_iconst C 1 dX10_desk_18 rfl ?_
    obtain ⟨v4, M4, e4, h⟩ := b2_some h
    refine fw_callV (ci := 10) [_] C (c_X10_fail hl e4) cal_X10_fail wm_X10_171 wi_yX10_fail wsl_yX10_fail (Nat.le_of_ble_eq_true rfl) rfl (gO_of g1) rfl (Nat.le_of_ble_eq_true rfl) ⟨Nat.le_of_ble_eq_true rfl, Nat.le_of_ble_eq_true rfl⟩ ⟨Nat.zero_le _, Nat.zero_le _⟩ dX10_desk_19 ?_
    obtain rfl := Option.some.inj h
    exact fw_iret C hr hlk dX10_desk_22
  · replace h := (if_neg c3).symm.trans h
    refine fw_iload_n C 1 dX10_desk_9 rfl rfl ?_
    refine fw_aload_n C 0 dX10_desk_10 rfl rfl ?_
    refine fw_getI C 10 15 (Nat.le_of_ble_eq_true rfl) (Nat.le_of_ble_eq_true rfl) wf_X10_165 rfl (gO_of g1) dX10_desk_11 ?_
    refine fw_icmp_le C 23 dX10_desk_14 (by decide) (fun c5 => ?_) (fun c5 => ?_)
    · replace h := (if_pos c5).symm.trans h
      refine fw_aload_n C 0 dX10_desk_23 rfl rfl ?_
      obtain ⟨g6, h⟩ := gd_some h
      refine fw_getR C 10 1 (Nat.le_of_ble_eq_true rfl) (Nat.le_of_ble_eq_true rfl) wf_X10_13 rfl (gO_of g1) (gN_of g6) dX10_desk_24 ?_
      obtain ⟨M7, e7, h⟩ := b1_some h
      refine fw_callS [_] C (c_X10_bare hl e7) cal_X10_bare wm_X10_47 wt_yX10_bare rfl (Nat.le_of_ble_eq_true rfl) ⟨Nat.le_of_ble_eq_true rfl, Nat.le_of_ble_eq_true rfl⟩ ⟨Nat.zero_le _, Nat.zero_le _⟩ dX10_desk_27 ?_
      refine fw_aload_n C 0 dX10_desk_30 rfl rfl ?_
      refine fw_iload_n C 1 dX10_desk_31 rfl rfl ?_
      obtain ⟨M8, e8, h⟩ := b1_some h
      refine fw_callV (ci := 10) [_] C (c_X10_opens hl e8) cal_X10_opens wm_X10_392 wi_yX10_opens wsl_yX10_opens (Nat.le_of_ble_eq_true rfl) rfl (gO_of g1) rfl (Nat.le_of_ble_eq_true rfl) ⟨Nat.le_of_ble_eq_true rfl, Nat.le_of_ble_eq_true rfl⟩ ⟨Nat.zero_le _, Nat.zero_le _⟩ dX10_desk_32 ?_
      refine fw_sub [0] rfl ?_
      obtain ⟨l13, e13, h⟩ := b1_some h
      refine lc_X10_desk_35 C hr hlk hl ht e13 ?_
      refine fw_aload_n C 0 dX10_desk_56 rfl rfl ?_
      obtain ⟨v14, M14, e14, h⟩ := b2_some h
      refine fw_callV (ci := 10) [] C (c_X10_ends hl e14) cal_X10_ends wm_X10_398 wi_yX10_ends wsl_yX10_ends (Nat.le_of_ble_eq_true rfl) rfl (gO_of g1) rfl (Nat.le_of_ble_eq_true rfl) ⟨Nat.le_of_ble_eq_true rfl, Nat.le_of_ble_eq_true rfl⟩ ⟨Nat.zero_le _, Nat.zero_le _⟩ dX10_desk_57 ?_
      refine fw_istore_n C [(2, _), (0, _)] dX10_desk_60 rfl (Nat.le_of_ble_eq_true rfl) rfl ?_
      refine fw_iload_n C 0 dX10_desk_61 rfl rfl ?_
      refine fw_if_eq C 70 dX10_desk_62 (by decide) (fun c15 => ?_) (fun c15 => ?_)
      · replace h := (if_pos c15).symm.trans h
        refine fw_aload_n C 1 dX10_desk_70 rfl rfl ?_
        obtain ⟨g16, h⟩ := gd_some h
        refine fw_getR C 10 0 (Nat.le_of_ble_eq_true rfl) (Nat.le_of_ble_eq_true rfl) wf_X10_9 rfl (gO_of g1) (gN_of g16) dX10_desk_71 ?_
        refine fw_aload_n C 1 dX10_desk_74 rfl rfl ?_
        obtain ⟨g17, h⟩ := gd_some h
        refine fw_getR C 10 1 (Nat.le_of_ble_eq_true rfl) (Nat.le_of_ble_eq_true rfl) wf_X10_13 rfl (gO_of g1) (gN_of g17) dX10_desk_75 ?_
        obtain ⟨M18, e18, h⟩ := b1_some h
        refine fw_callS [_, _] C (c_X10_copy hl e18) cal_X10_copy wm_X10_240 wt_yX10_copy rfl (Nat.le_of_ble_eq_true rfl) ⟨Nat.le_of_ble_eq_true rfl, Nat.le_of_ble_eq_true rfl⟩ ⟨Nat.zero_le _, Nat.zero_le _⟩ dX10_desk_78 ?_
        refine fw_aload_n C 1 dX10_desk_81 rfl rfl ?_
        refine fw_iconst C 0 dX10_desk_82 rfl ?_
        refine fw_putI C 10 5 (Nat.le_of_ble_eq_true rfl) (Nat.le_of_ble_eq_true rfl) wf_X10_162 rfl rfl rfl rfl (gO_of g1) dX10_desk_83 ?_
        refine fw_bm h (fun M19 h => ?_)
        refine fw_aload_n C 1 dX10_desk_86 rfl rfl ?_
        obtain ⟨v20, e20, h⟩ := b1_some h
        refine fw_callV (ci := 10) [] C (c_X10_suits hl e20) cal_X10_suits wm_X10_62 wi_yX10_suits wsl_yX10_suits (Nat.le_of_ble_eq_true rfl) rfl (gO_of g1) rfl (Nat.le_of_ble_eq_true rfl) ⟨Nat.le_of_ble_eq_true rfl, Nat.le_of_ble_eq_true rfl⟩ ⟨Nat.zero_le _, Nat.zero_le _⟩ dX10_desk_87 ?_
        obtain rfl := Option.some.inj h
        exact fw_iret C hr hlk dX10_desk_90
      · replace h := (if_neg c15).symm.trans h
        refine fw_bipush C (-10) dX10_desk_65 rfl ?_
        refine fw_iload_n C 0 dX10_desk_67 rfl rfl ?_
        refine fw_isub C dX10_desk_68 ?_
        obtain rfl := Option.some.inj h
        exact fw_iret C hr hlk dX10_desk_69
    · replace h := (if_neg c5).symm.trans h
      refine fw_aload_n C 0 dX10_desk_17 rfl rfl ?_
      refine fw_iconst C 1 dX10_desk_18 rfl ?_
      obtain ⟨v21, M21, e21, h⟩ := b2_some h
      refine fw_callV (ci := 10) [_] C (c_X10_fail hl e21) cal_X10_fail wm_X10_171 wi_yX10_fail wsl_yX10_fail (Nat.le_of_ble_eq_true rfl) rfl (gO_of g1) rfl (Nat.le_of_ble_eq_true rfl) ⟨Nat.le_of_ble_eq_true rfl, Nat.le_of_ble_eq_true rfl⟩ ⟨Nat.zero_le _, Nat.zero_le _⟩ dX10_desk_19 ?_
      obtain rfl := Option.some.inj h
      exact fw_iret C hr hlk dX10_desk_22
set_option maxRecDepth 100000 in
def f_X10_valueOf (S : List fw_Sh) (M : fw_Mem) (a0 : Nat) (x1 : Int32) (x2 : Int32) : Option Int32 := if x2 = 0 then (some x1) else (if x2 = 1 then (gd (gO S 10 a0) (b1 (f_X10_of S M a0 x1 0) (fun v3 => some v3))) else (if x2 = 2 then (gd (gO S 10 a0) (b1 (f_X10_of S M a0 x1 1) (fun v6 => some v6))) else (if x2 = 3 then (gd (gO S 10 a0) (b1 (f_X10_of S M a0 x1 2) (fun v9 => some v9))) else (if x2 = 4 then (gd (gO S 10 a0) (b1 (f_X10_of S M a0 x1 6) (fun v12 => some v12))) else (if x2 = 5 then (gd (gO S 10 a0) (b1 (f_X10_isReversed S M a0 x1) (fun v15 => if v15 = 0 then (b1 (f_X10_winsOf S M a0 x1) (fun v18 => some v18)) else (some (-1))))) else (if x2 = 6 then (gd (gO S 10 a0) (b1 (f_X10_barsOf S M a0 x1) (fun v20 => b1 (f_X10_bitsOf S M v20) (fun v22 => some v22)))) else (if x2 = 7 then (gd (gO S 10 a0) (b1 (f_X10_heldOf S M a0 x1) (fun v24 => b1 (f_X10_bitsOf S M v24) (fun v26 => some v26)))) else (if x2 = 8 then (gd (gO S 10 a0) (b1 (f_X10_issuesOf S M a0 x1) (fun v28 => b1 (f_X10_bitsOf S M v28) (fun v30 => b1 (f_X10_heldOf S M a0 x1) (fun v31 => b1 (f_X10_bitsOf S M v31) (fun v32 => some (v30 - v32))))))) else (gd (gO S 10 a0) (b1 (f_X10_forcedOf S M a0 x1) (fun v33 => some v33)))))))))))
theorem cal_X10_valueOf : fw_cal yX10_valueOf (.code yX10_valueOf cX10_valueOf 3 (some .int)) 2 := ⟨wc_yX10_valueOf, wini_X10, by decide, by decide, by decide +kernel⟩
set_option maxHeartbeats 4000000 in
set_option maxRecDepth 100000 in
theorem c_X10_valueOf {l : Launch} {G : fw_G} {S : List fw_Sh} {M : fw_Mem} {a0 : Nat} {x1 : Int32} {x2 : Int32} {r : Int32} (hl : l.stackTraces = false) (h : f_X10_valueOf S M a0 x1 x2 = some r) : fw_M l G yX10_valueOf (.code yX10_valueOf cX10_valueOf 3 (some .int)) 11 (fw_mcO (.inl (some (.int r)), S, M)) (fw_msO (.inl (some (.int r)), S, M)) S M [.ref a0, .int x1, .int x2] (.inl (some (.int r)), S, M) := by
  refine fw_of [(0, .ref a0), (1, .int x1), (2, .int x2)] (by decide) (Nat.le_of_ble_eq_true rfl) rfl ?_
  intro p e s m args below meth c C hr hlk hnm ht _
  unfold f_X10_valueOf at h
  refine fw_iload_n C 2 dX10_valueOf_0 rfl rfl ?_
  by_cases c1 : x2 = 0
  · replace h := (if_pos c1).symm.trans h
    refine fw_tableIn C 0 52 dX10_valueOf_1 c1 (by decide) (by decide) rfl (by decide) ?_
    refine fw_iload_n C 1 dX10_valueOf_52 rfl rfl ?_
    obtain rfl := Option.some.inj h
    exact fw_iret C hr hlk dX10_valueOf_53
  replace h := (if_neg c1).symm.trans h
  by_cases c2 : x2 = 1
  · replace h := (if_pos c2).symm.trans h
    refine fw_tableIn C 1 54 dX10_valueOf_1 c2 (by decide) (by decide) rfl (by decide) ?_
    refine fw_aload_n C 0 dX10_valueOf_54 rfl rfl ?_
    refine fw_iload_n C 1 dX10_valueOf_55 rfl rfl ?_
    refine fw_iconst C 0 dX10_valueOf_56 rfl ?_
    obtain ⟨g4, h⟩ := gd_some h
    obtain ⟨v3, e3, h⟩ := b1_some h
    refine fw_callV (ci := 10) [_, _] C (c_X10_of hl e3) cal_X10_of wm_X10_65 wi_yX10_of wsl_yX10_of (Nat.le_of_ble_eq_true rfl) rfl (gO_of g4) rfl (Nat.le_of_ble_eq_true rfl) ⟨Nat.le_of_ble_eq_true rfl, Nat.le_of_ble_eq_true rfl⟩ ⟨Nat.zero_le _, Nat.zero_le _⟩ dX10_valueOf_57 ?_
    obtain rfl := Option.some.inj h
    exact fw_iret C hr hlk dX10_valueOf_60
  replace h := (if_neg c2).symm.trans h
  by_cases c5 : x2 = 2
  · replace h := (if_pos c5).symm.trans h
    refine fw_tableIn C 2 61 dX10_valueOf_1 c5 (by decide) (by decide) rfl (by decide) ?_
    refine fw_aload_n C 0 dX10_valueOf_61 rfl rfl ?_
    refine fw_iload_n C 1 dX10_valueOf_62 rfl rfl ?_
    refine fw_iconst C 1 dX10_valueOf_63 rfl ?_
    obtain ⟨g7, h⟩ := gd_some h
    obtain ⟨v6, e6, h⟩ := b1_some h
    refine fw_callV (ci := 10) [_, _] C (c_X10_of hl e6) cal_X10_of wm_X10_65 wi_yX10_of wsl_yX10_of (Nat.le_of_ble_eq_true rfl) rfl (gO_of g7) rfl (Nat.le_of_ble_eq_true rfl) ⟨Nat.le_of_ble_eq_true rfl, Nat.le_of_ble_eq_true rfl⟩ ⟨Nat.zero_le _, Nat.zero_le _⟩ dX10_valueOf_64 ?_
    obtain rfl := Option.some.inj h
    exact fw_iret C hr hlk dX10_valueOf_67
  replace h := (if_neg c5).symm.trans h
  by_cases c8 : x2 = 3
  · replace h := (if_pos c8).symm.trans h
    refine fw_tableIn C 3 68 dX10_valueOf_1 c8 (by decide) (by decide) rfl (by decide) ?_
    refine fw_aload_n C 0 dX10_valueOf_68 rfl rfl ?_
    refine fw_iload_n C 1 dX10_valueOf_69 rfl rfl ?_
    refine fw_iconst C 2 dX10_valueOf_70 rfl ?_
    obtain ⟨g10, h⟩ := gd_some h
    obtain ⟨v9, e9, h⟩ := b1_some h
    refine fw_callV (ci := 10) [_, _] C (c_X10_of hl e9) cal_X10_of wm_X10_65 wi_yX10_of wsl_yX10_of (Nat.le_of_ble_eq_true rfl) rfl (gO_of g10) rfl (Nat.le_of_ble_eq_true rfl) ⟨Nat.le_of_ble_eq_true rfl, Nat.le_of_ble_eq_true rfl⟩ ⟨Nat.zero_le _, Nat.zero_le _⟩ dX10_valueOf_71 ?_
    obtain rfl := Option.some.inj h
    exact fw_iret C hr hlk dX10_valueOf_74
  replace h := (if_neg c8).symm.trans h
  by_cases c11 : x2 = 4
  · replace h := (if_pos c11).symm.trans h
    refine fw_tableIn C 4 75 dX10_valueOf_1 c11 (by decide) (by decide) rfl (by decide) ?_
    refine fw_aload_n C 0 dX10_valueOf_75 rfl rfl ?_
    refine fw_iload_n C 1 dX10_valueOf_76 rfl rfl ?_
    refine fw_bipush C 6 dX10_valueOf_77 rfl ?_
    obtain ⟨g13, h⟩ := gd_some h
    obtain ⟨v12, e12, h⟩ := b1_some h
    refine fw_callV (ci := 10) [_, _] C (c_X10_of hl e12) cal_X10_of wm_X10_65 wi_yX10_of wsl_yX10_of (Nat.le_of_ble_eq_true rfl) rfl (gO_of g13) rfl (Nat.le_of_ble_eq_true rfl) ⟨Nat.le_of_ble_eq_true rfl, Nat.le_of_ble_eq_true rfl⟩ ⟨Nat.zero_le _, Nat.zero_le _⟩ dX10_valueOf_79 ?_
    obtain rfl := Option.some.inj h
    exact fw_iret C hr hlk dX10_valueOf_82
  replace h := (if_neg c11).symm.trans h
  by_cases c14 : x2 = 5
  · replace h := (if_pos c14).symm.trans h
    refine fw_tableIn C 5 83 dX10_valueOf_1 c14 (by decide) (by decide) rfl (by decide) ?_
    refine fw_aload_n C 0 dX10_valueOf_83 rfl rfl ?_
    refine fw_iload_n C 1 dX10_valueOf_84 rfl rfl ?_
    obtain ⟨g16, h⟩ := gd_some h
    obtain ⟨v15, e15, h⟩ := b1_some h
    refine fw_callV (ci := 10) [_] C (c_X10_isReversed hl e15) cal_X10_isReversed wm_X10_86 wi_yX10_isReversed wsl_yX10_isReversed (Nat.le_of_ble_eq_true rfl) rfl (gO_of g16) rfl (Nat.le_of_ble_eq_true rfl) ⟨Nat.le_of_ble_eq_true rfl, Nat.le_of_ble_eq_true rfl⟩ ⟨Nat.zero_le _, Nat.zero_le _⟩ dX10_valueOf_85 ?_
    refine fw_if_eq C 95 dX10_valueOf_88 (by decide) (fun c17 => ?_) (fun c17 => ?_)
    · replace h := (if_pos c17).symm.trans h
      refine fw_aload_n C 0 dX10_valueOf_95 rfl rfl ?_
      refine fw_iload_n C 1 dX10_valueOf_96 rfl rfl ?_
      obtain ⟨v18, e18, h⟩ := b1_some h
      refine fw_callV (ci := 10) [_] C (c_X10_winsOf hl e18) cal_X10_winsOf wm_X10_76 wi_yX10_winsOf wsl_yX10_winsOf (Nat.le_of_ble_eq_true rfl) rfl (gO_of g16) rfl (Nat.le_of_ble_eq_true rfl) ⟨Nat.le_of_ble_eq_true rfl, Nat.le_of_ble_eq_true rfl⟩ ⟨Nat.zero_le _, Nat.zero_le _⟩ dX10_valueOf_97 ?_
      obtain rfl := Option.some.inj h
      exact fw_iret C hr hlk dX10_valueOf_100
    · replace h := (if_neg c17).symm.trans h
      refine fw_iconst C (-1) dX10_valueOf_91 rfl ?_
      refine fw_goto C 100 dX10_valueOf_92 (by decide) ?_
      obtain rfl := Option.some.inj h
      exact fw_iret C hr hlk dX10_valueOf_100
  replace h := (if_neg c14).symm.trans h
  by_cases c19 : x2 = 6
  · replace h := (if_pos c19).symm.trans h
    refine fw_tableIn C 6 101 dX10_valueOf_1 c19 (by decide) (by decide) rfl (by decide) ?_
    refine fw_aload_n C 0 dX10_valueOf_101 rfl rfl ?_
    refine fw_iload_n C 1 dX10_valueOf_102 rfl rfl ?_
    obtain ⟨g21, h⟩ := gd_some h
    obtain ⟨v20, e20, h⟩ := b1_some h
    refine fw_callV (ci := 10) [_] C (c_X10_barsOf hl e20) cal_X10_barsOf wm_X10_143 wi_yX10_barsOf wsl_yX10_barsOf (Nat.le_of_ble_eq_true rfl) rfl (gO_of g21) rfl (Nat.le_of_ble_eq_true rfl) ⟨Nat.le_of_ble_eq_true rfl, Nat.le_of_ble_eq_true rfl⟩ ⟨Nat.zero_le _, Nat.zero_le _⟩ dX10_valueOf_103 ?_
    obtain ⟨v22, e22, h⟩ := b1_some h
    refine fw_callS [_] C (c_X10_bitsOf hl e22) cal_X10_bitsOf wm_X10_83 wt_yX10_bitsOf rfl (Nat.le_of_ble_eq_true rfl) ⟨Nat.le_of_ble_eq_true rfl, Nat.le_of_ble_eq_true rfl⟩ ⟨Nat.zero_le _, Nat.zero_le _⟩ dX10_valueOf_106 ?_
    obtain rfl := Option.some.inj h
    exact fw_iret C hr hlk dX10_valueOf_109
  replace h := (if_neg c19).symm.trans h
  by_cases c23 : x2 = 7
  · replace h := (if_pos c23).symm.trans h
    refine fw_tableIn C 7 110 dX10_valueOf_1 c23 (by decide) (by decide) rfl (by decide) ?_
    refine fw_aload_n C 0 dX10_valueOf_110 rfl rfl ?_
    refine fw_iload_n C 1 dX10_valueOf_111 rfl rfl ?_
    obtain ⟨g25, h⟩ := gd_some h
    obtain ⟨v24, e24, h⟩ := b1_some h
    refine fw_callV (ci := 10) [_] C (c_X10_heldOf hl e24) cal_X10_heldOf wm_X10_146 wi_yX10_heldOf wsl_yX10_heldOf (Nat.le_of_ble_eq_true rfl) rfl (gO_of g25) rfl (Nat.le_of_ble_eq_true rfl) ⟨Nat.le_of_ble_eq_true rfl, Nat.le_of_ble_eq_true rfl⟩ ⟨Nat.zero_le _, Nat.zero_le _⟩ dX10_valueOf_112 ?_
    obtain ⟨v26, e26, h⟩ := b1_some h
    refine fw_callS [_] C (c_X10_bitsOf hl e26) cal_X10_bitsOf wm_X10_83 wt_yX10_bitsOf rfl (Nat.le_of_ble_eq_true rfl) ⟨Nat.le_of_ble_eq_true rfl, Nat.le_of_ble_eq_true rfl⟩ ⟨Nat.zero_le _, Nat.zero_le _⟩ dX10_valueOf_115 ?_
    obtain rfl := Option.some.inj h
    exact fw_iret C hr hlk dX10_valueOf_118
  replace h := (if_neg c23).symm.trans h
  by_cases c27 : x2 = 8
  · replace h := (if_pos c27).symm.trans h
    refine fw_tableIn C 8 119 dX10_valueOf_1 c27 (by decide) (by decide) rfl (by decide) ?_
    refine fw_aload_n C 0 dX10_valueOf_119 rfl rfl ?_
    refine fw_iload_n C 1 dX10_valueOf_120 rfl rfl ?_
    obtain ⟨g29, h⟩ := gd_some h
    obtain ⟨v28, e28, h⟩ := b1_some h
    refine fw_callV (ci := 10) [_] C (c_X10_issuesOf hl e28) cal_X10_issuesOf wm_X10_137 wi_yX10_issuesOf wsl_yX10_issuesOf (Nat.le_of_ble_eq_true rfl) rfl (gO_of g29) rfl (Nat.le_of_ble_eq_true rfl) ⟨Nat.le_of_ble_eq_true rfl, Nat.le_of_ble_eq_true rfl⟩ ⟨Nat.zero_le _, Nat.zero_le _⟩ dX10_valueOf_121 ?_
    obtain ⟨v30, e30, h⟩ := b1_some h
    refine fw_callS [_] C (c_X10_bitsOf hl e30) cal_X10_bitsOf wm_X10_83 wt_yX10_bitsOf rfl (Nat.le_of_ble_eq_true rfl) ⟨Nat.le_of_ble_eq_true rfl, Nat.le_of_ble_eq_true rfl⟩ ⟨Nat.zero_le _, Nat.zero_le _⟩ dX10_valueOf_124 ?_
    refine fw_aload_n C 0 dX10_valueOf_127 rfl rfl ?_
    refine fw_iload_n C 1 dX10_valueOf_128 rfl rfl ?_
    obtain ⟨v31, e31, h⟩ := b1_some h
    refine fw_callV (ci := 10) [_] C (c_X10_heldOf hl e31) cal_X10_heldOf wm_X10_146 wi_yX10_heldOf wsl_yX10_heldOf (Nat.le_of_ble_eq_true rfl) rfl (gO_of g29) rfl (Nat.le_of_ble_eq_true rfl) ⟨Nat.le_of_ble_eq_true rfl, Nat.le_of_ble_eq_true rfl⟩ ⟨Nat.zero_le _, Nat.zero_le _⟩ dX10_valueOf_129 ?_
    obtain ⟨v32, e32, h⟩ := b1_some h
    refine fw_callS [_] C (c_X10_bitsOf hl e32) cal_X10_bitsOf wm_X10_83 wt_yX10_bitsOf rfl (Nat.le_of_ble_eq_true rfl) ⟨Nat.le_of_ble_eq_true rfl, Nat.le_of_ble_eq_true rfl⟩ ⟨Nat.zero_le _, Nat.zero_le _⟩ dX10_valueOf_132 ?_
    refine fw_isub C dX10_valueOf_135 ?_
    obtain rfl := Option.some.inj h
    exact fw_iret C hr hlk dX10_valueOf_136
  replace h := (if_neg c27).symm.trans h
  have qc1 := lv_neT c1 (a := 0) rfl
  have qc2 := lv_neT c2 (a := 1) rfl
  have qc5 := lv_neT c5 (a := 2) rfl
  have qc8 := lv_neT c8 (a := 3) rfl
  have qc11 := lv_neT c11 (a := 4) rfl
  have qc14 := lv_neT c14 (a := 5) rfl
  have qc19 := lv_neT c19 (a := 6) rfl
  have qc23 := lv_neT c23 (a := 7) rfl
  have qc27 := lv_neT c27 (a := 8) rfl
  refine fw_tableOut C 137 dX10_valueOf_1 (by omega) (by decide) ?_
  refine fw_aload_n C 0 dX10_valueOf_137 rfl rfl ?_
  refine fw_iload_n C 1 dX10_valueOf_138 rfl rfl ?_
  obtain ⟨g34, h⟩ := gd_some h
  obtain ⟨v33, e33, h⟩ := b1_some h
  refine fw_callV (ci := 10) [_] C (c_X10_forcedOf hl e33) cal_X10_forcedOf wm_X10_193 wi_yX10_forcedOf wsl_yX10_forcedOf (Nat.le_of_ble_eq_true rfl) rfl (gO_of g34) rfl (Nat.le_of_ble_eq_true rfl) ⟨Nat.le_of_ble_eq_true rfl, Nat.le_of_ble_eq_true rfl⟩ ⟨Nat.zero_le _, Nat.zero_le _⟩ dX10_valueOf_139 ?_
  obtain rfl := Option.some.inj h
  exact fw_iret C hr hlk dX10_valueOf_142
set_option maxRecDepth 100000 in
def f_X10_wordHere (S : List fw_Sh) (M : fw_Mem) (a0 : Nat) : Option Int32 := gd (gO S 10 a0) (b1 (f_X10_isWord S M a0 1000028) (fun v1 => if v1 = 0 then (b1 (f_X10_isWord S M a0 1000024) (fun v4 => if v4 = 0 then (b1 (f_X10_isWord S M a0 1000005) (fun v6 => if v6 = 0 then (b1 (f_X10_isWord S M a0 1000008) (fun v8 => if v8 = 0 then (b1 (f_X10_isWord S M a0 1000004) (fun v10 => if v10 = 0 then (b1 (f_X10_isWord S M a0 1000030) (fun v12 => if v12 = 0 then (b1 (f_X10_isWord S M a0 1000002) (fun v14 => if v14 = 0 then (b1 (f_X10_isWord S M a0 1000013) (fun v16 => if v16 = 0 then (b1 (f_X10_isWord S M a0 1000021) (fun v18 => if v18 = 0 then (b1 (f_X10_isWord S M a0 1000010) (fun v20 => if v20 = 0 then (some (-1)) else (some 9))) else (some 8))) else (some 7))) else (some 6))) else (some 5))) else (some 4))) else (some 3))) else (some 2))) else (some 1))) else (some 0)))
theorem cal_X10_wordHere : fw_cal yX10_wordHere (.code yX10_wordHere cX10_wordHere 1 (some .int)) 0 := ⟨wc_yX10_wordHere, wini_X10, by decide, by decide, by decide +kernel⟩
set_option maxHeartbeats 4000000 in
set_option maxRecDepth 100000 in
theorem c_X10_wordHere {l : Launch} {G : fw_G} {S : List fw_Sh} {M : fw_Mem} {a0 : Nat} {r : Int32} (hl : l.stackTraces = false) (h : f_X10_wordHere S M a0 = some r) : fw_M l G yX10_wordHere (.code yX10_wordHere cX10_wordHere 1 (some .int)) 8 (fw_mcO (.inl (some (.int r)), S, M)) (fw_msO (.inl (some (.int r)), S, M)) S M [.ref a0] (.inl (some (.int r)), S, M) := by
  refine fw_of [(0, .ref a0)] (by decide) (Nat.le_of_ble_eq_true rfl) rfl ?_
  intro p e s m args below meth c C hr hlk hnm ht _
  unfold f_X10_wordHere at h
  refine fw_aload_n C 0 dX10_wordHere_0 rfl rfl ?_
  refine fw_ldcSw C (i := 27) (List.mem_of_getElem? (i := 61) rfl) dX10_wordHere_1 ?_
  obtain ⟨g2, h⟩ := gd_some h
  obtain ⟨v1, e1, h⟩ := b1_some h
  refine fw_callV (ci := 10) [_] C (c_X10_isWord hl e1) cal_X10_isWord wm_X10_308 wi_yX10_isWord wsl_yX10_isWord (Nat.le_of_ble_eq_true rfl) rfl (gO_of g2) rfl (Nat.le_of_ble_eq_true rfl) ⟨Nat.le_of_ble_eq_true rfl, Nat.le_of_ble_eq_true rfl⟩ ⟨Nat.zero_le _, Nat.zero_le _⟩ dX10_wordHere_4 ?_
  refine fw_if_eq C 12 dX10_wordHere_7 (by decide) (fun c3 => ?_) (fun c3 => ?_)
  · replace h := (if_pos c3).symm.trans h
    refine fw_aload_n C 0 dX10_wordHere_12 rfl rfl ?_
    refine fw_ldcSw C (i := 23) (List.mem_of_getElem? (i := 78) rfl) dX10_wordHere_13 ?_
    obtain ⟨v4, e4, h⟩ := b1_some h
    refine fw_callV (ci := 10) [_] C (c_X10_isWord hl e4) cal_X10_isWord wm_X10_308 wi_yX10_isWord wsl_yX10_isWord (Nat.le_of_ble_eq_true rfl) rfl (gO_of g2) rfl (Nat.le_of_ble_eq_true rfl) ⟨Nat.le_of_ble_eq_true rfl, Nat.le_of_ble_eq_true rfl⟩ ⟨Nat.zero_le _, Nat.zero_le _⟩ dX10_wordHere_16 ?_
    refine fw_if_eq C 24 dX10_wordHere_19 (by decide) (fun c5 => ?_) (fun c5 => ?_)
    · replace h := (if_pos c5).symm.trans h
      refine fw_aload_n C 0 dX10_wordHere_24 rfl rfl ?_
      refine fw_ldcSw C (i := 4) (List.mem_of_getElem? (i := 79) rfl) dX10_wordHere_25 ?_
      obtain ⟨v6, e6, h⟩ := b1_some h
      refine fw_callV (ci := 10) [_] C (c_X10_isWord hl e6) cal_X10_isWord wm_X10_308 wi_yX10_isWord wsl_yX10_isWord (Nat.le_of_ble_eq_true rfl) rfl (gO_of g2) rfl (Nat.le_of_ble_eq_true rfl) ⟨Nat.le_of_ble_eq_true rfl, Nat.le_of_ble_eq_true rfl⟩ ⟨Nat.zero_le _, Nat.zero_le _⟩ dX10_wordHere_28 ?_
      refine fw_if_eq C 36 dX10_wordHere_31 (by decide) (fun c7 => ?_) (fun c7 => ?_)
      · replace h := (if_pos c7).symm.trans h
        refine fw_aload_n C 0 dX10_wordHere_36 rfl rfl ?_
        refine fw_ldcSw C (i := 7) (List.mem_of_getElem? (i := 80) rfl) dX10_wordHere_37 ?_
        obtain ⟨v8, e8, h⟩ := b1_some h
        refine fw_callV (ci := 10) [_] C (c_X10_isWord hl e8) cal_X10_isWord wm_X10_308 wi_yX10_isWord wsl_yX10_isWord (Nat.le_of_ble_eq_true rfl) rfl (gO_of g2) rfl (Nat.le_of_ble_eq_true rfl) ⟨Nat.le_of_ble_eq_true rfl, Nat.le_of_ble_eq_true rfl⟩ ⟨Nat.zero_le _, Nat.zero_le _⟩ dX10_wordHere_40 ?_
        refine fw_if_eq C 48 dX10_wordHere_43 (by decide) (fun c9 => ?_) (fun c9 => ?_)
        · replace h := (if_pos c9).symm.trans h
          refine fw_aload_n C 0 dX10_wordHere_48 rfl rfl ?_
          refine fw_ldcSw C (i := 3) (List.mem_of_getElem? (i := 81) rfl) dX10_wordHere_49 ?_
          obtain ⟨v10, e10, h⟩ := b1_some h
          refine fw_callV (ci := 10) [_] C (c_X10_isWord hl e10) cal_X10_isWord wm_X10_308 wi_yX10_isWord wsl_yX10_isWord (Nat.le_of_ble_eq_true rfl) rfl (gO_of g2) rfl (Nat.le_of_ble_eq_true rfl) ⟨Nat.le_of_ble_eq_true rfl, Nat.le_of_ble_eq_true rfl⟩ ⟨Nat.zero_le _, Nat.zero_le _⟩ dX10_wordHere_52 ?_
          refine fw_if_eq C 60 dX10_wordHere_55 (by decide) (fun c11 => ?_) (fun c11 => ?_)
          · replace h := (if_pos c11).symm.trans h
            refine fw_aload_n C 0 dX10_wordHere_60 rfl rfl ?_
            refine fw_ldcSw C (i := 29) (List.mem_of_getElem? (i := 82) rfl) dX10_wordHere_61 ?_
            obtain ⟨v12, e12, h⟩ := b1_some h
            refine fw_callV (ci := 10) [_] C (c_X10_isWord hl e12) cal_X10_isWord wm_X10_308 wi_yX10_isWord wsl_yX10_isWord (Nat.le_of_ble_eq_true rfl) rfl (gO_of g2) rfl (Nat.le_of_ble_eq_true rfl) ⟨Nat.le_of_ble_eq_true rfl, Nat.le_of_ble_eq_true rfl⟩ ⟨Nat.zero_le _, Nat.zero_le _⟩ dX10_wordHere_64 ?_
            refine fw_if_eq C 72 dX10_wordHere_67 (by decide) (fun c13 => ?_) (fun c13 => ?_)
            · replace h := (if_pos c13).symm.trans h
              refine fw_aload_n C 0 dX10_wordHere_72 rfl rfl ?_
              refine fw_ldcSw C (i := 1) (List.mem_of_getElem? (i := 83) rfl) dX10_wordHere_73 ?_
              obtain ⟨v14, e14, h⟩ := b1_some h
              refine fw_callV (ci := 10) [_] C (c_X10_isWord hl e14) cal_X10_isWord wm_X10_308 wi_yX10_isWord wsl_yX10_isWord (Nat.le_of_ble_eq_true rfl) rfl (gO_of g2) rfl (Nat.le_of_ble_eq_true rfl) ⟨Nat.le_of_ble_eq_true rfl, Nat.le_of_ble_eq_true rfl⟩ ⟨Nat.zero_le _, Nat.zero_le _⟩ dX10_wordHere_76 ?_
              refine fw_if_eq C 85 dX10_wordHere_79 (by decide) (fun c15 => ?_) (fun c15 => ?_)
              · replace h := (if_pos c15).symm.trans h
                refine fw_aload_n C 0 dX10_wordHere_85 rfl rfl ?_
                refine fw_ldcSw C (i := 12) (List.mem_of_getElem? (i := 84) rfl) dX10_wordHere_86 ?_
                obtain ⟨v16, e16, h⟩ := b1_some h
                refine fw_callV (ci := 10) [_] C (c_X10_isWord hl e16) cal_X10_isWord wm_X10_308 wi_yX10_isWord wsl_yX10_isWord (Nat.le_of_ble_eq_true rfl) rfl (gO_of g2) rfl (Nat.le_of_ble_eq_true rfl) ⟨Nat.le_of_ble_eq_true rfl, Nat.le_of_ble_eq_true rfl⟩ ⟨Nat.zero_le _, Nat.zero_le _⟩ dX10_wordHere_89 ?_
                refine fw_if_eq C 98 dX10_wordHere_92 (by decide) (fun c17 => ?_) (fun c17 => ?_)
                · replace h := (if_pos c17).symm.trans h
                  refine fw_aload_n C 0 dX10_wordHere_98 rfl rfl ?_
                  refine fw_ldcSw C (i := 20) (List.mem_of_getElem? (i := 85) rfl) dX10_wordHere_99 ?_
                  obtain ⟨v18, e18, h⟩ := b1_some h
                  refine fw_callV (ci := 10) [_] C (c_X10_isWord hl e18) cal_X10_isWord wm_X10_308 wi_yX10_isWord wsl_yX10_isWord (Nat.le_of_ble_eq_true rfl) rfl (gO_of g2) rfl (Nat.le_of_ble_eq_true rfl) ⟨Nat.le_of_ble_eq_true rfl, Nat.le_of_ble_eq_true rfl⟩ ⟨Nat.zero_le _, Nat.zero_le _⟩ dX10_wordHere_102 ?_
                  refine fw_if_eq C 111 dX10_wordHere_105 (by decide) (fun c19 => ?_) (fun c19 => ?_)
                  · replace h := (if_pos c19).symm.trans h
                    refine fw_aload_n C 0 dX10_wordHere_111 rfl rfl ?_
                    refine fw_ldcSw C (i := 9) (List.mem_of_getElem? (i := 86) rfl) dX10_wordHere_112 ?_
                    obtain ⟨v20, e20, h⟩ := b1_some h
                    refine fw_callV (ci := 10) [_] C (c_X10_isWord hl e20) cal_X10_isWord wm_X10_308 wi_yX10_isWord wsl_yX10_isWord (Nat.le_of_ble_eq_true rfl) rfl (gO_of g2) rfl (Nat.le_of_ble_eq_true rfl) ⟨Nat.le_of_ble_eq_true rfl, Nat.le_of_ble_eq_true rfl⟩ ⟨Nat.zero_le _, Nat.zero_le _⟩ dX10_wordHere_115 ?_
                    refine fw_if_eq C 126 dX10_wordHere_118 (by decide) (fun c21 => ?_) (fun c21 => ?_)
                    · replace h := (if_pos c21).symm.trans h
                      refine fw_iconst C (-1) dX10_wordHere_126 rfl ?_
                      obtain rfl := Option.some.inj h
                      exact fw_iret C hr hlk dX10_wordHere_127
                    · replace h := (if_neg c21).symm.trans h
                      refine fw_bipush C 9 dX10_wordHere_121 rfl ?_
                      refine fw_goto C 127 dX10_wordHere_123 (by decide) ?_
                      obtain rfl := Option.some.inj h
                      exact fw_iret C hr hlk dX10_wordHere_127
                  · replace h := (if_neg c19).symm.trans h
                    refine fw_bipush C 8 dX10_wordHere_108 rfl ?_
                    obtain rfl := Option.some.inj h
                    exact fw_iret C hr hlk dX10_wordHere_110
                · replace h := (if_neg c17).symm.trans h
                  refine fw_bipush C 7 dX10_wordHere_95 rfl ?_
                  obtain rfl := Option.some.inj h
                  exact fw_iret C hr hlk dX10_wordHere_97
              · replace h := (if_neg c15).symm.trans h
                refine fw_bipush C 6 dX10_wordHere_82 rfl ?_
                obtain rfl := Option.some.inj h
                exact fw_iret C hr hlk dX10_wordHere_84
            · replace h := (if_neg c13).symm.trans h
              refine fw_iconst C 5 dX10_wordHere_70 rfl ?_
              obtain rfl := Option.some.inj h
              exact fw_iret C hr hlk dX10_wordHere_71
          · replace h := (if_neg c11).symm.trans h
            refine fw_iconst C 4 dX10_wordHere_58 rfl ?_
            obtain rfl := Option.some.inj h
            exact fw_iret C hr hlk dX10_wordHere_59
        · replace h := (if_neg c9).symm.trans h
          refine fw_iconst C 3 dX10_wordHere_46 rfl ?_
          obtain rfl := Option.some.inj h
          exact fw_iret C hr hlk dX10_wordHere_47
      · replace h := (if_neg c7).symm.trans h
        refine fw_iconst C 2 dX10_wordHere_34 rfl ?_
        obtain rfl := Option.some.inj h
        exact fw_iret C hr hlk dX10_wordHere_35
    · replace h := (if_neg c5).symm.trans h
      refine fw_iconst C 1 dX10_wordHere_22 rfl ?_
      obtain rfl := Option.some.inj h
      exact fw_iret C hr hlk dX10_wordHere_23
  · replace h := (if_neg c3).symm.trans h
    refine fw_iconst C 0 dX10_wordHere_10 rfl ?_
    obtain rfl := Option.some.inj h
    exact fw_iret C hr hlk dX10_wordHere_11
set_option maxRecDepth 100000 in
def fj_X10_readValue_39 (S : List fw_Sh) (M : fw_Mem) (a0 : Nat) (x1 : Int32) : Option (Int32 × fw_Mem) := gd (gO S 10 a0) (b1 (f_X10_pass S M a0) (fun M12 => if (M12 a0 21) = 0 then (if (M12 a0 25) = (-1) then (some (0, M12)) else (b1 (f_X10_valueOf S M12 a0 (M12 a0 25) x1) (fun v16 => some (v16, M12)))) else (some (0, M12))))
set_option maxHeartbeats 4000000 in
set_option maxRecDepth 100000 in
theorem jc_X10_readValue_39 {G : fw_G} {p : Program} {l : Launch} {e : Env} {s : State} {m : MethodId} {args : Array Value} {below : List Frame} {meth : Method} {c : Code} {S : List fw_Sh} {M : fw_Mem} {a0 : Nat} {x1 : Int32} {r : (Int32 × fw_Mem)} {o : fw_O} (C : fw_C G RX10 cX10_readValue 2 p s m args c) (hr : meth.sig.returnType = (some .int)) (hlk : meth.locks = false) (hl : l.stackTraces = false) (ht : ∀ x ∈ c.exceptionTable.toList, False) (ho : o = (.inl (some (.int r.1)), S, r.2)) (h : fj_X10_readValue_39 S M a0 x1 = some r) :
    fw_W G p l e (fw_rm 12 (fw_mcO o) (fw_msO o)) s m args below meth c 2 (fw_Z G below args s (fw_mcO o) (fw_msO o) o) 0 0 39 [(0, .ref a0), (1, .int x1)] [] S M := by
  subst ho
  unfold fj_X10_readValue_39 at h
  refine fw_aload_n C 0 dX10_readValue_39 rfl rfl ?_
  obtain ⟨g13, h⟩ := gd_some h
  obtain ⟨M12, e12, h⟩ := b1_some h
  refine fw_callV (ci := 10) [] C (c_X10_pass hl e12) cal_X10_pass wm_X10_299 wi_yX10_pass wsl_yX10_pass (Nat.le_of_ble_eq_true rfl) rfl (gO_of g13) rfl (Nat.le_of_ble_eq_true rfl) ⟨Nat.le_of_ble_eq_true rfl, Nat.le_of_ble_eq_true rfl⟩ ⟨Nat.zero_le _, Nat.zero_le _⟩ dX10_readValue_40 ?_
  refine fw_aload_n C 0 dX10_readValue_43 rfl rfl ?_
  refine fw_getI C 10 21 (Nat.le_of_ble_eq_true rfl) (Nat.le_of_ble_eq_true rfl) wf_X10_272 rfl (gO_of g13) dX10_readValue_44 ?_
  refine fw_if_ne C 58 dX10_readValue_47 (by decide) (fun c14 => ?_) (fun c14 => ?_)
  · replace h := (if_neg c14).symm.trans h
    refine fw_iconst C 0 dX10_readValue_58 rfl ?_
    refine fw_goto C 71 dX10_readValue_59 (by decide) ?_
    obtain rfl := Option.some.inj h
    exact fw_iret C hr hlk dX10_readValue_71
  · replace h := (if_pos c14).symm.trans h
    refine fw_aload_n C 0 dX10_readValue_50 rfl rfl ?_
    refine fw_getI C 10 25 (Nat.le_of_ble_eq_true rfl) (Nat.le_of_ble_eq_true rfl) wf_X10_404 rfl (gO_of g13) dX10_readValue_51 ?_
    refine fw_iconst C (-1) dX10_readValue_54 rfl ?_
    refine fw_icmp_ne C 62 dX10_readValue_55 (by decide) (fun c15 => ?_) (fun c15 => ?_)
    · replace h := (if_neg c15).symm.trans h
      refine fw_aload_n C 0 dX10_readValue_62 rfl rfl ?_
      refine fw_aload_n C 0 dX10_readValue_63 rfl rfl ?_
      refine fw_getI C 10 25 (Nat.le_of_ble_eq_true rfl) (Nat.le_of_ble_eq_true rfl) wf_X10_404 rfl (gO_of g13) dX10_readValue_64 ?_
      refine fw_iload_n C 1 dX10_readValue_67 rfl rfl ?_
      obtain ⟨v16, e16, h⟩ := b1_some h
      refine fw_callV (ci := 10) [_, _] C (c_X10_valueOf hl e16) cal_X10_valueOf wm_X10_407 wi_yX10_valueOf wsl_yX10_valueOf (Nat.le_of_ble_eq_true rfl) rfl (gO_of g13) rfl (Nat.le_of_ble_eq_true rfl) ⟨Nat.le_of_ble_eq_true rfl, Nat.le_of_ble_eq_true rfl⟩ ⟨Nat.zero_le _, Nat.zero_le _⟩ dX10_readValue_68 ?_
      obtain rfl := Option.some.inj h
      exact fw_iret C hr hlk dX10_readValue_71
    · replace h := (if_pos c15).symm.trans h
      refine fw_iconst C 0 dX10_readValue_58 rfl ?_
      refine fw_goto C 71 dX10_readValue_59 (by decide) ?_
      obtain rfl := Option.some.inj h
      exact fw_iret C hr hlk dX10_readValue_71
set_option maxRecDepth 100000 in
def f_X10_readValue (S : List fw_Sh) (M : fw_Mem) (a0 : Nat) : Option (Int32 × fw_Mem) := gd (gO S 10 a0) (if (M a0 21) = 0 then (if (M a0 18) = 2 then (b2 (f_X10_number S M a0 0 9999) (fun v17 M17 => some (v17, M17))) else (b1 (f_X10_wordHere S M a0) (fun v5 => if v5 = (-1) then (b1 (f_X10_wrong S M a0 1) (fun M11 => fj_X10_readValue_39 S M11 a0 v5)) else (b1 (f_X10_pass S M a0) (fun M7 => if (M7 a0 21) = 0 then (if (M7 a0 25) = (-1) then (some (0, M7)) else (b1 (f_X10_valueOf S M7 a0 (M7 a0 25) v5) (fun v10 => some (v10, M7)))) else (some (0, M7))))))) else (b2 (f_X10_number S M a0 0 9999) (fun v3 M3 => some (v3, M3))))
theorem cal_X10_readValue : fw_cal yX10_readValue (.code yX10_readValue cX10_readValue 2 (some .int)) 0 := ⟨wc_yX10_readValue, wini_X10, by decide, by decide, by decide +kernel⟩
set_option maxHeartbeats 4000000 in
set_option maxRecDepth 100000 in
theorem c_X10_readValue {l : Launch} {G : fw_G} {S : List fw_Sh} {M : fw_Mem} {a0 : Nat} {r : (Int32 × fw_Mem)} (hl : l.stackTraces = false) (h : f_X10_readValue S M a0 = some r) : fw_M l G yX10_readValue (.code yX10_readValue cX10_readValue 2 (some .int)) 12 (fw_mcO (.inl (some (.int r.1)), S, r.2)) (fw_msO (.inl (some (.int r.1)), S, r.2)) S M [.ref a0] (.inl (some (.int r.1)), S, r.2) := by
  refine fw_of [(0, .ref a0)] (by decide) (Nat.le_of_ble_eq_true rfl) rfl ?_
  intro p e s m args below meth c C hr hlk hnm ht _
  unfold f_X10_readValue at h
  refine fw_aload_n C 0 dX10_readValue_0 rfl rfl ?_
  obtain ⟨g1, h⟩ := gd_some h
  refine fw_getI C 10 21 (Nat.le_of_ble_eq_true rfl) (Nat.le_of_ble_eq_true rfl) wf_X10_272 rfl (gO_of g1) dX10_readValue_1 ?_
  refine fw_if_ne C 15 dX10_readValue_4 (by decide) (fun c2 => ?_) (fun c2 => ?_)
  · replace h := (if_neg c2).symm.trans h
    refine fw_aload_n C 0 dX10_readValue_15 rfl rfl ?_
    refine fw_iconst C 0 dX10_readValue_16 rfl ?_
    refine fw_sipush C 9999 dX10_readValue_17 rfl ?_
    obtain ⟨v3, M3, e3, h⟩ := b2_some h
    refine fw_callV (ci := 10) [_, _] C (c_X10_number hl e3) cal_X10_number wm_X10_325 wi_yX10_number wsl_yX10_number (Nat.le_of_ble_eq_true rfl) rfl (gO_of g1) rfl (Nat.le_of_ble_eq_true rfl) ⟨Nat.le_of_ble_eq_true rfl, Nat.le_of_ble_eq_true rfl⟩ ⟨Nat.zero_le _, Nat.zero_le _⟩ dX10_readValue_20 ?_
    obtain rfl := Option.some.inj h
    exact fw_iret C hr hlk dX10_readValue_23
  · replace h := (if_pos c2).symm.trans h
    refine fw_aload_n C 0 dX10_readValue_7 rfl rfl ?_
    refine fw_getI C 10 18 (Nat.le_of_ble_eq_true rfl) (Nat.le_of_ble_eq_true rfl) wf_X10_260 rfl (gO_of g1) dX10_readValue_8 ?_
    refine fw_iconst C 2 dX10_readValue_11 rfl ?_
    refine fw_icmp_ne C 24 dX10_readValue_12 (by decide) (fun c4 => ?_) (fun c4 => ?_)
    · replace h := (if_neg c4).symm.trans h
      refine fw_aload_n C 0 dX10_readValue_24 rfl rfl ?_
      obtain ⟨v5, e5, h⟩ := b1_some h
      refine fw_callV (ci := 10) [] C (c_X10_wordHere hl e5) cal_X10_wordHere wm_X10_401 wi_yX10_wordHere wsl_yX10_wordHere (Nat.le_of_ble_eq_true rfl) rfl (gO_of g1) rfl (Nat.le_of_ble_eq_true rfl) ⟨Nat.le_of_ble_eq_true rfl, Nat.le_of_ble_eq_true rfl⟩ ⟨Nat.zero_le _, Nat.zero_le _⟩ dX10_readValue_25 ?_
      refine fw_istore_n C [(1, _), (0, _)] dX10_readValue_28 rfl (Nat.le_of_ble_eq_true rfl) rfl ?_
      refine fw_iload_n C 0 dX10_readValue_29 rfl rfl ?_
      refine fw_iconst C (-1) dX10_readValue_30 rfl ?_
      refine fw_icmp_ne C 39 dX10_readValue_31 (by decide) (fun c6 => ?_) (fun c6 => ?_)
      · replace h := (if_neg c6).symm.trans h
        refine fw_aload_n C 1 dX10_readValue_39 rfl rfl ?_
        obtain ⟨M7, e7, h⟩ := b1_some h
        refine fw_callV (ci := 10) [] C (c_X10_pass hl e7) cal_X10_pass wm_X10_299 wi_yX10_pass wsl_yX10_pass (Nat.le_of_ble_eq_true rfl) rfl (gO_of g1) rfl (Nat.le_of_ble_eq_true rfl) ⟨Nat.le_of_ble_eq_true rfl, Nat.le_of_ble_eq_true rfl⟩ ⟨Nat.zero_le _, Nat.zero_le _⟩ dX10_readValue_40 ?_
        refine fw_aload_n C 1 dX10_readValue_43 rfl rfl ?_
        refine fw_getI C 10 21 (Nat.le_of_ble_eq_true rfl) (Nat.le_of_ble_eq_true rfl) wf_X10_272 rfl (gO_of g1) dX10_readValue_44 ?_
        refine fw_if_ne C 58 dX10_readValue_47 (by decide) (fun c8 => ?_) (fun c8 => ?_)
        · replace h := (if_neg c8).symm.trans h
          refine fw_iconst C 0 dX10_readValue_58 rfl ?_
          refine fw_goto C 71 dX10_readValue_59 (by decide) ?_
          obtain rfl := Option.some.inj h
          exact fw_iret C hr hlk dX10_readValue_71
        · replace h := (if_pos c8).symm.trans h
          refine fw_aload_n C 1 dX10_readValue_50 rfl rfl ?_
          refine fw_getI C 10 25 (Nat.le_of_ble_eq_true rfl) (Nat.le_of_ble_eq_true rfl) wf_X10_404 rfl (gO_of g1) dX10_readValue_51 ?_
          refine fw_iconst C (-1) dX10_readValue_54 rfl ?_
          refine fw_icmp_ne C 62 dX10_readValue_55 (by decide) (fun c9 => ?_) (fun c9 => ?_)
          · replace h := (if_neg c9).symm.trans h
            refine fw_aload_n C 1 dX10_readValue_62 rfl rfl ?_
            refine fw_aload_n C 1 dX10_readValue_63 rfl rfl ?_
            refine fw_getI C 10 25 (Nat.le_of_ble_eq_true rfl) (Nat.le_of_ble_eq_true rfl) wf_X10_404 rfl (gO_of g1) dX10_readValue_64 ?_
            refine fw_iload_n C 0 dX10_readValue_67 rfl rfl ?_
            obtain ⟨v10, e10, h⟩ := b1_some h
            refine fw_callV (ci := 10) [_, _] C (c_X10_valueOf hl e10) cal_X10_valueOf wm_X10_407 wi_yX10_valueOf wsl_yX10_valueOf (Nat.le_of_ble_eq_true rfl) rfl (gO_of g1) rfl (Nat.le_of_ble_eq_true rfl) ⟨Nat.le_of_ble_eq_true rfl, Nat.le_of_ble_eq_true rfl⟩ ⟨Nat.zero_le _, Nat.zero_le _⟩ dX10_readValue_68 ?_
            obtain rfl := Option.some.inj h
            exact fw_iret C hr hlk dX10_readValue_71
          · replace h := (if_pos c9).symm.trans h
            refine fw_iconst C 0 dX10_readValue_58 rfl ?_
            refine fw_goto C 71 dX10_readValue_59 (by decide) ?_
            obtain rfl := Option.some.inj h
            exact fw_iret C hr hlk dX10_readValue_71
      · replace h := (if_pos c6).symm.trans h
        refine fw_aload_n C 1 dX10_readValue_34 rfl rfl ?_
        refine fw_iconst C 1 dX10_readValue_35 rfl ?_
        obtain ⟨M11, e11, h⟩ := b1_some h
        refine fw_callV (ci := 10) [_] C (c_X10_wrong hl e11) cal_X10_wrong wm_X10_296 wi_yX10_wrong wsl_yX10_wrong (Nat.le_of_ble_eq_true rfl) rfl (gO_of g1) rfl (Nat.le_of_ble_eq_true rfl) ⟨Nat.le_of_ble_eq_true rfl, Nat.le_of_ble_eq_true rfl⟩ ⟨Nat.zero_le _, Nat.zero_le _⟩ dX10_readValue_36 ?_
        refine fw_sub [1, 0] rfl ?_
        exact jc_X10_readValue_39 C hr hlk hl ht rfl h
    · replace h := (if_pos c4).symm.trans h
      refine fw_aload_n C 0 dX10_readValue_15 rfl rfl ?_
      refine fw_iconst C 0 dX10_readValue_16 rfl ?_
      refine fw_sipush C 9999 dX10_readValue_17 rfl ?_
      obtain ⟨v17, M17, e17, h⟩ := b2_some h
      refine fw_callV (ci := 10) [_, _] C (c_X10_number hl e17) cal_X10_number wm_X10_325 wi_yX10_number wsl_yX10_number (Nat.le_of_ble_eq_true rfl) rfl (gO_of g1) rfl (Nat.le_of_ble_eq_true rfl) ⟨Nat.le_of_ble_eq_true rfl, Nat.le_of_ble_eq_true rfl⟩ ⟨Nat.zero_le _, Nat.zero_le _⟩ dX10_readValue_20 ?_
      obtain rfl := Option.some.inj h
      exact fw_iret C hr hlk dX10_readValue_23
set_option maxRecDepth 100000 in
def fj_X10_goesIn_21 (S : List fw_Sh) (M : fw_Mem) (a0 : Nat) : Option fw_Mem := gd (gO S 10 a0) (bm (fw_set M a0 24 ((M a0 24) + 1)) (fun M10 => b1 (f_X10_pass S M10 a0) (fun M11 => some M11)))
set_option maxHeartbeats 4000000 in
set_option maxRecDepth 100000 in
theorem jc_X10_goesIn_21 {G : fw_G} {p : Program} {l : Launch} {e : Env} {s : State} {m : MethodId} {args : Array Value} {below : List Frame} {meth : Method} {c : Code} {S : List fw_Sh} {M : fw_Mem} {a0 : Nat} {r : fw_Mem} {o : fw_O} (C : fw_C G RX10 cX10_goesIn 1 p s m args c) (hr : meth.sig.returnType = none) (hlk : meth.locks = false) (hl : l.stackTraces = false) (ht : ∀ x ∈ c.exceptionTable.toList, False) (ho : o = (.inl none, S, r)) (h : fj_X10_goesIn_21 S M a0 = some r) :
    fw_W G p l e (fw_rm 4 (fw_mcO o) (fw_msO o)) s m args below meth c 1 (fw_Z G below args s (fw_mcO o) (fw_msO o) o) 0 0 21 [(0, .ref a0)] [] S M := by
  subst ho
  unfold fj_X10_goesIn_21 at h
  refine fw_aload_n C 0 dX10_goesIn_21 rfl rfl ?_
  refine fw_dup C dX10_goesIn_22 rfl ?_
  obtain ⟨g9, h⟩ := gd_some h
  refine fw_getI C 10 24 (Nat.le_of_ble_eq_true rfl) (Nat.le_of_ble_eq_true rfl) wf_X10_275 rfl (gO_of g9) dX10_goesIn_23 ?_
  refine fw_iconst C 1 dX10_goesIn_26 rfl ?_
  refine fw_iadd C dX10_goesIn_27 ?_
  refine fw_putI C 10 24 (Nat.le_of_ble_eq_true rfl) (Nat.le_of_ble_eq_true rfl) wf_X10_275 rfl rfl rfl rfl (gO_of g9) dX10_goesIn_28 ?_
  refine fw_bm h (fun M10 h => ?_)
  refine fw_aload_n C 0 dX10_goesIn_31 rfl rfl ?_
  obtain ⟨M11, e11, h⟩ := b1_some h
  refine fw_callV (ci := 10) [] C (c_X10_pass hl e11) cal_X10_pass wm_X10_299 wi_yX10_pass wsl_yX10_pass (Nat.le_of_ble_eq_true rfl) rfl (gO_of g9) rfl (Nat.le_of_ble_eq_true rfl) ⟨Nat.le_of_ble_eq_true rfl, Nat.le_of_ble_eq_true rfl⟩ ⟨Nat.zero_le _, Nat.zero_le _⟩ dX10_goesIn_32 ?_
  obtain rfl := Option.some.inj h
  exact fw_vret C hr hlk dX10_goesIn_35
set_option maxRecDepth 100000 in
def f_X10_goesIn (S : List fw_Sh) (M : fw_Mem) (a0 : Nat) : Option fw_Mem := gd (gO S 10 a0) (if (M a0 21) = 0 then (if (M a0 24) = 6 then (b1 (f_X10_wrong S M a0 3) (fun M8 => fj_X10_goesIn_21 S M8 a0)) else (bm (fw_set M a0 24 ((M a0 24) + 1)) (fun M6 => b1 (f_X10_pass S M6 a0) (fun M7 => some M7)))) else (bm (fw_set M a0 24 ((M a0 24) + 1)) (fun M3 => b1 (f_X10_pass S M3 a0) (fun M4 => some M4))))
theorem cal_X10_goesIn : fw_cal yX10_goesIn (.code yX10_goesIn cX10_goesIn 1 none) 0 := ⟨wc_yX10_goesIn, wini_X10, by decide, by decide, by decide +kernel⟩
set_option maxHeartbeats 4000000 in
set_option maxRecDepth 100000 in
theorem c_X10_goesIn {l : Launch} {G : fw_G} {S : List fw_Sh} {M : fw_Mem} {a0 : Nat} {r : fw_Mem} (hl : l.stackTraces = false) (h : f_X10_goesIn S M a0 = some r) : fw_M l G yX10_goesIn (.code yX10_goesIn cX10_goesIn 1 none) 4 (fw_mcO (.inl none, S, r)) (fw_msO (.inl none, S, r)) S M [.ref a0] (.inl none, S, r) := by
  refine fw_of [(0, .ref a0)] (by decide) (Nat.le_of_ble_eq_true rfl) rfl ?_
  intro p e s m args below meth c C hr hlk hnm ht _
  unfold f_X10_goesIn at h
  refine fw_aload_n C 0 dX10_goesIn_0 rfl rfl ?_
  obtain ⟨g1, h⟩ := gd_some h
  refine fw_getI C 10 21 (Nat.le_of_ble_eq_true rfl) (Nat.le_of_ble_eq_true rfl) wf_X10_272 rfl (gO_of g1) dX10_goesIn_1 ?_
  refine fw_if_ne C 21 dX10_goesIn_4 (by decide) (fun c2 => ?_) (fun c2 => ?_)
  · replace h := (if_neg c2).symm.trans h
    refine fw_aload_n C 0 dX10_goesIn_21 rfl rfl ?_
    refine fw_dup C dX10_goesIn_22 rfl ?_
    refine fw_getI C 10 24 (Nat.le_of_ble_eq_true rfl) (Nat.le_of_ble_eq_true rfl) wf_X10_275 rfl (gO_of g1) dX10_goesIn_23 ?_
    refine fw_iconst C 1 dX10_goesIn_26 rfl ?_
    refine fw_iadd C dX10_goesIn_27 ?_
    refine fw_putI C 10 24 (Nat.le_of_ble_eq_true rfl) (Nat.le_of_ble_eq_true rfl) wf_X10_275 rfl rfl rfl rfl (gO_of g1) dX10_goesIn_28 ?_
    refine fw_bm h (fun M3 h => ?_)
    refine fw_aload_n C 0 dX10_goesIn_31 rfl rfl ?_
    obtain ⟨M4, e4, h⟩ := b1_some h
    refine fw_callV (ci := 10) [] C (c_X10_pass hl e4) cal_X10_pass wm_X10_299 wi_yX10_pass wsl_yX10_pass (Nat.le_of_ble_eq_true rfl) rfl (gO_of g1) rfl (Nat.le_of_ble_eq_true rfl) ⟨Nat.le_of_ble_eq_true rfl, Nat.le_of_ble_eq_true rfl⟩ ⟨Nat.zero_le _, Nat.zero_le _⟩ dX10_goesIn_32 ?_
    obtain rfl := Option.some.inj h
    exact fw_vret C hr hlk dX10_goesIn_35
  · replace h := (if_pos c2).symm.trans h
    refine fw_aload_n C 0 dX10_goesIn_7 rfl rfl ?_
    refine fw_getI C 10 24 (Nat.le_of_ble_eq_true rfl) (Nat.le_of_ble_eq_true rfl) wf_X10_275 rfl (gO_of g1) dX10_goesIn_8 ?_
    refine fw_bipush C 6 dX10_goesIn_11 rfl ?_
    refine fw_icmp_ne C 21 dX10_goesIn_13 (by decide) (fun c5 => ?_) (fun c5 => ?_)
    · replace h := (if_neg c5).symm.trans h
      refine fw_aload_n C 0 dX10_goesIn_21 rfl rfl ?_
      refine fw_dup C dX10_goesIn_22 rfl ?_
      refine fw_getI C 10 24 (Nat.le_of_ble_eq_true rfl) (Nat.le_of_ble_eq_true rfl) wf_X10_275 rfl (gO_of g1) dX10_goesIn_23 ?_
      refine fw_iconst C 1 dX10_goesIn_26 rfl ?_
      refine fw_iadd C dX10_goesIn_27 ?_
      refine fw_putI C 10 24 (Nat.le_of_ble_eq_true rfl) (Nat.le_of_ble_eq_true rfl) wf_X10_275 rfl rfl rfl rfl (gO_of g1) dX10_goesIn_28 ?_
      refine fw_bm h (fun M6 h => ?_)
      refine fw_aload_n C 0 dX10_goesIn_31 rfl rfl ?_
      obtain ⟨M7, e7, h⟩ := b1_some h
      refine fw_callV (ci := 10) [] C (c_X10_pass hl e7) cal_X10_pass wm_X10_299 wi_yX10_pass wsl_yX10_pass (Nat.le_of_ble_eq_true rfl) rfl (gO_of g1) rfl (Nat.le_of_ble_eq_true rfl) ⟨Nat.le_of_ble_eq_true rfl, Nat.le_of_ble_eq_true rfl⟩ ⟨Nat.zero_le _, Nat.zero_le _⟩ dX10_goesIn_32 ?_
      obtain rfl := Option.some.inj h
      exact fw_vret C hr hlk dX10_goesIn_35
    · replace h := (if_pos c5).symm.trans h
      refine fw_aload_n C 0 dX10_goesIn_16 rfl rfl ?_
      refine fw_iconst C 3 dX10_goesIn_17 rfl ?_
      obtain ⟨M8, e8, h⟩ := b1_some h
      refine fw_callV (ci := 10) [_] C (c_X10_wrong hl e8) cal_X10_wrong wm_X10_296 wi_yX10_wrong wsl_yX10_wrong (Nat.le_of_ble_eq_true rfl) rfl (gO_of g1) rfl (Nat.le_of_ble_eq_true rfl) ⟨Nat.le_of_ble_eq_true rfl, Nat.le_of_ble_eq_true rfl⟩ ⟨Nat.zero_le _, Nat.zero_le _⟩ dX10_goesIn_18 ?_
      exact jc_X10_goesIn_21 C hr hlk hl ht rfl h
set_option maxRecDepth 100000 in
def f_X1_wordNumber (S : List fw_Sh) (M : fw_Mem) (a0 : Nat) : Option Int32 := gd (gO S 1 a0) (gd (gN (M a0 0)) (gd (gO S 7 ((M a0 0).toNatClampNeg)) (b1 (f_X7_isWord S M ((M a0 0).toNatClampNeg) 1000028) (fun v3 => if v3 = 0 then (b1 (f_X7_isWord S M ((M a0 0).toNatClampNeg) 1000024) (fun v6 => if v6 = 0 then (b1 (f_X7_isWord S M ((M a0 0).toNatClampNeg) 1000005) (fun v8 => if v8 = 0 then (b1 (f_X7_isWord S M ((M a0 0).toNatClampNeg) 1000008) (fun v10 => if v10 = 0 then (b1 (f_X7_isWord S M ((M a0 0).toNatClampNeg) 1000004) (fun v12 => if v12 = 0 then (b1 (f_X7_isWord S M ((M a0 0).toNatClampNeg) 1000030) (fun v14 => if v14 = 0 then (b1 (f_X7_isWord S M ((M a0 0).toNatClampNeg) 1000002) (fun v16 => if v16 = 0 then (b1 (f_X7_isWord S M ((M a0 0).toNatClampNeg) 1000013) (fun v18 => if v18 = 0 then (b1 (f_X7_isWord S M ((M a0 0).toNatClampNeg) 1000021) (fun v20 => if v20 = 0 then (b1 (f_X7_isWord S M ((M a0 0).toNatClampNeg) 1000010) (fun v22 => if v22 = 0 then (some (-1)) else (some 9))) else (some 8))) else (some 7))) else (some 6))) else (some 5))) else (some 4))) else (some 3))) else (some 2))) else (some 1))) else (some 0)))))
theorem cal_X1_wordNumber : fw_cal yX1_wordNumber (.code yX1_wordNumber cX1_wordNumber 1 (some .int)) 0 := ⟨wc_yX1_wordNumber, wini_X1, by decide, by decide, by decide +kernel⟩
set_option maxHeartbeats 4000000 in
set_option maxRecDepth 100000 in
theorem c_X1_wordNumber {l : Launch} {G : fw_G} {S : List fw_Sh} {M : fw_Mem} {a0 : Nat} {r : Int32} (hl : l.stackTraces = false) (h : f_X1_wordNumber S M a0 = some r) : fw_M l G yX1_wordNumber (.code yX1_wordNumber cX1_wordNumber 1 (some .int)) 8 (fw_mcO (.inl (some (.int r)), S, M)) (fw_msO (.inl (some (.int r)), S, M)) S M [.ref a0] (.inl (some (.int r)), S, M) := by
  refine fw_of [(0, .ref a0)] (by decide) (Nat.le_of_ble_eq_true rfl) rfl ?_
  intro p e s m args below meth c C hr hlk hnm ht _
  unfold f_X1_wordNumber at h
  refine fw_aload_n C 0 dX1_wordNumber_0 rfl rfl ?_
  obtain ⟨g1, h⟩ := gd_some h
  obtain ⟨g2, h⟩ := gd_some h
  refine fw_getR C 1 0 (Nat.le_of_ble_eq_true rfl) (Nat.le_of_ble_eq_true rfl) wf_X1_21 rfl (gO_of g1) (gN_of g2) dX1_wordNumber_1 ?_
  refine fw_ldcS C (i := 27) (List.mem_of_getElem? (i := 46) rfl) dX1_wordNumber_4 ?_
  obtain ⟨g4, h⟩ := gd_some h
  obtain ⟨v3, e3, h⟩ := b1_some h
  refine fw_callV (ci := 7) [_] C (c_X7_isWord hl e3) cal_X7_isWord wm_X1_43 wi_yX7_isWord wsl_yX7_isWord (Nat.le_of_ble_eq_true rfl) rfl (gO_of g4) rfl (Nat.le_of_ble_eq_true rfl) ⟨Nat.le_of_ble_eq_true rfl, Nat.le_of_ble_eq_true rfl⟩ ⟨Nat.zero_le _, Nat.zero_le _⟩ dX1_wordNumber_6 ?_
  refine fw_if_eq C 14 dX1_wordNumber_9 (by decide) (fun c5 => ?_) (fun c5 => ?_)
  · replace h := (if_pos c5).symm.trans h
    refine fw_aload_n C 0 dX1_wordNumber_14 rfl rfl ?_
    refine fw_getR C 1 0 (Nat.le_of_ble_eq_true rfl) (Nat.le_of_ble_eq_true rfl) wf_X1_21 rfl (gO_of g1) (gN_of g2) dX1_wordNumber_15 ?_
    refine fw_ldcS C (i := 23) (List.mem_of_getElem? (i := 47) rfl) dX1_wordNumber_18 ?_
    obtain ⟨v6, e6, h⟩ := b1_some h
    refine fw_callV (ci := 7) [_] C (c_X7_isWord hl e6) cal_X7_isWord wm_X1_43 wi_yX7_isWord wsl_yX7_isWord (Nat.le_of_ble_eq_true rfl) rfl (gO_of g4) rfl (Nat.le_of_ble_eq_true rfl) ⟨Nat.le_of_ble_eq_true rfl, Nat.le_of_ble_eq_true rfl⟩ ⟨Nat.zero_le _, Nat.zero_le _⟩ dX1_wordNumber_20 ?_
    refine fw_if_eq C 28 dX1_wordNumber_23 (by decide) (fun c7 => ?_) (fun c7 => ?_)
    · replace h := (if_pos c7).symm.trans h
      refine fw_aload_n C 0 dX1_wordNumber_28 rfl rfl ?_
      refine fw_getR C 1 0 (Nat.le_of_ble_eq_true rfl) (Nat.le_of_ble_eq_true rfl) wf_X1_21 rfl (gO_of g1) (gN_of g2) dX1_wordNumber_29 ?_
      refine fw_ldcS C (i := 4) (List.mem_of_getElem? (i := 48) rfl) dX1_wordNumber_32 ?_
      obtain ⟨v8, e8, h⟩ := b1_some h
      refine fw_callV (ci := 7) [_] C (c_X7_isWord hl e8) cal_X7_isWord wm_X1_43 wi_yX7_isWord wsl_yX7_isWord (Nat.le_of_ble_eq_true rfl) rfl (gO_of g4) rfl (Nat.le_of_ble_eq_true rfl) ⟨Nat.le_of_ble_eq_true rfl, Nat.le_of_ble_eq_true rfl⟩ ⟨Nat.zero_le _, Nat.zero_le _⟩ dX1_wordNumber_34 ?_
      refine fw_if_eq C 42 dX1_wordNumber_37 (by decide) (fun c9 => ?_) (fun c9 => ?_)
      · replace h := (if_pos c9).symm.trans h
        refine fw_aload_n C 0 dX1_wordNumber_42 rfl rfl ?_
        refine fw_getR C 1 0 (Nat.le_of_ble_eq_true rfl) (Nat.le_of_ble_eq_true rfl) wf_X1_21 rfl (gO_of g1) (gN_of g2) dX1_wordNumber_43 ?_
        refine fw_ldcS C (i := 7) (List.mem_of_getElem? (i := 49) rfl) dX1_wordNumber_46 ?_
        obtain ⟨v10, e10, h⟩ := b1_some h
        refine fw_callV (ci := 7) [_] C (c_X7_isWord hl e10) cal_X7_isWord wm_X1_43 wi_yX7_isWord wsl_yX7_isWord (Nat.le_of_ble_eq_true rfl) rfl (gO_of g4) rfl (Nat.le_of_ble_eq_true rfl) ⟨Nat.le_of_ble_eq_true rfl, Nat.le_of_ble_eq_true rfl⟩ ⟨Nat.zero_le _, Nat.zero_le _⟩ dX1_wordNumber_48 ?_
        refine fw_if_eq C 56 dX1_wordNumber_51 (by decide) (fun c11 => ?_) (fun c11 => ?_)
        · replace h := (if_pos c11).symm.trans h
          refine fw_aload_n C 0 dX1_wordNumber_56 rfl rfl ?_
          refine fw_getR C 1 0 (Nat.le_of_ble_eq_true rfl) (Nat.le_of_ble_eq_true rfl) wf_X1_21 rfl (gO_of g1) (gN_of g2) dX1_wordNumber_57 ?_
          refine fw_ldcS C (i := 3) (List.mem_of_getElem? (i := 50) rfl) dX1_wordNumber_60 ?_
          obtain ⟨v12, e12, h⟩ := b1_some h
          refine fw_callV (ci := 7) [_] C (c_X7_isWord hl e12) cal_X7_isWord wm_X1_43 wi_yX7_isWord wsl_yX7_isWord (Nat.le_of_ble_eq_true rfl) rfl (gO_of g4) rfl (Nat.le_of_ble_eq_true rfl) ⟨Nat.le_of_ble_eq_true rfl, Nat.le_of_ble_eq_true rfl⟩ ⟨Nat.zero_le _, Nat.zero_le _⟩ dX1_wordNumber_62 ?_
          refine fw_if_eq C 70 dX1_wordNumber_65 (by decide) (fun c13 => ?_) (fun c13 => ?_)
          · replace h := (if_pos c13).symm.trans h
            refine fw_aload_n C 0 dX1_wordNumber_70 rfl rfl ?_
            refine fw_getR C 1 0 (Nat.le_of_ble_eq_true rfl) (Nat.le_of_ble_eq_true rfl) wf_X1_21 rfl (gO_of g1) (gN_of g2) dX1_wordNumber_71 ?_
            refine fw_ldcS C (i := 29) (List.mem_of_getElem? (i := 51) rfl) dX1_wordNumber_74 ?_
            obtain ⟨v14, e14, h⟩ := b1_some h
            refine fw_callV (ci := 7) [_] C (c_X7_isWord hl e14) cal_X7_isWord wm_X1_43 wi_yX7_isWord wsl_yX7_isWord (Nat.le_of_ble_eq_true rfl) rfl (gO_of g4) rfl (Nat.le_of_ble_eq_true rfl) ⟨Nat.le_of_ble_eq_true rfl, Nat.le_of_ble_eq_true rfl⟩ ⟨Nat.zero_le _, Nat.zero_le _⟩ dX1_wordNumber_76 ?_
            refine fw_if_eq C 84 dX1_wordNumber_79 (by decide) (fun c15 => ?_) (fun c15 => ?_)
            · replace h := (if_pos c15).symm.trans h
              refine fw_aload_n C 0 dX1_wordNumber_84 rfl rfl ?_
              refine fw_getR C 1 0 (Nat.le_of_ble_eq_true rfl) (Nat.le_of_ble_eq_true rfl) wf_X1_21 rfl (gO_of g1) (gN_of g2) dX1_wordNumber_85 ?_
              refine fw_ldcS C (i := 1) (List.mem_of_getElem? (i := 52) rfl) dX1_wordNumber_88 ?_
              obtain ⟨v16, e16, h⟩ := b1_some h
              refine fw_callV (ci := 7) [_] C (c_X7_isWord hl e16) cal_X7_isWord wm_X1_43 wi_yX7_isWord wsl_yX7_isWord (Nat.le_of_ble_eq_true rfl) rfl (gO_of g4) rfl (Nat.le_of_ble_eq_true rfl) ⟨Nat.le_of_ble_eq_true rfl, Nat.le_of_ble_eq_true rfl⟩ ⟨Nat.zero_le _, Nat.zero_le _⟩ dX1_wordNumber_90 ?_
              refine fw_if_eq C 99 dX1_wordNumber_93 (by decide) (fun c17 => ?_) (fun c17 => ?_)
              · replace h := (if_pos c17).symm.trans h
                refine fw_aload_n C 0 dX1_wordNumber_99 rfl rfl ?_
                refine fw_getR C 1 0 (Nat.le_of_ble_eq_true rfl) (Nat.le_of_ble_eq_true rfl) wf_X1_21 rfl (gO_of g1) (gN_of g2) dX1_wordNumber_100 ?_
                refine fw_ldcS C (i := 12) (List.mem_of_getElem? (i := 53) rfl) dX1_wordNumber_103 ?_
                obtain ⟨v18, e18, h⟩ := b1_some h
                refine fw_callV (ci := 7) [_] C (c_X7_isWord hl e18) cal_X7_isWord wm_X1_43 wi_yX7_isWord wsl_yX7_isWord (Nat.le_of_ble_eq_true rfl) rfl (gO_of g4) rfl (Nat.le_of_ble_eq_true rfl) ⟨Nat.le_of_ble_eq_true rfl, Nat.le_of_ble_eq_true rfl⟩ ⟨Nat.zero_le _, Nat.zero_le _⟩ dX1_wordNumber_105 ?_
                refine fw_if_eq C 114 dX1_wordNumber_108 (by decide) (fun c19 => ?_) (fun c19 => ?_)
                · replace h := (if_pos c19).symm.trans h
                  refine fw_aload_n C 0 dX1_wordNumber_114 rfl rfl ?_
                  refine fw_getR C 1 0 (Nat.le_of_ble_eq_true rfl) (Nat.le_of_ble_eq_true rfl) wf_X1_21 rfl (gO_of g1) (gN_of g2) dX1_wordNumber_115 ?_
                  refine fw_ldcS C (i := 20) (List.mem_of_getElem? (i := 54) rfl) dX1_wordNumber_118 ?_
                  obtain ⟨v20, e20, h⟩ := b1_some h
                  refine fw_callV (ci := 7) [_] C (c_X7_isWord hl e20) cal_X7_isWord wm_X1_43 wi_yX7_isWord wsl_yX7_isWord (Nat.le_of_ble_eq_true rfl) rfl (gO_of g4) rfl (Nat.le_of_ble_eq_true rfl) ⟨Nat.le_of_ble_eq_true rfl, Nat.le_of_ble_eq_true rfl⟩ ⟨Nat.zero_le _, Nat.zero_le _⟩ dX1_wordNumber_120 ?_
                  refine fw_if_eq C 129 dX1_wordNumber_123 (by decide) (fun c21 => ?_) (fun c21 => ?_)
                  · replace h := (if_pos c21).symm.trans h
                    refine fw_aload_n C 0 dX1_wordNumber_129 rfl rfl ?_
                    refine fw_getR C 1 0 (Nat.le_of_ble_eq_true rfl) (Nat.le_of_ble_eq_true rfl) wf_X1_21 rfl (gO_of g1) (gN_of g2) dX1_wordNumber_130 ?_
                    refine fw_ldcS C (i := 9) (List.mem_of_getElem? (i := 55) rfl) dX1_wordNumber_133 ?_
                    obtain ⟨v22, e22, h⟩ := b1_some h
                    refine fw_callV (ci := 7) [_] C (c_X7_isWord hl e22) cal_X7_isWord wm_X1_43 wi_yX7_isWord wsl_yX7_isWord (Nat.le_of_ble_eq_true rfl) rfl (gO_of g4) rfl (Nat.le_of_ble_eq_true rfl) ⟨Nat.le_of_ble_eq_true rfl, Nat.le_of_ble_eq_true rfl⟩ ⟨Nat.zero_le _, Nat.zero_le _⟩ dX1_wordNumber_135 ?_
                    refine fw_if_eq C 146 dX1_wordNumber_138 (by decide) (fun c23 => ?_) (fun c23 => ?_)
                    · replace h := (if_pos c23).symm.trans h
                      refine fw_iconst C (-1) dX1_wordNumber_146 rfl ?_
                      obtain rfl := Option.some.inj h
                      exact fw_iret C hr hlk dX1_wordNumber_147
                    · replace h := (if_neg c23).symm.trans h
                      refine fw_bipush C 9 dX1_wordNumber_141 rfl ?_
                      refine fw_goto C 147 dX1_wordNumber_143 (by decide) ?_
                      obtain rfl := Option.some.inj h
                      exact fw_iret C hr hlk dX1_wordNumber_147
                  · replace h := (if_neg c21).symm.trans h
                    refine fw_bipush C 8 dX1_wordNumber_126 rfl ?_
                    obtain rfl := Option.some.inj h
                    exact fw_iret C hr hlk dX1_wordNumber_128
                · replace h := (if_neg c19).symm.trans h
                  refine fw_bipush C 7 dX1_wordNumber_111 rfl ?_
                  obtain rfl := Option.some.inj h
                  exact fw_iret C hr hlk dX1_wordNumber_113
              · replace h := (if_neg c17).symm.trans h
                refine fw_bipush C 6 dX1_wordNumber_96 rfl ?_
                obtain rfl := Option.some.inj h
                exact fw_iret C hr hlk dX1_wordNumber_98
            · replace h := (if_neg c15).symm.trans h
              refine fw_iconst C 5 dX1_wordNumber_82 rfl ?_
              obtain rfl := Option.some.inj h
              exact fw_iret C hr hlk dX1_wordNumber_83
          · replace h := (if_neg c13).symm.trans h
            refine fw_iconst C 4 dX1_wordNumber_68 rfl ?_
            obtain rfl := Option.some.inj h
            exact fw_iret C hr hlk dX1_wordNumber_69
        · replace h := (if_neg c11).symm.trans h
          refine fw_iconst C 3 dX1_wordNumber_54 rfl ?_
          obtain rfl := Option.some.inj h
          exact fw_iret C hr hlk dX1_wordNumber_55
      · replace h := (if_neg c9).symm.trans h
        refine fw_iconst C 2 dX1_wordNumber_40 rfl ?_
        obtain rfl := Option.some.inj h
        exact fw_iret C hr hlk dX1_wordNumber_41
    · replace h := (if_neg c7).symm.trans h
      refine fw_iconst C 1 dX1_wordNumber_26 rfl ?_
      obtain rfl := Option.some.inj h
      exact fw_iret C hr hlk dX1_wordNumber_27
  · replace h := (if_neg c5).symm.trans h
    refine fw_iconst C 0 dX1_wordNumber_12 rfl ?_
    obtain rfl := Option.some.inj h
    exact fw_iret C hr hlk dX1_wordNumber_13
set_option maxRecDepth 100000 in
def lf_X1_readValue_60 (S : List fw_Sh) (a0 : Nat) (a1 : Nat) (x2 : Int32) : Nat → Int32 → fw_Mem → Option (fw_Mem)
  | 0, _, _ => none
  | n + 1, x3, M => gd (gO S 1 a0) (if (M a0 4) ≤ x3 then (some M) else (gd (gL S 0 a1) (if (nI (fw_len2 S 0 a1)) ≤ x3 then (some M) else (if x2 = (-1) then (gd (gN (M a0 0)) (gd (gO S 7 ((M a0 0).toNatClampNeg)) (gd (gA S 0 a1 x3) (bm (fw_set M a1 x3.toNatClampNeg (M ((M a0 0).toNatClampNeg) 6)) (fun M19 => lf_X1_readValue_60 S a0 a1 x2 n (x3 + 1) M19))))) else (gd (gN (M a0 1)) (gd (gA S 0 ((M a0 1).toNatClampNeg) ((x3 * 10) + x2)) (gd (gA S 0 a1 x3) (bm (fw_set M a1 x3.toNatClampNeg (M ((M a0 1).toNatClampNeg) ((x3 * 10) + x2).toNatClampNeg)) (fun M15 => lf_X1_readValue_60 S a0 a1 x2 n (x3 + 1) M15)))))))))
set_option maxHeartbeats 4000000 in
set_option maxRecDepth 100000 in
theorem lc_X1_readValue_60 {G : fw_G} {p : Program} {l : Launch} {e : Env} {s : State} {m : MethodId} {args : Array Value} {below : List Frame} {meth : Method} {c : Code} {S : List fw_Sh} {o : fw_O} {a0 : Nat} {a1 : Nat} {x2 : Int32} (C : fw_C G RX1 cX1_readValue 4 p s m args c) (hr : meth.sig.returnType = none) (hlk : meth.locks = false) (hl : l.stackTraces = false) (ht : ∀ x ∈ c.exceptionTable.toList, False) :
    ∀ {n : Nat} {x3 : Int32} {M : fw_Mem} {r : (fw_Mem)} (h : lf_X1_readValue_60 S a0 a1 x2 n x3 M = some r) (kx : fw_W G p l e (fw_rm 9 (fw_mcO o) (fw_msO o)) s m args below meth c 4 (fw_Z G below args s (fw_mcO o) (fw_msO o) o) 0 0 109 [(0, .ref a0)] [] S r), fw_W G p l e (fw_rm 9 (fw_mcO o) (fw_msO o)) s m args below meth c 4 (fw_Z G below args s (fw_mcO o) (fw_msO o) o) 0 0 60 [(0, .ref a0), (1, .ref a1), (2, .int x2), (3, .int x3)] [] S M := by
  intro n
  induction n with
  | zero =>
    intro x3 M r h
    exact nomatch (show (none : Option (fw_Mem)) = some r from h)
  | succ n ih =>
    intro x3 M r h kx
    rw [lf_X1_readValue_60.eq_2] at h
    refine fw_iload_n C 3 dX1_readValue_60 rfl rfl ?_
    refine fw_aload_n C 0 dX1_readValue_61 rfl rfl ?_
    obtain ⟨g7, h⟩ := gd_some h
    refine fw_getI C 1 4 (Nat.le_of_ble_eq_true rfl) (Nat.le_of_ble_eq_true rfl) wf_X1_31 rfl (gO_of g7) dX1_readValue_62 ?_
    refine fw_icmp_ge C 109 dX1_readValue_65 (by decide) (fun c8 => ?_) (fun c8 => ?_)
    · replace h := (if_pos c8).symm.trans h
      obtain rfl := Option.some.inj h
      refine fw_sub [0] rfl ?_
      exact kx
    · replace h := (if_neg c8).symm.trans h
      refine fw_iload_n C 3 dX1_readValue_68 rfl rfl ?_
      refine fw_aload_n C 1 dX1_readValue_69 rfl rfl ?_
      obtain ⟨g9, h⟩ := gd_some h
      refine fw_alen C 0 _ (by decide) (gL_of g9) dX1_readValue_70 ?_
      refine fw_icmp_ge C 109 dX1_readValue_71 (by decide) (fun c10 => ?_) (fun c10 => ?_)
      · replace h := (if_pos c10).symm.trans h
        obtain rfl := Option.some.inj h
        refine fw_sub [0] rfl ?_
        exact kx
      · replace h := (if_neg c10).symm.trans h
        refine fw_aload_n C 1 dX1_readValue_74 rfl rfl ?_
        refine fw_iload_n C 3 dX1_readValue_75 rfl rfl ?_
        refine fw_iload_n C 2 dX1_readValue_76 rfl rfl ?_
        refine fw_iconst C (-1) dX1_readValue_77 rfl ?_
        refine fw_icmp_ne C 91 dX1_readValue_78 (by decide) (fun c11 => ?_) (fun c11 => ?_)
        · replace h := (if_neg c11).symm.trans h
          refine fw_aload_n C 0 dX1_readValue_91 rfl rfl ?_
          obtain ⟨g12, h⟩ := gd_some h
          refine fw_getR C 1 1 (Nat.le_of_ble_eq_true rfl) (Nat.le_of_ble_eq_true rfl) wf_X1_11 rfl (gO_of g7) (gN_of g12) dX1_readValue_92 ?_
          refine fw_iload_n C 3 dX1_readValue_95 rfl rfl ?_
          refine fw_bipush C 10 dX1_readValue_96 rfl ?_
          refine fw_imul C dX1_readValue_98 ?_
          refine fw_iload_n C 2 dX1_readValue_99 rfl rfl ?_
          refine fw_iadd C dX1_readValue_100 ?_
          obtain ⟨g13, h⟩ := gd_some h
          refine fw_iald C (gA_of g13) dX1_readValue_101 ?_
          obtain ⟨g14, h⟩ := gd_some h
          refine fw_iast C (gA_of g14) dX1_readValue_102 ?_
          refine fw_bm h (fun M15 h => ?_)
          refine fw_iinc C _ 3 [(3, _), (0, _), (1, _), (2, _)] dX1_readValue_103 rfl rfl (Nat.le_of_ble_eq_true rfl) rfl ?_
          refine fw_goto C 60 dX1_readValue_106 (by decide) ?_
          refine fw_sub [1, 2, 3, 0] rfl ?_
          exact ih h kx
        · replace h := (if_pos c11).symm.trans h
          refine fw_aload_n C 0 dX1_readValue_81 rfl rfl ?_
          obtain ⟨g16, h⟩ := gd_some h
          refine fw_getR C 1 0 (Nat.le_of_ble_eq_true rfl) (Nat.le_of_ble_eq_true rfl) wf_X1_21 rfl (gO_of g7) (gN_of g16) dX1_readValue_82 ?_
          obtain ⟨g17, h⟩ := gd_some h
          refine fw_getI C 7 6 (Nat.le_of_ble_eq_true rfl) (Nat.le_of_ble_eq_true rfl) wf_X1_105 rfl (gO_of g17) dX1_readValue_85 ?_
          refine fw_goto C 102 dX1_readValue_88 (by decide) ?_
          obtain ⟨g18, h⟩ := gd_some h
          refine fw_iast C (gA_of g18) dX1_readValue_102 ?_
          refine fw_bm h (fun M19 h => ?_)
          refine fw_iinc C _ 3 [(3, _), (0, _), (1, _), (2, _)] dX1_readValue_103 rfl rfl (Nat.le_of_ble_eq_true rfl) rfl ?_
          refine fw_goto C 60 dX1_readValue_106 (by decide) ?_
          refine fw_sub [1, 2, 3, 0] rfl ?_
          exact ih h kx
set_option maxRecDepth 100000 in
def fj_X1_readValue_58 (S : List fw_Sh) (M : fw_Mem) (a0 : Nat) (a1 : Nat) (x2 : Int32) : Option fw_Mem := b1 (lf_X1_readValue_60 S a0 a1 x2 20000 0 M) (fun l30 => gd (gO S 1 a0) (gd (gN (l30 a0 0)) (gd (gO S 7 ((l30 a0 0).toNatClampNeg)) (b1 (f_X7_advance S l30 ((l30 a0 0).toNatClampNeg)) (fun M33 => some M33)))))
set_option maxHeartbeats 4000000 in
set_option maxRecDepth 100000 in
theorem jc_X1_readValue_58 {G : fw_G} {p : Program} {l : Launch} {e : Env} {s : State} {m : MethodId} {args : Array Value} {below : List Frame} {meth : Method} {c : Code} {S : List fw_Sh} {M : fw_Mem} {a0 : Nat} {a1 : Nat} {x2 : Int32} {r : fw_Mem} {o : fw_O} (C : fw_C G RX1 cX1_readValue 4 p s m args c) (hr : meth.sig.returnType = none) (hlk : meth.locks = false) (hl : l.stackTraces = false) (ht : ∀ x ∈ c.exceptionTable.toList, False) (ho : o = (.inl none, S, r)) (h : fj_X1_readValue_58 S M a0 a1 x2 = some r) :
    fw_W G p l e (fw_rm 9 (fw_mcO o) (fw_msO o)) s m args below meth c 4 (fw_Z G below args s (fw_mcO o) (fw_msO o) o) 0 0 58 [(0, .ref a0), (1, .ref a1), (2, .int x2)] [] S M := by
  subst ho
  unfold fj_X1_readValue_58 at h
  refine fw_iconst C 0 dX1_readValue_58 rfl ?_
  refine fw_istore_n C [(3, _), (0, _), (1, _), (2, _)] dX1_readValue_59 rfl (Nat.le_of_ble_eq_true rfl) rfl ?_
  refine fw_sub [1, 2, 3, 0] rfl ?_
  obtain ⟨l30, e30, h⟩ := b1_some h
  refine lc_X1_readValue_60 C hr hlk hl ht e30 ?_
  refine fw_aload_n C 0 dX1_readValue_109 rfl rfl ?_
  obtain ⟨g31, h⟩ := gd_some h
  obtain ⟨g32, h⟩ := gd_some h
  refine fw_getR C 1 0 (Nat.le_of_ble_eq_true rfl) (Nat.le_of_ble_eq_true rfl) wf_X1_21 rfl (gO_of g31) (gN_of g32) dX1_readValue_110 ?_
  obtain ⟨g34, h⟩ := gd_some h
  obtain ⟨M33, e33, h⟩ := b1_some h
  refine fw_callV (ci := 7) [] C (c_X7_advance hl e33) cal_X7_advance wm_X1_52 wi_yX7_advance wsl_yX7_advance (Nat.le_of_ble_eq_true rfl) rfl (gO_of g34) rfl (Nat.le_of_ble_eq_true rfl) ⟨Nat.le_of_ble_eq_true rfl, Nat.le_of_ble_eq_true rfl⟩ ⟨Nat.zero_le _, Nat.zero_le _⟩ dX1_readValue_113 ?_
  obtain rfl := Option.some.inj h
  exact fw_vret C hr hlk dX1_readValue_116
set_option maxRecDepth 100000 in
def f_X1_readValue (S : List fw_Sh) (M : fw_Mem) (a0 : Nat) (a1 : Nat) : Option fw_Mem := gd (gO S 1 a0) (b1 (f_X1_wordNumber S M a0) (fun v1 => gd (gN (M a0 0)) (gd (gO S 7 ((M a0 0).toNatClampNeg)) (if (M ((M a0 0).toNatClampNeg) 3) = 3 then (if v1 = (-1) then (if (M ((M a0 0).toNatClampNeg) 6) ≤ 9999 then (b1 (lf_X1_readValue_60 S a0 a1 v1 20000 0 M) (fun l25 => gd (gN (l25 a0 0)) (gd (gO S 7 ((l25 a0 0).toNatClampNeg)) (b1 (f_X7_advance S l25 ((l25 a0 0).toNatClampNeg)) (fun M27 => some M27))))) else (b1 (f_X7_fail S M ((M a0 0).toNatClampNeg) 2) (fun M29 => fj_X1_readValue_58 S M29 a0 a1 v1))) else (b1 (lf_X1_readValue_60 S a0 a1 v1 20000 0 M) (fun l20 => gd (gN (l20 a0 0)) (gd (gO S 7 ((l20 a0 0).toNatClampNeg)) (b1 (f_X7_advance S l20 ((l20 a0 0).toNatClampNeg)) (fun M22 => some M22)))))) else (if v1 = (-1) then (b1 (f_X7_fail S M ((M a0 0).toNatClampNeg) 1) (fun M47 => fj_X1_readValue_58 S M47 a0 a1 v1)) else (if v1 = (-1) then (if (M ((M a0 0).toNatClampNeg) 6) ≤ 9999 then (b1 (lf_X1_readValue_60 S a0 a1 v1 20000 0 M) (fun l42 => gd (gN (l42 a0 0)) (gd (gO S 7 ((l42 a0 0).toNatClampNeg)) (b1 (f_X7_advance S l42 ((l42 a0 0).toNatClampNeg)) (fun M44 => some M44))))) else (b1 (f_X7_fail S M ((M a0 0).toNatClampNeg) 2) (fun M46 => fj_X1_readValue_58 S M46 a0 a1 v1))) else (b1 (lf_X1_readValue_60 S a0 a1 v1 20000 0 M) (fun l37 => gd (gN (l37 a0 0)) (gd (gO S 7 ((l37 a0 0).toNatClampNeg)) (b1 (f_X7_advance S l37 ((l37 a0 0).toNatClampNeg)) (fun M39 => some M39)))))))))))
theorem cal_X1_readValue : fw_cal yX1_readValue (.code yX1_readValue cX1_readValue 4 none) 1 := ⟨wc_yX1_readValue, wini_X1, by decide, by decide, by decide +kernel⟩
set_option maxHeartbeats 4000000 in
set_option maxRecDepth 100000 in
theorem c_X1_readValue {l : Launch} {G : fw_G} {S : List fw_Sh} {M : fw_Mem} {a0 : Nat} {a1 : Nat} {r : fw_Mem} (hl : l.stackTraces = false) (h : f_X1_readValue S M a0 a1 = some r) : fw_M l G yX1_readValue (.code yX1_readValue cX1_readValue 4 none) 9 (fw_mcO (.inl none, S, r)) (fw_msO (.inl none, S, r)) S M [.ref a0, .ref a1] (.inl none, S, r) := by
  refine fw_of [(0, .ref a0), (1, .ref a1)] (by decide) (Nat.le_of_ble_eq_true rfl) rfl ?_
  intro p e s m args below meth c C hr hlk hnm ht _
  unfold f_X1_readValue at h
  refine fw_aload_n C 0 dX1_readValue_0 rfl rfl ?_
  obtain ⟨g2, h⟩ := gd_some h
  obtain ⟨v1, e1, h⟩ := b1_some h
  refine fw_callV (ci := 1) [] C (c_X1_wordNumber hl e1) cal_X1_wordNumber wm_X1_102 wi_yX1_wordNumber wsl_yX1_wordNumber (Nat.le_of_ble_eq_true rfl) rfl (gO_of g2) rfl (Nat.le_of_ble_eq_true rfl) ⟨Nat.le_of_ble_eq_true rfl, Nat.le_of_ble_eq_true rfl⟩ ⟨Nat.zero_le _, Nat.zero_le _⟩ dX1_readValue_1 ?_
  refine fw_istore_n C [(2, _), (0, _), (1, _)] dX1_readValue_4 rfl (Nat.le_of_ble_eq_true rfl) rfl ?_
  refine fw_aload_n C 1 dX1_readValue_5 rfl rfl ?_
  obtain ⟨g3, h⟩ := gd_some h
  refine fw_getR C 1 0 (Nat.le_of_ble_eq_true rfl) (Nat.le_of_ble_eq_true rfl) wf_X1_21 rfl (gO_of g2) (gN_of g3) dX1_readValue_6 ?_
  obtain ⟨g4, h⟩ := gd_some h
  refine fw_getI C 7 3 (Nat.le_of_ble_eq_true rfl) (Nat.le_of_ble_eq_true rfl) wf_X1_59 rfl (gO_of g4) dX1_readValue_9 ?_
  refine fw_iconst C 3 dX1_readValue_12 rfl ?_
  refine fw_icmp_eq C 32 dX1_readValue_13 (by decide) (fun c5 => ?_) (fun c5 => ?_)
  · replace h := (if_pos c5).symm.trans h
    refine fw_iload_n C 0 dX1_readValue_32 rfl rfl ?_
    refine fw_iconst C (-1) dX1_readValue_33 rfl ?_
    refine fw_icmp_ne C 58 dX1_readValue_34 (by decide) (fun c6 => ?_) (fun c6 => ?_)
    · replace h := (if_neg c6).symm.trans h
      refine fw_iconst C 0 dX1_readValue_58 rfl ?_
      refine fw_istore_n C [(3, _), (2, _), (0, _), (1, _)] dX1_readValue_59 rfl (Nat.le_of_ble_eq_true rfl) rfl ?_
      refine fw_sub [2, 3, 1, 0] rfl ?_
      obtain ⟨l20, e20, h⟩ := b1_some h
      refine lc_X1_readValue_60 C hr hlk hl ht e20 ?_
      refine fw_aload_n C 0 dX1_readValue_109 rfl rfl ?_
      obtain ⟨g21, h⟩ := gd_some h
      refine fw_getR C 1 0 (Nat.le_of_ble_eq_true rfl) (Nat.le_of_ble_eq_true rfl) wf_X1_21 rfl (gO_of g2) (gN_of g21) dX1_readValue_110 ?_
      obtain ⟨g23, h⟩ := gd_some h
      obtain ⟨M22, e22, h⟩ := b1_some h
      refine fw_callV (ci := 7) [] C (c_X7_advance hl e22) cal_X7_advance wm_X1_52 wi_yX7_advance wsl_yX7_advance (Nat.le_of_ble_eq_true rfl) rfl (gO_of g23) rfl (Nat.le_of_ble_eq_true rfl) ⟨Nat.le_of_ble_eq_true rfl, Nat.le_of_ble_eq_true rfl⟩ ⟨Nat.zero_le _, Nat.zero_le _⟩ dX1_readValue_113 ?_
      obtain rfl := Option.some.inj h
      exact fw_vret C hr hlk dX1_readValue_116
    · replace h := (if_pos c6).symm.trans h
      refine fw_aload_n C 1 dX1_readValue_37 rfl rfl ?_
      refine fw_getR C 1 0 (Nat.le_of_ble_eq_true rfl) (Nat.le_of_ble_eq_true rfl) wf_X1_21 rfl (gO_of g2) (gN_of g3) dX1_readValue_38 ?_
      refine fw_getI C 7 6 (Nat.le_of_ble_eq_true rfl) (Nat.le_of_ble_eq_true rfl) wf_X1_105 rfl (gO_of g4) dX1_readValue_41 ?_
      refine fw_sipush C 9999 dX1_readValue_44 rfl ?_
      refine fw_icmp_le C 58 dX1_readValue_47 (by decide) (fun c24 => ?_) (fun c24 => ?_)
      · replace h := (if_pos c24).symm.trans h
        refine fw_iconst C 0 dX1_readValue_58 rfl ?_
        refine fw_istore_n C [(3, _), (2, _), (0, _), (1, _)] dX1_readValue_59 rfl (Nat.le_of_ble_eq_true rfl) rfl ?_
        refine fw_sub [2, 3, 1, 0] rfl ?_
        obtain ⟨l25, e25, h⟩ := b1_some h
        refine lc_X1_readValue_60 C hr hlk hl ht e25 ?_
        refine fw_aload_n C 0 dX1_readValue_109 rfl rfl ?_
        obtain ⟨g26, h⟩ := gd_some h
        refine fw_getR C 1 0 (Nat.le_of_ble_eq_true rfl) (Nat.le_of_ble_eq_true rfl) wf_X1_21 rfl (gO_of g2) (gN_of g26) dX1_readValue_110 ?_
        obtain ⟨g28, h⟩ := gd_some h
        obtain ⟨M27, e27, h⟩ := b1_some h
        refine fw_callV (ci := 7) [] C (c_X7_advance hl e27) cal_X7_advance wm_X1_52 wi_yX7_advance wsl_yX7_advance (Nat.le_of_ble_eq_true rfl) rfl (gO_of g28) rfl (Nat.le_of_ble_eq_true rfl) ⟨Nat.le_of_ble_eq_true rfl, Nat.le_of_ble_eq_true rfl⟩ ⟨Nat.zero_le _, Nat.zero_le _⟩ dX1_readValue_113 ?_
        obtain rfl := Option.some.inj h
        exact fw_vret C hr hlk dX1_readValue_116
      · replace h := (if_neg c24).symm.trans h
        refine fw_aload_n C 1 dX1_readValue_50 rfl rfl ?_
        refine fw_getR C 1 0 (Nat.le_of_ble_eq_true rfl) (Nat.le_of_ble_eq_true rfl) wf_X1_21 rfl (gO_of g2) (gN_of g3) dX1_readValue_51 ?_
        refine fw_iconst C 2 dX1_readValue_54 rfl ?_
        obtain ⟨M29, e29, h⟩ := b1_some h
        refine fw_callV (ci := 7) [_] C (c_X7_fail hl e29) cal_X7_fail wm_X1_49 wi_yX7_fail wsl_yX7_fail (Nat.le_of_ble_eq_true rfl) rfl (gO_of g4) rfl (Nat.le_of_ble_eq_true rfl) ⟨Nat.le_of_ble_eq_true rfl, Nat.le_of_ble_eq_true rfl⟩ ⟨Nat.zero_le _, Nat.zero_le _⟩ dX1_readValue_55 ?_
        refine fw_sub [1, 2, 0] rfl ?_
        exact jc_X1_readValue_58 C hr hlk hl ht rfl h
  · replace h := (if_neg c5).symm.trans h
    refine fw_iload_n C 0 dX1_readValue_16 rfl rfl ?_
    refine fw_iconst C (-1) dX1_readValue_17 rfl ?_
    refine fw_icmp_ne C 32 dX1_readValue_18 (by decide) (fun c35 => ?_) (fun c35 => ?_)
    · replace h := (if_neg c35).symm.trans h
      refine fw_iload_n C 0 dX1_readValue_32 rfl rfl ?_
      refine fw_iconst C (-1) dX1_readValue_33 rfl ?_
      refine fw_icmp_ne C 58 dX1_readValue_34 (by decide) (fun c36 => ?_) (fun c36 => ?_)
      · replace h := (if_neg c36).symm.trans h
        refine fw_iconst C 0 dX1_readValue_58 rfl ?_
        refine fw_istore_n C [(3, _), (2, _), (0, _), (1, _)] dX1_readValue_59 rfl (Nat.le_of_ble_eq_true rfl) rfl ?_
        refine fw_sub [2, 3, 1, 0] rfl ?_
        obtain ⟨l37, e37, h⟩ := b1_some h
        refine lc_X1_readValue_60 C hr hlk hl ht e37 ?_
        refine fw_aload_n C 0 dX1_readValue_109 rfl rfl ?_
        obtain ⟨g38, h⟩ := gd_some h
        refine fw_getR C 1 0 (Nat.le_of_ble_eq_true rfl) (Nat.le_of_ble_eq_true rfl) wf_X1_21 rfl (gO_of g2) (gN_of g38) dX1_readValue_110 ?_
        obtain ⟨g40, h⟩ := gd_some h
        obtain ⟨M39, e39, h⟩ := b1_some h
        refine fw_callV (ci := 7) [] C (c_X7_advance hl e39) cal_X7_advance wm_X1_52 wi_yX7_advance wsl_yX7_advance (Nat.le_of_ble_eq_true rfl) rfl (gO_of g40) rfl (Nat.le_of_ble_eq_true rfl) ⟨Nat.le_of_ble_eq_true rfl, Nat.le_of_ble_eq_true rfl⟩ ⟨Nat.zero_le _, Nat.zero_le _⟩ dX1_readValue_113 ?_
        obtain rfl := Option.some.inj h
        exact fw_vret C hr hlk dX1_readValue_116
      · replace h := (if_pos c36).symm.trans h
        refine fw_aload_n C 1 dX1_readValue_37 rfl rfl ?_
        refine fw_getR C 1 0 (Nat.le_of_ble_eq_true rfl) (Nat.le_of_ble_eq_true rfl) wf_X1_21 rfl (gO_of g2) (gN_of g3) dX1_readValue_38 ?_
        refine fw_getI C 7 6 (Nat.le_of_ble_eq_true rfl) (Nat.le_of_ble_eq_true rfl) wf_X1_105 rfl (gO_of g4) dX1_readValue_41 ?_
        refine fw_sipush C 9999 dX1_readValue_44 rfl ?_
        refine fw_icmp_le C 58 dX1_readValue_47 (by decide) (fun c41 => ?_) (fun c41 => ?_)
        · replace h := (if_pos c41).symm.trans h
          refine fw_iconst C 0 dX1_readValue_58 rfl ?_
          refine fw_istore_n C [(3, _), (2, _), (0, _), (1, _)] dX1_readValue_59 rfl (Nat.le_of_ble_eq_true rfl) rfl ?_
          refine fw_sub [2, 3, 1, 0] rfl ?_
          obtain ⟨l42, e42, h⟩ := b1_some h
          refine lc_X1_readValue_60 C hr hlk hl ht e42 ?_
          refine fw_aload_n C 0 dX1_readValue_109 rfl rfl ?_
          obtain ⟨g43, h⟩ := gd_some h
          refine fw_getR C 1 0 (Nat.le_of_ble_eq_true rfl) (Nat.le_of_ble_eq_true rfl) wf_X1_21 rfl (gO_of g2) (gN_of g43) dX1_readValue_110 ?_
          obtain ⟨g45, h⟩ := gd_some h
          obtain ⟨M44, e44, h⟩ := b1_some h
          refine fw_callV (ci := 7) [] C (c_X7_advance hl e44) cal_X7_advance wm_X1_52 wi_yX7_advance wsl_yX7_advance (Nat.le_of_ble_eq_true rfl) rfl (gO_of g45) rfl (Nat.le_of_ble_eq_true rfl) ⟨Nat.le_of_ble_eq_true rfl, Nat.le_of_ble_eq_true rfl⟩ ⟨Nat.zero_le _, Nat.zero_le _⟩ dX1_readValue_113 ?_
          obtain rfl := Option.some.inj h
          exact fw_vret C hr hlk dX1_readValue_116
        · replace h := (if_neg c41).symm.trans h
          refine fw_aload_n C 1 dX1_readValue_50 rfl rfl ?_
          refine fw_getR C 1 0 (Nat.le_of_ble_eq_true rfl) (Nat.le_of_ble_eq_true rfl) wf_X1_21 rfl (gO_of g2) (gN_of g3) dX1_readValue_51 ?_
          refine fw_iconst C 2 dX1_readValue_54 rfl ?_
          obtain ⟨M46, e46, h⟩ := b1_some h
          refine fw_callV (ci := 7) [_] C (c_X7_fail hl e46) cal_X7_fail wm_X1_49 wi_yX7_fail wsl_yX7_fail (Nat.le_of_ble_eq_true rfl) rfl (gO_of g4) rfl (Nat.le_of_ble_eq_true rfl) ⟨Nat.le_of_ble_eq_true rfl, Nat.le_of_ble_eq_true rfl⟩ ⟨Nat.zero_le _, Nat.zero_le _⟩ dX1_readValue_55 ?_
          refine fw_sub [1, 2, 0] rfl ?_
          exact jc_X1_readValue_58 C hr hlk hl ht rfl h
    · replace h := (if_pos c35).symm.trans h
      refine fw_aload_n C 1 dX1_readValue_21 rfl rfl ?_
      refine fw_getR C 1 0 (Nat.le_of_ble_eq_true rfl) (Nat.le_of_ble_eq_true rfl) wf_X1_21 rfl (gO_of g2) (gN_of g3) dX1_readValue_22 ?_
      refine fw_iconst C 1 dX1_readValue_25 rfl ?_
      obtain ⟨M47, e47, h⟩ := b1_some h
      refine fw_callV (ci := 7) [_] C (c_X7_fail hl e47) cal_X7_fail wm_X1_49 wi_yX7_fail wsl_yX7_fail (Nat.le_of_ble_eq_true rfl) rfl (gO_of g4) rfl (Nat.le_of_ble_eq_true rfl) ⟨Nat.le_of_ble_eq_true rfl, Nat.le_of_ble_eq_true rfl⟩ ⟨Nat.zero_le _, Nat.zero_le _⟩ dX1_readValue_26 ?_
      refine fw_goto C 58 dX1_readValue_29 (by decide) ?_
      refine fw_sub [1, 2, 0] rfl ?_
      exact jc_X1_readValue_58 C hr hlk hl ht rfl h
set_option maxRecDepth 100000 in
def lf_X1_compare_76 (S : List fw_Sh) (M : fw_Mem) (a0 : Nat) (x1 : Int32) (x2 : Int32) : Nat → Int32 → Int32 → Option (Int32)
  | 0, _, _ => none
  | n + 1, x3, x4 => gd (gO S 1 a0) (if (M a0 4) ≤ x4 then (some x3) else (if x1 = 0 then (if x2 = 0 then (gd (gN (M a0 2)) (gd (gA S 0 ((M a0 2).toNatClampNeg) x4) (gd (gN (M a0 3)) (gd (gA S 0 ((M a0 3).toNatClampNeg) x4) (if (M ((M a0 2).toNatClampNeg) x4.toNatClampNeg) = (M ((M a0 3).toNatClampNeg) x4.toNatClampNeg) then (bm (x3 ||| ((1 : Int32) <<< (x4 &&& 31))) (fun y64 => lf_X1_compare_76 S M a0 x1 x2 n y64 (x4 + 1))) else (if x1 = 0 then (if x2 = 0 then (lf_X1_compare_76 S M a0 x1 x2 n x3 (x4 + 1)) else (if (M ((M a0 2).toNatClampNeg) x4.toNatClampNeg) ≤ (M ((M a0 3).toNatClampNeg) x4.toNatClampNeg) then (lf_X1_compare_76 S M a0 x1 x2 n x3 (x4 + 1)) else (bm (x3 ||| ((1 : Int32) <<< (x4 &&& 31))) (fun y58 => lf_X1_compare_76 S M a0 x1 x2 n y58 (x4 + 1))))) else (if (M ((M a0 2).toNatClampNeg) x4.toNatClampNeg) < (M ((M a0 3).toNatClampNeg) x4.toNatClampNeg) then (bm (x3 ||| ((1 : Int32) <<< (x4 &&& 31))) (fun y60 => lf_X1_compare_76 S M a0 x1 x2 n y60 (x4 + 1))) else (if x2 = 0 then (lf_X1_compare_76 S M a0 x1 x2 n x3 (x4 + 1)) else (if (M ((M a0 2).toNatClampNeg) x4.toNatClampNeg) ≤ (M ((M a0 3).toNatClampNeg) x4.toNatClampNeg) then (lf_X1_compare_76 S M a0 x1 x2 n x3 (x4 + 1)) else (bm (x3 ||| ((1 : Int32) <<< (x4 &&& 31))) (fun y63 => lf_X1_compare_76 S M a0 x1 x2 n y63 (x4 + 1)))))))))))) else (if x1 = 0 then (if x2 = 0 then (lf_X1_compare_76 S M a0 x1 x2 n x3 (x4 + 1)) else (gd (gN (M a0 2)) (gd (gA S 0 ((M a0 2).toNatClampNeg) x4) (gd (gN (M a0 3)) (gd (gA S 0 ((M a0 3).toNatClampNeg) x4) (if (M ((M a0 2).toNatClampNeg) x4.toNatClampNeg) ≤ (M ((M a0 3).toNatClampNeg) x4.toNatClampNeg) then (lf_X1_compare_76 S M a0 x1 x2 n x3 (x4 + 1)) else (bm (x3 ||| ((1 : Int32) <<< (x4 &&& 31))) (fun y40 => lf_X1_compare_76 S M a0 x1 x2 n y40 (x4 + 1))))))))) else (gd (gN (M a0 2)) (gd (gA S 0 ((M a0 2).toNatClampNeg) x4) (gd (gN (M a0 3)) (gd (gA S 0 ((M a0 3).toNatClampNeg) x4) (if (M ((M a0 2).toNatClampNeg) x4.toNatClampNeg) < (M ((M a0 3).toNatClampNeg) x4.toNatClampNeg) then (bm (x3 ||| ((1 : Int32) <<< (x4 &&& 31))) (fun y46 => lf_X1_compare_76 S M a0 x1 x2 n y46 (x4 + 1))) else (if x2 = 0 then (lf_X1_compare_76 S M a0 x1 x2 n x3 (x4 + 1)) else (if (M ((M a0 2).toNatClampNeg) x4.toNatClampNeg) ≤ (M ((M a0 3).toNatClampNeg) x4.toNatClampNeg) then (lf_X1_compare_76 S M a0 x1 x2 n x3 (x4 + 1)) else (bm (x3 ||| ((1 : Int32) <<< (x4 &&& 31))) (fun y49 => lf_X1_compare_76 S M a0 x1 x2 n y49 (x4 + 1)))))))))))) else (if x1 = 0 then (if x2 = 0 then (lf_X1_compare_76 S M a0 x1 x2 n x3 (x4 + 1)) else (gd (gN (M a0 2)) (gd (gA S 0 ((M a0 2).toNatClampNeg) x4) (gd (gN (M a0 3)) (gd (gA S 0 ((M a0 3).toNatClampNeg) x4) (if (M ((M a0 2).toNatClampNeg) x4.toNatClampNeg) ≤ (M ((M a0 3).toNatClampNeg) x4.toNatClampNeg) then (lf_X1_compare_76 S M a0 x1 x2 n x3 (x4 + 1)) else (bm (x3 ||| ((1 : Int32) <<< (x4 &&& 31))) (fun y22 => lf_X1_compare_76 S M a0 x1 x2 n y22 (x4 + 1))))))))) else (gd (gN (M a0 2)) (gd (gA S 0 ((M a0 2).toNatClampNeg) x4) (gd (gN (M a0 3)) (gd (gA S 0 ((M a0 3).toNatClampNeg) x4) (if (M ((M a0 2).toNatClampNeg) x4.toNatClampNeg) < (M ((M a0 3).toNatClampNeg) x4.toNatClampNeg) then (bm (x3 ||| ((1 : Int32) <<< (x4 &&& 31))) (fun y28 => lf_X1_compare_76 S M a0 x1 x2 n y28 (x4 + 1))) else (if x2 = 0 then (lf_X1_compare_76 S M a0 x1 x2 n x3 (x4 + 1)) else (if (M ((M a0 2).toNatClampNeg) x4.toNatClampNeg) ≤ (M ((M a0 3).toNatClampNeg) x4.toNatClampNeg) then (lf_X1_compare_76 S M a0 x1 x2 n x3 (x4 + 1)) else (bm (x3 ||| ((1 : Int32) <<< (x4 &&& 31))) (fun y31 => lf_X1_compare_76 S M a0 x1 x2 n y31 (x4 + 1)))))))))))))
set_option maxHeartbeats 4000000 in
set_option maxRecDepth 100000 in
theorem lc_X1_compare_76 {G : fw_G} {p : Program} {l : Launch} {e : Env} {s : State} {m : MethodId} {args : Array Value} {below : List Frame} {meth : Method} {c : Code} {S : List fw_Sh} {o : fw_O} {M : fw_Mem} {a0 : Nat} {x1 : Int32} {x2 : Int32} (C : fw_C G RX1 cX1_compare 6 p s m args c) (hr : meth.sig.returnType = (some .int)) (hlk : meth.locks = false) (hl : l.stackTraces = false) (ht : ∀ x ∈ c.exceptionTable.toList, False) :
    ∀ {n : Nat} {x3 : Int32} {x4 : Int32} {r : (Int32)} (h : lf_X1_compare_76 S M a0 x1 x2 n x3 x4 = some r) (kx : fw_W G p l e (fw_rm 10 (fw_mcO o) (fw_msO o)) s m args below meth c 6 (fw_Z G below args s (fw_mcO o) (fw_msO o) o) 0 0 177 [(3, .int r)] [] S M), fw_W G p l e (fw_rm 10 (fw_mcO o) (fw_msO o)) s m args below meth c 6 (fw_Z G below args s (fw_mcO o) (fw_msO o) o) 0 0 76 [(0, .ref a0), (1, .int x1), (2, .int x2), (3, .int x3), (4, .int x4)] [] S M := by
  intro n
  induction n with
  | zero =>
    intro x3 x4 r h
    exact nomatch (show (none : Option (Int32)) = some r from h)
  | succ n ih =>
    intro x3 x4 r h kx
    rw [lf_X1_compare_76.eq_2] at h
    refine fw_iload C 4 dX1_compare_76 rfl ?_
    refine fw_aload_n C 0 dX1_compare_78 rfl rfl ?_
    obtain ⟨g12, h⟩ := gd_some h
    refine fw_getI C 1 4 (Nat.le_of_ble_eq_true rfl) (Nat.le_of_ble_eq_true rfl) wf_X1_31 rfl (gO_of g12) dX1_compare_79 ?_
    refine fw_icmp_ge C 177 dX1_compare_82 (by decide) (fun c13 => ?_) (fun c13 => ?_)
    · replace h := (if_pos c13).symm.trans h
      obtain rfl := Option.some.inj h
      refine fw_sub [3] rfl ?_
      exact kx
    · replace h := (if_neg c13).symm.trans h
      refine fw_iload_n C 1 dX1_compare_85 rfl rfl ?_
      refine fw_if_ne C 114 dX1_compare_86 (by decide) (fun c14 => ?_) (fun c14 => ?_)
      · replace h := (if_neg c14).symm.trans h
        refine fw_iconst C 0 dX1_compare_114 rfl ?_
        refine fw_istore C [(5, _), (0, _), (1, _), (2, _), (3, _), (4, _)] dX1_compare_115 (Nat.le_of_ble_eq_true rfl) rfl ?_
        refine fw_iload C 0 dX1_compare_117 rfl ?_
        refine fw_if_ne C 164 dX1_compare_119 (by decide) (fun q => absurd q (by decide)) (fun _ => ?_)
        refine fw_iload_n C 2 dX1_compare_122 rfl rfl ?_
        refine fw_if_eq C 143 dX1_compare_123 (by decide) (fun c15 => ?_) (fun c15 => ?_)
        · replace h := (if_pos c15).symm.trans h
          refine fw_iload_n C 3 dX1_compare_143 rfl rfl ?_
          refine fw_if_eq C 171 dX1_compare_144 (by decide) (fun c16 => ?_) (fun c16 => ?_)
          · replace h := (if_pos c16).symm.trans h
            refine fw_iinc C _ 5 [(4, _), (5, _), (0, _), (1, _), (2, _), (3, _)] dX1_compare_171 rfl rfl (Nat.le_of_ble_eq_true rfl) rfl ?_
            refine fw_goto C 76 dX1_compare_174 (by decide) ?_
            refine fw_sub [2, 3, 4, 5, 0] rfl ?_
            exact ih h kx
          · replace h := (if_neg c16).symm.trans h
            refine fw_aload_n C 1 dX1_compare_147 rfl rfl ?_
            obtain ⟨g17, h⟩ := gd_some h
            refine fw_getR C 1 2 (Nat.le_of_ble_eq_true rfl) (Nat.le_of_ble_eq_true rfl) wf_X1_15 rfl (gO_of g12) (gN_of g17) dX1_compare_148 ?_
            refine fw_iload C 5 dX1_compare_151 rfl ?_
            obtain ⟨g18, h⟩ := gd_some h
            refine fw_iald C (gA_of g18) dX1_compare_153 ?_
            refine fw_aload_n C 1 dX1_compare_154 rfl rfl ?_
            obtain ⟨g19, h⟩ := gd_some h
            refine fw_getR C 1 3 (Nat.le_of_ble_eq_true rfl) (Nat.le_of_ble_eq_true rfl) wf_X1_18 rfl (gO_of g12) (gN_of g19) dX1_compare_155 ?_
            refine fw_iload C 5 dX1_compare_158 rfl ?_
            obtain ⟨g20, h⟩ := gd_some h
            refine fw_iald C (gA_of g20) dX1_compare_160 ?_
            refine fw_icmp_le C 171 dX1_compare_161 (by decide) (fun c21 => ?_) (fun c21 => ?_)
            · replace h := (if_pos c21).symm.trans h
              refine fw_iinc C _ 5 [(4, _), (5, _), (0, _), (1, _), (2, _), (3, _)] dX1_compare_171 rfl rfl (Nat.le_of_ble_eq_true rfl) rfl ?_
              refine fw_goto C 76 dX1_compare_174 (by decide) ?_
              refine fw_sub [2, 3, 4, 5, 0] rfl ?_
              exact ih h kx
            · replace h := (if_neg c21).symm.trans h
              refine fw_iload_n C 4 dX1_compare_164 rfl rfl ?_
              refine fw_iconst C 1 dX1_compare_165 rfl ?_
              refine fw_iload C 5 dX1_compare_166 rfl ?_
              refine fw_ishl C dX1_compare_168 ?_
              refine fw_ior C dX1_compare_169 ?_
              refine fw_bi h (fun y22 h => ?_)
              refine fw_istore_n C [(3, _), (5, _), (0, _), (1, _), (2, _), (4, _)] dX1_compare_170 rfl (Nat.le_of_ble_eq_true rfl) rfl ?_
              refine fw_iinc C _ 5 [(4, _), (3, _), (5, _), (0, _), (1, _), (2, _)] dX1_compare_171 rfl rfl (Nat.le_of_ble_eq_true rfl) rfl ?_
              refine fw_goto C 76 dX1_compare_174 (by decide) ?_
              refine fw_sub [3, 4, 5, 1, 0] rfl ?_
              exact ih h kx
        · replace h := (if_neg c15).symm.trans h
          refine fw_aload_n C 1 dX1_compare_126 rfl rfl ?_
          obtain ⟨g23, h⟩ := gd_some h
          refine fw_getR C 1 2 (Nat.le_of_ble_eq_true rfl) (Nat.le_of_ble_eq_true rfl) wf_X1_15 rfl (gO_of g12) (gN_of g23) dX1_compare_127 ?_
          refine fw_iload C 5 dX1_compare_130 rfl ?_
          obtain ⟨g24, h⟩ := gd_some h
          refine fw_iald C (gA_of g24) dX1_compare_132 ?_
          refine fw_aload_n C 1 dX1_compare_133 rfl rfl ?_
          obtain ⟨g25, h⟩ := gd_some h
          refine fw_getR C 1 3 (Nat.le_of_ble_eq_true rfl) (Nat.le_of_ble_eq_true rfl) wf_X1_18 rfl (gO_of g12) (gN_of g25) dX1_compare_134 ?_
          refine fw_iload C 5 dX1_compare_137 rfl ?_
          obtain ⟨g26, h⟩ := gd_some h
          refine fw_iald C (gA_of g26) dX1_compare_139 ?_
          refine fw_icmp_lt C 164 dX1_compare_140 (by decide) (fun c27 => ?_) (fun c27 => ?_)
          · replace h := (if_pos c27).symm.trans h
            refine fw_iload_n C 4 dX1_compare_164 rfl rfl ?_
            refine fw_iconst C 1 dX1_compare_165 rfl ?_
            refine fw_iload C 5 dX1_compare_166 rfl ?_
            refine fw_ishl C dX1_compare_168 ?_
            refine fw_ior C dX1_compare_169 ?_
            refine fw_bi h (fun y28 h => ?_)
            refine fw_istore_n C [(3, _), (5, _), (0, _), (1, _), (2, _), (4, _)] dX1_compare_170 rfl (Nat.le_of_ble_eq_true rfl) rfl ?_
            refine fw_iinc C _ 5 [(4, _), (3, _), (5, _), (0, _), (1, _), (2, _)] dX1_compare_171 rfl rfl (Nat.le_of_ble_eq_true rfl) rfl ?_
            refine fw_goto C 76 dX1_compare_174 (by decide) ?_
            refine fw_sub [3, 4, 5, 1, 0] rfl ?_
            exact ih h kx
          · replace h := (if_neg c27).symm.trans h
            refine fw_iload_n C 3 dX1_compare_143 rfl rfl ?_
            refine fw_if_eq C 171 dX1_compare_144 (by decide) (fun c29 => ?_) (fun c29 => ?_)
            · replace h := (if_pos c29).symm.trans h
              refine fw_iinc C _ 5 [(4, _), (5, _), (0, _), (1, _), (2, _), (3, _)] dX1_compare_171 rfl rfl (Nat.le_of_ble_eq_true rfl) rfl ?_
              refine fw_goto C 76 dX1_compare_174 (by decide) ?_
              refine fw_sub [2, 3, 4, 5, 0] rfl ?_
              exact ih h kx
            · replace h := (if_neg c29).symm.trans h
              refine fw_aload_n C 1 dX1_compare_147 rfl rfl ?_
              refine fw_getR C 1 2 (Nat.le_of_ble_eq_true rfl) (Nat.le_of_ble_eq_true rfl) wf_X1_15 rfl (gO_of g12) (gN_of g23) dX1_compare_148 ?_
              refine fw_iload C 5 dX1_compare_151 rfl ?_
              refine fw_iald C (gA_of g24) dX1_compare_153 ?_
              refine fw_aload_n C 1 dX1_compare_154 rfl rfl ?_
              refine fw_getR C 1 3 (Nat.le_of_ble_eq_true rfl) (Nat.le_of_ble_eq_true rfl) wf_X1_18 rfl (gO_of g12) (gN_of g25) dX1_compare_155 ?_
              refine fw_iload C 5 dX1_compare_158 rfl ?_
              refine fw_iald C (gA_of g26) dX1_compare_160 ?_
              refine fw_icmp_le C 171 dX1_compare_161 (by decide) (fun c30 => ?_) (fun c30 => ?_)
              · replace h := (if_pos c30).symm.trans h
                refine fw_iinc C _ 5 [(4, _), (5, _), (0, _), (1, _), (2, _), (3, _)] dX1_compare_171 rfl rfl (Nat.le_of_ble_eq_true rfl) rfl ?_
                refine fw_goto C 76 dX1_compare_174 (by decide) ?_
                refine fw_sub [2, 3, 4, 5, 0] rfl ?_
                exact ih h kx
              · replace h := (if_neg c30).symm.trans h
                refine fw_iload_n C 4 dX1_compare_164 rfl rfl ?_
                refine fw_iconst C 1 dX1_compare_165 rfl ?_
                refine fw_iload C 5 dX1_compare_166 rfl ?_
                refine fw_ishl C dX1_compare_168 ?_
                refine fw_ior C dX1_compare_169 ?_
                refine fw_bi h (fun y31 h => ?_)
                refine fw_istore_n C [(3, _), (5, _), (0, _), (1, _), (2, _), (4, _)] dX1_compare_170 rfl (Nat.le_of_ble_eq_true rfl) rfl ?_
                refine fw_iinc C _ 5 [(4, _), (3, _), (5, _), (0, _), (1, _), (2, _)] dX1_compare_171 rfl rfl (Nat.le_of_ble_eq_true rfl) rfl ?_
                refine fw_goto C 76 dX1_compare_174 (by decide) ?_
                refine fw_sub [3, 4, 5, 1, 0] rfl ?_
                exact ih h kx
      · replace h := (if_pos c14).symm.trans h
        refine fw_iload_n C 2 dX1_compare_89 rfl rfl ?_
        refine fw_if_ne C 114 dX1_compare_90 (by decide) (fun c32 => ?_) (fun c32 => ?_)
        · replace h := (if_neg c32).symm.trans h
          refine fw_iconst C 0 dX1_compare_114 rfl ?_
          refine fw_istore C [(5, _), (0, _), (1, _), (2, _), (3, _), (4, _)] dX1_compare_115 (Nat.le_of_ble_eq_true rfl) rfl ?_
          refine fw_iload C 0 dX1_compare_117 rfl ?_
          refine fw_if_ne C 164 dX1_compare_119 (by decide) (fun q => absurd q (by decide)) (fun _ => ?_)
          refine fw_iload_n C 2 dX1_compare_122 rfl rfl ?_
          refine fw_if_eq C 143 dX1_compare_123 (by decide) (fun c33 => ?_) (fun c33 => ?_)
          · replace h := (if_pos c33).symm.trans h
            refine fw_iload_n C 3 dX1_compare_143 rfl rfl ?_
            refine fw_if_eq C 171 dX1_compare_144 (by decide) (fun c34 => ?_) (fun c34 => ?_)
            · replace h := (if_pos c34).symm.trans h
              refine fw_iinc C _ 5 [(4, _), (5, _), (0, _), (1, _), (2, _), (3, _)] dX1_compare_171 rfl rfl (Nat.le_of_ble_eq_true rfl) rfl ?_
              refine fw_goto C 76 dX1_compare_174 (by decide) ?_
              refine fw_sub [2, 3, 4, 5, 0] rfl ?_
              exact ih h kx
            · replace h := (if_neg c34).symm.trans h
              refine fw_aload_n C 1 dX1_compare_147 rfl rfl ?_
              obtain ⟨g35, h⟩ := gd_some h
              refine fw_getR C 1 2 (Nat.le_of_ble_eq_true rfl) (Nat.le_of_ble_eq_true rfl) wf_X1_15 rfl (gO_of g12) (gN_of g35) dX1_compare_148 ?_
              refine fw_iload C 5 dX1_compare_151 rfl ?_
              obtain ⟨g36, h⟩ := gd_some h
              refine fw_iald C (gA_of g36) dX1_compare_153 ?_
              refine fw_aload_n C 1 dX1_compare_154 rfl rfl ?_
              obtain ⟨g37, h⟩ := gd_some h
              refine fw_getR C 1 3 (Nat.le_of_ble_eq_true rfl) (Nat.le_of_ble_eq_true rfl) wf_X1_18 rfl (gO_of g12) (gN_of g37) dX1_compare_155 ?_
              refine fw_iload C 5 dX1_compare_158 rfl ?_
              obtain ⟨g38, h⟩ := gd_some h
              refine fw_iald C (gA_of g38) dX1_compare_160 ?_
              refine fw_icmp_le C 171 dX1_compare_161 (by decide) (fun c39 => ?_) (fun c39 => ?_)
              · replace h := (if_pos c39).symm.trans h
                refine fw_iinc C _ 5 [(4, _), (5, _), (0, _), (1, _), (2, _), (3, _)] dX1_compare_171 rfl rfl (Nat.le_of_ble_eq_true rfl) rfl ?_
                refine fw_goto C 76 dX1_compare_174 (by decide) ?_
                refine fw_sub [2, 3, 4, 5, 0] rfl ?_
                exact ih h kx
              · replace h := (if_neg c39).symm.trans h
                refine fw_iload_n C 4 dX1_compare_164 rfl rfl ?_
                refine fw_iconst C 1 dX1_compare_165 rfl ?_
                refine fw_iload C 5 dX1_compare_166 rfl ?_
                refine fw_ishl C dX1_compare_168 ?_
                refine fw_ior C dX1_compare_169 ?_
                refine fw_bi h (fun y40 h => ?_)
                refine fw_istore_n C [(3, _), (5, _), (0, _), (1, _), (2, _), (4, _)] dX1_compare_170 rfl (Nat.le_of_ble_eq_true rfl) rfl ?_
                refine fw_iinc C _ 5 [(4, _), (3, _), (5, _), (0, _), (1, _), (2, _)] dX1_compare_171 rfl rfl (Nat.le_of_ble_eq_true rfl) rfl ?_
                refine fw_goto C 76 dX1_compare_174 (by decide) ?_
                refine fw_sub [3, 4, 5, 1, 0] rfl ?_
                exact ih h kx
          · replace h := (if_neg c33).symm.trans h
            refine fw_aload_n C 1 dX1_compare_126 rfl rfl ?_
            obtain ⟨g41, h⟩ := gd_some h
            refine fw_getR C 1 2 (Nat.le_of_ble_eq_true rfl) (Nat.le_of_ble_eq_true rfl) wf_X1_15 rfl (gO_of g12) (gN_of g41) dX1_compare_127 ?_
            refine fw_iload C 5 dX1_compare_130 rfl ?_
            obtain ⟨g42, h⟩ := gd_some h
            refine fw_iald C (gA_of g42) dX1_compare_132 ?_
            refine fw_aload_n C 1 dX1_compare_133 rfl rfl ?_
            obtain ⟨g43, h⟩ := gd_some h
            refine fw_getR C 1 3 (Nat.le_of_ble_eq_true rfl) (Nat.le_of_ble_eq_true rfl) wf_X1_18 rfl (gO_of g12) (gN_of g43) dX1_compare_134 ?_
            refine fw_iload C 5 dX1_compare_137 rfl ?_
            obtain ⟨g44, h⟩ := gd_some h
            refine fw_iald C (gA_of g44) dX1_compare_139 ?_
            refine fw_icmp_lt C 164 dX1_compare_140 (by decide) (fun c45 => ?_) (fun c45 => ?_)
            · replace h := (if_pos c45).symm.trans h
              refine fw_iload_n C 4 dX1_compare_164 rfl rfl ?_
              refine fw_iconst C 1 dX1_compare_165 rfl ?_
              refine fw_iload C 5 dX1_compare_166 rfl ?_
              refine fw_ishl C dX1_compare_168 ?_
              refine fw_ior C dX1_compare_169 ?_
              refine fw_bi h (fun y46 h => ?_)
              refine fw_istore_n C [(3, _), (5, _), (0, _), (1, _), (2, _), (4, _)] dX1_compare_170 rfl (Nat.le_of_ble_eq_true rfl) rfl ?_
              refine fw_iinc C _ 5 [(4, _), (3, _), (5, _), (0, _), (1, _), (2, _)] dX1_compare_171 rfl rfl (Nat.le_of_ble_eq_true rfl) rfl ?_
              refine fw_goto C 76 dX1_compare_174 (by decide) ?_
              refine fw_sub [3, 4, 5, 1, 0] rfl ?_
              exact ih h kx
            · replace h := (if_neg c45).symm.trans h
              refine fw_iload_n C 3 dX1_compare_143 rfl rfl ?_
              refine fw_if_eq C 171 dX1_compare_144 (by decide) (fun c47 => ?_) (fun c47 => ?_)
              · replace h := (if_pos c47).symm.trans h
                refine fw_iinc C _ 5 [(4, _), (5, _), (0, _), (1, _), (2, _), (3, _)] dX1_compare_171 rfl rfl (Nat.le_of_ble_eq_true rfl) rfl ?_
                refine fw_goto C 76 dX1_compare_174 (by decide) ?_
                refine fw_sub [2, 3, 4, 5, 0] rfl ?_
                exact ih h kx
              · replace h := (if_neg c47).symm.trans h
                refine fw_aload_n C 1 dX1_compare_147 rfl rfl ?_
                refine fw_getR C 1 2 (Nat.le_of_ble_eq_true rfl) (Nat.le_of_ble_eq_true rfl) wf_X1_15 rfl (gO_of g12) (gN_of g41) dX1_compare_148 ?_
                refine fw_iload C 5 dX1_compare_151 rfl ?_
                refine fw_iald C (gA_of g42) dX1_compare_153 ?_
                refine fw_aload_n C 1 dX1_compare_154 rfl rfl ?_
                refine fw_getR C 1 3 (Nat.le_of_ble_eq_true rfl) (Nat.le_of_ble_eq_true rfl) wf_X1_18 rfl (gO_of g12) (gN_of g43) dX1_compare_155 ?_
                refine fw_iload C 5 dX1_compare_158 rfl ?_
                refine fw_iald C (gA_of g44) dX1_compare_160 ?_
                refine fw_icmp_le C 171 dX1_compare_161 (by decide) (fun c48 => ?_) (fun c48 => ?_)
                · replace h := (if_pos c48).symm.trans h
                  refine fw_iinc C _ 5 [(4, _), (5, _), (0, _), (1, _), (2, _), (3, _)] dX1_compare_171 rfl rfl (Nat.le_of_ble_eq_true rfl) rfl ?_
                  refine fw_goto C 76 dX1_compare_174 (by decide) ?_
                  refine fw_sub [2, 3, 4, 5, 0] rfl ?_
                  exact ih h kx
                · replace h := (if_neg c48).symm.trans h
                  refine fw_iload_n C 4 dX1_compare_164 rfl rfl ?_
                  refine fw_iconst C 1 dX1_compare_165 rfl ?_
                  refine fw_iload C 5 dX1_compare_166 rfl ?_
                  refine fw_ishl C dX1_compare_168 ?_
                  refine fw_ior C dX1_compare_169 ?_
                  refine fw_bi h (fun y49 h => ?_)
                  refine fw_istore_n C [(3, _), (5, _), (0, _), (1, _), (2, _), (4, _)] dX1_compare_170 rfl (Nat.le_of_ble_eq_true rfl) rfl ?_
                  refine fw_iinc C _ 5 [(4, _), (3, _), (5, _), (0, _), (1, _), (2, _)] dX1_compare_171 rfl rfl (Nat.le_of_ble_eq_true rfl) rfl ?_
                  refine fw_goto C 76 dX1_compare_174 (by decide) ?_
                  refine fw_sub [3, 4, 5, 1, 0] rfl ?_
                  exact ih h kx
        · replace h := (if_pos c32).symm.trans h
          refine fw_aload_n C 0 dX1_compare_93 rfl rfl ?_
          obtain ⟨g50, h⟩ := gd_some h
          refine fw_getR C 1 2 (Nat.le_of_ble_eq_true rfl) (Nat.le_of_ble_eq_true rfl) wf_X1_15 rfl (gO_of g12) (gN_of g50) dX1_compare_94 ?_
          refine fw_iload C 4 dX1_compare_97 rfl ?_
          obtain ⟨g51, h⟩ := gd_some h
          refine fw_iald C (gA_of g51) dX1_compare_99 ?_
          refine fw_aload_n C 0 dX1_compare_100 rfl rfl ?_
          obtain ⟨g52, h⟩ := gd_some h
          refine fw_getR C 1 3 (Nat.le_of_ble_eq_true rfl) (Nat.le_of_ble_eq_true rfl) wf_X1_18 rfl (gO_of g12) (gN_of g52) dX1_compare_101 ?_
          refine fw_iload C 4 dX1_compare_104 rfl ?_
          obtain ⟨g53, h⟩ := gd_some h
          refine fw_iald C (gA_of g53) dX1_compare_106 ?_
          refine fw_icmp_ne C 114 dX1_compare_107 (by decide) (fun c54 => ?_) (fun c54 => ?_)
          · replace h := (if_neg c54).symm.trans h
            refine fw_iconst C 0 dX1_compare_114 rfl ?_
            refine fw_istore C [(5, _), (0, _), (1, _), (2, _), (3, _), (4, _)] dX1_compare_115 (Nat.le_of_ble_eq_true rfl) rfl ?_
            refine fw_iload C 0 dX1_compare_117 rfl ?_
            refine fw_if_ne C 164 dX1_compare_119 (by decide) (fun q => absurd q (by decide)) (fun _ => ?_)
            refine fw_iload_n C 2 dX1_compare_122 rfl rfl ?_
            refine fw_if_eq C 143 dX1_compare_123 (by decide) (fun c55 => ?_) (fun c55 => ?_)
            · replace h := (if_pos c55).symm.trans h
              refine fw_iload_n C 3 dX1_compare_143 rfl rfl ?_
              refine fw_if_eq C 171 dX1_compare_144 (by decide) (fun c56 => ?_) (fun c56 => ?_)
              · replace h := (if_pos c56).symm.trans h
                refine fw_iinc C _ 5 [(4, _), (5, _), (0, _), (1, _), (2, _), (3, _)] dX1_compare_171 rfl rfl (Nat.le_of_ble_eq_true rfl) rfl ?_
                refine fw_goto C 76 dX1_compare_174 (by decide) ?_
                refine fw_sub [2, 3, 4, 5, 0] rfl ?_
                exact ih h kx
              · replace h := (if_neg c56).symm.trans h
                refine fw_aload_n C 1 dX1_compare_147 rfl rfl ?_
                refine fw_getR C 1 2 (Nat.le_of_ble_eq_true rfl) (Nat.le_of_ble_eq_true rfl) wf_X1_15 rfl (gO_of g12) (gN_of g50) dX1_compare_148 ?_
                refine fw_iload C 5 dX1_compare_151 rfl ?_
                refine fw_iald C (gA_of g51) dX1_compare_153 ?_
                refine fw_aload_n C 1 dX1_compare_154 rfl rfl ?_
                refine fw_getR C 1 3 (Nat.le_of_ble_eq_true rfl) (Nat.le_of_ble_eq_true rfl) wf_X1_18 rfl (gO_of g12) (gN_of g52) dX1_compare_155 ?_
                refine fw_iload C 5 dX1_compare_158 rfl ?_
                refine fw_iald C (gA_of g53) dX1_compare_160 ?_
                refine fw_icmp_le C 171 dX1_compare_161 (by decide) (fun c57 => ?_) (fun c57 => ?_)
                · replace h := (if_pos c57).symm.trans h
                  refine fw_iinc C _ 5 [(4, _), (5, _), (0, _), (1, _), (2, _), (3, _)] dX1_compare_171 rfl rfl (Nat.le_of_ble_eq_true rfl) rfl ?_
                  refine fw_goto C 76 dX1_compare_174 (by decide) ?_
                  refine fw_sub [2, 3, 4, 5, 0] rfl ?_
                  exact ih h kx
                · replace h := (if_neg c57).symm.trans h
                  refine fw_iload_n C 4 dX1_compare_164 rfl rfl ?_
                  refine fw_iconst C 1 dX1_compare_165 rfl ?_
                  refine fw_iload C 5 dX1_compare_166 rfl ?_
                  refine fw_ishl C dX1_compare_168 ?_
                  refine fw_ior C dX1_compare_169 ?_
                  refine fw_bi h (fun y58 h => ?_)
                  refine fw_istore_n C [(3, _), (5, _), (0, _), (1, _), (2, _), (4, _)] dX1_compare_170 rfl (Nat.le_of_ble_eq_true rfl) rfl ?_
                  refine fw_iinc C _ 5 [(4, _), (3, _), (5, _), (0, _), (1, _), (2, _)] dX1_compare_171 rfl rfl (Nat.le_of_ble_eq_true rfl) rfl ?_
                  refine fw_goto C 76 dX1_compare_174 (by decide) ?_
                  refine fw_sub [3, 4, 5, 1, 0] rfl ?_
                  exact ih h kx
            · replace h := (if_neg c55).symm.trans h
              refine fw_aload_n C 1 dX1_compare_126 rfl rfl ?_
              refine fw_getR C 1 2 (Nat.le_of_ble_eq_true rfl) (Nat.le_of_ble_eq_true rfl) wf_X1_15 rfl (gO_of g12) (gN_of g50) dX1_compare_127 ?_
              refine fw_iload C 5 dX1_compare_130 rfl ?_
              refine fw_iald C (gA_of g51) dX1_compare_132 ?_
              refine fw_aload_n C 1 dX1_compare_133 rfl rfl ?_
              refine fw_getR C 1 3 (Nat.le_of_ble_eq_true rfl) (Nat.le_of_ble_eq_true rfl) wf_X1_18 rfl (gO_of g12) (gN_of g52) dX1_compare_134 ?_
              refine fw_iload C 5 dX1_compare_137 rfl ?_
              refine fw_iald C (gA_of g53) dX1_compare_139 ?_
              refine fw_icmp_lt C 164 dX1_compare_140 (by decide) (fun c59 => ?_) (fun c59 => ?_)
              · replace h := (if_pos c59).symm.trans h
                refine fw_iload_n C 4 dX1_compare_164 rfl rfl ?_
                refine fw_iconst C 1 dX1_compare_165 rfl ?_
                refine fw_iload C 5 dX1_compare_166 rfl ?_
                refine fw_ishl C dX1_compare_168 ?_
                refine fw_ior C dX1_compare_169 ?_
                refine fw_bi h (fun y60 h => ?_)
                refine fw_istore_n C [(3, _), (5, _), (0, _), (1, _), (2, _), (4, _)] dX1_compare_170 rfl (Nat.le_of_ble_eq_true rfl) rfl ?_
                refine fw_iinc C _ 5 [(4, _), (3, _), (5, _), (0, _), (1, _), (2, _)] dX1_compare_171 rfl rfl (Nat.le_of_ble_eq_true rfl) rfl ?_
                refine fw_goto C 76 dX1_compare_174 (by decide) ?_
                refine fw_sub [3, 4, 5, 1, 0] rfl ?_
                exact ih h kx
              · replace h := (if_neg c59).symm.trans h
                refine fw_iload_n C 3 dX1_compare_143 rfl rfl ?_
                refine fw_if_eq C 171 dX1_compare_144 (by decide) (fun c61 => ?_) (fun c61 => ?_)
                · replace h := (if_pos c61).symm.trans h
                  refine fw_iinc C _ 5 [(4, _), (5, _), (0, _), (1, _), (2, _), (3, _)] dX1_compare_171 rfl rfl (Nat.le_of_ble_eq_true rfl) rfl ?_
                  refine fw_goto C 76 dX1_compare_174 (by decide) ?_
                  refine fw_sub [2, 3, 4, 5, 0] rfl ?_
                  exact ih h kx
                · replace h := (if_neg c61).symm.trans h
                  refine fw_aload_n C 1 dX1_compare_147 rfl rfl ?_
                  refine fw_getR C 1 2 (Nat.le_of_ble_eq_true rfl) (Nat.le_of_ble_eq_true rfl) wf_X1_15 rfl (gO_of g12) (gN_of g50) dX1_compare_148 ?_
                  refine fw_iload C 5 dX1_compare_151 rfl ?_
                  refine fw_iald C (gA_of g51) dX1_compare_153 ?_
                  refine fw_aload_n C 1 dX1_compare_154 rfl rfl ?_
                  refine fw_getR C 1 3 (Nat.le_of_ble_eq_true rfl) (Nat.le_of_ble_eq_true rfl) wf_X1_18 rfl (gO_of g12) (gN_of g52) dX1_compare_155 ?_
                  refine fw_iload C 5 dX1_compare_158 rfl ?_
                  refine fw_iald C (gA_of g53) dX1_compare_160 ?_
                  refine fw_icmp_le C 171 dX1_compare_161 (by decide) (fun c62 => ?_) (fun c62 => ?_)
                  · replace h := (if_pos c62).symm.trans h
                    refine fw_iinc C _ 5 [(4, _), (5, _), (0, _), (1, _), (2, _), (3, _)] dX1_compare_171 rfl rfl (Nat.le_of_ble_eq_true rfl) rfl ?_
                    refine fw_goto C 76 dX1_compare_174 (by decide) ?_
                    refine fw_sub [2, 3, 4, 5, 0] rfl ?_
                    exact ih h kx
                  · replace h := (if_neg c62).symm.trans h
                    refine fw_iload_n C 4 dX1_compare_164 rfl rfl ?_
                    refine fw_iconst C 1 dX1_compare_165 rfl ?_
                    refine fw_iload C 5 dX1_compare_166 rfl ?_
                    refine fw_ishl C dX1_compare_168 ?_
                    refine fw_ior C dX1_compare_169 ?_
                    refine fw_bi h (fun y63 h => ?_)
                    refine fw_istore_n C [(3, _), (5, _), (0, _), (1, _), (2, _), (4, _)] dX1_compare_170 rfl (Nat.le_of_ble_eq_true rfl) rfl ?_
                    refine fw_iinc C _ 5 [(4, _), (3, _), (5, _), (0, _), (1, _), (2, _)] dX1_compare_171 rfl rfl (Nat.le_of_ble_eq_true rfl) rfl ?_
                    refine fw_goto C 76 dX1_compare_174 (by decide) ?_
                    refine fw_sub [3, 4, 5, 1, 0] rfl ?_
                    exact ih h kx
          · replace h := (if_pos c54).symm.trans h
            refine fw_iconst C 1 dX1_compare_110 rfl ?_
            refine fw_goto C 115 dX1_compare_111 (by decide) ?_
            refine fw_istore C [(5, _), (0, _), (1, _), (2, _), (3, _), (4, _)] dX1_compare_115 (Nat.le_of_ble_eq_true rfl) rfl ?_
            refine fw_iload C 0 dX1_compare_117 rfl ?_
            refine fw_if_ne C 164 dX1_compare_119 (by decide) (fun _ => ?_) (fun q => absurd q (by decide))
            refine fw_iload_n C 4 dX1_compare_164 rfl rfl ?_
            refine fw_iconst C 1 dX1_compare_165 rfl ?_
            refine fw_iload C 5 dX1_compare_166 rfl ?_
            refine fw_ishl C dX1_compare_168 ?_
            refine fw_ior C dX1_compare_169 ?_
            refine fw_bi h (fun y64 h => ?_)
            refine fw_istore_n C [(3, _), (5, _), (0, _), (1, _), (2, _), (4, _)] dX1_compare_170 rfl (Nat.le_of_ble_eq_true rfl) rfl ?_
            refine fw_iinc C _ 5 [(4, _), (3, _), (5, _), (0, _), (1, _), (2, _)] dX1_compare_171 rfl rfl (Nat.le_of_ble_eq_true rfl) rfl ?_
            refine fw_goto C 76 dX1_compare_174 (by decide) ?_
            refine fw_sub [3, 4, 5, 1, 0] rfl ?_
            exact ih h kx
set_option maxRecDepth 100000 in
def fj_X1_compare_56 (S : List fw_Sh) (M : fw_Mem) (a0 : Nat) (x1 : Int32) (x2 : Int32) : Option (Int32 × fw_Mem) := gd (gO S 1 a0) (gd (gN (M a0 0)) (gd (gO S 7 ((M a0 0).toNatClampNeg)) (b1 (f_X7_advance S M ((M a0 0).toNatClampNeg)) (fun M80 => gd (gN (M80 a0 3)) (b1 (f_X1_readValue S M80 a0 ((M80 a0 3).toNatClampNeg)) (fun M83 => b1 (lf_X1_compare_76 S M83 a0 x1 x2 20000 0 0) (fun l84 => some (l84, M83))))))))
set_option maxHeartbeats 4000000 in
set_option maxRecDepth 100000 in
theorem jc_X1_compare_56 {G : fw_G} {p : Program} {l : Launch} {e : Env} {s : State} {m : MethodId} {args : Array Value} {below : List Frame} {meth : Method} {c : Code} {S : List fw_Sh} {M : fw_Mem} {a0 : Nat} {x1 : Int32} {x2 : Int32} {r : (Int32 × fw_Mem)} {o : fw_O} (C : fw_C G RX1 cX1_compare 6 p s m args c) (hr : meth.sig.returnType = (some .int)) (hlk : meth.locks = false) (hl : l.stackTraces = false) (ht : ∀ x ∈ c.exceptionTable.toList, False) (ho : o = (.inl (some (.int r.1)), S, r.2)) (h : fj_X1_compare_56 S M a0 x1 x2 = some r) :
    fw_W G p l e (fw_rm 10 (fw_mcO o) (fw_msO o)) s m args below meth c 6 (fw_Z G below args s (fw_mcO o) (fw_msO o) o) 0 0 56 [(0, .ref a0), (1, .int x1), (2, .int x2)] [] S M := by
  subst ho
  unfold fj_X1_compare_56 at h
  refine fw_aload_n C 0 dX1_compare_56 rfl rfl ?_
  obtain ⟨g78, h⟩ := gd_some h
  obtain ⟨g79, h⟩ := gd_some h
  refine fw_getR C 1 0 (Nat.le_of_ble_eq_true rfl) (Nat.le_of_ble_eq_true rfl) wf_X1_21 rfl (gO_of g78) (gN_of g79) dX1_compare_57 ?_
  obtain ⟨g81, h⟩ := gd_some h
  obtain ⟨M80, e80, h⟩ := b1_some h
  refine fw_callV (ci := 7) [] C (c_X7_advance hl e80) cal_X7_advance wm_X1_52 wi_yX7_advance wsl_yX7_advance (Nat.le_of_ble_eq_true rfl) rfl (gO_of g81) rfl (Nat.le_of_ble_eq_true rfl) ⟨Nat.le_of_ble_eq_true rfl, Nat.le_of_ble_eq_true rfl⟩ ⟨Nat.zero_le _, Nat.zero_le _⟩ dX1_compare_60 ?_
  refine fw_aload_n C 0 dX1_compare_63 rfl rfl ?_
  refine fw_aload_n C 0 dX1_compare_64 rfl rfl ?_
  obtain ⟨g82, h⟩ := gd_some h
  refine fw_getR C 1 3 (Nat.le_of_ble_eq_true rfl) (Nat.le_of_ble_eq_true rfl) wf_X1_18 rfl (gO_of g78) (gN_of g82) dX1_compare_65 ?_
  obtain ⟨M83, e83, h⟩ := b1_some h
  refine fw_callV (ci := 1) [_] C (c_X1_readValue hl e83) cal_X1_readValue wm_X1_98 wi_yX1_readValue wsl_yX1_readValue (Nat.le_of_ble_eq_true rfl) rfl (gO_of g78) rfl (Nat.le_of_ble_eq_true rfl) ⟨Nat.le_of_ble_eq_true rfl, Nat.le_of_ble_eq_true rfl⟩ ⟨Nat.zero_le _, Nat.zero_le _⟩ dX1_compare_68 ?_
  refine fw_iconst C 0 dX1_compare_71 rfl ?_
  refine fw_istore_n C [(3, _), (0, _), (1, _), (2, _)] dX1_compare_72 rfl (Nat.le_of_ble_eq_true rfl) rfl ?_
  refine fw_iconst C 0 dX1_compare_73 rfl ?_
  refine fw_istore C [(4, _), (3, _), (0, _), (1, _), (2, _)] dX1_compare_74 (Nat.le_of_ble_eq_true rfl) rfl ?_
  refine fw_sub [2, 3, 4, 1, 0] rfl ?_
  obtain ⟨l84, e84, h⟩ := b1_some h
  refine lc_X1_compare_76 C hr hlk hl ht e84 ?_
  refine fw_iload_n C 0 dX1_compare_177 rfl rfl ?_
  obtain rfl := Option.some.inj h
  exact fw_iret C hr hlk dX1_compare_178
set_option maxRecDepth 100000 in
def f_X1_compare (S : List fw_Sh) (M : fw_Mem) (a0 : Nat) : Option (Int32 × fw_Mem) := gd (gO S 1 a0) (gd (gN (M a0 2)) (b1 (f_X1_readValue S M a0 ((M a0 2).toNatClampNeg)) (fun M3 => gd (gN (M3 a0 0)) (gd (gO S 7 ((M3 a0 0).toNatClampNeg)) (b1 (f_X7_isSign S M3 ((M3 a0 0).toNatClampNeg) 60) (fun v5 => b1 (f_X7_isSign S M3 ((M3 a0 0).toNatClampNeg) 62) (fun v7 => if v5 = 0 then (if v7 = 0 then (b1 (f_X7_isSign S M3 ((M3 a0 0).toNatClampNeg) 61) (fun v71 => if v71 = 0 then (b1 (f_X7_fail S M3 ((M3 a0 0).toNatClampNeg) 1) (fun M77 => fj_X1_compare_56 S M77 a0 v5 v7)) else (b1 (f_X7_advance S M3 ((M3 a0 0).toNatClampNeg)) (fun M73 => gd (gN (M73 a0 3)) (b1 (f_X1_readValue S M73 a0 ((M73 a0 3).toNatClampNeg)) (fun M75 => b1 (lf_X1_compare_76 S M75 a0 v5 v7 20000 0 0) (fun l76 => some (l76, M75)))))))) else (b1 (f_X7_advance S M3 ((M3 a0 0).toNatClampNeg)) (fun M67 => gd (gN (M67 a0 3)) (b1 (f_X1_readValue S M67 a0 ((M67 a0 3).toNatClampNeg)) (fun M69 => b1 (lf_X1_compare_76 S M69 a0 v5 v7 20000 0 0) (fun l70 => some (l70, M69))))))) else (b1 (f_X7_advance S M3 ((M3 a0 0).toNatClampNeg)) (fun M9 => gd (gN (M9 a0 3)) (b1 (f_X1_readValue S M9 a0 ((M9 a0 3).toNatClampNeg)) (fun M11 => b1 (lf_X1_compare_76 S M11 a0 v5 v7 20000 0 0) (fun l65 => some (l65, M11)))))))))))))
theorem cal_X1_compare : fw_cal yX1_compare (.code yX1_compare cX1_compare 6 (some .int)) 0 := ⟨wc_yX1_compare, wini_X1, by decide, by decide, by decide +kernel⟩
set_option maxHeartbeats 4000000 in
set_option maxRecDepth 100000 in
theorem c_X1_compare {l : Launch} {G : fw_G} {S : List fw_Sh} {M : fw_Mem} {a0 : Nat} {r : (Int32 × fw_Mem)} (hl : l.stackTraces = false) (h : f_X1_compare S M a0 = some r) : fw_M l G yX1_compare (.code yX1_compare cX1_compare 6 (some .int)) 10 (fw_mcO (.inl (some (.int r.1)), S, r.2)) (fw_msO (.inl (some (.int r.1)), S, r.2)) S M [.ref a0] (.inl (some (.int r.1)), S, r.2) := by
  refine fw_of [(0, .ref a0)] (by decide) (Nat.le_of_ble_eq_true rfl) rfl ?_
  intro p e s m args below meth c C hr hlk hnm ht _
  unfold f_X1_compare at h
  refine fw_aload_n C 0 dX1_compare_0 rfl rfl ?_
  refine fw_aload_n C 0 dX1_compare_1 rfl rfl ?_
  obtain ⟨g1, h⟩ := gd_some h
  obtain ⟨g2, h⟩ := gd_some h
  refine fw_getR C 1 2 (Nat.le_of_ble_eq_true rfl) (Nat.le_of_ble_eq_true rfl) wf_X1_15 rfl (gO_of g1) (gN_of g2) dX1_compare_2 ?_
  obtain ⟨M3, e3, h⟩ := b1_some h
  refine fw_callV (ci := 1) [_] C (c_X1_readValue hl e3) cal_X1_readValue wm_X1_98 wi_yX1_readValue wsl_yX1_readValue (Nat.le_of_ble_eq_true rfl) rfl (gO_of g1) rfl (Nat.le_of_ble_eq_true rfl) ⟨Nat.le_of_ble_eq_true rfl, Nat.le_of_ble_eq_true rfl⟩ ⟨Nat.zero_le _, Nat.zero_le _⟩ dX1_compare_5 ?_
  refine fw_aload_n C 0 dX1_compare_8 rfl rfl ?_
  obtain ⟨g4, h⟩ := gd_some h
  refine fw_getR C 1 0 (Nat.le_of_ble_eq_true rfl) (Nat.le_of_ble_eq_true rfl) wf_X1_21 rfl (gO_of g1) (gN_of g4) dX1_compare_9 ?_
  refine fw_bipush C 60 dX1_compare_12 rfl ?_
  obtain ⟨g6, h⟩ := gd_some h
  obtain ⟨v5, e5, h⟩ := b1_some h
  refine fw_callV (ci := 7) [_] C (c_X7_isSign hl e5) cal_X7_isSign wm_X1_86 wi_yX7_isSign wsl_yX7_isSign (Nat.le_of_ble_eq_true rfl) rfl (gO_of g6) rfl (Nat.le_of_ble_eq_true rfl) ⟨Nat.le_of_ble_eq_true rfl, Nat.le_of_ble_eq_true rfl⟩ ⟨Nat.zero_le _, Nat.zero_le _⟩ dX1_compare_14 ?_
  refine fw_istore_n C [(1, _), (0, _)] dX1_compare_17 rfl (Nat.le_of_ble_eq_true rfl) rfl ?_
  refine fw_aload_n C 1 dX1_compare_18 rfl rfl ?_
  refine fw_getR C 1 0 (Nat.le_of_ble_eq_true rfl) (Nat.le_of_ble_eq_true rfl) wf_X1_21 rfl (gO_of g1) (gN_of g4) dX1_compare_19 ?_
  refine fw_bipush C 62 dX1_compare_22 rfl ?_
  obtain ⟨v7, e7, h⟩ := b1_some h
  refine fw_callV (ci := 7) [_] C (c_X7_isSign hl e7) cal_X7_isSign wm_X1_86 wi_yX7_isSign wsl_yX7_isSign (Nat.le_of_ble_eq_true rfl) rfl (gO_of g6) rfl (Nat.le_of_ble_eq_true rfl) ⟨Nat.le_of_ble_eq_true rfl, Nat.le_of_ble_eq_true rfl⟩ ⟨Nat.zero_le _, Nat.zero_le _⟩ dX1_compare_24 ?_
  refine fw_istore_n C [(2, _), (1, _), (0, _)] dX1_compare_27 rfl (Nat.le_of_ble_eq_true rfl) rfl ?_
  refine fw_iload_n C 1 dX1_compare_28 rfl rfl ?_
  refine fw_if_ne C 56 dX1_compare_29 (by decide) (fun c8 => ?_) (fun c8 => ?_)
  · replace h := (if_neg c8).symm.trans h
    refine fw_aload_n C 2 dX1_compare_56 rfl rfl ?_
    refine fw_getR C 1 0 (Nat.le_of_ble_eq_true rfl) (Nat.le_of_ble_eq_true rfl) wf_X1_21 rfl (gO_of g1) (gN_of g4) dX1_compare_57 ?_
    obtain ⟨M9, e9, h⟩ := b1_some h
    refine fw_callV (ci := 7) [] C (c_X7_advance hl e9) cal_X7_advance wm_X1_52 wi_yX7_advance wsl_yX7_advance (Nat.le_of_ble_eq_true rfl) rfl (gO_of g6) rfl (Nat.le_of_ble_eq_true rfl) ⟨Nat.le_of_ble_eq_true rfl, Nat.le_of_ble_eq_true rfl⟩ ⟨Nat.zero_le _, Nat.zero_le _⟩ dX1_compare_60 ?_
    refine fw_aload_n C 2 dX1_compare_63 rfl rfl ?_
    refine fw_aload_n C 2 dX1_compare_64 rfl rfl ?_
    obtain ⟨g10, h⟩ := gd_some h
    refine fw_getR C 1 3 (Nat.le_of_ble_eq_true rfl) (Nat.le_of_ble_eq_true rfl) wf_X1_18 rfl (gO_of g1) (gN_of g10) dX1_compare_65 ?_
    obtain ⟨M11, e11, h⟩ := b1_some h
    refine fw_callV (ci := 1) [_] C (c_X1_readValue hl e11) cal_X1_readValue wm_X1_98 wi_yX1_readValue wsl_yX1_readValue (Nat.le_of_ble_eq_true rfl) rfl (gO_of g1) rfl (Nat.le_of_ble_eq_true rfl) ⟨Nat.le_of_ble_eq_true rfl, Nat.le_of_ble_eq_true rfl⟩ ⟨Nat.zero_le _, Nat.zero_le _⟩ dX1_compare_68 ?_
    refine fw_iconst C 0 dX1_compare_71 rfl ?_
    refine fw_istore_n C [(3, _), (2, _), (1, _), (0, _)] dX1_compare_72 rfl (Nat.le_of_ble_eq_true rfl) rfl ?_
    refine fw_iconst C 0 dX1_compare_73 rfl ?_
    refine fw_istore C [(4, _), (3, _), (2, _), (1, _), (0, _)] dX1_compare_74 (Nat.le_of_ble_eq_true rfl) rfl ?_
    refine fw_sub [4, 3, 2, 1, 0] rfl ?_
    obtain ⟨l65, e65, h⟩ := b1_some h
    refine lc_X1_compare_76 C hr hlk hl ht e65 ?_
    refine fw_iload_n C 0 dX1_compare_177 rfl rfl ?_
    obtain rfl := Option.some.inj h
    exact fw_iret C hr hlk dX1_compare_178
  · replace h := (if_pos c8).symm.trans h
    refine fw_iload_n C 0 dX1_compare_32 rfl rfl ?_
    refine fw_if_ne C 56 dX1_compare_33 (by decide) (fun c66 => ?_) (fun c66 => ?_)
    · replace h := (if_neg c66).symm.trans h
      refine fw_aload_n C 2 dX1_compare_56 rfl rfl ?_
      refine fw_getR C 1 0 (Nat.le_of_ble_eq_true rfl) (Nat.le_of_ble_eq_true rfl) wf_X1_21 rfl (gO_of g1) (gN_of g4) dX1_compare_57 ?_
      obtain ⟨M67, e67, h⟩ := b1_some h
      refine fw_callV (ci := 7) [] C (c_X7_advance hl e67) cal_X7_advance wm_X1_52 wi_yX7_advance wsl_yX7_advance (Nat.le_of_ble_eq_true rfl) rfl (gO_of g6) rfl (Nat.le_of_ble_eq_true rfl) ⟨Nat.le_of_ble_eq_true rfl, Nat.le_of_ble_eq_true rfl⟩ ⟨Nat.zero_le _, Nat.zero_le _⟩ dX1_compare_60 ?_
      refine fw_aload_n C 2 dX1_compare_63 rfl rfl ?_
      refine fw_aload_n C 2 dX1_compare_64 rfl rfl ?_
      obtain ⟨g68, h⟩ := gd_some h
      refine fw_getR C 1 3 (Nat.le_of_ble_eq_true rfl) (Nat.le_of_ble_eq_true rfl) wf_X1_18 rfl (gO_of g1) (gN_of g68) dX1_compare_65 ?_
      obtain ⟨M69, e69, h⟩ := b1_some h
      refine fw_callV (ci := 1) [_] C (c_X1_readValue hl e69) cal_X1_readValue wm_X1_98 wi_yX1_readValue wsl_yX1_readValue (Nat.le_of_ble_eq_true rfl) rfl (gO_of g1) rfl (Nat.le_of_ble_eq_true rfl) ⟨Nat.le_of_ble_eq_true rfl, Nat.le_of_ble_eq_true rfl⟩ ⟨Nat.zero_le _, Nat.zero_le _⟩ dX1_compare_68 ?_
      refine fw_iconst C 0 dX1_compare_71 rfl ?_
      refine fw_istore_n C [(3, _), (2, _), (1, _), (0, _)] dX1_compare_72 rfl (Nat.le_of_ble_eq_true rfl) rfl ?_
      refine fw_iconst C 0 dX1_compare_73 rfl ?_
      refine fw_istore C [(4, _), (3, _), (2, _), (1, _), (0, _)] dX1_compare_74 (Nat.le_of_ble_eq_true rfl) rfl ?_
      refine fw_sub [4, 3, 2, 1, 0] rfl ?_
      obtain ⟨l70, e70, h⟩ := b1_some h
      refine lc_X1_compare_76 C hr hlk hl ht e70 ?_
      refine fw_iload_n C 0 dX1_compare_177 rfl rfl ?_
      obtain rfl := Option.some.inj h
      exact fw_iret C hr hlk dX1_compare_178
    · replace h := (if_pos c66).symm.trans h
      refine fw_aload_n C 2 dX1_compare_36 rfl rfl ?_
      refine fw_getR C 1 0 (Nat.le_of_ble_eq_true rfl) (Nat.le_of_ble_eq_true rfl) wf_X1_21 rfl (gO_of g1) (gN_of g4) dX1_compare_37 ?_
      refine fw_bipush C 61 dX1_compare_40 rfl ?_
      obtain ⟨v71, e71, h⟩ := b1_some h
      refine fw_callV (ci := 7) [_] C (c_X7_isSign hl e71) cal_X7_isSign wm_X1_86 wi_yX7_isSign wsl_yX7_isSign (Nat.le_of_ble_eq_true rfl) rfl (gO_of g6) rfl (Nat.le_of_ble_eq_true rfl) ⟨Nat.le_of_ble_eq_true rfl, Nat.le_of_ble_eq_true rfl⟩ ⟨Nat.zero_le _, Nat.zero_le _⟩ dX1_compare_42 ?_
      refine fw_if_ne C 56 dX1_compare_45 (by decide) (fun c72 => ?_) (fun c72 => ?_)
      · replace h := (if_neg c72).symm.trans h
        refine fw_aload_n C 2 dX1_compare_56 rfl rfl ?_
        refine fw_getR C 1 0 (Nat.le_of_ble_eq_true rfl) (Nat.le_of_ble_eq_true rfl) wf_X1_21 rfl (gO_of g1) (gN_of g4) dX1_compare_57 ?_
        obtain ⟨M73, e73, h⟩ := b1_some h
        refine fw_callV (ci := 7) [] C (c_X7_advance hl e73) cal_X7_advance wm_X1_52 wi_yX7_advance wsl_yX7_advance (Nat.le_of_ble_eq_true rfl) rfl (gO_of g6) rfl (Nat.le_of_ble_eq_true rfl) ⟨Nat.le_of_ble_eq_true rfl, Nat.le_of_ble_eq_true rfl⟩ ⟨Nat.zero_le _, Nat.zero_le _⟩ dX1_compare_60 ?_
        refine fw_aload_n C 2 dX1_compare_63 rfl rfl ?_
        refine fw_aload_n C 2 dX1_compare_64 rfl rfl ?_
        obtain ⟨g74, h⟩ := gd_some h
        refine fw_getR C 1 3 (Nat.le_of_ble_eq_true rfl) (Nat.le_of_ble_eq_true rfl) wf_X1_18 rfl (gO_of g1) (gN_of g74) dX1_compare_65 ?_
        obtain ⟨M75, e75, h⟩ := b1_some h
        refine fw_callV (ci := 1) [_] C (c_X1_readValue hl e75) cal_X1_readValue wm_X1_98 wi_yX1_readValue wsl_yX1_readValue (Nat.le_of_ble_eq_true rfl) rfl (gO_of g1) rfl (Nat.le_of_ble_eq_true rfl) ⟨Nat.le_of_ble_eq_true rfl, Nat.le_of_ble_eq_true rfl⟩ ⟨Nat.zero_le _, Nat.zero_le _⟩ dX1_compare_68 ?_
        refine fw_iconst C 0 dX1_compare_71 rfl ?_
        refine fw_istore_n C [(3, _), (2, _), (1, _), (0, _)] dX1_compare_72 rfl (Nat.le_of_ble_eq_true rfl) rfl ?_
        refine fw_iconst C 0 dX1_compare_73 rfl ?_
        refine fw_istore C [(4, _), (3, _), (2, _), (1, _), (0, _)] dX1_compare_74 (Nat.le_of_ble_eq_true rfl) rfl ?_
        refine fw_sub [4, 3, 2, 1, 0] rfl ?_
        obtain ⟨l76, e76, h⟩ := b1_some h
        refine lc_X1_compare_76 C hr hlk hl ht e76 ?_
        refine fw_iload_n C 0 dX1_compare_177 rfl rfl ?_
        obtain rfl := Option.some.inj h
        exact fw_iret C hr hlk dX1_compare_178
      · replace h := (if_pos c72).symm.trans h
        refine fw_aload_n C 2 dX1_compare_48 rfl rfl ?_
        refine fw_getR C 1 0 (Nat.le_of_ble_eq_true rfl) (Nat.le_of_ble_eq_true rfl) wf_X1_21 rfl (gO_of g1) (gN_of g4) dX1_compare_49 ?_
        refine fw_iconst C 1 dX1_compare_52 rfl ?_
        obtain ⟨M77, e77, h⟩ := b1_some h
        refine fw_callV (ci := 7) [_] C (c_X7_fail hl e77) cal_X7_fail wm_X1_49 wi_yX7_fail wsl_yX7_fail (Nat.le_of_ble_eq_true rfl) rfl (gO_of g6) rfl (Nat.le_of_ble_eq_true rfl) ⟨Nat.le_of_ble_eq_true rfl, Nat.le_of_ble_eq_true rfl⟩ ⟨Nat.zero_le _, Nat.zero_le _⟩ dX1_compare_53 ?_
        refine fw_sub [2, 1, 0] rfl ?_
        exact jc_X1_compare_56 C hr hlk hl ht rfl h
