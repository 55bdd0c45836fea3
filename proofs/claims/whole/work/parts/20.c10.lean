set_option maxRecDepth 100000 in
def f_X10_goes (S : List fw_Sh) (M : fw_Mem) (a0 : Nat) (x1 : Int32) (x2 : Int32) : Option (Int32 × fw_Mem) := gd (gO S 10 a0) (bm (fw_set M a0 6 0) (fun M2 => b1 (f_X10_isSuit S M2 a0 x1) (fun v3 => if v3 = 0 then (b2 (f_X10_fail S M2 a0 1) (fun v5 M5 => some (v5, M5))) else (b1 (f_X10_isIn S M2 x2 0 4) (fun v6 => if v6 = 0 then (b2 (f_X10_fail S M2 a0 1) (fun v21 M21 => some (v21, M21))) else (b1 (f_X10_isJudged S M2 a0 x1) (fun v8 => if v8 = 0 then (some (0, M2)) else (b1 (f_X10_isReversed S M2 a0 x1) (fun v10 => if v10 = 0 then (b1 (f_X10_layBound S M2 a0) (fun M12 => if x2 ≤ 2 then (b1 (f_X10_layThen S M12 a0) (fun M14 => b1 (f_X10_put S M14 a0 x1 8 1) (fun M15 => b1 (f_X10_changed S M15 a0 x2) (fun v16 => b1 (f_X10_put S M15 a0 x1 8 0) (fun M17 => some (v16, M17)))))) else (if x2 = 3 then (b1 (f_X10_standing S M12 a0 x1) (fun v20 => some (v20, M12))) else (b1 (f_X10_allStanding S M12 a0 x1) (fun v19 => some (v19, M12)))))) else (some (0, M2)))))))))))
set_option maxHeartbeats 4000000 in
set_option maxRecDepth 100000 in
theorem c_X10_goes {l : Launch} {G : fw_G} {S : List fw_Sh} {M : fw_Mem} {a0 : Nat} {x1 : Int32} {x2 : Int32} {r : (Int32 × fw_Mem)} (hl : l.stackTraces = false) (h : f_X10_goes S M a0 x1 x2 = some r) : fw_M l G yX10_goes (.code yX10_goes cX10_goes 4 (some .int)) 12 (fw_mcO (.inl (some (.int r.1)), S, r.2)) (fw_msO (.inl (some (.int r.1)), S, r.2)) S M [.ref a0, .int x1, .int x2] (.inl (some (.int r.1)), S, r.2) := by
  refine fw_of [(0, .ref a0), (1, .int x1), (2, .int x2)] (by decide) (Nat.le_of_ble_eq_true rfl) rfl ?_
  intro p e s m args below meth c C hr hlk hnm ht _
  unfold f_X10_goes at h
  refine fw_aload_n C 0 dX10_goes_0 rfl rfl ?_
  refine fw_iconst C 0 dX10_goes_1 rfl ?_
  obtain ⟨g1, h⟩ := gd_some h
  refine fw_putI C 10 6 (Nat.le_of_ble_eq_true rfl) (Nat.le_of_ble_eq_true rfl) wf_X10_51 rfl rfl rfl rfl (gO_of g1) dX10_goes_2 ?_
  refine fw_bm h (fun M2 h => ?_)
  refine fw_aload_n C 0 dX10_goes_5 rfl rfl ?_
  refine fw_iload_n C 1 dX10_goes_6 rfl rfl ?_
  obtain ⟨v3, e3, h⟩ := b1_some h
  refine fw_callV (ci := 10) [_] C (c_X10_isSuit hl e3) cal_X10_isSuit wm_X10_177 wi_yX10_isSuit wsl_yX10_isSuit (Nat.le_of_ble_eq_true rfl) rfl (gO_of g1) rfl (Nat.le_of_ble_eq_true rfl) ⟨Nat.le_of_ble_eq_true rfl, Nat.le_of_ble_eq_true rfl⟩ ⟨Nat.zero_le _, Nat.zero_le _⟩ dX10_goes_7 ?_
  refine fw_if_eq C 22 dX10_goes_10 (by decide) (fun c4 => ?_) (fun c4 => ?_)
  · replace h := (if_pos c4).symm.trans h
    refine fw_aload_n C 0 dX10_goes_22 rfl rfl ?_
    refine fw_iconst C 1 dX10_goes_23 rfl ?_
    obtain ⟨v5, M5, e5, h⟩ := b2_some h
    refine fw_callV (ci := 10) [_] C (c_X10_fail hl e5) cal_X10_fail wm_X10_171 wi_yX10_fail wsl_yX10_fail (Nat.le_of_ble_eq_true rfl) rfl (gO_of g1) rfl (Nat.le_of_ble_eq_true rfl) ⟨Nat.le_of_ble_eq_true rfl, Nat.le_of_ble_eq_true rfl⟩ ⟨Nat.zero_le _, Nat.zero_le _⟩ dX10_goes_24 ?_
    obtain rfl := Option.some.inj h
    exact fw_iret C hr hlk dX10_goes_27
  · replace h := (if_neg c4).symm.trans h
    refine fw_iload_n C 2 dX10_goes_13 rfl rfl ?_
    refine fw_iconst C 0 dX10_goes_14 rfl ?_
    refine fw_iconst C 4 dX10_goes_15 rfl ?_
    obtain ⟨v6, e6, h⟩ := b1_some h
    refine fw_callS [_, _, _] C (c_X10_isIn hl e6) cal_X10_isIn wm_X10_58 wt_yX10_isIn rfl (Nat.le_of_ble_eq_true rfl) ⟨Nat.le_of_ble_eq_true rfl, Nat.le_of_ble_eq_true rfl⟩ ⟨Nat.zero_le _, Nat.zero_le _⟩ dX10_goes_16 ?_
    refine fw_if_ne C 28 dX10_goes_19 (by decide) (fun c7 => ?_) (fun c7 => ?_)
    · replace h := (if_neg c7).symm.trans h
      refine fw_aload_n C 0 dX10_goes_28 rfl rfl ?_
      refine fw_iload_n C 1 dX10_goes_29 rfl rfl ?_
      obtain ⟨v8, e8, h⟩ := b1_some h
      refine fw_callV (ci := 10) [_] C (c_X10_isJudged hl e8) cal_X10_isJudged wm_X10_69 wi_yX10_isJudged wsl_yX10_isJudged (Nat.le_of_ble_eq_true rfl) rfl (gO_of g1) rfl (Nat.le_of_ble_eq_true rfl) ⟨Nat.le_of_ble_eq_true rfl, Nat.le_of_ble_eq_true rfl⟩ ⟨Nat.zero_le _, Nat.zero_le _⟩ dX10_goes_30 ?_
      refine fw_if_eq C 44 dX10_goes_33 (by decide) (fun c9 => ?_) (fun c9 => ?_)
      · replace h := (if_pos c9).symm.trans h
        refine fw_iconst C 0 dX10_goes_44 rfl ?_
        obtain rfl := Option.some.inj h
        exact fw_iret C hr hlk dX10_goes_45
      · replace h := (if_neg c9).symm.trans h
        refine fw_aload_n C 0 dX10_goes_36 rfl rfl ?_
        refine fw_iload_n C 1 dX10_goes_37 rfl rfl ?_
        obtain ⟨v10, e10, h⟩ := b1_some h
        refine fw_callV (ci := 10) [_] C (c_X10_isReversed hl e10) cal_X10_isReversed wm_X10_86 wi_yX10_isReversed wsl_yX10_isReversed (Nat.le_of_ble_eq_true rfl) rfl (gO_of g1) rfl (Nat.le_of_ble_eq_true rfl) ⟨Nat.le_of_ble_eq_true rfl, Nat.le_of_ble_eq_true rfl⟩ ⟨Nat.zero_le _, Nat.zero_le _⟩ dX10_goes_38 ?_
        refine fw_if_eq C 46 dX10_goes_41 (by decide) (fun c11 => ?_) (fun c11 => ?_)
        · replace h := (if_pos c11).symm.trans h
          refine fw_aload_n C 0 dX10_goes_46 rfl rfl ?_
          obtain ⟨M12, e12, h⟩ := b1_some h
          refine fw_callV (ci := 10) [] C (c_X10_layBound hl e12) cal_X10_layBound wm_X10_152 wi_yX10_layBound wsl_yX10_layBound (Nat.le_of_ble_eq_true rfl) rfl (gO_of g1) rfl (Nat.le_of_ble_eq_true rfl) ⟨Nat.le_of_ble_eq_true rfl, Nat.le_of_ble_eq_true rfl⟩ ⟨Nat.zero_le _, Nat.zero_le _⟩ dX10_goes_47 ?_
          refine fw_iload_n C 2 dX10_goes_50 rfl rfl ?_
          refine fw_iconst C 2 dX10_goes_51 rfl ?_
          refine fw_icmp_le C 74 dX10_goes_52 (by decide) (fun c13 => ?_) (fun c13 => ?_)
          · replace h := (if_pos c13).symm.trans h
            refine fw_aload_n C 0 dX10_goes_74 rfl rfl ?_
            obtain ⟨M14, e14, h⟩ := b1_some h
            refine fw_callV (ci := 10) [] C (c_X10_layThen hl e14) cal_X10_layThen wm_X10_202 wi_yX10_layThen wsl_yX10_layThen (Nat.le_of_ble_eq_true rfl) rfl (gO_of g1) rfl (Nat.le_of_ble_eq_true rfl) ⟨Nat.le_of_ble_eq_true rfl, Nat.le_of_ble_eq_true rfl⟩ ⟨Nat.zero_le _, Nat.zero_le _⟩ dX10_goes_75 ?_
            refine fw_aload_n C 0 dX10_goes_78 rfl rfl ?_
            refine fw_iload_n C 1 dX10_goes_79 rfl rfl ?_
            refine fw_bipush C 8 dX10_goes_80 rfl ?_
            refine fw_iconst C 1 dX10_goes_82 rfl ?_
            obtain ⟨M15, e15, h⟩ := b1_some h
            refine fw_callV (ci := 10) [_, _, _] C (c_X10_put hl e15) cal_X10_put wm_X10_205 wi_yX10_put wsl_yX10_put (Nat.le_of_ble_eq_true rfl) rfl (gO_of g1) rfl (Nat.le_of_ble_eq_true rfl) ⟨Nat.le_of_ble_eq_true rfl, Nat.le_of_ble_eq_true rfl⟩ ⟨Nat.zero_le _, Nat.zero_le _⟩ dX10_goes_83 ?_
            refine fw_aload_n C 0 dX10_goes_86 rfl rfl ?_
            refine fw_iload_n C 2 dX10_goes_87 rfl rfl ?_
            obtain ⟨v16, e16, h⟩ := b1_some h
            refine fw_callV (ci := 10) [_] C (c_X10_changed hl e16) cal_X10_changed wm_X10_209 wi_yX10_changed wsl_yX10_changed (Nat.le_of_ble_eq_true rfl) rfl (gO_of g1) rfl (Nat.le_of_ble_eq_true rfl) ⟨Nat.le_of_ble_eq_true rfl, Nat.le_of_ble_eq_true rfl⟩ ⟨Nat.zero_le _, Nat.zero_le _⟩ dX10_goes_88 ?_
            refine fw_istore_n C [(3, _), (0, _), (1, _), (2, _)] dX10_goes_91 rfl (Nat.le_of_ble_eq_true rfl) rfl ?_
            refine fw_aload_n C 1 dX10_goes_92 rfl rfl ?_
            refine fw_iload_n C 2 dX10_goes_93 rfl rfl ?_
            refine fw_bipush C 8 dX10_goes_94 rfl ?_
            refine fw_iconst C 0 dX10_goes_96 rfl ?_
            obtain ⟨M17, e17, h⟩ := b1_some h
            refine fw_callV (ci := 10) [_, _, _] C (c_X10_put hl e17) cal_X10_put wm_X10_205 wi_yX10_put wsl_yX10_put (Nat.le_of_ble_eq_true rfl) rfl (gO_of g1) rfl (Nat.le_of_ble_eq_true rfl) ⟨Nat.le_of_ble_eq_true rfl, Nat.le_of_ble_eq_true rfl⟩ ⟨Nat.zero_le _, Nat.zero_le _⟩ dX10_goes_97 ?_
            refine fw_iload_n C 0 dX10_goes_100 rfl rfl ?_
            obtain rfl := Option.some.inj h
            exact fw_iret C hr hlk dX10_goes_101
          · replace h := (if_neg c13).symm.trans h
            refine fw_iload_n C 2 dX10_goes_55 rfl rfl ?_
            refine fw_iconst C 3 dX10_goes_56 rfl ?_
            refine fw_icmp_ne C 68 dX10_goes_57 (by decide) (fun c18 => ?_) (fun c18 => ?_)
            · replace h := (if_neg c18).symm.trans h
              refine fw_aload_n C 0 dX10_goes_68 rfl rfl ?_
              refine fw_iload_n C 1 dX10_goes_69 rfl rfl ?_
              obtain ⟨v19, e19, h⟩ := b1_some h
              refine fw_callV (ci := 10) [_] C (c_X10_allStanding hl e19) cal_X10_allStanding wm_X10_199 wi_yX10_allStanding wsl_yX10_allStanding (Nat.le_of_ble_eq_true rfl) rfl (gO_of g1) rfl (Nat.le_of_ble_eq_true rfl) ⟨Nat.le_of_ble_eq_true rfl, Nat.le_of_ble_eq_true rfl⟩ ⟨Nat.zero_le _, Nat.zero_le _⟩ dX10_goes_70 ?_
              obtain rfl := Option.some.inj h
              exact fw_iret C hr hlk dX10_goes_73
            · replace h := (if_pos c18).symm.trans h
              refine fw_aload_n C 0 dX10_goes_60 rfl rfl ?_
              refine fw_iload_n C 1 dX10_goes_61 rfl rfl ?_
              obtain ⟨v20, e20, h⟩ := b1_some h
              refine fw_callV (ci := 10) [_] C (c_X10_standing hl e20) cal_X10_standing wm_X10_196 wi_yX10_standing wsl_yX10_standing (Nat.le_of_ble_eq_true rfl) rfl (gO_of g1) rfl (Nat.le_of_ble_eq_true rfl) ⟨Nat.le_of_ble_eq_true rfl, Nat.le_of_ble_eq_true rfl⟩ ⟨Nat.zero_le _, Nat.zero_le _⟩ dX10_goes_62 ?_
              refine fw_goto C 73 dX10_goes_65 (by decide) ?_
              obtain rfl := Option.some.inj h
              exact fw_iret C hr hlk dX10_goes_73
        · replace h := (if_neg c11).symm.trans h
          refine fw_iconst C 0 dX10_goes_44 rfl ?_
          obtain rfl := Option.some.inj h
          exact fw_iret C hr hlk dX10_goes_45
    · replace h := (if_pos c7).symm.trans h
      refine fw_aload_n C 0 dX10_goes_22 rfl rfl ?_
      refine fw_iconst C 1 dX10_goes_23 rfl ?_
      obtain ⟨v21, M21, e21, h⟩ := b2_some h
      refine fw_callV (ci := 10) [_] C (c_X10_fail hl e21) cal_X10_fail wm_X10_171 wi_yX10_fail wsl_yX10_fail (Nat.le_of_ble_eq_true rfl) rfl (gO_of g1) rfl (Nat.le_of_ble_eq_true rfl) ⟨Nat.le_of_ble_eq_true rfl, Nat.le_of_ble_eq_true rfl⟩ ⟨Nat.zero_le _, Nat.zero_le _⟩ dX10_goes_24 ?_
      obtain rfl := Option.some.inj h
      exact fw_iret C hr hlk dX10_goes_27
set_option maxRecDepth 100000 in
def lf_X10_lay_13 (S : List fw_Sh) (a1 : Nat) (x3 : Int32) (x4 : Int32) (x5 : Int32) (x6 : Int32) : Nat → Int32 → fw_Mem → Option (fw_Mem)
  | 0, _, _ => none
  | n + 1, x7, M => if (12 : Int32) ≤ x7 then (some M) else (gd (gA S 0 a1 (x6 + x7)) (bm (fw_set M a1 (x6 + x7).toNatClampNeg 0) (fun M4 => lf_X10_lay_13 S a1 x3 x4 x5 x6 n (x7 + 1) M4)))
set_option maxHeartbeats 4000000 in
set_option maxRecDepth 100000 in
theorem lc_X10_lay_13 {G : fw_G} {p : Program} {l : Launch} {e : Env} {s : State} {m : MethodId} {args : Array Value} {below : List Frame} {meth : Method} {c : Code} {S : List fw_Sh} {o : fw_O} {a1 : Nat} {x3 : Int32} {x4 : Int32} {x5 : Int32} {x6 : Int32} (C : fw_C G RX10 cX10_lay 8 p s m args c) (hr : meth.sig.returnType = none) (hlk : meth.locks = false) (hl : l.stackTraces = false) (ht : ∀ x ∈ c.exceptionTable.toList, False) :
    ∀ {n : Nat} {x7 : Int32} {M : fw_Mem} {r : (fw_Mem)} (h : lf_X10_lay_13 S a1 x3 x4 x5 x6 n x7 M = some r) (kx : fw_W G p l e (fw_rm 1 (fw_mcO o) (fw_msO o)) s m args below meth c 8 (fw_Z G below args s (fw_mcO o) (fw_msO o) o) 0 0 34 [(1, .ref a1), (3, .int x3), (4, .int x4), (5, .int x5), (6, .int x6)] [] S r), fw_W G p l e (fw_rm 1 (fw_mcO o) (fw_msO o)) s m args below meth c 8 (fw_Z G below args s (fw_mcO o) (fw_msO o) o) 0 0 13 [(1, .ref a1), (3, .int x3), (4, .int x4), (5, .int x5), (6, .int x6), (7, .int x7)] [] S M := by
  intro n
  induction n with
  | zero =>
    intro x7 M r h
    exact nomatch (show (none : Option (fw_Mem)) = some r from h)
  | succ n ih =>
    intro x7 M r h kx
    rw [lf_X10_lay_13.eq_2] at h
    refine fw_iload C 5 dX10_lay_13 rfl ?_
    refine fw_bipush C 12 dX10_lay_15 rfl ?_
    refine fw_icmp_ge C 34 dX10_lay_17 (by decide) (fun c2 => ?_) (fun c2 => ?_)
    · replace h := (if_pos c2).symm.trans h
      obtain rfl := Option.some.inj h
      refine fw_sub [0, 1, 2, 3, 4] rfl ?_
      exact kx
    · replace h := (if_neg c2).symm.trans h
      refine fw_aload_n C 0 dX10_lay_20 rfl rfl ?_
      refine fw_iload C 4 dX10_lay_21 rfl ?_
      refine fw_iload C 5 dX10_lay_23 rfl ?_
      refine fw_iadd C dX10_lay_25 ?_
      refine fw_iconst C 0 dX10_lay_26 rfl ?_
      obtain ⟨g3, h⟩ := gd_some h
      refine fw_iast C (gA_of g3) dX10_lay_27 ?_
      refine fw_bm h (fun M4 h => ?_)
      refine fw_iinc C _ 5 [(7, _), (1, _), (3, _), (4, _), (5, _), (6, _)] dX10_lay_28 rfl rfl (Nat.le_of_ble_eq_true rfl) rfl ?_
      refine fw_goto C 13 dX10_lay_31 (by decide) ?_
      refine fw_sub [1, 2, 3, 4, 5, 0] rfl ?_
      exact ih h kx
set_option maxRecDepth 100000 in
def f_X10_lay (S : List fw_Sh) (M : fw_Mem) (a0 : Nat) (a1 : Nat) (x2 : Int32) (x3 : Int32) (x4 : Int32) (x5 : Int32) : Option fw_Mem := bm ((198 : Int32) + ((12 : Int32) * x2)) (fun y1 => b1 (lf_X10_lay_13 S a1 x3 x4 x5 y1 20000 0 M) (fun l5 => gd (gA S 0 a1 (y1 + 0)) (bm (fw_set l5 a1 (y1 + 0).toNatClampNeg x3) (fun M7 => gd (gA S 0 a1 (y1 + 1)) (bm (fw_set M7 a1 (y1 + 1).toNatClampNeg x4) (fun M9 => gd (gA S 0 a1 (y1 + 2)) (bm (fw_set M9 a1 (y1 + 2).toNatClampNeg x5) (fun M11 => gd (gA S 0 a1 (y1 + 6)) (bm (fw_set M11 a1 (y1 + 6).toNatClampNeg (-1)) (fun M13 => some M13))))))))))
set_option maxHeartbeats 4000000 in
set_option maxRecDepth 100000 in
theorem c_X10_lay {l : Launch} {G : fw_G} {S : List fw_Sh} {M : fw_Mem} {a0 : Nat} {a1 : Nat} {x2 : Int32} {x3 : Int32} {x4 : Int32} {x5 : Int32} {r : fw_Mem} (hl : l.stackTraces = false) (h : f_X10_lay S M a0 a1 x2 x3 x4 x5 = some r) : fw_M l G yX10_lay (.code yX10_lay cX10_lay 8 none) 1 (fw_mcO (.inl none, S, r)) (fw_msO (.inl none, S, r)) S M [.ref a0, .ref a1, .int x2, .int x3, .int x4, .int x5] (.inl none, S, r) := by
  refine fw_of [(0, .ref a0), (1, .ref a1), (2, .int x2), (3, .int x3), (4, .int x4), (5, .int x5)] (by decide) (Nat.le_of_ble_eq_true rfl) rfl ?_
  intro p e s m args below meth c C hr hlk hnm ht _
  unfold f_X10_lay at h
  refine fw_sipush C 198 dX10_lay_0 rfl ?_
  refine fw_bipush C 12 dX10_lay_3 rfl ?_
  refine fw_iload_n C 2 dX10_lay_5 rfl rfl ?_
  refine fw_imul C dX10_lay_6 ?_
  refine fw_iadd C dX10_lay_7 ?_
  refine fw_bi h (fun y1 h => ?_)
  refine fw_istore C [(6, _), (0, _), (1, _), (2, _), (3, _), (4, _), (5, _)] dX10_lay_8 (Nat.le_of_ble_eq_true rfl) rfl ?_
  refine fw_iconst C 0 dX10_lay_10 rfl ?_
  refine fw_istore C [(7, _), (6, _), (0, _), (1, _), (2, _), (3, _), (4, _), (5, _)] dX10_lay_11 (Nat.le_of_ble_eq_true rfl) rfl ?_
  refine fw_sub [3, 5, 6, 7, 1, 0] rfl ?_
  obtain ⟨l5, e5, h⟩ := b1_some h
  refine lc_X10_lay_13 C hr hlk hl ht e5 ?_
  refine fw_aload_n C 0 dX10_lay_34 rfl rfl ?_
  refine fw_iload C 4 dX10_lay_35 rfl ?_
  refine fw_iconst C 0 dX10_lay_37 rfl ?_
  refine fw_iadd C dX10_lay_38 ?_
  refine fw_iload_n C 1 dX10_lay_39 rfl rfl ?_
  obtain ⟨g6, h⟩ := gd_some h
  refine fw_iast C (gA_of g6) dX10_lay_40 ?_
  refine fw_bm h (fun M7 h => ?_)
  refine fw_aload_n C 0 dX10_lay_41 rfl rfl ?_
  refine fw_iload C 4 dX10_lay_42 rfl ?_
  refine fw_iconst C 1 dX10_lay_44 rfl ?_
  refine fw_iadd C dX10_lay_45 ?_
  refine fw_iload C 2 dX10_lay_46 rfl ?_
  obtain ⟨g8, h⟩ := gd_some h
  refine fw_iast C (gA_of g8) dX10_lay_48 ?_
  refine fw_bm h (fun M9 h => ?_)
  refine fw_aload_n C 0 dX10_lay_49 rfl rfl ?_
  refine fw_iload C 4 dX10_lay_50 rfl ?_
  refine fw_iconst C 2 dX10_lay_52 rfl ?_
  refine fw_iadd C dX10_lay_53 ?_
  refine fw_iload C 3 dX10_lay_54 rfl ?_
  obtain ⟨g10, h⟩ := gd_some h
  refine fw_iast C (gA_of g10) dX10_lay_56 ?_
  refine fw_bm h (fun M11 h => ?_)
  refine fw_aload_n C 0 dX10_lay_57 rfl rfl ?_
  refine fw_iload C 4 dX10_lay_58 rfl ?_
  refine fw_bipush C 6 dX10_lay_60 rfl ?_
  refine fw_iadd C dX10_lay_62 ?_
  refine fw_iconst C (-1) dX10_lay_63 rfl ?_
  obtain ⟨g12, h⟩ := gd_some h
  refine fw_iast C (gA_of g12) dX10_lay_64 ?_
  refine fw_bm h (fun M13 h => ?_)
  obtain rfl := Option.some.inj h
  exact fw_vret C hr hlk dX10_lay_65
set_option maxRecDepth 100000 in
def fj_X10_would_226 (S : List fw_Sh) (M : fw_Mem) (a0 : Nat) (z0 : Int32) : Option (Int32 × fw_Mem) := gd (gO S 10 a0) (gd (gN (M a0 0)) (gd (gA S 0 ((M a0 0).toNatClampNeg) 2) (bm (fw_set M ((M a0 0).toNatClampNeg) 2 ((M ((M a0 0).toNatClampNeg) 2) - 1)) (fun M24 => some (z0, M24)))))
set_option maxHeartbeats 4000000 in
set_option maxRecDepth 100000 in
theorem jc_X10_would_226 {G : fw_G} {p : Program} {l : Launch} {e : Env} {s : State} {m : MethodId} {args : Array Value} {below : List Frame} {meth : Method} {c : Code} {S : List fw_Sh} {M : fw_Mem} {a0 : Nat} {z0 : Int32} {r : (Int32 × fw_Mem)} {o : fw_O} (C : fw_C G RX10 cX10_would 13 p s m args c) (hr : meth.sig.returnType = (some .int)) (hlk : meth.locks = false) (hl : l.stackTraces = false) (ht : ∀ x ∈ c.exceptionTable.toList, False) (ho : o = (.inl (some (.int r.1)), S, r.2)) (h : fj_X10_would_226 S M a0 z0 = some r) :
    fw_W G p l e (fw_rm 11 (fw_mcO o) (fw_msO o)) s m args below meth c 13 (fw_Z G below args s (fw_mcO o) (fw_msO o) o) 0 0 226 [(0, .ref a0)] [.int z0] S M := by
  subst ho
  unfold fj_X10_would_226 at h
  refine fw_istore C [(12, _), (0, _)] dX10_would_226 (Nat.le_of_ble_eq_true rfl) rfl ?_
  refine fw_aload_n C 1 dX10_would_228 rfl rfl ?_
  obtain ⟨g21, h⟩ := gd_some h
  obtain ⟨g22, h⟩ := gd_some h
  refine fw_getR C 10 0 (Nat.le_of_ble_eq_true rfl) (Nat.le_of_ble_eq_true rfl) wf_X10_9 rfl (gO_of g21) (gN_of g22) dX10_would_229 ?_
  refine fw_iconst C 2 dX10_would_232 rfl ?_
  refine fw_dup2 C dX10_would_233 rfl rfl ?_
  obtain ⟨g23, h⟩ := gd_some h
  refine fw_iald C (gA_of g23) dX10_would_234 ?_
  refine fw_iconst C 1 dX10_would_235 rfl ?_
  refine fw_isub C dX10_would_236 ?_
  refine fw_iast C (gA_of g23) dX10_would_237 ?_
  refine fw_bm h (fun M24 h => ?_)
  refine fw_iload C 0 dX10_would_238 rfl ?_
  obtain rfl := Option.some.inj h
  exact fw_iret C hr hlk dX10_would_240
set_option maxRecDepth 100000 in
def fj_X10_would_118 (S : List fw_Sh) (M : fw_Mem) (a0 : Nat) (x2 : Int32) (x3 : Int32) (x4 : Int32) (x5 : Int32) (x6 : Int32) (x7 : Int32) (x8 : Int32) (z0 : Int32) (z1 : Nat) : Option (Int32 × fw_Mem) := gd (gO S 10 z1) (bm (fw_set M z1 6 z0) (fun M5 => gd (gO S 10 a0) (if (M5 a0 6) ≤ 0 then (b1 (f_X10_suits S M5 a0) (fun v8 => gd (gN (M5 a0 0)) (gd (gA S 0 ((M5 a0 0).toNatClampNeg) 2) (bm (fw_set M5 ((M5 a0 0).toNatClampNeg) 2 ((M5 ((M5 a0 0).toNatClampNeg) 2) + 1)) (fun M11 => gd (gN (M11 a0 0)) (b1 (f_X10_lay S M11 a0 ((M11 a0 0).toNatClampNeg) v8 x7 x8 x2) (fun M13 => b1 (f_X10_put S M13 a0 v8 3 x3) (fun M14 => b1 (f_X10_put S M14 a0 v8 4 x4) (fun M15 => b1 (f_X10_put S M15 a0 v8 5 x5) (fun M16 => b1 (f_X10_layBound S M16 a0) (fun M17 => if x6 = 0 then (b1 (f_X10_barsOf S M17 a0 v8) (fun v26 => fj_X10_would_226 S M17 a0 v26)) else (if x6 = 1 then (b1 (f_X10_heldOf S M17 a0 v8) (fun v25 => fj_X10_would_226 S M17 a0 v25)) else (b1 (f_X10_forcedOf S M17 a0 v8) (fun v20 => fj_X10_would_226 S M17 a0 v20)))))))))))))) else (some (0, M5)))))
set_option maxHeartbeats 4000000 in
set_option maxRecDepth 100000 in
theorem jc_X10_would_118 {G : fw_G} {p : Program} {l : Launch} {e : Env} {s : State} {m : MethodId} {args : Array Value} {below : List Frame} {meth : Method} {c : Code} {S : List fw_Sh} {M : fw_Mem} {a0 : Nat} {x2 : Int32} {x3 : Int32} {x4 : Int32} {x5 : Int32} {x6 : Int32} {x7 : Int32} {x8 : Int32} {z0 : Int32} {z1 : Nat} {r : (Int32 × fw_Mem)} {o : fw_O} (C : fw_C G RX10 cX10_would 13 p s m args c) (hr : meth.sig.returnType = (some .int)) (hlk : meth.locks = false) (hl : l.stackTraces = false) (ht : ∀ x ∈ c.exceptionTable.toList, False) (ho : o = (.inl (some (.int r.1)), S, r.2)) (h : fj_X10_would_118 S M a0 x2 x3 x4 x5 x6 x7 x8 z0 z1 = some r) :
    fw_W G p l e (fw_rm 11 (fw_mcO o) (fw_msO o)) s m args below meth c 13 (fw_Z G below args s (fw_mcO o) (fw_msO o) o) 0 0 118 [(0, .ref a0), (2, .int x2), (3, .int x3), (4, .int x4), (5, .int x5), (6, .int x6), (7, .int x7), (8, .int x8)] [.int z0, .ref z1] S M := by
  subst ho
  unfold fj_X10_would_118 at h
  obtain ⟨g4, h⟩ := gd_some h
  refine fw_putI C 10 6 (Nat.le_of_ble_eq_true rfl) (Nat.le_of_ble_eq_true rfl) wf_X10_51 rfl rfl rfl rfl (gO_of g4) dX10_would_118 ?_
  refine fw_bm h (fun M5 h => ?_)
  refine fw_aload_n C 0 dX10_would_121 rfl rfl ?_
  obtain ⟨g6, h⟩ := gd_some h
  refine fw_getI C 10 6 (Nat.le_of_ble_eq_true rfl) (Nat.le_of_ble_eq_true rfl) wf_X10_51 rfl (gO_of g6) dX10_would_122 ?_
  refine fw_if_le C 130 dX10_would_125 (by decide) (fun c7 => ?_) (fun c7 => ?_)
  · replace h := (if_pos c7).symm.trans h
    refine fw_aload_n C 0 dX10_would_130 rfl rfl ?_
    obtain ⟨v8, e8, h⟩ := b1_some h
    refine fw_callV (ci := 10) [] C (c_X10_suits hl e8) cal_X10_suits wm_X10_62 wi_yX10_suits wsl_yX10_suits (Nat.le_of_ble_eq_true rfl) rfl (gO_of g6) rfl (Nat.le_of_ble_eq_true rfl) ⟨Nat.le_of_ble_eq_true rfl, Nat.le_of_ble_eq_true rfl⟩ ⟨Nat.zero_le _, Nat.zero_le _⟩ dX10_would_131 ?_
    refine fw_istore C [(11, _), (0, _), (2, _), (3, _), (4, _), (5, _), (6, _), (7, _), (8, _)] dX10_would_134 (Nat.le_of_ble_eq_true rfl) rfl ?_
    refine fw_aload_n C 1 dX10_would_136 rfl rfl ?_
    obtain ⟨g9, h⟩ := gd_some h
    refine fw_getR C 10 0 (Nat.le_of_ble_eq_true rfl) (Nat.le_of_ble_eq_true rfl) wf_X10_9 rfl (gO_of g6) (gN_of g9) dX10_would_137 ?_
    refine fw_iconst C 2 dX10_would_140 rfl ?_
    refine fw_dup2 C dX10_would_141 rfl rfl ?_
    obtain ⟨g10, h⟩ := gd_some h
    refine fw_iald C (gA_of g10) dX10_would_142 ?_
    refine fw_iconst C 1 dX10_would_143 rfl ?_
    refine fw_iadd C dX10_would_144 ?_
    refine fw_iast C (gA_of g10) dX10_would_145 ?_
    refine fw_bm h (fun M11 h => ?_)
    refine fw_aload_n C 1 dX10_would_146 rfl rfl ?_
    refine fw_aload_n C 1 dX10_would_147 rfl rfl ?_
    obtain ⟨g12, h⟩ := gd_some h
    refine fw_getR C 10 0 (Nat.le_of_ble_eq_true rfl) (Nat.le_of_ble_eq_true rfl) wf_X10_9 rfl (gO_of g6) (gN_of g12) dX10_would_148 ?_
    refine fw_iload C 0 dX10_would_151 rfl ?_
    refine fw_iload C 7 dX10_would_153 rfl ?_
    refine fw_iload C 8 dX10_would_155 rfl ?_
    refine fw_iload_n C 2 dX10_would_157 rfl rfl ?_
    obtain ⟨M13, e13, h⟩ := b1_some h
    refine fw_callV (ci := 10) [_, _, _, _, _] C (c_X10_lay hl e13) cal_X10_lay wm_X10_212 wi_yX10_lay wsl_yX10_lay (Nat.le_of_ble_eq_true rfl) rfl (gO_of g6) rfl (Nat.le_of_ble_eq_true rfl) ⟨Nat.le_of_ble_eq_true rfl, Nat.le_of_ble_eq_true rfl⟩ ⟨Nat.zero_le _, Nat.zero_le _⟩ dX10_would_158 ?_
    refine fw_aload_n C 1 dX10_would_161 rfl rfl ?_
    refine fw_iload C 0 dX10_would_162 rfl ?_
    refine fw_iconst C 3 dX10_would_164 rfl ?_
    refine fw_iload_n C 3 dX10_would_165 rfl rfl ?_
    obtain ⟨M14, e14, h⟩ := b1_some h
    refine fw_callV (ci := 10) [_, _, _] C (c_X10_put hl e14) cal_X10_put wm_X10_205 wi_yX10_put wsl_yX10_put (Nat.le_of_ble_eq_true rfl) rfl (gO_of g6) rfl (Nat.le_of_ble_eq_true rfl) ⟨Nat.le_of_ble_eq_true rfl, Nat.le_of_ble_eq_true rfl⟩ ⟨Nat.zero_le _, Nat.zero_le _⟩ dX10_would_166 ?_
    refine fw_aload_n C 1 dX10_would_169 rfl rfl ?_
    refine fw_iload C 0 dX10_would_170 rfl ?_
    refine fw_iconst C 4 dX10_would_172 rfl ?_
    refine fw_iload C 4 dX10_would_173 rfl ?_
    obtain ⟨M15, e15, h⟩ := b1_some h
    refine fw_callV (ci := 10) [_, _, _] C (c_X10_put hl e15) cal_X10_put wm_X10_205 wi_yX10_put wsl_yX10_put (Nat.le_of_ble_eq_true rfl) rfl (gO_of g6) rfl (Nat.le_of_ble_eq_true rfl) ⟨Nat.le_of_ble_eq_true rfl, Nat.le_of_ble_eq_true rfl⟩ ⟨Nat.zero_le _, Nat.zero_le _⟩ dX10_would_175 ?_
    refine fw_aload_n C 1 dX10_would_178 rfl rfl ?_
    refine fw_iload C 0 dX10_would_179 rfl ?_
    refine fw_iconst C 5 dX10_would_181 rfl ?_
    refine fw_iload C 5 dX10_would_182 rfl ?_
    obtain ⟨M16, e16, h⟩ := b1_some h
    refine fw_callV (ci := 10) [_, _, _] C (c_X10_put hl e16) cal_X10_put wm_X10_205 wi_yX10_put wsl_yX10_put (Nat.le_of_ble_eq_true rfl) rfl (gO_of g6) rfl (Nat.le_of_ble_eq_true rfl) ⟨Nat.le_of_ble_eq_true rfl, Nat.le_of_ble_eq_true rfl⟩ ⟨Nat.zero_le _, Nat.zero_le _⟩ dX10_would_184 ?_
    refine fw_aload_n C 1 dX10_would_187 rfl rfl ?_
    obtain ⟨M17, e17, h⟩ := b1_some h
    refine fw_callV (ci := 10) [] C (c_X10_layBound hl e17) cal_X10_layBound wm_X10_152 wi_yX10_layBound wsl_yX10_layBound (Nat.le_of_ble_eq_true rfl) rfl (gO_of g6) rfl (Nat.le_of_ble_eq_true rfl) ⟨Nat.le_of_ble_eq_true rfl, Nat.le_of_ble_eq_true rfl⟩ ⟨Nat.zero_le _, Nat.zero_le _⟩ dX10_would_188 ?_
    refine fw_iload C 6 dX10_would_191 rfl ?_
    refine fw_if_ne C 205 dX10_would_193 (by decide) (fun c18 => ?_) (fun c18 => ?_)
    · replace h := (if_neg c18).symm.trans h
      refine fw_iload C 6 dX10_would_205 rfl ?_
      refine fw_iconst C 1 dX10_would_207 rfl ?_
      refine fw_icmp_ne C 220 dX10_would_208 (by decide) (fun c19 => ?_) (fun c19 => ?_)
      · replace h := (if_neg c19).symm.trans h
        refine fw_aload_n C 1 dX10_would_220 rfl rfl ?_
        refine fw_iload C 0 dX10_would_221 rfl ?_
        obtain ⟨v20, e20, h⟩ := b1_some h
        refine fw_callV (ci := 10) [_] C (c_X10_forcedOf hl e20) cal_X10_forcedOf wm_X10_193 wi_yX10_forcedOf wsl_yX10_forcedOf (Nat.le_of_ble_eq_true rfl) rfl (gO_of g6) rfl (Nat.le_of_ble_eq_true rfl) ⟨Nat.le_of_ble_eq_true rfl, Nat.le_of_ble_eq_true rfl⟩ ⟨Nat.zero_le _, Nat.zero_le _⟩ dX10_would_223 ?_
        refine fw_sub [1] rfl ?_
        exact jc_X10_would_226 C hr hlk hl ht rfl h
      · replace h := (if_pos c19).symm.trans h
        refine fw_aload_n C 1 dX10_would_211 rfl rfl ?_
        refine fw_iload C 0 dX10_would_212 rfl ?_
        obtain ⟨v25, e25, h⟩ := b1_some h
        refine fw_callV (ci := 10) [_] C (c_X10_heldOf hl e25) cal_X10_heldOf wm_X10_146 wi_yX10_heldOf wsl_yX10_heldOf (Nat.le_of_ble_eq_true rfl) rfl (gO_of g6) rfl (Nat.le_of_ble_eq_true rfl) ⟨Nat.le_of_ble_eq_true rfl, Nat.le_of_ble_eq_true rfl⟩ ⟨Nat.zero_le _, Nat.zero_le _⟩ dX10_would_214 ?_
        refine fw_goto C 226 dX10_would_217 (by decide) ?_
        refine fw_sub [1] rfl ?_
        exact jc_X10_would_226 C hr hlk hl ht rfl h
    · replace h := (if_pos c18).symm.trans h
      refine fw_aload_n C 1 dX10_would_196 rfl rfl ?_
      refine fw_iload C 0 dX10_would_197 rfl ?_
      obtain ⟨v26, e26, h⟩ := b1_some h
      refine fw_callV (ci := 10) [_] C (c_X10_barsOf hl e26) cal_X10_barsOf wm_X10_143 wi_yX10_barsOf wsl_yX10_barsOf (Nat.le_of_ble_eq_true rfl) rfl (gO_of g6) rfl (Nat.le_of_ble_eq_true rfl) ⟨Nat.le_of_ble_eq_true rfl, Nat.le_of_ble_eq_true rfl⟩ ⟨Nat.zero_le _, Nat.zero_le _⟩ dX10_would_199 ?_
      refine fw_goto C 226 dX10_would_202 (by decide) ?_
      refine fw_sub [1] rfl ?_
      exact jc_X10_would_226 C hr hlk hl ht rfl h
  · replace h := (if_neg c7).symm.trans h
    refine fw_iconst C 0 dX10_would_128 rfl ?_
    obtain rfl := Option.some.inj h
    exact fw_iret C hr hlk dX10_would_129
set_option maxRecDepth 100000 in
def fj_X10_would_86 (S : List fw_Sh) (M : fw_Mem) (a0 : Nat) (x2 : Int32) (x3 : Int32) (x4 : Int32) (x5 : Int32) (x6 : Int32) (x7 : Int32) (x8 : Int32) (x9 : Int32) (z0 : Int32) : Option (Int32 × fw_Mem) := if x9 = 0 then fj_X10_would_118 S M a0 x2 x3 x4 x5 x6 x7 x8 1 a0 else (b1 (f_X10_isIn S M x6 0 2) (fun v27 => if v27 = 0 then fj_X10_would_118 S M a0 x2 x3 x4 x5 x6 x7 x8 1 a0 else (if z0 = 0 then fj_X10_would_118 S M a0 x2 x3 x4 x5 x6 x7 x8 2 a0 else fj_X10_would_118 S M a0 x2 x3 x4 x5 x6 x7 x8 0 a0)))
set_option maxHeartbeats 4000000 in
set_option maxRecDepth 100000 in
theorem jc_X10_would_86 {G : fw_G} {p : Program} {l : Launch} {e : Env} {s : State} {m : MethodId} {args : Array Value} {below : List Frame} {meth : Method} {c : Code} {S : List fw_Sh} {M : fw_Mem} {a0 : Nat} {x2 : Int32} {x3 : Int32} {x4 : Int32} {x5 : Int32} {x6 : Int32} {x7 : Int32} {x8 : Int32} {x9 : Int32} {z0 : Int32} {r : (Int32 × fw_Mem)} {o : fw_O} (C : fw_C G RX10 cX10_would 13 p s m args c) (hr : meth.sig.returnType = (some .int)) (hlk : meth.locks = false) (hl : l.stackTraces = false) (ht : ∀ x ∈ c.exceptionTable.toList, False) (ho : o = (.inl (some (.int r.1)), S, r.2)) (h : fj_X10_would_86 S M a0 x2 x3 x4 x5 x6 x7 x8 x9 z0 = some r) :
    fw_W G p l e (fw_rm 11 (fw_mcO o) (fw_msO o)) s m args below meth c 13 (fw_Z G below args s (fw_mcO o) (fw_msO o) o) 0 0 86 [(0, .ref a0), (2, .int x2), (3, .int x3), (4, .int x4), (5, .int x5), (6, .int x6), (7, .int x7), (8, .int x8), (9, .int x9)] [.int z0] S M := by
  subst ho
  unfold fj_X10_would_86 at h
  refine fw_istore C [(10, _), (0, _), (2, _), (3, _), (4, _), (5, _), (6, _), (7, _), (8, _), (9, _)] dX10_would_86 (Nat.le_of_ble_eq_true rfl) rfl ?_
  refine fw_aload_n C 1 dX10_would_88 rfl rfl ?_
  refine fw_iload C 9 dX10_would_89 rfl ?_
  refine fw_if_eq C 104 dX10_would_91 (by decide) (fun c3 => ?_) (fun c3 => ?_)
  · replace h := (if_pos c3).symm.trans h
    refine fw_iconst C 1 dX10_would_104 rfl ?_
    refine fw_goto C 118 dX10_would_105 (by decide) ?_
    refine fw_sub [1, 2, 3, 4, 5, 6, 7, 8] rfl ?_
    exact jc_X10_would_118 C hr hlk hl ht rfl h
  · replace h := (if_neg c3).symm.trans h
    refine fw_iload C 6 dX10_would_94 rfl ?_
    refine fw_iconst C 0 dX10_would_96 rfl ?_
    refine fw_iconst C 2 dX10_would_97 rfl ?_
    obtain ⟨v27, e27, h⟩ := b1_some h
    refine fw_callS [_, _, _] C (c_X10_isIn hl e27) cal_X10_isIn wm_X10_58 wt_yX10_isIn rfl (Nat.le_of_ble_eq_true rfl) ⟨Nat.le_of_ble_eq_true rfl, Nat.le_of_ble_eq_true rfl⟩ ⟨Nat.zero_le _, Nat.zero_le _⟩ dX10_would_98 ?_
    refine fw_if_ne C 108 dX10_would_101 (by decide) (fun c28 => ?_) (fun c28 => ?_)
    · replace h := (if_neg c28).symm.trans h
      refine fw_iload C 0 dX10_would_108 rfl ?_
      refine fw_if_ne C 117 dX10_would_110 (by decide) (fun c29 => ?_) (fun c29 => ?_)
      · replace h := (if_neg c29).symm.trans h
        refine fw_iconst C 0 dX10_would_117 rfl ?_
        refine fw_sub [1, 2, 3, 4, 5, 6, 7, 8] rfl ?_
        exact jc_X10_would_118 C hr hlk hl ht rfl h
      · replace h := (if_pos c29).symm.trans h
        refine fw_iconst C 2 dX10_would_113 rfl ?_
        refine fw_goto C 118 dX10_would_114 (by decide) ?_
        refine fw_sub [1, 2, 3, 4, 5, 6, 7, 8] rfl ?_
        exact jc_X10_would_118 C hr hlk hl ht rfl h
    · replace h := (if_pos c28).symm.trans h
      refine fw_iconst C 1 dX10_would_104 rfl ?_
      refine fw_goto C 118 dX10_would_105 (by decide) ?_
      refine fw_sub [1, 2, 3, 4, 5, 6, 7, 8] rfl ?_
      exact jc_X10_would_118 C hr hlk hl ht rfl h
set_option maxRecDepth 100000 in
def fj_X10_would_46 (S : List fw_Sh) (M : fw_Mem) (a0 : Nat) (x2 : Int32) (x3 : Int32) (x4 : Int32) (x5 : Int32) (x6 : Int32) (x7 : Int32) (x8 : Int32) (z0 : Int32) : Option (Int32 × fw_Mem) := if x3 < 0 then fj_X10_would_86 S M a0 x2 x3 x4 x5 x6 x7 x8 z0 0 else (if x4 < 0 then fj_X10_would_86 S M a0 x2 x3 x4 x5 x6 x7 x8 z0 0 else (if x5 < 0 then fj_X10_would_86 S M a0 x2 x3 x4 x5 x6 x7 x8 z0 0 else (if (x4 &&& x5) = 0 then (b1 (f_X10_isIn S M x2 0 9999) (fun v33 => if v33 = 0 then fj_X10_would_86 S M a0 x2 x3 x4 x5 x6 x7 x8 z0 0 else fj_X10_would_86 S M a0 x2 x3 x4 x5 x6 x7 x8 z0 1)) else fj_X10_would_86 S M a0 x2 x3 x4 x5 x6 x7 x8 z0 0)))
set_option maxHeartbeats 4000000 in
set_option maxRecDepth 100000 in
theorem jc_X10_would_46 {G : fw_G} {p : Program} {l : Launch} {e : Env} {s : State} {m : MethodId} {args : Array Value} {below : List Frame} {meth : Method} {c : Code} {S : List fw_Sh} {M : fw_Mem} {a0 : Nat} {x2 : Int32} {x3 : Int32} {x4 : Int32} {x5 : Int32} {x6 : Int32} {x7 : Int32} {x8 : Int32} {z0 : Int32} {r : (Int32 × fw_Mem)} {o : fw_O} (C : fw_C G RX10 cX10_would 13 p s m args c) (hr : meth.sig.returnType = (some .int)) (hlk : meth.locks = false) (hl : l.stackTraces = false) (ht : ∀ x ∈ c.exceptionTable.toList, False) (ho : o = (.inl (some (.int r.1)), S, r.2)) (h : fj_X10_would_46 S M a0 x2 x3 x4 x5 x6 x7 x8 z0 = some r) :
    fw_W G p l e (fw_rm 11 (fw_mcO o) (fw_msO o)) s m args below meth c 13 (fw_Z G below args s (fw_mcO o) (fw_msO o) o) 0 0 46 [(0, .ref a0), (2, .int x2), (3, .int x3), (4, .int x4), (5, .int x5), (6, .int x6), (7, .int x7), (8, .int x8)] [.int z0] S M := by
  subst ho
  unfold fj_X10_would_46 at h
  refine fw_istore C [(9, _), (0, _), (2, _), (3, _), (4, _), (5, _), (6, _), (7, _), (8, _)] dX10_would_46 (Nat.le_of_ble_eq_true rfl) rfl ?_
  refine fw_iload_n C 3 dX10_would_48 rfl rfl ?_
  refine fw_if_lt C 85 dX10_would_49 (by decide) (fun c2 => ?_) (fun c2 => ?_)
  · replace h := (if_pos c2).symm.trans h
    refine fw_iconst C 0 dX10_would_85 rfl ?_
    refine fw_sub [1, 2, 3, 4, 5, 6, 7, 8, 0] rfl ?_
    exact jc_X10_would_86 C hr hlk hl ht rfl h
  · replace h := (if_neg c2).symm.trans h
    refine fw_iload C 4 dX10_would_52 rfl ?_
    refine fw_if_lt C 85 dX10_would_54 (by decide) (fun c30 => ?_) (fun c30 => ?_)
    · replace h := (if_pos c30).symm.trans h
      refine fw_iconst C 0 dX10_would_85 rfl ?_
      refine fw_sub [1, 2, 3, 4, 5, 6, 7, 8, 0] rfl ?_
      exact jc_X10_would_86 C hr hlk hl ht rfl h
    · replace h := (if_neg c30).symm.trans h
      refine fw_iload C 5 dX10_would_57 rfl ?_
      refine fw_if_lt C 85 dX10_would_59 (by decide) (fun c31 => ?_) (fun c31 => ?_)
      · replace h := (if_pos c31).symm.trans h
        refine fw_iconst C 0 dX10_would_85 rfl ?_
        refine fw_sub [1, 2, 3, 4, 5, 6, 7, 8, 0] rfl ?_
        exact jc_X10_would_86 C hr hlk hl ht rfl h
      · replace h := (if_neg c31).symm.trans h
        refine fw_iload C 4 dX10_would_62 rfl ?_
        refine fw_iload C 5 dX10_would_64 rfl ?_
        refine fw_iand C dX10_would_66 ?_
        refine fw_if_ne C 85 dX10_would_67 (by decide) (fun c32 => ?_) (fun c32 => ?_)
        · replace h := (if_neg c32).symm.trans h
          refine fw_iconst C 0 dX10_would_85 rfl ?_
          refine fw_sub [1, 2, 3, 4, 5, 6, 7, 8, 0] rfl ?_
          exact jc_X10_would_86 C hr hlk hl ht rfl h
        · replace h := (if_pos c32).symm.trans h
          refine fw_iload_n C 2 dX10_would_70 rfl rfl ?_
          refine fw_iconst C 0 dX10_would_71 rfl ?_
          refine fw_sipush C 9999 dX10_would_72 rfl ?_
          obtain ⟨v33, e33, h⟩ := b1_some h
          refine fw_callS [_, _, _] C (c_X10_isIn hl e33) cal_X10_isIn wm_X10_58 wt_yX10_isIn rfl (Nat.le_of_ble_eq_true rfl) ⟨Nat.le_of_ble_eq_true rfl, Nat.le_of_ble_eq_true rfl⟩ ⟨Nat.zero_le _, Nat.zero_le _⟩ dX10_would_75 ?_
          refine fw_if_eq C 85 dX10_would_78 (by decide) (fun c34 => ?_) (fun c34 => ?_)
          · replace h := (if_pos c34).symm.trans h
            refine fw_iconst C 0 dX10_would_85 rfl ?_
            refine fw_sub [1, 2, 3, 4, 5, 6, 7, 8, 0] rfl ?_
            exact jc_X10_would_86 C hr hlk hl ht rfl h
          · replace h := (if_neg c34).symm.trans h
            refine fw_iconst C 1 dX10_would_81 rfl ?_
            refine fw_goto C 86 dX10_would_82 (by decide) ?_
            refine fw_sub [1, 2, 3, 4, 5, 6, 7, 8, 0] rfl ?_
            exact jc_X10_would_86 C hr hlk hl ht rfl h
set_option maxRecDepth 100000 in
def f_X10_would (S : List fw_Sh) (M : fw_Mem) (a0 : Nat) (x1 : Int32) (x2 : Int32) (x3 : Int32) (x4 : Int32) (x5 : Int32) (x6 : Int32) : Option (Int32 × fw_Mem) := if x1 < 0 then fj_X10_would_46 S M a0 x2 x3 x4 x5 x6 (x1 / 12) (x1 - x1 / 12 * 12) 0 else (gd (gO S 10 a0) (b1 (f_X10_isPerson S M a0 (x1 / 12)) (fun v35 => if v35 = 0 then fj_X10_would_46 S M a0 x2 x3 x4 x5 x6 (x1 / 12) (x1 - x1 / 12 * 12) 0 else (b1 (f_X10_isPerson S M a0 (x1 - x1 / 12 * 12)) (fun v38 => if v38 = 0 then fj_X10_would_46 S M a0 x2 x3 x4 x5 x6 (x1 / 12) (x1 - x1 / 12 * 12) 0 else (if (x1 / 12) = (x1 - x1 / 12 * 12) then fj_X10_would_46 S M a0 x2 x3 x4 x5 x6 (x1 / 12) (x1 - x1 / 12 * 12) 0 else fj_X10_would_46 S M a0 x2 x3 x4 x5 x6 (x1 / 12) (x1 - x1 / 12 * 12) 1))))))
set_option maxHeartbeats 4000000 in
set_option maxRecDepth 100000 in
theorem c_X10_would {l : Launch} {G : fw_G} {S : List fw_Sh} {M : fw_Mem} {a0 : Nat} {x1 : Int32} {x2 : Int32} {x3 : Int32} {x4 : Int32} {x5 : Int32} {x6 : Int32} {r : (Int32 × fw_Mem)} (hl : l.stackTraces = false) (h : f_X10_would S M a0 x1 x2 x3 x4 x5 x6 = some r) : fw_M l G yX10_would (.code yX10_would cX10_would 13 (some .int)) 11 (fw_mcO (.inl (some (.int r.1)), S, r.2)) (fw_msO (.inl (some (.int r.1)), S, r.2)) S M [.ref a0, .int x1, .int x2, .int x3, .int x4, .int x5, .int x6] (.inl (some (.int r.1)), S, r.2) := by
  refine fw_of [(0, .ref a0), (1, .int x1), (2, .int x2), (3, .int x3), (4, .int x4), (5, .int x5), (6, .int x6)] (by decide) (Nat.le_of_ble_eq_true rfl) rfl ?_
  intro p e s m args below meth c C hr hlk hnm ht _
  unfold f_X10_would at h
  refine fw_iload_n C 1 dX10_would_0 rfl rfl ?_
  refine fw_bipush C 12 dX10_would_1 rfl ?_
  refine fw_idiv C dX10_would_3 (by decide) ?_
  refine fw_istore C [(7, _), (0, _), (1, _), (2, _), (3, _), (4, _), (5, _), (6, _)] dX10_would_4 (Nat.le_of_ble_eq_true rfl) rfl ?_
  refine fw_iload_n C 2 dX10_would_6 rfl rfl ?_
  refine fw_bipush C 12 dX10_would_7 rfl ?_
  refine fw_irem C dX10_would_9 (by decide) ?_
  refine fw_istore C [(8, _), (7, _), (0, _), (1, _), (2, _), (3, _), (4, _), (5, _), (6, _)] dX10_would_10 (Nat.le_of_ble_eq_true rfl) rfl ?_
  refine fw_iload_n C 3 dX10_would_12 rfl rfl ?_
  refine fw_if_lt C 45 dX10_would_13 (by decide) (fun c1 => ?_) (fun c1 => ?_)
  · replace h := (if_pos c1).symm.trans h
    refine fw_iconst C 0 dX10_would_45 rfl ?_
    refine fw_sub [2, 4, 5, 6, 7, 8, 1, 0] rfl ?_
    exact jc_X10_would_46 C hr hlk hl ht rfl h
  · replace h := (if_neg c1).symm.trans h
    refine fw_aload_n C 2 dX10_would_16 rfl rfl ?_
    refine fw_iload C 1 dX10_would_17 rfl ?_
    obtain ⟨g36, h⟩ := gd_some h
    obtain ⟨v35, e35, h⟩ := b1_some h
    refine fw_callV (ci := 10) [_] C (c_X10_isPerson hl e35) cal_X10_isPerson wm_X10_174 wi_yX10_isPerson wsl_yX10_isPerson (Nat.le_of_ble_eq_true rfl) rfl (gO_of g36) rfl (Nat.le_of_ble_eq_true rfl) ⟨Nat.le_of_ble_eq_true rfl, Nat.le_of_ble_eq_true rfl⟩ ⟨Nat.zero_le _, Nat.zero_le _⟩ dX10_would_19 ?_
    refine fw_if_eq C 45 dX10_would_22 (by decide) (fun c37 => ?_) (fun c37 => ?_)
    · replace h := (if_pos c37).symm.trans h
      refine fw_iconst C 0 dX10_would_45 rfl ?_
      refine fw_sub [2, 4, 5, 6, 7, 8, 1, 0] rfl ?_
      exact jc_X10_would_46 C hr hlk hl ht rfl h
    · replace h := (if_neg c37).symm.trans h
      refine fw_aload_n C 2 dX10_would_25 rfl rfl ?_
      refine fw_iload C 0 dX10_would_26 rfl ?_
      obtain ⟨v38, e38, h⟩ := b1_some h
      refine fw_callV (ci := 10) [_] C (c_X10_isPerson hl e38) cal_X10_isPerson wm_X10_174 wi_yX10_isPerson wsl_yX10_isPerson (Nat.le_of_ble_eq_true rfl) rfl (gO_of g36) rfl (Nat.le_of_ble_eq_true rfl) ⟨Nat.le_of_ble_eq_true rfl, Nat.le_of_ble_eq_true rfl⟩ ⟨Nat.zero_le _, Nat.zero_le _⟩ dX10_would_28 ?_
      refine fw_if_eq C 45 dX10_would_31 (by decide) (fun c39 => ?_) (fun c39 => ?_)
      · replace h := (if_pos c39).symm.trans h
        refine fw_iconst C 0 dX10_would_45 rfl ?_
        refine fw_sub [2, 4, 5, 6, 7, 8, 1, 0] rfl ?_
        exact jc_X10_would_46 C hr hlk hl ht rfl h
      · replace h := (if_neg c39).symm.trans h
        refine fw_iload C 1 dX10_would_34 rfl ?_
        refine fw_iload C 0 dX10_would_36 rfl ?_
        refine fw_icmp_eq C 45 dX10_would_38 (by decide) (fun c40 => ?_) (fun c40 => ?_)
        · replace h := (if_pos c40).symm.trans h
          refine fw_iconst C 0 dX10_would_45 rfl ?_
          refine fw_sub [2, 4, 5, 6, 7, 8, 1, 0] rfl ?_
          exact jc_X10_would_46 C hr hlk hl ht rfl h
        · replace h := (if_neg c40).symm.trans h
          refine fw_iconst C 1 dX10_would_41 rfl ?_
          refine fw_goto C 46 dX10_would_42 (by decide) ?_
          refine fw_sub [2, 4, 5, 6, 7, 8, 1, 0] rfl ?_
          exact jc_X10_would_46 C hr hlk hl ht rfl h
set_option maxRecDepth 100000 in
def lf_X10_freeTill_37 (S : List fw_Sh) (a0 : Nat) (x1 : Int32) (x2 : Int32) : Nat → Int32 → Int32 → fw_Mem → Option (Int32 × fw_Mem)
  | 0, _, _, _ => none
  | n + 1, x3, x4, M => if x4 < 0 then (some (x3, M)) else (if x3 = (-1) then (gd (gO S 10 a0) (b1 (f_X10_put S M a0 x1 2 x4) (fun M9 => b1 (f_X10_barsOf S M9 a0 x1) (fun v11 => if v11 = 0 then (lf_X10_freeTill_37 S a0 x1 x2 n x4 (x4 + (-1)) M9) else (lf_X10_freeTill_37 S a0 x1 x2 n x3 (x4 + (-1)) M9))))) else (some (x3, M)))
set_option maxHeartbeats 4000000 in
set_option maxRecDepth 100000 in
theorem lc_X10_freeTill_37 {G : fw_G} {p : Program} {l : Launch} {e : Env} {s : State} {m : MethodId} {args : Array Value} {below : List Frame} {meth : Method} {c : Code} {S : List fw_Sh} {o : fw_O} {a0 : Nat} {x1 : Int32} {x2 : Int32} (C : fw_C G RX10 cX10_freeTill 5 p s m args c) (hr : meth.sig.returnType = (some .int)) (hlk : meth.locks = false) (hl : l.stackTraces = false) (ht : ∀ x ∈ c.exceptionTable.toList, False) :
    ∀ {n : Nat} {x3 : Int32} {x4 : Int32} {M : fw_Mem} {r : (Int32 × fw_Mem)} (h : lf_X10_freeTill_37 S a0 x1 x2 n x3 x4 M = some r) (kx : fw_W G p l e (fw_rm 6 (fw_mcO o) (fw_msO o)) s m args below meth c 5 (fw_Z G below args s (fw_mcO o) (fw_msO o) o) 0 0 72 [(0, .ref a0), (1, .int x1), (2, .int x2), (3, .int r.1)] [] S r.2), fw_W G p l e (fw_rm 6 (fw_mcO o) (fw_msO o)) s m args below meth c 5 (fw_Z G below args s (fw_mcO o) (fw_msO o) o) 0 0 37 [(0, .ref a0), (1, .int x1), (2, .int x2), (3, .int x3), (4, .int x4)] [] S M := by
  intro n
  induction n with
  | zero =>
    intro x3 x4 M r h
    exact nomatch (show (none : Option (Int32 × fw_Mem)) = some r from h)
  | succ n ih =>
    intro x3 x4 M r h kx
    rw [lf_X10_freeTill_37.eq_2] at h
    refine fw_iload C 4 dX10_freeTill_37 rfl ?_
    refine fw_if_lt C 72 dX10_freeTill_39 (by decide) (fun c7 => ?_) (fun c7 => ?_)
    · replace h := (if_pos c7).symm.trans h
      obtain rfl := Option.some.inj h
      refine fw_sub [0, 1, 2, 3] rfl ?_
      exact kx
    · replace h := (if_neg c7).symm.trans h
      refine fw_iload_n C 3 dX10_freeTill_42 rfl rfl ?_
      refine fw_iconst C (-1) dX10_freeTill_43 rfl ?_
      refine fw_icmp_ne C 72 dX10_freeTill_44 (by decide) (fun c8 => ?_) (fun c8 => ?_)
      · replace h := (if_neg c8).symm.trans h
        obtain rfl := Option.some.inj h
        refine fw_sub [0, 1, 2, 3] rfl ?_
        exact kx
      · replace h := (if_pos c8).symm.trans h
        refine fw_aload_n C 0 dX10_freeTill_47 rfl rfl ?_
        refine fw_iload_n C 1 dX10_freeTill_48 rfl rfl ?_
        refine fw_iconst C 2 dX10_freeTill_49 rfl ?_
        refine fw_iload C 4 dX10_freeTill_50 rfl ?_
        obtain ⟨g10, h⟩ := gd_some h
        obtain ⟨M9, e9, h⟩ := b1_some h
        refine fw_callV (ci := 10) [_, _, _] C (c_X10_put hl e9) cal_X10_put wm_X10_205 wi_yX10_put wsl_yX10_put (Nat.le_of_ble_eq_true rfl) rfl (gO_of g10) rfl (Nat.le_of_ble_eq_true rfl) ⟨Nat.le_of_ble_eq_true rfl, Nat.le_of_ble_eq_true rfl⟩ ⟨Nat.zero_le _, Nat.zero_le _⟩ dX10_freeTill_52 ?_
        refine fw_aload_n C 0 dX10_freeTill_55 rfl rfl ?_
        refine fw_iload_n C 1 dX10_freeTill_56 rfl rfl ?_
        obtain ⟨v11, e11, h⟩ := b1_some h
        refine fw_callV (ci := 10) [_] C (c_X10_barsOf hl e11) cal_X10_barsOf wm_X10_143 wi_yX10_barsOf wsl_yX10_barsOf (Nat.le_of_ble_eq_true rfl) rfl (gO_of g10) rfl (Nat.le_of_ble_eq_true rfl) ⟨Nat.le_of_ble_eq_true rfl, Nat.le_of_ble_eq_true rfl⟩ ⟨Nat.zero_le _, Nat.zero_le _⟩ dX10_freeTill_57 ?_
        refine fw_if_ne C 66 dX10_freeTill_60 (by decide) (fun c12 => ?_) (fun c12 => ?_)
        · replace h := (if_neg c12).symm.trans h
          refine fw_iinc C _ 4 [(4, _), (0, _), (1, _), (2, _), (3, _)] dX10_freeTill_66 rfl rfl (Nat.le_of_ble_eq_true rfl) rfl ?_
          refine fw_goto C 37 dX10_freeTill_69 (by decide) ?_
          refine fw_sub [1, 2, 3, 4, 0] rfl ?_
          exact ih h kx
        · replace h := (if_pos c12).symm.trans h
          refine fw_iload C 4 dX10_freeTill_63 rfl ?_
          refine fw_istore_n C [(3, _), (0, _), (1, _), (2, _), (4, _)] dX10_freeTill_65 rfl (Nat.le_of_ble_eq_true rfl) rfl ?_
          refine fw_iinc C _ 4 [(4, _), (3, _), (0, _), (1, _), (2, _)] dX10_freeTill_66 rfl rfl (Nat.le_of_ble_eq_true rfl) rfl ?_
          refine fw_goto C 37 dX10_freeTill_69 (by decide) ?_
          refine fw_sub [2, 3, 4, 1, 0] rfl ?_
          exact ih h kx
set_option maxRecDepth 100000 in
def f_X10_freeTill (S : List fw_Sh) (M : fw_Mem) (a0 : Nat) (x1 : Int32) : Option (Int32 × fw_Mem) := gd (gO S 10 a0) (bm (fw_set M a0 6 0) (fun M2 => b1 (f_X10_isSuit S M2 a0 x1) (fun v3 => if v3 = 0 then (b2 (f_X10_fail S M2 a0 1) (fun v15 M15 => some (v15, M15))) else (b1 (f_X10_layBound S M2 a0) (fun M5 => b1 (f_X10_of S M5 a0 x1 2) (fun v6 => b1 (lf_X10_freeTill_37 S a0 x1 v6 20000 (-1) 9999 M5) (fun l13 => b1 (f_X10_put S l13.2 a0 x1 2 v6) (fun M14 => some (l13.1, M14)))))))))
set_option maxHeartbeats 4000000 in
set_option maxRecDepth 100000 in
theorem c_X10_freeTill {l : Launch} {G : fw_G} {S : List fw_Sh} {M : fw_Mem} {a0 : Nat} {x1 : Int32} {r : (Int32 × fw_Mem)} (hl : l.stackTraces = false) (h : f_X10_freeTill S M a0 x1 = some r) : fw_M l G yX10_freeTill (.code yX10_freeTill cX10_freeTill 5 (some .int)) 6 (fw_mcO (.inl (some (.int r.1)), S, r.2)) (fw_msO (.inl (some (.int r.1)), S, r.2)) S M [.ref a0, .int x1] (.inl (some (.int r.1)), S, r.2) := by
  refine fw_of [(0, .ref a0), (1, .int x1)] (by decide) (Nat.le_of_ble_eq_true rfl) rfl ?_
  intro p e s m args below meth c C hr hlk hnm ht _
  unfold f_X10_freeTill at h
  refine fw_aload_n C 0 dX10_freeTill_0 rfl rfl ?_
  refine fw_iconst C 0 dX10_freeTill_1 rfl ?_
  obtain ⟨g1, h⟩ := gd_some h
  refine fw_putI C 10 6 (Nat.le_of_ble_eq_true rfl) (Nat.le_of_ble_eq_true rfl) wf_X10_51 rfl rfl rfl rfl (gO_of g1) dX10_freeTill_2 ?_
  refine fw_bm h (fun M2 h => ?_)
  refine fw_aload_n C 0 dX10_freeTill_5 rfl rfl ?_
  refine fw_iload_n C 1 dX10_freeTill_6 rfl rfl ?_
  obtain ⟨v3, e3, h⟩ := b1_some h
  refine fw_callV (ci := 10) [_] C (c_X10_isSuit hl e3) cal_X10_isSuit wm_X10_177 wi_yX10_isSuit wsl_yX10_isSuit (Nat.le_of_ble_eq_true rfl) rfl (gO_of g1) rfl (Nat.le_of_ble_eq_true rfl) ⟨Nat.le_of_ble_eq_true rfl, Nat.le_of_ble_eq_true rfl⟩ ⟨Nat.zero_le _, Nat.zero_le _⟩ dX10_freeTill_7 ?_
  refine fw_if_ne C 19 dX10_freeTill_10 (by decide) (fun c4 => ?_) (fun c4 => ?_)
  · replace h := (if_neg c4).symm.trans h
    refine fw_aload_n C 0 dX10_freeTill_19 rfl rfl ?_
    obtain ⟨M5, e5, h⟩ := b1_some h
    refine fw_callV (ci := 10) [] C (c_X10_layBound hl e5) cal_X10_layBound wm_X10_152 wi_yX10_layBound wsl_yX10_layBound (Nat.le_of_ble_eq_true rfl) rfl (gO_of g1) rfl (Nat.le_of_ble_eq_true rfl) ⟨Nat.le_of_ble_eq_true rfl, Nat.le_of_ble_eq_true rfl⟩ ⟨Nat.zero_le _, Nat.zero_le _⟩ dX10_freeTill_20 ?_
    refine fw_aload_n C 0 dX10_freeTill_23 rfl rfl ?_
    refine fw_iload_n C 1 dX10_freeTill_24 rfl rfl ?_
    refine fw_iconst C 2 dX10_freeTill_25 rfl ?_
    obtain ⟨v6, e6, h⟩ := b1_some h
    refine fw_callV (ci := 10) [_, _] C (c_X10_of hl e6) cal_X10_of wm_X10_65 wi_yX10_of wsl_yX10_of (Nat.le_of_ble_eq_true rfl) rfl (gO_of g1) rfl (Nat.le_of_ble_eq_true rfl) ⟨Nat.le_of_ble_eq_true rfl, Nat.le_of_ble_eq_true rfl⟩ ⟨Nat.zero_le _, Nat.zero_le _⟩ dX10_freeTill_26 ?_
    refine fw_istore_n C [(2, _), (0, _), (1, _)] dX10_freeTill_29 rfl (Nat.le_of_ble_eq_true rfl) rfl ?_
    refine fw_iconst C (-1) dX10_freeTill_30 rfl ?_
    refine fw_istore_n C [(3, _), (2, _), (0, _), (1, _)] dX10_freeTill_31 rfl (Nat.le_of_ble_eq_true rfl) rfl ?_
    refine fw_sipush C 9999 dX10_freeTill_32 rfl ?_
    refine fw_istore C [(4, _), (3, _), (2, _), (0, _), (1, _)] dX10_freeTill_35 (Nat.le_of_ble_eq_true rfl) rfl ?_
    refine fw_sub [3, 4, 2, 1, 0] rfl ?_
    obtain ⟨l13, e13, h⟩ := b1_some h
    refine lc_X10_freeTill_37 C hr hlk hl ht e13 ?_
    refine fw_aload_n C 0 dX10_freeTill_72 rfl rfl ?_
    refine fw_iload_n C 1 dX10_freeTill_73 rfl rfl ?_
    refine fw_iconst C 2 dX10_freeTill_74 rfl ?_
    refine fw_iload_n C 2 dX10_freeTill_75 rfl rfl ?_
    obtain ⟨M14, e14, h⟩ := b1_some h
    refine fw_callV (ci := 10) [_, _, _] C (c_X10_put hl e14) cal_X10_put wm_X10_205 wi_yX10_put wsl_yX10_put (Nat.le_of_ble_eq_true rfl) rfl (gO_of g1) rfl (Nat.le_of_ble_eq_true rfl) ⟨Nat.le_of_ble_eq_true rfl, Nat.le_of_ble_eq_true rfl⟩ ⟨Nat.zero_le _, Nat.zero_le _⟩ dX10_freeTill_76 ?_
    refine fw_iload_n C 3 dX10_freeTill_79 rfl rfl ?_
    obtain rfl := Option.some.inj h
    exact fw_iret C hr hlk dX10_freeTill_80
  · replace h := (if_pos c4).symm.trans h
    refine fw_aload_n C 0 dX10_freeTill_13 rfl rfl ?_
    refine fw_iconst C 1 dX10_freeTill_14 rfl ?_
    obtain ⟨v15, M15, e15, h⟩ := b2_some h
    refine fw_callV (ci := 10) [_] C (c_X10_fail hl e15) cal_X10_fail wm_X10_171 wi_yX10_fail wsl_yX10_fail (Nat.le_of_ble_eq_true rfl) rfl (gO_of g1) rfl (Nat.le_of_ble_eq_true rfl) ⟨Nat.le_of_ble_eq_true rfl, Nat.le_of_ble_eq_true rfl⟩ ⟨Nat.zero_le _, Nat.zero_le _⟩ dX10_freeTill_15 ?_
    obtain rfl := Option.some.inj h
    exact fw_iret C hr hlk dX10_freeTill_18
set_option maxRecDepth 100000 in
def f_X10_writes (S : List fw_Sh) (M : fw_Mem) (a0 : Nat) (x1 : Int32) : Option fw_Mem := gd (gO S 10 a0) (gd (gN (M a0 12)) (gd (gA S 0 ((M a0 12).toNatClampNeg) (M a0 13)) (bm (fw_set M ((M a0 12).toNatClampNeg) (M a0 13).toNatClampNeg x1) (fun M4 => bm (fw_set M4 a0 13 ((M4 a0 13) + 1)) (fun M5 => some M5)))))
set_option maxHeartbeats 4000000 in
set_option maxRecDepth 100000 in
theorem c_X10_writes {l : Launch} {G : fw_G} {S : List fw_Sh} {M : fw_Mem} {a0 : Nat} {x1 : Int32} {r : fw_Mem} (hl : l.stackTraces = false) (h : f_X10_writes S M a0 x1 = some r) : fw_M l G yX10_writes (.code yX10_writes cX10_writes 2 none) 1 (fw_mcO (.inl none, S, r)) (fw_msO (.inl none, S, r)) S M [.ref a0, .int x1] (.inl none, S, r) := by
  refine fw_of [(0, .ref a0), (1, .int x1)] (by decide) (Nat.le_of_ble_eq_true rfl) rfl ?_
  intro p e s m args below meth c C hr hlk hnm ht _
  unfold f_X10_writes at h
  refine fw_aload_n C 0 dX10_writes_0 rfl rfl ?_
  obtain ⟨g1, h⟩ := gd_some h
  obtain ⟨g2, h⟩ := gd_some h
  refine fw_getR C 10 12 (Nat.le_of_ble_eq_true rfl) (Nat.le_of_ble_eq_true rfl) wf_X10_37 rfl (gO_of g1) (gN_of g2) dX10_writes_1 ?_
  refine fw_aload_n C 0 dX10_writes_4 rfl rfl ?_
  refine fw_getI C 10 13 (Nat.le_of_ble_eq_true rfl) (Nat.le_of_ble_eq_true rfl) wf_X10_216 rfl (gO_of g1) dX10_writes_5 ?_
  refine fw_iload_n C 1 dX10_writes_8 rfl rfl ?_
  obtain ⟨g3, h⟩ := gd_some h
  refine fw_iast C (gA_of g3) dX10_writes_9 ?_
  refine fw_bm h (fun M4 h => ?_)
  refine fw_aload_n C 0 dX10_writes_10 rfl rfl ?_
  refine fw_dup C dX10_writes_11 rfl ?_
  refine fw_getI C 10 13 (Nat.le_of_ble_eq_true rfl) (Nat.le_of_ble_eq_true rfl) wf_X10_216 rfl (gO_of g1) dX10_writes_12 ?_
  refine fw_iconst C 1 dX10_writes_15 rfl ?_
  refine fw_iadd C dX10_writes_16 ?_
  refine fw_putI C 10 13 (Nat.le_of_ble_eq_true rfl) (Nat.le_of_ble_eq_true rfl) wf_X10_216 rfl rfl rfl rfl (gO_of g1) dX10_writes_17 ?_
  refine fw_bm h (fun M5 h => ?_)
  obtain rfl := Option.some.inj h
  exact fw_vret C hr hlk dX10_writes_20
set_option maxRecDepth 100000 in
def f_X10_writesNumber (S : List fw_Sh) (M : fw_Mem) (a0 : Nat) (x1 : Int32) : Option fw_Mem := if x1 ≤ 9 then (gd (gO S 10 a0) (b1 (f_X10_writes S M a0 ((48 : Int32) + (x1 - x1 / 10 * 10))) (fun M2 => some M2))) else (gd (gO S 10 a0) (b1 (f_X10_writes S M a0 ((48 : Int32) + (x1 / 10))) (fun M4 => b1 (f_X10_writes S M4 a0 ((48 : Int32) + (x1 - x1 / 10 * 10))) (fun M6 => some M6))))
set_option maxHeartbeats 4000000 in
set_option maxRecDepth 100000 in
theorem c_X10_writesNumber {l : Launch} {G : fw_G} {S : List fw_Sh} {M : fw_Mem} {a0 : Nat} {x1 : Int32} {r : fw_Mem} (hl : l.stackTraces = false) (h : f_X10_writesNumber S M a0 x1 = some r) : fw_M l G yX10_writesNumber (.code yX10_writesNumber cX10_writesNumber 2 none) 2 (fw_mcO (.inl none, S, r)) (fw_msO (.inl none, S, r)) S M [.ref a0, .int x1] (.inl none, S, r) := by
  refine fw_of [(0, .ref a0), (1, .int x1)] (by decide) (Nat.le_of_ble_eq_true rfl) rfl ?_
  intro p e s m args below meth c C hr hlk hnm ht _
  unfold f_X10_writesNumber at h
  refine fw_iload_n C 1 dX10_writesNumber_0 rfl rfl ?_
  refine fw_bipush C 9 dX10_writesNumber_1 rfl ?_
  refine fw_icmp_le C 17 dX10_writesNumber_3 (by decide) (fun c1 => ?_) (fun c1 => ?_)
  · replace h := (if_pos c1).symm.trans h
    refine fw_aload_n C 0 dX10_writesNumber_17 rfl rfl ?_
    refine fw_bipush C 48 dX10_writesNumber_18 rfl ?_
    refine fw_iload_n C 1 dX10_writesNumber_20 rfl rfl ?_
    refine fw_bipush C 10 dX10_writesNumber_21 rfl ?_
    refine fw_irem C dX10_writesNumber_23 (by decide) ?_
    refine fw_iadd C dX10_writesNumber_24 ?_
    obtain ⟨g3, h⟩ := gd_some h
    obtain ⟨M2, e2, h⟩ := b1_some h
    refine fw_callV (ci := 10) [_] C (c_X10_writes hl e2) cal_X10_writes wm_X10_219 wi_yX10_writes wsl_yX10_writes (Nat.le_of_ble_eq_true rfl) rfl (gO_of g3) rfl (Nat.le_of_ble_eq_true rfl) ⟨Nat.le_of_ble_eq_true rfl, Nat.le_of_ble_eq_true rfl⟩ ⟨Nat.zero_le _, Nat.zero_le _⟩ dX10_writesNumber_25 ?_
    obtain rfl := Option.some.inj h
    exact fw_vret C hr hlk dX10_writesNumber_28
  · replace h := (if_neg c1).symm.trans h
    refine fw_aload_n C 0 dX10_writesNumber_6 rfl rfl ?_
    refine fw_bipush C 48 dX10_writesNumber_7 rfl ?_
    refine fw_iload_n C 1 dX10_writesNumber_9 rfl rfl ?_
    refine fw_bipush C 10 dX10_writesNumber_10 rfl ?_
    refine fw_idiv C dX10_writesNumber_12 (by decide) ?_
    refine fw_iadd C dX10_writesNumber_13 ?_
    obtain ⟨g5, h⟩ := gd_some h
    obtain ⟨M4, e4, h⟩ := b1_some h
    refine fw_callV (ci := 10) [_] C (c_X10_writes hl e4) cal_X10_writes wm_X10_219 wi_yX10_writes wsl_yX10_writes (Nat.le_of_ble_eq_true rfl) rfl (gO_of g5) rfl (Nat.le_of_ble_eq_true rfl) ⟨Nat.le_of_ble_eq_true rfl, Nat.le_of_ble_eq_true rfl⟩ ⟨Nat.zero_le _, Nat.zero_le _⟩ dX10_writesNumber_14 ?_
    refine fw_aload_n C 0 dX10_writesNumber_17 rfl rfl ?_
    refine fw_bipush C 48 dX10_writesNumber_18 rfl ?_
    refine fw_iload_n C 1 dX10_writesNumber_20 rfl rfl ?_
    refine fw_bipush C 10 dX10_writesNumber_21 rfl ?_
    refine fw_irem C dX10_writesNumber_23 (by decide) ?_
    refine fw_iadd C dX10_writesNumber_24 ?_
    obtain ⟨M6, e6, h⟩ := b1_some h
    refine fw_callV (ci := 10) [_] C (c_X10_writes hl e6) cal_X10_writes wm_X10_219 wi_yX10_writes wsl_yX10_writes (Nat.le_of_ble_eq_true rfl) rfl (gO_of g5) rfl (Nat.le_of_ble_eq_true rfl) ⟨Nat.le_of_ble_eq_true rfl, Nat.le_of_ble_eq_true rfl⟩ ⟨Nat.zero_le _, Nat.zero_le _⟩ dX10_writesNumber_25 ?_
    obtain rfl := Option.some.inj h
    exact fw_vret C hr hlk dX10_writesNumber_28
set_option maxRecDepth 100000 in
def lf_X10_say_43 (S : List fw_Sh) (a0 : Nat) (x1 : Int32) (x2 : Int32) (x3 : Int32) : Nat → Int32 → fw_Mem → Option (fw_Mem)
  | 0, _, _ => none
  | n + 1, x4, M => if (31 : Int32) ≤ x4 then (some M) else (b1 (f_X10_has S M x2 x4) (fun v10 => if v10 = 0 then (lf_X10_say_43 S a0 x1 x2 x3 n (x4 + 1) M) else (gd (gO S 10 a0) (if (M a0 13) ≤ 0 then (b1 (f_X10_writesNumber S M a0 x4) (fun M14 => b1 (f_X10_has S M14 x3 x4) (fun v15 => if v15 = 0 then (b1 (f_X10_writes S M14 a0 110) (fun M17 => b1 (f_X10_writes S M17 a0 64) (fun M18 => b1 (f_X10_holderOf S M18 a0 x1 x4) (fun v19 => b1 (f_X10_writesNumber S M18 a0 v19) (fun M20 => lf_X10_say_43 S a0 x1 x2 x3 n (x4 + 1) M20))))) else (b1 (f_X10_writes S M14 a0 121) (fun M21 => b1 (f_X10_writes S M21 a0 64) (fun M22 => b1 (f_X10_holderOf S M22 a0 x1 x4) (fun v23 => b1 (f_X10_writesNumber S M22 a0 v23) (fun M24 => lf_X10_say_43 S a0 x1 x2 x3 n (x4 + 1) M24)))))))) else (b1 (f_X10_writes S M a0 44) (fun M25 => b1 (f_X10_writesNumber S M25 a0 x4) (fun M26 => b1 (f_X10_has S M26 x3 x4) (fun v27 => if v27 = 0 then (b1 (f_X10_writes S M26 a0 110) (fun M29 => b1 (f_X10_writes S M29 a0 64) (fun M30 => b1 (f_X10_holderOf S M30 a0 x1 x4) (fun v31 => b1 (f_X10_writesNumber S M30 a0 v31) (fun M32 => lf_X10_say_43 S a0 x1 x2 x3 n (x4 + 1) M32))))) else (b1 (f_X10_writes S M26 a0 121) (fun M33 => b1 (f_X10_writes S M33 a0 64) (fun M34 => b1 (f_X10_holderOf S M34 a0 x1 x4) (fun v35 => b1 (f_X10_writesNumber S M34 a0 v35) (fun M36 => lf_X10_say_43 S a0 x1 x2 x3 n (x4 + 1) M36)))))))))))))
set_option maxHeartbeats 4000000 in
set_option maxRecDepth 100000 in
theorem lc_X10_say_43 {G : fw_G} {p : Program} {l : Launch} {e : Env} {s : State} {m : MethodId} {args : Array Value} {below : List Frame} {meth : Method} {c : Code} {S : List fw_Sh} {o : fw_O} {a0 : Nat} {x1 : Int32} {x2 : Int32} {x3 : Int32} (C : fw_C G RX10 cX10_say 5 p s m args c) (hr : meth.sig.returnType = (some .int)) (hlk : meth.locks = false) (hl : l.stackTraces = false) (ht : ∀ x ∈ c.exceptionTable.toList, False) :
    ∀ {n : Nat} {x4 : Int32} {M : fw_Mem} {r : (fw_Mem)} (h : lf_X10_say_43 S a0 x1 x2 x3 n x4 M = some r) (kx : fw_W G p l e (fw_rm 11 (fw_mcO o) (fw_msO o)) s m args below meth c 5 (fw_Z G below args s (fw_mcO o) (fw_msO o) o) 0 0 124 [(0, .ref a0), (1, .int x1)] [] S r), fw_W G p l e (fw_rm 11 (fw_mcO o) (fw_msO o)) s m args below meth c 5 (fw_Z G below args s (fw_mcO o) (fw_msO o) o) 0 0 43 [(0, .ref a0), (1, .int x1), (2, .int x2), (3, .int x3), (4, .int x4)] [] S M := by
  intro n
  induction n with
  | zero =>
    intro x4 M r h
    exact nomatch (show (none : Option (fw_Mem)) = some r from h)
  | succ n ih =>
    intro x4 M r h kx
    rw [lf_X10_say_43.eq_2] at h
    refine fw_iload C 4 dX10_say_43 rfl ?_
    refine fw_bipush C 31 dX10_say_45 rfl ?_
    refine fw_icmp_ge C 124 dX10_say_47 (by decide) (fun c9 => ?_) (fun c9 => ?_)
    · replace h := (if_pos c9).symm.trans h
      obtain rfl := Option.some.inj h
      refine fw_sub [0, 1] rfl ?_
      exact kx
    · replace h := (if_neg c9).symm.trans h
      refine fw_iload_n C 2 dX10_say_50 rfl rfl ?_
      refine fw_iload C 4 dX10_say_51 rfl ?_
      obtain ⟨v10, e10, h⟩ := b1_some h
      refine fw_callS [_, _] C (c_X10_has hl e10) cal_X10_has wm_X10_98 wt_yX10_has rfl (Nat.le_of_ble_eq_true rfl) ⟨Nat.le_of_ble_eq_true rfl, Nat.le_of_ble_eq_true rfl⟩ ⟨Nat.zero_le _, Nat.zero_le _⟩ dX10_say_53 ?_
      refine fw_if_ne C 62 dX10_say_56 (by decide) (fun c11 => ?_) (fun c11 => ?_)
      · replace h := (if_neg c11).symm.trans h
        refine fw_aload_n C 0 dX10_say_62 rfl rfl ?_
        obtain ⟨g12, h⟩ := gd_some h
        refine fw_getI C 10 13 (Nat.le_of_ble_eq_true rfl) (Nat.le_of_ble_eq_true rfl) wf_X10_216 rfl (gO_of g12) dX10_say_63 ?_
        refine fw_if_le C 75 dX10_say_66 (by decide) (fun c13 => ?_) (fun c13 => ?_)
        · replace h := (if_pos c13).symm.trans h
          refine fw_aload_n C 0 dX10_say_75 rfl rfl ?_
          refine fw_iload C 4 dX10_say_76 rfl ?_
          obtain ⟨M14, e14, h⟩ := b1_some h
          refine fw_callV (ci := 10) [_] C (c_X10_writesNumber hl e14) cal_X10_writesNumber wm_X10_223 wi_yX10_writesNumber wsl_yX10_writesNumber (Nat.le_of_ble_eq_true rfl) rfl (gO_of g12) rfl (Nat.le_of_ble_eq_true rfl) ⟨Nat.le_of_ble_eq_true rfl, Nat.le_of_ble_eq_true rfl⟩ ⟨Nat.zero_le _, Nat.zero_le _⟩ dX10_say_78 ?_
          refine fw_aload_n C 0 dX10_say_81 rfl rfl ?_
          refine fw_iload_n C 3 dX10_say_82 rfl rfl ?_
          refine fw_iload C 4 dX10_say_83 rfl ?_
          obtain ⟨v15, e15, h⟩ := b1_some h
          refine fw_callS [_, _] C (c_X10_has hl e15) cal_X10_has wm_X10_98 wt_yX10_has rfl (Nat.le_of_ble_eq_true rfl) ⟨Nat.le_of_ble_eq_true rfl, Nat.le_of_ble_eq_true rfl⟩ ⟨Nat.zero_le _, Nat.zero_le _⟩ dX10_say_85 ?_
          refine fw_if_eq C 96 dX10_say_88 (by decide) (fun c16 => ?_) (fun c16 => ?_)
          · replace h := (if_pos c16).symm.trans h
            refine fw_bipush C 110 dX10_say_96 rfl ?_
            obtain ⟨M17, e17, h⟩ := b1_some h
            refine fw_callV (ci := 10) [_] C (c_X10_writes hl e17) cal_X10_writes wm_X10_219 wi_yX10_writes wsl_yX10_writes (Nat.le_of_ble_eq_true rfl) rfl (gO_of g12) rfl (Nat.le_of_ble_eq_true rfl) ⟨Nat.le_of_ble_eq_true rfl, Nat.le_of_ble_eq_true rfl⟩ ⟨Nat.zero_le _, Nat.zero_le _⟩ dX10_say_98 ?_
            refine fw_aload_n C 0 dX10_say_101 rfl rfl ?_
            refine fw_bipush C 64 dX10_say_102 rfl ?_
            obtain ⟨M18, e18, h⟩ := b1_some h
            refine fw_callV (ci := 10) [_] C (c_X10_writes hl e18) cal_X10_writes wm_X10_219 wi_yX10_writes wsl_yX10_writes (Nat.le_of_ble_eq_true rfl) rfl (gO_of g12) rfl (Nat.le_of_ble_eq_true rfl) ⟨Nat.le_of_ble_eq_true rfl, Nat.le_of_ble_eq_true rfl⟩ ⟨Nat.zero_le _, Nat.zero_le _⟩ dX10_say_104 ?_
            refine fw_aload_n C 0 dX10_say_107 rfl rfl ?_
            refine fw_aload_n C 0 dX10_say_108 rfl rfl ?_
            refine fw_iload_n C 1 dX10_say_109 rfl rfl ?_
            refine fw_iload C 4 dX10_say_110 rfl ?_
            obtain ⟨v19, e19, h⟩ := b1_some h
            refine fw_callV (ci := 10) [_, _] C (c_X10_holderOf hl e19) cal_X10_holderOf wm_X10_140 wi_yX10_holderOf wsl_yX10_holderOf (Nat.le_of_ble_eq_true rfl) rfl (gO_of g12) rfl (Nat.le_of_ble_eq_true rfl) ⟨Nat.le_of_ble_eq_true rfl, Nat.le_of_ble_eq_true rfl⟩ ⟨Nat.zero_le _, Nat.zero_le _⟩ dX10_say_112 ?_
            obtain ⟨M20, e20, h⟩ := b1_some h
            refine fw_callV (ci := 10) [_] C (c_X10_writesNumber hl e20) cal_X10_writesNumber wm_X10_223 wi_yX10_writesNumber wsl_yX10_writesNumber (Nat.le_of_ble_eq_true rfl) rfl (gO_of g12) rfl (Nat.le_of_ble_eq_true rfl) ⟨Nat.le_of_ble_eq_true rfl, Nat.le_of_ble_eq_true rfl⟩ ⟨Nat.zero_le _, Nat.zero_le _⟩ dX10_say_115 ?_
            refine fw_iinc C _ 4 [(4, _), (0, _), (1, _), (2, _), (3, _)] dX10_say_118 rfl rfl (Nat.le_of_ble_eq_true rfl) rfl ?_
            refine fw_goto C 43 dX10_say_121 (by decide) ?_
            refine fw_sub [1, 2, 3, 4, 0] rfl ?_
            exact ih h kx
          · replace h := (if_neg c16).symm.trans h
            refine fw_bipush C 121 dX10_say_91 rfl ?_
            refine fw_goto C 98 dX10_say_93 (by decide) ?_
            obtain ⟨M21, e21, h⟩ := b1_some h
            refine fw_callV (ci := 10) [_] C (c_X10_writes hl e21) cal_X10_writes wm_X10_219 wi_yX10_writes wsl_yX10_writes (Nat.le_of_ble_eq_true rfl) rfl (gO_of g12) rfl (Nat.le_of_ble_eq_true rfl) ⟨Nat.le_of_ble_eq_true rfl, Nat.le_of_ble_eq_true rfl⟩ ⟨Nat.zero_le _, Nat.zero_le _⟩ dX10_say_98 ?_
            refine fw_aload_n C 0 dX10_say_101 rfl rfl ?_
            refine fw_bipush C 64 dX10_say_102 rfl ?_
            obtain ⟨M22, e22, h⟩ := b1_some h
            refine fw_callV (ci := 10) [_] C (c_X10_writes hl e22) cal_X10_writes wm_X10_219 wi_yX10_writes wsl_yX10_writes (Nat.le_of_ble_eq_true rfl) rfl (gO_of g12) rfl (Nat.le_of_ble_eq_true rfl) ⟨Nat.le_of_ble_eq_true rfl, Nat.le_of_ble_eq_true rfl⟩ ⟨Nat.zero_le _, Nat.zero_le _⟩ dX10_say_104 ?_
            refine fw_aload_n C 0 dX10_say_107 rfl rfl ?_
            refine fw_aload_n C 0 dX10_say_108 rfl rfl ?_
            refine fw_iload_n C 1 dX10_say_109 rfl rfl ?_
            refine fw_iload C 4 dX10_say_110 rfl ?_
            obtain ⟨v23, e23, h⟩ := b1_some h
            refine fw_callV (ci := 10) [_, _] C (c_X10_holderOf hl e23) cal_X10_holderOf wm_X10_140 wi_yX10_holderOf wsl_yX10_holderOf (Nat.le_of_ble_eq_true rfl) rfl (gO_of g12) rfl (Nat.le_of_ble_eq_true rfl) ⟨Nat.le_of_ble_eq_true rfl, Nat.le_of_ble_eq_true rfl⟩ ⟨Nat.zero_le _, Nat.zero_le _⟩ dX10_say_112 ?_
            obtain ⟨M24, e24, h⟩ := b1_some h
            refine fw_callV (ci := 10) [_] C (c_X10_writesNumber hl e24) cal_X10_writesNumber wm_X10_223 wi_yX10_writesNumber wsl_yX10_writesNumber (Nat.le_of_ble_eq_true rfl) rfl (gO_of g12) rfl (Nat.le_of_ble_eq_true rfl) ⟨Nat.le_of_ble_eq_true rfl, Nat.le_of_ble_eq_true rfl⟩ ⟨Nat.zero_le _, Nat.zero_le _⟩ dX10_say_115 ?_
            refine fw_iinc C _ 4 [(4, _), (0, _), (1, _), (2, _), (3, _)] dX10_say_118 rfl rfl (Nat.le_of_ble_eq_true rfl) rfl ?_
            refine fw_goto C 43 dX10_say_121 (by decide) ?_
            refine fw_sub [1, 2, 3, 4, 0] rfl ?_
            exact ih h kx
        · replace h := (if_neg c13).symm.trans h
          refine fw_aload_n C 0 dX10_say_69 rfl rfl ?_
          refine fw_bipush C 44 dX10_say_70 rfl ?_
          obtain ⟨M25, e25, h⟩ := b1_some h
          refine fw_callV (ci := 10) [_] C (c_X10_writes hl e25) cal_X10_writes wm_X10_219 wi_yX10_writes wsl_yX10_writes (Nat.le_of_ble_eq_true rfl) rfl (gO_of g12) rfl (Nat.le_of_ble_eq_true rfl) ⟨Nat.le_of_ble_eq_true rfl, Nat.le_of_ble_eq_true rfl⟩ ⟨Nat.zero_le _, Nat.zero_le _⟩ dX10_say_72 ?_
          refine fw_aload_n C 0 dX10_say_75 rfl rfl ?_
          refine fw_iload C 4 dX10_say_76 rfl ?_
          obtain ⟨M26, e26, h⟩ := b1_some h
          refine fw_callV (ci := 10) [_] C (c_X10_writesNumber hl e26) cal_X10_writesNumber wm_X10_223 wi_yX10_writesNumber wsl_yX10_writesNumber (Nat.le_of_ble_eq_true rfl) rfl (gO_of g12) rfl (Nat.le_of_ble_eq_true rfl) ⟨Nat.le_of_ble_eq_true rfl, Nat.le_of_ble_eq_true rfl⟩ ⟨Nat.zero_le _, Nat.zero_le _⟩ dX10_say_78 ?_
          refine fw_aload_n C 0 dX10_say_81 rfl rfl ?_
          refine fw_iload_n C 3 dX10_say_82 rfl rfl ?_
          refine fw_iload C 4 dX10_say_83 rfl ?_
          obtain ⟨v27, e27, h⟩ := b1_some h
          refine fw_callS [_, _] C (c_X10_has hl e27) cal_X10_has wm_X10_98 wt_yX10_has rfl (Nat.le_of_ble_eq_true rfl) ⟨Nat.le_of_ble_eq_true rfl, Nat.le_of_ble_eq_true rfl⟩ ⟨Nat.zero_le _, Nat.zero_le _⟩ dX10_say_85 ?_
          refine fw_if_eq C 96 dX10_say_88 (by decide) (fun c28 => ?_) (fun c28 => ?_)
          · replace h := (if_pos c28).symm.trans h
            refine fw_bipush C 110 dX10_say_96 rfl ?_
            obtain ⟨M29, e29, h⟩ := b1_some h
            refine fw_callV (ci := 10) [_] C (c_X10_writes hl e29) cal_X10_writes wm_X10_219 wi_yX10_writes wsl_yX10_writes (Nat.le_of_ble_eq_true rfl) rfl (gO_of g12) rfl (Nat.le_of_ble_eq_true rfl) ⟨Nat.le_of_ble_eq_true rfl, Nat.le_of_ble_eq_true rfl⟩ ⟨Nat.zero_le _, Nat.zero_le _⟩ dX10_say_98 ?_
            refine fw_aload_n C 0 dX10_say_101 rfl rfl ?_
            refine fw_bipush C 64 dX10_say_102 rfl ?_
            obtain ⟨M30, e30, h⟩ := b1_some h
            refine fw_callV (ci := 10) [_] C (c_X10_writes hl e30) cal_X10_writes wm_X10_219 wi_yX10_writes wsl_yX10_writes (Nat.le_of_ble_eq_true rfl) rfl (gO_of g12) rfl (Nat.le_of_ble_eq_true rfl) ⟨Nat.le_of_ble_eq_true rfl, Nat.le_of_ble_eq_true rfl⟩ ⟨Nat.zero_le _, Nat.zero_le _⟩ dX10_say_104 ?_
            refine fw_aload_n C 0 dX10_say_107 rfl rfl ?_
            refine fw_aload_n C 0 dX10_say_108 rfl rfl ?_
            refine fw_iload_n C 1 dX10_say_109 rfl rfl ?_
            refine fw_iload C 4 dX10_say_110 rfl ?_
            obtain ⟨v31, e31, h⟩ := b1_some h
            refine fw_callV (ci := 10) [_, _] C (c_X10_holderOf hl e31) cal_X10_holderOf wm_X10_140 wi_yX10_holderOf wsl_yX10_holderOf (Nat.le_of_ble_eq_true rfl) rfl (gO_of g12) rfl (Nat.le_of_ble_eq_true rfl) ⟨Nat.le_of_ble_eq_true rfl, Nat.le_of_ble_eq_true rfl⟩ ⟨Nat.zero_le _, Nat.zero_le _⟩ dX10_say_112 ?_
            obtain ⟨M32, e32, h⟩ := b1_some h
            refine fw_callV (ci := 10) [_] C (c_X10_writesNumber hl e32) cal_X10_writesNumber wm_X10_223 wi_yX10_writesNumber wsl_yX10_writesNumber (Nat.le_of_ble_eq_true rfl) rfl (gO_of g12) rfl (Nat.le_of_ble_eq_true rfl) ⟨Nat.le_of_ble_eq_true rfl, Nat.le_of_ble_eq_true rfl⟩ ⟨Nat.zero_le _, Nat.zero_le _⟩ dX10_say_115 ?_
            refine fw_iinc C _ 4 [(4, _), (0, _), (1, _), (2, _), (3, _)] dX10_say_118 rfl rfl (Nat.le_of_ble_eq_true rfl) rfl ?_
            refine fw_goto C 43 dX10_say_121 (by decide) ?_
            refine fw_sub [1, 2, 3, 4, 0] rfl ?_
            exact ih h kx
          · replace h := (if_neg c28).symm.trans h
            refine fw_bipush C 121 dX10_say_91 rfl ?_
            refine fw_goto C 98 dX10_say_93 (by decide) ?_
            obtain ⟨M33, e33, h⟩ := b1_some h
            refine fw_callV (ci := 10) [_] C (c_X10_writes hl e33) cal_X10_writes wm_X10_219 wi_yX10_writes wsl_yX10_writes (Nat.le_of_ble_eq_true rfl) rfl (gO_of g12) rfl (Nat.le_of_ble_eq_true rfl) ⟨Nat.le_of_ble_eq_true rfl, Nat.le_of_ble_eq_true rfl⟩ ⟨Nat.zero_le _, Nat.zero_le _⟩ dX10_say_98 ?_
            refine fw_aload_n C 0 dX10_say_101 rfl rfl ?_
            refine fw_bipush C 64 dX10_say_102 rfl ?_
            obtain ⟨M34, e34, h⟩ := b1_some h
            refine fw_callV (ci := 10) [_] C (c_X10_writes hl e34) cal_X10_writes wm_X10_219 wi_yX10_writes wsl_yX10_writes (Nat.le_of_ble_eq_true rfl) rfl (gO_of g12) rfl (Nat.le_of_ble_eq_true rfl) ⟨Nat.le_of_ble_eq_true rfl, Nat.le_of_ble_eq_true rfl⟩ ⟨Nat.zero_le _, Nat.zero_le _⟩ dX10_say_104 ?_
            refine fw_aload_n C 0 dX10_say_107 rfl rfl ?_
            refine fw_aload_n C 0 dX10_say_108 rfl rfl ?_
            refine fw_iload_n C 1 dX10_say_109 rfl rfl ?_
            refine fw_iload C 4 dX10_say_110 rfl ?_
            obtain ⟨v35, e35, h⟩ := b1_some h
            refine fw_callV (ci := 10) [_, _] C (c_X10_holderOf hl e35) cal_X10_holderOf wm_X10_140 wi_yX10_holderOf wsl_yX10_holderOf (Nat.le_of_ble_eq_true rfl) rfl (gO_of g12) rfl (Nat.le_of_ble_eq_true rfl) ⟨Nat.le_of_ble_eq_true rfl, Nat.le_of_ble_eq_true rfl⟩ ⟨Nat.zero_le _, Nat.zero_le _⟩ dX10_say_112 ?_
            obtain ⟨M36, e36, h⟩ := b1_some h
            refine fw_callV (ci := 10) [_] C (c_X10_writesNumber hl e36) cal_X10_writesNumber wm_X10_223 wi_yX10_writesNumber wsl_yX10_writesNumber (Nat.le_of_ble_eq_true rfl) rfl (gO_of g12) rfl (Nat.le_of_ble_eq_true rfl) ⟨Nat.le_of_ble_eq_true rfl, Nat.le_of_ble_eq_true rfl⟩ ⟨Nat.zero_le _, Nat.zero_le _⟩ dX10_say_115 ?_
            refine fw_iinc C _ 4 [(4, _), (0, _), (1, _), (2, _), (3, _)] dX10_say_118 rfl rfl (Nat.le_of_ble_eq_true rfl) rfl ?_
            refine fw_goto C 43 dX10_say_121 (by decide) ?_
            refine fw_sub [1, 2, 3, 4, 0] rfl ?_
            exact ih h kx
      · replace h := (if_pos c11).symm.trans h
        refine fw_goto C 118 dX10_say_59 (by decide) ?_
        refine fw_iinc C _ 4 [(4, _), (0, _), (1, _), (2, _), (3, _)] dX10_say_118 rfl rfl (Nat.le_of_ble_eq_true rfl) rfl ?_
        refine fw_goto C 43 dX10_say_121 (by decide) ?_
        refine fw_sub [1, 2, 3, 4, 0] rfl ?_
        exact ih h kx
set_option maxRecDepth 100000 in
def f_X10_say (S : List fw_Sh) (M : fw_Mem) (a0 : Nat) (x1 : Int32) : Option (Int32 × fw_Mem) := gd (gO S 10 a0) (bm (fw_set M a0 6 0) (fun M2 => b1 (f_X10_isSuit S M2 a0 x1) (fun v3 => if v3 = 0 then (b2 (f_X10_fail S M2 a0 1) (fun v42 M42 => some (v42, M42))) else (b1 (f_X10_layBound S M2 a0) (fun M5 => bm (fw_set M5 a0 13 0) (fun M6 => b1 (f_X10_heldOf S M6 a0 x1) (fun v7 => b1 (f_X10_heldYesOf S M6 a0 x1) (fun v8 => b1 (lf_X10_say_43 S a0 x1 v7 v8 20000 0 M6) (fun l37 => b1 (f_X10_forcedOf S l37 a0 x1) (fun v38 => if v38 = (-1) then (some ((l37 a0 13), l37)) else (b1 (f_X10_writes S l37 a0 33) (fun M40 => b1 (f_X10_writesNumber S M40 a0 v38) (fun M41 => some ((M41 a0 13), M41))))))))))))))
set_option maxHeartbeats 4000000 in
set_option maxRecDepth 100000 in
theorem c_X10_say {l : Launch} {G : fw_G} {S : List fw_Sh} {M : fw_Mem} {a0 : Nat} {x1 : Int32} {r : (Int32 × fw_Mem)} (hl : l.stackTraces = false) (h : f_X10_say S M a0 x1 = some r) : fw_M l G yX10_say (.code yX10_say cX10_say 5 (some .int)) 11 (fw_mcO (.inl (some (.int r.1)), S, r.2)) (fw_msO (.inl (some (.int r.1)), S, r.2)) S M [.ref a0, .int x1] (.inl (some (.int r.1)), S, r.2) := by
  refine fw_of [(0, .ref a0), (1, .int x1)] (by decide) (Nat.le_of_ble_eq_true rfl) rfl ?_
  intro p e s m args below meth c C hr hlk hnm ht _
  unfold f_X10_say at h
  refine fw_aload_n C 0 dX10_say_0 rfl rfl ?_
  refine fw_iconst C 0 dX10_say_1 rfl ?_
  obtain ⟨g1, h⟩ := gd_some h
  refine fw_putI C 10 6 (Nat.le_of_ble_eq_true rfl) (Nat.le_of_ble_eq_true rfl) wf_X10_51 rfl rfl rfl rfl (gO_of g1) dX10_say_2 ?_
  refine fw_bm h (fun M2 h => ?_)
  refine fw_aload_n C 0 dX10_say_5 rfl rfl ?_
  refine fw_iload_n C 1 dX10_say_6 rfl rfl ?_
  obtain ⟨v3, e3, h⟩ := b1_some h
  refine fw_callV (ci := 10) [_] C (c_X10_isSuit hl e3) cal_X10_isSuit wm_X10_177 wi_yX10_isSuit wsl_yX10_isSuit (Nat.le_of_ble_eq_true rfl) rfl (gO_of g1) rfl (Nat.le_of_ble_eq_true rfl) ⟨Nat.le_of_ble_eq_true rfl, Nat.le_of_ble_eq_true rfl⟩ ⟨Nat.zero_le _, Nat.zero_le _⟩ dX10_say_7 ?_
  refine fw_if_ne C 19 dX10_say_10 (by decide) (fun c4 => ?_) (fun c4 => ?_)
  · replace h := (if_neg c4).symm.trans h
    refine fw_aload_n C 0 dX10_say_19 rfl rfl ?_
    obtain ⟨M5, e5, h⟩ := b1_some h
    refine fw_callV (ci := 10) [] C (c_X10_layBound hl e5) cal_X10_layBound wm_X10_152 wi_yX10_layBound wsl_yX10_layBound (Nat.le_of_ble_eq_true rfl) rfl (gO_of g1) rfl (Nat.le_of_ble_eq_true rfl) ⟨Nat.le_of_ble_eq_true rfl, Nat.le_of_ble_eq_true rfl⟩ ⟨Nat.zero_le _, Nat.zero_le _⟩ dX10_say_20 ?_
    refine fw_aload_n C 0 dX10_say_23 rfl rfl ?_
    refine fw_iconst C 0 dX10_say_24 rfl ?_
    refine fw_putI C 10 13 (Nat.le_of_ble_eq_true rfl) (Nat.le_of_ble_eq_true rfl) wf_X10_216 rfl rfl rfl rfl (gO_of g1) dX10_say_25 ?_
    refine fw_bm h (fun M6 h => ?_)
    refine fw_aload_n C 0 dX10_say_28 rfl rfl ?_
    refine fw_iload_n C 1 dX10_say_29 rfl rfl ?_
    obtain ⟨v7, e7, h⟩ := b1_some h
    refine fw_callV (ci := 10) [_] C (c_X10_heldOf hl e7) cal_X10_heldOf wm_X10_146 wi_yX10_heldOf wsl_yX10_heldOf (Nat.le_of_ble_eq_true rfl) rfl (gO_of g1) rfl (Nat.le_of_ble_eq_true rfl) ⟨Nat.le_of_ble_eq_true rfl, Nat.le_of_ble_eq_true rfl⟩ ⟨Nat.zero_le _, Nat.zero_le _⟩ dX10_say_30 ?_
    refine fw_istore_n C [(2, _), (0, _), (1, _)] dX10_say_33 rfl (Nat.le_of_ble_eq_true rfl) rfl ?_
    refine fw_aload_n C 1 dX10_say_34 rfl rfl ?_
    refine fw_iload_n C 2 dX10_say_35 rfl rfl ?_
    obtain ⟨v8, e8, h⟩ := b1_some h
    refine fw_callV (ci := 10) [_] C (c_X10_heldYesOf hl e8) cal_X10_heldYesOf wm_X10_149 wi_yX10_heldYesOf wsl_yX10_heldYesOf (Nat.le_of_ble_eq_true rfl) rfl (gO_of g1) rfl (Nat.le_of_ble_eq_true rfl) ⟨Nat.le_of_ble_eq_true rfl, Nat.le_of_ble_eq_true rfl⟩ ⟨Nat.zero_le _, Nat.zero_le _⟩ dX10_say_36 ?_
    refine fw_istore_n C [(3, _), (2, _), (0, _), (1, _)] dX10_say_39 rfl (Nat.le_of_ble_eq_true rfl) rfl ?_
    refine fw_iconst C 0 dX10_say_40 rfl ?_
    refine fw_istore C [(4, _), (3, _), (2, _), (0, _), (1, _)] dX10_say_41 (Nat.le_of_ble_eq_true rfl) rfl ?_
    refine fw_sub [3, 4, 2, 1, 0] rfl ?_
    obtain ⟨l37, e37, h⟩ := b1_some h
    refine lc_X10_say_43 C hr hlk hl ht e37 ?_
    refine fw_aload_n C 0 dX10_say_124 rfl rfl ?_
    refine fw_iload_n C 1 dX10_say_125 rfl rfl ?_
    obtain ⟨v38, e38, h⟩ := b1_some h
    refine fw_callV (ci := 10) [_] C (c_X10_forcedOf hl e38) cal_X10_forcedOf wm_X10_193 wi_yX10_forcedOf wsl_yX10_forcedOf (Nat.le_of_ble_eq_true rfl) rfl (gO_of g1) rfl (Nat.le_of_ble_eq_true rfl) ⟨Nat.le_of_ble_eq_true rfl, Nat.le_of_ble_eq_true rfl⟩ ⟨Nat.zero_le _, Nat.zero_le _⟩ dX10_say_126 ?_
    refine fw_istore C [(4, _), (0, _), (1, _)] dX10_say_129 (Nat.le_of_ble_eq_true rfl) rfl ?_
    refine fw_iload C 0 dX10_say_131 rfl ?_
    refine fw_iconst C (-1) dX10_say_133 rfl ?_
    refine fw_icmp_eq C 149 dX10_say_134 (by decide) (fun c39 => ?_) (fun c39 => ?_)
    · replace h := (if_pos c39).symm.trans h
      refine fw_aload_n C 1 dX10_say_149 rfl rfl ?_
      refine fw_getI C 10 13 (Nat.le_of_ble_eq_true rfl) (Nat.le_of_ble_eq_true rfl) wf_X10_216 rfl (gO_of g1) dX10_say_150 ?_
      obtain rfl := Option.some.inj h
      exact fw_iret C hr hlk dX10_say_153
    · replace h := (if_neg c39).symm.trans h
      refine fw_aload_n C 1 dX10_say_137 rfl rfl ?_
      refine fw_bipush C 33 dX10_say_138 rfl ?_
      obtain ⟨M40, e40, h⟩ := b1_some h
      refine fw_callV (ci := 10) [_] C (c_X10_writes hl e40) cal_X10_writes wm_X10_219 wi_yX10_writes wsl_yX10_writes (Nat.le_of_ble_eq_true rfl) rfl (gO_of g1) rfl (Nat.le_of_ble_eq_true rfl) ⟨Nat.le_of_ble_eq_true rfl, Nat.le_of_ble_eq_true rfl⟩ ⟨Nat.zero_le _, Nat.zero_le _⟩ dX10_say_140 ?_
      refine fw_aload_n C 1 dX10_say_143 rfl rfl ?_
      refine fw_iload C 0 dX10_say_144 rfl ?_
      obtain ⟨M41, e41, h⟩ := b1_some h
      refine fw_callV (ci := 10) [_] C (c_X10_writesNumber hl e41) cal_X10_writesNumber wm_X10_223 wi_yX10_writesNumber wsl_yX10_writesNumber (Nat.le_of_ble_eq_true rfl) rfl (gO_of g1) rfl (Nat.le_of_ble_eq_true rfl) ⟨Nat.le_of_ble_eq_true rfl, Nat.le_of_ble_eq_true rfl⟩ ⟨Nat.zero_le _, Nat.zero_le _⟩ dX10_say_146 ?_
      refine fw_aload_n C 1 dX10_say_149 rfl rfl ?_
      refine fw_getI C 10 13 (Nat.le_of_ble_eq_true rfl) (Nat.le_of_ble_eq_true rfl) wf_X10_216 rfl (gO_of g1) dX10_say_150 ?_
      obtain rfl := Option.some.inj h
      exact fw_iret C hr hlk dX10_say_153
  · replace h := (if_pos c4).symm.trans h
    refine fw_aload_n C 0 dX10_say_13 rfl rfl ?_
    refine fw_iconst C 1 dX10_say_14 rfl ?_
    obtain ⟨v42, M42, e42, h⟩ := b2_some h
    refine fw_callV (ci := 10) [_] C (c_X10_fail hl e42) cal_X10_fail wm_X10_171 wi_yX10_fail wsl_yX10_fail (Nat.le_of_ble_eq_true rfl) rfl (gO_of g1) rfl (Nat.le_of_ble_eq_true rfl) ⟨Nat.le_of_ble_eq_true rfl, Nat.le_of_ble_eq_true rfl⟩ ⟨Nat.zero_le _, Nat.zero_le _⟩ dX10_say_15 ?_
    obtain rfl := Option.some.inj h
    exact fw_iret C hr hlk dX10_say_18
set_option maxRecDepth 100000 in
def f_X10_said (S : List fw_Sh) (M : fw_Mem) (a0 : Nat) (x1 : Int32) : Option (Int32 × fw_Mem) := gd (gO S 10 a0) (bm (fw_set M a0 6 0) (fun M2 => b1 (f_X10_isIn S M2 x1 0 ((M2 a0 13) - 1)) (fun v3 => if v3 = 0 then (some ((-1), M2)) else (gd (gN (M2 a0 12)) (gd (gA S 0 ((M2 a0 12).toNatClampNeg) x1) (some ((M2 ((M2 a0 12).toNatClampNeg) x1.toNatClampNeg), M2)))))))
set_option maxHeartbeats 4000000 in
set_option maxRecDepth 100000 in
theorem c_X10_said {l : Launch} {G : fw_G} {S : List fw_Sh} {M : fw_Mem} {a0 : Nat} {x1 : Int32} {r : (Int32 × fw_Mem)} (hl : l.stackTraces = false) (h : f_X10_said S M a0 x1 = some r) : fw_M l G yX10_said (.code yX10_said cX10_said 2 (some .int)) 2 (fw_mcO (.inl (some (.int r.1)), S, r.2)) (fw_msO (.inl (some (.int r.1)), S, r.2)) S M [.ref a0, .int x1] (.inl (some (.int r.1)), S, r.2) := by
  refine fw_of [(0, .ref a0), (1, .int x1)] (by decide) (Nat.le_of_ble_eq_true rfl) rfl ?_
  intro p e s m args below meth c C hr hlk hnm ht _
  unfold f_X10_said at h
  refine fw_aload_n C 0 dX10_said_0 rfl rfl ?_
  refine fw_iconst C 0 dX10_said_1 rfl ?_
  obtain ⟨g1, h⟩ := gd_some h
  refine fw_putI C 10 6 (Nat.le_of_ble_eq_true rfl) (Nat.le_of_ble_eq_true rfl) wf_X10_51 rfl rfl rfl rfl (gO_of g1) dX10_said_2 ?_
  refine fw_bm h (fun M2 h => ?_)
  refine fw_iload_n C 1 dX10_said_5 rfl rfl ?_
  refine fw_iconst C 0 dX10_said_6 rfl ?_
  refine fw_aload_n C 0 dX10_said_7 rfl rfl ?_
  refine fw_getI C 10 13 (Nat.le_of_ble_eq_true rfl) (Nat.le_of_ble_eq_true rfl) wf_X10_216 rfl (gO_of g1) dX10_said_8 ?_
  refine fw_iconst C 1 dX10_said_11 rfl ?_
  refine fw_isub C dX10_said_12 ?_
  obtain ⟨v3, e3, h⟩ := b1_some h
  refine fw_callS [_, _, _] C (c_X10_isIn hl e3) cal_X10_isIn wm_X10_58 wt_yX10_isIn rfl (Nat.le_of_ble_eq_true rfl) ⟨Nat.le_of_ble_eq_true rfl, Nat.le_of_ble_eq_true rfl⟩ ⟨Nat.zero_le _, Nat.zero_le _⟩ dX10_said_13 ?_
  refine fw_if_eq C 28 dX10_said_16 (by decide) (fun c4 => ?_) (fun c4 => ?_)
  · replace h := (if_pos c4).symm.trans h
    refine fw_iconst C (-1) dX10_said_28 rfl ?_
    obtain rfl := Option.some.inj h
    exact fw_iret C hr hlk dX10_said_29
  · replace h := (if_neg c4).symm.trans h
    refine fw_aload_n C 0 dX10_said_19 rfl rfl ?_
    obtain ⟨g5, h⟩ := gd_some h
    refine fw_getR C 10 12 (Nat.le_of_ble_eq_true rfl) (Nat.le_of_ble_eq_true rfl) wf_X10_37 rfl (gO_of g1) (gN_of g5) dX10_said_20 ?_
    refine fw_iload_n C 1 dX10_said_23 rfl rfl ?_
    obtain ⟨g6, h⟩ := gd_some h
    refine fw_iald C (gA_of g6) dX10_said_24 ?_
    refine fw_goto C 29 dX10_said_25 (by decide) ?_
    obtain rfl := Option.some.inj h
    exact fw_iret C hr hlk dX10_said_29
set_option maxRecDepth 100000 in
def lf_X10_keep_54 (S : List fw_Sh) (a0 : Nat) : Nat → Int32 → fw_Mem → Option (fw_Mem)
  | 0, _, _ => none
  | n + 1, x1, M => if (330 : Int32) ≤ x1 then (some M) else (gd (gO S 10 a0) (gd (gN (M a0 3)) (gd (gN (M a0 0)) (gd (gA S 0 ((M a0 0).toNatClampNeg) x1) (gd (gA S 0 ((M a0 3).toNatClampNeg) (((330 : Int32) * (M a0 5)) + x1)) (bm (fw_set M ((M a0 3).toNatClampNeg) (((330 : Int32) * (M a0 5)) + x1).toNatClampNeg (M ((M a0 0).toNatClampNeg) x1.toNatClampNeg)) (fun M9 => lf_X10_keep_54 S a0 n (x1 + 1) M9)))))))
set_option maxHeartbeats 4000000 in
set_option maxRecDepth 100000 in
theorem lc_X10_keep_54 {G : fw_G} {p : Program} {l : Launch} {e : Env} {s : State} {m : MethodId} {args : Array Value} {below : List Frame} {meth : Method} {c : Code} {S : List fw_Sh} {o : fw_O} {a0 : Nat} (C : fw_C G RX10 cX10_keep 2 p s m args c) (hr : meth.sig.returnType = none) (hlk : meth.locks = false) (hl : l.stackTraces = false) (ht : ∀ x ∈ c.exceptionTable.toList, False) :
    ∀ {n : Nat} {x1 : Int32} {M : fw_Mem} {r : (fw_Mem)} (h : lf_X10_keep_54 S a0 n x1 M = some r) (kx : fw_W G p l e (fw_rm 1 (fw_mcO o) (fw_msO o)) s m args below meth c 2 (fw_Z G below args s (fw_mcO o) (fw_msO o) o) 0 0 88 [(0, .ref a0)] [] S r), fw_W G p l e (fw_rm 1 (fw_mcO o) (fw_msO o)) s m args below meth c 2 (fw_Z G below args s (fw_mcO o) (fw_msO o) o) 0 0 54 [(0, .ref a0), (1, .int x1)] [] S M := by
  intro n
  induction n with
  | zero =>
    intro x1 M r h
    exact nomatch (show (none : Option (fw_Mem)) = some r from h)
  | succ n ih =>
    intro x1 M r h kx
    rw [lf_X10_keep_54.eq_2] at h
    refine fw_iload_n C 1 dX10_keep_54 rfl rfl ?_
    refine fw_sipush C 330 dX10_keep_55 rfl ?_
    refine fw_icmp_ge C 88 dX10_keep_58 (by decide) (fun c3 => ?_) (fun c3 => ?_)
    · replace h := (if_pos c3).symm.trans h
      obtain rfl := Option.some.inj h
      refine fw_sub [0] rfl ?_
      exact kx
    · replace h := (if_neg c3).symm.trans h
      refine fw_aload_n C 0 dX10_keep_61 rfl rfl ?_
      obtain ⟨g4, h⟩ := gd_some h
      obtain ⟨g5, h⟩ := gd_some h
      refine fw_getR C 10 3 (Nat.le_of_ble_eq_true rfl) (Nat.le_of_ble_eq_true rfl) wf_X10_19 rfl (gO_of g4) (gN_of g5) dX10_keep_62 ?_
      refine fw_sipush C 330 dX10_keep_65 rfl ?_
      refine fw_aload_n C 0 dX10_keep_68 rfl rfl ?_
      refine fw_getI C 10 5 (Nat.le_of_ble_eq_true rfl) (Nat.le_of_ble_eq_true rfl) wf_X10_162 rfl (gO_of g4) dX10_keep_69 ?_
      refine fw_imul C dX10_keep_72 ?_
      refine fw_iload_n C 1 dX10_keep_73 rfl rfl ?_
      refine fw_iadd C dX10_keep_74 ?_
      refine fw_aload_n C 0 dX10_keep_75 rfl rfl ?_
      obtain ⟨g6, h⟩ := gd_some h
      refine fw_getR C 10 0 (Nat.le_of_ble_eq_true rfl) (Nat.le_of_ble_eq_true rfl) wf_X10_9 rfl (gO_of g4) (gN_of g6) dX10_keep_76 ?_
      refine fw_iload_n C 1 dX10_keep_79 rfl rfl ?_
      obtain ⟨g7, h⟩ := gd_some h
      refine fw_iald C (gA_of g7) dX10_keep_80 ?_
      obtain ⟨g8, h⟩ := gd_some h
      refine fw_iast C (gA_of g8) dX10_keep_81 ?_
      refine fw_bm h (fun M9 h => ?_)
      refine fw_iinc C _ 1 [(1, _), (0, _)] dX10_keep_82 rfl rfl (Nat.le_of_ble_eq_true rfl) rfl ?_
      refine fw_goto C 54 dX10_keep_85 (by decide) ?_
      refine fw_sub [1, 0] rfl ?_
      exact ih h kx
set_option maxRecDepth 100000 in
def lf_X10_keep_13 (S : List fw_Sh) (a0 : Nat) : Nat → Int32 → fw_Mem → Option (fw_Mem)
  | 0, _, _ => none
  | n + 1, x1, M => if (3960 : Int32) ≤ x1 then (some M) else (gd (gO S 10 a0) (gd (gN (M a0 3)) (gd (gA S 0 ((M a0 3).toNatClampNeg) x1) (gd (gA S 0 ((M a0 3).toNatClampNeg) (x1 - 330)) (bm (fw_set M ((M a0 3).toNatClampNeg) (x1 - 330).toNatClampNeg (M ((M a0 3).toNatClampNeg) x1.toNatClampNeg)) (fun M17 => lf_X10_keep_13 S a0 n (x1 + 1) M17))))))
set_option maxHeartbeats 4000000 in
set_option maxRecDepth 100000 in
theorem lc_X10_keep_13 {G : fw_G} {p : Program} {l : Launch} {e : Env} {s : State} {m : MethodId} {args : Array Value} {below : List Frame} {meth : Method} {c : Code} {S : List fw_Sh} {o : fw_O} {a0 : Nat} (C : fw_C G RX10 cX10_keep 2 p s m args c) (hr : meth.sig.returnType = none) (hlk : meth.locks = false) (hl : l.stackTraces = false) (ht : ∀ x ∈ c.exceptionTable.toList, False) :
    ∀ {n : Nat} {x1 : Int32} {M : fw_Mem} {r : (fw_Mem)} (h : lf_X10_keep_13 S a0 n x1 M = some r) (kx : fw_W G p l e (fw_rm 1 (fw_mcO o) (fw_msO o)) s m args below meth c 2 (fw_Z G below args s (fw_mcO o) (fw_msO o) o) 0 0 42 [(0, .ref a0)] [] S r), fw_W G p l e (fw_rm 1 (fw_mcO o) (fw_msO o)) s m args below meth c 2 (fw_Z G below args s (fw_mcO o) (fw_msO o) o) 0 0 13 [(0, .ref a0), (1, .int x1)] [] S M := by
  intro n
  induction n with
  | zero =>
    intro x1 M r h
    exact nomatch (show (none : Option (fw_Mem)) = some r from h)
  | succ n ih =>
    intro x1 M r h kx
    rw [lf_X10_keep_13.eq_2] at h
    refine fw_iload_n C 1 dX10_keep_13 rfl rfl ?_
    refine fw_sipush C 3960 dX10_keep_14 rfl ?_
    refine fw_icmp_ge C 42 dX10_keep_17 (by decide) (fun c12 => ?_) (fun c12 => ?_)
    · replace h := (if_pos c12).symm.trans h
      obtain rfl := Option.some.inj h
      refine fw_sub [0] rfl ?_
      exact kx
    · replace h := (if_neg c12).symm.trans h
      refine fw_aload_n C 0 dX10_keep_20 rfl rfl ?_
      obtain ⟨g13, h⟩ := gd_some h
      obtain ⟨g14, h⟩ := gd_some h
      refine fw_getR C 10 3 (Nat.le_of_ble_eq_true rfl) (Nat.le_of_ble_eq_true rfl) wf_X10_19 rfl (gO_of g13) (gN_of g14) dX10_keep_21 ?_
      refine fw_iload_n C 1 dX10_keep_24 rfl rfl ?_
      refine fw_sipush C 330 dX10_keep_25 rfl ?_
      refine fw_isub C dX10_keep_28 ?_
      refine fw_aload_n C 0 dX10_keep_29 rfl rfl ?_
      refine fw_getR C 10 3 (Nat.le_of_ble_eq_true rfl) (Nat.le_of_ble_eq_true rfl) wf_X10_19 rfl (gO_of g13) (gN_of g14) dX10_keep_30 ?_
      refine fw_iload_n C 1 dX10_keep_33 rfl rfl ?_
      obtain ⟨g15, h⟩ := gd_some h
      refine fw_iald C (gA_of g15) dX10_keep_34 ?_
      obtain ⟨g16, h⟩ := gd_some h
      refine fw_iast C (gA_of g16) dX10_keep_35 ?_
      refine fw_bm h (fun M17 h => ?_)
      refine fw_iinc C _ 1 [(1, _), (0, _)] dX10_keep_36 rfl rfl (Nat.le_of_ble_eq_true rfl) rfl ?_
      refine fw_goto C 13 dX10_keep_39 (by decide) ?_
      refine fw_sub [1, 0] rfl ?_
      exact ih h kx
set_option maxRecDepth 100000 in
def fj_X10_keep_52 (S : List fw_Sh) (M : fw_Mem) (a0 : Nat) : Option fw_Mem := b1 (lf_X10_keep_54 S a0 20000 0 M) (fun l20 => gd (gO S 10 a0) (bm (fw_set l20 a0 5 ((l20 a0 5) + 1)) (fun M22 => some M22)))
set_option maxHeartbeats 4000000 in
set_option maxRecDepth 100000 in
theorem jc_X10_keep_52 {G : fw_G} {p : Program} {l : Launch} {e : Env} {s : State} {m : MethodId} {args : Array Value} {below : List Frame} {meth : Method} {c : Code} {S : List fw_Sh} {M : fw_Mem} {a0 : Nat} {r : fw_Mem} {o : fw_O} (C : fw_C G RX10 cX10_keep 2 p s m args c) (hr : meth.sig.returnType = none) (hlk : meth.locks = false) (hl : l.stackTraces = false) (ht : ∀ x ∈ c.exceptionTable.toList, False) (ho : o = (.inl none, S, r)) (h : fj_X10_keep_52 S M a0 = some r) :
    fw_W G p l e (fw_rm 1 (fw_mcO o) (fw_msO o)) s m args below meth c 2 (fw_Z G below args s (fw_mcO o) (fw_msO o) o) 0 0 52 [(0, .ref a0)] [] S M := by
  subst ho
  unfold fj_X10_keep_52 at h
  refine fw_iconst C 0 dX10_keep_52 rfl ?_
  refine fw_istore_n C [(1, _), (0, _)] dX10_keep_53 rfl (Nat.le_of_ble_eq_true rfl) rfl ?_
  refine fw_sub [1, 0] rfl ?_
  obtain ⟨l20, e20, h⟩ := b1_some h
  refine lc_X10_keep_54 C hr hlk hl ht e20 ?_
  refine fw_aload_n C 0 dX10_keep_88 rfl rfl ?_
  refine fw_dup C dX10_keep_89 rfl ?_
  obtain ⟨g21, h⟩ := gd_some h
  refine fw_getI C 10 5 (Nat.le_of_ble_eq_true rfl) (Nat.le_of_ble_eq_true rfl) wf_X10_162 rfl (gO_of g21) dX10_keep_90 ?_
  refine fw_iconst C 1 dX10_keep_93 rfl ?_
  refine fw_iadd C dX10_keep_94 ?_
  refine fw_putI C 10 5 (Nat.le_of_ble_eq_true rfl) (Nat.le_of_ble_eq_true rfl) wf_X10_162 rfl rfl rfl rfl (gO_of g21) dX10_keep_95 ?_
  refine fw_bm h (fun M22 h => ?_)
  obtain rfl := Option.some.inj h
  exact fw_vret C hr hlk dX10_keep_98
set_option maxRecDepth 100000 in
def f_X10_keep (S : List fw_Sh) (M : fw_Mem) (a0 : Nat) : Option fw_Mem := gd (gO S 10 a0) (if (M a0 5) = 12 then (b1 (lf_X10_keep_13 S a0 20000 330 M) (fun l18 => bm (fw_set l18 a0 5 ((l18 a0 5) - 1)) (fun M19 => fj_X10_keep_52 S M19 a0))) else (b1 (lf_X10_keep_54 S a0 20000 0 M) (fun l10 => bm (fw_set l10 a0 5 ((l10 a0 5) + 1)) (fun M11 => some M11))))
set_option maxHeartbeats 4000000 in
set_option maxRecDepth 100000 in
theorem c_X10_keep {l : Launch} {G : fw_G} {S : List fw_Sh} {M : fw_Mem} {a0 : Nat} {r : fw_Mem} (hl : l.stackTraces = false) (h : f_X10_keep S M a0 = some r) : fw_M l G yX10_keep (.code yX10_keep cX10_keep 2 none) 1 (fw_mcO (.inl none, S, r)) (fw_msO (.inl none, S, r)) S M [.ref a0] (.inl none, S, r) := by
  refine fw_of [(0, .ref a0)] (by decide) (Nat.le_of_ble_eq_true rfl) rfl ?_
  intro p e s m args below meth c C hr hlk hnm ht _
  unfold f_X10_keep at h
  refine fw_aload_n C 0 dX10_keep_0 rfl rfl ?_
  obtain ⟨g1, h⟩ := gd_some h
  refine fw_getI C 10 5 (Nat.le_of_ble_eq_true rfl) (Nat.le_of_ble_eq_true rfl) wf_X10_162 rfl (gO_of g1) dX10_keep_1 ?_
  refine fw_bipush C 12 dX10_keep_4 rfl ?_
  refine fw_icmp_ne C 52 dX10_keep_6 (by decide) (fun c2 => ?_) (fun c2 => ?_)
  · replace h := (if_neg c2).symm.trans h
    refine fw_iconst C 0 dX10_keep_52 rfl ?_
    refine fw_istore_n C [(1, _), (0, _)] dX10_keep_53 rfl (Nat.le_of_ble_eq_true rfl) rfl ?_
    refine fw_sub [1, 0] rfl ?_
    obtain ⟨l10, e10, h⟩ := b1_some h
    refine lc_X10_keep_54 C hr hlk hl ht e10 ?_
    refine fw_aload_n C 0 dX10_keep_88 rfl rfl ?_
    refine fw_dup C dX10_keep_89 rfl ?_
    refine fw_getI C 10 5 (Nat.le_of_ble_eq_true rfl) (Nat.le_of_ble_eq_true rfl) wf_X10_162 rfl (gO_of g1) dX10_keep_90 ?_
    refine fw_iconst C 1 dX10_keep_93 rfl ?_
    refine fw_iadd C dX10_keep_94 ?_
    refine fw_putI C 10 5 (Nat.le_of_ble_eq_true rfl) (Nat.le_of_ble_eq_true rfl) wf_X10_162 rfl rfl rfl rfl (gO_of g1) dX10_keep_95 ?_
    refine fw_bm h (fun M11 h => ?_)
    obtain rfl := Option.some.inj h
    exact fw_vret C hr hlk dX10_keep_98
  · replace h := (if_pos c2).symm.trans h
    refine fw_sipush C 330 dX10_keep_9 rfl ?_
    refine fw_istore_n C [(1, _), (0, _)] dX10_keep_12 rfl (Nat.le_of_ble_eq_true rfl) rfl ?_
    refine fw_sub [1, 0] rfl ?_
    obtain ⟨l18, e18, h⟩ := b1_some h
    refine lc_X10_keep_13 C hr hlk hl ht e18 ?_
    refine fw_aload_n C 0 dX10_keep_42 rfl rfl ?_
    refine fw_dup C dX10_keep_43 rfl ?_
    refine fw_getI C 10 5 (Nat.le_of_ble_eq_true rfl) (Nat.le_of_ble_eq_true rfl) wf_X10_162 rfl (gO_of g1) dX10_keep_44 ?_
    refine fw_iconst C 1 dX10_keep_47 rfl ?_
    refine fw_isub C dX10_keep_48 ?_
    refine fw_putI C 10 5 (Nat.le_of_ble_eq_true rfl) (Nat.le_of_ble_eq_true rfl) wf_X10_162 rfl rfl rfl rfl (gO_of g1) dX10_keep_49 ?_
    refine fw_bm h (fun M19 h => ?_)
    exact jc_X10_keep_52 C hr hlk hl ht rfl h
set_option maxRecDepth 100000 in
def fj_X10_judge_34 (S : List fw_Sh) (M : fw_Mem) (a0 : Nat) (x1 : Int32) (x2 : Int32) (x3 : Int32) (z0 : Int32) (z1 : Nat) : Option (Int32 × fw_Mem) := gd (gO S 10 z1) (bm (fw_set M z1 6 z0) (fun M8 => gd (gO S 10 a0) (if (0 : Int32) < (M8 a0 6) then (some (0, M8)) else (b1 (f_X10_isJudged S M8 a0 x1) (fun v11 => if v11 = 0 then (b1 (f_X10_keep S M8 a0) (fun M13 => b1 (f_X10_put S M13 a0 x1 6 x2) (fun M14 => if x3 = 0 then (b1 (f_X10_put S M14 a0 x1 7 0) (fun M16 => some (1, M16))) else (b1 (f_X10_put S M14 a0 x1 7 1) (fun M17 => some (1, M17)))))) else (some (0, M8)))))))
set_option maxHeartbeats 4000000 in
set_option maxRecDepth 100000 in
theorem jc_X10_judge_34 {G : fw_G} {p : Program} {l : Launch} {e : Env} {s : State} {m : MethodId} {args : Array Value} {below : List Frame} {meth : Method} {c : Code} {S : List fw_Sh} {M : fw_Mem} {a0 : Nat} {x1 : Int32} {x2 : Int32} {x3 : Int32} {z0 : Int32} {z1 : Nat} {r : (Int32 × fw_Mem)} {o : fw_O} (C : fw_C G RX10 cX10_judge 4 p s m args c) (hr : meth.sig.returnType = (some .boolean)) (hlk : meth.locks = false) (hl : l.stackTraces = false) (ht : ∀ x ∈ c.exceptionTable.toList, False) (ho : o = (.inl (some (.int r.1)), S, r.2)) (h : fj_X10_judge_34 S M a0 x1 x2 x3 z0 z1 = some r) :
    fw_W G p l e (fw_rm 3 (fw_mcO o) (fw_msO o)) s m args below meth c 4 (fw_Z G below args s (fw_mcO o) (fw_msO o) o) 0 0 34 [(0, .ref a0), (1, .int x1), (2, .int x2), (3, .int x3)] [.int z0, .ref z1] S M := by
  subst ho
  unfold fj_X10_judge_34 at h
  obtain ⟨g7, h⟩ := gd_some h
  refine fw_putI C 10 6 (Nat.le_of_ble_eq_true rfl) (Nat.le_of_ble_eq_true rfl) wf_X10_51 rfl rfl rfl rfl (gO_of g7) dX10_judge_34 ?_
  refine fw_bm h (fun M8 h => ?_)
  refine fw_aload_n C 0 dX10_judge_37 rfl rfl ?_
  obtain ⟨g9, h⟩ := gd_some h
  refine fw_getI C 10 6 (Nat.le_of_ble_eq_true rfl) (Nat.le_of_ble_eq_true rfl) wf_X10_51 rfl (gO_of g9) dX10_judge_38 ?_
  refine fw_if_gt C 52 dX10_judge_41 (by decide) (fun c10 => ?_) (fun c10 => ?_)
  · replace h := (if_pos c10).symm.trans h
    refine fw_iconst C 0 dX10_judge_52 rfl ?_
    obtain rfl := Option.some.inj h
    exact fw_zret C hr (Or.inl rfl) hlk dX10_judge_53
  · replace h := (if_neg c10).symm.trans h
    refine fw_aload_n C 0 dX10_judge_44 rfl rfl ?_
    refine fw_iload_n C 1 dX10_judge_45 rfl rfl ?_
    obtain ⟨v11, e11, h⟩ := b1_some h
    refine fw_callV (ci := 10) [_] C (c_X10_isJudged hl e11) cal_X10_isJudged wm_X10_69 wi_yX10_isJudged wsl_yX10_isJudged (Nat.le_of_ble_eq_true rfl) rfl (gO_of g9) rfl (Nat.le_of_ble_eq_true rfl) ⟨Nat.le_of_ble_eq_true rfl, Nat.le_of_ble_eq_true rfl⟩ ⟨Nat.zero_le _, Nat.zero_le _⟩ dX10_judge_46 ?_
    refine fw_if_eq C 54 dX10_judge_49 (by decide) (fun c12 => ?_) (fun c12 => ?_)
    · replace h := (if_pos c12).symm.trans h
      refine fw_aload_n C 0 dX10_judge_54 rfl rfl ?_
      obtain ⟨M13, e13, h⟩ := b1_some h
      refine fw_callV (ci := 10) [] C (c_X10_keep hl e13) cal_X10_keep wm_X10_226 wi_yX10_keep wsl_yX10_keep (Nat.le_of_ble_eq_true rfl) rfl (gO_of g9) rfl (Nat.le_of_ble_eq_true rfl) ⟨Nat.le_of_ble_eq_true rfl, Nat.le_of_ble_eq_true rfl⟩ ⟨Nat.zero_le _, Nat.zero_le _⟩ dX10_judge_55 ?_
      refine fw_aload_n C 0 dX10_judge_58 rfl rfl ?_
      refine fw_iload_n C 1 dX10_judge_59 rfl rfl ?_
      refine fw_bipush C 6 dX10_judge_60 rfl ?_
      refine fw_iload_n C 2 dX10_judge_62 rfl rfl ?_
      obtain ⟨M14, e14, h⟩ := b1_some h
      refine fw_callV (ci := 10) [_, _, _] C (c_X10_put hl e14) cal_X10_put wm_X10_205 wi_yX10_put wsl_yX10_put (Nat.le_of_ble_eq_true rfl) rfl (gO_of g9) rfl (Nat.le_of_ble_eq_true rfl) ⟨Nat.le_of_ble_eq_true rfl, Nat.le_of_ble_eq_true rfl⟩ ⟨Nat.zero_le _, Nat.zero_le _⟩ dX10_judge_63 ?_
      refine fw_aload_n C 0 dX10_judge_66 rfl rfl ?_
      refine fw_iload_n C 1 dX10_judge_67 rfl rfl ?_
      refine fw_bipush C 7 dX10_judge_68 rfl ?_
      refine fw_iload_n C 3 dX10_judge_70 rfl rfl ?_
      refine fw_if_eq C 78 dX10_judge_71 (by decide) (fun c15 => ?_) (fun c15 => ?_)
      · replace h := (if_pos c15).symm.trans h
        refine fw_iconst C 0 dX10_judge_78 rfl ?_
        obtain ⟨M16, e16, h⟩ := b1_some h
        refine fw_callV (ci := 10) [_, _, _] C (c_X10_put hl e16) cal_X10_put wm_X10_205 wi_yX10_put wsl_yX10_put (Nat.le_of_ble_eq_true rfl) rfl (gO_of g9) rfl (Nat.le_of_ble_eq_true rfl) ⟨Nat.le_of_ble_eq_true rfl, Nat.le_of_ble_eq_true rfl⟩ ⟨Nat.zero_le _, Nat.zero_le _⟩ dX10_judge_79 ?_
        refine fw_iconst C 1 dX10_judge_82 rfl ?_
        obtain rfl := Option.some.inj h
        exact fw_zret C hr (Or.inr rfl) hlk dX10_judge_83
      · replace h := (if_neg c15).symm.trans h
        refine fw_iconst C 1 dX10_judge_74 rfl ?_
        refine fw_goto C 79 dX10_judge_75 (by decide) ?_
        obtain ⟨M17, e17, h⟩ := b1_some h
        refine fw_callV (ci := 10) [_, _, _] C (c_X10_put hl e17) cal_X10_put wm_X10_205 wi_yX10_put wsl_yX10_put (Nat.le_of_ble_eq_true rfl) rfl (gO_of g9) rfl (Nat.le_of_ble_eq_true rfl) ⟨Nat.le_of_ble_eq_true rfl, Nat.le_of_ble_eq_true rfl⟩ ⟨Nat.zero_le _, Nat.zero_le _⟩ dX10_judge_79 ?_
        refine fw_iconst C 1 dX10_judge_82 rfl ?_
        obtain rfl := Option.some.inj h
        exact fw_zret C hr (Or.inr rfl) hlk dX10_judge_83
    · replace h := (if_neg c12).symm.trans h
      refine fw_iconst C 0 dX10_judge_52 rfl ?_
      obtain rfl := Option.some.inj h
      exact fw_zret C hr (Or.inl rfl) hlk dX10_judge_53
set_option maxRecDepth 100000 in
def f_X10_judge (S : List fw_Sh) (M : fw_Mem) (a0 : Nat) (x1 : Int32) (x2 : Int32) (x3 : Int32) : Option (Int32 × fw_Mem) := gd (gO S 10 a0) (b1 (f_X10_isSuit S M a0 x1) (fun v1 => if v1 = 0 then fj_X10_judge_34 S M a0 x1 x2 x3 1 a0 else (b1 (f_X10_of S M a0 x1 2) (fun v4 => b1 (f_X10_isIn S M x2 v4 9999) (fun v5 => if v5 = 0 then fj_X10_judge_34 S M a0 x1 x2 x3 2 a0 else fj_X10_judge_34 S M a0 x1 x2 x3 0 a0)))))
set_option maxHeartbeats 4000000 in
set_option maxRecDepth 100000 in
theorem c_X10_judge {l : Launch} {G : fw_G} {S : List fw_Sh} {M : fw_Mem} {a0 : Nat} {x1 : Int32} {x2 : Int32} {x3 : Int32} {r : (Int32 × fw_Mem)} (hl : l.stackTraces = false) (h : f_X10_judge S M a0 x1 x2 x3 = some r) : fw_M l G yX10_judge (.code yX10_judge cX10_judge 4 (some .boolean)) 3 (fw_mcO (.inl (some (.int r.1)), S, r.2)) (fw_msO (.inl (some (.int r.1)), S, r.2)) S M [.ref a0, .int x1, .int x2, .int x3] (.inl (some (.int r.1)), S, r.2) := by
  refine fw_of [(0, .ref a0), (1, .int x1), (2, .int x2), (3, .int x3)] (by decide) (Nat.le_of_ble_eq_true rfl) rfl ?_
  intro p e s m args below meth c C hr hlk hnm ht _
  unfold f_X10_judge at h
  refine fw_aload_n C 0 dX10_judge_0 rfl rfl ?_
  refine fw_aload_n C 0 dX10_judge_1 rfl rfl ?_
  refine fw_iload_n C 1 dX10_judge_2 rfl rfl ?_
  obtain ⟨g2, h⟩ := gd_some h
  obtain ⟨v1, e1, h⟩ := b1_some h
  refine fw_callV (ci := 10) [_] C (c_X10_isSuit hl e1) cal_X10_isSuit wm_X10_177 wi_yX10_isSuit wsl_yX10_isSuit (Nat.le_of_ble_eq_true rfl) rfl (gO_of g2) rfl (Nat.le_of_ble_eq_true rfl) ⟨Nat.le_of_ble_eq_true rfl, Nat.le_of_ble_eq_true rfl⟩ ⟨Nat.zero_le _, Nat.zero_le _⟩ dX10_judge_3 ?_
  refine fw_if_ne C 13 dX10_judge_6 (by decide) (fun c3 => ?_) (fun c3 => ?_)
  · replace h := (if_neg c3).symm.trans h
    refine fw_iload_n C 2 dX10_judge_13 rfl rfl ?_
    refine fw_aload_n C 0 dX10_judge_14 rfl rfl ?_
    refine fw_iload_n C 1 dX10_judge_15 rfl rfl ?_
    refine fw_iconst C 2 dX10_judge_16 rfl ?_
    obtain ⟨v4, e4, h⟩ := b1_some h
    refine fw_callV (ci := 10) [_, _] C (c_X10_of hl e4) cal_X10_of wm_X10_65 wi_yX10_of wsl_yX10_of (Nat.le_of_ble_eq_true rfl) rfl (gO_of g2) rfl (Nat.le_of_ble_eq_true rfl) ⟨Nat.le_of_ble_eq_true rfl, Nat.le_of_ble_eq_true rfl⟩ ⟨Nat.zero_le _, Nat.zero_le _⟩ dX10_judge_17 ?_
    refine fw_sipush C 9999 dX10_judge_20 rfl ?_
    obtain ⟨v5, e5, h⟩ := b1_some h
    refine fw_callS [_, _, _] C (c_X10_isIn hl e5) cal_X10_isIn wm_X10_58 wt_yX10_isIn rfl (Nat.le_of_ble_eq_true rfl) ⟨Nat.le_of_ble_eq_true rfl, Nat.le_of_ble_eq_true rfl⟩ ⟨Nat.zero_le _, Nat.zero_le _⟩ dX10_judge_23 ?_
    refine fw_if_ne C 33 dX10_judge_26 (by decide) (fun c6 => ?_) (fun c6 => ?_)
    · replace h := (if_neg c6).symm.trans h
      refine fw_iconst C 0 dX10_judge_33 rfl ?_
      exact jc_X10_judge_34 C hr hlk hl ht rfl h
    · replace h := (if_pos c6).symm.trans h
      refine fw_iconst C 2 dX10_judge_29 rfl ?_
      refine fw_goto C 34 dX10_judge_30 (by decide) ?_
      exact jc_X10_judge_34 C hr hlk hl ht rfl h
  · replace h := (if_pos c3).symm.trans h
    refine fw_iconst C 1 dX10_judge_9 rfl ?_
    refine fw_goto C 34 dX10_judge_10 (by decide) ?_
    exact jc_X10_judge_34 C hr hlk hl ht rfl h
set_option maxRecDepth 100000 in
def f_X10_sets (S : List fw_Sh) (M : fw_Mem) (a0 : Nat) (x1 : Int32) (x2 : Int32) (x3 : Int32) (x4 : Int32) : Option fw_Mem := gd (gO S 10 a0) (b1 (f_X10_of S M a0 x1 x2) (fun v1 => bm (v1 &&& (((1 : Int32) <<< (x3 &&& 31)) ^^^ (-1))) (fun y3 => if x4 = 0 then (b1 (f_X10_put S M a0 x1 x2 y3) (fun M5 => some M5)) else (b1 (f_X10_put S M a0 x1 x2 (y3 ||| ((1 : Int32) <<< (x3 &&& 31)))) (fun M6 => some M6)))))
set_option maxHeartbeats 4000000 in
set_option maxRecDepth 100000 in
theorem c_X10_sets {l : Launch} {G : fw_G} {S : List fw_Sh} {M : fw_Mem} {a0 : Nat} {x1 : Int32} {x2 : Int32} {x3 : Int32} {x4 : Int32} {r : fw_Mem} (hl : l.stackTraces = false) (h : f_X10_sets S M a0 x1 x2 x3 x4 = some r) : fw_M l G yX10_sets (.code yX10_sets cX10_sets 6 none) 2 (fw_mcO (.inl none, S, r)) (fw_msO (.inl none, S, r)) S M [.ref a0, .int x1, .int x2, .int x3, .int x4] (.inl none, S, r) := by
  refine fw_of [(0, .ref a0), (1, .int x1), (2, .int x2), (3, .int x3), (4, .int x4)] (by decide) (Nat.le_of_ble_eq_true rfl) rfl ?_
  intro p e s m args below meth c C hr hlk hnm ht _
  unfold f_X10_sets at h
  refine fw_aload_n C 0 dX10_sets_0 rfl rfl ?_
  refine fw_iload_n C 1 dX10_sets_1 rfl rfl ?_
  refine fw_iload_n C 2 dX10_sets_2 rfl rfl ?_
  obtain ⟨g2, h⟩ := gd_some h
  obtain ⟨v1, e1, h⟩ := b1_some h
  refine fw_callV (ci := 10) [_, _] C (c_X10_of hl e1) cal_X10_of wm_X10_65 wi_yX10_of wsl_yX10_of (Nat.le_of_ble_eq_true rfl) rfl (gO_of g2) rfl (Nat.le_of_ble_eq_true rfl) ⟨Nat.le_of_ble_eq_true rfl, Nat.le_of_ble_eq_true rfl⟩ ⟨Nat.zero_le _, Nat.zero_le _⟩ dX10_sets_3 ?_
  refine fw_iconst C 1 dX10_sets_6 rfl ?_
  refine fw_iload_n C 3 dX10_sets_7 rfl rfl ?_
  refine fw_ishl C dX10_sets_8 ?_
  refine fw_iconst C (-1) dX10_sets_9 rfl ?_
  refine fw_ixor C dX10_sets_10 ?_
  refine fw_iand C dX10_sets_11 ?_
  refine fw_bi h (fun y3 h => ?_)
  refine fw_istore C [(5, _), (0, _), (1, _), (2, _), (3, _), (4, _)] dX10_sets_12 (Nat.le_of_ble_eq_true rfl) rfl ?_
  refine fw_aload_n C 1 dX10_sets_14 rfl rfl ?_
  refine fw_iload_n C 2 dX10_sets_15 rfl rfl ?_
  refine fw_iload_n C 3 dX10_sets_16 rfl rfl ?_
  refine fw_iload C 5 dX10_sets_17 rfl ?_
  refine fw_if_eq C 31 dX10_sets_19 (by decide) (fun c4 => ?_) (fun c4 => ?_)
  · replace h := (if_pos c4).symm.trans h
    refine fw_iload C 0 dX10_sets_31 rfl ?_
    obtain ⟨M5, e5, h⟩ := b1_some h
    refine fw_callV (ci := 10) [_, _, _] C (c_X10_put hl e5) cal_X10_put wm_X10_205 wi_yX10_put wsl_yX10_put (Nat.le_of_ble_eq_true rfl) rfl (gO_of g2) rfl (Nat.le_of_ble_eq_true rfl) ⟨Nat.le_of_ble_eq_true rfl, Nat.le_of_ble_eq_true rfl⟩ ⟨Nat.zero_le _, Nat.zero_le _⟩ dX10_sets_33 ?_
    obtain rfl := Option.some.inj h
    exact fw_vret C hr hlk dX10_sets_36
  · replace h := (if_neg c4).symm.trans h
    refine fw_iload C 0 dX10_sets_22 rfl ?_
    refine fw_iconst C 1 dX10_sets_24 rfl ?_
    refine fw_iload_n C 4 dX10_sets_25 rfl rfl ?_
    refine fw_ishl C dX10_sets_26 ?_
    refine fw_ior C dX10_sets_27 ?_
    refine fw_goto C 33 dX10_sets_28 (by decide) ?_
    obtain ⟨M6, e6, h⟩ := b1_some h
    refine fw_callV (ci := 10) [_, _, _] C (c_X10_put hl e6) cal_X10_put wm_X10_205 wi_yX10_put wsl_yX10_put (Nat.le_of_ble_eq_true rfl) rfl (gO_of g2) rfl (Nat.le_of_ble_eq_true rfl) ⟨Nat.le_of_ble_eq_true rfl, Nat.le_of_ble_eq_true rfl⟩ ⟨Nat.zero_le _, Nat.zero_le _⟩ dX10_sets_33 ?_
    obtain rfl := Option.some.inj h
    exact fw_vret C hr hlk dX10_sets_36
set_option maxRecDepth 100000 in
def fj_X10_find_153 (S : List fw_Sh) (M : fw_Mem) (a0 : Nat) (x1 : Int32) (x2 : Int32) (x3 : Int32) (x4 : Int32) (x6 : Int32) (z0 : Int32) (z1 : Int32) (z2 : Int32) (z3 : Int32) (z4 : Nat) : Option (Int32 × fw_Mem) := gd (gO S 10 z4) (b1 (f_X10_sets S M z4 z3 z2 z1 z0) (fun M23 => if x3 = (-1) then (gd (gO S 10 a0) (b1 (f_X10_sets S M23 a0 x1 11 x2 0) (fun M26 => some (x6, M26)))) else (if x4 = 0 then (gd (gO S 10 a0) (b1 (f_X10_sets S M23 a0 x1 11 x2 1) (fun M31 => some (x6, M31)))) else (gd (gO S 10 a0) (b1 (f_X10_sets S M23 a0 x1 11 x2 0) (fun M29 => some (x6, M29)))))))
set_option maxHeartbeats 4000000 in
set_option maxRecDepth 100000 in
theorem jc_X10_find_153 {G : fw_G} {p : Program} {l : Launch} {e : Env} {s : State} {m : MethodId} {args : Array Value} {below : List Frame} {meth : Method} {c : Code} {S : List fw_Sh} {M : fw_Mem} {a0 : Nat} {x1 : Int32} {x2 : Int32} {x3 : Int32} {x4 : Int32} {x6 : Int32} {z0 : Int32} {z1 : Int32} {z2 : Int32} {z3 : Int32} {z4 : Nat} {r : (Int32 × fw_Mem)} {o : fw_O} (C : fw_C G RX10 cX10_find 7 p s m args c) (hr : meth.sig.returnType = (some .int)) (hlk : meth.locks = false) (hl : l.stackTraces = false) (ht : ∀ x ∈ c.exceptionTable.toList, False) (ho : o = (.inl (some (.int r.1)), S, r.2)) (h : fj_X10_find_153 S M a0 x1 x2 x3 x4 x6 z0 z1 z2 z3 z4 = some r) :
    fw_W G p l e (fw_rm 3 (fw_mcO o) (fw_msO o)) s m args below meth c 7 (fw_Z G below args s (fw_mcO o) (fw_msO o) o) 0 0 153 [(0, .ref a0), (1, .int x1), (2, .int x2), (3, .int x3), (4, .int x4), (6, .int x6)] [.int z0, .int z1, .int z2, .int z3, .ref z4] S M := by
  subst ho
  unfold fj_X10_find_153 at h
  obtain ⟨g24, h⟩ := gd_some h
  obtain ⟨M23, e23, h⟩ := b1_some h
  refine fw_callV (ci := 10) [_, _, _, _] C (c_X10_sets hl e23) cal_X10_sets wm_X10_229 wi_yX10_sets wsl_yX10_sets (Nat.le_of_ble_eq_true rfl) rfl (gO_of g24) rfl (Nat.le_of_ble_eq_true rfl) ⟨Nat.le_of_ble_eq_true rfl, Nat.le_of_ble_eq_true rfl⟩ ⟨Nat.zero_le _, Nat.zero_le _⟩ dX10_find_153 ?_
  refine fw_aload_n C 0 dX10_find_156 rfl rfl ?_
  refine fw_iload_n C 1 dX10_find_157 rfl rfl ?_
  refine fw_bipush C 11 dX10_find_158 rfl ?_
  refine fw_iload_n C 2 dX10_find_160 rfl rfl ?_
  refine fw_iload_n C 3 dX10_find_161 rfl rfl ?_
  refine fw_iconst C (-1) dX10_find_162 rfl ?_
  refine fw_icmp_eq C 175 dX10_find_163 (by decide) (fun c25 => ?_) (fun c25 => ?_)
  · replace h := (if_pos c25).symm.trans h
    refine fw_iconst C 0 dX10_find_175 rfl ?_
    obtain ⟨g27, h⟩ := gd_some h
    obtain ⟨M26, e26, h⟩ := b1_some h
    refine fw_callV (ci := 10) [_, _, _, _] C (c_X10_sets hl e26) cal_X10_sets wm_X10_229 wi_yX10_sets wsl_yX10_sets (Nat.le_of_ble_eq_true rfl) rfl (gO_of g27) rfl (Nat.le_of_ble_eq_true rfl) ⟨Nat.le_of_ble_eq_true rfl, Nat.le_of_ble_eq_true rfl⟩ ⟨Nat.zero_le _, Nat.zero_le _⟩ dX10_find_176 ?_
    refine fw_iload C 5 dX10_find_179 rfl ?_
    obtain rfl := Option.some.inj h
    exact fw_iret C hr hlk dX10_find_181
  · replace h := (if_neg c25).symm.trans h
    refine fw_iload C 4 dX10_find_166 rfl ?_
    refine fw_if_ne C 175 dX10_find_168 (by decide) (fun c28 => ?_) (fun c28 => ?_)
    · replace h := (if_neg c28).symm.trans h
      refine fw_iconst C 0 dX10_find_175 rfl ?_
      obtain ⟨g30, h⟩ := gd_some h
      obtain ⟨M29, e29, h⟩ := b1_some h
      refine fw_callV (ci := 10) [_, _, _, _] C (c_X10_sets hl e29) cal_X10_sets wm_X10_229 wi_yX10_sets wsl_yX10_sets (Nat.le_of_ble_eq_true rfl) rfl (gO_of g30) rfl (Nat.le_of_ble_eq_true rfl) ⟨Nat.le_of_ble_eq_true rfl, Nat.le_of_ble_eq_true rfl⟩ ⟨Nat.zero_le _, Nat.zero_le _⟩ dX10_find_176 ?_
      refine fw_iload C 5 dX10_find_179 rfl ?_
      obtain rfl := Option.some.inj h
      exact fw_iret C hr hlk dX10_find_181
    · replace h := (if_pos c28).symm.trans h
      refine fw_iconst C 1 dX10_find_171 rfl ?_
      refine fw_goto C 176 dX10_find_172 (by decide) ?_
      obtain ⟨g32, h⟩ := gd_some h
      obtain ⟨M31, e31, h⟩ := b1_some h
      refine fw_callV (ci := 10) [_, _, _, _] C (c_X10_sets hl e31) cal_X10_sets wm_X10_229 wi_yX10_sets wsl_yX10_sets (Nat.le_of_ble_eq_true rfl) rfl (gO_of g32) rfl (Nat.le_of_ble_eq_true rfl) ⟨Nat.le_of_ble_eq_true rfl, Nat.le_of_ble_eq_true rfl⟩ ⟨Nat.zero_le _, Nat.zero_le _⟩ dX10_find_176 ?_
      refine fw_iload C 5 dX10_find_179 rfl ?_
      obtain rfl := Option.some.inj h
      exact fw_iret C hr hlk dX10_find_181
set_option maxRecDepth 100000 in
def fj_X10_find_136 (S : List fw_Sh) (M : fw_Mem) (a0 : Nat) (x1 : Int32) (x2 : Int32) (x3 : Int32) (x4 : Int32) (x6 : Int32) (z0 : Int32) (z1 : Int32) (z2 : Int32) (z3 : Int32) (z4 : Nat) : Option (Int32 × fw_Mem) := gd (gO S 10 z4) (b1 (f_X10_sets S M z4 z3 z2 z1 z0) (fun M20 => if x3 = 0 then fj_X10_find_153 S M20 a0 x1 x2 x3 x4 x6 1 x2 10 x1 a0 else fj_X10_find_153 S M20 a0 x1 x2 x3 x4 x6 0 x2 10 x1 a0))
set_option maxHeartbeats 4000000 in
set_option maxRecDepth 100000 in
theorem jc_X10_find_136 {G : fw_G} {p : Program} {l : Launch} {e : Env} {s : State} {m : MethodId} {args : Array Value} {below : List Frame} {meth : Method} {c : Code} {S : List fw_Sh} {M : fw_Mem} {a0 : Nat} {x1 : Int32} {x2 : Int32} {x3 : Int32} {x4 : Int32} {x6 : Int32} {z0 : Int32} {z1 : Int32} {z2 : Int32} {z3 : Int32} {z4 : Nat} {r : (Int32 × fw_Mem)} {o : fw_O} (C : fw_C G RX10 cX10_find 7 p s m args c) (hr : meth.sig.returnType = (some .int)) (hlk : meth.locks = false) (hl : l.stackTraces = false) (ht : ∀ x ∈ c.exceptionTable.toList, False) (ho : o = (.inl (some (.int r.1)), S, r.2)) (h : fj_X10_find_136 S M a0 x1 x2 x3 x4 x6 z0 z1 z2 z3 z4 = some r) :
    fw_W G p l e (fw_rm 3 (fw_mcO o) (fw_msO o)) s m args below meth c 7 (fw_Z G below args s (fw_mcO o) (fw_msO o) o) 0 0 136 [(0, .ref a0), (1, .int x1), (2, .int x2), (3, .int x3), (4, .int x4), (6, .int x6)] [.int z0, .int z1, .int z2, .int z3, .ref z4] S M := by
  subst ho
  unfold fj_X10_find_136 at h
  obtain ⟨g21, h⟩ := gd_some h
  obtain ⟨M20, e20, h⟩ := b1_some h
  refine fw_callV (ci := 10) [_, _, _, _] C (c_X10_sets hl e20) cal_X10_sets wm_X10_229 wi_yX10_sets wsl_yX10_sets (Nat.le_of_ble_eq_true rfl) rfl (gO_of g21) rfl (Nat.le_of_ble_eq_true rfl) ⟨Nat.le_of_ble_eq_true rfl, Nat.le_of_ble_eq_true rfl⟩ ⟨Nat.zero_le _, Nat.zero_le _⟩ dX10_find_136 ?_
  refine fw_aload_n C 0 dX10_find_139 rfl rfl ?_
  refine fw_iload_n C 1 dX10_find_140 rfl rfl ?_
  refine fw_bipush C 10 dX10_find_141 rfl ?_
  refine fw_iload_n C 2 dX10_find_143 rfl rfl ?_
  refine fw_iload_n C 3 dX10_find_144 rfl rfl ?_
  refine fw_if_ne C 152 dX10_find_145 (by decide) (fun c22 => ?_) (fun c22 => ?_)
  · replace h := (if_neg c22).symm.trans h
    refine fw_iconst C 0 dX10_find_152 rfl ?_
    exact jc_X10_find_153 C hr hlk hl ht rfl h
  · replace h := (if_pos c22).symm.trans h
    refine fw_iconst C 1 dX10_find_148 rfl ?_
    refine fw_goto C 153 dX10_find_149 (by decide) ?_
    exact jc_X10_find_153 C hr hlk hl ht rfl h
set_option maxRecDepth 100000 in
def fj_X10_find_119 (S : List fw_Sh) (M : fw_Mem) (a0 : Nat) (x1 : Int32) (x2 : Int32) (x3 : Int32) (x4 : Int32) (z0 : Int32) : Option (Int32 × fw_Mem) := if x3 = 1 then fj_X10_find_136 S M a0 x1 x2 x3 x4 z0 1 x2 9 x1 a0 else fj_X10_find_136 S M a0 x1 x2 x3 x4 z0 0 x2 9 x1 a0
set_option maxHeartbeats 4000000 in
set_option maxRecDepth 100000 in
theorem jc_X10_find_119 {G : fw_G} {p : Program} {l : Launch} {e : Env} {s : State} {m : MethodId} {args : Array Value} {below : List Frame} {meth : Method} {c : Code} {S : List fw_Sh} {M : fw_Mem} {a0 : Nat} {x1 : Int32} {x2 : Int32} {x3 : Int32} {x4 : Int32} {z0 : Int32} {r : (Int32 × fw_Mem)} {o : fw_O} (C : fw_C G RX10 cX10_find 7 p s m args c) (hr : meth.sig.returnType = (some .int)) (hlk : meth.locks = false) (hl : l.stackTraces = false) (ht : ∀ x ∈ c.exceptionTable.toList, False) (ho : o = (.inl (some (.int r.1)), S, r.2)) (h : fj_X10_find_119 S M a0 x1 x2 x3 x4 z0 = some r) :
    fw_W G p l e (fw_rm 3 (fw_mcO o) (fw_msO o)) s m args below meth c 7 (fw_Z G below args s (fw_mcO o) (fw_msO o) o) 0 0 119 [(0, .ref a0), (1, .int x1), (2, .int x2), (3, .int x3), (4, .int x4)] [.int z0] S M := by
  subst ho
  unfold fj_X10_find_119 at h
  refine fw_istore C [(6, _), (0, _), (1, _), (2, _), (3, _), (4, _)] dX10_find_119 (Nat.le_of_ble_eq_true rfl) rfl ?_
  refine fw_aload_n C 1 dX10_find_121 rfl rfl ?_
  refine fw_iload_n C 2 dX10_find_122 rfl rfl ?_
  refine fw_bipush C 9 dX10_find_123 rfl ?_
  refine fw_iload_n C 3 dX10_find_125 rfl rfl ?_
  refine fw_iload_n C 4 dX10_find_126 rfl rfl ?_
  refine fw_iconst C 1 dX10_find_127 rfl ?_
  refine fw_icmp_ne C 135 dX10_find_128 (by decide) (fun c19 => ?_) (fun c19 => ?_)
  · replace h := (if_neg c19).symm.trans h
    refine fw_iconst C 0 dX10_find_135 rfl ?_
    refine fw_sub [1, 2, 3, 4, 5, 0] rfl ?_
    exact jc_X10_find_136 C hr hlk hl ht rfl h
  · replace h := (if_pos c19).symm.trans h
    refine fw_iconst C 1 dX10_find_131 rfl ?_
    refine fw_goto C 136 dX10_find_132 (by decide) ?_
    refine fw_sub [1, 2, 3, 4, 5, 0] rfl ?_
    exact jc_X10_find_136 C hr hlk hl ht rfl h
set_option maxRecDepth 100000 in
def fj_X10_find_61 (S : List fw_Sh) (M : fw_Mem) (a0 : Nat) (x1 : Int32) (x2 : Int32) (x3 : Int32) (x4 : Int32) (z0 : Int32) (z1 : Nat) : Option (Int32 × fw_Mem) := gd (gO S 10 z1) (bm (fw_set M z1 6 z0) (fun M8 => gd (gO S 10 a0) (if (M8 a0 6) ≤ 0 then (b1 (f_X10_isJudged S M8 a0 x1) (fun v11 => if v11 = 0 then (some ((-1), M8)) else (b1 (f_X10_keep S M8 a0) (fun M13 => b1 (f_X10_foundYes S M13 a0 x1 x2) (fun v14 => if v14 = 0 then (b1 (f_X10_of S M13 a0 x1 10) (fun v16 => b1 (f_X10_has S M13 v16 x2) (fun v17 => if v17 = 0 then fj_X10_find_119 S M13 a0 x1 x2 x3 x4 (-1) else fj_X10_find_119 S M13 a0 x1 x2 x3 x4 0))) else fj_X10_find_119 S M13 a0 x1 x2 x3 x4 1))))) else (some (0, M8)))))
set_option maxHeartbeats 4000000 in
set_option maxRecDepth 100000 in
theorem jc_X10_find_61 {G : fw_G} {p : Program} {l : Launch} {e : Env} {s : State} {m : MethodId} {args : Array Value} {below : List Frame} {meth : Method} {c : Code} {S : List fw_Sh} {M : fw_Mem} {a0 : Nat} {x1 : Int32} {x2 : Int32} {x3 : Int32} {x4 : Int32} {z0 : Int32} {z1 : Nat} {r : (Int32 × fw_Mem)} {o : fw_O} (C : fw_C G RX10 cX10_find 7 p s m args c) (hr : meth.sig.returnType = (some .int)) (hlk : meth.locks = false) (hl : l.stackTraces = false) (ht : ∀ x ∈ c.exceptionTable.toList, False) (ho : o = (.inl (some (.int r.1)), S, r.2)) (h : fj_X10_find_61 S M a0 x1 x2 x3 x4 z0 z1 = some r) :
    fw_W G p l e (fw_rm 3 (fw_mcO o) (fw_msO o)) s m args below meth c 7 (fw_Z G below args s (fw_mcO o) (fw_msO o) o) 0 0 61 [(0, .ref a0), (1, .int x1), (2, .int x2), (3, .int x3), (4, .int x4)] [.int z0, .ref z1] S M := by
  subst ho
  unfold fj_X10_find_61 at h
  obtain ⟨g7, h⟩ := gd_some h
  refine fw_putI C 10 6 (Nat.le_of_ble_eq_true rfl) (Nat.le_of_ble_eq_true rfl) wf_X10_51 rfl rfl rfl rfl (gO_of g7) dX10_find_61 ?_
  refine fw_bm h (fun M8 h => ?_)
  refine fw_aload_n C 0 dX10_find_64 rfl rfl ?_
  obtain ⟨g9, h⟩ := gd_some h
  refine fw_getI C 10 6 (Nat.le_of_ble_eq_true rfl) (Nat.le_of_ble_eq_true rfl) wf_X10_51 rfl (gO_of g9) dX10_find_65 ?_
  refine fw_if_le C 73 dX10_find_68 (by decide) (fun c10 => ?_) (fun c10 => ?_)
  · replace h := (if_pos c10).symm.trans h
    refine fw_aload_n C 0 dX10_find_73 rfl rfl ?_
    refine fw_iload_n C 1 dX10_find_74 rfl rfl ?_
    obtain ⟨v11, e11, h⟩ := b1_some h
    refine fw_callV (ci := 10) [_] C (c_X10_isJudged hl e11) cal_X10_isJudged wm_X10_69 wi_yX10_isJudged wsl_yX10_isJudged (Nat.le_of_ble_eq_true rfl) rfl (gO_of g9) rfl (Nat.le_of_ble_eq_true rfl) ⟨Nat.le_of_ble_eq_true rfl, Nat.le_of_ble_eq_true rfl⟩ ⟨Nat.zero_le _, Nat.zero_le _⟩ dX10_find_75 ?_
    refine fw_if_ne C 83 dX10_find_78 (by decide) (fun c12 => ?_) (fun c12 => ?_)
    · replace h := (if_neg c12).symm.trans h
      refine fw_aload_n C 0 dX10_find_83 rfl rfl ?_
      obtain ⟨M13, e13, h⟩ := b1_some h
      refine fw_callV (ci := 10) [] C (c_X10_keep hl e13) cal_X10_keep wm_X10_226 wi_yX10_keep wsl_yX10_keep (Nat.le_of_ble_eq_true rfl) rfl (gO_of g9) rfl (Nat.le_of_ble_eq_true rfl) ⟨Nat.le_of_ble_eq_true rfl, Nat.le_of_ble_eq_true rfl⟩ ⟨Nat.zero_le _, Nat.zero_le _⟩ dX10_find_84 ?_
      refine fw_aload_n C 0 dX10_find_87 rfl rfl ?_
      refine fw_iload_n C 1 dX10_find_88 rfl rfl ?_
      refine fw_iload_n C 2 dX10_find_89 rfl rfl ?_
      obtain ⟨v14, e14, h⟩ := b1_some h
      refine fw_callV (ci := 10) [_, _] C (c_X10_foundYes hl e14) cal_X10_foundYes wm_X10_128 wi_yX10_foundYes wsl_yX10_foundYes (Nat.le_of_ble_eq_true rfl) rfl (gO_of g9) rfl (Nat.le_of_ble_eq_true rfl) ⟨Nat.le_of_ble_eq_true rfl, Nat.le_of_ble_eq_true rfl⟩ ⟨Nat.zero_le _, Nat.zero_le _⟩ dX10_find_90 ?_
      refine fw_if_eq C 100 dX10_find_93 (by decide) (fun c15 => ?_) (fun c15 => ?_)
      · replace h := (if_pos c15).symm.trans h
        refine fw_aload_n C 0 dX10_find_100 rfl rfl ?_
        refine fw_iload_n C 1 dX10_find_101 rfl rfl ?_
        refine fw_bipush C 10 dX10_find_102 rfl ?_
        obtain ⟨v16, e16, h⟩ := b1_some h
        refine fw_callV (ci := 10) [_, _] C (c_X10_of hl e16) cal_X10_of wm_X10_65 wi_yX10_of wsl_yX10_of (Nat.le_of_ble_eq_true rfl) rfl (gO_of g9) rfl (Nat.le_of_ble_eq_true rfl) ⟨Nat.le_of_ble_eq_true rfl, Nat.le_of_ble_eq_true rfl⟩ ⟨Nat.zero_le _, Nat.zero_le _⟩ dX10_find_104 ?_
        refine fw_iload_n C 2 dX10_find_107 rfl rfl ?_
        obtain ⟨v17, e17, h⟩ := b1_some h
        refine fw_callS [_, _] C (c_X10_has hl e17) cal_X10_has wm_X10_98 wt_yX10_has rfl (Nat.le_of_ble_eq_true rfl) ⟨Nat.le_of_ble_eq_true rfl, Nat.le_of_ble_eq_true rfl⟩ ⟨Nat.zero_le _, Nat.zero_le _⟩ dX10_find_108 ?_
        refine fw_if_eq C 118 dX10_find_111 (by decide) (fun c18 => ?_) (fun c18 => ?_)
        · replace h := (if_pos c18).symm.trans h
          refine fw_iconst C (-1) dX10_find_118 rfl ?_
          exact jc_X10_find_119 C hr hlk hl ht rfl h
        · replace h := (if_neg c18).symm.trans h
          refine fw_iconst C 0 dX10_find_114 rfl ?_
          refine fw_goto C 119 dX10_find_115 (by decide) ?_
          exact jc_X10_find_119 C hr hlk hl ht rfl h
      · replace h := (if_neg c15).symm.trans h
        refine fw_iconst C 1 dX10_find_96 rfl ?_
        refine fw_goto C 119 dX10_find_97 (by decide) ?_
        exact jc_X10_find_119 C hr hlk hl ht rfl h
    · replace h := (if_pos c12).symm.trans h
      refine fw_iconst C (-1) dX10_find_81 rfl ?_
      obtain rfl := Option.some.inj h
      exact fw_iret C hr hlk dX10_find_82
  · replace h := (if_neg c10).symm.trans h
    refine fw_iconst C 0 dX10_find_71 rfl ?_
    obtain rfl := Option.some.inj h
    exact fw_iret C hr hlk dX10_find_72
set_option maxRecDepth 100000 in
def fj_X10_find_35 (S : List fw_Sh) (M : fw_Mem) (a0 : Nat) (x1 : Int32) (x2 : Int32) (x3 : Int32) (x4 : Int32) (z0 : Int32) : Option (Int32 × fw_Mem) := if z0 = 0 then fj_X10_find_61 S M a0 x1 x2 x3 x4 1 a0 else (b1 (f_X10_isIn S M x3 (-1) 1) (fun v5 => if v5 = 0 then fj_X10_find_61 S M a0 x1 x2 x3 x4 2 a0 else fj_X10_find_61 S M a0 x1 x2 x3 x4 0 a0))
set_option maxHeartbeats 4000000 in
set_option maxRecDepth 100000 in
theorem jc_X10_find_35 {G : fw_G} {p : Program} {l : Launch} {e : Env} {s : State} {m : MethodId} {args : Array Value} {below : List Frame} {meth : Method} {c : Code} {S : List fw_Sh} {M : fw_Mem} {a0 : Nat} {x1 : Int32} {x2 : Int32} {x3 : Int32} {x4 : Int32} {z0 : Int32} {r : (Int32 × fw_Mem)} {o : fw_O} (C : fw_C G RX10 cX10_find 7 p s m args c) (hr : meth.sig.returnType = (some .int)) (hlk : meth.locks = false) (hl : l.stackTraces = false) (ht : ∀ x ∈ c.exceptionTable.toList, False) (ho : o = (.inl (some (.int r.1)), S, r.2)) (h : fj_X10_find_35 S M a0 x1 x2 x3 x4 z0 = some r) :
    fw_W G p l e (fw_rm 3 (fw_mcO o) (fw_msO o)) s m args below meth c 7 (fw_Z G below args s (fw_mcO o) (fw_msO o) o) 0 0 35 [(0, .ref a0), (1, .int x1), (2, .int x2), (3, .int x3), (4, .int x4)] [.int z0] S M := by
  subst ho
  unfold fj_X10_find_35 at h
  refine fw_istore C [(5, _), (0, _), (1, _), (2, _), (3, _), (4, _)] dX10_find_35 (Nat.le_of_ble_eq_true rfl) rfl ?_
  refine fw_aload_n C 1 dX10_find_37 rfl rfl ?_
  refine fw_iload C 0 dX10_find_38 rfl ?_
  refine fw_if_ne C 47 dX10_find_40 (by decide) (fun c4 => ?_) (fun c4 => ?_)
  · replace h := (if_neg c4).symm.trans h
    refine fw_iload_n C 4 dX10_find_47 rfl rfl ?_
    refine fw_iconst C (-1) dX10_find_48 rfl ?_
    refine fw_iconst C 1 dX10_find_49 rfl ?_
    obtain ⟨v5, e5, h⟩ := b1_some h
    refine fw_callS [_, _, _] C (c_X10_isIn hl e5) cal_X10_isIn wm_X10_58 wt_yX10_isIn rfl (Nat.le_of_ble_eq_true rfl) ⟨Nat.le_of_ble_eq_true rfl, Nat.le_of_ble_eq_true rfl⟩ ⟨Nat.zero_le _, Nat.zero_le _⟩ dX10_find_50 ?_
    refine fw_if_ne C 60 dX10_find_53 (by decide) (fun c6 => ?_) (fun c6 => ?_)
    · replace h := (if_neg c6).symm.trans h
      refine fw_iconst C 0 dX10_find_60 rfl ?_
      refine fw_sub [1, 2, 3, 4, 5] rfl ?_
      exact jc_X10_find_61 C hr hlk hl ht rfl h
    · replace h := (if_pos c6).symm.trans h
      refine fw_iconst C 2 dX10_find_56 rfl ?_
      refine fw_goto C 61 dX10_find_57 (by decide) ?_
      refine fw_sub [1, 2, 3, 4, 5] rfl ?_
      exact jc_X10_find_61 C hr hlk hl ht rfl h
  · replace h := (if_pos c4).symm.trans h
    refine fw_iconst C 1 dX10_find_43 rfl ?_
    refine fw_goto C 61 dX10_find_44 (by decide) ?_
    refine fw_sub [1, 2, 3, 4, 5] rfl ?_
    exact jc_X10_find_61 C hr hlk hl ht rfl h
set_option maxRecDepth 100000 in
def f_X10_find (S : List fw_Sh) (M : fw_Mem) (a0 : Nat) (x1 : Int32) (x2 : Int32) (x3 : Int32) (x4 : Int32) : Option (Int32 × fw_Mem) := gd (gO S 10 a0) (b1 (f_X10_isSuit S M a0 x1) (fun v1 => if v1 = 0 then fj_X10_find_35 S M a0 x1 x2 x3 x4 0 else (b1 (f_X10_isIn S M x2 0 30) (fun v33 => if v33 = 0 then fj_X10_find_35 S M a0 x1 x2 x3 x4 0 else (b1 (f_X10_issuesOf S M a0 x1) (fun v35 => b1 (f_X10_has S M v35 x2) (fun v36 => if v36 = 0 then fj_X10_find_35 S M a0 x1 x2 x3 x4 0 else fj_X10_find_35 S M a0 x1 x2 x3 x4 1)))))))
set_option maxHeartbeats 4000000 in
set_option maxRecDepth 100000 in
theorem c_X10_find {l : Launch} {G : fw_G} {S : List fw_Sh} {M : fw_Mem} {a0 : Nat} {x1 : Int32} {x2 : Int32} {x3 : Int32} {x4 : Int32} {r : (Int32 × fw_Mem)} (hl : l.stackTraces = false) (h : f_X10_find S M a0 x1 x2 x3 x4 = some r) : fw_M l G yX10_find (.code yX10_find cX10_find 7 (some .int)) 3 (fw_mcO (.inl (some (.int r.1)), S, r.2)) (fw_msO (.inl (some (.int r.1)), S, r.2)) S M [.ref a0, .int x1, .int x2, .int x3, .int x4] (.inl (some (.int r.1)), S, r.2) := by
  refine fw_of [(0, .ref a0), (1, .int x1), (2, .int x2), (3, .int x3), (4, .int x4)] (by decide) (Nat.le_of_ble_eq_true rfl) rfl ?_
  intro p e s m args below meth c C hr hlk hnm ht _
  unfold f_X10_find at h
  refine fw_aload_n C 0 dX10_find_0 rfl rfl ?_
  refine fw_iload_n C 1 dX10_find_1 rfl rfl ?_
  obtain ⟨g2, h⟩ := gd_some h
  obtain ⟨v1, e1, h⟩ := b1_some h
  refine fw_callV (ci := 10) [_] C (c_X10_isSuit hl e1) cal_X10_isSuit wm_X10_177 wi_yX10_isSuit wsl_yX10_isSuit (Nat.le_of_ble_eq_true rfl) rfl (gO_of g2) rfl (Nat.le_of_ble_eq_true rfl) ⟨Nat.le_of_ble_eq_true rfl, Nat.le_of_ble_eq_true rfl⟩ ⟨Nat.zero_le _, Nat.zero_le _⟩ dX10_find_2 ?_
  refine fw_if_eq C 34 dX10_find_5 (by decide) (fun c3 => ?_) (fun c3 => ?_)
  · replace h := (if_pos c3).symm.trans h
    refine fw_iconst C 0 dX10_find_34 rfl ?_
    exact jc_X10_find_35 C hr hlk hl ht rfl h
  · replace h := (if_neg c3).symm.trans h
    refine fw_iload_n C 2 dX10_find_8 rfl rfl ?_
    refine fw_iconst C 0 dX10_find_9 rfl ?_
    refine fw_bipush C 30 dX10_find_10 rfl ?_
    obtain ⟨v33, e33, h⟩ := b1_some h
    refine fw_callS [_, _, _] C (c_X10_isIn hl e33) cal_X10_isIn wm_X10_58 wt_yX10_isIn rfl (Nat.le_of_ble_eq_true rfl) ⟨Nat.le_of_ble_eq_true rfl, Nat.le_of_ble_eq_true rfl⟩ ⟨Nat.zero_le _, Nat.zero_le _⟩ dX10_find_12 ?_
    refine fw_if_eq C 34 dX10_find_15 (by decide) (fun c34 => ?_) (fun c34 => ?_)
    · replace h := (if_pos c34).symm.trans h
      refine fw_iconst C 0 dX10_find_34 rfl ?_
      exact jc_X10_find_35 C hr hlk hl ht rfl h
    · replace h := (if_neg c34).symm.trans h
      refine fw_aload_n C 0 dX10_find_18 rfl rfl ?_
      refine fw_iload_n C 1 dX10_find_19 rfl rfl ?_
      obtain ⟨v35, e35, h⟩ := b1_some h
      refine fw_callV (ci := 10) [_] C (c_X10_issuesOf hl e35) cal_X10_issuesOf wm_X10_137 wi_yX10_issuesOf wsl_yX10_issuesOf (Nat.le_of_ble_eq_true rfl) rfl (gO_of g2) rfl (Nat.le_of_ble_eq_true rfl) ⟨Nat.le_of_ble_eq_true rfl, Nat.le_of_ble_eq_true rfl⟩ ⟨Nat.zero_le _, Nat.zero_le _⟩ dX10_find_20 ?_
      refine fw_iload_n C 2 dX10_find_23 rfl rfl ?_
      obtain ⟨v36, e36, h⟩ := b1_some h
      refine fw_callS [_, _] C (c_X10_has hl e36) cal_X10_has wm_X10_98 wt_yX10_has rfl (Nat.le_of_ble_eq_true rfl) ⟨Nat.le_of_ble_eq_true rfl, Nat.le_of_ble_eq_true rfl⟩ ⟨Nat.zero_le _, Nat.zero_le _⟩ dX10_find_24 ?_
      refine fw_if_eq C 34 dX10_find_27 (by decide) (fun c37 => ?_) (fun c37 => ?_)
      · replace h := (if_pos c37).symm.trans h
        refine fw_iconst C 0 dX10_find_34 rfl ?_
        exact jc_X10_find_35 C hr hlk hl ht rfl h
      · replace h := (if_neg c37).symm.trans h
        refine fw_iconst C 1 dX10_find_30 rfl ?_
        refine fw_goto C 35 dX10_find_31 (by decide) ?_
        exact jc_X10_find_35 C hr hlk hl ht rfl h
set_option maxRecDepth 100000 in
def fj_X10_reverse_14 (S : List fw_Sh) (M : fw_Mem) (a0 : Nat) (x1 : Int32) (z0 : Int32) (z1 : Nat) : Option (Int32 × fw_Mem) := gd (gO S 10 z1) (bm (fw_set M z1 6 z0) (fun M5 => gd (gO S 10 a0) (if (0 : Int32) < (M5 a0 6) then (some (0, M5)) else (b1 (f_X10_isJudged S M5 a0 x1) (fun v8 => if v8 = 0 then (some (0, M5)) else (b1 (f_X10_keep S M5 a0) (fun M10 => b1 (f_X10_of S M10 a0 x1 8) (fun v11 => b1 (f_X10_put S M10 a0 x1 8 ((1 : Int32) - v11)) (fun M12 => b1 (f_X10_isReversed S M12 a0 x1) (fun v13 => gd (gB v13) (some (v13, M12))))))))))))
set_option maxHeartbeats 4000000 in
set_option maxRecDepth 100000 in
theorem jc_X10_reverse_14 {G : fw_G} {p : Program} {l : Launch} {e : Env} {s : State} {m : MethodId} {args : Array Value} {below : List Frame} {meth : Method} {c : Code} {S : List fw_Sh} {M : fw_Mem} {a0 : Nat} {x1 : Int32} {z0 : Int32} {z1 : Nat} {r : (Int32 × fw_Mem)} {o : fw_O} (C : fw_C G RX10 cX10_reverse 2 p s m args c) (hr : meth.sig.returnType = (some .boolean)) (hlk : meth.locks = false) (hl : l.stackTraces = false) (ht : ∀ x ∈ c.exceptionTable.toList, False) (ho : o = (.inl (some (.int r.1)), S, r.2)) (h : fj_X10_reverse_14 S M a0 x1 z0 z1 = some r) :
    fw_W G p l e (fw_rm 3 (fw_mcO o) (fw_msO o)) s m args below meth c 2 (fw_Z G below args s (fw_mcO o) (fw_msO o) o) 0 0 14 [(0, .ref a0), (1, .int x1)] [.int z0, .ref z1] S M := by
  subst ho
  unfold fj_X10_reverse_14 at h
  obtain ⟨g4, h⟩ := gd_some h
  refine fw_putI C 10 6 (Nat.le_of_ble_eq_true rfl) (Nat.le_of_ble_eq_true rfl) wf_X10_51 rfl rfl rfl rfl (gO_of g4) dX10_reverse_14 ?_
  refine fw_bm h (fun M5 h => ?_)
  refine fw_aload_n C 0 dX10_reverse_17 rfl rfl ?_
  obtain ⟨g6, h⟩ := gd_some h
  refine fw_getI C 10 6 (Nat.le_of_ble_eq_true rfl) (Nat.le_of_ble_eq_true rfl) wf_X10_51 rfl (gO_of g6) dX10_reverse_18 ?_
  refine fw_if_gt C 32 dX10_reverse_21 (by decide) (fun c7 => ?_) (fun c7 => ?_)
  · replace h := (if_pos c7).symm.trans h
    refine fw_iconst C 0 dX10_reverse_32 rfl ?_
    obtain rfl := Option.some.inj h
    exact fw_zret C hr (Or.inl rfl) hlk dX10_reverse_33
  · replace h := (if_neg c7).symm.trans h
    refine fw_aload_n C 0 dX10_reverse_24 rfl rfl ?_
    refine fw_iload_n C 1 dX10_reverse_25 rfl rfl ?_
    obtain ⟨v8, e8, h⟩ := b1_some h
    refine fw_callV (ci := 10) [_] C (c_X10_isJudged hl e8) cal_X10_isJudged wm_X10_69 wi_yX10_isJudged wsl_yX10_isJudged (Nat.le_of_ble_eq_true rfl) rfl (gO_of g6) rfl (Nat.le_of_ble_eq_true rfl) ⟨Nat.le_of_ble_eq_true rfl, Nat.le_of_ble_eq_true rfl⟩ ⟨Nat.zero_le _, Nat.zero_le _⟩ dX10_reverse_26 ?_
    refine fw_if_ne C 34 dX10_reverse_29 (by decide) (fun c9 => ?_) (fun c9 => ?_)
    · replace h := (if_neg c9).symm.trans h
      refine fw_aload_n C 0 dX10_reverse_34 rfl rfl ?_
      obtain ⟨M10, e10, h⟩ := b1_some h
      refine fw_callV (ci := 10) [] C (c_X10_keep hl e10) cal_X10_keep wm_X10_226 wi_yX10_keep wsl_yX10_keep (Nat.le_of_ble_eq_true rfl) rfl (gO_of g6) rfl (Nat.le_of_ble_eq_true rfl) ⟨Nat.le_of_ble_eq_true rfl, Nat.le_of_ble_eq_true rfl⟩ ⟨Nat.zero_le _, Nat.zero_le _⟩ dX10_reverse_35 ?_
      refine fw_aload_n C 0 dX10_reverse_38 rfl rfl ?_
      refine fw_iload_n C 1 dX10_reverse_39 rfl rfl ?_
      refine fw_bipush C 8 dX10_reverse_40 rfl ?_
      refine fw_iconst C 1 dX10_reverse_42 rfl ?_
      refine fw_aload_n C 0 dX10_reverse_43 rfl rfl ?_
      refine fw_iload_n C 1 dX10_reverse_44 rfl rfl ?_
      refine fw_bipush C 8 dX10_reverse_45 rfl ?_
      obtain ⟨v11, e11, h⟩ := b1_some h
      refine fw_callV (ci := 10) [_, _] C (c_X10_of hl e11) cal_X10_of wm_X10_65 wi_yX10_of wsl_yX10_of (Nat.le_of_ble_eq_true rfl) rfl (gO_of g6) rfl (Nat.le_of_ble_eq_true rfl) ⟨Nat.le_of_ble_eq_true rfl, Nat.le_of_ble_eq_true rfl⟩ ⟨Nat.zero_le _, Nat.zero_le _⟩ dX10_reverse_47 ?_
      refine fw_isub C dX10_reverse_50 ?_
      obtain ⟨M12, e12, h⟩ := b1_some h
      refine fw_callV (ci := 10) [_, _, _] C (c_X10_put hl e12) cal_X10_put wm_X10_205 wi_yX10_put wsl_yX10_put (Nat.le_of_ble_eq_true rfl) rfl (gO_of g6) rfl (Nat.le_of_ble_eq_true rfl) ⟨Nat.le_of_ble_eq_true rfl, Nat.le_of_ble_eq_true rfl⟩ ⟨Nat.zero_le _, Nat.zero_le _⟩ dX10_reverse_51 ?_
      refine fw_aload_n C 0 dX10_reverse_54 rfl rfl ?_
      refine fw_iload_n C 1 dX10_reverse_55 rfl rfl ?_
      obtain ⟨v13, e13, h⟩ := b1_some h
      refine fw_callV (ci := 10) [_] C (c_X10_isReversed hl e13) cal_X10_isReversed wm_X10_86 wi_yX10_isReversed wsl_yX10_isReversed (Nat.le_of_ble_eq_true rfl) rfl (gO_of g6) rfl (Nat.le_of_ble_eq_true rfl) ⟨Nat.le_of_ble_eq_true rfl, Nat.le_of_ble_eq_true rfl⟩ ⟨Nat.zero_le _, Nat.zero_le _⟩ dX10_reverse_56 ?_
      obtain ⟨g14, h⟩ := gd_some h
      obtain rfl := Option.some.inj h
      exact fw_zret C hr (gB_of g14) hlk dX10_reverse_59
    · replace h := (if_pos c9).symm.trans h
      refine fw_iconst C 0 dX10_reverse_32 rfl ?_
      obtain rfl := Option.some.inj h
      exact fw_zret C hr (Or.inl rfl) hlk dX10_reverse_33
set_option maxRecDepth 100000 in
def f_X10_reverse (S : List fw_Sh) (M : fw_Mem) (a0 : Nat) (x1 : Int32) : Option (Int32 × fw_Mem) := gd (gO S 10 a0) (b1 (f_X10_isSuit S M a0 x1) (fun v1 => if v1 = 0 then fj_X10_reverse_14 S M a0 x1 1 a0 else fj_X10_reverse_14 S M a0 x1 0 a0))
set_option maxHeartbeats 4000000 in
set_option maxRecDepth 100000 in
theorem c_X10_reverse {l : Launch} {G : fw_G} {S : List fw_Sh} {M : fw_Mem} {a0 : Nat} {x1 : Int32} {r : (Int32 × fw_Mem)} (hl : l.stackTraces = false) (h : f_X10_reverse S M a0 x1 = some r) : fw_M l G yX10_reverse (.code yX10_reverse cX10_reverse 2 (some .boolean)) 3 (fw_mcO (.inl (some (.int r.1)), S, r.2)) (fw_msO (.inl (some (.int r.1)), S, r.2)) S M [.ref a0, .int x1] (.inl (some (.int r.1)), S, r.2) := by
  refine fw_of [(0, .ref a0), (1, .int x1)] (by decide) (Nat.le_of_ble_eq_true rfl) rfl ?_
  intro p e s m args below meth c C hr hlk hnm ht _
  unfold f_X10_reverse at h
  refine fw_aload_n C 0 dX10_reverse_0 rfl rfl ?_
  refine fw_aload_n C 0 dX10_reverse_1 rfl rfl ?_
  refine fw_iload_n C 1 dX10_reverse_2 rfl rfl ?_
  obtain ⟨g2, h⟩ := gd_some h
  obtain ⟨v1, e1, h⟩ := b1_some h
  refine fw_callV (ci := 10) [_] C (c_X10_isSuit hl e1) cal_X10_isSuit wm_X10_177 wi_yX10_isSuit wsl_yX10_isSuit (Nat.le_of_ble_eq_true rfl) rfl (gO_of g2) rfl (Nat.le_of_ble_eq_true rfl) ⟨Nat.le_of_ble_eq_true rfl, Nat.le_of_ble_eq_true rfl⟩ ⟨Nat.zero_le _, Nat.zero_le _⟩ dX10_reverse_3 ?_
  refine fw_if_ne C 13 dX10_reverse_6 (by decide) (fun c3 => ?_) (fun c3 => ?_)
  · replace h := (if_neg c3).symm.trans h
    refine fw_iconst C 0 dX10_reverse_13 rfl ?_
    exact jc_X10_reverse_14 C hr hlk hl ht rfl h
  · replace h := (if_pos c3).symm.trans h
    refine fw_iconst C 1 dX10_reverse_9 rfl ?_
    refine fw_goto C 14 dX10_reverse_10 (by decide) ?_
    exact jc_X10_reverse_14 C hr hlk hl ht rfl h
set_option maxRecDepth 100000 in
def f_X10_layLink (S : List fw_Sh) (M : fw_Mem) (a0 : Nat) (x1 : Int32) (x2 : Int32) (x3 : Int32) (x4 : Int32) (x5 : Int32) (x6 : Int32) : Option fw_Mem := bm ((78 : Int32) + ((5 : Int32) * x1)) (fun y1 => gd (gA S 0 a0 (y1 + 0)) (bm (fw_set M a0 (y1 + 0).toNatClampNeg x2) (fun M3 => gd (gA S 0 a0 (y1 + 1)) (bm (fw_set M3 a0 (y1 + 1).toNatClampNeg x3) (fun M5 => gd (gA S 0 a0 (y1 + 2)) (bm (fw_set M5 a0 (y1 + 2).toNatClampNeg x4) (fun M7 => gd (gA S 0 a0 (y1 + 3)) (bm (fw_set M7 a0 (y1 + 3).toNatClampNeg x5) (fun M9 => gd (gA S 0 a0 (y1 + 4)) (bm (fw_set M9 a0 (y1 + 4).toNatClampNeg x6) (fun M11 => some M11)))))))))))
set_option maxHeartbeats 4000000 in
set_option maxRecDepth 100000 in
theorem c_X10_layLink {l : Launch} {G : fw_G} {S : List fw_Sh} {M : fw_Mem} {a0 : Nat} {x1 : Int32} {x2 : Int32} {x3 : Int32} {x4 : Int32} {x5 : Int32} {x6 : Int32} {r : fw_Mem} (hl : l.stackTraces = false) (h : f_X10_layLink S M a0 x1 x2 x3 x4 x5 x6 = some r) : fw_M l G yX10_layLink (.code yX10_layLink cX10_layLink 8 none) 1 (fw_mcO (.inl none, S, r)) (fw_msO (.inl none, S, r)) S M [.ref a0, .int x1, .int x2, .int x3, .int x4, .int x5, .int x6] (.inl none, S, r) := by
  refine fw_of [(0, .ref a0), (1, .int x1), (2, .int x2), (3, .int x3), (4, .int x4), (5, .int x5), (6, .int x6)] (by decide) (Nat.le_of_ble_eq_true rfl) rfl ?_
  intro p e s m args below meth c C hr hlk hnm ht _
  unfold f_X10_layLink at h
  refine fw_bipush C 78 dX10_layLink_0 rfl ?_
  refine fw_iconst C 5 dX10_layLink_2 rfl ?_
  refine fw_iload_n C 1 dX10_layLink_3 rfl rfl ?_
  refine fw_imul C dX10_layLink_4 ?_
  refine fw_iadd C dX10_layLink_5 ?_
  refine fw_bi h (fun y1 h => ?_)
  refine fw_istore C [(7, _), (0, _), (1, _), (2, _), (3, _), (4, _), (5, _), (6, _)] dX10_layLink_6 (Nat.le_of_ble_eq_true rfl) rfl ?_
  refine fw_aload_n C 1 dX10_layLink_8 rfl rfl ?_
  refine fw_iload C 0 dX10_layLink_9 rfl ?_
  refine fw_iconst C 0 dX10_layLink_11 rfl ?_
  refine fw_iadd C dX10_layLink_12 ?_
  refine fw_iload_n C 3 dX10_layLink_13 rfl rfl ?_
  obtain ⟨g2, h⟩ := gd_some h
  refine fw_iast C (gA_of g2) dX10_layLink_14 ?_
  refine fw_bm h (fun M3 h => ?_)
  refine fw_aload_n C 1 dX10_layLink_15 rfl rfl ?_
  refine fw_iload C 0 dX10_layLink_16 rfl ?_
  refine fw_iconst C 1 dX10_layLink_18 rfl ?_
  refine fw_iadd C dX10_layLink_19 ?_
  refine fw_iload_n C 4 dX10_layLink_20 rfl rfl ?_
  obtain ⟨g4, h⟩ := gd_some h
  refine fw_iast C (gA_of g4) dX10_layLink_21 ?_
  refine fw_bm h (fun M5 h => ?_)
  refine fw_aload_n C 1 dX10_layLink_22 rfl rfl ?_
  refine fw_iload C 0 dX10_layLink_23 rfl ?_
  refine fw_iconst C 2 dX10_layLink_25 rfl ?_
  refine fw_iadd C dX10_layLink_26 ?_
  refine fw_iload C 5 dX10_layLink_27 rfl ?_
  obtain ⟨g6, h⟩ := gd_some h
  refine fw_iast C (gA_of g6) dX10_layLink_29 ?_
  refine fw_bm h (fun M7 h => ?_)
  refine fw_aload_n C 1 dX10_layLink_30 rfl rfl ?_
  refine fw_iload C 0 dX10_layLink_31 rfl ?_
  refine fw_iconst C 3 dX10_layLink_33 rfl ?_
  refine fw_iadd C dX10_layLink_34 ?_
  refine fw_iload C 6 dX10_layLink_35 rfl ?_
  obtain ⟨g8, h⟩ := gd_some h
  refine fw_iast C (gA_of g8) dX10_layLink_37 ?_
  refine fw_bm h (fun M9 h => ?_)
  refine fw_aload_n C 1 dX10_layLink_38 rfl rfl ?_
  refine fw_iload C 0 dX10_layLink_39 rfl ?_
  refine fw_iconst C 4 dX10_layLink_41 rfl ?_
  refine fw_iadd C dX10_layLink_42 ?_
  refine fw_iload C 7 dX10_layLink_43 rfl ?_
  obtain ⟨g10, h⟩ := gd_some h
  refine fw_iast C (gA_of g10) dX10_layLink_45 ?_
  refine fw_bm h (fun M11 h => ?_)
  obtain rfl := Option.some.inj h
  exact fw_vret C hr hlk dX10_layLink_46
set_option maxRecDepth 100000 in
def fj_X10_tie_145 (S : List fw_Sh) (M : fw_Mem) (a0 : Nat) (z0 : Int32) (z1 : Int32) (z2 : Int32) (z3 : Int32) (z4 : Int32) (z5 : Int32) (z6 : Nat) : Option (Int32 × fw_Mem) := b1 (f_X10_layLink S M z6 z5 z4 z3 z2 z1 z0) (fun M18 => gd (gO S 10 a0) (gd (gN (M18 a0 0)) (gd (gA S 0 ((M18 a0 0).toNatClampNeg) 1) (bm (fw_set M18 ((M18 a0 0).toNatClampNeg) 1 ((M18 ((M18 a0 0).toNatClampNeg) 1) + 1)) (fun M22 => b1 (f_X10_links S M22 a0) (fun v23 => some ((v23 - 1), M22)))))))
set_option maxHeartbeats 4000000 in
set_option maxRecDepth 100000 in
theorem jc_X10_tie_145 {G : fw_G} {p : Program} {l : Launch} {e : Env} {s : State} {m : MethodId} {args : Array Value} {below : List Frame} {meth : Method} {c : Code} {S : List fw_Sh} {M : fw_Mem} {a0 : Nat} {z0 : Int32} {z1 : Int32} {z2 : Int32} {z3 : Int32} {z4 : Int32} {z5 : Int32} {z6 : Nat} {r : (Int32 × fw_Mem)} {o : fw_O} (C : fw_C G RX10 cX10_tie 7 p s m args c) (hr : meth.sig.returnType = (some .int)) (hlk : meth.locks = false) (hl : l.stackTraces = false) (ht : ∀ x ∈ c.exceptionTable.toList, False) (ho : o = (.inl (some (.int r.1)), S, r.2)) (h : fj_X10_tie_145 S M a0 z0 z1 z2 z3 z4 z5 z6 = some r) :
    fw_W G p l e (fw_rm 3 (fw_mcO o) (fw_msO o)) s m args below meth c 7 (fw_Z G below args s (fw_mcO o) (fw_msO o) o) 0 0 145 [(0, .ref a0)] [.int z0, .int z1, .int z2, .int z3, .int z4, .int z5, .ref z6] S M := by
  subst ho
  unfold fj_X10_tie_145 at h
  obtain ⟨M18, e18, h⟩ := b1_some h
  refine fw_callS [_, _, _, _, _, _, _] C (c_X10_layLink hl e18) cal_X10_layLink wm_X10_233 wt_yX10_layLink rfl (Nat.le_of_ble_eq_true rfl) ⟨Nat.le_of_ble_eq_true rfl, Nat.le_of_ble_eq_true rfl⟩ ⟨Nat.zero_le _, Nat.zero_le _⟩ dX10_tie_145 ?_
  refine fw_aload_n C 0 dX10_tie_148 rfl rfl ?_
  obtain ⟨g19, h⟩ := gd_some h
  obtain ⟨g20, h⟩ := gd_some h
  refine fw_getR C 10 0 (Nat.le_of_ble_eq_true rfl) (Nat.le_of_ble_eq_true rfl) wf_X10_9 rfl (gO_of g19) (gN_of g20) dX10_tie_149 ?_
  refine fw_iconst C 1 dX10_tie_152 rfl ?_
  refine fw_dup2 C dX10_tie_153 rfl rfl ?_
  obtain ⟨g21, h⟩ := gd_some h
  refine fw_iald C (gA_of g21) dX10_tie_154 ?_
  refine fw_iconst C 1 dX10_tie_155 rfl ?_
  refine fw_iadd C dX10_tie_156 ?_
  refine fw_iast C (gA_of g21) dX10_tie_157 ?_
  refine fw_bm h (fun M22 h => ?_)
  refine fw_aload_n C 0 dX10_tie_158 rfl rfl ?_
  obtain ⟨v23, e23, h⟩ := b1_some h
  refine fw_callV (ci := 10) [] C (c_X10_links hl e23) cal_X10_links wm_X10_95 wi_yX10_links wsl_yX10_links (Nat.le_of_ble_eq_true rfl) rfl (gO_of g19) rfl (Nat.le_of_ble_eq_true rfl) ⟨Nat.le_of_ble_eq_true rfl, Nat.le_of_ble_eq_true rfl⟩ ⟨Nat.zero_le _, Nat.zero_le _⟩ dX10_tie_159 ?_
  refine fw_iconst C 1 dX10_tie_162 rfl ?_
  refine fw_isub C dX10_tie_163 ?_
  obtain rfl := Option.some.inj h
  exact fw_iret C hr hlk dX10_tie_164
set_option maxRecDepth 100000 in
def fj_X10_tie_131 (S : List fw_Sh) (M : fw_Mem) (a0 : Nat) (x3 : Int32) (x4 : Int32) (x5 : Int32) (z0 : Int32) (z1 : Int32) (z2 : Int32) (z3 : Int32) (z4 : Nat) : Option (Int32 × fw_Mem) := if x5 = 0 then fj_X10_tie_145 S M a0 x4 x3 z0 z1 z2 z3 z4 else fj_X10_tie_145 S M a0 9999 x3 z0 z1 z2 z3 z4
set_option maxHeartbeats 4000000 in
set_option maxRecDepth 100000 in
theorem jc_X10_tie_131 {G : fw_G} {p : Program} {l : Launch} {e : Env} {s : State} {m : MethodId} {args : Array Value} {below : List Frame} {meth : Method} {c : Code} {S : List fw_Sh} {M : fw_Mem} {a0 : Nat} {x3 : Int32} {x4 : Int32} {x5 : Int32} {z0 : Int32} {z1 : Int32} {z2 : Int32} {z3 : Int32} {z4 : Nat} {r : (Int32 × fw_Mem)} {o : fw_O} (C : fw_C G RX10 cX10_tie 7 p s m args c) (hr : meth.sig.returnType = (some .int)) (hlk : meth.locks = false) (hl : l.stackTraces = false) (ht : ∀ x ∈ c.exceptionTable.toList, False) (ho : o = (.inl (some (.int r.1)), S, r.2)) (h : fj_X10_tie_131 S M a0 x3 x4 x5 z0 z1 z2 z3 z4 = some r) :
    fw_W G p l e (fw_rm 3 (fw_mcO o) (fw_msO o)) s m args below meth c 7 (fw_Z G below args s (fw_mcO o) (fw_msO o) o) 0 0 131 [(0, .ref a0), (3, .int x3), (4, .int x4), (5, .int x5)] [.int z0, .int z1, .int z2, .int z3, .ref z4] S M := by
  subst ho
  unfold fj_X10_tie_131 at h
  refine fw_iload_n C 1 dX10_tie_131 rfl rfl ?_
  refine fw_iload C 3 dX10_tie_132 rfl ?_
  refine fw_if_eq C 143 dX10_tie_134 (by decide) (fun c17 => ?_) (fun c17 => ?_)
  · replace h := (if_pos c17).symm.trans h
    refine fw_iload C 2 dX10_tie_143 rfl ?_
    refine fw_sub [0] rfl ?_
    exact jc_X10_tie_145 C hr hlk hl ht rfl h
  · replace h := (if_neg c17).symm.trans h
    refine fw_sipush C 9999 dX10_tie_137 rfl ?_
    refine fw_goto C 145 dX10_tie_140 (by decide) ?_
    refine fw_sub [0] rfl ?_
    exact jc_X10_tie_145 C hr hlk hl ht rfl h
set_option maxRecDepth 100000 in
def fj_X10_tie_84 (S : List fw_Sh) (M : fw_Mem) (a0 : Nat) (x1 : Int32) (x2 : Int32) (x3 : Int32) (x4 : Int32) (x5 : Int32) (z0 : Int32) (z1 : Nat) : Option (Int32 × fw_Mem) := gd (gO S 10 z1) (bm (fw_set M z1 6 z0) (fun M8 => gd (gO S 10 a0) (if (M8 a0 6) ≤ 0 then (b1 (f_X10_links S M8 a0) (fun v11 => if v11 = 24 then (some ((-1), M8)) else (b1 (f_X10_keep S M8 a0) (fun M13 => gd (gN (M13 a0 0)) (b1 (f_X10_links S M13 a0) (fun v15 => if x5 = 0 then fj_X10_tie_131 S M13 a0 x3 x4 x5 1 x2 x1 v15 ((M13 a0 0).toNatClampNeg) else fj_X10_tie_131 S M13 a0 x3 x4 x5 0 x2 x1 v15 ((M13 a0 0).toNatClampNeg))))))) else (some (0, M8)))))
set_option maxHeartbeats 4000000 in
set_option maxRecDepth 100000 in
theorem jc_X10_tie_84 {G : fw_G} {p : Program} {l : Launch} {e : Env} {s : State} {m : MethodId} {args : Array Value} {below : List Frame} {meth : Method} {c : Code} {S : List fw_Sh} {M : fw_Mem} {a0 : Nat} {x1 : Int32} {x2 : Int32} {x3 : Int32} {x4 : Int32} {x5 : Int32} {z0 : Int32} {z1 : Nat} {r : (Int32 × fw_Mem)} {o : fw_O} (C : fw_C G RX10 cX10_tie 7 p s m args c) (hr : meth.sig.returnType = (some .int)) (hlk : meth.locks = false) (hl : l.stackTraces = false) (ht : ∀ x ∈ c.exceptionTable.toList, False) (ho : o = (.inl (some (.int r.1)), S, r.2)) (h : fj_X10_tie_84 S M a0 x1 x2 x3 x4 x5 z0 z1 = some r) :
    fw_W G p l e (fw_rm 3 (fw_mcO o) (fw_msO o)) s m args below meth c 7 (fw_Z G below args s (fw_mcO o) (fw_msO o) o) 0 0 84 [(0, .ref a0), (1, .int x1), (2, .int x2), (3, .int x3), (4, .int x4), (5, .int x5)] [.int z0, .ref z1] S M := by
  subst ho
  unfold fj_X10_tie_84 at h
  obtain ⟨g7, h⟩ := gd_some h
  refine fw_putI C 10 6 (Nat.le_of_ble_eq_true rfl) (Nat.le_of_ble_eq_true rfl) wf_X10_51 rfl rfl rfl rfl (gO_of g7) dX10_tie_84 ?_
  refine fw_bm h (fun M8 h => ?_)
  refine fw_aload_n C 0 dX10_tie_87 rfl rfl ?_
  obtain ⟨g9, h⟩ := gd_some h
  refine fw_getI C 10 6 (Nat.le_of_ble_eq_true rfl) (Nat.le_of_ble_eq_true rfl) wf_X10_51 rfl (gO_of g9) dX10_tie_88 ?_
  refine fw_if_le C 96 dX10_tie_91 (by decide) (fun c10 => ?_) (fun c10 => ?_)
  · replace h := (if_pos c10).symm.trans h
    refine fw_aload_n C 0 dX10_tie_96 rfl rfl ?_
    obtain ⟨v11, e11, h⟩ := b1_some h
    refine fw_callV (ci := 10) [] C (c_X10_links hl e11) cal_X10_links wm_X10_95 wi_yX10_links wsl_yX10_links (Nat.le_of_ble_eq_true rfl) rfl (gO_of g9) rfl (Nat.le_of_ble_eq_true rfl) ⟨Nat.le_of_ble_eq_true rfl, Nat.le_of_ble_eq_true rfl⟩ ⟨Nat.zero_le _, Nat.zero_le _⟩ dX10_tie_97 ?_
    refine fw_bipush C 24 dX10_tie_100 rfl ?_
    refine fw_icmp_ne C 107 dX10_tie_102 (by decide) (fun c12 => ?_) (fun c12 => ?_)
    · replace h := (if_neg c12).symm.trans h
      refine fw_aload_n C 0 dX10_tie_107 rfl rfl ?_
      obtain ⟨M13, e13, h⟩ := b1_some h
      refine fw_callV (ci := 10) [] C (c_X10_keep hl e13) cal_X10_keep wm_X10_226 wi_yX10_keep wsl_yX10_keep (Nat.le_of_ble_eq_true rfl) rfl (gO_of g9) rfl (Nat.le_of_ble_eq_true rfl) ⟨Nat.le_of_ble_eq_true rfl, Nat.le_of_ble_eq_true rfl⟩ ⟨Nat.zero_le _, Nat.zero_le _⟩ dX10_tie_108 ?_
      refine fw_aload_n C 0 dX10_tie_111 rfl rfl ?_
      obtain ⟨g14, h⟩ := gd_some h
      refine fw_getR C 10 0 (Nat.le_of_ble_eq_true rfl) (Nat.le_of_ble_eq_true rfl) wf_X10_9 rfl (gO_of g9) (gN_of g14) dX10_tie_112 ?_
      refine fw_aload_n C 0 dX10_tie_115 rfl rfl ?_
      obtain ⟨v15, e15, h⟩ := b1_some h
      refine fw_callV (ci := 10) [] C (c_X10_links hl e15) cal_X10_links wm_X10_95 wi_yX10_links wsl_yX10_links (Nat.le_of_ble_eq_true rfl) rfl (gO_of g9) rfl (Nat.le_of_ble_eq_true rfl) ⟨Nat.le_of_ble_eq_true rfl, Nat.le_of_ble_eq_true rfl⟩ ⟨Nat.zero_le _, Nat.zero_le _⟩ dX10_tie_116 ?_
      refine fw_iload_n C 1 dX10_tie_119 rfl rfl ?_
      refine fw_iload_n C 2 dX10_tie_120 rfl rfl ?_
      refine fw_iload C 5 dX10_tie_121 rfl ?_
      refine fw_if_eq C 130 dX10_tie_123 (by decide) (fun c16 => ?_) (fun c16 => ?_)
      · replace h := (if_pos c16).symm.trans h
        refine fw_iconst C 1 dX10_tie_130 rfl ?_
        refine fw_sub [0, 3, 4, 5] rfl ?_
        exact jc_X10_tie_131 C hr hlk hl ht rfl h
      · replace h := (if_neg c16).symm.trans h
        refine fw_iconst C 0 dX10_tie_126 rfl ?_
        refine fw_goto C 131 dX10_tie_127 (by decide) ?_
        refine fw_sub [0, 3, 4, 5] rfl ?_
        exact jc_X10_tie_131 C hr hlk hl ht rfl h
    · replace h := (if_pos c12).symm.trans h
      refine fw_iconst C (-1) dX10_tie_105 rfl ?_
      obtain rfl := Option.some.inj h
      exact fw_iret C hr hlk dX10_tie_106
  · replace h := (if_neg c10).symm.trans h
    refine fw_iconst C 0 dX10_tie_94 rfl ?_
    obtain rfl := Option.some.inj h
    exact fw_iret C hr hlk dX10_tie_95
set_option maxRecDepth 100000 in
def fj_X10_tie_46 (S : List fw_Sh) (M : fw_Mem) (a0 : Nat) (x1 : Int32) (x2 : Int32) (x3 : Int32) (x4 : Int32) (x5 : Int32) (z0 : Int32) : Option (Int32 × fw_Mem) := gd (gO S 10 a0) (b1 (f_X10_isPerson S M a0 x1) (fun v4 => if v4 = 0 then fj_X10_tie_84 S M a0 x1 x2 x3 x4 x5 1 a0 else (b1 (f_X10_isPerson S M a0 x2) (fun v24 => if v24 = 0 then fj_X10_tie_84 S M a0 x1 x2 x3 x4 x5 1 a0 else (if x1 = x2 then fj_X10_tie_84 S M a0 x1 x2 x3 x4 x5 1 a0 else (if z0 = 0 then fj_X10_tie_84 S M a0 x1 x2 x3 x4 x5 2 a0 else fj_X10_tie_84 S M a0 x1 x2 x3 x4 x5 0 a0))))))
set_option maxHeartbeats 4000000 in
set_option maxRecDepth 100000 in
theorem jc_X10_tie_46 {G : fw_G} {p : Program} {l : Launch} {e : Env} {s : State} {m : MethodId} {args : Array Value} {below : List Frame} {meth : Method} {c : Code} {S : List fw_Sh} {M : fw_Mem} {a0 : Nat} {x1 : Int32} {x2 : Int32} {x3 : Int32} {x4 : Int32} {x5 : Int32} {z0 : Int32} {r : (Int32 × fw_Mem)} {o : fw_O} (C : fw_C G RX10 cX10_tie 7 p s m args c) (hr : meth.sig.returnType = (some .int)) (hlk : meth.locks = false) (hl : l.stackTraces = false) (ht : ∀ x ∈ c.exceptionTable.toList, False) (ho : o = (.inl (some (.int r.1)), S, r.2)) (h : fj_X10_tie_46 S M a0 x1 x2 x3 x4 x5 z0 = some r) :
    fw_W G p l e (fw_rm 3 (fw_mcO o) (fw_msO o)) s m args below meth c 7 (fw_Z G below args s (fw_mcO o) (fw_msO o) o) 0 0 46 [(0, .ref a0), (1, .int x1), (2, .int x2), (3, .int x3), (4, .int x4), (5, .int x5)] [.int z0] S M := by
  subst ho
  unfold fj_X10_tie_46 at h
  refine fw_istore C [(6, _), (0, _), (1, _), (2, _), (3, _), (4, _), (5, _)] dX10_tie_46 (Nat.le_of_ble_eq_true rfl) rfl ?_
  refine fw_aload_n C 1 dX10_tie_48 rfl rfl ?_
  refine fw_aload_n C 1 dX10_tie_49 rfl rfl ?_
  refine fw_iload_n C 2 dX10_tie_50 rfl rfl ?_
  obtain ⟨g5, h⟩ := gd_some h
  obtain ⟨v4, e4, h⟩ := b1_some h
  refine fw_callV (ci := 10) [_] C (c_X10_isPerson hl e4) cal_X10_isPerson wm_X10_174 wi_yX10_isPerson wsl_yX10_isPerson (Nat.le_of_ble_eq_true rfl) rfl (gO_of g5) rfl (Nat.le_of_ble_eq_true rfl) ⟨Nat.le_of_ble_eq_true rfl, Nat.le_of_ble_eq_true rfl⟩ ⟨Nat.zero_le _, Nat.zero_le _⟩ dX10_tie_51 ?_
  refine fw_if_eq C 70 dX10_tie_54 (by decide) (fun c6 => ?_) (fun c6 => ?_)
  · replace h := (if_pos c6).symm.trans h
    refine fw_iconst C 1 dX10_tie_70 rfl ?_
    refine fw_goto C 84 dX10_tie_71 (by decide) ?_
    refine fw_sub [1, 2, 3, 4, 5, 6] rfl ?_
    exact jc_X10_tie_84 C hr hlk hl ht rfl h
  · replace h := (if_neg c6).symm.trans h
    refine fw_aload_n C 1 dX10_tie_57 rfl rfl ?_
    refine fw_iload_n C 3 dX10_tie_58 rfl rfl ?_
    obtain ⟨v24, e24, h⟩ := b1_some h
    refine fw_callV (ci := 10) [_] C (c_X10_isPerson hl e24) cal_X10_isPerson wm_X10_174 wi_yX10_isPerson wsl_yX10_isPerson (Nat.le_of_ble_eq_true rfl) rfl (gO_of g5) rfl (Nat.le_of_ble_eq_true rfl) ⟨Nat.le_of_ble_eq_true rfl, Nat.le_of_ble_eq_true rfl⟩ ⟨Nat.zero_le _, Nat.zero_le _⟩ dX10_tie_59 ?_
    refine fw_if_eq C 70 dX10_tie_62 (by decide) (fun c25 => ?_) (fun c25 => ?_)
    · replace h := (if_pos c25).symm.trans h
      refine fw_iconst C 1 dX10_tie_70 rfl ?_
      refine fw_goto C 84 dX10_tie_71 (by decide) ?_
      refine fw_sub [1, 2, 3, 4, 5, 6] rfl ?_
      exact jc_X10_tie_84 C hr hlk hl ht rfl h
    · replace h := (if_neg c25).symm.trans h
      refine fw_iload_n C 2 dX10_tie_65 rfl rfl ?_
      refine fw_iload_n C 3 dX10_tie_66 rfl rfl ?_
      refine fw_icmp_ne C 74 dX10_tie_67 (by decide) (fun c26 => ?_) (fun c26 => ?_)
      · replace h := (if_neg c26).symm.trans h
        refine fw_iload C 0 dX10_tie_74 rfl ?_
        refine fw_if_ne C 83 dX10_tie_76 (by decide) (fun c27 => ?_) (fun c27 => ?_)
        · replace h := (if_neg c27).symm.trans h
          refine fw_iconst C 0 dX10_tie_83 rfl ?_
          refine fw_sub [1, 2, 3, 4, 5, 6] rfl ?_
          exact jc_X10_tie_84 C hr hlk hl ht rfl h
        · replace h := (if_pos c27).symm.trans h
          refine fw_iconst C 2 dX10_tie_79 rfl ?_
          refine fw_goto C 84 dX10_tie_80 (by decide) ?_
          refine fw_sub [1, 2, 3, 4, 5, 6] rfl ?_
          exact jc_X10_tie_84 C hr hlk hl ht rfl h
      · replace h := (if_pos c26).symm.trans h
        refine fw_iconst C 1 dX10_tie_70 rfl ?_
        refine fw_goto C 84 dX10_tie_71 (by decide) ?_
        refine fw_sub [1, 2, 3, 4, 5, 6] rfl ?_
        exact jc_X10_tie_84 C hr hlk hl ht rfl h
set_option maxRecDepth 100000 in
def fj_X10_tie_11 (S : List fw_Sh) (M : fw_Mem) (a0 : Nat) (x1 : Int32) (x2 : Int32) (x3 : Int32) (x4 : Int32) (z0 : Int32) : Option (Int32 × fw_Mem) := b1 (f_X10_isIn S M x3 0 9999) (fun v2 => if v2 = 0 then fj_X10_tie_46 S M a0 x1 x2 x3 x4 z0 0 else (if z0 = 0 then (b1 (f_X10_isIn S M x4 x3 9999) (fun v29 => if v29 = 0 then fj_X10_tie_46 S M a0 x1 x2 x3 x4 z0 0 else fj_X10_tie_46 S M a0 x1 x2 x3 x4 z0 1)) else fj_X10_tie_46 S M a0 x1 x2 x3 x4 z0 1))
set_option maxHeartbeats 4000000 in
set_option maxRecDepth 100000 in
theorem jc_X10_tie_11 {G : fw_G} {p : Program} {l : Launch} {e : Env} {s : State} {m : MethodId} {args : Array Value} {below : List Frame} {meth : Method} {c : Code} {S : List fw_Sh} {M : fw_Mem} {a0 : Nat} {x1 : Int32} {x2 : Int32} {x3 : Int32} {x4 : Int32} {z0 : Int32} {r : (Int32 × fw_Mem)} {o : fw_O} (C : fw_C G RX10 cX10_tie 7 p s m args c) (hr : meth.sig.returnType = (some .int)) (hlk : meth.locks = false) (hl : l.stackTraces = false) (ht : ∀ x ∈ c.exceptionTable.toList, False) (ho : o = (.inl (some (.int r.1)), S, r.2)) (h : fj_X10_tie_11 S M a0 x1 x2 x3 x4 z0 = some r) :
    fw_W G p l e (fw_rm 3 (fw_mcO o) (fw_msO o)) s m args below meth c 7 (fw_Z G below args s (fw_mcO o) (fw_msO o) o) 0 0 11 [(0, .ref a0), (1, .int x1), (2, .int x2), (3, .int x3), (4, .int x4)] [.int z0] S M := by
  subst ho
  unfold fj_X10_tie_11 at h
  refine fw_istore C [(5, _), (0, _), (1, _), (2, _), (3, _), (4, _)] dX10_tie_11 (Nat.le_of_ble_eq_true rfl) rfl ?_
  refine fw_iload_n C 4 dX10_tie_13 rfl rfl ?_
  refine fw_iconst C 0 dX10_tie_14 rfl ?_
  refine fw_sipush C 9999 dX10_tie_15 rfl ?_
  obtain ⟨v2, e2, h⟩ := b1_some h
  refine fw_callS [_, _, _] C (c_X10_isIn hl e2) cal_X10_isIn wm_X10_58 wt_yX10_isIn rfl (Nat.le_of_ble_eq_true rfl) ⟨Nat.le_of_ble_eq_true rfl, Nat.le_of_ble_eq_true rfl⟩ ⟨Nat.zero_le _, Nat.zero_le _⟩ dX10_tie_18 ?_
  refine fw_if_eq C 45 dX10_tie_21 (by decide) (fun c3 => ?_) (fun c3 => ?_)
  · replace h := (if_pos c3).symm.trans h
    refine fw_iconst C 0 dX10_tie_45 rfl ?_
    refine fw_sub [1, 2, 3, 4, 5, 0] rfl ?_
    exact jc_X10_tie_46 C hr hlk hl ht rfl h
  · replace h := (if_neg c3).symm.trans h
    refine fw_iload C 0 dX10_tie_24 rfl ?_
    refine fw_if_ne C 41 dX10_tie_26 (by decide) (fun c28 => ?_) (fun c28 => ?_)
    · replace h := (if_neg c28).symm.trans h
      refine fw_iconst C 1 dX10_tie_41 rfl ?_
      refine fw_goto C 46 dX10_tie_42 (by decide) ?_
      refine fw_sub [1, 2, 3, 4, 5, 0] rfl ?_
      exact jc_X10_tie_46 C hr hlk hl ht rfl h
    · replace h := (if_pos c28).symm.trans h
      refine fw_iload C 5 dX10_tie_29 rfl ?_
      refine fw_iload_n C 4 dX10_tie_31 rfl rfl ?_
      refine fw_sipush C 9999 dX10_tie_32 rfl ?_
      obtain ⟨v29, e29, h⟩ := b1_some h
      refine fw_callS [_, _, _] C (c_X10_isIn hl e29) cal_X10_isIn wm_X10_58 wt_yX10_isIn rfl (Nat.le_of_ble_eq_true rfl) ⟨Nat.le_of_ble_eq_true rfl, Nat.le_of_ble_eq_true rfl⟩ ⟨Nat.zero_le _, Nat.zero_le _⟩ dX10_tie_35 ?_
      refine fw_if_eq C 45 dX10_tie_38 (by decide) (fun c30 => ?_) (fun c30 => ?_)
      · replace h := (if_pos c30).symm.trans h
        refine fw_iconst C 0 dX10_tie_45 rfl ?_
        refine fw_sub [1, 2, 3, 4, 5, 0] rfl ?_
        exact jc_X10_tie_46 C hr hlk hl ht rfl h
      · replace h := (if_neg c30).symm.trans h
        refine fw_iconst C 1 dX10_tie_41 rfl ?_
        refine fw_goto C 46 dX10_tie_42 (by decide) ?_
        refine fw_sub [1, 2, 3, 4, 5, 0] rfl ?_
        exact jc_X10_tie_46 C hr hlk hl ht rfl h
set_option maxRecDepth 100000 in
def f_X10_tie (S : List fw_Sh) (M : fw_Mem) (a0 : Nat) (x1 : Int32) (x2 : Int32) (x3 : Int32) (x4 : Int32) : Option (Int32 × fw_Mem) := if x4 = (-1) then fj_X10_tie_11 S M a0 x1 x2 x3 x4 1 else fj_X10_tie_11 S M a0 x1 x2 x3 x4 0
set_option maxHeartbeats 4000000 in
set_option maxRecDepth 100000 in
theorem c_X10_tie {l : Launch} {G : fw_G} {S : List fw_Sh} {M : fw_Mem} {a0 : Nat} {x1 : Int32} {x2 : Int32} {x3 : Int32} {x4 : Int32} {r : (Int32 × fw_Mem)} (hl : l.stackTraces = false) (h : f_X10_tie S M a0 x1 x2 x3 x4 = some r) : fw_M l G yX10_tie (.code yX10_tie cX10_tie 7 (some .int)) 3 (fw_mcO (.inl (some (.int r.1)), S, r.2)) (fw_msO (.inl (some (.int r.1)), S, r.2)) S M [.ref a0, .int x1, .int x2, .int x3, .int x4] (.inl (some (.int r.1)), S, r.2) := by
  refine fw_of [(0, .ref a0), (1, .int x1), (2, .int x2), (3, .int x3), (4, .int x4)] (by decide) (Nat.le_of_ble_eq_true rfl) rfl ?_
  intro p e s m args below meth c C hr hlk hnm ht _
  unfold f_X10_tie at h
  refine fw_iload C 4 dX10_tie_0 rfl ?_
  refine fw_iconst C (-1) dX10_tie_2 rfl ?_
  refine fw_icmp_ne C 10 dX10_tie_3 (by decide) (fun c1 => ?_) (fun c1 => ?_)
  · replace h := (if_neg c1).symm.trans h
    refine fw_iconst C 0 dX10_tie_10 rfl ?_
    exact jc_X10_tie_11 C hr hlk hl ht rfl h
  · replace h := (if_pos c1).symm.trans h
    refine fw_iconst C 1 dX10_tie_6 rfl ?_
    refine fw_goto C 11 dX10_tie_7 (by decide) ?_
    exact jc_X10_tie_11 C hr hlk hl ht rfl h
