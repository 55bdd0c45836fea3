set_option maxRecDepth 100000 in
def f_X10_letter (S : List fw_Sh) (M : fw_Mem) (a0 : Nat) (x1 : Int32) (x2 : Int32) : Option (Int32 × fw_Mem) := gd (gO S 10 a0) (bm (fw_set M a0 6 0) (fun M2 => b1 (f_X10_isPerson S M2 a0 x1) (fun v3 => if v3 = 0 then (b2 (f_X10_fail S M2 a0 1) (fun v5 M5 => some (v5, M5))) else (b1 (f_X10_isIn S M2 x2 0 5) (fun v6 => if v6 = 0 then (b2 (f_X10_fail S M2 a0 1) (fun v8 M8 => some (v8, M8))) else (gd (gN (M2 a0 0)) (gd (gA S 0 ((M2 a0 0).toNatClampNeg) (((6 : Int32) + ((6 : Int32) * x1)) + x2)) (some ((M2 ((M2 a0 0).toNatClampNeg) (((6 : Int32) + ((6 : Int32) * x1)) + x2).toNatClampNeg), M2)))))))))
set_option maxHeartbeats 4000000 in
set_option maxRecDepth 100000 in
theorem c_X10_letter {l : Launch} {G : fw_G} {S : List fw_Sh} {M : fw_Mem} {a0 : Nat} {x1 : Int32} {x2 : Int32} {r : (Int32 × fw_Mem)} (hl : l.stackTraces = false) (h : f_X10_letter S M a0 x1 x2 = some r) : fw_M l G yX10_letter (.code yX10_letter cX10_letter 3 (some .int)) 3 (fw_mcO (.inl (some (.int r.1)), S, r.2)) (fw_msO (.inl (some (.int r.1)), S, r.2)) S M [.ref a0, .int x1, .int x2] (.inl (some (.int r.1)), S, r.2) := by
  refine fw_of [(0, .ref a0), (1, .int x1), (2, .int x2)] (by decide) (Nat.le_of_ble_eq_true rfl) rfl ?_
  intro p e s m args below meth c C hr hlk hnm ht _
  unfold f_X10_letter at h
  refine fw_aload_n C 0 dX10_letter_0 rfl rfl ?_
  refine fw_iconst C 0 dX10_letter_1 rfl ?_
  obtain ⟨g1, h⟩ := gd_some h
  refine fw_putI C 10 6 (Nat.le_of_ble_eq_true rfl) (Nat.le_of_ble_eq_true rfl) wf_X10_51 rfl rfl rfl rfl (gO_of g1) dX10_letter_2 ?_
  refine fw_bm h (fun M2 h => ?_)
  refine fw_aload_n C 0 dX10_letter_5 rfl rfl ?_
  refine fw_iload_n C 1 dX10_letter_6 rfl rfl ?_
  obtain ⟨v3, e3, h⟩ := b1_some h
  refine fw_callV (ci := 10) [_] C (c_X10_isPerson hl e3) cal_X10_isPerson wm_X10_174 wi_yX10_isPerson wsl_yX10_isPerson (Nat.le_of_ble_eq_true rfl) rfl (gO_of g1) rfl (Nat.le_of_ble_eq_true rfl) ⟨Nat.le_of_ble_eq_true rfl, Nat.le_of_ble_eq_true rfl⟩ ⟨Nat.zero_le _, Nat.zero_le _⟩ dX10_letter_7 ?_
  refine fw_if_eq C 39 dX10_letter_10 (by decide) (fun c4 => ?_) (fun c4 => ?_)
  · replace h := (if_pos c4).symm.trans h
    refine fw_aload_n C 0 dX10_letter_39 rfl rfl ?_
    refine fw_iconst C 1 dX10_letter_40 rfl ?_
    obtain ⟨v5, M5, e5, h⟩ := b2_some h
    refine fw_callV (ci := 10) [_] C (c_X10_fail hl e5) cal_X10_fail wm_X10_171 wi_yX10_fail wsl_yX10_fail (Nat.le_of_ble_eq_true rfl) rfl (gO_of g1) rfl (Nat.le_of_ble_eq_true rfl) ⟨Nat.le_of_ble_eq_true rfl, Nat.le_of_ble_eq_true rfl⟩ ⟨Nat.zero_le _, Nat.zero_le _⟩ dX10_letter_41 ?_
    obtain rfl := Option.some.inj h
    exact fw_iret C hr hlk dX10_letter_44
  · replace h := (if_neg c4).symm.trans h
    refine fw_iload_n C 2 dX10_letter_13 rfl rfl ?_
    refine fw_iconst C 0 dX10_letter_14 rfl ?_
    refine fw_iconst C 5 dX10_letter_15 rfl ?_
    obtain ⟨v6, e6, h⟩ := b1_some h
    refine fw_callS [_, _, _] C (c_X10_isIn hl e6) cal_X10_isIn wm_X10_58 wt_yX10_isIn rfl (Nat.le_of_ble_eq_true rfl) ⟨Nat.le_of_ble_eq_true rfl, Nat.le_of_ble_eq_true rfl⟩ ⟨Nat.zero_le _, Nat.zero_le _⟩ dX10_letter_16 ?_
    refine fw_if_eq C 39 dX10_letter_19 (by decide) (fun c7 => ?_) (fun c7 => ?_)
    · replace h := (if_pos c7).symm.trans h
      refine fw_aload_n C 0 dX10_letter_39 rfl rfl ?_
      refine fw_iconst C 1 dX10_letter_40 rfl ?_
      obtain ⟨v8, M8, e8, h⟩ := b2_some h
      refine fw_callV (ci := 10) [_] C (c_X10_fail hl e8) cal_X10_fail wm_X10_171 wi_yX10_fail wsl_yX10_fail (Nat.le_of_ble_eq_true rfl) rfl (gO_of g1) rfl (Nat.le_of_ble_eq_true rfl) ⟨Nat.le_of_ble_eq_true rfl, Nat.le_of_ble_eq_true rfl⟩ ⟨Nat.zero_le _, Nat.zero_le _⟩ dX10_letter_41 ?_
      obtain rfl := Option.some.inj h
      exact fw_iret C hr hlk dX10_letter_44
    · replace h := (if_neg c7).symm.trans h
      refine fw_aload_n C 0 dX10_letter_22 rfl rfl ?_
      obtain ⟨g9, h⟩ := gd_some h
      refine fw_getR C 10 0 (Nat.le_of_ble_eq_true rfl) (Nat.le_of_ble_eq_true rfl) wf_X10_9 rfl (gO_of g1) (gN_of g9) dX10_letter_23 ?_
      refine fw_bipush C 6 dX10_letter_26 rfl ?_
      refine fw_bipush C 6 dX10_letter_28 rfl ?_
      refine fw_iload_n C 1 dX10_letter_30 rfl rfl ?_
      refine fw_imul C dX10_letter_31 ?_
      refine fw_iadd C dX10_letter_32 ?_
      refine fw_iload_n C 2 dX10_letter_33 rfl rfl ?_
      refine fw_iadd C dX10_letter_34 ?_
      obtain ⟨g10, h⟩ := gd_some h
      refine fw_iald C (gA_of g10) dX10_letter_35 ?_
      refine fw_goto C 44 dX10_letter_36 (by decide) ?_
      obtain rfl := Option.some.inj h
      exact fw_iret C hr hlk dX10_letter_44
set_option maxRecDepth 100000 in
def f_X10_link (S : List fw_Sh) (M : fw_Mem) (a0 : Nat) (x1 : Int32) (x2 : Int32) : Option (Int32 × fw_Mem) := gd (gO S 10 a0) (bm (fw_set M a0 6 0) (fun M2 => b1 (f_X10_links S M2 a0) (fun v3 => b1 (f_X10_isIn S M2 x1 0 (v3 - 1)) (fun v4 => if v4 = 0 then (b2 (f_X10_fail S M2 a0 1) (fun v6 M6 => some (v6, M6))) else (b1 (f_X10_isIn S M2 x2 0 4) (fun v7 => if v7 = 0 then (b2 (f_X10_fail S M2 a0 1) (fun v9 M9 => some (v9, M9))) else (b1 (f_X10_linkOf S M2 a0 x1 x2) (fun v10 => some (v10, M2)))))))))
set_option maxHeartbeats 4000000 in
set_option maxRecDepth 100000 in
theorem c_X10_link {l : Launch} {G : fw_G} {S : List fw_Sh} {M : fw_Mem} {a0 : Nat} {x1 : Int32} {x2 : Int32} {r : (Int32 × fw_Mem)} (hl : l.stackTraces = false) (h : f_X10_link S M a0 x1 x2 = some r) : fw_M l G yX10_link (.code yX10_link cX10_link 3 (some .int)) 2 (fw_mcO (.inl (some (.int r.1)), S, r.2)) (fw_msO (.inl (some (.int r.1)), S, r.2)) S M [.ref a0, .int x1, .int x2] (.inl (some (.int r.1)), S, r.2) := by
  refine fw_of [(0, .ref a0), (1, .int x1), (2, .int x2)] (by decide) (Nat.le_of_ble_eq_true rfl) rfl ?_
  intro p e s m args below meth c C hr hlk hnm ht _
  unfold f_X10_link at h
  refine fw_aload_n C 0 dX10_link_0 rfl rfl ?_
  refine fw_iconst C 0 dX10_link_1 rfl ?_
  obtain ⟨g1, h⟩ := gd_some h
  refine fw_putI C 10 6 (Nat.le_of_ble_eq_true rfl) (Nat.le_of_ble_eq_true rfl) wf_X10_51 rfl rfl rfl rfl (gO_of g1) dX10_link_2 ?_
  refine fw_bm h (fun M2 h => ?_)
  refine fw_iload_n C 1 dX10_link_5 rfl rfl ?_
  refine fw_iconst C 0 dX10_link_6 rfl ?_
  refine fw_aload_n C 0 dX10_link_7 rfl rfl ?_
  obtain ⟨v3, e3, h⟩ := b1_some h
  refine fw_callV (ci := 10) [] C (c_X10_links hl e3) cal_X10_links wm_X10_95 wi_yX10_links wsl_yX10_links (Nat.le_of_ble_eq_true rfl) rfl (gO_of g1) rfl (Nat.le_of_ble_eq_true rfl) ⟨Nat.le_of_ble_eq_true rfl, Nat.le_of_ble_eq_true rfl⟩ ⟨Nat.zero_le _, Nat.zero_le _⟩ dX10_link_8 ?_
  refine fw_iconst C 1 dX10_link_11 rfl ?_
  refine fw_isub C dX10_link_12 ?_
  obtain ⟨v4, e4, h⟩ := b1_some h
  refine fw_callS [_, _, _] C (c_X10_isIn hl e4) cal_X10_isIn wm_X10_58 wt_yX10_isIn rfl (Nat.le_of_ble_eq_true rfl) ⟨Nat.le_of_ble_eq_true rfl, Nat.le_of_ble_eq_true rfl⟩ ⟨Nat.zero_le _, Nat.zero_le _⟩ dX10_link_13 ?_
  refine fw_if_eq C 37 dX10_link_16 (by decide) (fun c5 => ?_) (fun c5 => ?_)
  · replace h := (if_pos c5).symm.trans h
    refine fw_aload_n C 0 dX10_link_37 rfl rfl ?_
    refine fw_iconst C 1 dX10_link_38 rfl ?_
    obtain ⟨v6, M6, e6, h⟩ := b2_some h
    refine fw_callV (ci := 10) [_] C (c_X10_fail hl e6) cal_X10_fail wm_X10_171 wi_yX10_fail wsl_yX10_fail (Nat.le_of_ble_eq_true rfl) rfl (gO_of g1) rfl (Nat.le_of_ble_eq_true rfl) ⟨Nat.le_of_ble_eq_true rfl, Nat.le_of_ble_eq_true rfl⟩ ⟨Nat.zero_le _, Nat.zero_le _⟩ dX10_link_39 ?_
    obtain rfl := Option.some.inj h
    exact fw_iret C hr hlk dX10_link_42
  · replace h := (if_neg c5).symm.trans h
    refine fw_iload_n C 2 dX10_link_19 rfl rfl ?_
    refine fw_iconst C 0 dX10_link_20 rfl ?_
    refine fw_iconst C 4 dX10_link_21 rfl ?_
    obtain ⟨v7, e7, h⟩ := b1_some h
    refine fw_callS [_, _, _] C (c_X10_isIn hl e7) cal_X10_isIn wm_X10_58 wt_yX10_isIn rfl (Nat.le_of_ble_eq_true rfl) ⟨Nat.le_of_ble_eq_true rfl, Nat.le_of_ble_eq_true rfl⟩ ⟨Nat.zero_le _, Nat.zero_le _⟩ dX10_link_22 ?_
    refine fw_if_eq C 37 dX10_link_25 (by decide) (fun c8 => ?_) (fun c8 => ?_)
    · replace h := (if_pos c8).symm.trans h
      refine fw_aload_n C 0 dX10_link_37 rfl rfl ?_
      refine fw_iconst C 1 dX10_link_38 rfl ?_
      obtain ⟨v9, M9, e9, h⟩ := b2_some h
      refine fw_callV (ci := 10) [_] C (c_X10_fail hl e9) cal_X10_fail wm_X10_171 wi_yX10_fail wsl_yX10_fail (Nat.le_of_ble_eq_true rfl) rfl (gO_of g1) rfl (Nat.le_of_ble_eq_true rfl) ⟨Nat.le_of_ble_eq_true rfl, Nat.le_of_ble_eq_true rfl⟩ ⟨Nat.zero_le _, Nat.zero_le _⟩ dX10_link_39 ?_
      obtain rfl := Option.some.inj h
      exact fw_iret C hr hlk dX10_link_42
    · replace h := (if_neg c8).symm.trans h
      refine fw_aload_n C 0 dX10_link_28 rfl rfl ?_
      refine fw_iload_n C 1 dX10_link_29 rfl rfl ?_
      refine fw_iload_n C 2 dX10_link_30 rfl rfl ?_
      obtain ⟨v10, e10, h⟩ := b1_some h
      refine fw_callV (ci := 10) [_, _] C (c_X10_linkOf hl e10) cal_X10_linkOf wm_X10_92 wi_yX10_linkOf wsl_yX10_linkOf (Nat.le_of_ble_eq_true rfl) rfl (gO_of g1) rfl (Nat.le_of_ble_eq_true rfl) ⟨Nat.le_of_ble_eq_true rfl, Nat.le_of_ble_eq_true rfl⟩ ⟨Nat.zero_le _, Nat.zero_le _⟩ dX10_link_31 ?_
      refine fw_goto C 42 dX10_link_34 (by decide) ?_
      obtain rfl := Option.some.inj h
      exact fw_iret C hr hlk dX10_link_42
set_option maxRecDepth 100000 in
def f_X10_suit (S : List fw_Sh) (M : fw_Mem) (a0 : Nat) (x1 : Int32) (x2 : Int32) : Option (Int32 × fw_Mem) := gd (gO S 10 a0) (bm (fw_set M a0 6 0) (fun M2 => b1 (f_X10_isSuit S M2 a0 x1) (fun v3 => if v3 = 0 then (b2 (f_X10_fail S M2 a0 1) (fun v5 M5 => some (v5, M5))) else (b1 (f_X10_isIn S M2 x2 0 14) (fun v6 => if v6 = 0 then (b2 (f_X10_fail S M2 a0 1) (fun v15 M15 => some (v15, M15))) else (if x2 = 12 then (b1 (f_X10_winsOf S M2 a0 x1) (fun v9 => some (v9, M2))) else (if x2 = 13 then (b1 (f_X10_necessaryOf S M2 a0 x1) (fun v11 => some (v11, M2))) else (if x2 = 14 then (b1 (f_X10_settledOf S M2 a0 x1) (fun v13 => some (v13, M2))) else (b1 (f_X10_of S M2 a0 x1 x2) (fun v14 => some (v14, M2)))))))))))
set_option maxHeartbeats 4000000 in
set_option maxRecDepth 100000 in
theorem c_X10_suit {l : Launch} {G : fw_G} {S : List fw_Sh} {M : fw_Mem} {a0 : Nat} {x1 : Int32} {x2 : Int32} {r : (Int32 × fw_Mem)} (hl : l.stackTraces = false) (h : f_X10_suit S M a0 x1 x2 = some r) : fw_M l G yX10_suit (.code yX10_suit cX10_suit 3 (some .int)) 7 (fw_mcO (.inl (some (.int r.1)), S, r.2)) (fw_msO (.inl (some (.int r.1)), S, r.2)) S M [.ref a0, .int x1, .int x2] (.inl (some (.int r.1)), S, r.2) := by
  refine fw_of [(0, .ref a0), (1, .int x1), (2, .int x2)] (by decide) (Nat.le_of_ble_eq_true rfl) rfl ?_
  intro p e s m args below meth c C hr hlk hnm ht _
  unfold f_X10_suit at h
  refine fw_aload_n C 0 dX10_suit_0 rfl rfl ?_
  refine fw_iconst C 0 dX10_suit_1 rfl ?_
  obtain ⟨g1, h⟩ := gd_some h
  refine fw_putI C 10 6 (Nat.le_of_ble_eq_true rfl) (Nat.le_of_ble_eq_true rfl) wf_X10_51 rfl rfl rfl rfl (gO_of g1) dX10_suit_2 ?_
  refine fw_bm h (fun M2 h => ?_)
  refine fw_aload_n C 0 dX10_suit_5 rfl rfl ?_
  refine fw_iload_n C 1 dX10_suit_6 rfl rfl ?_
  obtain ⟨v3, e3, h⟩ := b1_some h
  refine fw_callV (ci := 10) [_] C (c_X10_isSuit hl e3) cal_X10_isSuit wm_X10_177 wi_yX10_isSuit wsl_yX10_isSuit (Nat.le_of_ble_eq_true rfl) rfl (gO_of g1) rfl (Nat.le_of_ble_eq_true rfl) ⟨Nat.le_of_ble_eq_true rfl, Nat.le_of_ble_eq_true rfl⟩ ⟨Nat.zero_le _, Nat.zero_le _⟩ dX10_suit_7 ?_
  refine fw_if_eq C 23 dX10_suit_10 (by decide) (fun c4 => ?_) (fun c4 => ?_)
  · replace h := (if_pos c4).symm.trans h
    refine fw_aload_n C 0 dX10_suit_23 rfl rfl ?_
    refine fw_iconst C 1 dX10_suit_24 rfl ?_
    obtain ⟨v5, M5, e5, h⟩ := b2_some h
    refine fw_callV (ci := 10) [_] C (c_X10_fail hl e5) cal_X10_fail wm_X10_171 wi_yX10_fail wsl_yX10_fail (Nat.le_of_ble_eq_true rfl) rfl (gO_of g1) rfl (Nat.le_of_ble_eq_true rfl) ⟨Nat.le_of_ble_eq_true rfl, Nat.le_of_ble_eq_true rfl⟩ ⟨Nat.zero_le _, Nat.zero_le _⟩ dX10_suit_25 ?_
    obtain rfl := Option.some.inj h
    exact fw_iret C hr hlk dX10_suit_28
  · replace h := (if_neg c4).symm.trans h
    refine fw_iload_n C 2 dX10_suit_13 rfl rfl ?_
    refine fw_iconst C 0 dX10_suit_14 rfl ?_
    refine fw_bipush C 14 dX10_suit_15 rfl ?_
    obtain ⟨v6, e6, h⟩ := b1_some h
    refine fw_callS [_, _, _] C (c_X10_isIn hl e6) cal_X10_isIn wm_X10_58 wt_yX10_isIn rfl (Nat.le_of_ble_eq_true rfl) ⟨Nat.le_of_ble_eq_true rfl, Nat.le_of_ble_eq_true rfl⟩ ⟨Nat.zero_le _, Nat.zero_le _⟩ dX10_suit_17 ?_
    refine fw_if_ne C 29 dX10_suit_20 (by decide) (fun c7 => ?_) (fun c7 => ?_)
    · replace h := (if_neg c7).symm.trans h
      refine fw_iload_n C 2 dX10_suit_29 rfl rfl ?_
      by_cases c8 : x2 = 12
      · replace h := (if_pos c8).symm.trans h
        refine fw_tableIn C 12 56 dX10_suit_30 c8 (by decide) (by decide) rfl (by decide) ?_
        refine fw_aload_n C 0 dX10_suit_56 rfl rfl ?_
        refine fw_iload_n C 1 dX10_suit_57 rfl rfl ?_
        obtain ⟨v9, e9, h⟩ := b1_some h
        refine fw_callV (ci := 10) [_] C (c_X10_winsOf hl e9) cal_X10_winsOf wm_X10_76 wi_yX10_winsOf wsl_yX10_winsOf (Nat.le_of_ble_eq_true rfl) rfl (gO_of g1) rfl (Nat.le_of_ble_eq_true rfl) ⟨Nat.le_of_ble_eq_true rfl, Nat.le_of_ble_eq_true rfl⟩ ⟨Nat.zero_le _, Nat.zero_le _⟩ dX10_suit_58 ?_
        obtain rfl := Option.some.inj h
        exact fw_iret C hr hlk dX10_suit_61
      replace h := (if_neg c8).symm.trans h
      by_cases c10 : x2 = 13
      · replace h := (if_pos c10).symm.trans h
        refine fw_tableIn C 13 62 dX10_suit_30 c10 (by decide) (by decide) rfl (by decide) ?_
        refine fw_aload_n C 0 dX10_suit_62 rfl rfl ?_
        refine fw_iload_n C 1 dX10_suit_63 rfl rfl ?_
        obtain ⟨v11, e11, h⟩ := b1_some h
        refine fw_callV (ci := 10) [_] C (c_X10_necessaryOf hl e11) cal_X10_necessaryOf wm_X10_89 wi_yX10_necessaryOf wsl_yX10_necessaryOf (Nat.le_of_ble_eq_true rfl) rfl (gO_of g1) rfl (Nat.le_of_ble_eq_true rfl) ⟨Nat.le_of_ble_eq_true rfl, Nat.le_of_ble_eq_true rfl⟩ ⟨Nat.zero_le _, Nat.zero_le _⟩ dX10_suit_64 ?_
        obtain rfl := Option.some.inj h
        exact fw_iret C hr hlk dX10_suit_67
      replace h := (if_neg c10).symm.trans h
      by_cases c12 : x2 = 14
      · replace h := (if_pos c12).symm.trans h
        refine fw_tableIn C 14 68 dX10_suit_30 c12 (by decide) (by decide) rfl (by decide) ?_
        refine fw_aload_n C 0 dX10_suit_68 rfl rfl ?_
        refine fw_iload_n C 1 dX10_suit_69 rfl rfl ?_
        obtain ⟨v13, e13, h⟩ := b1_some h
        refine fw_callV (ci := 10) [_] C (c_X10_settledOf hl e13) cal_X10_settledOf wm_X10_125 wi_yX10_settledOf wsl_yX10_settledOf (Nat.le_of_ble_eq_true rfl) rfl (gO_of g1) rfl (Nat.le_of_ble_eq_true rfl) ⟨Nat.le_of_ble_eq_true rfl, Nat.le_of_ble_eq_true rfl⟩ ⟨Nat.zero_le _, Nat.zero_le _⟩ dX10_suit_70 ?_
        obtain rfl := Option.some.inj h
        exact fw_iret C hr hlk dX10_suit_73
      replace h := (if_neg c12).symm.trans h
      have qc8 := lv_neT c8 (a := 12) rfl
      have qc10 := lv_neT c10 (a := 13) rfl
      have qc12 := lv_neT c12 (a := 14) rfl
      refine fw_tableOut C 74 dX10_suit_30 (by omega) (by decide) ?_
      refine fw_aload_n C 0 dX10_suit_74 rfl rfl ?_
      refine fw_iload_n C 1 dX10_suit_75 rfl rfl ?_
      refine fw_iload_n C 2 dX10_suit_76 rfl rfl ?_
      obtain ⟨v14, e14, h⟩ := b1_some h
      refine fw_callV (ci := 10) [_, _] C (c_X10_of hl e14) cal_X10_of wm_X10_65 wi_yX10_of wsl_yX10_of (Nat.le_of_ble_eq_true rfl) rfl (gO_of g1) rfl (Nat.le_of_ble_eq_true rfl) ⟨Nat.le_of_ble_eq_true rfl, Nat.le_of_ble_eq_true rfl⟩ ⟨Nat.zero_le _, Nat.zero_le _⟩ dX10_suit_77 ?_
      obtain rfl := Option.some.inj h
      exact fw_iret C hr hlk dX10_suit_80
    · replace h := (if_pos c7).symm.trans h
      refine fw_aload_n C 0 dX10_suit_23 rfl rfl ?_
      refine fw_iconst C 1 dX10_suit_24 rfl ?_
      obtain ⟨v15, M15, e15, h⟩ := b2_some h
      refine fw_callV (ci := 10) [_] C (c_X10_fail hl e15) cal_X10_fail wm_X10_171 wi_yX10_fail wsl_yX10_fail (Nat.le_of_ble_eq_true rfl) rfl (gO_of g1) rfl (Nat.le_of_ble_eq_true rfl) ⟨Nat.le_of_ble_eq_true rfl, Nat.le_of_ble_eq_true rfl⟩ ⟨Nat.zero_le _, Nat.zero_le _⟩ dX10_suit_25 ?_
      obtain rfl := Option.some.inj h
      exact fw_iret C hr hlk dX10_suit_28
set_option maxRecDepth 100000 in
def fj_X10_isBound_31 (S : List fw_Sh) (M : fw_Mem) (a0 : Nat) (x1 : Int32) (x2 : Int32) (x3 : Int32) (z0 : Int32) (z1 : Nat) : Option (Int32 × fw_Mem) := gd (gO S 10 z1) (bm (fw_set M z1 6 z0) (fun M5 => gd (gO S 10 a0) (if (M5 a0 6) = 0 then (b1 (f_X10_isJudged S M5 a0 x1) (fun v8 => if v8 = 0 then (some (0, M5)) else (b1 (f_X10_boundBy S M5 a0 x1 x2) (fun v10 => b1 (f_X10_has S M5 v10 x3) (fun v11 => if v11 = 0 then (some (0, M5)) else (some (1, M5))))))) else (some (0, M5)))))
set_option maxHeartbeats 4000000 in
set_option maxRecDepth 100000 in
theorem jc_X10_isBound_31 {G : fw_G} {p : Program} {l : Launch} {e : Env} {s : State} {m : MethodId} {args : Array Value} {below : List Frame} {meth : Method} {c : Code} {S : List fw_Sh} {M : fw_Mem} {a0 : Nat} {x1 : Int32} {x2 : Int32} {x3 : Int32} {z0 : Int32} {z1 : Nat} {r : (Int32 × fw_Mem)} {o : fw_O} (C : fw_C G RX10 cX10_isBound 4 p s m args c) (hr : meth.sig.returnType = (some .boolean)) (hlk : meth.locks = false) (hl : l.stackTraces = false) (ht : ∀ x ∈ c.exceptionTable.toList, False) (ho : o = (.inl (some (.int r.1)), S, r.2)) (h : fj_X10_isBound_31 S M a0 x1 x2 x3 z0 z1 = some r) :
    fw_W G p l e (fw_rm 4 (fw_mcO o) (fw_msO o)) s m args below meth c 4 (fw_Z G below args s (fw_mcO o) (fw_msO o) o) 0 0 31 [(0, .ref a0), (1, .int x1), (2, .int x2), (3, .int x3)] [.int z0, .ref z1] S M := by
  subst ho
  unfold fj_X10_isBound_31 at h
  obtain ⟨g4, h⟩ := gd_some h
  refine fw_putI C 10 6 (Nat.le_of_ble_eq_true rfl) (Nat.le_of_ble_eq_true rfl) wf_X10_51 rfl rfl rfl rfl (gO_of g4) dX10_isBound_31 ?_
  refine fw_bm h (fun M5 h => ?_)
  refine fw_aload_n C 0 dX10_isBound_34 rfl rfl ?_
  obtain ⟨g6, h⟩ := gd_some h
  refine fw_getI C 10 6 (Nat.le_of_ble_eq_true rfl) (Nat.le_of_ble_eq_true rfl) wf_X10_51 rfl (gO_of g6) dX10_isBound_35 ?_
  refine fw_if_ne C 66 dX10_isBound_38 (by decide) (fun c7 => ?_) (fun c7 => ?_)
  · replace h := (if_neg c7).symm.trans h
    refine fw_iconst C 0 dX10_isBound_66 rfl ?_
    obtain rfl := Option.some.inj h
    exact fw_zret C hr (Or.inl rfl) hlk dX10_isBound_67
  · replace h := (if_pos c7).symm.trans h
    refine fw_aload_n C 0 dX10_isBound_41 rfl rfl ?_
    refine fw_iload_n C 1 dX10_isBound_42 rfl rfl ?_
    obtain ⟨v8, e8, h⟩ := b1_some h
    refine fw_callV (ci := 10) [_] C (c_X10_isJudged hl e8) cal_X10_isJudged wm_X10_69 wi_yX10_isJudged wsl_yX10_isJudged (Nat.le_of_ble_eq_true rfl) rfl (gO_of g6) rfl (Nat.le_of_ble_eq_true rfl) ⟨Nat.le_of_ble_eq_true rfl, Nat.le_of_ble_eq_true rfl⟩ ⟨Nat.zero_le _, Nat.zero_le _⟩ dX10_isBound_43 ?_
    refine fw_if_eq C 66 dX10_isBound_46 (by decide) (fun c9 => ?_) (fun c9 => ?_)
    · replace h := (if_pos c9).symm.trans h
      refine fw_iconst C 0 dX10_isBound_66 rfl ?_
      obtain rfl := Option.some.inj h
      exact fw_zret C hr (Or.inl rfl) hlk dX10_isBound_67
    · replace h := (if_neg c9).symm.trans h
      refine fw_aload_n C 0 dX10_isBound_49 rfl rfl ?_
      refine fw_iload_n C 1 dX10_isBound_50 rfl rfl ?_
      refine fw_iload_n C 2 dX10_isBound_51 rfl rfl ?_
      obtain ⟨v10, e10, h⟩ := b1_some h
      refine fw_callV (ci := 10) [_, _] C (c_X10_boundBy hl e10) cal_X10_boundBy wm_X10_105 wi_yX10_boundBy wsl_yX10_boundBy (Nat.le_of_ble_eq_true rfl) rfl (gO_of g6) rfl (Nat.le_of_ble_eq_true rfl) ⟨Nat.le_of_ble_eq_true rfl, Nat.le_of_ble_eq_true rfl⟩ ⟨Nat.zero_le _, Nat.zero_le _⟩ dX10_isBound_52 ?_
      refine fw_iload_n C 3 dX10_isBound_55 rfl rfl ?_
      obtain ⟨v11, e11, h⟩ := b1_some h
      refine fw_callS [_, _] C (c_X10_has hl e11) cal_X10_has wm_X10_98 wt_yX10_has rfl (Nat.le_of_ble_eq_true rfl) ⟨Nat.le_of_ble_eq_true rfl, Nat.le_of_ble_eq_true rfl⟩ ⟨Nat.zero_le _, Nat.zero_le _⟩ dX10_isBound_56 ?_
      refine fw_if_eq C 66 dX10_isBound_59 (by decide) (fun c12 => ?_) (fun c12 => ?_)
      · replace h := (if_pos c12).symm.trans h
        refine fw_iconst C 0 dX10_isBound_66 rfl ?_
        obtain rfl := Option.some.inj h
        exact fw_zret C hr (Or.inl rfl) hlk dX10_isBound_67
      · replace h := (if_neg c12).symm.trans h
        refine fw_iconst C 1 dX10_isBound_62 rfl ?_
        refine fw_goto C 67 dX10_isBound_63 (by decide) ?_
        obtain rfl := Option.some.inj h
        exact fw_zret C hr (Or.inr rfl) hlk dX10_isBound_67
set_option maxRecDepth 100000 in
def f_X10_isBound (S : List fw_Sh) (M : fw_Mem) (a0 : Nat) (x1 : Int32) (x2 : Int32) (x3 : Int32) : Option (Int32 × fw_Mem) := gd (gO S 10 a0) (b1 (f_X10_isSuit S M a0 x1) (fun v1 => if v1 = 0 then fj_X10_isBound_31 S M a0 x1 x2 x3 1 a0 else (b1 (f_X10_isIn S M x2 0 1) (fun v13 => if v13 = 0 then fj_X10_isBound_31 S M a0 x1 x2 x3 1 a0 else (b1 (f_X10_isPerson S M a0 x3) (fun v15 => if v15 = 0 then fj_X10_isBound_31 S M a0 x1 x2 x3 1 a0 else fj_X10_isBound_31 S M a0 x1 x2 x3 0 a0))))))
set_option maxHeartbeats 4000000 in
set_option maxRecDepth 100000 in
theorem c_X10_isBound {l : Launch} {G : fw_G} {S : List fw_Sh} {M : fw_Mem} {a0 : Nat} {x1 : Int32} {x2 : Int32} {x3 : Int32} {r : (Int32 × fw_Mem)} (hl : l.stackTraces = false) (h : f_X10_isBound S M a0 x1 x2 x3 = some r) : fw_M l G yX10_isBound (.code yX10_isBound cX10_isBound 4 (some .boolean)) 4 (fw_mcO (.inl (some (.int r.1)), S, r.2)) (fw_msO (.inl (some (.int r.1)), S, r.2)) S M [.ref a0, .int x1, .int x2, .int x3] (.inl (some (.int r.1)), S, r.2) := by
  refine fw_of [(0, .ref a0), (1, .int x1), (2, .int x2), (3, .int x3)] (by decide) (Nat.le_of_ble_eq_true rfl) rfl ?_
  intro p e s m args below meth c C hr hlk hnm ht _
  unfold f_X10_isBound at h
  refine fw_aload_n C 0 dX10_isBound_0 rfl rfl ?_
  refine fw_aload_n C 0 dX10_isBound_1 rfl rfl ?_
  refine fw_iload_n C 1 dX10_isBound_2 rfl rfl ?_
  obtain ⟨g2, h⟩ := gd_some h
  obtain ⟨v1, e1, h⟩ := b1_some h
  refine fw_callV (ci := 10) [_] C (c_X10_isSuit hl e1) cal_X10_isSuit wm_X10_177 wi_yX10_isSuit wsl_yX10_isSuit (Nat.le_of_ble_eq_true rfl) rfl (gO_of g2) rfl (Nat.le_of_ble_eq_true rfl) ⟨Nat.le_of_ble_eq_true rfl, Nat.le_of_ble_eq_true rfl⟩ ⟨Nat.zero_le _, Nat.zero_le _⟩ dX10_isBound_3 ?_
  refine fw_if_eq C 26 dX10_isBound_6 (by decide) (fun c3 => ?_) (fun c3 => ?_)
  · replace h := (if_pos c3).symm.trans h
    refine fw_iconst C 1 dX10_isBound_26 rfl ?_
    refine fw_goto C 31 dX10_isBound_27 (by decide) ?_
    exact jc_X10_isBound_31 C hr hlk hl ht rfl h
  · replace h := (if_neg c3).symm.trans h
    refine fw_iload_n C 2 dX10_isBound_9 rfl rfl ?_
    refine fw_iconst C 0 dX10_isBound_10 rfl ?_
    refine fw_iconst C 1 dX10_isBound_11 rfl ?_
    obtain ⟨v13, e13, h⟩ := b1_some h
    refine fw_callS [_, _, _] C (c_X10_isIn hl e13) cal_X10_isIn wm_X10_58 wt_yX10_isIn rfl (Nat.le_of_ble_eq_true rfl) ⟨Nat.le_of_ble_eq_true rfl, Nat.le_of_ble_eq_true rfl⟩ ⟨Nat.zero_le _, Nat.zero_le _⟩ dX10_isBound_12 ?_
    refine fw_if_eq C 26 dX10_isBound_15 (by decide) (fun c14 => ?_) (fun c14 => ?_)
    · replace h := (if_pos c14).symm.trans h
      refine fw_iconst C 1 dX10_isBound_26 rfl ?_
      refine fw_goto C 31 dX10_isBound_27 (by decide) ?_
      exact jc_X10_isBound_31 C hr hlk hl ht rfl h
    · replace h := (if_neg c14).symm.trans h
      refine fw_aload_n C 0 dX10_isBound_18 rfl rfl ?_
      refine fw_iload_n C 3 dX10_isBound_19 rfl rfl ?_
      obtain ⟨v15, e15, h⟩ := b1_some h
      refine fw_callV (ci := 10) [_] C (c_X10_isPerson hl e15) cal_X10_isPerson wm_X10_174 wi_yX10_isPerson wsl_yX10_isPerson (Nat.le_of_ble_eq_true rfl) rfl (gO_of g2) rfl (Nat.le_of_ble_eq_true rfl) ⟨Nat.le_of_ble_eq_true rfl, Nat.le_of_ble_eq_true rfl⟩ ⟨Nat.zero_le _, Nat.zero_le _⟩ dX10_isBound_20 ?_
      refine fw_if_ne C 30 dX10_isBound_23 (by decide) (fun c16 => ?_) (fun c16 => ?_)
      · replace h := (if_neg c16).symm.trans h
        refine fw_iconst C 0 dX10_isBound_30 rfl ?_
        exact jc_X10_isBound_31 C hr hlk hl ht rfl h
      · replace h := (if_pos c16).symm.trans h
        refine fw_iconst C 1 dX10_isBound_26 rfl ?_
        refine fw_goto C 31 dX10_isBound_27 (by decide) ?_
        exact jc_X10_isBound_31 C hr hlk hl ht rfl h
set_option maxRecDepth 100000 in
def lf_X10_chain_108 (S : List fw_Sh) (M : fw_Mem) (a0 : Nat) (x1 : Int32) (x4 : Int32) : Nat → Int32 → Int32 → Option (Int32)
  | 0, _, _ => none
  | n + 1, x5, x7 => if x4 ≤ x7 then (some x5) else (gd (gO S 10 a0) (b1 (f_X10_nearer S M a0 x1 x5) (fun v23 => b1 (f_X10_linkOf S M a0 v23 1) (fun v25 => lf_X10_chain_108 S M a0 x1 x4 n v25 (x7 + 1)))))
set_option maxHeartbeats 4000000 in
set_option maxRecDepth 100000 in
theorem lc_X10_chain_108 {G : fw_G} {p : Program} {l : Launch} {e : Env} {s : State} {m : MethodId} {args : Array Value} {below : List Frame} {meth : Method} {c : Code} {S : List fw_Sh} {o : fw_O} {M : fw_Mem} {a0 : Nat} {x1 : Int32} {x4 : Int32} (C : fw_C G RX10 cX10_chain 8 p s m args c) (hr : meth.sig.returnType = (some .int)) (hlk : meth.locks = false) (hl : l.stackTraces = false) (ht : ∀ x ∈ c.exceptionTable.toList, False) :
    ∀ {n : Nat} {x5 : Int32} {x7 : Int32} {r : (Int32)} (h : lf_X10_chain_108 S M a0 x1 x4 n x5 x7 = some r) (kx : fw_W G p l e (fw_rm 4 (fw_mcO o) (fw_msO o)) s m args below meth c 8 (fw_Z G below args s (fw_mcO o) (fw_msO o) o) 0 0 135 [(0, .ref a0), (1, .int x1), (5, .int r)] [] S M), fw_W G p l e (fw_rm 4 (fw_mcO o) (fw_msO o)) s m args below meth c 8 (fw_Z G below args s (fw_mcO o) (fw_msO o) o) 0 0 108 [(0, .ref a0), (1, .int x1), (4, .int x4), (5, .int x5), (7, .int x7)] [] S M := by
  intro n
  induction n with
  | zero =>
    intro x5 x7 r h
    exact nomatch (show (none : Option (Int32)) = some r from h)
  | succ n ih =>
    intro x5 x7 r h kx
    rw [lf_X10_chain_108.eq_2] at h
    refine fw_iload C 4 dX10_chain_108 rfl ?_
    refine fw_iload C 2 dX10_chain_110 rfl ?_
    refine fw_icmp_ge C 135 dX10_chain_112 (by decide) (fun c22 => ?_) (fun c22 => ?_)
    · replace h := (if_pos c22).symm.trans h
      obtain rfl := Option.some.inj h
      refine fw_sub [0, 1, 3] rfl ?_
      exact kx
    · replace h := (if_neg c22).symm.trans h
      refine fw_aload_n C 0 dX10_chain_115 rfl rfl ?_
      refine fw_aload_n C 0 dX10_chain_116 rfl rfl ?_
      refine fw_iload_n C 1 dX10_chain_117 rfl rfl ?_
      refine fw_iload C 3 dX10_chain_118 rfl ?_
      obtain ⟨g24, h⟩ := gd_some h
      obtain ⟨v23, e23, h⟩ := b1_some h
      refine fw_callV (ci := 10) [_, _] C (c_X10_nearer hl e23) cal_X10_nearer wm_X10_184 wi_yX10_nearer wsl_yX10_nearer (Nat.le_of_ble_eq_true rfl) rfl (gO_of g24) rfl (Nat.le_of_ble_eq_true rfl) ⟨Nat.le_of_ble_eq_true rfl, Nat.le_of_ble_eq_true rfl⟩ ⟨Nat.zero_le _, Nat.zero_le _⟩ dX10_chain_120 ?_
      refine fw_iconst C 1 dX10_chain_123 rfl ?_
      obtain ⟨v25, e25, h⟩ := b1_some h
      refine fw_callV (ci := 10) [_, _] C (c_X10_linkOf hl e25) cal_X10_linkOf wm_X10_92 wi_yX10_linkOf wsl_yX10_linkOf (Nat.le_of_ble_eq_true rfl) rfl (gO_of g24) rfl (Nat.le_of_ble_eq_true rfl) ⟨Nat.le_of_ble_eq_true rfl, Nat.le_of_ble_eq_true rfl⟩ ⟨Nat.zero_le _, Nat.zero_le _⟩ dX10_chain_124 ?_
      refine fw_istore C [(5, _), (0, _), (1, _), (4, _), (7, _)] dX10_chain_127 (Nat.le_of_ble_eq_true rfl) rfl ?_
      refine fw_iinc C _ 4 [(7, _), (5, _), (0, _), (1, _), (4, _)] dX10_chain_129 rfl rfl (Nat.le_of_ble_eq_true rfl) rfl ?_
      refine fw_goto C 108 dX10_chain_132 (by decide) ?_
      refine fw_sub [2, 3, 4, 1, 0] rfl ?_
      exact ih h kx
set_option maxRecDepth 100000 in
def f_X10_chain (S : List fw_Sh) (M : fw_Mem) (a0 : Nat) (x1 : Int32) (x2 : Int32) (x3 : Int32) (x4 : Int32) : Option (Int32 × fw_Mem) := gd (gO S 10 a0) (bm (fw_set M a0 6 0) (fun M2 => b1 (f_X10_isSuit S M2 a0 x1) (fun v3 => if v3 = 0 then (b2 (f_X10_fail S M2 a0 1) (fun v5 M5 => some (v5, M5))) else (b1 (f_X10_isIn S M2 x2 0 1) (fun v6 => if v6 = 0 then (b2 (f_X10_fail S M2 a0 1) (fun v8 M8 => some (v8, M8))) else (b1 (f_X10_isPerson S M2 a0 x3) (fun v9 => if v9 = 0 then (b2 (f_X10_fail S M2 a0 1) (fun v29 M29 => some (v29, M29))) else (b1 (f_X10_isJudged S M2 a0 x1) (fun v11 => if v11 = 0 then (some ((-1), M2)) else (b1 (f_X10_layAway S M2 a0 x1 x3) (fun M13 => b1 (f_X10_of S M13 a0 x1 ((0 : Int32) + x2)) (fun v14 => gd (gN (M13 a0 8)) (gd (gA S 0 ((M13 a0 8).toNatClampNeg) v14) (bm (M13 ((M13 a0 8).toNatClampNeg) v14.toNatClampNeg) (fun y17 => if y17 = (-1) then (some (y17, M13)) else (if x4 = (-1) then (some (y17, M13)) else (b1 (f_X10_isIn S M13 x4 0 (y17 - 1)) (fun v20 => if v20 = 0 then (b2 (f_X10_fail S M13 a0 1) (fun v28 M28 => some (v28, M28))) else (b1 (lf_X10_chain_108 S M13 a0 x1 x4 20000 v14 0) (fun l26 => b1 (f_X10_nearer S M13 a0 x1 l26) (fun v27 => some (v27, M13))))))))))))))))))))))
set_option maxHeartbeats 4000000 in
set_option maxRecDepth 100000 in
theorem c_X10_chain {l : Launch} {G : fw_G} {S : List fw_Sh} {M : fw_Mem} {a0 : Nat} {x1 : Int32} {x2 : Int32} {x3 : Int32} {x4 : Int32} {r : (Int32 × fw_Mem)} (hl : l.stackTraces = false) (h : f_X10_chain S M a0 x1 x2 x3 x4 = some r) : fw_M l G yX10_chain (.code yX10_chain cX10_chain 8 (some .int)) 4 (fw_mcO (.inl (some (.int r.1)), S, r.2)) (fw_msO (.inl (some (.int r.1)), S, r.2)) S M [.ref a0, .int x1, .int x2, .int x3, .int x4] (.inl (some (.int r.1)), S, r.2) := by
  refine fw_of [(0, .ref a0), (1, .int x1), (2, .int x2), (3, .int x3), (4, .int x4)] (by decide) (Nat.le_of_ble_eq_true rfl) rfl ?_
  intro p e s m args below meth c C hr hlk hnm ht _
  unfold f_X10_chain at h
  refine fw_aload_n C 0 dX10_chain_0 rfl rfl ?_
  refine fw_iconst C 0 dX10_chain_1 rfl ?_
  obtain ⟨g1, h⟩ := gd_some h
  refine fw_putI C 10 6 (Nat.le_of_ble_eq_true rfl) (Nat.le_of_ble_eq_true rfl) wf_X10_51 rfl rfl rfl rfl (gO_of g1) dX10_chain_2 ?_
  refine fw_bm h (fun M2 h => ?_)
  refine fw_aload_n C 0 dX10_chain_5 rfl rfl ?_
  refine fw_iload_n C 1 dX10_chain_6 rfl rfl ?_
  obtain ⟨v3, e3, h⟩ := b1_some h
  refine fw_callV (ci := 10) [_] C (c_X10_isSuit hl e3) cal_X10_isSuit wm_X10_177 wi_yX10_isSuit wsl_yX10_isSuit (Nat.le_of_ble_eq_true rfl) rfl (gO_of g1) rfl (Nat.le_of_ble_eq_true rfl) ⟨Nat.le_of_ble_eq_true rfl, Nat.le_of_ble_eq_true rfl⟩ ⟨Nat.zero_le _, Nat.zero_le _⟩ dX10_chain_7 ?_
  refine fw_if_eq C 30 dX10_chain_10 (by decide) (fun c4 => ?_) (fun c4 => ?_)
  · replace h := (if_pos c4).symm.trans h
    refine fw_aload_n C 0 dX10_chain_30 rfl rfl ?_
    refine fw_iconst C 1 dX10_chain_31 rfl ?_
    obtain ⟨v5, M5, e5, h⟩ := b2_some h
    refine fw_callV (ci := 10) [_] C (c_X10_fail hl e5) cal_X10_fail wm_X10_171 wi_yX10_fail wsl_yX10_fail (Nat.le_of_ble_eq_true rfl) rfl (gO_of g1) rfl (Nat.le_of_ble_eq_true rfl) ⟨Nat.le_of_ble_eq_true rfl, Nat.le_of_ble_eq_true rfl⟩ ⟨Nat.zero_le _, Nat.zero_le _⟩ dX10_chain_32 ?_
    obtain rfl := Option.some.inj h
    exact fw_iret C hr hlk dX10_chain_35
  · replace h := (if_neg c4).symm.trans h
    refine fw_iload_n C 2 dX10_chain_13 rfl rfl ?_
    refine fw_iconst C 0 dX10_chain_14 rfl ?_
    refine fw_iconst C 1 dX10_chain_15 rfl ?_
    obtain ⟨v6, e6, h⟩ := b1_some h
    refine fw_callS [_, _, _] C (c_X10_isIn hl e6) cal_X10_isIn wm_X10_58 wt_yX10_isIn rfl (Nat.le_of_ble_eq_true rfl) ⟨Nat.le_of_ble_eq_true rfl, Nat.le_of_ble_eq_true rfl⟩ ⟨Nat.zero_le _, Nat.zero_le _⟩ dX10_chain_16 ?_
    refine fw_if_eq C 30 dX10_chain_19 (by decide) (fun c7 => ?_) (fun c7 => ?_)
    · replace h := (if_pos c7).symm.trans h
      refine fw_aload_n C 0 dX10_chain_30 rfl rfl ?_
      refine fw_iconst C 1 dX10_chain_31 rfl ?_
      obtain ⟨v8, M8, e8, h⟩ := b2_some h
      refine fw_callV (ci := 10) [_] C (c_X10_fail hl e8) cal_X10_fail wm_X10_171 wi_yX10_fail wsl_yX10_fail (Nat.le_of_ble_eq_true rfl) rfl (gO_of g1) rfl (Nat.le_of_ble_eq_true rfl) ⟨Nat.le_of_ble_eq_true rfl, Nat.le_of_ble_eq_true rfl⟩ ⟨Nat.zero_le _, Nat.zero_le _⟩ dX10_chain_32 ?_
      obtain rfl := Option.some.inj h
      exact fw_iret C hr hlk dX10_chain_35
    · replace h := (if_neg c7).symm.trans h
      refine fw_aload_n C 0 dX10_chain_22 rfl rfl ?_
      refine fw_iload_n C 3 dX10_chain_23 rfl rfl ?_
      obtain ⟨v9, e9, h⟩ := b1_some h
      refine fw_callV (ci := 10) [_] C (c_X10_isPerson hl e9) cal_X10_isPerson wm_X10_174 wi_yX10_isPerson wsl_yX10_isPerson (Nat.le_of_ble_eq_true rfl) rfl (gO_of g1) rfl (Nat.le_of_ble_eq_true rfl) ⟨Nat.le_of_ble_eq_true rfl, Nat.le_of_ble_eq_true rfl⟩ ⟨Nat.zero_le _, Nat.zero_le _⟩ dX10_chain_24 ?_
      refine fw_if_ne C 36 dX10_chain_27 (by decide) (fun c10 => ?_) (fun c10 => ?_)
      · replace h := (if_neg c10).symm.trans h
        refine fw_aload_n C 0 dX10_chain_36 rfl rfl ?_
        refine fw_iload_n C 1 dX10_chain_37 rfl rfl ?_
        obtain ⟨v11, e11, h⟩ := b1_some h
        refine fw_callV (ci := 10) [_] C (c_X10_isJudged hl e11) cal_X10_isJudged wm_X10_69 wi_yX10_isJudged wsl_yX10_isJudged (Nat.le_of_ble_eq_true rfl) rfl (gO_of g1) rfl (Nat.le_of_ble_eq_true rfl) ⟨Nat.le_of_ble_eq_true rfl, Nat.le_of_ble_eq_true rfl⟩ ⟨Nat.zero_le _, Nat.zero_le _⟩ dX10_chain_38 ?_
        refine fw_if_ne C 46 dX10_chain_41 (by decide) (fun c12 => ?_) (fun c12 => ?_)
        · replace h := (if_neg c12).symm.trans h
          refine fw_aload_n C 0 dX10_chain_46 rfl rfl ?_
          refine fw_iload_n C 1 dX10_chain_47 rfl rfl ?_
          refine fw_iload_n C 3 dX10_chain_48 rfl rfl ?_
          obtain ⟨M13, e13, h⟩ := b1_some h
          refine fw_callV (ci := 10) [_, _] C (c_X10_layAway hl e13) cal_X10_layAway wm_X10_180 wi_yX10_layAway wsl_yX10_layAway (Nat.le_of_ble_eq_true rfl) rfl (gO_of g1) rfl (Nat.le_of_ble_eq_true rfl) ⟨Nat.le_of_ble_eq_true rfl, Nat.le_of_ble_eq_true rfl⟩ ⟨Nat.zero_le _, Nat.zero_le _⟩ dX10_chain_49 ?_
          refine fw_aload_n C 0 dX10_chain_52 rfl rfl ?_
          refine fw_iload_n C 1 dX10_chain_53 rfl rfl ?_
          refine fw_iconst C 0 dX10_chain_54 rfl ?_
          refine fw_iload_n C 2 dX10_chain_55 rfl rfl ?_
          refine fw_iadd C dX10_chain_56 ?_
          obtain ⟨v14, e14, h⟩ := b1_some h
          refine fw_callV (ci := 10) [_, _] C (c_X10_of hl e14) cal_X10_of wm_X10_65 wi_yX10_of wsl_yX10_of (Nat.le_of_ble_eq_true rfl) rfl (gO_of g1) rfl (Nat.le_of_ble_eq_true rfl) ⟨Nat.le_of_ble_eq_true rfl, Nat.le_of_ble_eq_true rfl⟩ ⟨Nat.zero_le _, Nat.zero_le _⟩ dX10_chain_57 ?_
          refine fw_istore C [(5, _), (0, _), (1, _), (2, _), (3, _), (4, _)] dX10_chain_60 (Nat.le_of_ble_eq_true rfl) rfl ?_
          refine fw_aload_n C 1 dX10_chain_62 rfl rfl ?_
          obtain ⟨g15, h⟩ := gd_some h
          refine fw_getR C 10 8 (Nat.le_of_ble_eq_true rfl) (Nat.le_of_ble_eq_true rfl) wf_X10_25 rfl (gO_of g1) (gN_of g15) dX10_chain_63 ?_
          refine fw_iload C 0 dX10_chain_66 rfl ?_
          obtain ⟨g16, h⟩ := gd_some h
          refine fw_iald C (gA_of g16) dX10_chain_68 ?_
          refine fw_bi h (fun y17 h => ?_)
          refine fw_istore C [(6, _), (5, _), (0, _), (1, _), (2, _), (3, _), (4, _)] dX10_chain_69 (Nat.le_of_ble_eq_true rfl) rfl ?_
          refine fw_iload C 0 dX10_chain_71 rfl ?_
          refine fw_iconst C (-1) dX10_chain_73 rfl ?_
          refine fw_icmp_eq C 83 dX10_chain_74 (by decide) (fun c18 => ?_) (fun c18 => ?_)
          · replace h := (if_pos c18).symm.trans h
            refine fw_iload C 0 dX10_chain_83 rfl ?_
            obtain rfl := Option.some.inj h
            exact fw_iret C hr hlk dX10_chain_85
          · replace h := (if_neg c18).symm.trans h
            refine fw_iload C 6 dX10_chain_77 rfl ?_
            refine fw_iconst C (-1) dX10_chain_79 rfl ?_
            refine fw_icmp_ne C 86 dX10_chain_80 (by decide) (fun c19 => ?_) (fun c19 => ?_)
            · replace h := (if_neg c19).symm.trans h
              refine fw_iload C 6 dX10_chain_86 rfl ?_
              refine fw_iconst C 0 dX10_chain_88 rfl ?_
              refine fw_iload C 0 dX10_chain_89 rfl ?_
              refine fw_iconst C 1 dX10_chain_91 rfl ?_
              refine fw_isub C dX10_chain_92 ?_
              obtain ⟨v20, e20, h⟩ := b1_some h
              refine fw_callS [_, _, _] C (c_X10_isIn hl e20) cal_X10_isIn wm_X10_58 wt_yX10_isIn rfl (Nat.le_of_ble_eq_true rfl) ⟨Nat.le_of_ble_eq_true rfl, Nat.le_of_ble_eq_true rfl⟩ ⟨Nat.zero_le _, Nat.zero_le _⟩ dX10_chain_93 ?_
              refine fw_if_ne C 105 dX10_chain_96 (by decide) (fun c21 => ?_) (fun c21 => ?_)
              · replace h := (if_neg c21).symm.trans h
                refine fw_iconst C 0 dX10_chain_105 rfl ?_
                refine fw_istore C [(7, _), (6, _), (5, _), (0, _), (1, _), (2, _), (3, _), (4, _)] dX10_chain_106 (Nat.le_of_ble_eq_true rfl) rfl ?_
                refine fw_sub [3, 4, 7, 2, 0] rfl ?_
                obtain ⟨l26, e26, h⟩ := b1_some h
                refine lc_X10_chain_108 C hr hlk hl ht e26 ?_
                refine fw_aload_n C 0 dX10_chain_135 rfl rfl ?_
                refine fw_iload_n C 1 dX10_chain_136 rfl rfl ?_
                refine fw_iload C 2 dX10_chain_137 rfl ?_
                obtain ⟨v27, e27, h⟩ := b1_some h
                refine fw_callV (ci := 10) [_, _] C (c_X10_nearer hl e27) cal_X10_nearer wm_X10_184 wi_yX10_nearer wsl_yX10_nearer (Nat.le_of_ble_eq_true rfl) rfl (gO_of g1) rfl (Nat.le_of_ble_eq_true rfl) ⟨Nat.le_of_ble_eq_true rfl, Nat.le_of_ble_eq_true rfl⟩ ⟨Nat.zero_le _, Nat.zero_le _⟩ dX10_chain_139 ?_
                obtain rfl := Option.some.inj h
                exact fw_iret C hr hlk dX10_chain_142
              · replace h := (if_pos c21).symm.trans h
                refine fw_aload_n C 2 dX10_chain_99 rfl rfl ?_
                refine fw_iconst C 1 dX10_chain_100 rfl ?_
                obtain ⟨v28, M28, e28, h⟩ := b2_some h
                refine fw_callV (ci := 10) [_] C (c_X10_fail hl e28) cal_X10_fail wm_X10_171 wi_yX10_fail wsl_yX10_fail (Nat.le_of_ble_eq_true rfl) rfl (gO_of g1) rfl (Nat.le_of_ble_eq_true rfl) ⟨Nat.le_of_ble_eq_true rfl, Nat.le_of_ble_eq_true rfl⟩ ⟨Nat.zero_le _, Nat.zero_le _⟩ dX10_chain_101 ?_
                obtain rfl := Option.some.inj h
                exact fw_iret C hr hlk dX10_chain_104
            · replace h := (if_pos c19).symm.trans h
              refine fw_iload C 0 dX10_chain_83 rfl ?_
              obtain rfl := Option.some.inj h
              exact fw_iret C hr hlk dX10_chain_85
        · replace h := (if_pos c12).symm.trans h
          refine fw_iconst C (-1) dX10_chain_44 rfl ?_
          obtain rfl := Option.some.inj h
          exact fw_iret C hr hlk dX10_chain_45
      · replace h := (if_pos c10).symm.trans h
        refine fw_aload_n C 0 dX10_chain_30 rfl rfl ?_
        refine fw_iconst C 1 dX10_chain_31 rfl ?_
        obtain ⟨v29, M29, e29, h⟩ := b2_some h
        refine fw_callV (ci := 10) [_] C (c_X10_fail hl e29) cal_X10_fail wm_X10_171 wi_yX10_fail wsl_yX10_fail (Nat.le_of_ble_eq_true rfl) rfl (gO_of g1) rfl (Nat.le_of_ble_eq_true rfl) ⟨Nat.le_of_ble_eq_true rfl, Nat.le_of_ble_eq_true rfl⟩ ⟨Nat.zero_le _, Nat.zero_le _⟩ dX10_chain_32 ?_
        obtain rfl := Option.some.inj h
        exact fw_iret C hr hlk dX10_chain_35
set_option maxRecDepth 100000 in
def f_X10_two (S : List fw_Sh) (M : fw_Mem) (a0 : Nat) (x1 : Int32) (x2 : Int32) (x3 : Int32) : Option (Int32 × fw_Mem) := gd (gO S 10 a0) (bm (fw_set M a0 6 0) (fun M2 => b1 (f_X10_isSuit S M2 a0 x1) (fun v3 => if v3 = 0 then (b2 (f_X10_fail S M2 a0 1) (fun v5 M5 => some (v5, M5))) else (b1 (f_X10_isSuit S M2 a0 x2) (fun v6 => if v6 = 0 then (b2 (f_X10_fail S M2 a0 1) (fun v8 M8 => some (v8, M8))) else (b1 (f_X10_isIn S M2 x3 0 5) (fun v9 => if v9 = 0 then (b2 (f_X10_fail S M2 a0 1) (fun v28 M28 => some (v28, M28))) else (b1 (f_X10_layBound S M2 a0) (fun M11 => if x3 = 0 then (b1 (f_X10_of S M11 a0 x1 3) (fun v13 => b1 (f_X10_of S M11 a0 x2 3) (fun v14 => some ((v13 &&& v14), M11)))) else (if x3 = 1 then (b1 (f_X10_areSame S M11 a0 x1 x2) (fun v16 => if v16 = 0 then (some (0, M11)) else (some (1, M11)))) else (if x3 = 2 then (b1 (f_X10_isBarredBy S M11 a0 x1 x2) (fun v19 => if v19 = 0 then (some (0, M11)) else (some (1, M11)))) else (if x3 = 3 then (b1 (f_X10_comesBehind S M11 a0 x1 x2) (fun v22 => if v22 = 0 then (some (0, M11)) else (some (1, M11)))) else (if x3 = 4 then (b1 (f_X10_standsOn S M11 a0 x1 x2) (fun v25 => if v25 = 0 then (some (0, M11)) else (some (1, M11)))) else (b1 (f_X10_clashOf S M11 a0 x1 x2) (fun v27 => some (v27, M11))))))))))))))))
set_option maxHeartbeats 4000000 in
set_option maxRecDepth 100000 in
theorem c_X10_two {l : Launch} {G : fw_G} {S : List fw_Sh} {M : fw_Mem} {a0 : Nat} {x1 : Int32} {x2 : Int32} {x3 : Int32} {r : (Int32 × fw_Mem)} (hl : l.stackTraces = false) (h : f_X10_two S M a0 x1 x2 x3 = some r) : fw_M l G yX10_two (.code yX10_two cX10_two 4 (some .int)) 10 (fw_mcO (.inl (some (.int r.1)), S, r.2)) (fw_msO (.inl (some (.int r.1)), S, r.2)) S M [.ref a0, .int x1, .int x2, .int x3] (.inl (some (.int r.1)), S, r.2) := by
  refine fw_of [(0, .ref a0), (1, .int x1), (2, .int x2), (3, .int x3)] (by decide) (Nat.le_of_ble_eq_true rfl) rfl ?_
  intro p e s m args below meth c C hr hlk hnm ht _
  unfold f_X10_two at h
  refine fw_aload_n C 0 dX10_two_0 rfl rfl ?_
  refine fw_iconst C 0 dX10_two_1 rfl ?_
  obtain ⟨g1, h⟩ := gd_some h
  refine fw_putI C 10 6 (Nat.le_of_ble_eq_true rfl) (Nat.le_of_ble_eq_true rfl) wf_X10_51 rfl rfl rfl rfl (gO_of g1) dX10_two_2 ?_
  refine fw_bm h (fun M2 h => ?_)
  refine fw_aload_n C 0 dX10_two_5 rfl rfl ?_
  refine fw_iload_n C 1 dX10_two_6 rfl rfl ?_
  obtain ⟨v3, e3, h⟩ := b1_some h
  refine fw_callV (ci := 10) [_] C (c_X10_isSuit hl e3) cal_X10_isSuit wm_X10_177 wi_yX10_isSuit wsl_yX10_isSuit (Nat.le_of_ble_eq_true rfl) rfl (gO_of g1) rfl (Nat.le_of_ble_eq_true rfl) ⟨Nat.le_of_ble_eq_true rfl, Nat.le_of_ble_eq_true rfl⟩ ⟨Nat.zero_le _, Nat.zero_le _⟩ dX10_two_7 ?_
  refine fw_if_eq C 30 dX10_two_10 (by decide) (fun c4 => ?_) (fun c4 => ?_)
  · replace h := (if_pos c4).symm.trans h
    refine fw_aload_n C 0 dX10_two_30 rfl rfl ?_
    refine fw_iconst C 1 dX10_two_31 rfl ?_
    obtain ⟨v5, M5, e5, h⟩ := b2_some h
    refine fw_callV (ci := 10) [_] C (c_X10_fail hl e5) cal_X10_fail wm_X10_171 wi_yX10_fail wsl_yX10_fail (Nat.le_of_ble_eq_true rfl) rfl (gO_of g1) rfl (Nat.le_of_ble_eq_true rfl) ⟨Nat.le_of_ble_eq_true rfl, Nat.le_of_ble_eq_true rfl⟩ ⟨Nat.zero_le _, Nat.zero_le _⟩ dX10_two_32 ?_
    obtain rfl := Option.some.inj h
    exact fw_iret C hr hlk dX10_two_35
  · replace h := (if_neg c4).symm.trans h
    refine fw_aload_n C 0 dX10_two_13 rfl rfl ?_
    refine fw_iload_n C 2 dX10_two_14 rfl rfl ?_
    obtain ⟨v6, e6, h⟩ := b1_some h
    refine fw_callV (ci := 10) [_] C (c_X10_isSuit hl e6) cal_X10_isSuit wm_X10_177 wi_yX10_isSuit wsl_yX10_isSuit (Nat.le_of_ble_eq_true rfl) rfl (gO_of g1) rfl (Nat.le_of_ble_eq_true rfl) ⟨Nat.le_of_ble_eq_true rfl, Nat.le_of_ble_eq_true rfl⟩ ⟨Nat.zero_le _, Nat.zero_le _⟩ dX10_two_15 ?_
    refine fw_if_eq C 30 dX10_two_18 (by decide) (fun c7 => ?_) (fun c7 => ?_)
    · replace h := (if_pos c7).symm.trans h
      refine fw_aload_n C 0 dX10_two_30 rfl rfl ?_
      refine fw_iconst C 1 dX10_two_31 rfl ?_
      obtain ⟨v8, M8, e8, h⟩ := b2_some h
      refine fw_callV (ci := 10) [_] C (c_X10_fail hl e8) cal_X10_fail wm_X10_171 wi_yX10_fail wsl_yX10_fail (Nat.le_of_ble_eq_true rfl) rfl (gO_of g1) rfl (Nat.le_of_ble_eq_true rfl) ⟨Nat.le_of_ble_eq_true rfl, Nat.le_of_ble_eq_true rfl⟩ ⟨Nat.zero_le _, Nat.zero_le _⟩ dX10_two_32 ?_
      obtain rfl := Option.some.inj h
      exact fw_iret C hr hlk dX10_two_35
    · replace h := (if_neg c7).symm.trans h
      refine fw_iload_n C 3 dX10_two_21 rfl rfl ?_
      refine fw_iconst C 0 dX10_two_22 rfl ?_
      refine fw_iconst C 5 dX10_two_23 rfl ?_
      obtain ⟨v9, e9, h⟩ := b1_some h
      refine fw_callS [_, _, _] C (c_X10_isIn hl e9) cal_X10_isIn wm_X10_58 wt_yX10_isIn rfl (Nat.le_of_ble_eq_true rfl) ⟨Nat.le_of_ble_eq_true rfl, Nat.le_of_ble_eq_true rfl⟩ ⟨Nat.zero_le _, Nat.zero_le _⟩ dX10_two_24 ?_
      refine fw_if_ne C 36 dX10_two_27 (by decide) (fun c10 => ?_) (fun c10 => ?_)
      · replace h := (if_neg c10).symm.trans h
        refine fw_aload_n C 0 dX10_two_36 rfl rfl ?_
        obtain ⟨M11, e11, h⟩ := b1_some h
        refine fw_callV (ci := 10) [] C (c_X10_layBound hl e11) cal_X10_layBound wm_X10_152 wi_yX10_layBound wsl_yX10_layBound (Nat.le_of_ble_eq_true rfl) rfl (gO_of g1) rfl (Nat.le_of_ble_eq_true rfl) ⟨Nat.le_of_ble_eq_true rfl, Nat.le_of_ble_eq_true rfl⟩ ⟨Nat.zero_le _, Nat.zero_le _⟩ dX10_two_37 ?_
        refine fw_iload_n C 3 dX10_two_40 rfl rfl ?_
        by_cases c12 : x3 = 0
        · replace h := (if_pos c12).symm.trans h
          refine fw_tableIn C 0 76 dX10_two_41 c12 (by decide) (by decide) rfl (by decide) ?_
          refine fw_aload_n C 0 dX10_two_76 rfl rfl ?_
          refine fw_iload_n C 1 dX10_two_77 rfl rfl ?_
          refine fw_iconst C 3 dX10_two_78 rfl ?_
          obtain ⟨v13, e13, h⟩ := b1_some h
          refine fw_callV (ci := 10) [_, _] C (c_X10_of hl e13) cal_X10_of wm_X10_65 wi_yX10_of wsl_yX10_of (Nat.le_of_ble_eq_true rfl) rfl (gO_of g1) rfl (Nat.le_of_ble_eq_true rfl) ⟨Nat.le_of_ble_eq_true rfl, Nat.le_of_ble_eq_true rfl⟩ ⟨Nat.zero_le _, Nat.zero_le _⟩ dX10_two_79 ?_
          refine fw_aload_n C 0 dX10_two_82 rfl rfl ?_
          refine fw_iload_n C 2 dX10_two_83 rfl rfl ?_
          refine fw_iconst C 3 dX10_two_84 rfl ?_
          obtain ⟨v14, e14, h⟩ := b1_some h
          refine fw_callV (ci := 10) [_, _] C (c_X10_of hl e14) cal_X10_of wm_X10_65 wi_yX10_of wsl_yX10_of (Nat.le_of_ble_eq_true rfl) rfl (gO_of g1) rfl (Nat.le_of_ble_eq_true rfl) ⟨Nat.le_of_ble_eq_true rfl, Nat.le_of_ble_eq_true rfl⟩ ⟨Nat.zero_le _, Nat.zero_le _⟩ dX10_two_85 ?_
          refine fw_iand C dX10_two_88 ?_
          obtain rfl := Option.some.inj h
          exact fw_iret C hr hlk dX10_two_89
        replace h := (if_neg c12).symm.trans h
        by_cases c15 : x3 = 1
        · replace h := (if_pos c15).symm.trans h
          refine fw_tableIn C 1 90 dX10_two_41 c15 (by decide) (by decide) rfl (by decide) ?_
          refine fw_aload_n C 0 dX10_two_90 rfl rfl ?_
          refine fw_iload_n C 1 dX10_two_91 rfl rfl ?_
          refine fw_iload_n C 2 dX10_two_92 rfl rfl ?_
          obtain ⟨v16, e16, h⟩ := b1_some h
          refine fw_callV (ci := 10) [_, _] C (c_X10_areSame hl e16) cal_X10_areSame wm_X10_119 wi_yX10_areSame wsl_yX10_areSame (Nat.le_of_ble_eq_true rfl) rfl (gO_of g1) rfl (Nat.le_of_ble_eq_true rfl) ⟨Nat.le_of_ble_eq_true rfl, Nat.le_of_ble_eq_true rfl⟩ ⟨Nat.zero_le _, Nat.zero_le _⟩ dX10_two_93 ?_
          refine fw_if_eq C 103 dX10_two_96 (by decide) (fun c17 => ?_) (fun c17 => ?_)
          · replace h := (if_pos c17).symm.trans h
            refine fw_iconst C 0 dX10_two_103 rfl ?_
            obtain rfl := Option.some.inj h
            exact fw_iret C hr hlk dX10_two_104
          · replace h := (if_neg c17).symm.trans h
            refine fw_iconst C 1 dX10_two_99 rfl ?_
            refine fw_goto C 104 dX10_two_100 (by decide) ?_
            obtain rfl := Option.some.inj h
            exact fw_iret C hr hlk dX10_two_104
        replace h := (if_neg c15).symm.trans h
        by_cases c18 : x3 = 2
        · replace h := (if_pos c18).symm.trans h
          refine fw_tableIn C 2 105 dX10_two_41 c18 (by decide) (by decide) rfl (by decide) ?_
          refine fw_aload_n C 0 dX10_two_105 rfl rfl ?_
          refine fw_iload_n C 1 dX10_two_106 rfl rfl ?_
          refine fw_iload_n C 2 dX10_two_107 rfl rfl ?_
          obtain ⟨v19, e19, h⟩ := b1_some h
          refine fw_callV (ci := 10) [_, _] C (c_X10_isBarredBy hl e19) cal_X10_isBarredBy wm_X10_122 wi_yX10_isBarredBy wsl_yX10_isBarredBy (Nat.le_of_ble_eq_true rfl) rfl (gO_of g1) rfl (Nat.le_of_ble_eq_true rfl) ⟨Nat.le_of_ble_eq_true rfl, Nat.le_of_ble_eq_true rfl⟩ ⟨Nat.zero_le _, Nat.zero_le _⟩ dX10_two_108 ?_
          refine fw_if_eq C 118 dX10_two_111 (by decide) (fun c20 => ?_) (fun c20 => ?_)
          · replace h := (if_pos c20).symm.trans h
            refine fw_iconst C 0 dX10_two_118 rfl ?_
            obtain rfl := Option.some.inj h
            exact fw_iret C hr hlk dX10_two_119
          · replace h := (if_neg c20).symm.trans h
            refine fw_iconst C 1 dX10_two_114 rfl ?_
            refine fw_goto C 119 dX10_two_115 (by decide) ?_
            obtain rfl := Option.some.inj h
            exact fw_iret C hr hlk dX10_two_119
        replace h := (if_neg c18).symm.trans h
        by_cases c21 : x3 = 3
        · replace h := (if_pos c21).symm.trans h
          refine fw_tableIn C 3 120 dX10_two_41 c21 (by decide) (by decide) rfl (by decide) ?_
          refine fw_aload_n C 0 dX10_two_120 rfl rfl ?_
          refine fw_iload_n C 1 dX10_two_121 rfl rfl ?_
          refine fw_iload_n C 2 dX10_two_122 rfl rfl ?_
          obtain ⟨v22, e22, h⟩ := b1_some h
          refine fw_callV (ci := 10) [_, _] C (c_X10_comesBehind hl e22) cal_X10_comesBehind wm_X10_116 wi_yX10_comesBehind wsl_yX10_comesBehind (Nat.le_of_ble_eq_true rfl) rfl (gO_of g1) rfl (Nat.le_of_ble_eq_true rfl) ⟨Nat.le_of_ble_eq_true rfl, Nat.le_of_ble_eq_true rfl⟩ ⟨Nat.zero_le _, Nat.zero_le _⟩ dX10_two_123 ?_
          refine fw_if_eq C 133 dX10_two_126 (by decide) (fun c23 => ?_) (fun c23 => ?_)
          · replace h := (if_pos c23).symm.trans h
            refine fw_iconst C 0 dX10_two_133 rfl ?_
            obtain rfl := Option.some.inj h
            exact fw_iret C hr hlk dX10_two_134
          · replace h := (if_neg c23).symm.trans h
            refine fw_iconst C 1 dX10_two_129 rfl ?_
            refine fw_goto C 134 dX10_two_130 (by decide) ?_
            obtain rfl := Option.some.inj h
            exact fw_iret C hr hlk dX10_two_134
        replace h := (if_neg c21).symm.trans h
        by_cases c24 : x3 = 4
        · replace h := (if_pos c24).symm.trans h
          refine fw_tableIn C 4 135 dX10_two_41 c24 (by decide) (by decide) rfl (by decide) ?_
          refine fw_aload_n C 0 dX10_two_135 rfl rfl ?_
          refine fw_iload_n C 1 dX10_two_136 rfl rfl ?_
          refine fw_iload_n C 2 dX10_two_137 rfl rfl ?_
          obtain ⟨v25, e25, h⟩ := b1_some h
          refine fw_callV (ci := 10) [_, _] C (c_X10_standsOn hl e25) cal_X10_standsOn wm_X10_187 wi_yX10_standsOn wsl_yX10_standsOn (Nat.le_of_ble_eq_true rfl) rfl (gO_of g1) rfl (Nat.le_of_ble_eq_true rfl) ⟨Nat.le_of_ble_eq_true rfl, Nat.le_of_ble_eq_true rfl⟩ ⟨Nat.zero_le _, Nat.zero_le _⟩ dX10_two_138 ?_
          refine fw_if_eq C 148 dX10_two_141 (by decide) (fun c26 => ?_) (fun c26 => ?_)
          · replace h := (if_pos c26).symm.trans h
            refine fw_iconst C 0 dX10_two_148 rfl ?_
            obtain rfl := Option.some.inj h
            exact fw_iret C hr hlk dX10_two_149
          · replace h := (if_neg c26).symm.trans h
            refine fw_iconst C 1 dX10_two_144 rfl ?_
            refine fw_goto C 149 dX10_two_145 (by decide) ?_
            obtain rfl := Option.some.inj h
            exact fw_iret C hr hlk dX10_two_149
        replace h := (if_neg c24).symm.trans h
        have qc12 := lv_neT c12 (a := 0) rfl
        have qc15 := lv_neT c15 (a := 1) rfl
        have qc18 := lv_neT c18 (a := 2) rfl
        have qc21 := lv_neT c21 (a := 3) rfl
        have qc24 := lv_neT c24 (a := 4) rfl
        refine fw_tableOut C 150 dX10_two_41 (by omega) (by decide) ?_
        refine fw_aload_n C 0 dX10_two_150 rfl rfl ?_
        refine fw_iload_n C 1 dX10_two_151 rfl rfl ?_
        refine fw_iload_n C 2 dX10_two_152 rfl rfl ?_
        obtain ⟨v27, e27, h⟩ := b1_some h
        refine fw_callV (ci := 10) [_, _] C (c_X10_clashOf hl e27) cal_X10_clashOf wm_X10_155 wi_yX10_clashOf wsl_yX10_clashOf (Nat.le_of_ble_eq_true rfl) rfl (gO_of g1) rfl (Nat.le_of_ble_eq_true rfl) ⟨Nat.le_of_ble_eq_true rfl, Nat.le_of_ble_eq_true rfl⟩ ⟨Nat.zero_le _, Nat.zero_le _⟩ dX10_two_153 ?_
        obtain rfl := Option.some.inj h
        exact fw_iret C hr hlk dX10_two_156
      · replace h := (if_pos c10).symm.trans h
        refine fw_aload_n C 0 dX10_two_30 rfl rfl ?_
        refine fw_iconst C 1 dX10_two_31 rfl ?_
        obtain ⟨v28, M28, e28, h⟩ := b2_some h
        refine fw_callV (ci := 10) [_] C (c_X10_fail hl e28) cal_X10_fail wm_X10_171 wi_yX10_fail wsl_yX10_fail (Nat.le_of_ble_eq_true rfl) rfl (gO_of g1) rfl (Nat.le_of_ble_eq_true rfl) ⟨Nat.le_of_ble_eq_true rfl, Nat.le_of_ble_eq_true rfl⟩ ⟨Nat.zero_le _, Nat.zero_le _⟩ dX10_two_32 ?_
        obtain rfl := Option.some.inj h
        exact fw_iret C hr hlk dX10_two_35
set_option maxRecDepth 100000 in
def f_X10_barred (S : List fw_Sh) (M : fw_Mem) (a0 : Nat) (x1 : Int32) : Option (Int32 × fw_Mem) := gd (gO S 10 a0) (bm (fw_set M a0 6 0) (fun M2 => b1 (f_X10_isSuit S M2 a0 x1) (fun v3 => if v3 = 0 then (b2 (f_X10_fail S M2 a0 1) (fun v7 M7 => some (v7, M7))) else (b1 (f_X10_layBound S M2 a0) (fun M5 => b1 (f_X10_barsOf S M5 a0 x1) (fun v6 => some (v6, M5)))))))
set_option maxHeartbeats 4000000 in
set_option maxRecDepth 100000 in
theorem c_X10_barred {l : Launch} {G : fw_G} {S : List fw_Sh} {M : fw_Mem} {a0 : Nat} {x1 : Int32} {r : (Int32 × fw_Mem)} (hl : l.stackTraces = false) (h : f_X10_barred S M a0 x1 = some r) : fw_M l G yX10_barred (.code yX10_barred cX10_barred 2 (some .int)) 6 (fw_mcO (.inl (some (.int r.1)), S, r.2)) (fw_msO (.inl (some (.int r.1)), S, r.2)) S M [.ref a0, .int x1] (.inl (some (.int r.1)), S, r.2) := by
  refine fw_of [(0, .ref a0), (1, .int x1)] (by decide) (Nat.le_of_ble_eq_true rfl) rfl ?_
  intro p e s m args below meth c C hr hlk hnm ht _
  unfold f_X10_barred at h
  refine fw_aload_n C 0 dX10_barred_0 rfl rfl ?_
  refine fw_iconst C 0 dX10_barred_1 rfl ?_
  obtain ⟨g1, h⟩ := gd_some h
  refine fw_putI C 10 6 (Nat.le_of_ble_eq_true rfl) (Nat.le_of_ble_eq_true rfl) wf_X10_51 rfl rfl rfl rfl (gO_of g1) dX10_barred_2 ?_
  refine fw_bm h (fun M2 h => ?_)
  refine fw_aload_n C 0 dX10_barred_5 rfl rfl ?_
  refine fw_iload_n C 1 dX10_barred_6 rfl rfl ?_
  obtain ⟨v3, e3, h⟩ := b1_some h
  refine fw_callV (ci := 10) [_] C (c_X10_isSuit hl e3) cal_X10_isSuit wm_X10_177 wi_yX10_isSuit wsl_yX10_isSuit (Nat.le_of_ble_eq_true rfl) rfl (gO_of g1) rfl (Nat.le_of_ble_eq_true rfl) ⟨Nat.le_of_ble_eq_true rfl, Nat.le_of_ble_eq_true rfl⟩ ⟨Nat.zero_le _, Nat.zero_le _⟩ dX10_barred_7 ?_
  refine fw_if_ne C 19 dX10_barred_10 (by decide) (fun c4 => ?_) (fun c4 => ?_)
  · replace h := (if_neg c4).symm.trans h
    refine fw_aload_n C 0 dX10_barred_19 rfl rfl ?_
    obtain ⟨M5, e5, h⟩ := b1_some h
    refine fw_callV (ci := 10) [] C (c_X10_layBound hl e5) cal_X10_layBound wm_X10_152 wi_yX10_layBound wsl_yX10_layBound (Nat.le_of_ble_eq_true rfl) rfl (gO_of g1) rfl (Nat.le_of_ble_eq_true rfl) ⟨Nat.le_of_ble_eq_true rfl, Nat.le_of_ble_eq_true rfl⟩ ⟨Nat.zero_le _, Nat.zero_le _⟩ dX10_barred_20 ?_
    refine fw_aload_n C 0 dX10_barred_23 rfl rfl ?_
    refine fw_iload_n C 1 dX10_barred_24 rfl rfl ?_
    obtain ⟨v6, e6, h⟩ := b1_some h
    refine fw_callV (ci := 10) [_] C (c_X10_barsOf hl e6) cal_X10_barsOf wm_X10_143 wi_yX10_barsOf wsl_yX10_barsOf (Nat.le_of_ble_eq_true rfl) rfl (gO_of g1) rfl (Nat.le_of_ble_eq_true rfl) ⟨Nat.le_of_ble_eq_true rfl, Nat.le_of_ble_eq_true rfl⟩ ⟨Nat.zero_le _, Nat.zero_le _⟩ dX10_barred_25 ?_
    obtain rfl := Option.some.inj h
    exact fw_iret C hr hlk dX10_barred_28
  · replace h := (if_pos c4).symm.trans h
    refine fw_aload_n C 0 dX10_barred_13 rfl rfl ?_
    refine fw_iconst C 1 dX10_barred_14 rfl ?_
    obtain ⟨v7, M7, e7, h⟩ := b2_some h
    refine fw_callV (ci := 10) [_] C (c_X10_fail hl e7) cal_X10_fail wm_X10_171 wi_yX10_fail wsl_yX10_fail (Nat.le_of_ble_eq_true rfl) rfl (gO_of g1) rfl (Nat.le_of_ble_eq_true rfl) ⟨Nat.le_of_ble_eq_true rfl, Nat.le_of_ble_eq_true rfl⟩ ⟨Nat.zero_le _, Nat.zero_le _⟩ dX10_barred_15 ?_
    obtain rfl := Option.some.inj h
    exact fw_iret C hr hlk dX10_barred_18
set_option maxRecDepth 100000 in
def lf_X10_holdersOf_5 (S : List fw_Sh) (M : fw_Mem) (a0 : Nat) (x1 : Int32) (x2 : Int32) : Nat → Int32 → Int32 → Option (Int32)
  | 0, _, _ => none
  | n + 1, x3, x4 => gd (gO S 10 a0) (b1 (f_X10_suits S M a0) (fun v1 => if v1 ≤ x4 then (some x3) else (b1 (f_X10_holds S M a0 x1 x2 x4) (fun v4 => if v4 = 0 then (lf_X10_holdersOf_5 S M a0 x1 x2 n (x3 + 0) (x4 + 1)) else (lf_X10_holdersOf_5 S M a0 x1 x2 n (x3 + 1) (x4 + 1))))))
set_option maxHeartbeats 4000000 in
set_option maxRecDepth 100000 in
theorem lc_X10_holdersOf_5 {G : fw_G} {p : Program} {l : Launch} {e : Env} {s : State} {m : MethodId} {args : Array Value} {below : List Frame} {meth : Method} {c : Code} {S : List fw_Sh} {o : fw_O} {M : fw_Mem} {a0 : Nat} {x1 : Int32} {x2 : Int32} (C : fw_C G RX10 cX10_holdersOf 5 p s m args c) (hr : meth.sig.returnType = (some .int)) (hlk : meth.locks = false) (hl : l.stackTraces = false) (ht : ∀ x ∈ c.exceptionTable.toList, False) :
    ∀ {n : Nat} {x3 : Int32} {x4 : Int32} {r : (Int32)} (h : lf_X10_holdersOf_5 S M a0 x1 x2 n x3 x4 = some r) (kx : fw_W G p l e (fw_rm 8 (fw_mcO o) (fw_msO o)) s m args below meth c 5 (fw_Z G below args s (fw_mcO o) (fw_msO o) o) 0 0 39 [(3, .int r)] [] S M), fw_W G p l e (fw_rm 8 (fw_mcO o) (fw_msO o)) s m args below meth c 5 (fw_Z G below args s (fw_mcO o) (fw_msO o) o) 0 0 5 [(0, .ref a0), (1, .int x1), (2, .int x2), (3, .int x3), (4, .int x4)] [] S M := by
  intro n
  induction n with
  | zero =>
    intro x3 x4 r h
    exact nomatch (show (none : Option (Int32)) = some r from h)
  | succ n ih =>
    intro x3 x4 r h kx
    rw [lf_X10_holdersOf_5.eq_2] at h
    refine fw_iload C 4 dX10_holdersOf_5 rfl ?_
    refine fw_aload_n C 0 dX10_holdersOf_7 rfl rfl ?_
    obtain ⟨g2, h⟩ := gd_some h
    obtain ⟨v1, e1, h⟩ := b1_some h
    refine fw_callV (ci := 10) [] C (c_X10_suits hl e1) cal_X10_suits wm_X10_62 wi_yX10_suits wsl_yX10_suits (Nat.le_of_ble_eq_true rfl) rfl (gO_of g2) rfl (Nat.le_of_ble_eq_true rfl) ⟨Nat.le_of_ble_eq_true rfl, Nat.le_of_ble_eq_true rfl⟩ ⟨Nat.zero_le _, Nat.zero_le _⟩ dX10_holdersOf_8 ?_
    refine fw_icmp_ge C 39 dX10_holdersOf_11 (by decide) (fun c3 => ?_) (fun c3 => ?_)
    · replace h := (if_pos c3).symm.trans h
      obtain rfl := Option.some.inj h
      refine fw_sub [3] rfl ?_
      exact kx
    · replace h := (if_neg c3).symm.trans h
      refine fw_iload_n C 3 dX10_holdersOf_14 rfl rfl ?_
      refine fw_aload_n C 0 dX10_holdersOf_15 rfl rfl ?_
      refine fw_iload_n C 1 dX10_holdersOf_16 rfl rfl ?_
      refine fw_iload_n C 2 dX10_holdersOf_17 rfl rfl ?_
      refine fw_iload C 4 dX10_holdersOf_18 rfl ?_
      obtain ⟨v4, e4, h⟩ := b1_some h
      refine fw_callV (ci := 10) [_, _, _] C (c_X10_holds hl e4) cal_X10_holds wm_X10_134 wi_yX10_holds wsl_yX10_holds (Nat.le_of_ble_eq_true rfl) rfl (gO_of g2) rfl (Nat.le_of_ble_eq_true rfl) ⟨Nat.le_of_ble_eq_true rfl, Nat.le_of_ble_eq_true rfl⟩ ⟨Nat.zero_le _, Nat.zero_le _⟩ dX10_holdersOf_20 ?_
      refine fw_if_eq C 30 dX10_holdersOf_23 (by decide) (fun c5 => ?_) (fun c5 => ?_)
      · replace h := (if_pos c5).symm.trans h
        refine fw_iconst C 0 dX10_holdersOf_30 rfl ?_
        refine fw_iadd C dX10_holdersOf_31 ?_
        refine fw_istore_n C [(3, _), (0, _), (1, _), (2, _), (4, _)] dX10_holdersOf_32 rfl (Nat.le_of_ble_eq_true rfl) rfl ?_
        refine fw_iinc C _ 4 [(4, _), (3, _), (0, _), (1, _), (2, _)] dX10_holdersOf_33 rfl rfl (Nat.le_of_ble_eq_true rfl) rfl ?_
        refine fw_goto C 5 dX10_holdersOf_36 (by decide) ?_
        refine fw_sub [2, 3, 4, 1, 0] rfl ?_
        exact ih h kx
      · replace h := (if_neg c5).symm.trans h
        refine fw_iconst C 1 dX10_holdersOf_26 rfl ?_
        refine fw_goto C 31 dX10_holdersOf_27 (by decide) ?_
        refine fw_iadd C dX10_holdersOf_31 ?_
        refine fw_istore_n C [(3, _), (0, _), (1, _), (2, _), (4, _)] dX10_holdersOf_32 rfl (Nat.le_of_ble_eq_true rfl) rfl ?_
        refine fw_iinc C _ 4 [(4, _), (3, _), (0, _), (1, _), (2, _)] dX10_holdersOf_33 rfl rfl (Nat.le_of_ble_eq_true rfl) rfl ?_
        refine fw_goto C 5 dX10_holdersOf_36 (by decide) ?_
        refine fw_sub [2, 3, 4, 1, 0] rfl ?_
        exact ih h kx
set_option maxRecDepth 100000 in
def f_X10_holdersOf (S : List fw_Sh) (M : fw_Mem) (a0 : Nat) (x1 : Int32) (x2 : Int32) : Option Int32 := b1 (lf_X10_holdersOf_5 S M a0 x1 x2 20000 0 0) (fun l6 => some l6)
set_option maxHeartbeats 4000000 in
set_option maxRecDepth 100000 in
theorem c_X10_holdersOf {l : Launch} {G : fw_G} {S : List fw_Sh} {M : fw_Mem} {a0 : Nat} {x1 : Int32} {x2 : Int32} {r : Int32} (hl : l.stackTraces = false) (h : f_X10_holdersOf S M a0 x1 x2 = some r) : fw_M l G yX10_holdersOf (.code yX10_holdersOf cX10_holdersOf 5 (some .int)) 8 (fw_mcO (.inl (some (.int r)), S, M)) (fw_msO (.inl (some (.int r)), S, M)) S M [.ref a0, .int x1, .int x2] (.inl (some (.int r)), S, M) := by
  refine fw_of [(0, .ref a0), (1, .int x1), (2, .int x2)] (by decide) (Nat.le_of_ble_eq_true rfl) rfl ?_
  intro p e s m args below meth c C hr hlk hnm ht _
  unfold f_X10_holdersOf at h
  refine fw_iconst C 0 dX10_holdersOf_0 rfl ?_
  refine fw_istore_n C [(3, _), (0, _), (1, _), (2, _)] dX10_holdersOf_1 rfl (Nat.le_of_ble_eq_true rfl) rfl ?_
  refine fw_iconst C 0 dX10_holdersOf_2 rfl ?_
  refine fw_istore C [(4, _), (3, _), (0, _), (1, _), (2, _)] dX10_holdersOf_3 (Nat.le_of_ble_eq_true rfl) rfl ?_
  refine fw_sub [2, 3, 4, 1, 0] rfl ?_
  obtain ⟨l6, e6, h⟩ := b1_some h
  refine lc_X10_holdersOf_5 C hr hlk hl ht e6 ?_
  refine fw_iload_n C 0 dX10_holdersOf_39 rfl rfl ?_
  obtain rfl := Option.some.inj h
  exact fw_iret C hr hlk dX10_holdersOf_40
set_option maxRecDepth 100000 in
def f_X10_held (S : List fw_Sh) (M : fw_Mem) (a0 : Nat) (x1 : Int32) (x2 : Int32) (x3 : Int32) : Option (Int32 × fw_Mem) := gd (gO S 10 a0) (bm (fw_set M a0 6 0) (fun M2 => b1 (f_X10_isSuit S M2 a0 x1) (fun v3 => if v3 = 0 then (b2 (f_X10_fail S M2 a0 1) (fun v5 M5 => some (v5, M5))) else (b1 (f_X10_isIn S M2 x2 0 30) (fun v6 => if v6 = 0 then (b2 (f_X10_fail S M2 a0 1) (fun v8 M8 => some (v8, M8))) else (b1 (f_X10_issuesOf S M2 a0 x1) (fun v9 => b1 (f_X10_has S M2 v9 x2) (fun v10 => if v10 = 0 then (b2 (f_X10_fail S M2 a0 1) (fun v12 M12 => some (v12, M12))) else (b1 (f_X10_isIn S M2 x3 0 2) (fun v13 => if v13 = 0 then (b2 (f_X10_fail S M2 a0 1) (fun v23 M23 => some (v23, M23))) else (b1 (f_X10_layBound S M2 a0) (fun M15 => b1 (f_X10_holderOf S M15 a0 x1 x2) (fun v16 => if x3 = 2 then (b1 (f_X10_holdersOf S M15 a0 x1 x2) (fun v22 => some (v22, M15))) else (if v16 = (-1) then (some (v16, M15)) else (if x3 = 0 then (some (v16, M15)) else (b1 (f_X10_foundYes S M15 a0 v16 x2) (fun v20 => if v20 = 0 then (some (0, M15)) else (some (1, M15)))))))))))))))))))
set_option maxHeartbeats 4000000 in
set_option maxRecDepth 100000 in
theorem c_X10_held {l : Launch} {G : fw_G} {S : List fw_Sh} {M : fw_Mem} {a0 : Nat} {x1 : Int32} {x2 : Int32} {x3 : Int32} {r : (Int32 × fw_Mem)} (hl : l.stackTraces = false) (h : f_X10_held S M a0 x1 x2 x3 = some r) : fw_M l G yX10_held (.code yX10_held cX10_held 5 (some .int)) 9 (fw_mcO (.inl (some (.int r.1)), S, r.2)) (fw_msO (.inl (some (.int r.1)), S, r.2)) S M [.ref a0, .int x1, .int x2, .int x3] (.inl (some (.int r.1)), S, r.2) := by
  refine fw_of [(0, .ref a0), (1, .int x1), (2, .int x2), (3, .int x3)] (by decide) (Nat.le_of_ble_eq_true rfl) rfl ?_
  intro p e s m args below meth c C hr hlk hnm ht _
  unfold f_X10_held at h
  refine fw_aload_n C 0 dX10_held_0 rfl rfl ?_
  refine fw_iconst C 0 dX10_held_1 rfl ?_
  obtain ⟨g1, h⟩ := gd_some h
  refine fw_putI C 10 6 (Nat.le_of_ble_eq_true rfl) (Nat.le_of_ble_eq_true rfl) wf_X10_51 rfl rfl rfl rfl (gO_of g1) dX10_held_2 ?_
  refine fw_bm h (fun M2 h => ?_)
  refine fw_aload_n C 0 dX10_held_5 rfl rfl ?_
  refine fw_iload_n C 1 dX10_held_6 rfl rfl ?_
  obtain ⟨v3, e3, h⟩ := b1_some h
  refine fw_callV (ci := 10) [_] C (c_X10_isSuit hl e3) cal_X10_isSuit wm_X10_177 wi_yX10_isSuit wsl_yX10_isSuit (Nat.le_of_ble_eq_true rfl) rfl (gO_of g1) rfl (Nat.le_of_ble_eq_true rfl) ⟨Nat.le_of_ble_eq_true rfl, Nat.le_of_ble_eq_true rfl⟩ ⟨Nat.zero_le _, Nat.zero_le _⟩ dX10_held_7 ?_
  refine fw_if_eq C 44 dX10_held_10 (by decide) (fun c4 => ?_) (fun c4 => ?_)
  · replace h := (if_pos c4).symm.trans h
    refine fw_aload_n C 0 dX10_held_44 rfl rfl ?_
    refine fw_iconst C 1 dX10_held_45 rfl ?_
    obtain ⟨v5, M5, e5, h⟩ := b2_some h
    refine fw_callV (ci := 10) [_] C (c_X10_fail hl e5) cal_X10_fail wm_X10_171 wi_yX10_fail wsl_yX10_fail (Nat.le_of_ble_eq_true rfl) rfl (gO_of g1) rfl (Nat.le_of_ble_eq_true rfl) ⟨Nat.le_of_ble_eq_true rfl, Nat.le_of_ble_eq_true rfl⟩ ⟨Nat.zero_le _, Nat.zero_le _⟩ dX10_held_46 ?_
    obtain rfl := Option.some.inj h
    exact fw_iret C hr hlk dX10_held_49
  · replace h := (if_neg c4).symm.trans h
    refine fw_iload_n C 2 dX10_held_13 rfl rfl ?_
    refine fw_iconst C 0 dX10_held_14 rfl ?_
    refine fw_bipush C 30 dX10_held_15 rfl ?_
    obtain ⟨v6, e6, h⟩ := b1_some h
    refine fw_callS [_, _, _] C (c_X10_isIn hl e6) cal_X10_isIn wm_X10_58 wt_yX10_isIn rfl (Nat.le_of_ble_eq_true rfl) ⟨Nat.le_of_ble_eq_true rfl, Nat.le_of_ble_eq_true rfl⟩ ⟨Nat.zero_le _, Nat.zero_le _⟩ dX10_held_17 ?_
    refine fw_if_eq C 44 dX10_held_20 (by decide) (fun c7 => ?_) (fun c7 => ?_)
    · replace h := (if_pos c7).symm.trans h
      refine fw_aload_n C 0 dX10_held_44 rfl rfl ?_
      refine fw_iconst C 1 dX10_held_45 rfl ?_
      obtain ⟨v8, M8, e8, h⟩ := b2_some h
      refine fw_callV (ci := 10) [_] C (c_X10_fail hl e8) cal_X10_fail wm_X10_171 wi_yX10_fail wsl_yX10_fail (Nat.le_of_ble_eq_true rfl) rfl (gO_of g1) rfl (Nat.le_of_ble_eq_true rfl) ⟨Nat.le_of_ble_eq_true rfl, Nat.le_of_ble_eq_true rfl⟩ ⟨Nat.zero_le _, Nat.zero_le _⟩ dX10_held_46 ?_
      obtain rfl := Option.some.inj h
      exact fw_iret C hr hlk dX10_held_49
    · replace h := (if_neg c7).symm.trans h
      refine fw_aload_n C 0 dX10_held_23 rfl rfl ?_
      refine fw_iload_n C 1 dX10_held_24 rfl rfl ?_
      obtain ⟨v9, e9, h⟩ := b1_some h
      refine fw_callV (ci := 10) [_] C (c_X10_issuesOf hl e9) cal_X10_issuesOf wm_X10_137 wi_yX10_issuesOf wsl_yX10_issuesOf (Nat.le_of_ble_eq_true rfl) rfl (gO_of g1) rfl (Nat.le_of_ble_eq_true rfl) ⟨Nat.le_of_ble_eq_true rfl, Nat.le_of_ble_eq_true rfl⟩ ⟨Nat.zero_le _, Nat.zero_le _⟩ dX10_held_25 ?_
      refine fw_iload_n C 2 dX10_held_28 rfl rfl ?_
      obtain ⟨v10, e10, h⟩ := b1_some h
      refine fw_callS [_, _] C (c_X10_has hl e10) cal_X10_has wm_X10_98 wt_yX10_has rfl (Nat.le_of_ble_eq_true rfl) ⟨Nat.le_of_ble_eq_true rfl, Nat.le_of_ble_eq_true rfl⟩ ⟨Nat.zero_le _, Nat.zero_le _⟩ dX10_held_29 ?_
      refine fw_if_eq C 44 dX10_held_32 (by decide) (fun c11 => ?_) (fun c11 => ?_)
      · replace h := (if_pos c11).symm.trans h
        refine fw_aload_n C 0 dX10_held_44 rfl rfl ?_
        refine fw_iconst C 1 dX10_held_45 rfl ?_
        obtain ⟨v12, M12, e12, h⟩ := b2_some h
        refine fw_callV (ci := 10) [_] C (c_X10_fail hl e12) cal_X10_fail wm_X10_171 wi_yX10_fail wsl_yX10_fail (Nat.le_of_ble_eq_true rfl) rfl (gO_of g1) rfl (Nat.le_of_ble_eq_true rfl) ⟨Nat.le_of_ble_eq_true rfl, Nat.le_of_ble_eq_true rfl⟩ ⟨Nat.zero_le _, Nat.zero_le _⟩ dX10_held_46 ?_
        obtain rfl := Option.some.inj h
        exact fw_iret C hr hlk dX10_held_49
      · replace h := (if_neg c11).symm.trans h
        refine fw_iload_n C 3 dX10_held_35 rfl rfl ?_
        refine fw_iconst C 0 dX10_held_36 rfl ?_
        refine fw_iconst C 2 dX10_held_37 rfl ?_
        obtain ⟨v13, e13, h⟩ := b1_some h
        refine fw_callS [_, _, _] C (c_X10_isIn hl e13) cal_X10_isIn wm_X10_58 wt_yX10_isIn rfl (Nat.le_of_ble_eq_true rfl) ⟨Nat.le_of_ble_eq_true rfl, Nat.le_of_ble_eq_true rfl⟩ ⟨Nat.zero_le _, Nat.zero_le _⟩ dX10_held_38 ?_
        refine fw_if_ne C 50 dX10_held_41 (by decide) (fun c14 => ?_) (fun c14 => ?_)
        · replace h := (if_neg c14).symm.trans h
          refine fw_aload_n C 0 dX10_held_50 rfl rfl ?_
          obtain ⟨M15, e15, h⟩ := b1_some h
          refine fw_callV (ci := 10) [] C (c_X10_layBound hl e15) cal_X10_layBound wm_X10_152 wi_yX10_layBound wsl_yX10_layBound (Nat.le_of_ble_eq_true rfl) rfl (gO_of g1) rfl (Nat.le_of_ble_eq_true rfl) ⟨Nat.le_of_ble_eq_true rfl, Nat.le_of_ble_eq_true rfl⟩ ⟨Nat.zero_le _, Nat.zero_le _⟩ dX10_held_51 ?_
          refine fw_aload_n C 0 dX10_held_54 rfl rfl ?_
          refine fw_iload_n C 1 dX10_held_55 rfl rfl ?_
          refine fw_iload_n C 2 dX10_held_56 rfl rfl ?_
          obtain ⟨v16, e16, h⟩ := b1_some h
          refine fw_callV (ci := 10) [_, _] C (c_X10_holderOf hl e16) cal_X10_holderOf wm_X10_140 wi_yX10_holderOf wsl_yX10_holderOf (Nat.le_of_ble_eq_true rfl) rfl (gO_of g1) rfl (Nat.le_of_ble_eq_true rfl) ⟨Nat.le_of_ble_eq_true rfl, Nat.le_of_ble_eq_true rfl⟩ ⟨Nat.zero_le _, Nat.zero_le _⟩ dX10_held_57 ?_
          refine fw_istore C [(4, _), (0, _), (1, _), (2, _), (3, _)] dX10_held_60 (Nat.le_of_ble_eq_true rfl) rfl ?_
          refine fw_iload_n C 4 dX10_held_62 rfl rfl ?_
          refine fw_iconst C 2 dX10_held_63 rfl ?_
          refine fw_icmp_ne C 74 dX10_held_64 (by decide) (fun c17 => ?_) (fun c17 => ?_)
          · replace h := (if_neg c17).symm.trans h
            refine fw_iload C 0 dX10_held_74 rfl ?_
            refine fw_iconst C (-1) dX10_held_76 rfl ?_
            refine fw_icmp_eq C 84 dX10_held_77 (by decide) (fun c18 => ?_) (fun c18 => ?_)
            · replace h := (if_pos c18).symm.trans h
              refine fw_iload C 0 dX10_held_84 rfl ?_
              refine fw_goto C 104 dX10_held_86 (by decide) ?_
              obtain rfl := Option.some.inj h
              exact fw_iret C hr hlk dX10_held_104
            · replace h := (if_neg c18).symm.trans h
              refine fw_iload_n C 4 dX10_held_80 rfl rfl ?_
              refine fw_if_ne C 89 dX10_held_81 (by decide) (fun c19 => ?_) (fun c19 => ?_)
              · replace h := (if_neg c19).symm.trans h
                refine fw_aload_n C 1 dX10_held_89 rfl rfl ?_
                refine fw_iload C 0 dX10_held_90 rfl ?_
                refine fw_iload_n C 3 dX10_held_92 rfl rfl ?_
                obtain ⟨v20, e20, h⟩ := b1_some h
                refine fw_callV (ci := 10) [_, _] C (c_X10_foundYes hl e20) cal_X10_foundYes wm_X10_128 wi_yX10_foundYes wsl_yX10_foundYes (Nat.le_of_ble_eq_true rfl) rfl (gO_of g1) rfl (Nat.le_of_ble_eq_true rfl) ⟨Nat.le_of_ble_eq_true rfl, Nat.le_of_ble_eq_true rfl⟩ ⟨Nat.zero_le _, Nat.zero_le _⟩ dX10_held_93 ?_
                refine fw_if_eq C 103 dX10_held_96 (by decide) (fun c21 => ?_) (fun c21 => ?_)
                · replace h := (if_pos c21).symm.trans h
                  refine fw_iconst C 0 dX10_held_103 rfl ?_
                  obtain rfl := Option.some.inj h
                  exact fw_iret C hr hlk dX10_held_104
                · replace h := (if_neg c21).symm.trans h
                  refine fw_iconst C 1 dX10_held_99 rfl ?_
                  refine fw_goto C 104 dX10_held_100 (by decide) ?_
                  obtain rfl := Option.some.inj h
                  exact fw_iret C hr hlk dX10_held_104
              · replace h := (if_pos c19).symm.trans h
                refine fw_iload C 0 dX10_held_84 rfl ?_
                refine fw_goto C 104 dX10_held_86 (by decide) ?_
                obtain rfl := Option.some.inj h
                exact fw_iret C hr hlk dX10_held_104
          · replace h := (if_pos c17).symm.trans h
            refine fw_aload_n C 1 dX10_held_67 rfl rfl ?_
            refine fw_iload_n C 2 dX10_held_68 rfl rfl ?_
            refine fw_iload_n C 3 dX10_held_69 rfl rfl ?_
            obtain ⟨v22, e22, h⟩ := b1_some h
            refine fw_callV (ci := 10) [_, _] C (c_X10_holdersOf hl e22) cal_X10_holdersOf wm_X10_190 wi_yX10_holdersOf wsl_yX10_holdersOf (Nat.le_of_ble_eq_true rfl) rfl (gO_of g1) rfl (Nat.le_of_ble_eq_true rfl) ⟨Nat.le_of_ble_eq_true rfl, Nat.le_of_ble_eq_true rfl⟩ ⟨Nat.zero_le _, Nat.zero_le _⟩ dX10_held_70 ?_
            obtain rfl := Option.some.inj h
            exact fw_iret C hr hlk dX10_held_73
        · replace h := (if_pos c14).symm.trans h
          refine fw_aload_n C 0 dX10_held_44 rfl rfl ?_
          refine fw_iconst C 1 dX10_held_45 rfl ?_
          obtain ⟨v23, M23, e23, h⟩ := b2_some h
          refine fw_callV (ci := 10) [_] C (c_X10_fail hl e23) cal_X10_fail wm_X10_171 wi_yX10_fail wsl_yX10_fail (Nat.le_of_ble_eq_true rfl) rfl (gO_of g1) rfl (Nat.le_of_ble_eq_true rfl) ⟨Nat.le_of_ble_eq_true rfl, Nat.le_of_ble_eq_true rfl⟩ ⟨Nat.zero_le _, Nat.zero_le _⟩ dX10_held_46 ?_
          obtain rfl := Option.some.inj h
          exact fw_iret C hr hlk dX10_held_49
set_option maxRecDepth 100000 in
def f_X10_issues (S : List fw_Sh) (M : fw_Mem) (a0 : Nat) (x1 : Int32) (x2 : Int32) : Option (Int32 × fw_Mem) := gd (gO S 10 a0) (bm (fw_set M a0 6 0) (fun M2 => b1 (f_X10_isSuit S M2 a0 x1) (fun v3 => if v3 = 0 then (b2 (f_X10_fail S M2 a0 1) (fun v5 M5 => some (v5, M5))) else (b1 (f_X10_isIn S M2 x2 0 1) (fun v6 => if v6 = 0 then (b2 (f_X10_fail S M2 a0 1) (fun v12 M12 => some (v12, M12))) else (b1 (f_X10_layBound S M2 a0) (fun M8 => b1 (f_X10_heldOf S M8 a0 x1) (fun v9 => if x2 = 0 then (some (v9, M8)) else (b1 (f_X10_issuesOf S M8 a0 x1) (fun v11 => some ((v11 &&& (v9 ^^^ (-1))), M8)))))))))))
set_option maxHeartbeats 4000000 in
set_option maxRecDepth 100000 in
theorem c_X10_issues {l : Launch} {G : fw_G} {S : List fw_Sh} {M : fw_Mem} {a0 : Nat} {x1 : Int32} {x2 : Int32} {r : (Int32 × fw_Mem)} (hl : l.stackTraces = false) (h : f_X10_issues S M a0 x1 x2 = some r) : fw_M l G yX10_issues (.code yX10_issues cX10_issues 4 (some .int)) 10 (fw_mcO (.inl (some (.int r.1)), S, r.2)) (fw_msO (.inl (some (.int r.1)), S, r.2)) S M [.ref a0, .int x1, .int x2] (.inl (some (.int r.1)), S, r.2) := by
  refine fw_of [(0, .ref a0), (1, .int x1), (2, .int x2)] (by decide) (Nat.le_of_ble_eq_true rfl) rfl ?_
  intro p e s m args below meth c C hr hlk hnm ht _
  unfold f_X10_issues at h
  refine fw_aload_n C 0 dX10_issues_0 rfl rfl ?_
  refine fw_iconst C 0 dX10_issues_1 rfl ?_
  obtain ⟨g1, h⟩ := gd_some h
  refine fw_putI C 10 6 (Nat.le_of_ble_eq_true rfl) (Nat.le_of_ble_eq_true rfl) wf_X10_51 rfl rfl rfl rfl (gO_of g1) dX10_issues_2 ?_
  refine fw_bm h (fun M2 h => ?_)
  refine fw_aload_n C 0 dX10_issues_5 rfl rfl ?_
  refine fw_iload_n C 1 dX10_issues_6 rfl rfl ?_
  obtain ⟨v3, e3, h⟩ := b1_some h
  refine fw_callV (ci := 10) [_] C (c_X10_isSuit hl e3) cal_X10_isSuit wm_X10_177 wi_yX10_isSuit wsl_yX10_isSuit (Nat.le_of_ble_eq_true rfl) rfl (gO_of g1) rfl (Nat.le_of_ble_eq_true rfl) ⟨Nat.le_of_ble_eq_true rfl, Nat.le_of_ble_eq_true rfl⟩ ⟨Nat.zero_le _, Nat.zero_le _⟩ dX10_issues_7 ?_
  refine fw_if_eq C 22 dX10_issues_10 (by decide) (fun c4 => ?_) (fun c4 => ?_)
  · replace h := (if_pos c4).symm.trans h
    refine fw_aload_n C 0 dX10_issues_22 rfl rfl ?_
    refine fw_iconst C 1 dX10_issues_23 rfl ?_
    obtain ⟨v5, M5, e5, h⟩ := b2_some h
    refine fw_callV (ci := 10) [_] C (c_X10_fail hl e5) cal_X10_fail wm_X10_171 wi_yX10_fail wsl_yX10_fail (Nat.le_of_ble_eq_true rfl) rfl (gO_of g1) rfl (Nat.le_of_ble_eq_true rfl) ⟨Nat.le_of_ble_eq_true rfl, Nat.le_of_ble_eq_true rfl⟩ ⟨Nat.zero_le _, Nat.zero_le _⟩ dX10_issues_24 ?_
    obtain rfl := Option.some.inj h
    exact fw_iret C hr hlk dX10_issues_27
  · replace h := (if_neg c4).symm.trans h
    refine fw_iload_n C 2 dX10_issues_13 rfl rfl ?_
    refine fw_iconst C 0 dX10_issues_14 rfl ?_
    refine fw_iconst C 1 dX10_issues_15 rfl ?_
    obtain ⟨v6, e6, h⟩ := b1_some h
    refine fw_callS [_, _, _] C (c_X10_isIn hl e6) cal_X10_isIn wm_X10_58 wt_yX10_isIn rfl (Nat.le_of_ble_eq_true rfl) ⟨Nat.le_of_ble_eq_true rfl, Nat.le_of_ble_eq_true rfl⟩ ⟨Nat.zero_le _, Nat.zero_le _⟩ dX10_issues_16 ?_
    refine fw_if_ne C 28 dX10_issues_19 (by decide) (fun c7 => ?_) (fun c7 => ?_)
    · replace h := (if_neg c7).symm.trans h
      refine fw_aload_n C 0 dX10_issues_28 rfl rfl ?_
      obtain ⟨M8, e8, h⟩ := b1_some h
      refine fw_callV (ci := 10) [] C (c_X10_layBound hl e8) cal_X10_layBound wm_X10_152 wi_yX10_layBound wsl_yX10_layBound (Nat.le_of_ble_eq_true rfl) rfl (gO_of g1) rfl (Nat.le_of_ble_eq_true rfl) ⟨Nat.le_of_ble_eq_true rfl, Nat.le_of_ble_eq_true rfl⟩ ⟨Nat.zero_le _, Nat.zero_le _⟩ dX10_issues_29 ?_
      refine fw_aload_n C 0 dX10_issues_32 rfl rfl ?_
      refine fw_iload_n C 1 dX10_issues_33 rfl rfl ?_
      obtain ⟨v9, e9, h⟩ := b1_some h
      refine fw_callV (ci := 10) [_] C (c_X10_heldOf hl e9) cal_X10_heldOf wm_X10_146 wi_yX10_heldOf wsl_yX10_heldOf (Nat.le_of_ble_eq_true rfl) rfl (gO_of g1) rfl (Nat.le_of_ble_eq_true rfl) ⟨Nat.le_of_ble_eq_true rfl, Nat.le_of_ble_eq_true rfl⟩ ⟨Nat.zero_le _, Nat.zero_le _⟩ dX10_issues_34 ?_
      refine fw_istore_n C [(3, _), (0, _), (1, _), (2, _)] dX10_issues_37 rfl (Nat.le_of_ble_eq_true rfl) rfl ?_
      refine fw_iload_n C 3 dX10_issues_38 rfl rfl ?_
      refine fw_if_ne C 46 dX10_issues_39 (by decide) (fun c10 => ?_) (fun c10 => ?_)
      · replace h := (if_neg c10).symm.trans h
        refine fw_aload_n C 1 dX10_issues_46 rfl rfl ?_
        refine fw_iload_n C 2 dX10_issues_47 rfl rfl ?_
        obtain ⟨v11, e11, h⟩ := b1_some h
        refine fw_callV (ci := 10) [_] C (c_X10_issuesOf hl e11) cal_X10_issuesOf wm_X10_137 wi_yX10_issuesOf wsl_yX10_issuesOf (Nat.le_of_ble_eq_true rfl) rfl (gO_of g1) rfl (Nat.le_of_ble_eq_true rfl) ⟨Nat.le_of_ble_eq_true rfl, Nat.le_of_ble_eq_true rfl⟩ ⟨Nat.zero_le _, Nat.zero_le _⟩ dX10_issues_48 ?_
        refine fw_iload_n C 0 dX10_issues_51 rfl rfl ?_
        refine fw_iconst C (-1) dX10_issues_52 rfl ?_
        refine fw_ixor C dX10_issues_53 ?_
        refine fw_iand C dX10_issues_54 ?_
        obtain rfl := Option.some.inj h
        exact fw_iret C hr hlk dX10_issues_55
      · replace h := (if_pos c10).symm.trans h
        refine fw_iload_n C 0 dX10_issues_42 rfl rfl ?_
        refine fw_goto C 55 dX10_issues_43 (by decide) ?_
        obtain rfl := Option.some.inj h
        exact fw_iret C hr hlk dX10_issues_55
    · replace h := (if_pos c7).symm.trans h
      refine fw_aload_n C 0 dX10_issues_22 rfl rfl ?_
      refine fw_iconst C 1 dX10_issues_23 rfl ?_
      obtain ⟨v12, M12, e12, h⟩ := b2_some h
      refine fw_callV (ci := 10) [_] C (c_X10_fail hl e12) cal_X10_fail wm_X10_171 wi_yX10_fail wsl_yX10_fail (Nat.le_of_ble_eq_true rfl) rfl (gO_of g1) rfl (Nat.le_of_ble_eq_true rfl) ⟨Nat.le_of_ble_eq_true rfl, Nat.le_of_ble_eq_true rfl⟩ ⟨Nat.zero_le _, Nat.zero_le _⟩ dX10_issues_24 ?_
      obtain rfl := Option.some.inj h
      exact fw_iret C hr hlk dX10_issues_27
set_option maxRecDepth 100000 in
def f_X10_forced (S : List fw_Sh) (M : fw_Mem) (a0 : Nat) (x1 : Int32) : Option (Int32 × fw_Mem) := gd (gO S 10 a0) (bm (fw_set M a0 6 0) (fun M2 => b1 (f_X10_isSuit S M2 a0 x1) (fun v3 => if v3 = 0 then (b2 (f_X10_fail S M2 a0 1) (fun v7 M7 => some (v7, M7))) else (b1 (f_X10_layBound S M2 a0) (fun M5 => b1 (f_X10_forcedOf S M5 a0 x1) (fun v6 => some (v6, M5)))))))
set_option maxHeartbeats 4000000 in
set_option maxRecDepth 100000 in
theorem c_X10_forced {l : Launch} {G : fw_G} {S : List fw_Sh} {M : fw_Mem} {a0 : Nat} {x1 : Int32} {r : (Int32 × fw_Mem)} (hl : l.stackTraces = false) (h : f_X10_forced S M a0 x1 = some r) : fw_M l G yX10_forced (.code yX10_forced cX10_forced 2 (some .int)) 11 (fw_mcO (.inl (some (.int r.1)), S, r.2)) (fw_msO (.inl (some (.int r.1)), S, r.2)) S M [.ref a0, .int x1] (.inl (some (.int r.1)), S, r.2) := by
  refine fw_of [(0, .ref a0), (1, .int x1)] (by decide) (Nat.le_of_ble_eq_true rfl) rfl ?_
  intro p e s m args below meth c C hr hlk hnm ht _
  unfold f_X10_forced at h
  refine fw_aload_n C 0 dX10_forced_0 rfl rfl ?_
  refine fw_iconst C 0 dX10_forced_1 rfl ?_
  obtain ⟨g1, h⟩ := gd_some h
  refine fw_putI C 10 6 (Nat.le_of_ble_eq_true rfl) (Nat.le_of_ble_eq_true rfl) wf_X10_51 rfl rfl rfl rfl (gO_of g1) dX10_forced_2 ?_
  refine fw_bm h (fun M2 h => ?_)
  refine fw_aload_n C 0 dX10_forced_5 rfl rfl ?_
  refine fw_iload_n C 1 dX10_forced_6 rfl rfl ?_
  obtain ⟨v3, e3, h⟩ := b1_some h
  refine fw_callV (ci := 10) [_] C (c_X10_isSuit hl e3) cal_X10_isSuit wm_X10_177 wi_yX10_isSuit wsl_yX10_isSuit (Nat.le_of_ble_eq_true rfl) rfl (gO_of g1) rfl (Nat.le_of_ble_eq_true rfl) ⟨Nat.le_of_ble_eq_true rfl, Nat.le_of_ble_eq_true rfl⟩ ⟨Nat.zero_le _, Nat.zero_le _⟩ dX10_forced_7 ?_
  refine fw_if_ne C 19 dX10_forced_10 (by decide) (fun c4 => ?_) (fun c4 => ?_)
  · replace h := (if_neg c4).symm.trans h
    refine fw_aload_n C 0 dX10_forced_19 rfl rfl ?_
    obtain ⟨M5, e5, h⟩ := b1_some h
    refine fw_callV (ci := 10) [] C (c_X10_layBound hl e5) cal_X10_layBound wm_X10_152 wi_yX10_layBound wsl_yX10_layBound (Nat.le_of_ble_eq_true rfl) rfl (gO_of g1) rfl (Nat.le_of_ble_eq_true rfl) ⟨Nat.le_of_ble_eq_true rfl, Nat.le_of_ble_eq_true rfl⟩ ⟨Nat.zero_le _, Nat.zero_le _⟩ dX10_forced_20 ?_
    refine fw_aload_n C 0 dX10_forced_23 rfl rfl ?_
    refine fw_iload_n C 1 dX10_forced_24 rfl rfl ?_
    obtain ⟨v6, e6, h⟩ := b1_some h
    refine fw_callV (ci := 10) [_] C (c_X10_forcedOf hl e6) cal_X10_forcedOf wm_X10_193 wi_yX10_forcedOf wsl_yX10_forcedOf (Nat.le_of_ble_eq_true rfl) rfl (gO_of g1) rfl (Nat.le_of_ble_eq_true rfl) ⟨Nat.le_of_ble_eq_true rfl, Nat.le_of_ble_eq_true rfl⟩ ⟨Nat.zero_le _, Nat.zero_le _⟩ dX10_forced_25 ?_
    obtain rfl := Option.some.inj h
    exact fw_iret C hr hlk dX10_forced_28
  · replace h := (if_pos c4).symm.trans h
    refine fw_aload_n C 0 dX10_forced_13 rfl rfl ?_
    refine fw_iconst C 1 dX10_forced_14 rfl ?_
    obtain ⟨v7, M7, e7, h⟩ := b2_some h
    refine fw_callV (ci := 10) [_] C (c_X10_fail hl e7) cal_X10_fail wm_X10_171 wi_yX10_fail wsl_yX10_fail (Nat.le_of_ble_eq_true rfl) rfl (gO_of g1) rfl (Nat.le_of_ble_eq_true rfl) ⟨Nat.le_of_ble_eq_true rfl, Nat.le_of_ble_eq_true rfl⟩ ⟨Nat.zero_le _, Nat.zero_le _⟩ dX10_forced_15 ?_
    obtain rfl := Option.some.inj h
    exact fw_iret C hr hlk dX10_forced_18
set_option maxRecDepth 100000 in
def lf_X10_latest_27 (S : List fw_Sh) (M : fw_Mem) (a0 : Nat) (x1 : Int32) : Nat → Int32 → Int32 → Option (Int32)
  | 0, _, _ => none
  | n + 1, x2, x3 => gd (gO S 10 a0) (b1 (f_X10_suits S M a0) (fun v6 => if v6 ≤ x3 then (some x2) else (b1 (f_X10_isJudged S M a0 x3) (fun v9 => if v9 = 0 then (lf_X10_latest_27 S M a0 x1 n x2 (x3 + 1)) else (b1 (f_X10_isReversed S M a0 x3) (fun v11 => if v11 = 0 then (b1 (f_X10_isBoundAtAll S M a0 x3 x1) (fun v13 => if v13 = 0 then (lf_X10_latest_27 S M a0 x1 n x2 (x3 + 1)) else (if x2 = (-1) then (lf_X10_latest_27 S M a0 x1 n x3 (x3 + 1)) else (b1 (f_X10_of S M a0 x3 6) (fun v16 => b1 (f_X10_of S M a0 x2 6) (fun v17 => if v16 < v17 then (lf_X10_latest_27 S M a0 x1 n x2 (x3 + 1)) else (lf_X10_latest_27 S M a0 x1 n x3 (x3 + 1)))))))) else (lf_X10_latest_27 S M a0 x1 n x2 (x3 + 1))))))))
set_option maxHeartbeats 4000000 in
set_option maxRecDepth 100000 in
theorem lc_X10_latest_27 {G : fw_G} {p : Program} {l : Launch} {e : Env} {s : State} {m : MethodId} {args : Array Value} {below : List Frame} {meth : Method} {c : Code} {S : List fw_Sh} {o : fw_O} {M : fw_Mem} {a0 : Nat} {x1 : Int32} (C : fw_C G RX10 cX10_latest 4 p s m args c) (hr : meth.sig.returnType = (some .int)) (hlk : meth.locks = false) (hl : l.stackTraces = false) (ht : ∀ x ∈ c.exceptionTable.toList, False) :
    ∀ {n : Nat} {x2 : Int32} {x3 : Int32} {r : (Int32)} (h : lf_X10_latest_27 S M a0 x1 n x2 x3 = some r) (kx : fw_W G p l e (fw_rm 5 (fw_mcO o) (fw_msO o)) s m args below meth c 4 (fw_Z G below args s (fw_mcO o) (fw_msO o) o) 0 0 93 [(2, .int r)] [] S M), fw_W G p l e (fw_rm 5 (fw_mcO o) (fw_msO o)) s m args below meth c 4 (fw_Z G below args s (fw_mcO o) (fw_msO o) o) 0 0 27 [(0, .ref a0), (1, .int x1), (2, .int x2), (3, .int x3)] [] S M := by
  intro n
  induction n with
  | zero =>
    intro x2 x3 r h
    exact nomatch (show (none : Option (Int32)) = some r from h)
  | succ n ih =>
    intro x2 x3 r h kx
    rw [lf_X10_latest_27.eq_2] at h
    refine fw_iload_n C 3 dX10_latest_27 rfl rfl ?_
    refine fw_aload_n C 0 dX10_latest_28 rfl rfl ?_
    obtain ⟨g7, h⟩ := gd_some h
    obtain ⟨v6, e6, h⟩ := b1_some h
    refine fw_callV (ci := 10) [] C (c_X10_suits hl e6) cal_X10_suits wm_X10_62 wi_yX10_suits wsl_yX10_suits (Nat.le_of_ble_eq_true rfl) rfl (gO_of g7) rfl (Nat.le_of_ble_eq_true rfl) ⟨Nat.le_of_ble_eq_true rfl, Nat.le_of_ble_eq_true rfl⟩ ⟨Nat.zero_le _, Nat.zero_le _⟩ dX10_latest_29 ?_
    refine fw_icmp_ge C 93 dX10_latest_32 (by decide) (fun c8 => ?_) (fun c8 => ?_)
    · replace h := (if_pos c8).symm.trans h
      obtain rfl := Option.some.inj h
      refine fw_sub [2] rfl ?_
      exact kx
    · replace h := (if_neg c8).symm.trans h
      refine fw_aload_n C 0 dX10_latest_35 rfl rfl ?_
      refine fw_iload_n C 3 dX10_latest_36 rfl rfl ?_
      obtain ⟨v9, e9, h⟩ := b1_some h
      refine fw_callV (ci := 10) [_] C (c_X10_isJudged hl e9) cal_X10_isJudged wm_X10_69 wi_yX10_isJudged wsl_yX10_isJudged (Nat.le_of_ble_eq_true rfl) rfl (gO_of g7) rfl (Nat.le_of_ble_eq_true rfl) ⟨Nat.le_of_ble_eq_true rfl, Nat.le_of_ble_eq_true rfl⟩ ⟨Nat.zero_le _, Nat.zero_le _⟩ dX10_latest_37 ?_
      refine fw_if_eq C 87 dX10_latest_40 (by decide) (fun c10 => ?_) (fun c10 => ?_)
      · replace h := (if_pos c10).symm.trans h
        refine fw_iinc C _ 3 [(3, _), (0, _), (1, _), (2, _)] dX10_latest_87 rfl rfl (Nat.le_of_ble_eq_true rfl) rfl ?_
        refine fw_goto C 27 dX10_latest_90 (by decide) ?_
        refine fw_sub [1, 2, 3, 0] rfl ?_
        exact ih h kx
      · replace h := (if_neg c10).symm.trans h
        refine fw_aload_n C 0 dX10_latest_43 rfl rfl ?_
        refine fw_iload_n C 3 dX10_latest_44 rfl rfl ?_
        obtain ⟨v11, e11, h⟩ := b1_some h
        refine fw_callV (ci := 10) [_] C (c_X10_isReversed hl e11) cal_X10_isReversed wm_X10_86 wi_yX10_isReversed wsl_yX10_isReversed (Nat.le_of_ble_eq_true rfl) rfl (gO_of g7) rfl (Nat.le_of_ble_eq_true rfl) ⟨Nat.le_of_ble_eq_true rfl, Nat.le_of_ble_eq_true rfl⟩ ⟨Nat.zero_le _, Nat.zero_le _⟩ dX10_latest_45 ?_
        refine fw_if_ne C 87 dX10_latest_48 (by decide) (fun c12 => ?_) (fun c12 => ?_)
        · replace h := (if_neg c12).symm.trans h
          refine fw_iinc C _ 3 [(3, _), (0, _), (1, _), (2, _)] dX10_latest_87 rfl rfl (Nat.le_of_ble_eq_true rfl) rfl ?_
          refine fw_goto C 27 dX10_latest_90 (by decide) ?_
          refine fw_sub [1, 2, 3, 0] rfl ?_
          exact ih h kx
        · replace h := (if_pos c12).symm.trans h
          refine fw_aload_n C 0 dX10_latest_51 rfl rfl ?_
          refine fw_iload_n C 3 dX10_latest_52 rfl rfl ?_
          refine fw_iload_n C 1 dX10_latest_53 rfl rfl ?_
          obtain ⟨v13, e13, h⟩ := b1_some h
          refine fw_callV (ci := 10) [_, _] C (c_X10_isBoundAtAll hl e13) cal_X10_isBoundAtAll wm_X10_131 wi_yX10_isBoundAtAll wsl_yX10_isBoundAtAll (Nat.le_of_ble_eq_true rfl) rfl (gO_of g7) rfl (Nat.le_of_ble_eq_true rfl) ⟨Nat.le_of_ble_eq_true rfl, Nat.le_of_ble_eq_true rfl⟩ ⟨Nat.zero_le _, Nat.zero_le _⟩ dX10_latest_54 ?_
          refine fw_if_ne C 63 dX10_latest_57 (by decide) (fun c14 => ?_) (fun c14 => ?_)
          · replace h := (if_neg c14).symm.trans h
            refine fw_iload_n C 2 dX10_latest_63 rfl rfl ?_
            refine fw_iconst C (-1) dX10_latest_64 rfl ?_
            refine fw_icmp_eq C 85 dX10_latest_65 (by decide) (fun c15 => ?_) (fun c15 => ?_)
            · replace h := (if_pos c15).symm.trans h
              refine fw_iload_n C 3 dX10_latest_85 rfl rfl ?_
              refine fw_istore_n C [(2, _), (0, _), (1, _), (3, _)] dX10_latest_86 rfl (Nat.le_of_ble_eq_true rfl) rfl ?_
              refine fw_iinc C _ 3 [(3, _), (2, _), (0, _), (1, _)] dX10_latest_87 rfl rfl (Nat.le_of_ble_eq_true rfl) rfl ?_
              refine fw_goto C 27 dX10_latest_90 (by decide) ?_
              refine fw_sub [2, 3, 1, 0] rfl ?_
              exact ih h kx
            · replace h := (if_neg c15).symm.trans h
              refine fw_aload_n C 0 dX10_latest_68 rfl rfl ?_
              refine fw_iload_n C 3 dX10_latest_69 rfl rfl ?_
              refine fw_bipush C 6 dX10_latest_70 rfl ?_
              obtain ⟨v16, e16, h⟩ := b1_some h
              refine fw_callV (ci := 10) [_, _] C (c_X10_of hl e16) cal_X10_of wm_X10_65 wi_yX10_of wsl_yX10_of (Nat.le_of_ble_eq_true rfl) rfl (gO_of g7) rfl (Nat.le_of_ble_eq_true rfl) ⟨Nat.le_of_ble_eq_true rfl, Nat.le_of_ble_eq_true rfl⟩ ⟨Nat.zero_le _, Nat.zero_le _⟩ dX10_latest_72 ?_
              refine fw_aload_n C 0 dX10_latest_75 rfl rfl ?_
              refine fw_iload_n C 2 dX10_latest_76 rfl rfl ?_
              refine fw_bipush C 6 dX10_latest_77 rfl ?_
              obtain ⟨v17, e17, h⟩ := b1_some h
              refine fw_callV (ci := 10) [_, _] C (c_X10_of hl e17) cal_X10_of wm_X10_65 wi_yX10_of wsl_yX10_of (Nat.le_of_ble_eq_true rfl) rfl (gO_of g7) rfl (Nat.le_of_ble_eq_true rfl) ⟨Nat.le_of_ble_eq_true rfl, Nat.le_of_ble_eq_true rfl⟩ ⟨Nat.zero_le _, Nat.zero_le _⟩ dX10_latest_79 ?_
              refine fw_icmp_lt C 87 dX10_latest_82 (by decide) (fun c18 => ?_) (fun c18 => ?_)
              · replace h := (if_pos c18).symm.trans h
                refine fw_iinc C _ 3 [(3, _), (0, _), (1, _), (2, _)] dX10_latest_87 rfl rfl (Nat.le_of_ble_eq_true rfl) rfl ?_
                refine fw_goto C 27 dX10_latest_90 (by decide) ?_
                refine fw_sub [1, 2, 3, 0] rfl ?_
                exact ih h kx
              · replace h := (if_neg c18).symm.trans h
                refine fw_iload_n C 3 dX10_latest_85 rfl rfl ?_
                refine fw_istore_n C [(2, _), (0, _), (1, _), (3, _)] dX10_latest_86 rfl (Nat.le_of_ble_eq_true rfl) rfl ?_
                refine fw_iinc C _ 3 [(3, _), (2, _), (0, _), (1, _)] dX10_latest_87 rfl rfl (Nat.le_of_ble_eq_true rfl) rfl ?_
                refine fw_goto C 27 dX10_latest_90 (by decide) ?_
                refine fw_sub [2, 3, 1, 0] rfl ?_
                exact ih h kx
          · replace h := (if_pos c14).symm.trans h
            refine fw_goto C 87 dX10_latest_60 (by decide) ?_
            refine fw_iinc C _ 3 [(3, _), (0, _), (1, _), (2, _)] dX10_latest_87 rfl rfl (Nat.le_of_ble_eq_true rfl) rfl ?_
            refine fw_goto C 27 dX10_latest_90 (by decide) ?_
            refine fw_sub [1, 2, 3, 0] rfl ?_
            exact ih h kx
set_option maxRecDepth 100000 in
def f_X10_latest (S : List fw_Sh) (M : fw_Mem) (a0 : Nat) (x1 : Int32) : Option (Int32 × fw_Mem) := gd (gO S 10 a0) (bm (fw_set M a0 6 0) (fun M2 => b1 (f_X10_isPerson S M2 a0 x1) (fun v3 => if v3 = 0 then (b2 (f_X10_fail S M2 a0 1) (fun v20 M20 => some (v20, M20))) else (b1 (f_X10_layBound S M2 a0) (fun M5 => b1 (lf_X10_latest_27 S M5 a0 x1 20000 (-1) 0) (fun l19 => some (l19, M5)))))))
set_option maxHeartbeats 4000000 in
set_option maxRecDepth 100000 in
theorem c_X10_latest {l : Launch} {G : fw_G} {S : List fw_Sh} {M : fw_Mem} {a0 : Nat} {x1 : Int32} {r : (Int32 × fw_Mem)} (hl : l.stackTraces = false) (h : f_X10_latest S M a0 x1 = some r) : fw_M l G yX10_latest (.code yX10_latest cX10_latest 4 (some .int)) 5 (fw_mcO (.inl (some (.int r.1)), S, r.2)) (fw_msO (.inl (some (.int r.1)), S, r.2)) S M [.ref a0, .int x1] (.inl (some (.int r.1)), S, r.2) := by
  refine fw_of [(0, .ref a0), (1, .int x1)] (by decide) (Nat.le_of_ble_eq_true rfl) rfl ?_
  intro p e s m args below meth c C hr hlk hnm ht _
  unfold f_X10_latest at h
  refine fw_aload_n C 0 dX10_latest_0 rfl rfl ?_
  refine fw_iconst C 0 dX10_latest_1 rfl ?_
  obtain ⟨g1, h⟩ := gd_some h
  refine fw_putI C 10 6 (Nat.le_of_ble_eq_true rfl) (Nat.le_of_ble_eq_true rfl) wf_X10_51 rfl rfl rfl rfl (gO_of g1) dX10_latest_2 ?_
  refine fw_bm h (fun M2 h => ?_)
  refine fw_aload_n C 0 dX10_latest_5 rfl rfl ?_
  refine fw_iload_n C 1 dX10_latest_6 rfl rfl ?_
  obtain ⟨v3, e3, h⟩ := b1_some h
  refine fw_callV (ci := 10) [_] C (c_X10_isPerson hl e3) cal_X10_isPerson wm_X10_174 wi_yX10_isPerson wsl_yX10_isPerson (Nat.le_of_ble_eq_true rfl) rfl (gO_of g1) rfl (Nat.le_of_ble_eq_true rfl) ⟨Nat.le_of_ble_eq_true rfl, Nat.le_of_ble_eq_true rfl⟩ ⟨Nat.zero_le _, Nat.zero_le _⟩ dX10_latest_7 ?_
  refine fw_if_ne C 19 dX10_latest_10 (by decide) (fun c4 => ?_) (fun c4 => ?_)
  · replace h := (if_neg c4).symm.trans h
    refine fw_aload_n C 0 dX10_latest_19 rfl rfl ?_
    obtain ⟨M5, e5, h⟩ := b1_some h
    refine fw_callV (ci := 10) [] C (c_X10_layBound hl e5) cal_X10_layBound wm_X10_152 wi_yX10_layBound wsl_yX10_layBound (Nat.le_of_ble_eq_true rfl) rfl (gO_of g1) rfl (Nat.le_of_ble_eq_true rfl) ⟨Nat.le_of_ble_eq_true rfl, Nat.le_of_ble_eq_true rfl⟩ ⟨Nat.zero_le _, Nat.zero_le _⟩ dX10_latest_20 ?_
    refine fw_iconst C (-1) dX10_latest_23 rfl ?_
    refine fw_istore_n C [(2, _), (0, _), (1, _)] dX10_latest_24 rfl (Nat.le_of_ble_eq_true rfl) rfl ?_
    refine fw_iconst C 0 dX10_latest_25 rfl ?_
    refine fw_istore_n C [(3, _), (2, _), (0, _), (1, _)] dX10_latest_26 rfl (Nat.le_of_ble_eq_true rfl) rfl ?_
    refine fw_sub [2, 3, 1, 0] rfl ?_
    obtain ⟨l19, e19, h⟩ := b1_some h
    refine lc_X10_latest_27 C hr hlk hl ht e19 ?_
    refine fw_iload_n C 0 dX10_latest_93 rfl rfl ?_
    obtain rfl := Option.some.inj h
    exact fw_iret C hr hlk dX10_latest_94
  · replace h := (if_pos c4).symm.trans h
    refine fw_aload_n C 0 dX10_latest_13 rfl rfl ?_
    refine fw_iconst C 1 dX10_latest_14 rfl ?_
    obtain ⟨v20, M20, e20, h⟩ := b2_some h
    refine fw_callV (ci := 10) [_] C (c_X10_fail hl e20) cal_X10_fail wm_X10_171 wi_yX10_fail wsl_yX10_fail (Nat.le_of_ble_eq_true rfl) rfl (gO_of g1) rfl (Nat.le_of_ble_eq_true rfl) ⟨Nat.le_of_ble_eq_true rfl, Nat.le_of_ble_eq_true rfl⟩ ⟨Nat.zero_le _, Nat.zero_le _⟩ dX10_latest_15 ?_
    obtain rfl := Option.some.inj h
    exact fw_iret C hr hlk dX10_latest_18
set_option maxRecDepth 100000 in
def lf_X10_against_29 (S : List fw_Sh) (M : fw_Mem) (a0 : Nat) (x1 : Int32) : Nat → Int32 → Int32 → Option (Int32)
  | 0, _, _ => none
  | n + 1, x2, x3 => gd (gO S 10 a0) (b1 (f_X10_suits S M a0) (fun v6 => if v6 ≤ x3 then (some x2) else (b1 (f_X10_settledOf S M a0 x3) (fun v9 => b1 (f_X10_has S M v9 x1) (fun v10 => if v10 = 0 then (lf_X10_against_29 S M a0 x1 n x2 (x3 + 1)) else (gd (gN (M a0 7)) (gd (gA S 0 ((M a0 7).toNatClampNeg) ((2 : Int32) * x3)) (gd (gA S 0 ((M a0 7).toNatClampNeg) (((2 : Int32) * x3) + 1)) (bm (x2 ||| ((M ((M a0 7).toNatClampNeg) ((2 : Int32) * x3).toNatClampNeg) ||| (M ((M a0 7).toNatClampNeg) (((2 : Int32) * x3) + 1).toNatClampNeg))) (fun y15 => lf_X10_against_29 S M a0 x1 n y15 (x3 + 1)))))))))))
set_option maxHeartbeats 4000000 in
set_option maxRecDepth 100000 in
theorem lc_X10_against_29 {G : fw_G} {p : Program} {l : Launch} {e : Env} {s : State} {m : MethodId} {args : Array Value} {below : List Frame} {meth : Method} {c : Code} {S : List fw_Sh} {o : fw_O} {M : fw_Mem} {a0 : Nat} {x1 : Int32} (C : fw_C G RX10 cX10_against 4 p s m args c) (hr : meth.sig.returnType = (some .int)) (hlk : meth.locks = false) (hl : l.stackTraces = false) (ht : ∀ x ∈ c.exceptionTable.toList, False) :
    ∀ {n : Nat} {x2 : Int32} {x3 : Int32} {r : (Int32)} (h : lf_X10_against_29 S M a0 x1 n x2 x3 = some r) (kx : fw_W G p l e (fw_rm 7 (fw_mcO o) (fw_msO o)) s m args below meth c 4 (fw_Z G below args s (fw_mcO o) (fw_msO o) o) 0 0 77 [(2, .int r)] [] S M), fw_W G p l e (fw_rm 7 (fw_mcO o) (fw_msO o)) s m args below meth c 4 (fw_Z G below args s (fw_mcO o) (fw_msO o) o) 0 0 29 [(0, .ref a0), (1, .int x1), (2, .int x2), (3, .int x3)] [] S M := by
  intro n
  induction n with
  | zero =>
    intro x2 x3 r h
    exact nomatch (show (none : Option (Int32)) = some r from h)
  | succ n ih =>
    intro x2 x3 r h kx
    rw [lf_X10_against_29.eq_2] at h
    refine fw_iload_n C 3 dX10_against_29 rfl rfl ?_
    refine fw_aload_n C 0 dX10_against_30 rfl rfl ?_
    obtain ⟨g7, h⟩ := gd_some h
    obtain ⟨v6, e6, h⟩ := b1_some h
    refine fw_callV (ci := 10) [] C (c_X10_suits hl e6) cal_X10_suits wm_X10_62 wi_yX10_suits wsl_yX10_suits (Nat.le_of_ble_eq_true rfl) rfl (gO_of g7) rfl (Nat.le_of_ble_eq_true rfl) ⟨Nat.le_of_ble_eq_true rfl, Nat.le_of_ble_eq_true rfl⟩ ⟨Nat.zero_le _, Nat.zero_le _⟩ dX10_against_31 ?_
    refine fw_icmp_ge C 77 dX10_against_34 (by decide) (fun c8 => ?_) (fun c8 => ?_)
    · replace h := (if_pos c8).symm.trans h
      obtain rfl := Option.some.inj h
      refine fw_sub [2] rfl ?_
      exact kx
    · replace h := (if_neg c8).symm.trans h
      refine fw_aload_n C 0 dX10_against_37 rfl rfl ?_
      refine fw_iload_n C 3 dX10_against_38 rfl rfl ?_
      obtain ⟨v9, e9, h⟩ := b1_some h
      refine fw_callV (ci := 10) [_] C (c_X10_settledOf hl e9) cal_X10_settledOf wm_X10_125 wi_yX10_settledOf wsl_yX10_settledOf (Nat.le_of_ble_eq_true rfl) rfl (gO_of g7) rfl (Nat.le_of_ble_eq_true rfl) ⟨Nat.le_of_ble_eq_true rfl, Nat.le_of_ble_eq_true rfl⟩ ⟨Nat.zero_le _, Nat.zero_le _⟩ dX10_against_39 ?_
      refine fw_iload_n C 1 dX10_against_42 rfl rfl ?_
      obtain ⟨v10, e10, h⟩ := b1_some h
      refine fw_callS [_, _] C (c_X10_has hl e10) cal_X10_has wm_X10_98 wt_yX10_has rfl (Nat.le_of_ble_eq_true rfl) ⟨Nat.le_of_ble_eq_true rfl, Nat.le_of_ble_eq_true rfl⟩ ⟨Nat.zero_le _, Nat.zero_le _⟩ dX10_against_43 ?_
      refine fw_if_eq C 71 dX10_against_46 (by decide) (fun c11 => ?_) (fun c11 => ?_)
      · replace h := (if_pos c11).symm.trans h
        refine fw_iinc C _ 3 [(3, _), (0, _), (1, _), (2, _)] dX10_against_71 rfl rfl (Nat.le_of_ble_eq_true rfl) rfl ?_
        refine fw_goto C 29 dX10_against_74 (by decide) ?_
        refine fw_sub [1, 2, 3, 0] rfl ?_
        exact ih h kx
      · replace h := (if_neg c11).symm.trans h
        refine fw_iload_n C 2 dX10_against_49 rfl rfl ?_
        refine fw_aload_n C 0 dX10_against_50 rfl rfl ?_
        obtain ⟨g12, h⟩ := gd_some h
        refine fw_getR C 10 7 (Nat.le_of_ble_eq_true rfl) (Nat.le_of_ble_eq_true rfl) wf_X10_22 rfl (gO_of g7) (gN_of g12) dX10_against_51 ?_
        refine fw_iconst C 2 dX10_against_54 rfl ?_
        refine fw_iload_n C 3 dX10_against_55 rfl rfl ?_
        refine fw_imul C dX10_against_56 ?_
        obtain ⟨g13, h⟩ := gd_some h
        refine fw_iald C (gA_of g13) dX10_against_57 ?_
        refine fw_aload_n C 0 dX10_against_58 rfl rfl ?_
        refine fw_getR C 10 7 (Nat.le_of_ble_eq_true rfl) (Nat.le_of_ble_eq_true rfl) wf_X10_22 rfl (gO_of g7) (gN_of g12) dX10_against_59 ?_
        refine fw_iconst C 2 dX10_against_62 rfl ?_
        refine fw_iload_n C 3 dX10_against_63 rfl rfl ?_
        refine fw_imul C dX10_against_64 ?_
        refine fw_iconst C 1 dX10_against_65 rfl ?_
        refine fw_iadd C dX10_against_66 ?_
        obtain ⟨g14, h⟩ := gd_some h
        refine fw_iald C (gA_of g14) dX10_against_67 ?_
        refine fw_ior C dX10_against_68 ?_
        refine fw_ior C dX10_against_69 ?_
        refine fw_bi h (fun y15 h => ?_)
        refine fw_istore_n C [(2, _), (0, _), (1, _), (3, _)] dX10_against_70 rfl (Nat.le_of_ble_eq_true rfl) rfl ?_
        refine fw_iinc C _ 3 [(3, _), (2, _), (0, _), (1, _)] dX10_against_71 rfl rfl (Nat.le_of_ble_eq_true rfl) rfl ?_
        refine fw_goto C 29 dX10_against_74 (by decide) ?_
        refine fw_sub [2, 3, 1, 0] rfl ?_
        exact ih h kx
set_option maxRecDepth 100000 in
def f_X10_against (S : List fw_Sh) (M : fw_Mem) (a0 : Nat) (x1 : Int32) : Option (Int32 × fw_Mem) := gd (gO S 10 a0) (bm (fw_set M a0 6 0) (fun M2 => b1 (f_X10_isIn S M2 x1 0 30) (fun v3 => if v3 = 0 then (b2 (f_X10_fail S M2 a0 1) (fun v17 M17 => some (v17, M17))) else (b1 (f_X10_layBound S M2 a0) (fun M5 => b1 (lf_X10_against_29 S M5 a0 x1 20000 0 0) (fun l16 => some (l16, M5)))))))
set_option maxHeartbeats 4000000 in
set_option maxRecDepth 100000 in
theorem c_X10_against {l : Launch} {G : fw_G} {S : List fw_Sh} {M : fw_Mem} {a0 : Nat} {x1 : Int32} {r : (Int32 × fw_Mem)} (hl : l.stackTraces = false) (h : f_X10_against S M a0 x1 = some r) : fw_M l G yX10_against (.code yX10_against cX10_against 4 (some .int)) 7 (fw_mcO (.inl (some (.int r.1)), S, r.2)) (fw_msO (.inl (some (.int r.1)), S, r.2)) S M [.ref a0, .int x1] (.inl (some (.int r.1)), S, r.2) := by
  refine fw_of [(0, .ref a0), (1, .int x1)] (by decide) (Nat.le_of_ble_eq_true rfl) rfl ?_
  intro p e s m args below meth c C hr hlk hnm ht _
  unfold f_X10_against at h
  refine fw_aload_n C 0 dX10_against_0 rfl rfl ?_
  refine fw_iconst C 0 dX10_against_1 rfl ?_
  obtain ⟨g1, h⟩ := gd_some h
  refine fw_putI C 10 6 (Nat.le_of_ble_eq_true rfl) (Nat.le_of_ble_eq_true rfl) wf_X10_51 rfl rfl rfl rfl (gO_of g1) dX10_against_2 ?_
  refine fw_bm h (fun M2 h => ?_)
  refine fw_iload_n C 1 dX10_against_5 rfl rfl ?_
  refine fw_iconst C 0 dX10_against_6 rfl ?_
  refine fw_bipush C 30 dX10_against_7 rfl ?_
  obtain ⟨v3, e3, h⟩ := b1_some h
  refine fw_callS [_, _, _] C (c_X10_isIn hl e3) cal_X10_isIn wm_X10_58 wt_yX10_isIn rfl (Nat.le_of_ble_eq_true rfl) ⟨Nat.le_of_ble_eq_true rfl, Nat.le_of_ble_eq_true rfl⟩ ⟨Nat.zero_le _, Nat.zero_le _⟩ dX10_against_9 ?_
  refine fw_if_ne C 21 dX10_against_12 (by decide) (fun c4 => ?_) (fun c4 => ?_)
  · replace h := (if_neg c4).symm.trans h
    refine fw_aload_n C 0 dX10_against_21 rfl rfl ?_
    obtain ⟨M5, e5, h⟩ := b1_some h
    refine fw_callV (ci := 10) [] C (c_X10_layBound hl e5) cal_X10_layBound wm_X10_152 wi_yX10_layBound wsl_yX10_layBound (Nat.le_of_ble_eq_true rfl) rfl (gO_of g1) rfl (Nat.le_of_ble_eq_true rfl) ⟨Nat.le_of_ble_eq_true rfl, Nat.le_of_ble_eq_true rfl⟩ ⟨Nat.zero_le _, Nat.zero_le _⟩ dX10_against_22 ?_
    refine fw_iconst C 0 dX10_against_25 rfl ?_
    refine fw_istore_n C [(2, _), (0, _), (1, _)] dX10_against_26 rfl (Nat.le_of_ble_eq_true rfl) rfl ?_
    refine fw_iconst C 0 dX10_against_27 rfl ?_
    refine fw_istore_n C [(3, _), (2, _), (0, _), (1, _)] dX10_against_28 rfl (Nat.le_of_ble_eq_true rfl) rfl ?_
    refine fw_sub [2, 3, 1, 0] rfl ?_
    obtain ⟨l16, e16, h⟩ := b1_some h
    refine lc_X10_against_29 C hr hlk hl ht e16 ?_
    refine fw_iload_n C 0 dX10_against_77 rfl rfl ?_
    obtain rfl := Option.some.inj h
    exact fw_iret C hr hlk dX10_against_78
  · replace h := (if_pos c4).symm.trans h
    refine fw_aload_n C 0 dX10_against_15 rfl rfl ?_
    refine fw_iconst C 1 dX10_against_16 rfl ?_
    obtain ⟨v17, M17, e17, h⟩ := b2_some h
    refine fw_callV (ci := 10) [_] C (c_X10_fail hl e17) cal_X10_fail wm_X10_171 wi_yX10_fail wsl_yX10_fail (Nat.le_of_ble_eq_true rfl) rfl (gO_of g1) rfl (Nat.le_of_ble_eq_true rfl) ⟨Nat.le_of_ble_eq_true rfl, Nat.le_of_ble_eq_true rfl⟩ ⟨Nat.zero_le _, Nat.zero_le _⟩ dX10_against_17 ?_
    obtain rfl := Option.some.inj h
    exact fw_iret C hr hlk dX10_against_20
set_option maxRecDepth 100000 in
def lf_X10_layThen_2 (S : List fw_Sh) (a0 : Nat) : Nat → Int32 → fw_Mem → Option (fw_Mem)
  | 0, _, _ => none
  | n + 1, x1, M => gd (gO S 10 a0) (b1 (f_X10_suits S M a0) (fun v1 => if v1 ≤ x1 then (some M) else (gd (gN (M a0 9)) (b1 (f_X10_barsOf S M a0 x1) (fun v5 => gd (gA S 0 ((M a0 9).toNatClampNeg) x1) (bm (fw_set M ((M a0 9).toNatClampNeg) x1.toNatClampNeg v5) (fun M7 => gd (gN (M7 a0 10)) (b1 (f_X10_heldOf S M7 a0 x1) (fun v9 => b1 (f_X10_bitsOf S M7 v9) (fun v10 => gd (gA S 0 ((M7 a0 10).toNatClampNeg) x1) (bm (fw_set M7 ((M7 a0 10).toNatClampNeg) x1.toNatClampNeg v10) (fun M12 => gd (gN (M12 a0 11)) (b1 (f_X10_forcedOf S M12 a0 x1) (fun v14 => gd (gA S 0 ((M12 a0 11).toNatClampNeg) x1) (bm (fw_set M12 ((M12 a0 11).toNatClampNeg) x1.toNatClampNeg v14) (fun M16 => lf_X10_layThen_2 S a0 n (x1 + 1) M16))))))))))))))))
set_option maxHeartbeats 4000000 in
set_option maxRecDepth 100000 in
theorem lc_X10_layThen_2 {G : fw_G} {p : Program} {l : Launch} {e : Env} {s : State} {m : MethodId} {args : Array Value} {below : List Frame} {meth : Method} {c : Code} {S : List fw_Sh} {o : fw_O} {a0 : Nat} (C : fw_C G RX10 cX10_layThen 2 p s m args c) (hr : meth.sig.returnType = none) (hlk : meth.locks = false) (hl : l.stackTraces = false) (ht : ∀ x ∈ c.exceptionTable.toList, False) :
    ∀ {n : Nat} {x1 : Int32} {M : fw_Mem} {r : (fw_Mem)} (h : lf_X10_layThen_2 S a0 n x1 M = some r) (kx : fw_W G p l e (fw_rm 11 (fw_mcO o) (fw_msO o)) s m args below meth c 2 (fw_Z G below args s (fw_mcO o) (fw_msO o) o) 0 0 52 [] [] S r), fw_W G p l e (fw_rm 11 (fw_mcO o) (fw_msO o)) s m args below meth c 2 (fw_Z G below args s (fw_mcO o) (fw_msO o) o) 0 0 2 [(0, .ref a0), (1, .int x1)] [] S M := by
  intro n
  induction n with
  | zero =>
    intro x1 M r h
    exact nomatch (show (none : Option (fw_Mem)) = some r from h)
  | succ n ih =>
    intro x1 M r h kx
    rw [lf_X10_layThen_2.eq_2] at h
    refine fw_iload_n C 1 dX10_layThen_2 rfl rfl ?_
    refine fw_aload_n C 0 dX10_layThen_3 rfl rfl ?_
    obtain ⟨g2, h⟩ := gd_some h
    obtain ⟨v1, e1, h⟩ := b1_some h
    refine fw_callV (ci := 10) [] C (c_X10_suits hl e1) cal_X10_suits wm_X10_62 wi_yX10_suits wsl_yX10_suits (Nat.le_of_ble_eq_true rfl) rfl (gO_of g2) rfl (Nat.le_of_ble_eq_true rfl) ⟨Nat.le_of_ble_eq_true rfl, Nat.le_of_ble_eq_true rfl⟩ ⟨Nat.zero_le _, Nat.zero_le _⟩ dX10_layThen_4 ?_
    refine fw_icmp_ge C 52 dX10_layThen_7 (by decide) (fun c3 => ?_) (fun c3 => ?_)
    · replace h := (if_pos c3).symm.trans h
      obtain rfl := Option.some.inj h
      refine fw_sub [] rfl ?_
      exact kx
    · replace h := (if_neg c3).symm.trans h
      refine fw_aload_n C 0 dX10_layThen_10 rfl rfl ?_
      obtain ⟨g4, h⟩ := gd_some h
      refine fw_getR C 10 9 (Nat.le_of_ble_eq_true rfl) (Nat.le_of_ble_eq_true rfl) wf_X10_28 rfl (gO_of g2) (gN_of g4) dX10_layThen_11 ?_
      refine fw_iload_n C 1 dX10_layThen_14 rfl rfl ?_
      refine fw_aload_n C 0 dX10_layThen_15 rfl rfl ?_
      refine fw_iload_n C 1 dX10_layThen_16 rfl rfl ?_
      obtain ⟨v5, e5, h⟩ := b1_some h
      refine fw_callV (ci := 10) [_] C (c_X10_barsOf hl e5) cal_X10_barsOf wm_X10_143 wi_yX10_barsOf wsl_yX10_barsOf (Nat.le_of_ble_eq_true rfl) rfl (gO_of g2) rfl (Nat.le_of_ble_eq_true rfl) ⟨Nat.le_of_ble_eq_true rfl, Nat.le_of_ble_eq_true rfl⟩ ⟨Nat.zero_le _, Nat.zero_le _⟩ dX10_layThen_17 ?_
      obtain ⟨g6, h⟩ := gd_some h
      refine fw_iast C (gA_of g6) dX10_layThen_20 ?_
      refine fw_bm h (fun M7 h => ?_)
      refine fw_aload_n C 0 dX10_layThen_21 rfl rfl ?_
      obtain ⟨g8, h⟩ := gd_some h
      refine fw_getR C 10 10 (Nat.le_of_ble_eq_true rfl) (Nat.le_of_ble_eq_true rfl) wf_X10_31 rfl (gO_of g2) (gN_of g8) dX10_layThen_22 ?_
      refine fw_iload_n C 1 dX10_layThen_25 rfl rfl ?_
      refine fw_aload_n C 0 dX10_layThen_26 rfl rfl ?_
      refine fw_iload_n C 1 dX10_layThen_27 rfl rfl ?_
      obtain ⟨v9, e9, h⟩ := b1_some h
      refine fw_callV (ci := 10) [_] C (c_X10_heldOf hl e9) cal_X10_heldOf wm_X10_146 wi_yX10_heldOf wsl_yX10_heldOf (Nat.le_of_ble_eq_true rfl) rfl (gO_of g2) rfl (Nat.le_of_ble_eq_true rfl) ⟨Nat.le_of_ble_eq_true rfl, Nat.le_of_ble_eq_true rfl⟩ ⟨Nat.zero_le _, Nat.zero_le _⟩ dX10_layThen_28 ?_
      obtain ⟨v10, e10, h⟩ := b1_some h
      refine fw_callS [_] C (c_X10_bitsOf hl e10) cal_X10_bitsOf wm_X10_83 wt_yX10_bitsOf rfl (Nat.le_of_ble_eq_true rfl) ⟨Nat.le_of_ble_eq_true rfl, Nat.le_of_ble_eq_true rfl⟩ ⟨Nat.zero_le _, Nat.zero_le _⟩ dX10_layThen_31 ?_
      obtain ⟨g11, h⟩ := gd_some h
      refine fw_iast C (gA_of g11) dX10_layThen_34 ?_
      refine fw_bm h (fun M12 h => ?_)
      refine fw_aload_n C 0 dX10_layThen_35 rfl rfl ?_
      obtain ⟨g13, h⟩ := gd_some h
      refine fw_getR C 10 11 (Nat.le_of_ble_eq_true rfl) (Nat.le_of_ble_eq_true rfl) wf_X10_34 rfl (gO_of g2) (gN_of g13) dX10_layThen_36 ?_
      refine fw_iload_n C 1 dX10_layThen_39 rfl rfl ?_
      refine fw_aload_n C 0 dX10_layThen_40 rfl rfl ?_
      refine fw_iload_n C 1 dX10_layThen_41 rfl rfl ?_
      obtain ⟨v14, e14, h⟩ := b1_some h
      refine fw_callV (ci := 10) [_] C (c_X10_forcedOf hl e14) cal_X10_forcedOf wm_X10_193 wi_yX10_forcedOf wsl_yX10_forcedOf (Nat.le_of_ble_eq_true rfl) rfl (gO_of g2) rfl (Nat.le_of_ble_eq_true rfl) ⟨Nat.le_of_ble_eq_true rfl, Nat.le_of_ble_eq_true rfl⟩ ⟨Nat.zero_le _, Nat.zero_le _⟩ dX10_layThen_42 ?_
      obtain ⟨g15, h⟩ := gd_some h
      refine fw_iast C (gA_of g15) dX10_layThen_45 ?_
      refine fw_bm h (fun M16 h => ?_)
      refine fw_iinc C _ 1 [(1, _), (0, _)] dX10_layThen_46 rfl rfl (Nat.le_of_ble_eq_true rfl) rfl ?_
      refine fw_goto C 2 dX10_layThen_49 (by decide) ?_
      refine fw_sub [1, 0] rfl ?_
      exact ih h kx
set_option maxRecDepth 100000 in
def f_X10_layThen (S : List fw_Sh) (M : fw_Mem) (a0 : Nat) : Option fw_Mem := b1 (lf_X10_layThen_2 S a0 20000 0 M) (fun l17 => some l17)
set_option maxHeartbeats 4000000 in
set_option maxRecDepth 100000 in
theorem c_X10_layThen {l : Launch} {G : fw_G} {S : List fw_Sh} {M : fw_Mem} {a0 : Nat} {r : fw_Mem} (hl : l.stackTraces = false) (h : f_X10_layThen S M a0 = some r) : fw_M l G yX10_layThen (.code yX10_layThen cX10_layThen 2 none) 11 (fw_mcO (.inl none, S, r)) (fw_msO (.inl none, S, r)) S M [.ref a0] (.inl none, S, r) := by
  refine fw_of [(0, .ref a0)] (by decide) (Nat.le_of_ble_eq_true rfl) rfl ?_
  intro p e s m args below meth c C hr hlk hnm ht _
  unfold f_X10_layThen at h
  refine fw_iconst C 0 dX10_layThen_0 rfl ?_
  refine fw_istore_n C [(1, _), (0, _)] dX10_layThen_1 rfl (Nat.le_of_ble_eq_true rfl) rfl ?_
  refine fw_sub [1, 0] rfl ?_
  obtain ⟨l17, e17, h⟩ := b1_some h
  refine lc_X10_layThen_2 C hr hlk hl ht e17 ?_
  obtain rfl := Option.some.inj h
  exact fw_vret C hr hlk dX10_layThen_52
set_option maxRecDepth 100000 in
def lf_X10_changed_4 (S : List fw_Sh) (M : fw_Mem) (a0 : Nat) (x1 : Int32) : Nat → Int32 → Int32 → Option (Int32)
  | 0, _, _ => none
  | n + 1, x2, x3 => gd (gO S 10 a0) (b1 (f_X10_suits S M a0) (fun v1 => if v1 ≤ x3 then (some x2) else (if x1 = 0 then (gd (gN (M a0 9)) (gd (gA S 0 ((M a0 9).toNatClampNeg) x3) (if (M ((M a0 9).toNatClampNeg) x3.toNatClampNeg) = 0 then (lf_X10_changed_4 S M a0 x1 n (x2 ||| 0) (x3 + 1)) else (b1 (f_X10_barsOf S M a0 x3) (fun v8 => if v8 = 0 then (bm (x2 ||| ((1 : Int32) <<< (x3 &&& 31))) (fun y10 => lf_X10_changed_4 S M a0 x1 n y10 (x3 + 1))) else (lf_X10_changed_4 S M a0 x1 n (x2 ||| 0) (x3 + 1))))))) else (if x1 = 1 then (b1 (f_X10_heldOf S M a0 x3) (fun v12 => b1 (f_X10_bitsOf S M v12) (fun v13 => gd (gN (M a0 10)) (gd (gA S 0 ((M a0 10).toNatClampNeg) x3) (if (M ((M a0 10).toNatClampNeg) x3.toNatClampNeg) ≤ v13 then (lf_X10_changed_4 S M a0 x1 n (x2 ||| 0) (x3 + 1)) else (bm (x2 ||| ((1 : Int32) <<< (x3 &&& 31))) (fun y17 => lf_X10_changed_4 S M a0 x1 n y17 (x3 + 1)))))))) else (b1 (f_X10_forcedOf S M a0 x3) (fun v18 => gd (gN (M a0 11)) (gd (gA S 0 ((M a0 11).toNatClampNeg) x3) (if v18 = (M ((M a0 11).toNatClampNeg) x3.toNatClampNeg) then (lf_X10_changed_4 S M a0 x1 n (x2 ||| 0) (x3 + 1)) else (bm (x2 ||| ((1 : Int32) <<< (x3 &&& 31))) (fun y22 => lf_X10_changed_4 S M a0 x1 n y22 (x3 + 1)))))))))))
set_option maxHeartbeats 4000000 in
set_option maxRecDepth 100000 in
theorem lc_X10_changed_4 {G : fw_G} {p : Program} {l : Launch} {e : Env} {s : State} {m : MethodId} {args : Array Value} {below : List Frame} {meth : Method} {c : Code} {S : List fw_Sh} {o : fw_O} {M : fw_Mem} {a0 : Nat} {x1 : Int32} (C : fw_C G RX10 cX10_changed 5 p s m args c) (hr : meth.sig.returnType = (some .int)) (hlk : meth.locks = false) (hl : l.stackTraces = false) (ht : ∀ x ∈ c.exceptionTable.toList, False) :
    ∀ {n : Nat} {x2 : Int32} {x3 : Int32} {r : (Int32)} (h : lf_X10_changed_4 S M a0 x1 n x2 x3 = some r) (kx : fw_W G p l e (fw_rm 11 (fw_mcO o) (fw_msO o)) s m args below meth c 5 (fw_Z G below args s (fw_mcO o) (fw_msO o) o) 0 0 140 [(2, .int r)] [] S M), fw_W G p l e (fw_rm 11 (fw_mcO o) (fw_msO o)) s m args below meth c 5 (fw_Z G below args s (fw_mcO o) (fw_msO o) o) 0 0 4 [(0, .ref a0), (1, .int x1), (2, .int x2), (3, .int x3)] [] S M := by
  intro n
  induction n with
  | zero =>
    intro x2 x3 r h
    exact nomatch (show (none : Option (Int32)) = some r from h)
  | succ n ih =>
    intro x2 x3 r h kx
    rw [lf_X10_changed_4.eq_2] at h
    refine fw_iload_n C 3 dX10_changed_4 rfl rfl ?_
    refine fw_aload_n C 0 dX10_changed_5 rfl rfl ?_
    obtain ⟨g2, h⟩ := gd_some h
    obtain ⟨v1, e1, h⟩ := b1_some h
    refine fw_callV (ci := 10) [] C (c_X10_suits hl e1) cal_X10_suits wm_X10_62 wi_yX10_suits wsl_yX10_suits (Nat.le_of_ble_eq_true rfl) rfl (gO_of g2) rfl (Nat.le_of_ble_eq_true rfl) ⟨Nat.le_of_ble_eq_true rfl, Nat.le_of_ble_eq_true rfl⟩ ⟨Nat.zero_le _, Nat.zero_le _⟩ dX10_changed_6 ?_
    refine fw_icmp_ge C 140 dX10_changed_9 (by decide) (fun c3 => ?_) (fun c3 => ?_)
    · replace h := (if_pos c3).symm.trans h
      obtain rfl := Option.some.inj h
      refine fw_sub [2] rfl ?_
      exact kx
    · replace h := (if_neg c3).symm.trans h
      refine fw_iconst C 0 dX10_changed_12 rfl ?_
      refine fw_istore C [(4, _), (0, _), (1, _), (2, _), (3, _)] dX10_changed_13 (Nat.le_of_ble_eq_true rfl) rfl ?_
      refine fw_iload_n C 2 dX10_changed_15 rfl rfl ?_
      by_cases c4 : x1 = 0
      · replace h := (if_pos c4).symm.trans h
        refine fw_lookup (off := 28) C 44 dX10_changed_16 rfl (by rw [c4]; rfl) (by decide) ?_
        refine fw_aload_n C 1 dX10_changed_44 rfl rfl ?_
        obtain ⟨g5, h⟩ := gd_some h
        refine fw_getR C 10 9 (Nat.le_of_ble_eq_true rfl) (Nat.le_of_ble_eq_true rfl) wf_X10_28 rfl (gO_of g2) (gN_of g5) dX10_changed_45 ?_
        refine fw_iload_n C 4 dX10_changed_48 rfl rfl ?_
        obtain ⟨g6, h⟩ := gd_some h
        refine fw_iald C (gA_of g6) dX10_changed_49 ?_
        refine fw_if_eq C 65 dX10_changed_50 (by decide) (fun c7 => ?_) (fun c7 => ?_)
        · replace h := (if_pos c7).symm.trans h
          refine fw_iconst C 0 dX10_changed_65 rfl ?_
          refine fw_istore C [(4, _), (0, _), (1, _), (2, _), (3, _)] dX10_changed_66 (Nat.le_of_ble_eq_true rfl) rfl ?_
          refine fw_goto C 119 dX10_changed_68 (by decide) ?_
          refine fw_iload_n C 3 dX10_changed_119 rfl rfl ?_
          refine fw_iload C 0 dX10_changed_120 rfl ?_
          refine fw_if_eq C 131 dX10_changed_122 (by decide) (fun _ => ?_) (fun q => absurd q (by decide))
          refine fw_iconst C 0 dX10_changed_131 rfl ?_
          refine fw_ior C dX10_changed_132 ?_
          refine fw_istore_n C [(2, _), (4, _), (0, _), (1, _), (3, _)] dX10_changed_133 rfl (Nat.le_of_ble_eq_true rfl) rfl ?_
          refine fw_iinc C _ 4 [(3, _), (2, _), (4, _), (0, _), (1, _)] dX10_changed_134 rfl rfl (Nat.le_of_ble_eq_true rfl) rfl ?_
          refine fw_goto C 4 dX10_changed_137 (by decide) ?_
          refine fw_sub [3, 4, 1, 0] rfl ?_
          exact ih h kx
        · replace h := (if_neg c7).symm.trans h
          refine fw_aload_n C 1 dX10_changed_53 rfl rfl ?_
          refine fw_iload_n C 4 dX10_changed_54 rfl rfl ?_
          obtain ⟨v8, e8, h⟩ := b1_some h
          refine fw_callV (ci := 10) [_] C (c_X10_barsOf hl e8) cal_X10_barsOf wm_X10_143 wi_yX10_barsOf wsl_yX10_barsOf (Nat.le_of_ble_eq_true rfl) rfl (gO_of g2) rfl (Nat.le_of_ble_eq_true rfl) ⟨Nat.le_of_ble_eq_true rfl, Nat.le_of_ble_eq_true rfl⟩ ⟨Nat.zero_le _, Nat.zero_le _⟩ dX10_changed_55 ?_
          refine fw_if_ne C 65 dX10_changed_58 (by decide) (fun c9 => ?_) (fun c9 => ?_)
          · replace h := (if_neg c9).symm.trans h
            refine fw_iconst C 0 dX10_changed_65 rfl ?_
            refine fw_istore C [(4, _), (0, _), (1, _), (2, _), (3, _)] dX10_changed_66 (Nat.le_of_ble_eq_true rfl) rfl ?_
            refine fw_goto C 119 dX10_changed_68 (by decide) ?_
            refine fw_iload_n C 3 dX10_changed_119 rfl rfl ?_
            refine fw_iload C 0 dX10_changed_120 rfl ?_
            refine fw_if_eq C 131 dX10_changed_122 (by decide) (fun _ => ?_) (fun q => absurd q (by decide))
            refine fw_iconst C 0 dX10_changed_131 rfl ?_
            refine fw_ior C dX10_changed_132 ?_
            refine fw_istore_n C [(2, _), (4, _), (0, _), (1, _), (3, _)] dX10_changed_133 rfl (Nat.le_of_ble_eq_true rfl) rfl ?_
            refine fw_iinc C _ 4 [(3, _), (2, _), (4, _), (0, _), (1, _)] dX10_changed_134 rfl rfl (Nat.le_of_ble_eq_true rfl) rfl ?_
            refine fw_goto C 4 dX10_changed_137 (by decide) ?_
            refine fw_sub [3, 4, 1, 0] rfl ?_
            exact ih h kx
          · replace h := (if_pos c9).symm.trans h
            refine fw_iconst C 1 dX10_changed_61 rfl ?_
            refine fw_goto C 66 dX10_changed_62 (by decide) ?_
            refine fw_istore C [(4, _), (0, _), (1, _), (2, _), (3, _)] dX10_changed_66 (Nat.le_of_ble_eq_true rfl) rfl ?_
            refine fw_goto C 119 dX10_changed_68 (by decide) ?_
            refine fw_iload_n C 3 dX10_changed_119 rfl rfl ?_
            refine fw_iload C 0 dX10_changed_120 rfl ?_
            refine fw_if_eq C 131 dX10_changed_122 (by decide) (fun q => absurd q (by decide)) (fun _ => ?_)
            refine fw_iconst C 1 dX10_changed_125 rfl ?_
            refine fw_iload_n C 4 dX10_changed_126 rfl rfl ?_
            refine fw_ishl C dX10_changed_127 ?_
            refine fw_goto C 132 dX10_changed_128 (by decide) ?_
            refine fw_ior C dX10_changed_132 ?_
            refine fw_bi h (fun y10 h => ?_)
            refine fw_istore_n C [(2, _), (4, _), (0, _), (1, _), (3, _)] dX10_changed_133 rfl (Nat.le_of_ble_eq_true rfl) rfl ?_
            refine fw_iinc C _ 4 [(3, _), (2, _), (4, _), (0, _), (1, _)] dX10_changed_134 rfl rfl (Nat.le_of_ble_eq_true rfl) rfl ?_
            refine fw_goto C 4 dX10_changed_137 (by decide) ?_
            refine fw_sub [3, 4, 1, 0] rfl ?_
            exact ih h kx
      replace h := (if_neg c4).symm.trans h
      by_cases c11 : x1 = 1
      · replace h := (if_pos c11).symm.trans h
        refine fw_lookup (off := 55) C 71 dX10_changed_16 rfl (by rw [c11]; rfl) (by decide) ?_
        refine fw_aload_n C 1 dX10_changed_71 rfl rfl ?_
        refine fw_iload_n C 4 dX10_changed_72 rfl rfl ?_
        obtain ⟨v12, e12, h⟩ := b1_some h
        refine fw_callV (ci := 10) [_] C (c_X10_heldOf hl e12) cal_X10_heldOf wm_X10_146 wi_yX10_heldOf wsl_yX10_heldOf (Nat.le_of_ble_eq_true rfl) rfl (gO_of g2) rfl (Nat.le_of_ble_eq_true rfl) ⟨Nat.le_of_ble_eq_true rfl, Nat.le_of_ble_eq_true rfl⟩ ⟨Nat.zero_le _, Nat.zero_le _⟩ dX10_changed_73 ?_
        obtain ⟨v13, e13, h⟩ := b1_some h
        refine fw_callS [_] C (c_X10_bitsOf hl e13) cal_X10_bitsOf wm_X10_83 wt_yX10_bitsOf rfl (Nat.le_of_ble_eq_true rfl) ⟨Nat.le_of_ble_eq_true rfl, Nat.le_of_ble_eq_true rfl⟩ ⟨Nat.zero_le _, Nat.zero_le _⟩ dX10_changed_76 ?_
        refine fw_aload_n C 1 dX10_changed_79 rfl rfl ?_
        obtain ⟨g14, h⟩ := gd_some h
        refine fw_getR C 10 10 (Nat.le_of_ble_eq_true rfl) (Nat.le_of_ble_eq_true rfl) wf_X10_31 rfl (gO_of g2) (gN_of g14) dX10_changed_80 ?_
        refine fw_iload_n C 4 dX10_changed_83 rfl rfl ?_
        obtain ⟨g15, h⟩ := gd_some h
        refine fw_iald C (gA_of g15) dX10_changed_84 ?_
        refine fw_icmp_ge C 92 dX10_changed_85 (by decide) (fun c16 => ?_) (fun c16 => ?_)
        · replace h := (if_pos c16).symm.trans h
          refine fw_iconst C 0 dX10_changed_92 rfl ?_
          refine fw_istore C [(4, _), (0, _), (1, _), (2, _), (3, _)] dX10_changed_93 (Nat.le_of_ble_eq_true rfl) rfl ?_
          refine fw_goto C 119 dX10_changed_95 (by decide) ?_
          refine fw_iload_n C 3 dX10_changed_119 rfl rfl ?_
          refine fw_iload C 0 dX10_changed_120 rfl ?_
          refine fw_if_eq C 131 dX10_changed_122 (by decide) (fun _ => ?_) (fun q => absurd q (by decide))
          refine fw_iconst C 0 dX10_changed_131 rfl ?_
          refine fw_ior C dX10_changed_132 ?_
          refine fw_istore_n C [(2, _), (4, _), (0, _), (1, _), (3, _)] dX10_changed_133 rfl (Nat.le_of_ble_eq_true rfl) rfl ?_
          refine fw_iinc C _ 4 [(3, _), (2, _), (4, _), (0, _), (1, _)] dX10_changed_134 rfl rfl (Nat.le_of_ble_eq_true rfl) rfl ?_
          refine fw_goto C 4 dX10_changed_137 (by decide) ?_
          refine fw_sub [3, 4, 1, 0] rfl ?_
          exact ih h kx
        · replace h := (if_neg c16).symm.trans h
          refine fw_iconst C 1 dX10_changed_88 rfl ?_
          refine fw_goto C 93 dX10_changed_89 (by decide) ?_
          refine fw_istore C [(4, _), (0, _), (1, _), (2, _), (3, _)] dX10_changed_93 (Nat.le_of_ble_eq_true rfl) rfl ?_
          refine fw_goto C 119 dX10_changed_95 (by decide) ?_
          refine fw_iload_n C 3 dX10_changed_119 rfl rfl ?_
          refine fw_iload C 0 dX10_changed_120 rfl ?_
          refine fw_if_eq C 131 dX10_changed_122 (by decide) (fun q => absurd q (by decide)) (fun _ => ?_)
          refine fw_iconst C 1 dX10_changed_125 rfl ?_
          refine fw_iload_n C 4 dX10_changed_126 rfl rfl ?_
          refine fw_ishl C dX10_changed_127 ?_
          refine fw_goto C 132 dX10_changed_128 (by decide) ?_
          refine fw_ior C dX10_changed_132 ?_
          refine fw_bi h (fun y17 h => ?_)
          refine fw_istore_n C [(2, _), (4, _), (0, _), (1, _), (3, _)] dX10_changed_133 rfl (Nat.le_of_ble_eq_true rfl) rfl ?_
          refine fw_iinc C _ 4 [(3, _), (2, _), (4, _), (0, _), (1, _)] dX10_changed_134 rfl rfl (Nat.le_of_ble_eq_true rfl) rfl ?_
          refine fw_goto C 4 dX10_changed_137 (by decide) ?_
          refine fw_sub [3, 4, 1, 0] rfl ?_
          exact ih h kx
      replace h := (if_neg c11).symm.trans h
      refine fw_lookup (off := 82) C 98 dX10_changed_16 rfl ((lv_osw c4 rfl).trans ((lv_osw c11 rfl).trans (rfl))) (by decide) ?_
      refine fw_aload_n C 1 dX10_changed_98 rfl rfl ?_
      refine fw_iload_n C 4 dX10_changed_99 rfl rfl ?_
      obtain ⟨v18, e18, h⟩ := b1_some h
      refine fw_callV (ci := 10) [_] C (c_X10_forcedOf hl e18) cal_X10_forcedOf wm_X10_193 wi_yX10_forcedOf wsl_yX10_forcedOf (Nat.le_of_ble_eq_true rfl) rfl (gO_of g2) rfl (Nat.le_of_ble_eq_true rfl) ⟨Nat.le_of_ble_eq_true rfl, Nat.le_of_ble_eq_true rfl⟩ ⟨Nat.zero_le _, Nat.zero_le _⟩ dX10_changed_100 ?_
      refine fw_aload_n C 1 dX10_changed_103 rfl rfl ?_
      obtain ⟨g19, h⟩ := gd_some h
      refine fw_getR C 10 11 (Nat.le_of_ble_eq_true rfl) (Nat.le_of_ble_eq_true rfl) wf_X10_34 rfl (gO_of g2) (gN_of g19) dX10_changed_104 ?_
      refine fw_iload_n C 4 dX10_changed_107 rfl rfl ?_
      obtain ⟨g20, h⟩ := gd_some h
      refine fw_iald C (gA_of g20) dX10_changed_108 ?_
      refine fw_icmp_eq C 116 dX10_changed_109 (by decide) (fun c21 => ?_) (fun c21 => ?_)
      · replace h := (if_pos c21).symm.trans h
        refine fw_iconst C 0 dX10_changed_116 rfl ?_
        refine fw_istore C [(4, _), (0, _), (1, _), (2, _), (3, _)] dX10_changed_117 (Nat.le_of_ble_eq_true rfl) rfl ?_
        refine fw_iload_n C 3 dX10_changed_119 rfl rfl ?_
        refine fw_iload C 0 dX10_changed_120 rfl ?_
        refine fw_if_eq C 131 dX10_changed_122 (by decide) (fun _ => ?_) (fun q => absurd q (by decide))
        refine fw_iconst C 0 dX10_changed_131 rfl ?_
        refine fw_ior C dX10_changed_132 ?_
        refine fw_istore_n C [(2, _), (4, _), (0, _), (1, _), (3, _)] dX10_changed_133 rfl (Nat.le_of_ble_eq_true rfl) rfl ?_
        refine fw_iinc C _ 4 [(3, _), (2, _), (4, _), (0, _), (1, _)] dX10_changed_134 rfl rfl (Nat.le_of_ble_eq_true rfl) rfl ?_
        refine fw_goto C 4 dX10_changed_137 (by decide) ?_
        refine fw_sub [3, 4, 1, 0] rfl ?_
        exact ih h kx
      · replace h := (if_neg c21).symm.trans h
        refine fw_iconst C 1 dX10_changed_112 rfl ?_
        refine fw_goto C 117 dX10_changed_113 (by decide) ?_
        refine fw_istore C [(4, _), (0, _), (1, _), (2, _), (3, _)] dX10_changed_117 (Nat.le_of_ble_eq_true rfl) rfl ?_
        refine fw_iload_n C 3 dX10_changed_119 rfl rfl ?_
        refine fw_iload C 0 dX10_changed_120 rfl ?_
        refine fw_if_eq C 131 dX10_changed_122 (by decide) (fun q => absurd q (by decide)) (fun _ => ?_)
        refine fw_iconst C 1 dX10_changed_125 rfl ?_
        refine fw_iload_n C 4 dX10_changed_126 rfl rfl ?_
        refine fw_ishl C dX10_changed_127 ?_
        refine fw_goto C 132 dX10_changed_128 (by decide) ?_
        refine fw_ior C dX10_changed_132 ?_
        refine fw_bi h (fun y22 h => ?_)
        refine fw_istore_n C [(2, _), (4, _), (0, _), (1, _), (3, _)] dX10_changed_133 rfl (Nat.le_of_ble_eq_true rfl) rfl ?_
        refine fw_iinc C _ 4 [(3, _), (2, _), (4, _), (0, _), (1, _)] dX10_changed_134 rfl rfl (Nat.le_of_ble_eq_true rfl) rfl ?_
        refine fw_goto C 4 dX10_changed_137 (by decide) ?_
        refine fw_sub [3, 4, 1, 0] rfl ?_
        exact ih h kx
set_option maxRecDepth 100000 in
def f_X10_changed (S : List fw_Sh) (M : fw_Mem) (a0 : Nat) (x1 : Int32) : Option Int32 := b1 (lf_X10_changed_4 S M a0 x1 20000 0 0) (fun l23 => some l23)
set_option maxHeartbeats 4000000 in
set_option maxRecDepth 100000 in
theorem c_X10_changed {l : Launch} {G : fw_G} {S : List fw_Sh} {M : fw_Mem} {a0 : Nat} {x1 : Int32} {r : Int32} (hl : l.stackTraces = false) (h : f_X10_changed S M a0 x1 = some r) : fw_M l G yX10_changed (.code yX10_changed cX10_changed 5 (some .int)) 11 (fw_mcO (.inl (some (.int r)), S, M)) (fw_msO (.inl (some (.int r)), S, M)) S M [.ref a0, .int x1] (.inl (some (.int r)), S, M) := by
  refine fw_of [(0, .ref a0), (1, .int x1)] (by decide) (Nat.le_of_ble_eq_true rfl) rfl ?_
  intro p e s m args below meth c C hr hlk hnm ht _
  unfold f_X10_changed at h
  refine fw_iconst C 0 dX10_changed_0 rfl ?_
  refine fw_istore_n C [(2, _), (0, _), (1, _)] dX10_changed_1 rfl (Nat.le_of_ble_eq_true rfl) rfl ?_
  refine fw_iconst C 0 dX10_changed_2 rfl ?_
  refine fw_istore_n C [(3, _), (2, _), (0, _), (1, _)] dX10_changed_3 rfl (Nat.le_of_ble_eq_true rfl) rfl ?_
  refine fw_sub [2, 3, 1, 0] rfl ?_
  obtain ⟨l23, e23, h⟩ := b1_some h
  refine lc_X10_changed_4 C hr hlk hl ht e23 ?_
  refine fw_iload_n C 0 dX10_changed_140 rfl rfl ?_
  obtain rfl := Option.some.inj h
  exact fw_iret C hr hlk dX10_changed_141
set_option maxRecDepth 100000 in
def lf_X10_standing_4 (S : List fw_Sh) (M : fw_Mem) (a0 : Nat) (x1 : Int32) : Nat → Int32 → Int32 → Option (Int32)
  | 0, _, _ => none
  | n + 1, x2, x3 => gd (gO S 10 a0) (b1 (f_X10_suits S M a0) (fun v1 => if v1 ≤ x3 then (some x2) else (b1 (f_X10_standsOn S M a0 x3 x1) (fun v4 => if v4 = 0 then (lf_X10_standing_4 S M a0 x1 n x2 (x3 + 1)) else (bm (x2 ||| ((1 : Int32) <<< (x3 &&& 31))) (fun y6 => lf_X10_standing_4 S M a0 x1 n y6 (x3 + 1)))))))
set_option maxHeartbeats 4000000 in
set_option maxRecDepth 100000 in
theorem lc_X10_standing_4 {G : fw_G} {p : Program} {l : Launch} {e : Env} {s : State} {m : MethodId} {args : Array Value} {below : List Frame} {meth : Method} {c : Code} {S : List fw_Sh} {o : fw_O} {M : fw_Mem} {a0 : Nat} {x1 : Int32} (C : fw_C G RX10 cX10_standing 4 p s m args c) (hr : meth.sig.returnType = (some .int)) (hlk : meth.locks = false) (hl : l.stackTraces = false) (ht : ∀ x ∈ c.exceptionTable.toList, False) :
    ∀ {n : Nat} {x2 : Int32} {x3 : Int32} {r : (Int32)} (h : lf_X10_standing_4 S M a0 x1 n x2 x3 = some r) (kx : fw_W G p l e (fw_rm 10 (fw_mcO o) (fw_msO o)) s m args below meth c 4 (fw_Z G below args s (fw_mcO o) (fw_msO o) o) 0 0 33 [(2, .int r)] [] S M), fw_W G p l e (fw_rm 10 (fw_mcO o) (fw_msO o)) s m args below meth c 4 (fw_Z G below args s (fw_mcO o) (fw_msO o) o) 0 0 4 [(0, .ref a0), (1, .int x1), (2, .int x2), (3, .int x3)] [] S M := by
  intro n
  induction n with
  | zero =>
    intro x2 x3 r h
    exact nomatch (show (none : Option (Int32)) = some r from h)
  | succ n ih =>
    intro x2 x3 r h kx
    rw [lf_X10_standing_4.eq_2] at h
    refine fw_iload_n C 3 dX10_standing_4 rfl rfl ?_
    refine fw_aload_n C 0 dX10_standing_5 rfl rfl ?_
    obtain ⟨g2, h⟩ := gd_some h
    obtain ⟨v1, e1, h⟩ := b1_some h
    refine fw_callV (ci := 10) [] C (c_X10_suits hl e1) cal_X10_suits wm_X10_62 wi_yX10_suits wsl_yX10_suits (Nat.le_of_ble_eq_true rfl) rfl (gO_of g2) rfl (Nat.le_of_ble_eq_true rfl) ⟨Nat.le_of_ble_eq_true rfl, Nat.le_of_ble_eq_true rfl⟩ ⟨Nat.zero_le _, Nat.zero_le _⟩ dX10_standing_6 ?_
    refine fw_icmp_ge C 33 dX10_standing_9 (by decide) (fun c3 => ?_) (fun c3 => ?_)
    · replace h := (if_pos c3).symm.trans h
      obtain rfl := Option.some.inj h
      refine fw_sub [2] rfl ?_
      exact kx
    · replace h := (if_neg c3).symm.trans h
      refine fw_aload_n C 0 dX10_standing_12 rfl rfl ?_
      refine fw_iload_n C 3 dX10_standing_13 rfl rfl ?_
      refine fw_iload_n C 1 dX10_standing_14 rfl rfl ?_
      obtain ⟨v4, e4, h⟩ := b1_some h
      refine fw_callV (ci := 10) [_, _] C (c_X10_standsOn hl e4) cal_X10_standsOn wm_X10_187 wi_yX10_standsOn wsl_yX10_standsOn (Nat.le_of_ble_eq_true rfl) rfl (gO_of g2) rfl (Nat.le_of_ble_eq_true rfl) ⟨Nat.le_of_ble_eq_true rfl, Nat.le_of_ble_eq_true rfl⟩ ⟨Nat.zero_le _, Nat.zero_le _⟩ dX10_standing_15 ?_
      refine fw_if_eq C 27 dX10_standing_18 (by decide) (fun c5 => ?_) (fun c5 => ?_)
      · replace h := (if_pos c5).symm.trans h
        refine fw_iinc C _ 3 [(3, _), (0, _), (1, _), (2, _)] dX10_standing_27 rfl rfl (Nat.le_of_ble_eq_true rfl) rfl ?_
        refine fw_goto C 4 dX10_standing_30 (by decide) ?_
        refine fw_sub [1, 2, 3, 0] rfl ?_
        exact ih h kx
      · replace h := (if_neg c5).symm.trans h
        refine fw_iload_n C 2 dX10_standing_21 rfl rfl ?_
        refine fw_iconst C 1 dX10_standing_22 rfl ?_
        refine fw_iload_n C 3 dX10_standing_23 rfl rfl ?_
        refine fw_ishl C dX10_standing_24 ?_
        refine fw_ior C dX10_standing_25 ?_
        refine fw_bi h (fun y6 h => ?_)
        refine fw_istore_n C [(2, _), (0, _), (1, _), (3, _)] dX10_standing_26 rfl (Nat.le_of_ble_eq_true rfl) rfl ?_
        refine fw_iinc C _ 3 [(3, _), (2, _), (0, _), (1, _)] dX10_standing_27 rfl rfl (Nat.le_of_ble_eq_true rfl) rfl ?_
        refine fw_goto C 4 dX10_standing_30 (by decide) ?_
        refine fw_sub [2, 3, 1, 0] rfl ?_
        exact ih h kx
set_option maxRecDepth 100000 in
def f_X10_standing (S : List fw_Sh) (M : fw_Mem) (a0 : Nat) (x1 : Int32) : Option Int32 := b1 (lf_X10_standing_4 S M a0 x1 20000 0 0) (fun l7 => some l7)
set_option maxHeartbeats 4000000 in
set_option maxRecDepth 100000 in
theorem c_X10_standing {l : Launch} {G : fw_G} {S : List fw_Sh} {M : fw_Mem} {a0 : Nat} {x1 : Int32} {r : Int32} (hl : l.stackTraces = false) (h : f_X10_standing S M a0 x1 = some r) : fw_M l G yX10_standing (.code yX10_standing cX10_standing 4 (some .int)) 10 (fw_mcO (.inl (some (.int r)), S, M)) (fw_msO (.inl (some (.int r)), S, M)) S M [.ref a0, .int x1] (.inl (some (.int r)), S, M) := by
  refine fw_of [(0, .ref a0), (1, .int x1)] (by decide) (Nat.le_of_ble_eq_true rfl) rfl ?_
  intro p e s m args below meth c C hr hlk hnm ht _
  unfold f_X10_standing at h
  refine fw_iconst C 0 dX10_standing_0 rfl ?_
  refine fw_istore_n C [(2, _), (0, _), (1, _)] dX10_standing_1 rfl (Nat.le_of_ble_eq_true rfl) rfl ?_
  refine fw_iconst C 0 dX10_standing_2 rfl ?_
  refine fw_istore_n C [(3, _), (2, _), (0, _), (1, _)] dX10_standing_3 rfl (Nat.le_of_ble_eq_true rfl) rfl ?_
  refine fw_sub [2, 3, 1, 0] rfl ?_
  obtain ⟨l7, e7, h⟩ := b1_some h
  refine lc_X10_standing_4 C hr hlk hl ht e7 ?_
  refine fw_iload_n C 0 dX10_standing_33 rfl rfl ?_
  obtain rfl := Option.some.inj h
  exact fw_iret C hr hlk dX10_standing_34
set_option maxRecDepth 100000 in
def lf_X10_allStanding_18 (S : List fw_Sh) (M : fw_Mem) (a0 : Nat) (x3 : Int32) : Nat → Int32 → Int32 → Option (Int32)
  | 0, _, _ => none
  | n + 1, x2, x4 => gd (gO S 10 a0) (b1 (f_X10_suits S M a0) (fun v4 => if v4 ≤ x4 then (some x2) else (b1 (f_X10_has S M x3 x4) (fun v7 => if v7 = 0 then (lf_X10_allStanding_18 S M a0 x3 n x2 (x4 + 1)) else (b1 (f_X10_standing S M a0 x4) (fun v9 => lf_X10_allStanding_18 S M a0 x3 n (x2 ||| v9) (x4 + 1)))))))
set_option maxHeartbeats 4000000 in
set_option maxRecDepth 100000 in
theorem lc_X10_allStanding_18 {G : fw_G} {p : Program} {l : Launch} {e : Env} {s : State} {m : MethodId} {args : Array Value} {below : List Frame} {meth : Method} {c : Code} {S : List fw_Sh} {o : fw_O} {M : fw_Mem} {a0 : Nat} {x3 : Int32} (C : fw_C G RX10 cX10_allStanding 5 p s m args c) (hr : meth.sig.returnType = (some .int)) (hlk : meth.locks = false) (hl : l.stackTraces = false) (ht : ∀ x ∈ c.exceptionTable.toList, False) :
    ∀ {n : Nat} {x2 : Int32} {x4 : Int32} {r : (Int32)} (h : lf_X10_allStanding_18 S M a0 x3 n x2 x4 = some r) (kx : fw_W G p l e (fw_rm 11 (fw_mcO o) (fw_msO o)) s m args below meth c 5 (fw_Z G below args s (fw_mcO o) (fw_msO o) o) 0 0 51 [(0, .ref a0), (2, .int r), (3, .int x3)] [] S M), fw_W G p l e (fw_rm 11 (fw_mcO o) (fw_msO o)) s m args below meth c 5 (fw_Z G below args s (fw_mcO o) (fw_msO o) o) 0 0 18 [(0, .ref a0), (2, .int x2), (3, .int x3), (4, .int x4)] [] S M := by
  intro n
  induction n with
  | zero =>
    intro x2 x4 r h
    exact nomatch (show (none : Option (Int32)) = some r from h)
  | succ n ih =>
    intro x2 x4 r h kx
    rw [lf_X10_allStanding_18.eq_2] at h
    refine fw_iload C 3 dX10_allStanding_18 rfl ?_
    refine fw_aload_n C 0 dX10_allStanding_20 rfl rfl ?_
    obtain ⟨g5, h⟩ := gd_some h
    obtain ⟨v4, e4, h⟩ := b1_some h
    refine fw_callV (ci := 10) [] C (c_X10_suits hl e4) cal_X10_suits wm_X10_62 wi_yX10_suits wsl_yX10_suits (Nat.le_of_ble_eq_true rfl) rfl (gO_of g5) rfl (Nat.le_of_ble_eq_true rfl) ⟨Nat.le_of_ble_eq_true rfl, Nat.le_of_ble_eq_true rfl⟩ ⟨Nat.zero_le _, Nat.zero_le _⟩ dX10_allStanding_21 ?_
    refine fw_icmp_ge C 51 dX10_allStanding_24 (by decide) (fun c6 => ?_) (fun c6 => ?_)
    · replace h := (if_pos c6).symm.trans h
      obtain rfl := Option.some.inj h
      refine fw_sub [0, 1, 2] rfl ?_
      exact kx
    · replace h := (if_neg c6).symm.trans h
      refine fw_iload_n C 2 dX10_allStanding_27 rfl rfl ?_
      refine fw_iload C 3 dX10_allStanding_28 rfl ?_
      obtain ⟨v7, e7, h⟩ := b1_some h
      refine fw_callS [_, _] C (c_X10_has hl e7) cal_X10_has wm_X10_98 wt_yX10_has rfl (Nat.le_of_ble_eq_true rfl) ⟨Nat.le_of_ble_eq_true rfl, Nat.le_of_ble_eq_true rfl⟩ ⟨Nat.zero_le _, Nat.zero_le _⟩ dX10_allStanding_30 ?_
      refine fw_if_eq C 45 dX10_allStanding_33 (by decide) (fun c8 => ?_) (fun c8 => ?_)
      · replace h := (if_pos c8).symm.trans h
        refine fw_iinc C _ 3 [(4, _), (0, _), (2, _), (3, _)] dX10_allStanding_45 rfl rfl (Nat.le_of_ble_eq_true rfl) rfl ?_
        refine fw_goto C 18 dX10_allStanding_48 (by decide) ?_
        refine fw_sub [1, 2, 3, 0] rfl ?_
        exact ih h kx
      · replace h := (if_neg c8).symm.trans h
        refine fw_iload_n C 1 dX10_allStanding_36 rfl rfl ?_
        refine fw_aload_n C 0 dX10_allStanding_37 rfl rfl ?_
        refine fw_iload C 3 dX10_allStanding_38 rfl ?_
        obtain ⟨v9, e9, h⟩ := b1_some h
        refine fw_callV (ci := 10) [_] C (c_X10_standing hl e9) cal_X10_standing wm_X10_196 wi_yX10_standing wsl_yX10_standing (Nat.le_of_ble_eq_true rfl) rfl (gO_of g5) rfl (Nat.le_of_ble_eq_true rfl) ⟨Nat.le_of_ble_eq_true rfl, Nat.le_of_ble_eq_true rfl⟩ ⟨Nat.zero_le _, Nat.zero_le _⟩ dX10_allStanding_40 ?_
        refine fw_ior C dX10_allStanding_43 ?_
        refine fw_istore_n C [(2, _), (0, _), (3, _), (4, _)] dX10_allStanding_44 rfl (Nat.le_of_ble_eq_true rfl) rfl ?_
        refine fw_iinc C _ 3 [(4, _), (2, _), (0, _), (3, _)] dX10_allStanding_45 rfl rfl (Nat.le_of_ble_eq_true rfl) rfl ?_
        refine fw_goto C 18 dX10_allStanding_48 (by decide) ?_
        refine fw_sub [2, 1, 3, 0] rfl ?_
        exact ih h kx
set_option maxRecDepth 100000 in
def lf_X10_allStanding_8 (S : List fw_Sh) (M : fw_Mem) (a0 : Nat) : Nat → Int32 → Int32 → Option (Int32)
  | 0, _, _ => none
  | n + 1, x2, x3 => if x3 = x2 then (some x2) else (b1 (lf_X10_allStanding_18 S M a0 x2 20000 x2 0) (fun l10 => lf_X10_allStanding_8 S M a0 n l10 x2))
set_option maxHeartbeats 4000000 in
set_option maxRecDepth 100000 in
theorem lc_X10_allStanding_8 {G : fw_G} {p : Program} {l : Launch} {e : Env} {s : State} {m : MethodId} {args : Array Value} {below : List Frame} {meth : Method} {c : Code} {S : List fw_Sh} {o : fw_O} {M : fw_Mem} {a0 : Nat} (C : fw_C G RX10 cX10_allStanding 5 p s m args c) (hr : meth.sig.returnType = (some .int)) (hlk : meth.locks = false) (hl : l.stackTraces = false) (ht : ∀ x ∈ c.exceptionTable.toList, False) :
    ∀ {n : Nat} {x2 : Int32} {x3 : Int32} {r : (Int32)} (h : lf_X10_allStanding_8 S M a0 n x2 x3 = some r) (kx : fw_W G p l e (fw_rm 11 (fw_mcO o) (fw_msO o)) s m args below meth c 5 (fw_Z G below args s (fw_mcO o) (fw_msO o) o) 0 0 54 [(2, .int r)] [] S M), fw_W G p l e (fw_rm 11 (fw_mcO o) (fw_msO o)) s m args below meth c 5 (fw_Z G below args s (fw_mcO o) (fw_msO o) o) 0 0 8 [(0, .ref a0), (2, .int x2), (3, .int x3)] [] S M := by
  intro n
  induction n with
  | zero =>
    intro x2 x3 r h
    exact nomatch (show (none : Option (Int32)) = some r from h)
  | succ n ih =>
    intro x2 x3 r h kx
    rw [lf_X10_allStanding_8.eq_2] at h
    refine fw_iload_n C 2 dX10_allStanding_8 rfl rfl ?_
    refine fw_iload_n C 1 dX10_allStanding_9 rfl rfl ?_
    refine fw_icmp_eq C 54 dX10_allStanding_10 (by decide) (fun c3 => ?_) (fun c3 => ?_)
    · replace h := (if_pos c3).symm.trans h
      obtain rfl := Option.some.inj h
      refine fw_sub [1] rfl ?_
      exact kx
    · replace h := (if_neg c3).symm.trans h
      refine fw_iload_n C 1 dX10_allStanding_13 rfl rfl ?_
      refine fw_istore_n C [(3, _), (0, _), (2, _)] dX10_allStanding_14 rfl (Nat.le_of_ble_eq_true rfl) rfl ?_
      refine fw_iconst C 0 dX10_allStanding_15 rfl ?_
      refine fw_istore C [(4, _), (3, _), (0, _), (2, _)] dX10_allStanding_16 (Nat.le_of_ble_eq_true rfl) rfl ?_
      refine fw_sub [2, 3, 1, 0] rfl ?_
      obtain ⟨l10, e10, h⟩ := b1_some h
      refine lc_X10_allStanding_18 C hr hlk hl ht e10 ?_
      refine fw_goto C 8 dX10_allStanding_51 (by decide) ?_
      exact ih h kx
set_option maxRecDepth 100000 in
def f_X10_allStanding (S : List fw_Sh) (M : fw_Mem) (a0 : Nat) (x1 : Int32) : Option Int32 := gd (gO S 10 a0) (b1 (f_X10_standing S M a0 x1) (fun v1 => b1 (lf_X10_allStanding_8 S M a0 20000 v1 0) (fun l11 => some l11)))
set_option maxHeartbeats 4000000 in
set_option maxRecDepth 100000 in
theorem c_X10_allStanding {l : Launch} {G : fw_G} {S : List fw_Sh} {M : fw_Mem} {a0 : Nat} {x1 : Int32} {r : Int32} (hl : l.stackTraces = false) (h : f_X10_allStanding S M a0 x1 = some r) : fw_M l G yX10_allStanding (.code yX10_allStanding cX10_allStanding 5 (some .int)) 11 (fw_mcO (.inl (some (.int r)), S, M)) (fw_msO (.inl (some (.int r)), S, M)) S M [.ref a0, .int x1] (.inl (some (.int r)), S, M) := by
  refine fw_of [(0, .ref a0), (1, .int x1)] (by decide) (Nat.le_of_ble_eq_true rfl) rfl ?_
  intro p e s m args below meth c C hr hlk hnm ht _
  unfold f_X10_allStanding at h
  refine fw_aload_n C 0 dX10_allStanding_0 rfl rfl ?_
  refine fw_iload_n C 1 dX10_allStanding_1 rfl rfl ?_
  obtain ⟨g2, h⟩ := gd_some h
  obtain ⟨v1, e1, h⟩ := b1_some h
  refine fw_callV (ci := 10) [_] C (c_X10_standing hl e1) cal_X10_standing wm_X10_196 wi_yX10_standing wsl_yX10_standing (Nat.le_of_ble_eq_true rfl) rfl (gO_of g2) rfl (Nat.le_of_ble_eq_true rfl) ⟨Nat.le_of_ble_eq_true rfl, Nat.le_of_ble_eq_true rfl⟩ ⟨Nat.zero_le _, Nat.zero_le _⟩ dX10_allStanding_2 ?_
  refine fw_istore_n C [(2, _), (0, _), (1, _)] dX10_allStanding_5 rfl (Nat.le_of_ble_eq_true rfl) rfl ?_
  refine fw_iconst C 0 dX10_allStanding_6 rfl ?_
  refine fw_istore_n C [(3, _), (2, _), (0, _), (1, _)] dX10_allStanding_7 rfl (Nat.le_of_ble_eq_true rfl) rfl ?_
  refine fw_sub [2, 1, 0] rfl ?_
  obtain ⟨l11, e11, h⟩ := b1_some h
  refine lc_X10_allStanding_8 C hr hlk hl ht e11 ?_
  refine fw_iload_n C 0 dX10_allStanding_54 rfl rfl ?_
  obtain rfl := Option.some.inj h
  exact fw_iret C hr hlk dX10_allStanding_55
