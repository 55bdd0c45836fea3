set_option maxRecDepth 100000 in
def f_X9_undo (S : List fw_Sh) (M : fw_Mem) (a0 : Nat) : Option (Int32 × fw_Mem) := gd (gO S 9 a0) (gd (gN (M a0 7)) (gd (gO S 0 ((M a0 7).toNatClampNeg)) (if (M ((M a0 7).toNatClampNeg) 1) = 0 then (some ((-1), M)) else (gd (gN (M a0 1)) (b1 (f_X0_takeBack S M ((M a0 7).toNatClampNeg) ((M a0 1).toNatClampNeg)) (fun M6 => gd (gN (M6 a0 5)) (gd (gO S 2 ((M6 a0 5).toNatClampNeg)) (b1 (f_X2_refresh S M6 ((M6 a0 5).toNatClampNeg)) (fun M8 => gd (gN (M8 a0 7)) (gd (gO S 0 ((M8 a0 7).toNatClampNeg)) (some ((M8 ((M8 a0 7).toNatClampNeg) 1), M8))))))))))))
set_option maxHeartbeats 4000000 in
set_option maxRecDepth 100000 in
theorem c_X9_undo {l : Launch} {G : fw_G} {S : List fw_Sh} {M : fw_Mem} {a0 : Nat} {r : (Int32 × fw_Mem)} (hl : l.stackTraces = false) (h : f_X9_undo S M a0 = some r) : fw_M l G yX9_undo (.code yX9_undo cX9_undo 1 (some .int)) 6 (fw_mcO (.inl (some (.int r.1)), S, r.2)) (fw_msO (.inl (some (.int r.1)), S, r.2)) S M [.ref a0] (.inl (some (.int r.1)), S, r.2) := by
  refine fw_of [(0, .ref a0)] (by decide) (Nat.le_of_ble_eq_true rfl) rfl ?_
  intro p e s m args below meth c C hr hlk hnm ht _
  unfold f_X9_undo at h
  refine fw_aload_n C 0 dX9_undo_0 rfl rfl ?_
  obtain ⟨g1, h⟩ := gd_some h
  obtain ⟨g2, h⟩ := gd_some h
  refine fw_getR C 9 7 (Nat.le_of_ble_eq_true rfl) (Nat.le_of_ble_eq_true rfl) wf_X9_61 rfl (gO_of g1) (gN_of g2) dX9_undo_1 ?_
  obtain ⟨g3, h⟩ := gd_some h
  refine fw_getI C 0 1 (Nat.le_of_ble_eq_true rfl) (Nat.le_of_ble_eq_true rfl) wf_X9_131 rfl (gO_of g3) dX9_undo_4 ?_
  refine fw_if_ne C 12 dX9_undo_7 (by decide) (fun c4 => ?_) (fun c4 => ?_)
  · replace h := (if_neg c4).symm.trans h
    refine fw_aload_n C 0 dX9_undo_12 rfl rfl ?_
    refine fw_getR C 9 7 (Nat.le_of_ble_eq_true rfl) (Nat.le_of_ble_eq_true rfl) wf_X9_61 rfl (gO_of g1) (gN_of g2) dX9_undo_13 ?_
    refine fw_aload_n C 0 dX9_undo_16 rfl rfl ?_
    obtain ⟨g5, h⟩ := gd_some h
    refine fw_getR C 9 1 (Nat.le_of_ble_eq_true rfl) (Nat.le_of_ble_eq_true rfl) wf_X9_21 rfl (gO_of g1) (gN_of g5) dX9_undo_17 ?_
    obtain ⟨M6, e6, h⟩ := b1_some h
    refine fw_callV (ci := 0) [_] C (c_X0_takeBack hl e6) cal_X0_takeBack wm_X9_399 wi_yX0_takeBack wsl_yX0_takeBack (Nat.le_of_ble_eq_true rfl) rfl (gO_of g3) rfl (Nat.le_of_ble_eq_true rfl) ⟨Nat.le_of_ble_eq_true rfl, Nat.le_of_ble_eq_true rfl⟩ ⟨Nat.zero_le _, Nat.zero_le _⟩ dX9_undo_20 ?_
    refine fw_aload_n C 0 dX9_undo_23 rfl rfl ?_
    obtain ⟨g7, h⟩ := gd_some h
    refine fw_getR C 9 5 (Nat.le_of_ble_eq_true rfl) (Nat.le_of_ble_eq_true rfl) wf_X9_45 rfl (gO_of g1) (gN_of g7) dX9_undo_24 ?_
    obtain ⟨g9, h⟩ := gd_some h
    obtain ⟨M8, e8, h⟩ := b1_some h
    refine fw_callV (ci := 2) [] C (c_X2_refresh hl e8) cal_X2_refresh wm_X9_368 wi_yX2_refresh wsl_yX2_refresh (Nat.le_of_ble_eq_true rfl) rfl (gO_of g9) rfl (Nat.le_of_ble_eq_true rfl) ⟨Nat.le_of_ble_eq_true rfl, Nat.le_of_ble_eq_true rfl⟩ ⟨Nat.zero_le _, Nat.zero_le _⟩ dX9_undo_27 ?_
    refine fw_aload_n C 0 dX9_undo_30 rfl rfl ?_
    obtain ⟨g10, h⟩ := gd_some h
    refine fw_getR C 9 7 (Nat.le_of_ble_eq_true rfl) (Nat.le_of_ble_eq_true rfl) wf_X9_61 rfl (gO_of g1) (gN_of g10) dX9_undo_31 ?_
    obtain ⟨g11, h⟩ := gd_some h
    refine fw_getI C 0 1 (Nat.le_of_ble_eq_true rfl) (Nat.le_of_ble_eq_true rfl) wf_X9_131 rfl (gO_of g11) dX9_undo_34 ?_
    obtain rfl := Option.some.inj h
    exact fw_iret C hr hlk dX9_undo_37
  · replace h := (if_pos c4).symm.trans h
    refine fw_iconst C (-1) dX9_undo_10 rfl ?_
    obtain rfl := Option.some.inj h
    exact fw_iret C hr hlk dX9_undo_11
set_option maxRecDepth 100000 in
def f_X1_wordNumber (S : List fw_Sh) (M : fw_Mem) (a0 : Nat) : Option Int32 := gd (gO S 1 a0) (gd (gN (M a0 0)) (gd (gO S 7 ((M a0 0).toNatClampNeg)) (b1 (f_X7_isWord S M ((M a0 0).toNatClampNeg) 1000028) (fun v3 => if v3 = 0 then (b1 (f_X7_isWord S M ((M a0 0).toNatClampNeg) 1000024) (fun v6 => if v6 = 0 then (b1 (f_X7_isWord S M ((M a0 0).toNatClampNeg) 1000005) (fun v8 => if v8 = 0 then (b1 (f_X7_isWord S M ((M a0 0).toNatClampNeg) 1000008) (fun v10 => if v10 = 0 then (b1 (f_X7_isWord S M ((M a0 0).toNatClampNeg) 1000004) (fun v12 => if v12 = 0 then (b1 (f_X7_isWord S M ((M a0 0).toNatClampNeg) 1000030) (fun v14 => if v14 = 0 then (b1 (f_X7_isWord S M ((M a0 0).toNatClampNeg) 1000002) (fun v16 => if v16 = 0 then (b1 (f_X7_isWord S M ((M a0 0).toNatClampNeg) 1000013) (fun v18 => if v18 = 0 then (b1 (f_X7_isWord S M ((M a0 0).toNatClampNeg) 1000021) (fun v20 => if v20 = 0 then (b1 (f_X7_isWord S M ((M a0 0).toNatClampNeg) 1000010) (fun v22 => if v22 = 0 then (some (-1)) else (some 9))) else (some 8))) else (some 7))) else (some 6))) else (some 5))) else (some 4))) else (some 3))) else (some 2))) else (some 1))) else (some 0)))))
set_option maxHeartbeats 4000000 in
set_option maxRecDepth 100000 in
theorem c_X1_wordNumber {l : Launch} {G : fw_G} {S : List fw_Sh} {M : fw_Mem} {a0 : Nat} {r : Int32} (hl : l.stackTraces = false) (h : f_X1_wordNumber S M a0 = some r) : fw_M l G yX1_wordNumber (.code yX1_wordNumber cX1_wordNumber 1 (some .int)) 8 (fw_mcO (.inl (some (.int r)), S, M)) (fw_msO (.inl (some (.int r)), S, M)) S M [.ref a0] (.inl (some (.int r)), S, M) := by
  refine fw_of [(0, .ref a0)] (by decide) (Nat.le_of_ble_eq_true rfl) rfl ?_
  intro p e s m args below meth c C hr hlk hnm ht _
  unfold f_X1_wordNumber at h
  refine fw_aload_n C 0 dX1_wordNumber_0 rfl rfl ?_
  obtain ⟨g1, h⟩ := gd_some h
  obtain ⟨g2, h⟩ := gd_some h
  refine fw_getR C 1 0 (Nat.le_of_ble_eq_true rfl) (Nat.le_of_ble_eq_true rfl) wf_X1_21 rfl (gO_of g1) (gN_of g2) dX1_wordNumber_1 ?_
  refine fw_ldcS C (i := 27) (List.mem_of_getElem? (i := 46) rfl) dX1_wordNumber_4 ?_
  obtain ⟨g4, h⟩ := gd_some h
  obtain ⟨v3, e3, h⟩ := b1_some h
  refine fw_callV (ci := 7) [_] C (c_X7_isWord hl e3) cal_X7_isWord wm_X1_43 wi_yX7_isWord wsl_yX7_isWord (Nat.le_of_ble_eq_true rfl) rfl (gO_of g4) rfl (Nat.le_of_ble_eq_true rfl) ⟨Nat.le_of_ble_eq_true rfl, Nat.le_of_ble_eq_true rfl⟩ ⟨Nat.zero_le _, Nat.zero_le _⟩ dX1_wordNumber_6 ?_
  refine fw_if_eq C 14 dX1_wordNumber_9 (by decide) (fun c5 => ?_) (fun c5 => ?_)
  · replace h := (if_pos c5).symm.trans h
    refine fw_aload_n C 0 dX1_wordNumber_14 rfl rfl ?_
    refine fw_getR C 1 0 (Nat.le_of_ble_eq_true rfl) (Nat.le_of_ble_eq_true rfl) wf_X1_21 rfl (gO_of g1) (gN_of g2) dX1_wordNumber_15 ?_
    refine fw_ldcS C (i := 23) (List.mem_of_getElem? (i := 47) rfl) dX1_wordNumber_18 ?_
    obtain ⟨v6, e6, h⟩ := b1_some h
    refine fw_callV (ci := 7) [_] C (c_X7_isWord hl e6) cal_X7_isWord wm_X1_43 wi_yX7_isWord wsl_yX7_isWord (Nat.le_of_ble_eq_true rfl) rfl (gO_of g4) rfl (Nat.le_of_ble_eq_true rfl) ⟨Nat.le_of_ble_eq_true rfl, Nat.le_of_ble_eq_true rfl⟩ ⟨Nat.zero_le _, Nat.zero_le _⟩ dX1_wordNumber_20 ?_
    refine fw_if_eq C 28 dX1_wordNumber_23 (by decide) (fun c7 => ?_) (fun c7 => ?_)
    · replace h := (if_pos c7).symm.trans h
      refine fw_aload_n C 0 dX1_wordNumber_28 rfl rfl ?_
      refine fw_getR C 1 0 (Nat.le_of_ble_eq_true rfl) (Nat.le_of_ble_eq_true rfl) wf_X1_21 rfl (gO_of g1) (gN_of g2) dX1_wordNumber_29 ?_
      refine fw_ldcS C (i := 4) (List.mem_of_getElem? (i := 48) rfl) dX1_wordNumber_32 ?_
      obtain ⟨v8, e8, h⟩ := b1_some h
      refine fw_callV (ci := 7) [_] C (c_X7_isWord hl e8) cal_X7_isWord wm_X1_43 wi_yX7_isWord wsl_yX7_isWord (Nat.le_of_ble_eq_true rfl) rfl (gO_of g4) rfl (Nat.le_of_ble_eq_true rfl) ⟨Nat.le_of_ble_eq_true rfl, Nat.le_of_ble_eq_true rfl⟩ ⟨Nat.zero_le _, Nat.zero_le _⟩ dX1_wordNumber_34 ?_
      refine fw_if_eq C 42 dX1_wordNumber_37 (by decide) (fun c9 => ?_) (fun c9 => ?_)
      · replace h := (if_pos c9).symm.trans h
        refine fw_aload_n C 0 dX1_wordNumber_42 rfl rfl ?_
        refine fw_getR C 1 0 (Nat.le_of_ble_eq_true rfl) (Nat.le_of_ble_eq_true rfl) wf_X1_21 rfl (gO_of g1) (gN_of g2) dX1_wordNumber_43 ?_
        refine fw_ldcS C (i := 7) (List.mem_of_getElem? (i := 49) rfl) dX1_wordNumber_46 ?_
        obtain ⟨v10, e10, h⟩ := b1_some h
        refine fw_callV (ci := 7) [_] C (c_X7_isWord hl e10) cal_X7_isWord wm_X1_43 wi_yX7_isWord wsl_yX7_isWord (Nat.le_of_ble_eq_true rfl) rfl (gO_of g4) rfl (Nat.le_of_ble_eq_true rfl) ⟨Nat.le_of_ble_eq_true rfl, Nat.le_of_ble_eq_true rfl⟩ ⟨Nat.zero_le _, Nat.zero_le _⟩ dX1_wordNumber_48 ?_
        refine fw_if_eq C 56 dX1_wordNumber_51 (by decide) (fun c11 => ?_) (fun c11 => ?_)
        · replace h := (if_pos c11).symm.trans h
          refine fw_aload_n C 0 dX1_wordNumber_56 rfl rfl ?_
          refine fw_getR C 1 0 (Nat.le_of_ble_eq_true rfl) (Nat.le_of_ble_eq_true rfl) wf_X1_21 rfl (gO_of g1) (gN_of g2) dX1_wordNumber_57 ?_
          refine fw_ldcS C (i := 3) (List.mem_of_getElem? (i := 50) rfl) dX1_wordNumber_60 ?_
          obtain ⟨v12, e12, h⟩ := b1_some h
          refine fw_callV (ci := 7) [_] C (c_X7_isWord hl e12) cal_X7_isWord wm_X1_43 wi_yX7_isWord wsl_yX7_isWord (Nat.le_of_ble_eq_true rfl) rfl (gO_of g4) rfl (Nat.le_of_ble_eq_true rfl) ⟨Nat.le_of_ble_eq_true rfl, Nat.le_of_ble_eq_true rfl⟩ ⟨Nat.zero_le _, Nat.zero_le _⟩ dX1_wordNumber_62 ?_
          refine fw_if_eq C 70 dX1_wordNumber_65 (by decide) (fun c13 => ?_) (fun c13 => ?_)
          · replace h := (if_pos c13).symm.trans h
            refine fw_aload_n C 0 dX1_wordNumber_70 rfl rfl ?_
            refine fw_getR C 1 0 (Nat.le_of_ble_eq_true rfl) (Nat.le_of_ble_eq_true rfl) wf_X1_21 rfl (gO_of g1) (gN_of g2) dX1_wordNumber_71 ?_
            refine fw_ldcS C (i := 29) (List.mem_of_getElem? (i := 51) rfl) dX1_wordNumber_74 ?_
            obtain ⟨v14, e14, h⟩ := b1_some h
            refine fw_callV (ci := 7) [_] C (c_X7_isWord hl e14) cal_X7_isWord wm_X1_43 wi_yX7_isWord wsl_yX7_isWord (Nat.le_of_ble_eq_true rfl) rfl (gO_of g4) rfl (Nat.le_of_ble_eq_true rfl) ⟨Nat.le_of_ble_eq_true rfl, Nat.le_of_ble_eq_true rfl⟩ ⟨Nat.zero_le _, Nat.zero_le _⟩ dX1_wordNumber_76 ?_
            refine fw_if_eq C 84 dX1_wordNumber_79 (by decide) (fun c15 => ?_) (fun c15 => ?_)
            · replace h := (if_pos c15).symm.trans h
              refine fw_aload_n C 0 dX1_wordNumber_84 rfl rfl ?_
              refine fw_getR C 1 0 (Nat.le_of_ble_eq_true rfl) (Nat.le_of_ble_eq_true rfl) wf_X1_21 rfl (gO_of g1) (gN_of g2) dX1_wordNumber_85 ?_
              refine fw_ldcS C (i := 1) (List.mem_of_getElem? (i := 52) rfl) dX1_wordNumber_88 ?_
              obtain ⟨v16, e16, h⟩ := b1_some h
              refine fw_callV (ci := 7) [_] C (c_X7_isWord hl e16) cal_X7_isWord wm_X1_43 wi_yX7_isWord wsl_yX7_isWord (Nat.le_of_ble_eq_true rfl) rfl (gO_of g4) rfl (Nat.le_of_ble_eq_true rfl) ⟨Nat.le_of_ble_eq_true rfl, Nat.le_of_ble_eq_true rfl⟩ ⟨Nat.zero_le _, Nat.zero_le _⟩ dX1_wordNumber_90 ?_
              refine fw_if_eq C 99 dX1_wordNumber_93 (by decide) (fun c17 => ?_) (fun c17 => ?_)
              · replace h := (if_pos c17).symm.trans h
                refine fw_aload_n C 0 dX1_wordNumber_99 rfl rfl ?_
                refine fw_getR C 1 0 (Nat.le_of_ble_eq_true rfl) (Nat.le_of_ble_eq_true rfl) wf_X1_21 rfl (gO_of g1) (gN_of g2) dX1_wordNumber_100 ?_
                refine fw_ldcS C (i := 12) (List.mem_of_getElem? (i := 53) rfl) dX1_wordNumber_103 ?_
                obtain ⟨v18, e18, h⟩ := b1_some h
                refine fw_callV (ci := 7) [_] C (c_X7_isWord hl e18) cal_X7_isWord wm_X1_43 wi_yX7_isWord wsl_yX7_isWord (Nat.le_of_ble_eq_true rfl) rfl (gO_of g4) rfl (Nat.le_of_ble_eq_true rfl) ⟨Nat.le_of_ble_eq_true rfl, Nat.le_of_ble_eq_true rfl⟩ ⟨Nat.zero_le _, Nat.zero_le _⟩ dX1_wordNumber_105 ?_
                refine fw_if_eq C 114 dX1_wordNumber_108 (by decide) (fun c19 => ?_) (fun c19 => ?_)
                · replace h := (if_pos c19).symm.trans h
                  refine fw_aload_n C 0 dX1_wordNumber_114 rfl rfl ?_
                  refine fw_getR C 1 0 (Nat.le_of_ble_eq_true rfl) (Nat.le_of_ble_eq_true rfl) wf_X1_21 rfl (gO_of g1) (gN_of g2) dX1_wordNumber_115 ?_
                  refine fw_ldcS C (i := 20) (List.mem_of_getElem? (i := 54) rfl) dX1_wordNumber_118 ?_
                  obtain ⟨v20, e20, h⟩ := b1_some h
                  refine fw_callV (ci := 7) [_] C (c_X7_isWord hl e20) cal_X7_isWord wm_X1_43 wi_yX7_isWord wsl_yX7_isWord (Nat.le_of_ble_eq_true rfl) rfl (gO_of g4) rfl (Nat.le_of_ble_eq_true rfl) ⟨Nat.le_of_ble_eq_true rfl, Nat.le_of_ble_eq_true rfl⟩ ⟨Nat.zero_le _, Nat.zero_le _⟩ dX1_wordNumber_120 ?_
                  refine fw_if_eq C 129 dX1_wordNumber_123 (by decide) (fun c21 => ?_) (fun c21 => ?_)
                  · replace h := (if_pos c21).symm.trans h
                    refine fw_aload_n C 0 dX1_wordNumber_129 rfl rfl ?_
                    refine fw_getR C 1 0 (Nat.le_of_ble_eq_true rfl) (Nat.le_of_ble_eq_true rfl) wf_X1_21 rfl (gO_of g1) (gN_of g2) dX1_wordNumber_130 ?_
                    refine fw_ldcS C (i := 9) (List.mem_of_getElem? (i := 55) rfl) dX1_wordNumber_133 ?_
                    obtain ⟨v22, e22, h⟩ := b1_some h
                    refine fw_callV (ci := 7) [_] C (c_X7_isWord hl e22) cal_X7_isWord wm_X1_43 wi_yX7_isWord wsl_yX7_isWord (Nat.le_of_ble_eq_true rfl) rfl (gO_of g4) rfl (Nat.le_of_ble_eq_true rfl) ⟨Nat.le_of_ble_eq_true rfl, Nat.le_of_ble_eq_true rfl⟩ ⟨Nat.zero_le _, Nat.zero_le _⟩ dX1_wordNumber_135 ?_
                    refine fw_if_eq C 146 dX1_wordNumber_138 (by decide) (fun c23 => ?_) (fun c23 => ?_)
                    · replace h := (if_pos c23).symm.trans h
                      refine fw_iconst C (-1) dX1_wordNumber_146 rfl ?_
                      obtain rfl := Option.some.inj h
                      exact fw_iret C hr hlk dX1_wordNumber_147
                    · replace h := (if_neg c23).symm.trans h
                      refine fw_bipush C 9 dX1_wordNumber_141 rfl ?_
                      refine fw_goto C 147 dX1_wordNumber_143 (by decide) ?_
                      obtain rfl := Option.some.inj h
                      exact fw_iret C hr hlk dX1_wordNumber_147
                  · replace h := (if_neg c21).symm.trans h
                    refine fw_bipush C 8 dX1_wordNumber_126 rfl ?_
                    obtain rfl := Option.some.inj h
                    exact fw_iret C hr hlk dX1_wordNumber_128
                · replace h := (if_neg c19).symm.trans h
                  refine fw_bipush C 7 dX1_wordNumber_111 rfl ?_
                  obtain rfl := Option.some.inj h
                  exact fw_iret C hr hlk dX1_wordNumber_113
              · replace h := (if_neg c17).symm.trans h
                refine fw_bipush C 6 dX1_wordNumber_96 rfl ?_
                obtain rfl := Option.some.inj h
                exact fw_iret C hr hlk dX1_wordNumber_98
            · replace h := (if_neg c15).symm.trans h
              refine fw_iconst C 5 dX1_wordNumber_82 rfl ?_
              obtain rfl := Option.some.inj h
              exact fw_iret C hr hlk dX1_wordNumber_83
          · replace h := (if_neg c13).symm.trans h
            refine fw_iconst C 4 dX1_wordNumber_68 rfl ?_
            obtain rfl := Option.some.inj h
            exact fw_iret C hr hlk dX1_wordNumber_69
        · replace h := (if_neg c11).symm.trans h
          refine fw_iconst C 3 dX1_wordNumber_54 rfl ?_
          obtain rfl := Option.some.inj h
          exact fw_iret C hr hlk dX1_wordNumber_55
      · replace h := (if_neg c9).symm.trans h
        refine fw_iconst C 2 dX1_wordNumber_40 rfl ?_
        obtain rfl := Option.some.inj h
        exact fw_iret C hr hlk dX1_wordNumber_41
    · replace h := (if_neg c7).symm.trans h
      refine fw_iconst C 1 dX1_wordNumber_26 rfl ?_
      obtain rfl := Option.some.inj h
      exact fw_iret C hr hlk dX1_wordNumber_27
  · replace h := (if_neg c5).symm.trans h
    refine fw_iconst C 0 dX1_wordNumber_12 rfl ?_
    obtain rfl := Option.some.inj h
    exact fw_iret C hr hlk dX1_wordNumber_13
set_option maxRecDepth 100000 in
def lf_X1_readValue_60 (S : List fw_Sh) (a0 : Nat) (a1 : Nat) (x2 : Int32) : Nat → Int32 → fw_Mem → Option (fw_Mem)
  | 0, _, _ => none
  | n + 1, x3, M => gd (gO S 1 a0) (if (M a0 4) ≤ x3 then (some M) else (gd (gL S 0 a1) (if (nI (fw_len2 S 0 a1)) ≤ x3 then (some M) else (if x2 = (-1) then (gd (gN (M a0 0)) (gd (gO S 7 ((M a0 0).toNatClampNeg)) (gd (gA S 0 a1 x3) (bm (fw_set M a1 x3.toNatClampNeg (M ((M a0 0).toNatClampNeg) 6)) (fun M19 => lf_X1_readValue_60 S a0 a1 x2 n (x3 + 1) M19))))) else (gd (gN (M a0 1)) (gd (gA S 0 ((M a0 1).toNatClampNeg) ((x3 * 10) + x2)) (gd (gA S 0 a1 x3) (bm (fw_set M a1 x3.toNatClampNeg (M ((M a0 1).toNatClampNeg) ((x3 * 10) + x2).toNatClampNeg)) (fun M15 => lf_X1_readValue_60 S a0 a1 x2 n (x3 + 1) M15)))))))))
set_option maxHeartbeats 4000000 in
set_option maxRecDepth 100000 in
theorem lc_X1_readValue_60 {G : fw_G} {p : Program} {l : Launch} {e : Env} {s : State} {m : MethodId} {args : Array Value} {below : List Frame} {meth : Method} {c : Code} {S : List fw_Sh} {o : fw_O} {a0 : Nat} {a1 : Nat} {x2 : Int32} (C : fw_C G RX1 cX1_readValue 4 p s m args c) (hr : meth.sig.returnType = none) (hlk : meth.locks = false) (hl : l.stackTraces = false) (ht : ∀ x ∈ c.exceptionTable.toList, False) :
    ∀ {n : Nat} {x3 : Int32} {M : fw_Mem} {r : (fw_Mem)} (h : lf_X1_readValue_60 S a0 a1 x2 n x3 M = some r) (kx : fw_W G p l e (fw_rm 9 (fw_mcO o) (fw_msO o)) s m args below meth c 4 (fw_Z G below args s (fw_mcO o) (fw_msO o) o) 0 0 109 [(0, .ref a0)] [] S r), fw_W G p l e (fw_rm 9 (fw_mcO o) (fw_msO o)) s m args below meth c 4 (fw_Z G below args s (fw_mcO o) (fw_msO o) o) 0 0 60 [(0, .ref a0), (1, .ref a1), (2, .int x2), (3, .int x3)] [] S M := by
  intro n
  induction n with
  | zero =>
    intro x3 M r h
    exact nomatch (show (none : Option (fw_Mem)) = some r from h)
  | succ n ih =>
    intro x3 M r h kx
    rw [lf_X1_readValue_60.eq_2] at h
    refine fw_iload_n C 3 dX1_readValue_60 rfl rfl ?_
    refine fw_aload_n C 0 dX1_readValue_61 rfl rfl ?_
    obtain ⟨g7, h⟩ := gd_some h
    refine fw_getI C 1 4 (Nat.le_of_ble_eq_true rfl) (Nat.le_of_ble_eq_true rfl) wf_X1_31 rfl (gO_of g7) dX1_readValue_62 ?_
    refine fw_icmp_ge C 109 dX1_readValue_65 (by decide) (fun c8 => ?_) (fun c8 => ?_)
    · replace h := (if_pos c8).symm.trans h
      obtain rfl := Option.some.inj h
      refine fw_sub [0] rfl ?_
      exact kx
    · replace h := (if_neg c8).symm.trans h
      refine fw_iload_n C 3 dX1_readValue_68 rfl rfl ?_
      refine fw_aload_n C 1 dX1_readValue_69 rfl rfl ?_
      obtain ⟨g9, h⟩ := gd_some h
      refine fw_alen C 0 _ (by decide) (gL_of g9) dX1_readValue_70 ?_
      refine fw_icmp_ge C 109 dX1_readValue_71 (by decide) (fun c10 => ?_) (fun c10 => ?_)
      · replace h := (if_pos c10).symm.trans h
        obtain rfl := Option.some.inj h
        refine fw_sub [0] rfl ?_
        exact kx
      · replace h := (if_neg c10).symm.trans h
        refine fw_aload_n C 1 dX1_readValue_74 rfl rfl ?_
        refine fw_iload_n C 3 dX1_readValue_75 rfl rfl ?_
        refine fw_iload_n C 2 dX1_readValue_76 rfl rfl ?_
        refine fw_iconst C (-1) dX1_readValue_77 rfl ?_
        refine fw_icmp_ne C 91 dX1_readValue_78 (by decide) (fun c11 => ?_) (fun c11 => ?_)
        · replace h := (if_neg c11).symm.trans h
          refine fw_aload_n C 0 dX1_readValue_91 rfl rfl ?_
          obtain ⟨g12, h⟩ := gd_some h
          refine fw_getR C 1 1 (Nat.le_of_ble_eq_true rfl) (Nat.le_of_ble_eq_true rfl) wf_X1_11 rfl (gO_of g7) (gN_of g12) dX1_readValue_92 ?_
          refine fw_iload_n C 3 dX1_readValue_95 rfl rfl ?_
          refine fw_bipush C 10 dX1_readValue_96 rfl ?_
          refine fw_imul C dX1_readValue_98 ?_
          refine fw_iload_n C 2 dX1_readValue_99 rfl rfl ?_
          refine fw_iadd C dX1_readValue_100 ?_
          obtain ⟨g13, h⟩ := gd_some h
          refine fw_iald C (gA_of g13) dX1_readValue_101 ?_
          obtain ⟨g14, h⟩ := gd_some h
          refine fw_iast C (gA_of g14) dX1_readValue_102 ?_
          refine fw_bm h (fun M15 h => ?_)
          refine fw_iinc C _ 3 [(3, _), (0, _), (1, _), (2, _)] dX1_readValue_103 rfl rfl (Nat.le_of_ble_eq_true rfl) rfl ?_
          refine fw_goto C 60 dX1_readValue_106 (by decide) ?_
          refine fw_sub [1, 2, 3, 0] rfl ?_
          exact ih h kx
        · replace h := (if_pos c11).symm.trans h
          refine fw_aload_n C 0 dX1_readValue_81 rfl rfl ?_
          obtain ⟨g16, h⟩ := gd_some h
          refine fw_getR C 1 0 (Nat.le_of_ble_eq_true rfl) (Nat.le_of_ble_eq_true rfl) wf_X1_21 rfl (gO_of g7) (gN_of g16) dX1_readValue_82 ?_
          obtain ⟨g17, h⟩ := gd_some h
          refine fw_getI C 7 6 (Nat.le_of_ble_eq_true rfl) (Nat.le_of_ble_eq_true rfl) wf_X1_105 rfl (gO_of g17) dX1_readValue_85 ?_
          refine fw_goto C 102 dX1_readValue_88 (by decide) ?_
          obtain ⟨g18, h⟩ := gd_some h
          refine fw_iast C (gA_of g18) dX1_readValue_102 ?_
          refine fw_bm h (fun M19 h => ?_)
          refine fw_iinc C _ 3 [(3, _), (0, _), (1, _), (2, _)] dX1_readValue_103 rfl rfl (Nat.le_of_ble_eq_true rfl) rfl ?_
          refine fw_goto C 60 dX1_readValue_106 (by decide) ?_
          refine fw_sub [1, 2, 3, 0] rfl ?_
          exact ih h kx
set_option maxRecDepth 100000 in
def fj_X1_readValue_58 (S : List fw_Sh) (M : fw_Mem) (a0 : Nat) (a1 : Nat) (x2 : Int32) : Option fw_Mem := b1 (lf_X1_readValue_60 S a0 a1 x2 20000 0 M) (fun l30 => gd (gO S 1 a0) (gd (gN (l30 a0 0)) (gd (gO S 7 ((l30 a0 0).toNatClampNeg)) (b1 (f_X7_advance S l30 ((l30 a0 0).toNatClampNeg)) (fun M33 => some M33)))))
set_option maxHeartbeats 4000000 in
set_option maxRecDepth 100000 in
theorem jc_X1_readValue_58 {G : fw_G} {p : Program} {l : Launch} {e : Env} {s : State} {m : MethodId} {args : Array Value} {below : List Frame} {meth : Method} {c : Code} {S : List fw_Sh} {M : fw_Mem} {a0 : Nat} {a1 : Nat} {x2 : Int32} {r : fw_Mem} {o : fw_O} (C : fw_C G RX1 cX1_readValue 4 p s m args c) (hr : meth.sig.returnType = none) (hlk : meth.locks = false) (hl : l.stackTraces = false) (ht : ∀ x ∈ c.exceptionTable.toList, False) (ho : o = (.inl none, S, r)) (h : fj_X1_readValue_58 S M a0 a1 x2 = some r) :
    fw_W G p l e (fw_rm 9 (fw_mcO o) (fw_msO o)) s m args below meth c 4 (fw_Z G below args s (fw_mcO o) (fw_msO o) o) 0 0 58 [(0, .ref a0), (1, .ref a1), (2, .int x2)] [] S M := by
  subst ho
  unfold fj_X1_readValue_58 at h
  refine fw_iconst C 0 dX1_readValue_58 rfl ?_
  refine fw_istore_n C [(3, _), (0, _), (1, _), (2, _)] dX1_readValue_59 rfl (Nat.le_of_ble_eq_true rfl) rfl ?_
  refine fw_sub [1, 2, 3, 0] rfl ?_
  obtain ⟨l30, e30, h⟩ := b1_some h
  refine lc_X1_readValue_60 C hr hlk hl ht e30 ?_
  refine fw_aload_n C 0 dX1_readValue_109 rfl rfl ?_
  obtain ⟨g31, h⟩ := gd_some h
  obtain ⟨g32, h⟩ := gd_some h
  refine fw_getR C 1 0 (Nat.le_of_ble_eq_true rfl) (Nat.le_of_ble_eq_true rfl) wf_X1_21 rfl (gO_of g31) (gN_of g32) dX1_readValue_110 ?_
  obtain ⟨g34, h⟩ := gd_some h
  obtain ⟨M33, e33, h⟩ := b1_some h
  refine fw_callV (ci := 7) [] C (c_X7_advance hl e33) cal_X7_advance wm_X1_52 wi_yX7_advance wsl_yX7_advance (Nat.le_of_ble_eq_true rfl) rfl (gO_of g34) rfl (Nat.le_of_ble_eq_true rfl) ⟨Nat.le_of_ble_eq_true rfl, Nat.le_of_ble_eq_true rfl⟩ ⟨Nat.zero_le _, Nat.zero_le _⟩ dX1_readValue_113 ?_
  obtain rfl := Option.some.inj h
  exact fw_vret C hr hlk dX1_readValue_116
set_option maxRecDepth 100000 in
def f_X1_readValue (S : List fw_Sh) (M : fw_Mem) (a0 : Nat) (a1 : Nat) : Option fw_Mem := gd (gO S 1 a0) (b1 (f_X1_wordNumber S M a0) (fun v1 => gd (gN (M a0 0)) (gd (gO S 7 ((M a0 0).toNatClampNeg)) (if (M ((M a0 0).toNatClampNeg) 3) = 3 then (if v1 = (-1) then (if (M ((M a0 0).toNatClampNeg) 6) ≤ 9999 then (b1 (lf_X1_readValue_60 S a0 a1 v1 20000 0 M) (fun l25 => gd (gN (l25 a0 0)) (gd (gO S 7 ((l25 a0 0).toNatClampNeg)) (b1 (f_X7_advance S l25 ((l25 a0 0).toNatClampNeg)) (fun M27 => some M27))))) else (b1 (f_X7_fail S M ((M a0 0).toNatClampNeg) 2) (fun M29 => fj_X1_readValue_58 S M29 a0 a1 v1))) else (b1 (lf_X1_readValue_60 S a0 a1 v1 20000 0 M) (fun l20 => gd (gN (l20 a0 0)) (gd (gO S 7 ((l20 a0 0).toNatClampNeg)) (b1 (f_X7_advance S l20 ((l20 a0 0).toNatClampNeg)) (fun M22 => some M22)))))) else (if v1 = (-1) then (b1 (f_X7_fail S M ((M a0 0).toNatClampNeg) 1) (fun M47 => fj_X1_readValue_58 S M47 a0 a1 v1)) else (if v1 = (-1) then (if (M ((M a0 0).toNatClampNeg) 6) ≤ 9999 then (b1 (lf_X1_readValue_60 S a0 a1 v1 20000 0 M) (fun l42 => gd (gN (l42 a0 0)) (gd (gO S 7 ((l42 a0 0).toNatClampNeg)) (b1 (f_X7_advance S l42 ((l42 a0 0).toNatClampNeg)) (fun M44 => some M44))))) else (b1 (f_X7_fail S M ((M a0 0).toNatClampNeg) 2) (fun M46 => fj_X1_readValue_58 S M46 a0 a1 v1))) else (b1 (lf_X1_readValue_60 S a0 a1 v1 20000 0 M) (fun l37 => gd (gN (l37 a0 0)) (gd (gO S 7 ((l37 a0 0).toNatClampNeg)) (b1 (f_X7_advance S l37 ((l37 a0 0).toNatClampNeg)) (fun M39 => some M39)))))))))))
set_option maxHeartbeats 4000000 in
set_option maxRecDepth 100000 in
theorem c_X1_readValue {l : Launch} {G : fw_G} {S : List fw_Sh} {M : fw_Mem} {a0 : Nat} {a1 : Nat} {r : fw_Mem} (hl : l.stackTraces = false) (h : f_X1_readValue S M a0 a1 = some r) : fw_M l G yX1_readValue (.code yX1_readValue cX1_readValue 4 none) 9 (fw_mcO (.inl none, S, r)) (fw_msO (.inl none, S, r)) S M [.ref a0, .ref a1] (.inl none, S, r) := by
  refine fw_of [(0, .ref a0), (1, .ref a1)] (by decide) (Nat.le_of_ble_eq_true rfl) rfl ?_
  intro p e s m args below meth c C hr hlk hnm ht _
  unfold f_X1_readValue at h
  refine fw_aload_n C 0 dX1_readValue_0 rfl rfl ?_
  obtain ⟨g2, h⟩ := gd_some h
  obtain ⟨v1, e1, h⟩ := b1_some h
  refine fw_callV (ci := 1) [] C (c_X1_wordNumber hl e1) cal_X1_wordNumber wm_X1_102 wi_yX1_wordNumber wsl_yX1_wordNumber (Nat.le_of_ble_eq_true rfl) rfl (gO_of g2) rfl (Nat.le_of_ble_eq_true rfl) ⟨Nat.le_of_ble_eq_true rfl, Nat.le_of_ble_eq_true rfl⟩ ⟨Nat.zero_le _, Nat.zero_le _⟩ dX1_readValue_1 ?_
  refine fw_istore_n C [(2, _), (0, _), (1, _)] dX1_readValue_4 rfl (Nat.le_of_ble_eq_true rfl) rfl ?_
  refine fw_aload_n C 1 dX1_readValue_5 rfl rfl ?_
  obtain ⟨g3, h⟩ := gd_some h
  refine fw_getR C 1 0 (Nat.le_of_ble_eq_true rfl) (Nat.le_of_ble_eq_true rfl) wf_X1_21 rfl (gO_of g2) (gN_of g3) dX1_readValue_6 ?_
  obtain ⟨g4, h⟩ := gd_some h
  refine fw_getI C 7 3 (Nat.le_of_ble_eq_true rfl) (Nat.le_of_ble_eq_true rfl) wf_X1_59 rfl (gO_of g4) dX1_readValue_9 ?_
  refine fw_iconst C 3 dX1_readValue_12 rfl ?_
  refine fw_icmp_eq C 32 dX1_readValue_13 (by decide) (fun c5 => ?_) (fun c5 => ?_)
  · replace h := (if_pos c5).symm.trans h
    refine fw_iload_n C 0 dX1_readValue_32 rfl rfl ?_
    refine fw_iconst C (-1) dX1_readValue_33 rfl ?_
    refine fw_icmp_ne C 58 dX1_readValue_34 (by decide) (fun c6 => ?_) (fun c6 => ?_)
    · replace h := (if_neg c6).symm.trans h
      refine fw_iconst C 0 dX1_readValue_58 rfl ?_
      refine fw_istore_n C [(3, _), (2, _), (0, _), (1, _)] dX1_readValue_59 rfl (Nat.le_of_ble_eq_true rfl) rfl ?_
      refine fw_sub [2, 3, 1, 0] rfl ?_
      obtain ⟨l20, e20, h⟩ := b1_some h
      refine lc_X1_readValue_60 C hr hlk hl ht e20 ?_
      refine fw_aload_n C 0 dX1_readValue_109 rfl rfl ?_
      obtain ⟨g21, h⟩ := gd_some h
      refine fw_getR C 1 0 (Nat.le_of_ble_eq_true rfl) (Nat.le_of_ble_eq_true rfl) wf_X1_21 rfl (gO_of g2) (gN_of g21) dX1_readValue_110 ?_
      obtain ⟨g23, h⟩ := gd_some h
      obtain ⟨M22, e22, h⟩ := b1_some h
      refine fw_callV (ci := 7) [] C (c_X7_advance hl e22) cal_X7_advance wm_X1_52 wi_yX7_advance wsl_yX7_advance (Nat.le_of_ble_eq_true rfl) rfl (gO_of g23) rfl (Nat.le_of_ble_eq_true rfl) ⟨Nat.le_of_ble_eq_true rfl, Nat.le_of_ble_eq_true rfl⟩ ⟨Nat.zero_le _, Nat.zero_le _⟩ dX1_readValue_113 ?_
      obtain rfl := Option.some.inj h
      exact fw_vret C hr hlk dX1_readValue_116
    · replace h := (if_pos c6).symm.trans h
      refine fw_aload_n C 1 dX1_readValue_37 rfl rfl ?_
      refine fw_getR C 1 0 (Nat.le_of_ble_eq_true rfl) (Nat.le_of_ble_eq_true rfl) wf_X1_21 rfl (gO_of g2) (gN_of g3) dX1_readValue_38 ?_
      refine fw_getI C 7 6 (Nat.le_of_ble_eq_true rfl) (Nat.le_of_ble_eq_true rfl) wf_X1_105 rfl (gO_of g4) dX1_readValue_41 ?_
      refine fw_sipush C 9999 dX1_readValue_44 rfl ?_
      refine fw_icmp_le C 58 dX1_readValue_47 (by decide) (fun c24 => ?_) (fun c24 => ?_)
      · replace h := (if_pos c24).symm.trans h
        refine fw_iconst C 0 dX1_readValue_58 rfl ?_
        refine fw_istore_n C [(3, _), (2, _), (0, _), (1, _)] dX1_readValue_59 rfl (Nat.le_of_ble_eq_true rfl) rfl ?_
        refine fw_sub [2, 3, 1, 0] rfl ?_
        obtain ⟨l25, e25, h⟩ := b1_some h
        refine lc_X1_readValue_60 C hr hlk hl ht e25 ?_
        refine fw_aload_n C 0 dX1_readValue_109 rfl rfl ?_
        obtain ⟨g26, h⟩ := gd_some h
        refine fw_getR C 1 0 (Nat.le_of_ble_eq_true rfl) (Nat.le_of_ble_eq_true rfl) wf_X1_21 rfl (gO_of g2) (gN_of g26) dX1_readValue_110 ?_
        obtain ⟨g28, h⟩ := gd_some h
        obtain ⟨M27, e27, h⟩ := b1_some h
        refine fw_callV (ci := 7) [] C (c_X7_advance hl e27) cal_X7_advance wm_X1_52 wi_yX7_advance wsl_yX7_advance (Nat.le_of_ble_eq_true rfl) rfl (gO_of g28) rfl (Nat.le_of_ble_eq_true rfl) ⟨Nat.le_of_ble_eq_true rfl, Nat.le_of_ble_eq_true rfl⟩ ⟨Nat.zero_le _, Nat.zero_le _⟩ dX1_readValue_113 ?_
        obtain rfl := Option.some.inj h
        exact fw_vret C hr hlk dX1_readValue_116
      · replace h := (if_neg c24).symm.trans h
        refine fw_aload_n C 1 dX1_readValue_50 rfl rfl ?_
        refine fw_getR C 1 0 (Nat.le_of_ble_eq_true rfl) (Nat.le_of_ble_eq_true rfl) wf_X1_21 rfl (gO_of g2) (gN_of g3) dX1_readValue_51 ?_
        refine fw_iconst C 2 dX1_readValue_54 rfl ?_
        obtain ⟨M29, e29, h⟩ := b1_some h
        refine fw_callV (ci := 7) [_] C (c_X7_fail hl e29) cal_X7_fail wm_X1_49 wi_yX7_fail wsl_yX7_fail (Nat.le_of_ble_eq_true rfl) rfl (gO_of g4) rfl (Nat.le_of_ble_eq_true rfl) ⟨Nat.le_of_ble_eq_true rfl, Nat.le_of_ble_eq_true rfl⟩ ⟨Nat.zero_le _, Nat.zero_le _⟩ dX1_readValue_55 ?_
        refine fw_sub [1, 2, 0] rfl ?_
        exact jc_X1_readValue_58 C hr hlk hl ht rfl h
  · replace h := (if_neg c5).symm.trans h
    refine fw_iload_n C 0 dX1_readValue_16 rfl rfl ?_
    refine fw_iconst C (-1) dX1_readValue_17 rfl ?_
    refine fw_icmp_ne C 32 dX1_readValue_18 (by decide) (fun c35 => ?_) (fun c35 => ?_)
    · replace h := (if_neg c35).symm.trans h
      refine fw_iload_n C 0 dX1_readValue_32 rfl rfl ?_
      refine fw_iconst C (-1) dX1_readValue_33 rfl ?_
      refine fw_icmp_ne C 58 dX1_readValue_34 (by decide) (fun c36 => ?_) (fun c36 => ?_)
      · replace h := (if_neg c36).symm.trans h
        refine fw_iconst C 0 dX1_readValue_58 rfl ?_
        refine fw_istore_n C [(3, _), (2, _), (0, _), (1, _)] dX1_readValue_59 rfl (Nat.le_of_ble_eq_true rfl) rfl ?_
        refine fw_sub [2, 3, 1, 0] rfl ?_
        obtain ⟨l37, e37, h⟩ := b1_some h
        refine lc_X1_readValue_60 C hr hlk hl ht e37 ?_
        refine fw_aload_n C 0 dX1_readValue_109 rfl rfl ?_
        obtain ⟨g38, h⟩ := gd_some h
        refine fw_getR C 1 0 (Nat.le_of_ble_eq_true rfl) (Nat.le_of_ble_eq_true rfl) wf_X1_21 rfl (gO_of g2) (gN_of g38) dX1_readValue_110 ?_
        obtain ⟨g40, h⟩ := gd_some h
        obtain ⟨M39, e39, h⟩ := b1_some h
        refine fw_callV (ci := 7) [] C (c_X7_advance hl e39) cal_X7_advance wm_X1_52 wi_yX7_advance wsl_yX7_advance (Nat.le_of_ble_eq_true rfl) rfl (gO_of g40) rfl (Nat.le_of_ble_eq_true rfl) ⟨Nat.le_of_ble_eq_true rfl, Nat.le_of_ble_eq_true rfl⟩ ⟨Nat.zero_le _, Nat.zero_le _⟩ dX1_readValue_113 ?_
        obtain rfl := Option.some.inj h
        exact fw_vret C hr hlk dX1_readValue_116
      · replace h := (if_pos c36).symm.trans h
        refine fw_aload_n C 1 dX1_readValue_37 rfl rfl ?_
        refine fw_getR C 1 0 (Nat.le_of_ble_eq_true rfl) (Nat.le_of_ble_eq_true rfl) wf_X1_21 rfl (gO_of g2) (gN_of g3) dX1_readValue_38 ?_
        refine fw_getI C 7 6 (Nat.le_of_ble_eq_true rfl) (Nat.le_of_ble_eq_true rfl) wf_X1_105 rfl (gO_of g4) dX1_readValue_41 ?_
        refine fw_sipush C 9999 dX1_readValue_44 rfl ?_
        refine fw_icmp_le C 58 dX1_readValue_47 (by decide) (fun c41 => ?_) (fun c41 => ?_)
        · replace h := (if_pos c41).symm.trans h
          refine fw_iconst C 0 dX1_readValue_58 rfl ?_
          refine fw_istore_n C [(3, _), (2, _), (0, _), (1, _)] dX1_readValue_59 rfl (Nat.le_of_ble_eq_true rfl) rfl ?_
          refine fw_sub [2, 3, 1, 0] rfl ?_
          obtain ⟨l42, e42, h⟩ := b1_some h
          refine lc_X1_readValue_60 C hr hlk hl ht e42 ?_
          refine fw_aload_n C 0 dX1_readValue_109 rfl rfl ?_
          obtain ⟨g43, h⟩ := gd_some h
          refine fw_getR C 1 0 (Nat.le_of_ble_eq_true rfl) (Nat.le_of_ble_eq_true rfl) wf_X1_21 rfl (gO_of g2) (gN_of g43) dX1_readValue_110 ?_
          obtain ⟨g45, h⟩ := gd_some h
          obtain ⟨M44, e44, h⟩ := b1_some h
          refine fw_callV (ci := 7) [] C (c_X7_advance hl e44) cal_X7_advance wm_X1_52 wi_yX7_advance wsl_yX7_advance (Nat.le_of_ble_eq_true rfl) rfl (gO_of g45) rfl (Nat.le_of_ble_eq_true rfl) ⟨Nat.le_of_ble_eq_true rfl, Nat.le_of_ble_eq_true rfl⟩ ⟨Nat.zero_le _, Nat.zero_le _⟩ dX1_readValue_113 ?_
          obtain rfl := Option.some.inj h
          exact fw_vret C hr hlk dX1_readValue_116
        · replace h := (if_neg c41).symm.trans h
          refine fw_aload_n C 1 dX1_readValue_50 rfl rfl ?_
          refine fw_getR C 1 0 (Nat.le_of_ble_eq_true rfl) (Nat.le_of_ble_eq_true rfl) wf_X1_21 rfl (gO_of g2) (gN_of g3) dX1_readValue_51 ?_
          refine fw_iconst C 2 dX1_readValue_54 rfl ?_
          obtain ⟨M46, e46, h⟩ := b1_some h
          refine fw_callV (ci := 7) [_] C (c_X7_fail hl e46) cal_X7_fail wm_X1_49 wi_yX7_fail wsl_yX7_fail (Nat.le_of_ble_eq_true rfl) rfl (gO_of g4) rfl (Nat.le_of_ble_eq_true rfl) ⟨Nat.le_of_ble_eq_true rfl, Nat.le_of_ble_eq_true rfl⟩ ⟨Nat.zero_le _, Nat.zero_le _⟩ dX1_readValue_55 ?_
          refine fw_sub [1, 2, 0] rfl ?_
          exact jc_X1_readValue_58 C hr hlk hl ht rfl h
    · replace h := (if_pos c35).symm.trans h
      refine fw_aload_n C 1 dX1_readValue_21 rfl rfl ?_
      refine fw_getR C 1 0 (Nat.le_of_ble_eq_true rfl) (Nat.le_of_ble_eq_true rfl) wf_X1_21 rfl (gO_of g2) (gN_of g3) dX1_readValue_22 ?_
      refine fw_iconst C 1 dX1_readValue_25 rfl ?_
      obtain ⟨M47, e47, h⟩ := b1_some h
      refine fw_callV (ci := 7) [_] C (c_X7_fail hl e47) cal_X7_fail wm_X1_49 wi_yX7_fail wsl_yX7_fail (Nat.le_of_ble_eq_true rfl) rfl (gO_of g4) rfl (Nat.le_of_ble_eq_true rfl) ⟨Nat.le_of_ble_eq_true rfl, Nat.le_of_ble_eq_true rfl⟩ ⟨Nat.zero_le _, Nat.zero_le _⟩ dX1_readValue_26 ?_
      refine fw_goto C 58 dX1_readValue_29 (by decide) ?_
      refine fw_sub [1, 2, 0] rfl ?_
      exact jc_X1_readValue_58 C hr hlk hl ht rfl h
set_option maxRecDepth 100000 in
def lf_X1_compare_76 (S : List fw_Sh) (M : fw_Mem) (a0 : Nat) (x1 : Int32) (x2 : Int32) : Nat → Int32 → Int32 → Option (Int32)
  | 0, _, _ => none
  | n + 1, x3, x4 => gd (gO S 1 a0) (if (M a0 4) ≤ x4 then (some x3) else (if x1 = 0 then (if x2 = 0 then (gd (gN (M a0 2)) (gd (gA S 0 ((M a0 2).toNatClampNeg) x4) (gd (gN (M a0 3)) (gd (gA S 0 ((M a0 3).toNatClampNeg) x4) (if (M ((M a0 2).toNatClampNeg) x4.toNatClampNeg) = (M ((M a0 3).toNatClampNeg) x4.toNatClampNeg) then (bm (x3 ||| ((1 : Int32) <<< (x4 &&& 31))) (fun y64 => lf_X1_compare_76 S M a0 x1 x2 n y64 (x4 + 1))) else (if x1 = 0 then (if x2 = 0 then (lf_X1_compare_76 S M a0 x1 x2 n x3 (x4 + 1)) else (if (M ((M a0 2).toNatClampNeg) x4.toNatClampNeg) ≤ (M ((M a0 3).toNatClampNeg) x4.toNatClampNeg) then (lf_X1_compare_76 S M a0 x1 x2 n x3 (x4 + 1)) else (bm (x3 ||| ((1 : Int32) <<< (x4 &&& 31))) (fun y58 => lf_X1_compare_76 S M a0 x1 x2 n y58 (x4 + 1))))) else (if (M ((M a0 2).toNatClampNeg) x4.toNatClampNeg) < (M ((M a0 3).toNatClampNeg) x4.toNatClampNeg) then (bm (x3 ||| ((1 : Int32) <<< (x4 &&& 31))) (fun y60 => lf_X1_compare_76 S M a0 x1 x2 n y60 (x4 + 1))) else (if x2 = 0 then (lf_X1_compare_76 S M a0 x1 x2 n x3 (x4 + 1)) else (if (M ((M a0 2).toNatClampNeg) x4.toNatClampNeg) ≤ (M ((M a0 3).toNatClampNeg) x4.toNatClampNeg) then (lf_X1_compare_76 S M a0 x1 x2 n x3 (x4 + 1)) else (bm (x3 ||| ((1 : Int32) <<< (x4 &&& 31))) (fun y63 => lf_X1_compare_76 S M a0 x1 x2 n y63 (x4 + 1)))))))))))) else (if x1 = 0 then (if x2 = 0 then (lf_X1_compare_76 S M a0 x1 x2 n x3 (x4 + 1)) else (gd (gN (M a0 2)) (gd (gA S 0 ((M a0 2).toNatClampNeg) x4) (gd (gN (M a0 3)) (gd (gA S 0 ((M a0 3).toNatClampNeg) x4) (if (M ((M a0 2).toNatClampNeg) x4.toNatClampNeg) ≤ (M ((M a0 3).toNatClampNeg) x4.toNatClampNeg) then (lf_X1_compare_76 S M a0 x1 x2 n x3 (x4 + 1)) else (bm (x3 ||| ((1 : Int32) <<< (x4 &&& 31))) (fun y40 => lf_X1_compare_76 S M a0 x1 x2 n y40 (x4 + 1))))))))) else (gd (gN (M a0 2)) (gd (gA S 0 ((M a0 2).toNatClampNeg) x4) (gd (gN (M a0 3)) (gd (gA S 0 ((M a0 3).toNatClampNeg) x4) (if (M ((M a0 2).toNatClampNeg) x4.toNatClampNeg) < (M ((M a0 3).toNatClampNeg) x4.toNatClampNeg) then (bm (x3 ||| ((1 : Int32) <<< (x4 &&& 31))) (fun y46 => lf_X1_compare_76 S M a0 x1 x2 n y46 (x4 + 1))) else (if x2 = 0 then (lf_X1_compare_76 S M a0 x1 x2 n x3 (x4 + 1)) else (if (M ((M a0 2).toNatClampNeg) x4.toNatClampNeg) ≤ (M ((M a0 3).toNatClampNeg) x4.toNatClampNeg) then (lf_X1_compare_76 S M a0 x1 x2 n x3 (x4 + 1)) else (bm (x3 ||| ((1 : Int32) <<< (x4 &&& 31))) (fun y49 => lf_X1_compare_76 S M a0 x1 x2 n y49 (x4 + 1)))))))))))) else (if x1 = 0 then (if x2 = 0 then (lf_X1_compare_76 S M a0 x1 x2 n x3 (x4 + 1)) else (gd (gN (M a0 2)) (gd (gA S 0 ((M a0 2).toNatClampNeg) x4) (gd (gN (M a0 3)) (gd (gA S 0 ((M a0 3).toNatClampNeg) x4) (if (M ((M a0 2).toNatClampNeg) x4.toNatClampNeg) ≤ (M ((M a0 3).toNatClampNeg) x4.toNatClampNeg) then (lf_X1_compare_76 S M a0 x1 x2 n x3 (x4 + 1)) else (bm (x3 ||| ((1 : Int32) <<< (x4 &&& 31))) (fun y22 => lf_X1_compare_76 S M a0 x1 x2 n y22 (x4 + 1))))))))) else (gd (gN (M a0 2)) (gd (gA S 0 ((M a0 2).toNatClampNeg) x4) (gd (gN (M a0 3)) (gd (gA S 0 ((M a0 3).toNatClampNeg) x4) (if (M ((M a0 2).toNatClampNeg) x4.toNatClampNeg) < (M ((M a0 3).toNatClampNeg) x4.toNatClampNeg) then (bm (x3 ||| ((1 : Int32) <<< (x4 &&& 31))) (fun y28 => lf_X1_compare_76 S M a0 x1 x2 n y28 (x4 + 1))) else (if x2 = 0 then (lf_X1_compare_76 S M a0 x1 x2 n x3 (x4 + 1)) else (if (M ((M a0 2).toNatClampNeg) x4.toNatClampNeg) ≤ (M ((M a0 3).toNatClampNeg) x4.toNatClampNeg) then (lf_X1_compare_76 S M a0 x1 x2 n x3 (x4 + 1)) else (bm (x3 ||| ((1 : Int32) <<< (x4 &&& 31))) (fun y31 => lf_X1_compare_76 S M a0 x1 x2 n y31 (x4 + 1)))))))))))))
set_option maxHeartbeats 4000000 in
set_option maxRecDepth 100000 in
theorem lc_X1_compare_76 {G : fw_G} {p : Program} {l : Launch} {e : Env} {s : State} {m : MethodId} {args : Array Value} {below : List Frame} {meth : Method} {c : Code} {S : List fw_Sh} {o : fw_O} {M : fw_Mem} {a0 : Nat} {x1 : Int32} {x2 : Int32} (C : fw_C G RX1 cX1_compare 6 p s m args c) (hr : meth.sig.returnType = (some .int)) (hlk : meth.locks = false) (hl : l.stackTraces = false) (ht : ∀ x ∈ c.exceptionTable.toList, False) :
    ∀ {n : Nat} {x3 : Int32} {x4 : Int32} {r : (Int32)} (h : lf_X1_compare_76 S M a0 x1 x2 n x3 x4 = some r) (kx : fw_W G p l e (fw_rm 10 (fw_mcO o) (fw_msO o)) s m args below meth c 6 (fw_Z G below args s (fw_mcO o) (fw_msO o) o) 0 0 177 [(3, .int r)] [] S M), fw_W G p l e (fw_rm 10 (fw_mcO o) (fw_msO o)) s m args below meth c 6 (fw_Z G below args s (fw_mcO o) (fw_msO o) o) 0 0 76 [(0, .ref a0), (1, .int x1), (2, .int x2), (3, .int x3), (4, .int x4)] [] S M := by
  intro n
  induction n with
  | zero =>
    intro x3 x4 r h
    exact nomatch (show (none : Option (Int32)) = some r from h)
  | succ n ih =>
    intro x3 x4 r h kx
    rw [lf_X1_compare_76.eq_2] at h
    refine fw_iload C 4 dX1_compare_76 rfl ?_
    refine fw_aload_n C 0 dX1_compare_78 rfl rfl ?_
    obtain ⟨g12, h⟩ := gd_some h
    refine fw_getI C 1 4 (Nat.le_of_ble_eq_true rfl) (Nat.le_of_ble_eq_true rfl) wf_X1_31 rfl (gO_of g12) dX1_compare_79 ?_
    refine fw_icmp_ge C 177 dX1_compare_82 (by decide) (fun c13 => ?_) (fun c13 => ?_)
    · replace h := (if_pos c13).symm.trans h
      obtain rfl := Option.some.inj h
      refine fw_sub [3] rfl ?_
      exact kx
    · replace h := (if_neg c13).symm.trans h
      refine fw_iload_n C 1 dX1_compare_85 rfl rfl ?_
      refine fw_if_ne C 114 dX1_compare_86 (by decide) (fun c14 => ?_) (fun c14 => ?_)
      · replace h := (if_neg c14).symm.trans h
        refine fw_iconst C 0 dX1_compare_114 rfl ?_
        refine fw_istore C [(5, _), (0, _), (1, _), (2, _), (3, _), (4, _)] dX1_compare_115 (Nat.le_of_ble_eq_true rfl) rfl ?_
        refine fw_iload C 0 dX1_compare_117 rfl ?_
        refine fw_if_ne C 164 dX1_compare_119 (by decide) (fun q => absurd q (by decide)) (fun _ => ?_)
        refine fw_iload_n C 2 dX1_compare_122 rfl rfl ?_
        refine fw_if_eq C 143 dX1_compare_123 (by decide) (fun c15 => ?_) (fun c15 => ?_)
        · replace h := (if_pos c15).symm.trans h
          refine fw_iload_n C 3 dX1_compare_143 rfl rfl ?_
          refine fw_if_eq C 171 dX1_compare_144 (by decide) (fun c16 => ?_) (fun c16 => ?_)
          · replace h := (if_pos c16).symm.trans h
            refine fw_iinc C _ 5 [(4, _), (5, _), (0, _), (1, _), (2, _), (3, _)] dX1_compare_171 rfl rfl (Nat.le_of_ble_eq_true rfl) rfl ?_
            refine fw_goto C 76 dX1_compare_174 (by decide) ?_
            refine fw_sub [2, 3, 4, 5, 0] rfl ?_
            exact ih h kx
          · replace h := (if_neg c16).symm.trans h
            refine fw_aload_n C 1 dX1_compare_147 rfl rfl ?_
            obtain ⟨g17, h⟩ := gd_some h
            refine fw_getR C 1 2 (Nat.le_of_ble_eq_true rfl) (Nat.le_of_ble_eq_true rfl) wf_X1_15 rfl (gO_of g12) (gN_of g17) dX1_compare_148 ?_
            refine fw_iload C 5 dX1_compare_151 rfl ?_
            obtain ⟨g18, h⟩ := gd_some h
            refine fw_iald C (gA_of g18) dX1_compare_153 ?_
            refine fw_aload_n C 1 dX1_compare_154 rfl rfl ?_
            obtain ⟨g19, h⟩ := gd_some h
            refine fw_getR C 1 3 (Nat.le_of_ble_eq_true rfl) (Nat.le_of_ble_eq_true rfl) wf_X1_18 rfl (gO_of g12) (gN_of g19) dX1_compare_155 ?_
            refine fw_iload C 5 dX1_compare_158 rfl ?_
            obtain ⟨g20, h⟩ := gd_some h
            refine fw_iald C (gA_of g20) dX1_compare_160 ?_
            refine fw_icmp_le C 171 dX1_compare_161 (by decide) (fun c21 => ?_) (fun c21 => ?_)
            · replace h := (if_pos c21).symm.trans h
              refine fw_iinc C _ 5 [(4, _), (5, _), (0, _), (1, _), (2, _), (3, _)] dX1_compare_171 rfl rfl (Nat.le_of_ble_eq_true rfl) rfl ?_
              refine fw_goto C 76 dX1_compare_174 (by decide) ?_
              refine fw_sub [2, 3, 4, 5, 0] rfl ?_
              exact ih h kx
            · replace h := (if_neg c21).symm.trans h
              refine fw_iload_n C 4 dX1_compare_164 rfl rfl ?_
              refine fw_iconst C 1 dX1_compare_165 rfl ?_
              refine fw_iload C 5 dX1_compare_166 rfl ?_
              refine fw_ishl C dX1_compare_168 ?_
              refine fw_ior C dX1_compare_169 ?_
              refine fw_bi h (fun y22 h => ?_)
              refine fw_istore_n C [(3, _), (5, _), (0, _), (1, _), (2, _), (4, _)] dX1_compare_170 rfl (Nat.le_of_ble_eq_true rfl) rfl ?_
              refine fw_iinc C _ 5 [(4, _), (3, _), (5, _), (0, _), (1, _), (2, _)] dX1_compare_171 rfl rfl (Nat.le_of_ble_eq_true rfl) rfl ?_
              refine fw_goto C 76 dX1_compare_174 (by decide) ?_
              refine fw_sub [3, 4, 5, 1, 0] rfl ?_
              exact ih h kx
        · replace h := (if_neg c15).symm.trans h
          refine fw_aload_n C 1 dX1_compare_126 rfl rfl ?_
          obtain ⟨g23, h⟩ := gd_some h
          refine fw_getR C 1 2 (Nat.le_of_ble_eq_true rfl) (Nat.le_of_ble_eq_true rfl) wf_X1_15 rfl (gO_of g12) (gN_of g23) dX1_compare_127 ?_
          refine fw_iload C 5 dX1_compare_130 rfl ?_
          obtain ⟨g24, h⟩ := gd_some h
          refine fw_iald C (gA_of g24) dX1_compare_132 ?_
          refine fw_aload_n C 1 dX1_compare_133 rfl rfl ?_
          obtain ⟨g25, h⟩ := gd_some h
          refine fw_getR C 1 3 (Nat.le_of_ble_eq_true rfl) (Nat.le_of_ble_eq_true rfl) wf_X1_18 rfl (gO_of g12) (gN_of g25) dX1_compare_134 ?_
          refine fw_iload C 5 dX1_compare_137 rfl ?_
          obtain ⟨g26, h⟩ := gd_some h
          refine fw_iald C (gA_of g26) dX1_compare_139 ?_
          refine fw_icmp_lt C 164 dX1_compare_140 (by decide) (fun c27 => ?_) (fun c27 => ?_)
          · replace h := (if_pos c27).symm.trans h
            refine fw_iload_n C 4 dX1_compare_164 rfl rfl ?_
            refine fw_iconst C 1 dX1_compare_165 rfl ?_
            refine fw_iload C 5 dX1_compare_166 rfl ?_
            refine fw_ishl C dX1_compare_168 ?_
            refine fw_ior C dX1_compare_169 ?_
            refine fw_bi h (fun y28 h => ?_)
            refine fw_istore_n C [(3, _), (5, _), (0, _), (1, _), (2, _), (4, _)] dX1_compare_170 rfl (Nat.le_of_ble_eq_true rfl) rfl ?_
            refine fw_iinc C _ 5 [(4, _), (3, _), (5, _), (0, _), (1, _), (2, _)] dX1_compare_171 rfl rfl (Nat.le_of_ble_eq_true rfl) rfl ?_
            refine fw_goto C 76 dX1_compare_174 (by decide) ?_
            refine fw_sub [3, 4, 5, 1, 0] rfl ?_
            exact ih h kx
          · replace h := (if_neg c27).symm.trans h
            refine fw_iload_n C 3 dX1_compare_143 rfl rfl ?_
            refine fw_if_eq C 171 dX1_compare_144 (by decide) (fun c29 => ?_) (fun c29 => ?_)
            · replace h := (if_pos c29).symm.trans h
              refine fw_iinc C _ 5 [(4, _), (5, _), (0, _), (1, _), (2, _), (3, _)] dX1_compare_171 rfl rfl (Nat.le_of_ble_eq_true rfl) rfl ?_
              refine fw_goto C 76 dX1_compare_174 (by decide) ?_
              refine fw_sub [2, 3, 4, 5, 0] rfl ?_
              exact ih h kx
            · replace h := (if_neg c29).symm.trans h
              refine fw_aload_n C 1 dX1_compare_147 rfl rfl ?_
              refine fw_getR C 1 2 (Nat.le_of_ble_eq_true rfl) (Nat.le_of_ble_eq_true rfl) wf_X1_15 rfl (gO_of g12) (gN_of g23) dX1_compare_148 ?_
              refine fw_iload C 5 dX1_compare_151 rfl ?_
              refine fw_iald C (gA_of g24) dX1_compare_153 ?_
              refine fw_aload_n C 1 dX1_compare_154 rfl rfl ?_
              refine fw_getR C 1 3 (Nat.le_of_ble_eq_true rfl) (Nat.le_of_ble_eq_true rfl) wf_X1_18 rfl (gO_of g12) (gN_of g25) dX1_compare_155 ?_
              refine fw_iload C 5 dX1_compare_158 rfl ?_
              refine fw_iald C (gA_of g26) dX1_compare_160 ?_
              refine fw_icmp_le C 171 dX1_compare_161 (by decide) (fun c30 => ?_) (fun c30 => ?_)
              · replace h := (if_pos c30).symm.trans h
                refine fw_iinc C _ 5 [(4, _), (5, _), (0, _), (1, _), (2, _), (3, _)] dX1_compare_171 rfl rfl (Nat.le_of_ble_eq_true rfl) rfl ?_
                refine fw_goto C 76 dX1_compare_174 (by decide) ?_
                refine fw_sub [2, 3, 4, 5, 0] rfl ?_
                exact ih h kx
              · replace h := (if_neg c30).symm.trans h
                refine fw_iload_n C 4 dX1_compare_164 rfl rfl ?_
                refine fw_iconst C 1 dX1_compare_165 rfl ?_
                refine fw_iload C 5 dX1_compare_166 rfl ?_
                refine fw_ishl C dX1_compare_168 ?_
                refine fw_ior C dX1_compare_169 ?_
                refine fw_bi h (fun y31 h => ?_)
                refine fw_istore_n C [(3, _), (5, _), (0, _), (1, _), (2, _), (4, _)] dX1_compare_170 rfl (Nat.le_of_ble_eq_true rfl) rfl ?_
                refine fw_iinc C _ 5 [(4, _), (3, _), (5, _), (0, _), (1, _), (2, _)] dX1_compare_171 rfl rfl (Nat.le_of_ble_eq_true rfl) rfl ?_
                refine fw_goto C 76 dX1_compare_174 (by decide) ?_
                refine fw_sub [3, 4, 5, 1, 0] rfl ?_
                exact ih h kx
      · replace h := (if_pos c14).symm.trans h
        refine fw_iload_n C 2 dX1_compare_89 rfl rfl ?_
        refine fw_if_ne C 114 dX1_compare_90 (by decide) (fun c32 => ?_) (fun c32 => ?_)
        · replace h := (if_neg c32).symm.trans h
          refine fw_iconst C 0 dX1_compare_114 rfl ?_
          refine fw_istore C [(5, _), (0, _), (1, _), (2, _), (3, _), (4, _)] dX1_compare_115 (Nat.le_of_ble_eq_true rfl) rfl ?_
          refine fw_iload C 0 dX1_compare_117 rfl ?_
          refine fw_if_ne C 164 dX1_compare_119 (by decide) (fun q => absurd q (by decide)) (fun _ => ?_)
          refine fw_iload_n C 2 dX1_compare_122 rfl rfl ?_
          refine fw_if_eq C 143 dX1_compare_123 (by decide) (fun c33 => ?_) (fun c33 => ?_)
          · replace h := (if_pos c33).symm.trans h
            refine fw_iload_n C 3 dX1_compare_143 rfl rfl ?_
            refine fw_if_eq C 171 dX1_compare_144 (by decide) (fun c34 => ?_) (fun c34 => ?_)
            · replace h := (if_pos c34).symm.trans h
              refine fw_iinc C _ 5 [(4, _), (5, _), (0, _), (1, _), (2, _), (3, _)] dX1_compare_171 rfl rfl (Nat.le_of_ble_eq_true rfl) rfl ?_
              refine fw_goto C 76 dX1_compare_174 (by decide) ?_
              refine fw_sub [2, 3, 4, 5, 0] rfl ?_
              exact ih h kx
            · replace h := (if_neg c34).symm.trans h
              refine fw_aload_n C 1 dX1_compare_147 rfl rfl ?_
              obtain ⟨g35, h⟩ := gd_some h
              refine fw_getR C 1 2 (Nat.le_of_ble_eq_true rfl) (Nat.le_of_ble_eq_true rfl) wf_X1_15 rfl (gO_of g12) (gN_of g35) dX1_compare_148 ?_
              refine fw_iload C 5 dX1_compare_151 rfl ?_
              obtain ⟨g36, h⟩ := gd_some h
              refine fw_iald C (gA_of g36) dX1_compare_153 ?_
              refine fw_aload_n C 1 dX1_compare_154 rfl rfl ?_
              obtain ⟨g37, h⟩ := gd_some h
              refine fw_getR C 1 3 (Nat.le_of_ble_eq_true rfl) (Nat.le_of_ble_eq_true rfl) wf_X1_18 rfl (gO_of g12) (gN_of g37) dX1_compare_155 ?_
              refine fw_iload C 5 dX1_compare_158 rfl ?_
              obtain ⟨g38, h⟩ := gd_some h
              refine fw_iald C (gA_of g38) dX1_compare_160 ?_
              refine fw_icmp_le C 171 dX1_compare_161 (by decide) (fun c39 => ?_) (fun c39 => ?_)
              · replace h := (if_pos c39).symm.trans h
                refine fw_iinc C _ 5 [(4, _), (5, _), (0, _), (1, _), (2, _), (3, _)] dX1_compare_171 rfl rfl (Nat.le_of_ble_eq_true rfl) rfl ?_
                refine fw_goto C 76 dX1_compare_174 (by decide) ?_
                refine fw_sub [2, 3, 4, 5, 0] rfl ?_
                exact ih h kx
              · replace h := (if_neg c39).symm.trans h
                refine fw_iload_n C 4 dX1_compare_164 rfl rfl ?_
                refine fw_iconst C 1 dX1_compare_165 rfl ?_
                refine fw_iload C 5 dX1_compare_166 rfl ?_
                refine fw_ishl C dX1_compare_168 ?_
                refine fw_ior C dX1_compare_169 ?_
                refine fw_bi h (fun y40 h => ?_)
                refine fw_istore_n C [(3, _), (5, _), (0, _), (1, _), (2, _), (4, _)] dX1_compare_170 rfl (Nat.le_of_ble_eq_true rfl) rfl ?_
                refine fw_iinc C _ 5 [(4, _), (3, _), (5, _), (0, _), (1, _), (2, _)] dX1_compare_171 rfl rfl (Nat.le_of_ble_eq_true rfl) rfl ?_
                refine fw_goto C 76 dX1_compare_174 (by decide) ?_
                refine fw_sub [3, 4, 5, 1, 0] rfl ?_
                exact ih h kx
          · replace h := (if_neg c33).symm.trans h
            refine fw_aload_n C 1 dX1_compare_126 rfl rfl ?_
            obtain ⟨g41, h⟩ := gd_some h
            refine fw_getR C 1 2 (Nat.le_of_ble_eq_true rfl) (Nat.le_of_ble_eq_true rfl) wf_X1_15 rfl (gO_of g12) (gN_of g41) dX1_compare_127 ?_
            refine fw_iload C 5 dX1_compare_130 rfl ?_
            obtain ⟨g42, h⟩ := gd_some h
            refine fw_iald C (gA_of g42) dX1_compare_132 ?_
            refine fw_aload_n C 1 dX1_compare_133 rfl rfl ?_
            obtain ⟨g43, h⟩ := gd_some h
            refine fw_getR C 1 3 (Nat.le_of_ble_eq_true rfl) (Nat.le_of_ble_eq_true rfl) wf_X1_18 rfl (gO_of g12) (gN_of g43) dX1_compare_134 ?_
            refine fw_iload C 5 dX1_compare_137 rfl ?_
            obtain ⟨g44, h⟩ := gd_some h
            refine fw_iald C (gA_of g44) dX1_compare_139 ?_
            refine fw_icmp_lt C 164 dX1_compare_140 (by decide) (fun c45 => ?_) (fun c45 => ?_)
            · replace h := (if_pos c45).symm.trans h
              refine fw_iload_n C 4 dX1_compare_164 rfl rfl ?_
              refine fw_iconst C 1 dX1_compare_165 rfl ?_
              refine fw_iload C 5 dX1_compare_166 rfl ?_
              refine fw_ishl C dX1_compare_168 ?_
              refine fw_ior C dX1_compare_169 ?_
              refine fw_bi h (fun y46 h => ?_)
              refine fw_istore_n C [(3, _), (5, _), (0, _), (1, _), (2, _), (4, _)] dX1_compare_170 rfl (Nat.le_of_ble_eq_true rfl) rfl ?_
              refine fw_iinc C _ 5 [(4, _), (3, _), (5, _), (0, _), (1, _), (2, _)] dX1_compare_171 rfl rfl (Nat.le_of_ble_eq_true rfl) rfl ?_
              refine fw_goto C 76 dX1_compare_174 (by decide) ?_
              refine fw_sub [3, 4, 5, 1, 0] rfl ?_
              exact ih h kx
            · replace h := (if_neg c45).symm.trans h
              refine fw_iload_n C 3 dX1_compare_143 rfl rfl ?_
              refine fw_if_eq C 171 dX1_compare_144 (by decide) (fun c47 => ?_) (fun c47 => ?_)
              · replace h := (if_pos c47).symm.trans h
                refine fw_iinc C _ 5 [(4, _), (5, _), (0, _), (1, _), (2, _), (3, _)] dX1_compare_171 rfl rfl (Nat.le_of_ble_eq_true rfl) rfl ?_
                refine fw_goto C 76 dX1_compare_174 (by decide) ?_
                refine fw_sub [2, 3, 4, 5, 0] rfl ?_
                exact ih h kx
              · replace h := (if_neg c47).symm.trans h
                refine fw_aload_n C 1 dX1_compare_147 rfl rfl ?_
                refine fw_getR C 1 2 (Nat.le_of_ble_eq_true rfl) (Nat.le_of_ble_eq_true rfl) wf_X1_15 rfl (gO_of g12) (gN_of g41) dX1_compare_148 ?_
                refine fw_iload C 5 dX1_compare_151 rfl ?_
                refine fw_iald C (gA_of g42) dX1_compare_153 ?_
                refine fw_aload_n C 1 dX1_compare_154 rfl rfl ?_
                refine fw_getR C 1 3 (Nat.le_of_ble_eq_true rfl) (Nat.le_of_ble_eq_true rfl) wf_X1_18 rfl (gO_of g12) (gN_of g43) dX1_compare_155 ?_
                refine fw_iload C 5 dX1_compare_158 rfl ?_
                refine fw_iald C (gA_of g44) dX1_compare_160 ?_
                refine fw_icmp_le C 171 dX1_compare_161 (by decide) (fun c48 => ?_) (fun c48 => ?_)
                · replace h := (if_pos c48).symm.trans h
                  refine fw_iinc C _ 5 [(4, _), (5, _), (0, _), (1, _), (2, _), (3, _)] dX1_compare_171 rfl rfl (Nat.le_of_ble_eq_true rfl) rfl ?_
                  refine fw_goto C 76 dX1_compare_174 (by decide) ?_
                  refine fw_sub [2, 3, 4, 5, 0] rfl ?_
                  exact ih h kx
                · replace h := (if_neg c48).symm.trans h
                  refine fw_iload_n C 4 dX1_compare_164 rfl rfl ?_
                  refine fw_iconst C 1 dX1_compare_165 rfl ?_
                  refine fw_iload C 5 dX1_compare_166 rfl ?_
                  refine fw_ishl C dX1_compare_168 ?_
                  refine fw_ior C dX1_compare_169 ?_
                  refine fw_bi h (fun y49 h => ?_)
                  refine fw_istore_n C [(3, _), (5, _), (0, _), (1, _), (2, _), (4, _)] dX1_compare_170 rfl (Nat.le_of_ble_eq_true rfl) rfl ?_
                  refine fw_iinc C _ 5 [(4, _), (3, _), (5, _), (0, _), (1, _), (2, _)] dX1_compare_171 rfl rfl (Nat.le_of_ble_eq_true rfl) rfl ?_
                  refine fw_goto C 76 dX1_compare_174 (by decide) ?_
                  refine fw_sub [3, 4, 5, 1, 0] rfl ?_
                  exact ih h kx
        · replace h := (if_pos c32).symm.trans h
          refine fw_aload_n C 0 dX1_compare_93 rfl rfl ?_
          obtain ⟨g50, h⟩ := gd_some h
          refine fw_getR C 1 2 (Nat.le_of_ble_eq_true rfl) (Nat.le_of_ble_eq_true rfl) wf_X1_15 rfl (gO_of g12) (gN_of g50) dX1_compare_94 ?_
          refine fw_iload C 4 dX1_compare_97 rfl ?_
          obtain ⟨g51, h⟩ := gd_some h
          refine fw_iald C (gA_of g51) dX1_compare_99 ?_
          refine fw_aload_n C 0 dX1_compare_100 rfl rfl ?_
          obtain ⟨g52, h⟩ := gd_some h
          refine fw_getR C 1 3 (Nat.le_of_ble_eq_true rfl) (Nat.le_of_ble_eq_true rfl) wf_X1_18 rfl (gO_of g12) (gN_of g52) dX1_compare_101 ?_
          refine fw_iload C 4 dX1_compare_104 rfl ?_
          obtain ⟨g53, h⟩ := gd_some h
          refine fw_iald C (gA_of g53) dX1_compare_106 ?_
          refine fw_icmp_ne C 114 dX1_compare_107 (by decide) (fun c54 => ?_) (fun c54 => ?_)
          · replace h := (if_neg c54).symm.trans h
            refine fw_iconst C 0 dX1_compare_114 rfl ?_
            refine fw_istore C [(5, _), (0, _), (1, _), (2, _), (3, _), (4, _)] dX1_compare_115 (Nat.le_of_ble_eq_true rfl) rfl ?_
            refine fw_iload C 0 dX1_compare_117 rfl ?_
            refine fw_if_ne C 164 dX1_compare_119 (by decide) (fun q => absurd q (by decide)) (fun _ => ?_)
            refine fw_iload_n C 2 dX1_compare_122 rfl rfl ?_
            refine fw_if_eq C 143 dX1_compare_123 (by decide) (fun c55 => ?_) (fun c55 => ?_)
            · replace h := (if_pos c55).symm.trans h
              refine fw_iload_n C 3 dX1_compare_143 rfl rfl ?_
              refine fw_if_eq C 171 dX1_compare_144 (by decide) (fun c56 => ?_) (fun c56 => ?_)
              · replace h := (if_pos c56).symm.trans h
                refine fw_iinc C _ 5 [(4, _), (5, _), (0, _), (1, _), (2, _), (3, _)] dX1_compare_171 rfl rfl (Nat.le_of_ble_eq_true rfl) rfl ?_
                refine fw_goto C 76 dX1_compare_174 (by decide) ?_
                refine fw_sub [2, 3, 4, 5, 0] rfl ?_
                exact ih h kx
              · replace h := (if_neg c56).symm.trans h
                refine fw_aload_n C 1 dX1_compare_147 rfl rfl ?_
                refine fw_getR C 1 2 (Nat.le_of_ble_eq_true rfl) (Nat.le_of_ble_eq_true rfl) wf_X1_15 rfl (gO_of g12) (gN_of g50) dX1_compare_148 ?_
                refine fw_iload C 5 dX1_compare_151 rfl ?_
                refine fw_iald C (gA_of g51) dX1_compare_153 ?_
                refine fw_aload_n C 1 dX1_compare_154 rfl rfl ?_
                refine fw_getR C 1 3 (Nat.le_of_ble_eq_true rfl) (Nat.le_of_ble_eq_true rfl) wf_X1_18 rfl (gO_of g12) (gN_of g52) dX1_compare_155 ?_
                refine fw_iload C 5 dX1_compare_158 rfl ?_
                refine fw_iald C (gA_of g53) dX1_compare_160 ?_
                refine fw_icmp_le C 171 dX1_compare_161 (by decide) (fun c57 => ?_) (fun c57 => ?_)
                · replace h := (if_pos c57).symm.trans h
                  refine fw_iinc C _ 5 [(4, _), (5, _), (0, _), (1, _), (2, _), (3, _)] dX1_compare_171 rfl rfl (Nat.le_of_ble_eq_true rfl) rfl ?_
                  refine fw_goto C 76 dX1_compare_174 (by decide) ?_
                  refine fw_sub [2, 3, 4, 5, 0] rfl ?_
                  exact ih h kx
                · replace h := (if_neg c57).symm.trans h
                  refine fw_iload_n C 4 dX1_compare_164 rfl rfl ?_
                  refine fw_iconst C 1 dX1_compare_165 rfl ?_
                  refine fw_iload C 5 dX1_compare_166 rfl ?_
                  refine fw_ishl C dX1_compare_168 ?_
                  refine fw_ior C dX1_compare_169 ?_
                  refine fw_bi h (fun y58 h => ?_)
                  refine fw_istore_n C [(3, _), (5, _), (0, _), (1, _), (2, _), (4, _)] dX1_compare_170 rfl (Nat.le_of_ble_eq_true rfl) rfl ?_
                  refine fw_iinc C _ 5 [(4, _), (3, _), (5, _), (0, _), (1, _), (2, _)] dX1_compare_171 rfl rfl (Nat.le_of_ble_eq_true rfl) rfl ?_
                  refine fw_goto C 76 dX1_compare_174 (by decide) ?_
                  refine fw_sub [3, 4, 5, 1, 0] rfl ?_
                  exact ih h kx
            · replace h := (if_neg c55).symm.trans h
              refine fw_aload_n C 1 dX1_compare_126 rfl rfl ?_
              refine fw_getR C 1 2 (Nat.le_of_ble_eq_true rfl) (Nat.le_of_ble_eq_true rfl) wf_X1_15 rfl (gO_of g12) (gN_of g50) dX1_compare_127 ?_
              refine fw_iload C 5 dX1_compare_130 rfl ?_
              refine fw_iald C (gA_of g51) dX1_compare_132 ?_
              refine fw_aload_n C 1 dX1_compare_133 rfl rfl ?_
              refine fw_getR C 1 3 (Nat.le_of_ble_eq_true rfl) (Nat.le_of_ble_eq_true rfl) wf_X1_18 rfl (gO_of g12) (gN_of g52) dX1_compare_134 ?_
              refine fw_iload C 5 dX1_compare_137 rfl ?_
              refine fw_iald C (gA_of g53) dX1_compare_139 ?_
              refine fw_icmp_lt C 164 dX1_compare_140 (by decide) (fun c59 => ?_) (fun c59 => ?_)
              · replace h := (if_pos c59).symm.trans h
                refine fw_iload_n C 4 dX1_compare_164 rfl rfl ?_
                refine fw_iconst C 1 dX1_compare_165 rfl ?_
                refine fw_iload C 5 dX1_compare_166 rfl ?_
                refine fw_ishl C dX1_compare_168 ?_
                refine fw_ior C dX1_compare_169 ?_
                refine fw_bi h (fun y60 h => ?_)
                refine fw_istore_n C [(3, _), (5, _), (0, _), (1, _), (2, _), (4, _)] dX1_compare_170 rfl (Nat.le_of_ble_eq_true rfl) rfl ?_
                refine fw_iinc C _ 5 [(4, _), (3, _), (5, _), (0, _), (1, _), (2, _)] dX1_compare_171 rfl rfl (Nat.le_of_ble_eq_true rfl) rfl ?_
                refine fw_goto C 76 dX1_compare_174 (by decide) ?_
                refine fw_sub [3, 4, 5, 1, 0] rfl ?_
                exact ih h kx
              · replace h := (if_neg c59).symm.trans h
                refine fw_iload_n C 3 dX1_compare_143 rfl rfl ?_
                refine fw_if_eq C 171 dX1_compare_144 (by decide) (fun c61 => ?_) (fun c61 => ?_)
                · replace h := (if_pos c61).symm.trans h
                  refine fw_iinc C _ 5 [(4, _), (5, _), (0, _), (1, _), (2, _), (3, _)] dX1_compare_171 rfl rfl (Nat.le_of_ble_eq_true rfl) rfl ?_
                  refine fw_goto C 76 dX1_compare_174 (by decide) ?_
                  refine fw_sub [2, 3, 4, 5, 0] rfl ?_
                  exact ih h kx
                · replace h := (if_neg c61).symm.trans h
                  refine fw_aload_n C 1 dX1_compare_147 rfl rfl ?_
                  refine fw_getR C 1 2 (Nat.le_of_ble_eq_true rfl) (Nat.le_of_ble_eq_true rfl) wf_X1_15 rfl (gO_of g12) (gN_of g50) dX1_compare_148 ?_
                  refine fw_iload C 5 dX1_compare_151 rfl ?_
                  refine fw_iald C (gA_of g51) dX1_compare_153 ?_
                  refine fw_aload_n C 1 dX1_compare_154 rfl rfl ?_
                  refine fw_getR C 1 3 (Nat.le_of_ble_eq_true rfl) (Nat.le_of_ble_eq_true rfl) wf_X1_18 rfl (gO_of g12) (gN_of g52) dX1_compare_155 ?_
                  refine fw_iload C 5 dX1_compare_158 rfl ?_
                  refine fw_iald C (gA_of g53) dX1_compare_160 ?_
                  refine fw_icmp_le C 171 dX1_compare_161 (by decide) (fun c62 => ?_) (fun c62 => ?_)
                  · replace h := (if_pos c62).symm.trans h
                    refine fw_iinc C _ 5 [(4, _), (5, _), (0, _), (1, _), (2, _), (3, _)] dX1_compare_171 rfl rfl (Nat.le_of_ble_eq_true rfl) rfl ?_
                    refine fw_goto C 76 dX1_compare_174 (by decide) ?_
                    refine fw_sub [2, 3, 4, 5, 0] rfl ?_
                    exact ih h kx
                  · replace h := (if_neg c62).symm.trans h
                    refine fw_iload_n C 4 dX1_compare_164 rfl rfl ?_
                    refine fw_iconst C 1 dX1_compare_165 rfl ?_
                    refine fw_iload C 5 dX1_compare_166 rfl ?_
                    refine fw_ishl C dX1_compare_168 ?_
                    refine fw_ior C dX1_compare_169 ?_
                    refine fw_bi h (fun y63 h => ?_)
                    refine fw_istore_n C [(3, _), (5, _), (0, _), (1, _), (2, _), (4, _)] dX1_compare_170 rfl (Nat.le_of_ble_eq_true rfl) rfl ?_
                    refine fw_iinc C _ 5 [(4, _), (3, _), (5, _), (0, _), (1, _), (2, _)] dX1_compare_171 rfl rfl (Nat.le_of_ble_eq_true rfl) rfl ?_
                    refine fw_goto C 76 dX1_compare_174 (by decide) ?_
                    refine fw_sub [3, 4, 5, 1, 0] rfl ?_
                    exact ih h kx
          · replace h := (if_pos c54).symm.trans h
            refine fw_iconst C 1 dX1_compare_110 rfl ?_
            refine fw_goto C 115 dX1_compare_111 (by decide) ?_
            refine fw_istore C [(5, _), (0, _), (1, _), (2, _), (3, _), (4, _)] dX1_compare_115 (Nat.le_of_ble_eq_true rfl) rfl ?_
            refine fw_iload C 0 dX1_compare_117 rfl ?_
            refine fw_if_ne C 164 dX1_compare_119 (by decide) (fun _ => ?_) (fun q => absurd q (by decide))
            refine fw_iload_n C 4 dX1_compare_164 rfl rfl ?_
            refine fw_iconst C 1 dX1_compare_165 rfl ?_
            refine fw_iload C 5 dX1_compare_166 rfl ?_
            refine fw_ishl C dX1_compare_168 ?_
            refine fw_ior C dX1_compare_169 ?_
            refine fw_bi h (fun y64 h => ?_)
            refine fw_istore_n C [(3, _), (5, _), (0, _), (1, _), (2, _), (4, _)] dX1_compare_170 rfl (Nat.le_of_ble_eq_true rfl) rfl ?_
            refine fw_iinc C _ 5 [(4, _), (3, _), (5, _), (0, _), (1, _), (2, _)] dX1_compare_171 rfl rfl (Nat.le_of_ble_eq_true rfl) rfl ?_
            refine fw_goto C 76 dX1_compare_174 (by decide) ?_
            refine fw_sub [3, 4, 5, 1, 0] rfl ?_
            exact ih h kx
set_option maxRecDepth 100000 in
def fj_X1_compare_56 (S : List fw_Sh) (M : fw_Mem) (a0 : Nat) (x1 : Int32) (x2 : Int32) : Option (Int32 × fw_Mem) := gd (gO S 1 a0) (gd (gN (M a0 0)) (gd (gO S 7 ((M a0 0).toNatClampNeg)) (b1 (f_X7_advance S M ((M a0 0).toNatClampNeg)) (fun M80 => gd (gN (M80 a0 3)) (b1 (f_X1_readValue S M80 a0 ((M80 a0 3).toNatClampNeg)) (fun M83 => b1 (lf_X1_compare_76 S M83 a0 x1 x2 20000 0 0) (fun l84 => some (l84, M83))))))))
set_option maxHeartbeats 4000000 in
set_option maxRecDepth 100000 in
theorem jc_X1_compare_56 {G : fw_G} {p : Program} {l : Launch} {e : Env} {s : State} {m : MethodId} {args : Array Value} {below : List Frame} {meth : Method} {c : Code} {S : List fw_Sh} {M : fw_Mem} {a0 : Nat} {x1 : Int32} {x2 : Int32} {r : (Int32 × fw_Mem)} {o : fw_O} (C : fw_C G RX1 cX1_compare 6 p s m args c) (hr : meth.sig.returnType = (some .int)) (hlk : meth.locks = false) (hl : l.stackTraces = false) (ht : ∀ x ∈ c.exceptionTable.toList, False) (ho : o = (.inl (some (.int r.1)), S, r.2)) (h : fj_X1_compare_56 S M a0 x1 x2 = some r) :
    fw_W G p l e (fw_rm 10 (fw_mcO o) (fw_msO o)) s m args below meth c 6 (fw_Z G below args s (fw_mcO o) (fw_msO o) o) 0 0 56 [(0, .ref a0), (1, .int x1), (2, .int x2)] [] S M := by
  subst ho
  unfold fj_X1_compare_56 at h
  refine fw_aload_n C 0 dX1_compare_56 rfl rfl ?_
  obtain ⟨g78, h⟩ := gd_some h
  obtain ⟨g79, h⟩ := gd_some h
  refine fw_getR C 1 0 (Nat.le_of_ble_eq_true rfl) (Nat.le_of_ble_eq_true rfl) wf_X1_21 rfl (gO_of g78) (gN_of g79) dX1_compare_57 ?_
  obtain ⟨g81, h⟩ := gd_some h
  obtain ⟨M80, e80, h⟩ := b1_some h
  refine fw_callV (ci := 7) [] C (c_X7_advance hl e80) cal_X7_advance wm_X1_52 wi_yX7_advance wsl_yX7_advance (Nat.le_of_ble_eq_true rfl) rfl (gO_of g81) rfl (Nat.le_of_ble_eq_true rfl) ⟨Nat.le_of_ble_eq_true rfl, Nat.le_of_ble_eq_true rfl⟩ ⟨Nat.zero_le _, Nat.zero_le _⟩ dX1_compare_60 ?_
  refine fw_aload_n C 0 dX1_compare_63 rfl rfl ?_
  refine fw_aload_n C 0 dX1_compare_64 rfl rfl ?_
  obtain ⟨g82, h⟩ := gd_some h
  refine fw_getR C 1 3 (Nat.le_of_ble_eq_true rfl) (Nat.le_of_ble_eq_true rfl) wf_X1_18 rfl (gO_of g78) (gN_of g82) dX1_compare_65 ?_
  obtain ⟨M83, e83, h⟩ := b1_some h
  refine fw_callV (ci := 1) [_] C (c_X1_readValue hl e83) cal_X1_readValue wm_X1_98 wi_yX1_readValue wsl_yX1_readValue (Nat.le_of_ble_eq_true rfl) rfl (gO_of g78) rfl (Nat.le_of_ble_eq_true rfl) ⟨Nat.le_of_ble_eq_true rfl, Nat.le_of_ble_eq_true rfl⟩ ⟨Nat.zero_le _, Nat.zero_le _⟩ dX1_compare_68 ?_
  refine fw_iconst C 0 dX1_compare_71 rfl ?_
  refine fw_istore_n C [(3, _), (0, _), (1, _), (2, _)] dX1_compare_72 rfl (Nat.le_of_ble_eq_true rfl) rfl ?_
  refine fw_iconst C 0 dX1_compare_73 rfl ?_
  refine fw_istore C [(4, _), (3, _), (0, _), (1, _), (2, _)] dX1_compare_74 (Nat.le_of_ble_eq_true rfl) rfl ?_
  refine fw_sub [2, 3, 4, 1, 0] rfl ?_
  obtain ⟨l84, e84, h⟩ := b1_some h
  refine lc_X1_compare_76 C hr hlk hl ht e84 ?_
  refine fw_iload_n C 0 dX1_compare_177 rfl rfl ?_
  obtain rfl := Option.some.inj h
  exact fw_iret C hr hlk dX1_compare_178
set_option maxRecDepth 100000 in
def f_X1_compare (S : List fw_Sh) (M : fw_Mem) (a0 : Nat) : Option (Int32 × fw_Mem) := gd (gO S 1 a0) (gd (gN (M a0 2)) (b1 (f_X1_readValue S M a0 ((M a0 2).toNatClampNeg)) (fun M3 => gd (gN (M3 a0 0)) (gd (gO S 7 ((M3 a0 0).toNatClampNeg)) (b1 (f_X7_isSign S M3 ((M3 a0 0).toNatClampNeg) 60) (fun v5 => b1 (f_X7_isSign S M3 ((M3 a0 0).toNatClampNeg) 62) (fun v7 => if v5 = 0 then (if v7 = 0 then (b1 (f_X7_isSign S M3 ((M3 a0 0).toNatClampNeg) 61) (fun v71 => if v71 = 0 then (b1 (f_X7_fail S M3 ((M3 a0 0).toNatClampNeg) 1) (fun M77 => fj_X1_compare_56 S M77 a0 v5 v7)) else (b1 (f_X7_advance S M3 ((M3 a0 0).toNatClampNeg)) (fun M73 => gd (gN (M73 a0 3)) (b1 (f_X1_readValue S M73 a0 ((M73 a0 3).toNatClampNeg)) (fun M75 => b1 (lf_X1_compare_76 S M75 a0 v5 v7 20000 0 0) (fun l76 => some (l76, M75)))))))) else (b1 (f_X7_advance S M3 ((M3 a0 0).toNatClampNeg)) (fun M67 => gd (gN (M67 a0 3)) (b1 (f_X1_readValue S M67 a0 ((M67 a0 3).toNatClampNeg)) (fun M69 => b1 (lf_X1_compare_76 S M69 a0 v5 v7 20000 0 0) (fun l70 => some (l70, M69))))))) else (b1 (f_X7_advance S M3 ((M3 a0 0).toNatClampNeg)) (fun M9 => gd (gN (M9 a0 3)) (b1 (f_X1_readValue S M9 a0 ((M9 a0 3).toNatClampNeg)) (fun M11 => b1 (lf_X1_compare_76 S M11 a0 v5 v7 20000 0 0) (fun l65 => some (l65, M11)))))))))))))
set_option maxHeartbeats 4000000 in
set_option maxRecDepth 100000 in
theorem c_X1_compare {l : Launch} {G : fw_G} {S : List fw_Sh} {M : fw_Mem} {a0 : Nat} {r : (Int32 × fw_Mem)} (hl : l.stackTraces = false) (h : f_X1_compare S M a0 = some r) : fw_M l G yX1_compare (.code yX1_compare cX1_compare 6 (some .int)) 10 (fw_mcO (.inl (some (.int r.1)), S, r.2)) (fw_msO (.inl (some (.int r.1)), S, r.2)) S M [.ref a0] (.inl (some (.int r.1)), S, r.2) := by
  refine fw_of [(0, .ref a0)] (by decide) (Nat.le_of_ble_eq_true rfl) rfl ?_
  intro p e s m args below meth c C hr hlk hnm ht _
  unfold f_X1_compare at h
  refine fw_aload_n C 0 dX1_compare_0 rfl rfl ?_
  refine fw_aload_n C 0 dX1_compare_1 rfl rfl ?_
  obtain ⟨g1, h⟩ := gd_some h
  obtain ⟨g2, h⟩ := gd_some h
  refine fw_getR C 1 2 (Nat.le_of_ble_eq_true rfl) (Nat.le_of_ble_eq_true rfl) wf_X1_15 rfl (gO_of g1) (gN_of g2) dX1_compare_2 ?_
  obtain ⟨M3, e3, h⟩ := b1_some h
  refine fw_callV (ci := 1) [_] C (c_X1_readValue hl e3) cal_X1_readValue wm_X1_98 wi_yX1_readValue wsl_yX1_readValue (Nat.le_of_ble_eq_true rfl) rfl (gO_of g1) rfl (Nat.le_of_ble_eq_true rfl) ⟨Nat.le_of_ble_eq_true rfl, Nat.le_of_ble_eq_true rfl⟩ ⟨Nat.zero_le _, Nat.zero_le _⟩ dX1_compare_5 ?_
  refine fw_aload_n C 0 dX1_compare_8 rfl rfl ?_
  obtain ⟨g4, h⟩ := gd_some h
  refine fw_getR C 1 0 (Nat.le_of_ble_eq_true rfl) (Nat.le_of_ble_eq_true rfl) wf_X1_21 rfl (gO_of g1) (gN_of g4) dX1_compare_9 ?_
  refine fw_bipush C 60 dX1_compare_12 rfl ?_
  obtain ⟨g6, h⟩ := gd_some h
  obtain ⟨v5, e5, h⟩ := b1_some h
  refine fw_callV (ci := 7) [_] C (c_X7_isSign hl e5) cal_X7_isSign wm_X1_86 wi_yX7_isSign wsl_yX7_isSign (Nat.le_of_ble_eq_true rfl) rfl (gO_of g6) rfl (Nat.le_of_ble_eq_true rfl) ⟨Nat.le_of_ble_eq_true rfl, Nat.le_of_ble_eq_true rfl⟩ ⟨Nat.zero_le _, Nat.zero_le _⟩ dX1_compare_14 ?_
  refine fw_istore_n C [(1, _), (0, _)] dX1_compare_17 rfl (Nat.le_of_ble_eq_true rfl) rfl ?_
  refine fw_aload_n C 1 dX1_compare_18 rfl rfl ?_
  refine fw_getR C 1 0 (Nat.le_of_ble_eq_true rfl) (Nat.le_of_ble_eq_true rfl) wf_X1_21 rfl (gO_of g1) (gN_of g4) dX1_compare_19 ?_
  refine fw_bipush C 62 dX1_compare_22 rfl ?_
  obtain ⟨v7, e7, h⟩ := b1_some h
  refine fw_callV (ci := 7) [_] C (c_X7_isSign hl e7) cal_X7_isSign wm_X1_86 wi_yX7_isSign wsl_yX7_isSign (Nat.le_of_ble_eq_true rfl) rfl (gO_of g6) rfl (Nat.le_of_ble_eq_true rfl) ⟨Nat.le_of_ble_eq_true rfl, Nat.le_of_ble_eq_true rfl⟩ ⟨Nat.zero_le _, Nat.zero_le _⟩ dX1_compare_24 ?_
  refine fw_istore_n C [(2, _), (1, _), (0, _)] dX1_compare_27 rfl (Nat.le_of_ble_eq_true rfl) rfl ?_
  refine fw_iload_n C 1 dX1_compare_28 rfl rfl ?_
  refine fw_if_ne C 56 dX1_compare_29 (by decide) (fun c8 => ?_) (fun c8 => ?_)
  · replace h := (if_neg c8).symm.trans h
    refine fw_aload_n C 2 dX1_compare_56 rfl rfl ?_
    refine fw_getR C 1 0 (Nat.le_of_ble_eq_true rfl) (Nat.le_of_ble_eq_true rfl) wf_X1_21 rfl (gO_of g1) (gN_of g4) dX1_compare_57 ?_
    obtain ⟨M9, e9, h⟩ := b1_some h
    refine fw_callV (ci := 7) [] C (c_X7_advance hl e9) cal_X7_advance wm_X1_52 wi_yX7_advance wsl_yX7_advance (Nat.le_of_ble_eq_true rfl) rfl (gO_of g6) rfl (Nat.le_of_ble_eq_true rfl) ⟨Nat.le_of_ble_eq_true rfl, Nat.le_of_ble_eq_true rfl⟩ ⟨Nat.zero_le _, Nat.zero_le _⟩ dX1_compare_60 ?_
    refine fw_aload_n C 2 dX1_compare_63 rfl rfl ?_
    refine fw_aload_n C 2 dX1_compare_64 rfl rfl ?_
    obtain ⟨g10, h⟩ := gd_some h
    refine fw_getR C 1 3 (Nat.le_of_ble_eq_true rfl) (Nat.le_of_ble_eq_true rfl) wf_X1_18 rfl (gO_of g1) (gN_of g10) dX1_compare_65 ?_
    obtain ⟨M11, e11, h⟩ := b1_some h
    refine fw_callV (ci := 1) [_] C (c_X1_readValue hl e11) cal_X1_readValue wm_X1_98 wi_yX1_readValue wsl_yX1_readValue (Nat.le_of_ble_eq_true rfl) rfl (gO_of g1) rfl (Nat.le_of_ble_eq_true rfl) ⟨Nat.le_of_ble_eq_true rfl, Nat.le_of_ble_eq_true rfl⟩ ⟨Nat.zero_le _, Nat.zero_le _⟩ dX1_compare_68 ?_
    refine fw_iconst C 0 dX1_compare_71 rfl ?_
    refine fw_istore_n C [(3, _), (2, _), (1, _), (0, _)] dX1_compare_72 rfl (Nat.le_of_ble_eq_true rfl) rfl ?_
    refine fw_iconst C 0 dX1_compare_73 rfl ?_
    refine fw_istore C [(4, _), (3, _), (2, _), (1, _), (0, _)] dX1_compare_74 (Nat.le_of_ble_eq_true rfl) rfl ?_
    refine fw_sub [4, 3, 2, 1, 0] rfl ?_
    obtain ⟨l65, e65, h⟩ := b1_some h
    refine lc_X1_compare_76 C hr hlk hl ht e65 ?_
    refine fw_iload_n C 0 dX1_compare_177 rfl rfl ?_
    obtain rfl := Option.some.inj h
    exact fw_iret C hr hlk dX1_compare_178
  · replace h := (if_pos c8).symm.trans h
    refine fw_iload_n C 0 dX1_compare_32 rfl rfl ?_
    refine fw_if_ne C 56 dX1_compare_33 (by decide) (fun c66 => ?_) (fun c66 => ?_)
    · replace h := (if_neg c66).symm.trans h
      refine fw_aload_n C 2 dX1_compare_56 rfl rfl ?_
      refine fw_getR C 1 0 (Nat.le_of_ble_eq_true rfl) (Nat.le_of_ble_eq_true rfl) wf_X1_21 rfl (gO_of g1) (gN_of g4) dX1_compare_57 ?_
      obtain ⟨M67, e67, h⟩ := b1_some h
      refine fw_callV (ci := 7) [] C (c_X7_advance hl e67) cal_X7_advance wm_X1_52 wi_yX7_advance wsl_yX7_advance (Nat.le_of_ble_eq_true rfl) rfl (gO_of g6) rfl (Nat.le_of_ble_eq_true rfl) ⟨Nat.le_of_ble_eq_true rfl, Nat.le_of_ble_eq_true rfl⟩ ⟨Nat.zero_le _, Nat.zero_le _⟩ dX1_compare_60 ?_
      refine fw_aload_n C 2 dX1_compare_63 rfl rfl ?_
      refine fw_aload_n C 2 dX1_compare_64 rfl rfl ?_
      obtain ⟨g68, h⟩ := gd_some h
      refine fw_getR C 1 3 (Nat.le_of_ble_eq_true rfl) (Nat.le_of_ble_eq_true rfl) wf_X1_18 rfl (gO_of g1) (gN_of g68) dX1_compare_65 ?_
      obtain ⟨M69, e69, h⟩ := b1_some h
      refine fw_callV (ci := 1) [_] C (c_X1_readValue hl e69) cal_X1_readValue wm_X1_98 wi_yX1_readValue wsl_yX1_readValue (Nat.le_of_ble_eq_true rfl) rfl (gO_of g1) rfl (Nat.le_of_ble_eq_true rfl) ⟨Nat.le_of_ble_eq_true rfl, Nat.le_of_ble_eq_true rfl⟩ ⟨Nat.zero_le _, Nat.zero_le _⟩ dX1_compare_68 ?_
      refine fw_iconst C 0 dX1_compare_71 rfl ?_
      refine fw_istore_n C [(3, _), (2, _), (1, _), (0, _)] dX1_compare_72 rfl (Nat.le_of_ble_eq_true rfl) rfl ?_
      refine fw_iconst C 0 dX1_compare_73 rfl ?_
      refine fw_istore C [(4, _), (3, _), (2, _), (1, _), (0, _)] dX1_compare_74 (Nat.le_of_ble_eq_true rfl) rfl ?_
      refine fw_sub [4, 3, 2, 1, 0] rfl ?_
      obtain ⟨l70, e70, h⟩ := b1_some h
      refine lc_X1_compare_76 C hr hlk hl ht e70 ?_
      refine fw_iload_n C 0 dX1_compare_177 rfl rfl ?_
      obtain rfl := Option.some.inj h
      exact fw_iret C hr hlk dX1_compare_178
    · replace h := (if_pos c66).symm.trans h
      refine fw_aload_n C 2 dX1_compare_36 rfl rfl ?_
      refine fw_getR C 1 0 (Nat.le_of_ble_eq_true rfl) (Nat.le_of_ble_eq_true rfl) wf_X1_21 rfl (gO_of g1) (gN_of g4) dX1_compare_37 ?_
      refine fw_bipush C 61 dX1_compare_40 rfl ?_
      obtain ⟨v71, e71, h⟩ := b1_some h
      refine fw_callV (ci := 7) [_] C (c_X7_isSign hl e71) cal_X7_isSign wm_X1_86 wi_yX7_isSign wsl_yX7_isSign (Nat.le_of_ble_eq_true rfl) rfl (gO_of g6) rfl (Nat.le_of_ble_eq_true rfl) ⟨Nat.le_of_ble_eq_true rfl, Nat.le_of_ble_eq_true rfl⟩ ⟨Nat.zero_le _, Nat.zero_le _⟩ dX1_compare_42 ?_
      refine fw_if_ne C 56 dX1_compare_45 (by decide) (fun c72 => ?_) (fun c72 => ?_)
      · replace h := (if_neg c72).symm.trans h
        refine fw_aload_n C 2 dX1_compare_56 rfl rfl ?_
        refine fw_getR C 1 0 (Nat.le_of_ble_eq_true rfl) (Nat.le_of_ble_eq_true rfl) wf_X1_21 rfl (gO_of g1) (gN_of g4) dX1_compare_57 ?_
        obtain ⟨M73, e73, h⟩ := b1_some h
        refine fw_callV (ci := 7) [] C (c_X7_advance hl e73) cal_X7_advance wm_X1_52 wi_yX7_advance wsl_yX7_advance (Nat.le_of_ble_eq_true rfl) rfl (gO_of g6) rfl (Nat.le_of_ble_eq_true rfl) ⟨Nat.le_of_ble_eq_true rfl, Nat.le_of_ble_eq_true rfl⟩ ⟨Nat.zero_le _, Nat.zero_le _⟩ dX1_compare_60 ?_
        refine fw_aload_n C 2 dX1_compare_63 rfl rfl ?_
        refine fw_aload_n C 2 dX1_compare_64 rfl rfl ?_
        obtain ⟨g74, h⟩ := gd_some h
        refine fw_getR C 1 3 (Nat.le_of_ble_eq_true rfl) (Nat.le_of_ble_eq_true rfl) wf_X1_18 rfl (gO_of g1) (gN_of g74) dX1_compare_65 ?_
        obtain ⟨M75, e75, h⟩ := b1_some h
        refine fw_callV (ci := 1) [_] C (c_X1_readValue hl e75) cal_X1_readValue wm_X1_98 wi_yX1_readValue wsl_yX1_readValue (Nat.le_of_ble_eq_true rfl) rfl (gO_of g1) rfl (Nat.le_of_ble_eq_true rfl) ⟨Nat.le_of_ble_eq_true rfl, Nat.le_of_ble_eq_true rfl⟩ ⟨Nat.zero_le _, Nat.zero_le _⟩ dX1_compare_68 ?_
        refine fw_iconst C 0 dX1_compare_71 rfl ?_
        refine fw_istore_n C [(3, _), (2, _), (1, _), (0, _)] dX1_compare_72 rfl (Nat.le_of_ble_eq_true rfl) rfl ?_
        refine fw_iconst C 0 dX1_compare_73 rfl ?_
        refine fw_istore C [(4, _), (3, _), (2, _), (1, _), (0, _)] dX1_compare_74 (Nat.le_of_ble_eq_true rfl) rfl ?_
        refine fw_sub [4, 3, 2, 1, 0] rfl ?_
        obtain ⟨l76, e76, h⟩ := b1_some h
        refine lc_X1_compare_76 C hr hlk hl ht e76 ?_
        refine fw_iload_n C 0 dX1_compare_177 rfl rfl ?_
        obtain rfl := Option.some.inj h
        exact fw_iret C hr hlk dX1_compare_178
      · replace h := (if_pos c72).symm.trans h
        refine fw_aload_n C 2 dX1_compare_48 rfl rfl ?_
        refine fw_getR C 1 0 (Nat.le_of_ble_eq_true rfl) (Nat.le_of_ble_eq_true rfl) wf_X1_21 rfl (gO_of g1) (gN_of g4) dX1_compare_49 ?_
        refine fw_iconst C 1 dX1_compare_52 rfl ?_
        obtain ⟨M77, e77, h⟩ := b1_some h
        refine fw_callV (ci := 7) [_] C (c_X7_fail hl e77) cal_X7_fail wm_X1_49 wi_yX7_fail wsl_yX7_fail (Nat.le_of_ble_eq_true rfl) rfl (gO_of g6) rfl (Nat.le_of_ble_eq_true rfl) ⟨Nat.le_of_ble_eq_true rfl, Nat.le_of_ble_eq_true rfl⟩ ⟨Nat.zero_le _, Nat.zero_le _⟩ dX1_compare_53 ?_
        refine fw_sub [2, 1, 0] rfl ?_
        exact jc_X1_compare_56 C hr hlk hl ht rfl h
set_option maxRecDepth 100000 in
def lf_X1_anyHolds_10 (q0 q1 q2 : List fw_Sh → fw_Mem → Nat → Int32 → Option (Int32 × fw_Mem)) (S : List fw_Sh) (a0 : Nat) (x1 : Int32) : Nat → Int32 → Int32 → fw_Mem → Option (Int32 × fw_Mem)
  | 0, _, _, _ => none
  | n + 1, x2, x3, M => if x3 ≤ 0 then (some (x2, M)) else (gd (gO S 1 a0) (gd (gN (M a0 0)) (gd (gO S 7 ((M a0 0).toNatClampNeg)) (if (M ((M a0 0).toNatClampNeg) 7) = 0 then (b1 (f_X7_isWord S M ((M a0 0).toNatClampNeg) 1000022) (fun v8 => if v8 = 0 then (some (x2, M)) else (b1 (f_X7_advance S M ((M a0 0).toNatClampNeg)) (fun M10 => b2 (q1 S M10 a0 x1) (fun v11 M11 => lf_X1_anyHolds_10 q0 q1 q2 S a0 x1 n (x2 ||| v11) (x3 + (-1)) M11))))) else (some (x2, M))))))
set_option maxHeartbeats 4000000 in
set_option maxRecDepth 100000 in
theorem lc_X1_anyHolds_10 {G : fw_G} {p : Program} {l : Launch} {e : Env} {s : State} {m : MethodId} {args : Array Value} {below : List Frame} {meth : Method} {c : Code} {S : List fw_Sh} {o : fw_O} {d9 : Nat} {q0 q1 q2 : List fw_Sh → fw_Mem → Nat → Int32 → Option (Int32 × fw_Mem)} {a0 : Nat} {x1 : Int32} (C : fw_C G RX1 cX1_anyHolds 4 p s m args c) (hr : meth.sig.returnType = (some .int)) (hlk : meth.locks = false) (hl : l.stackTraces = false) (ht : ∀ x ∈ c.exceptionTable.toList, False) (hd : 20 ≤ d9) (hq0 : ∀ {S : List fw_Sh} {M : fw_Mem} {a : Nat} {x : Int32} {r : Int32 × fw_Mem}, q0 S M a x = some r → fw_M l G yX1_anyHolds (.code yX1_anyHolds cX1_anyHolds 4 (some .int)) d9 (fw_mcO (.inl (some (.int r.1)), S, r.2)) (fw_msO (.inl (some (.int r.1)), S, r.2)) S M [.ref a, .int x] (.inl (some (.int r.1)), S, r.2)) (hq1 : ∀ {S : List fw_Sh} {M : fw_Mem} {a : Nat} {x : Int32} {r : Int32 × fw_Mem}, q1 S M a x = some r → fw_M l G yX1_allHold (.code yX1_allHold cX1_allHold 4 (some .int)) d9 (fw_mcO (.inl (some (.int r.1)), S, r.2)) (fw_msO (.inl (some (.int r.1)), S, r.2)) S M [.ref a, .int x] (.inl (some (.int r.1)), S, r.2)) (hq2 : ∀ {S : List fw_Sh} {M : fw_Mem} {a : Nat} {x : Int32} {r : Int32 × fw_Mem}, q2 S M a x = some r → fw_M l G yX1_factHolds (.code yX1_factHolds cX1_factHolds 5 (some .int)) d9 (fw_mcO (.inl (some (.int r.1)), S, r.2)) (fw_msO (.inl (some (.int r.1)), S, r.2)) S M [.ref a, .int x] (.inl (some (.int r.1)), S, r.2)) :
    ∀ {n : Nat} {x2 : Int32} {x3 : Int32} {M : fw_Mem} {r : (Int32 × fw_Mem)} (h : lf_X1_anyHolds_10 q0 q1 q2 S a0 x1 n x2 x3 M = some r) (kx : fw_W G p l e (fw_rm (d9 + 1) (fw_mcO o) (fw_msO o)) s m args below meth c 4 (fw_Z G below args s (fw_mcO o) (fw_msO o) o) 0 0 57 [(2, .int r.1)] [] S r.2), fw_W G p l e (fw_rm (d9 + 1) (fw_mcO o) (fw_msO o)) s m args below meth c 4 (fw_Z G below args s (fw_mcO o) (fw_msO o) o) 0 0 10 [(0, .ref a0), (1, .int x1), (2, .int x2), (3, .int x3)] [] S M := by
  intro n
  induction n with
  | zero =>
    intro x2 x3 M r h
    exact nomatch (show (none : Option (Int32 × fw_Mem)) = some r from h)
  | succ n ih =>
    intro x2 x3 M r h kx
    rw [lf_X1_anyHolds_10.eq_2] at h
    refine fw_iload_n C 3 dX1_anyHolds_10 rfl rfl ?_
    refine fw_if_le C 57 dX1_anyHolds_11 (by decide) (fun c3 => ?_) (fun c3 => ?_)
    · replace h := (if_pos c3).symm.trans h
      obtain rfl := Option.some.inj h
      refine fw_sub [2] rfl ?_
      exact kx
    · replace h := (if_neg c3).symm.trans h
      refine fw_aload_n C 0 dX1_anyHolds_14 rfl rfl ?_
      obtain ⟨g4, h⟩ := gd_some h
      obtain ⟨g5, h⟩ := gd_some h
      refine fw_getR C 1 0 (Nat.le_of_ble_eq_true rfl) (Nat.le_of_ble_eq_true rfl) wf_X1_21 rfl (gO_of g4) (gN_of g5) dX1_anyHolds_15 ?_
      obtain ⟨g6, h⟩ := gd_some h
      refine fw_getI C 7 7 (Nat.le_of_ble_eq_true rfl) (Nat.le_of_ble_eq_true rfl) wf_X1_62 rfl (gO_of g6) dX1_anyHolds_18 ?_
      refine fw_if_ne C 57 dX1_anyHolds_21 (by decide) (fun c7 => ?_) (fun c7 => ?_)
      · replace h := (if_neg c7).symm.trans h
        obtain rfl := Option.some.inj h
        refine fw_sub [2] rfl ?_
        exact kx
      · replace h := (if_pos c7).symm.trans h
        refine fw_aload_n C 0 dX1_anyHolds_24 rfl rfl ?_
        refine fw_getR C 1 0 (Nat.le_of_ble_eq_true rfl) (Nat.le_of_ble_eq_true rfl) wf_X1_21 rfl (gO_of g4) (gN_of g5) dX1_anyHolds_25 ?_
        refine fw_ldcS C (i := 21) (List.mem_of_getElem? (i := 57) rfl) dX1_anyHolds_28 ?_
        obtain ⟨v8, e8, h⟩ := b1_some h
        refine fw_callV (ci := 7) [_] C (c_X7_isWord hl e8) cal_X7_isWord wm_X1_43 wi_yX7_isWord wsl_yX7_isWord (Nat.le_of_ble_eq_true rfl) rfl (gO_of g6) rfl (Nat.le_of_ble_eq_true rfl) (fw_room (by omega) (by omega)) ⟨Nat.zero_le _, Nat.zero_le _⟩ dX1_anyHolds_30 ?_
        refine fw_if_eq C 57 dX1_anyHolds_33 (by decide) (fun c9 => ?_) (fun c9 => ?_)
        · replace h := (if_pos c9).symm.trans h
          obtain rfl := Option.some.inj h
          refine fw_sub [2] rfl ?_
          exact kx
        · replace h := (if_neg c9).symm.trans h
          refine fw_aload_n C 0 dX1_anyHolds_36 rfl rfl ?_
          refine fw_getR C 1 0 (Nat.le_of_ble_eq_true rfl) (Nat.le_of_ble_eq_true rfl) wf_X1_21 rfl (gO_of g4) (gN_of g5) dX1_anyHolds_37 ?_
          obtain ⟨M10, e10, h⟩ := b1_some h
          refine fw_callV (ci := 7) [] C (c_X7_advance hl e10) cal_X7_advance wm_X1_52 wi_yX7_advance wsl_yX7_advance (Nat.le_of_ble_eq_true rfl) rfl (gO_of g6) rfl (Nat.le_of_ble_eq_true rfl) (fw_room (by omega) (by omega)) ⟨Nat.zero_le _, Nat.zero_le _⟩ dX1_anyHolds_40 ?_
          refine fw_iload_n C 2 dX1_anyHolds_43 rfl rfl ?_
          refine fw_aload_n C 0 dX1_anyHolds_44 rfl rfl ?_
          refine fw_iload_n C 1 dX1_anyHolds_45 rfl rfl ?_
          obtain ⟨v11, M11, e11, h⟩ := b2_some h
          refine fw_callV (ci := 1) [_] C (hq1 e11) cal_X1_allHold wm_X1_74 wi_yX1_allHold wsl_yX1_allHold (Nat.le_of_ble_eq_true rfl) rfl (gO_of g4) rfl (Nat.le_of_ble_eq_true rfl) (fw_room (by omega) (by omega)) ⟨Nat.zero_le _, Nat.zero_le _⟩ dX1_anyHolds_46 ?_
          refine fw_ior C dX1_anyHolds_49 ?_
          refine fw_istore_n C [(2, _), (0, _), (1, _), (3, _)] dX1_anyHolds_50 rfl (Nat.le_of_ble_eq_true rfl) rfl ?_
          refine fw_iinc C _ 3 [(3, _), (2, _), (0, _), (1, _)] dX1_anyHolds_51 rfl rfl (Nat.le_of_ble_eq_true rfl) rfl ?_
          refine fw_goto C 10 dX1_anyHolds_54 (by decide) ?_
          refine fw_sub [2, 3, 1, 0] rfl ?_
          exact ih h kx
set_option maxRecDepth 100000 in
def f_X1_anyHolds (q0 q1 q2 : List fw_Sh → fw_Mem → Nat → Int32 → Option (Int32 × fw_Mem)) (S : List fw_Sh) (M : fw_Mem) (a0 : Nat) (x1 : Int32) : Option (Int32 × fw_Mem) := gd (gO S 1 a0) (b2 (q1 S M a0 x1) (fun v1 M1 => b1 (lf_X1_anyHolds_10 q0 q1 q2 S a0 x1 20000 v1 200 M1) (fun l12 => some (l12.1, l12.2))))
set_option maxHeartbeats 4000000 in
set_option maxRecDepth 100000 in
theorem c_X1_anyHolds {l : Launch} {G : fw_G} {d9 : Nat} {q0 q1 q2 : List fw_Sh → fw_Mem → Nat → Int32 → Option (Int32 × fw_Mem)} {S : List fw_Sh} {M : fw_Mem} {a0 : Nat} {x1 : Int32} {r : (Int32 × fw_Mem)} (hl : l.stackTraces = false) (hd : 20 ≤ d9) (hq0 : ∀ {S : List fw_Sh} {M : fw_Mem} {a : Nat} {x : Int32} {r : Int32 × fw_Mem}, q0 S M a x = some r → fw_M l G yX1_anyHolds (.code yX1_anyHolds cX1_anyHolds 4 (some .int)) d9 (fw_mcO (.inl (some (.int r.1)), S, r.2)) (fw_msO (.inl (some (.int r.1)), S, r.2)) S M [.ref a, .int x] (.inl (some (.int r.1)), S, r.2)) (hq1 : ∀ {S : List fw_Sh} {M : fw_Mem} {a : Nat} {x : Int32} {r : Int32 × fw_Mem}, q1 S M a x = some r → fw_M l G yX1_allHold (.code yX1_allHold cX1_allHold 4 (some .int)) d9 (fw_mcO (.inl (some (.int r.1)), S, r.2)) (fw_msO (.inl (some (.int r.1)), S, r.2)) S M [.ref a, .int x] (.inl (some (.int r.1)), S, r.2)) (hq2 : ∀ {S : List fw_Sh} {M : fw_Mem} {a : Nat} {x : Int32} {r : Int32 × fw_Mem}, q2 S M a x = some r → fw_M l G yX1_factHolds (.code yX1_factHolds cX1_factHolds 5 (some .int)) d9 (fw_mcO (.inl (some (.int r.1)), S, r.2)) (fw_msO (.inl (some (.int r.1)), S, r.2)) S M [.ref a, .int x] (.inl (some (.int r.1)), S, r.2)) (h : f_X1_anyHolds q0 q1 q2 S M a0 x1 = some r) : fw_M l G yX1_anyHolds (.code yX1_anyHolds cX1_anyHolds 4 (some .int)) (d9 + 1) (fw_mcO (.inl (some (.int r.1)), S, r.2)) (fw_msO (.inl (some (.int r.1)), S, r.2)) S M [.ref a0, .int x1] (.inl (some (.int r.1)), S, r.2) := by
  refine fw_of [(0, .ref a0), (1, .int x1)] (by decide) (Nat.le_of_ble_eq_true rfl) rfl ?_
  intro p e s m args below meth c C hr hlk hnm ht _
  unfold f_X1_anyHolds at h
  refine fw_aload_n C 0 dX1_anyHolds_0 rfl rfl ?_
  refine fw_iload_n C 1 dX1_anyHolds_1 rfl rfl ?_
  obtain ⟨g2, h⟩ := gd_some h
  obtain ⟨v1, M1, e1, h⟩ := b2_some h
  refine fw_callV (ci := 1) [_] C (hq1 e1) cal_X1_allHold wm_X1_74 wi_yX1_allHold wsl_yX1_allHold (Nat.le_of_ble_eq_true rfl) rfl (gO_of g2) rfl (Nat.le_of_ble_eq_true rfl) (fw_room (by omega) (by omega)) ⟨Nat.zero_le _, Nat.zero_le _⟩ dX1_anyHolds_2 ?_
  refine fw_istore_n C [(2, _), (0, _), (1, _)] dX1_anyHolds_5 rfl (Nat.le_of_ble_eq_true rfl) rfl ?_
  refine fw_sipush C 200 dX1_anyHolds_6 rfl ?_
  refine fw_istore_n C [(3, _), (2, _), (0, _), (1, _)] dX1_anyHolds_9 rfl (Nat.le_of_ble_eq_true rfl) rfl ?_
  refine fw_sub [2, 3, 1, 0] rfl ?_
  obtain ⟨l12, e12, h⟩ := b1_some h
  refine lc_X1_anyHolds_10 C hr hlk hl ht hd hq0 hq1 hq2 e12 ?_
  refine fw_iload_n C 0 dX1_anyHolds_57 rfl rfl ?_
  obtain rfl := Option.some.inj h
  exact fw_iret C hr hlk dX1_anyHolds_58
set_option maxRecDepth 100000 in
def lf_X1_allHold_10 (q0 q1 q2 : List fw_Sh → fw_Mem → Nat → Int32 → Option (Int32 × fw_Mem)) (S : List fw_Sh) (a0 : Nat) (x1 : Int32) : Nat → Int32 → Int32 → fw_Mem → Option (Int32 × fw_Mem)
  | 0, _, _, _ => none
  | n + 1, x2, x3, M => if x3 ≤ 0 then (some (x2, M)) else (gd (gO S 1 a0) (gd (gN (M a0 0)) (gd (gO S 7 ((M a0 0).toNatClampNeg)) (if (M ((M a0 0).toNatClampNeg) 7) = 0 then (b1 (f_X7_isWord S M ((M a0 0).toNatClampNeg) 1000001) (fun v8 => if v8 = 0 then (some (x2, M)) else (b1 (f_X7_advance S M ((M a0 0).toNatClampNeg)) (fun M10 => b2 (q2 S M10 a0 x1) (fun v11 M11 => lf_X1_allHold_10 q0 q1 q2 S a0 x1 n (x2 &&& v11) (x3 + (-1)) M11))))) else (some (x2, M))))))
set_option maxHeartbeats 4000000 in
set_option maxRecDepth 100000 in
theorem lc_X1_allHold_10 {G : fw_G} {p : Program} {l : Launch} {e : Env} {s : State} {m : MethodId} {args : Array Value} {below : List Frame} {meth : Method} {c : Code} {S : List fw_Sh} {o : fw_O} {d9 : Nat} {q0 q1 q2 : List fw_Sh → fw_Mem → Nat → Int32 → Option (Int32 × fw_Mem)} {a0 : Nat} {x1 : Int32} (C : fw_C G RX1 cX1_allHold 4 p s m args c) (hr : meth.sig.returnType = (some .int)) (hlk : meth.locks = false) (hl : l.stackTraces = false) (ht : ∀ x ∈ c.exceptionTable.toList, False) (hd : 20 ≤ d9) (hq0 : ∀ {S : List fw_Sh} {M : fw_Mem} {a : Nat} {x : Int32} {r : Int32 × fw_Mem}, q0 S M a x = some r → fw_M l G yX1_anyHolds (.code yX1_anyHolds cX1_anyHolds 4 (some .int)) d9 (fw_mcO (.inl (some (.int r.1)), S, r.2)) (fw_msO (.inl (some (.int r.1)), S, r.2)) S M [.ref a, .int x] (.inl (some (.int r.1)), S, r.2)) (hq1 : ∀ {S : List fw_Sh} {M : fw_Mem} {a : Nat} {x : Int32} {r : Int32 × fw_Mem}, q1 S M a x = some r → fw_M l G yX1_allHold (.code yX1_allHold cX1_allHold 4 (some .int)) d9 (fw_mcO (.inl (some (.int r.1)), S, r.2)) (fw_msO (.inl (some (.int r.1)), S, r.2)) S M [.ref a, .int x] (.inl (some (.int r.1)), S, r.2)) (hq2 : ∀ {S : List fw_Sh} {M : fw_Mem} {a : Nat} {x : Int32} {r : Int32 × fw_Mem}, q2 S M a x = some r → fw_M l G yX1_factHolds (.code yX1_factHolds cX1_factHolds 5 (some .int)) d9 (fw_mcO (.inl (some (.int r.1)), S, r.2)) (fw_msO (.inl (some (.int r.1)), S, r.2)) S M [.ref a, .int x] (.inl (some (.int r.1)), S, r.2)) :
    ∀ {n : Nat} {x2 : Int32} {x3 : Int32} {M : fw_Mem} {r : (Int32 × fw_Mem)} (h : lf_X1_allHold_10 q0 q1 q2 S a0 x1 n x2 x3 M = some r) (kx : fw_W G p l e (fw_rm (d9 + 1) (fw_mcO o) (fw_msO o)) s m args below meth c 4 (fw_Z G below args s (fw_mcO o) (fw_msO o) o) 0 0 57 [(2, .int r.1)] [] S r.2), fw_W G p l e (fw_rm (d9 + 1) (fw_mcO o) (fw_msO o)) s m args below meth c 4 (fw_Z G below args s (fw_mcO o) (fw_msO o) o) 0 0 10 [(0, .ref a0), (1, .int x1), (2, .int x2), (3, .int x3)] [] S M := by
  intro n
  induction n with
  | zero =>
    intro x2 x3 M r h
    exact nomatch (show (none : Option (Int32 × fw_Mem)) = some r from h)
  | succ n ih =>
    intro x2 x3 M r h kx
    rw [lf_X1_allHold_10.eq_2] at h
    refine fw_iload_n C 3 dX1_allHold_10 rfl rfl ?_
    refine fw_if_le C 57 dX1_allHold_11 (by decide) (fun c3 => ?_) (fun c3 => ?_)
    · replace h := (if_pos c3).symm.trans h
      obtain rfl := Option.some.inj h
      refine fw_sub [2] rfl ?_
      exact kx
    · replace h := (if_neg c3).symm.trans h
      refine fw_aload_n C 0 dX1_allHold_14 rfl rfl ?_
      obtain ⟨g4, h⟩ := gd_some h
      obtain ⟨g5, h⟩ := gd_some h
      refine fw_getR C 1 0 (Nat.le_of_ble_eq_true rfl) (Nat.le_of_ble_eq_true rfl) wf_X1_21 rfl (gO_of g4) (gN_of g5) dX1_allHold_15 ?_
      obtain ⟨g6, h⟩ := gd_some h
      refine fw_getI C 7 7 (Nat.le_of_ble_eq_true rfl) (Nat.le_of_ble_eq_true rfl) wf_X1_62 rfl (gO_of g6) dX1_allHold_18 ?_
      refine fw_if_ne C 57 dX1_allHold_21 (by decide) (fun c7 => ?_) (fun c7 => ?_)
      · replace h := (if_neg c7).symm.trans h
        obtain rfl := Option.some.inj h
        refine fw_sub [2] rfl ?_
        exact kx
      · replace h := (if_pos c7).symm.trans h
        refine fw_aload_n C 0 dX1_allHold_24 rfl rfl ?_
        refine fw_getR C 1 0 (Nat.le_of_ble_eq_true rfl) (Nat.le_of_ble_eq_true rfl) wf_X1_21 rfl (gO_of g4) (gN_of g5) dX1_allHold_25 ?_
        refine fw_ldcS C (i := 0) (List.mem_of_getElem? (i := 56) rfl) dX1_allHold_28 ?_
        obtain ⟨v8, e8, h⟩ := b1_some h
        refine fw_callV (ci := 7) [_] C (c_X7_isWord hl e8) cal_X7_isWord wm_X1_43 wi_yX7_isWord wsl_yX7_isWord (Nat.le_of_ble_eq_true rfl) rfl (gO_of g6) rfl (Nat.le_of_ble_eq_true rfl) (fw_room (by omega) (by omega)) ⟨Nat.zero_le _, Nat.zero_le _⟩ dX1_allHold_30 ?_
        refine fw_if_eq C 57 dX1_allHold_33 (by decide) (fun c9 => ?_) (fun c9 => ?_)
        · replace h := (if_pos c9).symm.trans h
          obtain rfl := Option.some.inj h
          refine fw_sub [2] rfl ?_
          exact kx
        · replace h := (if_neg c9).symm.trans h
          refine fw_aload_n C 0 dX1_allHold_36 rfl rfl ?_
          refine fw_getR C 1 0 (Nat.le_of_ble_eq_true rfl) (Nat.le_of_ble_eq_true rfl) wf_X1_21 rfl (gO_of g4) (gN_of g5) dX1_allHold_37 ?_
          obtain ⟨M10, e10, h⟩ := b1_some h
          refine fw_callV (ci := 7) [] C (c_X7_advance hl e10) cal_X7_advance wm_X1_52 wi_yX7_advance wsl_yX7_advance (Nat.le_of_ble_eq_true rfl) rfl (gO_of g6) rfl (Nat.le_of_ble_eq_true rfl) (fw_room (by omega) (by omega)) ⟨Nat.zero_le _, Nat.zero_le _⟩ dX1_allHold_40 ?_
          refine fw_iload_n C 2 dX1_allHold_43 rfl rfl ?_
          refine fw_aload_n C 0 dX1_allHold_44 rfl rfl ?_
          refine fw_iload_n C 1 dX1_allHold_45 rfl rfl ?_
          obtain ⟨v11, M11, e11, h⟩ := b2_some h
          refine fw_callV (ci := 1) [_] C (hq2 e11) cal_X1_factHolds wm_X1_79 wi_yX1_factHolds wsl_yX1_factHolds (Nat.le_of_ble_eq_true rfl) rfl (gO_of g4) rfl (Nat.le_of_ble_eq_true rfl) (fw_room (by omega) (by omega)) ⟨Nat.zero_le _, Nat.zero_le _⟩ dX1_allHold_46 ?_
          refine fw_iand C dX1_allHold_49 ?_
          refine fw_istore_n C [(2, _), (0, _), (1, _), (3, _)] dX1_allHold_50 rfl (Nat.le_of_ble_eq_true rfl) rfl ?_
          refine fw_iinc C _ 3 [(3, _), (2, _), (0, _), (1, _)] dX1_allHold_51 rfl rfl (Nat.le_of_ble_eq_true rfl) rfl ?_
          refine fw_goto C 10 dX1_allHold_54 (by decide) ?_
          refine fw_sub [2, 3, 1, 0] rfl ?_
          exact ih h kx
set_option maxRecDepth 100000 in
def f_X1_allHold (q0 q1 q2 : List fw_Sh → fw_Mem → Nat → Int32 → Option (Int32 × fw_Mem)) (S : List fw_Sh) (M : fw_Mem) (a0 : Nat) (x1 : Int32) : Option (Int32 × fw_Mem) := gd (gO S 1 a0) (b2 (q2 S M a0 x1) (fun v1 M1 => b1 (lf_X1_allHold_10 q0 q1 q2 S a0 x1 20000 v1 200 M1) (fun l12 => some (l12.1, l12.2))))
set_option maxHeartbeats 4000000 in
set_option maxRecDepth 100000 in
theorem c_X1_allHold {l : Launch} {G : fw_G} {d9 : Nat} {q0 q1 q2 : List fw_Sh → fw_Mem → Nat → Int32 → Option (Int32 × fw_Mem)} {S : List fw_Sh} {M : fw_Mem} {a0 : Nat} {x1 : Int32} {r : (Int32 × fw_Mem)} (hl : l.stackTraces = false) (hd : 20 ≤ d9) (hq0 : ∀ {S : List fw_Sh} {M : fw_Mem} {a : Nat} {x : Int32} {r : Int32 × fw_Mem}, q0 S M a x = some r → fw_M l G yX1_anyHolds (.code yX1_anyHolds cX1_anyHolds 4 (some .int)) d9 (fw_mcO (.inl (some (.int r.1)), S, r.2)) (fw_msO (.inl (some (.int r.1)), S, r.2)) S M [.ref a, .int x] (.inl (some (.int r.1)), S, r.2)) (hq1 : ∀ {S : List fw_Sh} {M : fw_Mem} {a : Nat} {x : Int32} {r : Int32 × fw_Mem}, q1 S M a x = some r → fw_M l G yX1_allHold (.code yX1_allHold cX1_allHold 4 (some .int)) d9 (fw_mcO (.inl (some (.int r.1)), S, r.2)) (fw_msO (.inl (some (.int r.1)), S, r.2)) S M [.ref a, .int x] (.inl (some (.int r.1)), S, r.2)) (hq2 : ∀ {S : List fw_Sh} {M : fw_Mem} {a : Nat} {x : Int32} {r : Int32 × fw_Mem}, q2 S M a x = some r → fw_M l G yX1_factHolds (.code yX1_factHolds cX1_factHolds 5 (some .int)) d9 (fw_mcO (.inl (some (.int r.1)), S, r.2)) (fw_msO (.inl (some (.int r.1)), S, r.2)) S M [.ref a, .int x] (.inl (some (.int r.1)), S, r.2)) (h : f_X1_allHold q0 q1 q2 S M a0 x1 = some r) : fw_M l G yX1_allHold (.code yX1_allHold cX1_allHold 4 (some .int)) (d9 + 1) (fw_mcO (.inl (some (.int r.1)), S, r.2)) (fw_msO (.inl (some (.int r.1)), S, r.2)) S M [.ref a0, .int x1] (.inl (some (.int r.1)), S, r.2) := by
  refine fw_of [(0, .ref a0), (1, .int x1)] (by decide) (Nat.le_of_ble_eq_true rfl) rfl ?_
  intro p e s m args below meth c C hr hlk hnm ht _
  unfold f_X1_allHold at h
  refine fw_aload_n C 0 dX1_allHold_0 rfl rfl ?_
  refine fw_iload_n C 1 dX1_allHold_1 rfl rfl ?_
  obtain ⟨g2, h⟩ := gd_some h
  obtain ⟨v1, M1, e1, h⟩ := b2_some h
  refine fw_callV (ci := 1) [_] C (hq2 e1) cal_X1_factHolds wm_X1_79 wi_yX1_factHolds wsl_yX1_factHolds (Nat.le_of_ble_eq_true rfl) rfl (gO_of g2) rfl (Nat.le_of_ble_eq_true rfl) (fw_room (by omega) (by omega)) ⟨Nat.zero_le _, Nat.zero_le _⟩ dX1_allHold_2 ?_
  refine fw_istore_n C [(2, _), (0, _), (1, _)] dX1_allHold_5 rfl (Nat.le_of_ble_eq_true rfl) rfl ?_
  refine fw_sipush C 200 dX1_allHold_6 rfl ?_
  refine fw_istore_n C [(3, _), (2, _), (0, _), (1, _)] dX1_allHold_9 rfl (Nat.le_of_ble_eq_true rfl) rfl ?_
  refine fw_sub [2, 3, 1, 0] rfl ?_
  obtain ⟨l12, e12, h⟩ := b1_some h
  refine lc_X1_allHold_10 C hr hlk hl ht hd hq0 hq1 hq2 e12 ?_
  refine fw_iload_n C 0 dX1_allHold_57 rfl rfl ?_
  obtain rfl := Option.some.inj h
  exact fw_iret C hr hlk dX1_allHold_58
set_option maxRecDepth 100000 in
def fj_X1_factHolds_52 (q0 q1 q2 : List fw_Sh → fw_Mem → Nat → Int32 → Option (Int32 × fw_Mem)) (S : List fw_Sh) (M : fw_Mem) (a0 : Nat) (x1 : Int32) (x2 : Int32) (x3 : Int32) : Option (Int32 × fw_Mem) := gd (gO S 1 a0) (gd (gN (M a0 0)) (gd (gO S 7 ((M a0 0).toNatClampNeg)) (if (M ((M a0 0).toNatClampNeg) 7) = 0 then (if x2 = 0 then (if x3 = 0 then (b2 (f_X1_compare S M a0) (fun v43 M43 => some (v43, M43))) else (b1 (f_X7_advance S M ((M a0 0).toNatClampNeg)) (fun M38 => b2 (q0 S M38 a0 (x1 + 1)) (fun v39 M39 => gd (gN (M39 a0 0)) (gd (gO S 7 ((M39 a0 0).toNatClampNeg)) (b1 (f_X7_passSign S M39 ((M39 a0 0).toNatClampNeg) 125) (fun M41 => some (v39, M41)))))))) else (b1 (f_X7_advance S M ((M a0 0).toNatClampNeg)) (fun M44 => b2 (q2 S M44 a0 (x1 + 1)) (fun v45 M45 => some (((v45 ^^^ (-1)) &&& (((1 : Int32) <<< ((M45 a0 4) &&& 31)) - 1)), M45))))) else (some (0, M)))))
set_option maxHeartbeats 4000000 in
set_option maxRecDepth 100000 in
theorem jc_X1_factHolds_52 {G : fw_G} {p : Program} {l : Launch} {e : Env} {s : State} {m : MethodId} {args : Array Value} {below : List Frame} {meth : Method} {c : Code} {S : List fw_Sh} {M : fw_Mem} {a0 : Nat} {x1 : Int32} {x2 : Int32} {x3 : Int32} {d9 : Nat} {q0 q1 q2 : List fw_Sh → fw_Mem → Nat → Int32 → Option (Int32 × fw_Mem)} {r : (Int32 × fw_Mem)} {o : fw_O} (C : fw_C G RX1 cX1_factHolds 5 p s m args c) (hr : meth.sig.returnType = (some .int)) (hlk : meth.locks = false) (hl : l.stackTraces = false) (ht : ∀ x ∈ c.exceptionTable.toList, False) (hd : 20 ≤ d9) (hq0 : ∀ {S : List fw_Sh} {M : fw_Mem} {a : Nat} {x : Int32} {r : Int32 × fw_Mem}, q0 S M a x = some r → fw_M l G yX1_anyHolds (.code yX1_anyHolds cX1_anyHolds 4 (some .int)) d9 (fw_mcO (.inl (some (.int r.1)), S, r.2)) (fw_msO (.inl (some (.int r.1)), S, r.2)) S M [.ref a, .int x] (.inl (some (.int r.1)), S, r.2)) (hq1 : ∀ {S : List fw_Sh} {M : fw_Mem} {a : Nat} {x : Int32} {r : Int32 × fw_Mem}, q1 S M a x = some r → fw_M l G yX1_allHold (.code yX1_allHold cX1_allHold 4 (some .int)) d9 (fw_mcO (.inl (some (.int r.1)), S, r.2)) (fw_msO (.inl (some (.int r.1)), S, r.2)) S M [.ref a, .int x] (.inl (some (.int r.1)), S, r.2)) (hq2 : ∀ {S : List fw_Sh} {M : fw_Mem} {a : Nat} {x : Int32} {r : Int32 × fw_Mem}, q2 S M a x = some r → fw_M l G yX1_factHolds (.code yX1_factHolds cX1_factHolds 5 (some .int)) d9 (fw_mcO (.inl (some (.int r.1)), S, r.2)) (fw_msO (.inl (some (.int r.1)), S, r.2)) S M [.ref a, .int x] (.inl (some (.int r.1)), S, r.2)) (ho : o = (.inl (some (.int r.1)), S, r.2)) (h : fj_X1_factHolds_52 q0 q1 q2 S M a0 x1 x2 x3 = some r) :
    fw_W G p l e (fw_rm (d9 + 1) (fw_mcO o) (fw_msO o)) s m args below meth c 5 (fw_Z G below args s (fw_mcO o) (fw_msO o) o) 0 0 52 [(0, .ref a0), (1, .int x1), (2, .int x2), (3, .int x3)] [] S M := by
  subst ho
  unfold fj_X1_factHolds_52 at h
  refine fw_aload_n C 0 dX1_factHolds_52 rfl rfl ?_
  obtain ⟨g32, h⟩ := gd_some h
  obtain ⟨g33, h⟩ := gd_some h
  refine fw_getR C 1 0 (Nat.le_of_ble_eq_true rfl) (Nat.le_of_ble_eq_true rfl) wf_X1_21 rfl (gO_of g32) (gN_of g33) dX1_factHolds_53 ?_
  obtain ⟨g34, h⟩ := gd_some h
  refine fw_getI C 7 7 (Nat.le_of_ble_eq_true rfl) (Nat.le_of_ble_eq_true rfl) wf_X1_62 rfl (gO_of g34) dX1_factHolds_56 ?_
  refine fw_if_eq C 64 dX1_factHolds_59 (by decide) (fun c35 => ?_) (fun c35 => ?_)
  · replace h := (if_pos c35).symm.trans h
    refine fw_iload_n C 2 dX1_factHolds_64 rfl rfl ?_
    refine fw_if_eq C 94 dX1_factHolds_65 (by decide) (fun c36 => ?_) (fun c36 => ?_)
    · replace h := (if_pos c36).symm.trans h
      refine fw_iload_n C 3 dX1_factHolds_94 rfl rfl ?_
      refine fw_if_ne C 103 dX1_factHolds_95 (by decide) (fun c37 => ?_) (fun c37 => ?_)
      · replace h := (if_neg c37).symm.trans h
        refine fw_aload_n C 0 dX1_factHolds_103 rfl rfl ?_
        refine fw_getR C 1 0 (Nat.le_of_ble_eq_true rfl) (Nat.le_of_ble_eq_true rfl) wf_X1_21 rfl (gO_of g32) (gN_of g33) dX1_factHolds_104 ?_
        obtain ⟨M38, e38, h⟩ := b1_some h
        refine fw_callV (ci := 7) [] C (c_X7_advance hl e38) cal_X7_advance wm_X1_52 wi_yX7_advance wsl_yX7_advance (Nat.le_of_ble_eq_true rfl) rfl (gO_of g34) rfl (Nat.le_of_ble_eq_true rfl) (fw_room (by omega) (by omega)) ⟨Nat.zero_le _, Nat.zero_le _⟩ dX1_factHolds_107 ?_
        refine fw_aload_n C 0 dX1_factHolds_110 rfl rfl ?_
        refine fw_iload_n C 1 dX1_factHolds_111 rfl rfl ?_
        refine fw_iconst C 1 dX1_factHolds_112 rfl ?_
        refine fw_iadd C dX1_factHolds_113 ?_
        obtain ⟨v39, M39, e39, h⟩ := b2_some h
        refine fw_callV (ci := 1) [_] C (hq0 e39) cal_X1_anyHolds wm_X1_55 wi_yX1_anyHolds wsl_yX1_anyHolds (Nat.le_of_ble_eq_true rfl) rfl (gO_of g32) rfl (Nat.le_of_ble_eq_true rfl) (fw_room (by omega) (by omega)) ⟨Nat.zero_le _, Nat.zero_le _⟩ dX1_factHolds_114 ?_
        refine fw_istore C [(4, _), (0, _), (1, _), (2, _), (3, _)] dX1_factHolds_117 (Nat.le_of_ble_eq_true rfl) rfl ?_
        refine fw_aload_n C 1 dX1_factHolds_119 rfl rfl ?_
        obtain ⟨g40, h⟩ := gd_some h
        refine fw_getR C 1 0 (Nat.le_of_ble_eq_true rfl) (Nat.le_of_ble_eq_true rfl) wf_X1_21 rfl (gO_of g32) (gN_of g40) dX1_factHolds_120 ?_
        refine fw_bipush C 125 dX1_factHolds_123 rfl ?_
        obtain ⟨g42, h⟩ := gd_some h
        obtain ⟨M41, e41, h⟩ := b1_some h
        refine fw_callV (ci := 7) [_] C (c_X7_passSign hl e41) cal_X7_passSign wm_X1_94 wi_yX7_passSign wsl_yX7_passSign (Nat.le_of_ble_eq_true rfl) rfl (gO_of g42) rfl (Nat.le_of_ble_eq_true rfl) (fw_room (by omega) (by omega)) ⟨Nat.zero_le _, Nat.zero_le _⟩ dX1_factHolds_125 ?_
        refine fw_iload C 0 dX1_factHolds_128 rfl ?_
        obtain rfl := Option.some.inj h
        exact fw_iret C hr hlk dX1_factHolds_130
      · replace h := (if_pos c37).symm.trans h
        refine fw_aload_n C 0 dX1_factHolds_98 rfl rfl ?_
        obtain ⟨v43, M43, e43, h⟩ := b2_some h
        refine fw_callV (ci := 1) [] C (c_X1_compare hl e43) cal_X1_compare wm_X1_90 wi_yX1_compare wsl_yX1_compare (Nat.le_of_ble_eq_true rfl) rfl (gO_of g32) rfl (Nat.le_of_ble_eq_true rfl) (fw_room (by omega) (by omega)) ⟨Nat.zero_le _, Nat.zero_le _⟩ dX1_factHolds_99 ?_
        obtain rfl := Option.some.inj h
        exact fw_iret C hr hlk dX1_factHolds_102
    · replace h := (if_neg c36).symm.trans h
      refine fw_aload_n C 0 dX1_factHolds_68 rfl rfl ?_
      refine fw_getR C 1 0 (Nat.le_of_ble_eq_true rfl) (Nat.le_of_ble_eq_true rfl) wf_X1_21 rfl (gO_of g32) (gN_of g33) dX1_factHolds_69 ?_
      obtain ⟨M44, e44, h⟩ := b1_some h
      refine fw_callV (ci := 7) [] C (c_X7_advance hl e44) cal_X7_advance wm_X1_52 wi_yX7_advance wsl_yX7_advance (Nat.le_of_ble_eq_true rfl) rfl (gO_of g34) rfl (Nat.le_of_ble_eq_true rfl) (fw_room (by omega) (by omega)) ⟨Nat.zero_le _, Nat.zero_le _⟩ dX1_factHolds_72 ?_
      refine fw_aload_n C 0 dX1_factHolds_75 rfl rfl ?_
      refine fw_iload_n C 1 dX1_factHolds_76 rfl rfl ?_
      refine fw_iconst C 1 dX1_factHolds_77 rfl ?_
      refine fw_iadd C dX1_factHolds_78 ?_
      obtain ⟨v45, M45, e45, h⟩ := b2_some h
      refine fw_callV (ci := 1) [_] C (hq2 e45) cal_X1_factHolds wm_X1_79 wi_yX1_factHolds wsl_yX1_factHolds (Nat.le_of_ble_eq_true rfl) rfl (gO_of g32) rfl (Nat.le_of_ble_eq_true rfl) (fw_room (by omega) (by omega)) ⟨Nat.zero_le _, Nat.zero_le _⟩ dX1_factHolds_79 ?_
      refine fw_iconst C (-1) dX1_factHolds_82 rfl ?_
      refine fw_ixor C dX1_factHolds_83 ?_
      refine fw_iconst C 1 dX1_factHolds_84 rfl ?_
      refine fw_aload_n C 0 dX1_factHolds_85 rfl rfl ?_
      refine fw_getI C 1 4 (Nat.le_of_ble_eq_true rfl) (Nat.le_of_ble_eq_true rfl) wf_X1_31 rfl (gO_of g32) dX1_factHolds_86 ?_
      refine fw_ishl C dX1_factHolds_89 ?_
      refine fw_iconst C 1 dX1_factHolds_90 rfl ?_
      refine fw_isub C dX1_factHolds_91 ?_
      refine fw_iand C dX1_factHolds_92 ?_
      obtain rfl := Option.some.inj h
      exact fw_iret C hr hlk dX1_factHolds_93
  · replace h := (if_neg c35).symm.trans h
    refine fw_iconst C 0 dX1_factHolds_62 rfl ?_
    obtain rfl := Option.some.inj h
    exact fw_iret C hr hlk dX1_factHolds_63
set_option maxRecDepth 100000 in
def f_X1_factHolds (q0 q1 q2 : List fw_Sh → fw_Mem → Nat → Int32 → Option (Int32 × fw_Mem)) (S : List fw_Sh) (M : fw_Mem) (a0 : Nat) (x1 : Int32) : Option (Int32 × fw_Mem) := gd (gO S 1 a0) (gd (gN (M a0 0)) (gd (gO S 7 ((M a0 0).toNatClampNeg)) (b1 (f_X7_isWord S M ((M a0 0).toNatClampNeg) 1000020) (fun v3 => b1 (f_X7_isSign S M ((M a0 0).toNatClampNeg) 123) (fun v5 => if (M ((M a0 0).toNatClampNeg) 7) = 0 then (if v3 = 0 then (if v5 = 0 then (if (M ((M a0 0).toNatClampNeg) 7) = 0 then (if v3 = 0 then (if v5 = 0 then (b2 (f_X1_compare S M a0) (fun v55 M55 => some (v55, M55))) else (b1 (f_X7_advance S M ((M a0 0).toNatClampNeg)) (fun M50 => b2 (q0 S M50 a0 (x1 + 1)) (fun v51 M51 => gd (gN (M51 a0 0)) (gd (gO S 7 ((M51 a0 0).toNatClampNeg)) (b1 (f_X7_passSign S M51 ((M51 a0 0).toNatClampNeg) 125) (fun M53 => some (v51, M53)))))))) else (b1 (f_X7_advance S M ((M a0 0).toNatClampNeg)) (fun M56 => b2 (q2 S M56 a0 (x1 + 1)) (fun v57 M57 => some (((v57 ^^^ (-1)) &&& (((1 : Int32) <<< ((M57 a0 4) &&& 31)) - 1)), M57))))) else (some (0, M))) else (if x1 < 6 then (if (M ((M a0 0).toNatClampNeg) 7) = 0 then (if v3 = 0 then (if v5 = 0 then (b2 (f_X1_compare S M a0) (fun v67 M67 => some (v67, M67))) else (b1 (f_X7_advance S M ((M a0 0).toNatClampNeg)) (fun M62 => b2 (q0 S M62 a0 (x1 + 1)) (fun v63 M63 => gd (gN (M63 a0 0)) (gd (gO S 7 ((M63 a0 0).toNatClampNeg)) (b1 (f_X7_passSign S M63 ((M63 a0 0).toNatClampNeg) 125) (fun M65 => some (v63, M65)))))))) else (b1 (f_X7_advance S M ((M a0 0).toNatClampNeg)) (fun M68 => b2 (q2 S M68 a0 (x1 + 1)) (fun v69 M69 => some (((v69 ^^^ (-1)) &&& (((1 : Int32) <<< ((M69 a0 4) &&& 31)) - 1)), M69))))) else (some (0, M))) else (b1 (f_X7_fail S M ((M a0 0).toNatClampNeg) 3) (fun M70 => fj_X1_factHolds_52 q0 q1 q2 S M70 a0 x1 v3 v5)))) else (if x1 < 6 then (if (M ((M a0 0).toNatClampNeg) 7) = 0 then (if v3 = 0 then (if v5 = 0 then (b2 (f_X1_compare S M a0) (fun v28 M28 => some (v28, M28))) else (b1 (f_X7_advance S M ((M a0 0).toNatClampNeg)) (fun M23 => b2 (q0 S M23 a0 (x1 + 1)) (fun v24 M24 => gd (gN (M24 a0 0)) (gd (gO S 7 ((M24 a0 0).toNatClampNeg)) (b1 (f_X7_passSign S M24 ((M24 a0 0).toNatClampNeg) 125) (fun M26 => some (v24, M26)))))))) else (b1 (f_X7_advance S M ((M a0 0).toNatClampNeg)) (fun M29 => b2 (q2 S M29 a0 (x1 + 1)) (fun v30 M30 => some (((v30 ^^^ (-1)) &&& (((1 : Int32) <<< ((M30 a0 4) &&& 31)) - 1)), M30))))) else (some (0, M))) else (b1 (f_X7_fail S M ((M a0 0).toNatClampNeg) 3) (fun M31 => fj_X1_factHolds_52 q0 q1 q2 S M31 a0 x1 v3 v5)))) else (if (M ((M a0 0).toNatClampNeg) 7) = 0 then (if v3 = 0 then (if v5 = 0 then (b2 (f_X1_compare S M a0) (fun v15 M15 => some (v15, M15))) else (b1 (f_X7_advance S M ((M a0 0).toNatClampNeg)) (fun M10 => b2 (q0 S M10 a0 (x1 + 1)) (fun v11 M11 => gd (gN (M11 a0 0)) (gd (gO S 7 ((M11 a0 0).toNatClampNeg)) (b1 (f_X7_passSign S M11 ((M11 a0 0).toNatClampNeg) 125) (fun M13 => some (v11, M13)))))))) else (b1 (f_X7_advance S M ((M a0 0).toNatClampNeg)) (fun M16 => b2 (q2 S M16 a0 (x1 + 1)) (fun v17 M17 => some (((v17 ^^^ (-1)) &&& (((1 : Int32) <<< ((M17 a0 4) &&& 31)) - 1)), M17))))) else (some (0, M))))))))
set_option maxHeartbeats 4000000 in
set_option maxRecDepth 100000 in
theorem c_X1_factHolds {l : Launch} {G : fw_G} {d9 : Nat} {q0 q1 q2 : List fw_Sh → fw_Mem → Nat → Int32 → Option (Int32 × fw_Mem)} {S : List fw_Sh} {M : fw_Mem} {a0 : Nat} {x1 : Int32} {r : (Int32 × fw_Mem)} (hl : l.stackTraces = false) (hd : 20 ≤ d9) (hq0 : ∀ {S : List fw_Sh} {M : fw_Mem} {a : Nat} {x : Int32} {r : Int32 × fw_Mem}, q0 S M a x = some r → fw_M l G yX1_anyHolds (.code yX1_anyHolds cX1_anyHolds 4 (some .int)) d9 (fw_mcO (.inl (some (.int r.1)), S, r.2)) (fw_msO (.inl (some (.int r.1)), S, r.2)) S M [.ref a, .int x] (.inl (some (.int r.1)), S, r.2)) (hq1 : ∀ {S : List fw_Sh} {M : fw_Mem} {a : Nat} {x : Int32} {r : Int32 × fw_Mem}, q1 S M a x = some r → fw_M l G yX1_allHold (.code yX1_allHold cX1_allHold 4 (some .int)) d9 (fw_mcO (.inl (some (.int r.1)), S, r.2)) (fw_msO (.inl (some (.int r.1)), S, r.2)) S M [.ref a, .int x] (.inl (some (.int r.1)), S, r.2)) (hq2 : ∀ {S : List fw_Sh} {M : fw_Mem} {a : Nat} {x : Int32} {r : Int32 × fw_Mem}, q2 S M a x = some r → fw_M l G yX1_factHolds (.code yX1_factHolds cX1_factHolds 5 (some .int)) d9 (fw_mcO (.inl (some (.int r.1)), S, r.2)) (fw_msO (.inl (some (.int r.1)), S, r.2)) S M [.ref a, .int x] (.inl (some (.int r.1)), S, r.2)) (h : f_X1_factHolds q0 q1 q2 S M a0 x1 = some r) : fw_M l G yX1_factHolds (.code yX1_factHolds cX1_factHolds 5 (some .int)) (d9 + 1) (fw_mcO (.inl (some (.int r.1)), S, r.2)) (fw_msO (.inl (some (.int r.1)), S, r.2)) S M [.ref a0, .int x1] (.inl (some (.int r.1)), S, r.2) := by
  refine fw_of [(0, .ref a0), (1, .int x1)] (by decide) (Nat.le_of_ble_eq_true rfl) rfl ?_
  intro p e s m args below meth c C hr hlk hnm ht _
  unfold f_X1_factHolds at h
  refine fw_aload_n C 0 dX1_factHolds_0 rfl rfl ?_
  obtain ⟨g1, h⟩ := gd_some h
  obtain ⟨g2, h⟩ := gd_some h
  refine fw_getR C 1 0 (Nat.le_of_ble_eq_true rfl) (Nat.le_of_ble_eq_true rfl) wf_X1_21 rfl (gO_of g1) (gN_of g2) dX1_factHolds_1 ?_
  refine fw_ldcS C (i := 19) (List.mem_of_getElem? (i := 45) rfl) dX1_factHolds_4 ?_
  obtain ⟨g4, h⟩ := gd_some h
  obtain ⟨v3, e3, h⟩ := b1_some h
  refine fw_callV (ci := 7) [_] C (c_X7_isWord hl e3) cal_X7_isWord wm_X1_43 wi_yX7_isWord wsl_yX7_isWord (Nat.le_of_ble_eq_true rfl) rfl (gO_of g4) rfl (Nat.le_of_ble_eq_true rfl) (fw_room (by omega) (by omega)) ⟨Nat.zero_le _, Nat.zero_le _⟩ dX1_factHolds_6 ?_
  refine fw_istore_n C [(2, _), (0, _), (1, _)] dX1_factHolds_9 rfl (Nat.le_of_ble_eq_true rfl) rfl ?_
  refine fw_aload_n C 1 dX1_factHolds_10 rfl rfl ?_
  refine fw_getR C 1 0 (Nat.le_of_ble_eq_true rfl) (Nat.le_of_ble_eq_true rfl) wf_X1_21 rfl (gO_of g1) (gN_of g2) dX1_factHolds_11 ?_
  refine fw_bipush C 123 dX1_factHolds_14 rfl ?_
  obtain ⟨v5, e5, h⟩ := b1_some h
  refine fw_callV (ci := 7) [_] C (c_X7_isSign hl e5) cal_X7_isSign wm_X1_86 wi_yX7_isSign wsl_yX7_isSign (Nat.le_of_ble_eq_true rfl) rfl (gO_of g4) rfl (Nat.le_of_ble_eq_true rfl) (fw_room (by omega) (by omega)) ⟨Nat.zero_le _, Nat.zero_le _⟩ dX1_factHolds_16 ?_
  refine fw_istore_n C [(3, _), (2, _), (0, _), (1, _)] dX1_factHolds_19 rfl (Nat.le_of_ble_eq_true rfl) rfl ?_
  refine fw_aload_n C 2 dX1_factHolds_20 rfl rfl ?_
  refine fw_getR C 1 0 (Nat.le_of_ble_eq_true rfl) (Nat.le_of_ble_eq_true rfl) wf_X1_21 rfl (gO_of g1) (gN_of g2) dX1_factHolds_21 ?_
  refine fw_getI C 7 7 (Nat.le_of_ble_eq_true rfl) (Nat.le_of_ble_eq_true rfl) wf_X1_62 rfl (gO_of g4) dX1_factHolds_24 ?_
  refine fw_if_ne C 52 dX1_factHolds_27 (by decide) (fun c6 => ?_) (fun c6 => ?_)
  · replace h := (if_neg c6).symm.trans h
    refine fw_aload_n C 2 dX1_factHolds_52 rfl rfl ?_
    refine fw_getR C 1 0 (Nat.le_of_ble_eq_true rfl) (Nat.le_of_ble_eq_true rfl) wf_X1_21 rfl (gO_of g1) (gN_of g2) dX1_factHolds_53 ?_
    refine fw_getI C 7 7 (Nat.le_of_ble_eq_true rfl) (Nat.le_of_ble_eq_true rfl) wf_X1_62 rfl (gO_of g4) dX1_factHolds_56 ?_
    refine fw_if_eq C 64 dX1_factHolds_59 (by decide) (fun c7 => ?_) (fun c7 => ?_)
    · replace h := (if_pos c7).symm.trans h
      refine fw_iload_n C 1 dX1_factHolds_64 rfl rfl ?_
      refine fw_if_eq C 94 dX1_factHolds_65 (by decide) (fun c8 => ?_) (fun c8 => ?_)
      · replace h := (if_pos c8).symm.trans h
        refine fw_iload_n C 0 dX1_factHolds_94 rfl rfl ?_
        refine fw_if_ne C 103 dX1_factHolds_95 (by decide) (fun c9 => ?_) (fun c9 => ?_)
        · replace h := (if_neg c9).symm.trans h
          refine fw_aload_n C 2 dX1_factHolds_103 rfl rfl ?_
          refine fw_getR C 1 0 (Nat.le_of_ble_eq_true rfl) (Nat.le_of_ble_eq_true rfl) wf_X1_21 rfl (gO_of g1) (gN_of g2) dX1_factHolds_104 ?_
          obtain ⟨M10, e10, h⟩ := b1_some h
          refine fw_callV (ci := 7) [] C (c_X7_advance hl e10) cal_X7_advance wm_X1_52 wi_yX7_advance wsl_yX7_advance (Nat.le_of_ble_eq_true rfl) rfl (gO_of g4) rfl (Nat.le_of_ble_eq_true rfl) (fw_room (by omega) (by omega)) ⟨Nat.zero_le _, Nat.zero_le _⟩ dX1_factHolds_107 ?_
          refine fw_aload_n C 2 dX1_factHolds_110 rfl rfl ?_
          refine fw_iload_n C 3 dX1_factHolds_111 rfl rfl ?_
          refine fw_iconst C 1 dX1_factHolds_112 rfl ?_
          refine fw_iadd C dX1_factHolds_113 ?_
          obtain ⟨v11, M11, e11, h⟩ := b2_some h
          refine fw_callV (ci := 1) [_] C (hq0 e11) cal_X1_anyHolds wm_X1_55 wi_yX1_anyHolds wsl_yX1_anyHolds (Nat.le_of_ble_eq_true rfl) rfl (gO_of g1) rfl (Nat.le_of_ble_eq_true rfl) (fw_room (by omega) (by omega)) ⟨Nat.zero_le _, Nat.zero_le _⟩ dX1_factHolds_114 ?_
          refine fw_istore C [(4, _), (3, _), (2, _), (0, _), (1, _)] dX1_factHolds_117 (Nat.le_of_ble_eq_true rfl) rfl ?_
          refine fw_aload_n C 3 dX1_factHolds_119 rfl rfl ?_
          obtain ⟨g12, h⟩ := gd_some h
          refine fw_getR C 1 0 (Nat.le_of_ble_eq_true rfl) (Nat.le_of_ble_eq_true rfl) wf_X1_21 rfl (gO_of g1) (gN_of g12) dX1_factHolds_120 ?_
          refine fw_bipush C 125 dX1_factHolds_123 rfl ?_
          obtain ⟨g14, h⟩ := gd_some h
          obtain ⟨M13, e13, h⟩ := b1_some h
          refine fw_callV (ci := 7) [_] C (c_X7_passSign hl e13) cal_X7_passSign wm_X1_94 wi_yX7_passSign wsl_yX7_passSign (Nat.le_of_ble_eq_true rfl) rfl (gO_of g14) rfl (Nat.le_of_ble_eq_true rfl) (fw_room (by omega) (by omega)) ⟨Nat.zero_le _, Nat.zero_le _⟩ dX1_factHolds_125 ?_
          refine fw_iload C 0 dX1_factHolds_128 rfl ?_
          obtain rfl := Option.some.inj h
          exact fw_iret C hr hlk dX1_factHolds_130
        · replace h := (if_pos c9).symm.trans h
          refine fw_aload_n C 2 dX1_factHolds_98 rfl rfl ?_
          obtain ⟨v15, M15, e15, h⟩ := b2_some h
          refine fw_callV (ci := 1) [] C (c_X1_compare hl e15) cal_X1_compare wm_X1_90 wi_yX1_compare wsl_yX1_compare (Nat.le_of_ble_eq_true rfl) rfl (gO_of g1) rfl (Nat.le_of_ble_eq_true rfl) (fw_room (by omega) (by omega)) ⟨Nat.zero_le _, Nat.zero_le _⟩ dX1_factHolds_99 ?_
          obtain rfl := Option.some.inj h
          exact fw_iret C hr hlk dX1_factHolds_102
      · replace h := (if_neg c8).symm.trans h
        refine fw_aload_n C 2 dX1_factHolds_68 rfl rfl ?_
        refine fw_getR C 1 0 (Nat.le_of_ble_eq_true rfl) (Nat.le_of_ble_eq_true rfl) wf_X1_21 rfl (gO_of g1) (gN_of g2) dX1_factHolds_69 ?_
        obtain ⟨M16, e16, h⟩ := b1_some h
        refine fw_callV (ci := 7) [] C (c_X7_advance hl e16) cal_X7_advance wm_X1_52 wi_yX7_advance wsl_yX7_advance (Nat.le_of_ble_eq_true rfl) rfl (gO_of g4) rfl (Nat.le_of_ble_eq_true rfl) (fw_room (by omega) (by omega)) ⟨Nat.zero_le _, Nat.zero_le _⟩ dX1_factHolds_72 ?_
        refine fw_aload_n C 2 dX1_factHolds_75 rfl rfl ?_
        refine fw_iload_n C 3 dX1_factHolds_76 rfl rfl ?_
        refine fw_iconst C 1 dX1_factHolds_77 rfl ?_
        refine fw_iadd C dX1_factHolds_78 ?_
        obtain ⟨v17, M17, e17, h⟩ := b2_some h
        refine fw_callV (ci := 1) [_] C (hq2 e17) cal_X1_factHolds wm_X1_79 wi_yX1_factHolds wsl_yX1_factHolds (Nat.le_of_ble_eq_true rfl) rfl (gO_of g1) rfl (Nat.le_of_ble_eq_true rfl) (fw_room (by omega) (by omega)) ⟨Nat.zero_le _, Nat.zero_le _⟩ dX1_factHolds_79 ?_
        refine fw_iconst C (-1) dX1_factHolds_82 rfl ?_
        refine fw_ixor C dX1_factHolds_83 ?_
        refine fw_iconst C 1 dX1_factHolds_84 rfl ?_
        refine fw_aload_n C 2 dX1_factHolds_85 rfl rfl ?_
        refine fw_getI C 1 4 (Nat.le_of_ble_eq_true rfl) (Nat.le_of_ble_eq_true rfl) wf_X1_31 rfl (gO_of g1) dX1_factHolds_86 ?_
        refine fw_ishl C dX1_factHolds_89 ?_
        refine fw_iconst C 1 dX1_factHolds_90 rfl ?_
        refine fw_isub C dX1_factHolds_91 ?_
        refine fw_iand C dX1_factHolds_92 ?_
        obtain rfl := Option.some.inj h
        exact fw_iret C hr hlk dX1_factHolds_93
    · replace h := (if_neg c7).symm.trans h
      refine fw_iconst C 0 dX1_factHolds_62 rfl ?_
      obtain rfl := Option.some.inj h
      exact fw_iret C hr hlk dX1_factHolds_63
  · replace h := (if_pos c6).symm.trans h
    refine fw_iload_n C 1 dX1_factHolds_30 rfl rfl ?_
    refine fw_if_ne C 38 dX1_factHolds_31 (by decide) (fun c18 => ?_) (fun c18 => ?_)
    · replace h := (if_neg c18).symm.trans h
      refine fw_iload_n C 3 dX1_factHolds_38 rfl rfl ?_
      refine fw_bipush C 6 dX1_factHolds_39 rfl ?_
      refine fw_icmp_lt C 52 dX1_factHolds_41 (by decide) (fun c19 => ?_) (fun c19 => ?_)
      · replace h := (if_pos c19).symm.trans h
        refine fw_aload_n C 2 dX1_factHolds_52 rfl rfl ?_
        refine fw_getR C 1 0 (Nat.le_of_ble_eq_true rfl) (Nat.le_of_ble_eq_true rfl) wf_X1_21 rfl (gO_of g1) (gN_of g2) dX1_factHolds_53 ?_
        refine fw_getI C 7 7 (Nat.le_of_ble_eq_true rfl) (Nat.le_of_ble_eq_true rfl) wf_X1_62 rfl (gO_of g4) dX1_factHolds_56 ?_
        refine fw_if_eq C 64 dX1_factHolds_59 (by decide) (fun c20 => ?_) (fun c20 => ?_)
        · replace h := (if_pos c20).symm.trans h
          refine fw_iload_n C 1 dX1_factHolds_64 rfl rfl ?_
          refine fw_if_eq C 94 dX1_factHolds_65 (by decide) (fun c21 => ?_) (fun c21 => ?_)
          · replace h := (if_pos c21).symm.trans h
            refine fw_iload_n C 0 dX1_factHolds_94 rfl rfl ?_
            refine fw_if_ne C 103 dX1_factHolds_95 (by decide) (fun c22 => ?_) (fun c22 => ?_)
            · replace h := (if_neg c22).symm.trans h
              refine fw_aload_n C 2 dX1_factHolds_103 rfl rfl ?_
              refine fw_getR C 1 0 (Nat.le_of_ble_eq_true rfl) (Nat.le_of_ble_eq_true rfl) wf_X1_21 rfl (gO_of g1) (gN_of g2) dX1_factHolds_104 ?_
              obtain ⟨M23, e23, h⟩ := b1_some h
              refine fw_callV (ci := 7) [] C (c_X7_advance hl e23) cal_X7_advance wm_X1_52 wi_yX7_advance wsl_yX7_advance (Nat.le_of_ble_eq_true rfl) rfl (gO_of g4) rfl (Nat.le_of_ble_eq_true rfl) (fw_room (by omega) (by omega)) ⟨Nat.zero_le _, Nat.zero_le _⟩ dX1_factHolds_107 ?_
              refine fw_aload_n C 2 dX1_factHolds_110 rfl rfl ?_
              refine fw_iload_n C 3 dX1_factHolds_111 rfl rfl ?_
              refine fw_iconst C 1 dX1_factHolds_112 rfl ?_
              refine fw_iadd C dX1_factHolds_113 ?_
              obtain ⟨v24, M24, e24, h⟩ := b2_some h
              refine fw_callV (ci := 1) [_] C (hq0 e24) cal_X1_anyHolds wm_X1_55 wi_yX1_anyHolds wsl_yX1_anyHolds (Nat.le_of_ble_eq_true rfl) rfl (gO_of g1) rfl (Nat.le_of_ble_eq_true rfl) (fw_room (by omega) (by omega)) ⟨Nat.zero_le _, Nat.zero_le _⟩ dX1_factHolds_114 ?_
              refine fw_istore C [(4, _), (3, _), (2, _), (0, _), (1, _)] dX1_factHolds_117 (Nat.le_of_ble_eq_true rfl) rfl ?_
              refine fw_aload_n C 3 dX1_factHolds_119 rfl rfl ?_
              obtain ⟨g25, h⟩ := gd_some h
              refine fw_getR C 1 0 (Nat.le_of_ble_eq_true rfl) (Nat.le_of_ble_eq_true rfl) wf_X1_21 rfl (gO_of g1) (gN_of g25) dX1_factHolds_120 ?_
              refine fw_bipush C 125 dX1_factHolds_123 rfl ?_
              obtain ⟨g27, h⟩ := gd_some h
              obtain ⟨M26, e26, h⟩ := b1_some h
              refine fw_callV (ci := 7) [_] C (c_X7_passSign hl e26) cal_X7_passSign wm_X1_94 wi_yX7_passSign wsl_yX7_passSign (Nat.le_of_ble_eq_true rfl) rfl (gO_of g27) rfl (Nat.le_of_ble_eq_true rfl) (fw_room (by omega) (by omega)) ⟨Nat.zero_le _, Nat.zero_le _⟩ dX1_factHolds_125 ?_
              refine fw_iload C 0 dX1_factHolds_128 rfl ?_
              obtain rfl := Option.some.inj h
              exact fw_iret C hr hlk dX1_factHolds_130
            · replace h := (if_pos c22).symm.trans h
              refine fw_aload_n C 2 dX1_factHolds_98 rfl rfl ?_
              obtain ⟨v28, M28, e28, h⟩ := b2_some h
              refine fw_callV (ci := 1) [] C (c_X1_compare hl e28) cal_X1_compare wm_X1_90 wi_yX1_compare wsl_yX1_compare (Nat.le_of_ble_eq_true rfl) rfl (gO_of g1) rfl (Nat.le_of_ble_eq_true rfl) (fw_room (by omega) (by omega)) ⟨Nat.zero_le _, Nat.zero_le _⟩ dX1_factHolds_99 ?_
              obtain rfl := Option.some.inj h
              exact fw_iret C hr hlk dX1_factHolds_102
          · replace h := (if_neg c21).symm.trans h
            refine fw_aload_n C 2 dX1_factHolds_68 rfl rfl ?_
            refine fw_getR C 1 0 (Nat.le_of_ble_eq_true rfl) (Nat.le_of_ble_eq_true rfl) wf_X1_21 rfl (gO_of g1) (gN_of g2) dX1_factHolds_69 ?_
            obtain ⟨M29, e29, h⟩ := b1_some h
            refine fw_callV (ci := 7) [] C (c_X7_advance hl e29) cal_X7_advance wm_X1_52 wi_yX7_advance wsl_yX7_advance (Nat.le_of_ble_eq_true rfl) rfl (gO_of g4) rfl (Nat.le_of_ble_eq_true rfl) (fw_room (by omega) (by omega)) ⟨Nat.zero_le _, Nat.zero_le _⟩ dX1_factHolds_72 ?_
            refine fw_aload_n C 2 dX1_factHolds_75 rfl rfl ?_
            refine fw_iload_n C 3 dX1_factHolds_76 rfl rfl ?_
            refine fw_iconst C 1 dX1_factHolds_77 rfl ?_
            refine fw_iadd C dX1_factHolds_78 ?_
            obtain ⟨v30, M30, e30, h⟩ := b2_some h
            refine fw_callV (ci := 1) [_] C (hq2 e30) cal_X1_factHolds wm_X1_79 wi_yX1_factHolds wsl_yX1_factHolds (Nat.le_of_ble_eq_true rfl) rfl (gO_of g1) rfl (Nat.le_of_ble_eq_true rfl) (fw_room (by omega) (by omega)) ⟨Nat.zero_le _, Nat.zero_le _⟩ dX1_factHolds_79 ?_
            refine fw_iconst C (-1) dX1_factHolds_82 rfl ?_
            refine fw_ixor C dX1_factHolds_83 ?_
            refine fw_iconst C 1 dX1_factHolds_84 rfl ?_
            refine fw_aload_n C 2 dX1_factHolds_85 rfl rfl ?_
            refine fw_getI C 1 4 (Nat.le_of_ble_eq_true rfl) (Nat.le_of_ble_eq_true rfl) wf_X1_31 rfl (gO_of g1) dX1_factHolds_86 ?_
            refine fw_ishl C dX1_factHolds_89 ?_
            refine fw_iconst C 1 dX1_factHolds_90 rfl ?_
            refine fw_isub C dX1_factHolds_91 ?_
            refine fw_iand C dX1_factHolds_92 ?_
            obtain rfl := Option.some.inj h
            exact fw_iret C hr hlk dX1_factHolds_93
        · replace h := (if_neg c20).symm.trans h
          refine fw_iconst C 0 dX1_factHolds_62 rfl ?_
          obtain rfl := Option.some.inj h
          exact fw_iret C hr hlk dX1_factHolds_63
      · replace h := (if_neg c19).symm.trans h
        refine fw_aload_n C 2 dX1_factHolds_44 rfl rfl ?_
        refine fw_getR C 1 0 (Nat.le_of_ble_eq_true rfl) (Nat.le_of_ble_eq_true rfl) wf_X1_21 rfl (gO_of g1) (gN_of g2) dX1_factHolds_45 ?_
        refine fw_iconst C 3 dX1_factHolds_48 rfl ?_
        obtain ⟨M31, e31, h⟩ := b1_some h
        refine fw_callV (ci := 7) [_] C (c_X7_fail hl e31) cal_X7_fail wm_X1_49 wi_yX7_fail wsl_yX7_fail (Nat.le_of_ble_eq_true rfl) rfl (gO_of g4) rfl (Nat.le_of_ble_eq_true rfl) (fw_room (by omega) (by omega)) ⟨Nat.zero_le _, Nat.zero_le _⟩ dX1_factHolds_49 ?_
        refine fw_sub [2, 3, 1, 0] rfl ?_
        exact jc_X1_factHolds_52 C hr hlk hl ht hd hq0 hq1 hq2 rfl h
    · replace h := (if_pos c18).symm.trans h
      refine fw_iload_n C 0 dX1_factHolds_34 rfl rfl ?_
      refine fw_if_eq C 52 dX1_factHolds_35 (by decide) (fun c46 => ?_) (fun c46 => ?_)
      · replace h := (if_pos c46).symm.trans h
        refine fw_aload_n C 2 dX1_factHolds_52 rfl rfl ?_
        refine fw_getR C 1 0 (Nat.le_of_ble_eq_true rfl) (Nat.le_of_ble_eq_true rfl) wf_X1_21 rfl (gO_of g1) (gN_of g2) dX1_factHolds_53 ?_
        refine fw_getI C 7 7 (Nat.le_of_ble_eq_true rfl) (Nat.le_of_ble_eq_true rfl) wf_X1_62 rfl (gO_of g4) dX1_factHolds_56 ?_
        refine fw_if_eq C 64 dX1_factHolds_59 (by decide) (fun c47 => ?_) (fun c47 => ?_)
        · replace h := (if_pos c47).symm.trans h
          refine fw_iload_n C 1 dX1_factHolds_64 rfl rfl ?_
          refine fw_if_eq C 94 dX1_factHolds_65 (by decide) (fun c48 => ?_) (fun c48 => ?_)
          · replace h := (if_pos c48).symm.trans h
            refine fw_iload_n C 0 dX1_factHolds_94 rfl rfl ?_
            refine fw_if_ne C 103 dX1_factHolds_95 (by decide) (fun c49 => ?_) (fun c49 => ?_)
            · replace h := (if_neg c49).symm.trans h
              refine fw_aload_n C 2 dX1_factHolds_103 rfl rfl ?_
              refine fw_getR C 1 0 (Nat.le_of_ble_eq_true rfl) (Nat.le_of_ble_eq_true rfl) wf_X1_21 rfl (gO_of g1) (gN_of g2) dX1_factHolds_104 ?_
              obtain ⟨M50, e50, h⟩ := b1_some h
              refine fw_callV (ci := 7) [] C (c_X7_advance hl e50) cal_X7_advance wm_X1_52 wi_yX7_advance wsl_yX7_advance (Nat.le_of_ble_eq_true rfl) rfl (gO_of g4) rfl (Nat.le_of_ble_eq_true rfl) (fw_room (by omega) (by omega)) ⟨Nat.zero_le _, Nat.zero_le _⟩ dX1_factHolds_107 ?_
              refine fw_aload_n C 2 dX1_factHolds_110 rfl rfl ?_
              refine fw_iload_n C 3 dX1_factHolds_111 rfl rfl ?_
              refine fw_iconst C 1 dX1_factHolds_112 rfl ?_
              refine fw_iadd C dX1_factHolds_113 ?_
              obtain ⟨v51, M51, e51, h⟩ := b2_some h
              refine fw_callV (ci := 1) [_] C (hq0 e51) cal_X1_anyHolds wm_X1_55 wi_yX1_anyHolds wsl_yX1_anyHolds (Nat.le_of_ble_eq_true rfl) rfl (gO_of g1) rfl (Nat.le_of_ble_eq_true rfl) (fw_room (by omega) (by omega)) ⟨Nat.zero_le _, Nat.zero_le _⟩ dX1_factHolds_114 ?_
              refine fw_istore C [(4, _), (3, _), (2, _), (0, _), (1, _)] dX1_factHolds_117 (Nat.le_of_ble_eq_true rfl) rfl ?_
              refine fw_aload_n C 3 dX1_factHolds_119 rfl rfl ?_
              obtain ⟨g52, h⟩ := gd_some h
              refine fw_getR C 1 0 (Nat.le_of_ble_eq_true rfl) (Nat.le_of_ble_eq_true rfl) wf_X1_21 rfl (gO_of g1) (gN_of g52) dX1_factHolds_120 ?_
              refine fw_bipush C 125 dX1_factHolds_123 rfl ?_
              obtain ⟨g54, h⟩ := gd_some h
              obtain ⟨M53, e53, h⟩ := b1_some h
              refine fw_callV (ci := 7) [_] C (c_X7_passSign hl e53) cal_X7_passSign wm_X1_94 wi_yX7_passSign wsl_yX7_passSign (Nat.le_of_ble_eq_true rfl) rfl (gO_of g54) rfl (Nat.le_of_ble_eq_true rfl) (fw_room (by omega) (by omega)) ⟨Nat.zero_le _, Nat.zero_le _⟩ dX1_factHolds_125 ?_
              refine fw_iload C 0 dX1_factHolds_128 rfl ?_
              obtain rfl := Option.some.inj h
              exact fw_iret C hr hlk dX1_factHolds_130
            · replace h := (if_pos c49).symm.trans h
              refine fw_aload_n C 2 dX1_factHolds_98 rfl rfl ?_
              obtain ⟨v55, M55, e55, h⟩ := b2_some h
              refine fw_callV (ci := 1) [] C (c_X1_compare hl e55) cal_X1_compare wm_X1_90 wi_yX1_compare wsl_yX1_compare (Nat.le_of_ble_eq_true rfl) rfl (gO_of g1) rfl (Nat.le_of_ble_eq_true rfl) (fw_room (by omega) (by omega)) ⟨Nat.zero_le _, Nat.zero_le _⟩ dX1_factHolds_99 ?_
              obtain rfl := Option.some.inj h
              exact fw_iret C hr hlk dX1_factHolds_102
          · replace h := (if_neg c48).symm.trans h
            refine fw_aload_n C 2 dX1_factHolds_68 rfl rfl ?_
            refine fw_getR C 1 0 (Nat.le_of_ble_eq_true rfl) (Nat.le_of_ble_eq_true rfl) wf_X1_21 rfl (gO_of g1) (gN_of g2) dX1_factHolds_69 ?_
            obtain ⟨M56, e56, h⟩ := b1_some h
            refine fw_callV (ci := 7) [] C (c_X7_advance hl e56) cal_X7_advance wm_X1_52 wi_yX7_advance wsl_yX7_advance (Nat.le_of_ble_eq_true rfl) rfl (gO_of g4) rfl (Nat.le_of_ble_eq_true rfl) (fw_room (by omega) (by omega)) ⟨Nat.zero_le _, Nat.zero_le _⟩ dX1_factHolds_72 ?_
            refine fw_aload_n C 2 dX1_factHolds_75 rfl rfl ?_
            refine fw_iload_n C 3 dX1_factHolds_76 rfl rfl ?_
            refine fw_iconst C 1 dX1_factHolds_77 rfl ?_
            refine fw_iadd C dX1_factHolds_78 ?_
            obtain ⟨v57, M57, e57, h⟩ := b2_some h
            refine fw_callV (ci := 1) [_] C (hq2 e57) cal_X1_factHolds wm_X1_79 wi_yX1_factHolds wsl_yX1_factHolds (Nat.le_of_ble_eq_true rfl) rfl (gO_of g1) rfl (Nat.le_of_ble_eq_true rfl) (fw_room (by omega) (by omega)) ⟨Nat.zero_le _, Nat.zero_le _⟩ dX1_factHolds_79 ?_
            refine fw_iconst C (-1) dX1_factHolds_82 rfl ?_
            refine fw_ixor C dX1_factHolds_83 ?_
            refine fw_iconst C 1 dX1_factHolds_84 rfl ?_
            refine fw_aload_n C 2 dX1_factHolds_85 rfl rfl ?_
            refine fw_getI C 1 4 (Nat.le_of_ble_eq_true rfl) (Nat.le_of_ble_eq_true rfl) wf_X1_31 rfl (gO_of g1) dX1_factHolds_86 ?_
            refine fw_ishl C dX1_factHolds_89 ?_
            refine fw_iconst C 1 dX1_factHolds_90 rfl ?_
            refine fw_isub C dX1_factHolds_91 ?_
            refine fw_iand C dX1_factHolds_92 ?_
            obtain rfl := Option.some.inj h
            exact fw_iret C hr hlk dX1_factHolds_93
        · replace h := (if_neg c47).symm.trans h
          refine fw_iconst C 0 dX1_factHolds_62 rfl ?_
          obtain rfl := Option.some.inj h
          exact fw_iret C hr hlk dX1_factHolds_63
      · replace h := (if_neg c46).symm.trans h
        refine fw_iload_n C 3 dX1_factHolds_38 rfl rfl ?_
        refine fw_bipush C 6 dX1_factHolds_39 rfl ?_
        refine fw_icmp_lt C 52 dX1_factHolds_41 (by decide) (fun c58 => ?_) (fun c58 => ?_)
        · replace h := (if_pos c58).symm.trans h
          refine fw_aload_n C 2 dX1_factHolds_52 rfl rfl ?_
          refine fw_getR C 1 0 (Nat.le_of_ble_eq_true rfl) (Nat.le_of_ble_eq_true rfl) wf_X1_21 rfl (gO_of g1) (gN_of g2) dX1_factHolds_53 ?_
          refine fw_getI C 7 7 (Nat.le_of_ble_eq_true rfl) (Nat.le_of_ble_eq_true rfl) wf_X1_62 rfl (gO_of g4) dX1_factHolds_56 ?_
          refine fw_if_eq C 64 dX1_factHolds_59 (by decide) (fun c59 => ?_) (fun c59 => ?_)
          · replace h := (if_pos c59).symm.trans h
            refine fw_iload_n C 1 dX1_factHolds_64 rfl rfl ?_
            refine fw_if_eq C 94 dX1_factHolds_65 (by decide) (fun c60 => ?_) (fun c60 => ?_)
            · replace h := (if_pos c60).symm.trans h
              refine fw_iload_n C 0 dX1_factHolds_94 rfl rfl ?_
              refine fw_if_ne C 103 dX1_factHolds_95 (by decide) (fun c61 => ?_) (fun c61 => ?_)
              · replace h := (if_neg c61).symm.trans h
                refine fw_aload_n C 2 dX1_factHolds_103 rfl rfl ?_
                refine fw_getR C 1 0 (Nat.le_of_ble_eq_true rfl) (Nat.le_of_ble_eq_true rfl) wf_X1_21 rfl (gO_of g1) (gN_of g2) dX1_factHolds_104 ?_
                obtain ⟨M62, e62, h⟩ := b1_some h
                refine fw_callV (ci := 7) [] C (c_X7_advance hl e62) cal_X7_advance wm_X1_52 wi_yX7_advance wsl_yX7_advance (Nat.le_of_ble_eq_true rfl) rfl (gO_of g4) rfl (Nat.le_of_ble_eq_true rfl) (fw_room (by omega) (by omega)) ⟨Nat.zero_le _, Nat.zero_le _⟩ dX1_factHolds_107 ?_
                refine fw_aload_n C 2 dX1_factHolds_110 rfl rfl ?_
                refine fw_iload_n C 3 dX1_factHolds_111 rfl rfl ?_
                refine fw_iconst C 1 dX1_factHolds_112 rfl ?_
                refine fw_iadd C dX1_factHolds_113 ?_
                obtain ⟨v63, M63, e63, h⟩ := b2_some h
                refine fw_callV (ci := 1) [_] C (hq0 e63) cal_X1_anyHolds wm_X1_55 wi_yX1_anyHolds wsl_yX1_anyHolds (Nat.le_of_ble_eq_true rfl) rfl (gO_of g1) rfl (Nat.le_of_ble_eq_true rfl) (fw_room (by omega) (by omega)) ⟨Nat.zero_le _, Nat.zero_le _⟩ dX1_factHolds_114 ?_
                refine fw_istore C [(4, _), (3, _), (2, _), (0, _), (1, _)] dX1_factHolds_117 (Nat.le_of_ble_eq_true rfl) rfl ?_
                refine fw_aload_n C 3 dX1_factHolds_119 rfl rfl ?_
                obtain ⟨g64, h⟩ := gd_some h
                refine fw_getR C 1 0 (Nat.le_of_ble_eq_true rfl) (Nat.le_of_ble_eq_true rfl) wf_X1_21 rfl (gO_of g1) (gN_of g64) dX1_factHolds_120 ?_
                refine fw_bipush C 125 dX1_factHolds_123 rfl ?_
                obtain ⟨g66, h⟩ := gd_some h
                obtain ⟨M65, e65, h⟩ := b1_some h
                refine fw_callV (ci := 7) [_] C (c_X7_passSign hl e65) cal_X7_passSign wm_X1_94 wi_yX7_passSign wsl_yX7_passSign (Nat.le_of_ble_eq_true rfl) rfl (gO_of g66) rfl (Nat.le_of_ble_eq_true rfl) (fw_room (by omega) (by omega)) ⟨Nat.zero_le _, Nat.zero_le _⟩ dX1_factHolds_125 ?_
                refine fw_iload C 0 dX1_factHolds_128 rfl ?_
                obtain rfl := Option.some.inj h
                exact fw_iret C hr hlk dX1_factHolds_130
              · replace h := (if_pos c61).symm.trans h
                refine fw_aload_n C 2 dX1_factHolds_98 rfl rfl ?_
                obtain ⟨v67, M67, e67, h⟩ := b2_some h
                refine fw_callV (ci := 1) [] C (c_X1_compare hl e67) cal_X1_compare wm_X1_90 wi_yX1_compare wsl_yX1_compare (Nat.le_of_ble_eq_true rfl) rfl (gO_of g1) rfl (Nat.le_of_ble_eq_true rfl) (fw_room (by omega) (by omega)) ⟨Nat.zero_le _, Nat.zero_le _⟩ dX1_factHolds_99 ?_
                obtain rfl := Option.some.inj h
                exact fw_iret C hr hlk dX1_factHolds_102
            · replace h := (if_neg c60).symm.trans h
              refine fw_aload_n C 2 dX1_factHolds_68 rfl rfl ?_
              refine fw_getR C 1 0 (Nat.le_of_ble_eq_true rfl) (Nat.le_of_ble_eq_true rfl) wf_X1_21 rfl (gO_of g1) (gN_of g2) dX1_factHolds_69 ?_
              obtain ⟨M68, e68, h⟩ := b1_some h
              refine fw_callV (ci := 7) [] C (c_X7_advance hl e68) cal_X7_advance wm_X1_52 wi_yX7_advance wsl_yX7_advance (Nat.le_of_ble_eq_true rfl) rfl (gO_of g4) rfl (Nat.le_of_ble_eq_true rfl) (fw_room (by omega) (by omega)) ⟨Nat.zero_le _, Nat.zero_le _⟩ dX1_factHolds_72 ?_
              refine fw_aload_n C 2 dX1_factHolds_75 rfl rfl ?_
              refine fw_iload_n C 3 dX1_factHolds_76 rfl rfl ?_
              refine fw_iconst C 1 dX1_factHolds_77 rfl ?_
              refine fw_iadd C dX1_factHolds_78 ?_
              obtain ⟨v69, M69, e69, h⟩ := b2_some h
              refine fw_callV (ci := 1) [_] C (hq2 e69) cal_X1_factHolds wm_X1_79 wi_yX1_factHolds wsl_yX1_factHolds (Nat.le_of_ble_eq_true rfl) rfl (gO_of g1) rfl (Nat.le_of_ble_eq_true rfl) (fw_room (by omega) (by omega)) ⟨Nat.zero_le _, Nat.zero_le _⟩ dX1_factHolds_79 ?_
              refine fw_iconst C (-1) dX1_factHolds_82 rfl ?_
              refine fw_ixor C dX1_factHolds_83 ?_
              refine fw_iconst C 1 dX1_factHolds_84 rfl ?_
              refine fw_aload_n C 2 dX1_factHolds_85 rfl rfl ?_
              refine fw_getI C 1 4 (Nat.le_of_ble_eq_true rfl) (Nat.le_of_ble_eq_true rfl) wf_X1_31 rfl (gO_of g1) dX1_factHolds_86 ?_
              refine fw_ishl C dX1_factHolds_89 ?_
              refine fw_iconst C 1 dX1_factHolds_90 rfl ?_
              refine fw_isub C dX1_factHolds_91 ?_
              refine fw_iand C dX1_factHolds_92 ?_
              obtain rfl := Option.some.inj h
              exact fw_iret C hr hlk dX1_factHolds_93
          · replace h := (if_neg c59).symm.trans h
            refine fw_iconst C 0 dX1_factHolds_62 rfl ?_
            obtain rfl := Option.some.inj h
            exact fw_iret C hr hlk dX1_factHolds_63
        · replace h := (if_neg c58).symm.trans h
          refine fw_aload_n C 2 dX1_factHolds_44 rfl rfl ?_
          refine fw_getR C 1 0 (Nat.le_of_ble_eq_true rfl) (Nat.le_of_ble_eq_true rfl) wf_X1_21 rfl (gO_of g1) (gN_of g2) dX1_factHolds_45 ?_
          refine fw_iconst C 3 dX1_factHolds_48 rfl ?_
          obtain ⟨M70, e70, h⟩ := b1_some h
          refine fw_callV (ci := 7) [_] C (c_X7_fail hl e70) cal_X7_fail wm_X1_49 wi_yX7_fail wsl_yX7_fail (Nat.le_of_ble_eq_true rfl) rfl (gO_of g4) rfl (Nat.le_of_ble_eq_true rfl) (fw_room (by omega) (by omega)) ⟨Nat.zero_le _, Nat.zero_le _⟩ dX1_factHolds_49 ?_
          refine fw_sub [2, 3, 1, 0] rfl ?_
          exact jc_X1_factHolds_52 C hr hlk hl ht hd hq0 hq1 hq2 rfl h
set_option maxRecDepth 100000 in
def rf_X1 : Nat → Nat → List fw_Sh → fw_Mem → Nat → Int32 → Option (Int32 × fw_Mem)
  | 0, _, _, _, _, _ => none
  | d + 1, k, S, M, a, x => if k = 0 then f_X1_anyHolds (rf_X1 d 0) (rf_X1 d 1) (rf_X1 d 2) S M a x else if k = 1 then f_X1_allHold (rf_X1 d 0) (rf_X1 d 1) (rf_X1 d 2) S M a x else f_X1_factHolds (rf_X1 d 0) (rf_X1 d 1) (rf_X1 d 2) S M a x
set_option maxHeartbeats 4000000 in
set_option maxRecDepth 100000 in
theorem cr_X1 {l : Launch} {G : fw_G} (hl : l.stackTraces = false) : ∀ d : Nat, (∀ {S : List fw_Sh} {M : fw_Mem} {a : Nat} {x : Int32} {r : Int32 × fw_Mem}, rf_X1 d 0 S M a x = some r → fw_M l G yX1_anyHolds (.code yX1_anyHolds cX1_anyHolds 4 (some .int)) (20 + d) (fw_mcO (.inl (some (.int r.1)), S, r.2)) (fw_msO (.inl (some (.int r.1)), S, r.2)) S M [.ref a, .int x] (.inl (some (.int r.1)), S, r.2)) ∧ (∀ {S : List fw_Sh} {M : fw_Mem} {a : Nat} {x : Int32} {r : Int32 × fw_Mem}, rf_X1 d 1 S M a x = some r → fw_M l G yX1_allHold (.code yX1_allHold cX1_allHold 4 (some .int)) (20 + d) (fw_mcO (.inl (some (.int r.1)), S, r.2)) (fw_msO (.inl (some (.int r.1)), S, r.2)) S M [.ref a, .int x] (.inl (some (.int r.1)), S, r.2)) ∧ (∀ {S : List fw_Sh} {M : fw_Mem} {a : Nat} {x : Int32} {r : Int32 × fw_Mem}, rf_X1 d 2 S M a x = some r → fw_M l G yX1_factHolds (.code yX1_factHolds cX1_factHolds 5 (some .int)) (20 + d) (fw_mcO (.inl (some (.int r.1)), S, r.2)) (fw_msO (.inl (some (.int r.1)), S, r.2)) S M [.ref a, .int x] (.inl (some (.int r.1)), S, r.2)) := by
  intro d
  induction d with
  | zero =>
    refine ⟨fun {S M a x r} h => ?_, fun {S M a x r} h => ?_, fun {S M a x r} h => ?_⟩ <;> exact nomatch (show (none : Option (Int32 × fw_Mem)) = some r from h)
  | succ d ih =>
    obtain ⟨i0, i1, i2⟩ := ih
    exact ⟨fun {S M a x r} h => c_X1_anyHolds hl (Nat.le_add_right 20 d) i0 i1 i2 h, fun {S M a x r} h => c_X1_allHold hl (Nat.le_add_right 20 d) i0 i1 i2 h, fun {S M a x r} h => c_X1_factHolds hl (Nat.le_add_right 20 d) i0 i1 i2 h⟩
set_option maxRecDepth 100000 in
def fj_X1_answer_84 (S : List fw_Sh) (M : fw_Mem) (a0 : Nat) (x3 : Int32) (x4 : Int32) : Option (Int32 × fw_Mem) := gd (gO S 1 a0) (gd (gN (M a0 0)) (gd (gO S 7 ((M a0 0).toNatClampNeg)) (if (M ((M a0 0).toNatClampNeg) 7) = 0 then (if x3 = 0 then (b1 (f_X9_lowestBit S M x4) (fun v25 => some (v25, M))) else (b1 (f_J6_bitCount_0f7a4 S M x4) (fun v26 => some (v26, M)))) else (some ((((-1000000000) : Int32) - (M ((M a0 0).toNatClampNeg) 7)), M)))))
set_option maxHeartbeats 4000000 in
set_option maxRecDepth 100000 in
theorem jc_X1_answer_84 {G : fw_G} {p : Program} {l : Launch} {e : Env} {s : State} {m : MethodId} {args : Array Value} {below : List Frame} {meth : Method} {c : Code} {S : List fw_Sh} {M : fw_Mem} {a0 : Nat} {x3 : Int32} {x4 : Int32} {r : (Int32 × fw_Mem)} {o : fw_O} (C : fw_C G RX1 cX1_answer 5 p s m args c) (hr : meth.sig.returnType = (some .int)) (hlk : meth.locks = false) (hl : l.stackTraces = false) (ht : ∀ x ∈ c.exceptionTable.toList, False) (ho : o = (.inl (some (.int r.1)), S, r.2)) (h : fj_X1_answer_84 S M a0 x3 x4 = some r) :
    fw_W G p l e (fw_rm 51 (fw_mcO o) (fw_msO o)) s m args below meth c 5 (fw_Z G below args s (fw_mcO o) (fw_msO o) o) 0 0 84 [(0, .ref a0), (3, .int x3), (4, .int x4)] [] S M := by
  subst ho
  unfold fj_X1_answer_84 at h
  refine fw_aload_n C 0 dX1_answer_84 rfl rfl ?_
  obtain ⟨g20, h⟩ := gd_some h
  obtain ⟨g21, h⟩ := gd_some h
  refine fw_getR C 1 0 (Nat.le_of_ble_eq_true rfl) (Nat.le_of_ble_eq_true rfl) wf_X1_21 rfl (gO_of g20) (gN_of g21) dX1_answer_85 ?_
  obtain ⟨g22, h⟩ := gd_some h
  refine fw_getI C 7 7 (Nat.le_of_ble_eq_true rfl) (Nat.le_of_ble_eq_true rfl) wf_X1_62 rfl (gO_of g22) dX1_answer_88 ?_
  refine fw_if_eq C 105 dX1_answer_91 (by decide) (fun c23 => ?_) (fun c23 => ?_)
  · replace h := (if_pos c23).symm.trans h
    refine fw_iload_n C 1 dX1_answer_105 rfl rfl ?_
    refine fw_if_eq C 117 dX1_answer_106 (by decide) (fun c24 => ?_) (fun c24 => ?_)
    · replace h := (if_pos c24).symm.trans h
      refine fw_iload C 2 dX1_answer_117 rfl ?_
      obtain ⟨v25, e25, h⟩ := b1_some h
      refine fw_callSN [_] C (c_X9_lowestBit hl e25) cal_X9_lowestBit (List.mem_of_getElem? (i := 4) rfl) wt_yX9_lowestBit rfl (Nat.le_of_ble_eq_true rfl) ⟨Nat.le_of_ble_eq_true rfl, Nat.le_of_ble_eq_true rfl⟩ ⟨Nat.zero_le _, Nat.zero_le _⟩ dX1_answer_119 ?_
      obtain rfl := Option.some.inj h
      exact fw_iret C hr hlk dX1_answer_122
    · replace h := (if_neg c24).symm.trans h
      refine fw_iload C 2 dX1_answer_109 rfl ?_
      obtain ⟨v26, e26, h⟩ := b1_some h
      refine fw_callS [_] C (c_J6_bitCount_0f7a4 hl e26) cal_J6_bitCount_0f7a4 wm_X1_66 wt_yJ6_bitCount_0f7a4 rfl (Nat.le_of_ble_eq_true rfl) ⟨Nat.le_of_ble_eq_true rfl, Nat.le_of_ble_eq_true rfl⟩ ⟨Nat.zero_le _, Nat.zero_le _⟩ dX1_answer_111 ?_
      refine fw_goto C 122 dX1_answer_114 (by decide) ?_
      obtain rfl := Option.some.inj h
      exact fw_iret C hr hlk dX1_answer_122
  · replace h := (if_neg c23).symm.trans h
    refine fw_ldc C wk_X1_65 dX1_answer_94 ?_
    refine fw_aload_n C 0 dX1_answer_96 rfl rfl ?_
    refine fw_getR C 1 0 (Nat.le_of_ble_eq_true rfl) (Nat.le_of_ble_eq_true rfl) wf_X1_21 rfl (gO_of g20) (gN_of g21) dX1_answer_97 ?_
    refine fw_getI C 7 7 (Nat.le_of_ble_eq_true rfl) (Nat.le_of_ble_eq_true rfl) wf_X1_62 rfl (gO_of g22) dX1_answer_100 ?_
    refine fw_isub C dX1_answer_103 ?_
    obtain rfl := Option.some.inj h
    exact fw_iret C hr hlk dX1_answer_104
set_option maxRecDepth 100000 in
def fj_X1_answer_52 (S : List fw_Sh) (M : fw_Mem) (a0 : Nat) (x3 : Int32) : Option (Int32 × fw_Mem) := gd (gO S 1 a0) (gd (gN (M a0 0)) (gd (gO S 7 ((M a0 0).toNatClampNeg)) (b1 (f_X7_advance S M ((M a0 0).toNatClampNeg)) (fun M42 => b2 (rf_X1 30 0 S M42 a0 0) (fun v44 M44 => gd (gN (M44 a0 0)) (gd (gO S 7 ((M44 a0 0).toNatClampNeg)) (if (M44 ((M44 a0 0).toNatClampNeg) 3) = 0 then (if (M44 ((M44 a0 0).toNatClampNeg) 7) = 0 then (if x3 = 0 then (b1 (f_X9_lowestBit S M44 v44) (fun v50 => some (v50, M44))) else (b1 (f_J6_bitCount_0f7a4 S M44 v44) (fun v51 => some (v51, M44)))) else (some ((((-1000000000) : Int32) - (M44 ((M44 a0 0).toNatClampNeg) 7)), M44))) else (b1 (f_X7_fail S M44 ((M44 a0 0).toNatClampNeg) 1) (fun M52 => fj_X1_answer_84 S M52 a0 x3 v44)))))))))
set_option maxHeartbeats 4000000 in
set_option maxRecDepth 100000 in
theorem jc_X1_answer_52 {G : fw_G} {p : Program} {l : Launch} {e : Env} {s : State} {m : MethodId} {args : Array Value} {below : List Frame} {meth : Method} {c : Code} {S : List fw_Sh} {M : fw_Mem} {a0 : Nat} {x3 : Int32} {r : (Int32 × fw_Mem)} {o : fw_O} (C : fw_C G RX1 cX1_answer 5 p s m args c) (hr : meth.sig.returnType = (some .int)) (hlk : meth.locks = false) (hl : l.stackTraces = false) (ht : ∀ x ∈ c.exceptionTable.toList, False) (ho : o = (.inl (some (.int r.1)), S, r.2)) (h : fj_X1_answer_52 S M a0 x3 = some r) :
    fw_W G p l e (fw_rm 51 (fw_mcO o) (fw_msO o)) s m args below meth c 5 (fw_Z G below args s (fw_mcO o) (fw_msO o) o) 0 0 52 [(0, .ref a0), (3, .int x3)] [] S M := by
  subst ho
  unfold fj_X1_answer_52 at h
  refine fw_aload_n C 0 dX1_answer_52 rfl rfl ?_
  obtain ⟨g40, h⟩ := gd_some h
  obtain ⟨g41, h⟩ := gd_some h
  refine fw_getR C 1 0 (Nat.le_of_ble_eq_true rfl) (Nat.le_of_ble_eq_true rfl) wf_X1_21 rfl (gO_of g40) (gN_of g41) dX1_answer_53 ?_
  obtain ⟨g43, h⟩ := gd_some h
  obtain ⟨M42, e42, h⟩ := b1_some h
  refine fw_callV (ci := 7) [] C (c_X7_advance hl e42) cal_X7_advance wm_X1_52 wi_yX7_advance wsl_yX7_advance (Nat.le_of_ble_eq_true rfl) rfl (gO_of g43) rfl (Nat.le_of_ble_eq_true rfl) ⟨Nat.le_of_ble_eq_true rfl, Nat.le_of_ble_eq_true rfl⟩ ⟨Nat.zero_le _, Nat.zero_le _⟩ dX1_answer_56 ?_
  refine fw_aload_n C 0 dX1_answer_59 rfl rfl ?_
  refine fw_iconst C 0 dX1_answer_60 rfl ?_
  obtain ⟨v44, M44, e44, h⟩ := b2_some h
  refine fw_callV (ci := 1) [_] C ((cr_X1 hl 30).1 e44) cal_X1_anyHolds wm_X1_55 wi_yX1_anyHolds wsl_yX1_anyHolds (Nat.le_of_ble_eq_true rfl) rfl (gO_of g40) rfl (Nat.le_of_ble_eq_true rfl) ⟨Nat.le_of_ble_eq_true rfl, Nat.le_of_ble_eq_true rfl⟩ ⟨Nat.zero_le _, Nat.zero_le _⟩ dX1_answer_61 ?_
  refine fw_istore C [(4, _), (0, _), (3, _)] dX1_answer_64 (Nat.le_of_ble_eq_true rfl) rfl ?_
  refine fw_aload_n C 1 dX1_answer_66 rfl rfl ?_
  obtain ⟨g45, h⟩ := gd_some h
  refine fw_getR C 1 0 (Nat.le_of_ble_eq_true rfl) (Nat.le_of_ble_eq_true rfl) wf_X1_21 rfl (gO_of g40) (gN_of g45) dX1_answer_67 ?_
  obtain ⟨g46, h⟩ := gd_some h
  refine fw_getI C 7 3 (Nat.le_of_ble_eq_true rfl) (Nat.le_of_ble_eq_true rfl) wf_X1_59 rfl (gO_of g46) dX1_answer_70 ?_
  refine fw_if_eq C 84 dX1_answer_73 (by decide) (fun c47 => ?_) (fun c47 => ?_)
  · replace h := (if_pos c47).symm.trans h
    refine fw_aload_n C 1 dX1_answer_84 rfl rfl ?_
    refine fw_getR C 1 0 (Nat.le_of_ble_eq_true rfl) (Nat.le_of_ble_eq_true rfl) wf_X1_21 rfl (gO_of g40) (gN_of g45) dX1_answer_85 ?_
    refine fw_getI C 7 7 (Nat.le_of_ble_eq_true rfl) (Nat.le_of_ble_eq_true rfl) wf_X1_62 rfl (gO_of g46) dX1_answer_88 ?_
    refine fw_if_eq C 105 dX1_answer_91 (by decide) (fun c48 => ?_) (fun c48 => ?_)
    · replace h := (if_pos c48).symm.trans h
      refine fw_iload_n C 2 dX1_answer_105 rfl rfl ?_
      refine fw_if_eq C 117 dX1_answer_106 (by decide) (fun c49 => ?_) (fun c49 => ?_)
      · replace h := (if_pos c49).symm.trans h
        refine fw_iload C 0 dX1_answer_117 rfl ?_
        obtain ⟨v50, e50, h⟩ := b1_some h
        refine fw_callSN [_] C (c_X9_lowestBit hl e50) cal_X9_lowestBit (List.mem_of_getElem? (i := 4) rfl) wt_yX9_lowestBit rfl (Nat.le_of_ble_eq_true rfl) ⟨Nat.le_of_ble_eq_true rfl, Nat.le_of_ble_eq_true rfl⟩ ⟨Nat.zero_le _, Nat.zero_le _⟩ dX1_answer_119 ?_
        obtain rfl := Option.some.inj h
        exact fw_iret C hr hlk dX1_answer_122
      · replace h := (if_neg c49).symm.trans h
        refine fw_iload C 0 dX1_answer_109 rfl ?_
        obtain ⟨v51, e51, h⟩ := b1_some h
        refine fw_callS [_] C (c_J6_bitCount_0f7a4 hl e51) cal_J6_bitCount_0f7a4 wm_X1_66 wt_yJ6_bitCount_0f7a4 rfl (Nat.le_of_ble_eq_true rfl) ⟨Nat.le_of_ble_eq_true rfl, Nat.le_of_ble_eq_true rfl⟩ ⟨Nat.zero_le _, Nat.zero_le _⟩ dX1_answer_111 ?_
        refine fw_goto C 122 dX1_answer_114 (by decide) ?_
        obtain rfl := Option.some.inj h
        exact fw_iret C hr hlk dX1_answer_122
    · replace h := (if_neg c48).symm.trans h
      refine fw_ldc C wk_X1_65 dX1_answer_94 ?_
      refine fw_aload_n C 1 dX1_answer_96 rfl rfl ?_
      refine fw_getR C 1 0 (Nat.le_of_ble_eq_true rfl) (Nat.le_of_ble_eq_true rfl) wf_X1_21 rfl (gO_of g40) (gN_of g45) dX1_answer_97 ?_
      refine fw_getI C 7 7 (Nat.le_of_ble_eq_true rfl) (Nat.le_of_ble_eq_true rfl) wf_X1_62 rfl (gO_of g46) dX1_answer_100 ?_
      refine fw_isub C dX1_answer_103 ?_
      obtain rfl := Option.some.inj h
      exact fw_iret C hr hlk dX1_answer_104
  · replace h := (if_neg c47).symm.trans h
    refine fw_aload_n C 1 dX1_answer_76 rfl rfl ?_
    refine fw_getR C 1 0 (Nat.le_of_ble_eq_true rfl) (Nat.le_of_ble_eq_true rfl) wf_X1_21 rfl (gO_of g40) (gN_of g45) dX1_answer_77 ?_
    refine fw_iconst C 1 dX1_answer_80 rfl ?_
    obtain ⟨M52, e52, h⟩ := b1_some h
    refine fw_callV (ci := 7) [_] C (c_X7_fail hl e52) cal_X7_fail wm_X1_49 wi_yX7_fail wsl_yX7_fail (Nat.le_of_ble_eq_true rfl) rfl (gO_of g46) rfl (Nat.le_of_ble_eq_true rfl) ⟨Nat.le_of_ble_eq_true rfl, Nat.le_of_ble_eq_true rfl⟩ ⟨Nat.zero_le _, Nat.zero_le _⟩ dX1_answer_81 ?_
    refine fw_sub [1, 2, 0] rfl ?_
    exact jc_X1_answer_84 C hr hlk hl ht rfl h
set_option maxRecDepth 100000 in
def f_X1_answer (S : List fw_Sh) (M : fw_Mem) (a0 : Nat) (x1 : Int32) (x2 : Int32) : Option (Int32 × fw_Mem) := gd (gO S 1 a0) (bm (fw_set M a0 4 (if 10 < x2 then 10 else x2)) (fun M2 => gd (gN (M2 a0 0)) (gd (gO S 7 ((M2 a0 0).toNatClampNeg)) (b1 (f_X7_open S M2 ((M2 a0 0).toNatClampNeg) x1) (fun M4 => gd (gN (M4 a0 0)) (gd (gO S 7 ((M4 a0 0).toNatClampNeg)) (b1 (f_X7_isWord S M4 ((M4 a0 0).toNatClampNeg) 1000015) (fun v7 => if v7 = 0 then (b1 (f_X7_isWord S M4 ((M4 a0 0).toNatClampNeg) 1000009) (fun v27 => if v27 = 0 then (b1 (f_X7_fail S M4 ((M4 a0 0).toNatClampNeg) 1) (fun M39 => fj_X1_answer_52 S M39 a0 v7)) else (b1 (f_X7_advance S M4 ((M4 a0 0).toNatClampNeg)) (fun M29 => b2 (rf_X1 30 0 S M29 a0 0) (fun v30 M30 => gd (gN (M30 a0 0)) (gd (gO S 7 ((M30 a0 0).toNatClampNeg)) (if (M30 ((M30 a0 0).toNatClampNeg) 3) = 0 then (if (M30 ((M30 a0 0).toNatClampNeg) 7) = 0 then (if v7 = 0 then (b1 (f_X9_lowestBit S M30 v30) (fun v36 => some (v36, M30))) else (b1 (f_J6_bitCount_0f7a4 S M30 v30) (fun v37 => some (v37, M30)))) else (some ((((-1000000000) : Int32) - (M30 ((M30 a0 0).toNatClampNeg) 7)), M30))) else (b1 (f_X7_fail S M30 ((M30 a0 0).toNatClampNeg) 1) (fun M38 => fj_X1_answer_84 S M38 a0 v7 v30))))))))) else (b1 (f_X7_advance S M4 ((M4 a0 0).toNatClampNeg)) (fun M10 => b2 (rf_X1 30 0 S M10 a0 0) (fun v11 M11 => gd (gN (M11 a0 0)) (gd (gO S 7 ((M11 a0 0).toNatClampNeg)) (if (M11 ((M11 a0 0).toNatClampNeg) 3) = 0 then (if (M11 ((M11 a0 0).toNatClampNeg) 7) = 0 then (if v7 = 0 then (b1 (f_X9_lowestBit S M11 v11) (fun v17 => some (v17, M11))) else (b1 (f_J6_bitCount_0f7a4 S M11 v11) (fun v18 => some (v18, M11)))) else (some ((((-1000000000) : Int32) - (M11 ((M11 a0 0).toNatClampNeg) 7)), M11))) else (b1 (f_X7_fail S M11 ((M11 a0 0).toNatClampNeg) 1) (fun M19 => fj_X1_answer_84 S M19 a0 v7 v11)))))))))))))))
set_option maxHeartbeats 4000000 in
set_option maxRecDepth 100000 in
theorem c_X1_answer {l : Launch} {G : fw_G} {S : List fw_Sh} {M : fw_Mem} {a0 : Nat} {x1 : Int32} {x2 : Int32} {r : (Int32 × fw_Mem)} (hl : l.stackTraces = false) (h : f_X1_answer S M a0 x1 x2 = some r) : fw_M l G yX1_answer (.code yX1_answer cX1_answer 5 (some .int)) 51 (fw_mcO (.inl (some (.int r.1)), S, r.2)) (fw_msO (.inl (some (.int r.1)), S, r.2)) S M [.ref a0, .int x1, .int x2] (.inl (some (.int r.1)), S, r.2) := by
  refine fw_of [(0, .ref a0), (1, .int x1), (2, .int x2)] (by decide) (Nat.le_of_ble_eq_true rfl) rfl ?_
  intro p e s m args below meth c C hr hlk hnm ht _
  unfold f_X1_answer at h
  refine fw_aload_n C 0 dX1_answer_0 rfl rfl ?_
  refine fw_iload_n C 2 dX1_answer_1 rfl rfl ?_
  refine fw_bipush C 10 dX1_answer_2 rfl ?_
  refine fw_min C wm_X1_25 (Nat.le_of_ble_eq_true rfl) (Nat.le_of_ble_eq_true rfl) (Nat.le_of_ble_eq_true rfl) (Nat.zero_le _) (Nat.zero_le _) dX1_answer_4 ?_
  obtain ⟨g1, h⟩ := gd_some h
  refine fw_putI C 1 4 (Nat.le_of_ble_eq_true rfl) (Nat.le_of_ble_eq_true rfl) wf_X1_31 rfl rfl rfl rfl (gO_of g1) dX1_answer_7 ?_
  refine fw_bm h (fun M2 h => ?_)
  refine fw_aload_n C 0 dX1_answer_10 rfl rfl ?_
  obtain ⟨g3, h⟩ := gd_some h
  refine fw_getR C 1 0 (Nat.le_of_ble_eq_true rfl) (Nat.le_of_ble_eq_true rfl) wf_X1_21 rfl (gO_of g1) (gN_of g3) dX1_answer_11 ?_
  refine fw_iload_n C 1 dX1_answer_14 rfl rfl ?_
  obtain ⟨g5, h⟩ := gd_some h
  obtain ⟨M4, e4, h⟩ := b1_some h
  refine fw_callV (ci := 7) [_] C (c_X7_open hl e4) cal_X7_open wm_X1_35 wi_yX7_open wsl_yX7_open (Nat.le_of_ble_eq_true rfl) rfl (gO_of g5) rfl (Nat.le_of_ble_eq_true rfl) ⟨Nat.le_of_ble_eq_true rfl, Nat.le_of_ble_eq_true rfl⟩ ⟨Nat.zero_le _, Nat.zero_le _⟩ dX1_answer_15 ?_
  refine fw_aload_n C 0 dX1_answer_18 rfl rfl ?_
  obtain ⟨g6, h⟩ := gd_some h
  refine fw_getR C 1 0 (Nat.le_of_ble_eq_true rfl) (Nat.le_of_ble_eq_true rfl) wf_X1_21 rfl (gO_of g1) (gN_of g6) dX1_answer_19 ?_
  refine fw_ldcS C (i := 14) (List.mem_of_getElem? (i := 43) rfl) dX1_answer_22 ?_
  obtain ⟨g8, h⟩ := gd_some h
  obtain ⟨v7, e7, h⟩ := b1_some h
  refine fw_callV (ci := 7) [_] C (c_X7_isWord hl e7) cal_X7_isWord wm_X1_43 wi_yX7_isWord wsl_yX7_isWord (Nat.le_of_ble_eq_true rfl) rfl (gO_of g8) rfl (Nat.le_of_ble_eq_true rfl) ⟨Nat.le_of_ble_eq_true rfl, Nat.le_of_ble_eq_true rfl⟩ ⟨Nat.zero_le _, Nat.zero_le _⟩ dX1_answer_24 ?_
  refine fw_istore_n C [(3, _), (0, _), (1, _), (2, _)] dX1_answer_27 rfl (Nat.le_of_ble_eq_true rfl) rfl ?_
  refine fw_iload_n C 0 dX1_answer_28 rfl rfl ?_
  refine fw_if_ne C 52 dX1_answer_29 (by decide) (fun c9 => ?_) (fun c9 => ?_)
  · replace h := (if_neg c9).symm.trans h
    refine fw_aload_n C 1 dX1_answer_52 rfl rfl ?_
    refine fw_getR C 1 0 (Nat.le_of_ble_eq_true rfl) (Nat.le_of_ble_eq_true rfl) wf_X1_21 rfl (gO_of g1) (gN_of g6) dX1_answer_53 ?_
    obtain ⟨M10, e10, h⟩ := b1_some h
    refine fw_callV (ci := 7) [] C (c_X7_advance hl e10) cal_X7_advance wm_X1_52 wi_yX7_advance wsl_yX7_advance (Nat.le_of_ble_eq_true rfl) rfl (gO_of g8) rfl (Nat.le_of_ble_eq_true rfl) ⟨Nat.le_of_ble_eq_true rfl, Nat.le_of_ble_eq_true rfl⟩ ⟨Nat.zero_le _, Nat.zero_le _⟩ dX1_answer_56 ?_
    refine fw_aload_n C 1 dX1_answer_59 rfl rfl ?_
    refine fw_iconst C 0 dX1_answer_60 rfl ?_
    obtain ⟨v11, M11, e11, h⟩ := b2_some h
    refine fw_callV (ci := 1) [_] C ((cr_X1 hl 30).1 e11) cal_X1_anyHolds wm_X1_55 wi_yX1_anyHolds wsl_yX1_anyHolds (Nat.le_of_ble_eq_true rfl) rfl (gO_of g1) rfl (Nat.le_of_ble_eq_true rfl) ⟨Nat.le_of_ble_eq_true rfl, Nat.le_of_ble_eq_true rfl⟩ ⟨Nat.zero_le _, Nat.zero_le _⟩ dX1_answer_61 ?_
    refine fw_istore C [(4, _), (3, _), (0, _), (1, _), (2, _)] dX1_answer_64 (Nat.le_of_ble_eq_true rfl) rfl ?_
    refine fw_aload_n C 2 dX1_answer_66 rfl rfl ?_
    obtain ⟨g12, h⟩ := gd_some h
    refine fw_getR C 1 0 (Nat.le_of_ble_eq_true rfl) (Nat.le_of_ble_eq_true rfl) wf_X1_21 rfl (gO_of g1) (gN_of g12) dX1_answer_67 ?_
    obtain ⟨g13, h⟩ := gd_some h
    refine fw_getI C 7 3 (Nat.le_of_ble_eq_true rfl) (Nat.le_of_ble_eq_true rfl) wf_X1_59 rfl (gO_of g13) dX1_answer_70 ?_
    refine fw_if_eq C 84 dX1_answer_73 (by decide) (fun c14 => ?_) (fun c14 => ?_)
    · replace h := (if_pos c14).symm.trans h
      refine fw_aload_n C 2 dX1_answer_84 rfl rfl ?_
      refine fw_getR C 1 0 (Nat.le_of_ble_eq_true rfl) (Nat.le_of_ble_eq_true rfl) wf_X1_21 rfl (gO_of g1) (gN_of g12) dX1_answer_85 ?_
      refine fw_getI C 7 7 (Nat.le_of_ble_eq_true rfl) (Nat.le_of_ble_eq_true rfl) wf_X1_62 rfl (gO_of g13) dX1_answer_88 ?_
      refine fw_if_eq C 105 dX1_answer_91 (by decide) (fun c15 => ?_) (fun c15 => ?_)
      · replace h := (if_pos c15).symm.trans h
        refine fw_iload_n C 1 dX1_answer_105 rfl rfl ?_
        refine fw_if_eq C 117 dX1_answer_106 (by decide) (fun c16 => ?_) (fun c16 => ?_)
        · replace h := (if_pos c16).symm.trans h
          refine fw_iload C 0 dX1_answer_117 rfl ?_
          obtain ⟨v17, e17, h⟩ := b1_some h
          refine fw_callSN [_] C (c_X9_lowestBit hl e17) cal_X9_lowestBit (List.mem_of_getElem? (i := 4) rfl) wt_yX9_lowestBit rfl (Nat.le_of_ble_eq_true rfl) ⟨Nat.le_of_ble_eq_true rfl, Nat.le_of_ble_eq_true rfl⟩ ⟨Nat.zero_le _, Nat.zero_le _⟩ dX1_answer_119 ?_
          obtain rfl := Option.some.inj h
          exact fw_iret C hr hlk dX1_answer_122
        · replace h := (if_neg c16).symm.trans h
          refine fw_iload C 0 dX1_answer_109 rfl ?_
          obtain ⟨v18, e18, h⟩ := b1_some h
          refine fw_callS [_] C (c_J6_bitCount_0f7a4 hl e18) cal_J6_bitCount_0f7a4 wm_X1_66 wt_yJ6_bitCount_0f7a4 rfl (Nat.le_of_ble_eq_true rfl) ⟨Nat.le_of_ble_eq_true rfl, Nat.le_of_ble_eq_true rfl⟩ ⟨Nat.zero_le _, Nat.zero_le _⟩ dX1_answer_111 ?_
          refine fw_goto C 122 dX1_answer_114 (by decide) ?_
          obtain rfl := Option.some.inj h
          exact fw_iret C hr hlk dX1_answer_122
      · replace h := (if_neg c15).symm.trans h
        refine fw_ldc C wk_X1_65 dX1_answer_94 ?_
        refine fw_aload_n C 2 dX1_answer_96 rfl rfl ?_
        refine fw_getR C 1 0 (Nat.le_of_ble_eq_true rfl) (Nat.le_of_ble_eq_true rfl) wf_X1_21 rfl (gO_of g1) (gN_of g12) dX1_answer_97 ?_
        refine fw_getI C 7 7 (Nat.le_of_ble_eq_true rfl) (Nat.le_of_ble_eq_true rfl) wf_X1_62 rfl (gO_of g13) dX1_answer_100 ?_
        refine fw_isub C dX1_answer_103 ?_
        obtain rfl := Option.some.inj h
        exact fw_iret C hr hlk dX1_answer_104
    · replace h := (if_neg c14).symm.trans h
      refine fw_aload_n C 2 dX1_answer_76 rfl rfl ?_
      refine fw_getR C 1 0 (Nat.le_of_ble_eq_true rfl) (Nat.le_of_ble_eq_true rfl) wf_X1_21 rfl (gO_of g1) (gN_of g12) dX1_answer_77 ?_
      refine fw_iconst C 1 dX1_answer_80 rfl ?_
      obtain ⟨M19, e19, h⟩ := b1_some h
      refine fw_callV (ci := 7) [_] C (c_X7_fail hl e19) cal_X7_fail wm_X1_49 wi_yX7_fail wsl_yX7_fail (Nat.le_of_ble_eq_true rfl) rfl (gO_of g13) rfl (Nat.le_of_ble_eq_true rfl) ⟨Nat.le_of_ble_eq_true rfl, Nat.le_of_ble_eq_true rfl⟩ ⟨Nat.zero_le _, Nat.zero_le _⟩ dX1_answer_81 ?_
      refine fw_sub [2, 1, 0] rfl ?_
      exact jc_X1_answer_84 C hr hlk hl ht rfl h
  · replace h := (if_pos c9).symm.trans h
    refine fw_aload_n C 1 dX1_answer_32 rfl rfl ?_
    refine fw_getR C 1 0 (Nat.le_of_ble_eq_true rfl) (Nat.le_of_ble_eq_true rfl) wf_X1_21 rfl (gO_of g1) (gN_of g6) dX1_answer_33 ?_
    refine fw_ldcS C (i := 8) (List.mem_of_getElem? (i := 44) rfl) dX1_answer_36 ?_
    obtain ⟨v27, e27, h⟩ := b1_some h
    refine fw_callV (ci := 7) [_] C (c_X7_isWord hl e27) cal_X7_isWord wm_X1_43 wi_yX7_isWord wsl_yX7_isWord (Nat.le_of_ble_eq_true rfl) rfl (gO_of g8) rfl (Nat.le_of_ble_eq_true rfl) ⟨Nat.le_of_ble_eq_true rfl, Nat.le_of_ble_eq_true rfl⟩ ⟨Nat.zero_le _, Nat.zero_le _⟩ dX1_answer_38 ?_
    refine fw_if_ne C 52 dX1_answer_41 (by decide) (fun c28 => ?_) (fun c28 => ?_)
    · replace h := (if_neg c28).symm.trans h
      refine fw_aload_n C 1 dX1_answer_52 rfl rfl ?_
      refine fw_getR C 1 0 (Nat.le_of_ble_eq_true rfl) (Nat.le_of_ble_eq_true rfl) wf_X1_21 rfl (gO_of g1) (gN_of g6) dX1_answer_53 ?_
      obtain ⟨M29, e29, h⟩ := b1_some h
      refine fw_callV (ci := 7) [] C (c_X7_advance hl e29) cal_X7_advance wm_X1_52 wi_yX7_advance wsl_yX7_advance (Nat.le_of_ble_eq_true rfl) rfl (gO_of g8) rfl (Nat.le_of_ble_eq_true rfl) ⟨Nat.le_of_ble_eq_true rfl, Nat.le_of_ble_eq_true rfl⟩ ⟨Nat.zero_le _, Nat.zero_le _⟩ dX1_answer_56 ?_
      refine fw_aload_n C 1 dX1_answer_59 rfl rfl ?_
      refine fw_iconst C 0 dX1_answer_60 rfl ?_
      obtain ⟨v30, M30, e30, h⟩ := b2_some h
      refine fw_callV (ci := 1) [_] C ((cr_X1 hl 30).1 e30) cal_X1_anyHolds wm_X1_55 wi_yX1_anyHolds wsl_yX1_anyHolds (Nat.le_of_ble_eq_true rfl) rfl (gO_of g1) rfl (Nat.le_of_ble_eq_true rfl) ⟨Nat.le_of_ble_eq_true rfl, Nat.le_of_ble_eq_true rfl⟩ ⟨Nat.zero_le _, Nat.zero_le _⟩ dX1_answer_61 ?_
      refine fw_istore C [(4, _), (3, _), (0, _), (1, _), (2, _)] dX1_answer_64 (Nat.le_of_ble_eq_true rfl) rfl ?_
      refine fw_aload_n C 2 dX1_answer_66 rfl rfl ?_
      obtain ⟨g31, h⟩ := gd_some h
      refine fw_getR C 1 0 (Nat.le_of_ble_eq_true rfl) (Nat.le_of_ble_eq_true rfl) wf_X1_21 rfl (gO_of g1) (gN_of g31) dX1_answer_67 ?_
      obtain ⟨g32, h⟩ := gd_some h
      refine fw_getI C 7 3 (Nat.le_of_ble_eq_true rfl) (Nat.le_of_ble_eq_true rfl) wf_X1_59 rfl (gO_of g32) dX1_answer_70 ?_
      refine fw_if_eq C 84 dX1_answer_73 (by decide) (fun c33 => ?_) (fun c33 => ?_)
      · replace h := (if_pos c33).symm.trans h
        refine fw_aload_n C 2 dX1_answer_84 rfl rfl ?_
        refine fw_getR C 1 0 (Nat.le_of_ble_eq_true rfl) (Nat.le_of_ble_eq_true rfl) wf_X1_21 rfl (gO_of g1) (gN_of g31) dX1_answer_85 ?_
        refine fw_getI C 7 7 (Nat.le_of_ble_eq_true rfl) (Nat.le_of_ble_eq_true rfl) wf_X1_62 rfl (gO_of g32) dX1_answer_88 ?_
        refine fw_if_eq C 105 dX1_answer_91 (by decide) (fun c34 => ?_) (fun c34 => ?_)
        · replace h := (if_pos c34).symm.trans h
          refine fw_iload_n C 1 dX1_answer_105 rfl rfl ?_
          refine fw_if_eq C 117 dX1_answer_106 (by decide) (fun c35 => ?_) (fun c35 => ?_)
          · replace h := (if_pos c35).symm.trans h
            refine fw_iload C 0 dX1_answer_117 rfl ?_
            obtain ⟨v36, e36, h⟩ := b1_some h
            refine fw_callSN [_] C (c_X9_lowestBit hl e36) cal_X9_lowestBit (List.mem_of_getElem? (i := 4) rfl) wt_yX9_lowestBit rfl (Nat.le_of_ble_eq_true rfl) ⟨Nat.le_of_ble_eq_true rfl, Nat.le_of_ble_eq_true rfl⟩ ⟨Nat.zero_le _, Nat.zero_le _⟩ dX1_answer_119 ?_
            obtain rfl := Option.some.inj h
            exact fw_iret C hr hlk dX1_answer_122
          · replace h := (if_neg c35).symm.trans h
            refine fw_iload C 0 dX1_answer_109 rfl ?_
            obtain ⟨v37, e37, h⟩ := b1_some h
            refine fw_callS [_] C (c_J6_bitCount_0f7a4 hl e37) cal_J6_bitCount_0f7a4 wm_X1_66 wt_yJ6_bitCount_0f7a4 rfl (Nat.le_of_ble_eq_true rfl) ⟨Nat.le_of_ble_eq_true rfl, Nat.le_of_ble_eq_true rfl⟩ ⟨Nat.zero_le _, Nat.zero_le _⟩ dX1_answer_111 ?_
            refine fw_goto C 122 dX1_answer_114 (by decide) ?_
            obtain rfl := Option.some.inj h
            exact fw_iret C hr hlk dX1_answer_122
        · replace h := (if_neg c34).symm.trans h
          refine fw_ldc C wk_X1_65 dX1_answer_94 ?_
          refine fw_aload_n C 2 dX1_answer_96 rfl rfl ?_
          refine fw_getR C 1 0 (Nat.le_of_ble_eq_true rfl) (Nat.le_of_ble_eq_true rfl) wf_X1_21 rfl (gO_of g1) (gN_of g31) dX1_answer_97 ?_
          refine fw_getI C 7 7 (Nat.le_of_ble_eq_true rfl) (Nat.le_of_ble_eq_true rfl) wf_X1_62 rfl (gO_of g32) dX1_answer_100 ?_
          refine fw_isub C dX1_answer_103 ?_
          obtain rfl := Option.some.inj h
          exact fw_iret C hr hlk dX1_answer_104
      · replace h := (if_neg c33).symm.trans h
        refine fw_aload_n C 2 dX1_answer_76 rfl rfl ?_
        refine fw_getR C 1 0 (Nat.le_of_ble_eq_true rfl) (Nat.le_of_ble_eq_true rfl) wf_X1_21 rfl (gO_of g1) (gN_of g31) dX1_answer_77 ?_
        refine fw_iconst C 1 dX1_answer_80 rfl ?_
        obtain ⟨M38, e38, h⟩ := b1_some h
        refine fw_callV (ci := 7) [_] C (c_X7_fail hl e38) cal_X7_fail wm_X1_49 wi_yX7_fail wsl_yX7_fail (Nat.le_of_ble_eq_true rfl) rfl (gO_of g32) rfl (Nat.le_of_ble_eq_true rfl) ⟨Nat.le_of_ble_eq_true rfl, Nat.le_of_ble_eq_true rfl⟩ ⟨Nat.zero_le _, Nat.zero_le _⟩ dX1_answer_81 ?_
        refine fw_sub [2, 1, 0] rfl ?_
        exact jc_X1_answer_84 C hr hlk hl ht rfl h
    · replace h := (if_pos c28).symm.trans h
      refine fw_aload_n C 1 dX1_answer_44 rfl rfl ?_
      refine fw_getR C 1 0 (Nat.le_of_ble_eq_true rfl) (Nat.le_of_ble_eq_true rfl) wf_X1_21 rfl (gO_of g1) (gN_of g6) dX1_answer_45 ?_
      refine fw_iconst C 1 dX1_answer_48 rfl ?_
      obtain ⟨M39, e39, h⟩ := b1_some h
      refine fw_callV (ci := 7) [_] C (c_X7_fail hl e39) cal_X7_fail wm_X1_49 wi_yX7_fail wsl_yX7_fail (Nat.le_of_ble_eq_true rfl) rfl (gO_of g8) rfl (Nat.le_of_ble_eq_true rfl) ⟨Nat.le_of_ble_eq_true rfl, Nat.le_of_ble_eq_true rfl⟩ ⟨Nat.zero_le _, Nat.zero_le _⟩ dX1_answer_49 ?_
      refine fw_sub [1, 0] rfl ?_
      exact jc_X1_answer_52 C hr hlk hl ht rfl h
