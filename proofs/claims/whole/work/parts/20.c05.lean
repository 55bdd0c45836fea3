set_option maxRecDepth 100000 in
def f_X9_isDay (S : List fw_Sh) (M : fw_Mem) (x0 : Int32) : Option Int32 := if x0 < 0 then (some 0) else (if (9999 : Int32) < x0 then (some 0) else (some 1))
set_option maxHeartbeats 4000000 in
set_option maxRecDepth 100000 in
theorem c_X9_isDay {l : Launch} {G : fw_G} {S : List fw_Sh} {M : fw_Mem} {x0 : Int32} {r : Int32} (hl : l.stackTraces = false) (h : f_X9_isDay S M x0 = some r) : fw_M l G yX9_isDay (.code yX9_isDay cX9_isDay 1 (some .boolean)) 1 (fw_mcO (.inl (some (.int r)), S, M)) (fw_msO (.inl (some (.int r)), S, M)) S M [.int x0] (.inl (some (.int r)), S, M) := by
  refine fw_of [(0, .int x0)] (by decide) (Nat.le_of_ble_eq_true rfl) rfl ?_
  intro p e s m args below meth c C hr hlk hnm ht _
  unfold f_X9_isDay at h
  refine fw_iload_n C 0 dX9_isDay_0 rfl rfl ?_
  refine fw_if_lt C 15 dX9_isDay_1 (by decide) (fun c1 => ?_) (fun c1 => ?_)
  · replace h := (if_pos c1).symm.trans h
    refine fw_iconst C 0 dX9_isDay_15 rfl ?_
    obtain rfl := Option.some.inj h
    exact fw_zret C hr (Or.inl rfl) hlk dX9_isDay_16
  · replace h := (if_neg c1).symm.trans h
    refine fw_iload_n C 0 dX9_isDay_4 rfl rfl ?_
    refine fw_sipush C 9999 dX9_isDay_5 rfl ?_
    refine fw_icmp_gt C 15 dX9_isDay_8 (by decide) (fun c2 => ?_) (fun c2 => ?_)
    · replace h := (if_pos c2).symm.trans h
      refine fw_iconst C 0 dX9_isDay_15 rfl ?_
      obtain rfl := Option.some.inj h
      exact fw_zret C hr (Or.inl rfl) hlk dX9_isDay_16
    · replace h := (if_neg c2).symm.trans h
      refine fw_iconst C 1 dX9_isDay_11 rfl ?_
      refine fw_goto C 16 dX9_isDay_12 (by decide) ?_
      obtain rfl := Option.some.inj h
      exact fw_zret C hr (Or.inr rfl) hlk dX9_isDay_16
set_option maxRecDepth 100000 in
def f_X9_needCouple (S : List fw_Sh) (M : fw_Mem) (a0 : Nat) (x1 : Int32) (x2 : Int32) : Option (Unit ⊕ String) := gd (gO S 9 a0) (b1 (f_X9_needPerson S M a0 x1) (fun v1 => bx v1 (fun _ => b1 (f_X9_needPerson S M a0 x2) (fun v3 => bx v3 (fun _ => if x1 = x2 then (some (.inr exN)) else (some (.inl ()))) (fun E3 => some (.inr E3)))) (fun E1 => some (.inr E1))))
set_option maxHeartbeats 4000000 in
set_option maxRecDepth 100000 in
theorem c_X9_needCouple {l : Launch} {G : fw_G} {S : List fw_Sh} {M : fw_Mem} {a0 : Nat} {x1 : Int32} {x2 : Int32} {r : (Unit ⊕ String)} (hl : l.stackTraces = false) (h : f_X9_needCouple S M a0 x1 x2 = some r) : fw_M l G yX9_needCouple (.code yX9_needCouple cX9_needCouple 3 none) 7 (fw_mcO (fw_oV r, S, M)) (fw_msO (fw_oV r, S, M)) S M [.ref a0, .int x1, .int x2] (fw_oV r, S, M) := by
  refine fw_of [(0, .ref a0), (1, .int x1), (2, .int x2)] (by decide) (Nat.le_of_ble_eq_true rfl) rfl ?_
  intro p e s m args below meth c C hr hlk hnm ht _
  unfold f_X9_needCouple at h
  refine fw_aload_n C 0 dX9_needCouple_0 rfl rfl ?_
  refine fw_iload_n C 1 dX9_needCouple_1 rfl rfl ?_
  obtain ⟨g2, h⟩ := gd_some h
  obtain ⟨v1, e1, h⟩ := b1_some h
  rcases v1 with u1 | E1
  rotate_left
  · replace h := bx_r h
    obtain rfl := Option.some.inj h
    exact fw_callVX (ci := 9) [_] C (c_X9_needPerson hl e1) cal_X9_needPerson wm_X9_142 wi_yX9_needPerson wsl_yX9_needPerson (Nat.le_of_ble_eq_true rfl) rfl (gO_of g2) rfl (Nat.le_of_ble_eq_true rfl) ⟨Nat.le_of_ble_eq_true rfl, Nat.le_of_ble_eq_true rfl⟩ ⟨Nat.le_refl _, Nat.le_refl _⟩ dX9_needCouple_2 ht hlk
  replace h := bx_l h
  refine fw_callV (ci := 9) [_] C (c_X9_needPerson hl e1) cal_X9_needPerson wm_X9_142 wi_yX9_needPerson wsl_yX9_needPerson (Nat.le_of_ble_eq_true rfl) rfl (gO_of g2) rfl (Nat.le_of_ble_eq_true rfl) ⟨Nat.le_of_ble_eq_true rfl, Nat.le_of_ble_eq_true rfl⟩ ⟨Nat.zero_le _, Nat.zero_le _⟩ dX9_needCouple_2 ?_
  refine fw_aload_n C 0 dX9_needCouple_5 rfl rfl ?_
  refine fw_iload_n C 2 dX9_needCouple_6 rfl rfl ?_
  obtain ⟨v3, e3, h⟩ := b1_some h
  rcases v3 with u3 | E3
  rotate_left
  · replace h := bx_r h
    obtain rfl := Option.some.inj h
    exact fw_callVX (ci := 9) [_] C (c_X9_needPerson hl e3) cal_X9_needPerson wm_X9_142 wi_yX9_needPerson wsl_yX9_needPerson (Nat.le_of_ble_eq_true rfl) rfl (gO_of g2) rfl (Nat.le_of_ble_eq_true rfl) ⟨Nat.le_of_ble_eq_true rfl, Nat.le_of_ble_eq_true rfl⟩ ⟨Nat.le_refl _, Nat.le_refl _⟩ dX9_needCouple_7 ht hlk
  replace h := bx_l h
  refine fw_callV (ci := 9) [_] C (c_X9_needPerson hl e3) cal_X9_needPerson wm_X9_142 wi_yX9_needPerson wsl_yX9_needPerson (Nat.le_of_ble_eq_true rfl) rfl (gO_of g2) rfl (Nat.le_of_ble_eq_true rfl) ⟨Nat.le_of_ble_eq_true rfl, Nat.le_of_ble_eq_true rfl⟩ ⟨Nat.zero_le _, Nat.zero_le _⟩ dX9_needCouple_7 ?_
  refine fw_iload_n C 1 dX9_needCouple_10 rfl rfl ?_
  refine fw_iload_n C 2 dX9_needCouple_11 rfl rfl ?_
  refine fw_icmp_ne C 26 dX9_needCouple_12 (by decide) (fun c4 => ?_) (fun c4 => ?_)
  · replace h := (if_neg c4).symm.trans h
    obtain rfl := Option.some.inj h
    exact fw_vret C hr hlk dX9_needCouple_26
  · replace h := (if_pos c4).symm.trans h
    obtain rfl := Option.some.inj h
    exact fw_throwW C hl fw_exN (i := 33) (List.mem_of_getElem? (i := 34) rfl) dX9_needCouple_15 dX9_needCouple_18 dX9_needCouple_19 dX9_needCouple_22 dX9_needCouple_25 ht hlk (Nat.le_of_ble_eq_true rfl) (Nat.le_of_ble_eq_true rfl) (Nat.le_refl _) (Nat.le_refl _)
set_option maxRecDepth 100000 in
def f_X9_would (S : List fw_Sh) (M : fw_Mem) (a0 : Nat) (x1 : Int32) (x2 : Int32) (x3 : Int32) (x4 : Int32) (x5 : Int32) (x6 : Int32) : Option ((Int32 ⊕ String) × fw_Mem) := if x1 < 0 then (some (.inr exN, M)) else (if x6 < 0 then (some (.inr exN, M)) else (if x6 ≤ 2 then (gd (gO S 9 a0) (gd (gN (M a0 9)) (gd (gO S 6 ((M a0 9).toNatClampNeg)) (bm (fw_set M ((M a0 9).toNatClampNeg) 1 (x1 / 12)) (fun M7 => gd (gN (M7 a0 9)) (gd (gO S 6 ((M7 a0 9).toNatClampNeg)) (bm (fw_set M7 ((M7 a0 9).toNatClampNeg) 2 (x1 - x1 / 12 * 12)) (fun M10 => gd (gN (M10 a0 9)) (gd (gO S 6 ((M10 a0 9).toNatClampNeg)) (b1 (f_X9_needCouple S M10 a0 (M10 ((M10 a0 9).toNatClampNeg) 1) (M10 ((M10 a0 9).toNatClampNeg) 2)) (fun v13 => bx v13 (fun _ => if (x4 &&& x5) = 0 then (if x3 < 0 then (some (.inr exI, M10)) else (if x4 < 0 then (some (.inr exI, M10)) else (if x5 < 0 then (some (.inr exI, M10)) else (b1 (f_X9_isDay S M10 x2) (fun v18 => if v18 = 0 then (some (.inr exI, M10)) else (bm (fw_set M10 ((M10 a0 9).toNatClampNeg) 3 x2) (fun M20 => gd (gN (M20 a0 9)) (gd (gO S 6 ((M20 a0 9).toNatClampNeg)) (bm (fw_set M20 ((M20 a0 9).toNatClampNeg) 4 x3) (fun M23 => gd (gN (M23 a0 9)) (gd (gO S 6 ((M23 a0 9).toNatClampNeg)) (bm (fw_set M23 ((M23 a0 9).toNatClampNeg) 5 x4) (fun M26 => gd (gN (M26 a0 9)) (gd (gO S 6 ((M26 a0 9).toNatClampNeg)) (bm (fw_set M26 ((M26 a0 9).toNatClampNeg) 6 x5) (fun M29 => if x6 = 0 then (gd (gN (M29 a0 5)) (gd (gN (M29 a0 9)) (gd (gO S 2 ((M29 a0 5).toNatClampNeg)) (b1 (f_X2_barringSuits S M29 ((M29 a0 5).toNatClampNeg) ((M29 a0 9).toNatClampNeg)) (fun v42 => some (.inl v42, M29)))))) else (if x6 = 1 then (gd (gN (M29 a0 5)) (gd (gN (M29 a0 9)) (gd (gO S 2 ((M29 a0 5).toNatClampNeg)) (b2 (f_X2_heldIssues S M29 ((M29 a0 5).toNatClampNeg) ((M29 a0 9).toNatClampNeg)) (fun v38 M38 => some (.inl v38, M38)))))) else (gd (gN (M29 a0 5)) (gd (gN (M29 a0 9)) (gd (gO S 2 ((M29 a0 5).toNatClampNeg)) (b2 (f_X2_forcedWay S M29 ((M29 a0 5).toNatClampNeg) ((M29 a0 9).toNatClampNeg)) (fun v34 M34 => some (.inl v34, M34))))))))))))))))))))))) else (some (.inr exI, M10))) (fun E13 => some (.inr E13, M10))))))))))))) else (some (.inr exN, M))))
set_option maxHeartbeats 4000000 in
set_option maxRecDepth 100000 in
theorem c_X9_would {l : Launch} {G : fw_G} {S : List fw_Sh} {M : fw_Mem} {a0 : Nat} {x1 : Int32} {x2 : Int32} {x3 : Int32} {x4 : Int32} {x5 : Int32} {x6 : Int32} {r : ((Int32 ⊕ String) × fw_Mem)} (hl : l.stackTraces = false) (h : f_X9_would S M a0 x1 x2 x3 x4 x5 x6 = some r) : fw_M l G yX9_would (.code yX9_would cX9_would 7 (some .int)) 8 (fw_mcO (fw_oI r.1, S, r.2)) (fw_msO (fw_oI r.1, S, r.2)) S M [.ref a0, .int x1, .int x2, .int x3, .int x4, .int x5, .int x6] (fw_oI r.1, S, r.2) := by
  refine fw_of [(0, .ref a0), (1, .int x1), (2, .int x2), (3, .int x3), (4, .int x4), (5, .int x5), (6, .int x6)] (by decide) (Nat.le_of_ble_eq_true rfl) rfl ?_
  intro p e s m args below meth c C hr hlk hnm ht _
  unfold f_X9_would at h
  refine fw_iload_n C 1 dX9_would_0 rfl rfl ?_
  refine fw_if_lt C 15 dX9_would_1 (by decide) (fun c1 => ?_) (fun c1 => ?_)
  · replace h := (if_pos c1).symm.trans h
    obtain rfl := Option.some.inj h
    exact fw_throwW C hl fw_exN (i := 43) (List.mem_of_getElem? (i := 33) rfl) dX9_would_15 dX9_would_18 dX9_would_19 dX9_would_22 dX9_would_25 ht hlk (Nat.le_of_ble_eq_true rfl) (Nat.le_of_ble_eq_true rfl) (Nat.le_refl _) (Nat.le_refl _)
  · replace h := (if_neg c1).symm.trans h
    refine fw_iload C 6 dX9_would_4 rfl ?_
    refine fw_if_lt C 15 dX9_would_6 (by decide) (fun c2 => ?_) (fun c2 => ?_)
    · replace h := (if_pos c2).symm.trans h
      obtain rfl := Option.some.inj h
      exact fw_throwW C hl fw_exN (i := 43) (List.mem_of_getElem? (i := 33) rfl) dX9_would_15 dX9_would_18 dX9_would_19 dX9_would_22 dX9_would_25 ht hlk (Nat.le_of_ble_eq_true rfl) (Nat.le_of_ble_eq_true rfl) (Nat.le_refl _) (Nat.le_refl _)
    · replace h := (if_neg c2).symm.trans h
      refine fw_iload C 6 dX9_would_9 rfl ?_
      refine fw_iconst C 2 dX9_would_11 rfl ?_
      refine fw_icmp_le C 26 dX9_would_12 (by decide) (fun c3 => ?_) (fun c3 => ?_)
      · replace h := (if_pos c3).symm.trans h
        refine fw_aload_n C 0 dX9_would_26 rfl rfl ?_
        obtain ⟨g4, h⟩ := gd_some h
        obtain ⟨g5, h⟩ := gd_some h
        refine fw_getR C 9 9 (Nat.le_of_ble_eq_true rfl) (Nat.le_of_ble_eq_true rfl) wf_X9_77 rfl (gO_of g4) (gN_of g5) dX9_would_27 ?_
        refine fw_iload_n C 1 dX9_would_30 rfl rfl ?_
        refine fw_bipush C 12 dX9_would_31 rfl ?_
        refine fw_idiv C dX9_would_33 (by decide) ?_
        obtain ⟨g6, h⟩ := gd_some h
        refine fw_putI C 6 1 (Nat.le_of_ble_eq_true rfl) (Nat.le_of_ble_eq_true rfl) wf_X9_181 rfl rfl rfl rfl (gO_of g6) dX9_would_34 ?_
        refine fw_bm h (fun M7 h => ?_)
        refine fw_aload_n C 0 dX9_would_37 rfl rfl ?_
        obtain ⟨g8, h⟩ := gd_some h
        refine fw_getR C 9 9 (Nat.le_of_ble_eq_true rfl) (Nat.le_of_ble_eq_true rfl) wf_X9_77 rfl (gO_of g4) (gN_of g8) dX9_would_38 ?_
        refine fw_iload_n C 1 dX9_would_41 rfl rfl ?_
        refine fw_bipush C 12 dX9_would_42 rfl ?_
        refine fw_irem C dX9_would_44 (by decide) ?_
        obtain ⟨g9, h⟩ := gd_some h
        refine fw_putI C 6 2 (Nat.le_of_ble_eq_true rfl) (Nat.le_of_ble_eq_true rfl) wf_X9_184 rfl rfl rfl rfl (gO_of g9) dX9_would_45 ?_
        refine fw_bm h (fun M10 h => ?_)
        refine fw_aload_n C 0 dX9_would_48 rfl rfl ?_
        refine fw_aload_n C 0 dX9_would_49 rfl rfl ?_
        obtain ⟨g11, h⟩ := gd_some h
        refine fw_getR C 9 9 (Nat.le_of_ble_eq_true rfl) (Nat.le_of_ble_eq_true rfl) wf_X9_77 rfl (gO_of g4) (gN_of g11) dX9_would_50 ?_
        obtain ⟨g12, h⟩ := gd_some h
        refine fw_getI C 6 1 (Nat.le_of_ble_eq_true rfl) (Nat.le_of_ble_eq_true rfl) wf_X9_181 rfl (gO_of g12) dX9_would_53 ?_
        refine fw_aload_n C 0 dX9_would_56 rfl rfl ?_
        refine fw_getR C 9 9 (Nat.le_of_ble_eq_true rfl) (Nat.le_of_ble_eq_true rfl) wf_X9_77 rfl (gO_of g4) (gN_of g11) dX9_would_57 ?_
        refine fw_getI C 6 2 (Nat.le_of_ble_eq_true rfl) (Nat.le_of_ble_eq_true rfl) wf_X9_184 rfl (gO_of g12) dX9_would_60 ?_
        obtain ⟨v13, e13, h⟩ := b1_some h
        rcases v13 with u13 | E13
        rotate_left
        · replace h := bx_r h
          obtain rfl := Option.some.inj h
          exact fw_callVX (ci := 9) [_, _] C (c_X9_needCouple hl e13) cal_X9_needCouple wm_X9_337 wi_yX9_needCouple wsl_yX9_needCouple (Nat.le_of_ble_eq_true rfl) rfl (gO_of g4) rfl (Nat.le_of_ble_eq_true rfl) ⟨Nat.le_of_ble_eq_true rfl, Nat.le_of_ble_eq_true rfl⟩ ⟨Nat.le_refl _, Nat.le_refl _⟩ dX9_would_63 ht hlk
        replace h := bx_l h
        refine fw_callV (ci := 9) [_, _] C (c_X9_needCouple hl e13) cal_X9_needCouple wm_X9_337 wi_yX9_needCouple wsl_yX9_needCouple (Nat.le_of_ble_eq_true rfl) rfl (gO_of g4) rfl (Nat.le_of_ble_eq_true rfl) ⟨Nat.le_of_ble_eq_true rfl, Nat.le_of_ble_eq_true rfl⟩ ⟨Nat.zero_le _, Nat.zero_le _⟩ dX9_would_63 ?_
        refine fw_iload C 4 dX9_would_66 rfl ?_
        refine fw_iload C 5 dX9_would_68 rfl ?_
        refine fw_iand C dX9_would_70 ?_
        refine fw_if_ne C 95 dX9_would_71 (by decide) (fun c14 => ?_) (fun c14 => ?_)
        · replace h := (if_neg c14).symm.trans h
          obtain rfl := Option.some.inj h
          exact fw_throwW C hl fw_exI (i := 52) (List.mem_of_getElem? (i := 35) rfl) dX9_would_95 dX9_would_98 dX9_would_99 dX9_would_102 dX9_would_105 ht hlk (Nat.le_of_ble_eq_true rfl) (Nat.le_of_ble_eq_true rfl) (Nat.le_refl _) (Nat.le_refl _)
        · replace h := (if_pos c14).symm.trans h
          refine fw_iload_n C 3 dX9_would_74 rfl rfl ?_
          refine fw_if_lt C 95 dX9_would_75 (by decide) (fun c15 => ?_) (fun c15 => ?_)
          · replace h := (if_pos c15).symm.trans h
            obtain rfl := Option.some.inj h
            exact fw_throwW C hl fw_exI (i := 52) (List.mem_of_getElem? (i := 35) rfl) dX9_would_95 dX9_would_98 dX9_would_99 dX9_would_102 dX9_would_105 ht hlk (Nat.le_of_ble_eq_true rfl) (Nat.le_of_ble_eq_true rfl) (Nat.le_refl _) (Nat.le_refl _)
          · replace h := (if_neg c15).symm.trans h
            refine fw_iload C 4 dX9_would_78 rfl ?_
            refine fw_if_lt C 95 dX9_would_80 (by decide) (fun c16 => ?_) (fun c16 => ?_)
            · replace h := (if_pos c16).symm.trans h
              obtain rfl := Option.some.inj h
              exact fw_throwW C hl fw_exI (i := 52) (List.mem_of_getElem? (i := 35) rfl) dX9_would_95 dX9_would_98 dX9_would_99 dX9_would_102 dX9_would_105 ht hlk (Nat.le_of_ble_eq_true rfl) (Nat.le_of_ble_eq_true rfl) (Nat.le_refl _) (Nat.le_refl _)
            · replace h := (if_neg c16).symm.trans h
              refine fw_iload C 5 dX9_would_83 rfl ?_
              refine fw_if_lt C 95 dX9_would_85 (by decide) (fun c17 => ?_) (fun c17 => ?_)
              · replace h := (if_pos c17).symm.trans h
                obtain rfl := Option.some.inj h
                exact fw_throwW C hl fw_exI (i := 52) (List.mem_of_getElem? (i := 35) rfl) dX9_would_95 dX9_would_98 dX9_would_99 dX9_would_102 dX9_would_105 ht hlk (Nat.le_of_ble_eq_true rfl) (Nat.le_of_ble_eq_true rfl) (Nat.le_refl _) (Nat.le_refl _)
              · replace h := (if_neg c17).symm.trans h
                refine fw_iload_n C 2 dX9_would_88 rfl rfl ?_
                obtain ⟨v18, e18, h⟩ := b1_some h
                refine fw_callS [_] C (c_X9_isDay hl e18) cal_X9_isDay wm_X9_341 wt_yX9_isDay rfl (Nat.le_of_ble_eq_true rfl) ⟨Nat.le_of_ble_eq_true rfl, Nat.le_of_ble_eq_true rfl⟩ ⟨Nat.zero_le _, Nat.zero_le _⟩ dX9_would_89 ?_
                refine fw_if_ne C 106 dX9_would_92 (by decide) (fun c19 => ?_) (fun c19 => ?_)
                · replace h := (if_neg c19).symm.trans h
                  refine fw_aload_n C 0 dX9_would_106 rfl rfl ?_
                  refine fw_getR C 9 9 (Nat.le_of_ble_eq_true rfl) (Nat.le_of_ble_eq_true rfl) wf_X9_77 rfl (gO_of g4) (gN_of g11) dX9_would_107 ?_
                  refine fw_iload_n C 2 dX9_would_110 rfl rfl ?_
                  refine fw_putI C 6 3 (Nat.le_of_ble_eq_true rfl) (Nat.le_of_ble_eq_true rfl) wf_X9_187 rfl rfl rfl rfl (gO_of g12) dX9_would_111 ?_
                  refine fw_bm h (fun M20 h => ?_)
                  refine fw_aload_n C 0 dX9_would_114 rfl rfl ?_
                  obtain ⟨g21, h⟩ := gd_some h
                  refine fw_getR C 9 9 (Nat.le_of_ble_eq_true rfl) (Nat.le_of_ble_eq_true rfl) wf_X9_77 rfl (gO_of g4) (gN_of g21) dX9_would_115 ?_
                  refine fw_iload_n C 3 dX9_would_118 rfl rfl ?_
                  obtain ⟨g22, h⟩ := gd_some h
                  refine fw_putI C 6 4 (Nat.le_of_ble_eq_true rfl) (Nat.le_of_ble_eq_true rfl) wf_X9_190 rfl rfl rfl rfl (gO_of g22) dX9_would_119 ?_
                  refine fw_bm h (fun M23 h => ?_)
                  refine fw_aload_n C 0 dX9_would_122 rfl rfl ?_
                  obtain ⟨g24, h⟩ := gd_some h
                  refine fw_getR C 9 9 (Nat.le_of_ble_eq_true rfl) (Nat.le_of_ble_eq_true rfl) wf_X9_77 rfl (gO_of g4) (gN_of g24) dX9_would_123 ?_
                  refine fw_iload C 4 dX9_would_126 rfl ?_
                  obtain ⟨g25, h⟩ := gd_some h
                  refine fw_putI C 6 5 (Nat.le_of_ble_eq_true rfl) (Nat.le_of_ble_eq_true rfl) wf_X9_193 rfl rfl rfl rfl (gO_of g25) dX9_would_128 ?_
                  refine fw_bm h (fun M26 h => ?_)
                  refine fw_aload_n C 0 dX9_would_131 rfl rfl ?_
                  obtain ⟨g27, h⟩ := gd_some h
                  refine fw_getR C 9 9 (Nat.le_of_ble_eq_true rfl) (Nat.le_of_ble_eq_true rfl) wf_X9_77 rfl (gO_of g4) (gN_of g27) dX9_would_132 ?_
                  refine fw_iload C 5 dX9_would_135 rfl ?_
                  obtain ⟨g28, h⟩ := gd_some h
                  refine fw_putI C 6 6 (Nat.le_of_ble_eq_true rfl) (Nat.le_of_ble_eq_true rfl) wf_X9_196 rfl rfl rfl rfl (gO_of g28) dX9_would_137 ?_
                  refine fw_bm h (fun M29 h => ?_)
                  refine fw_iload C 6 dX9_would_140 rfl ?_
                  refine fw_if_ne C 157 dX9_would_142 (by decide) (fun c30 => ?_) (fun c30 => ?_)
                  · replace h := (if_neg c30).symm.trans h
                    refine fw_iload C 6 dX9_would_157 rfl ?_
                    refine fw_iconst C 1 dX9_would_159 rfl ?_
                    refine fw_icmp_ne C 177 dX9_would_160 (by decide) (fun c31 => ?_) (fun c31 => ?_)
                    · replace h := (if_neg c31).symm.trans h
                      refine fw_aload_n C 0 dX9_would_177 rfl rfl ?_
                      obtain ⟨g32, h⟩ := gd_some h
                      refine fw_getR C 9 5 (Nat.le_of_ble_eq_true rfl) (Nat.le_of_ble_eq_true rfl) wf_X9_45 rfl (gO_of g4) (gN_of g32) dX9_would_178 ?_
                      refine fw_aload_n C 0 dX9_would_181 rfl rfl ?_
                      obtain ⟨g33, h⟩ := gd_some h
                      refine fw_getR C 9 9 (Nat.le_of_ble_eq_true rfl) (Nat.le_of_ble_eq_true rfl) wf_X9_77 rfl (gO_of g4) (gN_of g33) dX9_would_182 ?_
                      obtain ⟨g35, h⟩ := gd_some h
                      obtain ⟨v34, M34, e34, h⟩ := b2_some h
                      refine fw_callV (ci := 2) [_] C (c_X2_forcedWay hl e34) cal_X2_forcedWay wm_X9_299 wi_yX2_forcedWay wsl_yX2_forcedWay (Nat.le_of_ble_eq_true rfl) rfl (gO_of g35) rfl (Nat.le_of_ble_eq_true rfl) ⟨Nat.le_of_ble_eq_true rfl, Nat.le_of_ble_eq_true rfl⟩ ⟨Nat.zero_le _, Nat.zero_le _⟩ dX9_would_185 ?_
                      obtain rfl := Option.some.inj h
                      exact fw_iret C hr hlk dX9_would_188
                    · replace h := (if_pos c31).symm.trans h
                      refine fw_aload_n C 0 dX9_would_163 rfl rfl ?_
                      obtain ⟨g36, h⟩ := gd_some h
                      refine fw_getR C 9 5 (Nat.le_of_ble_eq_true rfl) (Nat.le_of_ble_eq_true rfl) wf_X9_45 rfl (gO_of g4) (gN_of g36) dX9_would_164 ?_
                      refine fw_aload_n C 0 dX9_would_167 rfl rfl ?_
                      obtain ⟨g37, h⟩ := gd_some h
                      refine fw_getR C 9 9 (Nat.le_of_ble_eq_true rfl) (Nat.le_of_ble_eq_true rfl) wf_X9_77 rfl (gO_of g4) (gN_of g37) dX9_would_168 ?_
                      obtain ⟨g39, h⟩ := gd_some h
                      obtain ⟨v38, M38, e38, h⟩ := b2_some h
                      refine fw_callV (ci := 2) [_] C (c_X2_heldIssues hl e38) cal_X2_heldIssues wm_X9_293 wi_yX2_heldIssues wsl_yX2_heldIssues (Nat.le_of_ble_eq_true rfl) rfl (gO_of g39) rfl (Nat.le_of_ble_eq_true rfl) ⟨Nat.le_of_ble_eq_true rfl, Nat.le_of_ble_eq_true rfl⟩ ⟨Nat.zero_le _, Nat.zero_le _⟩ dX9_would_171 ?_
                      refine fw_goto C 188 dX9_would_174 (by decide) ?_
                      obtain rfl := Option.some.inj h
                      exact fw_iret C hr hlk dX9_would_188
                  · replace h := (if_pos c30).symm.trans h
                    refine fw_aload_n C 0 dX9_would_145 rfl rfl ?_
                    obtain ⟨g40, h⟩ := gd_some h
                    refine fw_getR C 9 5 (Nat.le_of_ble_eq_true rfl) (Nat.le_of_ble_eq_true rfl) wf_X9_45 rfl (gO_of g4) (gN_of g40) dX9_would_146 ?_
                    refine fw_aload_n C 0 dX9_would_149 rfl rfl ?_
                    obtain ⟨g41, h⟩ := gd_some h
                    refine fw_getR C 9 9 (Nat.le_of_ble_eq_true rfl) (Nat.le_of_ble_eq_true rfl) wf_X9_77 rfl (gO_of g4) (gN_of g41) dX9_would_150 ?_
                    obtain ⟨g43, h⟩ := gd_some h
                    obtain ⟨v42, e42, h⟩ := b1_some h
                    refine fw_callV (ci := 2) [_] C (c_X2_barringSuits hl e42) cal_X2_barringSuits wm_X9_252 wi_yX2_barringSuits wsl_yX2_barringSuits (Nat.le_of_ble_eq_true rfl) rfl (gO_of g43) rfl (Nat.le_of_ble_eq_true rfl) ⟨Nat.le_of_ble_eq_true rfl, Nat.le_of_ble_eq_true rfl⟩ ⟨Nat.zero_le _, Nat.zero_le _⟩ dX9_would_153 ?_
                    obtain rfl := Option.some.inj h
                    exact fw_iret C hr hlk dX9_would_156
                · replace h := (if_pos c19).symm.trans h
                  obtain rfl := Option.some.inj h
                  exact fw_throwW C hl fw_exI (i := 52) (List.mem_of_getElem? (i := 35) rfl) dX9_would_95 dX9_would_98 dX9_would_99 dX9_would_102 dX9_would_105 ht hlk (Nat.le_of_ble_eq_true rfl) (Nat.le_of_ble_eq_true rfl) (Nat.le_refl _) (Nat.le_refl _)
      · replace h := (if_neg c3).symm.trans h
        obtain rfl := Option.some.inj h
        exact fw_throwW C hl fw_exN (i := 43) (List.mem_of_getElem? (i := 33) rfl) dX9_would_15 dX9_would_18 dX9_would_19 dX9_would_22 dX9_would_25 ht hlk (Nat.le_of_ble_eq_true rfl) (Nat.le_of_ble_eq_true rfl) (Nat.le_refl _) (Nat.le_refl _)
set_option maxRecDepth 100000 in
def lf_X2_lastFreeDay_6 (S : List fw_Sh) (M : fw_Mem) (a0 : Nat) (a1 : Nat) : Nat → Int32 → Int32 → Option (Int32)
  | 0, _, _ => none
  | n + 1, x2, x3 => gd (gO S 2 a0) (gd (gN (M a0 0)) (gd (gO S 4 ((M a0 0).toNatClampNeg)) (if (M ((M a0 0).toNatClampNeg) 6) ≤ x3 then (some x2) else (gd (gN (M ((M a0 0).toNatClampNeg) 2)) (gd (gA S 4 ((M ((M a0 0).toNatClampNeg) 2).toNatClampNeg) x3) (gd (gN (M ((M ((M a0 0).toNatClampNeg) 2).toNatClampNeg) x3.toNatClampNeg)) (gd (gO S 6 a1) (if x3 = (M a1 0) then (lf_X2_lastFreeDay_6 S M a0 a1 n x2 (x3 + 1)) else (gd (gO S 6 ((M ((M ((M a0 0).toNatClampNeg) 2).toNatClampNeg) x3.toNatClampNeg).toNatClampNeg)) (b1 (f_X6_counts S M ((M ((M ((M a0 0).toNatClampNeg) 2).toNatClampNeg) x3.toNatClampNeg).toNatClampNeg)) (fun v10 => if v10 = 0 then (lf_X2_lastFreeDay_6 S M a0 a1 n x2 (x3 + 1)) else (b1 (f_X2_barsWhatComes S M a0 ((M ((M ((M a0 0).toNatClampNeg) 2).toNatClampNeg) x3.toNatClampNeg).toNatClampNeg) a1) (fun v13 => if v13 = 0 then (lf_X2_lastFreeDay_6 S M a0 a1 n x2 (x3 + 1)) else (bm (if ((M ((M ((M ((M a0 0).toNatClampNeg) 2).toNatClampNeg) x3.toNatClampNeg).toNatClampNeg) 7) - 1) < x2 then ((M ((M ((M ((M a0 0).toNatClampNeg) 2).toNatClampNeg) x3.toNatClampNeg).toNatClampNeg) 7) - 1) else x2) (fun y15 => lf_X2_lastFreeDay_6 S M a0 a1 n y15 (x3 + 1))))))))))))))))
set_option maxHeartbeats 4000000 in
set_option maxRecDepth 100000 in
theorem lc_X2_lastFreeDay_6 {G : fw_G} {p : Program} {l : Launch} {e : Env} {s : State} {m : MethodId} {args : Array Value} {below : List Frame} {meth : Method} {c : Code} {S : List fw_Sh} {o : fw_O} {M : fw_Mem} {a0 : Nat} {a1 : Nat} (C : fw_C G RX2 cX2_lastFreeDay 6 p s m args c) (hr : meth.sig.returnType = (some .int)) (hlk : meth.locks = false) (hl : l.stackTraces = false) (ht : ∀ x ∈ c.exceptionTable.toList, False) :
    ∀ {n : Nat} {x2 : Int32} {x3 : Int32} {r : (Int32)} (h : lf_X2_lastFreeDay_6 S M a0 a1 n x2 x3 = some r) (kx : fw_W G p l e (fw_rm 4 (fw_mcO o) (fw_msO o)) s m args below meth c 6 (fw_Z G below args s (fw_mcO o) (fw_msO o) o) 0 0 84 [(2, .int r)] [] S M), fw_W G p l e (fw_rm 4 (fw_mcO o) (fw_msO o)) s m args below meth c 6 (fw_Z G below args s (fw_mcO o) (fw_msO o) o) 0 0 6 [(0, .ref a0), (1, .ref a1), (2, .int x2), (3, .int x3)] [] S M := by
  intro n
  induction n with
  | zero =>
    intro x2 x3 r h
    exact nomatch (show (none : Option (Int32)) = some r from h)
  | succ n ih =>
    intro x2 x3 r h kx
    rw [lf_X2_lastFreeDay_6.eq_2] at h
    refine fw_iload_n C 3 dX2_lastFreeDay_6 rfl rfl ?_
    refine fw_aload_n C 0 dX2_lastFreeDay_7 rfl rfl ?_
    obtain ⟨g1, h⟩ := gd_some h
    obtain ⟨g2, h⟩ := gd_some h
    refine fw_getR C 2 0 (Nat.le_of_ble_eq_true rfl) (Nat.le_of_ble_eq_true rfl) wf_X2_27 rfl (gO_of g1) (gN_of g2) dX2_lastFreeDay_8 ?_
    obtain ⟨g3, h⟩ := gd_some h
    refine fw_getI C 4 6 (Nat.le_of_ble_eq_true rfl) (Nat.le_of_ble_eq_true rfl) wf_X2_31 rfl (gO_of g3) dX2_lastFreeDay_11 ?_
    refine fw_icmp_ge C 84 dX2_lastFreeDay_14 (by decide) (fun c4 => ?_) (fun c4 => ?_)
    · replace h := (if_pos c4).symm.trans h
      obtain rfl := Option.some.inj h
      refine fw_sub [2] rfl ?_
      exact kx
    · replace h := (if_neg c4).symm.trans h
      refine fw_aload_n C 0 dX2_lastFreeDay_17 rfl rfl ?_
      refine fw_getR C 2 0 (Nat.le_of_ble_eq_true rfl) (Nat.le_of_ble_eq_true rfl) wf_X2_27 rfl (gO_of g1) (gN_of g2) dX2_lastFreeDay_18 ?_
      obtain ⟨g5, h⟩ := gd_some h
      refine fw_getR C 4 2 (Nat.le_of_ble_eq_true rfl) (Nat.le_of_ble_eq_true rfl) wf_X2_37 rfl (gO_of g3) (gN_of g5) dX2_lastFreeDay_21 ?_
      refine fw_iload_n C 3 dX2_lastFreeDay_24 rfl rfl ?_
      obtain ⟨g6, h⟩ := gd_some h
      obtain ⟨g7, h⟩ := gd_some h
      refine fw_aald C 4 (by decide) (gA_of g6) (gN_of g7) dX2_lastFreeDay_25 ?_
      refine fw_astore C [(4, _), (0, _), (1, _), (2, _), (3, _)] dX2_lastFreeDay_26 (Nat.le_of_ble_eq_true rfl) rfl ?_
      refine fw_iload_n C 4 dX2_lastFreeDay_28 rfl rfl ?_
      refine fw_aload_n C 2 dX2_lastFreeDay_29 rfl rfl ?_
      obtain ⟨g8, h⟩ := gd_some h
      refine fw_getI C 6 0 (Nat.le_of_ble_eq_true rfl) (Nat.le_of_ble_eq_true rfl) wf_X2_122 rfl (gO_of g8) dX2_lastFreeDay_30 ?_
      refine fw_icmp_eq C 48 dX2_lastFreeDay_33 (by decide) (fun c9 => ?_) (fun c9 => ?_)
      · replace h := (if_pos c9).symm.trans h
        refine fw_iconst C 0 dX2_lastFreeDay_48 rfl ?_
        refine fw_istore C [(5, _), (4, _), (0, _), (1, _), (2, _), (3, _)] dX2_lastFreeDay_49 (Nat.le_of_ble_eq_true rfl) rfl ?_
        refine fw_iload C 0 dX2_lastFreeDay_51 rfl ?_
        refine fw_if_eq C 78 dX2_lastFreeDay_53 (by decide) (fun _ => ?_) (fun q => absurd q (by decide))
        refine fw_iinc C _ 5 [(3, _), (5, _), (4, _), (0, _), (1, _), (2, _)] dX2_lastFreeDay_78 rfl rfl (Nat.le_of_ble_eq_true rfl) rfl ?_
        refine fw_goto C 6 dX2_lastFreeDay_81 (by decide) ?_
        refine fw_sub [3, 4, 5, 0] rfl ?_
        exact ih h kx
      · replace h := (if_neg c9).symm.trans h
        refine fw_aload C 0 dX2_lastFreeDay_36 rfl ?_
        obtain ⟨g11, h⟩ := gd_some h
        obtain ⟨v10, e10, h⟩ := b1_some h
        refine fw_callV (ci := 6) [] C (c_X6_counts hl e10) cal_X6_counts wm_X2_125 wi_yX6_counts wsl_yX6_counts (Nat.le_of_ble_eq_true rfl) rfl (gO_of g11) rfl (Nat.le_of_ble_eq_true rfl) ⟨Nat.le_of_ble_eq_true rfl, Nat.le_of_ble_eq_true rfl⟩ ⟨Nat.zero_le _, Nat.zero_le _⟩ dX2_lastFreeDay_38 ?_
        refine fw_if_eq C 48 dX2_lastFreeDay_41 (by decide) (fun c12 => ?_) (fun c12 => ?_)
        · replace h := (if_pos c12).symm.trans h
          refine fw_iconst C 0 dX2_lastFreeDay_48 rfl ?_
          refine fw_istore C [(5, _), (4, _), (0, _), (1, _), (2, _), (3, _)] dX2_lastFreeDay_49 (Nat.le_of_ble_eq_true rfl) rfl ?_
          refine fw_iload C 0 dX2_lastFreeDay_51 rfl ?_
          refine fw_if_eq C 78 dX2_lastFreeDay_53 (by decide) (fun _ => ?_) (fun q => absurd q (by decide))
          refine fw_iinc C _ 5 [(3, _), (5, _), (4, _), (0, _), (1, _), (2, _)] dX2_lastFreeDay_78 rfl rfl (Nat.le_of_ble_eq_true rfl) rfl ?_
          refine fw_goto C 6 dX2_lastFreeDay_81 (by decide) ?_
          refine fw_sub [3, 4, 5, 0] rfl ?_
          exact ih h kx
        · replace h := (if_neg c12).symm.trans h
          refine fw_iconst C 1 dX2_lastFreeDay_44 rfl ?_
          refine fw_goto C 49 dX2_lastFreeDay_45 (by decide) ?_
          refine fw_istore C [(5, _), (4, _), (0, _), (1, _), (2, _), (3, _)] dX2_lastFreeDay_49 (Nat.le_of_ble_eq_true rfl) rfl ?_
          refine fw_iload C 0 dX2_lastFreeDay_51 rfl ?_
          refine fw_if_eq C 78 dX2_lastFreeDay_53 (by decide) (fun q => absurd q (by decide)) (fun _ => ?_)
          refine fw_aload_n C 2 dX2_lastFreeDay_56 rfl rfl ?_
          refine fw_aload C 1 dX2_lastFreeDay_57 rfl ?_
          refine fw_aload_n C 3 dX2_lastFreeDay_59 rfl rfl ?_
          obtain ⟨v13, e13, h⟩ := b1_some h
          refine fw_callV (ci := 2) [_, _] C (c_X2_barsWhatComes hl e13) cal_X2_barsWhatComes wm_X2_156 wi_yX2_barsWhatComes wsl_yX2_barsWhatComes (Nat.le_of_ble_eq_true rfl) rfl (gO_of g1) rfl (Nat.le_of_ble_eq_true rfl) ⟨Nat.le_of_ble_eq_true rfl, Nat.le_of_ble_eq_true rfl⟩ ⟨Nat.zero_le _, Nat.zero_le _⟩ dX2_lastFreeDay_60 ?_
          refine fw_if_eq C 78 dX2_lastFreeDay_63 (by decide) (fun c14 => ?_) (fun c14 => ?_)
          · replace h := (if_pos c14).symm.trans h
            refine fw_iinc C _ 5 [(3, _), (5, _), (4, _), (0, _), (1, _), (2, _)] dX2_lastFreeDay_78 rfl rfl (Nat.le_of_ble_eq_true rfl) rfl ?_
            refine fw_goto C 6 dX2_lastFreeDay_81 (by decide) ?_
            refine fw_sub [3, 4, 5, 0] rfl ?_
            exact ih h kx
          · replace h := (if_neg c14).symm.trans h
            refine fw_iload_n C 4 dX2_lastFreeDay_66 rfl rfl ?_
            refine fw_aload C 1 dX2_lastFreeDay_67 rfl ?_
            refine fw_getI C 6 7 (Nat.le_of_ble_eq_true rfl) (Nat.le_of_ble_eq_true rfl) wf_X2_94 rfl (gO_of g11) dX2_lastFreeDay_69 ?_
            refine fw_iconst C 1 dX2_lastFreeDay_72 rfl ?_
            refine fw_isub C dX2_lastFreeDay_73 ?_
            refine fw_min C wm_X2_139 (Nat.le_of_ble_eq_true rfl) (Nat.le_of_ble_eq_true rfl) (Nat.le_of_ble_eq_true rfl) (Nat.zero_le _) (Nat.zero_le _) dX2_lastFreeDay_74 ?_
            refine fw_bi h (fun y15 h => ?_)
            refine fw_istore_n C [(2, _), (5, _), (4, _), (0, _), (1, _), (3, _)] dX2_lastFreeDay_77 rfl (Nat.le_of_ble_eq_true rfl) rfl ?_
            refine fw_iinc C _ 5 [(3, _), (2, _), (5, _), (4, _), (0, _), (1, _)] dX2_lastFreeDay_78 rfl rfl (Nat.le_of_ble_eq_true rfl) rfl ?_
            refine fw_goto C 6 dX2_lastFreeDay_81 (by decide) ?_
            refine fw_sub [4, 5, 1, 0] rfl ?_
            exact ih h kx
set_option maxRecDepth 100000 in
def f_X2_lastFreeDay (S : List fw_Sh) (M : fw_Mem) (a0 : Nat) (a1 : Nat) : Option Int32 := b1 (lf_X2_lastFreeDay_6 S M a0 a1 20000 9999 0) (fun l16 => some l16)
set_option maxHeartbeats 4000000 in
set_option maxRecDepth 100000 in
theorem c_X2_lastFreeDay {l : Launch} {G : fw_G} {S : List fw_Sh} {M : fw_Mem} {a0 : Nat} {a1 : Nat} {r : Int32} (hl : l.stackTraces = false) (h : f_X2_lastFreeDay S M a0 a1 = some r) : fw_M l G yX2_lastFreeDay (.code yX2_lastFreeDay cX2_lastFreeDay 6 (some .int)) 4 (fw_mcO (.inl (some (.int r)), S, M)) (fw_msO (.inl (some (.int r)), S, M)) S M [.ref a0, .ref a1] (.inl (some (.int r)), S, M) := by
  refine fw_of [(0, .ref a0), (1, .ref a1)] (by decide) (Nat.le_of_ble_eq_true rfl) rfl ?_
  intro p e s m args below meth c C hr hlk hnm ht _
  unfold f_X2_lastFreeDay at h
  refine fw_sipush C 9999 dX2_lastFreeDay_0 rfl ?_
  refine fw_istore_n C [(2, _), (0, _), (1, _)] dX2_lastFreeDay_3 rfl (Nat.le_of_ble_eq_true rfl) rfl ?_
  refine fw_iconst C 0 dX2_lastFreeDay_4 rfl ?_
  refine fw_istore_n C [(3, _), (2, _), (0, _), (1, _)] dX2_lastFreeDay_5 rfl (Nat.le_of_ble_eq_true rfl) rfl ?_
  refine fw_sub [2, 3, 1, 0] rfl ?_
  obtain ⟨l16, e16, h⟩ := b1_some h
  refine lc_X2_lastFreeDay_6 C hr hlk hl ht e16 ?_
  refine fw_iload_n C 0 dX2_lastFreeDay_84 rfl rfl ?_
  obtain rfl := Option.some.inj h
  exact fw_iret C hr hlk dX2_lastFreeDay_85
set_option maxRecDepth 100000 in
def f_X9_freeTill (S : List fw_Sh) (M : fw_Mem) (a0 : Nat) (x1 : Int32) : Option (Int32 ⊕ String) := gd (gO S 9 a0) (gd (gN (M a0 5)) (b1 (f_X9_suitAt S M a0 x1) (fun v3 => bx v3 (fun u3 => bn u3 none (fun w3 => gd (gO S 2 ((M a0 5).toNatClampNeg)) (b1 (f_X2_lastFreeDay S M ((M a0 5).toNatClampNeg) w3) (fun v4 => some (.inl v4))))) (fun E3 => some (.inr E3)))))
set_option maxHeartbeats 4000000 in
set_option maxRecDepth 100000 in
theorem c_X9_freeTill {l : Launch} {G : fw_G} {S : List fw_Sh} {M : fw_Mem} {a0 : Nat} {x1 : Int32} {r : (Int32 ⊕ String)} (hl : l.stackTraces = false) (h : f_X9_freeTill S M a0 x1 = some r) : fw_M l G yX9_freeTill (.code yX9_freeTill cX9_freeTill 2 (some .int)) 7 (fw_mcO (fw_oI r, S, M)) (fw_msO (fw_oI r, S, M)) S M [.ref a0, .int x1] (fw_oI r, S, M) := by
  refine fw_of [(0, .ref a0), (1, .int x1)] (by decide) (Nat.le_of_ble_eq_true rfl) rfl ?_
  intro p e s m args below meth c C hr hlk hnm ht _
  unfold f_X9_freeTill at h
  refine fw_aload_n C 0 dX9_freeTill_0 rfl rfl ?_
  obtain ⟨g1, h⟩ := gd_some h
  obtain ⟨g2, h⟩ := gd_some h
  refine fw_getR C 9 5 (Nat.le_of_ble_eq_true rfl) (Nat.le_of_ble_eq_true rfl) wf_X9_45 rfl (gO_of g1) (gN_of g2) dX9_freeTill_1 ?_
  refine fw_aload_n C 0 dX9_freeTill_4 rfl rfl ?_
  refine fw_iload_n C 1 dX9_freeTill_5 rfl rfl ?_
  obtain ⟨v3, e3, h⟩ := b1_some h
  rcases v3 with u3 | E3
  rotate_left
  · replace h := bx_r h
    obtain rfl := Option.some.inj h
    exact fw_callVX (ci := 9) [_] C (c_X9_suitAt hl e3) cal_X9_suitAt wm_X9_177 wi_yX9_suitAt wsl_yX9_suitAt (Nat.le_of_ble_eq_true rfl) rfl (gO_of g1) rfl (Nat.le_of_ble_eq_true rfl) ⟨Nat.le_of_ble_eq_true rfl, Nat.le_of_ble_eq_true rfl⟩ ⟨Nat.le_refl _, Nat.le_refl _⟩ dX9_freeTill_6 ht hlk
  replace h := bx_l h
  rcases u3 with _ | w3
  · cases h
  refine fw_callV (ci := 9) [_] C (c_X9_suitAt hl e3) cal_X9_suitAt wm_X9_177 wi_yX9_suitAt wsl_yX9_suitAt (Nat.le_of_ble_eq_true rfl) rfl (gO_of g1) rfl (Nat.le_of_ble_eq_true rfl) ⟨Nat.le_of_ble_eq_true rfl, Nat.le_of_ble_eq_true rfl⟩ ⟨Nat.zero_le _, Nat.zero_le _⟩ dX9_freeTill_6 ?_
  obtain ⟨g5, h⟩ := gd_some h
  obtain ⟨v4, e4, h⟩ := b1_some h
  refine fw_callV (ci := 2) [_] C (c_X2_lastFreeDay hl e4) cal_X2_lastFreeDay wm_X9_347 wi_yX2_lastFreeDay wsl_yX2_lastFreeDay (Nat.le_of_ble_eq_true rfl) rfl (gO_of g5) rfl (Nat.le_of_ble_eq_true rfl) ⟨Nat.le_of_ble_eq_true rfl, Nat.le_of_ble_eq_true rfl⟩ ⟨Nat.zero_le _, Nat.zero_le _⟩ dX9_freeTill_9 ?_
  obtain rfl := Option.some.inj h
  exact fw_iret C hr hlk dX9_freeTill_12
set_option maxRecDepth 100000 in
def lf_X2_boundOverIssue_4 (S : List fw_Sh) (M : fw_Mem) (a0 : Nat) (x1 : Int32) : Nat → Int32 → Int32 → Option (Int32)
  | 0, _, _ => none
  | n + 1, x2, x3 => gd (gO S 2 a0) (gd (gN (M a0 0)) (gd (gO S 4 ((M a0 0).toNatClampNeg)) (if (M ((M a0 0).toNatClampNeg) 6) ≤ x3 then (some x2) else (gd (gN (M ((M a0 0).toNatClampNeg) 2)) (gd (gA S 4 ((M ((M a0 0).toNatClampNeg) 2).toNatClampNeg) x3) (gd (gN (M ((M ((M a0 0).toNatClampNeg) 2).toNatClampNeg) x3.toNatClampNeg)) (gd (gO S 6 ((M ((M ((M a0 0).toNatClampNeg) 2).toNatClampNeg) x3.toNatClampNeg).toNatClampNeg)) (if ((((M ((M ((M ((M a0 0).toNatClampNeg) 2).toNatClampNeg) x3.toNatClampNeg).toNatClampNeg) 15) ||| (M ((M ((M ((M a0 0).toNatClampNeg) 2).toNatClampNeg) x3.toNatClampNeg).toNatClampNeg) 16)) >>> (x1 &&& 31)) &&& 1) = 1 then (b1 (f_X6_boundAtAll S M ((M ((M ((M a0 0).toNatClampNeg) 2).toNatClampNeg) x3.toNatClampNeg).toNatClampNeg)) (fun v10 => lf_X2_boundOverIssue_4 S M a0 x1 n (x2 ||| v10) (x3 + 1))) else (lf_X2_boundOverIssue_4 S M a0 x1 n x2 (x3 + 1))))))))))
set_option maxHeartbeats 4000000 in
set_option maxRecDepth 100000 in
theorem lc_X2_boundOverIssue_4 {G : fw_G} {p : Program} {l : Launch} {e : Env} {s : State} {m : MethodId} {args : Array Value} {below : List Frame} {meth : Method} {c : Code} {S : List fw_Sh} {o : fw_O} {M : fw_Mem} {a0 : Nat} {x1 : Int32} (C : fw_C G RX2 cX2_boundOverIssue 5 p s m args c) (hr : meth.sig.returnType = (some .int)) (hlk : meth.locks = false) (hl : l.stackTraces = false) (ht : ∀ x ∈ c.exceptionTable.toList, False) :
    ∀ {n : Nat} {x2 : Int32} {x3 : Int32} {r : (Int32)} (h : lf_X2_boundOverIssue_4 S M a0 x1 n x2 x3 = some r) (kx : fw_W G p l e (fw_rm 2 (fw_mcO o) (fw_msO o)) s m args below meth c 5 (fw_Z G below args s (fw_mcO o) (fw_msO o) o) 0 0 59 [(2, .int r)] [] S M), fw_W G p l e (fw_rm 2 (fw_mcO o) (fw_msO o)) s m args below meth c 5 (fw_Z G below args s (fw_mcO o) (fw_msO o) o) 0 0 4 [(0, .ref a0), (1, .int x1), (2, .int x2), (3, .int x3)] [] S M := by
  intro n
  induction n with
  | zero =>
    intro x2 x3 r h
    exact nomatch (show (none : Option (Int32)) = some r from h)
  | succ n ih =>
    intro x2 x3 r h kx
    rw [lf_X2_boundOverIssue_4.eq_2] at h
    refine fw_iload_n C 3 dX2_boundOverIssue_4 rfl rfl ?_
    refine fw_aload_n C 0 dX2_boundOverIssue_5 rfl rfl ?_
    obtain ⟨g1, h⟩ := gd_some h
    obtain ⟨g2, h⟩ := gd_some h
    refine fw_getR C 2 0 (Nat.le_of_ble_eq_true rfl) (Nat.le_of_ble_eq_true rfl) wf_X2_27 rfl (gO_of g1) (gN_of g2) dX2_boundOverIssue_6 ?_
    obtain ⟨g3, h⟩ := gd_some h
    refine fw_getI C 4 6 (Nat.le_of_ble_eq_true rfl) (Nat.le_of_ble_eq_true rfl) wf_X2_31 rfl (gO_of g3) dX2_boundOverIssue_9 ?_
    refine fw_icmp_ge C 59 dX2_boundOverIssue_12 (by decide) (fun c4 => ?_) (fun c4 => ?_)
    · replace h := (if_pos c4).symm.trans h
      obtain rfl := Option.some.inj h
      refine fw_sub [2] rfl ?_
      exact kx
    · replace h := (if_neg c4).symm.trans h
      refine fw_aload_n C 0 dX2_boundOverIssue_15 rfl rfl ?_
      refine fw_getR C 2 0 (Nat.le_of_ble_eq_true rfl) (Nat.le_of_ble_eq_true rfl) wf_X2_27 rfl (gO_of g1) (gN_of g2) dX2_boundOverIssue_16 ?_
      obtain ⟨g5, h⟩ := gd_some h
      refine fw_getR C 4 2 (Nat.le_of_ble_eq_true rfl) (Nat.le_of_ble_eq_true rfl) wf_X2_37 rfl (gO_of g3) (gN_of g5) dX2_boundOverIssue_19 ?_
      refine fw_iload_n C 3 dX2_boundOverIssue_22 rfl rfl ?_
      obtain ⟨g6, h⟩ := gd_some h
      obtain ⟨g7, h⟩ := gd_some h
      refine fw_aald C 4 (by decide) (gA_of g6) (gN_of g7) dX2_boundOverIssue_23 ?_
      refine fw_astore C [(4, _), (0, _), (1, _), (2, _), (3, _)] dX2_boundOverIssue_24 (Nat.le_of_ble_eq_true rfl) rfl ?_
      refine fw_aload C 0 dX2_boundOverIssue_26 rfl ?_
      obtain ⟨g8, h⟩ := gd_some h
      refine fw_getI C 6 15 (Nat.le_of_ble_eq_true rfl) (Nat.le_of_ble_eq_true rfl) wf_X2_53 rfl (gO_of g8) dX2_boundOverIssue_28 ?_
      refine fw_aload C 0 dX2_boundOverIssue_31 rfl ?_
      refine fw_getI C 6 16 (Nat.le_of_ble_eq_true rfl) (Nat.le_of_ble_eq_true rfl) wf_X2_59 rfl (gO_of g8) dX2_boundOverIssue_33 ?_
      refine fw_ior C dX2_boundOverIssue_36 ?_
      refine fw_iload_n C 2 dX2_boundOverIssue_37 rfl rfl ?_
      refine fw_ishr C dX2_boundOverIssue_38 ?_
      refine fw_iconst C 1 dX2_boundOverIssue_39 rfl ?_
      refine fw_iand C dX2_boundOverIssue_40 ?_
      refine fw_iconst C 1 dX2_boundOverIssue_41 rfl ?_
      refine fw_icmp_ne C 53 dX2_boundOverIssue_42 (by decide) (fun c9 => ?_) (fun c9 => ?_)
      · replace h := (if_neg c9).symm.trans h
        refine fw_iinc C _ 4 [(3, _), (4, _), (0, _), (1, _), (2, _)] dX2_boundOverIssue_53 rfl rfl (Nat.le_of_ble_eq_true rfl) rfl ?_
        refine fw_goto C 4 dX2_boundOverIssue_56 (by decide) ?_
        refine fw_sub [2, 3, 4, 0] rfl ?_
        exact ih h kx
      · replace h := (if_pos c9).symm.trans h
        refine fw_iload_n C 3 dX2_boundOverIssue_45 rfl rfl ?_
        refine fw_aload C 0 dX2_boundOverIssue_46 rfl ?_
        obtain ⟨v10, e10, h⟩ := b1_some h
        refine fw_callV (ci := 6) [] C (c_X6_boundAtAll hl e10) cal_X6_boundAtAll wm_X2_213 wi_yX6_boundAtAll wsl_yX6_boundAtAll (Nat.le_of_ble_eq_true rfl) rfl (gO_of g8) rfl (Nat.le_of_ble_eq_true rfl) ⟨Nat.le_of_ble_eq_true rfl, Nat.le_of_ble_eq_true rfl⟩ ⟨Nat.zero_le _, Nat.zero_le _⟩ dX2_boundOverIssue_48 ?_
        refine fw_ior C dX2_boundOverIssue_51 ?_
        refine fw_istore_n C [(2, _), (4, _), (0, _), (1, _), (3, _)] dX2_boundOverIssue_52 rfl (Nat.le_of_ble_eq_true rfl) rfl ?_
        refine fw_iinc C _ 4 [(3, _), (2, _), (4, _), (0, _), (1, _)] dX2_boundOverIssue_53 rfl rfl (Nat.le_of_ble_eq_true rfl) rfl ?_
        refine fw_goto C 4 dX2_boundOverIssue_56 (by decide) ?_
        refine fw_sub [3, 4, 1, 0] rfl ?_
        exact ih h kx
set_option maxRecDepth 100000 in
def f_X2_boundOverIssue (S : List fw_Sh) (M : fw_Mem) (a0 : Nat) (x1 : Int32) : Option Int32 := b1 (lf_X2_boundOverIssue_4 S M a0 x1 20000 0 0) (fun l11 => some l11)
set_option maxHeartbeats 4000000 in
set_option maxRecDepth 100000 in
theorem c_X2_boundOverIssue {l : Launch} {G : fw_G} {S : List fw_Sh} {M : fw_Mem} {a0 : Nat} {x1 : Int32} {r : Int32} (hl : l.stackTraces = false) (h : f_X2_boundOverIssue S M a0 x1 = some r) : fw_M l G yX2_boundOverIssue (.code yX2_boundOverIssue cX2_boundOverIssue 5 (some .int)) 2 (fw_mcO (.inl (some (.int r)), S, M)) (fw_msO (.inl (some (.int r)), S, M)) S M [.ref a0, .int x1] (.inl (some (.int r)), S, M) := by
  refine fw_of [(0, .ref a0), (1, .int x1)] (by decide) (Nat.le_of_ble_eq_true rfl) rfl ?_
  intro p e s m args below meth c C hr hlk hnm ht _
  unfold f_X2_boundOverIssue at h
  refine fw_iconst C 0 dX2_boundOverIssue_0 rfl ?_
  refine fw_istore_n C [(2, _), (0, _), (1, _)] dX2_boundOverIssue_1 rfl (Nat.le_of_ble_eq_true rfl) rfl ?_
  refine fw_iconst C 0 dX2_boundOverIssue_2 rfl ?_
  refine fw_istore_n C [(3, _), (2, _), (0, _), (1, _)] dX2_boundOverIssue_3 rfl (Nat.le_of_ble_eq_true rfl) rfl ?_
  refine fw_sub [2, 3, 1, 0] rfl ?_
  obtain ⟨l11, e11, h⟩ := b1_some h
  refine lc_X2_boundOverIssue_4 C hr hlk hl ht e11 ?_
  refine fw_iload_n C 0 dX2_boundOverIssue_59 rfl rfl ?_
  obtain rfl := Option.some.inj h
  exact fw_iret C hr hlk dX2_boundOverIssue_60
set_option maxRecDepth 100000 in
def f_X9_against (S : List fw_Sh) (M : fw_Mem) (a0 : Nat) (x1 : Int32) : Option (Int32 ⊕ String) := if x1 < 0 then (some (.inr exN)) else (if x1 < 31 then (gd (gO S 9 a0) (gd (gN (M a0 5)) (gd (gO S 2 ((M a0 5).toNatClampNeg)) (b1 (f_X2_boundOverIssue S M ((M a0 5).toNatClampNeg) x1) (fun v5 => some (.inl v5)))))) else (some (.inr exN)))
set_option maxHeartbeats 4000000 in
set_option maxRecDepth 100000 in
theorem c_X9_against {l : Launch} {G : fw_G} {S : List fw_Sh} {M : fw_Mem} {a0 : Nat} {x1 : Int32} {r : (Int32 ⊕ String)} (hl : l.stackTraces = false) (h : f_X9_against S M a0 x1 = some r) : fw_M l G yX9_against (.code yX9_against cX9_against 2 (some .int)) 6 (fw_mcO (fw_oI r, S, M)) (fw_msO (fw_oI r, S, M)) S M [.ref a0, .int x1] (fw_oI r, S, M) := by
  refine fw_of [(0, .ref a0), (1, .int x1)] (by decide) (Nat.le_of_ble_eq_true rfl) rfl ?_
  intro p e s m args below meth c C hr hlk hnm ht _
  unfold f_X9_against at h
  refine fw_iload_n C 1 dX9_against_0 rfl rfl ?_
  refine fw_if_lt C 10 dX9_against_1 (by decide) (fun c1 => ?_) (fun c1 => ?_)
  · replace h := (if_pos c1).symm.trans h
    obtain rfl := Option.some.inj h
    exact fw_throwW C hl fw_exN (i := 37) (List.mem_of_getElem? (i := 36) rfl) dX9_against_10 dX9_against_13 dX9_against_14 dX9_against_17 dX9_against_20 ht hlk (Nat.le_of_ble_eq_true rfl) (Nat.le_of_ble_eq_true rfl) (Nat.le_refl _) (Nat.le_refl _)
  · replace h := (if_neg c1).symm.trans h
    refine fw_iload_n C 1 dX9_against_4 rfl rfl ?_
    refine fw_bipush C 31 dX9_against_5 rfl ?_
    refine fw_icmp_lt C 21 dX9_against_7 (by decide) (fun c2 => ?_) (fun c2 => ?_)
    · replace h := (if_pos c2).symm.trans h
      refine fw_aload_n C 0 dX9_against_21 rfl rfl ?_
      obtain ⟨g3, h⟩ := gd_some h
      obtain ⟨g4, h⟩ := gd_some h
      refine fw_getR C 9 5 (Nat.le_of_ble_eq_true rfl) (Nat.le_of_ble_eq_true rfl) wf_X9_45 rfl (gO_of g3) (gN_of g4) dX9_against_22 ?_
      refine fw_iload_n C 1 dX9_against_25 rfl rfl ?_
      obtain ⟨g6, h⟩ := gd_some h
      obtain ⟨v5, e5, h⟩ := b1_some h
      refine fw_callV (ci := 2) [_] C (c_X2_boundOverIssue hl e5) cal_X2_boundOverIssue wm_X9_352 wi_yX2_boundOverIssue wsl_yX2_boundOverIssue (Nat.le_of_ble_eq_true rfl) rfl (gO_of g6) rfl (Nat.le_of_ble_eq_true rfl) ⟨Nat.le_of_ble_eq_true rfl, Nat.le_of_ble_eq_true rfl⟩ ⟨Nat.zero_le _, Nat.zero_le _⟩ dX9_against_26 ?_
      obtain rfl := Option.some.inj h
      exact fw_iret C hr hlk dX9_against_29
    · replace h := (if_neg c2).symm.trans h
      obtain rfl := Option.some.inj h
      exact fw_throwW C hl fw_exN (i := 37) (List.mem_of_getElem? (i := 36) rfl) dX9_against_10 dX9_against_13 dX9_against_14 dX9_against_17 dX9_against_20 ht hlk (Nat.le_of_ble_eq_true rfl) (Nat.le_of_ble_eq_true rfl) (Nat.le_refl _) (Nat.le_refl _)
set_option maxRecDepth 100000 in
def fj_X0_note_37 (S : List fw_Sh) (M : fw_Mem) (a0 : Nat) (x1 : Int32) (x2 : Int32) (x3 : Int32) (x4 : Int32) (x5 : Int32) (x6 : Int32) : Option fw_Mem := gd (gO S 0 a0) (gd (gN (M a0 0)) (gd (gA S 0 ((M a0 0).toNatClampNeg) ((M a0 1) * 6)) (bm (fw_set M ((M a0 0).toNatClampNeg) ((M a0 1) * 6).toNatClampNeg x1) (fun M30 => gd (gN (M30 a0 0)) (gd (gA S 0 ((M30 a0 0).toNatClampNeg) (((M a0 1) * 6) + 1)) (bm (fw_set M30 ((M30 a0 0).toNatClampNeg) (((M a0 1) * 6) + 1).toNatClampNeg x2) (fun M33 => gd (gN (M33 a0 0)) (gd (gA S 0 ((M33 a0 0).toNatClampNeg) (((M a0 1) * 6) + 2)) (bm (fw_set M33 ((M33 a0 0).toNatClampNeg) (((M a0 1) * 6) + 2).toNatClampNeg x3) (fun M36 => gd (gN (M36 a0 0)) (gd (gA S 0 ((M36 a0 0).toNatClampNeg) (((M a0 1) * 6) + 3)) (bm (fw_set M36 ((M36 a0 0).toNatClampNeg) (((M a0 1) * 6) + 3).toNatClampNeg x4) (fun M39 => gd (gN (M39 a0 0)) (gd (gA S 0 ((M39 a0 0).toNatClampNeg) (((M a0 1) * 6) + 4)) (bm (fw_set M39 ((M39 a0 0).toNatClampNeg) (((M a0 1) * 6) + 4).toNatClampNeg x5) (fun M42 => gd (gN (M42 a0 0)) (gd (gA S 0 ((M42 a0 0).toNatClampNeg) (((M a0 1) * 6) + 5)) (bm (fw_set M42 ((M42 a0 0).toNatClampNeg) (((M a0 1) * 6) + 5).toNatClampNeg x6) (fun M45 => bm (fw_set M45 a0 1 ((M45 a0 1) + 1)) (fun M46 => some M46))))))))))))))))))))
set_option maxHeartbeats 4000000 in
set_option maxRecDepth 100000 in
theorem jc_X0_note_37 {G : fw_G} {p : Program} {l : Launch} {e : Env} {s : State} {m : MethodId} {args : Array Value} {below : List Frame} {meth : Method} {c : Code} {S : List fw_Sh} {M : fw_Mem} {a0 : Nat} {x1 : Int32} {x2 : Int32} {x3 : Int32} {x4 : Int32} {x5 : Int32} {x6 : Int32} {r : fw_Mem} {o : fw_O} (C : fw_C G RX0 cX0_note 8 p s m args c) (hr : meth.sig.returnType = none) (hlk : meth.locks = false) (hl : l.stackTraces = false) (ht : ∀ x ∈ c.exceptionTable.toList, False) (ho : o = (.inl none, S, r)) (h : fj_X0_note_37 S M a0 x1 x2 x3 x4 x5 x6 = some r) :
    fw_W G p l e (fw_rm 2 (fw_mcO o) (fw_msO o)) s m args below meth c 8 (fw_Z G below args s (fw_mcO o) (fw_msO o) o) 0 0 37 [(0, .ref a0), (1, .int x1), (2, .int x2), (3, .int x3), (4, .int x4), (5, .int x5), (6, .int x6)] [] S M := by
  subst ho
  unfold fj_X0_note_37 at h
  refine fw_aload_n C 0 dX0_note_37 rfl rfl ?_
  obtain ⟨g27, h⟩ := gd_some h
  refine fw_getI C 0 1 (Nat.le_of_ble_eq_true rfl) (Nat.le_of_ble_eq_true rfl) wf_X0_15 rfl (gO_of g27) dX0_note_38 ?_
  refine fw_bipush C 6 dX0_note_41 rfl ?_
  refine fw_imul C dX0_note_43 ?_
  refine fw_istore C [(7, _), (0, _), (1, _), (2, _), (3, _), (4, _), (5, _), (6, _)] dX0_note_44 (Nat.le_of_ble_eq_true rfl) rfl ?_
  refine fw_aload_n C 1 dX0_note_46 rfl rfl ?_
  obtain ⟨g28, h⟩ := gd_some h
  refine fw_getR C 0 0 (Nat.le_of_ble_eq_true rfl) (Nat.le_of_ble_eq_true rfl) wf_X0_11 rfl (gO_of g27) (gN_of g28) dX0_note_47 ?_
  refine fw_iload C 0 dX0_note_50 rfl ?_
  refine fw_iload_n C 2 dX0_note_52 rfl rfl ?_
  obtain ⟨g29, h⟩ := gd_some h
  refine fw_iast C (gA_of g29) dX0_note_53 ?_
  refine fw_bm h (fun M30 h => ?_)
  refine fw_aload_n C 1 dX0_note_54 rfl rfl ?_
  obtain ⟨g31, h⟩ := gd_some h
  refine fw_getR C 0 0 (Nat.le_of_ble_eq_true rfl) (Nat.le_of_ble_eq_true rfl) wf_X0_11 rfl (gO_of g27) (gN_of g31) dX0_note_55 ?_
  refine fw_iload C 0 dX0_note_58 rfl ?_
  refine fw_iconst C 1 dX0_note_60 rfl ?_
  refine fw_iadd C dX0_note_61 ?_
  refine fw_iload_n C 3 dX0_note_62 rfl rfl ?_
  obtain ⟨g32, h⟩ := gd_some h
  refine fw_iast C (gA_of g32) dX0_note_63 ?_
  refine fw_bm h (fun M33 h => ?_)
  refine fw_aload_n C 1 dX0_note_64 rfl rfl ?_
  obtain ⟨g34, h⟩ := gd_some h
  refine fw_getR C 0 0 (Nat.le_of_ble_eq_true rfl) (Nat.le_of_ble_eq_true rfl) wf_X0_11 rfl (gO_of g27) (gN_of g34) dX0_note_65 ?_
  refine fw_iload C 0 dX0_note_68 rfl ?_
  refine fw_iconst C 2 dX0_note_70 rfl ?_
  refine fw_iadd C dX0_note_71 ?_
  refine fw_iload_n C 4 dX0_note_72 rfl rfl ?_
  obtain ⟨g35, h⟩ := gd_some h
  refine fw_iast C (gA_of g35) dX0_note_73 ?_
  refine fw_bm h (fun M36 h => ?_)
  refine fw_aload_n C 1 dX0_note_74 rfl rfl ?_
  obtain ⟨g37, h⟩ := gd_some h
  refine fw_getR C 0 0 (Nat.le_of_ble_eq_true rfl) (Nat.le_of_ble_eq_true rfl) wf_X0_11 rfl (gO_of g27) (gN_of g37) dX0_note_75 ?_
  refine fw_iload C 0 dX0_note_78 rfl ?_
  refine fw_iconst C 3 dX0_note_80 rfl ?_
  refine fw_iadd C dX0_note_81 ?_
  refine fw_iload C 5 dX0_note_82 rfl ?_
  obtain ⟨g38, h⟩ := gd_some h
  refine fw_iast C (gA_of g38) dX0_note_84 ?_
  refine fw_bm h (fun M39 h => ?_)
  refine fw_aload_n C 1 dX0_note_85 rfl rfl ?_
  obtain ⟨g40, h⟩ := gd_some h
  refine fw_getR C 0 0 (Nat.le_of_ble_eq_true rfl) (Nat.le_of_ble_eq_true rfl) wf_X0_11 rfl (gO_of g27) (gN_of g40) dX0_note_86 ?_
  refine fw_iload C 0 dX0_note_89 rfl ?_
  refine fw_iconst C 4 dX0_note_91 rfl ?_
  refine fw_iadd C dX0_note_92 ?_
  refine fw_iload C 6 dX0_note_93 rfl ?_
  obtain ⟨g41, h⟩ := gd_some h
  refine fw_iast C (gA_of g41) dX0_note_95 ?_
  refine fw_bm h (fun M42 h => ?_)
  refine fw_aload_n C 1 dX0_note_96 rfl rfl ?_
  obtain ⟨g43, h⟩ := gd_some h
  refine fw_getR C 0 0 (Nat.le_of_ble_eq_true rfl) (Nat.le_of_ble_eq_true rfl) wf_X0_11 rfl (gO_of g27) (gN_of g43) dX0_note_97 ?_
  refine fw_iload C 0 dX0_note_100 rfl ?_
  refine fw_iconst C 5 dX0_note_102 rfl ?_
  refine fw_iadd C dX0_note_103 ?_
  refine fw_iload C 7 dX0_note_104 rfl ?_
  obtain ⟨g44, h⟩ := gd_some h
  refine fw_iast C (gA_of g44) dX0_note_106 ?_
  refine fw_bm h (fun M45 h => ?_)
  refine fw_aload_n C 1 dX0_note_107 rfl rfl ?_
  refine fw_dup C dX0_note_108 rfl ?_
  refine fw_getI C 0 1 (Nat.le_of_ble_eq_true rfl) (Nat.le_of_ble_eq_true rfl) wf_X0_15 rfl (gO_of g27) dX0_note_109 ?_
  refine fw_iconst C 1 dX0_note_112 rfl ?_
  refine fw_iadd C dX0_note_113 ?_
  refine fw_putI C 0 1 (Nat.le_of_ble_eq_true rfl) (Nat.le_of_ble_eq_true rfl) wf_X0_15 rfl rfl rfl rfl (gO_of g27) dX0_note_114 ?_
  refine fw_bm h (fun M46 h => ?_)
  obtain rfl := Option.some.inj h
  exact fw_vret C hr hlk dX0_note_117
set_option maxRecDepth 100000 in
def f_X0_note (S : List fw_Sh) (M : fw_Mem) (a0 : Nat) (x1 : Int32) (x2 : Int32) (x3 : Int32) (x4 : Int32) (x5 : Int32) (x6 : Int32) : Option fw_Mem := gd (gO S 0 a0) (if (M a0 1) < 12 then (gd (gN (M a0 0)) (gd (gA S 0 ((M a0 0).toNatClampNeg) ((M a0 1) * 6)) (bm (fw_set M ((M a0 0).toNatClampNeg) ((M a0 1) * 6).toNatClampNeg x1) (fun M5 => gd (gN (M5 a0 0)) (gd (gA S 0 ((M5 a0 0).toNatClampNeg) (((M a0 1) * 6) + 1)) (bm (fw_set M5 ((M5 a0 0).toNatClampNeg) (((M a0 1) * 6) + 1).toNatClampNeg x2) (fun M8 => gd (gN (M8 a0 0)) (gd (gA S 0 ((M8 a0 0).toNatClampNeg) (((M a0 1) * 6) + 2)) (bm (fw_set M8 ((M8 a0 0).toNatClampNeg) (((M a0 1) * 6) + 2).toNatClampNeg x3) (fun M11 => gd (gN (M11 a0 0)) (gd (gA S 0 ((M11 a0 0).toNatClampNeg) (((M a0 1) * 6) + 3)) (bm (fw_set M11 ((M11 a0 0).toNatClampNeg) (((M a0 1) * 6) + 3).toNatClampNeg x4) (fun M14 => gd (gN (M14 a0 0)) (gd (gA S 0 ((M14 a0 0).toNatClampNeg) (((M a0 1) * 6) + 4)) (bm (fw_set M14 ((M14 a0 0).toNatClampNeg) (((M a0 1) * 6) + 4).toNatClampNeg x5) (fun M17 => gd (gN (M17 a0 0)) (gd (gA S 0 ((M17 a0 0).toNatClampNeg) (((M a0 1) * 6) + 5)) (bm (fw_set M17 ((M17 a0 0).toNatClampNeg) (((M a0 1) * 6) + 5).toNatClampNeg x6) (fun M20 => bm (fw_set M20 a0 1 ((M20 a0 1) + 1)) (fun M21 => some M21)))))))))))))))))))) else (gd (gN (M a0 0)) (gd (gL S 0 ((M a0 0).toNatClampNeg)) (gd (gC S ((M a0 0).toNatClampNeg) 6 ((M a0 0).toNatClampNeg) 0 ((nI (fw_len2 S 0 ((M a0 0).toNatClampNeg))) - 6)) (bm (fw_cpy M ((M a0 0).toNatClampNeg) ((M a0 0).toNatClampNeg) 6 0 ((nI (fw_len2 S 0 ((M a0 0).toNatClampNeg))) - 6).toNatClampNeg) (fun M25 => bm (fw_set M25 a0 1 11) (fun M26 => fj_X0_note_37 S M26 a0 x1 x2 x3 x4 x5 x6)))))))
set_option maxHeartbeats 4000000 in
set_option maxRecDepth 100000 in
theorem c_X0_note {l : Launch} {G : fw_G} {S : List fw_Sh} {M : fw_Mem} {a0 : Nat} {x1 : Int32} {x2 : Int32} {x3 : Int32} {x4 : Int32} {x5 : Int32} {x6 : Int32} {r : fw_Mem} (hl : l.stackTraces = false) (h : f_X0_note S M a0 x1 x2 x3 x4 x5 x6 = some r) : fw_M l G yX0_note (.code yX0_note cX0_note 8 none) 2 (fw_mcO (.inl none, S, r)) (fw_msO (.inl none, S, r)) S M [.ref a0, .int x1, .int x2, .int x3, .int x4, .int x5, .int x6] (.inl none, S, r) := by
  refine fw_of [(0, .ref a0), (1, .int x1), (2, .int x2), (3, .int x3), (4, .int x4), (5, .int x5), (6, .int x6)] (by decide) (Nat.le_of_ble_eq_true rfl) rfl ?_
  intro p e s m args below meth c C hr hlk hnm ht _
  unfold f_X0_note at h
  refine fw_aload_n C 0 dX0_note_0 rfl rfl ?_
  obtain ⟨g1, h⟩ := gd_some h
  refine fw_getI C 0 1 (Nat.le_of_ble_eq_true rfl) (Nat.le_of_ble_eq_true rfl) wf_X0_15 rfl (gO_of g1) dX0_note_1 ?_
  refine fw_bipush C 12 dX0_note_4 rfl ?_
  refine fw_icmp_lt C 37 dX0_note_6 (by decide) (fun c2 => ?_) (fun c2 => ?_)
  · replace h := (if_pos c2).symm.trans h
    refine fw_aload_n C 0 dX0_note_37 rfl rfl ?_
    refine fw_getI C 0 1 (Nat.le_of_ble_eq_true rfl) (Nat.le_of_ble_eq_true rfl) wf_X0_15 rfl (gO_of g1) dX0_note_38 ?_
    refine fw_bipush C 6 dX0_note_41 rfl ?_
    refine fw_imul C dX0_note_43 ?_
    refine fw_istore C [(7, _), (0, _), (1, _), (2, _), (3, _), (4, _), (5, _), (6, _)] dX0_note_44 (Nat.le_of_ble_eq_true rfl) rfl ?_
    refine fw_aload_n C 1 dX0_note_46 rfl rfl ?_
    obtain ⟨g3, h⟩ := gd_some h
    refine fw_getR C 0 0 (Nat.le_of_ble_eq_true rfl) (Nat.le_of_ble_eq_true rfl) wf_X0_11 rfl (gO_of g1) (gN_of g3) dX0_note_47 ?_
    refine fw_iload C 0 dX0_note_50 rfl ?_
    refine fw_iload_n C 2 dX0_note_52 rfl rfl ?_
    obtain ⟨g4, h⟩ := gd_some h
    refine fw_iast C (gA_of g4) dX0_note_53 ?_
    refine fw_bm h (fun M5 h => ?_)
    refine fw_aload_n C 1 dX0_note_54 rfl rfl ?_
    obtain ⟨g6, h⟩ := gd_some h
    refine fw_getR C 0 0 (Nat.le_of_ble_eq_true rfl) (Nat.le_of_ble_eq_true rfl) wf_X0_11 rfl (gO_of g1) (gN_of g6) dX0_note_55 ?_
    refine fw_iload C 0 dX0_note_58 rfl ?_
    refine fw_iconst C 1 dX0_note_60 rfl ?_
    refine fw_iadd C dX0_note_61 ?_
    refine fw_iload_n C 3 dX0_note_62 rfl rfl ?_
    obtain ⟨g7, h⟩ := gd_some h
    refine fw_iast C (gA_of g7) dX0_note_63 ?_
    refine fw_bm h (fun M8 h => ?_)
    refine fw_aload_n C 1 dX0_note_64 rfl rfl ?_
    obtain ⟨g9, h⟩ := gd_some h
    refine fw_getR C 0 0 (Nat.le_of_ble_eq_true rfl) (Nat.le_of_ble_eq_true rfl) wf_X0_11 rfl (gO_of g1) (gN_of g9) dX0_note_65 ?_
    refine fw_iload C 0 dX0_note_68 rfl ?_
    refine fw_iconst C 2 dX0_note_70 rfl ?_
    refine fw_iadd C dX0_note_71 ?_
    refine fw_iload_n C 4 dX0_note_72 rfl rfl ?_
    obtain ⟨g10, h⟩ := gd_some h
    refine fw_iast C (gA_of g10) dX0_note_73 ?_
    refine fw_bm h (fun M11 h => ?_)
    refine fw_aload_n C 1 dX0_note_74 rfl rfl ?_
    obtain ⟨g12, h⟩ := gd_some h
    refine fw_getR C 0 0 (Nat.le_of_ble_eq_true rfl) (Nat.le_of_ble_eq_true rfl) wf_X0_11 rfl (gO_of g1) (gN_of g12) dX0_note_75 ?_
    refine fw_iload C 0 dX0_note_78 rfl ?_
    refine fw_iconst C 3 dX0_note_80 rfl ?_
    refine fw_iadd C dX0_note_81 ?_
    refine fw_iload C 5 dX0_note_82 rfl ?_
    obtain ⟨g13, h⟩ := gd_some h
    refine fw_iast C (gA_of g13) dX0_note_84 ?_
    refine fw_bm h (fun M14 h => ?_)
    refine fw_aload_n C 1 dX0_note_85 rfl rfl ?_
    obtain ⟨g15, h⟩ := gd_some h
    refine fw_getR C 0 0 (Nat.le_of_ble_eq_true rfl) (Nat.le_of_ble_eq_true rfl) wf_X0_11 rfl (gO_of g1) (gN_of g15) dX0_note_86 ?_
    refine fw_iload C 0 dX0_note_89 rfl ?_
    refine fw_iconst C 4 dX0_note_91 rfl ?_
    refine fw_iadd C dX0_note_92 ?_
    refine fw_iload C 6 dX0_note_93 rfl ?_
    obtain ⟨g16, h⟩ := gd_some h
    refine fw_iast C (gA_of g16) dX0_note_95 ?_
    refine fw_bm h (fun M17 h => ?_)
    refine fw_aload_n C 1 dX0_note_96 rfl rfl ?_
    obtain ⟨g18, h⟩ := gd_some h
    refine fw_getR C 0 0 (Nat.le_of_ble_eq_true rfl) (Nat.le_of_ble_eq_true rfl) wf_X0_11 rfl (gO_of g1) (gN_of g18) dX0_note_97 ?_
    refine fw_iload C 0 dX0_note_100 rfl ?_
    refine fw_iconst C 5 dX0_note_102 rfl ?_
    refine fw_iadd C dX0_note_103 ?_
    refine fw_iload C 7 dX0_note_104 rfl ?_
    obtain ⟨g19, h⟩ := gd_some h
    refine fw_iast C (gA_of g19) dX0_note_106 ?_
    refine fw_bm h (fun M20 h => ?_)
    refine fw_aload_n C 1 dX0_note_107 rfl rfl ?_
    refine fw_dup C dX0_note_108 rfl ?_
    refine fw_getI C 0 1 (Nat.le_of_ble_eq_true rfl) (Nat.le_of_ble_eq_true rfl) wf_X0_15 rfl (gO_of g1) dX0_note_109 ?_
    refine fw_iconst C 1 dX0_note_112 rfl ?_
    refine fw_iadd C dX0_note_113 ?_
    refine fw_putI C 0 1 (Nat.le_of_ble_eq_true rfl) (Nat.le_of_ble_eq_true rfl) wf_X0_15 rfl rfl rfl rfl (gO_of g1) dX0_note_114 ?_
    refine fw_bm h (fun M21 h => ?_)
    obtain rfl := Option.some.inj h
    exact fw_vret C hr hlk dX0_note_117
  · replace h := (if_neg c2).symm.trans h
    refine fw_aload_n C 0 dX0_note_9 rfl rfl ?_
    obtain ⟨g22, h⟩ := gd_some h
    refine fw_getR C 0 0 (Nat.le_of_ble_eq_true rfl) (Nat.le_of_ble_eq_true rfl) wf_X0_11 rfl (gO_of g1) (gN_of g22) dX0_note_10 ?_
    refine fw_bipush C 6 dX0_note_13 rfl ?_
    refine fw_aload_n C 0 dX0_note_15 rfl rfl ?_
    refine fw_getR C 0 0 (Nat.le_of_ble_eq_true rfl) (Nat.le_of_ble_eq_true rfl) wf_X0_11 rfl (gO_of g1) (gN_of g22) dX0_note_16 ?_
    refine fw_iconst C 0 dX0_note_19 rfl ?_
    refine fw_aload_n C 0 dX0_note_20 rfl rfl ?_
    refine fw_getR C 0 0 (Nat.le_of_ble_eq_true rfl) (Nat.le_of_ble_eq_true rfl) wf_X0_11 rfl (gO_of g1) (gN_of g22) dX0_note_21 ?_
    obtain ⟨g23, h⟩ := gd_some h
    refine fw_alen C 0 _ (by decide) (gL_of g23) dX0_note_24 ?_
    refine fw_bipush C 6 dX0_note_25 rfl ?_
    refine fw_isub C dX0_note_27 ?_
    obtain ⟨g24, h⟩ := gd_some h
    refine fw_copy C wm_X0_19 (Nat.le_of_ble_eq_true rfl) (gC_of g24) (Nat.le_of_ble_eq_true rfl) (Nat.le_of_ble_eq_true rfl) dX0_note_28 ?_
    refine fw_bm h (fun M25 h => ?_)
    refine fw_aload_n C 0 dX0_note_31 rfl rfl ?_
    refine fw_bipush C 11 dX0_note_32 rfl ?_
    refine fw_putI C 0 1 (Nat.le_of_ble_eq_true rfl) (Nat.le_of_ble_eq_true rfl) wf_X0_15 rfl rfl rfl rfl (gO_of g1) dX0_note_34 ?_
    refine fw_bm h (fun M26 h => ?_)
    exact jc_X0_note_37 C hr hlk hl ht rfl h
set_option maxRecDepth 100000 in
def f_X9_judge (S : List fw_Sh) (M : fw_Mem) (a0 : Nat) (x1 : Int32) (x2 : Int32) (x3 : Int32) : Option ((Int32 ⊕ String) × fw_Mem) := gd (gO S 9 a0) (b1 (f_X9_suitAt S M a0 x1) (fun v1 => bx v1 (fun u1 => bn u1 none (fun w1 => gd (gO S 6 w1) (if x2 < (M w1 3) then (some (.inr exI, M)) else (if x2 ≤ 9999 then (b1 (f_X6_isJudged S M w1) (fun v6 => if v6 = 0 then (gd (gN (M a0 7)) (gd (gO S 0 ((M a0 7).toNatClampNeg)) (b1 (f_X0_note S M ((M a0 7).toNatClampNeg) 0 x1 0 0 0 0) (fun M9 => b1 (f_X6_decide S M9 w1 x2 x3) (fun M11 => gd (gN (M11 a0 5)) (gd (gO S 2 ((M11 a0 5).toNatClampNeg)) (b1 (f_X2_refresh S M11 ((M11 a0 5).toNatClampNeg)) (fun M13 => some (.inl 1, M13))))))))) else (some (.inl 0, M)))) else (some (.inr exI, M)))))) (fun E1 => some (.inr E1, M))))
set_option maxHeartbeats 4000000 in
set_option maxRecDepth 100000 in
theorem c_X9_judge {l : Launch} {G : fw_G} {S : List fw_Sh} {M : fw_Mem} {a0 : Nat} {x1 : Int32} {x2 : Int32} {x3 : Int32} {r : ((Int32 ⊕ String) × fw_Mem)} (hl : l.stackTraces = false) (h : f_X9_judge S M a0 x1 x2 x3 = some r) : fw_M l G yX9_judge (.code yX9_judge cX9_judge 5 (some .boolean)) 7 (fw_mcO (fw_oI r.1, S, r.2)) (fw_msO (fw_oI r.1, S, r.2)) S M [.ref a0, .int x1, .int x2, .int x3] (fw_oI r.1, S, r.2) := by
  refine fw_of [(0, .ref a0), (1, .int x1), (2, .int x2), (3, .int x3)] (by decide) (Nat.le_of_ble_eq_true rfl) rfl ?_
  intro p e s m args below meth c C hr hlk hnm ht _
  unfold f_X9_judge at h
  refine fw_aload_n C 0 dX9_judge_0 rfl rfl ?_
  refine fw_iload_n C 1 dX9_judge_1 rfl rfl ?_
  obtain ⟨g2, h⟩ := gd_some h
  obtain ⟨v1, e1, h⟩ := b1_some h
  rcases v1 with u1 | E1
  rotate_left
  · replace h := bx_r h
    obtain rfl := Option.some.inj h
    exact fw_callVX (ci := 9) [_] C (c_X9_suitAt hl e1) cal_X9_suitAt wm_X9_177 wi_yX9_suitAt wsl_yX9_suitAt (Nat.le_of_ble_eq_true rfl) rfl (gO_of g2) rfl (Nat.le_of_ble_eq_true rfl) ⟨Nat.le_of_ble_eq_true rfl, Nat.le_of_ble_eq_true rfl⟩ ⟨Nat.le_refl _, Nat.le_refl _⟩ dX9_judge_2 ht hlk
  replace h := bx_l h
  rcases u1 with _ | w1
  · cases h
  refine fw_callV (ci := 9) [_] C (c_X9_suitAt hl e1) cal_X9_suitAt wm_X9_177 wi_yX9_suitAt wsl_yX9_suitAt (Nat.le_of_ble_eq_true rfl) rfl (gO_of g2) rfl (Nat.le_of_ble_eq_true rfl) ⟨Nat.le_of_ble_eq_true rfl, Nat.le_of_ble_eq_true rfl⟩ ⟨Nat.zero_le _, Nat.zero_le _⟩ dX9_judge_2 ?_
  refine fw_astore C [(4, _), (0, _), (1, _), (2, _), (3, _)] dX9_judge_5 (Nat.le_of_ble_eq_true rfl) rfl ?_
  refine fw_iload_n C 3 dX9_judge_7 rfl rfl ?_
  refine fw_aload C 0 dX9_judge_8 rfl ?_
  obtain ⟨g3, h⟩ := gd_some h
  refine fw_getI C 6 3 (Nat.le_of_ble_eq_true rfl) (Nat.le_of_ble_eq_true rfl) wf_X9_187 rfl (gO_of g3) dX9_judge_10 ?_
  refine fw_icmp_lt C 23 dX9_judge_13 (by decide) (fun c4 => ?_) (fun c4 => ?_)
  · replace h := (if_pos c4).symm.trans h
    obtain rfl := Option.some.inj h
    exact fw_throwW C hl fw_exI (i := 31) (List.mem_of_getElem? (i := 37) rfl) dX9_judge_23 dX9_judge_26 dX9_judge_27 dX9_judge_30 dX9_judge_33 ht hlk (Nat.le_of_ble_eq_true rfl) (Nat.le_of_ble_eq_true rfl) (Nat.le_refl _) (Nat.le_refl _)
  · replace h := (if_neg c4).symm.trans h
    refine fw_iload_n C 3 dX9_judge_16 rfl rfl ?_
    refine fw_sipush C 9999 dX9_judge_17 rfl ?_
    refine fw_icmp_le C 34 dX9_judge_20 (by decide) (fun c5 => ?_) (fun c5 => ?_)
    · replace h := (if_pos c5).symm.trans h
      refine fw_aload C 0 dX9_judge_34 rfl ?_
      obtain ⟨v6, e6, h⟩ := b1_some h
      refine fw_callV (ci := 6) [] C (c_X6_isJudged hl e6) cal_X6_isJudged wm_X9_357 wi_yX6_isJudged wsl_yX6_isJudged (Nat.le_of_ble_eq_true rfl) rfl (gO_of g3) rfl (Nat.le_of_ble_eq_true rfl) ⟨Nat.le_of_ble_eq_true rfl, Nat.le_of_ble_eq_true rfl⟩ ⟨Nat.zero_le _, Nat.zero_le _⟩ dX9_judge_36 ?_
      refine fw_if_eq C 44 dX9_judge_39 (by decide) (fun c7 => ?_) (fun c7 => ?_)
      · replace h := (if_pos c7).symm.trans h
        refine fw_aload_n C 1 dX9_judge_44 rfl rfl ?_
        obtain ⟨g8, h⟩ := gd_some h
        refine fw_getR C 9 7 (Nat.le_of_ble_eq_true rfl) (Nat.le_of_ble_eq_true rfl) wf_X9_61 rfl (gO_of g2) (gN_of g8) dX9_judge_45 ?_
        refine fw_iconst C 0 dX9_judge_48 rfl ?_
        refine fw_iload_n C 2 dX9_judge_49 rfl rfl ?_
        refine fw_iconst C 0 dX9_judge_50 rfl ?_
        refine fw_iconst C 0 dX9_judge_51 rfl ?_
        refine fw_iconst C 0 dX9_judge_52 rfl ?_
        refine fw_iconst C 0 dX9_judge_53 rfl ?_
        obtain ⟨g10, h⟩ := gd_some h
        obtain ⟨M9, e9, h⟩ := b1_some h
        refine fw_callV (ci := 0) [_, _, _, _, _, _] C (c_X0_note hl e9) cal_X0_note wm_X9_360 wi_yX0_note wsl_yX0_note (Nat.le_of_ble_eq_true rfl) rfl (gO_of g10) rfl (Nat.le_of_ble_eq_true rfl) ⟨Nat.le_of_ble_eq_true rfl, Nat.le_of_ble_eq_true rfl⟩ ⟨Nat.zero_le _, Nat.zero_le _⟩ dX9_judge_54 ?_
        refine fw_aload C 0 dX9_judge_57 rfl ?_
        refine fw_iload_n C 3 dX9_judge_59 rfl rfl ?_
        refine fw_iload_n C 4 dX9_judge_60 rfl rfl ?_
        obtain ⟨M11, e11, h⟩ := b1_some h
        refine fw_callV (ci := 6) [_, _] C (c_X6_decide hl e11) cal_X6_decide wm_X9_364 wi_yX6_decide wsl_yX6_decide (Nat.le_of_ble_eq_true rfl) rfl (gO_of g3) rfl (Nat.le_of_ble_eq_true rfl) ⟨Nat.le_of_ble_eq_true rfl, Nat.le_of_ble_eq_true rfl⟩ ⟨Nat.zero_le _, Nat.zero_le _⟩ dX9_judge_61 ?_
        refine fw_aload_n C 1 dX9_judge_64 rfl rfl ?_
        obtain ⟨g12, h⟩ := gd_some h
        refine fw_getR C 9 5 (Nat.le_of_ble_eq_true rfl) (Nat.le_of_ble_eq_true rfl) wf_X9_45 rfl (gO_of g2) (gN_of g12) dX9_judge_65 ?_
        obtain ⟨g14, h⟩ := gd_some h
        obtain ⟨M13, e13, h⟩ := b1_some h
        refine fw_callV (ci := 2) [] C (c_X2_refresh hl e13) cal_X2_refresh wm_X9_368 wi_yX2_refresh wsl_yX2_refresh (Nat.le_of_ble_eq_true rfl) rfl (gO_of g14) rfl (Nat.le_of_ble_eq_true rfl) ⟨Nat.le_of_ble_eq_true rfl, Nat.le_of_ble_eq_true rfl⟩ ⟨Nat.zero_le _, Nat.zero_le _⟩ dX9_judge_68 ?_
        refine fw_iconst C 1 dX9_judge_71 rfl ?_
        obtain rfl := Option.some.inj h
        exact fw_zret C hr (Or.inr rfl) hlk dX9_judge_72
      · replace h := (if_neg c7).symm.trans h
        refine fw_iconst C 0 dX9_judge_42 rfl ?_
        obtain rfl := Option.some.inj h
        exact fw_zret C hr (Or.inl rfl) hlk dX9_judge_43
    · replace h := (if_neg c5).symm.trans h
      obtain rfl := Option.some.inj h
      exact fw_throwW C hl fw_exI (i := 31) (List.mem_of_getElem? (i := 37) rfl) dX9_judge_23 dX9_judge_26 dX9_judge_27 dX9_judge_30 dX9_judge_33 ht hlk (Nat.le_of_ble_eq_true rfl) (Nat.le_of_ble_eq_true rfl) (Nat.le_refl _) (Nat.le_refl _)
set_option maxRecDepth 100000 in
def f_X6_foundWay (S : List fw_Sh) (M : fw_Mem) (a0 : Nat) (x1 : Int32) : Option Int32 := gd (gO S 6 a0) (if (((M a0 10) >>> (x1 &&& 31)) &&& 1) = 1 then (some 1) else (if (((M a0 11) >>> (x1 &&& 31)) &&& 1) = 1 then (some 0) else (some (-1))))
set_option maxHeartbeats 4000000 in
set_option maxRecDepth 100000 in
theorem c_X6_foundWay {l : Launch} {G : fw_G} {S : List fw_Sh} {M : fw_Mem} {a0 : Nat} {x1 : Int32} {r : Int32} (hl : l.stackTraces = false) (h : f_X6_foundWay S M a0 x1 = some r) : fw_M l G yX6_foundWay (.code yX6_foundWay cX6_foundWay 2 (some .int)) 1 (fw_mcO (.inl (some (.int r)), S, M)) (fw_msO (.inl (some (.int r)), S, M)) S M [.ref a0, .int x1] (.inl (some (.int r)), S, M) := by
  refine fw_of [(0, .ref a0), (1, .int x1)] (by decide) (Nat.le_of_ble_eq_true rfl) rfl ?_
  intro p e s m args below meth c C hr hlk hnm ht _
  unfold f_X6_foundWay at h
  refine fw_aload_n C 0 dX6_foundWay_0 rfl rfl ?_
  obtain ⟨g1, h⟩ := gd_some h
  refine fw_getI C 6 10 (Nat.le_of_ble_eq_true rfl) (Nat.le_of_ble_eq_true rfl) wf_X6_43 rfl (gO_of g1) dX6_foundWay_1 ?_
  refine fw_iload_n C 1 dX6_foundWay_4 rfl rfl ?_
  refine fw_ishr C dX6_foundWay_5 ?_
  refine fw_iconst C 1 dX6_foundWay_6 rfl ?_
  refine fw_iand C dX6_foundWay_7 ?_
  refine fw_iconst C 1 dX6_foundWay_8 rfl ?_
  refine fw_icmp_ne C 14 dX6_foundWay_9 (by decide) (fun c2 => ?_) (fun c2 => ?_)
  · replace h := (if_neg c2).symm.trans h
    refine fw_aload_n C 0 dX6_foundWay_14 rfl rfl ?_
    refine fw_getI C 6 11 (Nat.le_of_ble_eq_true rfl) (Nat.le_of_ble_eq_true rfl) wf_X6_46 rfl (gO_of g1) dX6_foundWay_15 ?_
    refine fw_iload_n C 1 dX6_foundWay_18 rfl rfl ?_
    refine fw_ishr C dX6_foundWay_19 ?_
    refine fw_iconst C 1 dX6_foundWay_20 rfl ?_
    refine fw_iand C dX6_foundWay_21 ?_
    refine fw_iconst C 1 dX6_foundWay_22 rfl ?_
    refine fw_icmp_ne C 30 dX6_foundWay_23 (by decide) (fun c3 => ?_) (fun c3 => ?_)
    · replace h := (if_neg c3).symm.trans h
      refine fw_iconst C (-1) dX6_foundWay_30 rfl ?_
      obtain rfl := Option.some.inj h
      exact fw_iret C hr hlk dX6_foundWay_31
    · replace h := (if_pos c3).symm.trans h
      refine fw_iconst C 0 dX6_foundWay_26 rfl ?_
      refine fw_goto C 31 dX6_foundWay_27 (by decide) ?_
      obtain rfl := Option.some.inj h
      exact fw_iret C hr hlk dX6_foundWay_31
  · replace h := (if_pos c2).symm.trans h
    refine fw_iconst C 1 dX6_foundWay_12 rfl ?_
    obtain rfl := Option.some.inj h
    exact fw_iret C hr hlk dX6_foundWay_13
set_option maxRecDepth 100000 in
def fj_X6_setFound_57 (S : List fw_Sh) (M : fw_Mem) (a0 : Nat) (x2 : Int32) (x3 : Int32) (x4 : Int32) (z0 : Int32) (z1 : Nat) : Option fw_Mem := gd (gO S 6 z1) (bm (fw_set M z1 11 z0) (fun M9 => if x2 = (-1) then (gd (gO S 6 a0) (bm (fw_set M9 a0 12 ((M9 a0 12) &&& (x4 ^^^ (-1)))) (fun M12 => some M12))) else (if x3 = 0 then (gd (gO S 6 a0) (bm (fw_set M9 a0 12 ((M9 a0 12) ||| x4)) (fun M17 => some M17))) else (gd (gO S 6 a0) (bm (fw_set M9 a0 12 ((M9 a0 12) &&& (x4 ^^^ (-1)))) (fun M15 => some M15))))))
set_option maxHeartbeats 4000000 in
set_option maxRecDepth 100000 in
theorem jc_X6_setFound_57 {G : fw_G} {p : Program} {l : Launch} {e : Env} {s : State} {m : MethodId} {args : Array Value} {below : List Frame} {meth : Method} {c : Code} {S : List fw_Sh} {M : fw_Mem} {a0 : Nat} {x2 : Int32} {x3 : Int32} {x4 : Int32} {z0 : Int32} {z1 : Nat} {r : fw_Mem} {o : fw_O} (C : fw_C G RX6 cX6_setFound 5 p s m args c) (hr : meth.sig.returnType = none) (hlk : meth.locks = false) (hl : l.stackTraces = false) (ht : ∀ x ∈ c.exceptionTable.toList, False) (ho : o = (.inl none, S, r)) (h : fj_X6_setFound_57 S M a0 x2 x3 x4 z0 z1 = some r) :
    fw_W G p l e (fw_rm 1 (fw_mcO o) (fw_msO o)) s m args below meth c 5 (fw_Z G below args s (fw_mcO o) (fw_msO o) o) 0 0 57 [(0, .ref a0), (2, .int x2), (3, .int x3), (4, .int x4)] [.int z0, .ref z1] S M := by
  subst ho
  unfold fj_X6_setFound_57 at h
  obtain ⟨g8, h⟩ := gd_some h
  refine fw_putI C 6 11 (Nat.le_of_ble_eq_true rfl) (Nat.le_of_ble_eq_true rfl) wf_X6_46 rfl rfl rfl rfl (gO_of g8) dX6_setFound_57 ?_
  refine fw_bm h (fun M9 h => ?_)
  refine fw_aload_n C 0 dX6_setFound_60 rfl rfl ?_
  refine fw_iload_n C 1 dX6_setFound_61 rfl rfl ?_
  refine fw_iconst C (-1) dX6_setFound_62 rfl ?_
  refine fw_icmp_eq C 80 dX6_setFound_63 (by decide) (fun c10 => ?_) (fun c10 => ?_)
  · replace h := (if_pos c10).symm.trans h
    refine fw_aload_n C 0 dX6_setFound_80 rfl rfl ?_
    obtain ⟨g11, h⟩ := gd_some h
    refine fw_getI C 6 12 (Nat.le_of_ble_eq_true rfl) (Nat.le_of_ble_eq_true rfl) wf_X6_49 rfl (gO_of g11) dX6_setFound_81 ?_
    refine fw_iload C 3 dX6_setFound_84 rfl ?_
    refine fw_iconst C (-1) dX6_setFound_86 rfl ?_
    refine fw_ixor C dX6_setFound_87 ?_
    refine fw_iand C dX6_setFound_88 ?_
    refine fw_putI C 6 12 (Nat.le_of_ble_eq_true rfl) (Nat.le_of_ble_eq_true rfl) wf_X6_49 rfl rfl rfl rfl (gO_of g11) dX6_setFound_89 ?_
    refine fw_bm h (fun M12 h => ?_)
    obtain rfl := Option.some.inj h
    exact fw_vret C hr hlk dX6_setFound_92
  · replace h := (if_neg c10).symm.trans h
    refine fw_iload_n C 2 dX6_setFound_66 rfl rfl ?_
    refine fw_if_ne C 80 dX6_setFound_67 (by decide) (fun c13 => ?_) (fun c13 => ?_)
    · replace h := (if_neg c13).symm.trans h
      refine fw_aload_n C 0 dX6_setFound_80 rfl rfl ?_
      obtain ⟨g14, h⟩ := gd_some h
      refine fw_getI C 6 12 (Nat.le_of_ble_eq_true rfl) (Nat.le_of_ble_eq_true rfl) wf_X6_49 rfl (gO_of g14) dX6_setFound_81 ?_
      refine fw_iload C 3 dX6_setFound_84 rfl ?_
      refine fw_iconst C (-1) dX6_setFound_86 rfl ?_
      refine fw_ixor C dX6_setFound_87 ?_
      refine fw_iand C dX6_setFound_88 ?_
      refine fw_putI C 6 12 (Nat.le_of_ble_eq_true rfl) (Nat.le_of_ble_eq_true rfl) wf_X6_49 rfl rfl rfl rfl (gO_of g14) dX6_setFound_89 ?_
      refine fw_bm h (fun M15 h => ?_)
      obtain rfl := Option.some.inj h
      exact fw_vret C hr hlk dX6_setFound_92
    · replace h := (if_pos c13).symm.trans h
      refine fw_aload_n C 0 dX6_setFound_70 rfl rfl ?_
      obtain ⟨g16, h⟩ := gd_some h
      refine fw_getI C 6 12 (Nat.le_of_ble_eq_true rfl) (Nat.le_of_ble_eq_true rfl) wf_X6_49 rfl (gO_of g16) dX6_setFound_71 ?_
      refine fw_iload C 3 dX6_setFound_74 rfl ?_
      refine fw_ior C dX6_setFound_76 ?_
      refine fw_goto C 89 dX6_setFound_77 (by decide) ?_
      refine fw_putI C 6 12 (Nat.le_of_ble_eq_true rfl) (Nat.le_of_ble_eq_true rfl) wf_X6_49 rfl rfl rfl rfl (gO_of g16) dX6_setFound_89 ?_
      refine fw_bm h (fun M17 h => ?_)
      obtain rfl := Option.some.inj h
      exact fw_vret C hr hlk dX6_setFound_92
set_option maxRecDepth 100000 in
def fj_X6_setFound_30 (S : List fw_Sh) (M : fw_Mem) (a0 : Nat) (x2 : Int32) (x3 : Int32) (x4 : Int32) (z0 : Int32) (z1 : Nat) : Option fw_Mem := gd (gO S 6 z1) (bm (fw_set M z1 10 z0) (fun M5 => if x2 = 0 then (gd (gO S 6 a0) (fj_X6_setFound_57 S M5 a0 x2 x3 x4 ((M5 a0 11) ||| x4) a0)) else (gd (gO S 6 a0) (fj_X6_setFound_57 S M5 a0 x2 x3 x4 ((M5 a0 11) &&& (x4 ^^^ (-1))) a0))))
set_option maxHeartbeats 4000000 in
set_option maxRecDepth 100000 in
theorem jc_X6_setFound_30 {G : fw_G} {p : Program} {l : Launch} {e : Env} {s : State} {m : MethodId} {args : Array Value} {below : List Frame} {meth : Method} {c : Code} {S : List fw_Sh} {M : fw_Mem} {a0 : Nat} {x2 : Int32} {x3 : Int32} {x4 : Int32} {z0 : Int32} {z1 : Nat} {r : fw_Mem} {o : fw_O} (C : fw_C G RX6 cX6_setFound 5 p s m args c) (hr : meth.sig.returnType = none) (hlk : meth.locks = false) (hl : l.stackTraces = false) (ht : ∀ x ∈ c.exceptionTable.toList, False) (ho : o = (.inl none, S, r)) (h : fj_X6_setFound_30 S M a0 x2 x3 x4 z0 z1 = some r) :
    fw_W G p l e (fw_rm 1 (fw_mcO o) (fw_msO o)) s m args below meth c 5 (fw_Z G below args s (fw_mcO o) (fw_msO o) o) 0 0 30 [(0, .ref a0), (2, .int x2), (3, .int x3), (4, .int x4)] [.int z0, .ref z1] S M := by
  subst ho
  unfold fj_X6_setFound_30 at h
  obtain ⟨g4, h⟩ := gd_some h
  refine fw_putI C 6 10 (Nat.le_of_ble_eq_true rfl) (Nat.le_of_ble_eq_true rfl) wf_X6_43 rfl rfl rfl rfl (gO_of g4) dX6_setFound_30 ?_
  refine fw_bm h (fun M5 h => ?_)
  refine fw_aload_n C 0 dX6_setFound_33 rfl rfl ?_
  refine fw_iload_n C 1 dX6_setFound_34 rfl rfl ?_
  refine fw_if_ne C 48 dX6_setFound_35 (by decide) (fun c6 => ?_) (fun c6 => ?_)
  · replace h := (if_neg c6).symm.trans h
    refine fw_aload_n C 0 dX6_setFound_48 rfl rfl ?_
    obtain ⟨g7, h⟩ := gd_some h
    refine fw_getI C 6 11 (Nat.le_of_ble_eq_true rfl) (Nat.le_of_ble_eq_true rfl) wf_X6_46 rfl (gO_of g7) dX6_setFound_49 ?_
    refine fw_iload C 3 dX6_setFound_52 rfl ?_
    refine fw_iconst C (-1) dX6_setFound_54 rfl ?_
    refine fw_ixor C dX6_setFound_55 ?_
    refine fw_iand C dX6_setFound_56 ?_
    exact jc_X6_setFound_57 C hr hlk hl ht rfl h
  · replace h := (if_pos c6).symm.trans h
    refine fw_aload_n C 0 dX6_setFound_38 rfl rfl ?_
    obtain ⟨g18, h⟩ := gd_some h
    refine fw_getI C 6 11 (Nat.le_of_ble_eq_true rfl) (Nat.le_of_ble_eq_true rfl) wf_X6_46 rfl (gO_of g18) dX6_setFound_39 ?_
    refine fw_iload C 3 dX6_setFound_42 rfl ?_
    refine fw_ior C dX6_setFound_44 ?_
    refine fw_goto C 57 dX6_setFound_45 (by decide) ?_
    exact jc_X6_setFound_57 C hr hlk hl ht rfl h
set_option maxRecDepth 100000 in
def f_X6_setFound (S : List fw_Sh) (M : fw_Mem) (a0 : Nat) (x1 : Int32) (x2 : Int32) (x3 : Int32) : Option fw_Mem := bm ((1 : Int32) <<< (x1 &&& 31)) (fun y1 => if x2 = 1 then (gd (gO S 6 a0) (fj_X6_setFound_30 S M a0 x2 x3 y1 ((M a0 10) ||| y1) a0)) else (gd (gO S 6 a0) (fj_X6_setFound_30 S M a0 x2 x3 y1 ((M a0 10) &&& (y1 ^^^ (-1))) a0)))
set_option maxHeartbeats 4000000 in
set_option maxRecDepth 100000 in
theorem c_X6_setFound {l : Launch} {G : fw_G} {S : List fw_Sh} {M : fw_Mem} {a0 : Nat} {x1 : Int32} {x2 : Int32} {x3 : Int32} {r : fw_Mem} (hl : l.stackTraces = false) (h : f_X6_setFound S M a0 x1 x2 x3 = some r) : fw_M l G yX6_setFound (.code yX6_setFound cX6_setFound 5 none) 1 (fw_mcO (.inl none, S, r)) (fw_msO (.inl none, S, r)) S M [.ref a0, .int x1, .int x2, .int x3] (.inl none, S, r) := by
  refine fw_of [(0, .ref a0), (1, .int x1), (2, .int x2), (3, .int x3)] (by decide) (Nat.le_of_ble_eq_true rfl) rfl ?_
  intro p e s m args below meth c C hr hlk hnm ht _
  unfold f_X6_setFound at h
  refine fw_iconst C 1 dX6_setFound_0 rfl ?_
  refine fw_iload_n C 1 dX6_setFound_1 rfl rfl ?_
  refine fw_ishl C dX6_setFound_2 ?_
  refine fw_bi h (fun y1 h => ?_)
  refine fw_istore C [(4, _), (0, _), (1, _), (2, _), (3, _)] dX6_setFound_3 (Nat.le_of_ble_eq_true rfl) rfl ?_
  refine fw_aload_n C 1 dX6_setFound_5 rfl rfl ?_
  refine fw_iload_n C 3 dX6_setFound_6 rfl rfl ?_
  refine fw_iconst C 1 dX6_setFound_7 rfl ?_
  refine fw_icmp_ne C 21 dX6_setFound_8 (by decide) (fun c2 => ?_) (fun c2 => ?_)
  · replace h := (if_neg c2).symm.trans h
    refine fw_aload_n C 1 dX6_setFound_21 rfl rfl ?_
    obtain ⟨g3, h⟩ := gd_some h
    refine fw_getI C 6 10 (Nat.le_of_ble_eq_true rfl) (Nat.le_of_ble_eq_true rfl) wf_X6_43 rfl (gO_of g3) dX6_setFound_22 ?_
    refine fw_iload C 0 dX6_setFound_25 rfl ?_
    refine fw_iconst C (-1) dX6_setFound_27 rfl ?_
    refine fw_ixor C dX6_setFound_28 ?_
    refine fw_iand C dX6_setFound_29 ?_
    refine fw_sub [1, 3, 4, 0] rfl ?_
    exact jc_X6_setFound_30 C hr hlk hl ht rfl h
  · replace h := (if_pos c2).symm.trans h
    refine fw_aload_n C 1 dX6_setFound_11 rfl rfl ?_
    obtain ⟨g19, h⟩ := gd_some h
    refine fw_getI C 6 10 (Nat.le_of_ble_eq_true rfl) (Nat.le_of_ble_eq_true rfl) wf_X6_43 rfl (gO_of g19) dX6_setFound_12 ?_
    refine fw_iload C 0 dX6_setFound_15 rfl ?_
    refine fw_ior C dX6_setFound_17 ?_
    refine fw_goto C 30 dX6_setFound_18 (by decide) ?_
    refine fw_sub [1, 3, 4, 0] rfl ?_
    exact jc_X6_setFound_30 C hr hlk hl ht rfl h
set_option maxRecDepth 100000 in
def f_X9_find (S : List fw_Sh) (M : fw_Mem) (a0 : Nat) (x1 : Int32) (x2 : Int32) (x3 : Int32) (x4 : Int32) : Option ((Int32 ⊕ String) × fw_Mem) := gd (gO S 9 a0) (b1 (f_X9_suitAt S M a0 x1) (fun v1 => bx v1 (fun u1 => bn u1 none (fun w1 => b1 (f_X9_needIssue S M a0 w1 x2) (fun v3 => bx v3 (fun _ => if x3 < (-1) then (some (.inr exI, M)) else (if x3 ≤ 1 then (gd (gO S 6 w1) (b1 (f_X6_isJudged S M w1) (fun v6 => if v6 = 0 then (some (.inl (-1), M)) else (b1 (f_X6_foundWay S M w1 x2) (fun v9 => gd (gN (M a0 7)) (gd (gO S 0 ((M a0 7).toNatClampNeg)) (b1 (f_X0_note S M ((M a0 7).toNatClampNeg) 1 x1 (M w1 10) (M w1 11) (M w1 12) 0) (fun M11 => b1 (f_X6_setFound S M11 w1 x2 x3 x4) (fun M13 => gd (gN (M13 a0 5)) (gd (gO S 2 ((M13 a0 5).toNatClampNeg)) (b1 (f_X2_refresh S M13 ((M13 a0 5).toNatClampNeg)) (fun M15 => some (.inl v9, M15))))))))))))) else (some (.inr exI, M)))) (fun E3 => some (.inr E3, M))))) (fun E1 => some (.inr E1, M))))
set_option maxHeartbeats 4000000 in
set_option maxRecDepth 100000 in
theorem c_X9_find {l : Launch} {G : fw_G} {S : List fw_Sh} {M : fw_Mem} {a0 : Nat} {x1 : Int32} {x2 : Int32} {x3 : Int32} {x4 : Int32} {r : ((Int32 ⊕ String) × fw_Mem)} (hl : l.stackTraces = false) (h : f_X9_find S M a0 x1 x2 x3 x4 = some r) : fw_M l G yX9_find (.code yX9_find cX9_find 7 (some .int)) 7 (fw_mcO (fw_oI r.1, S, r.2)) (fw_msO (fw_oI r.1, S, r.2)) S M [.ref a0, .int x1, .int x2, .int x3, .int x4] (fw_oI r.1, S, r.2) := by
  refine fw_of [(0, .ref a0), (1, .int x1), (2, .int x2), (3, .int x3), (4, .int x4)] (by decide) (Nat.le_of_ble_eq_true rfl) rfl ?_
  intro p e s m args below meth c C hr hlk hnm ht _
  unfold f_X9_find at h
  refine fw_aload_n C 0 dX9_find_0 rfl rfl ?_
  refine fw_iload_n C 1 dX9_find_1 rfl rfl ?_
  obtain ⟨g2, h⟩ := gd_some h
  obtain ⟨v1, e1, h⟩ := b1_some h
  rcases v1 with u1 | E1
  rotate_left
  · replace h := bx_r h
    obtain rfl := Option.some.inj h
    exact fw_callVX (ci := 9) [_] C (c_X9_suitAt hl e1) cal_X9_suitAt wm_X9_177 wi_yX9_suitAt wsl_yX9_suitAt (Nat.le_of_ble_eq_true rfl) rfl (gO_of g2) rfl (Nat.le_of_ble_eq_true rfl) ⟨Nat.le_of_ble_eq_true rfl, Nat.le_of_ble_eq_true rfl⟩ ⟨Nat.le_refl _, Nat.le_refl _⟩ dX9_find_2 ht hlk
  replace h := bx_l h
  rcases u1 with _ | w1
  · cases h
  refine fw_callV (ci := 9) [_] C (c_X9_suitAt hl e1) cal_X9_suitAt wm_X9_177 wi_yX9_suitAt wsl_yX9_suitAt (Nat.le_of_ble_eq_true rfl) rfl (gO_of g2) rfl (Nat.le_of_ble_eq_true rfl) ⟨Nat.le_of_ble_eq_true rfl, Nat.le_of_ble_eq_true rfl⟩ ⟨Nat.zero_le _, Nat.zero_le _⟩ dX9_find_2 ?_
  refine fw_astore C [(5, _), (0, _), (1, _), (2, _), (3, _), (4, _)] dX9_find_5 (Nat.le_of_ble_eq_true rfl) rfl ?_
  refine fw_aload_n C 1 dX9_find_7 rfl rfl ?_
  refine fw_aload C 0 dX9_find_8 rfl ?_
  refine fw_iload_n C 3 dX9_find_10 rfl rfl ?_
  obtain ⟨v3, e3, h⟩ := b1_some h
  rcases v3 with u3 | E3
  rotate_left
  · replace h := bx_r h
    obtain rfl := Option.some.inj h
    exact fw_callVX (ci := 9) [_, _] C (c_X9_needIssue hl e3) cal_X9_needIssue wm_X9_271 wi_yX9_needIssue wsl_yX9_needIssue (Nat.le_of_ble_eq_true rfl) rfl (gO_of g2) rfl (Nat.le_of_ble_eq_true rfl) ⟨Nat.le_of_ble_eq_true rfl, Nat.le_of_ble_eq_true rfl⟩ ⟨Nat.le_refl _, Nat.le_refl _⟩ dX9_find_11 ht hlk
  replace h := bx_l h
  refine fw_callV (ci := 9) [_, _] C (c_X9_needIssue hl e3) cal_X9_needIssue wm_X9_271 wi_yX9_needIssue wsl_yX9_needIssue (Nat.le_of_ble_eq_true rfl) rfl (gO_of g2) rfl (Nat.le_of_ble_eq_true rfl) ⟨Nat.le_of_ble_eq_true rfl, Nat.le_of_ble_eq_true rfl⟩ ⟨Nat.zero_le _, Nat.zero_le _⟩ dX9_find_11 ?_
  refine fw_iload_n C 4 dX9_find_14 rfl rfl ?_
  refine fw_iconst C (-1) dX9_find_15 rfl ?_
  refine fw_icmp_lt C 24 dX9_find_16 (by decide) (fun c4 => ?_) (fun c4 => ?_)
  · replace h := (if_pos c4).symm.trans h
    obtain rfl := Option.some.inj h
    exact fw_throwW C hl fw_exI (i := 32) (List.mem_of_getElem? (i := 38) rfl) dX9_find_24 dX9_find_27 dX9_find_28 dX9_find_31 dX9_find_34 ht hlk (Nat.le_of_ble_eq_true rfl) (Nat.le_of_ble_eq_true rfl) (Nat.le_refl _) (Nat.le_refl _)
  · replace h := (if_neg c4).symm.trans h
    refine fw_iload_n C 4 dX9_find_19 rfl rfl ?_
    refine fw_iconst C 1 dX9_find_20 rfl ?_
    refine fw_icmp_le C 35 dX9_find_21 (by decide) (fun c5 => ?_) (fun c5 => ?_)
    · replace h := (if_pos c5).symm.trans h
      refine fw_aload C 0 dX9_find_35 rfl ?_
      obtain ⟨g7, h⟩ := gd_some h
      obtain ⟨v6, e6, h⟩ := b1_some h
      refine fw_callV (ci := 6) [] C (c_X6_isJudged hl e6) cal_X6_isJudged wm_X9_357 wi_yX6_isJudged wsl_yX6_isJudged (Nat.le_of_ble_eq_true rfl) rfl (gO_of g7) rfl (Nat.le_of_ble_eq_true rfl) ⟨Nat.le_of_ble_eq_true rfl, Nat.le_of_ble_eq_true rfl⟩ ⟨Nat.zero_le _, Nat.zero_le _⟩ dX9_find_37 ?_
      refine fw_if_ne C 45 dX9_find_40 (by decide) (fun c8 => ?_) (fun c8 => ?_)
      · replace h := (if_neg c8).symm.trans h
        refine fw_aload C 0 dX9_find_45 rfl ?_
        refine fw_iload_n C 3 dX9_find_47 rfl rfl ?_
        obtain ⟨v9, e9, h⟩ := b1_some h
        refine fw_callV (ci := 6) [_] C (c_X6_foundWay hl e9) cal_X6_foundWay wm_X9_373 wi_yX6_foundWay wsl_yX6_foundWay (Nat.le_of_ble_eq_true rfl) rfl (gO_of g7) rfl (Nat.le_of_ble_eq_true rfl) ⟨Nat.le_of_ble_eq_true rfl, Nat.le_of_ble_eq_true rfl⟩ ⟨Nat.zero_le _, Nat.zero_le _⟩ dX9_find_48 ?_
        refine fw_istore C [(6, _), (5, _), (0, _), (1, _), (2, _), (3, _), (4, _)] dX9_find_51 (Nat.le_of_ble_eq_true rfl) rfl ?_
        refine fw_aload_n C 2 dX9_find_53 rfl rfl ?_
        obtain ⟨g10, h⟩ := gd_some h
        refine fw_getR C 9 7 (Nat.le_of_ble_eq_true rfl) (Nat.le_of_ble_eq_true rfl) wf_X9_61 rfl (gO_of g2) (gN_of g10) dX9_find_54 ?_
        refine fw_iconst C 1 dX9_find_57 rfl ?_
        refine fw_iload_n C 3 dX9_find_58 rfl rfl ?_
        refine fw_aload C 1 dX9_find_59 rfl ?_
        refine fw_getI C 6 10 (Nat.le_of_ble_eq_true rfl) (Nat.le_of_ble_eq_true rfl) wf_X9_208 rfl (gO_of g7) dX9_find_61 ?_
        refine fw_aload C 1 dX9_find_64 rfl ?_
        refine fw_getI C 6 11 (Nat.le_of_ble_eq_true rfl) (Nat.le_of_ble_eq_true rfl) wf_X9_211 rfl (gO_of g7) dX9_find_66 ?_
        refine fw_aload C 1 dX9_find_69 rfl ?_
        refine fw_getI C 6 12 (Nat.le_of_ble_eq_true rfl) (Nat.le_of_ble_eq_true rfl) wf_X9_214 rfl (gO_of g7) dX9_find_71 ?_
        refine fw_iconst C 0 dX9_find_74 rfl ?_
        obtain ⟨g12, h⟩ := gd_some h
        obtain ⟨M11, e11, h⟩ := b1_some h
        refine fw_callV (ci := 0) [_, _, _, _, _, _] C (c_X0_note hl e11) cal_X0_note wm_X9_360 wi_yX0_note wsl_yX0_note (Nat.le_of_ble_eq_true rfl) rfl (gO_of g12) rfl (Nat.le_of_ble_eq_true rfl) ⟨Nat.le_of_ble_eq_true rfl, Nat.le_of_ble_eq_true rfl⟩ ⟨Nat.zero_le _, Nat.zero_le _⟩ dX9_find_75 ?_
        refine fw_aload C 1 dX9_find_78 rfl ?_
        refine fw_iload_n C 4 dX9_find_80 rfl rfl ?_
        refine fw_iload_n C 5 dX9_find_81 rfl rfl ?_
        refine fw_iload C 6 dX9_find_82 rfl ?_
        obtain ⟨M13, e13, h⟩ := b1_some h
        refine fw_callV (ci := 6) [_, _, _] C (c_X6_setFound hl e13) cal_X6_setFound wm_X9_376 wi_yX6_setFound wsl_yX6_setFound (Nat.le_of_ble_eq_true rfl) rfl (gO_of g7) rfl (Nat.le_of_ble_eq_true rfl) ⟨Nat.le_of_ble_eq_true rfl, Nat.le_of_ble_eq_true rfl⟩ ⟨Nat.zero_le _, Nat.zero_le _⟩ dX9_find_84 ?_
        refine fw_aload_n C 2 dX9_find_87 rfl rfl ?_
        obtain ⟨g14, h⟩ := gd_some h
        refine fw_getR C 9 5 (Nat.le_of_ble_eq_true rfl) (Nat.le_of_ble_eq_true rfl) wf_X9_45 rfl (gO_of g2) (gN_of g14) dX9_find_88 ?_
        obtain ⟨g16, h⟩ := gd_some h
        obtain ⟨M15, e15, h⟩ := b1_some h
        refine fw_callV (ci := 2) [] C (c_X2_refresh hl e15) cal_X2_refresh wm_X9_368 wi_yX2_refresh wsl_yX2_refresh (Nat.le_of_ble_eq_true rfl) rfl (gO_of g16) rfl (Nat.le_of_ble_eq_true rfl) ⟨Nat.le_of_ble_eq_true rfl, Nat.le_of_ble_eq_true rfl⟩ ⟨Nat.zero_le _, Nat.zero_le _⟩ dX9_find_91 ?_
        refine fw_iload C 0 dX9_find_94 rfl ?_
        obtain rfl := Option.some.inj h
        exact fw_iret C hr hlk dX9_find_96
      · replace h := (if_pos c8).symm.trans h
        refine fw_iconst C (-1) dX9_find_43 rfl ?_
        obtain rfl := Option.some.inj h
        exact fw_iret C hr hlk dX9_find_44
    · replace h := (if_neg c5).symm.trans h
      obtain rfl := Option.some.inj h
      exact fw_throwW C hl fw_exI (i := 32) (List.mem_of_getElem? (i := 38) rfl) dX9_find_24 dX9_find_27 dX9_find_28 dX9_find_31 dX9_find_34 ht hlk (Nat.le_of_ble_eq_true rfl) (Nat.le_of_ble_eq_true rfl) (Nat.le_refl _) (Nat.le_refl _)
set_option maxRecDepth 100000 in
def f_X9_reverse (S : List fw_Sh) (M : fw_Mem) (a0 : Nat) (x1 : Int32) : Option ((Int32 ⊕ String) × fw_Mem) := gd (gO S 9 a0) (b1 (f_X9_suitAt S M a0 x1) (fun v1 => bx v1 (fun u1 => bn u1 none (fun w1 => gd (gO S 6 w1) (b1 (f_X6_isJudged S M w1) (fun v3 => if v3 = 0 then (some (.inl 0, M)) else (gd (gN (M a0 7)) (gd (gO S 0 ((M a0 7).toNatClampNeg)) (b1 (f_X0_note S M ((M a0 7).toNatClampNeg) 2 x1 0 0 0 0) (fun M7 => if (M7 w1 9) = 0 then (bm (fw_set M7 w1 9 1) (fun M15 => gd (gN (M15 a0 5)) (gd (gO S 2 ((M15 a0 5).toNatClampNeg)) (b1 (f_X2_refresh S M15 ((M15 a0 5).toNatClampNeg)) (fun M17 => gd (gB (M17 w1 9)) (some (.inl (M17 w1 9), M17))))))) else (bm (fw_set M7 w1 9 0) (fun M10 => gd (gN (M10 a0 5)) (gd (gO S 2 ((M10 a0 5).toNatClampNeg)) (b1 (f_X2_refresh S M10 ((M10 a0 5).toNatClampNeg)) (fun M12 => gd (gB (M12 w1 9)) (some (.inl (M12 w1 9), M12))))))))))))))) (fun E1 => some (.inr E1, M))))
set_option maxHeartbeats 4000000 in
set_option maxRecDepth 100000 in
theorem c_X9_reverse {l : Launch} {G : fw_G} {S : List fw_Sh} {M : fw_Mem} {a0 : Nat} {x1 : Int32} {r : ((Int32 ⊕ String) × fw_Mem)} (hl : l.stackTraces = false) (h : f_X9_reverse S M a0 x1 = some r) : fw_M l G yX9_reverse (.code yX9_reverse cX9_reverse 3 (some .boolean)) 7 (fw_mcO (fw_oI r.1, S, r.2)) (fw_msO (fw_oI r.1, S, r.2)) S M [.ref a0, .int x1] (fw_oI r.1, S, r.2) := by
  refine fw_of [(0, .ref a0), (1, .int x1)] (by decide) (Nat.le_of_ble_eq_true rfl) rfl ?_
  intro p e s m args below meth c C hr hlk hnm ht _
  unfold f_X9_reverse at h
  refine fw_aload_n C 0 dX9_reverse_0 rfl rfl ?_
  refine fw_iload_n C 1 dX9_reverse_1 rfl rfl ?_
  obtain ⟨g2, h⟩ := gd_some h
  obtain ⟨v1, e1, h⟩ := b1_some h
  rcases v1 with u1 | E1
  rotate_left
  · replace h := bx_r h
    obtain rfl := Option.some.inj h
    exact fw_callVX (ci := 9) [_] C (c_X9_suitAt hl e1) cal_X9_suitAt wm_X9_177 wi_yX9_suitAt wsl_yX9_suitAt (Nat.le_of_ble_eq_true rfl) rfl (gO_of g2) rfl (Nat.le_of_ble_eq_true rfl) ⟨Nat.le_of_ble_eq_true rfl, Nat.le_of_ble_eq_true rfl⟩ ⟨Nat.le_refl _, Nat.le_refl _⟩ dX9_reverse_2 ht hlk
  replace h := bx_l h
  rcases u1 with _ | w1
  · cases h
  refine fw_callV (ci := 9) [_] C (c_X9_suitAt hl e1) cal_X9_suitAt wm_X9_177 wi_yX9_suitAt wsl_yX9_suitAt (Nat.le_of_ble_eq_true rfl) rfl (gO_of g2) rfl (Nat.le_of_ble_eq_true rfl) ⟨Nat.le_of_ble_eq_true rfl, Nat.le_of_ble_eq_true rfl⟩ ⟨Nat.zero_le _, Nat.zero_le _⟩ dX9_reverse_2 ?_
  refine fw_astore_n C [(2, _), (0, _), (1, _)] dX9_reverse_5 rfl (Nat.le_of_ble_eq_true rfl) rfl ?_
  refine fw_aload_n C 0 dX9_reverse_6 rfl rfl ?_
  obtain ⟨g4, h⟩ := gd_some h
  obtain ⟨v3, e3, h⟩ := b1_some h
  refine fw_callV (ci := 6) [] C (c_X6_isJudged hl e3) cal_X6_isJudged wm_X9_357 wi_yX6_isJudged wsl_yX6_isJudged (Nat.le_of_ble_eq_true rfl) rfl (gO_of g4) rfl (Nat.le_of_ble_eq_true rfl) ⟨Nat.le_of_ble_eq_true rfl, Nat.le_of_ble_eq_true rfl⟩ ⟨Nat.zero_le _, Nat.zero_le _⟩ dX9_reverse_7 ?_
  refine fw_if_ne C 15 dX9_reverse_10 (by decide) (fun c5 => ?_) (fun c5 => ?_)
  · replace h := (if_neg c5).symm.trans h
    refine fw_aload_n C 1 dX9_reverse_15 rfl rfl ?_
    obtain ⟨g6, h⟩ := gd_some h
    refine fw_getR C 9 7 (Nat.le_of_ble_eq_true rfl) (Nat.le_of_ble_eq_true rfl) wf_X9_61 rfl (gO_of g2) (gN_of g6) dX9_reverse_16 ?_
    refine fw_iconst C 2 dX9_reverse_19 rfl ?_
    refine fw_iload_n C 2 dX9_reverse_20 rfl rfl ?_
    refine fw_iconst C 0 dX9_reverse_21 rfl ?_
    refine fw_iconst C 0 dX9_reverse_22 rfl ?_
    refine fw_iconst C 0 dX9_reverse_23 rfl ?_
    refine fw_iconst C 0 dX9_reverse_24 rfl ?_
    obtain ⟨g8, h⟩ := gd_some h
    obtain ⟨M7, e7, h⟩ := b1_some h
    refine fw_callV (ci := 0) [_, _, _, _, _, _] C (c_X0_note hl e7) cal_X0_note wm_X9_360 wi_yX0_note wsl_yX0_note (Nat.le_of_ble_eq_true rfl) rfl (gO_of g8) rfl (Nat.le_of_ble_eq_true rfl) ⟨Nat.le_of_ble_eq_true rfl, Nat.le_of_ble_eq_true rfl⟩ ⟨Nat.zero_le _, Nat.zero_le _⟩ dX9_reverse_25 ?_
    refine fw_aload_n C 0 dX9_reverse_28 rfl rfl ?_
    refine fw_aload_n C 0 dX9_reverse_29 rfl rfl ?_
    refine fw_getI C 6 9 (Nat.le_of_ble_eq_true rfl) (Nat.le_of_ble_eq_true rfl) wf_X9_205 rfl (gO_of g4) dX9_reverse_30 ?_
    refine fw_if_ne C 40 dX9_reverse_33 (by decide) (fun c9 => ?_) (fun c9 => ?_)
    · replace h := (if_neg c9).symm.trans h
      refine fw_iconst C 0 dX9_reverse_40 rfl ?_
      refine fw_putI C 6 9 (Nat.le_of_ble_eq_true rfl) (Nat.le_of_ble_eq_true rfl) wf_X9_205 rfl rfl rfl rfl (gO_of g4) dX9_reverse_41 ?_
      refine fw_bm h (fun M10 h => ?_)
      refine fw_aload_n C 1 dX9_reverse_44 rfl rfl ?_
      obtain ⟨g11, h⟩ := gd_some h
      refine fw_getR C 9 5 (Nat.le_of_ble_eq_true rfl) (Nat.le_of_ble_eq_true rfl) wf_X9_45 rfl (gO_of g2) (gN_of g11) dX9_reverse_45 ?_
      obtain ⟨g13, h⟩ := gd_some h
      obtain ⟨M12, e12, h⟩ := b1_some h
      refine fw_callV (ci := 2) [] C (c_X2_refresh hl e12) cal_X2_refresh wm_X9_368 wi_yX2_refresh wsl_yX2_refresh (Nat.le_of_ble_eq_true rfl) rfl (gO_of g13) rfl (Nat.le_of_ble_eq_true rfl) ⟨Nat.le_of_ble_eq_true rfl, Nat.le_of_ble_eq_true rfl⟩ ⟨Nat.zero_le _, Nat.zero_le _⟩ dX9_reverse_48 ?_
      refine fw_aload_n C 0 dX9_reverse_51 rfl rfl ?_
      refine fw_getI C 6 9 (Nat.le_of_ble_eq_true rfl) (Nat.le_of_ble_eq_true rfl) wf_X9_205 rfl (gO_of g4) dX9_reverse_52 ?_
      obtain ⟨g14, h⟩ := gd_some h
      obtain rfl := Option.some.inj h
      exact fw_zret C hr (gB_of g14) hlk dX9_reverse_55
    · replace h := (if_pos c9).symm.trans h
      refine fw_iconst C 1 dX9_reverse_36 rfl ?_
      refine fw_goto C 41 dX9_reverse_37 (by decide) ?_
      refine fw_putI C 6 9 (Nat.le_of_ble_eq_true rfl) (Nat.le_of_ble_eq_true rfl) wf_X9_205 rfl rfl rfl rfl (gO_of g4) dX9_reverse_41 ?_
      refine fw_bm h (fun M15 h => ?_)
      refine fw_aload_n C 1 dX9_reverse_44 rfl rfl ?_
      obtain ⟨g16, h⟩ := gd_some h
      refine fw_getR C 9 5 (Nat.le_of_ble_eq_true rfl) (Nat.le_of_ble_eq_true rfl) wf_X9_45 rfl (gO_of g2) (gN_of g16) dX9_reverse_45 ?_
      obtain ⟨g18, h⟩ := gd_some h
      obtain ⟨M17, e17, h⟩ := b1_some h
      refine fw_callV (ci := 2) [] C (c_X2_refresh hl e17) cal_X2_refresh wm_X9_368 wi_yX2_refresh wsl_yX2_refresh (Nat.le_of_ble_eq_true rfl) rfl (gO_of g18) rfl (Nat.le_of_ble_eq_true rfl) ⟨Nat.le_of_ble_eq_true rfl, Nat.le_of_ble_eq_true rfl⟩ ⟨Nat.zero_le _, Nat.zero_le _⟩ dX9_reverse_48 ?_
      refine fw_aload_n C 0 dX9_reverse_51 rfl rfl ?_
      refine fw_getI C 6 9 (Nat.le_of_ble_eq_true rfl) (Nat.le_of_ble_eq_true rfl) wf_X9_205 rfl (gO_of g4) dX9_reverse_52 ?_
      obtain ⟨g19, h⟩ := gd_some h
      obtain rfl := Option.some.inj h
      exact fw_zret C hr (gB_of g19) hlk dX9_reverse_55
  · replace h := (if_pos c5).symm.trans h
    refine fw_iconst C 0 dX9_reverse_13 rfl ?_
    obtain rfl := Option.some.inj h
    exact fw_zret C hr (Or.inl rfl) hlk dX9_reverse_14
set_option maxRecDepth 100000 in
def fj_X9_tie_31 (S : List fw_Sh) (M : fw_Mem) (a0 : Nat) (x1 : Int32) (x2 : Int32) (x3 : Int32) (x4 : Int32) (z0 : Int32) : Option ((Int32 ⊕ String) × fw_Mem) := b1 (f_X9_isDay S M x3) (fun v4 => if v4 = 0 then (some (.inr exI, M)) else (if z0 = 0 then (some (.inr exI, M)) else (gd (gO S 9 a0) (gd (gN (M a0 1)) (gd (gO S 4 ((M a0 1).toNatClampNeg)) (if (M ((M a0 1).toNatClampNeg) 5) < 24 then (bm (M ((M a0 1).toNatClampNeg) 5) (fun y11 => gd (gN (M a0 7)) (gd (gO S 0 ((M a0 7).toNatClampNeg)) (b1 (f_X0_note S M ((M a0 7).toNatClampNeg) 3 y11 0 0 0 0) (fun M13 => gd (gN (M13 a0 1)) (gd (gO S 4 ((M13 a0 1).toNatClampNeg)) (b1 (f_X4_insertLink S M13 ((M13 a0 1).toNatClampNeg) y11 x1 x2 x3 x4) (fun M16 => gd (gN (M16 a0 5)) (gd (gO S 2 ((M16 a0 5).toNatClampNeg)) (b1 (f_X2_refresh S M16 ((M16 a0 5).toNatClampNeg)) (fun M19 => some (.inl y11, M19)))))))))))) else (some (.inl (-1), M))))))))
set_option maxHeartbeats 4000000 in
set_option maxRecDepth 100000 in
theorem jc_X9_tie_31 {G : fw_G} {p : Program} {l : Launch} {e : Env} {s : State} {m : MethodId} {args : Array Value} {below : List Frame} {meth : Method} {c : Code} {S : List fw_Sh} {M : fw_Mem} {a0 : Nat} {x1 : Int32} {x2 : Int32} {x3 : Int32} {x4 : Int32} {z0 : Int32} {r : ((Int32 ⊕ String) × fw_Mem)} {o : fw_O} (C : fw_C G RX9 cX9_tie 7 p s m args c) (hr : meth.sig.returnType = (some .int)) (hlk : meth.locks = false) (hl : l.stackTraces = false) (ht : ∀ x ∈ c.exceptionTable.toList, False) (ho : o = (fw_oI r.1, S, r.2)) (h : fj_X9_tie_31 S M a0 x1 x2 x3 x4 z0 = some r) :
    fw_W G p l e (fw_rm 8 (fw_mcO o) (fw_msO o)) s m args below meth c 7 (fw_Z G below args s (fw_mcO o) (fw_msO o) o) 0 0 31 [(0, .ref a0), (1, .int x1), (2, .int x2), (3, .int x3), (4, .int x4)] [.int z0] S M := by
  subst ho
  unfold fj_X9_tie_31 at h
  refine fw_istore C [(5, _), (0, _), (1, _), (2, _), (3, _), (4, _)] dX9_tie_31 (Nat.le_of_ble_eq_true rfl) rfl ?_
  refine fw_iload_n C 4 dX9_tie_33 rfl rfl ?_
  obtain ⟨v4, e4, h⟩ := b1_some h
  refine fw_callS [_] C (c_X9_isDay hl e4) cal_X9_isDay wm_X9_341 wt_yX9_isDay rfl (Nat.le_of_ble_eq_true rfl) ⟨Nat.le_of_ble_eq_true rfl, Nat.le_of_ble_eq_true rfl⟩ ⟨Nat.zero_le _, Nat.zero_le _⟩ dX9_tie_34 ?_
  refine fw_if_eq C 45 dX9_tie_37 (by decide) (fun c5 => ?_) (fun c5 => ?_)
  · replace h := (if_pos c5).symm.trans h
    obtain rfl := Option.some.inj h
    exact fw_throwW C hl fw_exI (i := 36) (List.mem_of_getElem? (i := 39) rfl) dX9_tie_45 dX9_tie_48 dX9_tie_49 dX9_tie_52 dX9_tie_55 ht hlk (Nat.le_of_ble_eq_true rfl) (Nat.le_of_ble_eq_true rfl) (Nat.le_refl _) (Nat.le_refl _)
  · replace h := (if_neg c5).symm.trans h
    refine fw_iload C 0 dX9_tie_40 rfl ?_
    refine fw_if_ne C 56 dX9_tie_42 (by decide) (fun c6 => ?_) (fun c6 => ?_)
    · replace h := (if_neg c6).symm.trans h
      refine fw_aload_n C 1 dX9_tie_56 rfl rfl ?_
      obtain ⟨g7, h⟩ := gd_some h
      obtain ⟨g8, h⟩ := gd_some h
      refine fw_getR C 9 1 (Nat.le_of_ble_eq_true rfl) (Nat.le_of_ble_eq_true rfl) wf_X9_21 rfl (gO_of g7) (gN_of g8) dX9_tie_57 ?_
      obtain ⟨g9, h⟩ := gd_some h
      refine fw_getI C 4 5 (Nat.le_of_ble_eq_true rfl) (Nat.le_of_ble_eq_true rfl) wf_X9_117 rfl (gO_of g9) dX9_tie_60 ?_
      refine fw_bipush C 24 dX9_tie_63 rfl ?_
      refine fw_icmp_lt C 70 dX9_tie_65 (by decide) (fun c10 => ?_) (fun c10 => ?_)
      · replace h := (if_pos c10).symm.trans h
        refine fw_aload_n C 1 dX9_tie_70 rfl rfl ?_
        refine fw_getR C 9 1 (Nat.le_of_ble_eq_true rfl) (Nat.le_of_ble_eq_true rfl) wf_X9_21 rfl (gO_of g7) (gN_of g8) dX9_tie_71 ?_
        refine fw_getI C 4 5 (Nat.le_of_ble_eq_true rfl) (Nat.le_of_ble_eq_true rfl) wf_X9_117 rfl (gO_of g9) dX9_tie_74 ?_
        refine fw_bi h (fun y11 h => ?_)
        refine fw_istore C [(6, _), (5, _), (0, _), (1, _), (2, _), (3, _), (4, _)] dX9_tie_77 (Nat.le_of_ble_eq_true rfl) rfl ?_
        refine fw_aload_n C 2 dX9_tie_79 rfl rfl ?_
        obtain ⟨g12, h⟩ := gd_some h
        refine fw_getR C 9 7 (Nat.le_of_ble_eq_true rfl) (Nat.le_of_ble_eq_true rfl) wf_X9_61 rfl (gO_of g7) (gN_of g12) dX9_tie_80 ?_
        refine fw_iconst C 3 dX9_tie_83 rfl ?_
        refine fw_iload C 0 dX9_tie_84 rfl ?_
        refine fw_iconst C 0 dX9_tie_86 rfl ?_
        refine fw_iconst C 0 dX9_tie_87 rfl ?_
        refine fw_iconst C 0 dX9_tie_88 rfl ?_
        refine fw_iconst C 0 dX9_tie_89 rfl ?_
        obtain ⟨g14, h⟩ := gd_some h
        obtain ⟨M13, e13, h⟩ := b1_some h
        refine fw_callV (ci := 0) [_, _, _, _, _, _] C (c_X0_note hl e13) cal_X0_note wm_X9_360 wi_yX0_note wsl_yX0_note (Nat.le_of_ble_eq_true rfl) rfl (gO_of g14) rfl (Nat.le_of_ble_eq_true rfl) ⟨Nat.le_of_ble_eq_true rfl, Nat.le_of_ble_eq_true rfl⟩ ⟨Nat.zero_le _, Nat.zero_le _⟩ dX9_tie_90 ?_
        refine fw_aload_n C 2 dX9_tie_93 rfl rfl ?_
        obtain ⟨g15, h⟩ := gd_some h
        refine fw_getR C 9 1 (Nat.le_of_ble_eq_true rfl) (Nat.le_of_ble_eq_true rfl) wf_X9_21 rfl (gO_of g7) (gN_of g15) dX9_tie_94 ?_
        refine fw_iload C 0 dX9_tie_97 rfl ?_
        refine fw_iload_n C 3 dX9_tie_99 rfl rfl ?_
        refine fw_iload_n C 4 dX9_tie_100 rfl rfl ?_
        refine fw_iload_n C 5 dX9_tie_101 rfl rfl ?_
        refine fw_iload C 6 dX9_tie_102 rfl ?_
        obtain ⟨g17, h⟩ := gd_some h
        obtain ⟨M16, e16, h⟩ := b1_some h
        refine fw_callV (ci := 4) [_, _, _, _, _] C (c_X4_insertLink hl e16) cal_X4_insertLink wm_X9_382 wi_yX4_insertLink wsl_yX4_insertLink (Nat.le_of_ble_eq_true rfl) rfl (gO_of g17) rfl (Nat.le_of_ble_eq_true rfl) ⟨Nat.le_of_ble_eq_true rfl, Nat.le_of_ble_eq_true rfl⟩ ⟨Nat.zero_le _, Nat.zero_le _⟩ dX9_tie_104 ?_
        refine fw_aload_n C 2 dX9_tie_107 rfl rfl ?_
        obtain ⟨g18, h⟩ := gd_some h
        refine fw_getR C 9 5 (Nat.le_of_ble_eq_true rfl) (Nat.le_of_ble_eq_true rfl) wf_X9_45 rfl (gO_of g7) (gN_of g18) dX9_tie_108 ?_
        obtain ⟨g20, h⟩ := gd_some h
        obtain ⟨M19, e19, h⟩ := b1_some h
        refine fw_callV (ci := 2) [] C (c_X2_refresh hl e19) cal_X2_refresh wm_X9_368 wi_yX2_refresh wsl_yX2_refresh (Nat.le_of_ble_eq_true rfl) rfl (gO_of g20) rfl (Nat.le_of_ble_eq_true rfl) ⟨Nat.le_of_ble_eq_true rfl, Nat.le_of_ble_eq_true rfl⟩ ⟨Nat.zero_le _, Nat.zero_le _⟩ dX9_tie_111 ?_
        refine fw_iload C 0 dX9_tie_114 rfl ?_
        obtain rfl := Option.some.inj h
        exact fw_iret C hr hlk dX9_tie_116
      · replace h := (if_neg c10).symm.trans h
        refine fw_iconst C (-1) dX9_tie_68 rfl ?_
        obtain rfl := Option.some.inj h
        exact fw_iret C hr hlk dX9_tie_69
    · replace h := (if_pos c6).symm.trans h
      obtain rfl := Option.some.inj h
      exact fw_throwW C hl fw_exI (i := 36) (List.mem_of_getElem? (i := 39) rfl) dX9_tie_45 dX9_tie_48 dX9_tie_49 dX9_tie_52 dX9_tie_55 ht hlk (Nat.le_of_ble_eq_true rfl) (Nat.le_of_ble_eq_true rfl) (Nat.le_refl _) (Nat.le_refl _)
set_option maxRecDepth 100000 in
def f_X9_tie (S : List fw_Sh) (M : fw_Mem) (a0 : Nat) (x1 : Int32) (x2 : Int32) (x3 : Int32) (x4 : Int32) : Option ((Int32 ⊕ String) × fw_Mem) := gd (gO S 9 a0) (b1 (f_X9_needCouple S M a0 x1 x2) (fun v1 => bx v1 (fun _ => if x4 = (-1) then fj_X9_tie_31 S M a0 x1 x2 x3 x4 1 else (if x4 < x3 then fj_X9_tie_31 S M a0 x1 x2 x3 x4 0 else (b1 (f_X9_isDay S M x4) (fun v22 => if v22 = 0 then fj_X9_tie_31 S M a0 x1 x2 x3 x4 0 else fj_X9_tie_31 S M a0 x1 x2 x3 x4 1)))) (fun E1 => some (.inr E1, M))))
set_option maxHeartbeats 4000000 in
set_option maxRecDepth 100000 in
theorem c_X9_tie {l : Launch} {G : fw_G} {S : List fw_Sh} {M : fw_Mem} {a0 : Nat} {x1 : Int32} {x2 : Int32} {x3 : Int32} {x4 : Int32} {r : ((Int32 ⊕ String) × fw_Mem)} (hl : l.stackTraces = false) (h : f_X9_tie S M a0 x1 x2 x3 x4 = some r) : fw_M l G yX9_tie (.code yX9_tie cX9_tie 7 (some .int)) 8 (fw_mcO (fw_oI r.1, S, r.2)) (fw_msO (fw_oI r.1, S, r.2)) S M [.ref a0, .int x1, .int x2, .int x3, .int x4] (fw_oI r.1, S, r.2) := by
  refine fw_of [(0, .ref a0), (1, .int x1), (2, .int x2), (3, .int x3), (4, .int x4)] (by decide) (Nat.le_of_ble_eq_true rfl) rfl ?_
  intro p e s m args below meth c C hr hlk hnm ht _
  unfold f_X9_tie at h
  refine fw_aload_n C 0 dX9_tie_0 rfl rfl ?_
  refine fw_iload_n C 1 dX9_tie_1 rfl rfl ?_
  refine fw_iload_n C 2 dX9_tie_2 rfl rfl ?_
  obtain ⟨g2, h⟩ := gd_some h
  obtain ⟨v1, e1, h⟩ := b1_some h
  rcases v1 with u1 | E1
  rotate_left
  · replace h := bx_r h
    obtain rfl := Option.some.inj h
    exact fw_callVX (ci := 9) [_, _] C (c_X9_needCouple hl e1) cal_X9_needCouple wm_X9_337 wi_yX9_needCouple wsl_yX9_needCouple (Nat.le_of_ble_eq_true rfl) rfl (gO_of g2) rfl (Nat.le_of_ble_eq_true rfl) ⟨Nat.le_of_ble_eq_true rfl, Nat.le_of_ble_eq_true rfl⟩ ⟨Nat.le_refl _, Nat.le_refl _⟩ dX9_tie_3 ht hlk
  replace h := bx_l h
  refine fw_callV (ci := 9) [_, _] C (c_X9_needCouple hl e1) cal_X9_needCouple wm_X9_337 wi_yX9_needCouple wsl_yX9_needCouple (Nat.le_of_ble_eq_true rfl) rfl (gO_of g2) rfl (Nat.le_of_ble_eq_true rfl) ⟨Nat.le_of_ble_eq_true rfl, Nat.le_of_ble_eq_true rfl⟩ ⟨Nat.zero_le _, Nat.zero_le _⟩ dX9_tie_3 ?_
  refine fw_iload C 4 dX9_tie_6 rfl ?_
  refine fw_iconst C (-1) dX9_tie_8 rfl ?_
  refine fw_icmp_eq C 26 dX9_tie_9 (by decide) (fun c3 => ?_) (fun c3 => ?_)
  · replace h := (if_pos c3).symm.trans h
    refine fw_iconst C 1 dX9_tie_26 rfl ?_
    refine fw_goto C 31 dX9_tie_27 (by decide) ?_
    exact jc_X9_tie_31 C hr hlk hl ht rfl h
  · replace h := (if_neg c3).symm.trans h
    refine fw_iload C 4 dX9_tie_12 rfl ?_
    refine fw_iload_n C 3 dX9_tie_14 rfl rfl ?_
    refine fw_icmp_lt C 30 dX9_tie_15 (by decide) (fun c21 => ?_) (fun c21 => ?_)
    · replace h := (if_pos c21).symm.trans h
      refine fw_iconst C 0 dX9_tie_30 rfl ?_
      exact jc_X9_tie_31 C hr hlk hl ht rfl h
    · replace h := (if_neg c21).symm.trans h
      refine fw_iload C 4 dX9_tie_18 rfl ?_
      obtain ⟨v22, e22, h⟩ := b1_some h
      refine fw_callS [_] C (c_X9_isDay hl e22) cal_X9_isDay wm_X9_341 wt_yX9_isDay rfl (Nat.le_of_ble_eq_true rfl) ⟨Nat.le_of_ble_eq_true rfl, Nat.le_of_ble_eq_true rfl⟩ ⟨Nat.zero_le _, Nat.zero_le _⟩ dX9_tie_20 ?_
      refine fw_if_eq C 30 dX9_tie_23 (by decide) (fun c23 => ?_) (fun c23 => ?_)
      · replace h := (if_pos c23).symm.trans h
        refine fw_iconst C 0 dX9_tie_30 rfl ?_
        exact jc_X9_tie_31 C hr hlk hl ht rfl h
      · replace h := (if_neg c23).symm.trans h
        refine fw_iconst C 1 dX9_tie_26 rfl ?_
        refine fw_goto C 31 dX9_tie_27 (by decide) ?_
        exact jc_X9_tie_31 C hr hlk hl ht rfl h
set_option maxRecDepth 100000 in
def lf_X4_removeLink_22 (S : List fw_Sh) (a0 : Nat) (a2 : Nat) : Nat → Int32 → fw_Mem → Option (fw_Mem)
  | 0, _, _ => none
  | n + 1, x3, M => gd (gO S 4 a0) (if ((M a0 5) - 1) ≤ x3 then (some M) else (gd (gN (M a0 1)) (gd (gA S 3 ((M a0 1).toNatClampNeg) (x3 + 1)) (gd (gN (M ((M a0 1).toNatClampNeg) (x3 + 1).toNatClampNeg)) (gd (gA S 3 ((M a0 1).toNatClampNeg) x3) (gd (gO S 3 ((M ((M a0 1).toNatClampNeg) (x3 + 1).toNatClampNeg).toNatClampNeg)) (gd (decide ((M ((M a0 1).toNatClampNeg) (x3 + 1).toNatClampNeg).toNatClampNeg < 1000000)) (bm (fw_set M ((M a0 1).toNatClampNeg) x3.toNatClampNeg (nI ((M ((M a0 1).toNatClampNeg) (x3 + 1).toNatClampNeg).toNatClampNeg))) (fun M15 => lf_X4_removeLink_22 S a0 a2 n (x3 + 1) M15)))))))))
set_option maxHeartbeats 4000000 in
set_option maxRecDepth 100000 in
theorem lc_X4_removeLink_22 {G : fw_G} {p : Program} {l : Launch} {e : Env} {s : State} {m : MethodId} {args : Array Value} {below : List Frame} {meth : Method} {c : Code} {S : List fw_Sh} {o : fw_O} {a0 : Nat} {a2 : Nat} (C : fw_C G RX4 cX4_removeLink 4 p s m args c) (hr : meth.sig.returnType = none) (hlk : meth.locks = false) (hl : l.stackTraces = false) (ht : ∀ x ∈ c.exceptionTable.toList, False) :
    ∀ {n : Nat} {x3 : Int32} {M : fw_Mem} {r : (fw_Mem)} (h : lf_X4_removeLink_22 S a0 a2 n x3 M = some r) (kx : fw_W G p l e (fw_rm 1 (fw_mcO o) (fw_msO o)) s m args below meth c 4 (fw_Z G below args s (fw_mcO o) (fw_msO o) o) 0 0 52 [(0, .ref a0), (2, .ref a2)] [] S r), fw_W G p l e (fw_rm 1 (fw_mcO o) (fw_msO o)) s m args below meth c 4 (fw_Z G below args s (fw_mcO o) (fw_msO o) o) 0 0 22 [(0, .ref a0), (2, .ref a2), (3, .int x3)] [] S M := by
  intro n
  induction n with
  | zero =>
    intro x3 M r h
    exact nomatch (show (none : Option (fw_Mem)) = some r from h)
  | succ n ih =>
    intro x3 M r h kx
    rw [lf_X4_removeLink_22.eq_2] at h
    refine fw_iload_n C 2 dX4_removeLink_22 rfl rfl ?_
    refine fw_aload_n C 0 dX4_removeLink_23 rfl rfl ?_
    obtain ⟨g7, h⟩ := gd_some h
    refine fw_getI C 4 5 (Nat.le_of_ble_eq_true rfl) (Nat.le_of_ble_eq_true rfl) wf_X4_41 rfl (gO_of g7) dX4_removeLink_24 ?_
    refine fw_iconst C 1 dX4_removeLink_27 rfl ?_
    refine fw_isub C dX4_removeLink_28 ?_
    refine fw_icmp_ge C 52 dX4_removeLink_29 (by decide) (fun c8 => ?_) (fun c8 => ?_)
    · replace h := (if_pos c8).symm.trans h
      obtain rfl := Option.some.inj h
      refine fw_sub [0, 1] rfl ?_
      exact kx
    · replace h := (if_neg c8).symm.trans h
      refine fw_aload_n C 0 dX4_removeLink_32 rfl rfl ?_
      obtain ⟨g9, h⟩ := gd_some h
      refine fw_getR C 4 1 (Nat.le_of_ble_eq_true rfl) (Nat.le_of_ble_eq_true rfl) wf_X4_17 rfl (gO_of g7) (gN_of g9) dX4_removeLink_33 ?_
      refine fw_iload_n C 2 dX4_removeLink_36 rfl rfl ?_
      refine fw_aload_n C 0 dX4_removeLink_37 rfl rfl ?_
      refine fw_getR C 4 1 (Nat.le_of_ble_eq_true rfl) (Nat.le_of_ble_eq_true rfl) wf_X4_17 rfl (gO_of g7) (gN_of g9) dX4_removeLink_38 ?_
      refine fw_iload_n C 2 dX4_removeLink_41 rfl rfl ?_
      refine fw_iconst C 1 dX4_removeLink_42 rfl ?_
      refine fw_iadd C dX4_removeLink_43 ?_
      obtain ⟨g10, h⟩ := gd_some h
      obtain ⟨g11, h⟩ := gd_some h
      refine fw_aald C 3 (by decide) (gA_of g10) (gN_of g11) dX4_removeLink_44 ?_
      obtain ⟨g12, h⟩ := gd_some h
      obtain ⟨g13, h⟩ := gd_some h
      obtain ⟨g14, h⟩ := gd_some h
      refine fw_aast C 3 3 (by decide) (gA_of g12) (gO_of g13) (of_decide_eq_true g14) dX4_removeLink_45 ?_
      refine fw_bm h (fun M15 h => ?_)
      refine fw_iinc C _ 2 [(3, _), (0, _), (2, _)] dX4_removeLink_46 rfl rfl (Nat.le_of_ble_eq_true rfl) rfl ?_
      refine fw_goto C 22 dX4_removeLink_49 (by decide) ?_
      refine fw_sub [1, 2, 0] rfl ?_
      exact ih h kx
set_option maxRecDepth 100000 in
def f_X4_removeLink (S : List fw_Sh) (M : fw_Mem) (a0 : Nat) (x1 : Int32) : Option fw_Mem := if x1 < 0 then (some M) else (gd (gO S 4 a0) (if x1 < (M a0 5) then (gd (gN (M a0 1)) (gd (gA S 3 ((M a0 1).toNatClampNeg) x1) (gd (gN (M ((M a0 1).toNatClampNeg) x1.toNatClampNeg)) (b1 (lf_X4_removeLink_22 S a0 ((M ((M a0 1).toNatClampNeg) x1.toNatClampNeg).toNatClampNeg) 20000 x1 M) (fun l16 => bm (fw_set l16 a0 5 ((l16 a0 5) - 1)) (fun M17 => gd (gN (M17 a0 1)) (gd (gA S 3 ((M17 a0 1).toNatClampNeg) (M17 a0 5)) (gd (gO S 3 ((M ((M a0 1).toNatClampNeg) x1.toNatClampNeg).toNatClampNeg)) (gd (decide ((M ((M a0 1).toNatClampNeg) x1.toNatClampNeg).toNatClampNeg < 1000000)) (bm (fw_set M17 ((M17 a0 1).toNatClampNeg) (M17 a0 5).toNatClampNeg (nI ((M ((M a0 1).toNatClampNeg) x1.toNatClampNeg).toNatClampNeg))) (fun M22 => some M22))))))))))) else (some M)))
set_option maxHeartbeats 4000000 in
set_option maxRecDepth 100000 in
theorem c_X4_removeLink {l : Launch} {G : fw_G} {S : List fw_Sh} {M : fw_Mem} {a0 : Nat} {x1 : Int32} {r : fw_Mem} (hl : l.stackTraces = false) (h : f_X4_removeLink S M a0 x1 = some r) : fw_M l G yX4_removeLink (.code yX4_removeLink cX4_removeLink 4 none) 1 (fw_mcO (.inl none, S, r)) (fw_msO (.inl none, S, r)) S M [.ref a0, .int x1] (.inl none, S, r) := by
  refine fw_of [(0, .ref a0), (1, .int x1)] (by decide) (Nat.le_of_ble_eq_true rfl) rfl ?_
  intro p e s m args below meth c C hr hlk hnm ht _
  unfold f_X4_removeLink at h
  refine fw_iload_n C 1 dX4_removeLink_0 rfl rfl ?_
  refine fw_if_lt C 12 dX4_removeLink_1 (by decide) (fun c1 => ?_) (fun c1 => ?_)
  · replace h := (if_pos c1).symm.trans h
    obtain rfl := Option.some.inj h
    exact fw_vret C hr hlk dX4_removeLink_12
  · replace h := (if_neg c1).symm.trans h
    refine fw_iload_n C 1 dX4_removeLink_4 rfl rfl ?_
    refine fw_aload_n C 0 dX4_removeLink_5 rfl rfl ?_
    obtain ⟨g2, h⟩ := gd_some h
    refine fw_getI C 4 5 (Nat.le_of_ble_eq_true rfl) (Nat.le_of_ble_eq_true rfl) wf_X4_41 rfl (gO_of g2) dX4_removeLink_6 ?_
    refine fw_icmp_lt C 13 dX4_removeLink_9 (by decide) (fun c3 => ?_) (fun c3 => ?_)
    · replace h := (if_pos c3).symm.trans h
      refine fw_aload_n C 0 dX4_removeLink_13 rfl rfl ?_
      obtain ⟨g4, h⟩ := gd_some h
      refine fw_getR C 4 1 (Nat.le_of_ble_eq_true rfl) (Nat.le_of_ble_eq_true rfl) wf_X4_17 rfl (gO_of g2) (gN_of g4) dX4_removeLink_14 ?_
      refine fw_iload_n C 1 dX4_removeLink_17 rfl rfl ?_
      obtain ⟨g5, h⟩ := gd_some h
      obtain ⟨g6, h⟩ := gd_some h
      refine fw_aald C 3 (by decide) (gA_of g5) (gN_of g6) dX4_removeLink_18 ?_
      refine fw_astore_n C [(2, _), (0, _), (1, _)] dX4_removeLink_19 rfl (Nat.le_of_ble_eq_true rfl) rfl ?_
      refine fw_iload_n C 2 dX4_removeLink_20 rfl rfl ?_
      refine fw_istore_n C [(3, _), (2, _), (0, _), (1, _)] dX4_removeLink_21 rfl (Nat.le_of_ble_eq_true rfl) rfl ?_
      refine fw_sub [2, 1, 0] rfl ?_
      obtain ⟨l16, e16, h⟩ := b1_some h
      refine lc_X4_removeLink_22 C hr hlk hl ht e16 ?_
      refine fw_aload_n C 0 dX4_removeLink_52 rfl rfl ?_
      refine fw_dup C dX4_removeLink_53 rfl ?_
      refine fw_getI C 4 5 (Nat.le_of_ble_eq_true rfl) (Nat.le_of_ble_eq_true rfl) wf_X4_41 rfl (gO_of g2) dX4_removeLink_54 ?_
      refine fw_iconst C 1 dX4_removeLink_57 rfl ?_
      refine fw_isub C dX4_removeLink_58 ?_
      refine fw_putI C 4 5 (Nat.le_of_ble_eq_true rfl) (Nat.le_of_ble_eq_true rfl) wf_X4_41 rfl rfl rfl rfl (gO_of g2) dX4_removeLink_59 ?_
      refine fw_bm h (fun M17 h => ?_)
      refine fw_aload_n C 0 dX4_removeLink_62 rfl rfl ?_
      obtain ⟨g18, h⟩ := gd_some h
      refine fw_getR C 4 1 (Nat.le_of_ble_eq_true rfl) (Nat.le_of_ble_eq_true rfl) wf_X4_17 rfl (gO_of g2) (gN_of g18) dX4_removeLink_63 ?_
      refine fw_aload_n C 0 dX4_removeLink_66 rfl rfl ?_
      refine fw_getI C 4 5 (Nat.le_of_ble_eq_true rfl) (Nat.le_of_ble_eq_true rfl) wf_X4_41 rfl (gO_of g2) dX4_removeLink_67 ?_
      refine fw_aload_n C 1 dX4_removeLink_70 rfl rfl ?_
      obtain ⟨g19, h⟩ := gd_some h
      obtain ⟨g20, h⟩ := gd_some h
      obtain ⟨g21, h⟩ := gd_some h
      refine fw_aast C 3 3 (by decide) (gA_of g19) (gO_of g20) (of_decide_eq_true g21) dX4_removeLink_71 ?_
      refine fw_bm h (fun M22 h => ?_)
      obtain rfl := Option.some.inj h
      exact fw_vret C hr hlk dX4_removeLink_72
    · replace h := (if_neg c3).symm.trans h
      obtain rfl := Option.some.inj h
      exact fw_vret C hr hlk dX4_removeLink_12
set_option maxRecDepth 100000 in
def f_X9_cut (S : List fw_Sh) (M : fw_Mem) (a0 : Nat) (x1 : Int32) : Option ((Int32 ⊕ String) × fw_Mem) := gd (gO S 9 a0) (b1 (f_X9_needLink S M a0 x1) (fun v1 => bx v1 (fun _ => gd (gN (M a0 1)) (gd (gO S 4 ((M a0 1).toNatClampNeg)) (gd (gN (M ((M a0 1).toNatClampNeg) 1)) (gd (gA S 3 ((M ((M a0 1).toNatClampNeg) 1).toNatClampNeg) x1) (gd (gN (M ((M ((M a0 1).toNatClampNeg) 1).toNatClampNeg) x1.toNatClampNeg)) (gd (gN (M a0 7)) (gd (gO S 3 ((M ((M ((M a0 1).toNatClampNeg) 1).toNatClampNeg) x1.toNatClampNeg).toNatClampNeg)) (gd (gO S 0 ((M a0 7).toNatClampNeg)) (b1 (f_X0_note S M ((M a0 7).toNatClampNeg) 4 x1 (M ((M ((M ((M a0 1).toNatClampNeg) 1).toNatClampNeg) x1.toNatClampNeg).toNatClampNeg) 0) (M ((M ((M ((M a0 1).toNatClampNeg) 1).toNatClampNeg) x1.toNatClampNeg).toNatClampNeg) 1) (M ((M ((M ((M a0 1).toNatClampNeg) 1).toNatClampNeg) x1.toNatClampNeg).toNatClampNeg) 2) (M ((M ((M ((M a0 1).toNatClampNeg) 1).toNatClampNeg) x1.toNatClampNeg).toNatClampNeg) 3)) (fun M10 => gd (gN (M10 a0 1)) (gd (gO S 4 ((M10 a0 1).toNatClampNeg)) (b1 (f_X4_removeLink S M10 ((M10 a0 1).toNatClampNeg) x1) (fun M13 => gd (gN (M13 a0 5)) (gd (gO S 2 ((M13 a0 5).toNatClampNeg)) (b1 (f_X2_refresh S M13 ((M13 a0 5).toNatClampNeg)) (fun M16 => gd (gN (M16 a0 1)) (gd (gO S 4 ((M16 a0 1).toNatClampNeg)) (some (.inl (M16 ((M16 a0 1).toNatClampNeg) 5), M16))))))))))))))))))) (fun E1 => some (.inr E1, M))))
set_option maxHeartbeats 4000000 in
set_option maxRecDepth 100000 in
theorem c_X9_cut {l : Launch} {G : fw_G} {S : List fw_Sh} {M : fw_Mem} {a0 : Nat} {x1 : Int32} {r : ((Int32 ⊕ String) × fw_Mem)} (hl : l.stackTraces = false) (h : f_X9_cut S M a0 x1 = some r) : fw_M l G yX9_cut (.code yX9_cut cX9_cut 3 (some .int)) 7 (fw_mcO (fw_oI r.1, S, r.2)) (fw_msO (fw_oI r.1, S, r.2)) S M [.ref a0, .int x1] (fw_oI r.1, S, r.2) := by
  refine fw_of [(0, .ref a0), (1, .int x1)] (by decide) (Nat.le_of_ble_eq_true rfl) rfl ?_
  intro p e s m args below meth c C hr hlk hnm ht _
  unfold f_X9_cut at h
  refine fw_aload_n C 0 dX9_cut_0 rfl rfl ?_
  refine fw_iload_n C 1 dX9_cut_1 rfl rfl ?_
  obtain ⟨g2, h⟩ := gd_some h
  obtain ⟨v1, e1, h⟩ := b1_some h
  rcases v1 with u1 | E1
  rotate_left
  · replace h := bx_r h
    obtain rfl := Option.some.inj h
    exact fw_callVX (ci := 9) [_] C (c_X9_needLink hl e1) cal_X9_needLink wm_X9_150 wi_yX9_needLink wsl_yX9_needLink (Nat.le_of_ble_eq_true rfl) rfl (gO_of g2) rfl (Nat.le_of_ble_eq_true rfl) ⟨Nat.le_of_ble_eq_true rfl, Nat.le_of_ble_eq_true rfl⟩ ⟨Nat.le_refl _, Nat.le_refl _⟩ dX9_cut_2 ht hlk
  replace h := bx_l h
  refine fw_callV (ci := 9) [_] C (c_X9_needLink hl e1) cal_X9_needLink wm_X9_150 wi_yX9_needLink wsl_yX9_needLink (Nat.le_of_ble_eq_true rfl) rfl (gO_of g2) rfl (Nat.le_of_ble_eq_true rfl) ⟨Nat.le_of_ble_eq_true rfl, Nat.le_of_ble_eq_true rfl⟩ ⟨Nat.zero_le _, Nat.zero_le _⟩ dX9_cut_2 ?_
  refine fw_aload_n C 0 dX9_cut_5 rfl rfl ?_
  obtain ⟨g3, h⟩ := gd_some h
  refine fw_getR C 9 1 (Nat.le_of_ble_eq_true rfl) (Nat.le_of_ble_eq_true rfl) wf_X9_21 rfl (gO_of g2) (gN_of g3) dX9_cut_6 ?_
  obtain ⟨g4, h⟩ := gd_some h
  obtain ⟨g5, h⟩ := gd_some h
  refine fw_getR C 4 1 (Nat.le_of_ble_eq_true rfl) (Nat.le_of_ble_eq_true rfl) wf_X9_153 rfl (gO_of g4) (gN_of g5) dX9_cut_9 ?_
  refine fw_iload_n C 1 dX9_cut_12 rfl rfl ?_
  obtain ⟨g6, h⟩ := gd_some h
  obtain ⟨g7, h⟩ := gd_some h
  refine fw_aald C 3 (by decide) (gA_of g6) (gN_of g7) dX9_cut_13 ?_
  refine fw_astore_n C [(2, _), (0, _), (1, _)] dX9_cut_14 rfl (Nat.le_of_ble_eq_true rfl) rfl ?_
  refine fw_aload_n C 1 dX9_cut_15 rfl rfl ?_
  obtain ⟨g8, h⟩ := gd_some h
  refine fw_getR C 9 7 (Nat.le_of_ble_eq_true rfl) (Nat.le_of_ble_eq_true rfl) wf_X9_61 rfl (gO_of g2) (gN_of g8) dX9_cut_16 ?_
  refine fw_iconst C 4 dX9_cut_19 rfl ?_
  refine fw_iload_n C 2 dX9_cut_20 rfl rfl ?_
  refine fw_aload_n C 0 dX9_cut_21 rfl rfl ?_
  obtain ⟨g9, h⟩ := gd_some h
  refine fw_getI C 3 0 (Nat.le_of_ble_eq_true rfl) (Nat.le_of_ble_eq_true rfl) wf_X9_157 rfl (gO_of g9) dX9_cut_22 ?_
  refine fw_aload_n C 0 dX9_cut_25 rfl rfl ?_
  refine fw_getI C 3 1 (Nat.le_of_ble_eq_true rfl) (Nat.le_of_ble_eq_true rfl) wf_X9_162 rfl (gO_of g9) dX9_cut_26 ?_
  refine fw_aload_n C 0 dX9_cut_29 rfl rfl ?_
  refine fw_getI C 3 2 (Nat.le_of_ble_eq_true rfl) (Nat.le_of_ble_eq_true rfl) wf_X9_169 rfl (gO_of g9) dX9_cut_30 ?_
  refine fw_aload_n C 0 dX9_cut_33 rfl rfl ?_
  refine fw_getI C 3 3 (Nat.le_of_ble_eq_true rfl) (Nat.le_of_ble_eq_true rfl) wf_X9_172 rfl (gO_of g9) dX9_cut_34 ?_
  obtain ⟨g11, h⟩ := gd_some h
  obtain ⟨M10, e10, h⟩ := b1_some h
  refine fw_callV (ci := 0) [_, _, _, _, _, _] C (c_X0_note hl e10) cal_X0_note wm_X9_360 wi_yX0_note wsl_yX0_note (Nat.le_of_ble_eq_true rfl) rfl (gO_of g11) rfl (Nat.le_of_ble_eq_true rfl) ⟨Nat.le_of_ble_eq_true rfl, Nat.le_of_ble_eq_true rfl⟩ ⟨Nat.zero_le _, Nat.zero_le _⟩ dX9_cut_37 ?_
  refine fw_aload_n C 1 dX9_cut_40 rfl rfl ?_
  obtain ⟨g12, h⟩ := gd_some h
  refine fw_getR C 9 1 (Nat.le_of_ble_eq_true rfl) (Nat.le_of_ble_eq_true rfl) wf_X9_21 rfl (gO_of g2) (gN_of g12) dX9_cut_41 ?_
  refine fw_iload_n C 2 dX9_cut_44 rfl rfl ?_
  obtain ⟨g14, h⟩ := gd_some h
  obtain ⟨M13, e13, h⟩ := b1_some h
  refine fw_callV (ci := 4) [_] C (c_X4_removeLink hl e13) cal_X4_removeLink wm_X9_386 wi_yX4_removeLink wsl_yX4_removeLink (Nat.le_of_ble_eq_true rfl) rfl (gO_of g14) rfl (Nat.le_of_ble_eq_true rfl) ⟨Nat.le_of_ble_eq_true rfl, Nat.le_of_ble_eq_true rfl⟩ ⟨Nat.zero_le _, Nat.zero_le _⟩ dX9_cut_45 ?_
  refine fw_aload_n C 1 dX9_cut_48 rfl rfl ?_
  obtain ⟨g15, h⟩ := gd_some h
  refine fw_getR C 9 5 (Nat.le_of_ble_eq_true rfl) (Nat.le_of_ble_eq_true rfl) wf_X9_45 rfl (gO_of g2) (gN_of g15) dX9_cut_49 ?_
  obtain ⟨g17, h⟩ := gd_some h
  obtain ⟨M16, e16, h⟩ := b1_some h
  refine fw_callV (ci := 2) [] C (c_X2_refresh hl e16) cal_X2_refresh wm_X9_368 wi_yX2_refresh wsl_yX2_refresh (Nat.le_of_ble_eq_true rfl) rfl (gO_of g17) rfl (Nat.le_of_ble_eq_true rfl) ⟨Nat.le_of_ble_eq_true rfl, Nat.le_of_ble_eq_true rfl⟩ ⟨Nat.zero_le _, Nat.zero_le _⟩ dX9_cut_52 ?_
  refine fw_aload_n C 1 dX9_cut_55 rfl rfl ?_
  obtain ⟨g18, h⟩ := gd_some h
  refine fw_getR C 9 1 (Nat.le_of_ble_eq_true rfl) (Nat.le_of_ble_eq_true rfl) wf_X9_21 rfl (gO_of g2) (gN_of g18) dX9_cut_56 ?_
  obtain ⟨g19, h⟩ := gd_some h
  refine fw_getI C 4 5 (Nat.le_of_ble_eq_true rfl) (Nat.le_of_ble_eq_true rfl) wf_X9_117 rfl (gO_of g19) dX9_cut_59 ?_
  obtain rfl := Option.some.inj h
  exact fw_iret C hr hlk dX9_cut_62
set_option maxRecDepth 100000 in
def f_X9_rule (S : List fw_Sh) (M : fw_Mem) (a0 : Nat) (x1 : Int32) (x2 : Int32) : Option ((Int32 ⊕ String) × fw_Mem) := if x1 < 0 then (some (.inr exN, M)) else (if x1 ≤ 2 then (b1 (f_X4_leastOfRule S M x1) (fun v3 => if x2 < v3 then (some (.inr exI, M)) else (b1 (f_X4_mostOfRule S M x1) (fun v5 => if x2 ≤ v5 then (gd (gO S 9 a0) (gd (gN (M a0 1)) (gd (gO S 4 ((M a0 1).toNatClampNeg)) (gd (gN (M ((M a0 1).toNatClampNeg) 3)) (gd (gA S 0 ((M ((M a0 1).toNatClampNeg) 3).toNatClampNeg) x1) (bm (M ((M ((M a0 1).toNatClampNeg) 3).toNatClampNeg) x1.toNatClampNeg) (fun y12 => gd (gN (M a0 7)) (gd (gO S 0 ((M a0 7).toNatClampNeg)) (b1 (f_X0_note S M ((M a0 7).toNatClampNeg) 5 x1 y12 0 0 0) (fun M14 => gd (gN (M14 a0 1)) (gd (gO S 4 ((M14 a0 1).toNatClampNeg)) (gd (gN (M14 ((M14 a0 1).toNatClampNeg) 3)) (gd (gA S 0 ((M14 ((M14 a0 1).toNatClampNeg) 3).toNatClampNeg) x1) (bm (fw_set M14 ((M14 ((M14 a0 1).toNatClampNeg) 3).toNatClampNeg) x1.toNatClampNeg x2) (fun M20 => gd (gN (M20 a0 5)) (gd (gO S 2 ((M20 a0 5).toNatClampNeg)) (b1 (f_X2_refresh S M20 ((M20 a0 5).toNatClampNeg)) (fun M22 => some (.inl y12, M22))))))))))))))))))) else (some (.inr exI, M)))))) else (some (.inr exN, M)))
set_option maxHeartbeats 4000000 in
set_option maxRecDepth 100000 in
theorem c_X9_rule {l : Launch} {G : fw_G} {S : List fw_Sh} {M : fw_Mem} {a0 : Nat} {x1 : Int32} {x2 : Int32} {r : ((Int32 ⊕ String) × fw_Mem)} (hl : l.stackTraces = false) (h : f_X9_rule S M a0 x1 x2 = some r) : fw_M l G yX9_rule (.code yX9_rule cX9_rule 4 (some .int)) 6 (fw_mcO (fw_oI r.1, S, r.2)) (fw_msO (fw_oI r.1, S, r.2)) S M [.ref a0, .int x1, .int x2] (fw_oI r.1, S, r.2) := by
  refine fw_of [(0, .ref a0), (1, .int x1), (2, .int x2)] (by decide) (Nat.le_of_ble_eq_true rfl) rfl ?_
  intro p e s m args below meth c C hr hlk hnm ht _
  unfold f_X9_rule at h
  refine fw_iload_n C 1 dX9_rule_0 rfl rfl ?_
  refine fw_if_lt C 9 dX9_rule_1 (by decide) (fun c1 => ?_) (fun c1 => ?_)
  · replace h := (if_pos c1).symm.trans h
    obtain rfl := Option.some.inj h
    exact fw_throwW C hl fw_exN (i := 44) (List.mem_of_getElem? (i := 40) rfl) dX9_rule_9 dX9_rule_12 dX9_rule_13 dX9_rule_16 dX9_rule_19 ht hlk (Nat.le_of_ble_eq_true rfl) (Nat.le_of_ble_eq_true rfl) (Nat.le_refl _) (Nat.le_refl _)
  · replace h := (if_neg c1).symm.trans h
    refine fw_iload_n C 1 dX9_rule_4 rfl rfl ?_
    refine fw_iconst C 2 dX9_rule_5 rfl ?_
    refine fw_icmp_le C 20 dX9_rule_6 (by decide) (fun c2 => ?_) (fun c2 => ?_)
    · replace h := (if_pos c2).symm.trans h
      refine fw_iload_n C 2 dX9_rule_20 rfl rfl ?_
      refine fw_iload_n C 1 dX9_rule_21 rfl rfl ?_
      obtain ⟨v3, e3, h⟩ := b1_some h
      refine fw_callS [_] C (c_X4_leastOfRule hl e3) cal_X4_leastOfRule wm_X9_391 wt_yX4_leastOfRule rfl (Nat.le_of_ble_eq_true rfl) ⟨Nat.le_of_ble_eq_true rfl, Nat.le_of_ble_eq_true rfl⟩ ⟨Nat.zero_le _, Nat.zero_le _⟩ dX9_rule_22 ?_
      refine fw_icmp_lt C 36 dX9_rule_25 (by decide) (fun c4 => ?_) (fun c4 => ?_)
      · replace h := (if_pos c4).symm.trans h
        obtain rfl := Option.some.inj h
        exact fw_throwW C hl fw_exI (i := 53) (List.mem_of_getElem? (i := 41) rfl) dX9_rule_36 dX9_rule_39 dX9_rule_40 dX9_rule_43 dX9_rule_46 ht hlk (Nat.le_of_ble_eq_true rfl) (Nat.le_of_ble_eq_true rfl) (Nat.le_refl _) (Nat.le_refl _)
      · replace h := (if_neg c4).symm.trans h
        refine fw_iload_n C 2 dX9_rule_28 rfl rfl ?_
        refine fw_iload_n C 1 dX9_rule_29 rfl rfl ?_
        obtain ⟨v5, e5, h⟩ := b1_some h
        refine fw_callS [_] C (c_X4_mostOfRule hl e5) cal_X4_mostOfRule wm_X9_394 wt_yX4_mostOfRule rfl (Nat.le_of_ble_eq_true rfl) ⟨Nat.le_of_ble_eq_true rfl, Nat.le_of_ble_eq_true rfl⟩ ⟨Nat.zero_le _, Nat.zero_le _⟩ dX9_rule_30 ?_
        refine fw_icmp_le C 47 dX9_rule_33 (by decide) (fun c6 => ?_) (fun c6 => ?_)
        · replace h := (if_pos c6).symm.trans h
          refine fw_aload_n C 0 dX9_rule_47 rfl rfl ?_
          obtain ⟨g7, h⟩ := gd_some h
          obtain ⟨g8, h⟩ := gd_some h
          refine fw_getR C 9 1 (Nat.le_of_ble_eq_true rfl) (Nat.le_of_ble_eq_true rfl) wf_X9_21 rfl (gO_of g7) (gN_of g8) dX9_rule_48 ?_
          obtain ⟨g9, h⟩ := gd_some h
          obtain ⟨g10, h⟩ := gd_some h
          refine fw_getR C 4 3 (Nat.le_of_ble_eq_true rfl) (Nat.le_of_ble_eq_true rfl) wf_X9_127 rfl (gO_of g9) (gN_of g10) dX9_rule_51 ?_
          refine fw_iload_n C 1 dX9_rule_54 rfl rfl ?_
          obtain ⟨g11, h⟩ := gd_some h
          refine fw_iald C (gA_of g11) dX9_rule_55 ?_
          refine fw_bi h (fun y12 h => ?_)
          refine fw_istore_n C [(3, _), (0, _), (1, _), (2, _)] dX9_rule_56 rfl (Nat.le_of_ble_eq_true rfl) rfl ?_
          refine fw_aload_n C 1 dX9_rule_57 rfl rfl ?_
          obtain ⟨g13, h⟩ := gd_some h
          refine fw_getR C 9 7 (Nat.le_of_ble_eq_true rfl) (Nat.le_of_ble_eq_true rfl) wf_X9_61 rfl (gO_of g7) (gN_of g13) dX9_rule_58 ?_
          refine fw_iconst C 5 dX9_rule_61 rfl ?_
          refine fw_iload_n C 2 dX9_rule_62 rfl rfl ?_
          refine fw_iload_n C 0 dX9_rule_63 rfl rfl ?_
          refine fw_iconst C 0 dX9_rule_64 rfl ?_
          refine fw_iconst C 0 dX9_rule_65 rfl ?_
          refine fw_iconst C 0 dX9_rule_66 rfl ?_
          obtain ⟨g15, h⟩ := gd_some h
          obtain ⟨M14, e14, h⟩ := b1_some h
          refine fw_callV (ci := 0) [_, _, _, _, _, _] C (c_X0_note hl e14) cal_X0_note wm_X9_360 wi_yX0_note wsl_yX0_note (Nat.le_of_ble_eq_true rfl) rfl (gO_of g15) rfl (Nat.le_of_ble_eq_true rfl) ⟨Nat.le_of_ble_eq_true rfl, Nat.le_of_ble_eq_true rfl⟩ ⟨Nat.zero_le _, Nat.zero_le _⟩ dX9_rule_67 ?_
          refine fw_aload_n C 1 dX9_rule_70 rfl rfl ?_
          obtain ⟨g16, h⟩ := gd_some h
          refine fw_getR C 9 1 (Nat.le_of_ble_eq_true rfl) (Nat.le_of_ble_eq_true rfl) wf_X9_21 rfl (gO_of g7) (gN_of g16) dX9_rule_71 ?_
          obtain ⟨g17, h⟩ := gd_some h
          obtain ⟨g18, h⟩ := gd_some h
          refine fw_getR C 4 3 (Nat.le_of_ble_eq_true rfl) (Nat.le_of_ble_eq_true rfl) wf_X9_127 rfl (gO_of g17) (gN_of g18) dX9_rule_74 ?_
          refine fw_iload_n C 2 dX9_rule_77 rfl rfl ?_
          refine fw_iload_n C 3 dX9_rule_78 rfl rfl ?_
          obtain ⟨g19, h⟩ := gd_some h
          refine fw_iast C (gA_of g19) dX9_rule_79 ?_
          refine fw_bm h (fun M20 h => ?_)
          refine fw_aload_n C 1 dX9_rule_80 rfl rfl ?_
          obtain ⟨g21, h⟩ := gd_some h
          refine fw_getR C 9 5 (Nat.le_of_ble_eq_true rfl) (Nat.le_of_ble_eq_true rfl) wf_X9_45 rfl (gO_of g7) (gN_of g21) dX9_rule_81 ?_
          obtain ⟨g23, h⟩ := gd_some h
          obtain ⟨M22, e22, h⟩ := b1_some h
          refine fw_callV (ci := 2) [] C (c_X2_refresh hl e22) cal_X2_refresh wm_X9_368 wi_yX2_refresh wsl_yX2_refresh (Nat.le_of_ble_eq_true rfl) rfl (gO_of g23) rfl (Nat.le_of_ble_eq_true rfl) ⟨Nat.le_of_ble_eq_true rfl, Nat.le_of_ble_eq_true rfl⟩ ⟨Nat.zero_le _, Nat.zero_le _⟩ dX9_rule_84 ?_
          refine fw_iload_n C 0 dX9_rule_87 rfl rfl ?_
          obtain rfl := Option.some.inj h
          exact fw_iret C hr hlk dX9_rule_88
        · replace h := (if_neg c6).symm.trans h
          obtain rfl := Option.some.inj h
          exact fw_throwW C hl fw_exI (i := 53) (List.mem_of_getElem? (i := 41) rfl) dX9_rule_36 dX9_rule_39 dX9_rule_40 dX9_rule_43 dX9_rule_46 ht hlk (Nat.le_of_ble_eq_true rfl) (Nat.le_of_ble_eq_true rfl) (Nat.le_refl _) (Nat.le_refl _)
    · replace h := (if_neg c2).symm.trans h
      obtain rfl := Option.some.inj h
      exact fw_throwW C hl fw_exN (i := 44) (List.mem_of_getElem? (i := 40) rfl) dX9_rule_9 dX9_rule_12 dX9_rule_13 dX9_rule_16 dX9_rule_19 ht hlk (Nat.le_of_ble_eq_true rfl) (Nat.le_of_ble_eq_true rfl) (Nat.le_refl _) (Nat.le_refl _)
set_option maxRecDepth 100000 in
def f_X0_takeBackOf (S : List fw_Sh) (M : fw_Mem) (a0 : Nat) (a1 : Nat) (x2 : Int32) : Option fw_Mem := gd (gO S 0 a0) (gd (gN (M a0 0)) (gd (gA S 0 ((M a0 0).toNatClampNeg) x2) (if (M ((M a0 0).toNatClampNeg) x2.toNatClampNeg) = 0 then (gd (gO S 6 a1) (b1 (f_X6_decide S M a1 (-1) 0) (fun M19 => some M19))) else (if (M ((M a0 0).toNatClampNeg) x2.toNatClampNeg) = 2 then (gd (gO S 6 a1) (if (M a1 9) = 0 then (bm (fw_set M a1 9 1) (fun M18 => some M18)) else (bm (fw_set M a1 9 0) (fun M17 => some M17)))) else (gd (gA S 0 ((M a0 0).toNatClampNeg) (x2 + 2)) (gd (gO S 6 a1) (bm (fw_set M a1 10 (M ((M a0 0).toNatClampNeg) (x2 + 2).toNatClampNeg)) (fun M8 => gd (gN (M8 a0 0)) (gd (gA S 0 ((M8 a0 0).toNatClampNeg) (x2 + 3)) (bm (fw_set M8 a1 11 (M8 ((M8 a0 0).toNatClampNeg) (x2 + 3).toNatClampNeg)) (fun M11 => gd (gN (M11 a0 0)) (gd (gA S 0 ((M11 a0 0).toNatClampNeg) (x2 + 4)) (bm (fw_set M11 a1 12 (M11 ((M11 a0 0).toNatClampNeg) (x2 + 4).toNatClampNeg)) (fun M14 => some M14))))))))))))))
set_option maxHeartbeats 4000000 in
set_option maxRecDepth 100000 in
theorem c_X0_takeBackOf {l : Launch} {G : fw_G} {S : List fw_Sh} {M : fw_Mem} {a0 : Nat} {a1 : Nat} {x2 : Int32} {r : fw_Mem} (hl : l.stackTraces = false) (h : f_X0_takeBackOf S M a0 a1 x2 = some r) : fw_M l G yX0_takeBackOf (.code yX0_takeBackOf cX0_takeBackOf 3 none) 2 (fw_mcO (.inl none, S, r)) (fw_msO (.inl none, S, r)) S M [.ref a0, .ref a1, .int x2] (.inl none, S, r) := by
  refine fw_of [(0, .ref a0), (1, .ref a1), (2, .int x2)] (by decide) (Nat.le_of_ble_eq_true rfl) rfl ?_
  intro p e s m args below meth c C hr hlk hnm ht _
  unfold f_X0_takeBackOf at h
  refine fw_aload_n C 0 dX0_takeBackOf_0 rfl rfl ?_
  obtain ⟨g1, h⟩ := gd_some h
  obtain ⟨g2, h⟩ := gd_some h
  refine fw_getR C 0 0 (Nat.le_of_ble_eq_true rfl) (Nat.le_of_ble_eq_true rfl) wf_X0_11 rfl (gO_of g1) (gN_of g2) dX0_takeBackOf_1 ?_
  refine fw_iload_n C 2 dX0_takeBackOf_4 rfl rfl ?_
  obtain ⟨g3, h⟩ := gd_some h
  refine fw_iald C (gA_of g3) dX0_takeBackOf_5 ?_
  refine fw_if_ne C 18 dX0_takeBackOf_6 (by decide) (fun c4 => ?_) (fun c4 => ?_)
  · replace h := (if_neg c4).symm.trans h
    refine fw_aload_n C 0 dX0_takeBackOf_18 rfl rfl ?_
    refine fw_getR C 0 0 (Nat.le_of_ble_eq_true rfl) (Nat.le_of_ble_eq_true rfl) wf_X0_11 rfl (gO_of g1) (gN_of g2) dX0_takeBackOf_19 ?_
    refine fw_iload_n C 2 dX0_takeBackOf_22 rfl rfl ?_
    refine fw_iald C (gA_of g3) dX0_takeBackOf_23 ?_
    refine fw_iconst C 2 dX0_takeBackOf_24 rfl ?_
    refine fw_icmp_ne C 47 dX0_takeBackOf_25 (by decide) (fun c5 => ?_) (fun c5 => ?_)
    · replace h := (if_neg c5).symm.trans h
      refine fw_aload_n C 1 dX0_takeBackOf_47 rfl rfl ?_
      refine fw_aload_n C 0 dX0_takeBackOf_48 rfl rfl ?_
      refine fw_getR C 0 0 (Nat.le_of_ble_eq_true rfl) (Nat.le_of_ble_eq_true rfl) wf_X0_11 rfl (gO_of g1) (gN_of g2) dX0_takeBackOf_49 ?_
      refine fw_iload_n C 2 dX0_takeBackOf_52 rfl rfl ?_
      refine fw_iconst C 2 dX0_takeBackOf_53 rfl ?_
      refine fw_iadd C dX0_takeBackOf_54 ?_
      obtain ⟨g6, h⟩ := gd_some h
      refine fw_iald C (gA_of g6) dX0_takeBackOf_55 ?_
      obtain ⟨g7, h⟩ := gd_some h
      refine fw_putI C 6 10 (Nat.le_of_ble_eq_true rfl) (Nat.le_of_ble_eq_true rfl) wf_X0_59 rfl rfl rfl rfl (gO_of g7) dX0_takeBackOf_56 ?_
      refine fw_bm h (fun M8 h => ?_)
      refine fw_aload_n C 1 dX0_takeBackOf_59 rfl rfl ?_
      refine fw_aload_n C 0 dX0_takeBackOf_60 rfl rfl ?_
      obtain ⟨g9, h⟩ := gd_some h
      refine fw_getR C 0 0 (Nat.le_of_ble_eq_true rfl) (Nat.le_of_ble_eq_true rfl) wf_X0_11 rfl (gO_of g1) (gN_of g9) dX0_takeBackOf_61 ?_
      refine fw_iload_n C 2 dX0_takeBackOf_64 rfl rfl ?_
      refine fw_iconst C 3 dX0_takeBackOf_65 rfl ?_
      refine fw_iadd C dX0_takeBackOf_66 ?_
      obtain ⟨g10, h⟩ := gd_some h
      refine fw_iald C (gA_of g10) dX0_takeBackOf_67 ?_
      refine fw_putI C 6 11 (Nat.le_of_ble_eq_true rfl) (Nat.le_of_ble_eq_true rfl) wf_X0_62 rfl rfl rfl rfl (gO_of g7) dX0_takeBackOf_68 ?_
      refine fw_bm h (fun M11 h => ?_)
      refine fw_aload_n C 1 dX0_takeBackOf_71 rfl rfl ?_
      refine fw_aload_n C 0 dX0_takeBackOf_72 rfl rfl ?_
      obtain ⟨g12, h⟩ := gd_some h
      refine fw_getR C 0 0 (Nat.le_of_ble_eq_true rfl) (Nat.le_of_ble_eq_true rfl) wf_X0_11 rfl (gO_of g1) (gN_of g12) dX0_takeBackOf_73 ?_
      refine fw_iload_n C 2 dX0_takeBackOf_76 rfl rfl ?_
      refine fw_iconst C 4 dX0_takeBackOf_77 rfl ?_
      refine fw_iadd C dX0_takeBackOf_78 ?_
      obtain ⟨g13, h⟩ := gd_some h
      refine fw_iald C (gA_of g13) dX0_takeBackOf_79 ?_
      refine fw_putI C 6 12 (Nat.le_of_ble_eq_true rfl) (Nat.le_of_ble_eq_true rfl) wf_X0_65 rfl rfl rfl rfl (gO_of g7) dX0_takeBackOf_80 ?_
      refine fw_bm h (fun M14 h => ?_)
      obtain rfl := Option.some.inj h
      exact fw_vret C hr hlk dX0_takeBackOf_83
    · replace h := (if_pos c5).symm.trans h
      refine fw_aload_n C 1 dX0_takeBackOf_28 rfl rfl ?_
      refine fw_aload_n C 1 dX0_takeBackOf_29 rfl rfl ?_
      obtain ⟨g15, h⟩ := gd_some h
      refine fw_getI C 6 9 (Nat.le_of_ble_eq_true rfl) (Nat.le_of_ble_eq_true rfl) wf_X0_55 rfl (gO_of g15) dX0_takeBackOf_30 ?_
      refine fw_if_ne C 40 dX0_takeBackOf_33 (by decide) (fun c16 => ?_) (fun c16 => ?_)
      · replace h := (if_neg c16).symm.trans h
        refine fw_iconst C 0 dX0_takeBackOf_40 rfl ?_
        refine fw_putI C 6 9 (Nat.le_of_ble_eq_true rfl) (Nat.le_of_ble_eq_true rfl) wf_X0_55 rfl rfl rfl rfl (gO_of g15) dX0_takeBackOf_41 ?_
        refine fw_bm h (fun M17 h => ?_)
        refine fw_goto C 83 dX0_takeBackOf_44 (by decide) ?_
        obtain rfl := Option.some.inj h
        exact fw_vret C hr hlk dX0_takeBackOf_83
      · replace h := (if_pos c16).symm.trans h
        refine fw_iconst C 1 dX0_takeBackOf_36 rfl ?_
        refine fw_goto C 41 dX0_takeBackOf_37 (by decide) ?_
        refine fw_putI C 6 9 (Nat.le_of_ble_eq_true rfl) (Nat.le_of_ble_eq_true rfl) wf_X0_55 rfl rfl rfl rfl (gO_of g15) dX0_takeBackOf_41 ?_
        refine fw_bm h (fun M18 h => ?_)
        refine fw_goto C 83 dX0_takeBackOf_44 (by decide) ?_
        obtain rfl := Option.some.inj h
        exact fw_vret C hr hlk dX0_takeBackOf_83
  · replace h := (if_pos c4).symm.trans h
    refine fw_aload_n C 1 dX0_takeBackOf_9 rfl rfl ?_
    refine fw_iconst C (-1) dX0_takeBackOf_10 rfl ?_
    refine fw_iconst C 0 dX0_takeBackOf_11 rfl ?_
    obtain ⟨g20, h⟩ := gd_some h
    obtain ⟨M19, e19, h⟩ := b1_some h
    refine fw_callV (ci := 6) [_, _] C (c_X6_decide hl e19) cal_X6_decide wm_X0_49 wi_yX6_decide wsl_yX6_decide (Nat.le_of_ble_eq_true rfl) rfl (gO_of g20) rfl (Nat.le_of_ble_eq_true rfl) ⟨Nat.le_of_ble_eq_true rfl, Nat.le_of_ble_eq_true rfl⟩ ⟨Nat.zero_le _, Nat.zero_le _⟩ dX0_takeBackOf_12 ?_
    refine fw_goto C 83 dX0_takeBackOf_15 (by decide) ?_
    obtain rfl := Option.some.inj h
    exact fw_vret C hr hlk dX0_takeBackOf_83
set_option maxRecDepth 100000 in
def f_X0_takeBack (S : List fw_Sh) (M : fw_Mem) (a0 : Nat) (a1 : Nat) : Option fw_Mem := gd (gO S 0 a0) (if (0 : Int32) < (M a0 1) then (bm (fw_set M a0 1 ((M a0 1) - 1)) (fun M3 => gd (gN (M3 a0 0)) (gd (gA S 0 ((M3 a0 0).toNatClampNeg) ((M3 a0 1) * 6)) (bm (M3 ((M3 a0 0).toNatClampNeg) ((M3 a0 1) * 6).toNatClampNeg) (fun y6 => gd (gA S 0 ((M3 a0 0).toNatClampNeg) (((M3 a0 1) * 6) + 1)) (bm (M3 ((M3 a0 0).toNatClampNeg) (((M3 a0 1) * 6) + 1).toNatClampNeg) (fun y8 => if y6 = 3 then (gd (gO S 4 a1) (b1 (f_X4_removeLink S M3 a1 y8) (fun M46 => some M46))) else (if y6 = 4 then (gd (gA S 0 ((M3 a0 0).toNatClampNeg) (((M3 a0 1) * 6) + 2)) (gd (gA S 0 ((M3 a0 0).toNatClampNeg) (((M3 a0 1) * 6) + 3)) (gd (gA S 0 ((M3 a0 0).toNatClampNeg) (((M3 a0 1) * 6) + 4)) (gd (gA S 0 ((M3 a0 0).toNatClampNeg) (((M3 a0 1) * 6) + 5)) (gd (gO S 4 a1) (b1 (f_X4_insertLink S M3 a1 y8 (M3 ((M3 a0 0).toNatClampNeg) (((M3 a0 1) * 6) + 2).toNatClampNeg) (M3 ((M3 a0 0).toNatClampNeg) (((M3 a0 1) * 6) + 3).toNatClampNeg) (M3 ((M3 a0 0).toNatClampNeg) (((M3 a0 1) * 6) + 4).toNatClampNeg) (M3 ((M3 a0 0).toNatClampNeg) (((M3 a0 1) * 6) + 5).toNatClampNeg)) (fun M44 => some M44))))))) else (if y6 = 5 then (if y8 < 0 then (if y8 < 0 then (some M3) else (gd (gO S 4 a1) (if (M3 a1 6) ≤ y8 then (some M3) else (gd (gN (M3 a1 2)) (gd (gA S 4 ((M3 a1 2).toNatClampNeg) y8) (gd (gN (M3 ((M3 a1 2).toNatClampNeg) y8.toNatClampNeg)) (b1 (f_X0_takeBackOf S M3 a0 ((M3 ((M3 a1 2).toNatClampNeg) y8.toNatClampNeg).toNatClampNeg) ((M3 a0 1) * 6)) (fun M26 => some M26)))))))) else (if (2 : Int32) < y8 then (if y8 < 0 then (some M3) else (gd (gO S 4 a1) (if (M3 a1 6) ≤ y8 then (some M3) else (gd (gN (M3 a1 2)) (gd (gA S 4 ((M3 a1 2).toNatClampNeg) y8) (gd (gN (M3 ((M3 a1 2).toNatClampNeg) y8.toNatClampNeg)) (b1 (f_X0_takeBackOf S M3 a0 ((M3 ((M3 a1 2).toNatClampNeg) y8.toNatClampNeg).toNatClampNeg) ((M3 a0 1) * 6)) (fun M34 => some M34)))))))) else (gd (gO S 4 a1) (gd (gN (M3 a1 3)) (gd (gA S 0 ((M3 a0 0).toNatClampNeg) (((M3 a0 1) * 6) + 2)) (gd (gA S 0 ((M3 a1 3).toNatClampNeg) y8) (bm (fw_set M3 ((M3 a1 3).toNatClampNeg) y8.toNatClampNeg (M3 ((M3 a0 0).toNatClampNeg) (((M3 a0 1) * 6) + 2).toNatClampNeg)) (fun M39 => some M39)))))))) else (if y8 < 0 then (some M3) else (gd (gO S 4 a1) (if (M3 a1 6) ≤ y8 then (some M3) else (gd (gN (M3 a1 2)) (gd (gA S 4 ((M3 a1 2).toNatClampNeg) y8) (gd (gN (M3 ((M3 a1 2).toNatClampNeg) y8.toNatClampNeg)) (b1 (f_X0_takeBackOf S M3 a0 ((M3 ((M3 a1 2).toNatClampNeg) y8.toNatClampNeg).toNatClampNeg) ((M3 a0 1) * 6)) (fun M18 => some M18))))))))))))))))) else (some M))
set_option maxHeartbeats 4000000 in
set_option maxRecDepth 100000 in
theorem c_X0_takeBack {l : Launch} {G : fw_G} {S : List fw_Sh} {M : fw_Mem} {a0 : Nat} {a1 : Nat} {r : fw_Mem} (hl : l.stackTraces = false) (h : f_X0_takeBack S M a0 a1 = some r) : fw_M l G yX0_takeBack (.code yX0_takeBack cX0_takeBack 5 none) 3 (fw_mcO (.inl none, S, r)) (fw_msO (.inl none, S, r)) S M [.ref a0, .ref a1] (.inl none, S, r) := by
  refine fw_of [(0, .ref a0), (1, .ref a1)] (by decide) (Nat.le_of_ble_eq_true rfl) rfl ?_
  intro p e s m args below meth c C hr hlk hnm ht _
  unfold f_X0_takeBack at h
  refine fw_aload_n C 0 dX0_takeBack_0 rfl rfl ?_
  obtain ⟨g1, h⟩ := gd_some h
  refine fw_getI C 0 1 (Nat.le_of_ble_eq_true rfl) (Nat.le_of_ble_eq_true rfl) wf_X0_15 rfl (gO_of g1) dX0_takeBack_1 ?_
  refine fw_if_gt C 8 dX0_takeBack_4 (by decide) (fun c2 => ?_) (fun c2 => ?_)
  · replace h := (if_pos c2).symm.trans h
    refine fw_aload_n C 0 dX0_takeBack_8 rfl rfl ?_
    refine fw_dup C dX0_takeBack_9 rfl ?_
    refine fw_getI C 0 1 (Nat.le_of_ble_eq_true rfl) (Nat.le_of_ble_eq_true rfl) wf_X0_15 rfl (gO_of g1) dX0_takeBack_10 ?_
    refine fw_iconst C 1 dX0_takeBack_13 rfl ?_
    refine fw_isub C dX0_takeBack_14 ?_
    refine fw_putI C 0 1 (Nat.le_of_ble_eq_true rfl) (Nat.le_of_ble_eq_true rfl) wf_X0_15 rfl rfl rfl rfl (gO_of g1) dX0_takeBack_15 ?_
    refine fw_bm h (fun M3 h => ?_)
    refine fw_aload_n C 0 dX0_takeBack_18 rfl rfl ?_
    refine fw_getI C 0 1 (Nat.le_of_ble_eq_true rfl) (Nat.le_of_ble_eq_true rfl) wf_X0_15 rfl (gO_of g1) dX0_takeBack_19 ?_
    refine fw_bipush C 6 dX0_takeBack_22 rfl ?_
    refine fw_imul C dX0_takeBack_24 ?_
    refine fw_istore_n C [(2, _), (0, _), (1, _)] dX0_takeBack_25 rfl (Nat.le_of_ble_eq_true rfl) rfl ?_
    refine fw_aload_n C 1 dX0_takeBack_26 rfl rfl ?_
    obtain ⟨g4, h⟩ := gd_some h
    refine fw_getR C 0 0 (Nat.le_of_ble_eq_true rfl) (Nat.le_of_ble_eq_true rfl) wf_X0_11 rfl (gO_of g1) (gN_of g4) dX0_takeBack_27 ?_
    refine fw_iload_n C 0 dX0_takeBack_30 rfl rfl ?_
    obtain ⟨g5, h⟩ := gd_some h
    refine fw_iald C (gA_of g5) dX0_takeBack_31 ?_
    refine fw_bi h (fun y6 h => ?_)
    refine fw_istore_n C [(3, _), (2, _), (0, _), (1, _)] dX0_takeBack_32 rfl (Nat.le_of_ble_eq_true rfl) rfl ?_
    refine fw_aload_n C 2 dX0_takeBack_33 rfl rfl ?_
    refine fw_getR C 0 0 (Nat.le_of_ble_eq_true rfl) (Nat.le_of_ble_eq_true rfl) wf_X0_11 rfl (gO_of g1) (gN_of g4) dX0_takeBack_34 ?_
    refine fw_iload_n C 1 dX0_takeBack_37 rfl rfl ?_
    refine fw_iconst C 1 dX0_takeBack_38 rfl ?_
    refine fw_iadd C dX0_takeBack_39 ?_
    obtain ⟨g7, h⟩ := gd_some h
    refine fw_iald C (gA_of g7) dX0_takeBack_40 ?_
    refine fw_bi h (fun y8 h => ?_)
    refine fw_istore C [(4, _), (3, _), (2, _), (0, _), (1, _)] dX0_takeBack_41 (Nat.le_of_ble_eq_true rfl) rfl ?_
    refine fw_iload_n C 1 dX0_takeBack_43 rfl rfl ?_
    refine fw_iconst C 3 dX0_takeBack_44 rfl ?_
    refine fw_icmp_ne C 57 dX0_takeBack_45 (by decide) (fun c9 => ?_) (fun c9 => ?_)
    · replace h := (if_neg c9).symm.trans h
      refine fw_iload_n C 1 dX0_takeBack_57 rfl rfl ?_
      refine fw_iconst C 4 dX0_takeBack_58 rfl ?_
      refine fw_icmp_ne C 103 dX0_takeBack_59 (by decide) (fun c10 => ?_) (fun c10 => ?_)
      · replace h := (if_neg c10).symm.trans h
        refine fw_iload_n C 1 dX0_takeBack_103 rfl rfl ?_
        refine fw_iconst C 5 dX0_takeBack_104 rfl ?_
        refine fw_icmp_ne C 137 dX0_takeBack_105 (by decide) (fun c11 => ?_) (fun c11 => ?_)
        · replace h := (if_neg c11).symm.trans h
          refine fw_iload C 0 dX0_takeBack_137 rfl ?_
          refine fw_if_lt C 163 dX0_takeBack_139 (by decide) (fun c12 => ?_) (fun c12 => ?_)
          · replace h := (if_pos c12).symm.trans h
            obtain rfl := Option.some.inj h
            exact fw_vret C hr hlk dX0_takeBack_163
          · replace h := (if_neg c12).symm.trans h
            refine fw_iload C 0 dX0_takeBack_142 rfl ?_
            refine fw_aload_n C 4 dX0_takeBack_144 rfl rfl ?_
            obtain ⟨g13, h⟩ := gd_some h
            refine fw_getI C 4 6 (Nat.le_of_ble_eq_true rfl) (Nat.le_of_ble_eq_true rfl) wf_X0_38 rfl (gO_of g13) dX0_takeBack_145 ?_
            refine fw_icmp_ge C 163 dX0_takeBack_148 (by decide) (fun c14 => ?_) (fun c14 => ?_)
            · replace h := (if_pos c14).symm.trans h
              obtain rfl := Option.some.inj h
              exact fw_vret C hr hlk dX0_takeBack_163
            · replace h := (if_neg c14).symm.trans h
              refine fw_aload_n C 3 dX0_takeBack_151 rfl rfl ?_
              refine fw_aload_n C 4 dX0_takeBack_152 rfl rfl ?_
              obtain ⟨g15, h⟩ := gd_some h
              refine fw_getR C 4 2 (Nat.le_of_ble_eq_true rfl) (Nat.le_of_ble_eq_true rfl) wf_X0_41 rfl (gO_of g13) (gN_of g15) dX0_takeBack_153 ?_
              refine fw_iload C 0 dX0_takeBack_156 rfl ?_
              obtain ⟨g16, h⟩ := gd_some h
              obtain ⟨g17, h⟩ := gd_some h
              refine fw_aald C 4 (by decide) (gA_of g16) (gN_of g17) dX0_takeBack_158 ?_
              refine fw_iload_n C 2 dX0_takeBack_159 rfl rfl ?_
              obtain ⟨M18, e18, h⟩ := b1_some h
              refine fw_callV (ci := 0) [_, _] C (c_X0_takeBackOf hl e18) cal_X0_takeBackOf wm_X0_45 wi_yX0_takeBackOf wsl_yX0_takeBackOf (Nat.le_of_ble_eq_true rfl) rfl (gO_of g1) rfl (Nat.le_of_ble_eq_true rfl) ⟨Nat.le_of_ble_eq_true rfl, Nat.le_of_ble_eq_true rfl⟩ ⟨Nat.zero_le _, Nat.zero_le _⟩ dX0_takeBack_160 ?_
              obtain rfl := Option.some.inj h
              exact fw_vret C hr hlk dX0_takeBack_163
        · replace h := (if_pos c11).symm.trans h
          refine fw_iload C 0 dX0_takeBack_108 rfl ?_
          refine fw_if_lt C 137 dX0_takeBack_110 (by decide) (fun c19 => ?_) (fun c19 => ?_)
          · replace h := (if_pos c19).symm.trans h
            refine fw_iload C 0 dX0_takeBack_137 rfl ?_
            refine fw_if_lt C 163 dX0_takeBack_139 (by decide) (fun c20 => ?_) (fun c20 => ?_)
            · replace h := (if_pos c20).symm.trans h
              obtain rfl := Option.some.inj h
              exact fw_vret C hr hlk dX0_takeBack_163
            · replace h := (if_neg c20).symm.trans h
              refine fw_iload C 0 dX0_takeBack_142 rfl ?_
              refine fw_aload_n C 4 dX0_takeBack_144 rfl rfl ?_
              obtain ⟨g21, h⟩ := gd_some h
              refine fw_getI C 4 6 (Nat.le_of_ble_eq_true rfl) (Nat.le_of_ble_eq_true rfl) wf_X0_38 rfl (gO_of g21) dX0_takeBack_145 ?_
              refine fw_icmp_ge C 163 dX0_takeBack_148 (by decide) (fun c22 => ?_) (fun c22 => ?_)
              · replace h := (if_pos c22).symm.trans h
                obtain rfl := Option.some.inj h
                exact fw_vret C hr hlk dX0_takeBack_163
              · replace h := (if_neg c22).symm.trans h
                refine fw_aload_n C 3 dX0_takeBack_151 rfl rfl ?_
                refine fw_aload_n C 4 dX0_takeBack_152 rfl rfl ?_
                obtain ⟨g23, h⟩ := gd_some h
                refine fw_getR C 4 2 (Nat.le_of_ble_eq_true rfl) (Nat.le_of_ble_eq_true rfl) wf_X0_41 rfl (gO_of g21) (gN_of g23) dX0_takeBack_153 ?_
                refine fw_iload C 0 dX0_takeBack_156 rfl ?_
                obtain ⟨g24, h⟩ := gd_some h
                obtain ⟨g25, h⟩ := gd_some h
                refine fw_aald C 4 (by decide) (gA_of g24) (gN_of g25) dX0_takeBack_158 ?_
                refine fw_iload_n C 2 dX0_takeBack_159 rfl rfl ?_
                obtain ⟨M26, e26, h⟩ := b1_some h
                refine fw_callV (ci := 0) [_, _] C (c_X0_takeBackOf hl e26) cal_X0_takeBackOf wm_X0_45 wi_yX0_takeBackOf wsl_yX0_takeBackOf (Nat.le_of_ble_eq_true rfl) rfl (gO_of g1) rfl (Nat.le_of_ble_eq_true rfl) ⟨Nat.le_of_ble_eq_true rfl, Nat.le_of_ble_eq_true rfl⟩ ⟨Nat.zero_le _, Nat.zero_le _⟩ dX0_takeBack_160 ?_
                obtain rfl := Option.some.inj h
                exact fw_vret C hr hlk dX0_takeBack_163
          · replace h := (if_neg c19).symm.trans h
            refine fw_iload C 0 dX0_takeBack_113 rfl ?_
            refine fw_iconst C 2 dX0_takeBack_115 rfl ?_
            refine fw_icmp_gt C 137 dX0_takeBack_116 (by decide) (fun c27 => ?_) (fun c27 => ?_)
            · replace h := (if_pos c27).symm.trans h
              refine fw_iload C 0 dX0_takeBack_137 rfl ?_
              refine fw_if_lt C 163 dX0_takeBack_139 (by decide) (fun c28 => ?_) (fun c28 => ?_)
              · replace h := (if_pos c28).symm.trans h
                obtain rfl := Option.some.inj h
                exact fw_vret C hr hlk dX0_takeBack_163
              · replace h := (if_neg c28).symm.trans h
                refine fw_iload C 0 dX0_takeBack_142 rfl ?_
                refine fw_aload_n C 4 dX0_takeBack_144 rfl rfl ?_
                obtain ⟨g29, h⟩ := gd_some h
                refine fw_getI C 4 6 (Nat.le_of_ble_eq_true rfl) (Nat.le_of_ble_eq_true rfl) wf_X0_38 rfl (gO_of g29) dX0_takeBack_145 ?_
                refine fw_icmp_ge C 163 dX0_takeBack_148 (by decide) (fun c30 => ?_) (fun c30 => ?_)
                · replace h := (if_pos c30).symm.trans h
                  obtain rfl := Option.some.inj h
                  exact fw_vret C hr hlk dX0_takeBack_163
                · replace h := (if_neg c30).symm.trans h
                  refine fw_aload_n C 3 dX0_takeBack_151 rfl rfl ?_
                  refine fw_aload_n C 4 dX0_takeBack_152 rfl rfl ?_
                  obtain ⟨g31, h⟩ := gd_some h
                  refine fw_getR C 4 2 (Nat.le_of_ble_eq_true rfl) (Nat.le_of_ble_eq_true rfl) wf_X0_41 rfl (gO_of g29) (gN_of g31) dX0_takeBack_153 ?_
                  refine fw_iload C 0 dX0_takeBack_156 rfl ?_
                  obtain ⟨g32, h⟩ := gd_some h
                  obtain ⟨g33, h⟩ := gd_some h
                  refine fw_aald C 4 (by decide) (gA_of g32) (gN_of g33) dX0_takeBack_158 ?_
                  refine fw_iload_n C 2 dX0_takeBack_159 rfl rfl ?_
                  obtain ⟨M34, e34, h⟩ := b1_some h
                  refine fw_callV (ci := 0) [_, _] C (c_X0_takeBackOf hl e34) cal_X0_takeBackOf wm_X0_45 wi_yX0_takeBackOf wsl_yX0_takeBackOf (Nat.le_of_ble_eq_true rfl) rfl (gO_of g1) rfl (Nat.le_of_ble_eq_true rfl) ⟨Nat.le_of_ble_eq_true rfl, Nat.le_of_ble_eq_true rfl⟩ ⟨Nat.zero_le _, Nat.zero_le _⟩ dX0_takeBack_160 ?_
                  obtain rfl := Option.some.inj h
                  exact fw_vret C hr hlk dX0_takeBack_163
            · replace h := (if_neg c27).symm.trans h
              refine fw_aload_n C 4 dX0_takeBack_119 rfl rfl ?_
              obtain ⟨g35, h⟩ := gd_some h
              obtain ⟨g36, h⟩ := gd_some h
              refine fw_getR C 4 3 (Nat.le_of_ble_eq_true rfl) (Nat.le_of_ble_eq_true rfl) wf_X0_35 rfl (gO_of g35) (gN_of g36) dX0_takeBack_120 ?_
              refine fw_iload C 0 dX0_takeBack_123 rfl ?_
              refine fw_aload_n C 3 dX0_takeBack_125 rfl rfl ?_
              refine fw_getR C 0 0 (Nat.le_of_ble_eq_true rfl) (Nat.le_of_ble_eq_true rfl) wf_X0_11 rfl (gO_of g1) (gN_of g4) dX0_takeBack_126 ?_
              refine fw_iload_n C 2 dX0_takeBack_129 rfl rfl ?_
              refine fw_iconst C 2 dX0_takeBack_130 rfl ?_
              refine fw_iadd C dX0_takeBack_131 ?_
              obtain ⟨g37, h⟩ := gd_some h
              refine fw_iald C (gA_of g37) dX0_takeBack_132 ?_
              obtain ⟨g38, h⟩ := gd_some h
              refine fw_iast C (gA_of g38) dX0_takeBack_133 ?_
              refine fw_bm h (fun M39 h => ?_)
              refine fw_goto C 163 dX0_takeBack_134 (by decide) ?_
              obtain rfl := Option.some.inj h
              exact fw_vret C hr hlk dX0_takeBack_163
      · replace h := (if_pos c10).symm.trans h
        refine fw_aload_n C 4 dX0_takeBack_62 rfl rfl ?_
        refine fw_iload C 0 dX0_takeBack_63 rfl ?_
        refine fw_aload_n C 3 dX0_takeBack_65 rfl rfl ?_
        refine fw_getR C 0 0 (Nat.le_of_ble_eq_true rfl) (Nat.le_of_ble_eq_true rfl) wf_X0_11 rfl (gO_of g1) (gN_of g4) dX0_takeBack_66 ?_
        refine fw_iload_n C 2 dX0_takeBack_69 rfl rfl ?_
        refine fw_iconst C 2 dX0_takeBack_70 rfl ?_
        refine fw_iadd C dX0_takeBack_71 ?_
        obtain ⟨g40, h⟩ := gd_some h
        refine fw_iald C (gA_of g40) dX0_takeBack_72 ?_
        refine fw_aload_n C 3 dX0_takeBack_73 rfl rfl ?_
        refine fw_getR C 0 0 (Nat.le_of_ble_eq_true rfl) (Nat.le_of_ble_eq_true rfl) wf_X0_11 rfl (gO_of g1) (gN_of g4) dX0_takeBack_74 ?_
        refine fw_iload_n C 2 dX0_takeBack_77 rfl rfl ?_
        refine fw_iconst C 3 dX0_takeBack_78 rfl ?_
        refine fw_iadd C dX0_takeBack_79 ?_
        obtain ⟨g41, h⟩ := gd_some h
        refine fw_iald C (gA_of g41) dX0_takeBack_80 ?_
        refine fw_aload_n C 3 dX0_takeBack_81 rfl rfl ?_
        refine fw_getR C 0 0 (Nat.le_of_ble_eq_true rfl) (Nat.le_of_ble_eq_true rfl) wf_X0_11 rfl (gO_of g1) (gN_of g4) dX0_takeBack_82 ?_
        refine fw_iload_n C 2 dX0_takeBack_85 rfl rfl ?_
        refine fw_iconst C 4 dX0_takeBack_86 rfl ?_
        refine fw_iadd C dX0_takeBack_87 ?_
        obtain ⟨g42, h⟩ := gd_some h
        refine fw_iald C (gA_of g42) dX0_takeBack_88 ?_
        refine fw_aload_n C 3 dX0_takeBack_89 rfl rfl ?_
        refine fw_getR C 0 0 (Nat.le_of_ble_eq_true rfl) (Nat.le_of_ble_eq_true rfl) wf_X0_11 rfl (gO_of g1) (gN_of g4) dX0_takeBack_90 ?_
        refine fw_iload_n C 2 dX0_takeBack_93 rfl rfl ?_
        refine fw_iconst C 5 dX0_takeBack_94 rfl ?_
        refine fw_iadd C dX0_takeBack_95 ?_
        obtain ⟨g43, h⟩ := gd_some h
        refine fw_iald C (gA_of g43) dX0_takeBack_96 ?_
        obtain ⟨g45, h⟩ := gd_some h
        obtain ⟨M44, e44, h⟩ := b1_some h
        refine fw_callV (ci := 4) [_, _, _, _, _] C (c_X4_insertLink hl e44) cal_X4_insertLink wm_X0_31 wi_yX4_insertLink wsl_yX4_insertLink (Nat.le_of_ble_eq_true rfl) rfl (gO_of g45) rfl (Nat.le_of_ble_eq_true rfl) ⟨Nat.le_of_ble_eq_true rfl, Nat.le_of_ble_eq_true rfl⟩ ⟨Nat.zero_le _, Nat.zero_le _⟩ dX0_takeBack_97 ?_
        refine fw_goto C 163 dX0_takeBack_100 (by decide) ?_
        obtain rfl := Option.some.inj h
        exact fw_vret C hr hlk dX0_takeBack_163
    · replace h := (if_pos c9).symm.trans h
      refine fw_aload_n C 4 dX0_takeBack_48 rfl rfl ?_
      refine fw_iload C 0 dX0_takeBack_49 rfl ?_
      obtain ⟨g47, h⟩ := gd_some h
      obtain ⟨M46, e46, h⟩ := b1_some h
      refine fw_callV (ci := 4) [_] C (c_X4_removeLink hl e46) cal_X4_removeLink wm_X0_25 wi_yX4_removeLink wsl_yX4_removeLink (Nat.le_of_ble_eq_true rfl) rfl (gO_of g47) rfl (Nat.le_of_ble_eq_true rfl) ⟨Nat.le_of_ble_eq_true rfl, Nat.le_of_ble_eq_true rfl⟩ ⟨Nat.zero_le _, Nat.zero_le _⟩ dX0_takeBack_51 ?_
      refine fw_goto C 163 dX0_takeBack_54 (by decide) ?_
      obtain rfl := Option.some.inj h
      exact fw_vret C hr hlk dX0_takeBack_163
  · replace h := (if_neg c2).symm.trans h
    obtain rfl := Option.some.inj h
    exact fw_vret C hr hlk dX0_takeBack_7
