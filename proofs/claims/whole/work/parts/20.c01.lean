set_option maxRecDepth 100000 in
def lf_X4_insertLink_39 (S : List fw_Sh) (a0 : Nat) (x1 : Int32) (x2 : Int32) (x3 : Int32) (x4 : Int32) (x5 : Int32) (a6 : Nat) : Nat → Int32 → fw_Mem → Option (fw_Mem)
  | 0, _, _ => none
  | n + 1, x7, M => if x7 ≤ x1 then (some M) else (gd (gO S 4 a0) (gd (gN (M a0 1)) (gd (gA S 3 ((M a0 1).toNatClampNeg) (x7 - 1)) (gd (gN (M ((M a0 1).toNatClampNeg) (x7 - 1).toNatClampNeg)) (gd (gA S 3 ((M a0 1).toNatClampNeg) x7) (gd (gO S 3 ((M ((M a0 1).toNatClampNeg) (x7 - 1).toNatClampNeg).toNatClampNeg)) (gd (decide ((M ((M a0 1).toNatClampNeg) (x7 - 1).toNatClampNeg).toNatClampNeg < 1000000)) (bm (fw_set M ((M a0 1).toNatClampNeg) x7.toNatClampNeg (nI ((M ((M a0 1).toNatClampNeg) (x7 - 1).toNatClampNeg).toNatClampNeg))) (fun M16 => lf_X4_insertLink_39 S a0 x1 x2 x3 x4 x5 a6 n (x7 + (-1)) M16)))))))))
set_option maxHeartbeats 4000000 in
set_option maxRecDepth 100000 in
theorem lc_X4_insertLink_39 {G : fw_G} {p : Program} {l : Launch} {e : Env} {s : State} {m : MethodId} {args : Array Value} {below : List Frame} {meth : Method} {c : Code} {S : List fw_Sh} {o : fw_O} {a0 : Nat} {x1 : Int32} {x2 : Int32} {x3 : Int32} {x4 : Int32} {x5 : Int32} {a6 : Nat} (C : fw_C G RX4 cX4_insertLink 8 p s m args c) (hr : meth.sig.returnType = none) (hlk : meth.locks = false) (hl : l.stackTraces = false) (ht : ∀ x ∈ c.exceptionTable.toList, False) :
    ∀ {n : Nat} {x7 : Int32} {M : fw_Mem} {r : (fw_Mem)} (h : lf_X4_insertLink_39 S a0 x1 x2 x3 x4 x5 a6 n x7 M = some r) (kx : fw_W G p l e (fw_rm 1 (fw_mcO o) (fw_msO o)) s m args below meth c 8 (fw_Z G below args s (fw_mcO o) (fw_msO o) o) 0 0 67 [(0, .ref a0), (1, .int x1), (2, .int x2), (3, .int x3), (4, .int x4), (5, .int x5), (6, .ref a6)] [] S r), fw_W G p l e (fw_rm 1 (fw_mcO o) (fw_msO o)) s m args below meth c 8 (fw_Z G below args s (fw_mcO o) (fw_msO o) o) 0 0 39 [(0, .ref a0), (1, .int x1), (2, .int x2), (3, .int x3), (4, .int x4), (5, .int x5), (6, .ref a6), (7, .int x7)] [] S M := by
  intro n
  induction n with
  | zero =>
    intro x7 M r h
    exact nomatch (show (none : Option (fw_Mem)) = some r from h)
  | succ n ih =>
    intro x7 M r h kx
    rw [lf_X4_insertLink_39.eq_2] at h
    refine fw_iload C 7 dX4_insertLink_39 rfl ?_
    refine fw_iload_n C 1 dX4_insertLink_41 rfl rfl ?_
    refine fw_icmp_le C 67 dX4_insertLink_42 (by decide) (fun c8 => ?_) (fun c8 => ?_)
    · replace h := (if_pos c8).symm.trans h
      obtain rfl := Option.some.inj h
      refine fw_sub [0, 1, 2, 3, 4, 5, 6] rfl ?_
      exact kx
    · replace h := (if_neg c8).symm.trans h
      refine fw_aload_n C 0 dX4_insertLink_45 rfl rfl ?_
      obtain ⟨g9, h⟩ := gd_some h
      obtain ⟨g10, h⟩ := gd_some h
      refine fw_getR C 4 1 (Nat.le_of_ble_eq_true rfl) (Nat.le_of_ble_eq_true rfl) wf_X4_17 rfl (gO_of g9) (gN_of g10) dX4_insertLink_46 ?_
      refine fw_iload C 7 dX4_insertLink_49 rfl ?_
      refine fw_aload_n C 0 dX4_insertLink_51 rfl rfl ?_
      refine fw_getR C 4 1 (Nat.le_of_ble_eq_true rfl) (Nat.le_of_ble_eq_true rfl) wf_X4_17 rfl (gO_of g9) (gN_of g10) dX4_insertLink_52 ?_
      refine fw_iload C 7 dX4_insertLink_55 rfl ?_
      refine fw_iconst C 1 dX4_insertLink_57 rfl ?_
      refine fw_isub C dX4_insertLink_58 ?_
      obtain ⟨g11, h⟩ := gd_some h
      obtain ⟨g12, h⟩ := gd_some h
      refine fw_aald C 3 (by decide) (gA_of g11) (gN_of g12) dX4_insertLink_59 ?_
      obtain ⟨g13, h⟩ := gd_some h
      obtain ⟨g14, h⟩ := gd_some h
      obtain ⟨g15, h⟩ := gd_some h
      refine fw_aast C 3 3 (by decide) (gA_of g13) (gO_of g14) (of_decide_eq_true g15) dX4_insertLink_60 ?_
      refine fw_bm h (fun M16 h => ?_)
      refine fw_iinc C _ 7 [(7, _), (0, _), (1, _), (2, _), (3, _), (4, _), (5, _), (6, _)] dX4_insertLink_61 rfl rfl (Nat.le_of_ble_eq_true rfl) rfl ?_
      refine fw_goto C 39 dX4_insertLink_64 (by decide) ?_
      refine fw_sub [1, 2, 3, 4, 5, 6, 7, 0] rfl ?_
      exact ih h kx
set_option maxRecDepth 100000 in
def f_X4_insertLink (S : List fw_Sh) (M : fw_Mem) (a0 : Nat) (x1 : Int32) (x2 : Int32) (x3 : Int32) (x4 : Int32) (x5 : Int32) : Option fw_Mem := gd (gO S 4 a0) (if (24 : Int32) ≤ (M a0 5) then (some M) else (if x1 < 0 then (some M) else (if x1 ≤ (M a0 5) then (gd (gN (M a0 1)) (gd (gA S 3 ((M a0 1).toNatClampNeg) (M a0 5)) (gd (gN (M ((M a0 1).toNatClampNeg) (M a0 5).toNatClampNeg)) (b1 (lf_X4_insertLink_39 S a0 x1 x2 x3 x4 x5 ((M ((M a0 1).toNatClampNeg) (M a0 5).toNatClampNeg).toNatClampNeg) 20000 (M a0 5) M) (fun l17 => gd (gO S 3 ((M ((M a0 1).toNatClampNeg) (M a0 5).toNatClampNeg).toNatClampNeg)) (bm (fw_set l17 ((M ((M a0 1).toNatClampNeg) (M a0 5).toNatClampNeg).toNatClampNeg) 0 x2) (fun M19 => bm (fw_set M19 ((M ((M a0 1).toNatClampNeg) (M a0 5).toNatClampNeg).toNatClampNeg) 1 x3) (fun M20 => bm (fw_set M20 ((M ((M a0 1).toNatClampNeg) (M a0 5).toNatClampNeg).toNatClampNeg) 2 x4) (fun M21 => bm (fw_set M21 ((M ((M a0 1).toNatClampNeg) (M a0 5).toNatClampNeg).toNatClampNeg) 3 x5) (fun M22 => gd (gN (M22 a0 1)) (gd (gA S 3 ((M22 a0 1).toNatClampNeg) x1) (gd (decide ((M ((M a0 1).toNatClampNeg) (M a0 5).toNatClampNeg).toNatClampNeg < 1000000)) (bm (fw_set M22 ((M22 a0 1).toNatClampNeg) x1.toNatClampNeg (nI ((M ((M a0 1).toNatClampNeg) (M a0 5).toNatClampNeg).toNatClampNeg))) (fun M26 => bm (fw_set M26 a0 5 ((M26 a0 5) + 1)) (fun M27 => some M27))))))))))))))) else (some M))))
set_option maxHeartbeats 4000000 in
set_option maxRecDepth 100000 in
theorem c_X4_insertLink {l : Launch} {G : fw_G} {S : List fw_Sh} {M : fw_Mem} {a0 : Nat} {x1 : Int32} {x2 : Int32} {x3 : Int32} {x4 : Int32} {x5 : Int32} {r : fw_Mem} (hl : l.stackTraces = false) (h : f_X4_insertLink S M a0 x1 x2 x3 x4 x5 = some r) : fw_M l G yX4_insertLink (.code yX4_insertLink cX4_insertLink 8 none) 1 (fw_mcO (.inl none, S, r)) (fw_msO (.inl none, S, r)) S M [.ref a0, .int x1, .int x2, .int x3, .int x4, .int x5] (.inl none, S, r) := by
  refine fw_of [(0, .ref a0), (1, .int x1), (2, .int x2), (3, .int x3), (4, .int x4), (5, .int x5)] (by decide) (Nat.le_of_ble_eq_true rfl) rfl ?_
  intro p e s m args below meth c C hr hlk hnm ht _
  unfold f_X4_insertLink at h
  refine fw_aload_n C 0 dX4_insertLink_0 rfl rfl ?_
  obtain ⟨g1, h⟩ := gd_some h
  refine fw_getI C 4 5 (Nat.le_of_ble_eq_true rfl) (Nat.le_of_ble_eq_true rfl) wf_X4_41 rfl (gO_of g1) dX4_insertLink_1 ?_
  refine fw_bipush C 24 dX4_insertLink_4 rfl ?_
  refine fw_icmp_ge C 21 dX4_insertLink_6 (by decide) (fun c2 => ?_) (fun c2 => ?_)
  · replace h := (if_pos c2).symm.trans h
    obtain rfl := Option.some.inj h
    exact fw_vret C hr hlk dX4_insertLink_21
  · replace h := (if_neg c2).symm.trans h
    refine fw_iload_n C 1 dX4_insertLink_9 rfl rfl ?_
    refine fw_if_lt C 21 dX4_insertLink_10 (by decide) (fun c3 => ?_) (fun c3 => ?_)
    · replace h := (if_pos c3).symm.trans h
      obtain rfl := Option.some.inj h
      exact fw_vret C hr hlk dX4_insertLink_21
    · replace h := (if_neg c3).symm.trans h
      refine fw_iload_n C 1 dX4_insertLink_13 rfl rfl ?_
      refine fw_aload_n C 0 dX4_insertLink_14 rfl rfl ?_
      refine fw_getI C 4 5 (Nat.le_of_ble_eq_true rfl) (Nat.le_of_ble_eq_true rfl) wf_X4_41 rfl (gO_of g1) dX4_insertLink_15 ?_
      refine fw_icmp_le C 22 dX4_insertLink_18 (by decide) (fun c4 => ?_) (fun c4 => ?_)
      · replace h := (if_pos c4).symm.trans h
        refine fw_aload_n C 0 dX4_insertLink_22 rfl rfl ?_
        obtain ⟨g5, h⟩ := gd_some h
        refine fw_getR C 4 1 (Nat.le_of_ble_eq_true rfl) (Nat.le_of_ble_eq_true rfl) wf_X4_17 rfl (gO_of g1) (gN_of g5) dX4_insertLink_23 ?_
        refine fw_aload_n C 0 dX4_insertLink_26 rfl rfl ?_
        refine fw_getI C 4 5 (Nat.le_of_ble_eq_true rfl) (Nat.le_of_ble_eq_true rfl) wf_X4_41 rfl (gO_of g1) dX4_insertLink_27 ?_
        obtain ⟨g6, h⟩ := gd_some h
        obtain ⟨g7, h⟩ := gd_some h
        refine fw_aald C 3 (by decide) (gA_of g6) (gN_of g7) dX4_insertLink_30 ?_
        refine fw_astore C [(6, _), (0, _), (1, _), (2, _), (3, _), (4, _), (5, _)] dX4_insertLink_31 (Nat.le_of_ble_eq_true rfl) rfl ?_
        refine fw_aload_n C 1 dX4_insertLink_33 rfl rfl ?_
        refine fw_getI C 4 5 (Nat.le_of_ble_eq_true rfl) (Nat.le_of_ble_eq_true rfl) wf_X4_41 rfl (gO_of g1) dX4_insertLink_34 ?_
        refine fw_istore C [(7, _), (6, _), (0, _), (1, _), (2, _), (3, _), (4, _), (5, _)] dX4_insertLink_37 (Nat.le_of_ble_eq_true rfl) rfl ?_
        refine fw_sub [2, 3, 4, 5, 6, 7, 1, 0] rfl ?_
        obtain ⟨l17, e17, h⟩ := b1_some h
        refine lc_X4_insertLink_39 C hr hlk hl ht e17 ?_
        refine fw_aload C 6 dX4_insertLink_67 rfl ?_
        refine fw_iload_n C 2 dX4_insertLink_69 rfl rfl ?_
        obtain ⟨g18, h⟩ := gd_some h
        refine fw_putI C 3 0 (Nat.le_of_ble_eq_true rfl) (Nat.le_of_ble_eq_true rfl) wf_X4_68 rfl rfl rfl rfl (gO_of g18) dX4_insertLink_70 ?_
        refine fw_bm h (fun M19 h => ?_)
        refine fw_aload C 6 dX4_insertLink_73 rfl ?_
        refine fw_iload_n C 3 dX4_insertLink_75 rfl rfl ?_
        refine fw_putI C 3 1 (Nat.le_of_ble_eq_true rfl) (Nat.le_of_ble_eq_true rfl) wf_X4_71 rfl rfl rfl rfl (gO_of g18) dX4_insertLink_76 ?_
        refine fw_bm h (fun M20 h => ?_)
        refine fw_aload C 6 dX4_insertLink_79 rfl ?_
        refine fw_iload C 4 dX4_insertLink_81 rfl ?_
        refine fw_putI C 3 2 (Nat.le_of_ble_eq_true rfl) (Nat.le_of_ble_eq_true rfl) wf_X4_74 rfl rfl rfl rfl (gO_of g18) dX4_insertLink_83 ?_
        refine fw_bm h (fun M21 h => ?_)
        refine fw_aload C 6 dX4_insertLink_86 rfl ?_
        refine fw_iload C 5 dX4_insertLink_88 rfl ?_
        refine fw_putI C 3 3 (Nat.le_of_ble_eq_true rfl) (Nat.le_of_ble_eq_true rfl) wf_X4_77 rfl rfl rfl rfl (gO_of g18) dX4_insertLink_90 ?_
        refine fw_bm h (fun M22 h => ?_)
        refine fw_aload_n C 0 dX4_insertLink_93 rfl rfl ?_
        obtain ⟨g23, h⟩ := gd_some h
        refine fw_getR C 4 1 (Nat.le_of_ble_eq_true rfl) (Nat.le_of_ble_eq_true rfl) wf_X4_17 rfl (gO_of g1) (gN_of g23) dX4_insertLink_94 ?_
        refine fw_iload_n C 1 dX4_insertLink_97 rfl rfl ?_
        refine fw_aload C 6 dX4_insertLink_98 rfl ?_
        obtain ⟨g24, h⟩ := gd_some h
        obtain ⟨g25, h⟩ := gd_some h
        refine fw_aast C 3 3 (by decide) (gA_of g24) (gO_of g18) (of_decide_eq_true g25) dX4_insertLink_100 ?_
        refine fw_bm h (fun M26 h => ?_)
        refine fw_aload_n C 0 dX4_insertLink_101 rfl rfl ?_
        refine fw_dup C dX4_insertLink_102 rfl ?_
        refine fw_getI C 4 5 (Nat.le_of_ble_eq_true rfl) (Nat.le_of_ble_eq_true rfl) wf_X4_41 rfl (gO_of g1) dX4_insertLink_103 ?_
        refine fw_iconst C 1 dX4_insertLink_106 rfl ?_
        refine fw_iadd C dX4_insertLink_107 ?_
        refine fw_putI C 4 5 (Nat.le_of_ble_eq_true rfl) (Nat.le_of_ble_eq_true rfl) wf_X4_41 rfl rfl rfl rfl (gO_of g1) dX4_insertLink_108 ?_
        refine fw_bm h (fun M27 h => ?_)
        obtain rfl := Option.some.inj h
        exact fw_vret C hr hlk dX4_insertLink_111
      · replace h := (if_neg c4).symm.trans h
        obtain rfl := Option.some.inj h
        exact fw_vret C hr hlk dX4_insertLink_21
set_option maxRecDepth 100000 in
def f_X7_isName (S : List fw_Sh) (M : fw_Mem) (a0 : Nat) : Option Int32 := gd (gO S 7 a0) (if (M a0 3) = 2 then (if (6 : Int32) < ((M a0 5) - (M a0 4)) then (some 0) else (b1 (f_X7_isWord S M a0 1000023) (fun v4 => if v4 = 0 then (some 1) else (some 0)))) else (some 0))
set_option maxHeartbeats 4000000 in
set_option maxRecDepth 100000 in
theorem c_X7_isName {l : Launch} {G : fw_G} {S : List fw_Sh} {M : fw_Mem} {a0 : Nat} {r : Int32} (hl : l.stackTraces = false) (h : f_X7_isName S M a0 = some r) : fw_M l G yX7_isName (.code yX7_isName cX7_isName 1 (some .boolean)) 8 (fw_mcO (.inl (some (.int r)), S, M)) (fw_msO (.inl (some (.int r)), S, M)) S M [.ref a0] (.inl (some (.int r)), S, M) := by
  refine fw_of [(0, .ref a0)] (by decide) (Nat.le_of_ble_eq_true rfl) rfl ?_
  intro p e s m args below meth c C hr hlk hnm ht _
  unfold f_X7_isName at h
  refine fw_aload_n C 0 dX7_isName_0 rfl rfl ?_
  obtain ⟨g1, h⟩ := gd_some h
  refine fw_getI C 7 3 (Nat.le_of_ble_eq_true rfl) (Nat.le_of_ble_eq_true rfl) wf_X7_47 rfl (gO_of g1) dX7_isName_1 ?_
  refine fw_iconst C 2 dX7_isName_4 rfl ?_
  refine fw_icmp_ne C 35 dX7_isName_5 (by decide) (fun c2 => ?_) (fun c2 => ?_)
  · replace h := (if_neg c2).symm.trans h
    refine fw_iconst C 0 dX7_isName_35 rfl ?_
    obtain rfl := Option.some.inj h
    exact fw_zret C hr (Or.inl rfl) hlk dX7_isName_36
  · replace h := (if_pos c2).symm.trans h
    refine fw_aload_n C 0 dX7_isName_8 rfl rfl ?_
    refine fw_getI C 7 5 (Nat.le_of_ble_eq_true rfl) (Nat.le_of_ble_eq_true rfl) wf_X7_31 rfl (gO_of g1) dX7_isName_9 ?_
    refine fw_aload_n C 0 dX7_isName_12 rfl rfl ?_
    refine fw_getI C 7 4 (Nat.le_of_ble_eq_true rfl) (Nat.le_of_ble_eq_true rfl) wf_X7_40 rfl (gO_of g1) dX7_isName_13 ?_
    refine fw_isub C dX7_isName_16 ?_
    refine fw_bipush C 6 dX7_isName_17 rfl ?_
    refine fw_icmp_gt C 35 dX7_isName_19 (by decide) (fun c3 => ?_) (fun c3 => ?_)
    · replace h := (if_pos c3).symm.trans h
      refine fw_iconst C 0 dX7_isName_35 rfl ?_
      obtain rfl := Option.some.inj h
      exact fw_zret C hr (Or.inl rfl) hlk dX7_isName_36
    · replace h := (if_neg c3).symm.trans h
      refine fw_aload_n C 0 dX7_isName_22 rfl rfl ?_
      refine fw_ldcS C (i := 22) (List.mem_of_getElem? (i := 2) rfl) dX7_isName_23 ?_
      obtain ⟨v4, e4, h⟩ := b1_some h
      refine fw_callV (ci := 7) [_] C (c_X7_isWord hl e4) cal_X7_isWord wm_X7_67 wi_yX7_isWord wsl_yX7_isWord (Nat.le_of_ble_eq_true rfl) rfl (gO_of g1) rfl (Nat.le_of_ble_eq_true rfl) ⟨Nat.le_of_ble_eq_true rfl, Nat.le_of_ble_eq_true rfl⟩ ⟨Nat.zero_le _, Nat.zero_le _⟩ dX7_isName_25 ?_
      refine fw_if_ne C 35 dX7_isName_28 (by decide) (fun c5 => ?_) (fun c5 => ?_)
      · replace h := (if_neg c5).symm.trans h
        refine fw_iconst C 0 dX7_isName_35 rfl ?_
        obtain rfl := Option.some.inj h
        exact fw_zret C hr (Or.inl rfl) hlk dX7_isName_36
      · replace h := (if_pos c5).symm.trans h
        refine fw_iconst C 1 dX7_isName_31 rfl ?_
        refine fw_goto C 36 dX7_isName_32 (by decide) ?_
        obtain rfl := Option.some.inj h
        exact fw_zret C hr (Or.inr rfl) hlk dX7_isName_36
set_option maxRecDepth 100000 in
def f_X7_letterOf (S : List fw_Sh) (M : fw_Mem) (a0 : Nat) (x1 : Int32) : Option Int32 := gd (gO S 7 a0) (if (M a0 3) = 2 then (if x1 < 0 then (some 0) else (if ((M a0 5) - (M a0 4)) ≤ x1 then (some 0) else (gd (gN (M a0 0)) (gd (gA S 1 ((M a0 0).toNatClampNeg) ((M a0 4) + x1)) (some (((M ((M a0 0).toNatClampNeg) ((M a0 4) + x1).toNatClampNeg) - 97) + 1)))))) else (some 0))
set_option maxHeartbeats 4000000 in
set_option maxRecDepth 100000 in
theorem c_X7_letterOf {l : Launch} {G : fw_G} {S : List fw_Sh} {M : fw_Mem} {a0 : Nat} {x1 : Int32} {r : Int32} (hl : l.stackTraces = false) (h : f_X7_letterOf S M a0 x1 = some r) : fw_M l G yX7_letterOf (.code yX7_letterOf cX7_letterOf 2 (some .int)) 1 (fw_mcO (.inl (some (.int r)), S, M)) (fw_msO (.inl (some (.int r)), S, M)) S M [.ref a0, .int x1] (.inl (some (.int r)), S, M) := by
  refine fw_of [(0, .ref a0), (1, .int x1)] (by decide) (Nat.le_of_ble_eq_true rfl) rfl ?_
  intro p e s m args below meth c C hr hlk hnm ht _
  unfold f_X7_letterOf at h
  refine fw_aload_n C 0 dX7_letterOf_0 rfl rfl ?_
  obtain ⟨g1, h⟩ := gd_some h
  refine fw_getI C 7 3 (Nat.le_of_ble_eq_true rfl) (Nat.le_of_ble_eq_true rfl) wf_X7_47 rfl (gO_of g1) dX7_letterOf_1 ?_
  refine fw_iconst C 2 dX7_letterOf_4 rfl ?_
  refine fw_icmp_ne C 44 dX7_letterOf_5 (by decide) (fun c2 => ?_) (fun c2 => ?_)
  · replace h := (if_neg c2).symm.trans h
    refine fw_iconst C 0 dX7_letterOf_44 rfl ?_
    obtain rfl := Option.some.inj h
    exact fw_iret C hr hlk dX7_letterOf_45
  · replace h := (if_pos c2).symm.trans h
    refine fw_iload_n C 1 dX7_letterOf_8 rfl rfl ?_
    refine fw_if_lt C 44 dX7_letterOf_9 (by decide) (fun c3 => ?_) (fun c3 => ?_)
    · replace h := (if_pos c3).symm.trans h
      refine fw_iconst C 0 dX7_letterOf_44 rfl ?_
      obtain rfl := Option.some.inj h
      exact fw_iret C hr hlk dX7_letterOf_45
    · replace h := (if_neg c3).symm.trans h
      refine fw_iload_n C 1 dX7_letterOf_12 rfl rfl ?_
      refine fw_aload_n C 0 dX7_letterOf_13 rfl rfl ?_
      refine fw_getI C 7 5 (Nat.le_of_ble_eq_true rfl) (Nat.le_of_ble_eq_true rfl) wf_X7_31 rfl (gO_of g1) dX7_letterOf_14 ?_
      refine fw_aload_n C 0 dX7_letterOf_17 rfl rfl ?_
      refine fw_getI C 7 4 (Nat.le_of_ble_eq_true rfl) (Nat.le_of_ble_eq_true rfl) wf_X7_40 rfl (gO_of g1) dX7_letterOf_18 ?_
      refine fw_isub C dX7_letterOf_21 ?_
      refine fw_icmp_ge C 44 dX7_letterOf_22 (by decide) (fun c4 => ?_) (fun c4 => ?_)
      · replace h := (if_pos c4).symm.trans h
        refine fw_iconst C 0 dX7_letterOf_44 rfl ?_
        obtain rfl := Option.some.inj h
        exact fw_iret C hr hlk dX7_letterOf_45
      · replace h := (if_neg c4).symm.trans h
        refine fw_aload_n C 0 dX7_letterOf_25 rfl rfl ?_
        obtain ⟨g5, h⟩ := gd_some h
        refine fw_getR C 7 0 (Nat.le_of_ble_eq_true rfl) (Nat.le_of_ble_eq_true rfl) wf_X7_9 rfl (gO_of g1) (gN_of g5) dX7_letterOf_26 ?_
        refine fw_aload_n C 0 dX7_letterOf_29 rfl rfl ?_
        refine fw_getI C 7 4 (Nat.le_of_ble_eq_true rfl) (Nat.le_of_ble_eq_true rfl) wf_X7_40 rfl (gO_of g1) dX7_letterOf_30 ?_
        refine fw_iload_n C 1 dX7_letterOf_33 rfl rfl ?_
        refine fw_iadd C dX7_letterOf_34 ?_
        obtain ⟨g6, h⟩ := gd_some h
        refine fw_bald C (gA_of g6) dX7_letterOf_35 ?_
        refine fw_bipush C 97 dX7_letterOf_36 rfl ?_
        refine fw_isub C dX7_letterOf_38 ?_
        refine fw_iconst C 1 dX7_letterOf_39 rfl ?_
        refine fw_iadd C dX7_letterOf_40 ?_
        refine fw_goto C 45 dX7_letterOf_41 (by decide) ?_
        obtain rfl := Option.some.inj h
        exact fw_iret C hr hlk dX7_letterOf_45
set_option maxRecDepth 100000 in
def lf_X8_personNamed_17 (S : List fw_Sh) (M : fw_Mem) (a0 : Nat) (x1 : Int32) : Nat → Int32 → Int32 → Option (Int32)
  | 0, _, _ => none
  | n + 1, x2, x3 => if (6 : Int32) ≤ x3 then (some x2) else (if x2 = 0 then (some x2) else (gd (gO S 8 a0) (gd (gN (M a0 1)) (gd (gO S 4 ((M a0 1).toNatClampNeg)) (gd (gN (M ((M a0 1).toNatClampNeg) 0)) (gd (gA S 0 ((M ((M a0 1).toNatClampNeg) 0).toNatClampNeg) ((x1 * 6) + x3)) (gd (gN (M a0 0)) (gd (gO S 7 ((M a0 0).toNatClampNeg)) (b1 (f_X7_letterOf S M ((M a0 0).toNatClampNeg) x3) (fun v13 => if (M ((M ((M a0 1).toNatClampNeg) 0).toNatClampNeg) ((x1 * 6) + x3).toNatClampNeg) = v13 then (lf_X8_personNamed_17 S M a0 x1 n 1 (x3 + 1)) else (lf_X8_personNamed_17 S M a0 x1 n 0 (x3 + 1))))))))))))
set_option maxHeartbeats 4000000 in
set_option maxRecDepth 100000 in
theorem lc_X8_personNamed_17 {G : fw_G} {p : Program} {l : Launch} {e : Env} {s : State} {m : MethodId} {args : Array Value} {below : List Frame} {meth : Method} {c : Code} {S : List fw_Sh} {o : fw_O} {M : fw_Mem} {a0 : Nat} {x1 : Int32} (C : fw_C G RX8 cX8_personNamed 4 p s m args c) (hr : meth.sig.returnType = (some .int)) (hlk : meth.locks = false) (hl : l.stackTraces = false) (ht : ∀ x ∈ c.exceptionTable.toList, False) :
    ∀ {n : Nat} {x2 : Int32} {x3 : Int32} {r : (Int32)} (h : lf_X8_personNamed_17 S M a0 x1 n x2 x3 = some r) (kx : fw_W G p l e (fw_rm 2 (fw_mcO o) (fw_msO o)) s m args below meth c 4 (fw_Z G below args s (fw_mcO o) (fw_msO o) o) 0 0 64 [(0, .ref a0), (1, .int x1), (2, .int r)] [] S M), fw_W G p l e (fw_rm 2 (fw_mcO o) (fw_msO o)) s m args below meth c 4 (fw_Z G below args s (fw_mcO o) (fw_msO o) o) 0 0 17 [(0, .ref a0), (1, .int x1), (2, .int x2), (3, .int x3)] [] S M := by
  intro n
  induction n with
  | zero =>
    intro x2 x3 r h
    exact nomatch (show (none : Option (Int32)) = some r from h)
  | succ n ih =>
    intro x2 x3 r h kx
    rw [lf_X8_personNamed_17.eq_2] at h
    refine fw_iload_n C 3 dX8_personNamed_17 rfl rfl ?_
    refine fw_bipush C 6 dX8_personNamed_18 rfl ?_
    refine fw_icmp_ge C 64 dX8_personNamed_20 (by decide) (fun c5 => ?_) (fun c5 => ?_)
    · replace h := (if_pos c5).symm.trans h
      obtain rfl := Option.some.inj h
      refine fw_sub [0, 1, 2] rfl ?_
      exact kx
    · replace h := (if_neg c5).symm.trans h
      refine fw_iload_n C 2 dX8_personNamed_23 rfl rfl ?_
      refine fw_if_eq C 64 dX8_personNamed_24 (by decide) (fun c6 => ?_) (fun c6 => ?_)
      · replace h := (if_pos c6).symm.trans h
        obtain rfl := Option.some.inj h
        refine fw_sub [0, 1, 2] rfl ?_
        exact kx
      · replace h := (if_neg c6).symm.trans h
        refine fw_aload_n C 0 dX8_personNamed_27 rfl rfl ?_
        obtain ⟨g7, h⟩ := gd_some h
        obtain ⟨g8, h⟩ := gd_some h
        refine fw_getR C 8 1 (Nat.le_of_ble_eq_true rfl) (Nat.le_of_ble_eq_true rfl) wf_X8_15 rfl (gO_of g7) (gN_of g8) dX8_personNamed_28 ?_
        obtain ⟨g9, h⟩ := gd_some h
        obtain ⟨g10, h⟩ := gd_some h
        refine fw_getR C 4 0 (Nat.le_of_ble_eq_true rfl) (Nat.le_of_ble_eq_true rfl) wf_X8_102 rfl (gO_of g9) (gN_of g10) dX8_personNamed_31 ?_
        refine fw_iload_n C 1 dX8_personNamed_34 rfl rfl ?_
        refine fw_bipush C 6 dX8_personNamed_35 rfl ?_
        refine fw_imul C dX8_personNamed_37 ?_
        refine fw_iload_n C 3 dX8_personNamed_38 rfl rfl ?_
        refine fw_iadd C dX8_personNamed_39 ?_
        obtain ⟨g11, h⟩ := gd_some h
        refine fw_iald C (gA_of g11) dX8_personNamed_40 ?_
        refine fw_aload_n C 0 dX8_personNamed_41 rfl rfl ?_
        obtain ⟨g12, h⟩ := gd_some h
        refine fw_getR C 8 0 (Nat.le_of_ble_eq_true rfl) (Nat.le_of_ble_eq_true rfl) wf_X8_9 rfl (gO_of g7) (gN_of g12) dX8_personNamed_42 ?_
        refine fw_iload_n C 3 dX8_personNamed_45 rfl rfl ?_
        obtain ⟨g14, h⟩ := gd_some h
        obtain ⟨v13, e13, h⟩ := b1_some h
        refine fw_callV (ci := 7) [_] C (c_X7_letterOf hl e13) cal_X7_letterOf wm_X8_106 wi_yX7_letterOf wsl_yX7_letterOf (Nat.le_of_ble_eq_true rfl) rfl (gO_of g14) rfl (Nat.le_of_ble_eq_true rfl) ⟨Nat.le_of_ble_eq_true rfl, Nat.le_of_ble_eq_true rfl⟩ ⟨Nat.zero_le _, Nat.zero_le _⟩ dX8_personNamed_46 ?_
        refine fw_icmp_ne C 56 dX8_personNamed_49 (by decide) (fun c15 => ?_) (fun c15 => ?_)
        · replace h := (if_neg c15).symm.trans h
          refine fw_iconst C 0 dX8_personNamed_56 rfl ?_
          refine fw_istore_n C [(2, _), (0, _), (1, _), (3, _)] dX8_personNamed_57 rfl (Nat.le_of_ble_eq_true rfl) rfl ?_
          refine fw_iinc C _ 3 [(3, _), (2, _), (0, _), (1, _)] dX8_personNamed_58 rfl rfl (Nat.le_of_ble_eq_true rfl) rfl ?_
          refine fw_goto C 17 dX8_personNamed_61 (by decide) ?_
          refine fw_sub [2, 3, 1, 0] rfl ?_
          exact ih h kx
        · replace h := (if_pos c15).symm.trans h
          refine fw_iconst C 1 dX8_personNamed_52 rfl ?_
          refine fw_goto C 57 dX8_personNamed_53 (by decide) ?_
          refine fw_istore_n C [(2, _), (0, _), (1, _), (3, _)] dX8_personNamed_57 rfl (Nat.le_of_ble_eq_true rfl) rfl ?_
          refine fw_iinc C _ 3 [(3, _), (2, _), (0, _), (1, _)] dX8_personNamed_58 rfl rfl (Nat.le_of_ble_eq_true rfl) rfl ?_
          refine fw_goto C 17 dX8_personNamed_61 (by decide) ?_
          refine fw_sub [2, 3, 1, 0] rfl ?_
          exact ih h kx
set_option maxRecDepth 100000 in
def lf_X8_personNamed_2 (S : List fw_Sh) (M : fw_Mem) (a0 : Nat) : Nat → Int32 → Option (Int32 ⊕ (Unit))
  | 0, _ => none
  | n + 1, x1 => gd (gO S 8 a0) (gd (gN (M a0 1)) (gd (gO S 4 ((M a0 1).toNatClampNeg)) (if (M ((M a0 1).toNatClampNeg) 4) ≤ x1 then (some (.inr ())) else (b1 (lf_X8_personNamed_17 S M a0 x1 20000 1 0) (fun l16 => if l16 = 0 then (lf_X8_personNamed_2 S M a0 n (x1 + 1)) else (some (.inl x1)))))))
set_option maxHeartbeats 4000000 in
set_option maxRecDepth 100000 in
theorem lc_X8_personNamed_2 {G : fw_G} {p : Program} {l : Launch} {e : Env} {s : State} {m : MethodId} {args : Array Value} {below : List Frame} {meth : Method} {c : Code} {S : List fw_Sh} {o : fw_O} {M : fw_Mem} {a0 : Nat} (C : fw_C G RX8 cX8_personNamed 4 p s m args c) (hr : meth.sig.returnType = (some .int)) (hlk : meth.locks = false) (hl : l.stackTraces = false) (ht : ∀ x ∈ c.exceptionTable.toList, False) :
    ∀ {n : Nat} {x1 : Int32} {r : (Int32 ⊕ (Unit))} (h : lf_X8_personNamed_2 S M a0 n x1 = some r) (kx : ∀ d, r = .inr d → fw_W G p l e (fw_rm 2 (fw_mcO o) (fw_msO o)) s m args below meth c 4 (fw_Z G below args s (fw_mcO o) (fw_msO o) o) 0 0 76 [] [] S M) (hret : ∀ t, r = .inl t → o = (.inl (some (.int t)), S, M)), fw_W G p l e (fw_rm 2 (fw_mcO o) (fw_msO o)) s m args below meth c 4 (fw_Z G below args s (fw_mcO o) (fw_msO o) o) 0 0 2 [(0, .ref a0), (1, .int x1)] [] S M := by
  intro n
  induction n with
  | zero =>
    intro x1 r h
    exact nomatch (show (none : Option (Int32 ⊕ (Unit))) = some r from h)
  | succ n ih =>
    intro x1 r h kx hret
    rw [lf_X8_personNamed_2.eq_2] at h
    refine fw_iload_n C 1 dX8_personNamed_2 rfl rfl ?_
    refine fw_aload_n C 0 dX8_personNamed_3 rfl rfl ?_
    obtain ⟨g1, h⟩ := gd_some h
    obtain ⟨g2, h⟩ := gd_some h
    refine fw_getR C 8 1 (Nat.le_of_ble_eq_true rfl) (Nat.le_of_ble_eq_true rfl) wf_X8_15 rfl (gO_of g1) (gN_of g2) dX8_personNamed_4 ?_
    obtain ⟨g3, h⟩ := gd_some h
    refine fw_getI C 4 4 (Nat.le_of_ble_eq_true rfl) (Nat.le_of_ble_eq_true rfl) wf_X8_88 rfl (gO_of g3) dX8_personNamed_7 ?_
    refine fw_icmp_ge C 76 dX8_personNamed_10 (by decide) (fun c4 => ?_) (fun c4 => ?_)
    · replace h := (if_pos c4).symm.trans h
      refine fw_sub [] rfl ?_
      exact kx _ (Option.some.inj h).symm
    · replace h := (if_neg c4).symm.trans h
      refine fw_iconst C 1 dX8_personNamed_13 rfl ?_
      refine fw_istore_n C [(2, _), (0, _), (1, _)] dX8_personNamed_14 rfl (Nat.le_of_ble_eq_true rfl) rfl ?_
      refine fw_iconst C 0 dX8_personNamed_15 rfl ?_
      refine fw_istore_n C [(3, _), (2, _), (0, _), (1, _)] dX8_personNamed_16 rfl (Nat.le_of_ble_eq_true rfl) rfl ?_
      refine fw_sub [2, 3, 1, 0] rfl ?_
      obtain ⟨l16, e16, h⟩ := b1_some h
      refine lc_X8_personNamed_17 C hr hlk hl ht e16 ?_
      refine fw_iload_n C 2 dX8_personNamed_64 rfl rfl ?_
      refine fw_if_eq C 70 dX8_personNamed_65 (by decide) (fun c17 => ?_) (fun c17 => ?_)
      · replace h := (if_pos c17).symm.trans h
        refine fw_iinc C _ 1 [(1, _), (0, _), (2, _)] dX8_personNamed_70 rfl rfl (Nat.le_of_ble_eq_true rfl) rfl ?_
        refine fw_goto C 2 dX8_personNamed_73 (by decide) ?_
        refine fw_sub [1, 0] rfl ?_
        exact ih h kx hret
      · replace h := (if_neg c17).symm.trans h
        refine fw_iload_n C 1 dX8_personNamed_68 rfl rfl ?_
        have ho := hret _ (Option.some.inj h).symm
        subst ho
        exact fw_iret C hr hlk dX8_personNamed_69
set_option maxRecDepth 100000 in
def f_X8_personNamed (S : List fw_Sh) (M : fw_Mem) (a0 : Nat) : Option Int32 := b1 (lf_X8_personNamed_2 S M a0 20000 0) (fun l18 => bl l18 (fun t18 => some t18) (fun d18 => some (-1)))
set_option maxHeartbeats 4000000 in
set_option maxRecDepth 100000 in
theorem c_X8_personNamed {l : Launch} {G : fw_G} {S : List fw_Sh} {M : fw_Mem} {a0 : Nat} {r : Int32} (hl : l.stackTraces = false) (h : f_X8_personNamed S M a0 = some r) : fw_M l G yX8_personNamed (.code yX8_personNamed cX8_personNamed 4 (some .int)) 2 (fw_mcO (.inl (some (.int r)), S, M)) (fw_msO (.inl (some (.int r)), S, M)) S M [.ref a0] (.inl (some (.int r)), S, M) := by
  refine fw_of [(0, .ref a0)] (by decide) (Nat.le_of_ble_eq_true rfl) rfl ?_
  intro p e s m args below meth c C hr hlk hnm ht _
  unfold f_X8_personNamed at h
  refine fw_iconst C 0 dX8_personNamed_0 rfl ?_
  refine fw_istore_n C [(1, _), (0, _)] dX8_personNamed_1 rfl (Nat.le_of_ble_eq_true rfl) rfl ?_
  refine fw_sub [1, 0] rfl ?_
  obtain ⟨l18, e18, h⟩ := b1_some h
  rcases l18 with t18 | d18
  · obtain rfl := Option.some.inj (bl_l h)
    exact lc_X8_personNamed_2 C hr hlk hl ht e18 (fun d hd => nomatch hd) (fun t ht => by cases ht; rfl)
  replace h := bl_r h
  refine lc_X8_personNamed_2 C hr hlk hl ht e18 (fun d hd => ?_) (fun t ht => nomatch ht)
  cases hd
  refine fw_iconst C (-1) dX8_personNamed_76 rfl ?_
  obtain rfl := Option.some.inj h
  exact fw_iret C hr hlk dX8_personNamed_77
set_option maxRecDepth 100000 in
def fj_X8_passName_28 (S : List fw_Sh) (M : fw_Mem) (a0 : Nat) (x1 : Int32) : Option (Int32 × fw_Mem) := gd (gO S 8 a0) (gd (gN (M a0 0)) (gd (gO S 7 ((M a0 0).toNatClampNeg)) (if (M ((M a0 0).toNatClampNeg) 7) = 0 then (b1 (f_X8_personNamed S M a0) (fun v26 => if v26 = (-1) then (b1 (f_X7_fail S M ((M a0 0).toNatClampNeg) 3) (fun M28 => some ((-1), M28))) else (if v26 = x1 then (b1 (f_X7_fail S M ((M a0 0).toNatClampNeg) 3) (fun M31 => some ((-1), M31))) else (b1 (f_X7_advance S M ((M a0 0).toNatClampNeg)) (fun M30 => some (v26, M30)))))) else (some ((-1), M)))))
set_option maxHeartbeats 4000000 in
set_option maxRecDepth 100000 in
theorem jc_X8_passName_28 {G : fw_G} {p : Program} {l : Launch} {e : Env} {s : State} {m : MethodId} {args : Array Value} {below : List Frame} {meth : Method} {c : Code} {S : List fw_Sh} {M : fw_Mem} {a0 : Nat} {x1 : Int32} {r : (Int32 × fw_Mem)} {o : fw_O} (C : fw_C G RX8 cX8_passName 3 p s m args c) (hr : meth.sig.returnType = (some .int)) (hlk : meth.locks = false) (hl : l.stackTraces = false) (ht : ∀ x ∈ c.exceptionTable.toList, False) (ho : o = (.inl (some (.int r.1)), S, r.2)) (h : fj_X8_passName_28 S M a0 x1 = some r) :
    fw_W G p l e (fw_rm 9 (fw_mcO o) (fw_msO o)) s m args below meth c 3 (fw_Z G below args s (fw_mcO o) (fw_msO o) o) 0 0 28 [(0, .ref a0), (1, .int x1)] [] S M := by
  subst ho
  unfold fj_X8_passName_28 at h
  refine fw_aload_n C 0 dX8_passName_28 rfl rfl ?_
  obtain ⟨g22, h⟩ := gd_some h
  obtain ⟨g23, h⟩ := gd_some h
  refine fw_getR C 8 0 (Nat.le_of_ble_eq_true rfl) (Nat.le_of_ble_eq_true rfl) wf_X8_9 rfl (gO_of g22) (gN_of g23) dX8_passName_29 ?_
  obtain ⟨g24, h⟩ := gd_some h
  refine fw_getI C 7 7 (Nat.le_of_ble_eq_true rfl) (Nat.le_of_ble_eq_true rfl) wf_X8_30 rfl (gO_of g24) dX8_passName_32 ?_
  refine fw_if_eq C 40 dX8_passName_35 (by decide) (fun c25 => ?_) (fun c25 => ?_)
  · replace h := (if_pos c25).symm.trans h
    refine fw_aload_n C 0 dX8_passName_40 rfl rfl ?_
    obtain ⟨v26, e26, h⟩ := b1_some h
    refine fw_callV (ci := 8) [] C (c_X8_personNamed hl e26) cal_X8_personNamed wm_X8_98 wi_yX8_personNamed wsl_yX8_personNamed (Nat.le_of_ble_eq_true rfl) rfl (gO_of g22) rfl (Nat.le_of_ble_eq_true rfl) ⟨Nat.le_of_ble_eq_true rfl, Nat.le_of_ble_eq_true rfl⟩ ⟨Nat.zero_le _, Nat.zero_le _⟩ dX8_passName_41 ?_
    refine fw_istore_n C [(2, _), (0, _), (1, _)] dX8_passName_44 rfl (Nat.le_of_ble_eq_true rfl) rfl ?_
    refine fw_iload_n C 0 dX8_passName_45 rfl rfl ?_
    refine fw_iconst C (-1) dX8_passName_46 rfl ?_
    refine fw_icmp_eq C 55 dX8_passName_47 (by decide) (fun c27 => ?_) (fun c27 => ?_)
    · replace h := (if_pos c27).symm.trans h
      refine fw_aload_n C 1 dX8_passName_55 rfl rfl ?_
      refine fw_getR C 8 0 (Nat.le_of_ble_eq_true rfl) (Nat.le_of_ble_eq_true rfl) wf_X8_9 rfl (gO_of g22) (gN_of g23) dX8_passName_56 ?_
      refine fw_iconst C 3 dX8_passName_59 rfl ?_
      obtain ⟨M28, e28, h⟩ := b1_some h
      refine fw_callV (ci := 7) [_] C (c_X7_fail hl e28) cal_X7_fail wm_X8_85 wi_yX7_fail wsl_yX7_fail (Nat.le_of_ble_eq_true rfl) rfl (gO_of g24) rfl (Nat.le_of_ble_eq_true rfl) ⟨Nat.le_of_ble_eq_true rfl, Nat.le_of_ble_eq_true rfl⟩ ⟨Nat.zero_le _, Nat.zero_le _⟩ dX8_passName_60 ?_
      refine fw_iconst C (-1) dX8_passName_63 rfl ?_
      obtain rfl := Option.some.inj h
      exact fw_iret C hr hlk dX8_passName_64
    · replace h := (if_neg c27).symm.trans h
      refine fw_iload_n C 0 dX8_passName_50 rfl rfl ?_
      refine fw_iload_n C 2 dX8_passName_51 rfl rfl ?_
      refine fw_icmp_ne C 65 dX8_passName_52 (by decide) (fun c29 => ?_) (fun c29 => ?_)
      · replace h := (if_neg c29).symm.trans h
        refine fw_aload_n C 1 dX8_passName_65 rfl rfl ?_
        refine fw_getR C 8 0 (Nat.le_of_ble_eq_true rfl) (Nat.le_of_ble_eq_true rfl) wf_X8_9 rfl (gO_of g22) (gN_of g23) dX8_passName_66 ?_
        obtain ⟨M30, e30, h⟩ := b1_some h
        refine fw_callV (ci := 7) [] C (c_X7_advance hl e30) cal_X7_advance wm_X8_91 wi_yX7_advance wsl_yX7_advance (Nat.le_of_ble_eq_true rfl) rfl (gO_of g24) rfl (Nat.le_of_ble_eq_true rfl) ⟨Nat.le_of_ble_eq_true rfl, Nat.le_of_ble_eq_true rfl⟩ ⟨Nat.zero_le _, Nat.zero_le _⟩ dX8_passName_69 ?_
        refine fw_iload_n C 0 dX8_passName_72 rfl rfl ?_
        obtain rfl := Option.some.inj h
        exact fw_iret C hr hlk dX8_passName_73
      · replace h := (if_pos c29).symm.trans h
        refine fw_aload_n C 1 dX8_passName_55 rfl rfl ?_
        refine fw_getR C 8 0 (Nat.le_of_ble_eq_true rfl) (Nat.le_of_ble_eq_true rfl) wf_X8_9 rfl (gO_of g22) (gN_of g23) dX8_passName_56 ?_
        refine fw_iconst C 3 dX8_passName_59 rfl ?_
        obtain ⟨M31, e31, h⟩ := b1_some h
        refine fw_callV (ci := 7) [_] C (c_X7_fail hl e31) cal_X7_fail wm_X8_85 wi_yX7_fail wsl_yX7_fail (Nat.le_of_ble_eq_true rfl) rfl (gO_of g24) rfl (Nat.le_of_ble_eq_true rfl) ⟨Nat.le_of_ble_eq_true rfl, Nat.le_of_ble_eq_true rfl⟩ ⟨Nat.zero_le _, Nat.zero_le _⟩ dX8_passName_60 ?_
        refine fw_iconst C (-1) dX8_passName_63 rfl ?_
        obtain rfl := Option.some.inj h
        exact fw_iret C hr hlk dX8_passName_64
  · replace h := (if_neg c25).symm.trans h
    refine fw_iconst C (-1) dX8_passName_38 rfl ?_
    obtain rfl := Option.some.inj h
    exact fw_iret C hr hlk dX8_passName_39
set_option maxRecDepth 100000 in
def f_X8_passName (S : List fw_Sh) (M : fw_Mem) (a0 : Nat) (x1 : Int32) : Option (Int32 × fw_Mem) := gd (gO S 8 a0) (gd (gN (M a0 0)) (gd (gO S 7 ((M a0 0).toNatClampNeg)) (if (M ((M a0 0).toNatClampNeg) 7) = 0 then (b1 (f_X7_isName S M ((M a0 0).toNatClampNeg)) (fun v12 => if v12 = 0 then (b1 (f_X7_fail S M ((M a0 0).toNatClampNeg) 1) (fun M21 => fj_X8_passName_28 S M21 a0 x1)) else (if (M ((M a0 0).toNatClampNeg) 7) = 0 then (b1 (f_X8_personNamed S M a0) (fun v15 => if v15 = (-1) then (b1 (f_X7_fail S M ((M a0 0).toNatClampNeg) 3) (fun M17 => some ((-1), M17))) else (if v15 = x1 then (b1 (f_X7_fail S M ((M a0 0).toNatClampNeg) 3) (fun M20 => some ((-1), M20))) else (b1 (f_X7_advance S M ((M a0 0).toNatClampNeg)) (fun M19 => some (v15, M19)))))) else (some ((-1), M))))) else (if (M ((M a0 0).toNatClampNeg) 7) = 0 then (b1 (f_X8_personNamed S M a0) (fun v6 => if v6 = (-1) then (b1 (f_X7_fail S M ((M a0 0).toNatClampNeg) 3) (fun M8 => some ((-1), M8))) else (if v6 = x1 then (b1 (f_X7_fail S M ((M a0 0).toNatClampNeg) 3) (fun M11 => some ((-1), M11))) else (b1 (f_X7_advance S M ((M a0 0).toNatClampNeg)) (fun M10 => some (v6, M10)))))) else (some ((-1), M))))))
set_option maxHeartbeats 4000000 in
set_option maxRecDepth 100000 in
theorem c_X8_passName {l : Launch} {G : fw_G} {S : List fw_Sh} {M : fw_Mem} {a0 : Nat} {x1 : Int32} {r : (Int32 × fw_Mem)} (hl : l.stackTraces = false) (h : f_X8_passName S M a0 x1 = some r) : fw_M l G yX8_passName (.code yX8_passName cX8_passName 3 (some .int)) 9 (fw_mcO (.inl (some (.int r.1)), S, r.2)) (fw_msO (.inl (some (.int r.1)), S, r.2)) S M [.ref a0, .int x1] (.inl (some (.int r.1)), S, r.2) := by
  refine fw_of [(0, .ref a0), (1, .int x1)] (by decide) (Nat.le_of_ble_eq_true rfl) rfl ?_
  intro p e s m args below meth c C hr hlk hnm ht _
  unfold f_X8_passName at h
  refine fw_aload_n C 0 dX8_passName_0 rfl rfl ?_
  obtain ⟨g1, h⟩ := gd_some h
  obtain ⟨g2, h⟩ := gd_some h
  refine fw_getR C 8 0 (Nat.le_of_ble_eq_true rfl) (Nat.le_of_ble_eq_true rfl) wf_X8_9 rfl (gO_of g1) (gN_of g2) dX8_passName_1 ?_
  obtain ⟨g3, h⟩ := gd_some h
  refine fw_getI C 7 7 (Nat.le_of_ble_eq_true rfl) (Nat.le_of_ble_eq_true rfl) wf_X8_30 rfl (gO_of g3) dX8_passName_4 ?_
  refine fw_if_ne C 28 dX8_passName_7 (by decide) (fun c4 => ?_) (fun c4 => ?_)
  · replace h := (if_neg c4).symm.trans h
    refine fw_aload_n C 0 dX8_passName_28 rfl rfl ?_
    refine fw_getR C 8 0 (Nat.le_of_ble_eq_true rfl) (Nat.le_of_ble_eq_true rfl) wf_X8_9 rfl (gO_of g1) (gN_of g2) dX8_passName_29 ?_
    refine fw_getI C 7 7 (Nat.le_of_ble_eq_true rfl) (Nat.le_of_ble_eq_true rfl) wf_X8_30 rfl (gO_of g3) dX8_passName_32 ?_
    refine fw_if_eq C 40 dX8_passName_35 (by decide) (fun c5 => ?_) (fun c5 => ?_)
    · replace h := (if_pos c5).symm.trans h
      refine fw_aload_n C 0 dX8_passName_40 rfl rfl ?_
      obtain ⟨v6, e6, h⟩ := b1_some h
      refine fw_callV (ci := 8) [] C (c_X8_personNamed hl e6) cal_X8_personNamed wm_X8_98 wi_yX8_personNamed wsl_yX8_personNamed (Nat.le_of_ble_eq_true rfl) rfl (gO_of g1) rfl (Nat.le_of_ble_eq_true rfl) ⟨Nat.le_of_ble_eq_true rfl, Nat.le_of_ble_eq_true rfl⟩ ⟨Nat.zero_le _, Nat.zero_le _⟩ dX8_passName_41 ?_
      refine fw_istore_n C [(2, _), (0, _), (1, _)] dX8_passName_44 rfl (Nat.le_of_ble_eq_true rfl) rfl ?_
      refine fw_iload_n C 0 dX8_passName_45 rfl rfl ?_
      refine fw_iconst C (-1) dX8_passName_46 rfl ?_
      refine fw_icmp_eq C 55 dX8_passName_47 (by decide) (fun c7 => ?_) (fun c7 => ?_)
      · replace h := (if_pos c7).symm.trans h
        refine fw_aload_n C 1 dX8_passName_55 rfl rfl ?_
        refine fw_getR C 8 0 (Nat.le_of_ble_eq_true rfl) (Nat.le_of_ble_eq_true rfl) wf_X8_9 rfl (gO_of g1) (gN_of g2) dX8_passName_56 ?_
        refine fw_iconst C 3 dX8_passName_59 rfl ?_
        obtain ⟨M8, e8, h⟩ := b1_some h
        refine fw_callV (ci := 7) [_] C (c_X7_fail hl e8) cal_X7_fail wm_X8_85 wi_yX7_fail wsl_yX7_fail (Nat.le_of_ble_eq_true rfl) rfl (gO_of g3) rfl (Nat.le_of_ble_eq_true rfl) ⟨Nat.le_of_ble_eq_true rfl, Nat.le_of_ble_eq_true rfl⟩ ⟨Nat.zero_le _, Nat.zero_le _⟩ dX8_passName_60 ?_
        refine fw_iconst C (-1) dX8_passName_63 rfl ?_
        obtain rfl := Option.some.inj h
        exact fw_iret C hr hlk dX8_passName_64
      · replace h := (if_neg c7).symm.trans h
        refine fw_iload_n C 0 dX8_passName_50 rfl rfl ?_
        refine fw_iload_n C 2 dX8_passName_51 rfl rfl ?_
        refine fw_icmp_ne C 65 dX8_passName_52 (by decide) (fun c9 => ?_) (fun c9 => ?_)
        · replace h := (if_neg c9).symm.trans h
          refine fw_aload_n C 1 dX8_passName_65 rfl rfl ?_
          refine fw_getR C 8 0 (Nat.le_of_ble_eq_true rfl) (Nat.le_of_ble_eq_true rfl) wf_X8_9 rfl (gO_of g1) (gN_of g2) dX8_passName_66 ?_
          obtain ⟨M10, e10, h⟩ := b1_some h
          refine fw_callV (ci := 7) [] C (c_X7_advance hl e10) cal_X7_advance wm_X8_91 wi_yX7_advance wsl_yX7_advance (Nat.le_of_ble_eq_true rfl) rfl (gO_of g3) rfl (Nat.le_of_ble_eq_true rfl) ⟨Nat.le_of_ble_eq_true rfl, Nat.le_of_ble_eq_true rfl⟩ ⟨Nat.zero_le _, Nat.zero_le _⟩ dX8_passName_69 ?_
          refine fw_iload_n C 0 dX8_passName_72 rfl rfl ?_
          obtain rfl := Option.some.inj h
          exact fw_iret C hr hlk dX8_passName_73
        · replace h := (if_pos c9).symm.trans h
          refine fw_aload_n C 1 dX8_passName_55 rfl rfl ?_
          refine fw_getR C 8 0 (Nat.le_of_ble_eq_true rfl) (Nat.le_of_ble_eq_true rfl) wf_X8_9 rfl (gO_of g1) (gN_of g2) dX8_passName_56 ?_
          refine fw_iconst C 3 dX8_passName_59 rfl ?_
          obtain ⟨M11, e11, h⟩ := b1_some h
          refine fw_callV (ci := 7) [_] C (c_X7_fail hl e11) cal_X7_fail wm_X8_85 wi_yX7_fail wsl_yX7_fail (Nat.le_of_ble_eq_true rfl) rfl (gO_of g3) rfl (Nat.le_of_ble_eq_true rfl) ⟨Nat.le_of_ble_eq_true rfl, Nat.le_of_ble_eq_true rfl⟩ ⟨Nat.zero_le _, Nat.zero_le _⟩ dX8_passName_60 ?_
          refine fw_iconst C (-1) dX8_passName_63 rfl ?_
          obtain rfl := Option.some.inj h
          exact fw_iret C hr hlk dX8_passName_64
    · replace h := (if_neg c5).symm.trans h
      refine fw_iconst C (-1) dX8_passName_38 rfl ?_
      obtain rfl := Option.some.inj h
      exact fw_iret C hr hlk dX8_passName_39
  · replace h := (if_pos c4).symm.trans h
    refine fw_aload_n C 0 dX8_passName_10 rfl rfl ?_
    refine fw_getR C 8 0 (Nat.le_of_ble_eq_true rfl) (Nat.le_of_ble_eq_true rfl) wf_X8_9 rfl (gO_of g1) (gN_of g2) dX8_passName_11 ?_
    obtain ⟨v12, e12, h⟩ := b1_some h
    refine fw_callV (ci := 7) [] C (c_X7_isName hl e12) cal_X7_isName wm_X8_94 wi_yX7_isName wsl_yX7_isName (Nat.le_of_ble_eq_true rfl) rfl (gO_of g3) rfl (Nat.le_of_ble_eq_true rfl) ⟨Nat.le_of_ble_eq_true rfl, Nat.le_of_ble_eq_true rfl⟩ ⟨Nat.zero_le _, Nat.zero_le _⟩ dX8_passName_14 ?_
    refine fw_if_ne C 28 dX8_passName_17 (by decide) (fun c13 => ?_) (fun c13 => ?_)
    · replace h := (if_neg c13).symm.trans h
      refine fw_aload_n C 0 dX8_passName_28 rfl rfl ?_
      refine fw_getR C 8 0 (Nat.le_of_ble_eq_true rfl) (Nat.le_of_ble_eq_true rfl) wf_X8_9 rfl (gO_of g1) (gN_of g2) dX8_passName_29 ?_
      refine fw_getI C 7 7 (Nat.le_of_ble_eq_true rfl) (Nat.le_of_ble_eq_true rfl) wf_X8_30 rfl (gO_of g3) dX8_passName_32 ?_
      refine fw_if_eq C 40 dX8_passName_35 (by decide) (fun c14 => ?_) (fun c14 => ?_)
      · replace h := (if_pos c14).symm.trans h
        refine fw_aload_n C 0 dX8_passName_40 rfl rfl ?_
        obtain ⟨v15, e15, h⟩ := b1_some h
        refine fw_callV (ci := 8) [] C (c_X8_personNamed hl e15) cal_X8_personNamed wm_X8_98 wi_yX8_personNamed wsl_yX8_personNamed (Nat.le_of_ble_eq_true rfl) rfl (gO_of g1) rfl (Nat.le_of_ble_eq_true rfl) ⟨Nat.le_of_ble_eq_true rfl, Nat.le_of_ble_eq_true rfl⟩ ⟨Nat.zero_le _, Nat.zero_le _⟩ dX8_passName_41 ?_
        refine fw_istore_n C [(2, _), (0, _), (1, _)] dX8_passName_44 rfl (Nat.le_of_ble_eq_true rfl) rfl ?_
        refine fw_iload_n C 0 dX8_passName_45 rfl rfl ?_
        refine fw_iconst C (-1) dX8_passName_46 rfl ?_
        refine fw_icmp_eq C 55 dX8_passName_47 (by decide) (fun c16 => ?_) (fun c16 => ?_)
        · replace h := (if_pos c16).symm.trans h
          refine fw_aload_n C 1 dX8_passName_55 rfl rfl ?_
          refine fw_getR C 8 0 (Nat.le_of_ble_eq_true rfl) (Nat.le_of_ble_eq_true rfl) wf_X8_9 rfl (gO_of g1) (gN_of g2) dX8_passName_56 ?_
          refine fw_iconst C 3 dX8_passName_59 rfl ?_
          obtain ⟨M17, e17, h⟩ := b1_some h
          refine fw_callV (ci := 7) [_] C (c_X7_fail hl e17) cal_X7_fail wm_X8_85 wi_yX7_fail wsl_yX7_fail (Nat.le_of_ble_eq_true rfl) rfl (gO_of g3) rfl (Nat.le_of_ble_eq_true rfl) ⟨Nat.le_of_ble_eq_true rfl, Nat.le_of_ble_eq_true rfl⟩ ⟨Nat.zero_le _, Nat.zero_le _⟩ dX8_passName_60 ?_
          refine fw_iconst C (-1) dX8_passName_63 rfl ?_
          obtain rfl := Option.some.inj h
          exact fw_iret C hr hlk dX8_passName_64
        · replace h := (if_neg c16).symm.trans h
          refine fw_iload_n C 0 dX8_passName_50 rfl rfl ?_
          refine fw_iload_n C 2 dX8_passName_51 rfl rfl ?_
          refine fw_icmp_ne C 65 dX8_passName_52 (by decide) (fun c18 => ?_) (fun c18 => ?_)
          · replace h := (if_neg c18).symm.trans h
            refine fw_aload_n C 1 dX8_passName_65 rfl rfl ?_
            refine fw_getR C 8 0 (Nat.le_of_ble_eq_true rfl) (Nat.le_of_ble_eq_true rfl) wf_X8_9 rfl (gO_of g1) (gN_of g2) dX8_passName_66 ?_
            obtain ⟨M19, e19, h⟩ := b1_some h
            refine fw_callV (ci := 7) [] C (c_X7_advance hl e19) cal_X7_advance wm_X8_91 wi_yX7_advance wsl_yX7_advance (Nat.le_of_ble_eq_true rfl) rfl (gO_of g3) rfl (Nat.le_of_ble_eq_true rfl) ⟨Nat.le_of_ble_eq_true rfl, Nat.le_of_ble_eq_true rfl⟩ ⟨Nat.zero_le _, Nat.zero_le _⟩ dX8_passName_69 ?_
            refine fw_iload_n C 0 dX8_passName_72 rfl rfl ?_
            obtain rfl := Option.some.inj h
            exact fw_iret C hr hlk dX8_passName_73
          · replace h := (if_pos c18).symm.trans h
            refine fw_aload_n C 1 dX8_passName_55 rfl rfl ?_
            refine fw_getR C 8 0 (Nat.le_of_ble_eq_true rfl) (Nat.le_of_ble_eq_true rfl) wf_X8_9 rfl (gO_of g1) (gN_of g2) dX8_passName_56 ?_
            refine fw_iconst C 3 dX8_passName_59 rfl ?_
            obtain ⟨M20, e20, h⟩ := b1_some h
            refine fw_callV (ci := 7) [_] C (c_X7_fail hl e20) cal_X7_fail wm_X8_85 wi_yX7_fail wsl_yX7_fail (Nat.le_of_ble_eq_true rfl) rfl (gO_of g3) rfl (Nat.le_of_ble_eq_true rfl) ⟨Nat.le_of_ble_eq_true rfl, Nat.le_of_ble_eq_true rfl⟩ ⟨Nat.zero_le _, Nat.zero_le _⟩ dX8_passName_60 ?_
            refine fw_iconst C (-1) dX8_passName_63 rfl ?_
            obtain rfl := Option.some.inj h
            exact fw_iret C hr hlk dX8_passName_64
      · replace h := (if_neg c14).symm.trans h
        refine fw_iconst C (-1) dX8_passName_38 rfl ?_
        obtain rfl := Option.some.inj h
        exact fw_iret C hr hlk dX8_passName_39
    · replace h := (if_pos c13).symm.trans h
      refine fw_aload_n C 0 dX8_passName_20 rfl rfl ?_
      refine fw_getR C 8 0 (Nat.le_of_ble_eq_true rfl) (Nat.le_of_ble_eq_true rfl) wf_X8_9 rfl (gO_of g1) (gN_of g2) dX8_passName_21 ?_
      refine fw_iconst C 1 dX8_passName_24 rfl ?_
      obtain ⟨M21, e21, h⟩ := b1_some h
      refine fw_callV (ci := 7) [_] C (c_X7_fail hl e21) cal_X7_fail wm_X8_85 wi_yX7_fail wsl_yX7_fail (Nat.le_of_ble_eq_true rfl) rfl (gO_of g3) rfl (Nat.le_of_ble_eq_true rfl) ⟨Nat.le_of_ble_eq_true rfl, Nat.le_of_ble_eq_true rfl⟩ ⟨Nat.zero_le _, Nat.zero_le _⟩ dX8_passName_25 ?_
      exact jc_X8_passName_28 C hr hlk hl ht rfl h
set_option maxRecDepth 100000 in
def fj_X8_readLink_67 (S : List fw_Sh) (M : fw_Mem) (a0 : Nat) (x2 : Int32) (x3 : Int32) (x4 : Int32) (z0 : Int32) : Option fw_Mem := gd (gO S 8 a0) (gd (gN (M a0 0)) (gd (gO S 7 ((M a0 0).toNatClampNeg)) (if (M ((M a0 0).toNatClampNeg) 7) = 0 then (gd (gN (M a0 1)) (gd (gO S 4 ((M a0 1).toNatClampNeg)) (b1 (f_X4_insertLink S M ((M a0 1).toNatClampNeg) (M ((M a0 1).toNatClampNeg) 5) x2 x3 x4 z0) (fun M18 => some M18)))) else (some M))))
set_option maxHeartbeats 4000000 in
set_option maxRecDepth 100000 in
theorem jc_X8_readLink_67 {G : fw_G} {p : Program} {l : Launch} {e : Env} {s : State} {m : MethodId} {args : Array Value} {below : List Frame} {meth : Method} {c : Code} {S : List fw_Sh} {M : fw_Mem} {a0 : Nat} {x2 : Int32} {x3 : Int32} {x4 : Int32} {z0 : Int32} {r : fw_Mem} {o : fw_O} (C : fw_C G RX8 cX8_readLink 6 p s m args c) (hr : meth.sig.returnType = none) (hlk : meth.locks = false) (hl : l.stackTraces = false) (ht : ∀ x ∈ c.exceptionTable.toList, False) (ho : o = (.inl none, S, r)) (h : fj_X8_readLink_67 S M a0 x2 x3 x4 z0 = some r) :
    fw_W G p l e (fw_rm 10 (fw_mcO o) (fw_msO o)) s m args below meth c 6 (fw_Z G below args s (fw_mcO o) (fw_msO o) o) 0 0 67 [(0, .ref a0), (2, .int x2), (3, .int x3), (4, .int x4)] [.int z0] S M := by
  subst ho
  unfold fj_X8_readLink_67 at h
  refine fw_istore C [(5, _), (0, _), (2, _), (3, _), (4, _)] dX8_readLink_67 (Nat.le_of_ble_eq_true rfl) rfl ?_
  refine fw_aload_n C 1 dX8_readLink_69 rfl rfl ?_
  obtain ⟨g12, h⟩ := gd_some h
  obtain ⟨g13, h⟩ := gd_some h
  refine fw_getR C 8 0 (Nat.le_of_ble_eq_true rfl) (Nat.le_of_ble_eq_true rfl) wf_X8_9 rfl (gO_of g12) (gN_of g13) dX8_readLink_70 ?_
  obtain ⟨g14, h⟩ := gd_some h
  refine fw_getI C 7 7 (Nat.le_of_ble_eq_true rfl) (Nat.le_of_ble_eq_true rfl) wf_X8_30 rfl (gO_of g14) dX8_readLink_73 ?_
  refine fw_if_ne C 99 dX8_readLink_76 (by decide) (fun c15 => ?_) (fun c15 => ?_)
  · replace h := (if_neg c15).symm.trans h
    obtain rfl := Option.some.inj h
    exact fw_vret C hr hlk dX8_readLink_99
  · replace h := (if_pos c15).symm.trans h
    refine fw_aload_n C 1 dX8_readLink_79 rfl rfl ?_
    obtain ⟨g16, h⟩ := gd_some h
    refine fw_getR C 8 1 (Nat.le_of_ble_eq_true rfl) (Nat.le_of_ble_eq_true rfl) wf_X8_15 rfl (gO_of g12) (gN_of g16) dX8_readLink_80 ?_
    refine fw_aload_n C 1 dX8_readLink_83 rfl rfl ?_
    refine fw_getR C 8 1 (Nat.le_of_ble_eq_true rfl) (Nat.le_of_ble_eq_true rfl) wf_X8_15 rfl (gO_of g12) (gN_of g16) dX8_readLink_84 ?_
    obtain ⟨g17, h⟩ := gd_some h
    refine fw_getI C 4 5 (Nat.le_of_ble_eq_true rfl) (Nat.le_of_ble_eq_true rfl) wf_X8_110 rfl (gO_of g17) dX8_readLink_87 ?_
    refine fw_iload_n C 2 dX8_readLink_90 rfl rfl ?_
    refine fw_iload_n C 3 dX8_readLink_91 rfl rfl ?_
    refine fw_iload C 4 dX8_readLink_92 rfl ?_
    refine fw_iload C 0 dX8_readLink_94 rfl ?_
    obtain ⟨M18, e18, h⟩ := b1_some h
    refine fw_callV (ci := 4) [_, _, _, _, _] C (c_X4_insertLink hl e18) cal_X4_insertLink wm_X8_120 wi_yX4_insertLink wsl_yX4_insertLink (Nat.le_of_ble_eq_true rfl) rfl (gO_of g17) rfl (Nat.le_of_ble_eq_true rfl) ⟨Nat.le_of_ble_eq_true rfl, Nat.le_of_ble_eq_true rfl⟩ ⟨Nat.zero_le _, Nat.zero_le _⟩ dX8_readLink_96 ?_
    obtain rfl := Option.some.inj h
    exact fw_vret C hr hlk dX8_readLink_99
set_option maxRecDepth 100000 in
def f_X8_readLink (S : List fw_Sh) (M : fw_Mem) (a0 : Nat) (x1 : Int32) : Option fw_Mem := gd (gO S 8 a0) (gd (gN (M a0 1)) (gd (gO S 4 ((M a0 1).toNatClampNeg)) (if (M ((M a0 1).toNatClampNeg) 5) < 24 then (gd (gN (M a0 0)) (gd (gO S 7 ((M a0 0).toNatClampNeg)) (b1 (f_X7_advance S M ((M a0 0).toNatClampNeg)) (fun M6 => b2 (f_X8_passName S M6 a0 (-1)) (fun v8 M8 => b2 (f_X8_passName S M8 a0 v8) (fun v9 M9 => b2 (f_X8_passNumber S M9 a0 0 9999) (fun v10 M10 => if x1 = 0 then fj_X8_readLink_67 S M10 a0 v8 v9 v10 (-1) else (b2 (f_X8_passNumber S M10 a0 v10 9999) (fun v19 M19 => fj_X8_readLink_67 S M19 a0 v8 v9 v10 v19))))))))) else (gd (gN (M a0 0)) (gd (gO S 7 ((M a0 0).toNatClampNeg)) (b1 (f_X7_fail S M ((M a0 0).toNatClampNeg) 4) (fun M21 => some M21)))))))
set_option maxHeartbeats 4000000 in
set_option maxRecDepth 100000 in
theorem c_X8_readLink {l : Launch} {G : fw_G} {S : List fw_Sh} {M : fw_Mem} {a0 : Nat} {x1 : Int32} {r : fw_Mem} (hl : l.stackTraces = false) (h : f_X8_readLink S M a0 x1 = some r) : fw_M l G yX8_readLink (.code yX8_readLink cX8_readLink 6 none) 10 (fw_mcO (.inl none, S, r)) (fw_msO (.inl none, S, r)) S M [.ref a0, .int x1] (.inl none, S, r) := by
  refine fw_of [(0, .ref a0), (1, .int x1)] (by decide) (Nat.le_of_ble_eq_true rfl) rfl ?_
  intro p e s m args below meth c C hr hlk hnm ht _
  unfold f_X8_readLink at h
  refine fw_aload_n C 0 dX8_readLink_0 rfl rfl ?_
  obtain ⟨g1, h⟩ := gd_some h
  obtain ⟨g2, h⟩ := gd_some h
  refine fw_getR C 8 1 (Nat.le_of_ble_eq_true rfl) (Nat.le_of_ble_eq_true rfl) wf_X8_15 rfl (gO_of g1) (gN_of g2) dX8_readLink_1 ?_
  obtain ⟨g3, h⟩ := gd_some h
  refine fw_getI C 4 5 (Nat.le_of_ble_eq_true rfl) (Nat.le_of_ble_eq_true rfl) wf_X8_110 rfl (gO_of g3) dX8_readLink_4 ?_
  refine fw_bipush C 24 dX8_readLink_7 rfl ?_
  refine fw_icmp_lt C 21 dX8_readLink_9 (by decide) (fun c4 => ?_) (fun c4 => ?_)
  · replace h := (if_pos c4).symm.trans h
    refine fw_aload_n C 0 dX8_readLink_21 rfl rfl ?_
    obtain ⟨g5, h⟩ := gd_some h
    refine fw_getR C 8 0 (Nat.le_of_ble_eq_true rfl) (Nat.le_of_ble_eq_true rfl) wf_X8_9 rfl (gO_of g1) (gN_of g5) dX8_readLink_22 ?_
    obtain ⟨g7, h⟩ := gd_some h
    obtain ⟨M6, e6, h⟩ := b1_some h
    refine fw_callV (ci := 7) [] C (c_X7_advance hl e6) cal_X7_advance wm_X8_91 wi_yX7_advance wsl_yX7_advance (Nat.le_of_ble_eq_true rfl) rfl (gO_of g7) rfl (Nat.le_of_ble_eq_true rfl) ⟨Nat.le_of_ble_eq_true rfl, Nat.le_of_ble_eq_true rfl⟩ ⟨Nat.zero_le _, Nat.zero_le _⟩ dX8_readLink_25 ?_
    refine fw_aload_n C 0 dX8_readLink_28 rfl rfl ?_
    refine fw_iconst C (-1) dX8_readLink_29 rfl ?_
    obtain ⟨v8, M8, e8, h⟩ := b2_some h
    refine fw_callV (ci := 8) [_] C (c_X8_passName hl e8) cal_X8_passName wm_X8_113 wi_yX8_passName wsl_yX8_passName (Nat.le_of_ble_eq_true rfl) rfl (gO_of g1) rfl (Nat.le_of_ble_eq_true rfl) ⟨Nat.le_of_ble_eq_true rfl, Nat.le_of_ble_eq_true rfl⟩ ⟨Nat.zero_le _, Nat.zero_le _⟩ dX8_readLink_30 ?_
    refine fw_istore_n C [(2, _), (0, _), (1, _)] dX8_readLink_33 rfl (Nat.le_of_ble_eq_true rfl) rfl ?_
    refine fw_aload_n C 1 dX8_readLink_34 rfl rfl ?_
    refine fw_iload_n C 0 dX8_readLink_35 rfl rfl ?_
    obtain ⟨v9, M9, e9, h⟩ := b2_some h
    refine fw_callV (ci := 8) [_] C (c_X8_passName hl e9) cal_X8_passName wm_X8_113 wi_yX8_passName wsl_yX8_passName (Nat.le_of_ble_eq_true rfl) rfl (gO_of g1) rfl (Nat.le_of_ble_eq_true rfl) ⟨Nat.le_of_ble_eq_true rfl, Nat.le_of_ble_eq_true rfl⟩ ⟨Nat.zero_le _, Nat.zero_le _⟩ dX8_readLink_36 ?_
    refine fw_istore_n C [(3, _), (2, _), (0, _), (1, _)] dX8_readLink_39 rfl (Nat.le_of_ble_eq_true rfl) rfl ?_
    refine fw_aload_n C 2 dX8_readLink_40 rfl rfl ?_
    refine fw_iconst C 0 dX8_readLink_41 rfl ?_
    refine fw_sipush C 9999 dX8_readLink_42 rfl ?_
    obtain ⟨v10, M10, e10, h⟩ := b2_some h
    refine fw_callV (ci := 8) [_, _] C (c_X8_passNumber hl e10) cal_X8_passNumber wm_X8_116 wi_yX8_passNumber wsl_yX8_passNumber (Nat.le_of_ble_eq_true rfl) rfl (gO_of g1) rfl (Nat.le_of_ble_eq_true rfl) ⟨Nat.le_of_ble_eq_true rfl, Nat.le_of_ble_eq_true rfl⟩ ⟨Nat.zero_le _, Nat.zero_le _⟩ dX8_readLink_45 ?_
    refine fw_istore C [(4, _), (3, _), (2, _), (0, _), (1, _)] dX8_readLink_48 (Nat.le_of_ble_eq_true rfl) rfl ?_
    refine fw_iload_n C 4 dX8_readLink_50 rfl rfl ?_
    refine fw_if_eq C 66 dX8_readLink_51 (by decide) (fun c11 => ?_) (fun c11 => ?_)
    · replace h := (if_pos c11).symm.trans h
      refine fw_iconst C (-1) dX8_readLink_66 rfl ?_
      refine fw_sub [3, 2, 1, 0] rfl ?_
      exact jc_X8_readLink_67 C hr hlk hl ht rfl h
    · replace h := (if_neg c11).symm.trans h
      refine fw_aload_n C 3 dX8_readLink_54 rfl rfl ?_
      refine fw_iload C 0 dX8_readLink_55 rfl ?_
      refine fw_sipush C 9999 dX8_readLink_57 rfl ?_
      obtain ⟨v19, M19, e19, h⟩ := b2_some h
      refine fw_callV (ci := 8) [_, _] C (c_X8_passNumber hl e19) cal_X8_passNumber wm_X8_116 wi_yX8_passNumber wsl_yX8_passNumber (Nat.le_of_ble_eq_true rfl) rfl (gO_of g1) rfl (Nat.le_of_ble_eq_true rfl) ⟨Nat.le_of_ble_eq_true rfl, Nat.le_of_ble_eq_true rfl⟩ ⟨Nat.zero_le _, Nat.zero_le _⟩ dX8_readLink_60 ?_
      refine fw_goto C 67 dX8_readLink_63 (by decide) ?_
      refine fw_sub [3, 2, 1, 0] rfl ?_
      exact jc_X8_readLink_67 C hr hlk hl ht rfl h
  · replace h := (if_neg c4).symm.trans h
    refine fw_aload_n C 0 dX8_readLink_12 rfl rfl ?_
    obtain ⟨g20, h⟩ := gd_some h
    refine fw_getR C 8 0 (Nat.le_of_ble_eq_true rfl) (Nat.le_of_ble_eq_true rfl) wf_X8_9 rfl (gO_of g1) (gN_of g20) dX8_readLink_13 ?_
    refine fw_iconst C 4 dX8_readLink_16 rfl ?_
    obtain ⟨g22, h⟩ := gd_some h
    obtain ⟨M21, e21, h⟩ := b1_some h
    refine fw_callV (ci := 7) [_] C (c_X7_fail hl e21) cal_X7_fail wm_X8_85 wi_yX7_fail wsl_yX7_fail (Nat.le_of_ble_eq_true rfl) rfl (gO_of g22) rfl (Nat.le_of_ble_eq_true rfl) ⟨Nat.le_of_ble_eq_true rfl, Nat.le_of_ble_eq_true rfl⟩ ⟨Nat.zero_le _, Nat.zero_le _⟩ dX8_readLink_17 ?_
    obtain rfl := Option.some.inj h
    exact fw_vret C hr hlk dX8_readLink_20
set_option maxRecDepth 100000 in
def lf_X8_readPerson_66 (S : List fw_Sh) (a0 : Nat) : Nat → Int32 → fw_Mem → Option (fw_Mem)
  | 0, _, _ => none
  | n + 1, x1, M => if (6 : Int32) ≤ x1 then (some M) else (gd (gO S 8 a0) (gd (gN (M a0 1)) (gd (gO S 4 ((M a0 1).toNatClampNeg)) (gd (gN (M ((M a0 1).toNatClampNeg) 0)) (gd (gN (M a0 0)) (gd (gO S 7 ((M a0 0).toNatClampNeg)) (b1 (f_X7_letterOf S M ((M a0 0).toNatClampNeg) x1) (fun v20 => gd (gA S 0 ((M ((M a0 1).toNatClampNeg) 0).toNatClampNeg) (((M ((M a0 1).toNatClampNeg) 4) * 6) + x1)) (bm (fw_set M ((M ((M a0 1).toNatClampNeg) 0).toNatClampNeg) (((M ((M a0 1).toNatClampNeg) 4) * 6) + x1).toNatClampNeg v20) (fun M23 => lf_X8_readPerson_66 S a0 n (x1 + 1) M23))))))))))
set_option maxHeartbeats 4000000 in
set_option maxRecDepth 100000 in
theorem lc_X8_readPerson_66 {G : fw_G} {p : Program} {l : Launch} {e : Env} {s : State} {m : MethodId} {args : Array Value} {below : List Frame} {meth : Method} {c : Code} {S : List fw_Sh} {o : fw_O} {a0 : Nat} (C : fw_C G RX8 cX8_readPerson 2 p s m args c) (hr : meth.sig.returnType = none) (hlk : meth.locks = false) (hl : l.stackTraces = false) (ht : ∀ x ∈ c.exceptionTable.toList, False) :
    ∀ {n : Nat} {x1 : Int32} {M : fw_Mem} {r : (fw_Mem)} (h : lf_X8_readPerson_66 S a0 n x1 M = some r) (kx : fw_W G p l e (fw_rm 9 (fw_mcO o) (fw_msO o)) s m args below meth c 2 (fw_Z G below args s (fw_mcO o) (fw_msO o) o) 0 0 106 [(0, .ref a0)] [] S r), fw_W G p l e (fw_rm 9 (fw_mcO o) (fw_msO o)) s m args below meth c 2 (fw_Z G below args s (fw_mcO o) (fw_msO o) o) 0 0 66 [(0, .ref a0), (1, .int x1)] [] S M := by
  intro n
  induction n with
  | zero =>
    intro x1 M r h
    exact nomatch (show (none : Option (fw_Mem)) = some r from h)
  | succ n ih =>
    intro x1 M r h kx
    rw [lf_X8_readPerson_66.eq_2] at h
    refine fw_iload_n C 1 dX8_readPerson_66 rfl rfl ?_
    refine fw_bipush C 6 dX8_readPerson_67 rfl ?_
    refine fw_icmp_ge C 106 dX8_readPerson_69 (by decide) (fun c14 => ?_) (fun c14 => ?_)
    · replace h := (if_pos c14).symm.trans h
      obtain rfl := Option.some.inj h
      refine fw_sub [0] rfl ?_
      exact kx
    · replace h := (if_neg c14).symm.trans h
      refine fw_aload_n C 0 dX8_readPerson_72 rfl rfl ?_
      obtain ⟨g15, h⟩ := gd_some h
      obtain ⟨g16, h⟩ := gd_some h
      refine fw_getR C 8 1 (Nat.le_of_ble_eq_true rfl) (Nat.le_of_ble_eq_true rfl) wf_X8_15 rfl (gO_of g15) (gN_of g16) dX8_readPerson_73 ?_
      obtain ⟨g17, h⟩ := gd_some h
      obtain ⟨g18, h⟩ := gd_some h
      refine fw_getR C 4 0 (Nat.le_of_ble_eq_true rfl) (Nat.le_of_ble_eq_true rfl) wf_X8_102 rfl (gO_of g17) (gN_of g18) dX8_readPerson_76 ?_
      refine fw_aload_n C 0 dX8_readPerson_79 rfl rfl ?_
      refine fw_getR C 8 1 (Nat.le_of_ble_eq_true rfl) (Nat.le_of_ble_eq_true rfl) wf_X8_15 rfl (gO_of g15) (gN_of g16) dX8_readPerson_80 ?_
      refine fw_getI C 4 4 (Nat.le_of_ble_eq_true rfl) (Nat.le_of_ble_eq_true rfl) wf_X8_88 rfl (gO_of g17) dX8_readPerson_83 ?_
      refine fw_bipush C 6 dX8_readPerson_86 rfl ?_
      refine fw_imul C dX8_readPerson_88 ?_
      refine fw_iload_n C 1 dX8_readPerson_89 rfl rfl ?_
      refine fw_iadd C dX8_readPerson_90 ?_
      refine fw_aload_n C 0 dX8_readPerson_91 rfl rfl ?_
      obtain ⟨g19, h⟩ := gd_some h
      refine fw_getR C 8 0 (Nat.le_of_ble_eq_true rfl) (Nat.le_of_ble_eq_true rfl) wf_X8_9 rfl (gO_of g15) (gN_of g19) dX8_readPerson_92 ?_
      refine fw_iload_n C 1 dX8_readPerson_95 rfl rfl ?_
      obtain ⟨g21, h⟩ := gd_some h
      obtain ⟨v20, e20, h⟩ := b1_some h
      refine fw_callV (ci := 7) [_] C (c_X7_letterOf hl e20) cal_X7_letterOf wm_X8_106 wi_yX7_letterOf wsl_yX7_letterOf (Nat.le_of_ble_eq_true rfl) rfl (gO_of g21) rfl (Nat.le_of_ble_eq_true rfl) ⟨Nat.le_of_ble_eq_true rfl, Nat.le_of_ble_eq_true rfl⟩ ⟨Nat.zero_le _, Nat.zero_le _⟩ dX8_readPerson_96 ?_
      obtain ⟨g22, h⟩ := gd_some h
      refine fw_iast C (gA_of g22) dX8_readPerson_99 ?_
      refine fw_bm h (fun M23 h => ?_)
      refine fw_iinc C _ 1 [(1, _), (0, _)] dX8_readPerson_100 rfl rfl (Nat.le_of_ble_eq_true rfl) rfl ?_
      refine fw_goto C 66 dX8_readPerson_103 (by decide) ?_
      refine fw_sub [1, 0] rfl ?_
      exact ih h kx
set_option maxRecDepth 100000 in
def f_X8_readPerson (S : List fw_Sh) (M : fw_Mem) (a0 : Nat) : Option fw_Mem := gd (gO S 8 a0) (gd (gN (M a0 1)) (gd (gO S 4 ((M a0 1).toNatClampNeg)) (if (M ((M a0 1).toNatClampNeg) 4) < 12 then (gd (gN (M a0 0)) (gd (gO S 7 ((M a0 0).toNatClampNeg)) (b1 (f_X7_advance S M ((M a0 0).toNatClampNeg)) (fun M6 => gd (gN (M6 a0 0)) (gd (gO S 7 ((M6 a0 0).toNatClampNeg)) (b1 (f_X7_isName S M6 ((M6 a0 0).toNatClampNeg)) (fun v9 => if v9 = 0 then (b1 (f_X7_fail S M6 ((M6 a0 0).toNatClampNeg) 1) (fun M32 => some M32)) else (b1 (f_X8_personNamed S M6 a0) (fun v12 => if v12 = (-1) then (b1 (lf_X8_readPerson_66 S a0 20000 0 M6) (fun l24 => gd (gN (l24 a0 1)) (gd (gO S 4 ((l24 a0 1).toNatClampNeg)) (bm (fw_set l24 ((l24 a0 1).toNatClampNeg) 4 ((l24 ((l24 a0 1).toNatClampNeg) 4) + 1)) (fun M27 => gd (gN (M27 a0 0)) (gd (gO S 7 ((M27 a0 0).toNatClampNeg)) (b1 (f_X7_advance S M27 ((M27 a0 0).toNatClampNeg)) (fun M29 => some M29)))))))) else (b1 (f_X7_fail S M6 ((M6 a0 0).toNatClampNeg) 3) (fun M31 => some M31))))))))))) else (gd (gN (M a0 0)) (gd (gO S 7 ((M a0 0).toNatClampNeg)) (b1 (f_X7_fail S M ((M a0 0).toNatClampNeg) 4) (fun M34 => some M34)))))))
set_option maxHeartbeats 4000000 in
set_option maxRecDepth 100000 in
theorem c_X8_readPerson {l : Launch} {G : fw_G} {S : List fw_Sh} {M : fw_Mem} {a0 : Nat} {r : fw_Mem} (hl : l.stackTraces = false) (h : f_X8_readPerson S M a0 = some r) : fw_M l G yX8_readPerson (.code yX8_readPerson cX8_readPerson 2 none) 9 (fw_mcO (.inl none, S, r)) (fw_msO (.inl none, S, r)) S M [.ref a0] (.inl none, S, r) := by
  refine fw_of [(0, .ref a0)] (by decide) (Nat.le_of_ble_eq_true rfl) rfl ?_
  intro p e s m args below meth c C hr hlk hnm ht _
  unfold f_X8_readPerson at h
  refine fw_aload_n C 0 dX8_readPerson_0 rfl rfl ?_
  obtain ⟨g1, h⟩ := gd_some h
  obtain ⟨g2, h⟩ := gd_some h
  refine fw_getR C 8 1 (Nat.le_of_ble_eq_true rfl) (Nat.le_of_ble_eq_true rfl) wf_X8_15 rfl (gO_of g1) (gN_of g2) dX8_readPerson_1 ?_
  obtain ⟨g3, h⟩ := gd_some h
  refine fw_getI C 4 4 (Nat.le_of_ble_eq_true rfl) (Nat.le_of_ble_eq_true rfl) wf_X8_88 rfl (gO_of g3) dX8_readPerson_4 ?_
  refine fw_bipush C 12 dX8_readPerson_7 rfl ?_
  refine fw_icmp_lt C 21 dX8_readPerson_9 (by decide) (fun c4 => ?_) (fun c4 => ?_)
  · replace h := (if_pos c4).symm.trans h
    refine fw_aload_n C 0 dX8_readPerson_21 rfl rfl ?_
    obtain ⟨g5, h⟩ := gd_some h
    refine fw_getR C 8 0 (Nat.le_of_ble_eq_true rfl) (Nat.le_of_ble_eq_true rfl) wf_X8_9 rfl (gO_of g1) (gN_of g5) dX8_readPerson_22 ?_
    obtain ⟨g7, h⟩ := gd_some h
    obtain ⟨M6, e6, h⟩ := b1_some h
    refine fw_callV (ci := 7) [] C (c_X7_advance hl e6) cal_X7_advance wm_X8_91 wi_yX7_advance wsl_yX7_advance (Nat.le_of_ble_eq_true rfl) rfl (gO_of g7) rfl (Nat.le_of_ble_eq_true rfl) ⟨Nat.le_of_ble_eq_true rfl, Nat.le_of_ble_eq_true rfl⟩ ⟨Nat.zero_le _, Nat.zero_le _⟩ dX8_readPerson_25 ?_
    refine fw_aload_n C 0 dX8_readPerson_28 rfl rfl ?_
    obtain ⟨g8, h⟩ := gd_some h
    refine fw_getR C 8 0 (Nat.le_of_ble_eq_true rfl) (Nat.le_of_ble_eq_true rfl) wf_X8_9 rfl (gO_of g1) (gN_of g8) dX8_readPerson_29 ?_
    obtain ⟨g10, h⟩ := gd_some h
    obtain ⟨v9, e9, h⟩ := b1_some h
    refine fw_callV (ci := 7) [] C (c_X7_isName hl e9) cal_X7_isName wm_X8_94 wi_yX7_isName wsl_yX7_isName (Nat.le_of_ble_eq_true rfl) rfl (gO_of g10) rfl (Nat.le_of_ble_eq_true rfl) ⟨Nat.le_of_ble_eq_true rfl, Nat.le_of_ble_eq_true rfl⟩ ⟨Nat.zero_le _, Nat.zero_le _⟩ dX8_readPerson_32 ?_
    refine fw_if_ne C 47 dX8_readPerson_35 (by decide) (fun c11 => ?_) (fun c11 => ?_)
    · replace h := (if_neg c11).symm.trans h
      refine fw_aload_n C 0 dX8_readPerson_47 rfl rfl ?_
      obtain ⟨v12, e12, h⟩ := b1_some h
      refine fw_callV (ci := 8) [] C (c_X8_personNamed hl e12) cal_X8_personNamed wm_X8_98 wi_yX8_personNamed wsl_yX8_personNamed (Nat.le_of_ble_eq_true rfl) rfl (gO_of g1) rfl (Nat.le_of_ble_eq_true rfl) ⟨Nat.le_of_ble_eq_true rfl, Nat.le_of_ble_eq_true rfl⟩ ⟨Nat.zero_le _, Nat.zero_le _⟩ dX8_readPerson_48 ?_
      refine fw_iconst C (-1) dX8_readPerson_51 rfl ?_
      refine fw_icmp_eq C 64 dX8_readPerson_52 (by decide) (fun c13 => ?_) (fun c13 => ?_)
      · replace h := (if_pos c13).symm.trans h
        refine fw_iconst C 0 dX8_readPerson_64 rfl ?_
        refine fw_istore_n C [(1, _), (0, _)] dX8_readPerson_65 rfl (Nat.le_of_ble_eq_true rfl) rfl ?_
        refine fw_sub [1, 0] rfl ?_
        obtain ⟨l24, e24, h⟩ := b1_some h
        refine lc_X8_readPerson_66 C hr hlk hl ht e24 ?_
        refine fw_aload_n C 0 dX8_readPerson_106 rfl rfl ?_
        obtain ⟨g25, h⟩ := gd_some h
        refine fw_getR C 8 1 (Nat.le_of_ble_eq_true rfl) (Nat.le_of_ble_eq_true rfl) wf_X8_15 rfl (gO_of g1) (gN_of g25) dX8_readPerson_107 ?_
        refine fw_dup C dX8_readPerson_110 rfl ?_
        obtain ⟨g26, h⟩ := gd_some h
        refine fw_getI C 4 4 (Nat.le_of_ble_eq_true rfl) (Nat.le_of_ble_eq_true rfl) wf_X8_88 rfl (gO_of g26) dX8_readPerson_111 ?_
        refine fw_iconst C 1 dX8_readPerson_114 rfl ?_
        refine fw_iadd C dX8_readPerson_115 ?_
        refine fw_putI C 4 4 (Nat.le_of_ble_eq_true rfl) (Nat.le_of_ble_eq_true rfl) wf_X8_88 rfl rfl rfl rfl (gO_of g26) dX8_readPerson_116 ?_
        refine fw_bm h (fun M27 h => ?_)
        refine fw_aload_n C 0 dX8_readPerson_119 rfl rfl ?_
        obtain ⟨g28, h⟩ := gd_some h
        refine fw_getR C 8 0 (Nat.le_of_ble_eq_true rfl) (Nat.le_of_ble_eq_true rfl) wf_X8_9 rfl (gO_of g1) (gN_of g28) dX8_readPerson_120 ?_
        obtain ⟨g30, h⟩ := gd_some h
        obtain ⟨M29, e29, h⟩ := b1_some h
        refine fw_callV (ci := 7) [] C (c_X7_advance hl e29) cal_X7_advance wm_X8_91 wi_yX7_advance wsl_yX7_advance (Nat.le_of_ble_eq_true rfl) rfl (gO_of g30) rfl (Nat.le_of_ble_eq_true rfl) ⟨Nat.le_of_ble_eq_true rfl, Nat.le_of_ble_eq_true rfl⟩ ⟨Nat.zero_le _, Nat.zero_le _⟩ dX8_readPerson_123 ?_
        obtain rfl := Option.some.inj h
        exact fw_vret C hr hlk dX8_readPerson_126
      · replace h := (if_neg c13).symm.trans h
        refine fw_aload_n C 0 dX8_readPerson_55 rfl rfl ?_
        refine fw_getR C 8 0 (Nat.le_of_ble_eq_true rfl) (Nat.le_of_ble_eq_true rfl) wf_X8_9 rfl (gO_of g1) (gN_of g8) dX8_readPerson_56 ?_
        refine fw_iconst C 3 dX8_readPerson_59 rfl ?_
        obtain ⟨M31, e31, h⟩ := b1_some h
        refine fw_callV (ci := 7) [_] C (c_X7_fail hl e31) cal_X7_fail wm_X8_85 wi_yX7_fail wsl_yX7_fail (Nat.le_of_ble_eq_true rfl) rfl (gO_of g10) rfl (Nat.le_of_ble_eq_true rfl) ⟨Nat.le_of_ble_eq_true rfl, Nat.le_of_ble_eq_true rfl⟩ ⟨Nat.zero_le _, Nat.zero_le _⟩ dX8_readPerson_60 ?_
        obtain rfl := Option.some.inj h
        exact fw_vret C hr hlk dX8_readPerson_63
    · replace h := (if_pos c11).symm.trans h
      refine fw_aload_n C 0 dX8_readPerson_38 rfl rfl ?_
      refine fw_getR C 8 0 (Nat.le_of_ble_eq_true rfl) (Nat.le_of_ble_eq_true rfl) wf_X8_9 rfl (gO_of g1) (gN_of g8) dX8_readPerson_39 ?_
      refine fw_iconst C 1 dX8_readPerson_42 rfl ?_
      obtain ⟨M32, e32, h⟩ := b1_some h
      refine fw_callV (ci := 7) [_] C (c_X7_fail hl e32) cal_X7_fail wm_X8_85 wi_yX7_fail wsl_yX7_fail (Nat.le_of_ble_eq_true rfl) rfl (gO_of g10) rfl (Nat.le_of_ble_eq_true rfl) ⟨Nat.le_of_ble_eq_true rfl, Nat.le_of_ble_eq_true rfl⟩ ⟨Nat.zero_le _, Nat.zero_le _⟩ dX8_readPerson_43 ?_
      obtain rfl := Option.some.inj h
      exact fw_vret C hr hlk dX8_readPerson_46
  · replace h := (if_neg c4).symm.trans h
    refine fw_aload_n C 0 dX8_readPerson_12 rfl rfl ?_
    obtain ⟨g33, h⟩ := gd_some h
    refine fw_getR C 8 0 (Nat.le_of_ble_eq_true rfl) (Nat.le_of_ble_eq_true rfl) wf_X8_9 rfl (gO_of g1) (gN_of g33) dX8_readPerson_13 ?_
    refine fw_iconst C 4 dX8_readPerson_16 rfl ?_
    obtain ⟨g35, h⟩ := gd_some h
    obtain ⟨M34, e34, h⟩ := b1_some h
    refine fw_callV (ci := 7) [_] C (c_X7_fail hl e34) cal_X7_fail wm_X8_85 wi_yX7_fail wsl_yX7_fail (Nat.le_of_ble_eq_true rfl) rfl (gO_of g35) rfl (Nat.le_of_ble_eq_true rfl) ⟨Nat.le_of_ble_eq_true rfl, Nat.le_of_ble_eq_true rfl⟩ ⟨Nat.zero_le _, Nat.zero_le _⟩ dX8_readPerson_17 ?_
    obtain rfl := Option.some.inj h
    exact fw_vret C hr hlk dX8_readPerson_20
set_option maxRecDepth 100000 in
def f_X8_readReversed (S : List fw_Sh) (M : fw_Mem) (a0 : Nat) : Option fw_Mem := gd (gO S 8 a0) (gd (gN (M a0 0)) (gd (gO S 7 ((M a0 0).toNatClampNeg)) (b1 (f_X7_advance S M ((M a0 0).toNatClampNeg)) (fun M3 => b2 (f_X8_passSuit S M3 a0 1) (fun v5 M5 => bn v5 (some M5) (fun w5 => gd (gO S 6 w5) (bm (fw_set M5 w5 9 1) (fun M7 => some M7))))))))
set_option maxHeartbeats 4000000 in
set_option maxRecDepth 100000 in
theorem c_X8_readReversed {l : Launch} {G : fw_G} {S : List fw_Sh} {M : fw_Mem} {a0 : Nat} {r : fw_Mem} (hl : l.stackTraces = false) (h : f_X8_readReversed S M a0 = some r) : fw_M l G yX8_readReversed (.code yX8_readReversed cX8_readReversed 2 none) 5 (fw_mcO (.inl none, S, r)) (fw_msO (.inl none, S, r)) S M [.ref a0] (.inl none, S, r) := by
  refine fw_of [(0, .ref a0)] (by decide) (Nat.le_of_ble_eq_true rfl) rfl ?_
  intro p e s m args below meth c C hr hlk hnm ht _
  unfold f_X8_readReversed at h
  refine fw_aload_n C 0 dX8_readReversed_0 rfl rfl ?_
  obtain ⟨g1, h⟩ := gd_some h
  obtain ⟨g2, h⟩ := gd_some h
  refine fw_getR C 8 0 (Nat.le_of_ble_eq_true rfl) (Nat.le_of_ble_eq_true rfl) wf_X8_9 rfl (gO_of g1) (gN_of g2) dX8_readReversed_1 ?_
  obtain ⟨g4, h⟩ := gd_some h
  obtain ⟨M3, e3, h⟩ := b1_some h
  refine fw_callV (ci := 7) [] C (c_X7_advance hl e3) cal_X7_advance wm_X8_91 wi_yX7_advance wsl_yX7_advance (Nat.le_of_ble_eq_true rfl) rfl (gO_of g4) rfl (Nat.le_of_ble_eq_true rfl) ⟨Nat.le_of_ble_eq_true rfl, Nat.le_of_ble_eq_true rfl⟩ ⟨Nat.zero_le _, Nat.zero_le _⟩ dX8_readReversed_4 ?_
  refine fw_aload_n C 0 dX8_readReversed_7 rfl rfl ?_
  refine fw_iconst C 1 dX8_readReversed_8 rfl ?_
  obtain ⟨v5, M5, e5, h⟩ := b2_some h
  rcases v5 with _ | w5
  · refine fw_callV (ci := 8) [_] C (c_X8_passSuit hl e5) cal_X8_passSuit wm_X8_163 wi_yX8_passSuit wsl_yX8_passSuit (Nat.le_of_ble_eq_true rfl) rfl (gO_of g1) rfl (Nat.le_of_ble_eq_true rfl) ⟨Nat.le_of_ble_eq_true rfl, Nat.le_of_ble_eq_true rfl⟩ ⟨Nat.zero_le _, Nat.zero_le _⟩ dX8_readReversed_9 ?_
    refine fw_astore_nN C [(1, _), (0, _)] dX8_readReversed_12 rfl (Nat.le_of_ble_eq_true rfl) rfl ?_
    refine fw_aload_nN C 0 dX8_readReversed_13 rfl rfl ?_
    refine fw_ifnullN C 22 dX8_readReversed_14 (by decide) ?_
    obtain rfl := Option.some.inj h
    exact fw_vret C hr hlk dX8_readReversed_22
  refine fw_callV (ci := 8) [_] C (c_X8_passSuit hl e5) cal_X8_passSuit wm_X8_163 wi_yX8_passSuit wsl_yX8_passSuit (Nat.le_of_ble_eq_true rfl) rfl (gO_of g1) rfl (Nat.le_of_ble_eq_true rfl) ⟨Nat.le_of_ble_eq_true rfl, Nat.le_of_ble_eq_true rfl⟩ ⟨Nat.zero_le _, Nat.zero_le _⟩ dX8_readReversed_9 ?_
  refine fw_astore_n C [(1, _), (0, _)] dX8_readReversed_12 rfl (Nat.le_of_ble_eq_true rfl) rfl ?_
  refine fw_aload_n C 0 dX8_readReversed_13 rfl rfl ?_
  refine fw_ifnull C dX8_readReversed_14 ?_
  refine fw_aload_n C 0 dX8_readReversed_17 rfl rfl ?_
  refine fw_iconst C 1 dX8_readReversed_18 rfl ?_
  obtain ⟨g6, h⟩ := gd_some h
  refine fw_putI C 6 9 (Nat.le_of_ble_eq_true rfl) (Nat.le_of_ble_eq_true rfl) wf_X8_186 rfl rfl rfl rfl (gO_of g6) dX8_readReversed_19 ?_
  refine fw_bm h (fun M7 h => ?_)
  obtain rfl := Option.some.inj h
  exact fw_vret C hr hlk dX8_readReversed_22
set_option maxRecDepth 100000 in
def f_X4_leastOfRule (S : List fw_Sh) (M : fw_Mem) (x0 : Int32) : Option Int32 := if x0 = 0 then (some 1) else (some 0)
set_option maxHeartbeats 4000000 in
set_option maxRecDepth 100000 in
theorem c_X4_leastOfRule {l : Launch} {G : fw_G} {S : List fw_Sh} {M : fw_Mem} {x0 : Int32} {r : Int32} (hl : l.stackTraces = false) (h : f_X4_leastOfRule S M x0 = some r) : fw_M l G yX4_leastOfRule (.code yX4_leastOfRule cX4_leastOfRule 1 (some .int)) 1 (fw_mcO (.inl (some (.int r)), S, M)) (fw_msO (.inl (some (.int r)), S, M)) S M [.int x0] (.inl (some (.int r)), S, M) := by
  refine fw_of [(0, .int x0)] (by decide) (Nat.le_of_ble_eq_true rfl) rfl ?_
  intro p e s m args below meth c C hr hlk hnm ht _
  unfold f_X4_leastOfRule at h
  refine fw_iload_n C 0 dX4_leastOfRule_0 rfl rfl ?_
  refine fw_if_ne C 8 dX4_leastOfRule_1 (by decide) (fun c1 => ?_) (fun c1 => ?_)
  · replace h := (if_neg c1).symm.trans h
    refine fw_iconst C 0 dX4_leastOfRule_8 rfl ?_
    obtain rfl := Option.some.inj h
    exact fw_iret C hr hlk dX4_leastOfRule_9
  · replace h := (if_pos c1).symm.trans h
    refine fw_iconst C 1 dX4_leastOfRule_4 rfl ?_
    refine fw_goto C 9 dX4_leastOfRule_5 (by decide) ?_
    obtain rfl := Option.some.inj h
    exact fw_iret C hr hlk dX4_leastOfRule_9
set_option maxRecDepth 100000 in
def f_X4_mostOfRule (S : List fw_Sh) (M : fw_Mem) (x0 : Int32) : Option Int32 := if x0 = 0 then (some 100) else (if x0 = 1 then (some 2) else (some 1))
set_option maxHeartbeats 4000000 in
set_option maxRecDepth 100000 in
theorem c_X4_mostOfRule {l : Launch} {G : fw_G} {S : List fw_Sh} {M : fw_Mem} {x0 : Int32} {r : Int32} (hl : l.stackTraces = false) (h : f_X4_mostOfRule S M x0 = some r) : fw_M l G yX4_mostOfRule (.code yX4_mostOfRule cX4_mostOfRule 1 (some .int)) 1 (fw_mcO (.inl (some (.int r)), S, M)) (fw_msO (.inl (some (.int r)), S, M)) S M [.int x0] (.inl (some (.int r)), S, M) := by
  refine fw_of [(0, .int x0)] (by decide) (Nat.le_of_ble_eq_true rfl) rfl ?_
  intro p e s m args below meth c C hr hlk hnm ht _
  unfold f_X4_mostOfRule at h
  refine fw_iload_n C 0 dX4_mostOfRule_0 rfl rfl ?_
  refine fw_if_ne C 7 dX4_mostOfRule_1 (by decide) (fun c1 => ?_) (fun c1 => ?_)
  · replace h := (if_neg c1).symm.trans h
    refine fw_iload_n C 0 dX4_mostOfRule_7 rfl rfl ?_
    refine fw_iconst C 1 dX4_mostOfRule_8 rfl ?_
    refine fw_icmp_ne C 16 dX4_mostOfRule_9 (by decide) (fun c2 => ?_) (fun c2 => ?_)
    · replace h := (if_neg c2).symm.trans h
      refine fw_iconst C 1 dX4_mostOfRule_16 rfl ?_
      obtain rfl := Option.some.inj h
      exact fw_iret C hr hlk dX4_mostOfRule_17
    · replace h := (if_pos c2).symm.trans h
      refine fw_iconst C 2 dX4_mostOfRule_12 rfl ?_
      refine fw_goto C 17 dX4_mostOfRule_13 (by decide) ?_
      obtain rfl := Option.some.inj h
      exact fw_iret C hr hlk dX4_mostOfRule_17
  · replace h := (if_pos c1).symm.trans h
    refine fw_bipush C 100 dX4_mostOfRule_4 rfl ?_
    obtain rfl := Option.some.inj h
    exact fw_iret C hr hlk dX4_mostOfRule_6
set_option maxRecDepth 100000 in
def f_X8_readRule (S : List fw_Sh) (M : fw_Mem) (a0 : Nat) (x1 : Int32) : Option fw_Mem := gd (gO S 8 a0) (gd (gN (M a0 0)) (gd (gO S 7 ((M a0 0).toNatClampNeg)) (b1 (f_X7_advance S M ((M a0 0).toNatClampNeg)) (fun M3 => b1 (f_X4_leastOfRule S M3 x1) (fun v5 => b1 (f_X4_mostOfRule S M3 x1) (fun v6 => b2 (f_X8_passNumber S M3 a0 v5 v6) (fun v7 M7 => gd (gN (M7 a0 0)) (gd (gO S 7 ((M7 a0 0).toNatClampNeg)) (if (M7 ((M7 a0 0).toNatClampNeg) 7) = 0 then (gd (gN (M7 a0 1)) (gd (gO S 4 ((M7 a0 1).toNatClampNeg)) (gd (gN (M7 ((M7 a0 1).toNatClampNeg) 3)) (gd (gA S 0 ((M7 ((M7 a0 1).toNatClampNeg) 3).toNatClampNeg) x1) (bm (fw_set M7 ((M7 ((M7 a0 1).toNatClampNeg) 3).toNatClampNeg) x1.toNatClampNeg v7) (fun M15 => some M15)))))) else (some M7))))))))))
set_option maxHeartbeats 4000000 in
set_option maxRecDepth 100000 in
theorem c_X8_readRule {l : Launch} {G : fw_G} {S : List fw_Sh} {M : fw_Mem} {a0 : Nat} {x1 : Int32} {r : fw_Mem} (hl : l.stackTraces = false) (h : f_X8_readRule S M a0 x1 = some r) : fw_M l G yX8_readRule (.code yX8_readRule cX8_readRule 3 none) 5 (fw_mcO (.inl none, S, r)) (fw_msO (.inl none, S, r)) S M [.ref a0, .int x1] (.inl none, S, r) := by
  refine fw_of [(0, .ref a0), (1, .int x1)] (by decide) (Nat.le_of_ble_eq_true rfl) rfl ?_
  intro p e s m args below meth c C hr hlk hnm ht _
  unfold f_X8_readRule at h
  refine fw_aload_n C 0 dX8_readRule_0 rfl rfl ?_
  obtain ⟨g1, h⟩ := gd_some h
  obtain ⟨g2, h⟩ := gd_some h
  refine fw_getR C 8 0 (Nat.le_of_ble_eq_true rfl) (Nat.le_of_ble_eq_true rfl) wf_X8_9 rfl (gO_of g1) (gN_of g2) dX8_readRule_1 ?_
  obtain ⟨g4, h⟩ := gd_some h
  obtain ⟨M3, e3, h⟩ := b1_some h
  refine fw_callV (ci := 7) [] C (c_X7_advance hl e3) cal_X7_advance wm_X8_91 wi_yX7_advance wsl_yX7_advance (Nat.le_of_ble_eq_true rfl) rfl (gO_of g4) rfl (Nat.le_of_ble_eq_true rfl) ⟨Nat.le_of_ble_eq_true rfl, Nat.le_of_ble_eq_true rfl⟩ ⟨Nat.zero_le _, Nat.zero_le _⟩ dX8_readRule_4 ?_
  refine fw_aload_n C 0 dX8_readRule_7 rfl rfl ?_
  refine fw_iload_n C 1 dX8_readRule_8 rfl rfl ?_
  obtain ⟨v5, e5, h⟩ := b1_some h
  refine fw_callS [_] C (c_X4_leastOfRule hl e5) cal_X4_leastOfRule wm_X8_189 wt_yX4_leastOfRule rfl (Nat.le_of_ble_eq_true rfl) ⟨Nat.le_of_ble_eq_true rfl, Nat.le_of_ble_eq_true rfl⟩ ⟨Nat.zero_le _, Nat.zero_le _⟩ dX8_readRule_9 ?_
  refine fw_iload_n C 1 dX8_readRule_12 rfl rfl ?_
  obtain ⟨v6, e6, h⟩ := b1_some h
  refine fw_callS [_] C (c_X4_mostOfRule hl e6) cal_X4_mostOfRule wm_X8_192 wt_yX4_mostOfRule rfl (Nat.le_of_ble_eq_true rfl) ⟨Nat.le_of_ble_eq_true rfl, Nat.le_of_ble_eq_true rfl⟩ ⟨Nat.zero_le _, Nat.zero_le _⟩ dX8_readRule_13 ?_
  obtain ⟨v7, M7, e7, h⟩ := b2_some h
  refine fw_callV (ci := 8) [_, _] C (c_X8_passNumber hl e7) cal_X8_passNumber wm_X8_116 wi_yX8_passNumber wsl_yX8_passNumber (Nat.le_of_ble_eq_true rfl) rfl (gO_of g1) rfl (Nat.le_of_ble_eq_true rfl) ⟨Nat.le_of_ble_eq_true rfl, Nat.le_of_ble_eq_true rfl⟩ ⟨Nat.zero_le _, Nat.zero_le _⟩ dX8_readRule_16 ?_
  refine fw_istore_n C [(2, _), (0, _), (1, _)] dX8_readRule_19 rfl (Nat.le_of_ble_eq_true rfl) rfl ?_
  refine fw_aload_n C 1 dX8_readRule_20 rfl rfl ?_
  obtain ⟨g8, h⟩ := gd_some h
  refine fw_getR C 8 0 (Nat.le_of_ble_eq_true rfl) (Nat.le_of_ble_eq_true rfl) wf_X8_9 rfl (gO_of g1) (gN_of g8) dX8_readRule_21 ?_
  obtain ⟨g9, h⟩ := gd_some h
  refine fw_getI C 7 7 (Nat.le_of_ble_eq_true rfl) (Nat.le_of_ble_eq_true rfl) wf_X8_30 rfl (gO_of g9) dX8_readRule_24 ?_
  refine fw_if_ne C 40 dX8_readRule_27 (by decide) (fun c10 => ?_) (fun c10 => ?_)
  · replace h := (if_neg c10).symm.trans h
    obtain rfl := Option.some.inj h
    exact fw_vret C hr hlk dX8_readRule_40
  · replace h := (if_pos c10).symm.trans h
    refine fw_aload_n C 1 dX8_readRule_30 rfl rfl ?_
    obtain ⟨g11, h⟩ := gd_some h
    refine fw_getR C 8 1 (Nat.le_of_ble_eq_true rfl) (Nat.le_of_ble_eq_true rfl) wf_X8_15 rfl (gO_of g1) (gN_of g11) dX8_readRule_31 ?_
    obtain ⟨g12, h⟩ := gd_some h
    obtain ⟨g13, h⟩ := gd_some h
    refine fw_getR C 4 3 (Nat.le_of_ble_eq_true rfl) (Nat.le_of_ble_eq_true rfl) wf_X8_195 rfl (gO_of g12) (gN_of g13) dX8_readRule_34 ?_
    refine fw_iload_n C 2 dX8_readRule_37 rfl rfl ?_
    refine fw_iload_n C 0 dX8_readRule_38 rfl rfl ?_
    obtain ⟨g14, h⟩ := gd_some h
    refine fw_iast C (gA_of g14) dX8_readRule_39 ?_
    refine fw_bm h (fun M15 h => ?_)
    obtain rfl := Option.some.inj h
    exact fw_vret C hr hlk dX8_readRule_40
set_option maxRecDepth 100000 in
def f_X8_readSuit (S : List fw_Sh) (M : fw_Mem) (a0 : Nat) : Option fw_Mem := gd (gO S 8 a0) (gd (gN (M a0 1)) (gd (gO S 4 ((M a0 1).toNatClampNeg)) (if (M ((M a0 1).toNatClampNeg) 6) < 10 then (gd (gN (M a0 0)) (gd (gO S 7 ((M a0 0).toNatClampNeg)) (b1 (f_X7_advance S M ((M a0 0).toNatClampNeg)) (fun M6 => gd (gN (M6 a0 1)) (gd (gO S 4 ((M6 a0 1).toNatClampNeg)) (gd (gN (M6 ((M6 a0 1).toNatClampNeg) 2)) (gd (gA S 4 ((M6 ((M6 a0 1).toNatClampNeg) 2).toNatClampNeg) (M6 ((M6 a0 1).toNatClampNeg) 6)) (gd (gN (M6 ((M6 ((M6 a0 1).toNatClampNeg) 2).toNatClampNeg) (M6 ((M6 a0 1).toNatClampNeg) 6).toNatClampNeg)) (gd (gO S 6 ((M6 ((M6 ((M6 a0 1).toNatClampNeg) 2).toNatClampNeg) (M6 ((M6 a0 1).toNatClampNeg) 6).toNatClampNeg).toNatClampNeg)) (b1 (f_X6_decide S M6 ((M6 ((M6 ((M6 a0 1).toNatClampNeg) 2).toNatClampNeg) (M6 ((M6 a0 1).toNatClampNeg) 6).toNatClampNeg).toNatClampNeg) (-1) 0) (fun M13 => b2 (f_X8_passName S M13 a0 (-1)) (fun v15 M15 => bm (fw_set M15 ((M6 ((M6 ((M6 a0 1).toNatClampNeg) 2).toNatClampNeg) (M6 ((M6 a0 1).toNatClampNeg) 6).toNatClampNeg).toNatClampNeg) 1 v15) (fun M16 => b2 (f_X8_passName S M16 a0 (M16 ((M6 ((M6 ((M6 a0 1).toNatClampNeg) 2).toNatClampNeg) (M6 ((M6 a0 1).toNatClampNeg) 6).toNatClampNeg).toNatClampNeg) 1)) (fun v17 M17 => bm (fw_set M17 ((M6 ((M6 ((M6 a0 1).toNatClampNeg) 2).toNatClampNeg) (M6 ((M6 a0 1).toNatClampNeg) 6).toNatClampNeg).toNatClampNeg) 2 v17) (fun M18 => b2 (f_X8_passNumber S M18 a0 0 9999) (fun v19 M19 => bm (fw_set M19 ((M6 ((M6 ((M6 a0 1).toNatClampNeg) 2).toNatClampNeg) (M6 ((M6 a0 1).toNatClampNeg) 6).toNatClampNeg).toNatClampNeg) 3 v19) (fun M20 => b2 (f_X8_passSet S M20 a0 1000007 2147483647) (fun v21 M21 => bm (fw_set M21 ((M6 ((M6 ((M6 a0 1).toNatClampNeg) 2).toNatClampNeg) (M6 ((M6 a0 1).toNatClampNeg) 6).toNatClampNeg).toNatClampNeg) 4 v21) (fun M22 => b2 (f_X8_passSet S M22 a0 1000018 2147483647) (fun v23 M23 => bm (fw_set M23 ((M6 ((M6 ((M6 a0 1).toNatClampNeg) 2).toNatClampNeg) (M6 ((M6 a0 1).toNatClampNeg) 6).toNatClampNeg).toNatClampNeg) 5 v23) (fun M24 => b2 (f_X8_passSet S M24 a0 1000003 ((2147483647 : Int32) &&& ((M24 ((M6 ((M6 ((M6 a0 1).toNatClampNeg) 2).toNatClampNeg) (M6 ((M6 a0 1).toNatClampNeg) 6).toNatClampNeg).toNatClampNeg) 5) ^^^ (-1)))) (fun v25 M25 => bm (fw_set M25 ((M6 ((M6 ((M6 a0 1).toNatClampNeg) 2).toNatClampNeg) (M6 ((M6 a0 1).toNatClampNeg) 6).toNatClampNeg).toNatClampNeg) 6 v25) (fun M26 => gd (gN (M26 a0 0)) (gd (gO S 7 ((M26 a0 0).toNatClampNeg)) (if (M26 ((M26 a0 0).toNatClampNeg) 7) = 0 then (gd (gN (M26 a0 1)) (gd (gO S 4 ((M26 a0 1).toNatClampNeg)) (bm (fw_set M26 ((M26 a0 1).toNatClampNeg) 6 ((M26 ((M26 a0 1).toNatClampNeg) 6) + 1)) (fun M32 => some M32)))) else (some M26)))))))))))))))))))))))))) else (gd (gN (M a0 0)) (gd (gO S 7 ((M a0 0).toNatClampNeg)) (b1 (f_X7_fail S M ((M a0 0).toNatClampNeg) 4) (fun M34 => some M34)))))))
set_option maxHeartbeats 4000000 in
set_option maxRecDepth 100000 in
theorem c_X8_readSuit {l : Launch} {G : fw_G} {S : List fw_Sh} {M : fw_Mem} {a0 : Nat} {r : fw_Mem} (hl : l.stackTraces = false) (h : f_X8_readSuit S M a0 = some r) : fw_M l G yX8_readSuit (.code yX8_readSuit cX8_readSuit 2 none) 10 (fw_mcO (.inl none, S, r)) (fw_msO (.inl none, S, r)) S M [.ref a0] (.inl none, S, r) := by
  refine fw_of [(0, .ref a0)] (by decide) (Nat.le_of_ble_eq_true rfl) rfl ?_
  intro p e s m args below meth c C hr hlk hnm ht _
  unfold f_X8_readSuit at h
  refine fw_aload_n C 0 dX8_readSuit_0 rfl rfl ?_
  obtain ⟨g1, h⟩ := gd_some h
  obtain ⟨g2, h⟩ := gd_some h
  refine fw_getR C 8 1 (Nat.le_of_ble_eq_true rfl) (Nat.le_of_ble_eq_true rfl) wf_X8_15 rfl (gO_of g1) (gN_of g2) dX8_readSuit_1 ?_
  obtain ⟨g3, h⟩ := gd_some h
  refine fw_getI C 4 6 (Nat.le_of_ble_eq_true rfl) (Nat.le_of_ble_eq_true rfl) wf_X8_124 rfl (gO_of g3) dX8_readSuit_4 ?_
  refine fw_bipush C 10 dX8_readSuit_7 rfl ?_
  refine fw_icmp_lt C 21 dX8_readSuit_9 (by decide) (fun c4 => ?_) (fun c4 => ?_)
  · replace h := (if_pos c4).symm.trans h
    refine fw_aload_n C 0 dX8_readSuit_21 rfl rfl ?_
    obtain ⟨g5, h⟩ := gd_some h
    refine fw_getR C 8 0 (Nat.le_of_ble_eq_true rfl) (Nat.le_of_ble_eq_true rfl) wf_X8_9 rfl (gO_of g1) (gN_of g5) dX8_readSuit_22 ?_
    obtain ⟨g7, h⟩ := gd_some h
    obtain ⟨M6, e6, h⟩ := b1_some h
    refine fw_callV (ci := 7) [] C (c_X7_advance hl e6) cal_X7_advance wm_X8_91 wi_yX7_advance wsl_yX7_advance (Nat.le_of_ble_eq_true rfl) rfl (gO_of g7) rfl (Nat.le_of_ble_eq_true rfl) ⟨Nat.le_of_ble_eq_true rfl, Nat.le_of_ble_eq_true rfl⟩ ⟨Nat.zero_le _, Nat.zero_le _⟩ dX8_readSuit_25 ?_
    refine fw_aload_n C 0 dX8_readSuit_28 rfl rfl ?_
    obtain ⟨g8, h⟩ := gd_some h
    refine fw_getR C 8 1 (Nat.le_of_ble_eq_true rfl) (Nat.le_of_ble_eq_true rfl) wf_X8_15 rfl (gO_of g1) (gN_of g8) dX8_readSuit_29 ?_
    obtain ⟨g9, h⟩ := gd_some h
    obtain ⟨g10, h⟩ := gd_some h
    refine fw_getR C 4 2 (Nat.le_of_ble_eq_true rfl) (Nat.le_of_ble_eq_true rfl) wf_X8_127 rfl (gO_of g9) (gN_of g10) dX8_readSuit_32 ?_
    refine fw_aload_n C 0 dX8_readSuit_35 rfl rfl ?_
    refine fw_getR C 8 1 (Nat.le_of_ble_eq_true rfl) (Nat.le_of_ble_eq_true rfl) wf_X8_15 rfl (gO_of g1) (gN_of g8) dX8_readSuit_36 ?_
    refine fw_getI C 4 6 (Nat.le_of_ble_eq_true rfl) (Nat.le_of_ble_eq_true rfl) wf_X8_124 rfl (gO_of g9) dX8_readSuit_39 ?_
    obtain ⟨g11, h⟩ := gd_some h
    obtain ⟨g12, h⟩ := gd_some h
    refine fw_aald C 4 (by decide) (gA_of g11) (gN_of g12) dX8_readSuit_42 ?_
    refine fw_astore_n C [(1, _), (0, _)] dX8_readSuit_43 rfl (Nat.le_of_ble_eq_true rfl) rfl ?_
    refine fw_aload_n C 0 dX8_readSuit_44 rfl rfl ?_
    refine fw_iconst C (-1) dX8_readSuit_45 rfl ?_
    refine fw_iconst C 0 dX8_readSuit_46 rfl ?_
    obtain ⟨g14, h⟩ := gd_some h
    obtain ⟨M13, e13, h⟩ := b1_some h
    refine fw_callV (ci := 6) [_, _] C (c_X6_decide hl e13) cal_X6_decide wm_X8_131 wi_yX6_decide wsl_yX6_decide (Nat.le_of_ble_eq_true rfl) rfl (gO_of g14) rfl (Nat.le_of_ble_eq_true rfl) ⟨Nat.le_of_ble_eq_true rfl, Nat.le_of_ble_eq_true rfl⟩ ⟨Nat.zero_le _, Nat.zero_le _⟩ dX8_readSuit_47 ?_
    refine fw_aload_n C 0 dX8_readSuit_50 rfl rfl ?_
    refine fw_aload_n C 1 dX8_readSuit_51 rfl rfl ?_
    refine fw_iconst C (-1) dX8_readSuit_52 rfl ?_
    obtain ⟨v15, M15, e15, h⟩ := b2_some h
    refine fw_callV (ci := 8) [_] C (c_X8_passName hl e15) cal_X8_passName wm_X8_113 wi_yX8_passName wsl_yX8_passName (Nat.le_of_ble_eq_true rfl) rfl (gO_of g1) rfl (Nat.le_of_ble_eq_true rfl) ⟨Nat.le_of_ble_eq_true rfl, Nat.le_of_ble_eq_true rfl⟩ ⟨Nat.zero_le _, Nat.zero_le _⟩ dX8_readSuit_53 ?_
    refine fw_putI C 6 1 (Nat.le_of_ble_eq_true rfl) (Nat.le_of_ble_eq_true rfl) wf_X8_137 rfl rfl rfl rfl (gO_of g14) dX8_readSuit_56 ?_
    refine fw_bm h (fun M16 h => ?_)
    refine fw_aload_n C 0 dX8_readSuit_59 rfl rfl ?_
    refine fw_aload_n C 1 dX8_readSuit_60 rfl rfl ?_
    refine fw_aload_n C 0 dX8_readSuit_61 rfl rfl ?_
    refine fw_getI C 6 1 (Nat.le_of_ble_eq_true rfl) (Nat.le_of_ble_eq_true rfl) wf_X8_137 rfl (gO_of g14) dX8_readSuit_62 ?_
    obtain ⟨v17, M17, e17, h⟩ := b2_some h
    refine fw_callV (ci := 8) [_] C (c_X8_passName hl e17) cal_X8_passName wm_X8_113 wi_yX8_passName wsl_yX8_passName (Nat.le_of_ble_eq_true rfl) rfl (gO_of g1) rfl (Nat.le_of_ble_eq_true rfl) ⟨Nat.le_of_ble_eq_true rfl, Nat.le_of_ble_eq_true rfl⟩ ⟨Nat.zero_le _, Nat.zero_le _⟩ dX8_readSuit_65 ?_
    refine fw_putI C 6 2 (Nat.le_of_ble_eq_true rfl) (Nat.le_of_ble_eq_true rfl) wf_X8_140 rfl rfl rfl rfl (gO_of g14) dX8_readSuit_68 ?_
    refine fw_bm h (fun M18 h => ?_)
    refine fw_aload_n C 0 dX8_readSuit_71 rfl rfl ?_
    refine fw_aload_n C 1 dX8_readSuit_72 rfl rfl ?_
    refine fw_iconst C 0 dX8_readSuit_73 rfl ?_
    refine fw_sipush C 9999 dX8_readSuit_74 rfl ?_
    obtain ⟨v19, M19, e19, h⟩ := b2_some h
    refine fw_callV (ci := 8) [_, _] C (c_X8_passNumber hl e19) cal_X8_passNumber wm_X8_116 wi_yX8_passNumber wsl_yX8_passNumber (Nat.le_of_ble_eq_true rfl) rfl (gO_of g1) rfl (Nat.le_of_ble_eq_true rfl) ⟨Nat.le_of_ble_eq_true rfl, Nat.le_of_ble_eq_true rfl⟩ ⟨Nat.zero_le _, Nat.zero_le _⟩ dX8_readSuit_77 ?_
    refine fw_putI C 6 3 (Nat.le_of_ble_eq_true rfl) (Nat.le_of_ble_eq_true rfl) wf_X8_143 rfl rfl rfl rfl (gO_of g14) dX8_readSuit_80 ?_
    refine fw_bm h (fun M20 h => ?_)
    refine fw_aload_n C 0 dX8_readSuit_83 rfl rfl ?_
    refine fw_aload_n C 1 dX8_readSuit_84 rfl rfl ?_
    refine fw_ldcS C (i := 6) (List.mem_of_getElem? (i := 6) rfl) dX8_readSuit_85 ?_
    refine fw_ldc C wk_X8_148 dX8_readSuit_87 ?_
    obtain ⟨v21, M21, e21, h⟩ := b2_some h
    refine fw_callV (ci := 8) [_, _] C (c_X8_passSet hl e21) cal_X8_passSet wm_X8_149 wi_yX8_passSet wsl_yX8_passSet (Nat.le_of_ble_eq_true rfl) rfl (gO_of g1) rfl (Nat.le_of_ble_eq_true rfl) ⟨Nat.le_of_ble_eq_true rfl, Nat.le_of_ble_eq_true rfl⟩ ⟨Nat.zero_le _, Nat.zero_le _⟩ dX8_readSuit_89 ?_
    refine fw_putI C 6 4 (Nat.le_of_ble_eq_true rfl) (Nat.le_of_ble_eq_true rfl) wf_X8_153 rfl rfl rfl rfl (gO_of g14) dX8_readSuit_92 ?_
    refine fw_bm h (fun M22 h => ?_)
    refine fw_aload_n C 0 dX8_readSuit_95 rfl rfl ?_
    refine fw_aload_n C 1 dX8_readSuit_96 rfl rfl ?_
    refine fw_ldcS C (i := 17) (List.mem_of_getElem? (i := 7) rfl) dX8_readSuit_97 ?_
    refine fw_ldc C wk_X8_148 dX8_readSuit_99 ?_
    obtain ⟨v23, M23, e23, h⟩ := b2_some h
    refine fw_callV (ci := 8) [_, _] C (c_X8_passSet hl e23) cal_X8_passSet wm_X8_149 wi_yX8_passSet wsl_yX8_passSet (Nat.le_of_ble_eq_true rfl) rfl (gO_of g1) rfl (Nat.le_of_ble_eq_true rfl) ⟨Nat.le_of_ble_eq_true rfl, Nat.le_of_ble_eq_true rfl⟩ ⟨Nat.zero_le _, Nat.zero_le _⟩ dX8_readSuit_101 ?_
    refine fw_putI C 6 5 (Nat.le_of_ble_eq_true rfl) (Nat.le_of_ble_eq_true rfl) wf_X8_157 rfl rfl rfl rfl (gO_of g14) dX8_readSuit_104 ?_
    refine fw_bm h (fun M24 h => ?_)
    refine fw_aload_n C 0 dX8_readSuit_107 rfl rfl ?_
    refine fw_aload_n C 1 dX8_readSuit_108 rfl rfl ?_
    refine fw_ldcS C (i := 2) (List.mem_of_getElem? (i := 8) rfl) dX8_readSuit_109 ?_
    refine fw_ldc C wk_X8_148 dX8_readSuit_111 ?_
    refine fw_aload_n C 0 dX8_readSuit_113 rfl rfl ?_
    refine fw_getI C 6 5 (Nat.le_of_ble_eq_true rfl) (Nat.le_of_ble_eq_true rfl) wf_X8_157 rfl (gO_of g14) dX8_readSuit_114 ?_
    refine fw_iconst C (-1) dX8_readSuit_117 rfl ?_
    refine fw_ixor C dX8_readSuit_118 ?_
    refine fw_iand C dX8_readSuit_119 ?_
    obtain ⟨v25, M25, e25, h⟩ := b2_some h
    refine fw_callV (ci := 8) [_, _] C (c_X8_passSet hl e25) cal_X8_passSet wm_X8_149 wi_yX8_passSet wsl_yX8_passSet (Nat.le_of_ble_eq_true rfl) rfl (gO_of g1) rfl (Nat.le_of_ble_eq_true rfl) ⟨Nat.le_of_ble_eq_true rfl, Nat.le_of_ble_eq_true rfl⟩ ⟨Nat.zero_le _, Nat.zero_le _⟩ dX8_readSuit_120 ?_
    refine fw_putI C 6 6 (Nat.le_of_ble_eq_true rfl) (Nat.le_of_ble_eq_true rfl) wf_X8_161 rfl rfl rfl rfl (gO_of g14) dX8_readSuit_123 ?_
    refine fw_bm h (fun M26 h => ?_)
    refine fw_aload_n C 1 dX8_readSuit_126 rfl rfl ?_
    obtain ⟨g27, h⟩ := gd_some h
    refine fw_getR C 8 0 (Nat.le_of_ble_eq_true rfl) (Nat.le_of_ble_eq_true rfl) wf_X8_9 rfl (gO_of g1) (gN_of g27) dX8_readSuit_127 ?_
    obtain ⟨g28, h⟩ := gd_some h
    refine fw_getI C 7 7 (Nat.le_of_ble_eq_true rfl) (Nat.le_of_ble_eq_true rfl) wf_X8_30 rfl (gO_of g28) dX8_readSuit_130 ?_
    refine fw_if_ne C 149 dX8_readSuit_133 (by decide) (fun c29 => ?_) (fun c29 => ?_)
    · replace h := (if_neg c29).symm.trans h
      obtain rfl := Option.some.inj h
      exact fw_vret C hr hlk dX8_readSuit_149
    · replace h := (if_pos c29).symm.trans h
      refine fw_aload_n C 1 dX8_readSuit_136 rfl rfl ?_
      obtain ⟨g30, h⟩ := gd_some h
      refine fw_getR C 8 1 (Nat.le_of_ble_eq_true rfl) (Nat.le_of_ble_eq_true rfl) wf_X8_15 rfl (gO_of g1) (gN_of g30) dX8_readSuit_137 ?_
      refine fw_dup C dX8_readSuit_140 rfl ?_
      obtain ⟨g31, h⟩ := gd_some h
      refine fw_getI C 4 6 (Nat.le_of_ble_eq_true rfl) (Nat.le_of_ble_eq_true rfl) wf_X8_124 rfl (gO_of g31) dX8_readSuit_141 ?_
      refine fw_iconst C 1 dX8_readSuit_144 rfl ?_
      refine fw_iadd C dX8_readSuit_145 ?_
      refine fw_putI C 4 6 (Nat.le_of_ble_eq_true rfl) (Nat.le_of_ble_eq_true rfl) wf_X8_124 rfl rfl rfl rfl (gO_of g31) dX8_readSuit_146 ?_
      refine fw_bm h (fun M32 h => ?_)
      obtain rfl := Option.some.inj h
      exact fw_vret C hr hlk dX8_readSuit_149
  · replace h := (if_neg c4).symm.trans h
    refine fw_aload_n C 0 dX8_readSuit_12 rfl rfl ?_
    obtain ⟨g33, h⟩ := gd_some h
    refine fw_getR C 8 0 (Nat.le_of_ble_eq_true rfl) (Nat.le_of_ble_eq_true rfl) wf_X8_9 rfl (gO_of g1) (gN_of g33) dX8_readSuit_13 ?_
    refine fw_iconst C 4 dX8_readSuit_16 rfl ?_
    obtain ⟨g35, h⟩ := gd_some h
    obtain ⟨M34, e34, h⟩ := b1_some h
    refine fw_callV (ci := 7) [_] C (c_X7_fail hl e34) cal_X7_fail wm_X8_85 wi_yX7_fail wsl_yX7_fail (Nat.le_of_ble_eq_true rfl) rfl (gO_of g35) rfl (Nat.le_of_ble_eq_true rfl) ⟨Nat.le_of_ble_eq_true rfl, Nat.le_of_ble_eq_true rfl⟩ ⟨Nat.zero_le _, Nat.zero_le _⟩ dX8_readSuit_17 ?_
    obtain rfl := Option.some.inj h
    exact fw_vret C hr hlk dX8_readSuit_20
set_option maxRecDepth 100000 in
def f_X8_readLine (S : List fw_Sh) (M : fw_Mem) (a0 : Nat) : Option fw_Mem := gd (gO S 8 a0) (gd (gN (M a0 0)) (gd (gO S 7 ((M a0 0).toNatClampNeg)) (b1 (f_X7_isWord S M ((M a0 0).toNatClampNeg) 1000023) (fun v3 => if v3 = 0 then (b1 (f_X7_isWord S M ((M a0 0).toNatClampNeg) 1000012) (fun v6 => if v6 = 0 then (b1 (f_X7_isWord S M ((M a0 0).toNatClampNeg) 1000026) (fun v8 => if v8 = 0 then (b1 (f_X7_isWord S M ((M a0 0).toNatClampNeg) 1000028) (fun v10 => if v10 = 0 then (b1 (f_X7_isWord S M ((M a0 0).toNatClampNeg) 1000014) (fun v12 => if v12 = 0 then (b1 (f_X7_isWord S M ((M a0 0).toNatClampNeg) 1000025) (fun v14 => if v14 = 0 then (b1 (f_X7_isWord S M ((M a0 0).toNatClampNeg) 1000027) (fun v16 => if v16 = 0 then (b1 (f_X7_isWord S M ((M a0 0).toNatClampNeg) 1000017) (fun v18 => if v18 = 0 then (b1 (f_X7_isWord S M ((M a0 0).toNatClampNeg) 1000006) (fun v20 => if v20 = 0 then (b1 (f_X7_fail S M ((M a0 0).toNatClampNeg) 1) (fun M22 => some M22)) else (b1 (f_X8_readRule S M a0 2) (fun M23 => some M23)))) else (b1 (f_X8_readRule S M a0 1) (fun M24 => some M24)))) else (b1 (f_X8_readRule S M a0 0) (fun M25 => some M25)))) else (b1 (f_X8_readReversed S M a0) (fun M26 => some M26)))) else (b1 (f_X8_readJudged S M a0) (fun M27 => some M27)))) else (b1 (f_X8_readSuit S M a0) (fun M28 => some M28)))) else (b1 (f_X8_readLink S M a0 1) (fun M29 => some M29)))) else (b1 (f_X8_readLink S M a0 0) (fun M30 => some M30)))) else (b1 (f_X8_readPerson S M a0) (fun M31 => some M31))))))
set_option maxHeartbeats 4000000 in
set_option maxRecDepth 100000 in
theorem c_X8_readLine {l : Launch} {G : fw_G} {S : List fw_Sh} {M : fw_Mem} {a0 : Nat} {r : fw_Mem} (hl : l.stackTraces = false) (h : f_X8_readLine S M a0 = some r) : fw_M l G yX8_readLine (.code yX8_readLine cX8_readLine 1 none) 11 (fw_mcO (.inl none, S, r)) (fw_msO (.inl none, S, r)) S M [.ref a0] (.inl none, S, r) := by
  refine fw_of [(0, .ref a0)] (by decide) (Nat.le_of_ble_eq_true rfl) rfl ?_
  intro p e s m args below meth c C hr hlk hnm ht _
  unfold f_X8_readLine at h
  refine fw_aload_n C 0 dX8_readLine_0 rfl rfl ?_
  obtain ⟨g1, h⟩ := gd_some h
  obtain ⟨g2, h⟩ := gd_some h
  refine fw_getR C 8 0 (Nat.le_of_ble_eq_true rfl) (Nat.le_of_ble_eq_true rfl) wf_X8_9 rfl (gO_of g1) (gN_of g2) dX8_readLine_1 ?_
  refine fw_ldcS C (i := 22) (List.mem_of_getElem? (i := 1) rfl) dX8_readLine_4 ?_
  obtain ⟨g4, h⟩ := gd_some h
  obtain ⟨v3, e3, h⟩ := b1_some h
  refine fw_callV (ci := 7) [_] C (c_X7_isWord hl e3) cal_X7_isWord wm_X8_46 wi_yX7_isWord wsl_yX7_isWord (Nat.le_of_ble_eq_true rfl) rfl (gO_of g4) rfl (Nat.le_of_ble_eq_true rfl) ⟨Nat.le_of_ble_eq_true rfl, Nat.le_of_ble_eq_true rfl⟩ ⟨Nat.zero_le _, Nat.zero_le _⟩ dX8_readLine_6 ?_
  refine fw_if_eq C 19 dX8_readLine_9 (by decide) (fun c5 => ?_) (fun c5 => ?_)
  · replace h := (if_pos c5).symm.trans h
    refine fw_aload_n C 0 dX8_readLine_19 rfl rfl ?_
    refine fw_getR C 8 0 (Nat.le_of_ble_eq_true rfl) (Nat.le_of_ble_eq_true rfl) wf_X8_9 rfl (gO_of g1) (gN_of g2) dX8_readLine_20 ?_
    refine fw_ldcS C (i := 11) (List.mem_of_getElem? (i := 3) rfl) dX8_readLine_23 ?_
    obtain ⟨v6, e6, h⟩ := b1_some h
    refine fw_callV (ci := 7) [_] C (c_X7_isWord hl e6) cal_X7_isWord wm_X8_46 wi_yX7_isWord wsl_yX7_isWord (Nat.le_of_ble_eq_true rfl) rfl (gO_of g4) rfl (Nat.le_of_ble_eq_true rfl) ⟨Nat.le_of_ble_eq_true rfl, Nat.le_of_ble_eq_true rfl⟩ ⟨Nat.zero_le _, Nat.zero_le _⟩ dX8_readLine_25 ?_
    refine fw_if_eq C 39 dX8_readLine_28 (by decide) (fun c7 => ?_) (fun c7 => ?_)
    · replace h := (if_pos c7).symm.trans h
      refine fw_aload_n C 0 dX8_readLine_39 rfl rfl ?_
      refine fw_getR C 8 0 (Nat.le_of_ble_eq_true rfl) (Nat.le_of_ble_eq_true rfl) wf_X8_9 rfl (gO_of g1) (gN_of g2) dX8_readLine_40 ?_
      refine fw_ldcS C (i := 25) (List.mem_of_getElem? (i := 4) rfl) dX8_readLine_43 ?_
      obtain ⟨v8, e8, h⟩ := b1_some h
      refine fw_callV (ci := 7) [_] C (c_X7_isWord hl e8) cal_X7_isWord wm_X8_46 wi_yX7_isWord wsl_yX7_isWord (Nat.le_of_ble_eq_true rfl) rfl (gO_of g4) rfl (Nat.le_of_ble_eq_true rfl) ⟨Nat.le_of_ble_eq_true rfl, Nat.le_of_ble_eq_true rfl⟩ ⟨Nat.zero_le _, Nat.zero_le _⟩ dX8_readLine_45 ?_
      refine fw_if_eq C 59 dX8_readLine_48 (by decide) (fun c9 => ?_) (fun c9 => ?_)
      · replace h := (if_pos c9).symm.trans h
        refine fw_aload_n C 0 dX8_readLine_59 rfl rfl ?_
        refine fw_getR C 8 0 (Nat.le_of_ble_eq_true rfl) (Nat.le_of_ble_eq_true rfl) wf_X8_9 rfl (gO_of g1) (gN_of g2) dX8_readLine_60 ?_
        refine fw_ldcS C (i := 27) (List.mem_of_getElem? (i := 5) rfl) dX8_readLine_63 ?_
        obtain ⟨v10, e10, h⟩ := b1_some h
        refine fw_callV (ci := 7) [_] C (c_X7_isWord hl e10) cal_X7_isWord wm_X8_46 wi_yX7_isWord wsl_yX7_isWord (Nat.le_of_ble_eq_true rfl) rfl (gO_of g4) rfl (Nat.le_of_ble_eq_true rfl) ⟨Nat.le_of_ble_eq_true rfl, Nat.le_of_ble_eq_true rfl⟩ ⟨Nat.zero_le _, Nat.zero_le _⟩ dX8_readLine_65 ?_
        refine fw_if_eq C 78 dX8_readLine_68 (by decide) (fun c11 => ?_) (fun c11 => ?_)
        · replace h := (if_pos c11).symm.trans h
          refine fw_aload_n C 0 dX8_readLine_78 rfl rfl ?_
          refine fw_getR C 8 0 (Nat.le_of_ble_eq_true rfl) (Nat.le_of_ble_eq_true rfl) wf_X8_9 rfl (gO_of g1) (gN_of g2) dX8_readLine_79 ?_
          refine fw_ldcS C (i := 13) (List.mem_of_getElem? (i := 9) rfl) dX8_readLine_82 ?_
          obtain ⟨v12, e12, h⟩ := b1_some h
          refine fw_callV (ci := 7) [_] C (c_X7_isWord hl e12) cal_X7_isWord wm_X8_46 wi_yX7_isWord wsl_yX7_isWord (Nat.le_of_ble_eq_true rfl) rfl (gO_of g4) rfl (Nat.le_of_ble_eq_true rfl) ⟨Nat.le_of_ble_eq_true rfl, Nat.le_of_ble_eq_true rfl⟩ ⟨Nat.zero_le _, Nat.zero_le _⟩ dX8_readLine_84 ?_
          refine fw_if_eq C 97 dX8_readLine_87 (by decide) (fun c13 => ?_) (fun c13 => ?_)
          · replace h := (if_pos c13).symm.trans h
            refine fw_aload_n C 0 dX8_readLine_97 rfl rfl ?_
            refine fw_getR C 8 0 (Nat.le_of_ble_eq_true rfl) (Nat.le_of_ble_eq_true rfl) wf_X8_9 rfl (gO_of g1) (gN_of g2) dX8_readLine_98 ?_
            refine fw_ldcS C (i := 24) (List.mem_of_getElem? (i := 15) rfl) dX8_readLine_101 ?_
            obtain ⟨v14, e14, h⟩ := b1_some h
            refine fw_callV (ci := 7) [_] C (c_X7_isWord hl e14) cal_X7_isWord wm_X8_46 wi_yX7_isWord wsl_yX7_isWord (Nat.le_of_ble_eq_true rfl) rfl (gO_of g4) rfl (Nat.le_of_ble_eq_true rfl) ⟨Nat.le_of_ble_eq_true rfl, Nat.le_of_ble_eq_true rfl⟩ ⟨Nat.zero_le _, Nat.zero_le _⟩ dX8_readLine_103 ?_
            refine fw_if_eq C 116 dX8_readLine_106 (by decide) (fun c15 => ?_) (fun c15 => ?_)
            · replace h := (if_pos c15).symm.trans h
              refine fw_aload_n C 0 dX8_readLine_116 rfl rfl ?_
              refine fw_getR C 8 0 (Nat.le_of_ble_eq_true rfl) (Nat.le_of_ble_eq_true rfl) wf_X8_9 rfl (gO_of g1) (gN_of g2) dX8_readLine_117 ?_
              refine fw_ldcS C (i := 26) (List.mem_of_getElem? (i := 16) rfl) dX8_readLine_120 ?_
              obtain ⟨v16, e16, h⟩ := b1_some h
              refine fw_callV (ci := 7) [_] C (c_X7_isWord hl e16) cal_X7_isWord wm_X8_46 wi_yX7_isWord wsl_yX7_isWord (Nat.le_of_ble_eq_true rfl) rfl (gO_of g4) rfl (Nat.le_of_ble_eq_true rfl) ⟨Nat.le_of_ble_eq_true rfl, Nat.le_of_ble_eq_true rfl⟩ ⟨Nat.zero_le _, Nat.zero_le _⟩ dX8_readLine_122 ?_
              refine fw_if_eq C 136 dX8_readLine_125 (by decide) (fun c17 => ?_) (fun c17 => ?_)
              · replace h := (if_pos c17).symm.trans h
                refine fw_aload_n C 0 dX8_readLine_136 rfl rfl ?_
                refine fw_getR C 8 0 (Nat.le_of_ble_eq_true rfl) (Nat.le_of_ble_eq_true rfl) wf_X8_9 rfl (gO_of g1) (gN_of g2) dX8_readLine_137 ?_
                refine fw_ldcS C (i := 16) (List.mem_of_getElem? (i := 17) rfl) dX8_readLine_140 ?_
                obtain ⟨v18, e18, h⟩ := b1_some h
                refine fw_callV (ci := 7) [_] C (c_X7_isWord hl e18) cal_X7_isWord wm_X8_46 wi_yX7_isWord wsl_yX7_isWord (Nat.le_of_ble_eq_true rfl) rfl (gO_of g4) rfl (Nat.le_of_ble_eq_true rfl) ⟨Nat.le_of_ble_eq_true rfl, Nat.le_of_ble_eq_true rfl⟩ ⟨Nat.zero_le _, Nat.zero_le _⟩ dX8_readLine_142 ?_
                refine fw_if_eq C 156 dX8_readLine_145 (by decide) (fun c19 => ?_) (fun c19 => ?_)
                · replace h := (if_pos c19).symm.trans h
                  refine fw_aload_n C 0 dX8_readLine_156 rfl rfl ?_
                  refine fw_getR C 8 0 (Nat.le_of_ble_eq_true rfl) (Nat.le_of_ble_eq_true rfl) wf_X8_9 rfl (gO_of g1) (gN_of g2) dX8_readLine_157 ?_
                  refine fw_ldcS C (i := 5) (List.mem_of_getElem? (i := 18) rfl) dX8_readLine_160 ?_
                  obtain ⟨v20, e20, h⟩ := b1_some h
                  refine fw_callV (ci := 7) [_] C (c_X7_isWord hl e20) cal_X7_isWord wm_X8_46 wi_yX7_isWord wsl_yX7_isWord (Nat.le_of_ble_eq_true rfl) rfl (gO_of g4) rfl (Nat.le_of_ble_eq_true rfl) ⟨Nat.le_of_ble_eq_true rfl, Nat.le_of_ble_eq_true rfl⟩ ⟨Nat.zero_le _, Nat.zero_le _⟩ dX8_readLine_162 ?_
                  refine fw_if_eq C 176 dX8_readLine_165 (by decide) (fun c21 => ?_) (fun c21 => ?_)
                  · replace h := (if_pos c21).symm.trans h
                    refine fw_aload_n C 0 dX8_readLine_176 rfl rfl ?_
                    refine fw_getR C 8 0 (Nat.le_of_ble_eq_true rfl) (Nat.le_of_ble_eq_true rfl) wf_X8_9 rfl (gO_of g1) (gN_of g2) dX8_readLine_177 ?_
                    refine fw_iconst C 1 dX8_readLine_180 rfl ?_
                    obtain ⟨M22, e22, h⟩ := b1_some h
                    refine fw_callV (ci := 7) [_] C (c_X7_fail hl e22) cal_X7_fail wm_X8_85 wi_yX7_fail wsl_yX7_fail (Nat.le_of_ble_eq_true rfl) rfl (gO_of g4) rfl (Nat.le_of_ble_eq_true rfl) ⟨Nat.le_of_ble_eq_true rfl, Nat.le_of_ble_eq_true rfl⟩ ⟨Nat.zero_le _, Nat.zero_le _⟩ dX8_readLine_181 ?_
                    obtain rfl := Option.some.inj h
                    exact fw_vret C hr hlk dX8_readLine_184
                  · replace h := (if_neg c21).symm.trans h
                    refine fw_aload_n C 0 dX8_readLine_168 rfl rfl ?_
                    refine fw_iconst C 2 dX8_readLine_169 rfl ?_
                    obtain ⟨M23, e23, h⟩ := b1_some h
                    refine fw_callV (ci := 8) [_] C (c_X8_readRule hl e23) cal_X8_readRule wm_X8_78 wi_yX8_readRule wsl_yX8_readRule (Nat.le_of_ble_eq_true rfl) rfl (gO_of g1) rfl (Nat.le_of_ble_eq_true rfl) ⟨Nat.le_of_ble_eq_true rfl, Nat.le_of_ble_eq_true rfl⟩ ⟨Nat.zero_le _, Nat.zero_le _⟩ dX8_readLine_170 ?_
                    refine fw_goto C 184 dX8_readLine_173 (by decide) ?_
                    obtain rfl := Option.some.inj h
                    exact fw_vret C hr hlk dX8_readLine_184
                · replace h := (if_neg c19).symm.trans h
                  refine fw_aload_n C 0 dX8_readLine_148 rfl rfl ?_
                  refine fw_iconst C 1 dX8_readLine_149 rfl ?_
                  obtain ⟨M24, e24, h⟩ := b1_some h
                  refine fw_callV (ci := 8) [_] C (c_X8_readRule hl e24) cal_X8_readRule wm_X8_78 wi_yX8_readRule wsl_yX8_readRule (Nat.le_of_ble_eq_true rfl) rfl (gO_of g1) rfl (Nat.le_of_ble_eq_true rfl) ⟨Nat.le_of_ble_eq_true rfl, Nat.le_of_ble_eq_true rfl⟩ ⟨Nat.zero_le _, Nat.zero_le _⟩ dX8_readLine_150 ?_
                  refine fw_goto C 184 dX8_readLine_153 (by decide) ?_
                  obtain rfl := Option.some.inj h
                  exact fw_vret C hr hlk dX8_readLine_184
              · replace h := (if_neg c17).symm.trans h
                refine fw_aload_n C 0 dX8_readLine_128 rfl rfl ?_
                refine fw_iconst C 0 dX8_readLine_129 rfl ?_
                obtain ⟨M25, e25, h⟩ := b1_some h
                refine fw_callV (ci := 8) [_] C (c_X8_readRule hl e25) cal_X8_readRule wm_X8_78 wi_yX8_readRule wsl_yX8_readRule (Nat.le_of_ble_eq_true rfl) rfl (gO_of g1) rfl (Nat.le_of_ble_eq_true rfl) ⟨Nat.le_of_ble_eq_true rfl, Nat.le_of_ble_eq_true rfl⟩ ⟨Nat.zero_le _, Nat.zero_le _⟩ dX8_readLine_130 ?_
                refine fw_goto C 184 dX8_readLine_133 (by decide) ?_
                obtain rfl := Option.some.inj h
                exact fw_vret C hr hlk dX8_readLine_184
            · replace h := (if_neg c15).symm.trans h
              refine fw_aload_n C 0 dX8_readLine_109 rfl rfl ?_
              obtain ⟨M26, e26, h⟩ := b1_some h
              refine fw_callV (ci := 8) [] C (c_X8_readReversed hl e26) cal_X8_readReversed wm_X8_73 wi_yX8_readReversed wsl_yX8_readReversed (Nat.le_of_ble_eq_true rfl) rfl (gO_of g1) rfl (Nat.le_of_ble_eq_true rfl) ⟨Nat.le_of_ble_eq_true rfl, Nat.le_of_ble_eq_true rfl⟩ ⟨Nat.zero_le _, Nat.zero_le _⟩ dX8_readLine_110 ?_
              refine fw_goto C 184 dX8_readLine_113 (by decide) ?_
              obtain rfl := Option.some.inj h
              exact fw_vret C hr hlk dX8_readLine_184
          · replace h := (if_neg c13).symm.trans h
            refine fw_aload_n C 0 dX8_readLine_90 rfl rfl ?_
            obtain ⟨M27, e27, h⟩ := b1_some h
            refine fw_callV (ci := 8) [] C (c_X8_readJudged hl e27) cal_X8_readJudged wm_X8_68 wi_yX8_readJudged wsl_yX8_readJudged (Nat.le_of_ble_eq_true rfl) rfl (gO_of g1) rfl (Nat.le_of_ble_eq_true rfl) ⟨Nat.le_of_ble_eq_true rfl, Nat.le_of_ble_eq_true rfl⟩ ⟨Nat.zero_le _, Nat.zero_le _⟩ dX8_readLine_91 ?_
            refine fw_goto C 184 dX8_readLine_94 (by decide) ?_
            obtain rfl := Option.some.inj h
            exact fw_vret C hr hlk dX8_readLine_184
        · replace h := (if_neg c11).symm.trans h
          refine fw_aload_n C 0 dX8_readLine_71 rfl rfl ?_
          obtain ⟨M28, e28, h⟩ := b1_some h
          refine fw_callV (ci := 8) [] C (c_X8_readSuit hl e28) cal_X8_readSuit wm_X8_63 wi_yX8_readSuit wsl_yX8_readSuit (Nat.le_of_ble_eq_true rfl) rfl (gO_of g1) rfl (Nat.le_of_ble_eq_true rfl) ⟨Nat.le_of_ble_eq_true rfl, Nat.le_of_ble_eq_true rfl⟩ ⟨Nat.zero_le _, Nat.zero_le _⟩ dX8_readLine_72 ?_
          refine fw_goto C 184 dX8_readLine_75 (by decide) ?_
          obtain rfl := Option.some.inj h
          exact fw_vret C hr hlk dX8_readLine_184
      · replace h := (if_neg c9).symm.trans h
        refine fw_aload_n C 0 dX8_readLine_51 rfl rfl ?_
        refine fw_iconst C 1 dX8_readLine_52 rfl ?_
        obtain ⟨M29, e29, h⟩ := b1_some h
        refine fw_callV (ci := 8) [_] C (c_X8_readLink hl e29) cal_X8_readLink wm_X8_55 wi_yX8_readLink wsl_yX8_readLink (Nat.le_of_ble_eq_true rfl) rfl (gO_of g1) rfl (Nat.le_of_ble_eq_true rfl) ⟨Nat.le_of_ble_eq_true rfl, Nat.le_of_ble_eq_true rfl⟩ ⟨Nat.zero_le _, Nat.zero_le _⟩ dX8_readLine_53 ?_
        refine fw_goto C 184 dX8_readLine_56 (by decide) ?_
        obtain rfl := Option.some.inj h
        exact fw_vret C hr hlk dX8_readLine_184
    · replace h := (if_neg c7).symm.trans h
      refine fw_aload_n C 0 dX8_readLine_31 rfl rfl ?_
      refine fw_iconst C 0 dX8_readLine_32 rfl ?_
      obtain ⟨M30, e30, h⟩ := b1_some h
      refine fw_callV (ci := 8) [_] C (c_X8_readLink hl e30) cal_X8_readLink wm_X8_55 wi_yX8_readLink wsl_yX8_readLink (Nat.le_of_ble_eq_true rfl) rfl (gO_of g1) rfl (Nat.le_of_ble_eq_true rfl) ⟨Nat.le_of_ble_eq_true rfl, Nat.le_of_ble_eq_true rfl⟩ ⟨Nat.zero_le _, Nat.zero_le _⟩ dX8_readLine_33 ?_
      refine fw_goto C 184 dX8_readLine_36 (by decide) ?_
      obtain rfl := Option.some.inj h
      exact fw_vret C hr hlk dX8_readLine_184
  · replace h := (if_neg c5).symm.trans h
    refine fw_aload_n C 0 dX8_readLine_12 rfl rfl ?_
    obtain ⟨M31, e31, h⟩ := b1_some h
    refine fw_callV (ci := 8) [] C (c_X8_readPerson hl e31) cal_X8_readPerson wm_X8_50 wi_yX8_readPerson wsl_yX8_readPerson (Nat.le_of_ble_eq_true rfl) rfl (gO_of g1) rfl (Nat.le_of_ble_eq_true rfl) ⟨Nat.le_of_ble_eq_true rfl, Nat.le_of_ble_eq_true rfl⟩ ⟨Nat.zero_le _, Nat.zero_le _⟩ dX8_readLine_13 ?_
    refine fw_goto C 184 dX8_readLine_16 (by decide) ?_
    obtain rfl := Option.some.inj h
    exact fw_vret C hr hlk dX8_readLine_184
set_option maxRecDepth 100000 in
def lf_X8_read_19 (S : List fw_Sh) (a0 : Nat) : Nat → Int32 → fw_Mem → Option (fw_Mem)
  | 0, _, _ => none
  | n + 1, x2, M => if x2 ≤ 0 then (some M) else (gd (gO S 8 a0) (gd (gN (M a0 0)) (gd (gO S 7 ((M a0 0).toNatClampNeg)) (if (M ((M a0 0).toNatClampNeg) 7) = 0 then (if (M ((M a0 0).toNatClampNeg) 3) = 0 then (some M) else (b1 (f_X8_readLine S M a0) (fun M14 => gd (gN (M14 a0 0)) (gd (gO S 7 ((M14 a0 0).toNatClampNeg)) (b1 (f_X7_passSign S M14 ((M14 a0 0).toNatClampNeg) 59) (fun M16 => lf_X8_read_19 S a0 n (x2 + (-1)) M16)))))) else (some M)))))
set_option maxHeartbeats 4000000 in
set_option maxRecDepth 100000 in
theorem lc_X8_read_19 {G : fw_G} {p : Program} {l : Launch} {e : Env} {s : State} {m : MethodId} {args : Array Value} {below : List Frame} {meth : Method} {c : Code} {S : List fw_Sh} {o : fw_O} {a0 : Nat} (C : fw_C G RX8 cX8_read 3 p s m args c) (hr : meth.sig.returnType = none) (hlk : meth.locks = false) (hl : l.stackTraces = false) (ht : ∀ x ∈ c.exceptionTable.toList, False) :
    ∀ {n : Nat} {x2 : Int32} {M : fw_Mem} {r : (fw_Mem)} (h : lf_X8_read_19 S a0 n x2 M = some r) (kx : fw_W G p l e (fw_rm 12 (fw_mcO o) (fw_msO o)) s m args below meth c 3 (fw_Z G below args s (fw_mcO o) (fw_msO o) o) 0 0 62 [] [] S r), fw_W G p l e (fw_rm 12 (fw_mcO o) (fw_msO o)) s m args below meth c 3 (fw_Z G below args s (fw_mcO o) (fw_msO o) o) 0 0 19 [(0, .ref a0), (2, .int x2)] [] S M := by
  intro n
  induction n with
  | zero =>
    intro x2 M r h
    exact nomatch (show (none : Option (fw_Mem)) = some r from h)
  | succ n ih =>
    intro x2 M r h kx
    rw [lf_X8_read_19.eq_2] at h
    refine fw_iload_n C 1 dX8_read_19 rfl rfl ?_
    refine fw_if_le C 62 dX8_read_20 (by decide) (fun c8 => ?_) (fun c8 => ?_)
    · replace h := (if_pos c8).symm.trans h
      obtain rfl := Option.some.inj h
      refine fw_sub [] rfl ?_
      exact kx
    · replace h := (if_neg c8).symm.trans h
      refine fw_aload_n C 0 dX8_read_23 rfl rfl ?_
      obtain ⟨g9, h⟩ := gd_some h
      obtain ⟨g10, h⟩ := gd_some h
      refine fw_getR C 8 0 (Nat.le_of_ble_eq_true rfl) (Nat.le_of_ble_eq_true rfl) wf_X8_9 rfl (gO_of g9) (gN_of g10) dX8_read_24 ?_
      obtain ⟨g11, h⟩ := gd_some h
      refine fw_getI C 7 7 (Nat.le_of_ble_eq_true rfl) (Nat.le_of_ble_eq_true rfl) wf_X8_30 rfl (gO_of g11) dX8_read_27 ?_
      refine fw_if_ne C 62 dX8_read_30 (by decide) (fun c12 => ?_) (fun c12 => ?_)
      · replace h := (if_neg c12).symm.trans h
        obtain rfl := Option.some.inj h
        refine fw_sub [] rfl ?_
        exact kx
      · replace h := (if_pos c12).symm.trans h
        refine fw_aload_n C 0 dX8_read_33 rfl rfl ?_
        refine fw_getR C 8 0 (Nat.le_of_ble_eq_true rfl) (Nat.le_of_ble_eq_true rfl) wf_X8_9 rfl (gO_of g9) (gN_of g10) dX8_read_34 ?_
        refine fw_getI C 7 3 (Nat.le_of_ble_eq_true rfl) (Nat.le_of_ble_eq_true rfl) wf_X8_34 rfl (gO_of g11) dX8_read_37 ?_
        refine fw_if_eq C 62 dX8_read_40 (by decide) (fun c13 => ?_) (fun c13 => ?_)
        · replace h := (if_pos c13).symm.trans h
          obtain rfl := Option.some.inj h
          refine fw_sub [] rfl ?_
          exact kx
        · replace h := (if_neg c13).symm.trans h
          refine fw_aload_n C 0 dX8_read_43 rfl rfl ?_
          obtain ⟨M14, e14, h⟩ := b1_some h
          refine fw_callV (ci := 8) [] C (c_X8_readLine hl e14) cal_X8_readLine wm_X8_37 wi_yX8_readLine wsl_yX8_readLine (Nat.le_of_ble_eq_true rfl) rfl (gO_of g9) rfl (Nat.le_of_ble_eq_true rfl) ⟨Nat.le_of_ble_eq_true rfl, Nat.le_of_ble_eq_true rfl⟩ ⟨Nat.zero_le _, Nat.zero_le _⟩ dX8_read_44 ?_
          refine fw_aload_n C 0 dX8_read_47 rfl rfl ?_
          obtain ⟨g15, h⟩ := gd_some h
          refine fw_getR C 8 0 (Nat.le_of_ble_eq_true rfl) (Nat.le_of_ble_eq_true rfl) wf_X8_9 rfl (gO_of g9) (gN_of g15) dX8_read_48 ?_
          refine fw_bipush C 59 dX8_read_51 rfl ?_
          obtain ⟨g17, h⟩ := gd_some h
          obtain ⟨M16, e16, h⟩ := b1_some h
          refine fw_callV (ci := 7) [_] C (c_X7_passSign hl e16) cal_X7_passSign wm_X8_40 wi_yX7_passSign wsl_yX7_passSign (Nat.le_of_ble_eq_true rfl) rfl (gO_of g17) rfl (Nat.le_of_ble_eq_true rfl) ⟨Nat.le_of_ble_eq_true rfl, Nat.le_of_ble_eq_true rfl⟩ ⟨Nat.zero_le _, Nat.zero_le _⟩ dX8_read_53 ?_
          refine fw_iinc C _ 1 [(2, _), (0, _)] dX8_read_56 rfl rfl (Nat.le_of_ble_eq_true rfl) rfl ?_
          refine fw_goto C 19 dX8_read_59 (by decide) ?_
          refine fw_sub [1, 0] rfl ?_
          exact ih h kx
set_option maxRecDepth 100000 in
def f_X8_read (S : List fw_Sh) (M : fw_Mem) (a0 : Nat) (x1 : Int32) : Option fw_Mem := gd (gO S 8 a0) (gd (gN (M a0 1)) (gd (gO S 4 ((M a0 1).toNatClampNeg)) (b1 (f_X4_clear S M ((M a0 1).toNatClampNeg)) (fun M3 => gd (gN (M3 a0 0)) (gd (gO S 7 ((M3 a0 0).toNatClampNeg)) (b1 (f_X7_open S M3 ((M3 a0 0).toNatClampNeg) x1) (fun M6 => b1 (lf_X8_read_19 S a0 20000 600 M6) (fun l18 => some l18))))))))
set_option maxHeartbeats 4000000 in
set_option maxRecDepth 100000 in
theorem c_X8_read {l : Launch} {G : fw_G} {S : List fw_Sh} {M : fw_Mem} {a0 : Nat} {x1 : Int32} {r : fw_Mem} (hl : l.stackTraces = false) (h : f_X8_read S M a0 x1 = some r) : fw_M l G yX8_read (.code yX8_read cX8_read 3 none) 12 (fw_mcO (.inl none, S, r)) (fw_msO (.inl none, S, r)) S M [.ref a0, .int x1] (.inl none, S, r) := by
  refine fw_of [(0, .ref a0), (1, .int x1)] (by decide) (Nat.le_of_ble_eq_true rfl) rfl ?_
  intro p e s m args below meth c C hr hlk hnm ht _
  unfold f_X8_read at h
  refine fw_aload_n C 0 dX8_read_0 rfl rfl ?_
  obtain ⟨g1, h⟩ := gd_some h
  obtain ⟨g2, h⟩ := gd_some h
  refine fw_getR C 8 1 (Nat.le_of_ble_eq_true rfl) (Nat.le_of_ble_eq_true rfl) wf_X8_15 rfl (gO_of g1) (gN_of g2) dX8_read_1 ?_
  obtain ⟨g4, h⟩ := gd_some h
  obtain ⟨M3, e3, h⟩ := b1_some h
  refine fw_callV (ci := 4) [] C (c_X4_clear hl e3) cal_X4_clear wm_X8_19 wi_yX4_clear wsl_yX4_clear (Nat.le_of_ble_eq_true rfl) rfl (gO_of g4) rfl (Nat.le_of_ble_eq_true rfl) ⟨Nat.le_of_ble_eq_true rfl, Nat.le_of_ble_eq_true rfl⟩ ⟨Nat.zero_le _, Nat.zero_le _⟩ dX8_read_4 ?_
  refine fw_aload_n C 0 dX8_read_7 rfl rfl ?_
  obtain ⟨g5, h⟩ := gd_some h
  refine fw_getR C 8 0 (Nat.le_of_ble_eq_true rfl) (Nat.le_of_ble_eq_true rfl) wf_X8_9 rfl (gO_of g1) (gN_of g5) dX8_read_8 ?_
  refine fw_iload_n C 1 dX8_read_11 rfl rfl ?_
  obtain ⟨g7, h⟩ := gd_some h
  obtain ⟨M6, e6, h⟩ := b1_some h
  refine fw_callV (ci := 7) [_] C (c_X7_open hl e6) cal_X7_open wm_X8_24 wi_yX7_open wsl_yX7_open (Nat.le_of_ble_eq_true rfl) rfl (gO_of g7) rfl (Nat.le_of_ble_eq_true rfl) ⟨Nat.le_of_ble_eq_true rfl, Nat.le_of_ble_eq_true rfl⟩ ⟨Nat.zero_le _, Nat.zero_le _⟩ dX8_read_12 ?_
  refine fw_sipush C 600 dX8_read_15 rfl ?_
  refine fw_istore_n C [(2, _), (0, _), (1, _)] dX8_read_18 rfl (Nat.le_of_ble_eq_true rfl) rfl ?_
  refine fw_sub [1, 0] rfl ?_
  obtain ⟨l18, e18, h⟩ := b1_some h
  refine lc_X8_read_19 C hr hlk hl ht e18 ?_
  obtain rfl := Option.some.inj h
  exact fw_vret C hr hlk dX8_read_62
set_option maxRecDepth 100000 in
def f_X3_isRuler (S : List fw_Sh) (M : fw_Mem) (a0 : Nat) : Option Int32 := gd (gO S 3 a0) (if (M a0 3) = (-1) then (some 0) else (some 1))
set_option maxHeartbeats 4000000 in
set_option maxRecDepth 100000 in
theorem c_X3_isRuler {l : Launch} {G : fw_G} {S : List fw_Sh} {M : fw_Mem} {a0 : Nat} {r : Int32} (hl : l.stackTraces = false) (h : f_X3_isRuler S M a0 = some r) : fw_M l G yX3_isRuler (.code yX3_isRuler cX3_isRuler 1 (some .boolean)) 1 (fw_mcO (.inl (some (.int r)), S, M)) (fw_msO (.inl (some (.int r)), S, M)) S M [.ref a0] (.inl (some (.int r)), S, M) := by
  refine fw_of [(0, .ref a0)] (by decide) (Nat.le_of_ble_eq_true rfl) rfl ?_
  intro p e s m args below meth c C hr hlk hnm ht _
  unfold f_X3_isRuler at h
  refine fw_aload_n C 0 dX3_isRuler_0 rfl rfl ?_
  obtain ⟨g1, h⟩ := gd_some h
  refine fw_getI C 3 3 (Nat.le_of_ble_eq_true rfl) (Nat.le_of_ble_eq_true rfl) wf_X3_21 rfl (gO_of g1) dX3_isRuler_1 ?_
  refine fw_iconst C (-1) dX3_isRuler_4 rfl ?_
  refine fw_icmp_eq C 12 dX3_isRuler_5 (by decide) (fun c2 => ?_) (fun c2 => ?_)
  · replace h := (if_pos c2).symm.trans h
    refine fw_iconst C 0 dX3_isRuler_12 rfl ?_
    obtain rfl := Option.some.inj h
    exact fw_zret C hr (Or.inl rfl) hlk dX3_isRuler_13
  · replace h := (if_neg c2).symm.trans h
    refine fw_iconst C 1 dX3_isRuler_8 rfl ?_
    refine fw_goto C 13 dX3_isRuler_9 (by decide) ?_
    obtain rfl := Option.some.inj h
    exact fw_zret C hr (Or.inr rfl) hlk dX3_isRuler_13
set_option maxRecDepth 100000 in
def f_X3_carries (S : List fw_Sh) (M : fw_Mem) (a0 : Nat) (x1 : Int32) : Option Int32 := gd (gO S 3 a0) (b1 (f_X3_isRuler S M a0) (fun v1 => if v1 = 0 then (if (M a0 2) < x1 then (some 0) else (some 1)) else (if x1 < (M a0 2) then (some 0) else (if (M a0 3) < x1 then (some 0) else (some 1)))))
set_option maxHeartbeats 4000000 in
set_option maxRecDepth 100000 in
theorem c_X3_carries {l : Launch} {G : fw_G} {S : List fw_Sh} {M : fw_Mem} {a0 : Nat} {x1 : Int32} {r : Int32} (hl : l.stackTraces = false) (h : f_X3_carries S M a0 x1 = some r) : fw_M l G yX3_carries (.code yX3_carries cX3_carries 2 (some .boolean)) 2 (fw_mcO (.inl (some (.int r)), S, M)) (fw_msO (.inl (some (.int r)), S, M)) S M [.ref a0, .int x1] (.inl (some (.int r)), S, M) := by
  refine fw_of [(0, .ref a0), (1, .int x1)] (by decide) (Nat.le_of_ble_eq_true rfl) rfl ?_
  intro p e s m args below meth c C hr hlk hnm ht _
  unfold f_X3_carries at h
  refine fw_aload_n C 0 dX3_carries_0 rfl rfl ?_
  obtain ⟨g2, h⟩ := gd_some h
  obtain ⟨v1, e1, h⟩ := b1_some h
  refine fw_callV (ci := 3) [] C (c_X3_isRuler hl e1) cal_X3_isRuler wm_X3_24 wi_yX3_isRuler wsl_yX3_isRuler (Nat.le_of_ble_eq_true rfl) rfl (gO_of g2) rfl (Nat.le_of_ble_eq_true rfl) ⟨Nat.le_of_ble_eq_true rfl, Nat.le_of_ble_eq_true rfl⟩ ⟨Nat.zero_le _, Nat.zero_le _⟩ dX3_carries_1 ?_
  refine fw_if_eq C 31 dX3_carries_4 (by decide) (fun c3 => ?_) (fun c3 => ?_)
  · replace h := (if_pos c3).symm.trans h
    refine fw_aload_n C 0 dX3_carries_31 rfl rfl ?_
    refine fw_getI C 3 2 (Nat.le_of_ble_eq_true rfl) (Nat.le_of_ble_eq_true rfl) wf_X3_18 rfl (gO_of g2) dX3_carries_32 ?_
    refine fw_iload_n C 1 dX3_carries_35 rfl rfl ?_
    refine fw_icmp_lt C 43 dX3_carries_36 (by decide) (fun c4 => ?_) (fun c4 => ?_)
    · replace h := (if_pos c4).symm.trans h
      refine fw_iconst C 0 dX3_carries_43 rfl ?_
      obtain rfl := Option.some.inj h
      exact fw_zret C hr (Or.inl rfl) hlk dX3_carries_44
    · replace h := (if_neg c4).symm.trans h
      refine fw_iconst C 1 dX3_carries_39 rfl ?_
      refine fw_goto C 44 dX3_carries_40 (by decide) ?_
      obtain rfl := Option.some.inj h
      exact fw_zret C hr (Or.inr rfl) hlk dX3_carries_44
  · replace h := (if_neg c3).symm.trans h
    refine fw_aload_n C 0 dX3_carries_7 rfl rfl ?_
    refine fw_getI C 3 2 (Nat.le_of_ble_eq_true rfl) (Nat.le_of_ble_eq_true rfl) wf_X3_18 rfl (gO_of g2) dX3_carries_8 ?_
    refine fw_iload_n C 1 dX3_carries_11 rfl rfl ?_
    refine fw_icmp_gt C 27 dX3_carries_12 (by decide) (fun c5 => ?_) (fun c5 => ?_)
    · replace h := (if_pos c5).symm.trans h
      refine fw_iconst C 0 dX3_carries_27 rfl ?_
      refine fw_goto C 44 dX3_carries_28 (by decide) ?_
      obtain rfl := Option.some.inj h
      exact fw_zret C hr (Or.inl rfl) hlk dX3_carries_44
    · replace h := (if_neg c5).symm.trans h
      refine fw_iload_n C 1 dX3_carries_15 rfl rfl ?_
      refine fw_aload_n C 0 dX3_carries_16 rfl rfl ?_
      refine fw_getI C 3 3 (Nat.le_of_ble_eq_true rfl) (Nat.le_of_ble_eq_true rfl) wf_X3_21 rfl (gO_of g2) dX3_carries_17 ?_
      refine fw_icmp_gt C 27 dX3_carries_20 (by decide) (fun c6 => ?_) (fun c6 => ?_)
      · replace h := (if_pos c6).symm.trans h
        refine fw_iconst C 0 dX3_carries_27 rfl ?_
        refine fw_goto C 44 dX3_carries_28 (by decide) ?_
        obtain rfl := Option.some.inj h
        exact fw_zret C hr (Or.inl rfl) hlk dX3_carries_44
      · replace h := (if_neg c6).symm.trans h
        refine fw_iconst C 1 dX3_carries_23 rfl ?_
        refine fw_goto C 44 dX3_carries_24 (by decide) ?_
        obtain rfl := Option.some.inj h
        exact fw_zret C hr (Or.inr rfl) hlk dX3_carries_44
set_option maxRecDepth 100000 in
def lf_X2_reachOf_29 (S : List fw_Sh) (M : fw_Mem) (a0 : Nat) (a1 : Nat) (x4 : Int32) (x5 : Int32) : Nat → Int32 → Int32 → Option (Int32)
  | 0, _, _ => none
  | n + 1, x3, x6 => gd (gO S 2 a0) (gd (gN (M a0 0)) (gd (gO S 4 ((M a0 0).toNatClampNeg)) (if (M ((M a0 0).toNatClampNeg) 5) ≤ x6 then (some x3) else (gd (gN (M ((M a0 0).toNatClampNeg) 1)) (gd (gA S 3 ((M ((M a0 0).toNatClampNeg) 1).toNatClampNeg) x6) (gd (gN (M ((M ((M a0 0).toNatClampNeg) 1).toNatClampNeg) x6.toNatClampNeg)) (gd (gO S 3 ((M ((M ((M a0 0).toNatClampNeg) 1).toNatClampNeg) x6.toNatClampNeg).toNatClampNeg)) (if ((x3 >>> ((M ((M ((M ((M a0 0).toNatClampNeg) 1).toNatClampNeg) x6.toNatClampNeg).toNatClampNeg) 0) &&& 31)) &&& 1) = 1 then (gd (gO S 6 a1) (b1 (f_X3_carries S M ((M ((M ((M a0 0).toNatClampNeg) 1).toNatClampNeg) x6.toNatClampNeg).toNatClampNeg) (M a1 7)) (fun v16 => if v16 = 0 then (lf_X2_reachOf_29 S M a0 a1 x4 x5 n x3 (x6 + 1)) else (bm (x3 ||| ((1 : Int32) <<< ((M ((M ((M ((M a0 0).toNatClampNeg) 1).toNatClampNeg) x6.toNatClampNeg).toNatClampNeg) 1) &&& 31))) (fun y18 => lf_X2_reachOf_29 S M a0 a1 x4 x5 n y18 (x6 + 1)))))) else (lf_X2_reachOf_29 S M a0 a1 x4 x5 n x3 (x6 + 1))))))))))
set_option maxHeartbeats 4000000 in
set_option maxRecDepth 100000 in
theorem lc_X2_reachOf_29 {G : fw_G} {p : Program} {l : Launch} {e : Env} {s : State} {m : MethodId} {args : Array Value} {below : List Frame} {meth : Method} {c : Code} {S : List fw_Sh} {o : fw_O} {M : fw_Mem} {a0 : Nat} {a1 : Nat} {x4 : Int32} {x5 : Int32} (C : fw_C G RX2 cX2_reachOf 8 p s m args c) (hr : meth.sig.returnType = (some .int)) (hlk : meth.locks = false) (hl : l.stackTraces = false) (ht : ∀ x ∈ c.exceptionTable.toList, False) :
    ∀ {n : Nat} {x3 : Int32} {x6 : Int32} {r : (Int32)} (h : lf_X2_reachOf_29 S M a0 a1 x4 x5 n x3 x6 = some r) (kx : fw_W G p l e (fw_rm 3 (fw_mcO o) (fw_msO o)) s m args below meth c 8 (fw_Z G below args s (fw_mcO o) (fw_msO o) o) 0 0 94 [(0, .ref a0), (1, .ref a1), (3, .int r), (4, .int x4), (5, .int x5)] [] S M), fw_W G p l e (fw_rm 3 (fw_mcO o) (fw_msO o)) s m args below meth c 8 (fw_Z G below args s (fw_mcO o) (fw_msO o) o) 0 0 29 [(0, .ref a0), (1, .ref a1), (3, .int x3), (4, .int x4), (5, .int x5), (6, .int x6)] [] S M := by
  intro n
  induction n with
  | zero =>
    intro x3 x6 r h
    exact nomatch (show (none : Option (Int32)) = some r from h)
  | succ n ih =>
    intro x3 x6 r h kx
    rw [lf_X2_reachOf_29.eq_2] at h
    refine fw_iload C 5 dX2_reachOf_29 rfl ?_
    refine fw_aload_n C 0 dX2_reachOf_31 rfl rfl ?_
    obtain ⟨g6, h⟩ := gd_some h
    obtain ⟨g7, h⟩ := gd_some h
    refine fw_getR C 2 0 (Nat.le_of_ble_eq_true rfl) (Nat.le_of_ble_eq_true rfl) wf_X2_27 rfl (gO_of g6) (gN_of g7) dX2_reachOf_32 ?_
    obtain ⟨g8, h⟩ := gd_some h
    refine fw_getI C 4 5 (Nat.le_of_ble_eq_true rfl) (Nat.le_of_ble_eq_true rfl) wf_X2_82 rfl (gO_of g8) dX2_reachOf_35 ?_
    refine fw_icmp_ge C 94 dX2_reachOf_38 (by decide) (fun c9 => ?_) (fun c9 => ?_)
    · replace h := (if_pos c9).symm.trans h
      obtain rfl := Option.some.inj h
      refine fw_sub [0, 1, 2, 3, 4] rfl ?_
      exact kx
    · replace h := (if_neg c9).symm.trans h
      refine fw_aload_n C 0 dX2_reachOf_41 rfl rfl ?_
      refine fw_getR C 2 0 (Nat.le_of_ble_eq_true rfl) (Nat.le_of_ble_eq_true rfl) wf_X2_27 rfl (gO_of g6) (gN_of g7) dX2_reachOf_42 ?_
      obtain ⟨g10, h⟩ := gd_some h
      refine fw_getR C 4 1 (Nat.le_of_ble_eq_true rfl) (Nat.le_of_ble_eq_true rfl) wf_X2_85 rfl (gO_of g8) (gN_of g10) dX2_reachOf_45 ?_
      refine fw_iload C 5 dX2_reachOf_48 rfl ?_
      obtain ⟨g11, h⟩ := gd_some h
      obtain ⟨g12, h⟩ := gd_some h
      refine fw_aald C 3 (by decide) (gA_of g11) (gN_of g12) dX2_reachOf_50 ?_
      refine fw_astore C [(7, _), (0, _), (1, _), (3, _), (4, _), (5, _), (6, _)] dX2_reachOf_51 (Nat.le_of_ble_eq_true rfl) rfl ?_
      refine fw_iload_n C 3 dX2_reachOf_53 rfl rfl ?_
      refine fw_aload C 0 dX2_reachOf_54 rfl ?_
      obtain ⟨g13, h⟩ := gd_some h
      refine fw_getI C 3 0 (Nat.le_of_ble_eq_true rfl) (Nat.le_of_ble_eq_true rfl) wf_X2_89 rfl (gO_of g13) dX2_reachOf_56 ?_
      refine fw_ishr C dX2_reachOf_59 ?_
      refine fw_iconst C 1 dX2_reachOf_60 rfl ?_
      refine fw_iand C dX2_reachOf_61 ?_
      refine fw_iconst C 1 dX2_reachOf_62 rfl ?_
      refine fw_icmp_ne C 88 dX2_reachOf_63 (by decide) (fun c14 => ?_) (fun c14 => ?_)
      · replace h := (if_neg c14).symm.trans h
        refine fw_iinc C _ 6 [(6, _), (7, _), (0, _), (1, _), (3, _), (4, _), (5, _)] dX2_reachOf_88 rfl rfl (Nat.le_of_ble_eq_true rfl) rfl ?_
        refine fw_goto C 29 dX2_reachOf_91 (by decide) ?_
        refine fw_sub [2, 3, 4, 5, 6, 0] rfl ?_
        exact ih h kx
      · replace h := (if_pos c14).symm.trans h
        refine fw_aload C 0 dX2_reachOf_66 rfl ?_
        refine fw_aload_n C 2 dX2_reachOf_68 rfl rfl ?_
        obtain ⟨g15, h⟩ := gd_some h
        refine fw_getI C 6 7 (Nat.le_of_ble_eq_true rfl) (Nat.le_of_ble_eq_true rfl) wf_X2_94 rfl (gO_of g15) dX2_reachOf_69 ?_
        obtain ⟨v16, e16, h⟩ := b1_some h
        refine fw_callV (ci := 3) [_] C (c_X3_carries hl e16) cal_X3_carries wm_X2_97 wi_yX3_carries wsl_yX3_carries (Nat.le_of_ble_eq_true rfl) rfl (gO_of g13) rfl (Nat.le_of_ble_eq_true rfl) ⟨Nat.le_of_ble_eq_true rfl, Nat.le_of_ble_eq_true rfl⟩ ⟨Nat.zero_le _, Nat.zero_le _⟩ dX2_reachOf_72 ?_
        refine fw_if_eq C 88 dX2_reachOf_75 (by decide) (fun c17 => ?_) (fun c17 => ?_)
        · replace h := (if_pos c17).symm.trans h
          refine fw_iinc C _ 6 [(6, _), (7, _), (0, _), (1, _), (3, _), (4, _), (5, _)] dX2_reachOf_88 rfl rfl (Nat.le_of_ble_eq_true rfl) rfl ?_
          refine fw_goto C 29 dX2_reachOf_91 (by decide) ?_
          refine fw_sub [2, 3, 4, 5, 6, 0] rfl ?_
          exact ih h kx
        · replace h := (if_neg c17).symm.trans h
          refine fw_iload_n C 3 dX2_reachOf_78 rfl rfl ?_
          refine fw_iconst C 1 dX2_reachOf_79 rfl ?_
          refine fw_aload C 0 dX2_reachOf_80 rfl ?_
          refine fw_getI C 3 1 (Nat.le_of_ble_eq_true rfl) (Nat.le_of_ble_eq_true rfl) wf_X2_101 rfl (gO_of g13) dX2_reachOf_82 ?_
          refine fw_ishl C dX2_reachOf_85 ?_
          refine fw_ior C dX2_reachOf_86 ?_
          refine fw_bi h (fun y18 h => ?_)
          refine fw_istore_n C [(3, _), (7, _), (0, _), (1, _), (4, _), (5, _), (6, _)] dX2_reachOf_87 rfl (Nat.le_of_ble_eq_true rfl) rfl ?_
          refine fw_iinc C _ 6 [(6, _), (3, _), (7, _), (0, _), (1, _), (4, _), (5, _)] dX2_reachOf_88 rfl rfl (Nat.le_of_ble_eq_true rfl) rfl ?_
          refine fw_goto C 29 dX2_reachOf_91 (by decide) ?_
          refine fw_sub [3, 4, 1, 5, 6, 0] rfl ?_
          exact ih h kx
set_option maxRecDepth 100000 in
def lf_X2_reachOf_16 (S : List fw_Sh) (M : fw_Mem) (a0 : Nat) (a1 : Nat) : Nat → Int32 → Int32 → Option (Int32 ⊕ (Int32))
  | 0, _, _ => none
  | n + 1, x3, x4 => if (12 : Int32) ≤ x4 then (some (.inr x3)) else (b1 (lf_X2_reachOf_29 S M a0 a1 x4 x3 20000 x3 0) (fun l19 => if l19 = x3 then (some (.inl l19)) else (lf_X2_reachOf_16 S M a0 a1 n l19 (x4 + 1))))
set_option maxHeartbeats 4000000 in
set_option maxRecDepth 100000 in
theorem lc_X2_reachOf_16 {G : fw_G} {p : Program} {l : Launch} {e : Env} {s : State} {m : MethodId} {args : Array Value} {below : List Frame} {meth : Method} {c : Code} {S : List fw_Sh} {o : fw_O} {M : fw_Mem} {a0 : Nat} {a1 : Nat} (C : fw_C G RX2 cX2_reachOf 8 p s m args c) (hr : meth.sig.returnType = (some .int)) (hlk : meth.locks = false) (hl : l.stackTraces = false) (ht : ∀ x ∈ c.exceptionTable.toList, False) :
    ∀ {n : Nat} {x3 : Int32} {x4 : Int32} {r : (Int32 ⊕ (Int32))} (h : lf_X2_reachOf_16 S M a0 a1 n x3 x4 = some r) (kx : ∀ d, r = .inr d → fw_W G p l e (fw_rm 3 (fw_mcO o) (fw_msO o)) s m args below meth c 8 (fw_Z G below args s (fw_mcO o) (fw_msO o) o) 0 0 108 [(3, .int d)] [] S M) (hret : ∀ t, r = .inl t → o = (.inl (some (.int t)), S, M)), fw_W G p l e (fw_rm 3 (fw_mcO o) (fw_msO o)) s m args below meth c 8 (fw_Z G below args s (fw_mcO o) (fw_msO o) o) 0 0 16 [(0, .ref a0), (1, .ref a1), (3, .int x3), (4, .int x4)] [] S M := by
  intro n
  induction n with
  | zero =>
    intro x3 x4 r h
    exact nomatch (show (none : Option (Int32 ⊕ (Int32))) = some r from h)
  | succ n ih =>
    intro x3 x4 r h kx hret
    rw [lf_X2_reachOf_16.eq_2] at h
    refine fw_iload C 3 dX2_reachOf_16 rfl ?_
    refine fw_bipush C 12 dX2_reachOf_18 rfl ?_
    refine fw_icmp_ge C 108 dX2_reachOf_20 (by decide) (fun c5 => ?_) (fun c5 => ?_)
    · replace h := (if_pos c5).symm.trans h
      refine fw_sub [2] rfl ?_
      exact kx _ (Option.some.inj h).symm
    · replace h := (if_neg c5).symm.trans h
      refine fw_iload_n C 2 dX2_reachOf_23 rfl rfl ?_
      refine fw_istore C [(5, _), (0, _), (1, _), (3, _), (4, _)] dX2_reachOf_24 (Nat.le_of_ble_eq_true rfl) rfl ?_
      refine fw_iconst C 0 dX2_reachOf_26 rfl ?_
      refine fw_istore C [(6, _), (5, _), (0, _), (1, _), (3, _), (4, _)] dX2_reachOf_27 (Nat.le_of_ble_eq_true rfl) rfl ?_
      refine fw_sub [2, 3, 4, 5, 1, 0] rfl ?_
      obtain ⟨l19, e19, h⟩ := b1_some h
      refine lc_X2_reachOf_29 C hr hlk hl ht e19 ?_
      refine fw_iload_n C 2 dX2_reachOf_94 rfl rfl ?_
      refine fw_iload C 4 dX2_reachOf_95 rfl ?_
      refine fw_icmp_ne C 102 dX2_reachOf_97 (by decide) (fun c20 => ?_) (fun c20 => ?_)
      · replace h := (if_neg c20).symm.trans h
        refine fw_iinc C _ 3 [(4, _), (0, _), (1, _), (3, _), (5, _)] dX2_reachOf_102 rfl rfl (Nat.le_of_ble_eq_true rfl) rfl ?_
        refine fw_goto C 16 dX2_reachOf_105 (by decide) ?_
        refine fw_sub [1, 2, 3, 0] rfl ?_
        exact ih h kx hret
      · replace h := (if_pos c20).symm.trans h
        refine fw_iload_n C 2 dX2_reachOf_100 rfl rfl ?_
        have ho := hret _ (Option.some.inj h).symm
        subst ho
        exact fw_iret C hr hlk dX2_reachOf_101
set_option maxRecDepth 100000 in
def f_X2_reachOf (S : List fw_Sh) (M : fw_Mem) (a0 : Nat) (a1 : Nat) (x2 : Int32) : Option Int32 := gd (gO S 6 a1) (b1 (f_X6_isJudged S M a1) (fun v1 => if v1 = 0 then (some 0) else (bm ((1 : Int32) <<< (x2 &&& 31)) (fun y4 => b1 (lf_X2_reachOf_16 S M a0 a1 20000 y4 0) (fun l21 => bl l21 (fun t21 => some t21) (fun d21 => some d21))))))
set_option maxHeartbeats 4000000 in
set_option maxRecDepth 100000 in
theorem c_X2_reachOf {l : Launch} {G : fw_G} {S : List fw_Sh} {M : fw_Mem} {a0 : Nat} {a1 : Nat} {x2 : Int32} {r : Int32} (hl : l.stackTraces = false) (h : f_X2_reachOf S M a0 a1 x2 = some r) : fw_M l G yX2_reachOf (.code yX2_reachOf cX2_reachOf 8 (some .int)) 3 (fw_mcO (.inl (some (.int r)), S, M)) (fw_msO (.inl (some (.int r)), S, M)) S M [.ref a0, .ref a1, .int x2] (.inl (some (.int r)), S, M) := by
  refine fw_of [(0, .ref a0), (1, .ref a1), (2, .int x2)] (by decide) (Nat.le_of_ble_eq_true rfl) rfl ?_
  intro p e s m args below meth c C hr hlk hnm ht _
  unfold f_X2_reachOf at h
  refine fw_aload_n C 1 dX2_reachOf_0 rfl rfl ?_
  obtain ⟨g2, h⟩ := gd_some h
  obtain ⟨v1, e1, h⟩ := b1_some h
  refine fw_callV (ci := 6) [] C (c_X6_isJudged hl e1) cal_X6_isJudged wm_X2_78 wi_yX6_isJudged wsl_yX6_isJudged (Nat.le_of_ble_eq_true rfl) rfl (gO_of g2) rfl (Nat.le_of_ble_eq_true rfl) ⟨Nat.le_of_ble_eq_true rfl, Nat.le_of_ble_eq_true rfl⟩ ⟨Nat.zero_le _, Nat.zero_le _⟩ dX2_reachOf_1 ?_
  refine fw_if_ne C 9 dX2_reachOf_4 (by decide) (fun c3 => ?_) (fun c3 => ?_)
  · replace h := (if_neg c3).symm.trans h
    refine fw_iconst C 1 dX2_reachOf_9 rfl ?_
    refine fw_iload_n C 2 dX2_reachOf_10 rfl rfl ?_
    refine fw_ishl C dX2_reachOf_11 ?_
    refine fw_bi h (fun y4 h => ?_)
    refine fw_istore_n C [(3, _), (0, _), (1, _), (2, _)] dX2_reachOf_12 rfl (Nat.le_of_ble_eq_true rfl) rfl ?_
    refine fw_iconst C 0 dX2_reachOf_13 rfl ?_
    refine fw_istore C [(4, _), (3, _), (0, _), (1, _), (2, _)] dX2_reachOf_14 (Nat.le_of_ble_eq_true rfl) rfl ?_
    refine fw_sub [2, 3, 1, 0] rfl ?_
    obtain ⟨l21, e21, h⟩ := b1_some h
    rcases l21 with t21 | d21
    · obtain rfl := Option.some.inj (bl_l h)
      exact lc_X2_reachOf_16 C hr hlk hl ht e21 (fun d hd => nomatch hd) (fun t ht => by cases ht; rfl)
    replace h := bl_r h
    refine lc_X2_reachOf_16 C hr hlk hl ht e21 (fun d hd => ?_) (fun t ht => nomatch ht)
    cases hd
    refine fw_iload_n C 0 dX2_reachOf_108 rfl rfl ?_
    obtain rfl := Option.some.inj h
    exact fw_iret C hr hlk dX2_reachOf_109
  · replace h := (if_pos c3).symm.trans h
    refine fw_iconst C 0 dX2_reachOf_7 rfl ?_
    obtain rfl := Option.some.inj h
    exact fw_iret C hr hlk dX2_reachOf_8
set_option maxRecDepth 100000 in
def f_J6_bitCount_0f7a4 (S : List fw_Sh) (M : fw_Mem) (x0 : Int32) : Option Int32 := bm (x0 - (((x0.toUInt32 >>> ((1 : Int32).toUInt32 &&& Int32.toUInt32 31)).toInt32) &&& 1431655765)) (fun y1 => bm ((y1 &&& 858993459) + (((y1.toUInt32 >>> ((2 : Int32).toUInt32 &&& Int32.toUInt32 31)).toInt32) &&& 858993459)) (fun y2 => bm ((y2 + ((y2.toUInt32 >>> ((4 : Int32).toUInt32 &&& Int32.toUInt32 31)).toInt32)) &&& 252645135) (fun y3 => bm (y3 + ((y3.toUInt32 >>> ((8 : Int32).toUInt32 &&& Int32.toUInt32 31)).toInt32)) (fun y4 => bm (y4 + ((y4.toUInt32 >>> ((16 : Int32).toUInt32 &&& Int32.toUInt32 31)).toInt32)) (fun y5 => some (y5 &&& 63))))))
set_option maxHeartbeats 4000000 in
set_option maxRecDepth 100000 in
theorem c_J6_bitCount_0f7a4 {l : Launch} {G : fw_G} {S : List fw_Sh} {M : fw_Mem} {x0 : Int32} {r : Int32} (hl : l.stackTraces = false) (h : f_J6_bitCount_0f7a4 S M x0 = some r) : fw_M l G yJ6_bitCount_0f7a4 (.code yJ6_bitCount_0f7a4 cJ6_bitCount_0f7a4 1 (some .int)) 1 (fw_mcO (.inl (some (.int r)), S, M)) (fw_msO (.inl (some (.int r)), S, M)) S M [.int x0] (.inl (some (.int r)), S, M) := by
  refine fw_of [(0, .int x0)] (by decide) (Nat.le_of_ble_eq_true rfl) rfl ?_
  intro p e s m args below meth c C hr hlk hnm ht _
  unfold f_J6_bitCount_0f7a4 at h
  refine fw_iload_n C 0 dJ6_bitCount_0f7a4_0 rfl rfl ?_
  refine fw_iload_n C 0 dJ6_bitCount_0f7a4_1 rfl rfl ?_
  refine fw_iconst C 1 dJ6_bitCount_0f7a4_2 rfl ?_
  refine fw_iushr C dJ6_bitCount_0f7a4_3 ?_
  refine fw_ldcw C wk_J6_265 dJ6_bitCount_0f7a4_4 ?_
  refine fw_iand C dJ6_bitCount_0f7a4_7 ?_
  refine fw_isub C dJ6_bitCount_0f7a4_8 ?_
  refine fw_bi h (fun y1 h => ?_)
  refine fw_istore_n C [(0, _)] dJ6_bitCount_0f7a4_9 rfl (Nat.le_of_ble_eq_true rfl) rfl ?_
  refine fw_iload_n C 0 dJ6_bitCount_0f7a4_10 rfl rfl ?_
  refine fw_ldcw C wk_J6_266 dJ6_bitCount_0f7a4_11 ?_
  refine fw_iand C dJ6_bitCount_0f7a4_14 ?_
  refine fw_iload_n C 0 dJ6_bitCount_0f7a4_15 rfl rfl ?_
  refine fw_iconst C 2 dJ6_bitCount_0f7a4_16 rfl ?_
  refine fw_iushr C dJ6_bitCount_0f7a4_17 ?_
  refine fw_ldcw C wk_J6_266 dJ6_bitCount_0f7a4_18 ?_
  refine fw_iand C dJ6_bitCount_0f7a4_21 ?_
  refine fw_iadd C dJ6_bitCount_0f7a4_22 ?_
  refine fw_bi h (fun y2 h => ?_)
  refine fw_istore_n C [(0, _)] dJ6_bitCount_0f7a4_23 rfl (Nat.le_of_ble_eq_true rfl) rfl ?_
  refine fw_iload_n C 0 dJ6_bitCount_0f7a4_24 rfl rfl ?_
  refine fw_iload_n C 0 dJ6_bitCount_0f7a4_25 rfl rfl ?_
  refine fw_iconst C 4 dJ6_bitCount_0f7a4_26 rfl ?_
  refine fw_iushr C dJ6_bitCount_0f7a4_27 ?_
  refine fw_iadd C dJ6_bitCount_0f7a4_28 ?_
  refine fw_ldcw C wk_J6_267 dJ6_bitCount_0f7a4_29 ?_
  refine fw_iand C dJ6_bitCount_0f7a4_32 ?_
  refine fw_bi h (fun y3 h => ?_)
  refine fw_istore_n C [(0, _)] dJ6_bitCount_0f7a4_33 rfl (Nat.le_of_ble_eq_true rfl) rfl ?_
  refine fw_iload_n C 0 dJ6_bitCount_0f7a4_34 rfl rfl ?_
  refine fw_iload_n C 0 dJ6_bitCount_0f7a4_35 rfl rfl ?_
  refine fw_bipush C 8 dJ6_bitCount_0f7a4_36 rfl ?_
  refine fw_iushr C dJ6_bitCount_0f7a4_38 ?_
  refine fw_iadd C dJ6_bitCount_0f7a4_39 ?_
  refine fw_bi h (fun y4 h => ?_)
  refine fw_istore_n C [(0, _)] dJ6_bitCount_0f7a4_40 rfl (Nat.le_of_ble_eq_true rfl) rfl ?_
  refine fw_iload_n C 0 dJ6_bitCount_0f7a4_41 rfl rfl ?_
  refine fw_iload_n C 0 dJ6_bitCount_0f7a4_42 rfl rfl ?_
  refine fw_bipush C 16 dJ6_bitCount_0f7a4_43 rfl ?_
  refine fw_iushr C dJ6_bitCount_0f7a4_45 ?_
  refine fw_iadd C dJ6_bitCount_0f7a4_46 ?_
  refine fw_bi h (fun y5 h => ?_)
  refine fw_istore_n C [(0, _)] dJ6_bitCount_0f7a4_47 rfl (Nat.le_of_ble_eq_true rfl) rfl ?_
  refine fw_iload_n C 0 dJ6_bitCount_0f7a4_48 rfl rfl ?_
  refine fw_bipush C 63 dJ6_bitCount_0f7a4_49 rfl ?_
  refine fw_iand C dJ6_bitCount_0f7a4_51 ?_
  obtain rfl := Option.some.inj h
  exact fw_iret C hr hlk dJ6_bitCount_0f7a4_52
set_option maxRecDepth 100000 in
def f_X6_winner (S : List fw_Sh) (M : fw_Mem) (a0 : Nat) : Option Int32 := gd (gO S 6 a0) (b1 (f_X6_isJudged S M a0) (fun v1 => if v1 = 0 then (some (-1)) else (if (M a0 8) = 0 then (some (-1)) else (if ((M a0 5) &&& ((M a0 10) ^^^ (-1))) = 0 then (if ((M a0 6) &&& (M a0 10)) = 0 then (some 0) else (some 1)) else (some 1)))))
set_option maxHeartbeats 4000000 in
set_option maxRecDepth 100000 in
theorem c_X6_winner {l : Launch} {G : fw_G} {S : List fw_Sh} {M : fw_Mem} {a0 : Nat} {r : Int32} (hl : l.stackTraces = false) (h : f_X6_winner S M a0 = some r) : fw_M l G yX6_winner (.code yX6_winner cX6_winner 1 (some .int)) 2 (fw_mcO (.inl (some (.int r)), S, M)) (fw_msO (.inl (some (.int r)), S, M)) S M [.ref a0] (.inl (some (.int r)), S, M) := by
  refine fw_of [(0, .ref a0)] (by decide) (Nat.le_of_ble_eq_true rfl) rfl ?_
  intro p e s m args below meth c C hr hlk hnm ht _
  unfold f_X6_winner at h
  refine fw_aload_n C 0 dX6_winner_0 rfl rfl ?_
  obtain ⟨g2, h⟩ := gd_some h
  obtain ⟨v1, e1, h⟩ := b1_some h
  refine fw_callV (ci := 6) [] C (c_X6_isJudged hl e1) cal_X6_isJudged wm_X6_58 wi_yX6_isJudged wsl_yX6_isJudged (Nat.le_of_ble_eq_true rfl) rfl (gO_of g2) rfl (Nat.le_of_ble_eq_true rfl) ⟨Nat.le_of_ble_eq_true rfl, Nat.le_of_ble_eq_true rfl⟩ ⟨Nat.zero_le _, Nat.zero_le _⟩ dX6_winner_1 ?_
  refine fw_if_eq C 14 dX6_winner_4 (by decide) (fun c3 => ?_) (fun c3 => ?_)
  · replace h := (if_pos c3).symm.trans h
    refine fw_iconst C (-1) dX6_winner_14 rfl ?_
    obtain rfl := Option.some.inj h
    exact fw_iret C hr hlk dX6_winner_15
  · replace h := (if_neg c3).symm.trans h
    refine fw_aload_n C 0 dX6_winner_7 rfl rfl ?_
    refine fw_getI C 6 8 (Nat.le_of_ble_eq_true rfl) (Nat.le_of_ble_eq_true rfl) wf_X6_36 rfl (gO_of g2) dX6_winner_8 ?_
    refine fw_if_ne C 16 dX6_winner_11 (by decide) (fun c4 => ?_) (fun c4 => ?_)
    · replace h := (if_neg c4).symm.trans h
      refine fw_aload_n C 0 dX6_winner_16 rfl rfl ?_
      refine fw_getI C 6 5 (Nat.le_of_ble_eq_true rfl) (Nat.le_of_ble_eq_true rfl) wf_X6_30 rfl (gO_of g2) dX6_winner_17 ?_
      refine fw_aload_n C 0 dX6_winner_20 rfl rfl ?_
      refine fw_getI C 6 10 (Nat.le_of_ble_eq_true rfl) (Nat.le_of_ble_eq_true rfl) wf_X6_43 rfl (gO_of g2) dX6_winner_21 ?_
      refine fw_iconst C (-1) dX6_winner_24 rfl ?_
      refine fw_ixor C dX6_winner_25 ?_
      refine fw_iand C dX6_winner_26 ?_
      refine fw_if_ne C 46 dX6_winner_27 (by decide) (fun c5 => ?_) (fun c5 => ?_)
      · replace h := (if_neg c5).symm.trans h
        refine fw_iconst C 1 dX6_winner_46 rfl ?_
        obtain rfl := Option.some.inj h
        exact fw_iret C hr hlk dX6_winner_47
      · replace h := (if_pos c5).symm.trans h
        refine fw_aload_n C 0 dX6_winner_30 rfl rfl ?_
        refine fw_getI C 6 6 (Nat.le_of_ble_eq_true rfl) (Nat.le_of_ble_eq_true rfl) wf_X6_33 rfl (gO_of g2) dX6_winner_31 ?_
        refine fw_aload_n C 0 dX6_winner_34 rfl rfl ?_
        refine fw_getI C 6 10 (Nat.le_of_ble_eq_true rfl) (Nat.le_of_ble_eq_true rfl) wf_X6_43 rfl (gO_of g2) dX6_winner_35 ?_
        refine fw_iand C dX6_winner_38 ?_
        refine fw_if_ne C 46 dX6_winner_39 (by decide) (fun c6 => ?_) (fun c6 => ?_)
        · replace h := (if_neg c6).symm.trans h
          refine fw_iconst C 1 dX6_winner_46 rfl ?_
          obtain rfl := Option.some.inj h
          exact fw_iret C hr hlk dX6_winner_47
        · replace h := (if_pos c6).symm.trans h
          refine fw_iconst C 0 dX6_winner_42 rfl ?_
          refine fw_goto C 47 dX6_winner_43 (by decide) ?_
          obtain rfl := Option.some.inj h
          exact fw_iret C hr hlk dX6_winner_47
    · replace h := (if_pos c4).symm.trans h
      refine fw_iconst C (-1) dX6_winner_14 rfl ?_
      obtain rfl := Option.some.inj h
      exact fw_iret C hr hlk dX6_winner_15
