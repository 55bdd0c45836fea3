set_option maxRecDepth 100000 in
def fj_X10_readKnown_27 (S : List fw_Sh) (M : fw_Mem) (a0 : Nat) (x1 : Int32) (z0 : Int32) : Option (Int32 × fw_Mem) := gd (gO S 10 a0) (if (M a0 21) = 0 then (if z0 = (-1) then (b1 (f_X10_wrong S M a0 3) (fun M9 => b1 (f_X10_pass S M9 a0) (fun M10 => some (z0, M10)))) else (if z0 = x1 then (b1 (f_X10_wrong S M a0 3) (fun M13 => b1 (f_X10_pass S M13 a0) (fun M14 => some (z0, M14)))) else (b1 (f_X10_pass S M a0) (fun M12 => some (z0, M12))))) else (b1 (f_X10_pass S M a0) (fun M7 => some (z0, M7))))
set_option maxHeartbeats 4000000 in
set_option maxRecDepth 100000 in
theorem jc_X10_readKnown_27 {G : fw_G} {p : Program} {l : Launch} {e : Env} {s : State} {m : MethodId} {args : Array Value} {below : List Frame} {meth : Method} {c : Code} {S : List fw_Sh} {M : fw_Mem} {a0 : Nat} {x1 : Int32} {z0 : Int32} {r : (Int32 × fw_Mem)} {o : fw_O} (C : fw_C G RX10 cX10_readKnown 3 p s m args c) (hr : meth.sig.returnType = (some .int)) (hlk : meth.locks = false) (hl : l.stackTraces = false) (ht : ∀ x ∈ c.exceptionTable.toList, False) (ho : o = (.inl (some (.int r.1)), S, r.2)) (h : fj_X10_readKnown_27 S M a0 x1 z0 = some r) :
    fw_W G p l e (fw_rm 9 (fw_mcO o) (fw_msO o)) s m args below meth c 3 (fw_Z G below args s (fw_mcO o) (fw_msO o) o) 0 0 27 [(0, .ref a0), (1, .int x1)] [.int z0] S M := by
  subst ho
  unfold fj_X10_readKnown_27 at h
  refine fw_istore_n C [(2, _), (0, _), (1, _)] dX10_readKnown_27 rfl (Nat.le_of_ble_eq_true rfl) rfl ?_
  refine fw_aload_n C 1 dX10_readKnown_28 rfl rfl ?_
  obtain ⟨g5, h⟩ := gd_some h
  refine fw_getI C 10 21 (Nat.le_of_ble_eq_true rfl) (Nat.le_of_ble_eq_true rfl) wf_X10_272 rfl (gO_of g5) dX10_readKnown_29 ?_
  refine fw_if_ne C 50 dX10_readKnown_32 (by decide) (fun c6 => ?_) (fun c6 => ?_)
  · replace h := (if_neg c6).symm.trans h
    refine fw_aload_n C 1 dX10_readKnown_50 rfl rfl ?_
    obtain ⟨M7, e7, h⟩ := b1_some h
    refine fw_callV (ci := 10) [] C (c_X10_pass hl e7) cal_X10_pass wm_X10_299 wi_yX10_pass wsl_yX10_pass (Nat.le_of_ble_eq_true rfl) rfl (gO_of g5) rfl (Nat.le_of_ble_eq_true rfl) ⟨Nat.le_of_ble_eq_true rfl, Nat.le_of_ble_eq_true rfl⟩ ⟨Nat.zero_le _, Nat.zero_le _⟩ dX10_readKnown_51 ?_
    refine fw_iload_n C 0 dX10_readKnown_54 rfl rfl ?_
    obtain rfl := Option.some.inj h
    exact fw_iret C hr hlk dX10_readKnown_55
  · replace h := (if_pos c6).symm.trans h
    refine fw_iload_n C 0 dX10_readKnown_35 rfl rfl ?_
    refine fw_iconst C (-1) dX10_readKnown_36 rfl ?_
    refine fw_icmp_eq C 45 dX10_readKnown_37 (by decide) (fun c8 => ?_) (fun c8 => ?_)
    · replace h := (if_pos c8).symm.trans h
      refine fw_aload_n C 1 dX10_readKnown_45 rfl rfl ?_
      refine fw_iconst C 3 dX10_readKnown_46 rfl ?_
      obtain ⟨M9, e9, h⟩ := b1_some h
      refine fw_callV (ci := 10) [_] C (c_X10_wrong hl e9) cal_X10_wrong wm_X10_296 wi_yX10_wrong wsl_yX10_wrong (Nat.le_of_ble_eq_true rfl) rfl (gO_of g5) rfl (Nat.le_of_ble_eq_true rfl) ⟨Nat.le_of_ble_eq_true rfl, Nat.le_of_ble_eq_true rfl⟩ ⟨Nat.zero_le _, Nat.zero_le _⟩ dX10_readKnown_47 ?_
      refine fw_aload_n C 1 dX10_readKnown_50 rfl rfl ?_
      obtain ⟨M10, e10, h⟩ := b1_some h
      refine fw_callV (ci := 10) [] C (c_X10_pass hl e10) cal_X10_pass wm_X10_299 wi_yX10_pass wsl_yX10_pass (Nat.le_of_ble_eq_true rfl) rfl (gO_of g5) rfl (Nat.le_of_ble_eq_true rfl) ⟨Nat.le_of_ble_eq_true rfl, Nat.le_of_ble_eq_true rfl⟩ ⟨Nat.zero_le _, Nat.zero_le _⟩ dX10_readKnown_51 ?_
      refine fw_iload_n C 0 dX10_readKnown_54 rfl rfl ?_
      obtain rfl := Option.some.inj h
      exact fw_iret C hr hlk dX10_readKnown_55
    · replace h := (if_neg c8).symm.trans h
      refine fw_iload_n C 0 dX10_readKnown_40 rfl rfl ?_
      refine fw_iload_n C 2 dX10_readKnown_41 rfl rfl ?_
      refine fw_icmp_ne C 50 dX10_readKnown_42 (by decide) (fun c11 => ?_) (fun c11 => ?_)
      · replace h := (if_neg c11).symm.trans h
        refine fw_aload_n C 1 dX10_readKnown_50 rfl rfl ?_
        obtain ⟨M12, e12, h⟩ := b1_some h
        refine fw_callV (ci := 10) [] C (c_X10_pass hl e12) cal_X10_pass wm_X10_299 wi_yX10_pass wsl_yX10_pass (Nat.le_of_ble_eq_true rfl) rfl (gO_of g5) rfl (Nat.le_of_ble_eq_true rfl) ⟨Nat.le_of_ble_eq_true rfl, Nat.le_of_ble_eq_true rfl⟩ ⟨Nat.zero_le _, Nat.zero_le _⟩ dX10_readKnown_51 ?_
        refine fw_iload_n C 0 dX10_readKnown_54 rfl rfl ?_
        obtain rfl := Option.some.inj h
        exact fw_iret C hr hlk dX10_readKnown_55
      · replace h := (if_pos c11).symm.trans h
        refine fw_aload_n C 1 dX10_readKnown_45 rfl rfl ?_
        refine fw_iconst C 3 dX10_readKnown_46 rfl ?_
        obtain ⟨M13, e13, h⟩ := b1_some h
        refine fw_callV (ci := 10) [_] C (c_X10_wrong hl e13) cal_X10_wrong wm_X10_296 wi_yX10_wrong wsl_yX10_wrong (Nat.le_of_ble_eq_true rfl) rfl (gO_of g5) rfl (Nat.le_of_ble_eq_true rfl) ⟨Nat.le_of_ble_eq_true rfl, Nat.le_of_ble_eq_true rfl⟩ ⟨Nat.zero_le _, Nat.zero_le _⟩ dX10_readKnown_47 ?_
        refine fw_aload_n C 1 dX10_readKnown_50 rfl rfl ?_
        obtain ⟨M14, e14, h⟩ := b1_some h
        refine fw_callV (ci := 10) [] C (c_X10_pass hl e14) cal_X10_pass wm_X10_299 wi_yX10_pass wsl_yX10_pass (Nat.le_of_ble_eq_true rfl) rfl (gO_of g5) rfl (Nat.le_of_ble_eq_true rfl) ⟨Nat.le_of_ble_eq_true rfl, Nat.le_of_ble_eq_true rfl⟩ ⟨Nat.zero_le _, Nat.zero_le _⟩ dX10_readKnown_51 ?_
        refine fw_iload_n C 0 dX10_readKnown_54 rfl rfl ?_
        obtain rfl := Option.some.inj h
        exact fw_iret C hr hlk dX10_readKnown_55
set_option maxRecDepth 100000 in
def fj_X10_readKnown_12 (S : List fw_Sh) (M : fw_Mem) (a0 : Nat) (x1 : Int32) : Option (Int32 × fw_Mem) := gd (gO S 10 a0) (if (M a0 21) = 0 then (b1 (f_X10_named S M a0) (fun v19 => fj_X10_readKnown_27 S M a0 x1 v19)) else fj_X10_readKnown_27 S M a0 x1 (-1))
set_option maxHeartbeats 4000000 in
set_option maxRecDepth 100000 in
theorem jc_X10_readKnown_12 {G : fw_G} {p : Program} {l : Launch} {e : Env} {s : State} {m : MethodId} {args : Array Value} {below : List Frame} {meth : Method} {c : Code} {S : List fw_Sh} {M : fw_Mem} {a0 : Nat} {x1 : Int32} {r : (Int32 × fw_Mem)} {o : fw_O} (C : fw_C G RX10 cX10_readKnown 3 p s m args c) (hr : meth.sig.returnType = (some .int)) (hlk : meth.locks = false) (hl : l.stackTraces = false) (ht : ∀ x ∈ c.exceptionTable.toList, False) (ho : o = (.inl (some (.int r.1)), S, r.2)) (h : fj_X10_readKnown_12 S M a0 x1 = some r) :
    fw_W G p l e (fw_rm 9 (fw_mcO o) (fw_msO o)) s m args below meth c 3 (fw_Z G below args s (fw_mcO o) (fw_msO o) o) 0 0 12 [(0, .ref a0), (1, .int x1)] [] S M := by
  subst ho
  unfold fj_X10_readKnown_12 at h
  refine fw_aload_n C 0 dX10_readKnown_12 rfl rfl ?_
  obtain ⟨g17, h⟩ := gd_some h
  refine fw_getI C 10 21 (Nat.le_of_ble_eq_true rfl) (Nat.le_of_ble_eq_true rfl) wf_X10_272 rfl (gO_of g17) dX10_readKnown_13 ?_
  refine fw_if_ne C 26 dX10_readKnown_16 (by decide) (fun c18 => ?_) (fun c18 => ?_)
  · replace h := (if_neg c18).symm.trans h
    refine fw_iconst C (-1) dX10_readKnown_26 rfl ?_
    exact jc_X10_readKnown_27 C hr hlk hl ht rfl h
  · replace h := (if_pos c18).symm.trans h
    refine fw_aload_n C 0 dX10_readKnown_19 rfl rfl ?_
    obtain ⟨v19, e19, h⟩ := b1_some h
    refine fw_callV (ci := 10) [] C (c_X10_named hl e19) cal_X10_named wm_X10_319 wi_yX10_named wsl_yX10_named (Nat.le_of_ble_eq_true rfl) rfl (gO_of g17) rfl (Nat.le_of_ble_eq_true rfl) ⟨Nat.le_of_ble_eq_true rfl, Nat.le_of_ble_eq_true rfl⟩ ⟨Nat.zero_le _, Nat.zero_le _⟩ dX10_readKnown_20 ?_
    refine fw_goto C 27 dX10_readKnown_23 (by decide) ?_
    exact jc_X10_readKnown_27 C hr hlk hl ht rfl h
set_option maxRecDepth 100000 in
def f_X10_readKnown (S : List fw_Sh) (M : fw_Mem) (a0 : Nat) (x1 : Int32) : Option (Int32 × fw_Mem) := gd (gO S 10 a0) (b1 (f_X10_isName S M a0) (fun v1 => if v1 = 0 then (b1 (f_X10_wrong S M a0 1) (fun M16 => fj_X10_readKnown_12 S M16 a0 x1)) else (if (M a0 21) = 0 then (b1 (f_X10_named S M a0) (fun v15 => fj_X10_readKnown_27 S M a0 x1 v15)) else fj_X10_readKnown_27 S M a0 x1 (-1))))
set_option maxHeartbeats 4000000 in
set_option maxRecDepth 100000 in
theorem c_X10_readKnown {l : Launch} {G : fw_G} {S : List fw_Sh} {M : fw_Mem} {a0 : Nat} {x1 : Int32} {r : (Int32 × fw_Mem)} (hl : l.stackTraces = false) (h : f_X10_readKnown S M a0 x1 = some r) : fw_M l G yX10_readKnown (.code yX10_readKnown cX10_readKnown 3 (some .int)) 9 (fw_mcO (.inl (some (.int r.1)), S, r.2)) (fw_msO (.inl (some (.int r.1)), S, r.2)) S M [.ref a0, .int x1] (.inl (some (.int r.1)), S, r.2) := by
  refine fw_of [(0, .ref a0), (1, .int x1)] (by decide) (Nat.le_of_ble_eq_true rfl) rfl ?_
  intro p e s m args below meth c C hr hlk hnm ht _
  unfold f_X10_readKnown at h
  refine fw_aload_n C 0 dX10_readKnown_0 rfl rfl ?_
  obtain ⟨g2, h⟩ := gd_some h
  obtain ⟨v1, e1, h⟩ := b1_some h
  refine fw_callV (ci := 10) [] C (c_X10_isName hl e1) cal_X10_isName wm_X10_315 wi_yX10_isName wsl_yX10_isName (Nat.le_of_ble_eq_true rfl) rfl (gO_of g2) rfl (Nat.le_of_ble_eq_true rfl) ⟨Nat.le_of_ble_eq_true rfl, Nat.le_of_ble_eq_true rfl⟩ ⟨Nat.zero_le _, Nat.zero_le _⟩ dX10_readKnown_1 ?_
  refine fw_if_ne C 12 dX10_readKnown_4 (by decide) (fun c3 => ?_) (fun c3 => ?_)
  · replace h := (if_neg c3).symm.trans h
    refine fw_aload_n C 0 dX10_readKnown_12 rfl rfl ?_
    refine fw_getI C 10 21 (Nat.le_of_ble_eq_true rfl) (Nat.le_of_ble_eq_true rfl) wf_X10_272 rfl (gO_of g2) dX10_readKnown_13 ?_
    refine fw_if_ne C 26 dX10_readKnown_16 (by decide) (fun c4 => ?_) (fun c4 => ?_)
    · replace h := (if_neg c4).symm.trans h
      refine fw_iconst C (-1) dX10_readKnown_26 rfl ?_
      exact jc_X10_readKnown_27 C hr hlk hl ht rfl h
    · replace h := (if_pos c4).symm.trans h
      refine fw_aload_n C 0 dX10_readKnown_19 rfl rfl ?_
      obtain ⟨v15, e15, h⟩ := b1_some h
      refine fw_callV (ci := 10) [] C (c_X10_named hl e15) cal_X10_named wm_X10_319 wi_yX10_named wsl_yX10_named (Nat.le_of_ble_eq_true rfl) rfl (gO_of g2) rfl (Nat.le_of_ble_eq_true rfl) ⟨Nat.le_of_ble_eq_true rfl, Nat.le_of_ble_eq_true rfl⟩ ⟨Nat.zero_le _, Nat.zero_le _⟩ dX10_readKnown_20 ?_
      refine fw_goto C 27 dX10_readKnown_23 (by decide) ?_
      exact jc_X10_readKnown_27 C hr hlk hl ht rfl h
  · replace h := (if_pos c3).symm.trans h
    refine fw_aload_n C 0 dX10_readKnown_7 rfl rfl ?_
    refine fw_iconst C 1 dX10_readKnown_8 rfl ?_
    obtain ⟨M16, e16, h⟩ := b1_some h
    refine fw_callV (ci := 10) [_] C (c_X10_wrong hl e16) cal_X10_wrong wm_X10_296 wi_yX10_wrong wsl_yX10_wrong (Nat.le_of_ble_eq_true rfl) rfl (gO_of g2) rfl (Nat.le_of_ble_eq_true rfl) ⟨Nat.le_of_ble_eq_true rfl, Nat.le_of_ble_eq_true rfl⟩ ⟨Nat.zero_le _, Nat.zero_le _⟩ dX10_readKnown_9 ?_
    exact jc_X10_readKnown_12 C hr hlk hl ht rfl h
set_option maxRecDepth 100000 in
def lf_X10_readPerson_58 (S : List fw_Sh) (a0 : Nat) : Nat → Int32 → fw_Mem → Option (fw_Mem)
  | 0, _, _ => none
  | n + 1, x1, M => if (6 : Int32) ≤ x1 then (some M) else (gd (gO S 10 a0) (gd (gN (M a0 1)) (gd (gA S 0 ((M a0 1).toNatClampNeg) 0) (b1 (f_X10_letterHere S M a0 x1) (fun v15 => gd (gA S 0 ((M a0 1).toNatClampNeg) (((6 : Int32) + ((6 : Int32) * (M ((M a0 1).toNatClampNeg) 0))) + x1)) (bm (fw_set M ((M a0 1).toNatClampNeg) (((6 : Int32) + ((6 : Int32) * (M ((M a0 1).toNatClampNeg) 0))) + x1).toNatClampNeg v15) (fun M17 => lf_X10_readPerson_58 S a0 n (x1 + 1) M17)))))))
set_option maxHeartbeats 4000000 in
set_option maxRecDepth 100000 in
theorem lc_X10_readPerson_58 {G : fw_G} {p : Program} {l : Launch} {e : Env} {s : State} {m : MethodId} {args : Array Value} {below : List Frame} {meth : Method} {c : Code} {S : List fw_Sh} {o : fw_O} {a0 : Nat} (C : fw_C G RX10 cX10_readPerson 2 p s m args c) (hr : meth.sig.returnType = none) (hlk : meth.locks = false) (hl : l.stackTraces = false) (ht : ∀ x ∈ c.exceptionTable.toList, False) :
    ∀ {n : Nat} {x1 : Int32} {M : fw_Mem} {r : (fw_Mem)} (h : lf_X10_readPerson_58 S a0 n x1 M = some r) (kx : fw_W G p l e (fw_rm 9 (fw_mcO o) (fw_msO o)) s m args below meth c 2 (fw_Z G below args s (fw_mcO o) (fw_msO o) o) 0 0 94 [(0, .ref a0)] [] S r), fw_W G p l e (fw_rm 9 (fw_mcO o) (fw_msO o)) s m args below meth c 2 (fw_Z G below args s (fw_mcO o) (fw_msO o) o) 0 0 58 [(0, .ref a0), (1, .int x1)] [] S M := by
  intro n
  induction n with
  | zero =>
    intro x1 M r h
    exact nomatch (show (none : Option (fw_Mem)) = some r from h)
  | succ n ih =>
    intro x1 M r h kx
    rw [lf_X10_readPerson_58.eq_2] at h
    refine fw_iload_n C 1 dX10_readPerson_58 rfl rfl ?_
    refine fw_bipush C 6 dX10_readPerson_59 rfl ?_
    refine fw_icmp_ge C 94 dX10_readPerson_61 (by decide) (fun c11 => ?_) (fun c11 => ?_)
    · replace h := (if_pos c11).symm.trans h
      obtain rfl := Option.some.inj h
      refine fw_sub [0] rfl ?_
      exact kx
    · replace h := (if_neg c11).symm.trans h
      refine fw_aload_n C 0 dX10_readPerson_64 rfl rfl ?_
      obtain ⟨g12, h⟩ := gd_some h
      obtain ⟨g13, h⟩ := gd_some h
      refine fw_getR C 10 1 (Nat.le_of_ble_eq_true rfl) (Nat.le_of_ble_eq_true rfl) wf_X10_13 rfl (gO_of g12) (gN_of g13) dX10_readPerson_65 ?_
      refine fw_bipush C 6 dX10_readPerson_68 rfl ?_
      refine fw_bipush C 6 dX10_readPerson_70 rfl ?_
      refine fw_aload_n C 0 dX10_readPerson_72 rfl rfl ?_
      refine fw_getR C 10 1 (Nat.le_of_ble_eq_true rfl) (Nat.le_of_ble_eq_true rfl) wf_X10_13 rfl (gO_of g12) (gN_of g13) dX10_readPerson_73 ?_
      refine fw_iconst C 0 dX10_readPerson_76 rfl ?_
      obtain ⟨g14, h⟩ := gd_some h
      refine fw_iald C (gA_of g14) dX10_readPerson_77 ?_
      refine fw_imul C dX10_readPerson_78 ?_
      refine fw_iadd C dX10_readPerson_79 ?_
      refine fw_iload_n C 1 dX10_readPerson_80 rfl rfl ?_
      refine fw_iadd C dX10_readPerson_81 ?_
      refine fw_aload_n C 0 dX10_readPerson_82 rfl rfl ?_
      refine fw_iload_n C 1 dX10_readPerson_83 rfl rfl ?_
      obtain ⟨v15, e15, h⟩ := b1_some h
      refine fw_callV (ci := 10) [_] C (c_X10_letterHere hl e15) cal_X10_letterHere wm_X10_312 wi_yX10_letterHere wsl_yX10_letterHere (Nat.le_of_ble_eq_true rfl) rfl (gO_of g12) rfl (Nat.le_of_ble_eq_true rfl) ⟨Nat.le_of_ble_eq_true rfl, Nat.le_of_ble_eq_true rfl⟩ ⟨Nat.zero_le _, Nat.zero_le _⟩ dX10_readPerson_84 ?_
      obtain ⟨g16, h⟩ := gd_some h
      refine fw_iast C (gA_of g16) dX10_readPerson_87 ?_
      refine fw_bm h (fun M17 h => ?_)
      refine fw_iinc C _ 1 [(1, _), (0, _)] dX10_readPerson_88 rfl rfl (Nat.le_of_ble_eq_true rfl) rfl ?_
      refine fw_goto C 58 dX10_readPerson_91 (by decide) ?_
      refine fw_sub [1, 0] rfl ?_
      exact ih h kx
set_option maxRecDepth 100000 in
def fj_X10_readPerson_48 (S : List fw_Sh) (M : fw_Mem) (a0 : Nat) : Option fw_Mem := gd (gO S 10 a0) (if (M a0 21) = 0 then (b1 (lf_X10_readPerson_58 S a0 20000 0 M) (fun l26 => gd (gN (l26 a0 1)) (gd (gA S 0 ((l26 a0 1).toNatClampNeg) 0) (bm (fw_set l26 ((l26 a0 1).toNatClampNeg) 0 ((l26 ((l26 a0 1).toNatClampNeg) 0) + 1)) (fun M29 => b1 (f_X10_pass S M29 a0) (fun M30 => some M30)))))) else (some M))
set_option maxHeartbeats 4000000 in
set_option maxRecDepth 100000 in
theorem jc_X10_readPerson_48 {G : fw_G} {p : Program} {l : Launch} {e : Env} {s : State} {m : MethodId} {args : Array Value} {below : List Frame} {meth : Method} {c : Code} {S : List fw_Sh} {M : fw_Mem} {a0 : Nat} {r : fw_Mem} {o : fw_O} (C : fw_C G RX10 cX10_readPerson 2 p s m args c) (hr : meth.sig.returnType = none) (hlk : meth.locks = false) (hl : l.stackTraces = false) (ht : ∀ x ∈ c.exceptionTable.toList, False) (ho : o = (.inl none, S, r)) (h : fj_X10_readPerson_48 S M a0 = some r) :
    fw_W G p l e (fw_rm 9 (fw_mcO o) (fw_msO o)) s m args below meth c 2 (fw_Z G below args s (fw_mcO o) (fw_msO o) o) 0 0 48 [(0, .ref a0)] [] S M := by
  subst ho
  unfold fj_X10_readPerson_48 at h
  refine fw_aload_n C 0 dX10_readPerson_48 rfl rfl ?_
  obtain ⟨g24, h⟩ := gd_some h
  refine fw_getI C 10 21 (Nat.le_of_ble_eq_true rfl) (Nat.le_of_ble_eq_true rfl) wf_X10_272 rfl (gO_of g24) dX10_readPerson_49 ?_
  refine fw_if_eq C 56 dX10_readPerson_52 (by decide) (fun c25 => ?_) (fun c25 => ?_)
  · replace h := (if_pos c25).symm.trans h
    refine fw_iconst C 0 dX10_readPerson_56 rfl ?_
    refine fw_istore_n C [(1, _), (0, _)] dX10_readPerson_57 rfl (Nat.le_of_ble_eq_true rfl) rfl ?_
    refine fw_sub [1, 0] rfl ?_
    obtain ⟨l26, e26, h⟩ := b1_some h
    refine lc_X10_readPerson_58 C hr hlk hl ht e26 ?_
    refine fw_aload_n C 0 dX10_readPerson_94 rfl rfl ?_
    obtain ⟨g27, h⟩ := gd_some h
    refine fw_getR C 10 1 (Nat.le_of_ble_eq_true rfl) (Nat.le_of_ble_eq_true rfl) wf_X10_13 rfl (gO_of g24) (gN_of g27) dX10_readPerson_95 ?_
    refine fw_iconst C 0 dX10_readPerson_98 rfl ?_
    refine fw_dup2 C dX10_readPerson_99 rfl rfl ?_
    obtain ⟨g28, h⟩ := gd_some h
    refine fw_iald C (gA_of g28) dX10_readPerson_100 ?_
    refine fw_iconst C 1 dX10_readPerson_101 rfl ?_
    refine fw_iadd C dX10_readPerson_102 ?_
    refine fw_iast C (gA_of g28) dX10_readPerson_103 ?_
    refine fw_bm h (fun M29 h => ?_)
    refine fw_aload_n C 0 dX10_readPerson_104 rfl rfl ?_
    obtain ⟨M30, e30, h⟩ := b1_some h
    refine fw_callV (ci := 10) [] C (c_X10_pass hl e30) cal_X10_pass wm_X10_299 wi_yX10_pass wsl_yX10_pass (Nat.le_of_ble_eq_true rfl) rfl (gO_of g24) rfl (Nat.le_of_ble_eq_true rfl) ⟨Nat.le_of_ble_eq_true rfl, Nat.le_of_ble_eq_true rfl⟩ ⟨Nat.zero_le _, Nat.zero_le _⟩ dX10_readPerson_105 ?_
    obtain rfl := Option.some.inj h
    exact fw_vret C hr hlk dX10_readPerson_108
  · replace h := (if_neg c25).symm.trans h
    obtain rfl := Option.some.inj h
    exact fw_vret C hr hlk dX10_readPerson_55
set_option maxRecDepth 100000 in
def fj_X10_readPerson_16 (S : List fw_Sh) (M : fw_Mem) (a0 : Nat) : Option fw_Mem := gd (gO S 10 a0) (b1 (f_X10_pass S M a0) (fun M33 => b1 (f_X10_isName S M33 a0) (fun v35 => if v35 = 0 then (b1 (f_X10_wrong S M33 a0 1) (fun M46 => fj_X10_readPerson_48 S M46 a0)) else (b1 (f_X10_named S M33 a0) (fun v37 => if v37 = (-1) then (if (M33 a0 21) = 0 then (b1 (lf_X10_readPerson_58 S a0 20000 0 M33) (fun l40 => gd (gN (l40 a0 1)) (gd (gA S 0 ((l40 a0 1).toNatClampNeg) 0) (bm (fw_set l40 ((l40 a0 1).toNatClampNeg) 0 ((l40 ((l40 a0 1).toNatClampNeg) 0) + 1)) (fun M43 => b1 (f_X10_pass S M43 a0) (fun M44 => some M44)))))) else (some M33)) else (b1 (f_X10_wrong S M33 a0 3) (fun M45 => fj_X10_readPerson_48 S M45 a0)))))))
set_option maxHeartbeats 4000000 in
set_option maxRecDepth 100000 in
theorem jc_X10_readPerson_16 {G : fw_G} {p : Program} {l : Launch} {e : Env} {s : State} {m : MethodId} {args : Array Value} {below : List Frame} {meth : Method} {c : Code} {S : List fw_Sh} {M : fw_Mem} {a0 : Nat} {r : fw_Mem} {o : fw_O} (C : fw_C G RX10 cX10_readPerson 2 p s m args c) (hr : meth.sig.returnType = none) (hlk : meth.locks = false) (hl : l.stackTraces = false) (ht : ∀ x ∈ c.exceptionTable.toList, False) (ho : o = (.inl none, S, r)) (h : fj_X10_readPerson_16 S M a0 = some r) :
    fw_W G p l e (fw_rm 9 (fw_mcO o) (fw_msO o)) s m args below meth c 2 (fw_Z G below args s (fw_mcO o) (fw_msO o) o) 0 0 16 [(0, .ref a0)] [] S M := by
  subst ho
  unfold fj_X10_readPerson_16 at h
  refine fw_aload_n C 0 dX10_readPerson_16 rfl rfl ?_
  obtain ⟨g34, h⟩ := gd_some h
  obtain ⟨M33, e33, h⟩ := b1_some h
  refine fw_callV (ci := 10) [] C (c_X10_pass hl e33) cal_X10_pass wm_X10_299 wi_yX10_pass wsl_yX10_pass (Nat.le_of_ble_eq_true rfl) rfl (gO_of g34) rfl (Nat.le_of_ble_eq_true rfl) ⟨Nat.le_of_ble_eq_true rfl, Nat.le_of_ble_eq_true rfl⟩ ⟨Nat.zero_le _, Nat.zero_le _⟩ dX10_readPerson_17 ?_
  refine fw_aload_n C 0 dX10_readPerson_20 rfl rfl ?_
  obtain ⟨v35, e35, h⟩ := b1_some h
  refine fw_callV (ci := 10) [] C (c_X10_isName hl e35) cal_X10_isName wm_X10_315 wi_yX10_isName wsl_yX10_isName (Nat.le_of_ble_eq_true rfl) rfl (gO_of g34) rfl (Nat.le_of_ble_eq_true rfl) ⟨Nat.le_of_ble_eq_true rfl, Nat.le_of_ble_eq_true rfl⟩ ⟨Nat.zero_le _, Nat.zero_le _⟩ dX10_readPerson_21 ?_
  refine fw_if_ne C 35 dX10_readPerson_24 (by decide) (fun c36 => ?_) (fun c36 => ?_)
  · replace h := (if_neg c36).symm.trans h
    refine fw_aload_n C 0 dX10_readPerson_35 rfl rfl ?_
    obtain ⟨v37, e37, h⟩ := b1_some h
    refine fw_callV (ci := 10) [] C (c_X10_named hl e37) cal_X10_named wm_X10_319 wi_yX10_named wsl_yX10_named (Nat.le_of_ble_eq_true rfl) rfl (gO_of g34) rfl (Nat.le_of_ble_eq_true rfl) ⟨Nat.le_of_ble_eq_true rfl, Nat.le_of_ble_eq_true rfl⟩ ⟨Nat.zero_le _, Nat.zero_le _⟩ dX10_readPerson_36 ?_
    refine fw_iconst C (-1) dX10_readPerson_39 rfl ?_
    refine fw_icmp_eq C 48 dX10_readPerson_40 (by decide) (fun c38 => ?_) (fun c38 => ?_)
    · replace h := (if_pos c38).symm.trans h
      refine fw_aload_n C 0 dX10_readPerson_48 rfl rfl ?_
      refine fw_getI C 10 21 (Nat.le_of_ble_eq_true rfl) (Nat.le_of_ble_eq_true rfl) wf_X10_272 rfl (gO_of g34) dX10_readPerson_49 ?_
      refine fw_if_eq C 56 dX10_readPerson_52 (by decide) (fun c39 => ?_) (fun c39 => ?_)
      · replace h := (if_pos c39).symm.trans h
        refine fw_iconst C 0 dX10_readPerson_56 rfl ?_
        refine fw_istore_n C [(1, _), (0, _)] dX10_readPerson_57 rfl (Nat.le_of_ble_eq_true rfl) rfl ?_
        refine fw_sub [1, 0] rfl ?_
        obtain ⟨l40, e40, h⟩ := b1_some h
        refine lc_X10_readPerson_58 C hr hlk hl ht e40 ?_
        refine fw_aload_n C 0 dX10_readPerson_94 rfl rfl ?_
        obtain ⟨g41, h⟩ := gd_some h
        refine fw_getR C 10 1 (Nat.le_of_ble_eq_true rfl) (Nat.le_of_ble_eq_true rfl) wf_X10_13 rfl (gO_of g34) (gN_of g41) dX10_readPerson_95 ?_
        refine fw_iconst C 0 dX10_readPerson_98 rfl ?_
        refine fw_dup2 C dX10_readPerson_99 rfl rfl ?_
        obtain ⟨g42, h⟩ := gd_some h
        refine fw_iald C (gA_of g42) dX10_readPerson_100 ?_
        refine fw_iconst C 1 dX10_readPerson_101 rfl ?_
        refine fw_iadd C dX10_readPerson_102 ?_
        refine fw_iast C (gA_of g42) dX10_readPerson_103 ?_
        refine fw_bm h (fun M43 h => ?_)
        refine fw_aload_n C 0 dX10_readPerson_104 rfl rfl ?_
        obtain ⟨M44, e44, h⟩ := b1_some h
        refine fw_callV (ci := 10) [] C (c_X10_pass hl e44) cal_X10_pass wm_X10_299 wi_yX10_pass wsl_yX10_pass (Nat.le_of_ble_eq_true rfl) rfl (gO_of g34) rfl (Nat.le_of_ble_eq_true rfl) ⟨Nat.le_of_ble_eq_true rfl, Nat.le_of_ble_eq_true rfl⟩ ⟨Nat.zero_le _, Nat.zero_le _⟩ dX10_readPerson_105 ?_
        obtain rfl := Option.some.inj h
        exact fw_vret C hr hlk dX10_readPerson_108
      · replace h := (if_neg c39).symm.trans h
        obtain rfl := Option.some.inj h
        exact fw_vret C hr hlk dX10_readPerson_55
    · replace h := (if_neg c38).symm.trans h
      refine fw_aload_n C 0 dX10_readPerson_43 rfl rfl ?_
      refine fw_iconst C 3 dX10_readPerson_44 rfl ?_
      obtain ⟨M45, e45, h⟩ := b1_some h
      refine fw_callV (ci := 10) [_] C (c_X10_wrong hl e45) cal_X10_wrong wm_X10_296 wi_yX10_wrong wsl_yX10_wrong (Nat.le_of_ble_eq_true rfl) rfl (gO_of g34) rfl (Nat.le_of_ble_eq_true rfl) ⟨Nat.le_of_ble_eq_true rfl, Nat.le_of_ble_eq_true rfl⟩ ⟨Nat.zero_le _, Nat.zero_le _⟩ dX10_readPerson_45 ?_
      exact jc_X10_readPerson_48 C hr hlk hl ht rfl h
  · replace h := (if_pos c36).symm.trans h
    refine fw_aload_n C 0 dX10_readPerson_27 rfl rfl ?_
    refine fw_iconst C 1 dX10_readPerson_28 rfl ?_
    obtain ⟨M46, e46, h⟩ := b1_some h
    refine fw_callV (ci := 10) [_] C (c_X10_wrong hl e46) cal_X10_wrong wm_X10_296 wi_yX10_wrong wsl_yX10_wrong (Nat.le_of_ble_eq_true rfl) rfl (gO_of g34) rfl (Nat.le_of_ble_eq_true rfl) ⟨Nat.le_of_ble_eq_true rfl, Nat.le_of_ble_eq_true rfl⟩ ⟨Nat.zero_le _, Nat.zero_le _⟩ dX10_readPerson_29 ?_
    refine fw_goto C 48 dX10_readPerson_32 (by decide) ?_
    exact jc_X10_readPerson_48 C hr hlk hl ht rfl h
set_option maxRecDepth 100000 in
def f_X10_readPerson (S : List fw_Sh) (M : fw_Mem) (a0 : Nat) : Option fw_Mem := gd (gO S 10 a0) (gd (gN (M a0 1)) (gd (gA S 0 ((M a0 1).toNatClampNeg) 0) (if (M ((M a0 1).toNatClampNeg) 0) = 12 then (b1 (f_X10_wrong S M a0 4) (fun M32 => fj_X10_readPerson_16 S M32 a0)) else (b1 (f_X10_pass S M a0) (fun M5 => b1 (f_X10_isName S M5 a0) (fun v6 => if v6 = 0 then (b1 (f_X10_wrong S M5 a0 1) (fun M31 => fj_X10_readPerson_48 S M31 a0)) else (b1 (f_X10_named S M5 a0) (fun v8 => if v8 = (-1) then (if (M5 a0 21) = 0 then (b1 (lf_X10_readPerson_58 S a0 20000 0 M5) (fun l18 => gd (gN (l18 a0 1)) (gd (gA S 0 ((l18 a0 1).toNatClampNeg) 0) (bm (fw_set l18 ((l18 a0 1).toNatClampNeg) 0 ((l18 ((l18 a0 1).toNatClampNeg) 0) + 1)) (fun M21 => b1 (f_X10_pass S M21 a0) (fun M22 => some M22)))))) else (some M5)) else (b1 (f_X10_wrong S M5 a0 3) (fun M23 => fj_X10_readPerson_48 S M23 a0))))))))))
set_option maxHeartbeats 4000000 in
set_option maxRecDepth 100000 in
theorem c_X10_readPerson {l : Launch} {G : fw_G} {S : List fw_Sh} {M : fw_Mem} {a0 : Nat} {r : fw_Mem} (hl : l.stackTraces = false) (h : f_X10_readPerson S M a0 = some r) : fw_M l G yX10_readPerson (.code yX10_readPerson cX10_readPerson 2 none) 9 (fw_mcO (.inl none, S, r)) (fw_msO (.inl none, S, r)) S M [.ref a0] (.inl none, S, r) := by
  refine fw_of [(0, .ref a0)] (by decide) (Nat.le_of_ble_eq_true rfl) rfl ?_
  intro p e s m args below meth c C hr hlk hnm ht _
  unfold f_X10_readPerson at h
  refine fw_aload_n C 0 dX10_readPerson_0 rfl rfl ?_
  obtain ⟨g1, h⟩ := gd_some h
  obtain ⟨g2, h⟩ := gd_some h
  refine fw_getR C 10 1 (Nat.le_of_ble_eq_true rfl) (Nat.le_of_ble_eq_true rfl) wf_X10_13 rfl (gO_of g1) (gN_of g2) dX10_readPerson_1 ?_
  refine fw_iconst C 0 dX10_readPerson_4 rfl ?_
  obtain ⟨g3, h⟩ := gd_some h
  refine fw_iald C (gA_of g3) dX10_readPerson_5 ?_
  refine fw_bipush C 12 dX10_readPerson_6 rfl ?_
  refine fw_icmp_ne C 16 dX10_readPerson_8 (by decide) (fun c4 => ?_) (fun c4 => ?_)
  · replace h := (if_neg c4).symm.trans h
    refine fw_aload_n C 0 dX10_readPerson_16 rfl rfl ?_
    obtain ⟨M5, e5, h⟩ := b1_some h
    refine fw_callV (ci := 10) [] C (c_X10_pass hl e5) cal_X10_pass wm_X10_299 wi_yX10_pass wsl_yX10_pass (Nat.le_of_ble_eq_true rfl) rfl (gO_of g1) rfl (Nat.le_of_ble_eq_true rfl) ⟨Nat.le_of_ble_eq_true rfl, Nat.le_of_ble_eq_true rfl⟩ ⟨Nat.zero_le _, Nat.zero_le _⟩ dX10_readPerson_17 ?_
    refine fw_aload_n C 0 dX10_readPerson_20 rfl rfl ?_
    obtain ⟨v6, e6, h⟩ := b1_some h
    refine fw_callV (ci := 10) [] C (c_X10_isName hl e6) cal_X10_isName wm_X10_315 wi_yX10_isName wsl_yX10_isName (Nat.le_of_ble_eq_true rfl) rfl (gO_of g1) rfl (Nat.le_of_ble_eq_true rfl) ⟨Nat.le_of_ble_eq_true rfl, Nat.le_of_ble_eq_true rfl⟩ ⟨Nat.zero_le _, Nat.zero_le _⟩ dX10_readPerson_21 ?_
    refine fw_if_ne C 35 dX10_readPerson_24 (by decide) (fun c7 => ?_) (fun c7 => ?_)
    · replace h := (if_neg c7).symm.trans h
      refine fw_aload_n C 0 dX10_readPerson_35 rfl rfl ?_
      obtain ⟨v8, e8, h⟩ := b1_some h
      refine fw_callV (ci := 10) [] C (c_X10_named hl e8) cal_X10_named wm_X10_319 wi_yX10_named wsl_yX10_named (Nat.le_of_ble_eq_true rfl) rfl (gO_of g1) rfl (Nat.le_of_ble_eq_true rfl) ⟨Nat.le_of_ble_eq_true rfl, Nat.le_of_ble_eq_true rfl⟩ ⟨Nat.zero_le _, Nat.zero_le _⟩ dX10_readPerson_36 ?_
      refine fw_iconst C (-1) dX10_readPerson_39 rfl ?_
      refine fw_icmp_eq C 48 dX10_readPerson_40 (by decide) (fun c9 => ?_) (fun c9 => ?_)
      · replace h := (if_pos c9).symm.trans h
        refine fw_aload_n C 0 dX10_readPerson_48 rfl rfl ?_
        refine fw_getI C 10 21 (Nat.le_of_ble_eq_true rfl) (Nat.le_of_ble_eq_true rfl) wf_X10_272 rfl (gO_of g1) dX10_readPerson_49 ?_
        refine fw_if_eq C 56 dX10_readPerson_52 (by decide) (fun c10 => ?_) (fun c10 => ?_)
        · replace h := (if_pos c10).symm.trans h
          refine fw_iconst C 0 dX10_readPerson_56 rfl ?_
          refine fw_istore_n C [(1, _), (0, _)] dX10_readPerson_57 rfl (Nat.le_of_ble_eq_true rfl) rfl ?_
          refine fw_sub [1, 0] rfl ?_
          obtain ⟨l18, e18, h⟩ := b1_some h
          refine lc_X10_readPerson_58 C hr hlk hl ht e18 ?_
          refine fw_aload_n C 0 dX10_readPerson_94 rfl rfl ?_
          obtain ⟨g19, h⟩ := gd_some h
          refine fw_getR C 10 1 (Nat.le_of_ble_eq_true rfl) (Nat.le_of_ble_eq_true rfl) wf_X10_13 rfl (gO_of g1) (gN_of g19) dX10_readPerson_95 ?_
          refine fw_iconst C 0 dX10_readPerson_98 rfl ?_
          refine fw_dup2 C dX10_readPerson_99 rfl rfl ?_
          obtain ⟨g20, h⟩ := gd_some h
          refine fw_iald C (gA_of g20) dX10_readPerson_100 ?_
          refine fw_iconst C 1 dX10_readPerson_101 rfl ?_
          refine fw_iadd C dX10_readPerson_102 ?_
          refine fw_iast C (gA_of g20) dX10_readPerson_103 ?_
          refine fw_bm h (fun M21 h => ?_)
          refine fw_aload_n C 0 dX10_readPerson_104 rfl rfl ?_
          obtain ⟨M22, e22, h⟩ := b1_some h
          refine fw_callV (ci := 10) [] C (c_X10_pass hl e22) cal_X10_pass wm_X10_299 wi_yX10_pass wsl_yX10_pass (Nat.le_of_ble_eq_true rfl) rfl (gO_of g1) rfl (Nat.le_of_ble_eq_true rfl) ⟨Nat.le_of_ble_eq_true rfl, Nat.le_of_ble_eq_true rfl⟩ ⟨Nat.zero_le _, Nat.zero_le _⟩ dX10_readPerson_105 ?_
          obtain rfl := Option.some.inj h
          exact fw_vret C hr hlk dX10_readPerson_108
        · replace h := (if_neg c10).symm.trans h
          obtain rfl := Option.some.inj h
          exact fw_vret C hr hlk dX10_readPerson_55
      · replace h := (if_neg c9).symm.trans h
        refine fw_aload_n C 0 dX10_readPerson_43 rfl rfl ?_
        refine fw_iconst C 3 dX10_readPerson_44 rfl ?_
        obtain ⟨M23, e23, h⟩ := b1_some h
        refine fw_callV (ci := 10) [_] C (c_X10_wrong hl e23) cal_X10_wrong wm_X10_296 wi_yX10_wrong wsl_yX10_wrong (Nat.le_of_ble_eq_true rfl) rfl (gO_of g1) rfl (Nat.le_of_ble_eq_true rfl) ⟨Nat.le_of_ble_eq_true rfl, Nat.le_of_ble_eq_true rfl⟩ ⟨Nat.zero_le _, Nat.zero_le _⟩ dX10_readPerson_45 ?_
        exact jc_X10_readPerson_48 C hr hlk hl ht rfl h
    · replace h := (if_pos c7).symm.trans h
      refine fw_aload_n C 0 dX10_readPerson_27 rfl rfl ?_
      refine fw_iconst C 1 dX10_readPerson_28 rfl ?_
      obtain ⟨M31, e31, h⟩ := b1_some h
      refine fw_callV (ci := 10) [_] C (c_X10_wrong hl e31) cal_X10_wrong wm_X10_296 wi_yX10_wrong wsl_yX10_wrong (Nat.le_of_ble_eq_true rfl) rfl (gO_of g1) rfl (Nat.le_of_ble_eq_true rfl) ⟨Nat.le_of_ble_eq_true rfl, Nat.le_of_ble_eq_true rfl⟩ ⟨Nat.zero_le _, Nat.zero_le _⟩ dX10_readPerson_29 ?_
      refine fw_goto C 48 dX10_readPerson_32 (by decide) ?_
      exact jc_X10_readPerson_48 C hr hlk hl ht rfl h
  · replace h := (if_pos c4).symm.trans h
    refine fw_aload_n C 0 dX10_readPerson_11 rfl rfl ?_
    refine fw_iconst C 4 dX10_readPerson_12 rfl ?_
    obtain ⟨M32, e32, h⟩ := b1_some h
    refine fw_callV (ci := 10) [_] C (c_X10_wrong hl e32) cal_X10_wrong wm_X10_296 wi_yX10_wrong wsl_yX10_wrong (Nat.le_of_ble_eq_true rfl) rfl (gO_of g1) rfl (Nat.le_of_ble_eq_true rfl) ⟨Nat.le_of_ble_eq_true rfl, Nat.le_of_ble_eq_true rfl⟩ ⟨Nat.zero_le _, Nat.zero_le _⟩ dX10_readPerson_13 ?_
    exact jc_X10_readPerson_16 C hr hlk hl ht rfl h
set_option maxRecDepth 100000 in
def fj_X10_readLink_92 (S : List fw_Sh) (M : fw_Mem) (a0 : Nat) (x4 : Int32) (x5 : Int32) (z0 : Int32) (z1 : Int32) (z2 : Int32) (z3 : Int32) (z4 : Nat) : Option fw_Mem := b1 (f_X10_layLink S M z4 z3 z2 z1 z0 x4 x5) (fun M15 => gd (gO S 10 a0) (gd (gN (M15 a0 1)) (gd (gA S 0 ((M15 a0 1).toNatClampNeg) 1) (bm (fw_set M15 ((M15 a0 1).toNatClampNeg) 1 ((M15 ((M15 a0 1).toNatClampNeg) 1) + 1)) (fun M19 => some M19)))))
set_option maxHeartbeats 4000000 in
set_option maxRecDepth 100000 in
theorem jc_X10_readLink_92 {G : fw_G} {p : Program} {l : Launch} {e : Env} {s : State} {m : MethodId} {args : Array Value} {below : List Frame} {meth : Method} {c : Code} {S : List fw_Sh} {M : fw_Mem} {a0 : Nat} {x4 : Int32} {x5 : Int32} {z0 : Int32} {z1 : Int32} {z2 : Int32} {z3 : Int32} {z4 : Nat} {r : fw_Mem} {o : fw_O} (C : fw_C G RX10 cX10_readLink 6 p s m args c) (hr : meth.sig.returnType = none) (hlk : meth.locks = false) (hl : l.stackTraces = false) (ht : ∀ x ∈ c.exceptionTable.toList, False) (ho : o = (.inl none, S, r)) (h : fj_X10_readLink_92 S M a0 x4 x5 z0 z1 z2 z3 z4 = some r) :
    fw_W G p l e (fw_rm 10 (fw_mcO o) (fw_msO o)) s m args below meth c 6 (fw_Z G below args s (fw_mcO o) (fw_msO o) o) 0 0 92 [(0, .ref a0), (4, .int x4), (5, .int x5)] [.int z0, .int z1, .int z2, .int z3, .ref z4] S M := by
  subst ho
  unfold fj_X10_readLink_92 at h
  refine fw_iload C 1 dX10_readLink_92 rfl ?_
  refine fw_iload C 2 dX10_readLink_94 rfl ?_
  obtain ⟨M15, e15, h⟩ := b1_some h
  refine fw_callS [_, _, _, _, _, _, _] C (c_X10_layLink hl e15) cal_X10_layLink wm_X10_233 wt_yX10_layLink rfl (Nat.le_of_ble_eq_true rfl) ⟨Nat.le_of_ble_eq_true rfl, Nat.le_of_ble_eq_true rfl⟩ ⟨Nat.zero_le _, Nat.zero_le _⟩ dX10_readLink_96 ?_
  refine fw_aload_n C 0 dX10_readLink_99 rfl rfl ?_
  obtain ⟨g16, h⟩ := gd_some h
  obtain ⟨g17, h⟩ := gd_some h
  refine fw_getR C 10 1 (Nat.le_of_ble_eq_true rfl) (Nat.le_of_ble_eq_true rfl) wf_X10_13 rfl (gO_of g16) (gN_of g17) dX10_readLink_100 ?_
  refine fw_iconst C 1 dX10_readLink_103 rfl ?_
  refine fw_dup2 C dX10_readLink_104 rfl rfl ?_
  obtain ⟨g18, h⟩ := gd_some h
  refine fw_iald C (gA_of g18) dX10_readLink_105 ?_
  refine fw_iconst C 1 dX10_readLink_106 rfl ?_
  refine fw_iadd C dX10_readLink_107 ?_
  refine fw_iast C (gA_of g18) dX10_readLink_108 ?_
  refine fw_bm h (fun M19 h => ?_)
  obtain rfl := Option.some.inj h
  exact fw_vret C hr hlk dX10_readLink_109
set_option maxRecDepth 100000 in
def fj_X10_readLink_61 (S : List fw_Sh) (M : fw_Mem) (a0 : Nat) (x1 : Int32) (x2 : Int32) (x3 : Int32) (x4 : Int32) (z0 : Int32) : Option fw_Mem := gd (gO S 10 a0) (if (M a0 21) = 0 then (gd (gN (M a0 1)) (gd (gA S 0 ((M a0 1).toNatClampNeg) 1) (if x1 = 0 then fj_X10_readLink_92 S M a0 x4 z0 0 x3 x2 (M ((M a0 1).toNatClampNeg) 1) ((M a0 1).toNatClampNeg) else fj_X10_readLink_92 S M a0 x4 z0 1 x3 x2 (M ((M a0 1).toNatClampNeg) 1) ((M a0 1).toNatClampNeg)))) else (some M))
set_option maxHeartbeats 4000000 in
set_option maxRecDepth 100000 in
theorem jc_X10_readLink_61 {G : fw_G} {p : Program} {l : Launch} {e : Env} {s : State} {m : MethodId} {args : Array Value} {below : List Frame} {meth : Method} {c : Code} {S : List fw_Sh} {M : fw_Mem} {a0 : Nat} {x1 : Int32} {x2 : Int32} {x3 : Int32} {x4 : Int32} {z0 : Int32} {r : fw_Mem} {o : fw_O} (C : fw_C G RX10 cX10_readLink 6 p s m args c) (hr : meth.sig.returnType = none) (hlk : meth.locks = false) (hl : l.stackTraces = false) (ht : ∀ x ∈ c.exceptionTable.toList, False) (ho : o = (.inl none, S, r)) (h : fj_X10_readLink_61 S M a0 x1 x2 x3 x4 z0 = some r) :
    fw_W G p l e (fw_rm 10 (fw_mcO o) (fw_msO o)) s m args below meth c 6 (fw_Z G below args s (fw_mcO o) (fw_msO o) o) 0 0 61 [(0, .ref a0), (1, .int x1), (2, .int x2), (3, .int x3), (4, .int x4)] [.int z0] S M := by
  subst ho
  unfold fj_X10_readLink_61 at h
  refine fw_istore C [(5, _), (0, _), (1, _), (2, _), (3, _), (4, _)] dX10_readLink_61 (Nat.le_of_ble_eq_true rfl) rfl ?_
  refine fw_aload_n C 1 dX10_readLink_63 rfl rfl ?_
  obtain ⟨g10, h⟩ := gd_some h
  refine fw_getI C 10 21 (Nat.le_of_ble_eq_true rfl) (Nat.le_of_ble_eq_true rfl) wf_X10_272 rfl (gO_of g10) dX10_readLink_64 ?_
  refine fw_if_eq C 71 dX10_readLink_67 (by decide) (fun c11 => ?_) (fun c11 => ?_)
  · replace h := (if_pos c11).symm.trans h
    refine fw_aload_n C 1 dX10_readLink_71 rfl rfl ?_
    obtain ⟨g12, h⟩ := gd_some h
    refine fw_getR C 10 1 (Nat.le_of_ble_eq_true rfl) (Nat.le_of_ble_eq_true rfl) wf_X10_13 rfl (gO_of g10) (gN_of g12) dX10_readLink_72 ?_
    refine fw_aload_n C 1 dX10_readLink_75 rfl rfl ?_
    refine fw_getR C 10 1 (Nat.le_of_ble_eq_true rfl) (Nat.le_of_ble_eq_true rfl) wf_X10_13 rfl (gO_of g10) (gN_of g12) dX10_readLink_76 ?_
    refine fw_iconst C 1 dX10_readLink_79 rfl ?_
    obtain ⟨g13, h⟩ := gd_some h
    refine fw_iald C (gA_of g13) dX10_readLink_80 ?_
    refine fw_iload_n C 3 dX10_readLink_81 rfl rfl ?_
    refine fw_iload_n C 4 dX10_readLink_82 rfl rfl ?_
    refine fw_iload_n C 2 dX10_readLink_83 rfl rfl ?_
    refine fw_if_eq C 91 dX10_readLink_84 (by decide) (fun c14 => ?_) (fun c14 => ?_)
    · replace h := (if_pos c14).symm.trans h
      refine fw_iconst C 0 dX10_readLink_91 rfl ?_
      refine fw_sub [1, 5, 0] rfl ?_
      exact jc_X10_readLink_92 C hr hlk hl ht rfl h
    · replace h := (if_neg c14).symm.trans h
      refine fw_iconst C 1 dX10_readLink_87 rfl ?_
      refine fw_goto C 92 dX10_readLink_88 (by decide) ?_
      refine fw_sub [1, 5, 0] rfl ?_
      exact jc_X10_readLink_92 C hr hlk hl ht rfl h
  · replace h := (if_neg c11).symm.trans h
    obtain rfl := Option.some.inj h
    exact fw_vret C hr hlk dX10_readLink_70
set_option maxRecDepth 100000 in
def fj_X10_readLink_16 (S : List fw_Sh) (M : fw_Mem) (a0 : Nat) (x1 : Int32) : Option fw_Mem := gd (gO S 10 a0) (b1 (f_X10_pass S M a0) (fun M22 => b2 (f_X10_readKnown S M22 a0 (-1)) (fun v24 M24 => b2 (f_X10_readKnown S M24 a0 v24) (fun v25 M25 => b2 (f_X10_number S M25 a0 0 9999) (fun v26 M26 => if x1 = 0 then fj_X10_readLink_61 S M26 a0 x1 v24 v25 v26 9999 else (b2 (f_X10_number S M26 a0 v26 9999) (fun v28 M28 => fj_X10_readLink_61 S M28 a0 x1 v24 v25 v26 v28)))))))
set_option maxHeartbeats 4000000 in
set_option maxRecDepth 100000 in
theorem jc_X10_readLink_16 {G : fw_G} {p : Program} {l : Launch} {e : Env} {s : State} {m : MethodId} {args : Array Value} {below : List Frame} {meth : Method} {c : Code} {S : List fw_Sh} {M : fw_Mem} {a0 : Nat} {x1 : Int32} {r : fw_Mem} {o : fw_O} (C : fw_C G RX10 cX10_readLink 6 p s m args c) (hr : meth.sig.returnType = none) (hlk : meth.locks = false) (hl : l.stackTraces = false) (ht : ∀ x ∈ c.exceptionTable.toList, False) (ho : o = (.inl none, S, r)) (h : fj_X10_readLink_16 S M a0 x1 = some r) :
    fw_W G p l e (fw_rm 10 (fw_mcO o) (fw_msO o)) s m args below meth c 6 (fw_Z G below args s (fw_mcO o) (fw_msO o) o) 0 0 16 [(0, .ref a0), (1, .int x1)] [] S M := by
  subst ho
  unfold fj_X10_readLink_16 at h
  refine fw_aload_n C 0 dX10_readLink_16 rfl rfl ?_
  obtain ⟨g23, h⟩ := gd_some h
  obtain ⟨M22, e22, h⟩ := b1_some h
  refine fw_callV (ci := 10) [] C (c_X10_pass hl e22) cal_X10_pass wm_X10_299 wi_yX10_pass wsl_yX10_pass (Nat.le_of_ble_eq_true rfl) rfl (gO_of g23) rfl (Nat.le_of_ble_eq_true rfl) ⟨Nat.le_of_ble_eq_true rfl, Nat.le_of_ble_eq_true rfl⟩ ⟨Nat.zero_le _, Nat.zero_le _⟩ dX10_readLink_17 ?_
  refine fw_aload_n C 0 dX10_readLink_20 rfl rfl ?_
  refine fw_iconst C (-1) dX10_readLink_21 rfl ?_
  obtain ⟨v24, M24, e24, h⟩ := b2_some h
  refine fw_callV (ci := 10) [_] C (c_X10_readKnown hl e24) cal_X10_readKnown wm_X10_322 wi_yX10_readKnown wsl_yX10_readKnown (Nat.le_of_ble_eq_true rfl) rfl (gO_of g23) rfl (Nat.le_of_ble_eq_true rfl) ⟨Nat.le_of_ble_eq_true rfl, Nat.le_of_ble_eq_true rfl⟩ ⟨Nat.zero_le _, Nat.zero_le _⟩ dX10_readLink_22 ?_
  refine fw_istore_n C [(2, _), (0, _), (1, _)] dX10_readLink_25 rfl (Nat.le_of_ble_eq_true rfl) rfl ?_
  refine fw_aload_n C 1 dX10_readLink_26 rfl rfl ?_
  refine fw_iload_n C 0 dX10_readLink_27 rfl rfl ?_
  obtain ⟨v25, M25, e25, h⟩ := b2_some h
  refine fw_callV (ci := 10) [_] C (c_X10_readKnown hl e25) cal_X10_readKnown wm_X10_322 wi_yX10_readKnown wsl_yX10_readKnown (Nat.le_of_ble_eq_true rfl) rfl (gO_of g23) rfl (Nat.le_of_ble_eq_true rfl) ⟨Nat.le_of_ble_eq_true rfl, Nat.le_of_ble_eq_true rfl⟩ ⟨Nat.zero_le _, Nat.zero_le _⟩ dX10_readLink_28 ?_
  refine fw_istore_n C [(3, _), (2, _), (0, _), (1, _)] dX10_readLink_31 rfl (Nat.le_of_ble_eq_true rfl) rfl ?_
  refine fw_aload_n C 2 dX10_readLink_32 rfl rfl ?_
  refine fw_iconst C 0 dX10_readLink_33 rfl ?_
  refine fw_sipush C 9999 dX10_readLink_34 rfl ?_
  obtain ⟨v26, M26, e26, h⟩ := b2_some h
  refine fw_callV (ci := 10) [_, _] C (c_X10_number hl e26) cal_X10_number wm_X10_325 wi_yX10_number wsl_yX10_number (Nat.le_of_ble_eq_true rfl) rfl (gO_of g23) rfl (Nat.le_of_ble_eq_true rfl) ⟨Nat.le_of_ble_eq_true rfl, Nat.le_of_ble_eq_true rfl⟩ ⟨Nat.zero_le _, Nat.zero_le _⟩ dX10_readLink_37 ?_
  refine fw_istore C [(4, _), (3, _), (2, _), (0, _), (1, _)] dX10_readLink_40 (Nat.le_of_ble_eq_true rfl) rfl ?_
  refine fw_iload_n C 4 dX10_readLink_42 rfl rfl ?_
  refine fw_if_eq C 58 dX10_readLink_43 (by decide) (fun c27 => ?_) (fun c27 => ?_)
  · replace h := (if_pos c27).symm.trans h
    refine fw_sipush C 9999 dX10_readLink_58 rfl ?_
    refine fw_sub [3, 4, 2, 1, 0] rfl ?_
    exact jc_X10_readLink_61 C hr hlk hl ht rfl h
  · replace h := (if_neg c27).symm.trans h
    refine fw_aload_n C 3 dX10_readLink_46 rfl rfl ?_
    refine fw_iload C 0 dX10_readLink_47 rfl ?_
    refine fw_sipush C 9999 dX10_readLink_49 rfl ?_
    obtain ⟨v28, M28, e28, h⟩ := b2_some h
    refine fw_callV (ci := 10) [_, _] C (c_X10_number hl e28) cal_X10_number wm_X10_325 wi_yX10_number wsl_yX10_number (Nat.le_of_ble_eq_true rfl) rfl (gO_of g23) rfl (Nat.le_of_ble_eq_true rfl) ⟨Nat.le_of_ble_eq_true rfl, Nat.le_of_ble_eq_true rfl⟩ ⟨Nat.zero_le _, Nat.zero_le _⟩ dX10_readLink_52 ?_
    refine fw_goto C 61 dX10_readLink_55 (by decide) ?_
    refine fw_sub [3, 4, 2, 1, 0] rfl ?_
    exact jc_X10_readLink_61 C hr hlk hl ht rfl h
set_option maxRecDepth 100000 in
def f_X10_readLink (S : List fw_Sh) (M : fw_Mem) (a0 : Nat) (x1 : Int32) : Option fw_Mem := gd (gO S 10 a0) (gd (gN (M a0 1)) (gd (gA S 0 ((M a0 1).toNatClampNeg) 1) (if (M ((M a0 1).toNatClampNeg) 1) = 24 then (b1 (f_X10_wrong S M a0 4) (fun M21 => fj_X10_readLink_16 S M21 a0 x1)) else (b1 (f_X10_pass S M a0) (fun M5 => b2 (f_X10_readKnown S M5 a0 (-1)) (fun v6 M6 => b2 (f_X10_readKnown S M6 a0 v6) (fun v7 M7 => b2 (f_X10_number S M7 a0 0 9999) (fun v8 M8 => if x1 = 0 then fj_X10_readLink_61 S M8 a0 x1 v6 v7 v8 9999 else (b2 (f_X10_number S M8 a0 v8 9999) (fun v20 M20 => fj_X10_readLink_61 S M20 a0 x1 v6 v7 v8 v20))))))))))
set_option maxHeartbeats 4000000 in
set_option maxRecDepth 100000 in
theorem c_X10_readLink {l : Launch} {G : fw_G} {S : List fw_Sh} {M : fw_Mem} {a0 : Nat} {x1 : Int32} {r : fw_Mem} (hl : l.stackTraces = false) (h : f_X10_readLink S M a0 x1 = some r) : fw_M l G yX10_readLink (.code yX10_readLink cX10_readLink 6 none) 10 (fw_mcO (.inl none, S, r)) (fw_msO (.inl none, S, r)) S M [.ref a0, .int x1] (.inl none, S, r) := by
  refine fw_of [(0, .ref a0), (1, .int x1)] (by decide) (Nat.le_of_ble_eq_true rfl) rfl ?_
  intro p e s m args below meth c C hr hlk hnm ht _
  unfold f_X10_readLink at h
  refine fw_aload_n C 0 dX10_readLink_0 rfl rfl ?_
  obtain ⟨g1, h⟩ := gd_some h
  obtain ⟨g2, h⟩ := gd_some h
  refine fw_getR C 10 1 (Nat.le_of_ble_eq_true rfl) (Nat.le_of_ble_eq_true rfl) wf_X10_13 rfl (gO_of g1) (gN_of g2) dX10_readLink_1 ?_
  refine fw_iconst C 1 dX10_readLink_4 rfl ?_
  obtain ⟨g3, h⟩ := gd_some h
  refine fw_iald C (gA_of g3) dX10_readLink_5 ?_
  refine fw_bipush C 24 dX10_readLink_6 rfl ?_
  refine fw_icmp_ne C 16 dX10_readLink_8 (by decide) (fun c4 => ?_) (fun c4 => ?_)
  · replace h := (if_neg c4).symm.trans h
    refine fw_aload_n C 0 dX10_readLink_16 rfl rfl ?_
    obtain ⟨M5, e5, h⟩ := b1_some h
    refine fw_callV (ci := 10) [] C (c_X10_pass hl e5) cal_X10_pass wm_X10_299 wi_yX10_pass wsl_yX10_pass (Nat.le_of_ble_eq_true rfl) rfl (gO_of g1) rfl (Nat.le_of_ble_eq_true rfl) ⟨Nat.le_of_ble_eq_true rfl, Nat.le_of_ble_eq_true rfl⟩ ⟨Nat.zero_le _, Nat.zero_le _⟩ dX10_readLink_17 ?_
    refine fw_aload_n C 0 dX10_readLink_20 rfl rfl ?_
    refine fw_iconst C (-1) dX10_readLink_21 rfl ?_
    obtain ⟨v6, M6, e6, h⟩ := b2_some h
    refine fw_callV (ci := 10) [_] C (c_X10_readKnown hl e6) cal_X10_readKnown wm_X10_322 wi_yX10_readKnown wsl_yX10_readKnown (Nat.le_of_ble_eq_true rfl) rfl (gO_of g1) rfl (Nat.le_of_ble_eq_true rfl) ⟨Nat.le_of_ble_eq_true rfl, Nat.le_of_ble_eq_true rfl⟩ ⟨Nat.zero_le _, Nat.zero_le _⟩ dX10_readLink_22 ?_
    refine fw_istore_n C [(2, _), (0, _), (1, _)] dX10_readLink_25 rfl (Nat.le_of_ble_eq_true rfl) rfl ?_
    refine fw_aload_n C 1 dX10_readLink_26 rfl rfl ?_
    refine fw_iload_n C 0 dX10_readLink_27 rfl rfl ?_
    obtain ⟨v7, M7, e7, h⟩ := b2_some h
    refine fw_callV (ci := 10) [_] C (c_X10_readKnown hl e7) cal_X10_readKnown wm_X10_322 wi_yX10_readKnown wsl_yX10_readKnown (Nat.le_of_ble_eq_true rfl) rfl (gO_of g1) rfl (Nat.le_of_ble_eq_true rfl) ⟨Nat.le_of_ble_eq_true rfl, Nat.le_of_ble_eq_true rfl⟩ ⟨Nat.zero_le _, Nat.zero_le _⟩ dX10_readLink_28 ?_
    refine fw_istore_n C [(3, _), (2, _), (0, _), (1, _)] dX10_readLink_31 rfl (Nat.le_of_ble_eq_true rfl) rfl ?_
    refine fw_aload_n C 2 dX10_readLink_32 rfl rfl ?_
    refine fw_iconst C 0 dX10_readLink_33 rfl ?_
    refine fw_sipush C 9999 dX10_readLink_34 rfl ?_
    obtain ⟨v8, M8, e8, h⟩ := b2_some h
    refine fw_callV (ci := 10) [_, _] C (c_X10_number hl e8) cal_X10_number wm_X10_325 wi_yX10_number wsl_yX10_number (Nat.le_of_ble_eq_true rfl) rfl (gO_of g1) rfl (Nat.le_of_ble_eq_true rfl) ⟨Nat.le_of_ble_eq_true rfl, Nat.le_of_ble_eq_true rfl⟩ ⟨Nat.zero_le _, Nat.zero_le _⟩ dX10_readLink_37 ?_
    refine fw_istore C [(4, _), (3, _), (2, _), (0, _), (1, _)] dX10_readLink_40 (Nat.le_of_ble_eq_true rfl) rfl ?_
    refine fw_iload_n C 4 dX10_readLink_42 rfl rfl ?_
    refine fw_if_eq C 58 dX10_readLink_43 (by decide) (fun c9 => ?_) (fun c9 => ?_)
    · replace h := (if_pos c9).symm.trans h
      refine fw_sipush C 9999 dX10_readLink_58 rfl ?_
      refine fw_sub [3, 4, 2, 1, 0] rfl ?_
      exact jc_X10_readLink_61 C hr hlk hl ht rfl h
    · replace h := (if_neg c9).symm.trans h
      refine fw_aload_n C 3 dX10_readLink_46 rfl rfl ?_
      refine fw_iload C 0 dX10_readLink_47 rfl ?_
      refine fw_sipush C 9999 dX10_readLink_49 rfl ?_
      obtain ⟨v20, M20, e20, h⟩ := b2_some h
      refine fw_callV (ci := 10) [_, _] C (c_X10_number hl e20) cal_X10_number wm_X10_325 wi_yX10_number wsl_yX10_number (Nat.le_of_ble_eq_true rfl) rfl (gO_of g1) rfl (Nat.le_of_ble_eq_true rfl) ⟨Nat.le_of_ble_eq_true rfl, Nat.le_of_ble_eq_true rfl⟩ ⟨Nat.zero_le _, Nat.zero_le _⟩ dX10_readLink_52 ?_
      refine fw_goto C 61 dX10_readLink_55 (by decide) ?_
      refine fw_sub [3, 4, 2, 1, 0] rfl ?_
      exact jc_X10_readLink_61 C hr hlk hl ht rfl h
  · replace h := (if_pos c4).symm.trans h
    refine fw_aload_n C 0 dX10_readLink_11 rfl rfl ?_
    refine fw_iconst C 4 dX10_readLink_12 rfl ?_
    obtain ⟨M21, e21, h⟩ := b1_some h
    refine fw_callV (ci := 10) [_] C (c_X10_wrong hl e21) cal_X10_wrong wm_X10_296 wi_yX10_wrong wsl_yX10_wrong (Nat.le_of_ble_eq_true rfl) rfl (gO_of g1) rfl (Nat.le_of_ble_eq_true rfl) ⟨Nat.le_of_ble_eq_true rfl, Nat.le_of_ble_eq_true rfl⟩ ⟨Nat.zero_le _, Nat.zero_le _⟩ dX10_readLink_13 ?_
    exact jc_X10_readLink_16 C hr hlk hl ht rfl h
set_option maxRecDepth 100000 in
def lf_X10_readSet_16 (S : List fw_Sh) (a0 : Nat) (x2 : Int32) : Nat → Int32 → fw_Mem → Option (Int32 × fw_Mem)
  | 0, _, _ => none
  | n + 1, x3, M => gd (gO S 10 a0) (if (M a0 21) = 0 then (if (M a0 18) = 2 then (b2 (f_X10_numberHere S M a0 0 30) (fun v8 M8 => if (M8 a0 21) = 0 then (b1 (f_X10_has S M8 (x2 &&& (x3 ^^^ (-1))) v8) (fun v14 => if v14 = 0 then (b1 (f_X10_wrong S M8 a0 2) (fun M20 => if (M20 a0 21) = 0 then (bm (x3 ||| ((1 : Int32) <<< (v8 &&& 31))) (fun y23 => b1 (f_X10_pass S M20 a0) (fun M24 => lf_X10_readSet_16 S a0 x2 n y23 M24))) else (b1 (f_X10_pass S M20 a0) (fun M22 => lf_X10_readSet_16 S a0 x2 n x3 M22)))) else (if (M8 a0 21) = 0 then (bm (x3 ||| ((1 : Int32) <<< (v8 &&& 31))) (fun y18 => b1 (f_X10_pass S M8 a0) (fun M19 => lf_X10_readSet_16 S a0 x2 n y18 M19))) else (b1 (f_X10_pass S M8 a0) (fun M17 => lf_X10_readSet_16 S a0 x2 n x3 M17))))) else (if (M8 a0 21) = 0 then (bm (x3 ||| ((1 : Int32) <<< (v8 &&& 31))) (fun y12 => b1 (f_X10_pass S M8 a0) (fun M13 => lf_X10_readSet_16 S a0 x2 n y12 M13))) else (b1 (f_X10_pass S M8 a0) (fun M11 => lf_X10_readSet_16 S a0 x2 n x3 M11))))) else (some (x3, M))) else (some (x3, M)))
set_option maxHeartbeats 4000000 in
set_option maxRecDepth 100000 in
theorem lc_X10_readSet_16 {G : fw_G} {p : Program} {l : Launch} {e : Env} {s : State} {m : MethodId} {args : Array Value} {below : List Frame} {meth : Method} {c : Code} {S : List fw_Sh} {o : fw_O} {a0 : Nat} {x2 : Int32} (C : fw_C G RX10 cX10_readSet 5 p s m args c) (hr : meth.sig.returnType = (some .int)) (hlk : meth.locks = false) (hl : l.stackTraces = false) (ht : ∀ x ∈ c.exceptionTable.toList, False) :
    ∀ {n : Nat} {x3 : Int32} {M : fw_Mem} {r : (Int32 × fw_Mem)} (h : lf_X10_readSet_16 S a0 x2 n x3 M = some r) (kx : fw_W G p l e (fw_rm 8 (fw_mcO o) (fw_msO o)) s m args below meth c 5 (fw_Z G below args s (fw_mcO o) (fw_msO o) o) 0 0 86 [(3, .int r.1)] [] S r.2), fw_W G p l e (fw_rm 8 (fw_mcO o) (fw_msO o)) s m args below meth c 5 (fw_Z G below args s (fw_mcO o) (fw_msO o) o) 0 0 16 [(0, .ref a0), (2, .int x2), (3, .int x3)] [] S M := by
  intro n
  induction n with
  | zero =>
    intro x3 M r h
    exact nomatch (show (none : Option (Int32 × fw_Mem)) = some r from h)
  | succ n ih =>
    intro x3 M r h kx
    rw [lf_X10_readSet_16.eq_2] at h
    refine fw_aload_n C 0 dX10_readSet_16 rfl rfl ?_
    obtain ⟨g5, h⟩ := gd_some h
    refine fw_getI C 10 21 (Nat.le_of_ble_eq_true rfl) (Nat.le_of_ble_eq_true rfl) wf_X10_272 rfl (gO_of g5) dX10_readSet_17 ?_
    refine fw_if_ne C 86 dX10_readSet_20 (by decide) (fun c6 => ?_) (fun c6 => ?_)
    · replace h := (if_neg c6).symm.trans h
      obtain rfl := Option.some.inj h
      refine fw_sub [2] rfl ?_
      exact kx
    · replace h := (if_pos c6).symm.trans h
      refine fw_aload_n C 0 dX10_readSet_23 rfl rfl ?_
      refine fw_getI C 10 18 (Nat.le_of_ble_eq_true rfl) (Nat.le_of_ble_eq_true rfl) wf_X10_260 rfl (gO_of g5) dX10_readSet_24 ?_
      refine fw_iconst C 2 dX10_readSet_27 rfl ?_
      refine fw_icmp_ne C 86 dX10_readSet_28 (by decide) (fun c7 => ?_) (fun c7 => ?_)
      · replace h := (if_neg c7).symm.trans h
        obtain rfl := Option.some.inj h
        refine fw_sub [2] rfl ?_
        exact kx
      · replace h := (if_pos c7).symm.trans h
        refine fw_aload_n C 0 dX10_readSet_31 rfl rfl ?_
        refine fw_iconst C 0 dX10_readSet_32 rfl ?_
        refine fw_bipush C 30 dX10_readSet_33 rfl ?_
        obtain ⟨v8, M8, e8, h⟩ := b2_some h
        refine fw_callV (ci := 10) [_, _] C (c_X10_numberHere hl e8) cal_X10_numberHere wm_X10_303 wi_yX10_numberHere wsl_yX10_numberHere (Nat.le_of_ble_eq_true rfl) rfl (gO_of g5) rfl (Nat.le_of_ble_eq_true rfl) ⟨Nat.le_of_ble_eq_true rfl, Nat.le_of_ble_eq_true rfl⟩ ⟨Nat.zero_le _, Nat.zero_le _⟩ dX10_readSet_35 ?_
        refine fw_istore C [(4, _), (0, _), (2, _), (3, _)] dX10_readSet_38 (Nat.le_of_ble_eq_true rfl) rfl ?_
        refine fw_aload_n C 1 dX10_readSet_40 rfl rfl ?_
        refine fw_getI C 10 21 (Nat.le_of_ble_eq_true rfl) (Nat.le_of_ble_eq_true rfl) wf_X10_272 rfl (gO_of g5) dX10_readSet_41 ?_
        refine fw_if_ne C 65 dX10_readSet_44 (by decide) (fun c9 => ?_) (fun c9 => ?_)
        · replace h := (if_neg c9).symm.trans h
          refine fw_aload_n C 1 dX10_readSet_65 rfl rfl ?_
          refine fw_getI C 10 21 (Nat.le_of_ble_eq_true rfl) (Nat.le_of_ble_eq_true rfl) wf_X10_272 rfl (gO_of g5) dX10_readSet_66 ?_
          refine fw_if_ne C 79 dX10_readSet_69 (by decide) (fun c10 => ?_) (fun c10 => ?_)
          · replace h := (if_neg c10).symm.trans h
            refine fw_aload_n C 1 dX10_readSet_79 rfl rfl ?_
            obtain ⟨M11, e11, h⟩ := b1_some h
            refine fw_callV (ci := 10) [] C (c_X10_pass hl e11) cal_X10_pass wm_X10_299 wi_yX10_pass wsl_yX10_pass (Nat.le_of_ble_eq_true rfl) rfl (gO_of g5) rfl (Nat.le_of_ble_eq_true rfl) ⟨Nat.le_of_ble_eq_true rfl, Nat.le_of_ble_eq_true rfl⟩ ⟨Nat.zero_le _, Nat.zero_le _⟩ dX10_readSet_80 ?_
            refine fw_goto C 16 dX10_readSet_83 (by decide) ?_
            refine fw_sub [1, 2, 3] rfl ?_
            exact ih h kx
          · replace h := (if_pos c10).symm.trans h
            refine fw_iload_n C 3 dX10_readSet_72 rfl rfl ?_
            refine fw_iconst C 1 dX10_readSet_73 rfl ?_
            refine fw_iload C 0 dX10_readSet_74 rfl ?_
            refine fw_ishl C dX10_readSet_76 ?_
            refine fw_ior C dX10_readSet_77 ?_
            refine fw_bi h (fun y12 h => ?_)
            refine fw_istore_n C [(3, _), (4, _), (0, _), (2, _)] dX10_readSet_78 rfl (Nat.le_of_ble_eq_true rfl) rfl ?_
            refine fw_aload_n C 2 dX10_readSet_79 rfl rfl ?_
            obtain ⟨M13, e13, h⟩ := b1_some h
            refine fw_callV (ci := 10) [] C (c_X10_pass hl e13) cal_X10_pass wm_X10_299 wi_yX10_pass wsl_yX10_pass (Nat.le_of_ble_eq_true rfl) rfl (gO_of g5) rfl (Nat.le_of_ble_eq_true rfl) ⟨Nat.le_of_ble_eq_true rfl, Nat.le_of_ble_eq_true rfl⟩ ⟨Nat.zero_le _, Nat.zero_le _⟩ dX10_readSet_80 ?_
            refine fw_goto C 16 dX10_readSet_83 (by decide) ?_
            refine fw_sub [2, 3, 0] rfl ?_
            exact ih h kx
        · replace h := (if_pos c9).symm.trans h
          refine fw_iload_n C 2 dX10_readSet_47 rfl rfl ?_
          refine fw_iload_n C 3 dX10_readSet_48 rfl rfl ?_
          refine fw_iconst C (-1) dX10_readSet_49 rfl ?_
          refine fw_ixor C dX10_readSet_50 ?_
          refine fw_iand C dX10_readSet_51 ?_
          refine fw_iload C 0 dX10_readSet_52 rfl ?_
          obtain ⟨v14, e14, h⟩ := b1_some h
          refine fw_callS [_, _] C (c_X10_has hl e14) cal_X10_has wm_X10_98 wt_yX10_has rfl (Nat.le_of_ble_eq_true rfl) ⟨Nat.le_of_ble_eq_true rfl, Nat.le_of_ble_eq_true rfl⟩ ⟨Nat.zero_le _, Nat.zero_le _⟩ dX10_readSet_54 ?_
          refine fw_if_ne C 65 dX10_readSet_57 (by decide) (fun c15 => ?_) (fun c15 => ?_)
          · replace h := (if_neg c15).symm.trans h
            refine fw_aload_n C 1 dX10_readSet_65 rfl rfl ?_
            refine fw_getI C 10 21 (Nat.le_of_ble_eq_true rfl) (Nat.le_of_ble_eq_true rfl) wf_X10_272 rfl (gO_of g5) dX10_readSet_66 ?_
            refine fw_if_ne C 79 dX10_readSet_69 (by decide) (fun c16 => ?_) (fun c16 => ?_)
            · replace h := (if_neg c16).symm.trans h
              refine fw_aload_n C 1 dX10_readSet_79 rfl rfl ?_
              obtain ⟨M17, e17, h⟩ := b1_some h
              refine fw_callV (ci := 10) [] C (c_X10_pass hl e17) cal_X10_pass wm_X10_299 wi_yX10_pass wsl_yX10_pass (Nat.le_of_ble_eq_true rfl) rfl (gO_of g5) rfl (Nat.le_of_ble_eq_true rfl) ⟨Nat.le_of_ble_eq_true rfl, Nat.le_of_ble_eq_true rfl⟩ ⟨Nat.zero_le _, Nat.zero_le _⟩ dX10_readSet_80 ?_
              refine fw_goto C 16 dX10_readSet_83 (by decide) ?_
              refine fw_sub [1, 2, 3] rfl ?_
              exact ih h kx
            · replace h := (if_pos c16).symm.trans h
              refine fw_iload_n C 3 dX10_readSet_72 rfl rfl ?_
              refine fw_iconst C 1 dX10_readSet_73 rfl ?_
              refine fw_iload C 0 dX10_readSet_74 rfl ?_
              refine fw_ishl C dX10_readSet_76 ?_
              refine fw_ior C dX10_readSet_77 ?_
              refine fw_bi h (fun y18 h => ?_)
              refine fw_istore_n C [(3, _), (4, _), (0, _), (2, _)] dX10_readSet_78 rfl (Nat.le_of_ble_eq_true rfl) rfl ?_
              refine fw_aload_n C 2 dX10_readSet_79 rfl rfl ?_
              obtain ⟨M19, e19, h⟩ := b1_some h
              refine fw_callV (ci := 10) [] C (c_X10_pass hl e19) cal_X10_pass wm_X10_299 wi_yX10_pass wsl_yX10_pass (Nat.le_of_ble_eq_true rfl) rfl (gO_of g5) rfl (Nat.le_of_ble_eq_true rfl) ⟨Nat.le_of_ble_eq_true rfl, Nat.le_of_ble_eq_true rfl⟩ ⟨Nat.zero_le _, Nat.zero_le _⟩ dX10_readSet_80 ?_
              refine fw_goto C 16 dX10_readSet_83 (by decide) ?_
              refine fw_sub [2, 3, 0] rfl ?_
              exact ih h kx
          · replace h := (if_pos c15).symm.trans h
            refine fw_aload_n C 1 dX10_readSet_60 rfl rfl ?_
            refine fw_iconst C 2 dX10_readSet_61 rfl ?_
            obtain ⟨M20, e20, h⟩ := b1_some h
            refine fw_callV (ci := 10) [_] C (c_X10_wrong hl e20) cal_X10_wrong wm_X10_296 wi_yX10_wrong wsl_yX10_wrong (Nat.le_of_ble_eq_true rfl) rfl (gO_of g5) rfl (Nat.le_of_ble_eq_true rfl) ⟨Nat.le_of_ble_eq_true rfl, Nat.le_of_ble_eq_true rfl⟩ ⟨Nat.zero_le _, Nat.zero_le _⟩ dX10_readSet_62 ?_
            refine fw_aload_n C 1 dX10_readSet_65 rfl rfl ?_
            refine fw_getI C 10 21 (Nat.le_of_ble_eq_true rfl) (Nat.le_of_ble_eq_true rfl) wf_X10_272 rfl (gO_of g5) dX10_readSet_66 ?_
            refine fw_if_ne C 79 dX10_readSet_69 (by decide) (fun c21 => ?_) (fun c21 => ?_)
            · replace h := (if_neg c21).symm.trans h
              refine fw_aload_n C 1 dX10_readSet_79 rfl rfl ?_
              obtain ⟨M22, e22, h⟩ := b1_some h
              refine fw_callV (ci := 10) [] C (c_X10_pass hl e22) cal_X10_pass wm_X10_299 wi_yX10_pass wsl_yX10_pass (Nat.le_of_ble_eq_true rfl) rfl (gO_of g5) rfl (Nat.le_of_ble_eq_true rfl) ⟨Nat.le_of_ble_eq_true rfl, Nat.le_of_ble_eq_true rfl⟩ ⟨Nat.zero_le _, Nat.zero_le _⟩ dX10_readSet_80 ?_
              refine fw_goto C 16 dX10_readSet_83 (by decide) ?_
              refine fw_sub [1, 2, 3] rfl ?_
              exact ih h kx
            · replace h := (if_pos c21).symm.trans h
              refine fw_iload_n C 3 dX10_readSet_72 rfl rfl ?_
              refine fw_iconst C 1 dX10_readSet_73 rfl ?_
              refine fw_iload C 0 dX10_readSet_74 rfl ?_
              refine fw_ishl C dX10_readSet_76 ?_
              refine fw_ior C dX10_readSet_77 ?_
              refine fw_bi h (fun y23 h => ?_)
              refine fw_istore_n C [(3, _), (4, _), (0, _), (2, _)] dX10_readSet_78 rfl (Nat.le_of_ble_eq_true rfl) rfl ?_
              refine fw_aload_n C 2 dX10_readSet_79 rfl rfl ?_
              obtain ⟨M24, e24, h⟩ := b1_some h
              refine fw_callV (ci := 10) [] C (c_X10_pass hl e24) cal_X10_pass wm_X10_299 wi_yX10_pass wsl_yX10_pass (Nat.le_of_ble_eq_true rfl) rfl (gO_of g5) rfl (Nat.le_of_ble_eq_true rfl) ⟨Nat.le_of_ble_eq_true rfl, Nat.le_of_ble_eq_true rfl⟩ ⟨Nat.zero_le _, Nat.zero_le _⟩ dX10_readSet_80 ?_
              refine fw_goto C 16 dX10_readSet_83 (by decide) ?_
              refine fw_sub [2, 3, 0] rfl ?_
              exact ih h kx
set_option maxRecDepth 100000 in
def f_X10_readSet (S : List fw_Sh) (M : fw_Mem) (a0 : Nat) (a1 : Nat) (x2 : Int32) : Option (Int32 × fw_Mem) := gd (gO S 10 a0) (b1 (f_X10_isWord S M a0 a1) (fun v1 => if v1 = 0 then (some (0, M)) else (b1 (f_X10_pass S M a0) (fun M4 => b1 (lf_X10_readSet_16 S a0 x2 20000 0 M4) (fun l25 => some (l25.1, l25.2))))))
set_option maxHeartbeats 4000000 in
set_option maxRecDepth 100000 in
theorem c_X10_readSet {l : Launch} {G : fw_G} {S : List fw_Sh} {M : fw_Mem} {a0 : Nat} {a1 : Nat} {x2 : Int32} {r : (Int32 × fw_Mem)} (hl : l.stackTraces = false) (h : f_X10_readSet S M a0 a1 x2 = some r) : fw_M l G yX10_readSet (.code yX10_readSet cX10_readSet 5 (some .int)) 8 (fw_mcO (.inl (some (.int r.1)), S, r.2)) (fw_msO (.inl (some (.int r.1)), S, r.2)) S M [.ref a0, .ref a1, .int x2] (.inl (some (.int r.1)), S, r.2) := by
  refine fw_of [(0, .ref a0), (1, .ref a1), (2, .int x2)] (by decide) (Nat.le_of_ble_eq_true rfl) rfl ?_
  intro p e s m args below meth c C hr hlk hnm ht _
  unfold f_X10_readSet at h
  refine fw_iconst C 0 dX10_readSet_0 rfl ?_
  refine fw_istore_n C [(3, _), (0, _), (1, _), (2, _)] dX10_readSet_1 rfl (Nat.le_of_ble_eq_true rfl) rfl ?_
  refine fw_aload_n C 1 dX10_readSet_2 rfl rfl ?_
  refine fw_aload_n C 2 dX10_readSet_3 rfl rfl ?_
  obtain ⟨g2, h⟩ := gd_some h
  obtain ⟨v1, e1, h⟩ := b1_some h
  refine fw_callV (ci := 10) [_] C (c_X10_isWord hl e1) cal_X10_isWord wm_X10_308 wi_yX10_isWord wsl_yX10_isWord (Nat.le_of_ble_eq_true rfl) rfl (gO_of g2) rfl (Nat.le_of_ble_eq_true rfl) ⟨Nat.le_of_ble_eq_true rfl, Nat.le_of_ble_eq_true rfl⟩ ⟨Nat.zero_le _, Nat.zero_le _⟩ dX10_readSet_4 ?_
  refine fw_if_ne C 12 dX10_readSet_7 (by decide) (fun c3 => ?_) (fun c3 => ?_)
  · replace h := (if_neg c3).symm.trans h
    refine fw_aload_n C 1 dX10_readSet_12 rfl rfl ?_
    obtain ⟨M4, e4, h⟩ := b1_some h
    refine fw_callV (ci := 10) [] C (c_X10_pass hl e4) cal_X10_pass wm_X10_299 wi_yX10_pass wsl_yX10_pass (Nat.le_of_ble_eq_true rfl) rfl (gO_of g2) rfl (Nat.le_of_ble_eq_true rfl) ⟨Nat.le_of_ble_eq_true rfl, Nat.le_of_ble_eq_true rfl⟩ ⟨Nat.zero_le _, Nat.zero_le _⟩ dX10_readSet_13 ?_
    refine fw_sub [1, 3, 0] rfl ?_
    obtain ⟨l25, e25, h⟩ := b1_some h
    refine lc_X10_readSet_16 C hr hlk hl ht e25 ?_
    refine fw_iload_n C 0 dX10_readSet_86 rfl rfl ?_
    obtain rfl := Option.some.inj h
    exact fw_iret C hr hlk dX10_readSet_87
  · replace h := (if_pos c3).symm.trans h
    refine fw_iload_n C 0 dX10_readSet_10 rfl rfl ?_
    obtain rfl := Option.some.inj h
    exact fw_iret C hr hlk dX10_readSet_11
set_option maxRecDepth 100000 in
def f_X10_toldOf (S : List fw_Sh) (M : fw_Mem) (a0 : Nat) (x1 : Int32) (x2 : Int32) : Option Int32 := gd (gO S 10 a0) (gd (gN (M a0 1)) (gd (gA S 0 ((M a0 1).toNatClampNeg) (((198 : Int32) + ((12 : Int32) * x1)) + x2)) (some (M ((M a0 1).toNatClampNeg) (((198 : Int32) + ((12 : Int32) * x1)) + x2).toNatClampNeg))))
set_option maxHeartbeats 4000000 in
set_option maxRecDepth 100000 in
theorem c_X10_toldOf {l : Launch} {G : fw_G} {S : List fw_Sh} {M : fw_Mem} {a0 : Nat} {x1 : Int32} {x2 : Int32} {r : Int32} (hl : l.stackTraces = false) (h : f_X10_toldOf S M a0 x1 x2 = some r) : fw_M l G yX10_toldOf (.code yX10_toldOf cX10_toldOf 3 (some .int)) 1 (fw_mcO (.inl (some (.int r)), S, M)) (fw_msO (.inl (some (.int r)), S, M)) S M [.ref a0, .int x1, .int x2] (.inl (some (.int r)), S, M) := by
  refine fw_of [(0, .ref a0), (1, .int x1), (2, .int x2)] (by decide) (Nat.le_of_ble_eq_true rfl) rfl ?_
  intro p e s m args below meth c C hr hlk hnm ht _
  unfold f_X10_toldOf at h
  refine fw_aload_n C 0 dX10_toldOf_0 rfl rfl ?_
  obtain ⟨g1, h⟩ := gd_some h
  obtain ⟨g2, h⟩ := gd_some h
  refine fw_getR C 10 1 (Nat.le_of_ble_eq_true rfl) (Nat.le_of_ble_eq_true rfl) wf_X10_13 rfl (gO_of g1) (gN_of g2) dX10_toldOf_1 ?_
  refine fw_sipush C 198 dX10_toldOf_4 rfl ?_
  refine fw_bipush C 12 dX10_toldOf_7 rfl ?_
  refine fw_iload_n C 1 dX10_toldOf_9 rfl rfl ?_
  refine fw_imul C dX10_toldOf_10 ?_
  refine fw_iadd C dX10_toldOf_11 ?_
  refine fw_iload_n C 2 dX10_toldOf_12 rfl rfl ?_
  refine fw_iadd C dX10_toldOf_13 ?_
  obtain ⟨g3, h⟩ := gd_some h
  refine fw_iald C (gA_of g3) dX10_toldOf_14 ?_
  obtain rfl := Option.some.inj h
  exact fw_iret C hr hlk dX10_toldOf_15
set_option maxRecDepth 100000 in
def fj_X10_readSuit_16 (S : List fw_Sh) (M : fw_Mem) (a0 : Nat) : Option fw_Mem := gd (gO S 10 a0) (b1 (f_X10_pass S M a0) (fun M31 => b2 (f_X10_readKnown S M31 a0 (-1)) (fun v33 M33 => b2 (f_X10_readKnown S M33 a0 v33) (fun v34 M34 => b2 (f_X10_number S M34 a0 0 9999) (fun v35 M35 => b2 (f_X10_readSet S M35 a0 1000007 2147483647) (fun v36 M36 => b2 (f_X10_readSet S M36 a0 1000018 2147483647) (fun v37 M37 => b2 (f_X10_readSet S M37 a0 1000003 ((2147483647 : Int32) &&& (v37 ^^^ (-1)))) (fun v38 M38 => if (M38 a0 21) = 0 then (gd (gN (M38 a0 1)) (gd (gA S 0 ((M38 a0 1).toNatClampNeg) 2) (bm (M38 ((M38 a0 1).toNatClampNeg) 2) (fun y42 => b1 (f_X10_lay S M38 a0 ((M38 a0 1).toNatClampNeg) y42 v33 v34 v35) (fun M43 => bm ((198 : Int32) + ((12 : Int32) * y42)) (fun y44 => gd (gN (M43 a0 1)) (gd (gA S 0 ((M43 a0 1).toNatClampNeg) (y44 + 3)) (bm (fw_set M43 ((M43 a0 1).toNatClampNeg) (y44 + 3).toNatClampNeg v36) (fun M47 => gd (gN (M47 a0 1)) (gd (gA S 0 ((M47 a0 1).toNatClampNeg) (y44 + 4)) (bm (fw_set M47 ((M47 a0 1).toNatClampNeg) (y44 + 4).toNatClampNeg v37) (fun M50 => gd (gN (M50 a0 1)) (gd (gA S 0 ((M50 a0 1).toNatClampNeg) (y44 + 5)) (bm (fw_set M50 ((M50 a0 1).toNatClampNeg) (y44 + 5).toNatClampNeg v38) (fun M53 => gd (gN (M53 a0 1)) (gd (gA S 0 ((M53 a0 1).toNatClampNeg) 2) (bm (fw_set M53 ((M53 a0 1).toNatClampNeg) 2 ((M53 ((M53 a0 1).toNatClampNeg) 2) + 1)) (fun M56 => some M56)))))))))))))))))) else (some M38)))))))))
set_option maxHeartbeats 4000000 in
set_option maxRecDepth 100000 in
theorem jc_X10_readSuit_16 {G : fw_G} {p : Program} {l : Launch} {e : Env} {s : State} {m : MethodId} {args : Array Value} {below : List Frame} {meth : Method} {c : Code} {S : List fw_Sh} {M : fw_Mem} {a0 : Nat} {r : fw_Mem} {o : fw_O} (C : fw_C G RX10 cX10_readSuit 10 p s m args c) (hr : meth.sig.returnType = none) (hlk : meth.locks = false) (hl : l.stackTraces = false) (ht : ∀ x ∈ c.exceptionTable.toList, False) (ho : o = (.inl none, S, r)) (h : fj_X10_readSuit_16 S M a0 = some r) :
    fw_W G p l e (fw_rm 10 (fw_mcO o) (fw_msO o)) s m args below meth c 10 (fw_Z G below args s (fw_mcO o) (fw_msO o) o) 0 0 16 [(0, .ref a0)] [] S M := by
  subst ho
  unfold fj_X10_readSuit_16 at h
  refine fw_aload_n C 0 dX10_readSuit_16 rfl rfl ?_
  obtain ⟨g32, h⟩ := gd_some h
  obtain ⟨M31, e31, h⟩ := b1_some h
  refine fw_callV (ci := 10) [] C (c_X10_pass hl e31) cal_X10_pass wm_X10_299 wi_yX10_pass wsl_yX10_pass (Nat.le_of_ble_eq_true rfl) rfl (gO_of g32) rfl (Nat.le_of_ble_eq_true rfl) ⟨Nat.le_of_ble_eq_true rfl, Nat.le_of_ble_eq_true rfl⟩ ⟨Nat.zero_le _, Nat.zero_le _⟩ dX10_readSuit_17 ?_
  refine fw_aload_n C 0 dX10_readSuit_20 rfl rfl ?_
  refine fw_iconst C (-1) dX10_readSuit_21 rfl ?_
  obtain ⟨v33, M33, e33, h⟩ := b2_some h
  refine fw_callV (ci := 10) [_] C (c_X10_readKnown hl e33) cal_X10_readKnown wm_X10_322 wi_yX10_readKnown wsl_yX10_readKnown (Nat.le_of_ble_eq_true rfl) rfl (gO_of g32) rfl (Nat.le_of_ble_eq_true rfl) ⟨Nat.le_of_ble_eq_true rfl, Nat.le_of_ble_eq_true rfl⟩ ⟨Nat.zero_le _, Nat.zero_le _⟩ dX10_readSuit_22 ?_
  refine fw_istore_n C [(1, _), (0, _)] dX10_readSuit_25 rfl (Nat.le_of_ble_eq_true rfl) rfl ?_
  refine fw_aload_n C 1 dX10_readSuit_26 rfl rfl ?_
  refine fw_iload_n C 0 dX10_readSuit_27 rfl rfl ?_
  obtain ⟨v34, M34, e34, h⟩ := b2_some h
  refine fw_callV (ci := 10) [_] C (c_X10_readKnown hl e34) cal_X10_readKnown wm_X10_322 wi_yX10_readKnown wsl_yX10_readKnown (Nat.le_of_ble_eq_true rfl) rfl (gO_of g32) rfl (Nat.le_of_ble_eq_true rfl) ⟨Nat.le_of_ble_eq_true rfl, Nat.le_of_ble_eq_true rfl⟩ ⟨Nat.zero_le _, Nat.zero_le _⟩ dX10_readSuit_28 ?_
  refine fw_istore_n C [(2, _), (1, _), (0, _)] dX10_readSuit_31 rfl (Nat.le_of_ble_eq_true rfl) rfl ?_
  refine fw_aload_n C 2 dX10_readSuit_32 rfl rfl ?_
  refine fw_iconst C 0 dX10_readSuit_33 rfl ?_
  refine fw_sipush C 9999 dX10_readSuit_34 rfl ?_
  obtain ⟨v35, M35, e35, h⟩ := b2_some h
  refine fw_callV (ci := 10) [_, _] C (c_X10_number hl e35) cal_X10_number wm_X10_325 wi_yX10_number wsl_yX10_number (Nat.le_of_ble_eq_true rfl) rfl (gO_of g32) rfl (Nat.le_of_ble_eq_true rfl) ⟨Nat.le_of_ble_eq_true rfl, Nat.le_of_ble_eq_true rfl⟩ ⟨Nat.zero_le _, Nat.zero_le _⟩ dX10_readSuit_37 ?_
  refine fw_istore_n C [(3, _), (2, _), (1, _), (0, _)] dX10_readSuit_40 rfl (Nat.le_of_ble_eq_true rfl) rfl ?_
  refine fw_ldcw C wk_X10_330 dX10_readSuit_41 ?_
  refine fw_istore C [(4, _), (3, _), (2, _), (1, _), (0, _)] dX10_readSuit_44 (Nat.le_of_ble_eq_true rfl) rfl ?_
  refine fw_aload_n C 4 dX10_readSuit_46 rfl rfl ?_
  refine fw_ldcSw C (i := 6) (List.mem_of_getElem? (i := 62) rfl) dX10_readSuit_47 ?_
  refine fw_iload C 0 dX10_readSuit_50 rfl ?_
  obtain ⟨v36, M36, e36, h⟩ := b2_some h
  refine fw_callV (ci := 10) [_, _] C (c_X10_readSet hl e36) cal_X10_readSet wm_X10_333 wi_yX10_readSet wsl_yX10_readSet (Nat.le_of_ble_eq_true rfl) rfl (gO_of g32) rfl (Nat.le_of_ble_eq_true rfl) ⟨Nat.le_of_ble_eq_true rfl, Nat.le_of_ble_eq_true rfl⟩ ⟨Nat.zero_le _, Nat.zero_le _⟩ dX10_readSuit_52 ?_
  refine fw_istore C [(5, _), (4, _), (3, _), (2, _), (1, _), (0, _)] dX10_readSuit_55 (Nat.le_of_ble_eq_true rfl) rfl ?_
  refine fw_aload_n C 5 dX10_readSuit_57 rfl rfl ?_
  refine fw_ldcSw C (i := 17) (List.mem_of_getElem? (i := 63) rfl) dX10_readSuit_58 ?_
  refine fw_iload C 1 dX10_readSuit_61 rfl ?_
  obtain ⟨v37, M37, e37, h⟩ := b2_some h
  refine fw_callV (ci := 10) [_, _] C (c_X10_readSet hl e37) cal_X10_readSet wm_X10_333 wi_yX10_readSet wsl_yX10_readSet (Nat.le_of_ble_eq_true rfl) rfl (gO_of g32) rfl (Nat.le_of_ble_eq_true rfl) ⟨Nat.le_of_ble_eq_true rfl, Nat.le_of_ble_eq_true rfl⟩ ⟨Nat.zero_le _, Nat.zero_le _⟩ dX10_readSuit_63 ?_
  refine fw_istore C [(6, _), (5, _), (4, _), (3, _), (2, _), (1, _), (0, _)] dX10_readSuit_66 (Nat.le_of_ble_eq_true rfl) rfl ?_
  refine fw_aload_n C 6 dX10_readSuit_68 rfl rfl ?_
  refine fw_ldcSw C (i := 2) (List.mem_of_getElem? (i := 64) rfl) dX10_readSuit_69 ?_
  refine fw_iload C 2 dX10_readSuit_72 rfl ?_
  refine fw_iload C 0 dX10_readSuit_74 rfl ?_
  refine fw_iconst C (-1) dX10_readSuit_76 rfl ?_
  refine fw_ixor C dX10_readSuit_77 ?_
  refine fw_iand C dX10_readSuit_78 ?_
  obtain ⟨v38, M38, e38, h⟩ := b2_some h
  refine fw_callV (ci := 10) [_, _] C (c_X10_readSet hl e38) cal_X10_readSet wm_X10_333 wi_yX10_readSet wsl_yX10_readSet (Nat.le_of_ble_eq_true rfl) rfl (gO_of g32) rfl (Nat.le_of_ble_eq_true rfl) ⟨Nat.le_of_ble_eq_true rfl, Nat.le_of_ble_eq_true rfl⟩ ⟨Nat.zero_le _, Nat.zero_le _⟩ dX10_readSuit_79 ?_
  refine fw_istore C [(7, _), (6, _), (5, _), (4, _), (3, _), (2, _), (1, _), (0, _)] dX10_readSuit_82 (Nat.le_of_ble_eq_true rfl) rfl ?_
  refine fw_aload_n C 7 dX10_readSuit_84 rfl rfl ?_
  refine fw_getI C 10 21 (Nat.le_of_ble_eq_true rfl) (Nat.le_of_ble_eq_true rfl) wf_X10_272 rfl (gO_of g32) dX10_readSuit_85 ?_
  refine fw_if_eq C 92 dX10_readSuit_88 (by decide) (fun c39 => ?_) (fun c39 => ?_)
  · replace h := (if_pos c39).symm.trans h
    refine fw_aload_n C 7 dX10_readSuit_92 rfl rfl ?_
    obtain ⟨g40, h⟩ := gd_some h
    refine fw_getR C 10 1 (Nat.le_of_ble_eq_true rfl) (Nat.le_of_ble_eq_true rfl) wf_X10_13 rfl (gO_of g32) (gN_of g40) dX10_readSuit_93 ?_
    refine fw_iconst C 2 dX10_readSuit_96 rfl ?_
    obtain ⟨g41, h⟩ := gd_some h
    refine fw_iald C (gA_of g41) dX10_readSuit_97 ?_
    refine fw_bi h (fun y42 h => ?_)
    refine fw_istore C [(8, _), (7, _), (6, _), (5, _), (4, _), (3, _), (2, _), (1, _), (0, _)] dX10_readSuit_98 (Nat.le_of_ble_eq_true rfl) rfl ?_
    refine fw_aload_n C 8 dX10_readSuit_100 rfl rfl ?_
    refine fw_aload_n C 8 dX10_readSuit_101 rfl rfl ?_
    refine fw_getR C 10 1 (Nat.le_of_ble_eq_true rfl) (Nat.le_of_ble_eq_true rfl) wf_X10_13 rfl (gO_of g32) (gN_of g40) dX10_readSuit_102 ?_
    refine fw_iload C 0 dX10_readSuit_105 rfl ?_
    refine fw_iload_n C 7 dX10_readSuit_107 rfl rfl ?_
    refine fw_iload_n C 6 dX10_readSuit_108 rfl rfl ?_
    refine fw_iload_n C 5 dX10_readSuit_109 rfl rfl ?_
    obtain ⟨M43, e43, h⟩ := b1_some h
    refine fw_callV (ci := 10) [_, _, _, _, _] C (c_X10_lay hl e43) cal_X10_lay wm_X10_212 wi_yX10_lay wsl_yX10_lay (Nat.le_of_ble_eq_true rfl) rfl (gO_of g32) rfl (Nat.le_of_ble_eq_true rfl) ⟨Nat.le_of_ble_eq_true rfl, Nat.le_of_ble_eq_true rfl⟩ ⟨Nat.zero_le _, Nat.zero_le _⟩ dX10_readSuit_110 ?_
    refine fw_sipush C 198 dX10_readSuit_113 rfl ?_
    refine fw_bipush C 12 dX10_readSuit_116 rfl ?_
    refine fw_iload C 0 dX10_readSuit_118 rfl ?_
    refine fw_imul C dX10_readSuit_120 ?_
    refine fw_iadd C dX10_readSuit_121 ?_
    refine fw_bi h (fun y44 h => ?_)
    refine fw_istore C [(9, _), (8, _), (7, _), (6, _), (5, _), (4, _), (3, _), (2, _), (1, _), (0, _)] dX10_readSuit_122 (Nat.le_of_ble_eq_true rfl) rfl ?_
    refine fw_aload_n C 9 dX10_readSuit_124 rfl rfl ?_
    obtain ⟨g45, h⟩ := gd_some h
    refine fw_getR C 10 1 (Nat.le_of_ble_eq_true rfl) (Nat.le_of_ble_eq_true rfl) wf_X10_13 rfl (gO_of g32) (gN_of g45) dX10_readSuit_125 ?_
    refine fw_iload C 0 dX10_readSuit_128 rfl ?_
    refine fw_iconst C 3 dX10_readSuit_130 rfl ?_
    refine fw_iadd C dX10_readSuit_131 ?_
    refine fw_iload C 4 dX10_readSuit_132 rfl ?_
    obtain ⟨g46, h⟩ := gd_some h
    refine fw_iast C (gA_of g46) dX10_readSuit_134 ?_
    refine fw_bm h (fun M47 h => ?_)
    refine fw_aload_n C 9 dX10_readSuit_135 rfl rfl ?_
    obtain ⟨g48, h⟩ := gd_some h
    refine fw_getR C 10 1 (Nat.le_of_ble_eq_true rfl) (Nat.le_of_ble_eq_true rfl) wf_X10_13 rfl (gO_of g32) (gN_of g48) dX10_readSuit_136 ?_
    refine fw_iload C 0 dX10_readSuit_139 rfl ?_
    refine fw_iconst C 4 dX10_readSuit_141 rfl ?_
    refine fw_iadd C dX10_readSuit_142 ?_
    refine fw_iload C 3 dX10_readSuit_143 rfl ?_
    obtain ⟨g49, h⟩ := gd_some h
    refine fw_iast C (gA_of g49) dX10_readSuit_145 ?_
    refine fw_bm h (fun M50 h => ?_)
    refine fw_aload_n C 9 dX10_readSuit_146 rfl rfl ?_
    obtain ⟨g51, h⟩ := gd_some h
    refine fw_getR C 10 1 (Nat.le_of_ble_eq_true rfl) (Nat.le_of_ble_eq_true rfl) wf_X10_13 rfl (gO_of g32) (gN_of g51) dX10_readSuit_147 ?_
    refine fw_iload C 0 dX10_readSuit_150 rfl ?_
    refine fw_iconst C 5 dX10_readSuit_152 rfl ?_
    refine fw_iadd C dX10_readSuit_153 ?_
    refine fw_iload C 2 dX10_readSuit_154 rfl ?_
    obtain ⟨g52, h⟩ := gd_some h
    refine fw_iast C (gA_of g52) dX10_readSuit_156 ?_
    refine fw_bm h (fun M53 h => ?_)
    refine fw_aload_n C 9 dX10_readSuit_157 rfl rfl ?_
    obtain ⟨g54, h⟩ := gd_some h
    refine fw_getR C 10 1 (Nat.le_of_ble_eq_true rfl) (Nat.le_of_ble_eq_true rfl) wf_X10_13 rfl (gO_of g32) (gN_of g54) dX10_readSuit_158 ?_
    refine fw_iconst C 2 dX10_readSuit_161 rfl ?_
    refine fw_dup2 C dX10_readSuit_162 rfl rfl ?_
    obtain ⟨g55, h⟩ := gd_some h
    refine fw_iald C (gA_of g55) dX10_readSuit_163 ?_
    refine fw_iconst C 1 dX10_readSuit_164 rfl ?_
    refine fw_iadd C dX10_readSuit_165 ?_
    refine fw_iast C (gA_of g55) dX10_readSuit_166 ?_
    refine fw_bm h (fun M56 h => ?_)
    obtain rfl := Option.some.inj h
    exact fw_vret C hr hlk dX10_readSuit_167
  · replace h := (if_neg c39).symm.trans h
    obtain rfl := Option.some.inj h
    exact fw_vret C hr hlk dX10_readSuit_91
set_option maxRecDepth 100000 in
def f_X10_readSuit (S : List fw_Sh) (M : fw_Mem) (a0 : Nat) : Option fw_Mem := gd (gO S 10 a0) (gd (gN (M a0 1)) (gd (gA S 0 ((M a0 1).toNatClampNeg) 2) (if (M ((M a0 1).toNatClampNeg) 2) = 10 then (b1 (f_X10_wrong S M a0 4) (fun M30 => fj_X10_readSuit_16 S M30 a0)) else (b1 (f_X10_pass S M a0) (fun M5 => b2 (f_X10_readKnown S M5 a0 (-1)) (fun v6 M6 => b2 (f_X10_readKnown S M6 a0 v6) (fun v7 M7 => b2 (f_X10_number S M7 a0 0 9999) (fun v8 M8 => b2 (f_X10_readSet S M8 a0 1000007 2147483647) (fun v9 M9 => b2 (f_X10_readSet S M9 a0 1000018 2147483647) (fun v10 M10 => b2 (f_X10_readSet S M10 a0 1000003 ((2147483647 : Int32) &&& (v10 ^^^ (-1)))) (fun v11 M11 => if (M11 a0 21) = 0 then (gd (gN (M11 a0 1)) (gd (gA S 0 ((M11 a0 1).toNatClampNeg) 2) (bm (M11 ((M11 a0 1).toNatClampNeg) 2) (fun y15 => b1 (f_X10_lay S M11 a0 ((M11 a0 1).toNatClampNeg) y15 v6 v7 v8) (fun M16 => bm ((198 : Int32) + ((12 : Int32) * y15)) (fun y17 => gd (gN (M16 a0 1)) (gd (gA S 0 ((M16 a0 1).toNatClampNeg) (y17 + 3)) (bm (fw_set M16 ((M16 a0 1).toNatClampNeg) (y17 + 3).toNatClampNeg v9) (fun M20 => gd (gN (M20 a0 1)) (gd (gA S 0 ((M20 a0 1).toNatClampNeg) (y17 + 4)) (bm (fw_set M20 ((M20 a0 1).toNatClampNeg) (y17 + 4).toNatClampNeg v10) (fun M23 => gd (gN (M23 a0 1)) (gd (gA S 0 ((M23 a0 1).toNatClampNeg) (y17 + 5)) (bm (fw_set M23 ((M23 a0 1).toNatClampNeg) (y17 + 5).toNatClampNeg v11) (fun M26 => gd (gN (M26 a0 1)) (gd (gA S 0 ((M26 a0 1).toNatClampNeg) 2) (bm (fw_set M26 ((M26 a0 1).toNatClampNeg) 2 ((M26 ((M26 a0 1).toNatClampNeg) 2) + 1)) (fun M29 => some M29)))))))))))))))))) else (some M11))))))))))))
set_option maxHeartbeats 4000000 in
set_option maxRecDepth 100000 in
theorem c_X10_readSuit {l : Launch} {G : fw_G} {S : List fw_Sh} {M : fw_Mem} {a0 : Nat} {r : fw_Mem} (hl : l.stackTraces = false) (h : f_X10_readSuit S M a0 = some r) : fw_M l G yX10_readSuit (.code yX10_readSuit cX10_readSuit 10 none) 10 (fw_mcO (.inl none, S, r)) (fw_msO (.inl none, S, r)) S M [.ref a0] (.inl none, S, r) := by
  refine fw_of [(0, .ref a0)] (by decide) (Nat.le_of_ble_eq_true rfl) rfl ?_
  intro p e s m args below meth c C hr hlk hnm ht _
  unfold f_X10_readSuit at h
  refine fw_aload_n C 0 dX10_readSuit_0 rfl rfl ?_
  obtain ⟨g1, h⟩ := gd_some h
  obtain ⟨g2, h⟩ := gd_some h
  refine fw_getR C 10 1 (Nat.le_of_ble_eq_true rfl) (Nat.le_of_ble_eq_true rfl) wf_X10_13 rfl (gO_of g1) (gN_of g2) dX10_readSuit_1 ?_
  refine fw_iconst C 2 dX10_readSuit_4 rfl ?_
  obtain ⟨g3, h⟩ := gd_some h
  refine fw_iald C (gA_of g3) dX10_readSuit_5 ?_
  refine fw_bipush C 10 dX10_readSuit_6 rfl ?_
  refine fw_icmp_ne C 16 dX10_readSuit_8 (by decide) (fun c4 => ?_) (fun c4 => ?_)
  · replace h := (if_neg c4).symm.trans h
    refine fw_aload_n C 0 dX10_readSuit_16 rfl rfl ?_
    obtain ⟨M5, e5, h⟩ := b1_some h
    refine fw_callV (ci := 10) [] C (c_X10_pass hl e5) cal_X10_pass wm_X10_299 wi_yX10_pass wsl_yX10_pass (Nat.le_of_ble_eq_true rfl) rfl (gO_of g1) rfl (Nat.le_of_ble_eq_true rfl) ⟨Nat.le_of_ble_eq_true rfl, Nat.le_of_ble_eq_true rfl⟩ ⟨Nat.zero_le _, Nat.zero_le _⟩ dX10_readSuit_17 ?_
    refine fw_aload_n C 0 dX10_readSuit_20 rfl rfl ?_
    refine fw_iconst C (-1) dX10_readSuit_21 rfl ?_
    obtain ⟨v6, M6, e6, h⟩ := b2_some h
    refine fw_callV (ci := 10) [_] C (c_X10_readKnown hl e6) cal_X10_readKnown wm_X10_322 wi_yX10_readKnown wsl_yX10_readKnown (Nat.le_of_ble_eq_true rfl) rfl (gO_of g1) rfl (Nat.le_of_ble_eq_true rfl) ⟨Nat.le_of_ble_eq_true rfl, Nat.le_of_ble_eq_true rfl⟩ ⟨Nat.zero_le _, Nat.zero_le _⟩ dX10_readSuit_22 ?_
    refine fw_istore_n C [(1, _), (0, _)] dX10_readSuit_25 rfl (Nat.le_of_ble_eq_true rfl) rfl ?_
    refine fw_aload_n C 1 dX10_readSuit_26 rfl rfl ?_
    refine fw_iload_n C 0 dX10_readSuit_27 rfl rfl ?_
    obtain ⟨v7, M7, e7, h⟩ := b2_some h
    refine fw_callV (ci := 10) [_] C (c_X10_readKnown hl e7) cal_X10_readKnown wm_X10_322 wi_yX10_readKnown wsl_yX10_readKnown (Nat.le_of_ble_eq_true rfl) rfl (gO_of g1) rfl (Nat.le_of_ble_eq_true rfl) ⟨Nat.le_of_ble_eq_true rfl, Nat.le_of_ble_eq_true rfl⟩ ⟨Nat.zero_le _, Nat.zero_le _⟩ dX10_readSuit_28 ?_
    refine fw_istore_n C [(2, _), (1, _), (0, _)] dX10_readSuit_31 rfl (Nat.le_of_ble_eq_true rfl) rfl ?_
    refine fw_aload_n C 2 dX10_readSuit_32 rfl rfl ?_
    refine fw_iconst C 0 dX10_readSuit_33 rfl ?_
    refine fw_sipush C 9999 dX10_readSuit_34 rfl ?_
    obtain ⟨v8, M8, e8, h⟩ := b2_some h
    refine fw_callV (ci := 10) [_, _] C (c_X10_number hl e8) cal_X10_number wm_X10_325 wi_yX10_number wsl_yX10_number (Nat.le_of_ble_eq_true rfl) rfl (gO_of g1) rfl (Nat.le_of_ble_eq_true rfl) ⟨Nat.le_of_ble_eq_true rfl, Nat.le_of_ble_eq_true rfl⟩ ⟨Nat.zero_le _, Nat.zero_le _⟩ dX10_readSuit_37 ?_
    refine fw_istore_n C [(3, _), (2, _), (1, _), (0, _)] dX10_readSuit_40 rfl (Nat.le_of_ble_eq_true rfl) rfl ?_
    refine fw_ldcw C wk_X10_330 dX10_readSuit_41 ?_
    refine fw_istore C [(4, _), (3, _), (2, _), (1, _), (0, _)] dX10_readSuit_44 (Nat.le_of_ble_eq_true rfl) rfl ?_
    refine fw_aload_n C 4 dX10_readSuit_46 rfl rfl ?_
    refine fw_ldcSw C (i := 6) (List.mem_of_getElem? (i := 62) rfl) dX10_readSuit_47 ?_
    refine fw_iload C 0 dX10_readSuit_50 rfl ?_
    obtain ⟨v9, M9, e9, h⟩ := b2_some h
    refine fw_callV (ci := 10) [_, _] C (c_X10_readSet hl e9) cal_X10_readSet wm_X10_333 wi_yX10_readSet wsl_yX10_readSet (Nat.le_of_ble_eq_true rfl) rfl (gO_of g1) rfl (Nat.le_of_ble_eq_true rfl) ⟨Nat.le_of_ble_eq_true rfl, Nat.le_of_ble_eq_true rfl⟩ ⟨Nat.zero_le _, Nat.zero_le _⟩ dX10_readSuit_52 ?_
    refine fw_istore C [(5, _), (4, _), (3, _), (2, _), (1, _), (0, _)] dX10_readSuit_55 (Nat.le_of_ble_eq_true rfl) rfl ?_
    refine fw_aload_n C 5 dX10_readSuit_57 rfl rfl ?_
    refine fw_ldcSw C (i := 17) (List.mem_of_getElem? (i := 63) rfl) dX10_readSuit_58 ?_
    refine fw_iload C 1 dX10_readSuit_61 rfl ?_
    obtain ⟨v10, M10, e10, h⟩ := b2_some h
    refine fw_callV (ci := 10) [_, _] C (c_X10_readSet hl e10) cal_X10_readSet wm_X10_333 wi_yX10_readSet wsl_yX10_readSet (Nat.le_of_ble_eq_true rfl) rfl (gO_of g1) rfl (Nat.le_of_ble_eq_true rfl) ⟨Nat.le_of_ble_eq_true rfl, Nat.le_of_ble_eq_true rfl⟩ ⟨Nat.zero_le _, Nat.zero_le _⟩ dX10_readSuit_63 ?_
    refine fw_istore C [(6, _), (5, _), (4, _), (3, _), (2, _), (1, _), (0, _)] dX10_readSuit_66 (Nat.le_of_ble_eq_true rfl) rfl ?_
    refine fw_aload_n C 6 dX10_readSuit_68 rfl rfl ?_
    refine fw_ldcSw C (i := 2) (List.mem_of_getElem? (i := 64) rfl) dX10_readSuit_69 ?_
    refine fw_iload C 2 dX10_readSuit_72 rfl ?_
    refine fw_iload C 0 dX10_readSuit_74 rfl ?_
    refine fw_iconst C (-1) dX10_readSuit_76 rfl ?_
    refine fw_ixor C dX10_readSuit_77 ?_
    refine fw_iand C dX10_readSuit_78 ?_
    obtain ⟨v11, M11, e11, h⟩ := b2_some h
    refine fw_callV (ci := 10) [_, _] C (c_X10_readSet hl e11) cal_X10_readSet wm_X10_333 wi_yX10_readSet wsl_yX10_readSet (Nat.le_of_ble_eq_true rfl) rfl (gO_of g1) rfl (Nat.le_of_ble_eq_true rfl) ⟨Nat.le_of_ble_eq_true rfl, Nat.le_of_ble_eq_true rfl⟩ ⟨Nat.zero_le _, Nat.zero_le _⟩ dX10_readSuit_79 ?_
    refine fw_istore C [(7, _), (6, _), (5, _), (4, _), (3, _), (2, _), (1, _), (0, _)] dX10_readSuit_82 (Nat.le_of_ble_eq_true rfl) rfl ?_
    refine fw_aload_n C 7 dX10_readSuit_84 rfl rfl ?_
    refine fw_getI C 10 21 (Nat.le_of_ble_eq_true rfl) (Nat.le_of_ble_eq_true rfl) wf_X10_272 rfl (gO_of g1) dX10_readSuit_85 ?_
    refine fw_if_eq C 92 dX10_readSuit_88 (by decide) (fun c12 => ?_) (fun c12 => ?_)
    · replace h := (if_pos c12).symm.trans h
      refine fw_aload_n C 7 dX10_readSuit_92 rfl rfl ?_
      obtain ⟨g13, h⟩ := gd_some h
      refine fw_getR C 10 1 (Nat.le_of_ble_eq_true rfl) (Nat.le_of_ble_eq_true rfl) wf_X10_13 rfl (gO_of g1) (gN_of g13) dX10_readSuit_93 ?_
      refine fw_iconst C 2 dX10_readSuit_96 rfl ?_
      obtain ⟨g14, h⟩ := gd_some h
      refine fw_iald C (gA_of g14) dX10_readSuit_97 ?_
      refine fw_bi h (fun y15 h => ?_)
      refine fw_istore C [(8, _), (7, _), (6, _), (5, _), (4, _), (3, _), (2, _), (1, _), (0, _)] dX10_readSuit_98 (Nat.le_of_ble_eq_true rfl) rfl ?_
      refine fw_aload_n C 8 dX10_readSuit_100 rfl rfl ?_
      refine fw_aload_n C 8 dX10_readSuit_101 rfl rfl ?_
      refine fw_getR C 10 1 (Nat.le_of_ble_eq_true rfl) (Nat.le_of_ble_eq_true rfl) wf_X10_13 rfl (gO_of g1) (gN_of g13) dX10_readSuit_102 ?_
      refine fw_iload C 0 dX10_readSuit_105 rfl ?_
      refine fw_iload_n C 7 dX10_readSuit_107 rfl rfl ?_
      refine fw_iload_n C 6 dX10_readSuit_108 rfl rfl ?_
      refine fw_iload_n C 5 dX10_readSuit_109 rfl rfl ?_
      obtain ⟨M16, e16, h⟩ := b1_some h
      refine fw_callV (ci := 10) [_, _, _, _, _] C (c_X10_lay hl e16) cal_X10_lay wm_X10_212 wi_yX10_lay wsl_yX10_lay (Nat.le_of_ble_eq_true rfl) rfl (gO_of g1) rfl (Nat.le_of_ble_eq_true rfl) ⟨Nat.le_of_ble_eq_true rfl, Nat.le_of_ble_eq_true rfl⟩ ⟨Nat.zero_le _, Nat.zero_le _⟩ dX10_readSuit_110 ?_
      refine fw_sipush C 198 dX10_readSuit_113 rfl ?_
      refine fw_bipush C 12 dX10_readSuit_116 rfl ?_
      refine fw_iload C 0 dX10_readSuit_118 rfl ?_
      refine fw_imul C dX10_readSuit_120 ?_
      refine fw_iadd C dX10_readSuit_121 ?_
      refine fw_bi h (fun y17 h => ?_)
      refine fw_istore C [(9, _), (8, _), (7, _), (6, _), (5, _), (4, _), (3, _), (2, _), (1, _), (0, _)] dX10_readSuit_122 (Nat.le_of_ble_eq_true rfl) rfl ?_
      refine fw_aload_n C 9 dX10_readSuit_124 rfl rfl ?_
      obtain ⟨g18, h⟩ := gd_some h
      refine fw_getR C 10 1 (Nat.le_of_ble_eq_true rfl) (Nat.le_of_ble_eq_true rfl) wf_X10_13 rfl (gO_of g1) (gN_of g18) dX10_readSuit_125 ?_
      refine fw_iload C 0 dX10_readSuit_128 rfl ?_
      refine fw_iconst C 3 dX10_readSuit_130 rfl ?_
      refine fw_iadd C dX10_readSuit_131 ?_
      refine fw_iload C 4 dX10_readSuit_132 rfl ?_
      obtain ⟨g19, h⟩ := gd_some h
      refine fw_iast C (gA_of g19) dX10_readSuit_134 ?_
      refine fw_bm h (fun M20 h => ?_)
      refine fw_aload_n C 9 dX10_readSuit_135 rfl rfl ?_
      obtain ⟨g21, h⟩ := gd_some h
      refine fw_getR C 10 1 (Nat.le_of_ble_eq_true rfl) (Nat.le_of_ble_eq_true rfl) wf_X10_13 rfl (gO_of g1) (gN_of g21) dX10_readSuit_136 ?_
      refine fw_iload C 0 dX10_readSuit_139 rfl ?_
      refine fw_iconst C 4 dX10_readSuit_141 rfl ?_
      refine fw_iadd C dX10_readSuit_142 ?_
      refine fw_iload C 3 dX10_readSuit_143 rfl ?_
      obtain ⟨g22, h⟩ := gd_some h
      refine fw_iast C (gA_of g22) dX10_readSuit_145 ?_
      refine fw_bm h (fun M23 h => ?_)
      refine fw_aload_n C 9 dX10_readSuit_146 rfl rfl ?_
      obtain ⟨g24, h⟩ := gd_some h
      refine fw_getR C 10 1 (Nat.le_of_ble_eq_true rfl) (Nat.le_of_ble_eq_true rfl) wf_X10_13 rfl (gO_of g1) (gN_of g24) dX10_readSuit_147 ?_
      refine fw_iload C 0 dX10_readSuit_150 rfl ?_
      refine fw_iconst C 5 dX10_readSuit_152 rfl ?_
      refine fw_iadd C dX10_readSuit_153 ?_
      refine fw_iload C 2 dX10_readSuit_154 rfl ?_
      obtain ⟨g25, h⟩ := gd_some h
      refine fw_iast C (gA_of g25) dX10_readSuit_156 ?_
      refine fw_bm h (fun M26 h => ?_)
      refine fw_aload_n C 9 dX10_readSuit_157 rfl rfl ?_
      obtain ⟨g27, h⟩ := gd_some h
      refine fw_getR C 10 1 (Nat.le_of_ble_eq_true rfl) (Nat.le_of_ble_eq_true rfl) wf_X10_13 rfl (gO_of g1) (gN_of g27) dX10_readSuit_158 ?_
      refine fw_iconst C 2 dX10_readSuit_161 rfl ?_
      refine fw_dup2 C dX10_readSuit_162 rfl rfl ?_
      obtain ⟨g28, h⟩ := gd_some h
      refine fw_iald C (gA_of g28) dX10_readSuit_163 ?_
      refine fw_iconst C 1 dX10_readSuit_164 rfl ?_
      refine fw_iadd C dX10_readSuit_165 ?_
      refine fw_iast C (gA_of g28) dX10_readSuit_166 ?_
      refine fw_bm h (fun M29 h => ?_)
      obtain rfl := Option.some.inj h
      exact fw_vret C hr hlk dX10_readSuit_167
    · replace h := (if_neg c12).symm.trans h
      obtain rfl := Option.some.inj h
      exact fw_vret C hr hlk dX10_readSuit_91
  · replace h := (if_pos c4).symm.trans h
    refine fw_aload_n C 0 dX10_readSuit_11 rfl rfl ?_
    refine fw_iconst C 4 dX10_readSuit_12 rfl ?_
    obtain ⟨M30, e30, h⟩ := b1_some h
    refine fw_callV (ci := 10) [_] C (c_X10_wrong hl e30) cal_X10_wrong wm_X10_296 wi_yX10_wrong wsl_yX10_wrong (Nat.le_of_ble_eq_true rfl) rfl (gO_of g1) rfl (Nat.le_of_ble_eq_true rfl) ⟨Nat.le_of_ble_eq_true rfl, Nat.le_of_ble_eq_true rfl⟩ ⟨Nat.zero_le _, Nat.zero_le _⟩ dX10_readSuit_13 ?_
    exact jc_X10_readSuit_16 C hr hlk hl ht rfl h
set_option maxRecDepth 100000 in
def fj_X10_readJudged_215 (S : List fw_Sh) (M : fw_Mem) (a0 : Nat) (x5 : Int32) (x6 : Int32) (x7 : Int32) (x8 : Int32) (z0 : Int32) (z1 : Int32) (z2 : Nat) : Option fw_Mem := gd (gA S 0 z2 z1) (bm (fw_set M z2 z1.toNatClampNeg z0) (fun M28 => gd (gO S 10 a0) (gd (gN (M28 a0 1)) (gd (gA S 0 ((M28 a0 1).toNatClampNeg) (x8 + 9)) (bm (fw_set M28 ((M28 a0 1).toNatClampNeg) (x8 + 9).toNatClampNeg x5) (fun M32 => gd (gN (M32 a0 1)) (gd (gA S 0 ((M32 a0 1).toNatClampNeg) (x8 + 10)) (bm (fw_set M32 ((M32 a0 1).toNatClampNeg) (x8 + 10).toNatClampNeg x6) (fun M35 => gd (gN (M35 a0 1)) (gd (gA S 0 ((M35 a0 1).toNatClampNeg) (x8 + 11)) (bm (fw_set M35 ((M35 a0 1).toNatClampNeg) (x8 + 11).toNatClampNeg x7) (fun M38 => some M38))))))))))))
set_option maxHeartbeats 4000000 in
set_option maxRecDepth 100000 in
theorem jc_X10_readJudged_215 {G : fw_G} {p : Program} {l : Launch} {e : Env} {s : State} {m : MethodId} {args : Array Value} {below : List Frame} {meth : Method} {c : Code} {S : List fw_Sh} {M : fw_Mem} {a0 : Nat} {x5 : Int32} {x6 : Int32} {x7 : Int32} {x8 : Int32} {z0 : Int32} {z1 : Int32} {z2 : Nat} {r : fw_Mem} {o : fw_O} (C : fw_C G RX10 cX10_readJudged 9 p s m args c) (hr : meth.sig.returnType = none) (hlk : meth.locks = false) (hl : l.stackTraces = false) (ht : ∀ x ∈ c.exceptionTable.toList, False) (ho : o = (.inl none, S, r)) (h : fj_X10_readJudged_215 S M a0 x5 x6 x7 x8 z0 z1 z2 = some r) :
    fw_W G p l e (fw_rm 9 (fw_mcO o) (fw_msO o)) s m args below meth c 9 (fw_Z G below args s (fw_mcO o) (fw_msO o) o) 0 0 215 [(0, .ref a0), (5, .int x5), (6, .int x6), (7, .int x7), (8, .int x8)] [.int z0, .int z1, .ref z2] S M := by
  subst ho
  unfold fj_X10_readJudged_215 at h
  obtain ⟨g27, h⟩ := gd_some h
  refine fw_iast C (gA_of g27) dX10_readJudged_215 ?_
  refine fw_bm h (fun M28 h => ?_)
  refine fw_aload_n C 0 dX10_readJudged_216 rfl rfl ?_
  obtain ⟨g29, h⟩ := gd_some h
  obtain ⟨g30, h⟩ := gd_some h
  refine fw_getR C 10 1 (Nat.le_of_ble_eq_true rfl) (Nat.le_of_ble_eq_true rfl) wf_X10_13 rfl (gO_of g29) (gN_of g30) dX10_readJudged_217 ?_
  refine fw_iload C 4 dX10_readJudged_220 rfl ?_
  refine fw_bipush C 9 dX10_readJudged_222 rfl ?_
  refine fw_iadd C dX10_readJudged_224 ?_
  refine fw_iload C 1 dX10_readJudged_225 rfl ?_
  obtain ⟨g31, h⟩ := gd_some h
  refine fw_iast C (gA_of g31) dX10_readJudged_227 ?_
  refine fw_bm h (fun M32 h => ?_)
  refine fw_aload_n C 0 dX10_readJudged_228 rfl rfl ?_
  obtain ⟨g33, h⟩ := gd_some h
  refine fw_getR C 10 1 (Nat.le_of_ble_eq_true rfl) (Nat.le_of_ble_eq_true rfl) wf_X10_13 rfl (gO_of g29) (gN_of g33) dX10_readJudged_229 ?_
  refine fw_iload C 4 dX10_readJudged_232 rfl ?_
  refine fw_bipush C 10 dX10_readJudged_234 rfl ?_
  refine fw_iadd C dX10_readJudged_236 ?_
  refine fw_iload C 2 dX10_readJudged_237 rfl ?_
  obtain ⟨g34, h⟩ := gd_some h
  refine fw_iast C (gA_of g34) dX10_readJudged_239 ?_
  refine fw_bm h (fun M35 h => ?_)
  refine fw_aload_n C 0 dX10_readJudged_240 rfl rfl ?_
  obtain ⟨g36, h⟩ := gd_some h
  refine fw_getR C 10 1 (Nat.le_of_ble_eq_true rfl) (Nat.le_of_ble_eq_true rfl) wf_X10_13 rfl (gO_of g29) (gN_of g36) dX10_readJudged_241 ?_
  refine fw_iload C 4 dX10_readJudged_244 rfl ?_
  refine fw_bipush C 11 dX10_readJudged_246 rfl ?_
  refine fw_iadd C dX10_readJudged_248 ?_
  refine fw_iload C 3 dX10_readJudged_249 rfl ?_
  obtain ⟨g37, h⟩ := gd_some h
  refine fw_iast C (gA_of g37) dX10_readJudged_251 ?_
  refine fw_bm h (fun M38 h => ?_)
  obtain rfl := Option.some.inj h
  exact fw_vret C hr hlk dX10_readJudged_252
set_option maxRecDepth 100000 in
def fj_X10_readJudged_125 (S : List fw_Sh) (M : fw_Mem) (a0 : Nat) (x1 : Int32) (x2 : Int32) (x3 : Int32) (z0 : Int32) : Option fw_Mem := gd (gO S 10 a0) (b2 (f_X10_readSet S M a0 1000031 z0) (fun v16 M16 => b2 (f_X10_readSet S M16 a0 1000019 (z0 &&& (v16 ^^^ (-1)))) (fun v18 M18 => b2 (f_X10_readSet S M18 a0 1000029 (v16 ||| v18)) (fun v19 M19 => if (M19 a0 21) = 0 then (bm ((198 : Int32) + ((12 : Int32) * x1)) (fun y21 => gd (gN (M19 a0 1)) (gd (gA S 0 ((M19 a0 1).toNatClampNeg) (y21 + 6)) (bm (fw_set M19 ((M19 a0 1).toNatClampNeg) (y21 + 6).toNatClampNeg x2) (fun M24 => gd (gN (M24 a0 1)) (if x3 = 0 then fj_X10_readJudged_215 S M24 a0 v16 v18 v19 y21 0 (y21 + 7) ((M24 a0 1).toNatClampNeg) else fj_X10_readJudged_215 S M24 a0 v16 v18 v19 y21 1 (y21 + 7) ((M24 a0 1).toNatClampNeg))))))) else (some M19)))))
set_option maxHeartbeats 4000000 in
set_option maxRecDepth 100000 in
theorem jc_X10_readJudged_125 {G : fw_G} {p : Program} {l : Launch} {e : Env} {s : State} {m : MethodId} {args : Array Value} {below : List Frame} {meth : Method} {c : Code} {S : List fw_Sh} {M : fw_Mem} {a0 : Nat} {x1 : Int32} {x2 : Int32} {x3 : Int32} {z0 : Int32} {r : fw_Mem} {o : fw_O} (C : fw_C G RX10 cX10_readJudged 9 p s m args c) (hr : meth.sig.returnType = none) (hlk : meth.locks = false) (hl : l.stackTraces = false) (ht : ∀ x ∈ c.exceptionTable.toList, False) (ho : o = (.inl none, S, r)) (h : fj_X10_readJudged_125 S M a0 x1 x2 x3 z0 = some r) :
    fw_W G p l e (fw_rm 9 (fw_mcO o) (fw_msO o)) s m args below meth c 9 (fw_Z G below args s (fw_mcO o) (fw_msO o) o) 0 0 125 [(0, .ref a0), (1, .int x1), (2, .int x2), (3, .int x3)] [.int z0] S M := by
  subst ho
  unfold fj_X10_readJudged_125 at h
  refine fw_istore C [(4, _), (0, _), (1, _), (2, _), (3, _)] dX10_readJudged_125 (Nat.le_of_ble_eq_true rfl) rfl ?_
  refine fw_aload_n C 1 dX10_readJudged_127 rfl rfl ?_
  refine fw_ldcSw C (i := 30) (List.mem_of_getElem? (i := 68) rfl) dX10_readJudged_128 ?_
  refine fw_iload C 0 dX10_readJudged_131 rfl ?_
  obtain ⟨g17, h⟩ := gd_some h
  obtain ⟨v16, M16, e16, h⟩ := b2_some h
  refine fw_callV (ci := 10) [_, _] C (c_X10_readSet hl e16) cal_X10_readSet wm_X10_333 wi_yX10_readSet wsl_yX10_readSet (Nat.le_of_ble_eq_true rfl) rfl (gO_of g17) rfl (Nat.le_of_ble_eq_true rfl) ⟨Nat.le_of_ble_eq_true rfl, Nat.le_of_ble_eq_true rfl⟩ ⟨Nat.zero_le _, Nat.zero_le _⟩ dX10_readJudged_133 ?_
  refine fw_istore C [(5, _), (4, _), (0, _), (1, _), (2, _), (3, _)] dX10_readJudged_136 (Nat.le_of_ble_eq_true rfl) rfl ?_
  refine fw_aload_n C 2 dX10_readJudged_138 rfl rfl ?_
  refine fw_ldcSw C (i := 18) (List.mem_of_getElem? (i := 69) rfl) dX10_readJudged_139 ?_
  refine fw_iload C 1 dX10_readJudged_142 rfl ?_
  refine fw_iload C 0 dX10_readJudged_144 rfl ?_
  refine fw_iconst C (-1) dX10_readJudged_146 rfl ?_
  refine fw_ixor C dX10_readJudged_147 ?_
  refine fw_iand C dX10_readJudged_148 ?_
  obtain ⟨v18, M18, e18, h⟩ := b2_some h
  refine fw_callV (ci := 10) [_, _] C (c_X10_readSet hl e18) cal_X10_readSet wm_X10_333 wi_yX10_readSet wsl_yX10_readSet (Nat.le_of_ble_eq_true rfl) rfl (gO_of g17) rfl (Nat.le_of_ble_eq_true rfl) ⟨Nat.le_of_ble_eq_true rfl, Nat.le_of_ble_eq_true rfl⟩ ⟨Nat.zero_le _, Nat.zero_le _⟩ dX10_readJudged_149 ?_
  refine fw_istore C [(6, _), (5, _), (4, _), (0, _), (1, _), (2, _), (3, _)] dX10_readJudged_152 (Nat.le_of_ble_eq_true rfl) rfl ?_
  refine fw_aload_n C 3 dX10_readJudged_154 rfl rfl ?_
  refine fw_ldcSw C (i := 28) (List.mem_of_getElem? (i := 70) rfl) dX10_readJudged_155 ?_
  refine fw_iload C 1 dX10_readJudged_158 rfl ?_
  refine fw_iload C 0 dX10_readJudged_160 rfl ?_
  refine fw_ior C dX10_readJudged_162 ?_
  obtain ⟨v19, M19, e19, h⟩ := b2_some h
  refine fw_callV (ci := 10) [_, _] C (c_X10_readSet hl e19) cal_X10_readSet wm_X10_333 wi_yX10_readSet wsl_yX10_readSet (Nat.le_of_ble_eq_true rfl) rfl (gO_of g17) rfl (Nat.le_of_ble_eq_true rfl) ⟨Nat.le_of_ble_eq_true rfl, Nat.le_of_ble_eq_true rfl⟩ ⟨Nat.zero_le _, Nat.zero_le _⟩ dX10_readJudged_163 ?_
  refine fw_istore C [(7, _), (6, _), (5, _), (4, _), (0, _), (1, _), (2, _), (3, _)] dX10_readJudged_166 (Nat.le_of_ble_eq_true rfl) rfl ?_
  refine fw_aload_n C 4 dX10_readJudged_168 rfl rfl ?_
  refine fw_getI C 10 21 (Nat.le_of_ble_eq_true rfl) (Nat.le_of_ble_eq_true rfl) wf_X10_272 rfl (gO_of g17) dX10_readJudged_169 ?_
  refine fw_if_eq C 176 dX10_readJudged_172 (by decide) (fun c20 => ?_) (fun c20 => ?_)
  · replace h := (if_pos c20).symm.trans h
    refine fw_sipush C 198 dX10_readJudged_176 rfl ?_
    refine fw_bipush C 12 dX10_readJudged_179 rfl ?_
    refine fw_iload_n C 5 dX10_readJudged_181 rfl rfl ?_
    refine fw_imul C dX10_readJudged_182 ?_
    refine fw_iadd C dX10_readJudged_183 ?_
    refine fw_bi h (fun y21 h => ?_)
    refine fw_istore C [(8, _), (7, _), (6, _), (5, _), (4, _), (0, _), (1, _), (2, _), (3, _)] dX10_readJudged_184 (Nat.le_of_ble_eq_true rfl) rfl ?_
    refine fw_aload_n C 5 dX10_readJudged_186 rfl rfl ?_
    obtain ⟨g22, h⟩ := gd_some h
    refine fw_getR C 10 1 (Nat.le_of_ble_eq_true rfl) (Nat.le_of_ble_eq_true rfl) wf_X10_13 rfl (gO_of g17) (gN_of g22) dX10_readJudged_187 ?_
    refine fw_iload C 0 dX10_readJudged_190 rfl ?_
    refine fw_bipush C 6 dX10_readJudged_192 rfl ?_
    refine fw_iadd C dX10_readJudged_194 ?_
    refine fw_iload_n C 7 dX10_readJudged_195 rfl rfl ?_
    obtain ⟨g23, h⟩ := gd_some h
    refine fw_iast C (gA_of g23) dX10_readJudged_196 ?_
    refine fw_bm h (fun M24 h => ?_)
    refine fw_aload_n C 5 dX10_readJudged_197 rfl rfl ?_
    obtain ⟨g25, h⟩ := gd_some h
    refine fw_getR C 10 1 (Nat.le_of_ble_eq_true rfl) (Nat.le_of_ble_eq_true rfl) wf_X10_13 rfl (gO_of g17) (gN_of g25) dX10_readJudged_198 ?_
    refine fw_iload C 0 dX10_readJudged_201 rfl ?_
    refine fw_bipush C 7 dX10_readJudged_203 rfl ?_
    refine fw_iadd C dX10_readJudged_205 ?_
    refine fw_iload_n C 8 dX10_readJudged_206 rfl rfl ?_
    refine fw_if_eq C 214 dX10_readJudged_207 (by decide) (fun c26 => ?_) (fun c26 => ?_)
    · replace h := (if_pos c26).symm.trans h
      refine fw_iconst C 0 dX10_readJudged_214 rfl ?_
      refine fw_sub [5, 3, 2, 1, 0] rfl ?_
      exact jc_X10_readJudged_215 C hr hlk hl ht rfl h
    · replace h := (if_neg c26).symm.trans h
      refine fw_iconst C 1 dX10_readJudged_210 rfl ?_
      refine fw_goto C 215 dX10_readJudged_211 (by decide) ?_
      refine fw_sub [5, 3, 2, 1, 0] rfl ?_
      exact jc_X10_readJudged_215 C hr hlk hl ht rfl h
  · replace h := (if_neg c20).symm.trans h
    obtain rfl := Option.some.inj h
    exact fw_vret C hr hlk dX10_readJudged_175
set_option maxRecDepth 100000 in
def fj_X10_readJudged_97 (S : List fw_Sh) (M : fw_Mem) (a0 : Nat) (x1 : Int32) (x2 : Int32) (x3 : Int32) : Option fw_Mem := gd (gO S 10 a0) (b1 (f_X10_pass S M a0) (fun M48 => if (M48 a0 21) = 0 then (b1 (f_X10_toldOf S M48 a0 x1 4) (fun v51 => b1 (f_X10_toldOf S M48 a0 x1 5) (fun v52 => fj_X10_readJudged_125 S M48 a0 x1 x2 x3 (v51 ||| v52)))) else fj_X10_readJudged_125 S M48 a0 x1 x2 x3 0))
set_option maxHeartbeats 4000000 in
set_option maxRecDepth 100000 in
theorem jc_X10_readJudged_97 {G : fw_G} {p : Program} {l : Launch} {e : Env} {s : State} {m : MethodId} {args : Array Value} {below : List Frame} {meth : Method} {c : Code} {S : List fw_Sh} {M : fw_Mem} {a0 : Nat} {x1 : Int32} {x2 : Int32} {x3 : Int32} {r : fw_Mem} {o : fw_O} (C : fw_C G RX10 cX10_readJudged 9 p s m args c) (hr : meth.sig.returnType = none) (hlk : meth.locks = false) (hl : l.stackTraces = false) (ht : ∀ x ∈ c.exceptionTable.toList, False) (ho : o = (.inl none, S, r)) (h : fj_X10_readJudged_97 S M a0 x1 x2 x3 = some r) :
    fw_W G p l e (fw_rm 9 (fw_mcO o) (fw_msO o)) s m args below meth c 9 (fw_Z G below args s (fw_mcO o) (fw_msO o) o) 0 0 97 [(0, .ref a0), (1, .int x1), (2, .int x2), (3, .int x3)] [] S M := by
  subst ho
  unfold fj_X10_readJudged_97 at h
  refine fw_aload_n C 0 dX10_readJudged_97 rfl rfl ?_
  obtain ⟨g49, h⟩ := gd_some h
  obtain ⟨M48, e48, h⟩ := b1_some h
  refine fw_callV (ci := 10) [] C (c_X10_pass hl e48) cal_X10_pass wm_X10_299 wi_yX10_pass wsl_yX10_pass (Nat.le_of_ble_eq_true rfl) rfl (gO_of g49) rfl (Nat.le_of_ble_eq_true rfl) ⟨Nat.le_of_ble_eq_true rfl, Nat.le_of_ble_eq_true rfl⟩ ⟨Nat.zero_le _, Nat.zero_le _⟩ dX10_readJudged_98 ?_
  refine fw_aload_n C 0 dX10_readJudged_101 rfl rfl ?_
  refine fw_getI C 10 21 (Nat.le_of_ble_eq_true rfl) (Nat.le_of_ble_eq_true rfl) wf_X10_272 rfl (gO_of g49) dX10_readJudged_102 ?_
  refine fw_if_ne C 124 dX10_readJudged_105 (by decide) (fun c50 => ?_) (fun c50 => ?_)
  · replace h := (if_neg c50).symm.trans h
    refine fw_iconst C 0 dX10_readJudged_124 rfl ?_
    exact jc_X10_readJudged_125 C hr hlk hl ht rfl h
  · replace h := (if_pos c50).symm.trans h
    refine fw_aload_n C 0 dX10_readJudged_108 rfl rfl ?_
    refine fw_iload_n C 1 dX10_readJudged_109 rfl rfl ?_
    refine fw_iconst C 4 dX10_readJudged_110 rfl ?_
    obtain ⟨v51, e51, h⟩ := b1_some h
    refine fw_callV (ci := 10) [_, _] C (c_X10_toldOf hl e51) cal_X10_toldOf wm_X10_341 wi_yX10_toldOf wsl_yX10_toldOf (Nat.le_of_ble_eq_true rfl) rfl (gO_of g49) rfl (Nat.le_of_ble_eq_true rfl) ⟨Nat.le_of_ble_eq_true rfl, Nat.le_of_ble_eq_true rfl⟩ ⟨Nat.zero_le _, Nat.zero_le _⟩ dX10_readJudged_111 ?_
    refine fw_aload_n C 0 dX10_readJudged_114 rfl rfl ?_
    refine fw_iload_n C 1 dX10_readJudged_115 rfl rfl ?_
    refine fw_iconst C 5 dX10_readJudged_116 rfl ?_
    obtain ⟨v52, e52, h⟩ := b1_some h
    refine fw_callV (ci := 10) [_, _] C (c_X10_toldOf hl e52) cal_X10_toldOf wm_X10_341 wi_yX10_toldOf wsl_yX10_toldOf (Nat.le_of_ble_eq_true rfl) rfl (gO_of g49) rfl (Nat.le_of_ble_eq_true rfl) ⟨Nat.le_of_ble_eq_true rfl, Nat.le_of_ble_eq_true rfl⟩ ⟨Nat.zero_le _, Nat.zero_le _⟩ dX10_readJudged_117 ?_
    refine fw_ior C dX10_readJudged_120 ?_
    refine fw_goto C 125 dX10_readJudged_121 (by decide) ?_
    exact jc_X10_readJudged_125 C hr hlk hl ht rfl h
set_option maxRecDepth 100000 in
def fj_X10_readJudged_63 (S : List fw_Sh) (M : fw_Mem) (a0 : Nat) (x1 : Int32) (z0 : Int32) (z1 : Nat) : Option fw_Mem := gd (gO S 10 z1) (b2 (f_X10_number S M z1 z0 9999) (fun v9 M9 => gd (gO S 10 a0) (b1 (f_X10_isWord S M9 a0 1000016) (fun v11 => if v11 = 0 then (b1 (f_X10_isWord S M9 a0 1000011) (fun v41 => if v41 = 0 then (b1 (f_X10_wrong S M9 a0 1) (fun M47 => fj_X10_readJudged_97 S M47 a0 x1 v9 v11)) else (b1 (f_X10_pass S M9 a0) (fun M43 => if (M43 a0 21) = 0 then (b1 (f_X10_toldOf S M43 a0 x1 4) (fun v45 => b1 (f_X10_toldOf S M43 a0 x1 5) (fun v46 => fj_X10_readJudged_125 S M43 a0 x1 v9 v11 (v45 ||| v46)))) else fj_X10_readJudged_125 S M43 a0 x1 v9 v11 0)))) else (b1 (f_X10_pass S M9 a0) (fun M14 => if (M14 a0 21) = 0 then (b1 (f_X10_toldOf S M14 a0 x1 4) (fun v39 => b1 (f_X10_toldOf S M14 a0 x1 5) (fun v40 => fj_X10_readJudged_125 S M14 a0 x1 v9 v11 (v39 ||| v40)))) else fj_X10_readJudged_125 S M14 a0 x1 v9 v11 0))))))
set_option maxHeartbeats 4000000 in
set_option maxRecDepth 100000 in
theorem jc_X10_readJudged_63 {G : fw_G} {p : Program} {l : Launch} {e : Env} {s : State} {m : MethodId} {args : Array Value} {below : List Frame} {meth : Method} {c : Code} {S : List fw_Sh} {M : fw_Mem} {a0 : Nat} {x1 : Int32} {z0 : Int32} {z1 : Nat} {r : fw_Mem} {o : fw_O} (C : fw_C G RX10 cX10_readJudged 9 p s m args c) (hr : meth.sig.returnType = none) (hlk : meth.locks = false) (hl : l.stackTraces = false) (ht : ∀ x ∈ c.exceptionTable.toList, False) (ho : o = (.inl none, S, r)) (h : fj_X10_readJudged_63 S M a0 x1 z0 z1 = some r) :
    fw_W G p l e (fw_rm 9 (fw_mcO o) (fw_msO o)) s m args below meth c 9 (fw_Z G below args s (fw_mcO o) (fw_msO o) o) 0 0 63 [(0, .ref a0), (1, .int x1)] [.int z0, .ref z1] S M := by
  subst ho
  unfold fj_X10_readJudged_63 at h
  refine fw_sipush C 9999 dX10_readJudged_63 rfl ?_
  obtain ⟨g10, h⟩ := gd_some h
  obtain ⟨v9, M9, e9, h⟩ := b2_some h
  refine fw_callV (ci := 10) [_, _] C (c_X10_number hl e9) cal_X10_number wm_X10_325 wi_yX10_number wsl_yX10_number (Nat.le_of_ble_eq_true rfl) rfl (gO_of g10) rfl (Nat.le_of_ble_eq_true rfl) ⟨Nat.le_of_ble_eq_true rfl, Nat.le_of_ble_eq_true rfl⟩ ⟨Nat.zero_le _, Nat.zero_le _⟩ dX10_readJudged_66 ?_
  refine fw_istore_n C [(2, _), (0, _), (1, _)] dX10_readJudged_69 rfl (Nat.le_of_ble_eq_true rfl) rfl ?_
  refine fw_aload_n C 1 dX10_readJudged_70 rfl rfl ?_
  refine fw_ldcSw C (i := 15) (List.mem_of_getElem? (i := 66) rfl) dX10_readJudged_71 ?_
  obtain ⟨g12, h⟩ := gd_some h
  obtain ⟨v11, e11, h⟩ := b1_some h
  refine fw_callV (ci := 10) [_] C (c_X10_isWord hl e11) cal_X10_isWord wm_X10_308 wi_yX10_isWord wsl_yX10_isWord (Nat.le_of_ble_eq_true rfl) rfl (gO_of g12) rfl (Nat.le_of_ble_eq_true rfl) ⟨Nat.le_of_ble_eq_true rfl, Nat.le_of_ble_eq_true rfl⟩ ⟨Nat.zero_le _, Nat.zero_le _⟩ dX10_readJudged_74 ?_
  refine fw_istore_n C [(3, _), (2, _), (0, _), (1, _)] dX10_readJudged_77 rfl (Nat.le_of_ble_eq_true rfl) rfl ?_
  refine fw_iload_n C 0 dX10_readJudged_78 rfl rfl ?_
  refine fw_if_ne C 97 dX10_readJudged_79 (by decide) (fun c13 => ?_) (fun c13 => ?_)
  · replace h := (if_neg c13).symm.trans h
    refine fw_aload_n C 2 dX10_readJudged_97 rfl rfl ?_
    obtain ⟨M14, e14, h⟩ := b1_some h
    refine fw_callV (ci := 10) [] C (c_X10_pass hl e14) cal_X10_pass wm_X10_299 wi_yX10_pass wsl_yX10_pass (Nat.le_of_ble_eq_true rfl) rfl (gO_of g12) rfl (Nat.le_of_ble_eq_true rfl) ⟨Nat.le_of_ble_eq_true rfl, Nat.le_of_ble_eq_true rfl⟩ ⟨Nat.zero_le _, Nat.zero_le _⟩ dX10_readJudged_98 ?_
    refine fw_aload_n C 2 dX10_readJudged_101 rfl rfl ?_
    refine fw_getI C 10 21 (Nat.le_of_ble_eq_true rfl) (Nat.le_of_ble_eq_true rfl) wf_X10_272 rfl (gO_of g12) dX10_readJudged_102 ?_
    refine fw_if_ne C 124 dX10_readJudged_105 (by decide) (fun c15 => ?_) (fun c15 => ?_)
    · replace h := (if_neg c15).symm.trans h
      refine fw_iconst C 0 dX10_readJudged_124 rfl ?_
      refine fw_sub [2, 3, 1, 0] rfl ?_
      exact jc_X10_readJudged_125 C hr hlk hl ht rfl h
    · replace h := (if_pos c15).symm.trans h
      refine fw_aload_n C 2 dX10_readJudged_108 rfl rfl ?_
      refine fw_iload_n C 3 dX10_readJudged_109 rfl rfl ?_
      refine fw_iconst C 4 dX10_readJudged_110 rfl ?_
      obtain ⟨v39, e39, h⟩ := b1_some h
      refine fw_callV (ci := 10) [_, _] C (c_X10_toldOf hl e39) cal_X10_toldOf wm_X10_341 wi_yX10_toldOf wsl_yX10_toldOf (Nat.le_of_ble_eq_true rfl) rfl (gO_of g12) rfl (Nat.le_of_ble_eq_true rfl) ⟨Nat.le_of_ble_eq_true rfl, Nat.le_of_ble_eq_true rfl⟩ ⟨Nat.zero_le _, Nat.zero_le _⟩ dX10_readJudged_111 ?_
      refine fw_aload_n C 2 dX10_readJudged_114 rfl rfl ?_
      refine fw_iload_n C 3 dX10_readJudged_115 rfl rfl ?_
      refine fw_iconst C 5 dX10_readJudged_116 rfl ?_
      obtain ⟨v40, e40, h⟩ := b1_some h
      refine fw_callV (ci := 10) [_, _] C (c_X10_toldOf hl e40) cal_X10_toldOf wm_X10_341 wi_yX10_toldOf wsl_yX10_toldOf (Nat.le_of_ble_eq_true rfl) rfl (gO_of g12) rfl (Nat.le_of_ble_eq_true rfl) ⟨Nat.le_of_ble_eq_true rfl, Nat.le_of_ble_eq_true rfl⟩ ⟨Nat.zero_le _, Nat.zero_le _⟩ dX10_readJudged_117 ?_
      refine fw_ior C dX10_readJudged_120 ?_
      refine fw_goto C 125 dX10_readJudged_121 (by decide) ?_
      refine fw_sub [2, 3, 1, 0] rfl ?_
      exact jc_X10_readJudged_125 C hr hlk hl ht rfl h
  · replace h := (if_pos c13).symm.trans h
    refine fw_aload_n C 2 dX10_readJudged_82 rfl rfl ?_
    refine fw_ldcSw C (i := 10) (List.mem_of_getElem? (i := 67) rfl) dX10_readJudged_83 ?_
    obtain ⟨v41, e41, h⟩ := b1_some h
    refine fw_callV (ci := 10) [_] C (c_X10_isWord hl e41) cal_X10_isWord wm_X10_308 wi_yX10_isWord wsl_yX10_isWord (Nat.le_of_ble_eq_true rfl) rfl (gO_of g12) rfl (Nat.le_of_ble_eq_true rfl) ⟨Nat.le_of_ble_eq_true rfl, Nat.le_of_ble_eq_true rfl⟩ ⟨Nat.zero_le _, Nat.zero_le _⟩ dX10_readJudged_86 ?_
    refine fw_if_ne C 97 dX10_readJudged_89 (by decide) (fun c42 => ?_) (fun c42 => ?_)
    · replace h := (if_neg c42).symm.trans h
      refine fw_aload_n C 2 dX10_readJudged_97 rfl rfl ?_
      obtain ⟨M43, e43, h⟩ := b1_some h
      refine fw_callV (ci := 10) [] C (c_X10_pass hl e43) cal_X10_pass wm_X10_299 wi_yX10_pass wsl_yX10_pass (Nat.le_of_ble_eq_true rfl) rfl (gO_of g12) rfl (Nat.le_of_ble_eq_true rfl) ⟨Nat.le_of_ble_eq_true rfl, Nat.le_of_ble_eq_true rfl⟩ ⟨Nat.zero_le _, Nat.zero_le _⟩ dX10_readJudged_98 ?_
      refine fw_aload_n C 2 dX10_readJudged_101 rfl rfl ?_
      refine fw_getI C 10 21 (Nat.le_of_ble_eq_true rfl) (Nat.le_of_ble_eq_true rfl) wf_X10_272 rfl (gO_of g12) dX10_readJudged_102 ?_
      refine fw_if_ne C 124 dX10_readJudged_105 (by decide) (fun c44 => ?_) (fun c44 => ?_)
      · replace h := (if_neg c44).symm.trans h
        refine fw_iconst C 0 dX10_readJudged_124 rfl ?_
        refine fw_sub [2, 3, 1, 0] rfl ?_
        exact jc_X10_readJudged_125 C hr hlk hl ht rfl h
      · replace h := (if_pos c44).symm.trans h
        refine fw_aload_n C 2 dX10_readJudged_108 rfl rfl ?_
        refine fw_iload_n C 3 dX10_readJudged_109 rfl rfl ?_
        refine fw_iconst C 4 dX10_readJudged_110 rfl ?_
        obtain ⟨v45, e45, h⟩ := b1_some h
        refine fw_callV (ci := 10) [_, _] C (c_X10_toldOf hl e45) cal_X10_toldOf wm_X10_341 wi_yX10_toldOf wsl_yX10_toldOf (Nat.le_of_ble_eq_true rfl) rfl (gO_of g12) rfl (Nat.le_of_ble_eq_true rfl) ⟨Nat.le_of_ble_eq_true rfl, Nat.le_of_ble_eq_true rfl⟩ ⟨Nat.zero_le _, Nat.zero_le _⟩ dX10_readJudged_111 ?_
        refine fw_aload_n C 2 dX10_readJudged_114 rfl rfl ?_
        refine fw_iload_n C 3 dX10_readJudged_115 rfl rfl ?_
        refine fw_iconst C 5 dX10_readJudged_116 rfl ?_
        obtain ⟨v46, e46, h⟩ := b1_some h
        refine fw_callV (ci := 10) [_, _] C (c_X10_toldOf hl e46) cal_X10_toldOf wm_X10_341 wi_yX10_toldOf wsl_yX10_toldOf (Nat.le_of_ble_eq_true rfl) rfl (gO_of g12) rfl (Nat.le_of_ble_eq_true rfl) ⟨Nat.le_of_ble_eq_true rfl, Nat.le_of_ble_eq_true rfl⟩ ⟨Nat.zero_le _, Nat.zero_le _⟩ dX10_readJudged_117 ?_
        refine fw_ior C dX10_readJudged_120 ?_
        refine fw_goto C 125 dX10_readJudged_121 (by decide) ?_
        refine fw_sub [2, 3, 1, 0] rfl ?_
        exact jc_X10_readJudged_125 C hr hlk hl ht rfl h
    · replace h := (if_pos c42).symm.trans h
      refine fw_aload_n C 2 dX10_readJudged_92 rfl rfl ?_
      refine fw_iconst C 1 dX10_readJudged_93 rfl ?_
      obtain ⟨M47, e47, h⟩ := b1_some h
      refine fw_callV (ci := 10) [_] C (c_X10_wrong hl e47) cal_X10_wrong wm_X10_296 wi_yX10_wrong wsl_yX10_wrong (Nat.le_of_ble_eq_true rfl) rfl (gO_of g12) rfl (Nat.le_of_ble_eq_true rfl) ⟨Nat.le_of_ble_eq_true rfl, Nat.le_of_ble_eq_true rfl⟩ ⟨Nat.zero_le _, Nat.zero_le _⟩ dX10_readJudged_94 ?_
      refine fw_sub [2, 3, 1, 0] rfl ?_
      exact jc_X10_readJudged_97 C hr hlk hl ht rfl h
set_option maxRecDepth 100000 in
def fj_X10_readJudged_41 (S : List fw_Sh) (M : fw_Mem) (a0 : Nat) (x1 : Int32) : Option fw_Mem := gd (gO S 10 a0) (b1 (f_X10_pass S M a0) (fun M60 => if (M60 a0 21) = 0 then (b1 (f_X10_toldOf S M60 a0 x1 2) (fun v63 => fj_X10_readJudged_63 S M60 a0 x1 v63 a0)) else fj_X10_readJudged_63 S M60 a0 x1 0 a0))
set_option maxHeartbeats 4000000 in
set_option maxRecDepth 100000 in
theorem jc_X10_readJudged_41 {G : fw_G} {p : Program} {l : Launch} {e : Env} {s : State} {m : MethodId} {args : Array Value} {below : List Frame} {meth : Method} {c : Code} {S : List fw_Sh} {M : fw_Mem} {a0 : Nat} {x1 : Int32} {r : fw_Mem} {o : fw_O} (C : fw_C G RX10 cX10_readJudged 9 p s m args c) (hr : meth.sig.returnType = none) (hlk : meth.locks = false) (hl : l.stackTraces = false) (ht : ∀ x ∈ c.exceptionTable.toList, False) (ho : o = (.inl none, S, r)) (h : fj_X10_readJudged_41 S M a0 x1 = some r) :
    fw_W G p l e (fw_rm 9 (fw_mcO o) (fw_msO o)) s m args below meth c 9 (fw_Z G below args s (fw_mcO o) (fw_msO o) o) 0 0 41 [(0, .ref a0), (1, .int x1)] [] S M := by
  subst ho
  unfold fj_X10_readJudged_41 at h
  refine fw_aload_n C 0 dX10_readJudged_41 rfl rfl ?_
  obtain ⟨g61, h⟩ := gd_some h
  obtain ⟨M60, e60, h⟩ := b1_some h
  refine fw_callV (ci := 10) [] C (c_X10_pass hl e60) cal_X10_pass wm_X10_299 wi_yX10_pass wsl_yX10_pass (Nat.le_of_ble_eq_true rfl) rfl (gO_of g61) rfl (Nat.le_of_ble_eq_true rfl) ⟨Nat.le_of_ble_eq_true rfl, Nat.le_of_ble_eq_true rfl⟩ ⟨Nat.zero_le _, Nat.zero_le _⟩ dX10_readJudged_42 ?_
  refine fw_aload_n C 0 dX10_readJudged_45 rfl rfl ?_
  refine fw_aload_n C 0 dX10_readJudged_46 rfl rfl ?_
  refine fw_getI C 10 21 (Nat.le_of_ble_eq_true rfl) (Nat.le_of_ble_eq_true rfl) wf_X10_272 rfl (gO_of g61) dX10_readJudged_47 ?_
  refine fw_if_ne C 62 dX10_readJudged_50 (by decide) (fun c62 => ?_) (fun c62 => ?_)
  · replace h := (if_neg c62).symm.trans h
    refine fw_iconst C 0 dX10_readJudged_62 rfl ?_
    exact jc_X10_readJudged_63 C hr hlk hl ht rfl h
  · replace h := (if_pos c62).symm.trans h
    refine fw_aload_n C 0 dX10_readJudged_53 rfl rfl ?_
    refine fw_iload_n C 1 dX10_readJudged_54 rfl rfl ?_
    refine fw_iconst C 2 dX10_readJudged_55 rfl ?_
    obtain ⟨v63, e63, h⟩ := b1_some h
    refine fw_callV (ci := 10) [_, _] C (c_X10_toldOf hl e63) cal_X10_toldOf wm_X10_341 wi_yX10_toldOf wsl_yX10_toldOf (Nat.le_of_ble_eq_true rfl) rfl (gO_of g61) rfl (Nat.le_of_ble_eq_true rfl) ⟨Nat.le_of_ble_eq_true rfl, Nat.le_of_ble_eq_true rfl⟩ ⟨Nat.zero_le _, Nat.zero_le _⟩ dX10_readJudged_56 ?_
    refine fw_goto C 63 dX10_readJudged_59 (by decide) ?_
    exact jc_X10_readJudged_63 C hr hlk hl ht rfl h
set_option maxRecDepth 100000 in
def f_X10_readJudged (S : List fw_Sh) (M : fw_Mem) (a0 : Nat) : Option fw_Mem := gd (gO S 10 a0) (b1 (f_X10_pass S M a0) (fun M1 => gd (gN (M1 a0 1)) (gd (gA S 0 ((M1 a0 1).toNatClampNeg) 2) (b2 (f_X10_numberHere S M1 a0 0 ((M1 ((M1 a0 1).toNatClampNeg) 2) - 1)) (fun v5 M5 => if (M5 a0 21) = 0 then (b1 (f_X10_toldOf S M5 a0 v5 6) (fun v54 => if v54 = (-1) then (b1 (f_X10_pass S M5 a0) (fun M56 => if (M56 a0 21) = 0 then (b1 (f_X10_toldOf S M56 a0 v5 2) (fun v58 => fj_X10_readJudged_63 S M56 a0 v5 v58 a0)) else fj_X10_readJudged_63 S M56 a0 v5 0 a0)) else (b1 (f_X10_wrong S M5 a0 2) (fun M59 => fj_X10_readJudged_41 S M59 a0 v5)))) else (b1 (f_X10_pass S M5 a0) (fun M7 => if (M7 a0 21) = 0 then (b1 (f_X10_toldOf S M7 a0 v5 2) (fun v53 => fj_X10_readJudged_63 S M7 a0 v5 v53 a0)) else fj_X10_readJudged_63 S M7 a0 v5 0 a0)))))))
set_option maxHeartbeats 4000000 in
set_option maxRecDepth 100000 in
theorem c_X10_readJudged {l : Launch} {G : fw_G} {S : List fw_Sh} {M : fw_Mem} {a0 : Nat} {r : fw_Mem} (hl : l.stackTraces = false) (h : f_X10_readJudged S M a0 = some r) : fw_M l G yX10_readJudged (.code yX10_readJudged cX10_readJudged 9 none) 9 (fw_mcO (.inl none, S, r)) (fw_msO (.inl none, S, r)) S M [.ref a0] (.inl none, S, r) := by
  refine fw_of [(0, .ref a0)] (by decide) (Nat.le_of_ble_eq_true rfl) rfl ?_
  intro p e s m args below meth c C hr hlk hnm ht _
  unfold f_X10_readJudged at h
  refine fw_aload_n C 0 dX10_readJudged_0 rfl rfl ?_
  obtain ⟨g2, h⟩ := gd_some h
  obtain ⟨M1, e1, h⟩ := b1_some h
  refine fw_callV (ci := 10) [] C (c_X10_pass hl e1) cal_X10_pass wm_X10_299 wi_yX10_pass wsl_yX10_pass (Nat.le_of_ble_eq_true rfl) rfl (gO_of g2) rfl (Nat.le_of_ble_eq_true rfl) ⟨Nat.le_of_ble_eq_true rfl, Nat.le_of_ble_eq_true rfl⟩ ⟨Nat.zero_le _, Nat.zero_le _⟩ dX10_readJudged_1 ?_
  refine fw_aload_n C 0 dX10_readJudged_4 rfl rfl ?_
  refine fw_iconst C 0 dX10_readJudged_5 rfl ?_
  refine fw_aload_n C 0 dX10_readJudged_6 rfl rfl ?_
  obtain ⟨g3, h⟩ := gd_some h
  refine fw_getR C 10 1 (Nat.le_of_ble_eq_true rfl) (Nat.le_of_ble_eq_true rfl) wf_X10_13 rfl (gO_of g2) (gN_of g3) dX10_readJudged_7 ?_
  refine fw_iconst C 2 dX10_readJudged_10 rfl ?_
  obtain ⟨g4, h⟩ := gd_some h
  refine fw_iald C (gA_of g4) dX10_readJudged_11 ?_
  refine fw_iconst C 1 dX10_readJudged_12 rfl ?_
  refine fw_isub C dX10_readJudged_13 ?_
  obtain ⟨v5, M5, e5, h⟩ := b2_some h
  refine fw_callV (ci := 10) [_, _] C (c_X10_numberHere hl e5) cal_X10_numberHere wm_X10_303 wi_yX10_numberHere wsl_yX10_numberHere (Nat.le_of_ble_eq_true rfl) rfl (gO_of g2) rfl (Nat.le_of_ble_eq_true rfl) ⟨Nat.le_of_ble_eq_true rfl, Nat.le_of_ble_eq_true rfl⟩ ⟨Nat.zero_le _, Nat.zero_le _⟩ dX10_readJudged_14 ?_
  refine fw_istore_n C [(1, _), (0, _)] dX10_readJudged_17 rfl (Nat.le_of_ble_eq_true rfl) rfl ?_
  refine fw_aload_n C 1 dX10_readJudged_18 rfl rfl ?_
  refine fw_getI C 10 21 (Nat.le_of_ble_eq_true rfl) (Nat.le_of_ble_eq_true rfl) wf_X10_272 rfl (gO_of g2) dX10_readJudged_19 ?_
  refine fw_if_ne C 41 dX10_readJudged_22 (by decide) (fun c6 => ?_) (fun c6 => ?_)
  · replace h := (if_neg c6).symm.trans h
    refine fw_aload_n C 1 dX10_readJudged_41 rfl rfl ?_
    obtain ⟨M7, e7, h⟩ := b1_some h
    refine fw_callV (ci := 10) [] C (c_X10_pass hl e7) cal_X10_pass wm_X10_299 wi_yX10_pass wsl_yX10_pass (Nat.le_of_ble_eq_true rfl) rfl (gO_of g2) rfl (Nat.le_of_ble_eq_true rfl) ⟨Nat.le_of_ble_eq_true rfl, Nat.le_of_ble_eq_true rfl⟩ ⟨Nat.zero_le _, Nat.zero_le _⟩ dX10_readJudged_42 ?_
    refine fw_aload_n C 1 dX10_readJudged_45 rfl rfl ?_
    refine fw_aload_n C 1 dX10_readJudged_46 rfl rfl ?_
    refine fw_getI C 10 21 (Nat.le_of_ble_eq_true rfl) (Nat.le_of_ble_eq_true rfl) wf_X10_272 rfl (gO_of g2) dX10_readJudged_47 ?_
    refine fw_if_ne C 62 dX10_readJudged_50 (by decide) (fun c8 => ?_) (fun c8 => ?_)
    · replace h := (if_neg c8).symm.trans h
      refine fw_iconst C 0 dX10_readJudged_62 rfl ?_
      refine fw_sub [1, 0] rfl ?_
      exact jc_X10_readJudged_63 C hr hlk hl ht rfl h
    · replace h := (if_pos c8).symm.trans h
      refine fw_aload_n C 1 dX10_readJudged_53 rfl rfl ?_
      refine fw_iload_n C 0 dX10_readJudged_54 rfl rfl ?_
      refine fw_iconst C 2 dX10_readJudged_55 rfl ?_
      obtain ⟨v53, e53, h⟩ := b1_some h
      refine fw_callV (ci := 10) [_, _] C (c_X10_toldOf hl e53) cal_X10_toldOf wm_X10_341 wi_yX10_toldOf wsl_yX10_toldOf (Nat.le_of_ble_eq_true rfl) rfl (gO_of g2) rfl (Nat.le_of_ble_eq_true rfl) ⟨Nat.le_of_ble_eq_true rfl, Nat.le_of_ble_eq_true rfl⟩ ⟨Nat.zero_le _, Nat.zero_le _⟩ dX10_readJudged_56 ?_
      refine fw_goto C 63 dX10_readJudged_59 (by decide) ?_
      refine fw_sub [1, 0] rfl ?_
      exact jc_X10_readJudged_63 C hr hlk hl ht rfl h
  · replace h := (if_pos c6).symm.trans h
    refine fw_aload_n C 1 dX10_readJudged_25 rfl rfl ?_
    refine fw_iload_n C 0 dX10_readJudged_26 rfl rfl ?_
    refine fw_bipush C 6 dX10_readJudged_27 rfl ?_
    obtain ⟨v54, e54, h⟩ := b1_some h
    refine fw_callV (ci := 10) [_, _] C (c_X10_toldOf hl e54) cal_X10_toldOf wm_X10_341 wi_yX10_toldOf wsl_yX10_toldOf (Nat.le_of_ble_eq_true rfl) rfl (gO_of g2) rfl (Nat.le_of_ble_eq_true rfl) ⟨Nat.le_of_ble_eq_true rfl, Nat.le_of_ble_eq_true rfl⟩ ⟨Nat.zero_le _, Nat.zero_le _⟩ dX10_readJudged_29 ?_
    refine fw_iconst C (-1) dX10_readJudged_32 rfl ?_
    refine fw_icmp_eq C 41 dX10_readJudged_33 (by decide) (fun c55 => ?_) (fun c55 => ?_)
    · replace h := (if_pos c55).symm.trans h
      refine fw_aload_n C 1 dX10_readJudged_41 rfl rfl ?_
      obtain ⟨M56, e56, h⟩ := b1_some h
      refine fw_callV (ci := 10) [] C (c_X10_pass hl e56) cal_X10_pass wm_X10_299 wi_yX10_pass wsl_yX10_pass (Nat.le_of_ble_eq_true rfl) rfl (gO_of g2) rfl (Nat.le_of_ble_eq_true rfl) ⟨Nat.le_of_ble_eq_true rfl, Nat.le_of_ble_eq_true rfl⟩ ⟨Nat.zero_le _, Nat.zero_le _⟩ dX10_readJudged_42 ?_
      refine fw_aload_n C 1 dX10_readJudged_45 rfl rfl ?_
      refine fw_aload_n C 1 dX10_readJudged_46 rfl rfl ?_
      refine fw_getI C 10 21 (Nat.le_of_ble_eq_true rfl) (Nat.le_of_ble_eq_true rfl) wf_X10_272 rfl (gO_of g2) dX10_readJudged_47 ?_
      refine fw_if_ne C 62 dX10_readJudged_50 (by decide) (fun c57 => ?_) (fun c57 => ?_)
      · replace h := (if_neg c57).symm.trans h
        refine fw_iconst C 0 dX10_readJudged_62 rfl ?_
        refine fw_sub [1, 0] rfl ?_
        exact jc_X10_readJudged_63 C hr hlk hl ht rfl h
      · replace h := (if_pos c57).symm.trans h
        refine fw_aload_n C 1 dX10_readJudged_53 rfl rfl ?_
        refine fw_iload_n C 0 dX10_readJudged_54 rfl rfl ?_
        refine fw_iconst C 2 dX10_readJudged_55 rfl ?_
        obtain ⟨v58, e58, h⟩ := b1_some h
        refine fw_callV (ci := 10) [_, _] C (c_X10_toldOf hl e58) cal_X10_toldOf wm_X10_341 wi_yX10_toldOf wsl_yX10_toldOf (Nat.le_of_ble_eq_true rfl) rfl (gO_of g2) rfl (Nat.le_of_ble_eq_true rfl) ⟨Nat.le_of_ble_eq_true rfl, Nat.le_of_ble_eq_true rfl⟩ ⟨Nat.zero_le _, Nat.zero_le _⟩ dX10_readJudged_56 ?_
        refine fw_goto C 63 dX10_readJudged_59 (by decide) ?_
        refine fw_sub [1, 0] rfl ?_
        exact jc_X10_readJudged_63 C hr hlk hl ht rfl h
    · replace h := (if_neg c55).symm.trans h
      refine fw_aload_n C 1 dX10_readJudged_36 rfl rfl ?_
      refine fw_iconst C 2 dX10_readJudged_37 rfl ?_
      obtain ⟨M59, e59, h⟩ := b1_some h
      refine fw_callV (ci := 10) [_] C (c_X10_wrong hl e59) cal_X10_wrong wm_X10_296 wi_yX10_wrong wsl_yX10_wrong (Nat.le_of_ble_eq_true rfl) rfl (gO_of g2) rfl (Nat.le_of_ble_eq_true rfl) ⟨Nat.le_of_ble_eq_true rfl, Nat.le_of_ble_eq_true rfl⟩ ⟨Nat.zero_le _, Nat.zero_le _⟩ dX10_readJudged_38 ?_
      refine fw_sub [1, 0] rfl ?_
      exact jc_X10_readJudged_41 C hr hlk hl ht rfl h
set_option maxRecDepth 100000 in
def fj_X10_readReversed_52 (S : List fw_Sh) (M : fw_Mem) (a0 : Nat) (x1 : Int32) : Option fw_Mem := gd (gO S 10 a0) (b1 (f_X10_pass S M a0) (fun M15 => if (M15 a0 21) = 0 then (gd (gN (M15 a0 1)) (gd (gA S 0 ((M15 a0 1).toNatClampNeg) (((198 : Int32) + ((12 : Int32) * x1)) + 8)) (bm (fw_set M15 ((M15 a0 1).toNatClampNeg) (((198 : Int32) + ((12 : Int32) * x1)) + 8).toNatClampNeg 1) (fun M20 => some M20)))) else (some M15)))
set_option maxHeartbeats 4000000 in
set_option maxRecDepth 100000 in
theorem jc_X10_readReversed_52 {G : fw_G} {p : Program} {l : Launch} {e : Env} {s : State} {m : MethodId} {args : Array Value} {below : List Frame} {meth : Method} {c : Code} {S : List fw_Sh} {M : fw_Mem} {a0 : Nat} {x1 : Int32} {r : fw_Mem} {o : fw_O} (C : fw_C G RX10 cX10_readReversed 2 p s m args c) (hr : meth.sig.returnType = none) (hlk : meth.locks = false) (hl : l.stackTraces = false) (ht : ∀ x ∈ c.exceptionTable.toList, False) (ho : o = (.inl none, S, r)) (h : fj_X10_readReversed_52 S M a0 x1 = some r) :
    fw_W G p l e (fw_rm 4 (fw_mcO o) (fw_msO o)) s m args below meth c 2 (fw_Z G below args s (fw_mcO o) (fw_msO o) o) 0 0 52 [(0, .ref a0), (1, .int x1)] [] S M := by
  subst ho
  unfold fj_X10_readReversed_52 at h
  refine fw_aload_n C 0 dX10_readReversed_52 rfl rfl ?_
  obtain ⟨g16, h⟩ := gd_some h
  obtain ⟨M15, e15, h⟩ := b1_some h
  refine fw_callV (ci := 10) [] C (c_X10_pass hl e15) cal_X10_pass wm_X10_299 wi_yX10_pass wsl_yX10_pass (Nat.le_of_ble_eq_true rfl) rfl (gO_of g16) rfl (Nat.le_of_ble_eq_true rfl) ⟨Nat.le_of_ble_eq_true rfl, Nat.le_of_ble_eq_true rfl⟩ ⟨Nat.zero_le _, Nat.zero_le _⟩ dX10_readReversed_53 ?_
  refine fw_aload_n C 0 dX10_readReversed_56 rfl rfl ?_
  refine fw_getI C 10 21 (Nat.le_of_ble_eq_true rfl) (Nat.le_of_ble_eq_true rfl) wf_X10_272 rfl (gO_of g16) dX10_readReversed_57 ?_
  refine fw_if_ne C 80 dX10_readReversed_60 (by decide) (fun c17 => ?_) (fun c17 => ?_)
  · replace h := (if_neg c17).symm.trans h
    obtain rfl := Option.some.inj h
    exact fw_vret C hr hlk dX10_readReversed_80
  · replace h := (if_pos c17).symm.trans h
    refine fw_aload_n C 0 dX10_readReversed_63 rfl rfl ?_
    obtain ⟨g18, h⟩ := gd_some h
    refine fw_getR C 10 1 (Nat.le_of_ble_eq_true rfl) (Nat.le_of_ble_eq_true rfl) wf_X10_13 rfl (gO_of g16) (gN_of g18) dX10_readReversed_64 ?_
    refine fw_sipush C 198 dX10_readReversed_67 rfl ?_
    refine fw_bipush C 12 dX10_readReversed_70 rfl ?_
    refine fw_iload_n C 1 dX10_readReversed_72 rfl rfl ?_
    refine fw_imul C dX10_readReversed_73 ?_
    refine fw_iadd C dX10_readReversed_74 ?_
    refine fw_bipush C 8 dX10_readReversed_75 rfl ?_
    refine fw_iadd C dX10_readReversed_77 ?_
    refine fw_iconst C 1 dX10_readReversed_78 rfl ?_
    obtain ⟨g19, h⟩ := gd_some h
    refine fw_iast C (gA_of g19) dX10_readReversed_79 ?_
    refine fw_bm h (fun M20 h => ?_)
    obtain rfl := Option.some.inj h
    exact fw_vret C hr hlk dX10_readReversed_80
set_option maxRecDepth 100000 in
def f_X10_readReversed (S : List fw_Sh) (M : fw_Mem) (a0 : Nat) : Option fw_Mem := gd (gO S 10 a0) (b1 (f_X10_pass S M a0) (fun M1 => gd (gN (M1 a0 1)) (gd (gA S 0 ((M1 a0 1).toNatClampNeg) 2) (b2 (f_X10_numberHere S M1 a0 0 ((M1 ((M1 a0 1).toNatClampNeg) 2) - 1)) (fun v5 M5 => if (M5 a0 21) = 0 then (b1 (f_X10_toldOf S M5 a0 v5 6) (fun v12 => if v12 = (-1) then (b1 (f_X10_wrong S M5 a0 2) (fun M14 => fj_X10_readReversed_52 S M14 a0 v5)) else (b1 (f_X10_toldOf S M5 a0 v5 8) (fun v21 => if v21 = 1 then (b1 (f_X10_wrong S M5 a0 2) (fun M28 => fj_X10_readReversed_52 S M28 a0 v5)) else (b1 (f_X10_pass S M5 a0) (fun M23 => if (M23 a0 21) = 0 then (gd (gN (M23 a0 1)) (gd (gA S 0 ((M23 a0 1).toNatClampNeg) (((198 : Int32) + ((12 : Int32) * v5)) + 8)) (bm (fw_set M23 ((M23 a0 1).toNatClampNeg) (((198 : Int32) + ((12 : Int32) * v5)) + 8).toNatClampNeg 1) (fun M27 => some M27)))) else (some M23))))))) else (b1 (f_X10_pass S M5 a0) (fun M7 => if (M7 a0 21) = 0 then (gd (gN (M7 a0 1)) (gd (gA S 0 ((M7 a0 1).toNatClampNeg) (((198 : Int32) + ((12 : Int32) * v5)) + 8)) (bm (fw_set M7 ((M7 a0 1).toNatClampNeg) (((198 : Int32) + ((12 : Int32) * v5)) + 8).toNatClampNeg 1) (fun M11 => some M11)))) else (some M7))))))))
set_option maxHeartbeats 4000000 in
set_option maxRecDepth 100000 in
theorem c_X10_readReversed {l : Launch} {G : fw_G} {S : List fw_Sh} {M : fw_Mem} {a0 : Nat} {r : fw_Mem} (hl : l.stackTraces = false) (h : f_X10_readReversed S M a0 = some r) : fw_M l G yX10_readReversed (.code yX10_readReversed cX10_readReversed 2 none) 4 (fw_mcO (.inl none, S, r)) (fw_msO (.inl none, S, r)) S M [.ref a0] (.inl none, S, r) := by
  refine fw_of [(0, .ref a0)] (by decide) (Nat.le_of_ble_eq_true rfl) rfl ?_
  intro p e s m args below meth c C hr hlk hnm ht _
  unfold f_X10_readReversed at h
  refine fw_aload_n C 0 dX10_readReversed_0 rfl rfl ?_
  obtain ⟨g2, h⟩ := gd_some h
  obtain ⟨M1, e1, h⟩ := b1_some h
  refine fw_callV (ci := 10) [] C (c_X10_pass hl e1) cal_X10_pass wm_X10_299 wi_yX10_pass wsl_yX10_pass (Nat.le_of_ble_eq_true rfl) rfl (gO_of g2) rfl (Nat.le_of_ble_eq_true rfl) ⟨Nat.le_of_ble_eq_true rfl, Nat.le_of_ble_eq_true rfl⟩ ⟨Nat.zero_le _, Nat.zero_le _⟩ dX10_readReversed_1 ?_
  refine fw_aload_n C 0 dX10_readReversed_4 rfl rfl ?_
  refine fw_iconst C 0 dX10_readReversed_5 rfl ?_
  refine fw_aload_n C 0 dX10_readReversed_6 rfl rfl ?_
  obtain ⟨g3, h⟩ := gd_some h
  refine fw_getR C 10 1 (Nat.le_of_ble_eq_true rfl) (Nat.le_of_ble_eq_true rfl) wf_X10_13 rfl (gO_of g2) (gN_of g3) dX10_readReversed_7 ?_
  refine fw_iconst C 2 dX10_readReversed_10 rfl ?_
  obtain ⟨g4, h⟩ := gd_some h
  refine fw_iald C (gA_of g4) dX10_readReversed_11 ?_
  refine fw_iconst C 1 dX10_readReversed_12 rfl ?_
  refine fw_isub C dX10_readReversed_13 ?_
  obtain ⟨v5, M5, e5, h⟩ := b2_some h
  refine fw_callV (ci := 10) [_, _] C (c_X10_numberHere hl e5) cal_X10_numberHere wm_X10_303 wi_yX10_numberHere wsl_yX10_numberHere (Nat.le_of_ble_eq_true rfl) rfl (gO_of g2) rfl (Nat.le_of_ble_eq_true rfl) ⟨Nat.le_of_ble_eq_true rfl, Nat.le_of_ble_eq_true rfl⟩ ⟨Nat.zero_le _, Nat.zero_le _⟩ dX10_readReversed_14 ?_
  refine fw_istore_n C [(1, _), (0, _)] dX10_readReversed_17 rfl (Nat.le_of_ble_eq_true rfl) rfl ?_
  refine fw_aload_n C 1 dX10_readReversed_18 rfl rfl ?_
  refine fw_getI C 10 21 (Nat.le_of_ble_eq_true rfl) (Nat.le_of_ble_eq_true rfl) wf_X10_272 rfl (gO_of g2) dX10_readReversed_19 ?_
  refine fw_if_ne C 52 dX10_readReversed_22 (by decide) (fun c6 => ?_) (fun c6 => ?_)
  · replace h := (if_neg c6).symm.trans h
    refine fw_aload_n C 1 dX10_readReversed_52 rfl rfl ?_
    obtain ⟨M7, e7, h⟩ := b1_some h
    refine fw_callV (ci := 10) [] C (c_X10_pass hl e7) cal_X10_pass wm_X10_299 wi_yX10_pass wsl_yX10_pass (Nat.le_of_ble_eq_true rfl) rfl (gO_of g2) rfl (Nat.le_of_ble_eq_true rfl) ⟨Nat.le_of_ble_eq_true rfl, Nat.le_of_ble_eq_true rfl⟩ ⟨Nat.zero_le _, Nat.zero_le _⟩ dX10_readReversed_53 ?_
    refine fw_aload_n C 1 dX10_readReversed_56 rfl rfl ?_
    refine fw_getI C 10 21 (Nat.le_of_ble_eq_true rfl) (Nat.le_of_ble_eq_true rfl) wf_X10_272 rfl (gO_of g2) dX10_readReversed_57 ?_
    refine fw_if_ne C 80 dX10_readReversed_60 (by decide) (fun c8 => ?_) (fun c8 => ?_)
    · replace h := (if_neg c8).symm.trans h
      obtain rfl := Option.some.inj h
      exact fw_vret C hr hlk dX10_readReversed_80
    · replace h := (if_pos c8).symm.trans h
      refine fw_aload_n C 1 dX10_readReversed_63 rfl rfl ?_
      obtain ⟨g9, h⟩ := gd_some h
      refine fw_getR C 10 1 (Nat.le_of_ble_eq_true rfl) (Nat.le_of_ble_eq_true rfl) wf_X10_13 rfl (gO_of g2) (gN_of g9) dX10_readReversed_64 ?_
      refine fw_sipush C 198 dX10_readReversed_67 rfl ?_
      refine fw_bipush C 12 dX10_readReversed_70 rfl ?_
      refine fw_iload_n C 0 dX10_readReversed_72 rfl rfl ?_
      refine fw_imul C dX10_readReversed_73 ?_
      refine fw_iadd C dX10_readReversed_74 ?_
      refine fw_bipush C 8 dX10_readReversed_75 rfl ?_
      refine fw_iadd C dX10_readReversed_77 ?_
      refine fw_iconst C 1 dX10_readReversed_78 rfl ?_
      obtain ⟨g10, h⟩ := gd_some h
      refine fw_iast C (gA_of g10) dX10_readReversed_79 ?_
      refine fw_bm h (fun M11 h => ?_)
      obtain rfl := Option.some.inj h
      exact fw_vret C hr hlk dX10_readReversed_80
  · replace h := (if_pos c6).symm.trans h
    refine fw_aload_n C 1 dX10_readReversed_25 rfl rfl ?_
    refine fw_iload_n C 0 dX10_readReversed_26 rfl rfl ?_
    refine fw_bipush C 6 dX10_readReversed_27 rfl ?_
    obtain ⟨v12, e12, h⟩ := b1_some h
    refine fw_callV (ci := 10) [_, _] C (c_X10_toldOf hl e12) cal_X10_toldOf wm_X10_341 wi_yX10_toldOf wsl_yX10_toldOf (Nat.le_of_ble_eq_true rfl) rfl (gO_of g2) rfl (Nat.le_of_ble_eq_true rfl) ⟨Nat.le_of_ble_eq_true rfl, Nat.le_of_ble_eq_true rfl⟩ ⟨Nat.zero_le _, Nat.zero_le _⟩ dX10_readReversed_29 ?_
    refine fw_iconst C (-1) dX10_readReversed_32 rfl ?_
    refine fw_icmp_eq C 47 dX10_readReversed_33 (by decide) (fun c13 => ?_) (fun c13 => ?_)
    · replace h := (if_pos c13).symm.trans h
      refine fw_aload_n C 1 dX10_readReversed_47 rfl rfl ?_
      refine fw_iconst C 2 dX10_readReversed_48 rfl ?_
      obtain ⟨M14, e14, h⟩ := b1_some h
      refine fw_callV (ci := 10) [_] C (c_X10_wrong hl e14) cal_X10_wrong wm_X10_296 wi_yX10_wrong wsl_yX10_wrong (Nat.le_of_ble_eq_true rfl) rfl (gO_of g2) rfl (Nat.le_of_ble_eq_true rfl) ⟨Nat.le_of_ble_eq_true rfl, Nat.le_of_ble_eq_true rfl⟩ ⟨Nat.zero_le _, Nat.zero_le _⟩ dX10_readReversed_49 ?_
      refine fw_sub [1, 0] rfl ?_
      exact jc_X10_readReversed_52 C hr hlk hl ht rfl h
    · replace h := (if_neg c13).symm.trans h
      refine fw_aload_n C 1 dX10_readReversed_36 rfl rfl ?_
      refine fw_iload_n C 0 dX10_readReversed_37 rfl rfl ?_
      refine fw_bipush C 8 dX10_readReversed_38 rfl ?_
      obtain ⟨v21, e21, h⟩ := b1_some h
      refine fw_callV (ci := 10) [_, _] C (c_X10_toldOf hl e21) cal_X10_toldOf wm_X10_341 wi_yX10_toldOf wsl_yX10_toldOf (Nat.le_of_ble_eq_true rfl) rfl (gO_of g2) rfl (Nat.le_of_ble_eq_true rfl) ⟨Nat.le_of_ble_eq_true rfl, Nat.le_of_ble_eq_true rfl⟩ ⟨Nat.zero_le _, Nat.zero_le _⟩ dX10_readReversed_40 ?_
      refine fw_iconst C 1 dX10_readReversed_43 rfl ?_
      refine fw_icmp_ne C 52 dX10_readReversed_44 (by decide) (fun c22 => ?_) (fun c22 => ?_)
      · replace h := (if_neg c22).symm.trans h
        refine fw_aload_n C 1 dX10_readReversed_52 rfl rfl ?_
        obtain ⟨M23, e23, h⟩ := b1_some h
        refine fw_callV (ci := 10) [] C (c_X10_pass hl e23) cal_X10_pass wm_X10_299 wi_yX10_pass wsl_yX10_pass (Nat.le_of_ble_eq_true rfl) rfl (gO_of g2) rfl (Nat.le_of_ble_eq_true rfl) ⟨Nat.le_of_ble_eq_true rfl, Nat.le_of_ble_eq_true rfl⟩ ⟨Nat.zero_le _, Nat.zero_le _⟩ dX10_readReversed_53 ?_
        refine fw_aload_n C 1 dX10_readReversed_56 rfl rfl ?_
        refine fw_getI C 10 21 (Nat.le_of_ble_eq_true rfl) (Nat.le_of_ble_eq_true rfl) wf_X10_272 rfl (gO_of g2) dX10_readReversed_57 ?_
        refine fw_if_ne C 80 dX10_readReversed_60 (by decide) (fun c24 => ?_) (fun c24 => ?_)
        · replace h := (if_neg c24).symm.trans h
          obtain rfl := Option.some.inj h
          exact fw_vret C hr hlk dX10_readReversed_80
        · replace h := (if_pos c24).symm.trans h
          refine fw_aload_n C 1 dX10_readReversed_63 rfl rfl ?_
          obtain ⟨g25, h⟩ := gd_some h
          refine fw_getR C 10 1 (Nat.le_of_ble_eq_true rfl) (Nat.le_of_ble_eq_true rfl) wf_X10_13 rfl (gO_of g2) (gN_of g25) dX10_readReversed_64 ?_
          refine fw_sipush C 198 dX10_readReversed_67 rfl ?_
          refine fw_bipush C 12 dX10_readReversed_70 rfl ?_
          refine fw_iload_n C 0 dX10_readReversed_72 rfl rfl ?_
          refine fw_imul C dX10_readReversed_73 ?_
          refine fw_iadd C dX10_readReversed_74 ?_
          refine fw_bipush C 8 dX10_readReversed_75 rfl ?_
          refine fw_iadd C dX10_readReversed_77 ?_
          refine fw_iconst C 1 dX10_readReversed_78 rfl ?_
          obtain ⟨g26, h⟩ := gd_some h
          refine fw_iast C (gA_of g26) dX10_readReversed_79 ?_
          refine fw_bm h (fun M27 h => ?_)
          obtain rfl := Option.some.inj h
          exact fw_vret C hr hlk dX10_readReversed_80
      · replace h := (if_pos c22).symm.trans h
        refine fw_aload_n C 1 dX10_readReversed_47 rfl rfl ?_
        refine fw_iconst C 2 dX10_readReversed_48 rfl ?_
        obtain ⟨M28, e28, h⟩ := b1_some h
        refine fw_callV (ci := 10) [_] C (c_X10_wrong hl e28) cal_X10_wrong wm_X10_296 wi_yX10_wrong wsl_yX10_wrong (Nat.le_of_ble_eq_true rfl) rfl (gO_of g2) rfl (Nat.le_of_ble_eq_true rfl) ⟨Nat.le_of_ble_eq_true rfl, Nat.le_of_ble_eq_true rfl⟩ ⟨Nat.zero_le _, Nat.zero_le _⟩ dX10_readReversed_49 ?_
        refine fw_sub [1, 0] rfl ?_
        exact jc_X10_readReversed_52 C hr hlk hl ht rfl h
set_option maxRecDepth 100000 in
def f_X10_readRule (S : List fw_Sh) (M : fw_Mem) (a0 : Nat) (x1 : Int32) (x2 : Int32) (x3 : Int32) : Option fw_Mem := gd (gO S 10 a0) (b1 (f_X10_pass S M a0) (fun M1 => gd (gN (M1 a0 1)) (b2 (f_X10_number S M1 a0 x2 x3) (fun v4 M4 => gd (gA S 0 ((M1 a0 1).toNatClampNeg) ((3 : Int32) + x1)) (bm (fw_set M4 ((M1 a0 1).toNatClampNeg) ((3 : Int32) + x1).toNatClampNeg v4) (fun M6 => some M6))))))
set_option maxHeartbeats 4000000 in
set_option maxRecDepth 100000 in
theorem c_X10_readRule {l : Launch} {G : fw_G} {S : List fw_Sh} {M : fw_Mem} {a0 : Nat} {x1 : Int32} {x2 : Int32} {x3 : Int32} {r : fw_Mem} (hl : l.stackTraces = false) (h : f_X10_readRule S M a0 x1 x2 x3 = some r) : fw_M l G yX10_readRule (.code yX10_readRule cX10_readRule 4 none) 5 (fw_mcO (.inl none, S, r)) (fw_msO (.inl none, S, r)) S M [.ref a0, .int x1, .int x2, .int x3] (.inl none, S, r) := by
  refine fw_of [(0, .ref a0), (1, .int x1), (2, .int x2), (3, .int x3)] (by decide) (Nat.le_of_ble_eq_true rfl) rfl ?_
  intro p e s m args below meth c C hr hlk hnm ht _
  unfold f_X10_readRule at h
  refine fw_aload_n C 0 dX10_readRule_0 rfl rfl ?_
  obtain ⟨g2, h⟩ := gd_some h
  obtain ⟨M1, e1, h⟩ := b1_some h
  refine fw_callV (ci := 10) [] C (c_X10_pass hl e1) cal_X10_pass wm_X10_299 wi_yX10_pass wsl_yX10_pass (Nat.le_of_ble_eq_true rfl) rfl (gO_of g2) rfl (Nat.le_of_ble_eq_true rfl) ⟨Nat.le_of_ble_eq_true rfl, Nat.le_of_ble_eq_true rfl⟩ ⟨Nat.zero_le _, Nat.zero_le _⟩ dX10_readRule_1 ?_
  refine fw_aload_n C 0 dX10_readRule_4 rfl rfl ?_
  obtain ⟨g3, h⟩ := gd_some h
  refine fw_getR C 10 1 (Nat.le_of_ble_eq_true rfl) (Nat.le_of_ble_eq_true rfl) wf_X10_13 rfl (gO_of g2) (gN_of g3) dX10_readRule_5 ?_
  refine fw_iconst C 3 dX10_readRule_8 rfl ?_
  refine fw_iload_n C 1 dX10_readRule_9 rfl rfl ?_
  refine fw_iadd C dX10_readRule_10 ?_
  refine fw_aload_n C 0 dX10_readRule_11 rfl rfl ?_
  refine fw_iload_n C 2 dX10_readRule_12 rfl rfl ?_
  refine fw_iload_n C 3 dX10_readRule_13 rfl rfl ?_
  obtain ⟨v4, M4, e4, h⟩ := b2_some h
  refine fw_callV (ci := 10) [_, _] C (c_X10_number hl e4) cal_X10_number wm_X10_325 wi_yX10_number wsl_yX10_number (Nat.le_of_ble_eq_true rfl) rfl (gO_of g2) rfl (Nat.le_of_ble_eq_true rfl) ⟨Nat.le_of_ble_eq_true rfl, Nat.le_of_ble_eq_true rfl⟩ ⟨Nat.zero_le _, Nat.zero_le _⟩ dX10_readRule_14 ?_
  obtain ⟨g5, h⟩ := gd_some h
  refine fw_iast C (gA_of g5) dX10_readRule_17 ?_
  refine fw_bm h (fun M6 h => ?_)
  obtain rfl := Option.some.inj h
  exact fw_vret C hr hlk dX10_readRule_18
set_option maxRecDepth 100000 in
def f_X10_readLine (S : List fw_Sh) (M : fw_Mem) (a0 : Nat) : Option fw_Mem := gd (gO S 10 a0) (b1 (f_X10_isWord S M a0 1000023) (fun v1 => if v1 = 0 then (b1 (f_X10_isWord S M a0 1000012) (fun v4 => if v4 = 0 then (b1 (f_X10_isWord S M a0 1000026) (fun v6 => if v6 = 0 then (b1 (f_X10_isWord S M a0 1000028) (fun v8 => if v8 = 0 then (b1 (f_X10_isWord S M a0 1000014) (fun v10 => if v10 = 0 then (b1 (f_X10_isWord S M a0 1000025) (fun v12 => if v12 = 0 then (b1 (f_X10_isWord S M a0 1000027) (fun v14 => if v14 = 0 then (b1 (f_X10_isWord S M a0 1000017) (fun v16 => if v16 = 0 then (b1 (f_X10_isWord S M a0 1000006) (fun v18 => if v18 = 0 then (b1 (f_X10_wrong S M a0 1) (fun M20 => b1 (f_X10_must S M20 a0 59) (fun M21 => some M21))) else (b1 (f_X10_readRule S M a0 2 0 1) (fun M22 => b1 (f_X10_must S M22 a0 59) (fun M23 => some M23))))) else (b1 (f_X10_readRule S M a0 1 0 2) (fun M24 => b1 (f_X10_must S M24 a0 59) (fun M25 => some M25))))) else (b1 (f_X10_readRule S M a0 0 1 100) (fun M26 => b1 (f_X10_must S M26 a0 59) (fun M27 => some M27))))) else (b1 (f_X10_readReversed S M a0) (fun M28 => b1 (f_X10_must S M28 a0 59) (fun M29 => some M29))))) else (b1 (f_X10_readJudged S M a0) (fun M30 => b1 (f_X10_must S M30 a0 59) (fun M31 => some M31))))) else (b1 (f_X10_readSuit S M a0) (fun M32 => b1 (f_X10_must S M32 a0 59) (fun M33 => some M33))))) else (b1 (f_X10_readLink S M a0 1) (fun M34 => b1 (f_X10_must S M34 a0 59) (fun M35 => some M35))))) else (b1 (f_X10_readLink S M a0 0) (fun M36 => b1 (f_X10_must S M36 a0 59) (fun M37 => some M37))))) else (b1 (f_X10_readPerson S M a0) (fun M38 => b1 (f_X10_must S M38 a0 59) (fun M39 => some M39)))))
set_option maxHeartbeats 4000000 in
set_option maxRecDepth 100000 in
theorem c_X10_readLine {l : Launch} {G : fw_G} {S : List fw_Sh} {M : fw_Mem} {a0 : Nat} {r : fw_Mem} (hl : l.stackTraces = false) (h : f_X10_readLine S M a0 = some r) : fw_M l G yX10_readLine (.code yX10_readLine cX10_readLine 1 none) 11 (fw_mcO (.inl none, S, r)) (fw_msO (.inl none, S, r)) S M [.ref a0] (.inl none, S, r) := by
  refine fw_of [(0, .ref a0)] (by decide) (Nat.le_of_ble_eq_true rfl) rfl ?_
  intro p e s m args below meth c C hr hlk hnm ht _
  unfold f_X10_readLine at h
  refine fw_aload_n C 0 dX10_readLine_0 rfl rfl ?_
  refine fw_ldcSw C (i := 22) (List.mem_of_getElem? (i := 58) rfl) dX10_readLine_1 ?_
  obtain ⟨g2, h⟩ := gd_some h
  obtain ⟨v1, e1, h⟩ := b1_some h
  refine fw_callV (ci := 10) [_] C (c_X10_isWord hl e1) cal_X10_isWord wm_X10_308 wi_yX10_isWord wsl_yX10_isWord (Nat.le_of_ble_eq_true rfl) rfl (gO_of g2) rfl (Nat.le_of_ble_eq_true rfl) ⟨Nat.le_of_ble_eq_true rfl, Nat.le_of_ble_eq_true rfl⟩ ⟨Nat.zero_le _, Nat.zero_le _⟩ dX10_readLine_4 ?_
  refine fw_if_eq C 17 dX10_readLine_7 (by decide) (fun c3 => ?_) (fun c3 => ?_)
  · replace h := (if_pos c3).symm.trans h
    refine fw_aload_n C 0 dX10_readLine_17 rfl rfl ?_
    refine fw_ldcSw C (i := 11) (List.mem_of_getElem? (i := 59) rfl) dX10_readLine_18 ?_
    obtain ⟨v4, e4, h⟩ := b1_some h
    refine fw_callV (ci := 10) [_] C (c_X10_isWord hl e4) cal_X10_isWord wm_X10_308 wi_yX10_isWord wsl_yX10_isWord (Nat.le_of_ble_eq_true rfl) rfl (gO_of g2) rfl (Nat.le_of_ble_eq_true rfl) ⟨Nat.le_of_ble_eq_true rfl, Nat.le_of_ble_eq_true rfl⟩ ⟨Nat.zero_le _, Nat.zero_le _⟩ dX10_readLine_21 ?_
    refine fw_if_eq C 35 dX10_readLine_24 (by decide) (fun c5 => ?_) (fun c5 => ?_)
    · replace h := (if_pos c5).symm.trans h
      refine fw_aload_n C 0 dX10_readLine_35 rfl rfl ?_
      refine fw_ldcSw C (i := 25) (List.mem_of_getElem? (i := 60) rfl) dX10_readLine_36 ?_
      obtain ⟨v6, e6, h⟩ := b1_some h
      refine fw_callV (ci := 10) [_] C (c_X10_isWord hl e6) cal_X10_isWord wm_X10_308 wi_yX10_isWord wsl_yX10_isWord (Nat.le_of_ble_eq_true rfl) rfl (gO_of g2) rfl (Nat.le_of_ble_eq_true rfl) ⟨Nat.le_of_ble_eq_true rfl, Nat.le_of_ble_eq_true rfl⟩ ⟨Nat.zero_le _, Nat.zero_le _⟩ dX10_readLine_39 ?_
      refine fw_if_eq C 53 dX10_readLine_42 (by decide) (fun c7 => ?_) (fun c7 => ?_)
      · replace h := (if_pos c7).symm.trans h
        refine fw_aload_n C 0 dX10_readLine_53 rfl rfl ?_
        refine fw_ldcSw C (i := 27) (List.mem_of_getElem? (i := 61) rfl) dX10_readLine_54 ?_
        obtain ⟨v8, e8, h⟩ := b1_some h
        refine fw_callV (ci := 10) [_] C (c_X10_isWord hl e8) cal_X10_isWord wm_X10_308 wi_yX10_isWord wsl_yX10_isWord (Nat.le_of_ble_eq_true rfl) rfl (gO_of g2) rfl (Nat.le_of_ble_eq_true rfl) ⟨Nat.le_of_ble_eq_true rfl, Nat.le_of_ble_eq_true rfl⟩ ⟨Nat.zero_le _, Nat.zero_le _⟩ dX10_readLine_57 ?_
        refine fw_if_eq C 70 dX10_readLine_60 (by decide) (fun c9 => ?_) (fun c9 => ?_)
        · replace h := (if_pos c9).symm.trans h
          refine fw_aload_n C 0 dX10_readLine_70 rfl rfl ?_
          refine fw_ldcSw C (i := 13) (List.mem_of_getElem? (i := 65) rfl) dX10_readLine_71 ?_
          obtain ⟨v10, e10, h⟩ := b1_some h
          refine fw_callV (ci := 10) [_] C (c_X10_isWord hl e10) cal_X10_isWord wm_X10_308 wi_yX10_isWord wsl_yX10_isWord (Nat.le_of_ble_eq_true rfl) rfl (gO_of g2) rfl (Nat.le_of_ble_eq_true rfl) ⟨Nat.le_of_ble_eq_true rfl, Nat.le_of_ble_eq_true rfl⟩ ⟨Nat.zero_le _, Nat.zero_le _⟩ dX10_readLine_74 ?_
          refine fw_if_eq C 87 dX10_readLine_77 (by decide) (fun c11 => ?_) (fun c11 => ?_)
          · replace h := (if_pos c11).symm.trans h
            refine fw_aload_n C 0 dX10_readLine_87 rfl rfl ?_
            refine fw_ldcSw C (i := 24) (List.mem_of_getElem? (i := 71) rfl) dX10_readLine_88 ?_
            obtain ⟨v12, e12, h⟩ := b1_some h
            refine fw_callV (ci := 10) [_] C (c_X10_isWord hl e12) cal_X10_isWord wm_X10_308 wi_yX10_isWord wsl_yX10_isWord (Nat.le_of_ble_eq_true rfl) rfl (gO_of g2) rfl (Nat.le_of_ble_eq_true rfl) ⟨Nat.le_of_ble_eq_true rfl, Nat.le_of_ble_eq_true rfl⟩ ⟨Nat.zero_le _, Nat.zero_le _⟩ dX10_readLine_91 ?_
            refine fw_if_eq C 104 dX10_readLine_94 (by decide) (fun c13 => ?_) (fun c13 => ?_)
            · replace h := (if_pos c13).symm.trans h
              refine fw_aload_n C 0 dX10_readLine_104 rfl rfl ?_
              refine fw_ldcSw C (i := 26) (List.mem_of_getElem? (i := 72) rfl) dX10_readLine_105 ?_
              obtain ⟨v14, e14, h⟩ := b1_some h
              refine fw_callV (ci := 10) [_] C (c_X10_isWord hl e14) cal_X10_isWord wm_X10_308 wi_yX10_isWord wsl_yX10_isWord (Nat.le_of_ble_eq_true rfl) rfl (gO_of g2) rfl (Nat.le_of_ble_eq_true rfl) ⟨Nat.le_of_ble_eq_true rfl, Nat.le_of_ble_eq_true rfl⟩ ⟨Nat.zero_le _, Nat.zero_le _⟩ dX10_readLine_108 ?_
              refine fw_if_eq C 125 dX10_readLine_111 (by decide) (fun c15 => ?_) (fun c15 => ?_)
              · replace h := (if_pos c15).symm.trans h
                refine fw_aload_n C 0 dX10_readLine_125 rfl rfl ?_
                refine fw_ldcSw C (i := 16) (List.mem_of_getElem? (i := 73) rfl) dX10_readLine_126 ?_
                obtain ⟨v16, e16, h⟩ := b1_some h
                refine fw_callV (ci := 10) [_] C (c_X10_isWord hl e16) cal_X10_isWord wm_X10_308 wi_yX10_isWord wsl_yX10_isWord (Nat.le_of_ble_eq_true rfl) rfl (gO_of g2) rfl (Nat.le_of_ble_eq_true rfl) ⟨Nat.le_of_ble_eq_true rfl, Nat.le_of_ble_eq_true rfl⟩ ⟨Nat.zero_le _, Nat.zero_le _⟩ dX10_readLine_129 ?_
                refine fw_if_eq C 145 dX10_readLine_132 (by decide) (fun c17 => ?_) (fun c17 => ?_)
                · replace h := (if_pos c17).symm.trans h
                  refine fw_aload_n C 0 dX10_readLine_145 rfl rfl ?_
                  refine fw_ldcSw C (i := 5) (List.mem_of_getElem? (i := 74) rfl) dX10_readLine_146 ?_
                  obtain ⟨v18, e18, h⟩ := b1_some h
                  refine fw_callV (ci := 10) [_] C (c_X10_isWord hl e18) cal_X10_isWord wm_X10_308 wi_yX10_isWord wsl_yX10_isWord (Nat.le_of_ble_eq_true rfl) rfl (gO_of g2) rfl (Nat.le_of_ble_eq_true rfl) ⟨Nat.le_of_ble_eq_true rfl, Nat.le_of_ble_eq_true rfl⟩ ⟨Nat.zero_le _, Nat.zero_le _⟩ dX10_readLine_149 ?_
                  refine fw_if_eq C 165 dX10_readLine_152 (by decide) (fun c19 => ?_) (fun c19 => ?_)
                  · replace h := (if_pos c19).symm.trans h
                    refine fw_aload_n C 0 dX10_readLine_165 rfl rfl ?_
                    refine fw_iconst C 1 dX10_readLine_166 rfl ?_
                    obtain ⟨M20, e20, h⟩ := b1_some h
                    refine fw_callV (ci := 10) [_] C (c_X10_wrong hl e20) cal_X10_wrong wm_X10_296 wi_yX10_wrong wsl_yX10_wrong (Nat.le_of_ble_eq_true rfl) rfl (gO_of g2) rfl (Nat.le_of_ble_eq_true rfl) ⟨Nat.le_of_ble_eq_true rfl, Nat.le_of_ble_eq_true rfl⟩ ⟨Nat.zero_le _, Nat.zero_le _⟩ dX10_readLine_167 ?_
                    refine fw_aload_n C 0 dX10_readLine_170 rfl rfl ?_
                    refine fw_bipush C 59 dX10_readLine_171 rfl ?_
                    obtain ⟨M21, e21, h⟩ := b1_some h
                    refine fw_callV (ci := 10) [_] C (c_X10_must hl e21) cal_X10_must wm_X10_389 wi_yX10_must wsl_yX10_must (Nat.le_of_ble_eq_true rfl) rfl (gO_of g2) rfl (Nat.le_of_ble_eq_true rfl) ⟨Nat.le_of_ble_eq_true rfl, Nat.le_of_ble_eq_true rfl⟩ ⟨Nat.zero_le _, Nat.zero_le _⟩ dX10_readLine_173 ?_
                    obtain rfl := Option.some.inj h
                    exact fw_vret C hr hlk dX10_readLine_176
                  · replace h := (if_neg c19).symm.trans h
                    refine fw_aload_n C 0 dX10_readLine_155 rfl rfl ?_
                    refine fw_iconst C 2 dX10_readLine_156 rfl ?_
                    refine fw_iconst C 0 dX10_readLine_157 rfl ?_
                    refine fw_iconst C 1 dX10_readLine_158 rfl ?_
                    obtain ⟨M22, e22, h⟩ := b1_some h
                    refine fw_callV (ci := 10) [_, _, _] C (c_X10_readRule hl e22) cal_X10_readRule wm_X10_382 wi_yX10_readRule wsl_yX10_readRule (Nat.le_of_ble_eq_true rfl) rfl (gO_of g2) rfl (Nat.le_of_ble_eq_true rfl) ⟨Nat.le_of_ble_eq_true rfl, Nat.le_of_ble_eq_true rfl⟩ ⟨Nat.zero_le _, Nat.zero_le _⟩ dX10_readLine_159 ?_
                    refine fw_goto C 170 dX10_readLine_162 (by decide) ?_
                    refine fw_aload_n C 0 dX10_readLine_170 rfl rfl ?_
                    refine fw_bipush C 59 dX10_readLine_171 rfl ?_
                    obtain ⟨M23, e23, h⟩ := b1_some h
                    refine fw_callV (ci := 10) [_] C (c_X10_must hl e23) cal_X10_must wm_X10_389 wi_yX10_must wsl_yX10_must (Nat.le_of_ble_eq_true rfl) rfl (gO_of g2) rfl (Nat.le_of_ble_eq_true rfl) ⟨Nat.le_of_ble_eq_true rfl, Nat.le_of_ble_eq_true rfl⟩ ⟨Nat.zero_le _, Nat.zero_le _⟩ dX10_readLine_173 ?_
                    obtain rfl := Option.some.inj h
                    exact fw_vret C hr hlk dX10_readLine_176
                · replace h := (if_neg c17).symm.trans h
                  refine fw_aload_n C 0 dX10_readLine_135 rfl rfl ?_
                  refine fw_iconst C 1 dX10_readLine_136 rfl ?_
                  refine fw_iconst C 0 dX10_readLine_137 rfl ?_
                  refine fw_iconst C 2 dX10_readLine_138 rfl ?_
                  obtain ⟨M24, e24, h⟩ := b1_some h
                  refine fw_callV (ci := 10) [_, _, _] C (c_X10_readRule hl e24) cal_X10_readRule wm_X10_382 wi_yX10_readRule wsl_yX10_readRule (Nat.le_of_ble_eq_true rfl) rfl (gO_of g2) rfl (Nat.le_of_ble_eq_true rfl) ⟨Nat.le_of_ble_eq_true rfl, Nat.le_of_ble_eq_true rfl⟩ ⟨Nat.zero_le _, Nat.zero_le _⟩ dX10_readLine_139 ?_
                  refine fw_goto C 170 dX10_readLine_142 (by decide) ?_
                  refine fw_aload_n C 0 dX10_readLine_170 rfl rfl ?_
                  refine fw_bipush C 59 dX10_readLine_171 rfl ?_
                  obtain ⟨M25, e25, h⟩ := b1_some h
                  refine fw_callV (ci := 10) [_] C (c_X10_must hl e25) cal_X10_must wm_X10_389 wi_yX10_must wsl_yX10_must (Nat.le_of_ble_eq_true rfl) rfl (gO_of g2) rfl (Nat.le_of_ble_eq_true rfl) ⟨Nat.le_of_ble_eq_true rfl, Nat.le_of_ble_eq_true rfl⟩ ⟨Nat.zero_le _, Nat.zero_le _⟩ dX10_readLine_173 ?_
                  obtain rfl := Option.some.inj h
                  exact fw_vret C hr hlk dX10_readLine_176
              · replace h := (if_neg c15).symm.trans h
                refine fw_aload_n C 0 dX10_readLine_114 rfl rfl ?_
                refine fw_iconst C 0 dX10_readLine_115 rfl ?_
                refine fw_iconst C 1 dX10_readLine_116 rfl ?_
                refine fw_bipush C 100 dX10_readLine_117 rfl ?_
                obtain ⟨M26, e26, h⟩ := b1_some h
                refine fw_callV (ci := 10) [_, _, _] C (c_X10_readRule hl e26) cal_X10_readRule wm_X10_382 wi_yX10_readRule wsl_yX10_readRule (Nat.le_of_ble_eq_true rfl) rfl (gO_of g2) rfl (Nat.le_of_ble_eq_true rfl) ⟨Nat.le_of_ble_eq_true rfl, Nat.le_of_ble_eq_true rfl⟩ ⟨Nat.zero_le _, Nat.zero_le _⟩ dX10_readLine_119 ?_
                refine fw_goto C 170 dX10_readLine_122 (by decide) ?_
                refine fw_aload_n C 0 dX10_readLine_170 rfl rfl ?_
                refine fw_bipush C 59 dX10_readLine_171 rfl ?_
                obtain ⟨M27, e27, h⟩ := b1_some h
                refine fw_callV (ci := 10) [_] C (c_X10_must hl e27) cal_X10_must wm_X10_389 wi_yX10_must wsl_yX10_must (Nat.le_of_ble_eq_true rfl) rfl (gO_of g2) rfl (Nat.le_of_ble_eq_true rfl) ⟨Nat.le_of_ble_eq_true rfl, Nat.le_of_ble_eq_true rfl⟩ ⟨Nat.zero_le _, Nat.zero_le _⟩ dX10_readLine_173 ?_
                obtain rfl := Option.some.inj h
                exact fw_vret C hr hlk dX10_readLine_176
            · replace h := (if_neg c13).symm.trans h
              refine fw_aload_n C 0 dX10_readLine_97 rfl rfl ?_
              obtain ⟨M28, e28, h⟩ := b1_some h
              refine fw_callV (ci := 10) [] C (c_X10_readReversed hl e28) cal_X10_readReversed wm_X10_377 wi_yX10_readReversed wsl_yX10_readReversed (Nat.le_of_ble_eq_true rfl) rfl (gO_of g2) rfl (Nat.le_of_ble_eq_true rfl) ⟨Nat.le_of_ble_eq_true rfl, Nat.le_of_ble_eq_true rfl⟩ ⟨Nat.zero_le _, Nat.zero_le _⟩ dX10_readLine_98 ?_
              refine fw_goto C 170 dX10_readLine_101 (by decide) ?_
              refine fw_aload_n C 0 dX10_readLine_170 rfl rfl ?_
              refine fw_bipush C 59 dX10_readLine_171 rfl ?_
              obtain ⟨M29, e29, h⟩ := b1_some h
              refine fw_callV (ci := 10) [_] C (c_X10_must hl e29) cal_X10_must wm_X10_389 wi_yX10_must wsl_yX10_must (Nat.le_of_ble_eq_true rfl) rfl (gO_of g2) rfl (Nat.le_of_ble_eq_true rfl) ⟨Nat.le_of_ble_eq_true rfl, Nat.le_of_ble_eq_true rfl⟩ ⟨Nat.zero_le _, Nat.zero_le _⟩ dX10_readLine_173 ?_
              obtain rfl := Option.some.inj h
              exact fw_vret C hr hlk dX10_readLine_176
          · replace h := (if_neg c11).symm.trans h
            refine fw_aload_n C 0 dX10_readLine_80 rfl rfl ?_
            obtain ⟨M30, e30, h⟩ := b1_some h
            refine fw_callV (ci := 10) [] C (c_X10_readJudged hl e30) cal_X10_readJudged wm_X10_372 wi_yX10_readJudged wsl_yX10_readJudged (Nat.le_of_ble_eq_true rfl) rfl (gO_of g2) rfl (Nat.le_of_ble_eq_true rfl) ⟨Nat.le_of_ble_eq_true rfl, Nat.le_of_ble_eq_true rfl⟩ ⟨Nat.zero_le _, Nat.zero_le _⟩ dX10_readLine_81 ?_
            refine fw_goto C 170 dX10_readLine_84 (by decide) ?_
            refine fw_aload_n C 0 dX10_readLine_170 rfl rfl ?_
            refine fw_bipush C 59 dX10_readLine_171 rfl ?_
            obtain ⟨M31, e31, h⟩ := b1_some h
            refine fw_callV (ci := 10) [_] C (c_X10_must hl e31) cal_X10_must wm_X10_389 wi_yX10_must wsl_yX10_must (Nat.le_of_ble_eq_true rfl) rfl (gO_of g2) rfl (Nat.le_of_ble_eq_true rfl) ⟨Nat.le_of_ble_eq_true rfl, Nat.le_of_ble_eq_true rfl⟩ ⟨Nat.zero_le _, Nat.zero_le _⟩ dX10_readLine_173 ?_
            obtain rfl := Option.some.inj h
            exact fw_vret C hr hlk dX10_readLine_176
        · replace h := (if_neg c9).symm.trans h
          refine fw_aload_n C 0 dX10_readLine_63 rfl rfl ?_
          obtain ⟨M32, e32, h⟩ := b1_some h
          refine fw_callV (ci := 10) [] C (c_X10_readSuit hl e32) cal_X10_readSuit wm_X10_367 wi_yX10_readSuit wsl_yX10_readSuit (Nat.le_of_ble_eq_true rfl) rfl (gO_of g2) rfl (Nat.le_of_ble_eq_true rfl) ⟨Nat.le_of_ble_eq_true rfl, Nat.le_of_ble_eq_true rfl⟩ ⟨Nat.zero_le _, Nat.zero_le _⟩ dX10_readLine_64 ?_
          refine fw_goto C 170 dX10_readLine_67 (by decide) ?_
          refine fw_aload_n C 0 dX10_readLine_170 rfl rfl ?_
          refine fw_bipush C 59 dX10_readLine_171 rfl ?_
          obtain ⟨M33, e33, h⟩ := b1_some h
          refine fw_callV (ci := 10) [_] C (c_X10_must hl e33) cal_X10_must wm_X10_389 wi_yX10_must wsl_yX10_must (Nat.le_of_ble_eq_true rfl) rfl (gO_of g2) rfl (Nat.le_of_ble_eq_true rfl) ⟨Nat.le_of_ble_eq_true rfl, Nat.le_of_ble_eq_true rfl⟩ ⟨Nat.zero_le _, Nat.zero_le _⟩ dX10_readLine_173 ?_
          obtain rfl := Option.some.inj h
          exact fw_vret C hr hlk dX10_readLine_176
      · replace h := (if_neg c7).symm.trans h
        refine fw_aload_n C 0 dX10_readLine_45 rfl rfl ?_
        refine fw_iconst C 1 dX10_readLine_46 rfl ?_
        obtain ⟨M34, e34, h⟩ := b1_some h
        refine fw_callV (ci := 10) [_] C (c_X10_readLink hl e34) cal_X10_readLink wm_X10_359 wi_yX10_readLink wsl_yX10_readLink (Nat.le_of_ble_eq_true rfl) rfl (gO_of g2) rfl (Nat.le_of_ble_eq_true rfl) ⟨Nat.le_of_ble_eq_true rfl, Nat.le_of_ble_eq_true rfl⟩ ⟨Nat.zero_le _, Nat.zero_le _⟩ dX10_readLine_47 ?_
        refine fw_goto C 170 dX10_readLine_50 (by decide) ?_
        refine fw_aload_n C 0 dX10_readLine_170 rfl rfl ?_
        refine fw_bipush C 59 dX10_readLine_171 rfl ?_
        obtain ⟨M35, e35, h⟩ := b1_some h
        refine fw_callV (ci := 10) [_] C (c_X10_must hl e35) cal_X10_must wm_X10_389 wi_yX10_must wsl_yX10_must (Nat.le_of_ble_eq_true rfl) rfl (gO_of g2) rfl (Nat.le_of_ble_eq_true rfl) ⟨Nat.le_of_ble_eq_true rfl, Nat.le_of_ble_eq_true rfl⟩ ⟨Nat.zero_le _, Nat.zero_le _⟩ dX10_readLine_173 ?_
        obtain rfl := Option.some.inj h
        exact fw_vret C hr hlk dX10_readLine_176
    · replace h := (if_neg c5).symm.trans h
      refine fw_aload_n C 0 dX10_readLine_27 rfl rfl ?_
      refine fw_iconst C 0 dX10_readLine_28 rfl ?_
      obtain ⟨M36, e36, h⟩ := b1_some h
      refine fw_callV (ci := 10) [_] C (c_X10_readLink hl e36) cal_X10_readLink wm_X10_359 wi_yX10_readLink wsl_yX10_readLink (Nat.le_of_ble_eq_true rfl) rfl (gO_of g2) rfl (Nat.le_of_ble_eq_true rfl) ⟨Nat.le_of_ble_eq_true rfl, Nat.le_of_ble_eq_true rfl⟩ ⟨Nat.zero_le _, Nat.zero_le _⟩ dX10_readLine_29 ?_
      refine fw_goto C 170 dX10_readLine_32 (by decide) ?_
      refine fw_aload_n C 0 dX10_readLine_170 rfl rfl ?_
      refine fw_bipush C 59 dX10_readLine_171 rfl ?_
      obtain ⟨M37, e37, h⟩ := b1_some h
      refine fw_callV (ci := 10) [_] C (c_X10_must hl e37) cal_X10_must wm_X10_389 wi_yX10_must wsl_yX10_must (Nat.le_of_ble_eq_true rfl) rfl (gO_of g2) rfl (Nat.le_of_ble_eq_true rfl) ⟨Nat.le_of_ble_eq_true rfl, Nat.le_of_ble_eq_true rfl⟩ ⟨Nat.zero_le _, Nat.zero_le _⟩ dX10_readLine_173 ?_
      obtain rfl := Option.some.inj h
      exact fw_vret C hr hlk dX10_readLine_176
  · replace h := (if_neg c3).symm.trans h
    refine fw_aload_n C 0 dX10_readLine_10 rfl rfl ?_
    obtain ⟨M38, e38, h⟩ := b1_some h
    refine fw_callV (ci := 10) [] C (c_X10_readPerson hl e38) cal_X10_readPerson wm_X10_354 wi_yX10_readPerson wsl_yX10_readPerson (Nat.le_of_ble_eq_true rfl) rfl (gO_of g2) rfl (Nat.le_of_ble_eq_true rfl) ⟨Nat.le_of_ble_eq_true rfl, Nat.le_of_ble_eq_true rfl⟩ ⟨Nat.zero_le _, Nat.zero_le _⟩ dX10_readLine_11 ?_
    refine fw_goto C 170 dX10_readLine_14 (by decide) ?_
    refine fw_aload_n C 0 dX10_readLine_170 rfl rfl ?_
    refine fw_bipush C 59 dX10_readLine_171 rfl ?_
    obtain ⟨M39, e39, h⟩ := b1_some h
    refine fw_callV (ci := 10) [_] C (c_X10_must hl e39) cal_X10_must wm_X10_389 wi_yX10_must wsl_yX10_must (Nat.le_of_ble_eq_true rfl) rfl (gO_of g2) rfl (Nat.le_of_ble_eq_true rfl) ⟨Nat.le_of_ble_eq_true rfl, Nat.le_of_ble_eq_true rfl⟩ ⟨Nat.zero_le _, Nat.zero_le _⟩ dX10_readLine_173 ?_
    obtain rfl := Option.some.inj h
    exact fw_vret C hr hlk dX10_readLine_176
