set_option maxRecDepth 100000 in
def lf_X10_cut_36 (S : List fw_Sh) (a0 : Nat) : Nat → Int32 → fw_Mem → Option (fw_Mem)
  | 0, _, _ => none
  | n + 1, x2, M => gd (gO S 10 a0) (b1 (f_X10_links S M a0) (fun v8 => if ((78 : Int32) + ((5 : Int32) * (v8 - 1))) ≤ x2 then (some M) else (gd (gN (M a0 0)) (gd (gA S 0 ((M a0 0).toNatClampNeg) (x2 + 5)) (gd (gA S 0 ((M a0 0).toNatClampNeg) x2) (bm (fw_set M ((M a0 0).toNatClampNeg) x2.toNatClampNeg (M ((M a0 0).toNatClampNeg) (x2 + 5).toNatClampNeg)) (fun M14 => lf_X10_cut_36 S a0 n (x2 + 1) M14)))))))
set_option maxHeartbeats 4000000 in
set_option maxRecDepth 100000 in
theorem lc_X10_cut_36 {G : fw_G} {p : Program} {l : Launch} {e : Env} {s : State} {m : MethodId} {args : Array Value} {below : List Frame} {meth : Method} {c : Code} {S : List fw_Sh} {o : fw_O} {a0 : Nat} (C : fw_C G RX10 cX10_cut 3 p s m args c) (hr : meth.sig.returnType = (some .int)) (hlk : meth.locks = false) (hl : l.stackTraces = false) (ht : ∀ x ∈ c.exceptionTable.toList, False) :
    ∀ {n : Nat} {x2 : Int32} {M : fw_Mem} {r : (fw_Mem)} (h : lf_X10_cut_36 S a0 n x2 M = some r) (kx : fw_W G p l e (fw_rm 2 (fw_mcO o) (fw_msO o)) s m args below meth c 3 (fw_Z G below args s (fw_mcO o) (fw_msO o) o) 0 0 71 [(0, .ref a0)] [] S r), fw_W G p l e (fw_rm 2 (fw_mcO o) (fw_msO o)) s m args below meth c 3 (fw_Z G below args s (fw_mcO o) (fw_msO o) o) 0 0 36 [(0, .ref a0), (2, .int x2)] [] S M := by
  intro n
  induction n with
  | zero =>
    intro x2 M r h
    exact nomatch (show (none : Option (fw_Mem)) = some r from h)
  | succ n ih =>
    intro x2 M r h kx
    rw [lf_X10_cut_36.eq_2] at h
    refine fw_iload_n C 1 dX10_cut_36 rfl rfl ?_
    refine fw_bipush C 78 dX10_cut_37 rfl ?_
    refine fw_iconst C 5 dX10_cut_39 rfl ?_
    refine fw_aload_n C 0 dX10_cut_40 rfl rfl ?_
    obtain ⟨g9, h⟩ := gd_some h
    obtain ⟨v8, e8, h⟩ := b1_some h
    refine fw_callV (ci := 10) [] C (c_X10_links hl e8) cal_X10_links wm_X10_95 wi_yX10_links wsl_yX10_links (Nat.le_of_ble_eq_true rfl) rfl (gO_of g9) rfl (Nat.le_of_ble_eq_true rfl) ⟨Nat.le_of_ble_eq_true rfl, Nat.le_of_ble_eq_true rfl⟩ ⟨Nat.zero_le _, Nat.zero_le _⟩ dX10_cut_41 ?_
    refine fw_iconst C 1 dX10_cut_44 rfl ?_
    refine fw_isub C dX10_cut_45 ?_
    refine fw_imul C dX10_cut_46 ?_
    refine fw_iadd C dX10_cut_47 ?_
    refine fw_icmp_ge C 71 dX10_cut_48 (by decide) (fun c10 => ?_) (fun c10 => ?_)
    · replace h := (if_pos c10).symm.trans h
      obtain rfl := Option.some.inj h
      refine fw_sub [0] rfl ?_
      exact kx
    · replace h := (if_neg c10).symm.trans h
      refine fw_aload_n C 0 dX10_cut_51 rfl rfl ?_
      obtain ⟨g11, h⟩ := gd_some h
      refine fw_getR C 10 0 (Nat.le_of_ble_eq_true rfl) (Nat.le_of_ble_eq_true rfl) wf_X10_9 rfl (gO_of g9) (gN_of g11) dX10_cut_52 ?_
      refine fw_iload_n C 1 dX10_cut_55 rfl rfl ?_
      refine fw_aload_n C 0 dX10_cut_56 rfl rfl ?_
      refine fw_getR C 10 0 (Nat.le_of_ble_eq_true rfl) (Nat.le_of_ble_eq_true rfl) wf_X10_9 rfl (gO_of g9) (gN_of g11) dX10_cut_57 ?_
      refine fw_iload_n C 1 dX10_cut_60 rfl rfl ?_
      refine fw_iconst C 5 dX10_cut_61 rfl ?_
      refine fw_iadd C dX10_cut_62 ?_
      obtain ⟨g12, h⟩ := gd_some h
      refine fw_iald C (gA_of g12) dX10_cut_63 ?_
      obtain ⟨g13, h⟩ := gd_some h
      refine fw_iast C (gA_of g13) dX10_cut_64 ?_
      refine fw_bm h (fun M14 h => ?_)
      refine fw_iinc C _ 1 [(2, _), (0, _)] dX10_cut_65 rfl rfl (Nat.le_of_ble_eq_true rfl) rfl ?_
      refine fw_goto C 36 dX10_cut_68 (by decide) ?_
      refine fw_sub [1, 0] rfl ?_
      exact ih h kx
set_option maxRecDepth 100000 in
def f_X10_cut (S : List fw_Sh) (M : fw_Mem) (a0 : Nat) (x1 : Int32) : Option (Int32 × fw_Mem) := gd (gO S 10 a0) (bm (fw_set M a0 6 0) (fun M2 => b1 (f_X10_links S M2 a0) (fun v3 => b1 (f_X10_isIn S M2 x1 0 (v3 - 1)) (fun v4 => if v4 = 0 then (b2 (f_X10_fail S M2 a0 1) (fun v20 M20 => some (v20, M20))) else (b1 (f_X10_keep S M2 a0) (fun M6 => bm ((78 : Int32) + ((5 : Int32) * x1)) (fun y7 => b1 (lf_X10_cut_36 S a0 20000 y7 M6) (fun l15 => gd (gN (l15 a0 0)) (gd (gA S 0 ((l15 a0 0).toNatClampNeg) 1) (bm (fw_set l15 ((l15 a0 0).toNatClampNeg) 1 ((l15 ((l15 a0 0).toNatClampNeg) 1) - 1)) (fun M18 => b1 (f_X10_links S M18 a0) (fun v19 => some (v19, M18)))))))))))))
set_option maxHeartbeats 4000000 in
set_option maxRecDepth 100000 in
theorem c_X10_cut {l : Launch} {G : fw_G} {S : List fw_Sh} {M : fw_Mem} {a0 : Nat} {x1 : Int32} {r : (Int32 × fw_Mem)} (hl : l.stackTraces = false) (h : f_X10_cut S M a0 x1 = some r) : fw_M l G yX10_cut (.code yX10_cut cX10_cut 3 (some .int)) 2 (fw_mcO (.inl (some (.int r.1)), S, r.2)) (fw_msO (.inl (some (.int r.1)), S, r.2)) S M [.ref a0, .int x1] (.inl (some (.int r.1)), S, r.2) := by
  refine fw_of [(0, .ref a0), (1, .int x1)] (by decide) (Nat.le_of_ble_eq_true rfl) rfl ?_
  intro p e s m args below meth c C hr hlk hnm ht _
  unfold f_X10_cut at h
  refine fw_aload_n C 0 dX10_cut_0 rfl rfl ?_
  refine fw_iconst C 0 dX10_cut_1 rfl ?_
  obtain ⟨g1, h⟩ := gd_some h
  refine fw_putI C 10 6 (Nat.le_of_ble_eq_true rfl) (Nat.le_of_ble_eq_true rfl) wf_X10_51 rfl rfl rfl rfl (gO_of g1) dX10_cut_2 ?_
  refine fw_bm h (fun M2 h => ?_)
  refine fw_iload_n C 1 dX10_cut_5 rfl rfl ?_
  refine fw_iconst C 0 dX10_cut_6 rfl ?_
  refine fw_aload_n C 0 dX10_cut_7 rfl rfl ?_
  obtain ⟨v3, e3, h⟩ := b1_some h
  refine fw_callV (ci := 10) [] C (c_X10_links hl e3) cal_X10_links wm_X10_95 wi_yX10_links wsl_yX10_links (Nat.le_of_ble_eq_true rfl) rfl (gO_of g1) rfl (Nat.le_of_ble_eq_true rfl) ⟨Nat.le_of_ble_eq_true rfl, Nat.le_of_ble_eq_true rfl⟩ ⟨Nat.zero_le _, Nat.zero_le _⟩ dX10_cut_8 ?_
  refine fw_iconst C 1 dX10_cut_11 rfl ?_
  refine fw_isub C dX10_cut_12 ?_
  obtain ⟨v4, e4, h⟩ := b1_some h
  refine fw_callS [_, _, _] C (c_X10_isIn hl e4) cal_X10_isIn wm_X10_58 wt_yX10_isIn rfl (Nat.le_of_ble_eq_true rfl) ⟨Nat.le_of_ble_eq_true rfl, Nat.le_of_ble_eq_true rfl⟩ ⟨Nat.zero_le _, Nat.zero_le _⟩ dX10_cut_13 ?_
  refine fw_if_ne C 25 dX10_cut_16 (by decide) (fun c5 => ?_) (fun c5 => ?_)
  · replace h := (if_neg c5).symm.trans h
    refine fw_aload_n C 0 dX10_cut_25 rfl rfl ?_
    obtain ⟨M6, e6, h⟩ := b1_some h
    refine fw_callV (ci := 10) [] C (c_X10_keep hl e6) cal_X10_keep wm_X10_226 wi_yX10_keep wsl_yX10_keep (Nat.le_of_ble_eq_true rfl) rfl (gO_of g1) rfl (Nat.le_of_ble_eq_true rfl) ⟨Nat.le_of_ble_eq_true rfl, Nat.le_of_ble_eq_true rfl⟩ ⟨Nat.zero_le _, Nat.zero_le _⟩ dX10_cut_26 ?_
    refine fw_bipush C 78 dX10_cut_29 rfl ?_
    refine fw_iconst C 5 dX10_cut_31 rfl ?_
    refine fw_iload_n C 1 dX10_cut_32 rfl rfl ?_
    refine fw_imul C dX10_cut_33 ?_
    refine fw_iadd C dX10_cut_34 ?_
    refine fw_bi h (fun y7 h => ?_)
    refine fw_istore_n C [(2, _), (0, _), (1, _)] dX10_cut_35 rfl (Nat.le_of_ble_eq_true rfl) rfl ?_
    refine fw_sub [1, 0] rfl ?_
    obtain ⟨l15, e15, h⟩ := b1_some h
    refine lc_X10_cut_36 C hr hlk hl ht e15 ?_
    refine fw_aload_n C 0 dX10_cut_71 rfl rfl ?_
    obtain ⟨g16, h⟩ := gd_some h
    refine fw_getR C 10 0 (Nat.le_of_ble_eq_true rfl) (Nat.le_of_ble_eq_true rfl) wf_X10_9 rfl (gO_of g1) (gN_of g16) dX10_cut_72 ?_
    refine fw_iconst C 1 dX10_cut_75 rfl ?_
    refine fw_dup2 C dX10_cut_76 rfl rfl ?_
    obtain ⟨g17, h⟩ := gd_some h
    refine fw_iald C (gA_of g17) dX10_cut_77 ?_
    refine fw_iconst C 1 dX10_cut_78 rfl ?_
    refine fw_isub C dX10_cut_79 ?_
    refine fw_iast C (gA_of g17) dX10_cut_80 ?_
    refine fw_bm h (fun M18 h => ?_)
    refine fw_aload_n C 0 dX10_cut_81 rfl rfl ?_
    obtain ⟨v19, e19, h⟩ := b1_some h
    refine fw_callV (ci := 10) [] C (c_X10_links hl e19) cal_X10_links wm_X10_95 wi_yX10_links wsl_yX10_links (Nat.le_of_ble_eq_true rfl) rfl (gO_of g1) rfl (Nat.le_of_ble_eq_true rfl) ⟨Nat.le_of_ble_eq_true rfl, Nat.le_of_ble_eq_true rfl⟩ ⟨Nat.zero_le _, Nat.zero_le _⟩ dX10_cut_82 ?_
    obtain rfl := Option.some.inj h
    exact fw_iret C hr hlk dX10_cut_85
  · replace h := (if_pos c5).symm.trans h
    refine fw_aload_n C 0 dX10_cut_19 rfl rfl ?_
    refine fw_iconst C 1 dX10_cut_20 rfl ?_
    obtain ⟨v20, M20, e20, h⟩ := b2_some h
    refine fw_callV (ci := 10) [_] C (c_X10_fail hl e20) cal_X10_fail wm_X10_171 wi_yX10_fail wsl_yX10_fail (Nat.le_of_ble_eq_true rfl) rfl (gO_of g1) rfl (Nat.le_of_ble_eq_true rfl) ⟨Nat.le_of_ble_eq_true rfl, Nat.le_of_ble_eq_true rfl⟩ ⟨Nat.zero_le _, Nat.zero_le _⟩ dX10_cut_21 ?_
    obtain rfl := Option.some.inj h
    exact fw_iret C hr hlk dX10_cut_24
set_option maxRecDepth 100000 in
def f_X10_isRule (S : List fw_Sh) (M : fw_Mem) (x0 : Int32) (x1 : Int32) : Option Int32 := if x0 = 0 then (b1 (f_X10_isIn S M x1 1 100) (fun v7 => gd (gB v7) (some v7))) else (if x0 = 1 then (b1 (f_X10_isIn S M x1 0 2) (fun v5 => gd (gB v5) (some v5))) else (b1 (f_X10_isIn S M x1 0 1) (fun v3 => gd (gB v3) (some v3))))
set_option maxHeartbeats 4000000 in
set_option maxRecDepth 100000 in
theorem c_X10_isRule {l : Launch} {G : fw_G} {S : List fw_Sh} {M : fw_Mem} {x0 : Int32} {x1 : Int32} {r : Int32} (hl : l.stackTraces = false) (h : f_X10_isRule S M x0 x1 = some r) : fw_M l G yX10_isRule (.code yX10_isRule cX10_isRule 2 (some .boolean)) 2 (fw_mcO (.inl (some (.int r)), S, M)) (fw_msO (.inl (some (.int r)), S, M)) S M [.int x0, .int x1] (.inl (some (.int r)), S, M) := by
  refine fw_of [(0, .int x0), (1, .int x1)] (by decide) (Nat.le_of_ble_eq_true rfl) rfl ?_
  intro p e s m args below meth c C hr hlk hnm ht _
  unfold f_X10_isRule at h
  refine fw_iload_n C 0 dX10_isRule_0 rfl rfl ?_
  refine fw_if_ne C 14 dX10_isRule_1 (by decide) (fun c1 => ?_) (fun c1 => ?_)
  · replace h := (if_neg c1).symm.trans h
    refine fw_iload_n C 1 dX10_isRule_14 rfl rfl ?_
    refine fw_iconst C 0 dX10_isRule_15 rfl ?_
    refine fw_iload_n C 0 dX10_isRule_16 rfl rfl ?_
    refine fw_iconst C 1 dX10_isRule_17 rfl ?_
    refine fw_icmp_ne C 25 dX10_isRule_18 (by decide) (fun c2 => ?_) (fun c2 => ?_)
    · replace h := (if_neg c2).symm.trans h
      refine fw_iconst C 1 dX10_isRule_25 rfl ?_
      obtain ⟨v3, e3, h⟩ := b1_some h
      refine fw_callS [_, _, _] C (c_X10_isIn hl e3) cal_X10_isIn wm_X10_58 wt_yX10_isIn rfl (Nat.le_of_ble_eq_true rfl) ⟨Nat.le_of_ble_eq_true rfl, Nat.le_of_ble_eq_true rfl⟩ ⟨Nat.zero_le _, Nat.zero_le _⟩ dX10_isRule_26 ?_
      obtain ⟨g4, h⟩ := gd_some h
      obtain rfl := Option.some.inj h
      exact fw_zret C hr (gB_of g4) hlk dX10_isRule_29
    · replace h := (if_pos c2).symm.trans h
      refine fw_iconst C 2 dX10_isRule_21 rfl ?_
      refine fw_goto C 26 dX10_isRule_22 (by decide) ?_
      obtain ⟨v5, e5, h⟩ := b1_some h
      refine fw_callS [_, _, _] C (c_X10_isIn hl e5) cal_X10_isIn wm_X10_58 wt_yX10_isIn rfl (Nat.le_of_ble_eq_true rfl) ⟨Nat.le_of_ble_eq_true rfl, Nat.le_of_ble_eq_true rfl⟩ ⟨Nat.zero_le _, Nat.zero_le _⟩ dX10_isRule_26 ?_
      obtain ⟨g6, h⟩ := gd_some h
      obtain rfl := Option.some.inj h
      exact fw_zret C hr (gB_of g6) hlk dX10_isRule_29
  · replace h := (if_pos c1).symm.trans h
    refine fw_iload_n C 1 dX10_isRule_4 rfl rfl ?_
    refine fw_iconst C 1 dX10_isRule_5 rfl ?_
    refine fw_bipush C 100 dX10_isRule_6 rfl ?_
    obtain ⟨v7, e7, h⟩ := b1_some h
    refine fw_callS [_, _, _] C (c_X10_isIn hl e7) cal_X10_isIn wm_X10_58 wt_yX10_isIn rfl (Nat.le_of_ble_eq_true rfl) ⟨Nat.le_of_ble_eq_true rfl, Nat.le_of_ble_eq_true rfl⟩ ⟨Nat.zero_le _, Nat.zero_le _⟩ dX10_isRule_8 ?_
    refine fw_goto C 29 dX10_isRule_11 (by decide) ?_
    obtain ⟨g8, h⟩ := gd_some h
    obtain rfl := Option.some.inj h
    exact fw_zret C hr (gB_of g8) hlk dX10_isRule_29
set_option maxRecDepth 100000 in
def fj_X10_rule_27 (S : List fw_Sh) (M : fw_Mem) (a0 : Nat) (x1 : Int32) (x2 : Int32) (z0 : Int32) (z1 : Nat) : Option (Int32 × fw_Mem) := gd (gO S 10 z1) (bm (fw_set M z1 6 z0) (fun M6 => gd (gO S 10 a0) (if (M6 a0 6) ≤ 0 then (b1 (f_X10_keep S M6 a0) (fun M9 => gd (gN (M9 a0 0)) (gd (gA S 0 ((M9 a0 0).toNatClampNeg) ((3 : Int32) + x1)) (bm (M9 ((M9 a0 0).toNatClampNeg) ((3 : Int32) + x1).toNatClampNeg) (fun y12 => bm (fw_set M9 ((M9 a0 0).toNatClampNeg) ((3 : Int32) + x1).toNatClampNeg x2) (fun M13 => some (y12, M13))))))) else (some (0, M6)))))
set_option maxHeartbeats 4000000 in
set_option maxRecDepth 100000 in
theorem jc_X10_rule_27 {G : fw_G} {p : Program} {l : Launch} {e : Env} {s : State} {m : MethodId} {args : Array Value} {below : List Frame} {meth : Method} {c : Code} {S : List fw_Sh} {M : fw_Mem} {a0 : Nat} {x1 : Int32} {x2 : Int32} {z0 : Int32} {z1 : Nat} {r : (Int32 × fw_Mem)} {o : fw_O} (C : fw_C G RX10 cX10_rule 4 p s m args c) (hr : meth.sig.returnType = (some .int)) (hlk : meth.locks = false) (hl : l.stackTraces = false) (ht : ∀ x ∈ c.exceptionTable.toList, False) (ho : o = (.inl (some (.int r.1)), S, r.2)) (h : fj_X10_rule_27 S M a0 x1 x2 z0 z1 = some r) :
    fw_W G p l e (fw_rm 3 (fw_mcO o) (fw_msO o)) s m args below meth c 4 (fw_Z G below args s (fw_mcO o) (fw_msO o) o) 0 0 27 [(0, .ref a0), (1, .int x1), (2, .int x2)] [.int z0, .ref z1] S M := by
  subst ho
  unfold fj_X10_rule_27 at h
  obtain ⟨g5, h⟩ := gd_some h
  refine fw_putI C 10 6 (Nat.le_of_ble_eq_true rfl) (Nat.le_of_ble_eq_true rfl) wf_X10_51 rfl rfl rfl rfl (gO_of g5) dX10_rule_27 ?_
  refine fw_bm h (fun M6 h => ?_)
  refine fw_aload_n C 0 dX10_rule_30 rfl rfl ?_
  obtain ⟨g7, h⟩ := gd_some h
  refine fw_getI C 10 6 (Nat.le_of_ble_eq_true rfl) (Nat.le_of_ble_eq_true rfl) wf_X10_51 rfl (gO_of g7) dX10_rule_31 ?_
  refine fw_if_le C 39 dX10_rule_34 (by decide) (fun c8 => ?_) (fun c8 => ?_)
  · replace h := (if_pos c8).symm.trans h
    refine fw_aload_n C 0 dX10_rule_39 rfl rfl ?_
    obtain ⟨M9, e9, h⟩ := b1_some h
    refine fw_callV (ci := 10) [] C (c_X10_keep hl e9) cal_X10_keep wm_X10_226 wi_yX10_keep wsl_yX10_keep (Nat.le_of_ble_eq_true rfl) rfl (gO_of g7) rfl (Nat.le_of_ble_eq_true rfl) ⟨Nat.le_of_ble_eq_true rfl, Nat.le_of_ble_eq_true rfl⟩ ⟨Nat.zero_le _, Nat.zero_le _⟩ dX10_rule_40 ?_
    refine fw_aload_n C 0 dX10_rule_43 rfl rfl ?_
    obtain ⟨g10, h⟩ := gd_some h
    refine fw_getR C 10 0 (Nat.le_of_ble_eq_true rfl) (Nat.le_of_ble_eq_true rfl) wf_X10_9 rfl (gO_of g7) (gN_of g10) dX10_rule_44 ?_
    refine fw_iconst C 3 dX10_rule_47 rfl ?_
    refine fw_iload_n C 1 dX10_rule_48 rfl rfl ?_
    refine fw_iadd C dX10_rule_49 ?_
    obtain ⟨g11, h⟩ := gd_some h
    refine fw_iald C (gA_of g11) dX10_rule_50 ?_
    refine fw_bi h (fun y12 h => ?_)
    refine fw_istore_n C [(3, _), (0, _), (1, _), (2, _)] dX10_rule_51 rfl (Nat.le_of_ble_eq_true rfl) rfl ?_
    refine fw_aload_n C 1 dX10_rule_52 rfl rfl ?_
    refine fw_getR C 10 0 (Nat.le_of_ble_eq_true rfl) (Nat.le_of_ble_eq_true rfl) wf_X10_9 rfl (gO_of g7) (gN_of g10) dX10_rule_53 ?_
    refine fw_iconst C 3 dX10_rule_56 rfl ?_
    refine fw_iload_n C 2 dX10_rule_57 rfl rfl ?_
    refine fw_iadd C dX10_rule_58 ?_
    refine fw_iload_n C 3 dX10_rule_59 rfl rfl ?_
    refine fw_iast C (gA_of g11) dX10_rule_60 ?_
    refine fw_bm h (fun M13 h => ?_)
    refine fw_iload_n C 0 dX10_rule_61 rfl rfl ?_
    obtain rfl := Option.some.inj h
    exact fw_iret C hr hlk dX10_rule_62
  · replace h := (if_neg c8).symm.trans h
    refine fw_iconst C 0 dX10_rule_37 rfl ?_
    obtain rfl := Option.some.inj h
    exact fw_iret C hr hlk dX10_rule_38
set_option maxRecDepth 100000 in
def f_X10_rule (S : List fw_Sh) (M : fw_Mem) (a0 : Nat) (x1 : Int32) (x2 : Int32) : Option (Int32 × fw_Mem) := b1 (f_X10_isIn S M x1 0 2) (fun v1 => if v1 = 0 then fj_X10_rule_27 S M a0 x1 x2 1 a0 else (b1 (f_X10_isRule S M x1 x2) (fun v3 => if v3 = 0 then fj_X10_rule_27 S M a0 x1 x2 2 a0 else fj_X10_rule_27 S M a0 x1 x2 0 a0)))
set_option maxHeartbeats 4000000 in
set_option maxRecDepth 100000 in
theorem c_X10_rule {l : Launch} {G : fw_G} {S : List fw_Sh} {M : fw_Mem} {a0 : Nat} {x1 : Int32} {x2 : Int32} {r : (Int32 × fw_Mem)} (hl : l.stackTraces = false) (h : f_X10_rule S M a0 x1 x2 = some r) : fw_M l G yX10_rule (.code yX10_rule cX10_rule 4 (some .int)) 3 (fw_mcO (.inl (some (.int r.1)), S, r.2)) (fw_msO (.inl (some (.int r.1)), S, r.2)) S M [.ref a0, .int x1, .int x2] (.inl (some (.int r.1)), S, r.2) := by
  refine fw_of [(0, .ref a0), (1, .int x1), (2, .int x2)] (by decide) (Nat.le_of_ble_eq_true rfl) rfl ?_
  intro p e s m args below meth c C hr hlk hnm ht _
  unfold f_X10_rule at h
  refine fw_aload_n C 0 dX10_rule_0 rfl rfl ?_
  refine fw_iload_n C 1 dX10_rule_1 rfl rfl ?_
  refine fw_iconst C 0 dX10_rule_2 rfl ?_
  refine fw_iconst C 2 dX10_rule_3 rfl ?_
  obtain ⟨v1, e1, h⟩ := b1_some h
  refine fw_callS [_, _, _] C (c_X10_isIn hl e1) cal_X10_isIn wm_X10_58 wt_yX10_isIn rfl (Nat.le_of_ble_eq_true rfl) ⟨Nat.le_of_ble_eq_true rfl, Nat.le_of_ble_eq_true rfl⟩ ⟨Nat.zero_le _, Nat.zero_le _⟩ dX10_rule_4 ?_
  refine fw_if_ne C 14 dX10_rule_7 (by decide) (fun c2 => ?_) (fun c2 => ?_)
  · replace h := (if_neg c2).symm.trans h
    refine fw_iload_n C 1 dX10_rule_14 rfl rfl ?_
    refine fw_iload_n C 2 dX10_rule_15 rfl rfl ?_
    obtain ⟨v3, e3, h⟩ := b1_some h
    refine fw_callS [_, _] C (c_X10_isRule hl e3) cal_X10_isRule wm_X10_237 wt_yX10_isRule rfl (Nat.le_of_ble_eq_true rfl) ⟨Nat.le_of_ble_eq_true rfl, Nat.le_of_ble_eq_true rfl⟩ ⟨Nat.zero_le _, Nat.zero_le _⟩ dX10_rule_16 ?_
    refine fw_if_ne C 26 dX10_rule_19 (by decide) (fun c4 => ?_) (fun c4 => ?_)
    · replace h := (if_neg c4).symm.trans h
      refine fw_iconst C 0 dX10_rule_26 rfl ?_
      exact jc_X10_rule_27 C hr hlk hl ht rfl h
    · replace h := (if_pos c4).symm.trans h
      refine fw_iconst C 2 dX10_rule_22 rfl ?_
      refine fw_goto C 27 dX10_rule_23 (by decide) ?_
      exact jc_X10_rule_27 C hr hlk hl ht rfl h
  · replace h := (if_pos c2).symm.trans h
    refine fw_iconst C 1 dX10_rule_10 rfl ?_
    refine fw_goto C 27 dX10_rule_11 (by decide) ?_
    exact jc_X10_rule_27 C hr hlk hl ht rfl h
set_option maxRecDepth 100000 in
def lf_X10_undo_26 (S : List fw_Sh) (a0 : Nat) : Nat → Int32 → fw_Mem → Option (fw_Mem)
  | 0, _, _ => none
  | n + 1, x1, M => if (330 : Int32) ≤ x1 then (some M) else (gd (gO S 10 a0) (gd (gN (M a0 0)) (gd (gN (M a0 3)) (gd (gA S 0 ((M a0 3).toNatClampNeg) (((330 : Int32) * (M a0 5)) + x1)) (gd (gA S 0 ((M a0 0).toNatClampNeg) x1) (bm (fw_set M ((M a0 0).toNatClampNeg) x1.toNatClampNeg (M ((M a0 3).toNatClampNeg) (((330 : Int32) * (M a0 5)) + x1).toNatClampNeg)) (fun M11 => lf_X10_undo_26 S a0 n (x1 + 1) M11)))))))
set_option maxHeartbeats 4000000 in
set_option maxRecDepth 100000 in
theorem lc_X10_undo_26 {G : fw_G} {p : Program} {l : Launch} {e : Env} {s : State} {m : MethodId} {args : Array Value} {below : List Frame} {meth : Method} {c : Code} {S : List fw_Sh} {o : fw_O} {a0 : Nat} (C : fw_C G RX10 cX10_undo 2 p s m args c) (hr : meth.sig.returnType = (some .int)) (hlk : meth.locks = false) (hl : l.stackTraces = false) (ht : ∀ x ∈ c.exceptionTable.toList, False) :
    ∀ {n : Nat} {x1 : Int32} {M : fw_Mem} {r : (fw_Mem)} (h : lf_X10_undo_26 S a0 n x1 M = some r) (kx : fw_W G p l e (fw_rm 1 (fw_mcO o) (fw_msO o)) s m args below meth c 2 (fw_Z G below args s (fw_mcO o) (fw_msO o) o) 0 0 60 [(0, .ref a0)] [] S r), fw_W G p l e (fw_rm 1 (fw_mcO o) (fw_msO o)) s m args below meth c 2 (fw_Z G below args s (fw_mcO o) (fw_msO o) o) 0 0 26 [(0, .ref a0), (1, .int x1)] [] S M := by
  intro n
  induction n with
  | zero =>
    intro x1 M r h
    exact nomatch (show (none : Option (fw_Mem)) = some r from h)
  | succ n ih =>
    intro x1 M r h kx
    rw [lf_X10_undo_26.eq_2] at h
    refine fw_iload_n C 1 dX10_undo_26 rfl rfl ?_
    refine fw_sipush C 330 dX10_undo_27 rfl ?_
    refine fw_icmp_ge C 60 dX10_undo_30 (by decide) (fun c5 => ?_) (fun c5 => ?_)
    · replace h := (if_pos c5).symm.trans h
      obtain rfl := Option.some.inj h
      refine fw_sub [0] rfl ?_
      exact kx
    · replace h := (if_neg c5).symm.trans h
      refine fw_aload_n C 0 dX10_undo_33 rfl rfl ?_
      obtain ⟨g6, h⟩ := gd_some h
      obtain ⟨g7, h⟩ := gd_some h
      refine fw_getR C 10 0 (Nat.le_of_ble_eq_true rfl) (Nat.le_of_ble_eq_true rfl) wf_X10_9 rfl (gO_of g6) (gN_of g7) dX10_undo_34 ?_
      refine fw_iload_n C 1 dX10_undo_37 rfl rfl ?_
      refine fw_aload_n C 0 dX10_undo_38 rfl rfl ?_
      obtain ⟨g8, h⟩ := gd_some h
      refine fw_getR C 10 3 (Nat.le_of_ble_eq_true rfl) (Nat.le_of_ble_eq_true rfl) wf_X10_19 rfl (gO_of g6) (gN_of g8) dX10_undo_39 ?_
      refine fw_sipush C 330 dX10_undo_42 rfl ?_
      refine fw_aload_n C 0 dX10_undo_45 rfl rfl ?_
      refine fw_getI C 10 5 (Nat.le_of_ble_eq_true rfl) (Nat.le_of_ble_eq_true rfl) wf_X10_162 rfl (gO_of g6) dX10_undo_46 ?_
      refine fw_imul C dX10_undo_49 ?_
      refine fw_iload_n C 1 dX10_undo_50 rfl rfl ?_
      refine fw_iadd C dX10_undo_51 ?_
      obtain ⟨g9, h⟩ := gd_some h
      refine fw_iald C (gA_of g9) dX10_undo_52 ?_
      obtain ⟨g10, h⟩ := gd_some h
      refine fw_iast C (gA_of g10) dX10_undo_53 ?_
      refine fw_bm h (fun M11 h => ?_)
      refine fw_iinc C _ 1 [(1, _), (0, _)] dX10_undo_54 rfl rfl (Nat.le_of_ble_eq_true rfl) rfl ?_
      refine fw_goto C 26 dX10_undo_57 (by decide) ?_
      refine fw_sub [1, 0] rfl ?_
      exact ih h kx
set_option maxRecDepth 100000 in
def f_X10_undo (S : List fw_Sh) (M : fw_Mem) (a0 : Nat) : Option (Int32 × fw_Mem) := gd (gO S 10 a0) (bm (fw_set M a0 6 0) (fun M2 => if (M2 a0 5) = 0 then (some ((-1), M2)) else (bm (fw_set M2 a0 5 ((M2 a0 5) - 1)) (fun M4 => b1 (lf_X10_undo_26 S a0 20000 0 M4) (fun l12 => some ((l12 a0 5), l12))))))
set_option maxHeartbeats 4000000 in
set_option maxRecDepth 100000 in
theorem c_X10_undo {l : Launch} {G : fw_G} {S : List fw_Sh} {M : fw_Mem} {a0 : Nat} {r : (Int32 × fw_Mem)} (hl : l.stackTraces = false) (h : f_X10_undo S M a0 = some r) : fw_M l G yX10_undo (.code yX10_undo cX10_undo 2 (some .int)) 1 (fw_mcO (.inl (some (.int r.1)), S, r.2)) (fw_msO (.inl (some (.int r.1)), S, r.2)) S M [.ref a0] (.inl (some (.int r.1)), S, r.2) := by
  refine fw_of [(0, .ref a0)] (by decide) (Nat.le_of_ble_eq_true rfl) rfl ?_
  intro p e s m args below meth c C hr hlk hnm ht _
  unfold f_X10_undo at h
  refine fw_aload_n C 0 dX10_undo_0 rfl rfl ?_
  refine fw_iconst C 0 dX10_undo_1 rfl ?_
  obtain ⟨g1, h⟩ := gd_some h
  refine fw_putI C 10 6 (Nat.le_of_ble_eq_true rfl) (Nat.le_of_ble_eq_true rfl) wf_X10_51 rfl rfl rfl rfl (gO_of g1) dX10_undo_2 ?_
  refine fw_bm h (fun M2 h => ?_)
  refine fw_aload_n C 0 dX10_undo_5 rfl rfl ?_
  refine fw_getI C 10 5 (Nat.le_of_ble_eq_true rfl) (Nat.le_of_ble_eq_true rfl) wf_X10_162 rfl (gO_of g1) dX10_undo_6 ?_
  refine fw_if_ne C 14 dX10_undo_9 (by decide) (fun c3 => ?_) (fun c3 => ?_)
  · replace h := (if_neg c3).symm.trans h
    refine fw_aload_n C 0 dX10_undo_14 rfl rfl ?_
    refine fw_dup C dX10_undo_15 rfl ?_
    refine fw_getI C 10 5 (Nat.le_of_ble_eq_true rfl) (Nat.le_of_ble_eq_true rfl) wf_X10_162 rfl (gO_of g1) dX10_undo_16 ?_
    refine fw_iconst C 1 dX10_undo_19 rfl ?_
    refine fw_isub C dX10_undo_20 ?_
    refine fw_putI C 10 5 (Nat.le_of_ble_eq_true rfl) (Nat.le_of_ble_eq_true rfl) wf_X10_162 rfl rfl rfl rfl (gO_of g1) dX10_undo_21 ?_
    refine fw_bm h (fun M4 h => ?_)
    refine fw_iconst C 0 dX10_undo_24 rfl ?_
    refine fw_istore_n C [(1, _), (0, _)] dX10_undo_25 rfl (Nat.le_of_ble_eq_true rfl) rfl ?_
    refine fw_sub [1, 0] rfl ?_
    obtain ⟨l12, e12, h⟩ := b1_some h
    refine lc_X10_undo_26 C hr hlk hl ht e12 ?_
    refine fw_aload_n C 0 dX10_undo_60 rfl rfl ?_
    refine fw_getI C 10 5 (Nat.le_of_ble_eq_true rfl) (Nat.le_of_ble_eq_true rfl) wf_X10_162 rfl (gO_of g1) dX10_undo_61 ?_
    obtain rfl := Option.some.inj h
    exact fw_iret C hr hlk dX10_undo_64
  · replace h := (if_pos c3).symm.trans h
    refine fw_iconst C (-1) dX10_undo_12 rfl ?_
    obtain rfl := Option.some.inj h
    exact fw_iret C hr hlk dX10_undo_13
set_option maxRecDepth 100000 in
def f_X10_image (S : List fw_Sh) (M : fw_Mem) (a0 : Nat) : Option fw_Mem := gd (gO S 10 a0) (bm (fw_set M a0 6 0) (fun M2 => gd (gN (M2 a0 2)) (gd (gN (M2 a0 0)) (b1 (f_X10_copy S M2 ((M2 a0 2).toNatClampNeg) ((M2 a0 0).toNatClampNeg)) (fun M5 => bm (fw_set M5 a0 4 1) (fun M6 => some M6))))))
set_option maxHeartbeats 4000000 in
set_option maxRecDepth 100000 in
theorem c_X10_image {l : Launch} {G : fw_G} {S : List fw_Sh} {M : fw_Mem} {a0 : Nat} {r : fw_Mem} (hl : l.stackTraces = false) (h : f_X10_image S M a0 = some r) : fw_M l G yX10_image (.code yX10_image cX10_image 1 none) 2 (fw_mcO (.inl none, S, r)) (fw_msO (.inl none, S, r)) S M [.ref a0] (.inl none, S, r) := by
  refine fw_of [(0, .ref a0)] (by decide) (Nat.le_of_ble_eq_true rfl) rfl ?_
  intro p e s m args below meth c C hr hlk hnm ht _
  unfold f_X10_image at h
  refine fw_aload_n C 0 dX10_image_0 rfl rfl ?_
  refine fw_iconst C 0 dX10_image_1 rfl ?_
  obtain ⟨g1, h⟩ := gd_some h
  refine fw_putI C 10 6 (Nat.le_of_ble_eq_true rfl) (Nat.le_of_ble_eq_true rfl) wf_X10_51 rfl rfl rfl rfl (gO_of g1) dX10_image_2 ?_
  refine fw_bm h (fun M2 h => ?_)
  refine fw_aload_n C 0 dX10_image_5 rfl rfl ?_
  obtain ⟨g3, h⟩ := gd_some h
  refine fw_getR C 10 2 (Nat.le_of_ble_eq_true rfl) (Nat.le_of_ble_eq_true rfl) wf_X10_16 rfl (gO_of g1) (gN_of g3) dX10_image_6 ?_
  refine fw_aload_n C 0 dX10_image_9 rfl rfl ?_
  obtain ⟨g4, h⟩ := gd_some h
  refine fw_getR C 10 0 (Nat.le_of_ble_eq_true rfl) (Nat.le_of_ble_eq_true rfl) wf_X10_9 rfl (gO_of g1) (gN_of g4) dX10_image_10 ?_
  obtain ⟨M5, e5, h⟩ := b1_some h
  refine fw_callS [_, _] C (c_X10_copy hl e5) cal_X10_copy wm_X10_240 wt_yX10_copy rfl (Nat.le_of_ble_eq_true rfl) ⟨Nat.le_of_ble_eq_true rfl, Nat.le_of_ble_eq_true rfl⟩ ⟨Nat.zero_le _, Nat.zero_le _⟩ dX10_image_13 ?_
  refine fw_aload_n C 0 dX10_image_16 rfl rfl ?_
  refine fw_iconst C 1 dX10_image_17 rfl ?_
  refine fw_putI C 10 4 (Nat.le_of_ble_eq_true rfl) (Nat.le_of_ble_eq_true rfl) wf_X10_244 rfl rfl rfl rfl (gO_of g1) dX10_image_18 ?_
  refine fw_bm h (fun M6 h => ?_)
  obtain rfl := Option.some.inj h
  exact fw_vret C hr hlk dX10_image_21
set_option maxRecDepth 100000 in
def f_X10_back (S : List fw_Sh) (M : fw_Mem) (a0 : Nat) : Option (Int32 × fw_Mem) := gd (gO S 10 a0) (bm (fw_set M a0 6 0) (fun M2 => if (M2 a0 4) = 0 then (some (0, M2)) else (gd (gN (M2 a0 0)) (gd (gN (M2 a0 2)) (b1 (f_X10_copy S M2 ((M2 a0 0).toNatClampNeg) ((M2 a0 2).toNatClampNeg)) (fun M6 => bm (fw_set M6 a0 5 0) (fun M7 => some (1, M7))))))))
set_option maxHeartbeats 4000000 in
set_option maxRecDepth 100000 in
theorem c_X10_back {l : Launch} {G : fw_G} {S : List fw_Sh} {M : fw_Mem} {a0 : Nat} {r : (Int32 × fw_Mem)} (hl : l.stackTraces = false) (h : f_X10_back S M a0 = some r) : fw_M l G yX10_back (.code yX10_back cX10_back 1 (some .boolean)) 2 (fw_mcO (.inl (some (.int r.1)), S, r.2)) (fw_msO (.inl (some (.int r.1)), S, r.2)) S M [.ref a0] (.inl (some (.int r.1)), S, r.2) := by
  refine fw_of [(0, .ref a0)] (by decide) (Nat.le_of_ble_eq_true rfl) rfl ?_
  intro p e s m args below meth c C hr hlk hnm ht _
  unfold f_X10_back at h
  refine fw_aload_n C 0 dX10_back_0 rfl rfl ?_
  refine fw_iconst C 0 dX10_back_1 rfl ?_
  obtain ⟨g1, h⟩ := gd_some h
  refine fw_putI C 10 6 (Nat.le_of_ble_eq_true rfl) (Nat.le_of_ble_eq_true rfl) wf_X10_51 rfl rfl rfl rfl (gO_of g1) dX10_back_2 ?_
  refine fw_bm h (fun M2 h => ?_)
  refine fw_aload_n C 0 dX10_back_5 rfl rfl ?_
  refine fw_getI C 10 4 (Nat.le_of_ble_eq_true rfl) (Nat.le_of_ble_eq_true rfl) wf_X10_244 rfl (gO_of g1) dX10_back_6 ?_
  refine fw_if_ne C 14 dX10_back_9 (by decide) (fun c3 => ?_) (fun c3 => ?_)
  · replace h := (if_neg c3).symm.trans h
    refine fw_aload_n C 0 dX10_back_14 rfl rfl ?_
    obtain ⟨g4, h⟩ := gd_some h
    refine fw_getR C 10 0 (Nat.le_of_ble_eq_true rfl) (Nat.le_of_ble_eq_true rfl) wf_X10_9 rfl (gO_of g1) (gN_of g4) dX10_back_15 ?_
    refine fw_aload_n C 0 dX10_back_18 rfl rfl ?_
    obtain ⟨g5, h⟩ := gd_some h
    refine fw_getR C 10 2 (Nat.le_of_ble_eq_true rfl) (Nat.le_of_ble_eq_true rfl) wf_X10_16 rfl (gO_of g1) (gN_of g5) dX10_back_19 ?_
    obtain ⟨M6, e6, h⟩ := b1_some h
    refine fw_callS [_, _] C (c_X10_copy hl e6) cal_X10_copy wm_X10_240 wt_yX10_copy rfl (Nat.le_of_ble_eq_true rfl) ⟨Nat.le_of_ble_eq_true rfl, Nat.le_of_ble_eq_true rfl⟩ ⟨Nat.zero_le _, Nat.zero_le _⟩ dX10_back_22 ?_
    refine fw_aload_n C 0 dX10_back_25 rfl rfl ?_
    refine fw_iconst C 0 dX10_back_26 rfl ?_
    refine fw_putI C 10 5 (Nat.le_of_ble_eq_true rfl) (Nat.le_of_ble_eq_true rfl) wf_X10_162 rfl rfl rfl rfl (gO_of g1) dX10_back_27 ?_
    refine fw_bm h (fun M7 h => ?_)
    refine fw_iconst C 1 dX10_back_30 rfl ?_
    obtain rfl := Option.some.inj h
    exact fw_zret C hr (Or.inr rfl) hlk dX10_back_31
  · replace h := (if_pos c3).symm.trans h
    refine fw_iconst C 0 dX10_back_12 rfl ?_
    obtain rfl := Option.some.inj h
    exact fw_zret C hr (Or.inl rfl) hlk dX10_back_13
set_option maxRecDepth 100000 in
def lf_X10_feed_23 (S : List fw_Sh) (a0 : Nat) (x1 : Int32) (x2 : Int32) (x3 : Int32) (x4 : Int32) (x5 : Int32) : Nat → Int32 → fw_Mem → Option (fw_Mem)
  | 0, _, _ => none
  | n + 1, x6, M => if (20 : Int32) ≤ x6 then (some M) else (if (4 : Int32) ≤ x6 then (if (8 : Int32) ≤ x6 then (if (12 : Int32) ≤ x6 then (if (16 : Int32) ≤ x6 then (gd (gO S 10 a0) (gd (gN (M a0 14)) (gd (gA S 0 ((M a0 14).toNatClampNeg) (M a0 15)) (bm (fw_set M ((M a0 14).toNatClampNeg) (M a0 15).toNatClampNeg ((x5 >>> (((24 : Int32) - ((8 : Int32) * (x6 - x6 / 4 * 4))) &&& 31)) &&& 255)) (fun M12 => bm (fw_set M12 a0 15 ((M12 a0 15) + 1)) (fun M13 => lf_X10_feed_23 S a0 x1 x2 x3 x4 x5 n (x6 + 1) M13)))))) else (gd (gO S 10 a0) (gd (gN (M a0 14)) (gd (gA S 0 ((M a0 14).toNatClampNeg) (M a0 15)) (bm (fw_set M ((M a0 14).toNatClampNeg) (M a0 15).toNatClampNeg ((x4 >>> (((24 : Int32) - ((8 : Int32) * (x6 - x6 / 4 * 4))) &&& 31)) &&& 255)) (fun M17 => bm (fw_set M17 a0 15 ((M17 a0 15) + 1)) (fun M18 => lf_X10_feed_23 S a0 x1 x2 x3 x4 x5 n (x6 + 1) M18))))))) else (gd (gO S 10 a0) (gd (gN (M a0 14)) (gd (gA S 0 ((M a0 14).toNatClampNeg) (M a0 15)) (bm (fw_set M ((M a0 14).toNatClampNeg) (M a0 15).toNatClampNeg ((x3 >>> (((24 : Int32) - ((8 : Int32) * (x6 - x6 / 4 * 4))) &&& 31)) &&& 255)) (fun M22 => bm (fw_set M22 a0 15 ((M22 a0 15) + 1)) (fun M23 => lf_X10_feed_23 S a0 x1 x2 x3 x4 x5 n (x6 + 1) M23))))))) else (gd (gO S 10 a0) (gd (gN (M a0 14)) (gd (gA S 0 ((M a0 14).toNatClampNeg) (M a0 15)) (bm (fw_set M ((M a0 14).toNatClampNeg) (M a0 15).toNatClampNeg ((x2 >>> (((24 : Int32) - ((8 : Int32) * (x6 - x6 / 4 * 4))) &&& 31)) &&& 255)) (fun M27 => bm (fw_set M27 a0 15 ((M27 a0 15) + 1)) (fun M28 => lf_X10_feed_23 S a0 x1 x2 x3 x4 x5 n (x6 + 1) M28))))))) else (gd (gO S 10 a0) (gd (gN (M a0 14)) (gd (gA S 0 ((M a0 14).toNatClampNeg) (M a0 15)) (bm (fw_set M ((M a0 14).toNatClampNeg) (M a0 15).toNatClampNeg ((x1 >>> (((24 : Int32) - ((8 : Int32) * (x6 - x6 / 4 * 4))) &&& 31)) &&& 255)) (fun M32 => bm (fw_set M32 a0 15 ((M32 a0 15) + 1)) (fun M33 => lf_X10_feed_23 S a0 x1 x2 x3 x4 x5 n (x6 + 1) M33)))))))
set_option maxHeartbeats 4000000 in
set_option maxRecDepth 100000 in
theorem lc_X10_feed_23 {G : fw_G} {p : Program} {l : Launch} {e : Env} {s : State} {m : MethodId} {args : Array Value} {below : List Frame} {meth : Method} {c : Code} {S : List fw_Sh} {o : fw_O} {a0 : Nat} {x1 : Int32} {x2 : Int32} {x3 : Int32} {x4 : Int32} {x5 : Int32} (C : fw_C G RX10 cX10_feed 8 p s m args c) (hr : meth.sig.returnType = (some .int)) (hlk : meth.locks = false) (hl : l.stackTraces = false) (ht : ∀ x ∈ c.exceptionTable.toList, False) :
    ∀ {n : Nat} {x6 : Int32} {M : fw_Mem} {r : (fw_Mem)} (h : lf_X10_feed_23 S a0 x1 x2 x3 x4 x5 n x6 M = some r) (kx : fw_W G p l e (fw_rm 1 (fw_mcO o) (fw_msO o)) s m args below meth c 8 (fw_Z G below args s (fw_mcO o) (fw_msO o) o) 0 0 120 [(0, .ref a0)] [] S r), fw_W G p l e (fw_rm 1 (fw_mcO o) (fw_msO o)) s m args below meth c 8 (fw_Z G below args s (fw_mcO o) (fw_msO o) o) 0 0 23 [(0, .ref a0), (1, .int x1), (2, .int x2), (3, .int x3), (4, .int x4), (5, .int x5), (6, .int x6)] [] S M := by
  intro n
  induction n with
  | zero =>
    intro x6 M r h
    exact nomatch (show (none : Option (fw_Mem)) = some r from h)
  | succ n ih =>
    intro x6 M r h kx
    rw [lf_X10_feed_23.eq_2] at h
    refine fw_iload C 6 dX10_feed_23 rfl ?_
    refine fw_bipush C 20 dX10_feed_25 rfl ?_
    refine fw_icmp_ge C 120 dX10_feed_27 (by decide) (fun c4 => ?_) (fun c4 => ?_)
    · replace h := (if_pos c4).symm.trans h
      obtain rfl := Option.some.inj h
      refine fw_sub [0] rfl ?_
      exact kx
    · replace h := (if_neg c4).symm.trans h
      refine fw_iload C 6 dX10_feed_30 rfl ?_
      refine fw_iconst C 4 dX10_feed_32 rfl ?_
      refine fw_icmp_ge C 40 dX10_feed_33 (by decide) (fun c5 => ?_) (fun c5 => ?_)
      · replace h := (if_pos c5).symm.trans h
        refine fw_iload C 6 dX10_feed_40 rfl ?_
        refine fw_bipush C 8 dX10_feed_42 rfl ?_
        refine fw_icmp_ge C 51 dX10_feed_44 (by decide) (fun c6 => ?_) (fun c6 => ?_)
        · replace h := (if_pos c6).symm.trans h
          refine fw_iload C 6 dX10_feed_51 rfl ?_
          refine fw_bipush C 12 dX10_feed_53 rfl ?_
          refine fw_icmp_ge C 62 dX10_feed_55 (by decide) (fun c7 => ?_) (fun c7 => ?_)
          · replace h := (if_pos c7).symm.trans h
            refine fw_iload C 6 dX10_feed_62 rfl ?_
            refine fw_bipush C 16 dX10_feed_64 rfl ?_
            refine fw_icmp_ge C 74 dX10_feed_66 (by decide) (fun c8 => ?_) (fun c8 => ?_)
            · replace h := (if_pos c8).symm.trans h
              refine fw_iload C 5 dX10_feed_74 rfl ?_
              refine fw_istore C [(7, _), (0, _), (1, _), (2, _), (3, _), (4, _), (5, _), (6, _)] dX10_feed_76 (Nat.le_of_ble_eq_true rfl) rfl ?_
              refine fw_aload_n C 1 dX10_feed_78 rfl rfl ?_
              obtain ⟨g9, h⟩ := gd_some h
              obtain ⟨g10, h⟩ := gd_some h
              refine fw_getR C 10 14 (Nat.le_of_ble_eq_true rfl) (Nat.le_of_ble_eq_true rfl) wf_X10_40 rfl (gO_of g9) (gN_of g10) dX10_feed_79 ?_
              refine fw_aload_n C 1 dX10_feed_82 rfl rfl ?_
              refine fw_getI C 10 15 (Nat.le_of_ble_eq_true rfl) (Nat.le_of_ble_eq_true rfl) wf_X10_165 rfl (gO_of g9) dX10_feed_83 ?_
              refine fw_iload C 0 dX10_feed_86 rfl ?_
              refine fw_bipush C 24 dX10_feed_88 rfl ?_
              refine fw_bipush C 8 dX10_feed_90 rfl ?_
              refine fw_iload C 7 dX10_feed_92 rfl ?_
              refine fw_iconst C 4 dX10_feed_94 rfl ?_
              refine fw_irem C dX10_feed_95 (by decide) ?_
              refine fw_imul C dX10_feed_96 ?_
              refine fw_isub C dX10_feed_97 ?_
              refine fw_ishr C dX10_feed_98 ?_
              refine fw_sipush C 255 dX10_feed_99 rfl ?_
              refine fw_iand C dX10_feed_102 ?_
              obtain ⟨g11, h⟩ := gd_some h
              refine fw_iast C (gA_of g11) dX10_feed_103 ?_
              refine fw_bm h (fun M12 h => ?_)
              refine fw_aload_n C 1 dX10_feed_104 rfl rfl ?_
              refine fw_dup C dX10_feed_105 rfl ?_
              refine fw_getI C 10 15 (Nat.le_of_ble_eq_true rfl) (Nat.le_of_ble_eq_true rfl) wf_X10_165 rfl (gO_of g9) dX10_feed_106 ?_
              refine fw_iconst C 1 dX10_feed_109 rfl ?_
              refine fw_iadd C dX10_feed_110 ?_
              refine fw_putI C 10 15 (Nat.le_of_ble_eq_true rfl) (Nat.le_of_ble_eq_true rfl) wf_X10_165 rfl rfl rfl rfl (gO_of g9) dX10_feed_111 ?_
              refine fw_bm h (fun M13 h => ?_)
              refine fw_iinc C _ 7 [(6, _), (7, _), (0, _), (1, _), (2, _), (3, _), (4, _), (5, _)] dX10_feed_114 rfl rfl (Nat.le_of_ble_eq_true rfl) rfl ?_
              refine fw_goto C 23 dX10_feed_117 (by decide) ?_
              refine fw_sub [2, 3, 4, 5, 6, 7, 0] rfl ?_
              exact ih h kx
            · replace h := (if_neg c8).symm.trans h
              refine fw_iload C 4 dX10_feed_69 rfl ?_
              refine fw_goto C 76 dX10_feed_71 (by decide) ?_
              refine fw_istore C [(7, _), (0, _), (1, _), (2, _), (3, _), (4, _), (5, _), (6, _)] dX10_feed_76 (Nat.le_of_ble_eq_true rfl) rfl ?_
              refine fw_aload_n C 1 dX10_feed_78 rfl rfl ?_
              obtain ⟨g14, h⟩ := gd_some h
              obtain ⟨g15, h⟩ := gd_some h
              refine fw_getR C 10 14 (Nat.le_of_ble_eq_true rfl) (Nat.le_of_ble_eq_true rfl) wf_X10_40 rfl (gO_of g14) (gN_of g15) dX10_feed_79 ?_
              refine fw_aload_n C 1 dX10_feed_82 rfl rfl ?_
              refine fw_getI C 10 15 (Nat.le_of_ble_eq_true rfl) (Nat.le_of_ble_eq_true rfl) wf_X10_165 rfl (gO_of g14) dX10_feed_83 ?_
              refine fw_iload C 0 dX10_feed_86 rfl ?_
              refine fw_bipush C 24 dX10_feed_88 rfl ?_
              refine fw_bipush C 8 dX10_feed_90 rfl ?_
              refine fw_iload C 7 dX10_feed_92 rfl ?_
              refine fw_iconst C 4 dX10_feed_94 rfl ?_
              refine fw_irem C dX10_feed_95 (by decide) ?_
              refine fw_imul C dX10_feed_96 ?_
              refine fw_isub C dX10_feed_97 ?_
              refine fw_ishr C dX10_feed_98 ?_
              refine fw_sipush C 255 dX10_feed_99 rfl ?_
              refine fw_iand C dX10_feed_102 ?_
              obtain ⟨g16, h⟩ := gd_some h
              refine fw_iast C (gA_of g16) dX10_feed_103 ?_
              refine fw_bm h (fun M17 h => ?_)
              refine fw_aload_n C 1 dX10_feed_104 rfl rfl ?_
              refine fw_dup C dX10_feed_105 rfl ?_
              refine fw_getI C 10 15 (Nat.le_of_ble_eq_true rfl) (Nat.le_of_ble_eq_true rfl) wf_X10_165 rfl (gO_of g14) dX10_feed_106 ?_
              refine fw_iconst C 1 dX10_feed_109 rfl ?_
              refine fw_iadd C dX10_feed_110 ?_
              refine fw_putI C 10 15 (Nat.le_of_ble_eq_true rfl) (Nat.le_of_ble_eq_true rfl) wf_X10_165 rfl rfl rfl rfl (gO_of g14) dX10_feed_111 ?_
              refine fw_bm h (fun M18 h => ?_)
              refine fw_iinc C _ 7 [(6, _), (7, _), (0, _), (1, _), (2, _), (3, _), (4, _), (5, _)] dX10_feed_114 rfl rfl (Nat.le_of_ble_eq_true rfl) rfl ?_
              refine fw_goto C 23 dX10_feed_117 (by decide) ?_
              refine fw_sub [2, 3, 4, 5, 6, 7, 0] rfl ?_
              exact ih h kx
          · replace h := (if_neg c7).symm.trans h
            refine fw_iload_n C 3 dX10_feed_58 rfl rfl ?_
            refine fw_goto C 76 dX10_feed_59 (by decide) ?_
            refine fw_istore C [(7, _), (0, _), (1, _), (2, _), (3, _), (4, _), (5, _), (6, _)] dX10_feed_76 (Nat.le_of_ble_eq_true rfl) rfl ?_
            refine fw_aload_n C 1 dX10_feed_78 rfl rfl ?_
            obtain ⟨g19, h⟩ := gd_some h
            obtain ⟨g20, h⟩ := gd_some h
            refine fw_getR C 10 14 (Nat.le_of_ble_eq_true rfl) (Nat.le_of_ble_eq_true rfl) wf_X10_40 rfl (gO_of g19) (gN_of g20) dX10_feed_79 ?_
            refine fw_aload_n C 1 dX10_feed_82 rfl rfl ?_
            refine fw_getI C 10 15 (Nat.le_of_ble_eq_true rfl) (Nat.le_of_ble_eq_true rfl) wf_X10_165 rfl (gO_of g19) dX10_feed_83 ?_
            refine fw_iload C 0 dX10_feed_86 rfl ?_
            refine fw_bipush C 24 dX10_feed_88 rfl ?_
            refine fw_bipush C 8 dX10_feed_90 rfl ?_
            refine fw_iload C 7 dX10_feed_92 rfl ?_
            refine fw_iconst C 4 dX10_feed_94 rfl ?_
            refine fw_irem C dX10_feed_95 (by decide) ?_
            refine fw_imul C dX10_feed_96 ?_
            refine fw_isub C dX10_feed_97 ?_
            refine fw_ishr C dX10_feed_98 ?_
            refine fw_sipush C 255 dX10_feed_99 rfl ?_
            refine fw_iand C dX10_feed_102 ?_
            obtain ⟨g21, h⟩ := gd_some h
            refine fw_iast C (gA_of g21) dX10_feed_103 ?_
            refine fw_bm h (fun M22 h => ?_)
            refine fw_aload_n C 1 dX10_feed_104 rfl rfl ?_
            refine fw_dup C dX10_feed_105 rfl ?_
            refine fw_getI C 10 15 (Nat.le_of_ble_eq_true rfl) (Nat.le_of_ble_eq_true rfl) wf_X10_165 rfl (gO_of g19) dX10_feed_106 ?_
            refine fw_iconst C 1 dX10_feed_109 rfl ?_
            refine fw_iadd C dX10_feed_110 ?_
            refine fw_putI C 10 15 (Nat.le_of_ble_eq_true rfl) (Nat.le_of_ble_eq_true rfl) wf_X10_165 rfl rfl rfl rfl (gO_of g19) dX10_feed_111 ?_
            refine fw_bm h (fun M23 h => ?_)
            refine fw_iinc C _ 7 [(6, _), (7, _), (0, _), (1, _), (2, _), (3, _), (4, _), (5, _)] dX10_feed_114 rfl rfl (Nat.le_of_ble_eq_true rfl) rfl ?_
            refine fw_goto C 23 dX10_feed_117 (by decide) ?_
            refine fw_sub [2, 3, 4, 5, 6, 7, 0] rfl ?_
            exact ih h kx
        · replace h := (if_neg c6).symm.trans h
          refine fw_iload_n C 2 dX10_feed_47 rfl rfl ?_
          refine fw_goto C 76 dX10_feed_48 (by decide) ?_
          refine fw_istore C [(7, _), (0, _), (1, _), (2, _), (3, _), (4, _), (5, _), (6, _)] dX10_feed_76 (Nat.le_of_ble_eq_true rfl) rfl ?_
          refine fw_aload_n C 1 dX10_feed_78 rfl rfl ?_
          obtain ⟨g24, h⟩ := gd_some h
          obtain ⟨g25, h⟩ := gd_some h
          refine fw_getR C 10 14 (Nat.le_of_ble_eq_true rfl) (Nat.le_of_ble_eq_true rfl) wf_X10_40 rfl (gO_of g24) (gN_of g25) dX10_feed_79 ?_
          refine fw_aload_n C 1 dX10_feed_82 rfl rfl ?_
          refine fw_getI C 10 15 (Nat.le_of_ble_eq_true rfl) (Nat.le_of_ble_eq_true rfl) wf_X10_165 rfl (gO_of g24) dX10_feed_83 ?_
          refine fw_iload C 0 dX10_feed_86 rfl ?_
          refine fw_bipush C 24 dX10_feed_88 rfl ?_
          refine fw_bipush C 8 dX10_feed_90 rfl ?_
          refine fw_iload C 7 dX10_feed_92 rfl ?_
          refine fw_iconst C 4 dX10_feed_94 rfl ?_
          refine fw_irem C dX10_feed_95 (by decide) ?_
          refine fw_imul C dX10_feed_96 ?_
          refine fw_isub C dX10_feed_97 ?_
          refine fw_ishr C dX10_feed_98 ?_
          refine fw_sipush C 255 dX10_feed_99 rfl ?_
          refine fw_iand C dX10_feed_102 ?_
          obtain ⟨g26, h⟩ := gd_some h
          refine fw_iast C (gA_of g26) dX10_feed_103 ?_
          refine fw_bm h (fun M27 h => ?_)
          refine fw_aload_n C 1 dX10_feed_104 rfl rfl ?_
          refine fw_dup C dX10_feed_105 rfl ?_
          refine fw_getI C 10 15 (Nat.le_of_ble_eq_true rfl) (Nat.le_of_ble_eq_true rfl) wf_X10_165 rfl (gO_of g24) dX10_feed_106 ?_
          refine fw_iconst C 1 dX10_feed_109 rfl ?_
          refine fw_iadd C dX10_feed_110 ?_
          refine fw_putI C 10 15 (Nat.le_of_ble_eq_true rfl) (Nat.le_of_ble_eq_true rfl) wf_X10_165 rfl rfl rfl rfl (gO_of g24) dX10_feed_111 ?_
          refine fw_bm h (fun M28 h => ?_)
          refine fw_iinc C _ 7 [(6, _), (7, _), (0, _), (1, _), (2, _), (3, _), (4, _), (5, _)] dX10_feed_114 rfl rfl (Nat.le_of_ble_eq_true rfl) rfl ?_
          refine fw_goto C 23 dX10_feed_117 (by decide) ?_
          refine fw_sub [2, 3, 4, 5, 6, 7, 0] rfl ?_
          exact ih h kx
      · replace h := (if_neg c5).symm.trans h
        refine fw_iload_n C 1 dX10_feed_36 rfl rfl ?_
        refine fw_goto C 76 dX10_feed_37 (by decide) ?_
        refine fw_istore C [(7, _), (0, _), (1, _), (2, _), (3, _), (4, _), (5, _), (6, _)] dX10_feed_76 (Nat.le_of_ble_eq_true rfl) rfl ?_
        refine fw_aload_n C 1 dX10_feed_78 rfl rfl ?_
        obtain ⟨g29, h⟩ := gd_some h
        obtain ⟨g30, h⟩ := gd_some h
        refine fw_getR C 10 14 (Nat.le_of_ble_eq_true rfl) (Nat.le_of_ble_eq_true rfl) wf_X10_40 rfl (gO_of g29) (gN_of g30) dX10_feed_79 ?_
        refine fw_aload_n C 1 dX10_feed_82 rfl rfl ?_
        refine fw_getI C 10 15 (Nat.le_of_ble_eq_true rfl) (Nat.le_of_ble_eq_true rfl) wf_X10_165 rfl (gO_of g29) dX10_feed_83 ?_
        refine fw_iload C 0 dX10_feed_86 rfl ?_
        refine fw_bipush C 24 dX10_feed_88 rfl ?_
        refine fw_bipush C 8 dX10_feed_90 rfl ?_
        refine fw_iload C 7 dX10_feed_92 rfl ?_
        refine fw_iconst C 4 dX10_feed_94 rfl ?_
        refine fw_irem C dX10_feed_95 (by decide) ?_
        refine fw_imul C dX10_feed_96 ?_
        refine fw_isub C dX10_feed_97 ?_
        refine fw_ishr C dX10_feed_98 ?_
        refine fw_sipush C 255 dX10_feed_99 rfl ?_
        refine fw_iand C dX10_feed_102 ?_
        obtain ⟨g31, h⟩ := gd_some h
        refine fw_iast C (gA_of g31) dX10_feed_103 ?_
        refine fw_bm h (fun M32 h => ?_)
        refine fw_aload_n C 1 dX10_feed_104 rfl rfl ?_
        refine fw_dup C dX10_feed_105 rfl ?_
        refine fw_getI C 10 15 (Nat.le_of_ble_eq_true rfl) (Nat.le_of_ble_eq_true rfl) wf_X10_165 rfl (gO_of g29) dX10_feed_106 ?_
        refine fw_iconst C 1 dX10_feed_109 rfl ?_
        refine fw_iadd C dX10_feed_110 ?_
        refine fw_putI C 10 15 (Nat.le_of_ble_eq_true rfl) (Nat.le_of_ble_eq_true rfl) wf_X10_165 rfl rfl rfl rfl (gO_of g29) dX10_feed_111 ?_
        refine fw_bm h (fun M33 h => ?_)
        refine fw_iinc C _ 7 [(6, _), (7, _), (0, _), (1, _), (2, _), (3, _), (4, _), (5, _)] dX10_feed_114 rfl rfl (Nat.le_of_ble_eq_true rfl) rfl ?_
        refine fw_goto C 23 dX10_feed_117 (by decide) ?_
        refine fw_sub [2, 3, 4, 5, 6, 7, 0] rfl ?_
        exact ih h kx
set_option maxRecDepth 100000 in
def f_X10_feed (S : List fw_Sh) (M : fw_Mem) (a0 : Nat) (x1 : Int32) (x2 : Int32) (x3 : Int32) (x4 : Int32) (x5 : Int32) : Option (Int32 × fw_Mem) := gd (gO S 10 a0) (bm (fw_set M a0 6 0) (fun M2 => if ((M2 a0 15) + 20) ≤ 600 then (b1 (lf_X10_feed_23 S a0 x1 x2 x3 x4 x5 20000 0 M2) (fun l34 => some ((l34 a0 15), l34))) else (some ((-1), M2))))
set_option maxHeartbeats 4000000 in
set_option maxRecDepth 100000 in
theorem c_X10_feed {l : Launch} {G : fw_G} {S : List fw_Sh} {M : fw_Mem} {a0 : Nat} {x1 : Int32} {x2 : Int32} {x3 : Int32} {x4 : Int32} {x5 : Int32} {r : (Int32 × fw_Mem)} (hl : l.stackTraces = false) (h : f_X10_feed S M a0 x1 x2 x3 x4 x5 = some r) : fw_M l G yX10_feed (.code yX10_feed cX10_feed 8 (some .int)) 1 (fw_mcO (.inl (some (.int r.1)), S, r.2)) (fw_msO (.inl (some (.int r.1)), S, r.2)) S M [.ref a0, .int x1, .int x2, .int x3, .int x4, .int x5] (.inl (some (.int r.1)), S, r.2) := by
  refine fw_of [(0, .ref a0), (1, .int x1), (2, .int x2), (3, .int x3), (4, .int x4), (5, .int x5)] (by decide) (Nat.le_of_ble_eq_true rfl) rfl ?_
  intro p e s m args below meth c C hr hlk hnm ht _
  unfold f_X10_feed at h
  refine fw_aload_n C 0 dX10_feed_0 rfl rfl ?_
  refine fw_iconst C 0 dX10_feed_1 rfl ?_
  obtain ⟨g1, h⟩ := gd_some h
  refine fw_putI C 10 6 (Nat.le_of_ble_eq_true rfl) (Nat.le_of_ble_eq_true rfl) wf_X10_51 rfl rfl rfl rfl (gO_of g1) dX10_feed_2 ?_
  refine fw_bm h (fun M2 h => ?_)
  refine fw_aload_n C 0 dX10_feed_5 rfl rfl ?_
  refine fw_getI C 10 15 (Nat.le_of_ble_eq_true rfl) (Nat.le_of_ble_eq_true rfl) wf_X10_165 rfl (gO_of g1) dX10_feed_6 ?_
  refine fw_bipush C 20 dX10_feed_9 rfl ?_
  refine fw_iadd C dX10_feed_11 ?_
  refine fw_sipush C 600 dX10_feed_12 rfl ?_
  refine fw_icmp_le C 20 dX10_feed_15 (by decide) (fun c3 => ?_) (fun c3 => ?_)
  · replace h := (if_pos c3).symm.trans h
    refine fw_iconst C 0 dX10_feed_20 rfl ?_
    refine fw_istore C [(6, _), (0, _), (1, _), (2, _), (3, _), (4, _), (5, _)] dX10_feed_21 (Nat.le_of_ble_eq_true rfl) rfl ?_
    refine fw_sub [1, 2, 3, 4, 5, 6, 0] rfl ?_
    obtain ⟨l34, e34, h⟩ := b1_some h
    refine lc_X10_feed_23 C hr hlk hl ht e34 ?_
    refine fw_aload_n C 0 dX10_feed_120 rfl rfl ?_
    refine fw_getI C 10 15 (Nat.le_of_ble_eq_true rfl) (Nat.le_of_ble_eq_true rfl) wf_X10_165 rfl (gO_of g1) dX10_feed_121 ?_
    obtain rfl := Option.some.inj h
    exact fw_iret C hr hlk dX10_feed_124
  · replace h := (if_neg c3).symm.trans h
    refine fw_iconst C (-1) dX10_feed_18 rfl ?_
    obtain rfl := Option.some.inj h
    exact fw_iret C hr hlk dX10_feed_19
set_option maxRecDepth 100000 in
def f_X10_fault (S : List fw_Sh) (M : fw_Mem) (a0 : Nat) : Option (Int32 × fw_Mem) := gd (gO S 10 a0) (bm (fw_set M a0 6 0) (fun M2 => some ((M2 a0 23), M2)))
set_option maxHeartbeats 4000000 in
set_option maxRecDepth 100000 in
theorem c_X10_fault {l : Launch} {G : fw_G} {S : List fw_Sh} {M : fw_Mem} {a0 : Nat} {r : (Int32 × fw_Mem)} (hl : l.stackTraces = false) (h : f_X10_fault S M a0 = some r) : fw_M l G yX10_fault (.code yX10_fault cX10_fault 1 (some .int)) 1 (fw_mcO (.inl (some (.int r.1)), S, r.2)) (fw_msO (.inl (some (.int r.1)), S, r.2)) S M [.ref a0] (.inl (some (.int r.1)), S, r.2) := by
  refine fw_of [(0, .ref a0)] (by decide) (Nat.le_of_ble_eq_true rfl) rfl ?_
  intro p e s m args below meth c C hr hlk hnm ht _
  unfold f_X10_fault at h
  refine fw_aload_n C 0 dX10_fault_0 rfl rfl ?_
  refine fw_iconst C 0 dX10_fault_1 rfl ?_
  obtain ⟨g1, h⟩ := gd_some h
  refine fw_putI C 10 6 (Nat.le_of_ble_eq_true rfl) (Nat.le_of_ble_eq_true rfl) wf_X10_51 rfl rfl rfl rfl (gO_of g1) dX10_fault_2 ?_
  refine fw_bm h (fun M2 h => ?_)
  refine fw_aload_n C 0 dX10_fault_5 rfl rfl ?_
  refine fw_getI C 10 23 (Nat.le_of_ble_eq_true rfl) (Nat.le_of_ble_eq_true rfl) wf_X10_43 rfl (gO_of g1) dX10_fault_6 ?_
  obtain rfl := Option.some.inj h
  exact fw_iret C hr hlk dX10_fault_9
set_option maxRecDepth 100000 in
def f_X10_byteAt (S : List fw_Sh) (M : fw_Mem) (a0 : Nat) (x1 : Int32) : Option Int32 := gd (gO S 10 a0) (if (M a0 16) ≤ x1 then (some (-1)) else (gd (gN (M a0 14)) (gd (gA S 0 ((M a0 14).toNatClampNeg) x1) (some (M ((M a0 14).toNatClampNeg) x1.toNatClampNeg)))))
set_option maxHeartbeats 4000000 in
set_option maxRecDepth 100000 in
theorem c_X10_byteAt {l : Launch} {G : fw_G} {S : List fw_Sh} {M : fw_Mem} {a0 : Nat} {x1 : Int32} {r : Int32} (hl : l.stackTraces = false) (h : f_X10_byteAt S M a0 x1 = some r) : fw_M l G yX10_byteAt (.code yX10_byteAt cX10_byteAt 2 (some .int)) 1 (fw_mcO (.inl (some (.int r)), S, M)) (fw_msO (.inl (some (.int r)), S, M)) S M [.ref a0, .int x1] (.inl (some (.int r)), S, M) := by
  refine fw_of [(0, .ref a0), (1, .int x1)] (by decide) (Nat.le_of_ble_eq_true rfl) rfl ?_
  intro p e s m args below meth c C hr hlk hnm ht _
  unfold f_X10_byteAt at h
  refine fw_iload_n C 1 dX10_byteAt_0 rfl rfl ?_
  refine fw_aload_n C 0 dX10_byteAt_1 rfl rfl ?_
  obtain ⟨g1, h⟩ := gd_some h
  refine fw_getI C 10 16 (Nat.le_of_ble_eq_true rfl) (Nat.le_of_ble_eq_true rfl) wf_X10_248 rfl (gO_of g1) dX10_byteAt_2 ?_
  refine fw_icmp_ge C 17 dX10_byteAt_5 (by decide) (fun c2 => ?_) (fun c2 => ?_)
  · replace h := (if_pos c2).symm.trans h
    refine fw_iconst C (-1) dX10_byteAt_17 rfl ?_
    obtain rfl := Option.some.inj h
    exact fw_iret C hr hlk dX10_byteAt_18
  · replace h := (if_neg c2).symm.trans h
    refine fw_aload_n C 0 dX10_byteAt_8 rfl rfl ?_
    obtain ⟨g3, h⟩ := gd_some h
    refine fw_getR C 10 14 (Nat.le_of_ble_eq_true rfl) (Nat.le_of_ble_eq_true rfl) wf_X10_40 rfl (gO_of g1) (gN_of g3) dX10_byteAt_9 ?_
    refine fw_iload_n C 1 dX10_byteAt_12 rfl rfl ?_
    obtain ⟨g4, h⟩ := gd_some h
    refine fw_iald C (gA_of g4) dX10_byteAt_13 ?_
    refine fw_goto C 18 dX10_byteAt_14 (by decide) ?_
    obtain rfl := Option.some.inj h
    exact fw_iret C hr hlk dX10_byteAt_18
set_option maxRecDepth 100000 in
def f_X10_isSmall (S : List fw_Sh) (M : fw_Mem) (x0 : Int32) : Option Int32 := if x0 < 97 then (some 0) else (if (122 : Int32) < x0 then (some 0) else (some 1))
set_option maxHeartbeats 4000000 in
set_option maxRecDepth 100000 in
theorem c_X10_isSmall {l : Launch} {G : fw_G} {S : List fw_Sh} {M : fw_Mem} {x0 : Int32} {r : Int32} (hl : l.stackTraces = false) (h : f_X10_isSmall S M x0 = some r) : fw_M l G yX10_isSmall (.code yX10_isSmall cX10_isSmall 1 (some .boolean)) 1 (fw_mcO (.inl (some (.int r)), S, M)) (fw_msO (.inl (some (.int r)), S, M)) S M [.int x0] (.inl (some (.int r)), S, M) := by
  refine fw_of [(0, .int x0)] (by decide) (Nat.le_of_ble_eq_true rfl) rfl ?_
  intro p e s m args below meth c C hr hlk hnm ht _
  unfold f_X10_isSmall at h
  refine fw_iload_n C 0 dX10_isSmall_0 rfl rfl ?_
  refine fw_bipush C 97 dX10_isSmall_1 rfl ?_
  refine fw_icmp_lt C 16 dX10_isSmall_3 (by decide) (fun c1 => ?_) (fun c1 => ?_)
  · replace h := (if_pos c1).symm.trans h
    refine fw_iconst C 0 dX10_isSmall_16 rfl ?_
    obtain rfl := Option.some.inj h
    exact fw_zret C hr (Or.inl rfl) hlk dX10_isSmall_17
  · replace h := (if_neg c1).symm.trans h
    refine fw_iload_n C 0 dX10_isSmall_6 rfl rfl ?_
    refine fw_bipush C 122 dX10_isSmall_7 rfl ?_
    refine fw_icmp_gt C 16 dX10_isSmall_9 (by decide) (fun c2 => ?_) (fun c2 => ?_)
    · replace h := (if_pos c2).symm.trans h
      refine fw_iconst C 0 dX10_isSmall_16 rfl ?_
      obtain rfl := Option.some.inj h
      exact fw_zret C hr (Or.inl rfl) hlk dX10_isSmall_17
    · replace h := (if_neg c2).symm.trans h
      refine fw_iconst C 1 dX10_isSmall_12 rfl ?_
      refine fw_goto C 17 dX10_isSmall_13 (by decide) ?_
      obtain rfl := Option.some.inj h
      exact fw_zret C hr (Or.inr rfl) hlk dX10_isSmall_17
set_option maxRecDepth 100000 in
def f_X10_isFigure (S : List fw_Sh) (M : fw_Mem) (x0 : Int32) : Option Int32 := if x0 < 48 then (some 0) else (if (57 : Int32) < x0 then (some 0) else (some 1))
set_option maxHeartbeats 4000000 in
set_option maxRecDepth 100000 in
theorem c_X10_isFigure {l : Launch} {G : fw_G} {S : List fw_Sh} {M : fw_Mem} {x0 : Int32} {r : Int32} (hl : l.stackTraces = false) (h : f_X10_isFigure S M x0 = some r) : fw_M l G yX10_isFigure (.code yX10_isFigure cX10_isFigure 1 (some .boolean)) 1 (fw_mcO (.inl (some (.int r)), S, M)) (fw_msO (.inl (some (.int r)), S, M)) S M [.int x0] (.inl (some (.int r)), S, M) := by
  refine fw_of [(0, .int x0)] (by decide) (Nat.le_of_ble_eq_true rfl) rfl ?_
  intro p e s m args below meth c C hr hlk hnm ht _
  unfold f_X10_isFigure at h
  refine fw_iload_n C 0 dX10_isFigure_0 rfl rfl ?_
  refine fw_bipush C 48 dX10_isFigure_1 rfl ?_
  refine fw_icmp_lt C 16 dX10_isFigure_3 (by decide) (fun c1 => ?_) (fun c1 => ?_)
  · replace h := (if_pos c1).symm.trans h
    refine fw_iconst C 0 dX10_isFigure_16 rfl ?_
    obtain rfl := Option.some.inj h
    exact fw_zret C hr (Or.inl rfl) hlk dX10_isFigure_17
  · replace h := (if_neg c1).symm.trans h
    refine fw_iload_n C 0 dX10_isFigure_6 rfl rfl ?_
    refine fw_bipush C 57 dX10_isFigure_7 rfl ?_
    refine fw_icmp_gt C 16 dX10_isFigure_9 (by decide) (fun c2 => ?_) (fun c2 => ?_)
    · replace h := (if_pos c2).symm.trans h
      refine fw_iconst C 0 dX10_isFigure_16 rfl ?_
      obtain rfl := Option.some.inj h
      exact fw_zret C hr (Or.inl rfl) hlk dX10_isFigure_17
    · replace h := (if_neg c2).symm.trans h
      refine fw_iconst C 1 dX10_isFigure_12 rfl ?_
      refine fw_goto C 17 dX10_isFigure_13 (by decide) ?_
      obtain rfl := Option.some.inj h
      exact fw_zret C hr (Or.inr rfl) hlk dX10_isFigure_17
set_option maxRecDepth 100000 in
def lf_X10_step_0 (S : List fw_Sh) (a0 : Nat) : Nat → fw_Mem → Option (fw_Mem)
  | 0, _ => none
  | n + 1, M => gd (gO S 10 a0) (b1 (f_X10_byteAt S M a0 (M a0 17)) (fun v2 => if v2 = 32 then (bm (fw_set M a0 17 ((M a0 17) + 1)) (fun M4 => lf_X10_step_0 S a0 n M4)) else (b1 (f_X10_byteAt S M a0 (M a0 17)) (fun v5 => if v5 = 10 then (bm (fw_set M a0 17 ((M a0 17) + 1)) (fun M7 => lf_X10_step_0 S a0 n M7)) else (some M)))))
set_option maxHeartbeats 4000000 in
set_option maxRecDepth 100000 in
theorem lc_X10_step_0 {G : fw_G} {p : Program} {l : Launch} {e : Env} {s : State} {m : MethodId} {args : Array Value} {below : List Frame} {meth : Method} {c : Code} {S : List fw_Sh} {o : fw_O} {a0 : Nat} (C : fw_C G RX10 cX10_step 2 p s m args c) (hr : meth.sig.returnType = none) (hlk : meth.locks = false) (hl : l.stackTraces = false) (ht : ∀ x ∈ c.exceptionTable.toList, False) :
    ∀ {n : Nat} {M : fw_Mem} {r : (fw_Mem)} (h : lf_X10_step_0 S a0 n M = some r) (kx : fw_W G p l e (fw_rm 2 (fw_mcO o) (fw_msO o)) s m args below meth c 2 (fw_Z G below args s (fw_mcO o) (fw_msO o) o) 0 0 39 [(0, .ref a0)] [] S r), fw_W G p l e (fw_rm 2 (fw_mcO o) (fw_msO o)) s m args below meth c 2 (fw_Z G below args s (fw_mcO o) (fw_msO o) o) 0 0 0 [(0, .ref a0)] [] S M := by
  intro n
  induction n with
  | zero =>
    intro M r h
    exact nomatch (show (none : Option (fw_Mem)) = some r from h)
  | succ n ih =>
    intro M r h kx
    rw [lf_X10_step_0.eq_2] at h
    refine fw_aload_n C 0 dX10_step_0 rfl rfl ?_
    refine fw_aload_n C 0 dX10_step_1 rfl rfl ?_
    obtain ⟨g1, h⟩ := gd_some h
    refine fw_getI C 10 17 (Nat.le_of_ble_eq_true rfl) (Nat.le_of_ble_eq_true rfl) wf_X10_251 rfl (gO_of g1) dX10_step_2 ?_
    obtain ⟨v2, e2, h⟩ := b1_some h
    refine fw_callV (ci := 10) [_] C (c_X10_byteAt hl e2) cal_X10_byteAt wm_X10_254 wi_yX10_byteAt wsl_yX10_byteAt (Nat.le_of_ble_eq_true rfl) rfl (gO_of g1) rfl (Nat.le_of_ble_eq_true rfl) ⟨Nat.le_of_ble_eq_true rfl, Nat.le_of_ble_eq_true rfl⟩ ⟨Nat.zero_le _, Nat.zero_le _⟩ dX10_step_5 ?_
    refine fw_bipush C 32 dX10_step_8 rfl ?_
    refine fw_icmp_eq C 26 dX10_step_10 (by decide) (fun c3 => ?_) (fun c3 => ?_)
    · replace h := (if_pos c3).symm.trans h
      refine fw_aload_n C 0 dX10_step_26 rfl rfl ?_
      refine fw_dup C dX10_step_27 rfl ?_
      refine fw_getI C 10 17 (Nat.le_of_ble_eq_true rfl) (Nat.le_of_ble_eq_true rfl) wf_X10_251 rfl (gO_of g1) dX10_step_28 ?_
      refine fw_iconst C 1 dX10_step_31 rfl ?_
      refine fw_iadd C dX10_step_32 ?_
      refine fw_putI C 10 17 (Nat.le_of_ble_eq_true rfl) (Nat.le_of_ble_eq_true rfl) wf_X10_251 rfl rfl rfl rfl (gO_of g1) dX10_step_33 ?_
      refine fw_bm h (fun M4 h => ?_)
      refine fw_goto C 0 dX10_step_36 (by decide) ?_
      exact ih h kx
    · replace h := (if_neg c3).symm.trans h
      refine fw_aload_n C 0 dX10_step_13 rfl rfl ?_
      refine fw_aload_n C 0 dX10_step_14 rfl rfl ?_
      refine fw_getI C 10 17 (Nat.le_of_ble_eq_true rfl) (Nat.le_of_ble_eq_true rfl) wf_X10_251 rfl (gO_of g1) dX10_step_15 ?_
      obtain ⟨v5, e5, h⟩ := b1_some h
      refine fw_callV (ci := 10) [_] C (c_X10_byteAt hl e5) cal_X10_byteAt wm_X10_254 wi_yX10_byteAt wsl_yX10_byteAt (Nat.le_of_ble_eq_true rfl) rfl (gO_of g1) rfl (Nat.le_of_ble_eq_true rfl) ⟨Nat.le_of_ble_eq_true rfl, Nat.le_of_ble_eq_true rfl⟩ ⟨Nat.zero_le _, Nat.zero_le _⟩ dX10_step_18 ?_
      refine fw_bipush C 10 dX10_step_21 rfl ?_
      refine fw_icmp_ne C 39 dX10_step_23 (by decide) (fun c6 => ?_) (fun c6 => ?_)
      · replace h := (if_neg c6).symm.trans h
        obtain rfl := Option.some.inj h
        exact kx
      · replace h := (if_pos c6).symm.trans h
        refine fw_aload_n C 0 dX10_step_26 rfl rfl ?_
        refine fw_dup C dX10_step_27 rfl ?_
        refine fw_getI C 10 17 (Nat.le_of_ble_eq_true rfl) (Nat.le_of_ble_eq_true rfl) wf_X10_251 rfl (gO_of g1) dX10_step_28 ?_
        refine fw_iconst C 1 dX10_step_31 rfl ?_
        refine fw_iadd C dX10_step_32 ?_
        refine fw_putI C 10 17 (Nat.le_of_ble_eq_true rfl) (Nat.le_of_ble_eq_true rfl) wf_X10_251 rfl rfl rfl rfl (gO_of g1) dX10_step_33 ?_
        refine fw_bm h (fun M7 h => ?_)
        refine fw_goto C 0 dX10_step_36 (by decide) ?_
        exact ih h kx
set_option maxRecDepth 100000 in
def lf_X10_step_118 (S : List fw_Sh) (a0 : Nat) : Nat → fw_Mem → Option (fw_Mem)
  | 0, _ => none
  | n + 1, M => gd (gO S 10 a0) (b1 (f_X10_byteAt S M a0 (M a0 17)) (fun v21 => b1 (f_X10_isFigure S M v21) (fun v22 => if v22 = 0 then (some M) else (bm (fw_set M a0 17 ((M a0 17) + 1)) (fun M24 => lf_X10_step_118 S a0 n M24)))))
set_option maxHeartbeats 4000000 in
set_option maxRecDepth 100000 in
theorem lc_X10_step_118 {G : fw_G} {p : Program} {l : Launch} {e : Env} {s : State} {m : MethodId} {args : Array Value} {below : List Frame} {meth : Method} {c : Code} {S : List fw_Sh} {o : fw_O} {a0 : Nat} (C : fw_C G RX10 cX10_step 2 p s m args c) (hr : meth.sig.returnType = none) (hlk : meth.locks = false) (hl : l.stackTraces = false) (ht : ∀ x ∈ c.exceptionTable.toList, False) :
    ∀ {n : Nat} {M : fw_Mem} {r : (fw_Mem)} (h : lf_X10_step_118 S a0 n M = some r) (kx : fw_W G p l e (fw_rm 2 (fw_mcO o) (fw_msO o)) s m args below meth c 2 (fw_Z G below args s (fw_mcO o) (fw_msO o) o) 0 0 145 [(0, .ref a0)] [] S r), fw_W G p l e (fw_rm 2 (fw_mcO o) (fw_msO o)) s m args below meth c 2 (fw_Z G below args s (fw_mcO o) (fw_msO o) o) 0 0 118 [(0, .ref a0)] [] S M := by
  intro n
  induction n with
  | zero =>
    intro M r h
    exact nomatch (show (none : Option (fw_Mem)) = some r from h)
  | succ n ih =>
    intro M r h kx
    rw [lf_X10_step_118.eq_2] at h
    refine fw_aload_n C 0 dX10_step_118 rfl rfl ?_
    refine fw_aload_n C 0 dX10_step_119 rfl rfl ?_
    obtain ⟨g20, h⟩ := gd_some h
    refine fw_getI C 10 17 (Nat.le_of_ble_eq_true rfl) (Nat.le_of_ble_eq_true rfl) wf_X10_251 rfl (gO_of g20) dX10_step_120 ?_
    obtain ⟨v21, e21, h⟩ := b1_some h
    refine fw_callV (ci := 10) [_] C (c_X10_byteAt hl e21) cal_X10_byteAt wm_X10_254 wi_yX10_byteAt wsl_yX10_byteAt (Nat.le_of_ble_eq_true rfl) rfl (gO_of g20) rfl (Nat.le_of_ble_eq_true rfl) ⟨Nat.le_of_ble_eq_true rfl, Nat.le_of_ble_eq_true rfl⟩ ⟨Nat.zero_le _, Nat.zero_le _⟩ dX10_step_123 ?_
    obtain ⟨v22, e22, h⟩ := b1_some h
    refine fw_callS [_] C (c_X10_isFigure hl e22) cal_X10_isFigure wm_X10_266 wt_yX10_isFigure rfl (Nat.le_of_ble_eq_true rfl) ⟨Nat.le_of_ble_eq_true rfl, Nat.le_of_ble_eq_true rfl⟩ ⟨Nat.zero_le _, Nat.zero_le _⟩ dX10_step_126 ?_
    refine fw_if_eq C 145 dX10_step_129 (by decide) (fun c23 => ?_) (fun c23 => ?_)
    · replace h := (if_pos c23).symm.trans h
      obtain rfl := Option.some.inj h
      exact kx
    · replace h := (if_neg c23).symm.trans h
      refine fw_aload_n C 0 dX10_step_132 rfl rfl ?_
      refine fw_dup C dX10_step_133 rfl ?_
      refine fw_getI C 10 17 (Nat.le_of_ble_eq_true rfl) (Nat.le_of_ble_eq_true rfl) wf_X10_251 rfl (gO_of g20) dX10_step_134 ?_
      refine fw_iconst C 1 dX10_step_137 rfl ?_
      refine fw_iadd C dX10_step_138 ?_
      refine fw_putI C 10 17 (Nat.le_of_ble_eq_true rfl) (Nat.le_of_ble_eq_true rfl) wf_X10_251 rfl rfl rfl rfl (gO_of g20) dX10_step_139 ?_
      refine fw_bm h (fun M24 h => ?_)
      refine fw_goto C 118 dX10_step_142 (by decide) ?_
      exact ih h kx
set_option maxRecDepth 100000 in
def lf_X10_step_76 (S : List fw_Sh) (a0 : Nat) : Nat → fw_Mem → Option (fw_Mem)
  | 0, _ => none
  | n + 1, M => gd (gO S 10 a0) (b1 (f_X10_byteAt S M a0 (M a0 17)) (fun v29 => b1 (f_X10_isSmall S M v29) (fun v30 => if v30 = 0 then (some M) else (bm (fw_set M a0 17 ((M a0 17) + 1)) (fun M32 => lf_X10_step_76 S a0 n M32)))))
set_option maxHeartbeats 4000000 in
set_option maxRecDepth 100000 in
theorem lc_X10_step_76 {G : fw_G} {p : Program} {l : Launch} {e : Env} {s : State} {m : MethodId} {args : Array Value} {below : List Frame} {meth : Method} {c : Code} {S : List fw_Sh} {o : fw_O} {a0 : Nat} (C : fw_C G RX10 cX10_step 2 p s m args c) (hr : meth.sig.returnType = none) (hlk : meth.locks = false) (hl : l.stackTraces = false) (ht : ∀ x ∈ c.exceptionTable.toList, False) :
    ∀ {n : Nat} {M : fw_Mem} {r : (fw_Mem)} (h : lf_X10_step_76 S a0 n M = some r) (kx : fw_W G p l e (fw_rm 2 (fw_mcO o) (fw_msO o)) s m args below meth c 2 (fw_Z G below args s (fw_mcO o) (fw_msO o) o) 0 0 103 [(0, .ref a0)] [] S r), fw_W G p l e (fw_rm 2 (fw_mcO o) (fw_msO o)) s m args below meth c 2 (fw_Z G below args s (fw_mcO o) (fw_msO o) o) 0 0 76 [(0, .ref a0)] [] S M := by
  intro n
  induction n with
  | zero =>
    intro M r h
    exact nomatch (show (none : Option (fw_Mem)) = some r from h)
  | succ n ih =>
    intro M r h kx
    rw [lf_X10_step_76.eq_2] at h
    refine fw_aload_n C 0 dX10_step_76 rfl rfl ?_
    refine fw_aload_n C 0 dX10_step_77 rfl rfl ?_
    obtain ⟨g28, h⟩ := gd_some h
    refine fw_getI C 10 17 (Nat.le_of_ble_eq_true rfl) (Nat.le_of_ble_eq_true rfl) wf_X10_251 rfl (gO_of g28) dX10_step_78 ?_
    obtain ⟨v29, e29, h⟩ := b1_some h
    refine fw_callV (ci := 10) [_] C (c_X10_byteAt hl e29) cal_X10_byteAt wm_X10_254 wi_yX10_byteAt wsl_yX10_byteAt (Nat.le_of_ble_eq_true rfl) rfl (gO_of g28) rfl (Nat.le_of_ble_eq_true rfl) ⟨Nat.le_of_ble_eq_true rfl, Nat.le_of_ble_eq_true rfl⟩ ⟨Nat.zero_le _, Nat.zero_le _⟩ dX10_step_81 ?_
    obtain ⟨v30, e30, h⟩ := b1_some h
    refine fw_callS [_] C (c_X10_isSmall hl e30) cal_X10_isSmall wm_X10_263 wt_yX10_isSmall rfl (Nat.le_of_ble_eq_true rfl) ⟨Nat.le_of_ble_eq_true rfl, Nat.le_of_ble_eq_true rfl⟩ ⟨Nat.zero_le _, Nat.zero_le _⟩ dX10_step_84 ?_
    refine fw_if_eq C 103 dX10_step_87 (by decide) (fun c31 => ?_) (fun c31 => ?_)
    · replace h := (if_pos c31).symm.trans h
      obtain rfl := Option.some.inj h
      exact kx
    · replace h := (if_neg c31).symm.trans h
      refine fw_aload_n C 0 dX10_step_90 rfl rfl ?_
      refine fw_dup C dX10_step_91 rfl ?_
      refine fw_getI C 10 17 (Nat.le_of_ble_eq_true rfl) (Nat.le_of_ble_eq_true rfl) wf_X10_251 rfl (gO_of g28) dX10_step_92 ?_
      refine fw_iconst C 1 dX10_step_95 rfl ?_
      refine fw_iadd C dX10_step_96 ?_
      refine fw_putI C 10 17 (Nat.le_of_ble_eq_true rfl) (Nat.le_of_ble_eq_true rfl) wf_X10_251 rfl rfl rfl rfl (gO_of g28) dX10_step_97 ?_
      refine fw_bm h (fun M32 h => ?_)
      refine fw_goto C 76 dX10_step_100 (by decide) ?_
      exact ih h kx
set_option maxRecDepth 100000 in
def f_X10_step (S : List fw_Sh) (M : fw_Mem) (a0 : Nat) : Option fw_Mem := b1 (lf_X10_step_0 S a0 20000 M) (fun l8 => gd (gO S 10 a0) (bm (fw_set l8 a0 19 (l8 a0 17)) (fun M10 => b1 (f_X10_byteAt S M10 a0 (M10 a0 17)) (fun v11 => if v11 = (-1) then (bm (fw_set M10 a0 18 0) (fun M36 => bm (fw_set M36 a0 20 (M36 a0 17)) (fun M37 => some M37))) else (b1 (f_X10_isSmall S M10 v11) (fun v13 => if v13 = 0 then (b1 (f_X10_isFigure S M10 v11) (fun v15 => if v15 = 0 then (bm (fw_set M10 a0 17 ((M10 a0 17) + 1)) (fun M17 => bm (fw_set M17 a0 18 3) (fun M18 => bm (fw_set M18 a0 20 (M18 a0 17)) (fun M19 => some M19)))) else (b1 (lf_X10_step_118 S a0 20000 M10) (fun l25 => bm (fw_set l25 a0 18 2) (fun M26 => bm (fw_set M26 a0 20 (M26 a0 17)) (fun M27 => some M27)))))) else (b1 (lf_X10_step_76 S a0 20000 M10) (fun l33 => bm (fw_set l33 a0 18 1) (fun M34 => bm (fw_set M34 a0 20 (M34 a0 17)) (fun M35 => some M35))))))))))
set_option maxHeartbeats 4000000 in
set_option maxRecDepth 100000 in
theorem c_X10_step {l : Launch} {G : fw_G} {S : List fw_Sh} {M : fw_Mem} {a0 : Nat} {r : fw_Mem} (hl : l.stackTraces = false) (h : f_X10_step S M a0 = some r) : fw_M l G yX10_step (.code yX10_step cX10_step 2 none) 2 (fw_mcO (.inl none, S, r)) (fw_msO (.inl none, S, r)) S M [.ref a0] (.inl none, S, r) := by
  refine fw_of [(0, .ref a0)] (by decide) (Nat.le_of_ble_eq_true rfl) rfl ?_
  intro p e s m args below meth c C hr hlk hnm ht _
  unfold f_X10_step at h
  obtain ⟨l8, e8, h⟩ := b1_some h
  refine lc_X10_step_0 C hr hlk hl ht e8 ?_
  refine fw_aload_n C 0 dX10_step_39 rfl rfl ?_
  refine fw_aload_n C 0 dX10_step_40 rfl rfl ?_
  obtain ⟨g9, h⟩ := gd_some h
  refine fw_getI C 10 17 (Nat.le_of_ble_eq_true rfl) (Nat.le_of_ble_eq_true rfl) wf_X10_251 rfl (gO_of g9) dX10_step_41 ?_
  refine fw_putI C 10 19 (Nat.le_of_ble_eq_true rfl) (Nat.le_of_ble_eq_true rfl) wf_X10_257 rfl rfl rfl rfl (gO_of g9) dX10_step_44 ?_
  refine fw_bm h (fun M10 h => ?_)
  refine fw_aload_n C 0 dX10_step_47 rfl rfl ?_
  refine fw_aload_n C 0 dX10_step_48 rfl rfl ?_
  refine fw_getI C 10 17 (Nat.le_of_ble_eq_true rfl) (Nat.le_of_ble_eq_true rfl) wf_X10_251 rfl (gO_of g9) dX10_step_49 ?_
  obtain ⟨v11, e11, h⟩ := b1_some h
  refine fw_callV (ci := 10) [_] C (c_X10_byteAt hl e11) cal_X10_byteAt wm_X10_254 wi_yX10_byteAt wsl_yX10_byteAt (Nat.le_of_ble_eq_true rfl) rfl (gO_of g9) rfl (Nat.le_of_ble_eq_true rfl) ⟨Nat.le_of_ble_eq_true rfl, Nat.le_of_ble_eq_true rfl⟩ ⟨Nat.zero_le _, Nat.zero_le _⟩ dX10_step_52 ?_
  refine fw_istore_n C [(1, _), (0, _)] dX10_step_55 rfl (Nat.le_of_ble_eq_true rfl) rfl ?_
  refine fw_iload_n C 0 dX10_step_56 rfl rfl ?_
  refine fw_iconst C (-1) dX10_step_57 rfl ?_
  refine fw_icmp_ne C 69 dX10_step_58 (by decide) (fun c12 => ?_) (fun c12 => ?_)
  · replace h := (if_neg c12).symm.trans h
    refine fw_iload_n C 0 dX10_step_69 rfl rfl ?_
    obtain ⟨v13, e13, h⟩ := b1_some h
    refine fw_callS [_] C (c_X10_isSmall hl e13) cal_X10_isSmall wm_X10_263 wt_yX10_isSmall rfl (Nat.le_of_ble_eq_true rfl) ⟨Nat.le_of_ble_eq_true rfl, Nat.le_of_ble_eq_true rfl⟩ ⟨Nat.zero_le _, Nat.zero_le _⟩ dX10_step_70 ?_
    refine fw_if_eq C 111 dX10_step_73 (by decide) (fun c14 => ?_) (fun c14 => ?_)
    · replace h := (if_pos c14).symm.trans h
      refine fw_iload_n C 0 dX10_step_111 rfl rfl ?_
      obtain ⟨v15, e15, h⟩ := b1_some h
      refine fw_callS [_] C (c_X10_isFigure hl e15) cal_X10_isFigure wm_X10_266 wt_yX10_isFigure rfl (Nat.le_of_ble_eq_true rfl) ⟨Nat.le_of_ble_eq_true rfl, Nat.le_of_ble_eq_true rfl⟩ ⟨Nat.zero_le _, Nat.zero_le _⟩ dX10_step_112 ?_
      refine fw_if_eq C 153 dX10_step_115 (by decide) (fun c16 => ?_) (fun c16 => ?_)
      · replace h := (if_pos c16).symm.trans h
        refine fw_aload_n C 1 dX10_step_153 rfl rfl ?_
        refine fw_dup C dX10_step_154 rfl ?_
        refine fw_getI C 10 17 (Nat.le_of_ble_eq_true rfl) (Nat.le_of_ble_eq_true rfl) wf_X10_251 rfl (gO_of g9) dX10_step_155 ?_
        refine fw_iconst C 1 dX10_step_158 rfl ?_
        refine fw_iadd C dX10_step_159 ?_
        refine fw_putI C 10 17 (Nat.le_of_ble_eq_true rfl) (Nat.le_of_ble_eq_true rfl) wf_X10_251 rfl rfl rfl rfl (gO_of g9) dX10_step_160 ?_
        refine fw_bm h (fun M17 h => ?_)
        refine fw_aload_n C 1 dX10_step_163 rfl rfl ?_
        refine fw_iconst C 3 dX10_step_164 rfl ?_
        refine fw_putI C 10 18 (Nat.le_of_ble_eq_true rfl) (Nat.le_of_ble_eq_true rfl) wf_X10_260 rfl rfl rfl rfl (gO_of g9) dX10_step_165 ?_
        refine fw_bm h (fun M18 h => ?_)
        refine fw_aload_n C 1 dX10_step_168 rfl rfl ?_
        refine fw_aload_n C 1 dX10_step_169 rfl rfl ?_
        refine fw_getI C 10 17 (Nat.le_of_ble_eq_true rfl) (Nat.le_of_ble_eq_true rfl) wf_X10_251 rfl (gO_of g9) dX10_step_170 ?_
        refine fw_putI C 10 20 (Nat.le_of_ble_eq_true rfl) (Nat.le_of_ble_eq_true rfl) wf_X10_269 rfl rfl rfl rfl (gO_of g9) dX10_step_173 ?_
        refine fw_bm h (fun M19 h => ?_)
        obtain rfl := Option.some.inj h
        exact fw_vret C hr hlk dX10_step_176
      · replace h := (if_neg c16).symm.trans h
        refine fw_sub [1] rfl ?_
        obtain ⟨l25, e25, h⟩ := b1_some h
        refine lc_X10_step_118 C hr hlk hl ht e25 ?_
        refine fw_aload_n C 0 dX10_step_145 rfl rfl ?_
        refine fw_iconst C 2 dX10_step_146 rfl ?_
        refine fw_putI C 10 18 (Nat.le_of_ble_eq_true rfl) (Nat.le_of_ble_eq_true rfl) wf_X10_260 rfl rfl rfl rfl (gO_of g9) dX10_step_147 ?_
        refine fw_bm h (fun M26 h => ?_)
        refine fw_goto C 168 dX10_step_150 (by decide) ?_
        refine fw_aload_n C 0 dX10_step_168 rfl rfl ?_
        refine fw_aload_n C 0 dX10_step_169 rfl rfl ?_
        refine fw_getI C 10 17 (Nat.le_of_ble_eq_true rfl) (Nat.le_of_ble_eq_true rfl) wf_X10_251 rfl (gO_of g9) dX10_step_170 ?_
        refine fw_putI C 10 20 (Nat.le_of_ble_eq_true rfl) (Nat.le_of_ble_eq_true rfl) wf_X10_269 rfl rfl rfl rfl (gO_of g9) dX10_step_173 ?_
        refine fw_bm h (fun M27 h => ?_)
        obtain rfl := Option.some.inj h
        exact fw_vret C hr hlk dX10_step_176
    · replace h := (if_neg c14).symm.trans h
      refine fw_sub [1] rfl ?_
      obtain ⟨l33, e33, h⟩ := b1_some h
      refine lc_X10_step_76 C hr hlk hl ht e33 ?_
      refine fw_aload_n C 0 dX10_step_103 rfl rfl ?_
      refine fw_iconst C 1 dX10_step_104 rfl ?_
      refine fw_putI C 10 18 (Nat.le_of_ble_eq_true rfl) (Nat.le_of_ble_eq_true rfl) wf_X10_260 rfl rfl rfl rfl (gO_of g9) dX10_step_105 ?_
      refine fw_bm h (fun M34 h => ?_)
      refine fw_goto C 168 dX10_step_108 (by decide) ?_
      refine fw_aload_n C 0 dX10_step_168 rfl rfl ?_
      refine fw_aload_n C 0 dX10_step_169 rfl rfl ?_
      refine fw_getI C 10 17 (Nat.le_of_ble_eq_true rfl) (Nat.le_of_ble_eq_true rfl) wf_X10_251 rfl (gO_of g9) dX10_step_170 ?_
      refine fw_putI C 10 20 (Nat.le_of_ble_eq_true rfl) (Nat.le_of_ble_eq_true rfl) wf_X10_269 rfl rfl rfl rfl (gO_of g9) dX10_step_173 ?_
      refine fw_bm h (fun M35 h => ?_)
      obtain rfl := Option.some.inj h
      exact fw_vret C hr hlk dX10_step_176
  · replace h := (if_pos c12).symm.trans h
    refine fw_aload_n C 1 dX10_step_61 rfl rfl ?_
    refine fw_iconst C 0 dX10_step_62 rfl ?_
    refine fw_putI C 10 18 (Nat.le_of_ble_eq_true rfl) (Nat.le_of_ble_eq_true rfl) wf_X10_260 rfl rfl rfl rfl (gO_of g9) dX10_step_63 ?_
    refine fw_bm h (fun M36 h => ?_)
    refine fw_goto C 168 dX10_step_66 (by decide) ?_
    refine fw_aload_n C 1 dX10_step_168 rfl rfl ?_
    refine fw_aload_n C 1 dX10_step_169 rfl rfl ?_
    refine fw_getI C 10 17 (Nat.le_of_ble_eq_true rfl) (Nat.le_of_ble_eq_true rfl) wf_X10_251 rfl (gO_of g9) dX10_step_170 ?_
    refine fw_putI C 10 20 (Nat.le_of_ble_eq_true rfl) (Nat.le_of_ble_eq_true rfl) wf_X10_269 rfl rfl rfl rfl (gO_of g9) dX10_step_173 ?_
    refine fw_bm h (fun M37 h => ?_)
    obtain rfl := Option.some.inj h
    exact fw_vret C hr hlk dX10_step_176
set_option maxRecDepth 100000 in
def f_X10_opens (S : List fw_Sh) (M : fw_Mem) (a0 : Nat) (x1 : Int32) : Option fw_Mem := gd (gO S 10 a0) (bm (fw_set M a0 16 x1) (fun M2 => bm (fw_set M2 a0 17 0) (fun M3 => bm (fw_set M3 a0 21 0) (fun M4 => bm (fw_set M4 a0 24 0) (fun M5 => b1 (f_X10_step S M5 a0) (fun M6 => some M6))))))
set_option maxHeartbeats 4000000 in
set_option maxRecDepth 100000 in
theorem c_X10_opens {l : Launch} {G : fw_G} {S : List fw_Sh} {M : fw_Mem} {a0 : Nat} {x1 : Int32} {r : fw_Mem} (hl : l.stackTraces = false) (h : f_X10_opens S M a0 x1 = some r) : fw_M l G yX10_opens (.code yX10_opens cX10_opens 2 none) 3 (fw_mcO (.inl none, S, r)) (fw_msO (.inl none, S, r)) S M [.ref a0, .int x1] (.inl none, S, r) := by
  refine fw_of [(0, .ref a0), (1, .int x1)] (by decide) (Nat.le_of_ble_eq_true rfl) rfl ?_
  intro p e s m args below meth c C hr hlk hnm ht _
  unfold f_X10_opens at h
  refine fw_aload_n C 0 dX10_opens_0 rfl rfl ?_
  refine fw_iload_n C 1 dX10_opens_1 rfl rfl ?_
  obtain ⟨g1, h⟩ := gd_some h
  refine fw_putI C 10 16 (Nat.le_of_ble_eq_true rfl) (Nat.le_of_ble_eq_true rfl) wf_X10_248 rfl rfl rfl rfl (gO_of g1) dX10_opens_2 ?_
  refine fw_bm h (fun M2 h => ?_)
  refine fw_aload_n C 0 dX10_opens_5 rfl rfl ?_
  refine fw_iconst C 0 dX10_opens_6 rfl ?_
  refine fw_putI C 10 17 (Nat.le_of_ble_eq_true rfl) (Nat.le_of_ble_eq_true rfl) wf_X10_251 rfl rfl rfl rfl (gO_of g1) dX10_opens_7 ?_
  refine fw_bm h (fun M3 h => ?_)
  refine fw_aload_n C 0 dX10_opens_10 rfl rfl ?_
  refine fw_iconst C 0 dX10_opens_11 rfl ?_
  refine fw_putI C 10 21 (Nat.le_of_ble_eq_true rfl) (Nat.le_of_ble_eq_true rfl) wf_X10_272 rfl rfl rfl rfl (gO_of g1) dX10_opens_12 ?_
  refine fw_bm h (fun M4 h => ?_)
  refine fw_aload_n C 0 dX10_opens_15 rfl rfl ?_
  refine fw_iconst C 0 dX10_opens_16 rfl ?_
  refine fw_putI C 10 24 (Nat.le_of_ble_eq_true rfl) (Nat.le_of_ble_eq_true rfl) wf_X10_275 rfl rfl rfl rfl (gO_of g1) dX10_opens_17 ?_
  refine fw_bm h (fun M5 h => ?_)
  refine fw_aload_n C 0 dX10_opens_20 rfl rfl ?_
  obtain ⟨M6, e6, h⟩ := b1_some h
  refine fw_callV (ci := 10) [] C (c_X10_step hl e6) cal_X10_step wm_X10_278 wi_yX10_step wsl_yX10_step (Nat.le_of_ble_eq_true rfl) rfl (gO_of g1) rfl (Nat.le_of_ble_eq_true rfl) ⟨Nat.le_of_ble_eq_true rfl, Nat.le_of_ble_eq_true rfl⟩ ⟨Nat.zero_le _, Nat.zero_le _⟩ dX10_opens_21 ?_
  obtain rfl := Option.some.inj h
  exact fw_vret C hr hlk dX10_opens_24
set_option maxRecDepth 100000 in
def f_X10_wrong (S : List fw_Sh) (M : fw_Mem) (a0 : Nat) (x1 : Int32) : Option fw_Mem := gd (gO S 10 a0) (if (M a0 21) = 0 then (bm (fw_set M a0 21 x1) (fun M3 => bm (fw_set M3 a0 22 (M3 a0 19)) (fun M4 => some M4))) else (some M))
set_option maxHeartbeats 4000000 in
set_option maxRecDepth 100000 in
theorem c_X10_wrong {l : Launch} {G : fw_G} {S : List fw_Sh} {M : fw_Mem} {a0 : Nat} {x1 : Int32} {r : fw_Mem} (hl : l.stackTraces = false) (h : f_X10_wrong S M a0 x1 = some r) : fw_M l G yX10_wrong (.code yX10_wrong cX10_wrong 2 none) 1 (fw_mcO (.inl none, S, r)) (fw_msO (.inl none, S, r)) S M [.ref a0, .int x1] (.inl none, S, r) := by
  refine fw_of [(0, .ref a0), (1, .int x1)] (by decide) (Nat.le_of_ble_eq_true rfl) rfl ?_
  intro p e s m args below meth c C hr hlk hnm ht _
  unfold f_X10_wrong at h
  refine fw_aload_n C 0 dX10_wrong_0 rfl rfl ?_
  obtain ⟨g1, h⟩ := gd_some h
  refine fw_getI C 10 21 (Nat.le_of_ble_eq_true rfl) (Nat.le_of_ble_eq_true rfl) wf_X10_272 rfl (gO_of g1) dX10_wrong_1 ?_
  refine fw_if_eq C 8 dX10_wrong_4 (by decide) (fun c2 => ?_) (fun c2 => ?_)
  · replace h := (if_pos c2).symm.trans h
    refine fw_aload_n C 0 dX10_wrong_8 rfl rfl ?_
    refine fw_iload_n C 1 dX10_wrong_9 rfl rfl ?_
    refine fw_putI C 10 21 (Nat.le_of_ble_eq_true rfl) (Nat.le_of_ble_eq_true rfl) wf_X10_272 rfl rfl rfl rfl (gO_of g1) dX10_wrong_10 ?_
    refine fw_bm h (fun M3 h => ?_)
    refine fw_aload_n C 0 dX10_wrong_13 rfl rfl ?_
    refine fw_aload_n C 0 dX10_wrong_14 rfl rfl ?_
    refine fw_getI C 10 19 (Nat.le_of_ble_eq_true rfl) (Nat.le_of_ble_eq_true rfl) wf_X10_257 rfl (gO_of g1) dX10_wrong_15 ?_
    refine fw_putI C 10 22 (Nat.le_of_ble_eq_true rfl) (Nat.le_of_ble_eq_true rfl) wf_X10_281 rfl rfl rfl rfl (gO_of g1) dX10_wrong_18 ?_
    refine fw_bm h (fun M4 h => ?_)
    obtain rfl := Option.some.inj h
    exact fw_vret C hr hlk dX10_wrong_21
  · replace h := (if_neg c2).symm.trans h
    obtain rfl := Option.some.inj h
    exact fw_vret C hr hlk dX10_wrong_7
set_option maxRecDepth 100000 in
def f_X10_pass (S : List fw_Sh) (M : fw_Mem) (a0 : Nat) : Option fw_Mem := gd (gO S 10 a0) (if (M a0 21) = 0 then (b1 (f_X10_step S M a0) (fun M3 => some M3)) else (some M))
set_option maxHeartbeats 4000000 in
set_option maxRecDepth 100000 in
theorem c_X10_pass {l : Launch} {G : fw_G} {S : List fw_Sh} {M : fw_Mem} {a0 : Nat} {r : fw_Mem} (hl : l.stackTraces = false) (h : f_X10_pass S M a0 = some r) : fw_M l G yX10_pass (.code yX10_pass cX10_pass 1 none) 3 (fw_mcO (.inl none, S, r)) (fw_msO (.inl none, S, r)) S M [.ref a0] (.inl none, S, r) := by
  refine fw_of [(0, .ref a0)] (by decide) (Nat.le_of_ble_eq_true rfl) rfl ?_
  intro p e s m args below meth c C hr hlk hnm ht _
  unfold f_X10_pass at h
  refine fw_aload_n C 0 dX10_pass_0 rfl rfl ?_
  obtain ⟨g1, h⟩ := gd_some h
  refine fw_getI C 10 21 (Nat.le_of_ble_eq_true rfl) (Nat.le_of_ble_eq_true rfl) wf_X10_272 rfl (gO_of g1) dX10_pass_1 ?_
  refine fw_if_ne C 11 dX10_pass_4 (by decide) (fun c2 => ?_) (fun c2 => ?_)
  · replace h := (if_neg c2).symm.trans h
    obtain rfl := Option.some.inj h
    exact fw_vret C hr hlk dX10_pass_11
  · replace h := (if_pos c2).symm.trans h
    refine fw_aload_n C 0 dX10_pass_7 rfl rfl ?_
    obtain ⟨M3, e3, h⟩ := b1_some h
    refine fw_callV (ci := 10) [] C (c_X10_step hl e3) cal_X10_step wm_X10_278 wi_yX10_step wsl_yX10_step (Nat.le_of_ble_eq_true rfl) rfl (gO_of g1) rfl (Nat.le_of_ble_eq_true rfl) ⟨Nat.le_of_ble_eq_true rfl, Nat.le_of_ble_eq_true rfl⟩ ⟨Nat.zero_le _, Nat.zero_le _⟩ dX10_pass_8 ?_
    obtain rfl := Option.some.inj h
    exact fw_vret C hr hlk dX10_pass_11
set_option maxRecDepth 100000 in
def f_X10_isSign (S : List fw_Sh) (M : fw_Mem) (a0 : Nat) (x1 : Int32) : Option Int32 := gd (gO S 10 a0) (if (M a0 21) = 0 then (if (M a0 18) = 3 then (gd (gN (M a0 14)) (gd (gA S 0 ((M a0 14).toNatClampNeg) (M a0 19)) (if (M ((M a0 14).toNatClampNeg) (M a0 19).toNatClampNeg) = x1 then (some 1) else (some 0)))) else (some 0)) else (some 0))
set_option maxHeartbeats 4000000 in
set_option maxRecDepth 100000 in
theorem c_X10_isSign {l : Launch} {G : fw_G} {S : List fw_Sh} {M : fw_Mem} {a0 : Nat} {x1 : Int32} {r : Int32} (hl : l.stackTraces = false) (h : f_X10_isSign S M a0 x1 = some r) : fw_M l G yX10_isSign (.code yX10_isSign cX10_isSign 2 (some .boolean)) 1 (fw_mcO (.inl (some (.int r)), S, M)) (fw_msO (.inl (some (.int r)), S, M)) S M [.ref a0, .int x1] (.inl (some (.int r)), S, M) := by
  refine fw_of [(0, .ref a0), (1, .int x1)] (by decide) (Nat.le_of_ble_eq_true rfl) rfl ?_
  intro p e s m args below meth c C hr hlk hnm ht _
  unfold f_X10_isSign at h
  refine fw_aload_n C 0 dX10_isSign_0 rfl rfl ?_
  obtain ⟨g1, h⟩ := gd_some h
  refine fw_getI C 10 21 (Nat.le_of_ble_eq_true rfl) (Nat.le_of_ble_eq_true rfl) wf_X10_272 rfl (gO_of g1) dX10_isSign_1 ?_
  refine fw_if_ne C 32 dX10_isSign_4 (by decide) (fun c2 => ?_) (fun c2 => ?_)
  · replace h := (if_neg c2).symm.trans h
    refine fw_iconst C 0 dX10_isSign_32 rfl ?_
    obtain rfl := Option.some.inj h
    exact fw_zret C hr (Or.inl rfl) hlk dX10_isSign_33
  · replace h := (if_pos c2).symm.trans h
    refine fw_aload_n C 0 dX10_isSign_7 rfl rfl ?_
    refine fw_getI C 10 18 (Nat.le_of_ble_eq_true rfl) (Nat.le_of_ble_eq_true rfl) wf_X10_260 rfl (gO_of g1) dX10_isSign_8 ?_
    refine fw_iconst C 3 dX10_isSign_11 rfl ?_
    refine fw_icmp_ne C 32 dX10_isSign_12 (by decide) (fun c3 => ?_) (fun c3 => ?_)
    · replace h := (if_neg c3).symm.trans h
      refine fw_iconst C 0 dX10_isSign_32 rfl ?_
      obtain rfl := Option.some.inj h
      exact fw_zret C hr (Or.inl rfl) hlk dX10_isSign_33
    · replace h := (if_pos c3).symm.trans h
      refine fw_aload_n C 0 dX10_isSign_15 rfl rfl ?_
      obtain ⟨g4, h⟩ := gd_some h
      refine fw_getR C 10 14 (Nat.le_of_ble_eq_true rfl) (Nat.le_of_ble_eq_true rfl) wf_X10_40 rfl (gO_of g1) (gN_of g4) dX10_isSign_16 ?_
      refine fw_aload_n C 0 dX10_isSign_19 rfl rfl ?_
      refine fw_getI C 10 19 (Nat.le_of_ble_eq_true rfl) (Nat.le_of_ble_eq_true rfl) wf_X10_257 rfl (gO_of g1) dX10_isSign_20 ?_
      obtain ⟨g5, h⟩ := gd_some h
      refine fw_iald C (gA_of g5) dX10_isSign_23 ?_
      refine fw_iload_n C 1 dX10_isSign_24 rfl rfl ?_
      refine fw_icmp_ne C 32 dX10_isSign_25 (by decide) (fun c6 => ?_) (fun c6 => ?_)
      · replace h := (if_neg c6).symm.trans h
        refine fw_iconst C 0 dX10_isSign_32 rfl ?_
        obtain rfl := Option.some.inj h
        exact fw_zret C hr (Or.inl rfl) hlk dX10_isSign_33
      · replace h := (if_pos c6).symm.trans h
        refine fw_iconst C 1 dX10_isSign_28 rfl ?_
        refine fw_goto C 33 dX10_isSign_29 (by decide) ?_
        obtain rfl := Option.some.inj h
        exact fw_zret C hr (Or.inr rfl) hlk dX10_isSign_33
set_option maxRecDepth 100000 in
def lf_X10_isWord_39 (S : List fw_Sh) (M : fw_Mem) (a0 : Nat) (a1 : Nat) : Nat → Int32 → Int32 → Option (Int32)
  | 0, _, _ => none
  | n + 1, x2, x3 => if x2 = 0 then (some x2) else (gd (gS a1) (if (nI (sLen a1)) ≤ x3 then (some x2) else (gd (gT a1 x3) (gd (gO S 10 a0) (gd (gN (M a0 14)) (gd (gA S 0 ((M a0 14).toNatClampNeg) ((M a0 19) + x3)) (if (sChr a1 x3.toNatClampNeg) = (M ((M a0 14).toNatClampNeg) ((M a0 19) + x3).toNatClampNeg) then (lf_X10_isWord_39 S M a0 a1 n 1 (x3 + 1)) else (lf_X10_isWord_39 S M a0 a1 n 0 (x3 + 1)))))))))
set_option maxHeartbeats 4000000 in
set_option maxRecDepth 100000 in
theorem lc_X10_isWord_39 {G : fw_G} {p : Program} {l : Launch} {e : Env} {s : State} {m : MethodId} {args : Array Value} {below : List Frame} {meth : Method} {c : Code} {S : List fw_Sh} {o : fw_O} {M : fw_Mem} {a0 : Nat} {a1 : Nat} (C : fw_C G RX10 cX10_isWord 4 p s m args c) (hr : meth.sig.returnType = (some .boolean)) (hlk : meth.locks = false) (hl : l.stackTraces = false) (ht : ∀ x ∈ c.exceptionTable.toList, False) :
    ∀ {n : Nat} {x2 : Int32} {x3 : Int32} {r : (Int32)} (h : lf_X10_isWord_39 S M a0 a1 n x2 x3 = some r) (kx : fw_W G p l e (fw_rm 7 (fw_mcO o) (fw_msO o)) s m args below meth c 4 (fw_Z G below args s (fw_mcO o) (fw_msO o) o) 0 0 82 [(2, .int r)] [] S M), fw_W G p l e (fw_rm 7 (fw_mcO o) (fw_msO o)) s m args below meth c 4 (fw_Z G below args s (fw_mcO o) (fw_msO o) o) 0 0 39 [(0, .ref a0), (1, .ref a1), (2, .int x2), (3, .int x3)] [] S M := by
  intro n
  induction n with
  | zero =>
    intro x2 x3 r h
    exact nomatch (show (none : Option (Int32)) = some r from h)
  | succ n ih =>
    intro x2 x3 r h kx
    rw [lf_X10_isWord_39.eq_2] at h
    refine fw_iload_n C 2 dX10_isWord_39 rfl rfl ?_
    refine fw_if_eq C 82 dX10_isWord_40 (by decide) (fun c3 => ?_) (fun c3 => ?_)
    · replace h := (if_pos c3).symm.trans h
      obtain rfl := Option.some.inj h
      refine fw_sub [2] rfl ?_
      exact kx
    · replace h := (if_neg c3).symm.trans h
      refine fw_iload_n C 3 dX10_isWord_43 rfl rfl ?_
      refine fw_aload_n C 1 dX10_isWord_44 rfl rfl ?_
      obtain ⟨g4, h⟩ := gd_some h
      refine fw_strlen C hl wm_X10_284 (Nat.le_of_ble_eq_true rfl) (gS_of g4) (Nat.le_of_ble_eq_true rfl) (Nat.le_of_ble_eq_true rfl) (Nat.zero_le _) (Nat.zero_le _) dX10_isWord_45 ?_
      refine fw_icmp_ge C 82 dX10_isWord_48 (by decide) (fun c5 => ?_) (fun c5 => ?_)
      · replace h := (if_pos c5).symm.trans h
        obtain rfl := Option.some.inj h
        refine fw_sub [2] rfl ?_
        exact kx
      · replace h := (if_neg c5).symm.trans h
        refine fw_aload_n C 1 dX10_isWord_51 rfl rfl ?_
        refine fw_iload_n C 3 dX10_isWord_52 rfl rfl ?_
        obtain ⟨g6, h⟩ := gd_some h
        refine fw_strchr C hl wm_X10_289 (Nat.le_of_ble_eq_true rfl) (gS_of g4) (gT_of g6) (Nat.le_of_ble_eq_true rfl) (Nat.le_of_ble_eq_true rfl) (Nat.zero_le _) (Nat.zero_le _) dX10_isWord_53 ?_
        refine fw_aload_n C 0 dX10_isWord_56 rfl rfl ?_
        obtain ⟨g7, h⟩ := gd_some h
        obtain ⟨g8, h⟩ := gd_some h
        refine fw_getR C 10 14 (Nat.le_of_ble_eq_true rfl) (Nat.le_of_ble_eq_true rfl) wf_X10_40 rfl (gO_of g7) (gN_of g8) dX10_isWord_57 ?_
        refine fw_aload_n C 0 dX10_isWord_60 rfl rfl ?_
        refine fw_getI C 10 19 (Nat.le_of_ble_eq_true rfl) (Nat.le_of_ble_eq_true rfl) wf_X10_257 rfl (gO_of g7) dX10_isWord_61 ?_
        refine fw_iload_n C 3 dX10_isWord_64 rfl rfl ?_
        refine fw_iadd C dX10_isWord_65 ?_
        obtain ⟨g9, h⟩ := gd_some h
        refine fw_iald C (gA_of g9) dX10_isWord_66 ?_
        refine fw_icmp_ne C 74 dX10_isWord_67 (by decide) (fun c10 => ?_) (fun c10 => ?_)
        · replace h := (if_neg c10).symm.trans h
          refine fw_iconst C 0 dX10_isWord_74 rfl ?_
          refine fw_istore_n C [(2, _), (0, _), (1, _), (3, _)] dX10_isWord_75 rfl (Nat.le_of_ble_eq_true rfl) rfl ?_
          refine fw_iinc C _ 3 [(3, _), (2, _), (0, _), (1, _)] dX10_isWord_76 rfl rfl (Nat.le_of_ble_eq_true rfl) rfl ?_
          refine fw_goto C 39 dX10_isWord_79 (by decide) ?_
          refine fw_sub [2, 3, 1, 0] rfl ?_
          exact ih h kx
        · replace h := (if_pos c10).symm.trans h
          refine fw_iconst C 1 dX10_isWord_70 rfl ?_
          refine fw_goto C 75 dX10_isWord_71 (by decide) ?_
          refine fw_istore_n C [(2, _), (0, _), (1, _), (3, _)] dX10_isWord_75 rfl (Nat.le_of_ble_eq_true rfl) rfl ?_
          refine fw_iinc C _ 3 [(3, _), (2, _), (0, _), (1, _)] dX10_isWord_76 rfl rfl (Nat.le_of_ble_eq_true rfl) rfl ?_
          refine fw_goto C 39 dX10_isWord_79 (by decide) ?_
          refine fw_sub [2, 3, 1, 0] rfl ?_
          exact ih h kx
set_option maxRecDepth 100000 in
def fj_X10_isWord_36 (S : List fw_Sh) (M : fw_Mem) (a0 : Nat) (a1 : Nat) (z0 : Int32) : Option Int32 := b1 (lf_X10_isWord_39 S M a0 a1 20000 z0 0) (fun l11 => gd (gB l11) (some l11))
set_option maxHeartbeats 4000000 in
set_option maxRecDepth 100000 in
theorem jc_X10_isWord_36 {G : fw_G} {p : Program} {l : Launch} {e : Env} {s : State} {m : MethodId} {args : Array Value} {below : List Frame} {meth : Method} {c : Code} {S : List fw_Sh} {M : fw_Mem} {a0 : Nat} {a1 : Nat} {z0 : Int32} {r : Int32} {o : fw_O} (C : fw_C G RX10 cX10_isWord 4 p s m args c) (hr : meth.sig.returnType = (some .boolean)) (hlk : meth.locks = false) (hl : l.stackTraces = false) (ht : ∀ x ∈ c.exceptionTable.toList, False) (ho : o = (.inl (some (.int r)), S, M)) (h : fj_X10_isWord_36 S M a0 a1 z0 = some r) :
    fw_W G p l e (fw_rm 7 (fw_mcO o) (fw_msO o)) s m args below meth c 4 (fw_Z G below args s (fw_mcO o) (fw_msO o) o) 0 0 36 [(0, .ref a0), (1, .ref a1)] [.int z0] S M := by
  subst ho
  unfold fj_X10_isWord_36 at h
  refine fw_istore_n C [(2, _), (0, _), (1, _)] dX10_isWord_36 rfl (Nat.le_of_ble_eq_true rfl) rfl ?_
  refine fw_iconst C 0 dX10_isWord_37 rfl ?_
  refine fw_istore_n C [(3, _), (2, _), (0, _), (1, _)] dX10_isWord_38 rfl (Nat.le_of_ble_eq_true rfl) rfl ?_
  refine fw_sub [2, 3, 1, 0] rfl ?_
  obtain ⟨l11, e11, h⟩ := b1_some h
  refine lc_X10_isWord_39 C hr hlk hl ht e11 ?_
  refine fw_iload_n C 0 dX10_isWord_82 rfl rfl ?_
  obtain ⟨g12, h⟩ := gd_some h
  obtain rfl := Option.some.inj h
  exact fw_zret C hr (gB_of g12) hlk dX10_isWord_83
set_option maxRecDepth 100000 in
def f_X10_isWord (S : List fw_Sh) (M : fw_Mem) (a0 : Nat) (a1 : Nat) : Option Int32 := gd (gO S 10 a0) (if (M a0 21) = 0 then (if (M a0 18) = 1 then (gd (gS a1) (if (nI (sLen a1)) = ((M a0 20) - (M a0 19)) then fj_X10_isWord_36 S M a0 a1 1 else fj_X10_isWord_36 S M a0 a1 0)) else fj_X10_isWord_36 S M a0 a1 0) else fj_X10_isWord_36 S M a0 a1 0)
set_option maxHeartbeats 4000000 in
set_option maxRecDepth 100000 in
theorem c_X10_isWord {l : Launch} {G : fw_G} {S : List fw_Sh} {M : fw_Mem} {a0 : Nat} {a1 : Nat} {r : Int32} (hl : l.stackTraces = false) (h : f_X10_isWord S M a0 a1 = some r) : fw_M l G yX10_isWord (.code yX10_isWord cX10_isWord 4 (some .boolean)) 7 (fw_mcO (.inl (some (.int r)), S, M)) (fw_msO (.inl (some (.int r)), S, M)) S M [.ref a0, .ref a1] (.inl (some (.int r)), S, M) := by
  refine fw_of [(0, .ref a0), (1, .ref a1)] (by decide) (Nat.le_of_ble_eq_true rfl) rfl ?_
  intro p e s m args below meth c C hr hlk hnm ht _
  unfold f_X10_isWord at h
  refine fw_aload_n C 0 dX10_isWord_0 rfl rfl ?_
  obtain ⟨g1, h⟩ := gd_some h
  refine fw_getI C 10 21 (Nat.le_of_ble_eq_true rfl) (Nat.le_of_ble_eq_true rfl) wf_X10_272 rfl (gO_of g1) dX10_isWord_1 ?_
  refine fw_if_ne C 35 dX10_isWord_4 (by decide) (fun c2 => ?_) (fun c2 => ?_)
  · replace h := (if_neg c2).symm.trans h
    refine fw_iconst C 0 dX10_isWord_35 rfl ?_
    exact jc_X10_isWord_36 C hr hlk hl ht rfl h
  · replace h := (if_pos c2).symm.trans h
    refine fw_aload_n C 0 dX10_isWord_7 rfl rfl ?_
    refine fw_getI C 10 18 (Nat.le_of_ble_eq_true rfl) (Nat.le_of_ble_eq_true rfl) wf_X10_260 rfl (gO_of g1) dX10_isWord_8 ?_
    refine fw_iconst C 1 dX10_isWord_11 rfl ?_
    refine fw_icmp_ne C 35 dX10_isWord_12 (by decide) (fun c13 => ?_) (fun c13 => ?_)
    · replace h := (if_neg c13).symm.trans h
      refine fw_iconst C 0 dX10_isWord_35 rfl ?_
      exact jc_X10_isWord_36 C hr hlk hl ht rfl h
    · replace h := (if_pos c13).symm.trans h
      refine fw_aload_n C 1 dX10_isWord_15 rfl rfl ?_
      obtain ⟨g14, h⟩ := gd_some h
      refine fw_strlen C hl wm_X10_284 (Nat.le_of_ble_eq_true rfl) (gS_of g14) (Nat.le_of_ble_eq_true rfl) (Nat.le_of_ble_eq_true rfl) (Nat.zero_le _) (Nat.zero_le _) dX10_isWord_16 ?_
      refine fw_aload_n C 0 dX10_isWord_19 rfl rfl ?_
      refine fw_getI C 10 20 (Nat.le_of_ble_eq_true rfl) (Nat.le_of_ble_eq_true rfl) wf_X10_269 rfl (gO_of g1) dX10_isWord_20 ?_
      refine fw_aload_n C 0 dX10_isWord_23 rfl rfl ?_
      refine fw_getI C 10 19 (Nat.le_of_ble_eq_true rfl) (Nat.le_of_ble_eq_true rfl) wf_X10_257 rfl (gO_of g1) dX10_isWord_24 ?_
      refine fw_isub C dX10_isWord_27 ?_
      refine fw_icmp_ne C 35 dX10_isWord_28 (by decide) (fun c15 => ?_) (fun c15 => ?_)
      · replace h := (if_neg c15).symm.trans h
        refine fw_iconst C 0 dX10_isWord_35 rfl ?_
        exact jc_X10_isWord_36 C hr hlk hl ht rfl h
      · replace h := (if_pos c15).symm.trans h
        refine fw_iconst C 1 dX10_isWord_31 rfl ?_
        refine fw_goto C 36 dX10_isWord_32 (by decide) ?_
        exact jc_X10_isWord_36 C hr hlk hl ht rfl h
set_option maxRecDepth 100000 in
def f_X10_must (S : List fw_Sh) (M : fw_Mem) (a0 : Nat) (x1 : Int32) : Option fw_Mem := gd (gO S 10 a0) (b1 (f_X10_isSign S M a0 x1) (fun v1 => if v1 = 0 then (b1 (f_X10_wrong S M a0 1) (fun M5 => b1 (f_X10_pass S M5 a0) (fun M6 => some M6))) else (b1 (f_X10_pass S M a0) (fun M4 => some M4))))
set_option maxHeartbeats 4000000 in
set_option maxRecDepth 100000 in
theorem c_X10_must {l : Launch} {G : fw_G} {S : List fw_Sh} {M : fw_Mem} {a0 : Nat} {x1 : Int32} {r : fw_Mem} (hl : l.stackTraces = false) (h : f_X10_must S M a0 x1 = some r) : fw_M l G yX10_must (.code yX10_must cX10_must 2 none) 4 (fw_mcO (.inl none, S, r)) (fw_msO (.inl none, S, r)) S M [.ref a0, .int x1] (.inl none, S, r) := by
  refine fw_of [(0, .ref a0), (1, .int x1)] (by decide) (Nat.le_of_ble_eq_true rfl) rfl ?_
  intro p e s m args below meth c C hr hlk hnm ht _
  unfold f_X10_must at h
  refine fw_aload_n C 0 dX10_must_0 rfl rfl ?_
  refine fw_iload_n C 1 dX10_must_1 rfl rfl ?_
  obtain ⟨g2, h⟩ := gd_some h
  obtain ⟨v1, e1, h⟩ := b1_some h
  refine fw_callV (ci := 10) [_] C (c_X10_isSign hl e1) cal_X10_isSign wm_X10_293 wi_yX10_isSign wsl_yX10_isSign (Nat.le_of_ble_eq_true rfl) rfl (gO_of g2) rfl (Nat.le_of_ble_eq_true rfl) ⟨Nat.le_of_ble_eq_true rfl, Nat.le_of_ble_eq_true rfl⟩ ⟨Nat.zero_le _, Nat.zero_le _⟩ dX10_must_2 ?_
  refine fw_if_ne C 13 dX10_must_5 (by decide) (fun c3 => ?_) (fun c3 => ?_)
  · replace h := (if_neg c3).symm.trans h
    refine fw_aload_n C 0 dX10_must_13 rfl rfl ?_
    obtain ⟨M4, e4, h⟩ := b1_some h
    refine fw_callV (ci := 10) [] C (c_X10_pass hl e4) cal_X10_pass wm_X10_299 wi_yX10_pass wsl_yX10_pass (Nat.le_of_ble_eq_true rfl) rfl (gO_of g2) rfl (Nat.le_of_ble_eq_true rfl) ⟨Nat.le_of_ble_eq_true rfl, Nat.le_of_ble_eq_true rfl⟩ ⟨Nat.zero_le _, Nat.zero_le _⟩ dX10_must_14 ?_
    obtain rfl := Option.some.inj h
    exact fw_vret C hr hlk dX10_must_17
  · replace h := (if_pos c3).symm.trans h
    refine fw_aload_n C 0 dX10_must_8 rfl rfl ?_
    refine fw_iconst C 1 dX10_must_9 rfl ?_
    obtain ⟨M5, e5, h⟩ := b1_some h
    refine fw_callV (ci := 10) [_] C (c_X10_wrong hl e5) cal_X10_wrong wm_X10_296 wi_yX10_wrong wsl_yX10_wrong (Nat.le_of_ble_eq_true rfl) rfl (gO_of g2) rfl (Nat.le_of_ble_eq_true rfl) ⟨Nat.le_of_ble_eq_true rfl, Nat.le_of_ble_eq_true rfl⟩ ⟨Nat.zero_le _, Nat.zero_le _⟩ dX10_must_10 ?_
    refine fw_aload_n C 0 dX10_must_13 rfl rfl ?_
    obtain ⟨M6, e6, h⟩ := b1_some h
    refine fw_callV (ci := 10) [] C (c_X10_pass hl e6) cal_X10_pass wm_X10_299 wi_yX10_pass wsl_yX10_pass (Nat.le_of_ble_eq_true rfl) rfl (gO_of g2) rfl (Nat.le_of_ble_eq_true rfl) ⟨Nat.le_of_ble_eq_true rfl, Nat.le_of_ble_eq_true rfl⟩ ⟨Nat.zero_le _, Nat.zero_le _⟩ dX10_must_14 ?_
    obtain rfl := Option.some.inj h
    exact fw_vret C hr hlk dX10_must_17
set_option maxRecDepth 100000 in
def lf_X10_numberHere_28 (S : List fw_Sh) (M : fw_Mem) (a0 : Nat) (x1 : Int32) (x2 : Int32) : Nat → Int32 → Int32 → Option (Int32)
  | 0, _, _ => none
  | n + 1, x3, x4 => gd (gO S 10 a0) (if (M a0 21) = 0 then (if (M a0 20) ≤ x4 then (some x3) else (gd (gN (M a0 14)) (gd (gA S 0 ((M a0 14).toNatClampNeg) x4) (bm (if ((((10 : Int32) * x3) + (M ((M a0 14).toNatClampNeg) x4.toNatClampNeg)) - 48) < 1000000 then ((((10 : Int32) * x3) + (M ((M a0 14).toNatClampNeg) x4.toNatClampNeg)) - 48) else 1000000) (fun y8 => lf_X10_numberHere_28 S M a0 x1 x2 n y8 (x4 + 1)))))) else (some x3))
set_option maxHeartbeats 4000000 in
set_option maxRecDepth 100000 in
theorem lc_X10_numberHere_28 {G : fw_G} {p : Program} {l : Launch} {e : Env} {s : State} {m : MethodId} {args : Array Value} {below : List Frame} {meth : Method} {c : Code} {S : List fw_Sh} {o : fw_O} {M : fw_Mem} {a0 : Nat} {x1 : Int32} {x2 : Int32} (C : fw_C G RX10 cX10_numberHere 5 p s m args c) (hr : meth.sig.returnType = (some .int)) (hlk : meth.locks = false) (hl : l.stackTraces = false) (ht : ∀ x ∈ c.exceptionTable.toList, False) :
    ∀ {n : Nat} {x3 : Int32} {x4 : Int32} {r : (Int32)} (h : lf_X10_numberHere_28 S M a0 x1 x2 n x3 x4 = some r) (kx : fw_W G p l e (fw_rm 2 (fw_mcO o) (fw_msO o)) s m args below meth c 5 (fw_Z G below args s (fw_mcO o) (fw_msO o) o) 0 0 72 [(0, .ref a0), (1, .int x1), (2, .int x2), (3, .int r)] [] S M), fw_W G p l e (fw_rm 2 (fw_mcO o) (fw_msO o)) s m args below meth c 5 (fw_Z G below args s (fw_mcO o) (fw_msO o) o) 0 0 28 [(0, .ref a0), (1, .int x1), (2, .int x2), (3, .int x3), (4, .int x4)] [] S M := by
  intro n
  induction n with
  | zero =>
    intro x3 x4 r h
    exact nomatch (show (none : Option (Int32)) = some r from h)
  | succ n ih =>
    intro x3 x4 r h kx
    rw [lf_X10_numberHere_28.eq_2] at h
    refine fw_aload_n C 0 dX10_numberHere_28 rfl rfl ?_
    obtain ⟨g3, h⟩ := gd_some h
    refine fw_getI C 10 21 (Nat.le_of_ble_eq_true rfl) (Nat.le_of_ble_eq_true rfl) wf_X10_272 rfl (gO_of g3) dX10_numberHere_29 ?_
    refine fw_if_ne C 72 dX10_numberHere_32 (by decide) (fun c4 => ?_) (fun c4 => ?_)
    · replace h := (if_neg c4).symm.trans h
      obtain rfl := Option.some.inj h
      refine fw_sub [0, 1, 2, 3] rfl ?_
      exact kx
    · replace h := (if_pos c4).symm.trans h
      refine fw_iload C 4 dX10_numberHere_35 rfl ?_
      refine fw_aload_n C 0 dX10_numberHere_37 rfl rfl ?_
      refine fw_getI C 10 20 (Nat.le_of_ble_eq_true rfl) (Nat.le_of_ble_eq_true rfl) wf_X10_269 rfl (gO_of g3) dX10_numberHere_38 ?_
      refine fw_icmp_ge C 72 dX10_numberHere_41 (by decide) (fun c5 => ?_) (fun c5 => ?_)
      · replace h := (if_pos c5).symm.trans h
        obtain rfl := Option.some.inj h
        refine fw_sub [0, 1, 2, 3] rfl ?_
        exact kx
      · replace h := (if_neg c5).symm.trans h
        refine fw_ldcw C wk_X10_302 dX10_numberHere_44 ?_
        refine fw_bipush C 10 dX10_numberHere_47 rfl ?_
        refine fw_iload_n C 3 dX10_numberHere_49 rfl rfl ?_
        refine fw_imul C dX10_numberHere_50 ?_
        refine fw_aload_n C 0 dX10_numberHere_51 rfl rfl ?_
        obtain ⟨g6, h⟩ := gd_some h
        refine fw_getR C 10 14 (Nat.le_of_ble_eq_true rfl) (Nat.le_of_ble_eq_true rfl) wf_X10_40 rfl (gO_of g3) (gN_of g6) dX10_numberHere_52 ?_
        refine fw_iload C 4 dX10_numberHere_55 rfl ?_
        obtain ⟨g7, h⟩ := gd_some h
        refine fw_iald C (gA_of g7) dX10_numberHere_57 ?_
        refine fw_iadd C dX10_numberHere_58 ?_
        refine fw_bipush C 48 dX10_numberHere_59 rfl ?_
        refine fw_isub C dX10_numberHere_61 ?_
        refine fw_min C wm_X10_111 (Nat.le_of_ble_eq_true rfl) (Nat.le_of_ble_eq_true rfl) (Nat.le_of_ble_eq_true rfl) (Nat.zero_le _) (Nat.zero_le _) dX10_numberHere_62 ?_
        refine fw_bi h (fun y8 h => ?_)
        refine fw_istore_n C [(3, _), (0, _), (1, _), (2, _), (4, _)] dX10_numberHere_65 rfl (Nat.le_of_ble_eq_true rfl) rfl ?_
        refine fw_iinc C _ 4 [(4, _), (3, _), (0, _), (1, _), (2, _)] dX10_numberHere_66 rfl rfl (Nat.le_of_ble_eq_true rfl) rfl ?_
        refine fw_goto C 28 dX10_numberHere_69 (by decide) ?_
        refine fw_sub [2, 3, 4, 1, 0] rfl ?_
        exact ih h kx
set_option maxRecDepth 100000 in
def fj_X10_numberHere_20 (S : List fw_Sh) (M : fw_Mem) (a0 : Nat) (x1 : Int32) (x2 : Int32) : Option (Int32 × fw_Mem) := gd (gO S 10 a0) (b1 (lf_X10_numberHere_28 S M a0 x1 x2 20000 0 (M a0 19)) (fun l22 => if (M a0 21) = 0 then (b1 (f_X10_isIn S M l22 x1 x2) (fun v24 => if v24 = 0 then (b1 (f_X10_wrong S M a0 2) (fun M26 => some (l22, M26))) else (some (l22, M)))) else (some (l22, M))))
set_option maxHeartbeats 4000000 in
set_option maxRecDepth 100000 in
theorem jc_X10_numberHere_20 {G : fw_G} {p : Program} {l : Launch} {e : Env} {s : State} {m : MethodId} {args : Array Value} {below : List Frame} {meth : Method} {c : Code} {S : List fw_Sh} {M : fw_Mem} {a0 : Nat} {x1 : Int32} {x2 : Int32} {r : (Int32 × fw_Mem)} {o : fw_O} (C : fw_C G RX10 cX10_numberHere 5 p s m args c) (hr : meth.sig.returnType = (some .int)) (hlk : meth.locks = false) (hl : l.stackTraces = false) (ht : ∀ x ∈ c.exceptionTable.toList, False) (ho : o = (.inl (some (.int r.1)), S, r.2)) (h : fj_X10_numberHere_20 S M a0 x1 x2 = some r) :
    fw_W G p l e (fw_rm 2 (fw_mcO o) (fw_msO o)) s m args below meth c 5 (fw_Z G below args s (fw_mcO o) (fw_msO o) o) 0 0 20 [(0, .ref a0), (1, .int x1), (2, .int x2)] [] S M := by
  subst ho
  unfold fj_X10_numberHere_20 at h
  refine fw_iconst C 0 dX10_numberHere_20 rfl ?_
  refine fw_istore_n C [(3, _), (0, _), (1, _), (2, _)] dX10_numberHere_21 rfl (Nat.le_of_ble_eq_true rfl) rfl ?_
  refine fw_aload_n C 1 dX10_numberHere_22 rfl rfl ?_
  obtain ⟨g21, h⟩ := gd_some h
  refine fw_getI C 10 19 (Nat.le_of_ble_eq_true rfl) (Nat.le_of_ble_eq_true rfl) wf_X10_257 rfl (gO_of g21) dX10_numberHere_23 ?_
  refine fw_istore C [(4, _), (3, _), (0, _), (1, _), (2, _)] dX10_numberHere_26 (Nat.le_of_ble_eq_true rfl) rfl ?_
  refine fw_sub [2, 3, 4, 1, 0] rfl ?_
  obtain ⟨l22, e22, h⟩ := b1_some h
  refine lc_X10_numberHere_28 C hr hlk hl ht e22 ?_
  refine fw_aload_n C 0 dX10_numberHere_72 rfl rfl ?_
  refine fw_getI C 10 21 (Nat.le_of_ble_eq_true rfl) (Nat.le_of_ble_eq_true rfl) wf_X10_272 rfl (gO_of g21) dX10_numberHere_73 ?_
  refine fw_if_ne C 93 dX10_numberHere_76 (by decide) (fun c23 => ?_) (fun c23 => ?_)
  · replace h := (if_neg c23).symm.trans h
    refine fw_iload_n C 3 dX10_numberHere_93 rfl rfl ?_
    obtain rfl := Option.some.inj h
    exact fw_iret C hr hlk dX10_numberHere_94
  · replace h := (if_pos c23).symm.trans h
    refine fw_iload_n C 3 dX10_numberHere_79 rfl rfl ?_
    refine fw_iload_n C 1 dX10_numberHere_80 rfl rfl ?_
    refine fw_iload_n C 2 dX10_numberHere_81 rfl rfl ?_
    obtain ⟨v24, e24, h⟩ := b1_some h
    refine fw_callS [_, _, _] C (c_X10_isIn hl e24) cal_X10_isIn wm_X10_58 wt_yX10_isIn rfl (Nat.le_of_ble_eq_true rfl) ⟨Nat.le_of_ble_eq_true rfl, Nat.le_of_ble_eq_true rfl⟩ ⟨Nat.zero_le _, Nat.zero_le _⟩ dX10_numberHere_82 ?_
    refine fw_if_ne C 93 dX10_numberHere_85 (by decide) (fun c25 => ?_) (fun c25 => ?_)
    · replace h := (if_neg c25).symm.trans h
      refine fw_iload_n C 3 dX10_numberHere_93 rfl rfl ?_
      obtain rfl := Option.some.inj h
      exact fw_iret C hr hlk dX10_numberHere_94
    · replace h := (if_pos c25).symm.trans h
      refine fw_aload_n C 0 dX10_numberHere_88 rfl rfl ?_
      refine fw_iconst C 2 dX10_numberHere_89 rfl ?_
      obtain ⟨M26, e26, h⟩ := b1_some h
      refine fw_callV (ci := 10) [_] C (c_X10_wrong hl e26) cal_X10_wrong wm_X10_296 wi_yX10_wrong wsl_yX10_wrong (Nat.le_of_ble_eq_true rfl) rfl (gO_of g21) rfl (Nat.le_of_ble_eq_true rfl) ⟨Nat.le_of_ble_eq_true rfl, Nat.le_of_ble_eq_true rfl⟩ ⟨Nat.zero_le _, Nat.zero_le _⟩ dX10_numberHere_90 ?_
      refine fw_iload_n C 3 dX10_numberHere_93 rfl rfl ?_
      obtain rfl := Option.some.inj h
      exact fw_iret C hr hlk dX10_numberHere_94
set_option maxRecDepth 100000 in
def f_X10_numberHere (S : List fw_Sh) (M : fw_Mem) (a0 : Nat) (x1 : Int32) (x2 : Int32) : Option (Int32 × fw_Mem) := gd (gO S 10 a0) (if (M a0 21) = 0 then (if (M a0 18) = 2 then (b1 (lf_X10_numberHere_28 S M a0 x1 x2 20000 0 (M a0 19)) (fun l15 => if (M a0 21) = 0 then (b1 (f_X10_isIn S M l15 x1 x2) (fun v17 => if v17 = 0 then (b1 (f_X10_wrong S M a0 2) (fun M19 => some (l15, M19))) else (some (l15, M)))) else (some (l15, M)))) else (b1 (f_X10_wrong S M a0 1) (fun M20 => fj_X10_numberHere_20 S M20 a0 x1 x2))) else (b1 (lf_X10_numberHere_28 S M a0 x1 x2 20000 0 (M a0 19)) (fun l9 => if (M a0 21) = 0 then (b1 (f_X10_isIn S M l9 x1 x2) (fun v11 => if v11 = 0 then (b1 (f_X10_wrong S M a0 2) (fun M13 => some (l9, M13))) else (some (l9, M)))) else (some (l9, M)))))
set_option maxHeartbeats 4000000 in
set_option maxRecDepth 100000 in
theorem c_X10_numberHere {l : Launch} {G : fw_G} {S : List fw_Sh} {M : fw_Mem} {a0 : Nat} {x1 : Int32} {x2 : Int32} {r : (Int32 × fw_Mem)} (hl : l.stackTraces = false) (h : f_X10_numberHere S M a0 x1 x2 = some r) : fw_M l G yX10_numberHere (.code yX10_numberHere cX10_numberHere 5 (some .int)) 2 (fw_mcO (.inl (some (.int r.1)), S, r.2)) (fw_msO (.inl (some (.int r.1)), S, r.2)) S M [.ref a0, .int x1, .int x2] (.inl (some (.int r.1)), S, r.2) := by
  refine fw_of [(0, .ref a0), (1, .int x1), (2, .int x2)] (by decide) (Nat.le_of_ble_eq_true rfl) rfl ?_
  intro p e s m args below meth c C hr hlk hnm ht _
  unfold f_X10_numberHere at h
  refine fw_aload_n C 0 dX10_numberHere_0 rfl rfl ?_
  obtain ⟨g1, h⟩ := gd_some h
  refine fw_getI C 10 21 (Nat.le_of_ble_eq_true rfl) (Nat.le_of_ble_eq_true rfl) wf_X10_272 rfl (gO_of g1) dX10_numberHere_1 ?_
  refine fw_if_ne C 20 dX10_numberHere_4 (by decide) (fun c2 => ?_) (fun c2 => ?_)
  · replace h := (if_neg c2).symm.trans h
    refine fw_iconst C 0 dX10_numberHere_20 rfl ?_
    refine fw_istore_n C [(3, _), (0, _), (1, _), (2, _)] dX10_numberHere_21 rfl (Nat.le_of_ble_eq_true rfl) rfl ?_
    refine fw_aload_n C 1 dX10_numberHere_22 rfl rfl ?_
    refine fw_getI C 10 19 (Nat.le_of_ble_eq_true rfl) (Nat.le_of_ble_eq_true rfl) wf_X10_257 rfl (gO_of g1) dX10_numberHere_23 ?_
    refine fw_istore C [(4, _), (3, _), (0, _), (1, _), (2, _)] dX10_numberHere_26 (Nat.le_of_ble_eq_true rfl) rfl ?_
    refine fw_sub [2, 3, 4, 1, 0] rfl ?_
    obtain ⟨l9, e9, h⟩ := b1_some h
    refine lc_X10_numberHere_28 C hr hlk hl ht e9 ?_
    refine fw_aload_n C 0 dX10_numberHere_72 rfl rfl ?_
    refine fw_getI C 10 21 (Nat.le_of_ble_eq_true rfl) (Nat.le_of_ble_eq_true rfl) wf_X10_272 rfl (gO_of g1) dX10_numberHere_73 ?_
    refine fw_if_ne C 93 dX10_numberHere_76 (by decide) (fun c10 => ?_) (fun c10 => ?_)
    · replace h := (if_neg c10).symm.trans h
      refine fw_iload_n C 3 dX10_numberHere_93 rfl rfl ?_
      obtain rfl := Option.some.inj h
      exact fw_iret C hr hlk dX10_numberHere_94
    · replace h := (if_pos c10).symm.trans h
      refine fw_iload_n C 3 dX10_numberHere_79 rfl rfl ?_
      refine fw_iload_n C 1 dX10_numberHere_80 rfl rfl ?_
      refine fw_iload_n C 2 dX10_numberHere_81 rfl rfl ?_
      obtain ⟨v11, e11, h⟩ := b1_some h
      refine fw_callS [_, _, _] C (c_X10_isIn hl e11) cal_X10_isIn wm_X10_58 wt_yX10_isIn rfl (Nat.le_of_ble_eq_true rfl) ⟨Nat.le_of_ble_eq_true rfl, Nat.le_of_ble_eq_true rfl⟩ ⟨Nat.zero_le _, Nat.zero_le _⟩ dX10_numberHere_82 ?_
      refine fw_if_ne C 93 dX10_numberHere_85 (by decide) (fun c12 => ?_) (fun c12 => ?_)
      · replace h := (if_neg c12).symm.trans h
        refine fw_iload_n C 3 dX10_numberHere_93 rfl rfl ?_
        obtain rfl := Option.some.inj h
        exact fw_iret C hr hlk dX10_numberHere_94
      · replace h := (if_pos c12).symm.trans h
        refine fw_aload_n C 0 dX10_numberHere_88 rfl rfl ?_
        refine fw_iconst C 2 dX10_numberHere_89 rfl ?_
        obtain ⟨M13, e13, h⟩ := b1_some h
        refine fw_callV (ci := 10) [_] C (c_X10_wrong hl e13) cal_X10_wrong wm_X10_296 wi_yX10_wrong wsl_yX10_wrong (Nat.le_of_ble_eq_true rfl) rfl (gO_of g1) rfl (Nat.le_of_ble_eq_true rfl) ⟨Nat.le_of_ble_eq_true rfl, Nat.le_of_ble_eq_true rfl⟩ ⟨Nat.zero_le _, Nat.zero_le _⟩ dX10_numberHere_90 ?_
        refine fw_iload_n C 3 dX10_numberHere_93 rfl rfl ?_
        obtain rfl := Option.some.inj h
        exact fw_iret C hr hlk dX10_numberHere_94
  · replace h := (if_pos c2).symm.trans h
    refine fw_aload_n C 0 dX10_numberHere_7 rfl rfl ?_
    refine fw_getI C 10 18 (Nat.le_of_ble_eq_true rfl) (Nat.le_of_ble_eq_true rfl) wf_X10_260 rfl (gO_of g1) dX10_numberHere_8 ?_
    refine fw_iconst C 2 dX10_numberHere_11 rfl ?_
    refine fw_icmp_eq C 20 dX10_numberHere_12 (by decide) (fun c14 => ?_) (fun c14 => ?_)
    · replace h := (if_pos c14).symm.trans h
      refine fw_iconst C 0 dX10_numberHere_20 rfl ?_
      refine fw_istore_n C [(3, _), (0, _), (1, _), (2, _)] dX10_numberHere_21 rfl (Nat.le_of_ble_eq_true rfl) rfl ?_
      refine fw_aload_n C 1 dX10_numberHere_22 rfl rfl ?_
      refine fw_getI C 10 19 (Nat.le_of_ble_eq_true rfl) (Nat.le_of_ble_eq_true rfl) wf_X10_257 rfl (gO_of g1) dX10_numberHere_23 ?_
      refine fw_istore C [(4, _), (3, _), (0, _), (1, _), (2, _)] dX10_numberHere_26 (Nat.le_of_ble_eq_true rfl) rfl ?_
      refine fw_sub [2, 3, 4, 1, 0] rfl ?_
      obtain ⟨l15, e15, h⟩ := b1_some h
      refine lc_X10_numberHere_28 C hr hlk hl ht e15 ?_
      refine fw_aload_n C 0 dX10_numberHere_72 rfl rfl ?_
      refine fw_getI C 10 21 (Nat.le_of_ble_eq_true rfl) (Nat.le_of_ble_eq_true rfl) wf_X10_272 rfl (gO_of g1) dX10_numberHere_73 ?_
      refine fw_if_ne C 93 dX10_numberHere_76 (by decide) (fun c16 => ?_) (fun c16 => ?_)
      · replace h := (if_neg c16).symm.trans h
        refine fw_iload_n C 3 dX10_numberHere_93 rfl rfl ?_
        obtain rfl := Option.some.inj h
        exact fw_iret C hr hlk dX10_numberHere_94
      · replace h := (if_pos c16).symm.trans h
        refine fw_iload_n C 3 dX10_numberHere_79 rfl rfl ?_
        refine fw_iload_n C 1 dX10_numberHere_80 rfl rfl ?_
        refine fw_iload_n C 2 dX10_numberHere_81 rfl rfl ?_
        obtain ⟨v17, e17, h⟩ := b1_some h
        refine fw_callS [_, _, _] C (c_X10_isIn hl e17) cal_X10_isIn wm_X10_58 wt_yX10_isIn rfl (Nat.le_of_ble_eq_true rfl) ⟨Nat.le_of_ble_eq_true rfl, Nat.le_of_ble_eq_true rfl⟩ ⟨Nat.zero_le _, Nat.zero_le _⟩ dX10_numberHere_82 ?_
        refine fw_if_ne C 93 dX10_numberHere_85 (by decide) (fun c18 => ?_) (fun c18 => ?_)
        · replace h := (if_neg c18).symm.trans h
          refine fw_iload_n C 3 dX10_numberHere_93 rfl rfl ?_
          obtain rfl := Option.some.inj h
          exact fw_iret C hr hlk dX10_numberHere_94
        · replace h := (if_pos c18).symm.trans h
          refine fw_aload_n C 0 dX10_numberHere_88 rfl rfl ?_
          refine fw_iconst C 2 dX10_numberHere_89 rfl ?_
          obtain ⟨M19, e19, h⟩ := b1_some h
          refine fw_callV (ci := 10) [_] C (c_X10_wrong hl e19) cal_X10_wrong wm_X10_296 wi_yX10_wrong wsl_yX10_wrong (Nat.le_of_ble_eq_true rfl) rfl (gO_of g1) rfl (Nat.le_of_ble_eq_true rfl) ⟨Nat.le_of_ble_eq_true rfl, Nat.le_of_ble_eq_true rfl⟩ ⟨Nat.zero_le _, Nat.zero_le _⟩ dX10_numberHere_90 ?_
          refine fw_iload_n C 3 dX10_numberHere_93 rfl rfl ?_
          obtain rfl := Option.some.inj h
          exact fw_iret C hr hlk dX10_numberHere_94
    · replace h := (if_neg c14).symm.trans h
      refine fw_aload_n C 0 dX10_numberHere_15 rfl rfl ?_
      refine fw_iconst C 1 dX10_numberHere_16 rfl ?_
      obtain ⟨M20, e20, h⟩ := b1_some h
      refine fw_callV (ci := 10) [_] C (c_X10_wrong hl e20) cal_X10_wrong wm_X10_296 wi_yX10_wrong wsl_yX10_wrong (Nat.le_of_ble_eq_true rfl) rfl (gO_of g1) rfl (Nat.le_of_ble_eq_true rfl) ⟨Nat.le_of_ble_eq_true rfl, Nat.le_of_ble_eq_true rfl⟩ ⟨Nat.zero_le _, Nat.zero_le _⟩ dX10_numberHere_17 ?_
      exact jc_X10_numberHere_20 C hr hlk hl ht rfl h
set_option maxRecDepth 100000 in
def f_X10_number (S : List fw_Sh) (M : fw_Mem) (a0 : Nat) (x1 : Int32) (x2 : Int32) : Option (Int32 × fw_Mem) := gd (gO S 10 a0) (b2 (f_X10_numberHere S M a0 x1 x2) (fun v1 M1 => b1 (f_X10_pass S M1 a0) (fun M3 => some (v1, M3))))
set_option maxHeartbeats 4000000 in
set_option maxRecDepth 100000 in
theorem c_X10_number {l : Launch} {G : fw_G} {S : List fw_Sh} {M : fw_Mem} {a0 : Nat} {x1 : Int32} {x2 : Int32} {r : (Int32 × fw_Mem)} (hl : l.stackTraces = false) (h : f_X10_number S M a0 x1 x2 = some r) : fw_M l G yX10_number (.code yX10_number cX10_number 4 (some .int)) 4 (fw_mcO (.inl (some (.int r.1)), S, r.2)) (fw_msO (.inl (some (.int r.1)), S, r.2)) S M [.ref a0, .int x1, .int x2] (.inl (some (.int r.1)), S, r.2) := by
  refine fw_of [(0, .ref a0), (1, .int x1), (2, .int x2)] (by decide) (Nat.le_of_ble_eq_true rfl) rfl ?_
  intro p e s m args below meth c C hr hlk hnm ht _
  unfold f_X10_number at h
  refine fw_aload_n C 0 dX10_number_0 rfl rfl ?_
  refine fw_iload_n C 1 dX10_number_1 rfl rfl ?_
  refine fw_iload_n C 2 dX10_number_2 rfl rfl ?_
  obtain ⟨g2, h⟩ := gd_some h
  obtain ⟨v1, M1, e1, h⟩ := b2_some h
  refine fw_callV (ci := 10) [_, _] C (c_X10_numberHere hl e1) cal_X10_numberHere wm_X10_303 wi_yX10_numberHere wsl_yX10_numberHere (Nat.le_of_ble_eq_true rfl) rfl (gO_of g2) rfl (Nat.le_of_ble_eq_true rfl) ⟨Nat.le_of_ble_eq_true rfl, Nat.le_of_ble_eq_true rfl⟩ ⟨Nat.zero_le _, Nat.zero_le _⟩ dX10_number_3 ?_
  refine fw_istore_n C [(3, _), (0, _), (1, _), (2, _)] dX10_number_6 rfl (Nat.le_of_ble_eq_true rfl) rfl ?_
  refine fw_aload_n C 1 dX10_number_7 rfl rfl ?_
  obtain ⟨M3, e3, h⟩ := b1_some h
  refine fw_callV (ci := 10) [] C (c_X10_pass hl e3) cal_X10_pass wm_X10_299 wi_yX10_pass wsl_yX10_pass (Nat.le_of_ble_eq_true rfl) rfl (gO_of g2) rfl (Nat.le_of_ble_eq_true rfl) ⟨Nat.le_of_ble_eq_true rfl, Nat.le_of_ble_eq_true rfl⟩ ⟨Nat.zero_le _, Nat.zero_le _⟩ dX10_number_8 ?_
  refine fw_iload_n C 0 dX10_number_11 rfl rfl ?_
  obtain rfl := Option.some.inj h
  exact fw_iret C hr hlk dX10_number_12
set_option maxRecDepth 100000 in
def f_X10_ends (S : List fw_Sh) (M : fw_Mem) (a0 : Nat) : Option (Int32 × fw_Mem) := gd (gO S 10 a0) (bm (fw_set M a0 15 0) (fun M2 => if (M2 a0 21) = 0 then (bm (fw_set M2 a0 23 (-1)) (fun M5 => some ((M5 a0 21), M5))) else (bm (fw_set M2 a0 23 (M2 a0 22)) (fun M4 => some ((M4 a0 21), M4)))))
set_option maxHeartbeats 4000000 in
set_option maxRecDepth 100000 in
theorem c_X10_ends {l : Launch} {G : fw_G} {S : List fw_Sh} {M : fw_Mem} {a0 : Nat} {r : (Int32 × fw_Mem)} (hl : l.stackTraces = false) (h : f_X10_ends S M a0 = some r) : fw_M l G yX10_ends (.code yX10_ends cX10_ends 1 (some .int)) 1 (fw_mcO (.inl (some (.int r.1)), S, r.2)) (fw_msO (.inl (some (.int r.1)), S, r.2)) S M [.ref a0] (.inl (some (.int r.1)), S, r.2) := by
  refine fw_of [(0, .ref a0)] (by decide) (Nat.le_of_ble_eq_true rfl) rfl ?_
  intro p e s m args below meth c C hr hlk hnm ht _
  unfold f_X10_ends at h
  refine fw_aload_n C 0 dX10_ends_0 rfl rfl ?_
  refine fw_iconst C 0 dX10_ends_1 rfl ?_
  obtain ⟨g1, h⟩ := gd_some h
  refine fw_putI C 10 15 (Nat.le_of_ble_eq_true rfl) (Nat.le_of_ble_eq_true rfl) wf_X10_165 rfl rfl rfl rfl (gO_of g1) dX10_ends_2 ?_
  refine fw_bm h (fun M2 h => ?_)
  refine fw_aload_n C 0 dX10_ends_5 rfl rfl ?_
  refine fw_aload_n C 0 dX10_ends_6 rfl rfl ?_
  refine fw_getI C 10 21 (Nat.le_of_ble_eq_true rfl) (Nat.le_of_ble_eq_true rfl) wf_X10_272 rfl (gO_of g1) dX10_ends_7 ?_
  refine fw_if_ne C 17 dX10_ends_10 (by decide) (fun c3 => ?_) (fun c3 => ?_)
  · replace h := (if_neg c3).symm.trans h
    refine fw_aload_n C 0 dX10_ends_17 rfl rfl ?_
    refine fw_getI C 10 22 (Nat.le_of_ble_eq_true rfl) (Nat.le_of_ble_eq_true rfl) wf_X10_281 rfl (gO_of g1) dX10_ends_18 ?_
    refine fw_putI C 10 23 (Nat.le_of_ble_eq_true rfl) (Nat.le_of_ble_eq_true rfl) wf_X10_43 rfl rfl rfl rfl (gO_of g1) dX10_ends_21 ?_
    refine fw_bm h (fun M4 h => ?_)
    refine fw_aload_n C 0 dX10_ends_24 rfl rfl ?_
    refine fw_getI C 10 21 (Nat.le_of_ble_eq_true rfl) (Nat.le_of_ble_eq_true rfl) wf_X10_272 rfl (gO_of g1) dX10_ends_25 ?_
    obtain rfl := Option.some.inj h
    exact fw_iret C hr hlk dX10_ends_28
  · replace h := (if_pos c3).symm.trans h
    refine fw_iconst C (-1) dX10_ends_13 rfl ?_
    refine fw_goto C 21 dX10_ends_14 (by decide) ?_
    refine fw_putI C 10 23 (Nat.le_of_ble_eq_true rfl) (Nat.le_of_ble_eq_true rfl) wf_X10_43 rfl rfl rfl rfl (gO_of g1) dX10_ends_21 ?_
    refine fw_bm h (fun M5 h => ?_)
    refine fw_aload_n C 0 dX10_ends_24 rfl rfl ?_
    refine fw_getI C 10 21 (Nat.le_of_ble_eq_true rfl) (Nat.le_of_ble_eq_true rfl) wf_X10_272 rfl (gO_of g1) dX10_ends_25 ?_
    obtain rfl := Option.some.inj h
    exact fw_iret C hr hlk dX10_ends_28
set_option maxRecDepth 100000 in
def f_X10_isName (S : List fw_Sh) (M : fw_Mem) (a0 : Nat) : Option Int32 := gd (gO S 10 a0) (if (M a0 21) = 0 then (if (M a0 18) = 1 then (if (6 : Int32) < ((M a0 20) - (M a0 19)) then (some 0) else (b1 (f_X10_isWord S M a0 1000023) (fun v5 => if v5 = 0 then (some 1) else (some 0)))) else (some 0)) else (some 0))
set_option maxHeartbeats 4000000 in
set_option maxRecDepth 100000 in
theorem c_X10_isName {l : Launch} {G : fw_G} {S : List fw_Sh} {M : fw_Mem} {a0 : Nat} {r : Int32} (hl : l.stackTraces = false) (h : f_X10_isName S M a0 = some r) : fw_M l G yX10_isName (.code yX10_isName cX10_isName 1 (some .boolean)) 8 (fw_mcO (.inl (some (.int r)), S, M)) (fw_msO (.inl (some (.int r)), S, M)) S M [.ref a0] (.inl (some (.int r)), S, M) := by
  refine fw_of [(0, .ref a0)] (by decide) (Nat.le_of_ble_eq_true rfl) rfl ?_
  intro p e s m args below meth c C hr hlk hnm ht _
  unfold f_X10_isName at h
  refine fw_aload_n C 0 dX10_isName_0 rfl rfl ?_
  obtain ⟨g1, h⟩ := gd_some h
  refine fw_getI C 10 21 (Nat.le_of_ble_eq_true rfl) (Nat.le_of_ble_eq_true rfl) wf_X10_272 rfl (gO_of g1) dX10_isName_1 ?_
  refine fw_if_ne C 43 dX10_isName_4 (by decide) (fun c2 => ?_) (fun c2 => ?_)
  · replace h := (if_neg c2).symm.trans h
    refine fw_iconst C 0 dX10_isName_43 rfl ?_
    obtain rfl := Option.some.inj h
    exact fw_zret C hr (Or.inl rfl) hlk dX10_isName_44
  · replace h := (if_pos c2).symm.trans h
    refine fw_aload_n C 0 dX10_isName_7 rfl rfl ?_
    refine fw_getI C 10 18 (Nat.le_of_ble_eq_true rfl) (Nat.le_of_ble_eq_true rfl) wf_X10_260 rfl (gO_of g1) dX10_isName_8 ?_
    refine fw_iconst C 1 dX10_isName_11 rfl ?_
    refine fw_icmp_ne C 43 dX10_isName_12 (by decide) (fun c3 => ?_) (fun c3 => ?_)
    · replace h := (if_neg c3).symm.trans h
      refine fw_iconst C 0 dX10_isName_43 rfl ?_
      obtain rfl := Option.some.inj h
      exact fw_zret C hr (Or.inl rfl) hlk dX10_isName_44
    · replace h := (if_pos c3).symm.trans h
      refine fw_aload_n C 0 dX10_isName_15 rfl rfl ?_
      refine fw_getI C 10 20 (Nat.le_of_ble_eq_true rfl) (Nat.le_of_ble_eq_true rfl) wf_X10_269 rfl (gO_of g1) dX10_isName_16 ?_
      refine fw_aload_n C 0 dX10_isName_19 rfl rfl ?_
      refine fw_getI C 10 19 (Nat.le_of_ble_eq_true rfl) (Nat.le_of_ble_eq_true rfl) wf_X10_257 rfl (gO_of g1) dX10_isName_20 ?_
      refine fw_isub C dX10_isName_23 ?_
      refine fw_bipush C 6 dX10_isName_24 rfl ?_
      refine fw_icmp_gt C 43 dX10_isName_26 (by decide) (fun c4 => ?_) (fun c4 => ?_)
      · replace h := (if_pos c4).symm.trans h
        refine fw_iconst C 0 dX10_isName_43 rfl ?_
        obtain rfl := Option.some.inj h
        exact fw_zret C hr (Or.inl rfl) hlk dX10_isName_44
      · replace h := (if_neg c4).symm.trans h
        refine fw_aload_n C 0 dX10_isName_29 rfl rfl ?_
        refine fw_ldcSw C (i := 22) (List.mem_of_getElem? (i := 58) rfl) dX10_isName_30 ?_
        obtain ⟨v5, e5, h⟩ := b1_some h
        refine fw_callV (ci := 10) [_] C (c_X10_isWord hl e5) cal_X10_isWord wm_X10_308 wi_yX10_isWord wsl_yX10_isWord (Nat.le_of_ble_eq_true rfl) rfl (gO_of g1) rfl (Nat.le_of_ble_eq_true rfl) ⟨Nat.le_of_ble_eq_true rfl, Nat.le_of_ble_eq_true rfl⟩ ⟨Nat.zero_le _, Nat.zero_le _⟩ dX10_isName_33 ?_
        refine fw_if_ne C 43 dX10_isName_36 (by decide) (fun c6 => ?_) (fun c6 => ?_)
        · replace h := (if_neg c6).symm.trans h
          refine fw_iconst C 0 dX10_isName_43 rfl ?_
          obtain rfl := Option.some.inj h
          exact fw_zret C hr (Or.inl rfl) hlk dX10_isName_44
        · replace h := (if_pos c6).symm.trans h
          refine fw_iconst C 1 dX10_isName_39 rfl ?_
          refine fw_goto C 44 dX10_isName_40 (by decide) ?_
          obtain rfl := Option.some.inj h
          exact fw_zret C hr (Or.inr rfl) hlk dX10_isName_44
set_option maxRecDepth 100000 in
def f_X10_letterHere (S : List fw_Sh) (M : fw_Mem) (a0 : Nat) (x1 : Int32) : Option Int32 := gd (gO S 10 a0) (if (M a0 20) ≤ ((M a0 19) + x1) then (some 0) else (gd (gN (M a0 14)) (gd (gA S 0 ((M a0 14).toNatClampNeg) ((M a0 19) + x1)) (some ((M ((M a0 14).toNatClampNeg) ((M a0 19) + x1).toNatClampNeg) - 96)))))
set_option maxHeartbeats 4000000 in
set_option maxRecDepth 100000 in
theorem c_X10_letterHere {l : Launch} {G : fw_G} {S : List fw_Sh} {M : fw_Mem} {a0 : Nat} {x1 : Int32} {r : Int32} (hl : l.stackTraces = false) (h : f_X10_letterHere S M a0 x1 = some r) : fw_M l G yX10_letterHere (.code yX10_letterHere cX10_letterHere 2 (some .int)) 1 (fw_mcO (.inl (some (.int r)), S, M)) (fw_msO (.inl (some (.int r)), S, M)) S M [.ref a0, .int x1] (.inl (some (.int r)), S, M) := by
  refine fw_of [(0, .ref a0), (1, .int x1)] (by decide) (Nat.le_of_ble_eq_true rfl) rfl ?_
  intro p e s m args below meth c C hr hlk hnm ht _
  unfold f_X10_letterHere at h
  refine fw_aload_n C 0 dX10_letterHere_0 rfl rfl ?_
  obtain ⟨g1, h⟩ := gd_some h
  refine fw_getI C 10 19 (Nat.le_of_ble_eq_true rfl) (Nat.le_of_ble_eq_true rfl) wf_X10_257 rfl (gO_of g1) dX10_letterHere_1 ?_
  refine fw_iload_n C 1 dX10_letterHere_4 rfl rfl ?_
  refine fw_iadd C dX10_letterHere_5 ?_
  refine fw_aload_n C 0 dX10_letterHere_6 rfl rfl ?_
  refine fw_getI C 10 20 (Nat.le_of_ble_eq_true rfl) (Nat.le_of_ble_eq_true rfl) wf_X10_269 rfl (gO_of g1) dX10_letterHere_7 ?_
  refine fw_icmp_ge C 30 dX10_letterHere_10 (by decide) (fun c2 => ?_) (fun c2 => ?_)
  · replace h := (if_pos c2).symm.trans h
    refine fw_iconst C 0 dX10_letterHere_30 rfl ?_
    obtain rfl := Option.some.inj h
    exact fw_iret C hr hlk dX10_letterHere_31
  · replace h := (if_neg c2).symm.trans h
    refine fw_aload_n C 0 dX10_letterHere_13 rfl rfl ?_
    obtain ⟨g3, h⟩ := gd_some h
    refine fw_getR C 10 14 (Nat.le_of_ble_eq_true rfl) (Nat.le_of_ble_eq_true rfl) wf_X10_40 rfl (gO_of g1) (gN_of g3) dX10_letterHere_14 ?_
    refine fw_aload_n C 0 dX10_letterHere_17 rfl rfl ?_
    refine fw_getI C 10 19 (Nat.le_of_ble_eq_true rfl) (Nat.le_of_ble_eq_true rfl) wf_X10_257 rfl (gO_of g1) dX10_letterHere_18 ?_
    refine fw_iload_n C 1 dX10_letterHere_21 rfl rfl ?_
    refine fw_iadd C dX10_letterHere_22 ?_
    obtain ⟨g4, h⟩ := gd_some h
    refine fw_iald C (gA_of g4) dX10_letterHere_23 ?_
    refine fw_bipush C 96 dX10_letterHere_24 rfl ?_
    refine fw_isub C dX10_letterHere_26 ?_
    refine fw_goto C 31 dX10_letterHere_27 (by decide) ?_
    obtain rfl := Option.some.inj h
    exact fw_iret C hr hlk dX10_letterHere_31
set_option maxRecDepth 100000 in
def lf_X10_named_16 (S : List fw_Sh) (M : fw_Mem) (a0 : Nat) (x1 : Int32) : Nat → Int32 → Int32 → Option (Int32)
  | 0, _, _ => none
  | n + 1, x2, x3 => if (6 : Int32) ≤ x3 then (some x2) else (if x2 = 0 then (lf_X10_named_16 S M a0 x1 n 0 (x3 + 1)) else (gd (gO S 10 a0) (gd (gN (M a0 1)) (gd (gA S 0 ((M a0 1).toNatClampNeg) (((6 : Int32) + ((6 : Int32) * x1)) + x3)) (b1 (f_X10_letterHere S M a0 x3) (fun v10 => if (M ((M a0 1).toNatClampNeg) (((6 : Int32) + ((6 : Int32) * x1)) + x3).toNatClampNeg) = v10 then (lf_X10_named_16 S M a0 x1 n 1 (x3 + 1)) else (lf_X10_named_16 S M a0 x1 n 0 (x3 + 1))))))))
set_option maxHeartbeats 4000000 in
set_option maxRecDepth 100000 in
theorem lc_X10_named_16 {G : fw_G} {p : Program} {l : Launch} {e : Env} {s : State} {m : MethodId} {args : Array Value} {below : List Frame} {meth : Method} {c : Code} {S : List fw_Sh} {o : fw_O} {M : fw_Mem} {a0 : Nat} {x1 : Int32} (C : fw_C G RX10 cX10_named 4 p s m args c) (hr : meth.sig.returnType = (some .int)) (hlk : meth.locks = false) (hl : l.stackTraces = false) (ht : ∀ x ∈ c.exceptionTable.toList, False) :
    ∀ {n : Nat} {x2 : Int32} {x3 : Int32} {r : (Int32)} (h : lf_X10_named_16 S M a0 x1 n x2 x3 = some r) (kx : fw_W G p l e (fw_rm 2 (fw_mcO o) (fw_msO o)) s m args below meth c 4 (fw_Z G below args s (fw_mcO o) (fw_msO o) o) 0 0 60 [(0, .ref a0), (1, .int x1), (2, .int r)] [] S M), fw_W G p l e (fw_rm 2 (fw_mcO o) (fw_msO o)) s m args below meth c 4 (fw_Z G below args s (fw_mcO o) (fw_msO o) o) 0 0 16 [(0, .ref a0), (1, .int x1), (2, .int x2), (3, .int x3)] [] S M := by
  intro n
  induction n with
  | zero =>
    intro x2 x3 r h
    exact nomatch (show (none : Option (Int32)) = some r from h)
  | succ n ih =>
    intro x2 x3 r h kx
    rw [lf_X10_named_16.eq_2] at h
    refine fw_iload_n C 3 dX10_named_16 rfl rfl ?_
    refine fw_bipush C 6 dX10_named_17 rfl ?_
    refine fw_icmp_ge C 60 dX10_named_19 (by decide) (fun c5 => ?_) (fun c5 => ?_)
    · replace h := (if_pos c5).symm.trans h
      obtain rfl := Option.some.inj h
      refine fw_sub [0, 1, 2] rfl ?_
      exact kx
    · replace h := (if_neg c5).symm.trans h
      refine fw_iload_n C 2 dX10_named_22 rfl rfl ?_
      refine fw_if_eq C 52 dX10_named_23 (by decide) (fun c6 => ?_) (fun c6 => ?_)
      · replace h := (if_pos c6).symm.trans h
        refine fw_iconst C 0 dX10_named_52 rfl ?_
        refine fw_istore_n C [(2, _), (0, _), (1, _), (3, _)] dX10_named_53 rfl (Nat.le_of_ble_eq_true rfl) rfl ?_
        refine fw_iinc C _ 3 [(3, _), (2, _), (0, _), (1, _)] dX10_named_54 rfl rfl (Nat.le_of_ble_eq_true rfl) rfl ?_
        refine fw_goto C 16 dX10_named_57 (by decide) ?_
        refine fw_sub [2, 3, 1, 0] rfl ?_
        exact ih h kx
      · replace h := (if_neg c6).symm.trans h
        refine fw_aload_n C 0 dX10_named_26 rfl rfl ?_
        obtain ⟨g7, h⟩ := gd_some h
        obtain ⟨g8, h⟩ := gd_some h
        refine fw_getR C 10 1 (Nat.le_of_ble_eq_true rfl) (Nat.le_of_ble_eq_true rfl) wf_X10_13 rfl (gO_of g7) (gN_of g8) dX10_named_27 ?_
        refine fw_bipush C 6 dX10_named_30 rfl ?_
        refine fw_bipush C 6 dX10_named_32 rfl ?_
        refine fw_iload_n C 1 dX10_named_34 rfl rfl ?_
        refine fw_imul C dX10_named_35 ?_
        refine fw_iadd C dX10_named_36 ?_
        refine fw_iload_n C 3 dX10_named_37 rfl rfl ?_
        refine fw_iadd C dX10_named_38 ?_
        obtain ⟨g9, h⟩ := gd_some h
        refine fw_iald C (gA_of g9) dX10_named_39 ?_
        refine fw_aload_n C 0 dX10_named_40 rfl rfl ?_
        refine fw_iload_n C 3 dX10_named_41 rfl rfl ?_
        obtain ⟨v10, e10, h⟩ := b1_some h
        refine fw_callV (ci := 10) [_] C (c_X10_letterHere hl e10) cal_X10_letterHere wm_X10_312 wi_yX10_letterHere wsl_yX10_letterHere (Nat.le_of_ble_eq_true rfl) rfl (gO_of g7) rfl (Nat.le_of_ble_eq_true rfl) ⟨Nat.le_of_ble_eq_true rfl, Nat.le_of_ble_eq_true rfl⟩ ⟨Nat.zero_le _, Nat.zero_le _⟩ dX10_named_42 ?_
        refine fw_icmp_ne C 52 dX10_named_45 (by decide) (fun c11 => ?_) (fun c11 => ?_)
        · replace h := (if_neg c11).symm.trans h
          refine fw_iconst C 0 dX10_named_52 rfl ?_
          refine fw_istore_n C [(2, _), (0, _), (1, _), (3, _)] dX10_named_53 rfl (Nat.le_of_ble_eq_true rfl) rfl ?_
          refine fw_iinc C _ 3 [(3, _), (2, _), (0, _), (1, _)] dX10_named_54 rfl rfl (Nat.le_of_ble_eq_true rfl) rfl ?_
          refine fw_goto C 16 dX10_named_57 (by decide) ?_
          refine fw_sub [2, 3, 1, 0] rfl ?_
          exact ih h kx
        · replace h := (if_pos c11).symm.trans h
          refine fw_iconst C 1 dX10_named_48 rfl ?_
          refine fw_goto C 53 dX10_named_49 (by decide) ?_
          refine fw_istore_n C [(2, _), (0, _), (1, _), (3, _)] dX10_named_53 rfl (Nat.le_of_ble_eq_true rfl) rfl ?_
          refine fw_iinc C _ 3 [(3, _), (2, _), (0, _), (1, _)] dX10_named_54 rfl rfl (Nat.le_of_ble_eq_true rfl) rfl ?_
          refine fw_goto C 16 dX10_named_57 (by decide) ?_
          refine fw_sub [2, 3, 1, 0] rfl ?_
          exact ih h kx
set_option maxRecDepth 100000 in
def lf_X10_named_2 (S : List fw_Sh) (M : fw_Mem) (a0 : Nat) : Nat → Int32 → Option (Int32 ⊕ (Unit))
  | 0, _ => none
  | n + 1, x1 => gd (gO S 10 a0) (gd (gN (M a0 1)) (gd (gA S 0 ((M a0 1).toNatClampNeg) 0) (if (M ((M a0 1).toNatClampNeg) 0) ≤ x1 then (some (.inr ())) else (b1 (lf_X10_named_16 S M a0 x1 20000 1 0) (fun l12 => if l12 = 0 then (lf_X10_named_2 S M a0 n (x1 + 1)) else (some (.inl x1)))))))
set_option maxHeartbeats 4000000 in
set_option maxRecDepth 100000 in
theorem lc_X10_named_2 {G : fw_G} {p : Program} {l : Launch} {e : Env} {s : State} {m : MethodId} {args : Array Value} {below : List Frame} {meth : Method} {c : Code} {S : List fw_Sh} {o : fw_O} {M : fw_Mem} {a0 : Nat} (C : fw_C G RX10 cX10_named 4 p s m args c) (hr : meth.sig.returnType = (some .int)) (hlk : meth.locks = false) (hl : l.stackTraces = false) (ht : ∀ x ∈ c.exceptionTable.toList, False) :
    ∀ {n : Nat} {x1 : Int32} {r : (Int32 ⊕ (Unit))} (h : lf_X10_named_2 S M a0 n x1 = some r) (kx : ∀ d, r = .inr d → fw_W G p l e (fw_rm 2 (fw_mcO o) (fw_msO o)) s m args below meth c 4 (fw_Z G below args s (fw_mcO o) (fw_msO o) o) 0 0 72 [] [] S M) (hret : ∀ t, r = .inl t → o = (.inl (some (.int t)), S, M)), fw_W G p l e (fw_rm 2 (fw_mcO o) (fw_msO o)) s m args below meth c 4 (fw_Z G below args s (fw_mcO o) (fw_msO o) o) 0 0 2 [(0, .ref a0), (1, .int x1)] [] S M := by
  intro n
  induction n with
  | zero =>
    intro x1 r h
    exact nomatch (show (none : Option (Int32 ⊕ (Unit))) = some r from h)
  | succ n ih =>
    intro x1 r h kx hret
    rw [lf_X10_named_2.eq_2] at h
    refine fw_iload_n C 1 dX10_named_2 rfl rfl ?_
    refine fw_aload_n C 0 dX10_named_3 rfl rfl ?_
    obtain ⟨g1, h⟩ := gd_some h
    obtain ⟨g2, h⟩ := gd_some h
    refine fw_getR C 10 1 (Nat.le_of_ble_eq_true rfl) (Nat.le_of_ble_eq_true rfl) wf_X10_13 rfl (gO_of g1) (gN_of g2) dX10_named_4 ?_
    refine fw_iconst C 0 dX10_named_7 rfl ?_
    obtain ⟨g3, h⟩ := gd_some h
    refine fw_iald C (gA_of g3) dX10_named_8 ?_
    refine fw_icmp_ge C 72 dX10_named_9 (by decide) (fun c4 => ?_) (fun c4 => ?_)
    · replace h := (if_pos c4).symm.trans h
      refine fw_sub [] rfl ?_
      exact kx _ (Option.some.inj h).symm
    · replace h := (if_neg c4).symm.trans h
      refine fw_iconst C 1 dX10_named_12 rfl ?_
      refine fw_istore_n C [(2, _), (0, _), (1, _)] dX10_named_13 rfl (Nat.le_of_ble_eq_true rfl) rfl ?_
      refine fw_iconst C 0 dX10_named_14 rfl ?_
      refine fw_istore_n C [(3, _), (2, _), (0, _), (1, _)] dX10_named_15 rfl (Nat.le_of_ble_eq_true rfl) rfl ?_
      refine fw_sub [2, 3, 1, 0] rfl ?_
      obtain ⟨l12, e12, h⟩ := b1_some h
      refine lc_X10_named_16 C hr hlk hl ht e12 ?_
      refine fw_iload_n C 2 dX10_named_60 rfl rfl ?_
      refine fw_if_eq C 66 dX10_named_61 (by decide) (fun c13 => ?_) (fun c13 => ?_)
      · replace h := (if_pos c13).symm.trans h
        refine fw_iinc C _ 1 [(1, _), (0, _), (2, _)] dX10_named_66 rfl rfl (Nat.le_of_ble_eq_true rfl) rfl ?_
        refine fw_goto C 2 dX10_named_69 (by decide) ?_
        refine fw_sub [1, 0] rfl ?_
        exact ih h kx hret
      · replace h := (if_neg c13).symm.trans h
        refine fw_iload_n C 1 dX10_named_64 rfl rfl ?_
        have ho := hret _ (Option.some.inj h).symm
        subst ho
        exact fw_iret C hr hlk dX10_named_65
set_option maxRecDepth 100000 in
def f_X10_named (S : List fw_Sh) (M : fw_Mem) (a0 : Nat) : Option Int32 := b1 (lf_X10_named_2 S M a0 20000 0) (fun l14 => bl l14 (fun t14 => some t14) (fun d14 => some (-1)))
set_option maxHeartbeats 4000000 in
set_option maxRecDepth 100000 in
theorem c_X10_named {l : Launch} {G : fw_G} {S : List fw_Sh} {M : fw_Mem} {a0 : Nat} {r : Int32} (hl : l.stackTraces = false) (h : f_X10_named S M a0 = some r) : fw_M l G yX10_named (.code yX10_named cX10_named 4 (some .int)) 2 (fw_mcO (.inl (some (.int r)), S, M)) (fw_msO (.inl (some (.int r)), S, M)) S M [.ref a0] (.inl (some (.int r)), S, M) := by
  refine fw_of [(0, .ref a0)] (by decide) (Nat.le_of_ble_eq_true rfl) rfl ?_
  intro p e s m args below meth c C hr hlk hnm ht _
  unfold f_X10_named at h
  refine fw_iconst C 0 dX10_named_0 rfl ?_
  refine fw_istore_n C [(1, _), (0, _)] dX10_named_1 rfl (Nat.le_of_ble_eq_true rfl) rfl ?_
  refine fw_sub [1, 0] rfl ?_
  obtain ⟨l14, e14, h⟩ := b1_some h
  rcases l14 with t14 | d14
  · obtain rfl := Option.some.inj (bl_l h)
    exact lc_X10_named_2 C hr hlk hl ht e14 (fun d hd => nomatch hd) (fun t ht => by cases ht; rfl)
  replace h := bl_r h
  refine lc_X10_named_2 C hr hlk hl ht e14 (fun d hd => ?_) (fun t ht => nomatch ht)
  cases hd
  refine fw_iconst C (-1) dX10_named_72 rfl ?_
  obtain rfl := Option.some.inj h
  exact fw_iret C hr hlk dX10_named_73
