set_option maxRecDepth 100000 in
def lf_X10_nearer_2 (S : List fw_Sh) (M : fw_Mem) (a0 : Nat) (x1 : Int32) (x2 : Int32) : Nat → Int32 → Option (Int32)
  | 0, _ => none
  | n + 1, x3 => gd (gO S 10 a0) (b1 (f_X10_linkOf S M a0 x3 0) (fun v1 => if v1 = x2 then (b1 (f_X10_of S M a0 x1 6) (fun v4 => b1 (f_X10_binds S M a0 x3 v4) (fun v5 => if v5 = 0 then (lf_X10_nearer_2 S M a0 x1 x2 n (x3 + 1)) else (gd (gN (M a0 8)) (b1 (f_X10_linkOf S M a0 x3 1) (fun v8 => gd (gA S 0 ((M a0 8).toNatClampNeg) v8) (gd (gA S 0 ((M a0 8).toNatClampNeg) x2) (if (M ((M a0 8).toNatClampNeg) v8.toNatClampNeg) = ((M ((M a0 8).toNatClampNeg) x2.toNatClampNeg) - 1) then (some x3) else (lf_X10_nearer_2 S M a0 x1 x2 n (x3 + 1)))))))))) else (lf_X10_nearer_2 S M a0 x1 x2 n (x3 + 1))))
set_option maxHeartbeats 4000000 in
set_option maxRecDepth 100000 in
theorem lc_X10_nearer_2 {G : fw_G} {p : Program} {l : Launch} {e : Env} {s : State} {m : MethodId} {args : Array Value} {below : List Frame} {meth : Method} {c : Code} {S : List fw_Sh} {o : fw_O} {M : fw_Mem} {a0 : Nat} {x1 : Int32} {x2 : Int32} (C : fw_C G RX10 cX10_nearer 4 p s m args c) (hr : meth.sig.returnType = (some .int)) (hlk : meth.locks = false) (hl : l.stackTraces = false) (ht : ∀ x ∈ c.exceptionTable.toList, False) :
    ∀ {n : Nat} {x3 : Int32} {r : (Int32)} (h : lf_X10_nearer_2 S M a0 x1 x2 n x3 = some r) (kx : fw_W G p l e (fw_rm 3 (fw_mcO o) (fw_msO o)) s m args below meth c 4 (fw_Z G below args s (fw_mcO o) (fw_msO o) o) 0 0 55 [(3, .int r)] [] S M), fw_W G p l e (fw_rm 3 (fw_mcO o) (fw_msO o)) s m args below meth c 4 (fw_Z G below args s (fw_mcO o) (fw_msO o) o) 0 0 2 [(0, .ref a0), (1, .int x1), (2, .int x2), (3, .int x3)] [] S M := by
  intro n
  induction n with
  | zero =>
    intro x3 r h
    exact nomatch (show (none : Option (Int32)) = some r from h)
  | succ n ih =>
    intro x3 r h kx
    rw [lf_X10_nearer_2.eq_2] at h
    refine fw_aload_n C 0 dX10_nearer_2 rfl rfl ?_
    refine fw_iload_n C 3 dX10_nearer_3 rfl rfl ?_
    refine fw_iconst C 0 dX10_nearer_4 rfl ?_
    obtain ⟨g2, h⟩ := gd_some h
    obtain ⟨v1, e1, h⟩ := b1_some h
    refine fw_callV (ci := 10) [_, _] C (c_X10_linkOf hl e1) cal_X10_linkOf wm_X10_92 wi_yX10_linkOf wsl_yX10_linkOf (Nat.le_of_ble_eq_true rfl) rfl (gO_of g2) rfl (Nat.le_of_ble_eq_true rfl) ⟨Nat.le_of_ble_eq_true rfl, Nat.le_of_ble_eq_true rfl⟩ ⟨Nat.zero_le _, Nat.zero_le _⟩ dX10_nearer_5 ?_
    refine fw_iload_n C 2 dX10_nearer_8 rfl rfl ?_
    refine fw_icmp_ne C 49 dX10_nearer_9 (by decide) (fun c3 => ?_) (fun c3 => ?_)
    · replace h := (if_neg c3).symm.trans h
      refine fw_iinc C _ 3 [(3, _), (0, _), (1, _), (2, _)] dX10_nearer_49 rfl rfl (Nat.le_of_ble_eq_true rfl) rfl ?_
      refine fw_goto C 2 dX10_nearer_52 (by decide) ?_
      refine fw_sub [1, 2, 3, 0] rfl ?_
      exact ih h kx
    · replace h := (if_pos c3).symm.trans h
      refine fw_aload_n C 0 dX10_nearer_12 rfl rfl ?_
      refine fw_iload_n C 3 dX10_nearer_13 rfl rfl ?_
      refine fw_aload_n C 0 dX10_nearer_14 rfl rfl ?_
      refine fw_iload_n C 1 dX10_nearer_15 rfl rfl ?_
      refine fw_bipush C 6 dX10_nearer_16 rfl ?_
      obtain ⟨v4, e4, h⟩ := b1_some h
      refine fw_callV (ci := 10) [_, _] C (c_X10_of hl e4) cal_X10_of wm_X10_65 wi_yX10_of wsl_yX10_of (Nat.le_of_ble_eq_true rfl) rfl (gO_of g2) rfl (Nat.le_of_ble_eq_true rfl) ⟨Nat.le_of_ble_eq_true rfl, Nat.le_of_ble_eq_true rfl⟩ ⟨Nat.zero_le _, Nat.zero_le _⟩ dX10_nearer_18 ?_
      obtain ⟨v5, e5, h⟩ := b1_some h
      refine fw_callV (ci := 10) [_, _] C (c_X10_binds hl e5) cal_X10_binds wm_X10_102 wi_yX10_binds wsl_yX10_binds (Nat.le_of_ble_eq_true rfl) rfl (gO_of g2) rfl (Nat.le_of_ble_eq_true rfl) ⟨Nat.le_of_ble_eq_true rfl, Nat.le_of_ble_eq_true rfl⟩ ⟨Nat.zero_le _, Nat.zero_le _⟩ dX10_nearer_21 ?_
      refine fw_if_eq C 49 dX10_nearer_24 (by decide) (fun c6 => ?_) (fun c6 => ?_)
      · replace h := (if_pos c6).symm.trans h
        refine fw_iinc C _ 3 [(3, _), (0, _), (1, _), (2, _)] dX10_nearer_49 rfl rfl (Nat.le_of_ble_eq_true rfl) rfl ?_
        refine fw_goto C 2 dX10_nearer_52 (by decide) ?_
        refine fw_sub [1, 2, 3, 0] rfl ?_
        exact ih h kx
      · replace h := (if_neg c6).symm.trans h
        refine fw_aload_n C 0 dX10_nearer_27 rfl rfl ?_
        obtain ⟨g7, h⟩ := gd_some h
        refine fw_getR C 10 8 (Nat.le_of_ble_eq_true rfl) (Nat.le_of_ble_eq_true rfl) wf_X10_25 rfl (gO_of g2) (gN_of g7) dX10_nearer_28 ?_
        refine fw_aload_n C 0 dX10_nearer_31 rfl rfl ?_
        refine fw_iload_n C 3 dX10_nearer_32 rfl rfl ?_
        refine fw_iconst C 1 dX10_nearer_33 rfl ?_
        obtain ⟨v8, e8, h⟩ := b1_some h
        refine fw_callV (ci := 10) [_, _] C (c_X10_linkOf hl e8) cal_X10_linkOf wm_X10_92 wi_yX10_linkOf wsl_yX10_linkOf (Nat.le_of_ble_eq_true rfl) rfl (gO_of g2) rfl (Nat.le_of_ble_eq_true rfl) ⟨Nat.le_of_ble_eq_true rfl, Nat.le_of_ble_eq_true rfl⟩ ⟨Nat.zero_le _, Nat.zero_le _⟩ dX10_nearer_34 ?_
        obtain ⟨g9, h⟩ := gd_some h
        refine fw_iald C (gA_of g9) dX10_nearer_37 ?_
        refine fw_aload_n C 0 dX10_nearer_38 rfl rfl ?_
        refine fw_getR C 10 8 (Nat.le_of_ble_eq_true rfl) (Nat.le_of_ble_eq_true rfl) wf_X10_25 rfl (gO_of g2) (gN_of g7) dX10_nearer_39 ?_
        refine fw_iload_n C 2 dX10_nearer_42 rfl rfl ?_
        obtain ⟨g10, h⟩ := gd_some h
        refine fw_iald C (gA_of g10) dX10_nearer_43 ?_
        refine fw_iconst C 1 dX10_nearer_44 rfl ?_
        refine fw_isub C dX10_nearer_45 ?_
        refine fw_icmp_eq C 55 dX10_nearer_46 (by decide) (fun c11 => ?_) (fun c11 => ?_)
        · replace h := (if_pos c11).symm.trans h
          obtain rfl := Option.some.inj h
          refine fw_sub [3] rfl ?_
          exact kx
        · replace h := (if_neg c11).symm.trans h
          refine fw_iinc C _ 3 [(3, _), (0, _), (1, _), (2, _)] dX10_nearer_49 rfl rfl (Nat.le_of_ble_eq_true rfl) rfl ?_
          refine fw_goto C 2 dX10_nearer_52 (by decide) ?_
          refine fw_sub [1, 2, 3, 0] rfl ?_
          exact ih h kx
set_option maxRecDepth 100000 in
def f_X10_nearer (S : List fw_Sh) (M : fw_Mem) (a0 : Nat) (x1 : Int32) (x2 : Int32) : Option Int32 := b1 (lf_X10_nearer_2 S M a0 x1 x2 20000 0) (fun l12 => some l12)
set_option maxHeartbeats 4000000 in
set_option maxRecDepth 100000 in
theorem c_X10_nearer {l : Launch} {G : fw_G} {S : List fw_Sh} {M : fw_Mem} {a0 : Nat} {x1 : Int32} {x2 : Int32} {r : Int32} (hl : l.stackTraces = false) (h : f_X10_nearer S M a0 x1 x2 = some r) : fw_M l G yX10_nearer (.code yX10_nearer cX10_nearer 4 (some .int)) 3 (fw_mcO (.inl (some (.int r)), S, M)) (fw_msO (.inl (some (.int r)), S, M)) S M [.ref a0, .int x1, .int x2] (.inl (some (.int r)), S, M) := by
  refine fw_of [(0, .ref a0), (1, .int x1), (2, .int x2)] (by decide) (Nat.le_of_ble_eq_true rfl) rfl ?_
  intro p e s m args below meth c C hr hlk hnm ht _
  unfold f_X10_nearer at h
  refine fw_iconst C 0 dX10_nearer_0 rfl ?_
  refine fw_istore_n C [(3, _), (0, _), (1, _), (2, _)] dX10_nearer_1 rfl (Nat.le_of_ble_eq_true rfl) rfl ?_
  refine fw_sub [1, 2, 3, 0] rfl ?_
  obtain ⟨l12, e12, h⟩ := b1_some h
  refine lc_X10_nearer_2 C hr hlk hl ht e12 ?_
  refine fw_iload_n C 0 dX10_nearer_55 rfl rfl ?_
  obtain rfl := Option.some.inj h
  exact fw_iret C hr hlk dX10_nearer_56
set_option maxRecDepth 100000 in
def f_X10_comesBehind (S : List fw_Sh) (M : fw_Mem) (a0 : Nat) (x1 : Int32) (x2 : Int32) : Option Int32 := if x2 = x1 then (some 0) else (gd (gO S 10 a0) (b1 (f_X10_isJudged S M a0 x2) (fun v2 => if v2 = 0 then (some 0) else (b1 (f_X10_isReversed S M a0 x2) (fun v5 => if v5 = 0 then (b1 (f_X10_of S M a0 x1 2) (fun v7 => b1 (f_X10_of S M a0 x2 6) (fun v8 => if v7 < v8 then (some 0) else (some 1)))) else (some 0))))))
set_option maxHeartbeats 4000000 in
set_option maxRecDepth 100000 in
theorem c_X10_comesBehind {l : Launch} {G : fw_G} {S : List fw_Sh} {M : fw_Mem} {a0 : Nat} {x1 : Int32} {x2 : Int32} {r : Int32} (hl : l.stackTraces = false) (h : f_X10_comesBehind S M a0 x1 x2 = some r) : fw_M l G yX10_comesBehind (.code yX10_comesBehind cX10_comesBehind 3 (some .boolean)) 3 (fw_mcO (.inl (some (.int r)), S, M)) (fw_msO (.inl (some (.int r)), S, M)) S M [.ref a0, .int x1, .int x2] (.inl (some (.int r)), S, M) := by
  refine fw_of [(0, .ref a0), (1, .int x1), (2, .int x2)] (by decide) (Nat.le_of_ble_eq_true rfl) rfl ?_
  intro p e s m args below meth c C hr hlk hnm ht _
  unfold f_X10_comesBehind at h
  refine fw_iload_n C 2 dX10_comesBehind_0 rfl rfl ?_
  refine fw_iload_n C 1 dX10_comesBehind_1 rfl rfl ?_
  refine fw_icmp_eq C 41 dX10_comesBehind_2 (by decide) (fun c1 => ?_) (fun c1 => ?_)
  · replace h := (if_pos c1).symm.trans h
    refine fw_iconst C 0 dX10_comesBehind_41 rfl ?_
    obtain rfl := Option.some.inj h
    exact fw_zret C hr (Or.inl rfl) hlk dX10_comesBehind_42
  · replace h := (if_neg c1).symm.trans h
    refine fw_aload_n C 0 dX10_comesBehind_5 rfl rfl ?_
    refine fw_iload_n C 2 dX10_comesBehind_6 rfl rfl ?_
    obtain ⟨g3, h⟩ := gd_some h
    obtain ⟨v2, e2, h⟩ := b1_some h
    refine fw_callV (ci := 10) [_] C (c_X10_isJudged hl e2) cal_X10_isJudged wm_X10_69 wi_yX10_isJudged wsl_yX10_isJudged (Nat.le_of_ble_eq_true rfl) rfl (gO_of g3) rfl (Nat.le_of_ble_eq_true rfl) ⟨Nat.le_of_ble_eq_true rfl, Nat.le_of_ble_eq_true rfl⟩ ⟨Nat.zero_le _, Nat.zero_le _⟩ dX10_comesBehind_7 ?_
    refine fw_if_eq C 41 dX10_comesBehind_10 (by decide) (fun c4 => ?_) (fun c4 => ?_)
    · replace h := (if_pos c4).symm.trans h
      refine fw_iconst C 0 dX10_comesBehind_41 rfl ?_
      obtain rfl := Option.some.inj h
      exact fw_zret C hr (Or.inl rfl) hlk dX10_comesBehind_42
    · replace h := (if_neg c4).symm.trans h
      refine fw_aload_n C 0 dX10_comesBehind_13 rfl rfl ?_
      refine fw_iload_n C 2 dX10_comesBehind_14 rfl rfl ?_
      obtain ⟨v5, e5, h⟩ := b1_some h
      refine fw_callV (ci := 10) [_] C (c_X10_isReversed hl e5) cal_X10_isReversed wm_X10_86 wi_yX10_isReversed wsl_yX10_isReversed (Nat.le_of_ble_eq_true rfl) rfl (gO_of g3) rfl (Nat.le_of_ble_eq_true rfl) ⟨Nat.le_of_ble_eq_true rfl, Nat.le_of_ble_eq_true rfl⟩ ⟨Nat.zero_le _, Nat.zero_le _⟩ dX10_comesBehind_15 ?_
      refine fw_if_ne C 41 dX10_comesBehind_18 (by decide) (fun c6 => ?_) (fun c6 => ?_)
      · replace h := (if_neg c6).symm.trans h
        refine fw_iconst C 0 dX10_comesBehind_41 rfl ?_
        obtain rfl := Option.some.inj h
        exact fw_zret C hr (Or.inl rfl) hlk dX10_comesBehind_42
      · replace h := (if_pos c6).symm.trans h
        refine fw_aload_n C 0 dX10_comesBehind_21 rfl rfl ?_
        refine fw_iload_n C 1 dX10_comesBehind_22 rfl rfl ?_
        refine fw_iconst C 2 dX10_comesBehind_23 rfl ?_
        obtain ⟨v7, e7, h⟩ := b1_some h
        refine fw_callV (ci := 10) [_, _] C (c_X10_of hl e7) cal_X10_of wm_X10_65 wi_yX10_of wsl_yX10_of (Nat.le_of_ble_eq_true rfl) rfl (gO_of g3) rfl (Nat.le_of_ble_eq_true rfl) ⟨Nat.le_of_ble_eq_true rfl, Nat.le_of_ble_eq_true rfl⟩ ⟨Nat.zero_le _, Nat.zero_le _⟩ dX10_comesBehind_24 ?_
        refine fw_aload_n C 0 dX10_comesBehind_27 rfl rfl ?_
        refine fw_iload_n C 2 dX10_comesBehind_28 rfl rfl ?_
        refine fw_bipush C 6 dX10_comesBehind_29 rfl ?_
        obtain ⟨v8, e8, h⟩ := b1_some h
        refine fw_callV (ci := 10) [_, _] C (c_X10_of hl e8) cal_X10_of wm_X10_65 wi_yX10_of wsl_yX10_of (Nat.le_of_ble_eq_true rfl) rfl (gO_of g3) rfl (Nat.le_of_ble_eq_true rfl) ⟨Nat.le_of_ble_eq_true rfl, Nat.le_of_ble_eq_true rfl⟩ ⟨Nat.zero_le _, Nat.zero_le _⟩ dX10_comesBehind_31 ?_
        refine fw_icmp_lt C 41 dX10_comesBehind_34 (by decide) (fun c9 => ?_) (fun c9 => ?_)
        · replace h := (if_pos c9).symm.trans h
          refine fw_iconst C 0 dX10_comesBehind_41 rfl ?_
          obtain rfl := Option.some.inj h
          exact fw_zret C hr (Or.inl rfl) hlk dX10_comesBehind_42
        · replace h := (if_neg c9).symm.trans h
          refine fw_iconst C 1 dX10_comesBehind_37 rfl ?_
          refine fw_goto C 42 dX10_comesBehind_38 (by decide) ?_
          obtain rfl := Option.some.inj h
          exact fw_zret C hr (Or.inr rfl) hlk dX10_comesBehind_42
set_option maxRecDepth 100000 in
def f_X10_areSame (S : List fw_Sh) (M : fw_Mem) (a0 : Nat) (x1 : Int32) (x2 : Int32) : Option Int32 := gd (gO S 10 a0) (b1 (f_X10_of S M a0 x2 3) (fun v1 => b1 (f_X10_bitsOf S M v1) (fun v3 => b1 (f_X10_of S M a0 x1 3) (fun v4 => b1 (f_X10_bitsOf S M v4) (fun v5 => bm (if v5 < v3 then v5 else v3) (fun y6 => b1 (f_X10_of S M a0 x2 3) (fun v7 => b1 (f_X10_of S M a0 x1 3) (fun v8 => b1 (f_X10_bitsOf S M (v7 &&& v8)) (fun v9 => if y6 ≤ 0 then (some 0) else (gd (gN (M a0 0)) (gd (gA S 0 ((M a0 0).toNatClampNeg) 3) (if ((100 : Int32) * v9) < ((M ((M a0 0).toNatClampNeg) 3) * y6) then (some 0) else (some 1)))))))))))))
set_option maxHeartbeats 4000000 in
set_option maxRecDepth 100000 in
theorem c_X10_areSame {l : Launch} {G : fw_G} {S : List fw_Sh} {M : fw_Mem} {a0 : Nat} {x1 : Int32} {x2 : Int32} {r : Int32} (hl : l.stackTraces = false) (h : f_X10_areSame S M a0 x1 x2 = some r) : fw_M l G yX10_areSame (.code yX10_areSame cX10_areSame 5 (some .boolean)) 2 (fw_mcO (.inl (some (.int r)), S, M)) (fw_msO (.inl (some (.int r)), S, M)) S M [.ref a0, .int x1, .int x2] (.inl (some (.int r)), S, M) := by
  refine fw_of [(0, .ref a0), (1, .int x1), (2, .int x2)] (by decide) (Nat.le_of_ble_eq_true rfl) rfl ?_
  intro p e s m args below meth c C hr hlk hnm ht _
  unfold f_X10_areSame at h
  refine fw_aload_n C 0 dX10_areSame_0 rfl rfl ?_
  refine fw_iload_n C 2 dX10_areSame_1 rfl rfl ?_
  refine fw_iconst C 3 dX10_areSame_2 rfl ?_
  obtain ⟨g2, h⟩ := gd_some h
  obtain ⟨v1, e1, h⟩ := b1_some h
  refine fw_callV (ci := 10) [_, _] C (c_X10_of hl e1) cal_X10_of wm_X10_65 wi_yX10_of wsl_yX10_of (Nat.le_of_ble_eq_true rfl) rfl (gO_of g2) rfl (Nat.le_of_ble_eq_true rfl) ⟨Nat.le_of_ble_eq_true rfl, Nat.le_of_ble_eq_true rfl⟩ ⟨Nat.zero_le _, Nat.zero_le _⟩ dX10_areSame_3 ?_
  obtain ⟨v3, e3, h⟩ := b1_some h
  refine fw_callS [_] C (c_X10_bitsOf hl e3) cal_X10_bitsOf wm_X10_83 wt_yX10_bitsOf rfl (Nat.le_of_ble_eq_true rfl) ⟨Nat.le_of_ble_eq_true rfl, Nat.le_of_ble_eq_true rfl⟩ ⟨Nat.zero_le _, Nat.zero_le _⟩ dX10_areSame_6 ?_
  refine fw_aload_n C 0 dX10_areSame_9 rfl rfl ?_
  refine fw_iload_n C 1 dX10_areSame_10 rfl rfl ?_
  refine fw_iconst C 3 dX10_areSame_11 rfl ?_
  obtain ⟨v4, e4, h⟩ := b1_some h
  refine fw_callV (ci := 10) [_, _] C (c_X10_of hl e4) cal_X10_of wm_X10_65 wi_yX10_of wsl_yX10_of (Nat.le_of_ble_eq_true rfl) rfl (gO_of g2) rfl (Nat.le_of_ble_eq_true rfl) ⟨Nat.le_of_ble_eq_true rfl, Nat.le_of_ble_eq_true rfl⟩ ⟨Nat.zero_le _, Nat.zero_le _⟩ dX10_areSame_12 ?_
  obtain ⟨v5, e5, h⟩ := b1_some h
  refine fw_callS [_] C (c_X10_bitsOf hl e5) cal_X10_bitsOf wm_X10_83 wt_yX10_bitsOf rfl (Nat.le_of_ble_eq_true rfl) ⟨Nat.le_of_ble_eq_true rfl, Nat.le_of_ble_eq_true rfl⟩ ⟨Nat.zero_le _, Nat.zero_le _⟩ dX10_areSame_15 ?_
  refine fw_min C wm_X10_111 (Nat.le_of_ble_eq_true rfl) (Nat.le_of_ble_eq_true rfl) (Nat.le_of_ble_eq_true rfl) (Nat.zero_le _) (Nat.zero_le _) dX10_areSame_18 ?_
  refine fw_bi h (fun y6 h => ?_)
  refine fw_istore_n C [(3, _), (0, _), (1, _), (2, _)] dX10_areSame_21 rfl (Nat.le_of_ble_eq_true rfl) rfl ?_
  refine fw_aload_n C 1 dX10_areSame_22 rfl rfl ?_
  refine fw_iload_n C 3 dX10_areSame_23 rfl rfl ?_
  refine fw_iconst C 3 dX10_areSame_24 rfl ?_
  obtain ⟨v7, e7, h⟩ := b1_some h
  refine fw_callV (ci := 10) [_, _] C (c_X10_of hl e7) cal_X10_of wm_X10_65 wi_yX10_of wsl_yX10_of (Nat.le_of_ble_eq_true rfl) rfl (gO_of g2) rfl (Nat.le_of_ble_eq_true rfl) ⟨Nat.le_of_ble_eq_true rfl, Nat.le_of_ble_eq_true rfl⟩ ⟨Nat.zero_le _, Nat.zero_le _⟩ dX10_areSame_25 ?_
  refine fw_aload_n C 1 dX10_areSame_28 rfl rfl ?_
  refine fw_iload_n C 2 dX10_areSame_29 rfl rfl ?_
  refine fw_iconst C 3 dX10_areSame_30 rfl ?_
  obtain ⟨v8, e8, h⟩ := b1_some h
  refine fw_callV (ci := 10) [_, _] C (c_X10_of hl e8) cal_X10_of wm_X10_65 wi_yX10_of wsl_yX10_of (Nat.le_of_ble_eq_true rfl) rfl (gO_of g2) rfl (Nat.le_of_ble_eq_true rfl) ⟨Nat.le_of_ble_eq_true rfl, Nat.le_of_ble_eq_true rfl⟩ ⟨Nat.zero_le _, Nat.zero_le _⟩ dX10_areSame_31 ?_
  refine fw_iand C dX10_areSame_34 ?_
  obtain ⟨v9, e9, h⟩ := b1_some h
  refine fw_callS [_] C (c_X10_bitsOf hl e9) cal_X10_bitsOf wm_X10_83 wt_yX10_bitsOf rfl (Nat.le_of_ble_eq_true rfl) ⟨Nat.le_of_ble_eq_true rfl, Nat.le_of_ble_eq_true rfl⟩ ⟨Nat.zero_le _, Nat.zero_le _⟩ dX10_areSame_35 ?_
  refine fw_istore C [(4, _), (3, _), (0, _), (1, _), (2, _)] dX10_areSame_38 (Nat.le_of_ble_eq_true rfl) rfl ?_
  refine fw_iload_n C 1 dX10_areSame_40 rfl rfl ?_
  refine fw_if_le C 64 dX10_areSame_41 (by decide) (fun c10 => ?_) (fun c10 => ?_)
  · replace h := (if_pos c10).symm.trans h
    refine fw_iconst C 0 dX10_areSame_64 rfl ?_
    obtain rfl := Option.some.inj h
    exact fw_zret C hr (Or.inl rfl) hlk dX10_areSame_65
  · replace h := (if_neg c10).symm.trans h
    refine fw_bipush C 100 dX10_areSame_44 rfl ?_
    refine fw_iload C 0 dX10_areSame_46 rfl ?_
    refine fw_imul C dX10_areSame_48 ?_
    refine fw_aload_n C 2 dX10_areSame_49 rfl rfl ?_
    obtain ⟨g11, h⟩ := gd_some h
    refine fw_getR C 10 0 (Nat.le_of_ble_eq_true rfl) (Nat.le_of_ble_eq_true rfl) wf_X10_9 rfl (gO_of g2) (gN_of g11) dX10_areSame_50 ?_
    refine fw_iconst C 3 dX10_areSame_53 rfl ?_
    obtain ⟨g12, h⟩ := gd_some h
    refine fw_iald C (gA_of g12) dX10_areSame_54 ?_
    refine fw_iload_n C 1 dX10_areSame_55 rfl rfl ?_
    refine fw_imul C dX10_areSame_56 ?_
    refine fw_icmp_lt C 64 dX10_areSame_57 (by decide) (fun c13 => ?_) (fun c13 => ?_)
    · replace h := (if_pos c13).symm.trans h
      refine fw_iconst C 0 dX10_areSame_64 rfl ?_
      obtain rfl := Option.some.inj h
      exact fw_zret C hr (Or.inl rfl) hlk dX10_areSame_65
    · replace h := (if_neg c13).symm.trans h
      refine fw_iconst C 1 dX10_areSame_60 rfl ?_
      refine fw_goto C 65 dX10_areSame_61 (by decide) ?_
      obtain rfl := Option.some.inj h
      exact fw_zret C hr (Or.inr rfl) hlk dX10_areSame_65
set_option maxRecDepth 100000 in
def f_X10_isBarredBy (S : List fw_Sh) (M : fw_Mem) (a0 : Nat) (x1 : Int32) (x2 : Int32) : Option Int32 := gd (gO S 10 a0) (b1 (f_X10_comesBehind S M a0 x1 x2) (fun v1 => if v1 = 0 then (some 0) else (b1 (f_X10_isOnMerits S M a0 x2) (fun v4 => if v4 = 0 then (some 0) else (b1 (f_X10_areSame S M a0 x1 x2) (fun v6 => if v6 = 0 then (some 0) else (b1 (f_X10_of S M a0 x1 0) (fun v8 => b1 (f_X10_of S M a0 x1 1) (fun v9 => b1 (f_X10_isBoundBy S M a0 x2 0 v8) (fun v10 => if v10 = 0 then (gd (gN (M a0 0)) (gd (gA S 0 ((M a0 0).toNatClampNeg) 4) (if (M ((M a0 0).toNatClampNeg) 4) = 2 then (b1 (f_X10_isBoundBy S M a0 x2 1 v8) (fun v15 => if v15 = 0 then (some 0) else (b1 (f_X10_isBoundBy S M a0 x2 0 v9) (fun v17 => if v17 = 0 then (some 0) else (some 1))))) else (some 0)))) else (b1 (f_X10_isBoundBy S M a0 x2 1 v9) (fun v19 => if v19 = 0 then (gd (gN (M a0 0)) (gd (gA S 0 ((M a0 0).toNatClampNeg) 4) (if (M ((M a0 0).toNatClampNeg) 4) = 2 then (b1 (f_X10_isBoundBy S M a0 x2 1 v8) (fun v24 => if v24 = 0 then (some 0) else (b1 (f_X10_isBoundBy S M a0 x2 0 v9) (fun v26 => if v26 = 0 then (some 0) else (some 1))))) else (some 0)))) else (some 1)))))))))))))
set_option maxHeartbeats 4000000 in
set_option maxRecDepth 100000 in
theorem c_X10_isBarredBy {l : Launch} {G : fw_G} {S : List fw_Sh} {M : fw_Mem} {a0 : Nat} {x1 : Int32} {x2 : Int32} {r : Int32} (hl : l.stackTraces = false) (h : f_X10_isBarredBy S M a0 x1 x2 = some r) : fw_M l G yX10_isBarredBy (.code yX10_isBarredBy cX10_isBarredBy 5 (some .boolean)) 4 (fw_mcO (.inl (some (.int r)), S, M)) (fw_msO (.inl (some (.int r)), S, M)) S M [.ref a0, .int x1, .int x2] (.inl (some (.int r)), S, M) := by
  refine fw_of [(0, .ref a0), (1, .int x1), (2, .int x2)] (by decide) (Nat.le_of_ble_eq_true rfl) rfl ?_
  intro p e s m args below meth c C hr hlk hnm ht _
  unfold f_X10_isBarredBy at h
  refine fw_aload_n C 0 dX10_isBarredBy_0 rfl rfl ?_
  refine fw_iload_n C 1 dX10_isBarredBy_1 rfl rfl ?_
  refine fw_iload_n C 2 dX10_isBarredBy_2 rfl rfl ?_
  obtain ⟨g2, h⟩ := gd_some h
  obtain ⟨v1, e1, h⟩ := b1_some h
  refine fw_callV (ci := 10) [_, _] C (c_X10_comesBehind hl e1) cal_X10_comesBehind wm_X10_116 wi_yX10_comesBehind wsl_yX10_comesBehind (Nat.le_of_ble_eq_true rfl) rfl (gO_of g2) rfl (Nat.le_of_ble_eq_true rfl) ⟨Nat.le_of_ble_eq_true rfl, Nat.le_of_ble_eq_true rfl⟩ ⟨Nat.zero_le _, Nat.zero_le _⟩ dX10_isBarredBy_3 ?_
  refine fw_if_eq C 26 dX10_isBarredBy_6 (by decide) (fun c3 => ?_) (fun c3 => ?_)
  · replace h := (if_pos c3).symm.trans h
    refine fw_iconst C 0 dX10_isBarredBy_26 rfl ?_
    obtain rfl := Option.some.inj h
    exact fw_zret C hr (Or.inl rfl) hlk dX10_isBarredBy_27
  · replace h := (if_neg c3).symm.trans h
    refine fw_aload_n C 0 dX10_isBarredBy_9 rfl rfl ?_
    refine fw_iload_n C 2 dX10_isBarredBy_10 rfl rfl ?_
    obtain ⟨v4, e4, h⟩ := b1_some h
    refine fw_callV (ci := 10) [_] C (c_X10_isOnMerits hl e4) cal_X10_isOnMerits wm_X10_73 wi_yX10_isOnMerits wsl_yX10_isOnMerits (Nat.le_of_ble_eq_true rfl) rfl (gO_of g2) rfl (Nat.le_of_ble_eq_true rfl) ⟨Nat.le_of_ble_eq_true rfl, Nat.le_of_ble_eq_true rfl⟩ ⟨Nat.zero_le _, Nat.zero_le _⟩ dX10_isBarredBy_11 ?_
    refine fw_if_eq C 26 dX10_isBarredBy_14 (by decide) (fun c5 => ?_) (fun c5 => ?_)
    · replace h := (if_pos c5).symm.trans h
      refine fw_iconst C 0 dX10_isBarredBy_26 rfl ?_
      obtain rfl := Option.some.inj h
      exact fw_zret C hr (Or.inl rfl) hlk dX10_isBarredBy_27
    · replace h := (if_neg c5).symm.trans h
      refine fw_aload_n C 0 dX10_isBarredBy_17 rfl rfl ?_
      refine fw_iload_n C 1 dX10_isBarredBy_18 rfl rfl ?_
      refine fw_iload_n C 2 dX10_isBarredBy_19 rfl rfl ?_
      obtain ⟨v6, e6, h⟩ := b1_some h
      refine fw_callV (ci := 10) [_, _] C (c_X10_areSame hl e6) cal_X10_areSame wm_X10_119 wi_yX10_areSame wsl_yX10_areSame (Nat.le_of_ble_eq_true rfl) rfl (gO_of g2) rfl (Nat.le_of_ble_eq_true rfl) ⟨Nat.le_of_ble_eq_true rfl, Nat.le_of_ble_eq_true rfl⟩ ⟨Nat.zero_le _, Nat.zero_le _⟩ dX10_isBarredBy_20 ?_
      refine fw_if_ne C 28 dX10_isBarredBy_23 (by decide) (fun c7 => ?_) (fun c7 => ?_)
      · replace h := (if_neg c7).symm.trans h
        refine fw_aload_n C 0 dX10_isBarredBy_28 rfl rfl ?_
        refine fw_iload_n C 1 dX10_isBarredBy_29 rfl rfl ?_
        refine fw_iconst C 0 dX10_isBarredBy_30 rfl ?_
        obtain ⟨v8, e8, h⟩ := b1_some h
        refine fw_callV (ci := 10) [_, _] C (c_X10_of hl e8) cal_X10_of wm_X10_65 wi_yX10_of wsl_yX10_of (Nat.le_of_ble_eq_true rfl) rfl (gO_of g2) rfl (Nat.le_of_ble_eq_true rfl) ⟨Nat.le_of_ble_eq_true rfl, Nat.le_of_ble_eq_true rfl⟩ ⟨Nat.zero_le _, Nat.zero_le _⟩ dX10_isBarredBy_31 ?_
        refine fw_istore_n C [(3, _), (0, _), (1, _), (2, _)] dX10_isBarredBy_34 rfl (Nat.le_of_ble_eq_true rfl) rfl ?_
        refine fw_aload_n C 1 dX10_isBarredBy_35 rfl rfl ?_
        refine fw_iload_n C 2 dX10_isBarredBy_36 rfl rfl ?_
        refine fw_iconst C 1 dX10_isBarredBy_37 rfl ?_
        obtain ⟨v9, e9, h⟩ := b1_some h
        refine fw_callV (ci := 10) [_, _] C (c_X10_of hl e9) cal_X10_of wm_X10_65 wi_yX10_of wsl_yX10_of (Nat.le_of_ble_eq_true rfl) rfl (gO_of g2) rfl (Nat.le_of_ble_eq_true rfl) ⟨Nat.le_of_ble_eq_true rfl, Nat.le_of_ble_eq_true rfl⟩ ⟨Nat.zero_le _, Nat.zero_le _⟩ dX10_isBarredBy_38 ?_
        refine fw_istore C [(4, _), (3, _), (0, _), (1, _), (2, _)] dX10_isBarredBy_41 (Nat.le_of_ble_eq_true rfl) rfl ?_
        refine fw_aload_n C 2 dX10_isBarredBy_43 rfl rfl ?_
        refine fw_iload_n C 4 dX10_isBarredBy_44 rfl rfl ?_
        refine fw_iconst C 0 dX10_isBarredBy_45 rfl ?_
        refine fw_iload_n C 1 dX10_isBarredBy_46 rfl rfl ?_
        obtain ⟨v10, e10, h⟩ := b1_some h
        refine fw_callV (ci := 10) [_, _, _] C (c_X10_isBoundBy hl e10) cal_X10_isBoundBy wm_X10_108 wi_yX10_isBoundBy wsl_yX10_isBoundBy (Nat.le_of_ble_eq_true rfl) rfl (gO_of g2) rfl (Nat.le_of_ble_eq_true rfl) ⟨Nat.le_of_ble_eq_true rfl, Nat.le_of_ble_eq_true rfl⟩ ⟨Nat.zero_le _, Nat.zero_le _⟩ dX10_isBarredBy_47 ?_
        refine fw_if_eq C 66 dX10_isBarredBy_50 (by decide) (fun c11 => ?_) (fun c11 => ?_)
        · replace h := (if_pos c11).symm.trans h
          refine fw_aload_n C 2 dX10_isBarredBy_66 rfl rfl ?_
          obtain ⟨g12, h⟩ := gd_some h
          refine fw_getR C 10 0 (Nat.le_of_ble_eq_true rfl) (Nat.le_of_ble_eq_true rfl) wf_X10_9 rfl (gO_of g2) (gN_of g12) dX10_isBarredBy_67 ?_
          refine fw_iconst C 4 dX10_isBarredBy_70 rfl ?_
          obtain ⟨g13, h⟩ := gd_some h
          refine fw_iald C (gA_of g13) dX10_isBarredBy_71 ?_
          refine fw_iconst C 2 dX10_isBarredBy_72 rfl ?_
          refine fw_icmp_ne C 101 dX10_isBarredBy_73 (by decide) (fun c14 => ?_) (fun c14 => ?_)
          · replace h := (if_neg c14).symm.trans h
            refine fw_iconst C 0 dX10_isBarredBy_101 rfl ?_
            obtain rfl := Option.some.inj h
            exact fw_zret C hr (Or.inl rfl) hlk dX10_isBarredBy_102
          · replace h := (if_pos c14).symm.trans h
            refine fw_aload_n C 2 dX10_isBarredBy_76 rfl rfl ?_
            refine fw_iload_n C 4 dX10_isBarredBy_77 rfl rfl ?_
            refine fw_iconst C 1 dX10_isBarredBy_78 rfl ?_
            refine fw_iload_n C 1 dX10_isBarredBy_79 rfl rfl ?_
            obtain ⟨v15, e15, h⟩ := b1_some h
            refine fw_callV (ci := 10) [_, _, _] C (c_X10_isBoundBy hl e15) cal_X10_isBoundBy wm_X10_108 wi_yX10_isBoundBy wsl_yX10_isBoundBy (Nat.le_of_ble_eq_true rfl) rfl (gO_of g2) rfl (Nat.le_of_ble_eq_true rfl) ⟨Nat.le_of_ble_eq_true rfl, Nat.le_of_ble_eq_true rfl⟩ ⟨Nat.zero_le _, Nat.zero_le _⟩ dX10_isBarredBy_80 ?_
            refine fw_if_eq C 101 dX10_isBarredBy_83 (by decide) (fun c16 => ?_) (fun c16 => ?_)
            · replace h := (if_pos c16).symm.trans h
              refine fw_iconst C 0 dX10_isBarredBy_101 rfl ?_
              obtain rfl := Option.some.inj h
              exact fw_zret C hr (Or.inl rfl) hlk dX10_isBarredBy_102
            · replace h := (if_neg c16).symm.trans h
              refine fw_aload_n C 2 dX10_isBarredBy_86 rfl rfl ?_
              refine fw_iload_n C 4 dX10_isBarredBy_87 rfl rfl ?_
              refine fw_iconst C 0 dX10_isBarredBy_88 rfl ?_
              refine fw_iload C 0 dX10_isBarredBy_89 rfl ?_
              obtain ⟨v17, e17, h⟩ := b1_some h
              refine fw_callV (ci := 10) [_, _, _] C (c_X10_isBoundBy hl e17) cal_X10_isBoundBy wm_X10_108 wi_yX10_isBoundBy wsl_yX10_isBoundBy (Nat.le_of_ble_eq_true rfl) rfl (gO_of g2) rfl (Nat.le_of_ble_eq_true rfl) ⟨Nat.le_of_ble_eq_true rfl, Nat.le_of_ble_eq_true rfl⟩ ⟨Nat.zero_le _, Nat.zero_le _⟩ dX10_isBarredBy_91 ?_
              refine fw_if_eq C 101 dX10_isBarredBy_94 (by decide) (fun c18 => ?_) (fun c18 => ?_)
              · replace h := (if_pos c18).symm.trans h
                refine fw_iconst C 0 dX10_isBarredBy_101 rfl ?_
                obtain rfl := Option.some.inj h
                exact fw_zret C hr (Or.inl rfl) hlk dX10_isBarredBy_102
              · replace h := (if_neg c18).symm.trans h
                refine fw_iconst C 1 dX10_isBarredBy_97 rfl ?_
                refine fw_goto C 102 dX10_isBarredBy_98 (by decide) ?_
                obtain rfl := Option.some.inj h
                exact fw_zret C hr (Or.inr rfl) hlk dX10_isBarredBy_102
        · replace h := (if_neg c11).symm.trans h
          refine fw_aload_n C 2 dX10_isBarredBy_53 rfl rfl ?_
          refine fw_iload_n C 4 dX10_isBarredBy_54 rfl rfl ?_
          refine fw_iconst C 1 dX10_isBarredBy_55 rfl ?_
          refine fw_iload C 0 dX10_isBarredBy_56 rfl ?_
          obtain ⟨v19, e19, h⟩ := b1_some h
          refine fw_callV (ci := 10) [_, _, _] C (c_X10_isBoundBy hl e19) cal_X10_isBoundBy wm_X10_108 wi_yX10_isBoundBy wsl_yX10_isBoundBy (Nat.le_of_ble_eq_true rfl) rfl (gO_of g2) rfl (Nat.le_of_ble_eq_true rfl) ⟨Nat.le_of_ble_eq_true rfl, Nat.le_of_ble_eq_true rfl⟩ ⟨Nat.zero_le _, Nat.zero_le _⟩ dX10_isBarredBy_58 ?_
          refine fw_if_eq C 66 dX10_isBarredBy_61 (by decide) (fun c20 => ?_) (fun c20 => ?_)
          · replace h := (if_pos c20).symm.trans h
            refine fw_aload_n C 2 dX10_isBarredBy_66 rfl rfl ?_
            obtain ⟨g21, h⟩ := gd_some h
            refine fw_getR C 10 0 (Nat.le_of_ble_eq_true rfl) (Nat.le_of_ble_eq_true rfl) wf_X10_9 rfl (gO_of g2) (gN_of g21) dX10_isBarredBy_67 ?_
            refine fw_iconst C 4 dX10_isBarredBy_70 rfl ?_
            obtain ⟨g22, h⟩ := gd_some h
            refine fw_iald C (gA_of g22) dX10_isBarredBy_71 ?_
            refine fw_iconst C 2 dX10_isBarredBy_72 rfl ?_
            refine fw_icmp_ne C 101 dX10_isBarredBy_73 (by decide) (fun c23 => ?_) (fun c23 => ?_)
            · replace h := (if_neg c23).symm.trans h
              refine fw_iconst C 0 dX10_isBarredBy_101 rfl ?_
              obtain rfl := Option.some.inj h
              exact fw_zret C hr (Or.inl rfl) hlk dX10_isBarredBy_102
            · replace h := (if_pos c23).symm.trans h
              refine fw_aload_n C 2 dX10_isBarredBy_76 rfl rfl ?_
              refine fw_iload_n C 4 dX10_isBarredBy_77 rfl rfl ?_
              refine fw_iconst C 1 dX10_isBarredBy_78 rfl ?_
              refine fw_iload_n C 1 dX10_isBarredBy_79 rfl rfl ?_
              obtain ⟨v24, e24, h⟩ := b1_some h
              refine fw_callV (ci := 10) [_, _, _] C (c_X10_isBoundBy hl e24) cal_X10_isBoundBy wm_X10_108 wi_yX10_isBoundBy wsl_yX10_isBoundBy (Nat.le_of_ble_eq_true rfl) rfl (gO_of g2) rfl (Nat.le_of_ble_eq_true rfl) ⟨Nat.le_of_ble_eq_true rfl, Nat.le_of_ble_eq_true rfl⟩ ⟨Nat.zero_le _, Nat.zero_le _⟩ dX10_isBarredBy_80 ?_
              refine fw_if_eq C 101 dX10_isBarredBy_83 (by decide) (fun c25 => ?_) (fun c25 => ?_)
              · replace h := (if_pos c25).symm.trans h
                refine fw_iconst C 0 dX10_isBarredBy_101 rfl ?_
                obtain rfl := Option.some.inj h
                exact fw_zret C hr (Or.inl rfl) hlk dX10_isBarredBy_102
              · replace h := (if_neg c25).symm.trans h
                refine fw_aload_n C 2 dX10_isBarredBy_86 rfl rfl ?_
                refine fw_iload_n C 4 dX10_isBarredBy_87 rfl rfl ?_
                refine fw_iconst C 0 dX10_isBarredBy_88 rfl ?_
                refine fw_iload C 0 dX10_isBarredBy_89 rfl ?_
                obtain ⟨v26, e26, h⟩ := b1_some h
                refine fw_callV (ci := 10) [_, _, _] C (c_X10_isBoundBy hl e26) cal_X10_isBoundBy wm_X10_108 wi_yX10_isBoundBy wsl_yX10_isBoundBy (Nat.le_of_ble_eq_true rfl) rfl (gO_of g2) rfl (Nat.le_of_ble_eq_true rfl) ⟨Nat.le_of_ble_eq_true rfl, Nat.le_of_ble_eq_true rfl⟩ ⟨Nat.zero_le _, Nat.zero_le _⟩ dX10_isBarredBy_91 ?_
                refine fw_if_eq C 101 dX10_isBarredBy_94 (by decide) (fun c27 => ?_) (fun c27 => ?_)
                · replace h := (if_pos c27).symm.trans h
                  refine fw_iconst C 0 dX10_isBarredBy_101 rfl ?_
                  obtain rfl := Option.some.inj h
                  exact fw_zret C hr (Or.inl rfl) hlk dX10_isBarredBy_102
                · replace h := (if_neg c27).symm.trans h
                  refine fw_iconst C 1 dX10_isBarredBy_97 rfl ?_
                  refine fw_goto C 102 dX10_isBarredBy_98 (by decide) ?_
                  obtain rfl := Option.some.inj h
                  exact fw_zret C hr (Or.inr rfl) hlk dX10_isBarredBy_102
          · replace h := (if_neg c20).symm.trans h
            refine fw_iconst C 1 dX10_isBarredBy_64 rfl ?_
            obtain rfl := Option.some.inj h
            exact fw_zret C hr (Or.inr rfl) hlk dX10_isBarredBy_65
      · replace h := (if_pos c7).symm.trans h
        refine fw_iconst C 0 dX10_isBarredBy_26 rfl ?_
        obtain rfl := Option.some.inj h
        exact fw_zret C hr (Or.inl rfl) hlk dX10_isBarredBy_27
set_option maxRecDepth 100000 in
def lf_X10_barsOf_4 (S : List fw_Sh) (M : fw_Mem) (a0 : Nat) (x1 : Int32) : Nat → Int32 → Int32 → Option (Int32)
  | 0, _, _ => none
  | n + 1, x2, x3 => if (10 : Int32) ≤ x3 then (some x2) else (gd (gO S 10 a0) (b1 (f_X10_suits S M a0) (fun v2 => if v2 ≤ x3 then (some x2) else (b1 (f_X10_isBarredBy S M a0 x1 x3) (fun v5 => if v5 = 0 then (lf_X10_barsOf_4 S M a0 x1 n x2 (x3 + 1)) else (bm (x2 ||| ((1 : Int32) <<< (x3 &&& 31))) (fun y7 => lf_X10_barsOf_4 S M a0 x1 n y7 (x3 + 1))))))))
set_option maxHeartbeats 4000000 in
set_option maxRecDepth 100000 in
theorem lc_X10_barsOf_4 {G : fw_G} {p : Program} {l : Launch} {e : Env} {s : State} {m : MethodId} {args : Array Value} {below : List Frame} {meth : Method} {c : Code} {S : List fw_Sh} {o : fw_O} {M : fw_Mem} {a0 : Nat} {x1 : Int32} (C : fw_C G RX10 cX10_barsOf 4 p s m args c) (hr : meth.sig.returnType = (some .int)) (hlk : meth.locks = false) (hl : l.stackTraces = false) (ht : ∀ x ∈ c.exceptionTable.toList, False) :
    ∀ {n : Nat} {x2 : Int32} {x3 : Int32} {r : (Int32)} (h : lf_X10_barsOf_4 S M a0 x1 n x2 x3 = some r) (kx : fw_W G p l e (fw_rm 5 (fw_mcO o) (fw_msO o)) s m args below meth c 4 (fw_Z G below args s (fw_mcO o) (fw_msO o) o) 0 0 39 [(2, .int r)] [] S M), fw_W G p l e (fw_rm 5 (fw_mcO o) (fw_msO o)) s m args below meth c 4 (fw_Z G below args s (fw_mcO o) (fw_msO o) o) 0 0 4 [(0, .ref a0), (1, .int x1), (2, .int x2), (3, .int x3)] [] S M := by
  intro n
  induction n with
  | zero =>
    intro x2 x3 r h
    exact nomatch (show (none : Option (Int32)) = some r from h)
  | succ n ih =>
    intro x2 x3 r h kx
    rw [lf_X10_barsOf_4.eq_2] at h
    refine fw_iload_n C 3 dX10_barsOf_4 rfl rfl ?_
    refine fw_bipush C 10 dX10_barsOf_5 rfl ?_
    refine fw_icmp_ge C 39 dX10_barsOf_7 (by decide) (fun c1 => ?_) (fun c1 => ?_)
    · replace h := (if_pos c1).symm.trans h
      obtain rfl := Option.some.inj h
      refine fw_sub [2] rfl ?_
      exact kx
    · replace h := (if_neg c1).symm.trans h
      refine fw_iload_n C 3 dX10_barsOf_10 rfl rfl ?_
      refine fw_aload_n C 0 dX10_barsOf_11 rfl rfl ?_
      obtain ⟨g3, h⟩ := gd_some h
      obtain ⟨v2, e2, h⟩ := b1_some h
      refine fw_callV (ci := 10) [] C (c_X10_suits hl e2) cal_X10_suits wm_X10_62 wi_yX10_suits wsl_yX10_suits (Nat.le_of_ble_eq_true rfl) rfl (gO_of g3) rfl (Nat.le_of_ble_eq_true rfl) ⟨Nat.le_of_ble_eq_true rfl, Nat.le_of_ble_eq_true rfl⟩ ⟨Nat.zero_le _, Nat.zero_le _⟩ dX10_barsOf_12 ?_
      refine fw_icmp_ge C 39 dX10_barsOf_15 (by decide) (fun c4 => ?_) (fun c4 => ?_)
      · replace h := (if_pos c4).symm.trans h
        obtain rfl := Option.some.inj h
        refine fw_sub [2] rfl ?_
        exact kx
      · replace h := (if_neg c4).symm.trans h
        refine fw_aload_n C 0 dX10_barsOf_18 rfl rfl ?_
        refine fw_iload_n C 1 dX10_barsOf_19 rfl rfl ?_
        refine fw_iload_n C 3 dX10_barsOf_20 rfl rfl ?_
        obtain ⟨v5, e5, h⟩ := b1_some h
        refine fw_callV (ci := 10) [_, _] C (c_X10_isBarredBy hl e5) cal_X10_isBarredBy wm_X10_122 wi_yX10_isBarredBy wsl_yX10_isBarredBy (Nat.le_of_ble_eq_true rfl) rfl (gO_of g3) rfl (Nat.le_of_ble_eq_true rfl) ⟨Nat.le_of_ble_eq_true rfl, Nat.le_of_ble_eq_true rfl⟩ ⟨Nat.zero_le _, Nat.zero_le _⟩ dX10_barsOf_21 ?_
        refine fw_if_eq C 33 dX10_barsOf_24 (by decide) (fun c6 => ?_) (fun c6 => ?_)
        · replace h := (if_pos c6).symm.trans h
          refine fw_iinc C _ 3 [(3, _), (0, _), (1, _), (2, _)] dX10_barsOf_33 rfl rfl (Nat.le_of_ble_eq_true rfl) rfl ?_
          refine fw_goto C 4 dX10_barsOf_36 (by decide) ?_
          refine fw_sub [1, 2, 3, 0] rfl ?_
          exact ih h kx
        · replace h := (if_neg c6).symm.trans h
          refine fw_iload_n C 2 dX10_barsOf_27 rfl rfl ?_
          refine fw_iconst C 1 dX10_barsOf_28 rfl ?_
          refine fw_iload_n C 3 dX10_barsOf_29 rfl rfl ?_
          refine fw_ishl C dX10_barsOf_30 ?_
          refine fw_ior C dX10_barsOf_31 ?_
          refine fw_bi h (fun y7 h => ?_)
          refine fw_istore_n C [(2, _), (0, _), (1, _), (3, _)] dX10_barsOf_32 rfl (Nat.le_of_ble_eq_true rfl) rfl ?_
          refine fw_iinc C _ 3 [(3, _), (2, _), (0, _), (1, _)] dX10_barsOf_33 rfl rfl (Nat.le_of_ble_eq_true rfl) rfl ?_
          refine fw_goto C 4 dX10_barsOf_36 (by decide) ?_
          refine fw_sub [2, 3, 1, 0] rfl ?_
          exact ih h kx
set_option maxRecDepth 100000 in
def f_X10_barsOf (S : List fw_Sh) (M : fw_Mem) (a0 : Nat) (x1 : Int32) : Option Int32 := b1 (lf_X10_barsOf_4 S M a0 x1 20000 0 0) (fun l8 => some l8)
set_option maxHeartbeats 4000000 in
set_option maxRecDepth 100000 in
theorem c_X10_barsOf {l : Launch} {G : fw_G} {S : List fw_Sh} {M : fw_Mem} {a0 : Nat} {x1 : Int32} {r : Int32} (hl : l.stackTraces = false) (h : f_X10_barsOf S M a0 x1 = some r) : fw_M l G yX10_barsOf (.code yX10_barsOf cX10_barsOf 4 (some .int)) 5 (fw_mcO (.inl (some (.int r)), S, M)) (fw_msO (.inl (some (.int r)), S, M)) S M [.ref a0, .int x1] (.inl (some (.int r)), S, M) := by
  refine fw_of [(0, .ref a0), (1, .int x1)] (by decide) (Nat.le_of_ble_eq_true rfl) rfl ?_
  intro p e s m args below meth c C hr hlk hnm ht _
  unfold f_X10_barsOf at h
  refine fw_iconst C 0 dX10_barsOf_0 rfl ?_
  refine fw_istore_n C [(2, _), (0, _), (1, _)] dX10_barsOf_1 rfl (Nat.le_of_ble_eq_true rfl) rfl ?_
  refine fw_iconst C 0 dX10_barsOf_2 rfl ?_
  refine fw_istore_n C [(3, _), (2, _), (0, _), (1, _)] dX10_barsOf_3 rfl (Nat.le_of_ble_eq_true rfl) rfl ?_
  refine fw_sub [2, 3, 1, 0] rfl ?_
  obtain ⟨l8, e8, h⟩ := b1_some h
  refine lc_X10_barsOf_4 C hr hlk hl ht e8 ?_
  refine fw_iload_n C 0 dX10_barsOf_39 rfl rfl ?_
  obtain rfl := Option.some.inj h
  exact fw_iret C hr hlk dX10_barsOf_40
set_option maxRecDepth 100000 in
def f_X10_foundYes (S : List fw_Sh) (M : fw_Mem) (a0 : Nat) (x1 : Int32) (x2 : Int32) : Option Int32 := gd (gO S 10 a0) (b1 (f_X10_of S M a0 x1 9) (fun v1 => b1 (f_X10_has S M v1 x2) (fun v3 => gd (gB v3) (some v3))))
set_option maxHeartbeats 4000000 in
set_option maxRecDepth 100000 in
theorem c_X10_foundYes {l : Launch} {G : fw_G} {S : List fw_Sh} {M : fw_Mem} {a0 : Nat} {x1 : Int32} {x2 : Int32} {r : Int32} (hl : l.stackTraces = false) (h : f_X10_foundYes S M a0 x1 x2 = some r) : fw_M l G yX10_foundYes (.code yX10_foundYes cX10_foundYes 3 (some .boolean)) 2 (fw_mcO (.inl (some (.int r)), S, M)) (fw_msO (.inl (some (.int r)), S, M)) S M [.ref a0, .int x1, .int x2] (.inl (some (.int r)), S, M) := by
  refine fw_of [(0, .ref a0), (1, .int x1), (2, .int x2)] (by decide) (Nat.le_of_ble_eq_true rfl) rfl ?_
  intro p e s m args below meth c C hr hlk hnm ht _
  unfold f_X10_foundYes at h
  refine fw_aload_n C 0 dX10_foundYes_0 rfl rfl ?_
  refine fw_iload_n C 1 dX10_foundYes_1 rfl rfl ?_
  refine fw_bipush C 9 dX10_foundYes_2 rfl ?_
  obtain ⟨g2, h⟩ := gd_some h
  obtain ⟨v1, e1, h⟩ := b1_some h
  refine fw_callV (ci := 10) [_, _] C (c_X10_of hl e1) cal_X10_of wm_X10_65 wi_yX10_of wsl_yX10_of (Nat.le_of_ble_eq_true rfl) rfl (gO_of g2) rfl (Nat.le_of_ble_eq_true rfl) ⟨Nat.le_of_ble_eq_true rfl, Nat.le_of_ble_eq_true rfl⟩ ⟨Nat.zero_le _, Nat.zero_le _⟩ dX10_foundYes_4 ?_
  refine fw_iload_n C 2 dX10_foundYes_7 rfl rfl ?_
  obtain ⟨v3, e3, h⟩ := b1_some h
  refine fw_callS [_, _] C (c_X10_has hl e3) cal_X10_has wm_X10_98 wt_yX10_has rfl (Nat.le_of_ble_eq_true rfl) ⟨Nat.le_of_ble_eq_true rfl, Nat.le_of_ble_eq_true rfl⟩ ⟨Nat.zero_le _, Nat.zero_le _⟩ dX10_foundYes_8 ?_
  obtain ⟨g4, h⟩ := gd_some h
  obtain rfl := Option.some.inj h
  exact fw_zret C hr (gB_of g4) hlk dX10_foundYes_11
set_option maxRecDepth 100000 in
def fj_X10_holds_78 (S : List fw_Sh) (M : fw_Mem) (a0 : Nat) (x3 : Int32) (x4 : Int32) (x5 : Int32) (z0 : Int32) (z1 : Int32) (z2 : Nat) : Option Int32 := gd (gO S 10 z2) (b1 (f_X10_of S M z2 z1 z0) (fun v15 => gd (gO S 10 a0) (b1 (f_X10_isBoundAtAll S M a0 x3 x5) (fun v17 => if v17 = 0 then (some 0) else (gd (gN (M a0 0)) (gd (gA S 0 ((M a0 0).toNatClampNeg) 4) (if (M ((M a0 0).toNatClampNeg) 4) = 2 then (some 1) else (if (M ((M a0 0).toNatClampNeg) 4) = 1 then (if x4 = 0 then (some 1) else (b1 (f_X10_isBoundBy S M a0 x3 0 x5) (fun v37 => if v37 = 0 then (b1 (f_X10_isBoundBy S M a0 x3 1 x5) (fun v39 => if v39 = 0 then (some 0) else (b1 (f_X10_isBoundBy S M a0 x3 0 v15) (fun v41 => if v41 = 0 then (some 0) else (some 1))))) else (b1 (f_X10_isBoundBy S M a0 x3 1 v15) (fun v43 => if v43 = 0 then (b1 (f_X10_isBoundBy S M a0 x3 1 x5) (fun v45 => if v45 = 0 then (some 0) else (b1 (f_X10_isBoundBy S M a0 x3 0 v15) (fun v47 => if v47 = 0 then (some 0) else (some 1))))) else (some 1)))))) else (b1 (f_X10_isBoundBy S M a0 x3 0 x5) (fun v24 => if v24 = 0 then (b1 (f_X10_isBoundBy S M a0 x3 1 x5) (fun v26 => if v26 = 0 then (some 0) else (b1 (f_X10_isBoundBy S M a0 x3 0 v15) (fun v28 => if v28 = 0 then (some 0) else (some 1))))) else (b1 (f_X10_isBoundBy S M a0 x3 1 v15) (fun v30 => if v30 = 0 then (b1 (f_X10_isBoundBy S M a0 x3 1 x5) (fun v32 => if v32 = 0 then (some 0) else (b1 (f_X10_isBoundBy S M a0 x3 0 v15) (fun v34 => if v34 = 0 then (some 0) else (some 1))))) else (some 1)))))))))))))
set_option maxHeartbeats 4000000 in
set_option maxRecDepth 100000 in
theorem jc_X10_holds_78 {G : fw_G} {p : Program} {l : Launch} {e : Env} {s : State} {m : MethodId} {args : Array Value} {below : List Frame} {meth : Method} {c : Code} {S : List fw_Sh} {M : fw_Mem} {a0 : Nat} {x3 : Int32} {x4 : Int32} {x5 : Int32} {z0 : Int32} {z1 : Int32} {z2 : Nat} {r : Int32} {o : fw_O} (C : fw_C G RX10 cX10_holds 7 p s m args c) (hr : meth.sig.returnType = (some .boolean)) (hlk : meth.locks = false) (hl : l.stackTraces = false) (ht : ∀ x ∈ c.exceptionTable.toList, False) (ho : o = (.inl (some (.int r)), S, M)) (h : fj_X10_holds_78 S M a0 x3 x4 x5 z0 z1 z2 = some r) :
    fw_W G p l e (fw_rm 7 (fw_mcO o) (fw_msO o)) s m args below meth c 7 (fw_Z G below args s (fw_mcO o) (fw_msO o) o) 0 0 78 [(0, .ref a0), (3, .int x3), (4, .int x4), (5, .int x5)] [.int z0, .int z1, .ref z2] S M := by
  subst ho
  unfold fj_X10_holds_78 at h
  obtain ⟨g16, h⟩ := gd_some h
  obtain ⟨v15, e15, h⟩ := b1_some h
  refine fw_callV (ci := 10) [_, _] C (c_X10_of hl e15) cal_X10_of wm_X10_65 wi_yX10_of wsl_yX10_of (Nat.le_of_ble_eq_true rfl) rfl (gO_of g16) rfl (Nat.le_of_ble_eq_true rfl) ⟨Nat.le_of_ble_eq_true rfl, Nat.le_of_ble_eq_true rfl⟩ ⟨Nat.zero_le _, Nat.zero_le _⟩ dX10_holds_78 ?_
  refine fw_istore C [(6, _), (0, _), (3, _), (4, _), (5, _)] dX10_holds_81 (Nat.le_of_ble_eq_true rfl) rfl ?_
  refine fw_aload_n C 1 dX10_holds_83 rfl rfl ?_
  refine fw_iload_n C 2 dX10_holds_84 rfl rfl ?_
  refine fw_iload C 4 dX10_holds_85 rfl ?_
  obtain ⟨g18, h⟩ := gd_some h
  obtain ⟨v17, e17, h⟩ := b1_some h
  refine fw_callV (ci := 10) [_, _] C (c_X10_isBoundAtAll hl e17) cal_X10_isBoundAtAll wm_X10_131 wi_yX10_isBoundAtAll wsl_yX10_isBoundAtAll (Nat.le_of_ble_eq_true rfl) rfl (gO_of g18) rfl (Nat.le_of_ble_eq_true rfl) ⟨Nat.le_of_ble_eq_true rfl, Nat.le_of_ble_eq_true rfl⟩ ⟨Nat.zero_le _, Nat.zero_le _⟩ dX10_holds_87 ?_
  refine fw_if_ne C 95 dX10_holds_90 (by decide) (fun c19 => ?_) (fun c19 => ?_)
  · replace h := (if_neg c19).symm.trans h
    refine fw_aload_n C 1 dX10_holds_95 rfl rfl ?_
    obtain ⟨g20, h⟩ := gd_some h
    refine fw_getR C 10 0 (Nat.le_of_ble_eq_true rfl) (Nat.le_of_ble_eq_true rfl) wf_X10_9 rfl (gO_of g18) (gN_of g20) dX10_holds_96 ?_
    refine fw_iconst C 4 dX10_holds_99 rfl ?_
    obtain ⟨g21, h⟩ := gd_some h
    refine fw_iald C (gA_of g21) dX10_holds_100 ?_
    refine fw_iconst C 2 dX10_holds_101 rfl ?_
    refine fw_icmp_eq C 120 dX10_holds_102 (by decide) (fun c22 => ?_) (fun c22 => ?_)
    · replace h := (if_pos c22).symm.trans h
      refine fw_iconst C 1 dX10_holds_120 rfl ?_
      obtain rfl := Option.some.inj h
      exact fw_zret C hr (Or.inr rfl) hlk dX10_holds_121
    · replace h := (if_neg c22).symm.trans h
      refine fw_aload_n C 1 dX10_holds_105 rfl rfl ?_
      refine fw_getR C 10 0 (Nat.le_of_ble_eq_true rfl) (Nat.le_of_ble_eq_true rfl) wf_X10_9 rfl (gO_of g18) (gN_of g20) dX10_holds_106 ?_
      refine fw_iconst C 4 dX10_holds_109 rfl ?_
      refine fw_iald C (gA_of g21) dX10_holds_110 ?_
      refine fw_iconst C 1 dX10_holds_111 rfl ?_
      refine fw_icmp_ne C 122 dX10_holds_112 (by decide) (fun c23 => ?_) (fun c23 => ?_)
      · replace h := (if_neg c23).symm.trans h
        refine fw_aload_n C 1 dX10_holds_122 rfl rfl ?_
        refine fw_iload_n C 2 dX10_holds_123 rfl rfl ?_
        refine fw_iconst C 0 dX10_holds_124 rfl ?_
        refine fw_iload C 4 dX10_holds_125 rfl ?_
        obtain ⟨v24, e24, h⟩ := b1_some h
        refine fw_callV (ci := 10) [_, _, _] C (c_X10_isBoundBy hl e24) cal_X10_isBoundBy wm_X10_108 wi_yX10_isBoundBy wsl_yX10_isBoundBy (Nat.le_of_ble_eq_true rfl) rfl (gO_of g18) rfl (Nat.le_of_ble_eq_true rfl) ⟨Nat.le_of_ble_eq_true rfl, Nat.le_of_ble_eq_true rfl⟩ ⟨Nat.zero_le _, Nat.zero_le _⟩ dX10_holds_127 ?_
        refine fw_if_eq C 144 dX10_holds_130 (by decide) (fun c25 => ?_) (fun c25 => ?_)
        · replace h := (if_pos c25).symm.trans h
          refine fw_aload_n C 1 dX10_holds_144 rfl rfl ?_
          refine fw_iload_n C 2 dX10_holds_145 rfl rfl ?_
          refine fw_iconst C 1 dX10_holds_146 rfl ?_
          refine fw_iload C 4 dX10_holds_147 rfl ?_
          obtain ⟨v26, e26, h⟩ := b1_some h
          refine fw_callV (ci := 10) [_, _, _] C (c_X10_isBoundBy hl e26) cal_X10_isBoundBy wm_X10_108 wi_yX10_isBoundBy wsl_yX10_isBoundBy (Nat.le_of_ble_eq_true rfl) rfl (gO_of g18) rfl (Nat.le_of_ble_eq_true rfl) ⟨Nat.le_of_ble_eq_true rfl, Nat.le_of_ble_eq_true rfl⟩ ⟨Nat.zero_le _, Nat.zero_le _⟩ dX10_holds_149 ?_
          refine fw_if_eq C 170 dX10_holds_152 (by decide) (fun c27 => ?_) (fun c27 => ?_)
          · replace h := (if_pos c27).symm.trans h
            refine fw_iconst C 0 dX10_holds_170 rfl ?_
            obtain rfl := Option.some.inj h
            exact fw_zret C hr (Or.inl rfl) hlk dX10_holds_171
          · replace h := (if_neg c27).symm.trans h
            refine fw_aload_n C 1 dX10_holds_155 rfl rfl ?_
            refine fw_iload_n C 2 dX10_holds_156 rfl rfl ?_
            refine fw_iconst C 0 dX10_holds_157 rfl ?_
            refine fw_iload C 0 dX10_holds_158 rfl ?_
            obtain ⟨v28, e28, h⟩ := b1_some h
            refine fw_callV (ci := 10) [_, _, _] C (c_X10_isBoundBy hl e28) cal_X10_isBoundBy wm_X10_108 wi_yX10_isBoundBy wsl_yX10_isBoundBy (Nat.le_of_ble_eq_true rfl) rfl (gO_of g18) rfl (Nat.le_of_ble_eq_true rfl) ⟨Nat.le_of_ble_eq_true rfl, Nat.le_of_ble_eq_true rfl⟩ ⟨Nat.zero_le _, Nat.zero_le _⟩ dX10_holds_160 ?_
            refine fw_if_eq C 170 dX10_holds_163 (by decide) (fun c29 => ?_) (fun c29 => ?_)
            · replace h := (if_pos c29).symm.trans h
              refine fw_iconst C 0 dX10_holds_170 rfl ?_
              obtain rfl := Option.some.inj h
              exact fw_zret C hr (Or.inl rfl) hlk dX10_holds_171
            · replace h := (if_neg c29).symm.trans h
              refine fw_iconst C 1 dX10_holds_166 rfl ?_
              refine fw_goto C 171 dX10_holds_167 (by decide) ?_
              obtain rfl := Option.some.inj h
              exact fw_zret C hr (Or.inr rfl) hlk dX10_holds_171
        · replace h := (if_neg c25).symm.trans h
          refine fw_aload_n C 1 dX10_holds_133 rfl rfl ?_
          refine fw_iload_n C 2 dX10_holds_134 rfl rfl ?_
          refine fw_iconst C 1 dX10_holds_135 rfl ?_
          refine fw_iload C 0 dX10_holds_136 rfl ?_
          obtain ⟨v30, e30, h⟩ := b1_some h
          refine fw_callV (ci := 10) [_, _, _] C (c_X10_isBoundBy hl e30) cal_X10_isBoundBy wm_X10_108 wi_yX10_isBoundBy wsl_yX10_isBoundBy (Nat.le_of_ble_eq_true rfl) rfl (gO_of g18) rfl (Nat.le_of_ble_eq_true rfl) ⟨Nat.le_of_ble_eq_true rfl, Nat.le_of_ble_eq_true rfl⟩ ⟨Nat.zero_le _, Nat.zero_le _⟩ dX10_holds_138 ?_
          refine fw_if_ne C 166 dX10_holds_141 (by decide) (fun c31 => ?_) (fun c31 => ?_)
          · replace h := (if_neg c31).symm.trans h
            refine fw_iconst C 1 dX10_holds_166 rfl ?_
            refine fw_goto C 171 dX10_holds_167 (by decide) ?_
            obtain rfl := Option.some.inj h
            exact fw_zret C hr (Or.inr rfl) hlk dX10_holds_171
          · replace h := (if_pos c31).symm.trans h
            refine fw_aload_n C 1 dX10_holds_144 rfl rfl ?_
            refine fw_iload_n C 2 dX10_holds_145 rfl rfl ?_
            refine fw_iconst C 1 dX10_holds_146 rfl ?_
            refine fw_iload C 4 dX10_holds_147 rfl ?_
            obtain ⟨v32, e32, h⟩ := b1_some h
            refine fw_callV (ci := 10) [_, _, _] C (c_X10_isBoundBy hl e32) cal_X10_isBoundBy wm_X10_108 wi_yX10_isBoundBy wsl_yX10_isBoundBy (Nat.le_of_ble_eq_true rfl) rfl (gO_of g18) rfl (Nat.le_of_ble_eq_true rfl) ⟨Nat.le_of_ble_eq_true rfl, Nat.le_of_ble_eq_true rfl⟩ ⟨Nat.zero_le _, Nat.zero_le _⟩ dX10_holds_149 ?_
            refine fw_if_eq C 170 dX10_holds_152 (by decide) (fun c33 => ?_) (fun c33 => ?_)
            · replace h := (if_pos c33).symm.trans h
              refine fw_iconst C 0 dX10_holds_170 rfl ?_
              obtain rfl := Option.some.inj h
              exact fw_zret C hr (Or.inl rfl) hlk dX10_holds_171
            · replace h := (if_neg c33).symm.trans h
              refine fw_aload_n C 1 dX10_holds_155 rfl rfl ?_
              refine fw_iload_n C 2 dX10_holds_156 rfl rfl ?_
              refine fw_iconst C 0 dX10_holds_157 rfl ?_
              refine fw_iload C 0 dX10_holds_158 rfl ?_
              obtain ⟨v34, e34, h⟩ := b1_some h
              refine fw_callV (ci := 10) [_, _, _] C (c_X10_isBoundBy hl e34) cal_X10_isBoundBy wm_X10_108 wi_yX10_isBoundBy wsl_yX10_isBoundBy (Nat.le_of_ble_eq_true rfl) rfl (gO_of g18) rfl (Nat.le_of_ble_eq_true rfl) ⟨Nat.le_of_ble_eq_true rfl, Nat.le_of_ble_eq_true rfl⟩ ⟨Nat.zero_le _, Nat.zero_le _⟩ dX10_holds_160 ?_
              refine fw_if_eq C 170 dX10_holds_163 (by decide) (fun c35 => ?_) (fun c35 => ?_)
              · replace h := (if_pos c35).symm.trans h
                refine fw_iconst C 0 dX10_holds_170 rfl ?_
                obtain rfl := Option.some.inj h
                exact fw_zret C hr (Or.inl rfl) hlk dX10_holds_171
              · replace h := (if_neg c35).symm.trans h
                refine fw_iconst C 1 dX10_holds_166 rfl ?_
                refine fw_goto C 171 dX10_holds_167 (by decide) ?_
                obtain rfl := Option.some.inj h
                exact fw_zret C hr (Or.inr rfl) hlk dX10_holds_171
      · replace h := (if_pos c23).symm.trans h
        refine fw_iload C 3 dX10_holds_115 rfl ?_
        refine fw_if_ne C 122 dX10_holds_117 (by decide) (fun c36 => ?_) (fun c36 => ?_)
        · replace h := (if_neg c36).symm.trans h
          refine fw_aload_n C 1 dX10_holds_122 rfl rfl ?_
          refine fw_iload_n C 2 dX10_holds_123 rfl rfl ?_
          refine fw_iconst C 0 dX10_holds_124 rfl ?_
          refine fw_iload C 4 dX10_holds_125 rfl ?_
          obtain ⟨v37, e37, h⟩ := b1_some h
          refine fw_callV (ci := 10) [_, _, _] C (c_X10_isBoundBy hl e37) cal_X10_isBoundBy wm_X10_108 wi_yX10_isBoundBy wsl_yX10_isBoundBy (Nat.le_of_ble_eq_true rfl) rfl (gO_of g18) rfl (Nat.le_of_ble_eq_true rfl) ⟨Nat.le_of_ble_eq_true rfl, Nat.le_of_ble_eq_true rfl⟩ ⟨Nat.zero_le _, Nat.zero_le _⟩ dX10_holds_127 ?_
          refine fw_if_eq C 144 dX10_holds_130 (by decide) (fun c38 => ?_) (fun c38 => ?_)
          · replace h := (if_pos c38).symm.trans h
            refine fw_aload_n C 1 dX10_holds_144 rfl rfl ?_
            refine fw_iload_n C 2 dX10_holds_145 rfl rfl ?_
            refine fw_iconst C 1 dX10_holds_146 rfl ?_
            refine fw_iload C 4 dX10_holds_147 rfl ?_
            obtain ⟨v39, e39, h⟩ := b1_some h
            refine fw_callV (ci := 10) [_, _, _] C (c_X10_isBoundBy hl e39) cal_X10_isBoundBy wm_X10_108 wi_yX10_isBoundBy wsl_yX10_isBoundBy (Nat.le_of_ble_eq_true rfl) rfl (gO_of g18) rfl (Nat.le_of_ble_eq_true rfl) ⟨Nat.le_of_ble_eq_true rfl, Nat.le_of_ble_eq_true rfl⟩ ⟨Nat.zero_le _, Nat.zero_le _⟩ dX10_holds_149 ?_
            refine fw_if_eq C 170 dX10_holds_152 (by decide) (fun c40 => ?_) (fun c40 => ?_)
            · replace h := (if_pos c40).symm.trans h
              refine fw_iconst C 0 dX10_holds_170 rfl ?_
              obtain rfl := Option.some.inj h
              exact fw_zret C hr (Or.inl rfl) hlk dX10_holds_171
            · replace h := (if_neg c40).symm.trans h
              refine fw_aload_n C 1 dX10_holds_155 rfl rfl ?_
              refine fw_iload_n C 2 dX10_holds_156 rfl rfl ?_
              refine fw_iconst C 0 dX10_holds_157 rfl ?_
              refine fw_iload C 0 dX10_holds_158 rfl ?_
              obtain ⟨v41, e41, h⟩ := b1_some h
              refine fw_callV (ci := 10) [_, _, _] C (c_X10_isBoundBy hl e41) cal_X10_isBoundBy wm_X10_108 wi_yX10_isBoundBy wsl_yX10_isBoundBy (Nat.le_of_ble_eq_true rfl) rfl (gO_of g18) rfl (Nat.le_of_ble_eq_true rfl) ⟨Nat.le_of_ble_eq_true rfl, Nat.le_of_ble_eq_true rfl⟩ ⟨Nat.zero_le _, Nat.zero_le _⟩ dX10_holds_160 ?_
              refine fw_if_eq C 170 dX10_holds_163 (by decide) (fun c42 => ?_) (fun c42 => ?_)
              · replace h := (if_pos c42).symm.trans h
                refine fw_iconst C 0 dX10_holds_170 rfl ?_
                obtain rfl := Option.some.inj h
                exact fw_zret C hr (Or.inl rfl) hlk dX10_holds_171
              · replace h := (if_neg c42).symm.trans h
                refine fw_iconst C 1 dX10_holds_166 rfl ?_
                refine fw_goto C 171 dX10_holds_167 (by decide) ?_
                obtain rfl := Option.some.inj h
                exact fw_zret C hr (Or.inr rfl) hlk dX10_holds_171
          · replace h := (if_neg c38).symm.trans h
            refine fw_aload_n C 1 dX10_holds_133 rfl rfl ?_
            refine fw_iload_n C 2 dX10_holds_134 rfl rfl ?_
            refine fw_iconst C 1 dX10_holds_135 rfl ?_
            refine fw_iload C 0 dX10_holds_136 rfl ?_
            obtain ⟨v43, e43, h⟩ := b1_some h
            refine fw_callV (ci := 10) [_, _, _] C (c_X10_isBoundBy hl e43) cal_X10_isBoundBy wm_X10_108 wi_yX10_isBoundBy wsl_yX10_isBoundBy (Nat.le_of_ble_eq_true rfl) rfl (gO_of g18) rfl (Nat.le_of_ble_eq_true rfl) ⟨Nat.le_of_ble_eq_true rfl, Nat.le_of_ble_eq_true rfl⟩ ⟨Nat.zero_le _, Nat.zero_le _⟩ dX10_holds_138 ?_
            refine fw_if_ne C 166 dX10_holds_141 (by decide) (fun c44 => ?_) (fun c44 => ?_)
            · replace h := (if_neg c44).symm.trans h
              refine fw_iconst C 1 dX10_holds_166 rfl ?_
              refine fw_goto C 171 dX10_holds_167 (by decide) ?_
              obtain rfl := Option.some.inj h
              exact fw_zret C hr (Or.inr rfl) hlk dX10_holds_171
            · replace h := (if_pos c44).symm.trans h
              refine fw_aload_n C 1 dX10_holds_144 rfl rfl ?_
              refine fw_iload_n C 2 dX10_holds_145 rfl rfl ?_
              refine fw_iconst C 1 dX10_holds_146 rfl ?_
              refine fw_iload C 4 dX10_holds_147 rfl ?_
              obtain ⟨v45, e45, h⟩ := b1_some h
              refine fw_callV (ci := 10) [_, _, _] C (c_X10_isBoundBy hl e45) cal_X10_isBoundBy wm_X10_108 wi_yX10_isBoundBy wsl_yX10_isBoundBy (Nat.le_of_ble_eq_true rfl) rfl (gO_of g18) rfl (Nat.le_of_ble_eq_true rfl) ⟨Nat.le_of_ble_eq_true rfl, Nat.le_of_ble_eq_true rfl⟩ ⟨Nat.zero_le _, Nat.zero_le _⟩ dX10_holds_149 ?_
              refine fw_if_eq C 170 dX10_holds_152 (by decide) (fun c46 => ?_) (fun c46 => ?_)
              · replace h := (if_pos c46).symm.trans h
                refine fw_iconst C 0 dX10_holds_170 rfl ?_
                obtain rfl := Option.some.inj h
                exact fw_zret C hr (Or.inl rfl) hlk dX10_holds_171
              · replace h := (if_neg c46).symm.trans h
                refine fw_aload_n C 1 dX10_holds_155 rfl rfl ?_
                refine fw_iload_n C 2 dX10_holds_156 rfl rfl ?_
                refine fw_iconst C 0 dX10_holds_157 rfl ?_
                refine fw_iload C 0 dX10_holds_158 rfl ?_
                obtain ⟨v47, e47, h⟩ := b1_some h
                refine fw_callV (ci := 10) [_, _, _] C (c_X10_isBoundBy hl e47) cal_X10_isBoundBy wm_X10_108 wi_yX10_isBoundBy wsl_yX10_isBoundBy (Nat.le_of_ble_eq_true rfl) rfl (gO_of g18) rfl (Nat.le_of_ble_eq_true rfl) ⟨Nat.le_of_ble_eq_true rfl, Nat.le_of_ble_eq_true rfl⟩ ⟨Nat.zero_le _, Nat.zero_le _⟩ dX10_holds_160 ?_
                refine fw_if_eq C 170 dX10_holds_163 (by decide) (fun c48 => ?_) (fun c48 => ?_)
                · replace h := (if_pos c48).symm.trans h
                  refine fw_iconst C 0 dX10_holds_170 rfl ?_
                  obtain rfl := Option.some.inj h
                  exact fw_zret C hr (Or.inl rfl) hlk dX10_holds_171
                · replace h := (if_neg c48).symm.trans h
                  refine fw_iconst C 1 dX10_holds_166 rfl ?_
                  refine fw_goto C 171 dX10_holds_167 (by decide) ?_
                  obtain rfl := Option.some.inj h
                  exact fw_zret C hr (Or.inr rfl) hlk dX10_holds_171
        · replace h := (if_pos c36).symm.trans h
          refine fw_iconst C 1 dX10_holds_120 rfl ?_
          obtain rfl := Option.some.inj h
          exact fw_zret C hr (Or.inr rfl) hlk dX10_holds_121
  · replace h := (if_pos c19).symm.trans h
    refine fw_iconst C 0 dX10_holds_93 rfl ?_
    obtain rfl := Option.some.inj h
    exact fw_zret C hr (Or.inl rfl) hlk dX10_holds_94
set_option maxRecDepth 100000 in
def fj_X10_holds_61 (S : List fw_Sh) (M : fw_Mem) (a0 : Nat) (x1 : Int32) (x3 : Int32) (x4 : Int32) (z0 : Int32) (z1 : Int32) (z2 : Nat) : Option Int32 := gd (gO S 10 z2) (b1 (f_X10_of S M z2 z1 z0) (fun v12 => if x4 = 0 then fj_X10_holds_78 S M a0 x3 x4 v12 1 x1 a0 else fj_X10_holds_78 S M a0 x3 x4 v12 0 x1 a0))
set_option maxHeartbeats 4000000 in
set_option maxRecDepth 100000 in
theorem jc_X10_holds_61 {G : fw_G} {p : Program} {l : Launch} {e : Env} {s : State} {m : MethodId} {args : Array Value} {below : List Frame} {meth : Method} {c : Code} {S : List fw_Sh} {M : fw_Mem} {a0 : Nat} {x1 : Int32} {x3 : Int32} {x4 : Int32} {z0 : Int32} {z1 : Int32} {z2 : Nat} {r : Int32} {o : fw_O} (C : fw_C G RX10 cX10_holds 7 p s m args c) (hr : meth.sig.returnType = (some .boolean)) (hlk : meth.locks = false) (hl : l.stackTraces = false) (ht : ∀ x ∈ c.exceptionTable.toList, False) (ho : o = (.inl (some (.int r)), S, M)) (h : fj_X10_holds_61 S M a0 x1 x3 x4 z0 z1 z2 = some r) :
    fw_W G p l e (fw_rm 7 (fw_mcO o) (fw_msO o)) s m args below meth c 7 (fw_Z G below args s (fw_mcO o) (fw_msO o) o) 0 0 61 [(0, .ref a0), (1, .int x1), (3, .int x3), (4, .int x4)] [.int z0, .int z1, .ref z2] S M := by
  subst ho
  unfold fj_X10_holds_61 at h
  obtain ⟨g13, h⟩ := gd_some h
  obtain ⟨v12, e12, h⟩ := b1_some h
  refine fw_callV (ci := 10) [_, _] C (c_X10_of hl e12) cal_X10_of wm_X10_65 wi_yX10_of wsl_yX10_of (Nat.le_of_ble_eq_true rfl) rfl (gO_of g13) rfl (Nat.le_of_ble_eq_true rfl) ⟨Nat.le_of_ble_eq_true rfl, Nat.le_of_ble_eq_true rfl⟩ ⟨Nat.zero_le _, Nat.zero_le _⟩ dX10_holds_61 ?_
  refine fw_istore C [(5, _), (0, _), (1, _), (3, _), (4, _)] dX10_holds_64 (Nat.le_of_ble_eq_true rfl) rfl ?_
  refine fw_aload_n C 1 dX10_holds_66 rfl rfl ?_
  refine fw_iload_n C 2 dX10_holds_67 rfl rfl ?_
  refine fw_iload C 4 dX10_holds_68 rfl ?_
  refine fw_if_eq C 77 dX10_holds_70 (by decide) (fun c14 => ?_) (fun c14 => ?_)
  · replace h := (if_pos c14).symm.trans h
    refine fw_iconst C 1 dX10_holds_77 rfl ?_
    refine fw_sub [1, 3, 4, 0] rfl ?_
    exact jc_X10_holds_78 C hr hlk hl ht rfl h
  · replace h := (if_neg c14).symm.trans h
    refine fw_iconst C 0 dX10_holds_73 rfl ?_
    refine fw_goto C 78 dX10_holds_74 (by decide) ?_
    refine fw_sub [1, 3, 4, 0] rfl ?_
    exact jc_X10_holds_78 C hr hlk hl ht rfl h
set_option maxRecDepth 100000 in
def fj_X10_holds_47 (S : List fw_Sh) (M : fw_Mem) (a0 : Nat) (x1 : Int32) (x3 : Int32) (z0 : Int32) : Option Int32 := if z0 = 0 then fj_X10_holds_61 S M a0 x1 x3 z0 0 x1 a0 else fj_X10_holds_61 S M a0 x1 x3 z0 1 x1 a0
set_option maxHeartbeats 4000000 in
set_option maxRecDepth 100000 in
theorem jc_X10_holds_47 {G : fw_G} {p : Program} {l : Launch} {e : Env} {s : State} {m : MethodId} {args : Array Value} {below : List Frame} {meth : Method} {c : Code} {S : List fw_Sh} {M : fw_Mem} {a0 : Nat} {x1 : Int32} {x3 : Int32} {z0 : Int32} {r : Int32} {o : fw_O} (C : fw_C G RX10 cX10_holds 7 p s m args c) (hr : meth.sig.returnType = (some .boolean)) (hlk : meth.locks = false) (hl : l.stackTraces = false) (ht : ∀ x ∈ c.exceptionTable.toList, False) (ho : o = (.inl (some (.int r)), S, M)) (h : fj_X10_holds_47 S M a0 x1 x3 z0 = some r) :
    fw_W G p l e (fw_rm 7 (fw_mcO o) (fw_msO o)) s m args below meth c 7 (fw_Z G below args s (fw_mcO o) (fw_msO o) o) 0 0 47 [(0, .ref a0), (1, .int x1), (3, .int x3)] [.int z0] S M := by
  subst ho
  unfold fj_X10_holds_47 at h
  refine fw_istore C [(4, _), (0, _), (1, _), (3, _)] dX10_holds_47 (Nat.le_of_ble_eq_true rfl) rfl ?_
  refine fw_aload_n C 1 dX10_holds_49 rfl rfl ?_
  refine fw_iload_n C 2 dX10_holds_50 rfl rfl ?_
  refine fw_iload C 0 dX10_holds_51 rfl ?_
  refine fw_if_eq C 60 dX10_holds_53 (by decide) (fun c11 => ?_) (fun c11 => ?_)
  · replace h := (if_pos c11).symm.trans h
    refine fw_iconst C 0 dX10_holds_60 rfl ?_
    refine fw_sub [1, 2, 3, 0] rfl ?_
    exact jc_X10_holds_61 C hr hlk hl ht rfl h
  · replace h := (if_neg c11).symm.trans h
    refine fw_iconst C 1 dX10_holds_56 rfl ?_
    refine fw_goto C 61 dX10_holds_57 (by decide) ?_
    refine fw_sub [1, 2, 3, 0] rfl ?_
    exact jc_X10_holds_61 C hr hlk hl ht rfl h
set_option maxRecDepth 100000 in
def f_X10_holds (S : List fw_Sh) (M : fw_Mem) (a0 : Nat) (x1 : Int32) (x2 : Int32) (x3 : Int32) : Option Int32 := gd (gO S 10 a0) (b1 (f_X10_comesBehind S M a0 x1 x3) (fun v1 => if v1 = 0 then (some 0) else (b1 (f_X10_settledOf S M a0 x3) (fun v4 => b1 (f_X10_has S M v4 x2) (fun v5 => if v5 = 0 then (some 0) else (b1 (f_X10_foundYes S M a0 x3 x2) (fun v7 => b1 (f_X10_of S M a0 x1 4) (fun v8 => b1 (f_X10_has S M v8 x2) (fun v9 => if v7 = v9 then fj_X10_holds_47 S M a0 x1 x3 1 else fj_X10_holds_47 S M a0 x1 x3 0)))))))))
set_option maxHeartbeats 4000000 in
set_option maxRecDepth 100000 in
theorem c_X10_holds {l : Launch} {G : fw_G} {S : List fw_Sh} {M : fw_Mem} {a0 : Nat} {x1 : Int32} {x2 : Int32} {x3 : Int32} {r : Int32} (hl : l.stackTraces = false) (h : f_X10_holds S M a0 x1 x2 x3 = some r) : fw_M l G yX10_holds (.code yX10_holds cX10_holds 7 (some .boolean)) 7 (fw_mcO (.inl (some (.int r)), S, M)) (fw_msO (.inl (some (.int r)), S, M)) S M [.ref a0, .int x1, .int x2, .int x3] (.inl (some (.int r)), S, M) := by
  refine fw_of [(0, .ref a0), (1, .int x1), (2, .int x2), (3, .int x3)] (by decide) (Nat.le_of_ble_eq_true rfl) rfl ?_
  intro p e s m args below meth c C hr hlk hnm ht _
  unfold f_X10_holds at h
  refine fw_aload_n C 0 dX10_holds_0 rfl rfl ?_
  refine fw_iload_n C 1 dX10_holds_1 rfl rfl ?_
  refine fw_iload_n C 3 dX10_holds_2 rfl rfl ?_
  obtain ⟨g2, h⟩ := gd_some h
  obtain ⟨v1, e1, h⟩ := b1_some h
  refine fw_callV (ci := 10) [_, _] C (c_X10_comesBehind hl e1) cal_X10_comesBehind wm_X10_116 wi_yX10_comesBehind wsl_yX10_comesBehind (Nat.le_of_ble_eq_true rfl) rfl (gO_of g2) rfl (Nat.le_of_ble_eq_true rfl) ⟨Nat.le_of_ble_eq_true rfl, Nat.le_of_ble_eq_true rfl⟩ ⟨Nat.zero_le _, Nat.zero_le _⟩ dX10_holds_3 ?_
  refine fw_if_eq C 21 dX10_holds_6 (by decide) (fun c3 => ?_) (fun c3 => ?_)
  · replace h := (if_pos c3).symm.trans h
    refine fw_iconst C 0 dX10_holds_21 rfl ?_
    obtain rfl := Option.some.inj h
    exact fw_zret C hr (Or.inl rfl) hlk dX10_holds_22
  · replace h := (if_neg c3).symm.trans h
    refine fw_aload_n C 0 dX10_holds_9 rfl rfl ?_
    refine fw_iload_n C 3 dX10_holds_10 rfl rfl ?_
    obtain ⟨v4, e4, h⟩ := b1_some h
    refine fw_callV (ci := 10) [_] C (c_X10_settledOf hl e4) cal_X10_settledOf wm_X10_125 wi_yX10_settledOf wsl_yX10_settledOf (Nat.le_of_ble_eq_true rfl) rfl (gO_of g2) rfl (Nat.le_of_ble_eq_true rfl) ⟨Nat.le_of_ble_eq_true rfl, Nat.le_of_ble_eq_true rfl⟩ ⟨Nat.zero_le _, Nat.zero_le _⟩ dX10_holds_11 ?_
    refine fw_iload_n C 2 dX10_holds_14 rfl rfl ?_
    obtain ⟨v5, e5, h⟩ := b1_some h
    refine fw_callS [_, _] C (c_X10_has hl e5) cal_X10_has wm_X10_98 wt_yX10_has rfl (Nat.le_of_ble_eq_true rfl) ⟨Nat.le_of_ble_eq_true rfl, Nat.le_of_ble_eq_true rfl⟩ ⟨Nat.zero_le _, Nat.zero_le _⟩ dX10_holds_15 ?_
    refine fw_if_ne C 23 dX10_holds_18 (by decide) (fun c6 => ?_) (fun c6 => ?_)
    · replace h := (if_neg c6).symm.trans h
      refine fw_aload_n C 0 dX10_holds_23 rfl rfl ?_
      refine fw_iload_n C 3 dX10_holds_24 rfl rfl ?_
      refine fw_iload_n C 2 dX10_holds_25 rfl rfl ?_
      obtain ⟨v7, e7, h⟩ := b1_some h
      refine fw_callV (ci := 10) [_, _] C (c_X10_foundYes hl e7) cal_X10_foundYes wm_X10_128 wi_yX10_foundYes wsl_yX10_foundYes (Nat.le_of_ble_eq_true rfl) rfl (gO_of g2) rfl (Nat.le_of_ble_eq_true rfl) ⟨Nat.le_of_ble_eq_true rfl, Nat.le_of_ble_eq_true rfl⟩ ⟨Nat.zero_le _, Nat.zero_le _⟩ dX10_holds_26 ?_
      refine fw_aload_n C 0 dX10_holds_29 rfl rfl ?_
      refine fw_iload_n C 1 dX10_holds_30 rfl rfl ?_
      refine fw_iconst C 4 dX10_holds_31 rfl ?_
      obtain ⟨v8, e8, h⟩ := b1_some h
      refine fw_callV (ci := 10) [_, _] C (c_X10_of hl e8) cal_X10_of wm_X10_65 wi_yX10_of wsl_yX10_of (Nat.le_of_ble_eq_true rfl) rfl (gO_of g2) rfl (Nat.le_of_ble_eq_true rfl) ⟨Nat.le_of_ble_eq_true rfl, Nat.le_of_ble_eq_true rfl⟩ ⟨Nat.zero_le _, Nat.zero_le _⟩ dX10_holds_32 ?_
      refine fw_iload_n C 2 dX10_holds_35 rfl rfl ?_
      obtain ⟨v9, e9, h⟩ := b1_some h
      refine fw_callS [_, _] C (c_X10_has hl e9) cal_X10_has wm_X10_98 wt_yX10_has rfl (Nat.le_of_ble_eq_true rfl) ⟨Nat.le_of_ble_eq_true rfl, Nat.le_of_ble_eq_true rfl⟩ ⟨Nat.zero_le _, Nat.zero_le _⟩ dX10_holds_36 ?_
      refine fw_icmp_ne C 46 dX10_holds_39 (by decide) (fun c10 => ?_) (fun c10 => ?_)
      · replace h := (if_neg c10).symm.trans h
        refine fw_iconst C 0 dX10_holds_46 rfl ?_
        refine fw_sub [0, 1, 3] rfl ?_
        exact jc_X10_holds_47 C hr hlk hl ht rfl h
      · replace h := (if_pos c10).symm.trans h
        refine fw_iconst C 1 dX10_holds_42 rfl ?_
        refine fw_goto C 47 dX10_holds_43 (by decide) ?_
        refine fw_sub [0, 1, 3] rfl ?_
        exact jc_X10_holds_47 C hr hlk hl ht rfl h
    · replace h := (if_pos c6).symm.trans h
      refine fw_iconst C 0 dX10_holds_21 rfl ?_
      obtain rfl := Option.some.inj h
      exact fw_zret C hr (Or.inl rfl) hlk dX10_holds_22
set_option maxRecDepth 100000 in
def lf_X10_holderOf_5 (S : List fw_Sh) (M : fw_Mem) (a0 : Nat) (x1 : Int32) (x2 : Int32) : Nat → Int32 → Int32 → Option (Int32)
  | 0, _, _ => none
  | n + 1, x3, x4 => gd (gO S 10 a0) (b1 (f_X10_suits S M a0) (fun v1 => if v1 ≤ x4 then (some x3) else (b1 (f_X10_holds S M a0 x1 x2 x4) (fun v4 => if v4 = 0 then (lf_X10_holderOf_5 S M a0 x1 x2 n x3 (x4 + 1)) else (if x3 = (-1) then (lf_X10_holderOf_5 S M a0 x1 x2 n x4 (x4 + 1)) else (b1 (f_X10_of S M a0 x4 6) (fun v7 => b1 (f_X10_of S M a0 x3 6) (fun v8 => if v7 < v8 then (lf_X10_holderOf_5 S M a0 x1 x2 n x3 (x4 + 1)) else (lf_X10_holderOf_5 S M a0 x1 x2 n x4 (x4 + 1))))))))))
set_option maxHeartbeats 4000000 in
set_option maxRecDepth 100000 in
theorem lc_X10_holderOf_5 {G : fw_G} {p : Program} {l : Launch} {e : Env} {s : State} {m : MethodId} {args : Array Value} {below : List Frame} {meth : Method} {c : Code} {S : List fw_Sh} {o : fw_O} {M : fw_Mem} {a0 : Nat} {x1 : Int32} {x2 : Int32} (C : fw_C G RX10 cX10_holderOf 5 p s m args c) (hr : meth.sig.returnType = (some .int)) (hlk : meth.locks = false) (hl : l.stackTraces = false) (ht : ∀ x ∈ c.exceptionTable.toList, False) :
    ∀ {n : Nat} {x3 : Int32} {x4 : Int32} {r : (Int32)} (h : lf_X10_holderOf_5 S M a0 x1 x2 n x3 x4 = some r) (kx : fw_W G p l e (fw_rm 8 (fw_mcO o) (fw_msO o)) s m args below meth c 5 (fw_Z G below args s (fw_mcO o) (fw_msO o) o) 0 0 60 [(3, .int r)] [] S M), fw_W G p l e (fw_rm 8 (fw_mcO o) (fw_msO o)) s m args below meth c 5 (fw_Z G below args s (fw_mcO o) (fw_msO o) o) 0 0 5 [(0, .ref a0), (1, .int x1), (2, .int x2), (3, .int x3), (4, .int x4)] [] S M := by
  intro n
  induction n with
  | zero =>
    intro x3 x4 r h
    exact nomatch (show (none : Option (Int32)) = some r from h)
  | succ n ih =>
    intro x3 x4 r h kx
    rw [lf_X10_holderOf_5.eq_2] at h
    refine fw_iload C 4 dX10_holderOf_5 rfl ?_
    refine fw_aload_n C 0 dX10_holderOf_7 rfl rfl ?_
    obtain ⟨g2, h⟩ := gd_some h
    obtain ⟨v1, e1, h⟩ := b1_some h
    refine fw_callV (ci := 10) [] C (c_X10_suits hl e1) cal_X10_suits wm_X10_62 wi_yX10_suits wsl_yX10_suits (Nat.le_of_ble_eq_true rfl) rfl (gO_of g2) rfl (Nat.le_of_ble_eq_true rfl) ⟨Nat.le_of_ble_eq_true rfl, Nat.le_of_ble_eq_true rfl⟩ ⟨Nat.zero_le _, Nat.zero_le _⟩ dX10_holderOf_8 ?_
    refine fw_icmp_ge C 60 dX10_holderOf_11 (by decide) (fun c3 => ?_) (fun c3 => ?_)
    · replace h := (if_pos c3).symm.trans h
      obtain rfl := Option.some.inj h
      refine fw_sub [3] rfl ?_
      exact kx
    · replace h := (if_neg c3).symm.trans h
      refine fw_aload_n C 0 dX10_holderOf_14 rfl rfl ?_
      refine fw_iload_n C 1 dX10_holderOf_15 rfl rfl ?_
      refine fw_iload_n C 2 dX10_holderOf_16 rfl rfl ?_
      refine fw_iload C 4 dX10_holderOf_17 rfl ?_
      obtain ⟨v4, e4, h⟩ := b1_some h
      refine fw_callV (ci := 10) [_, _, _] C (c_X10_holds hl e4) cal_X10_holds wm_X10_134 wi_yX10_holds wsl_yX10_holds (Nat.le_of_ble_eq_true rfl) rfl (gO_of g2) rfl (Nat.le_of_ble_eq_true rfl) ⟨Nat.le_of_ble_eq_true rfl, Nat.le_of_ble_eq_true rfl⟩ ⟨Nat.zero_le _, Nat.zero_le _⟩ dX10_holderOf_19 ?_
      refine fw_if_ne C 28 dX10_holderOf_22 (by decide) (fun c5 => ?_) (fun c5 => ?_)
      · replace h := (if_neg c5).symm.trans h
        refine fw_iload_n C 3 dX10_holderOf_28 rfl rfl ?_
        refine fw_iconst C (-1) dX10_holderOf_29 rfl ?_
        refine fw_icmp_eq C 51 dX10_holderOf_30 (by decide) (fun c6 => ?_) (fun c6 => ?_)
        · replace h := (if_pos c6).symm.trans h
          refine fw_iload C 4 dX10_holderOf_51 rfl ?_
          refine fw_istore_n C [(3, _), (0, _), (1, _), (2, _), (4, _)] dX10_holderOf_53 rfl (Nat.le_of_ble_eq_true rfl) rfl ?_
          refine fw_iinc C _ 4 [(4, _), (3, _), (0, _), (1, _), (2, _)] dX10_holderOf_54 rfl rfl (Nat.le_of_ble_eq_true rfl) rfl ?_
          refine fw_goto C 5 dX10_holderOf_57 (by decide) ?_
          refine fw_sub [2, 3, 4, 1, 0] rfl ?_
          exact ih h kx
        · replace h := (if_neg c6).symm.trans h
          refine fw_aload_n C 0 dX10_holderOf_33 rfl rfl ?_
          refine fw_iload C 4 dX10_holderOf_34 rfl ?_
          refine fw_bipush C 6 dX10_holderOf_36 rfl ?_
          obtain ⟨v7, e7, h⟩ := b1_some h
          refine fw_callV (ci := 10) [_, _] C (c_X10_of hl e7) cal_X10_of wm_X10_65 wi_yX10_of wsl_yX10_of (Nat.le_of_ble_eq_true rfl) rfl (gO_of g2) rfl (Nat.le_of_ble_eq_true rfl) ⟨Nat.le_of_ble_eq_true rfl, Nat.le_of_ble_eq_true rfl⟩ ⟨Nat.zero_le _, Nat.zero_le _⟩ dX10_holderOf_38 ?_
          refine fw_aload_n C 0 dX10_holderOf_41 rfl rfl ?_
          refine fw_iload_n C 3 dX10_holderOf_42 rfl rfl ?_
          refine fw_bipush C 6 dX10_holderOf_43 rfl ?_
          obtain ⟨v8, e8, h⟩ := b1_some h
          refine fw_callV (ci := 10) [_, _] C (c_X10_of hl e8) cal_X10_of wm_X10_65 wi_yX10_of wsl_yX10_of (Nat.le_of_ble_eq_true rfl) rfl (gO_of g2) rfl (Nat.le_of_ble_eq_true rfl) ⟨Nat.le_of_ble_eq_true rfl, Nat.le_of_ble_eq_true rfl⟩ ⟨Nat.zero_le _, Nat.zero_le _⟩ dX10_holderOf_45 ?_
          refine fw_icmp_lt C 54 dX10_holderOf_48 (by decide) (fun c9 => ?_) (fun c9 => ?_)
          · replace h := (if_pos c9).symm.trans h
            refine fw_iinc C _ 4 [(4, _), (0, _), (1, _), (2, _), (3, _)] dX10_holderOf_54 rfl rfl (Nat.le_of_ble_eq_true rfl) rfl ?_
            refine fw_goto C 5 dX10_holderOf_57 (by decide) ?_
            refine fw_sub [1, 2, 3, 4, 0] rfl ?_
            exact ih h kx
          · replace h := (if_neg c9).symm.trans h
            refine fw_iload C 4 dX10_holderOf_51 rfl ?_
            refine fw_istore_n C [(3, _), (0, _), (1, _), (2, _), (4, _)] dX10_holderOf_53 rfl (Nat.le_of_ble_eq_true rfl) rfl ?_
            refine fw_iinc C _ 4 [(4, _), (3, _), (0, _), (1, _), (2, _)] dX10_holderOf_54 rfl rfl (Nat.le_of_ble_eq_true rfl) rfl ?_
            refine fw_goto C 5 dX10_holderOf_57 (by decide) ?_
            refine fw_sub [2, 3, 4, 1, 0] rfl ?_
            exact ih h kx
      · replace h := (if_pos c5).symm.trans h
        refine fw_goto C 54 dX10_holderOf_25 (by decide) ?_
        refine fw_iinc C _ 4 [(4, _), (0, _), (1, _), (2, _), (3, _)] dX10_holderOf_54 rfl rfl (Nat.le_of_ble_eq_true rfl) rfl ?_
        refine fw_goto C 5 dX10_holderOf_57 (by decide) ?_
        refine fw_sub [1, 2, 3, 4, 0] rfl ?_
        exact ih h kx
set_option maxRecDepth 100000 in
def f_X10_holderOf (S : List fw_Sh) (M : fw_Mem) (a0 : Nat) (x1 : Int32) (x2 : Int32) : Option Int32 := b1 (lf_X10_holderOf_5 S M a0 x1 x2 20000 (-1) 0) (fun l10 => some l10)
set_option maxHeartbeats 4000000 in
set_option maxRecDepth 100000 in
theorem c_X10_holderOf {l : Launch} {G : fw_G} {S : List fw_Sh} {M : fw_Mem} {a0 : Nat} {x1 : Int32} {x2 : Int32} {r : Int32} (hl : l.stackTraces = false) (h : f_X10_holderOf S M a0 x1 x2 = some r) : fw_M l G yX10_holderOf (.code yX10_holderOf cX10_holderOf 5 (some .int)) 8 (fw_mcO (.inl (some (.int r)), S, M)) (fw_msO (.inl (some (.int r)), S, M)) S M [.ref a0, .int x1, .int x2] (.inl (some (.int r)), S, M) := by
  refine fw_of [(0, .ref a0), (1, .int x1), (2, .int x2)] (by decide) (Nat.le_of_ble_eq_true rfl) rfl ?_
  intro p e s m args below meth c C hr hlk hnm ht _
  unfold f_X10_holderOf at h
  refine fw_iconst C (-1) dX10_holderOf_0 rfl ?_
  refine fw_istore_n C [(3, _), (0, _), (1, _), (2, _)] dX10_holderOf_1 rfl (Nat.le_of_ble_eq_true rfl) rfl ?_
  refine fw_iconst C 0 dX10_holderOf_2 rfl ?_
  refine fw_istore C [(4, _), (3, _), (0, _), (1, _), (2, _)] dX10_holderOf_3 (Nat.le_of_ble_eq_true rfl) rfl ?_
  refine fw_sub [2, 3, 4, 1, 0] rfl ?_
  obtain ⟨l10, e10, h⟩ := b1_some h
  refine lc_X10_holderOf_5 C hr hlk hl ht e10 ?_
  refine fw_iload_n C 0 dX10_holderOf_60 rfl rfl ?_
  obtain rfl := Option.some.inj h
  exact fw_iret C hr hlk dX10_holderOf_61
set_option maxRecDepth 100000 in
def lf_X10_heldOf_4 (S : List fw_Sh) (M : fw_Mem) (a0 : Nat) (x1 : Int32) : Nat → Int32 → Int32 → Option (Int32)
  | 0, _, _ => none
  | n + 1, x2, x3 => if (31 : Int32) ≤ x3 then (some x2) else (gd (gO S 10 a0) (b1 (f_X10_issuesOf S M a0 x1) (fun v2 => b1 (f_X10_has S M v2 x3) (fun v4 => if v4 = 0 then (lf_X10_heldOf_4 S M a0 x1 n x2 (x3 + 1)) else (b1 (f_X10_holderOf S M a0 x1 x3) (fun v6 => if v6 = (-1) then (lf_X10_heldOf_4 S M a0 x1 n x2 (x3 + 1)) else (bm (x2 ||| ((1 : Int32) <<< (x3 &&& 31))) (fun y8 => lf_X10_heldOf_4 S M a0 x1 n y8 (x3 + 1)))))))))
set_option maxHeartbeats 4000000 in
set_option maxRecDepth 100000 in
theorem lc_X10_heldOf_4 {G : fw_G} {p : Program} {l : Launch} {e : Env} {s : State} {m : MethodId} {args : Array Value} {below : List Frame} {meth : Method} {c : Code} {S : List fw_Sh} {o : fw_O} {M : fw_Mem} {a0 : Nat} {x1 : Int32} (C : fw_C G RX10 cX10_heldOf 4 p s m args c) (hr : meth.sig.returnType = (some .int)) (hlk : meth.locks = false) (hl : l.stackTraces = false) (ht : ∀ x ∈ c.exceptionTable.toList, False) :
    ∀ {n : Nat} {x2 : Int32} {x3 : Int32} {r : (Int32)} (h : lf_X10_heldOf_4 S M a0 x1 n x2 x3 = some r) (kx : fw_W G p l e (fw_rm 9 (fw_mcO o) (fw_msO o)) s m args below meth c 4 (fw_Z G below args s (fw_mcO o) (fw_msO o) o) 0 0 44 [(2, .int r)] [] S M), fw_W G p l e (fw_rm 9 (fw_mcO o) (fw_msO o)) s m args below meth c 4 (fw_Z G below args s (fw_mcO o) (fw_msO o) o) 0 0 4 [(0, .ref a0), (1, .int x1), (2, .int x2), (3, .int x3)] [] S M := by
  intro n
  induction n with
  | zero =>
    intro x2 x3 r h
    exact nomatch (show (none : Option (Int32)) = some r from h)
  | succ n ih =>
    intro x2 x3 r h kx
    rw [lf_X10_heldOf_4.eq_2] at h
    refine fw_iload_n C 3 dX10_heldOf_4 rfl rfl ?_
    refine fw_bipush C 31 dX10_heldOf_5 rfl ?_
    refine fw_icmp_ge C 44 dX10_heldOf_7 (by decide) (fun c1 => ?_) (fun c1 => ?_)
    · replace h := (if_pos c1).symm.trans h
      obtain rfl := Option.some.inj h
      refine fw_sub [2] rfl ?_
      exact kx
    · replace h := (if_neg c1).symm.trans h
      refine fw_aload_n C 0 dX10_heldOf_10 rfl rfl ?_
      refine fw_iload_n C 1 dX10_heldOf_11 rfl rfl ?_
      obtain ⟨g3, h⟩ := gd_some h
      obtain ⟨v2, e2, h⟩ := b1_some h
      refine fw_callV (ci := 10) [_] C (c_X10_issuesOf hl e2) cal_X10_issuesOf wm_X10_137 wi_yX10_issuesOf wsl_yX10_issuesOf (Nat.le_of_ble_eq_true rfl) rfl (gO_of g3) rfl (Nat.le_of_ble_eq_true rfl) ⟨Nat.le_of_ble_eq_true rfl, Nat.le_of_ble_eq_true rfl⟩ ⟨Nat.zero_le _, Nat.zero_le _⟩ dX10_heldOf_12 ?_
      refine fw_iload_n C 3 dX10_heldOf_15 rfl rfl ?_
      obtain ⟨v4, e4, h⟩ := b1_some h
      refine fw_callS [_, _] C (c_X10_has hl e4) cal_X10_has wm_X10_98 wt_yX10_has rfl (Nat.le_of_ble_eq_true rfl) ⟨Nat.le_of_ble_eq_true rfl, Nat.le_of_ble_eq_true rfl⟩ ⟨Nat.zero_le _, Nat.zero_le _⟩ dX10_heldOf_16 ?_
      refine fw_if_eq C 38 dX10_heldOf_19 (by decide) (fun c5 => ?_) (fun c5 => ?_)
      · replace h := (if_pos c5).symm.trans h
        refine fw_iinc C _ 3 [(3, _), (0, _), (1, _), (2, _)] dX10_heldOf_38 rfl rfl (Nat.le_of_ble_eq_true rfl) rfl ?_
        refine fw_goto C 4 dX10_heldOf_41 (by decide) ?_
        refine fw_sub [1, 2, 3, 0] rfl ?_
        exact ih h kx
      · replace h := (if_neg c5).symm.trans h
        refine fw_aload_n C 0 dX10_heldOf_22 rfl rfl ?_
        refine fw_iload_n C 1 dX10_heldOf_23 rfl rfl ?_
        refine fw_iload_n C 3 dX10_heldOf_24 rfl rfl ?_
        obtain ⟨v6, e6, h⟩ := b1_some h
        refine fw_callV (ci := 10) [_, _] C (c_X10_holderOf hl e6) cal_X10_holderOf wm_X10_140 wi_yX10_holderOf wsl_yX10_holderOf (Nat.le_of_ble_eq_true rfl) rfl (gO_of g3) rfl (Nat.le_of_ble_eq_true rfl) ⟨Nat.le_of_ble_eq_true rfl, Nat.le_of_ble_eq_true rfl⟩ ⟨Nat.zero_le _, Nat.zero_le _⟩ dX10_heldOf_25 ?_
        refine fw_iconst C (-1) dX10_heldOf_28 rfl ?_
        refine fw_icmp_eq C 38 dX10_heldOf_29 (by decide) (fun c7 => ?_) (fun c7 => ?_)
        · replace h := (if_pos c7).symm.trans h
          refine fw_iinc C _ 3 [(3, _), (0, _), (1, _), (2, _)] dX10_heldOf_38 rfl rfl (Nat.le_of_ble_eq_true rfl) rfl ?_
          refine fw_goto C 4 dX10_heldOf_41 (by decide) ?_
          refine fw_sub [1, 2, 3, 0] rfl ?_
          exact ih h kx
        · replace h := (if_neg c7).symm.trans h
          refine fw_iload_n C 2 dX10_heldOf_32 rfl rfl ?_
          refine fw_iconst C 1 dX10_heldOf_33 rfl ?_
          refine fw_iload_n C 3 dX10_heldOf_34 rfl rfl ?_
          refine fw_ishl C dX10_heldOf_35 ?_
          refine fw_ior C dX10_heldOf_36 ?_
          refine fw_bi h (fun y8 h => ?_)
          refine fw_istore_n C [(2, _), (0, _), (1, _), (3, _)] dX10_heldOf_37 rfl (Nat.le_of_ble_eq_true rfl) rfl ?_
          refine fw_iinc C _ 3 [(3, _), (2, _), (0, _), (1, _)] dX10_heldOf_38 rfl rfl (Nat.le_of_ble_eq_true rfl) rfl ?_
          refine fw_goto C 4 dX10_heldOf_41 (by decide) ?_
          refine fw_sub [2, 3, 1, 0] rfl ?_
          exact ih h kx
set_option maxRecDepth 100000 in
def f_X10_heldOf (S : List fw_Sh) (M : fw_Mem) (a0 : Nat) (x1 : Int32) : Option Int32 := b1 (lf_X10_heldOf_4 S M a0 x1 20000 0 0) (fun l9 => some l9)
set_option maxHeartbeats 4000000 in
set_option maxRecDepth 100000 in
theorem c_X10_heldOf {l : Launch} {G : fw_G} {S : List fw_Sh} {M : fw_Mem} {a0 : Nat} {x1 : Int32} {r : Int32} (hl : l.stackTraces = false) (h : f_X10_heldOf S M a0 x1 = some r) : fw_M l G yX10_heldOf (.code yX10_heldOf cX10_heldOf 4 (some .int)) 9 (fw_mcO (.inl (some (.int r)), S, M)) (fw_msO (.inl (some (.int r)), S, M)) S M [.ref a0, .int x1] (.inl (some (.int r)), S, M) := by
  refine fw_of [(0, .ref a0), (1, .int x1)] (by decide) (Nat.le_of_ble_eq_true rfl) rfl ?_
  intro p e s m args below meth c C hr hlk hnm ht _
  unfold f_X10_heldOf at h
  refine fw_iconst C 0 dX10_heldOf_0 rfl ?_
  refine fw_istore_n C [(2, _), (0, _), (1, _)] dX10_heldOf_1 rfl (Nat.le_of_ble_eq_true rfl) rfl ?_
  refine fw_iconst C 0 dX10_heldOf_2 rfl ?_
  refine fw_istore_n C [(3, _), (2, _), (0, _), (1, _)] dX10_heldOf_3 rfl (Nat.le_of_ble_eq_true rfl) rfl ?_
  refine fw_sub [2, 3, 1, 0] rfl ?_
  obtain ⟨l9, e9, h⟩ := b1_some h
  refine lc_X10_heldOf_4 C hr hlk hl ht e9 ?_
  refine fw_iload_n C 0 dX10_heldOf_44 rfl rfl ?_
  obtain rfl := Option.some.inj h
  exact fw_iret C hr hlk dX10_heldOf_45
set_option maxRecDepth 100000 in
def lf_X10_heldYesOf_4 (S : List fw_Sh) (M : fw_Mem) (a0 : Nat) (x1 : Int32) : Nat → Int32 → Int32 → Option (Int32)
  | 0, _, _ => none
  | n + 1, x2, x3 => if (31 : Int32) ≤ x3 then (some x2) else (gd (gO S 10 a0) (b1 (f_X10_issuesOf S M a0 x1) (fun v2 => b1 (f_X10_has S M v2 x3) (fun v4 => if v4 = 0 then (lf_X10_heldYesOf_4 S M a0 x1 n x2 (x3 + 1)) else (b1 (f_X10_holderOf S M a0 x1 x3) (fun v6 => if v6 = (-1) then (lf_X10_heldYesOf_4 S M a0 x1 n x2 (x3 + 1)) else (b1 (f_X10_foundYes S M a0 v6 x3) (fun v8 => if v8 = 0 then (lf_X10_heldYesOf_4 S M a0 x1 n x2 (x3 + 1)) else (bm (x2 ||| ((1 : Int32) <<< (x3 &&& 31))) (fun y10 => lf_X10_heldYesOf_4 S M a0 x1 n y10 (x3 + 1)))))))))))
set_option maxHeartbeats 4000000 in
set_option maxRecDepth 100000 in
theorem lc_X10_heldYesOf_4 {G : fw_G} {p : Program} {l : Launch} {e : Env} {s : State} {m : MethodId} {args : Array Value} {below : List Frame} {meth : Method} {c : Code} {S : List fw_Sh} {o : fw_O} {M : fw_Mem} {a0 : Nat} {x1 : Int32} (C : fw_C G RX10 cX10_heldYesOf 5 p s m args c) (hr : meth.sig.returnType = (some .int)) (hlk : meth.locks = false) (hl : l.stackTraces = false) (ht : ∀ x ∈ c.exceptionTable.toList, False) :
    ∀ {n : Nat} {x2 : Int32} {x3 : Int32} {r : (Int32)} (h : lf_X10_heldYesOf_4 S M a0 x1 n x2 x3 = some r) (kx : fw_W G p l e (fw_rm 9 (fw_mcO o) (fw_msO o)) s m args below meth c 5 (fw_Z G below args s (fw_mcO o) (fw_msO o) o) 0 0 62 [(2, .int r)] [] S M), fw_W G p l e (fw_rm 9 (fw_mcO o) (fw_msO o)) s m args below meth c 5 (fw_Z G below args s (fw_mcO o) (fw_msO o) o) 0 0 4 [(0, .ref a0), (1, .int x1), (2, .int x2), (3, .int x3)] [] S M := by
  intro n
  induction n with
  | zero =>
    intro x2 x3 r h
    exact nomatch (show (none : Option (Int32)) = some r from h)
  | succ n ih =>
    intro x2 x3 r h kx
    rw [lf_X10_heldYesOf_4.eq_2] at h
    refine fw_iload_n C 3 dX10_heldYesOf_4 rfl rfl ?_
    refine fw_bipush C 31 dX10_heldYesOf_5 rfl ?_
    refine fw_icmp_ge C 62 dX10_heldYesOf_7 (by decide) (fun c1 => ?_) (fun c1 => ?_)
    · replace h := (if_pos c1).symm.trans h
      obtain rfl := Option.some.inj h
      refine fw_sub [2] rfl ?_
      exact kx
    · replace h := (if_neg c1).symm.trans h
      refine fw_aload_n C 0 dX10_heldYesOf_10 rfl rfl ?_
      refine fw_iload_n C 1 dX10_heldYesOf_11 rfl rfl ?_
      obtain ⟨g3, h⟩ := gd_some h
      obtain ⟨v2, e2, h⟩ := b1_some h
      refine fw_callV (ci := 10) [_] C (c_X10_issuesOf hl e2) cal_X10_issuesOf wm_X10_137 wi_yX10_issuesOf wsl_yX10_issuesOf (Nat.le_of_ble_eq_true rfl) rfl (gO_of g3) rfl (Nat.le_of_ble_eq_true rfl) ⟨Nat.le_of_ble_eq_true rfl, Nat.le_of_ble_eq_true rfl⟩ ⟨Nat.zero_le _, Nat.zero_le _⟩ dX10_heldYesOf_12 ?_
      refine fw_iload_n C 3 dX10_heldYesOf_15 rfl rfl ?_
      obtain ⟨v4, e4, h⟩ := b1_some h
      refine fw_callS [_, _] C (c_X10_has hl e4) cal_X10_has wm_X10_98 wt_yX10_has rfl (Nat.le_of_ble_eq_true rfl) ⟨Nat.le_of_ble_eq_true rfl, Nat.le_of_ble_eq_true rfl⟩ ⟨Nat.zero_le _, Nat.zero_le _⟩ dX10_heldYesOf_16 ?_
      refine fw_if_eq C 31 dX10_heldYesOf_19 (by decide) (fun c5 => ?_) (fun c5 => ?_)
      · replace h := (if_pos c5).symm.trans h
        refine fw_iconst C (-1) dX10_heldYesOf_31 rfl ?_
        refine fw_istore C [(4, _), (0, _), (1, _), (2, _), (3, _)] dX10_heldYesOf_32 (Nat.le_of_ble_eq_true rfl) rfl ?_
        refine fw_iload C 0 dX10_heldYesOf_34 rfl ?_
        refine fw_iconst C (-1) dX10_heldYesOf_36 rfl ?_
        refine fw_icmp_eq C 56 dX10_heldYesOf_37 (by decide) (fun _ => ?_) (fun q => absurd q (by decide))
        refine fw_iinc C _ 4 [(3, _), (4, _), (0, _), (1, _), (2, _)] dX10_heldYesOf_56 rfl rfl (Nat.le_of_ble_eq_true rfl) rfl ?_
        refine fw_goto C 4 dX10_heldYesOf_59 (by decide) ?_
        refine fw_sub [2, 3, 4, 0] rfl ?_
        exact ih h kx
      · replace h := (if_neg c5).symm.trans h
        refine fw_aload_n C 0 dX10_heldYesOf_22 rfl rfl ?_
        refine fw_iload_n C 1 dX10_heldYesOf_23 rfl rfl ?_
        refine fw_iload_n C 3 dX10_heldYesOf_24 rfl rfl ?_
        obtain ⟨v6, e6, h⟩ := b1_some h
        refine fw_callV (ci := 10) [_, _] C (c_X10_holderOf hl e6) cal_X10_holderOf wm_X10_140 wi_yX10_holderOf wsl_yX10_holderOf (Nat.le_of_ble_eq_true rfl) rfl (gO_of g3) rfl (Nat.le_of_ble_eq_true rfl) ⟨Nat.le_of_ble_eq_true rfl, Nat.le_of_ble_eq_true rfl⟩ ⟨Nat.zero_le _, Nat.zero_le _⟩ dX10_heldYesOf_25 ?_
        refine fw_goto C 32 dX10_heldYesOf_28 (by decide) ?_
        refine fw_istore C [(4, _), (0, _), (1, _), (2, _), (3, _)] dX10_heldYesOf_32 (Nat.le_of_ble_eq_true rfl) rfl ?_
        refine fw_iload C 0 dX10_heldYesOf_34 rfl ?_
        refine fw_iconst C (-1) dX10_heldYesOf_36 rfl ?_
        refine fw_icmp_eq C 56 dX10_heldYesOf_37 (by decide) (fun c7 => ?_) (fun c7 => ?_)
        · replace h := (if_pos c7).symm.trans h
          refine fw_iinc C _ 4 [(3, _), (4, _), (0, _), (1, _), (2, _)] dX10_heldYesOf_56 rfl rfl (Nat.le_of_ble_eq_true rfl) rfl ?_
          refine fw_goto C 4 dX10_heldYesOf_59 (by decide) ?_
          refine fw_sub [2, 3, 4, 0] rfl ?_
          exact ih h kx
        · replace h := (if_neg c7).symm.trans h
          refine fw_aload_n C 1 dX10_heldYesOf_40 rfl rfl ?_
          refine fw_iload C 0 dX10_heldYesOf_41 rfl ?_
          refine fw_iload_n C 4 dX10_heldYesOf_43 rfl rfl ?_
          obtain ⟨v8, e8, h⟩ := b1_some h
          refine fw_callV (ci := 10) [_, _] C (c_X10_foundYes hl e8) cal_X10_foundYes wm_X10_128 wi_yX10_foundYes wsl_yX10_foundYes (Nat.le_of_ble_eq_true rfl) rfl (gO_of g3) rfl (Nat.le_of_ble_eq_true rfl) ⟨Nat.le_of_ble_eq_true rfl, Nat.le_of_ble_eq_true rfl⟩ ⟨Nat.zero_le _, Nat.zero_le _⟩ dX10_heldYesOf_44 ?_
          refine fw_if_eq C 56 dX10_heldYesOf_47 (by decide) (fun c9 => ?_) (fun c9 => ?_)
          · replace h := (if_pos c9).symm.trans h
            refine fw_iinc C _ 4 [(3, _), (4, _), (0, _), (1, _), (2, _)] dX10_heldYesOf_56 rfl rfl (Nat.le_of_ble_eq_true rfl) rfl ?_
            refine fw_goto C 4 dX10_heldYesOf_59 (by decide) ?_
            refine fw_sub [2, 3, 4, 0] rfl ?_
            exact ih h kx
          · replace h := (if_neg c9).symm.trans h
            refine fw_iload_n C 3 dX10_heldYesOf_50 rfl rfl ?_
            refine fw_iconst C 1 dX10_heldYesOf_51 rfl ?_
            refine fw_iload_n C 4 dX10_heldYesOf_52 rfl rfl ?_
            refine fw_ishl C dX10_heldYesOf_53 ?_
            refine fw_ior C dX10_heldYesOf_54 ?_
            refine fw_bi h (fun y10 h => ?_)
            refine fw_istore_n C [(2, _), (4, _), (0, _), (1, _), (3, _)] dX10_heldYesOf_55 rfl (Nat.le_of_ble_eq_true rfl) rfl ?_
            refine fw_iinc C _ 4 [(3, _), (2, _), (4, _), (0, _), (1, _)] dX10_heldYesOf_56 rfl rfl (Nat.le_of_ble_eq_true rfl) rfl ?_
            refine fw_goto C 4 dX10_heldYesOf_59 (by decide) ?_
            refine fw_sub [3, 4, 1, 0] rfl ?_
            exact ih h kx
set_option maxRecDepth 100000 in
def f_X10_heldYesOf (S : List fw_Sh) (M : fw_Mem) (a0 : Nat) (x1 : Int32) : Option Int32 := b1 (lf_X10_heldYesOf_4 S M a0 x1 20000 0 0) (fun l11 => some l11)
set_option maxHeartbeats 4000000 in
set_option maxRecDepth 100000 in
theorem c_X10_heldYesOf {l : Launch} {G : fw_G} {S : List fw_Sh} {M : fw_Mem} {a0 : Nat} {x1 : Int32} {r : Int32} (hl : l.stackTraces = false) (h : f_X10_heldYesOf S M a0 x1 = some r) : fw_M l G yX10_heldYesOf (.code yX10_heldYesOf cX10_heldYesOf 5 (some .int)) 9 (fw_mcO (.inl (some (.int r)), S, M)) (fw_msO (.inl (some (.int r)), S, M)) S M [.ref a0, .int x1] (.inl (some (.int r)), S, M) := by
  refine fw_of [(0, .ref a0), (1, .int x1)] (by decide) (Nat.le_of_ble_eq_true rfl) rfl ?_
  intro p e s m args below meth c C hr hlk hnm ht _
  unfold f_X10_heldYesOf at h
  refine fw_iconst C 0 dX10_heldYesOf_0 rfl ?_
  refine fw_istore_n C [(2, _), (0, _), (1, _)] dX10_heldYesOf_1 rfl (Nat.le_of_ble_eq_true rfl) rfl ?_
  refine fw_iconst C 0 dX10_heldYesOf_2 rfl ?_
  refine fw_istore_n C [(3, _), (2, _), (0, _), (1, _)] dX10_heldYesOf_3 rfl (Nat.le_of_ble_eq_true rfl) rfl ?_
  refine fw_sub [2, 3, 1, 0] rfl ?_
  obtain ⟨l11, e11, h⟩ := b1_some h
  refine lc_X10_heldYesOf_4 C hr hlk hl ht e11 ?_
  refine fw_iload_n C 0 dX10_heldYesOf_62 rfl rfl ?_
  obtain rfl := Option.some.inj h
  exact fw_iret C hr hlk dX10_heldYesOf_63
set_option maxRecDepth 100000 in
def f_X10_forcedOf (S : List fw_Sh) (M : fw_Mem) (a0 : Nat) (x1 : Int32) : Option Int32 := gd (gO S 10 a0) (b1 (f_X10_barsOf S M a0 x1) (fun v1 => if v1 = 0 then (b1 (f_X10_heldOf S M a0 x1) (fun v4 => b1 (f_X10_heldYesOf S M a0 x1) (fun v5 => b1 (f_X10_of S M a0 x1 4) (fun v6 => if (v6 &&& (v4 &&& (v5 ^^^ (-1)))) = 0 then (b1 (f_X10_of S M a0 x1 5) (fun v8 => if (v8 &&& v5) = 0 then (b1 (f_X10_issuesOf S M a0 x1) (fun v10 => if v4 = v10 then (some 0) else (some (-1)))) else (some 1))) else (some 1))))) else (some 2)))
set_option maxHeartbeats 4000000 in
set_option maxRecDepth 100000 in
theorem c_X10_forcedOf {l : Launch} {G : fw_G} {S : List fw_Sh} {M : fw_Mem} {a0 : Nat} {x1 : Int32} {r : Int32} (hl : l.stackTraces = false) (h : f_X10_forcedOf S M a0 x1 = some r) : fw_M l G yX10_forcedOf (.code yX10_forcedOf cX10_forcedOf 5 (some .int)) 10 (fw_mcO (.inl (some (.int r)), S, M)) (fw_msO (.inl (some (.int r)), S, M)) S M [.ref a0, .int x1] (.inl (some (.int r)), S, M) := by
  refine fw_of [(0, .ref a0), (1, .int x1)] (by decide) (Nat.le_of_ble_eq_true rfl) rfl ?_
  intro p e s m args below meth c C hr hlk hnm ht _
  unfold f_X10_forcedOf at h
  refine fw_aload_n C 0 dX10_forcedOf_0 rfl rfl ?_
  refine fw_iload_n C 1 dX10_forcedOf_1 rfl rfl ?_
  obtain ⟨g2, h⟩ := gd_some h
  obtain ⟨v1, e1, h⟩ := b1_some h
  refine fw_callV (ci := 10) [_] C (c_X10_barsOf hl e1) cal_X10_barsOf wm_X10_143 wi_yX10_barsOf wsl_yX10_barsOf (Nat.le_of_ble_eq_true rfl) rfl (gO_of g2) rfl (Nat.le_of_ble_eq_true rfl) ⟨Nat.le_of_ble_eq_true rfl, Nat.le_of_ble_eq_true rfl⟩ ⟨Nat.zero_le _, Nat.zero_le _⟩ dX10_forcedOf_2 ?_
  refine fw_if_eq C 10 dX10_forcedOf_5 (by decide) (fun c3 => ?_) (fun c3 => ?_)
  · replace h := (if_pos c3).symm.trans h
    refine fw_aload_n C 0 dX10_forcedOf_10 rfl rfl ?_
    refine fw_iload_n C 1 dX10_forcedOf_11 rfl rfl ?_
    obtain ⟨v4, e4, h⟩ := b1_some h
    refine fw_callV (ci := 10) [_] C (c_X10_heldOf hl e4) cal_X10_heldOf wm_X10_146 wi_yX10_heldOf wsl_yX10_heldOf (Nat.le_of_ble_eq_true rfl) rfl (gO_of g2) rfl (Nat.le_of_ble_eq_true rfl) ⟨Nat.le_of_ble_eq_true rfl, Nat.le_of_ble_eq_true rfl⟩ ⟨Nat.zero_le _, Nat.zero_le _⟩ dX10_forcedOf_12 ?_
    refine fw_istore_n C [(2, _), (0, _), (1, _)] dX10_forcedOf_15 rfl (Nat.le_of_ble_eq_true rfl) rfl ?_
    refine fw_aload_n C 1 dX10_forcedOf_16 rfl rfl ?_
    refine fw_iload_n C 2 dX10_forcedOf_17 rfl rfl ?_
    obtain ⟨v5, e5, h⟩ := b1_some h
    refine fw_callV (ci := 10) [_] C (c_X10_heldYesOf hl e5) cal_X10_heldYesOf wm_X10_149 wi_yX10_heldYesOf wsl_yX10_heldYesOf (Nat.le_of_ble_eq_true rfl) rfl (gO_of g2) rfl (Nat.le_of_ble_eq_true rfl) ⟨Nat.le_of_ble_eq_true rfl, Nat.le_of_ble_eq_true rfl⟩ ⟨Nat.zero_le _, Nat.zero_le _⟩ dX10_forcedOf_18 ?_
    refine fw_istore_n C [(3, _), (2, _), (0, _), (1, _)] dX10_forcedOf_21 rfl (Nat.le_of_ble_eq_true rfl) rfl ?_
    refine fw_iload_n C 1 dX10_forcedOf_22 rfl rfl ?_
    refine fw_iload_n C 0 dX10_forcedOf_23 rfl rfl ?_
    refine fw_iconst C (-1) dX10_forcedOf_24 rfl ?_
    refine fw_ixor C dX10_forcedOf_25 ?_
    refine fw_iand C dX10_forcedOf_26 ?_
    refine fw_istore C [(4, _), (3, _), (2, _), (0, _), (1, _)] dX10_forcedOf_27 (Nat.le_of_ble_eq_true rfl) rfl ?_
    refine fw_aload_n C 3 dX10_forcedOf_29 rfl rfl ?_
    refine fw_iload_n C 4 dX10_forcedOf_30 rfl rfl ?_
    refine fw_iconst C 4 dX10_forcedOf_31 rfl ?_
    obtain ⟨v6, e6, h⟩ := b1_some h
    refine fw_callV (ci := 10) [_, _] C (c_X10_of hl e6) cal_X10_of wm_X10_65 wi_yX10_of wsl_yX10_of (Nat.le_of_ble_eq_true rfl) rfl (gO_of g2) rfl (Nat.le_of_ble_eq_true rfl) ⟨Nat.le_of_ble_eq_true rfl, Nat.le_of_ble_eq_true rfl⟩ ⟨Nat.zero_le _, Nat.zero_le _⟩ dX10_forcedOf_32 ?_
    refine fw_iload C 0 dX10_forcedOf_35 rfl ?_
    refine fw_iand C dX10_forcedOf_37 ?_
    refine fw_if_ne C 52 dX10_forcedOf_38 (by decide) (fun c7 => ?_) (fun c7 => ?_)
    · replace h := (if_neg c7).symm.trans h
      refine fw_iconst C 1 dX10_forcedOf_52 rfl ?_
      obtain rfl := Option.some.inj h
      exact fw_iret C hr hlk dX10_forcedOf_53
    · replace h := (if_pos c7).symm.trans h
      refine fw_aload_n C 3 dX10_forcedOf_41 rfl rfl ?_
      refine fw_iload_n C 4 dX10_forcedOf_42 rfl rfl ?_
      refine fw_iconst C 5 dX10_forcedOf_43 rfl ?_
      obtain ⟨v8, e8, h⟩ := b1_some h
      refine fw_callV (ci := 10) [_, _] C (c_X10_of hl e8) cal_X10_of wm_X10_65 wi_yX10_of wsl_yX10_of (Nat.le_of_ble_eq_true rfl) rfl (gO_of g2) rfl (Nat.le_of_ble_eq_true rfl) ⟨Nat.le_of_ble_eq_true rfl, Nat.le_of_ble_eq_true rfl⟩ ⟨Nat.zero_le _, Nat.zero_le _⟩ dX10_forcedOf_44 ?_
      refine fw_iload_n C 1 dX10_forcedOf_47 rfl rfl ?_
      refine fw_iand C dX10_forcedOf_48 ?_
      refine fw_if_eq C 54 dX10_forcedOf_49 (by decide) (fun c9 => ?_) (fun c9 => ?_)
      · replace h := (if_pos c9).symm.trans h
        refine fw_iload_n C 2 dX10_forcedOf_54 rfl rfl ?_
        refine fw_aload_n C 3 dX10_forcedOf_55 rfl rfl ?_
        refine fw_iload_n C 4 dX10_forcedOf_56 rfl rfl ?_
        obtain ⟨v10, e10, h⟩ := b1_some h
        refine fw_callV (ci := 10) [_] C (c_X10_issuesOf hl e10) cal_X10_issuesOf wm_X10_137 wi_yX10_issuesOf wsl_yX10_issuesOf (Nat.le_of_ble_eq_true rfl) rfl (gO_of g2) rfl (Nat.le_of_ble_eq_true rfl) ⟨Nat.le_of_ble_eq_true rfl, Nat.le_of_ble_eq_true rfl⟩ ⟨Nat.zero_le _, Nat.zero_le _⟩ dX10_forcedOf_57 ?_
        refine fw_icmp_ne C 67 dX10_forcedOf_60 (by decide) (fun c11 => ?_) (fun c11 => ?_)
        · replace h := (if_neg c11).symm.trans h
          refine fw_iconst C (-1) dX10_forcedOf_67 rfl ?_
          obtain rfl := Option.some.inj h
          exact fw_iret C hr hlk dX10_forcedOf_68
        · replace h := (if_pos c11).symm.trans h
          refine fw_iconst C 0 dX10_forcedOf_63 rfl ?_
          refine fw_goto C 68 dX10_forcedOf_64 (by decide) ?_
          obtain rfl := Option.some.inj h
          exact fw_iret C hr hlk dX10_forcedOf_68
      · replace h := (if_neg c9).symm.trans h
        refine fw_iconst C 1 dX10_forcedOf_52 rfl ?_
        obtain rfl := Option.some.inj h
        exact fw_iret C hr hlk dX10_forcedOf_53
  · replace h := (if_neg c3).symm.trans h
    refine fw_iconst C 2 dX10_forcedOf_8 rfl ?_
    obtain rfl := Option.some.inj h
    exact fw_iret C hr hlk dX10_forcedOf_9
set_option maxRecDepth 100000 in
def lf_X10_standsOn_42 (S : List fw_Sh) (M : fw_Mem) (a0 : Nat) (x1 : Int32) (x2 : Int32) (x3 : Int32) : Nat → Int32 → Option (Int32 ⊕ (Unit))
  | 0, _ => none
  | n + 1, x4 => if (31 : Int32) ≤ x4 then (some (.inr ())) else (b1 (f_X10_has S M x3 x4) (fun v10 => if v10 = 0 then (lf_X10_standsOn_42 S M a0 x1 x2 x3 n (x4 + 1)) else (gd (gO S 10 a0) (b1 (f_X10_holderOf S M a0 x1 x4) (fun v12 => if v12 = x2 then (b1 (f_X10_foundYes S M a0 x2 x4) (fun v15 => b1 (f_X10_foundYes S M a0 x1 x4) (fun v16 => if v15 = v16 then (some (.inl 1)) else (lf_X10_standsOn_42 S M a0 x1 x2 x3 n (x4 + 1))))) else (lf_X10_standsOn_42 S M a0 x1 x2 x3 n (x4 + 1)))))))
set_option maxHeartbeats 4000000 in
set_option maxRecDepth 100000 in
theorem lc_X10_standsOn_42 {G : fw_G} {p : Program} {l : Launch} {e : Env} {s : State} {m : MethodId} {args : Array Value} {below : List Frame} {meth : Method} {c : Code} {S : List fw_Sh} {o : fw_O} {M : fw_Mem} {a0 : Nat} {x1 : Int32} {x2 : Int32} {x3 : Int32} (C : fw_C G RX10 cX10_standsOn 5 p s m args c) (hr : meth.sig.returnType = (some .boolean)) (hlk : meth.locks = false) (hl : l.stackTraces = false) (ht : ∀ x ∈ c.exceptionTable.toList, False) :
    ∀ {n : Nat} {x4 : Int32} {r : (Int32 ⊕ (Unit))} (h : lf_X10_standsOn_42 S M a0 x1 x2 x3 n x4 = some r) (kx : ∀ d, r = .inr d → fw_W G p l e (fw_rm 9 (fw_mcO o) (fw_msO o)) s m args below meth c 5 (fw_Z G below args s (fw_mcO o) (fw_msO o) o) 0 0 94 [] [] S M) (hret : ∀ t, r = .inl t → o = (.inl (some (.int t)), S, M)), fw_W G p l e (fw_rm 9 (fw_mcO o) (fw_msO o)) s m args below meth c 5 (fw_Z G below args s (fw_mcO o) (fw_msO o) o) 0 0 42 [(0, .ref a0), (1, .int x1), (2, .int x2), (3, .int x3), (4, .int x4)] [] S M := by
  intro n
  induction n with
  | zero =>
    intro x4 r h
    exact nomatch (show (none : Option (Int32 ⊕ (Unit))) = some r from h)
  | succ n ih =>
    intro x4 r h kx hret
    rw [lf_X10_standsOn_42.eq_2] at h
    refine fw_iload C 4 dX10_standsOn_42 rfl ?_
    refine fw_bipush C 31 dX10_standsOn_44 rfl ?_
    refine fw_icmp_ge C 94 dX10_standsOn_46 (by decide) (fun c9 => ?_) (fun c9 => ?_)
    · replace h := (if_pos c9).symm.trans h
      refine fw_sub [] rfl ?_
      exact kx _ (Option.some.inj h).symm
    · replace h := (if_neg c9).symm.trans h
      refine fw_iload_n C 3 dX10_standsOn_49 rfl rfl ?_
      refine fw_iload C 4 dX10_standsOn_50 rfl ?_
      obtain ⟨v10, e10, h⟩ := b1_some h
      refine fw_callS [_, _] C (c_X10_has hl e10) cal_X10_has wm_X10_98 wt_yX10_has rfl (Nat.le_of_ble_eq_true rfl) ⟨Nat.le_of_ble_eq_true rfl, Nat.le_of_ble_eq_true rfl⟩ ⟨Nat.zero_le _, Nat.zero_le _⟩ dX10_standsOn_52 ?_
      refine fw_if_eq C 88 dX10_standsOn_55 (by decide) (fun c11 => ?_) (fun c11 => ?_)
      · replace h := (if_pos c11).symm.trans h
        refine fw_iinc C _ 4 [(4, _), (0, _), (1, _), (2, _), (3, _)] dX10_standsOn_88 rfl rfl (Nat.le_of_ble_eq_true rfl) rfl ?_
        refine fw_goto C 42 dX10_standsOn_91 (by decide) ?_
        refine fw_sub [1, 2, 3, 4, 0] rfl ?_
        exact ih h kx hret
      · replace h := (if_neg c11).symm.trans h
        refine fw_aload_n C 0 dX10_standsOn_58 rfl rfl ?_
        refine fw_iload_n C 1 dX10_standsOn_59 rfl rfl ?_
        refine fw_iload C 4 dX10_standsOn_60 rfl ?_
        obtain ⟨g13, h⟩ := gd_some h
        obtain ⟨v12, e12, h⟩ := b1_some h
        refine fw_callV (ci := 10) [_, _] C (c_X10_holderOf hl e12) cal_X10_holderOf wm_X10_140 wi_yX10_holderOf wsl_yX10_holderOf (Nat.le_of_ble_eq_true rfl) rfl (gO_of g13) rfl (Nat.le_of_ble_eq_true rfl) ⟨Nat.le_of_ble_eq_true rfl, Nat.le_of_ble_eq_true rfl⟩ ⟨Nat.zero_le _, Nat.zero_le _⟩ dX10_standsOn_62 ?_
        refine fw_iload_n C 2 dX10_standsOn_65 rfl rfl ?_
        refine fw_icmp_ne C 88 dX10_standsOn_66 (by decide) (fun c14 => ?_) (fun c14 => ?_)
        · replace h := (if_neg c14).symm.trans h
          refine fw_iinc C _ 4 [(4, _), (0, _), (1, _), (2, _), (3, _)] dX10_standsOn_88 rfl rfl (Nat.le_of_ble_eq_true rfl) rfl ?_
          refine fw_goto C 42 dX10_standsOn_91 (by decide) ?_
          refine fw_sub [1, 2, 3, 4, 0] rfl ?_
          exact ih h kx hret
        · replace h := (if_pos c14).symm.trans h
          refine fw_aload_n C 0 dX10_standsOn_69 rfl rfl ?_
          refine fw_iload_n C 2 dX10_standsOn_70 rfl rfl ?_
          refine fw_iload C 4 dX10_standsOn_71 rfl ?_
          obtain ⟨v15, e15, h⟩ := b1_some h
          refine fw_callV (ci := 10) [_, _] C (c_X10_foundYes hl e15) cal_X10_foundYes wm_X10_128 wi_yX10_foundYes wsl_yX10_foundYes (Nat.le_of_ble_eq_true rfl) rfl (gO_of g13) rfl (Nat.le_of_ble_eq_true rfl) ⟨Nat.le_of_ble_eq_true rfl, Nat.le_of_ble_eq_true rfl⟩ ⟨Nat.zero_le _, Nat.zero_le _⟩ dX10_standsOn_73 ?_
          refine fw_aload_n C 0 dX10_standsOn_76 rfl rfl ?_
          refine fw_iload_n C 1 dX10_standsOn_77 rfl rfl ?_
          refine fw_iload C 4 dX10_standsOn_78 rfl ?_
          obtain ⟨v16, e16, h⟩ := b1_some h
          refine fw_callV (ci := 10) [_, _] C (c_X10_foundYes hl e16) cal_X10_foundYes wm_X10_128 wi_yX10_foundYes wsl_yX10_foundYes (Nat.le_of_ble_eq_true rfl) rfl (gO_of g13) rfl (Nat.le_of_ble_eq_true rfl) ⟨Nat.le_of_ble_eq_true rfl, Nat.le_of_ble_eq_true rfl⟩ ⟨Nat.zero_le _, Nat.zero_le _⟩ dX10_standsOn_80 ?_
          refine fw_icmp_ne C 88 dX10_standsOn_83 (by decide) (fun c17 => ?_) (fun c17 => ?_)
          · replace h := (if_neg c17).symm.trans h
            refine fw_iinc C _ 4 [(4, _), (0, _), (1, _), (2, _), (3, _)] dX10_standsOn_88 rfl rfl (Nat.le_of_ble_eq_true rfl) rfl ?_
            refine fw_goto C 42 dX10_standsOn_91 (by decide) ?_
            refine fw_sub [1, 2, 3, 4, 0] rfl ?_
            exact ih h kx hret
          · replace h := (if_pos c17).symm.trans h
            refine fw_iconst C 1 dX10_standsOn_86 rfl ?_
            have ho := hret _ (Option.some.inj h).symm
            subst ho
            exact fw_zret C hr (Or.inr rfl) hlk dX10_standsOn_87
set_option maxRecDepth 100000 in
def f_X10_standsOn (S : List fw_Sh) (M : fw_Mem) (a0 : Nat) (x1 : Int32) (x2 : Int32) : Option Int32 := if x2 = x1 then (some 0) else (gd (gO S 10 a0) (b1 (f_X10_isJudged S M a0 x1) (fun v2 => if v2 = 0 then (some 0) else (b1 (f_X10_isReversed S M a0 x1) (fun v5 => if v5 = 0 then (b1 (f_X10_of S M a0 x1 9) (fun v7 => b1 (f_X10_of S M a0 x1 10) (fun v8 => b1 (lf_X10_standsOn_42 S M a0 x1 x2 (v7 ||| v8) 20000 0) (fun l18 => bl l18 (fun t18 => some t18) (fun d18 => some 0))))) else (some 0))))))
set_option maxHeartbeats 4000000 in
set_option maxRecDepth 100000 in
theorem c_X10_standsOn {l : Launch} {G : fw_G} {S : List fw_Sh} {M : fw_Mem} {a0 : Nat} {x1 : Int32} {x2 : Int32} {r : Int32} (hl : l.stackTraces = false) (h : f_X10_standsOn S M a0 x1 x2 = some r) : fw_M l G yX10_standsOn (.code yX10_standsOn cX10_standsOn 5 (some .boolean)) 9 (fw_mcO (.inl (some (.int r)), S, M)) (fw_msO (.inl (some (.int r)), S, M)) S M [.ref a0, .int x1, .int x2] (.inl (some (.int r)), S, M) := by
  refine fw_of [(0, .ref a0), (1, .int x1), (2, .int x2)] (by decide) (Nat.le_of_ble_eq_true rfl) rfl ?_
  intro p e s m args below meth c C hr hlk hnm ht _
  unfold f_X10_standsOn at h
  refine fw_iload_n C 2 dX10_standsOn_0 rfl rfl ?_
  refine fw_iload_n C 1 dX10_standsOn_1 rfl rfl ?_
  refine fw_icmp_eq C 21 dX10_standsOn_2 (by decide) (fun c1 => ?_) (fun c1 => ?_)
  · replace h := (if_pos c1).symm.trans h
    refine fw_iconst C 0 dX10_standsOn_21 rfl ?_
    obtain rfl := Option.some.inj h
    exact fw_zret C hr (Or.inl rfl) hlk dX10_standsOn_22
  · replace h := (if_neg c1).symm.trans h
    refine fw_aload_n C 0 dX10_standsOn_5 rfl rfl ?_
    refine fw_iload_n C 1 dX10_standsOn_6 rfl rfl ?_
    obtain ⟨g3, h⟩ := gd_some h
    obtain ⟨v2, e2, h⟩ := b1_some h
    refine fw_callV (ci := 10) [_] C (c_X10_isJudged hl e2) cal_X10_isJudged wm_X10_69 wi_yX10_isJudged wsl_yX10_isJudged (Nat.le_of_ble_eq_true rfl) rfl (gO_of g3) rfl (Nat.le_of_ble_eq_true rfl) ⟨Nat.le_of_ble_eq_true rfl, Nat.le_of_ble_eq_true rfl⟩ ⟨Nat.zero_le _, Nat.zero_le _⟩ dX10_standsOn_7 ?_
    refine fw_if_eq C 21 dX10_standsOn_10 (by decide) (fun c4 => ?_) (fun c4 => ?_)
    · replace h := (if_pos c4).symm.trans h
      refine fw_iconst C 0 dX10_standsOn_21 rfl ?_
      obtain rfl := Option.some.inj h
      exact fw_zret C hr (Or.inl rfl) hlk dX10_standsOn_22
    · replace h := (if_neg c4).symm.trans h
      refine fw_aload_n C 0 dX10_standsOn_13 rfl rfl ?_
      refine fw_iload_n C 1 dX10_standsOn_14 rfl rfl ?_
      obtain ⟨v5, e5, h⟩ := b1_some h
      refine fw_callV (ci := 10) [_] C (c_X10_isReversed hl e5) cal_X10_isReversed wm_X10_86 wi_yX10_isReversed wsl_yX10_isReversed (Nat.le_of_ble_eq_true rfl) rfl (gO_of g3) rfl (Nat.le_of_ble_eq_true rfl) ⟨Nat.le_of_ble_eq_true rfl, Nat.le_of_ble_eq_true rfl⟩ ⟨Nat.zero_le _, Nat.zero_le _⟩ dX10_standsOn_15 ?_
      refine fw_if_eq C 23 dX10_standsOn_18 (by decide) (fun c6 => ?_) (fun c6 => ?_)
      · replace h := (if_pos c6).symm.trans h
        refine fw_aload_n C 0 dX10_standsOn_23 rfl rfl ?_
        refine fw_iload_n C 1 dX10_standsOn_24 rfl rfl ?_
        refine fw_bipush C 9 dX10_standsOn_25 rfl ?_
        obtain ⟨v7, e7, h⟩ := b1_some h
        refine fw_callV (ci := 10) [_, _] C (c_X10_of hl e7) cal_X10_of wm_X10_65 wi_yX10_of wsl_yX10_of (Nat.le_of_ble_eq_true rfl) rfl (gO_of g3) rfl (Nat.le_of_ble_eq_true rfl) ⟨Nat.le_of_ble_eq_true rfl, Nat.le_of_ble_eq_true rfl⟩ ⟨Nat.zero_le _, Nat.zero_le _⟩ dX10_standsOn_27 ?_
        refine fw_aload_n C 0 dX10_standsOn_30 rfl rfl ?_
        refine fw_iload_n C 1 dX10_standsOn_31 rfl rfl ?_
        refine fw_bipush C 10 dX10_standsOn_32 rfl ?_
        obtain ⟨v8, e8, h⟩ := b1_some h
        refine fw_callV (ci := 10) [_, _] C (c_X10_of hl e8) cal_X10_of wm_X10_65 wi_yX10_of wsl_yX10_of (Nat.le_of_ble_eq_true rfl) rfl (gO_of g3) rfl (Nat.le_of_ble_eq_true rfl) ⟨Nat.le_of_ble_eq_true rfl, Nat.le_of_ble_eq_true rfl⟩ ⟨Nat.zero_le _, Nat.zero_le _⟩ dX10_standsOn_34 ?_
        refine fw_ior C dX10_standsOn_37 ?_
        refine fw_istore_n C [(3, _), (0, _), (1, _), (2, _)] dX10_standsOn_38 rfl (Nat.le_of_ble_eq_true rfl) rfl ?_
        refine fw_iconst C 0 dX10_standsOn_39 rfl ?_
        refine fw_istore C [(4, _), (3, _), (0, _), (1, _), (2, _)] dX10_standsOn_40 (Nat.le_of_ble_eq_true rfl) rfl ?_
        refine fw_sub [2, 3, 4, 1, 0] rfl ?_
        obtain ⟨l18, e18, h⟩ := b1_some h
        rcases l18 with t18 | d18
        · obtain rfl := Option.some.inj (bl_l h)
          exact lc_X10_standsOn_42 C hr hlk hl ht e18 (fun d hd => nomatch hd) (fun t ht => by cases ht; rfl)
        replace h := bl_r h
        refine lc_X10_standsOn_42 C hr hlk hl ht e18 (fun d hd => ?_) (fun t ht => nomatch ht)
        cases hd
        refine fw_iconst C 0 dX10_standsOn_94 rfl ?_
        obtain rfl := Option.some.inj h
        exact fw_zret C hr (Or.inl rfl) hlk dX10_standsOn_95
      · replace h := (if_neg c6).symm.trans h
        refine fw_iconst C 0 dX10_standsOn_21 rfl ?_
        obtain rfl := Option.some.inj h
        exact fw_zret C hr (Or.inl rfl) hlk dX10_standsOn_22
set_option maxRecDepth 100000 in
def lf_X10_clashOf_83 (S : List fw_Sh) (M : fw_Mem) (x4 : Int32) : Nat → Int32 → Option (Int32 ⊕ (Unit))
  | 0, _ => none
  | n + 1, x5 => if (31 : Int32) ≤ x5 then (some (.inr ())) else (b1 (f_X10_has S M x4 x5) (fun v16 => if v16 = 0 then (lf_X10_clashOf_83 S M x4 n (x5 + 1)) else (some (.inl x5))))
set_option maxHeartbeats 4000000 in
set_option maxRecDepth 100000 in
theorem lc_X10_clashOf_83 {G : fw_G} {p : Program} {l : Launch} {e : Env} {s : State} {m : MethodId} {args : Array Value} {below : List Frame} {meth : Method} {c : Code} {S : List fw_Sh} {o : fw_O} {M : fw_Mem} {x4 : Int32} (C : fw_C G RX10 cX10_clashOf 6 p s m args c) (hr : meth.sig.returnType = (some .int)) (hlk : meth.locks = false) (hl : l.stackTraces = false) (ht : ∀ x ∈ c.exceptionTable.toList, False) :
    ∀ {n : Nat} {x5 : Int32} {r : (Int32 ⊕ (Unit))} (h : lf_X10_clashOf_83 S M x4 n x5 = some r) (kx : ∀ d, r = .inr d → fw_W G p l e (fw_rm 7 (fw_mcO o) (fw_msO o)) s m args below meth c 6 (fw_Z G below args s (fw_mcO o) (fw_msO o) o) 0 0 109 [] [] S M) (hret : ∀ t, r = .inl t → o = (.inl (some (.int t)), S, M)), fw_W G p l e (fw_rm 7 (fw_mcO o) (fw_msO o)) s m args below meth c 6 (fw_Z G below args s (fw_mcO o) (fw_msO o) o) 0 0 83 [(4, .int x4), (5, .int x5)] [] S M := by
  intro n
  induction n with
  | zero =>
    intro x5 r h
    exact nomatch (show (none : Option (Int32 ⊕ (Unit))) = some r from h)
  | succ n ih =>
    intro x5 r h kx hret
    rw [lf_X10_clashOf_83.eq_2] at h
    refine fw_iload C 1 dX10_clashOf_83 rfl ?_
    refine fw_bipush C 31 dX10_clashOf_85 rfl ?_
    refine fw_icmp_ge C 109 dX10_clashOf_87 (by decide) (fun c15 => ?_) (fun c15 => ?_)
    · replace h := (if_pos c15).symm.trans h
      refine fw_sub [] rfl ?_
      exact kx _ (Option.some.inj h).symm
    · replace h := (if_neg c15).symm.trans h
      refine fw_iload C 0 dX10_clashOf_90 rfl ?_
      refine fw_iload C 1 dX10_clashOf_92 rfl ?_
      obtain ⟨v16, e16, h⟩ := b1_some h
      refine fw_callS [_, _] C (c_X10_has hl e16) cal_X10_has wm_X10_98 wt_yX10_has rfl (Nat.le_of_ble_eq_true rfl) ⟨Nat.le_of_ble_eq_true rfl, Nat.le_of_ble_eq_true rfl⟩ ⟨Nat.zero_le _, Nat.zero_le _⟩ dX10_clashOf_94 ?_
      refine fw_if_eq C 103 dX10_clashOf_97 (by decide) (fun c17 => ?_) (fun c17 => ?_)
      · replace h := (if_pos c17).symm.trans h
        refine fw_iinc C _ 1 [(5, _), (4, _)] dX10_clashOf_103 rfl rfl (Nat.le_of_ble_eq_true rfl) rfl ?_
        refine fw_goto C 83 dX10_clashOf_106 (by decide) ?_
        refine fw_sub [1, 0] rfl ?_
        exact ih h kx hret
      · replace h := (if_neg c17).symm.trans h
        refine fw_iload C 1 dX10_clashOf_100 rfl ?_
        have ho := hret _ (Option.some.inj h).symm
        subst ho
        exact fw_iret C hr hlk dX10_clashOf_102
set_option maxRecDepth 100000 in
def f_X10_clashOf (S : List fw_Sh) (M : fw_Mem) (a0 : Nat) (x1 : Int32) (x2 : Int32) : Option Int32 := gd (gO S 10 a0) (gd (gN (M a0 7)) (gd (gA S 0 ((M a0 7).toNatClampNeg) ((2 : Int32) * x1)) (gd (gA S 0 ((M a0 7).toNatClampNeg) (((2 : Int32) * x1) + 1)) (gd (gA S 0 ((M a0 7).toNatClampNeg) ((2 : Int32) * x2)) (gd (gA S 0 ((M a0 7).toNatClampNeg) (((2 : Int32) * x2) + 1)) (bm (((M ((M a0 7).toNatClampNeg) ((2 : Int32) * x1).toNatClampNeg) ||| (M ((M a0 7).toNatClampNeg) (((2 : Int32) * x1) + 1).toNatClampNeg)) &&& ((M ((M a0 7).toNatClampNeg) ((2 : Int32) * x2).toNatClampNeg) ||| (M ((M a0 7).toNatClampNeg) (((2 : Int32) * x2) + 1).toNatClampNeg))) (fun y7 => b1 (f_X10_settledOf S M a0 x1) (fun v8 => b1 (f_X10_settledOf S M a0 x2) (fun v9 => b1 (f_X10_of S M a0 x1 9) (fun v10 => b1 (f_X10_of S M a0 x2 9) (fun v11 => bm ((v8 &&& v9) &&& (v10 ^^^ v11)) (fun y12 => if y7 = 0 then (some (-1)) else (if x1 = x2 then (some (-1)) else (b1 (lf_X10_clashOf_83 S M y12 20000 0) (fun l18 => bl l18 (fun t18 => some t18) (fun d18 => some (-1)))))))))))))))))
set_option maxHeartbeats 4000000 in
set_option maxRecDepth 100000 in
theorem c_X10_clashOf {l : Launch} {G : fw_G} {S : List fw_Sh} {M : fw_Mem} {a0 : Nat} {x1 : Int32} {x2 : Int32} {r : Int32} (hl : l.stackTraces = false) (h : f_X10_clashOf S M a0 x1 x2 = some r) : fw_M l G yX10_clashOf (.code yX10_clashOf cX10_clashOf 6 (some .int)) 7 (fw_mcO (.inl (some (.int r)), S, M)) (fw_msO (.inl (some (.int r)), S, M)) S M [.ref a0, .int x1, .int x2] (.inl (some (.int r)), S, M) := by
  refine fw_of [(0, .ref a0), (1, .int x1), (2, .int x2)] (by decide) (Nat.le_of_ble_eq_true rfl) rfl ?_
  intro p e s m args below meth c C hr hlk hnm ht _
  unfold f_X10_clashOf at h
  refine fw_aload_n C 0 dX10_clashOf_0 rfl rfl ?_
  obtain ⟨g1, h⟩ := gd_some h
  obtain ⟨g2, h⟩ := gd_some h
  refine fw_getR C 10 7 (Nat.le_of_ble_eq_true rfl) (Nat.le_of_ble_eq_true rfl) wf_X10_22 rfl (gO_of g1) (gN_of g2) dX10_clashOf_1 ?_
  refine fw_iconst C 2 dX10_clashOf_4 rfl ?_
  refine fw_iload_n C 1 dX10_clashOf_5 rfl rfl ?_
  refine fw_imul C dX10_clashOf_6 ?_
  obtain ⟨g3, h⟩ := gd_some h
  refine fw_iald C (gA_of g3) dX10_clashOf_7 ?_
  refine fw_aload_n C 0 dX10_clashOf_8 rfl rfl ?_
  refine fw_getR C 10 7 (Nat.le_of_ble_eq_true rfl) (Nat.le_of_ble_eq_true rfl) wf_X10_22 rfl (gO_of g1) (gN_of g2) dX10_clashOf_9 ?_
  refine fw_iconst C 2 dX10_clashOf_12 rfl ?_
  refine fw_iload_n C 1 dX10_clashOf_13 rfl rfl ?_
  refine fw_imul C dX10_clashOf_14 ?_
  refine fw_iconst C 1 dX10_clashOf_15 rfl ?_
  refine fw_iadd C dX10_clashOf_16 ?_
  obtain ⟨g4, h⟩ := gd_some h
  refine fw_iald C (gA_of g4) dX10_clashOf_17 ?_
  refine fw_ior C dX10_clashOf_18 ?_
  refine fw_aload_n C 0 dX10_clashOf_19 rfl rfl ?_
  refine fw_getR C 10 7 (Nat.le_of_ble_eq_true rfl) (Nat.le_of_ble_eq_true rfl) wf_X10_22 rfl (gO_of g1) (gN_of g2) dX10_clashOf_20 ?_
  refine fw_iconst C 2 dX10_clashOf_23 rfl ?_
  refine fw_iload_n C 2 dX10_clashOf_24 rfl rfl ?_
  refine fw_imul C dX10_clashOf_25 ?_
  obtain ⟨g5, h⟩ := gd_some h
  refine fw_iald C (gA_of g5) dX10_clashOf_26 ?_
  refine fw_aload_n C 0 dX10_clashOf_27 rfl rfl ?_
  refine fw_getR C 10 7 (Nat.le_of_ble_eq_true rfl) (Nat.le_of_ble_eq_true rfl) wf_X10_22 rfl (gO_of g1) (gN_of g2) dX10_clashOf_28 ?_
  refine fw_iconst C 2 dX10_clashOf_31 rfl ?_
  refine fw_iload_n C 2 dX10_clashOf_32 rfl rfl ?_
  refine fw_imul C dX10_clashOf_33 ?_
  refine fw_iconst C 1 dX10_clashOf_34 rfl ?_
  refine fw_iadd C dX10_clashOf_35 ?_
  obtain ⟨g6, h⟩ := gd_some h
  refine fw_iald C (gA_of g6) dX10_clashOf_36 ?_
  refine fw_ior C dX10_clashOf_37 ?_
  refine fw_iand C dX10_clashOf_38 ?_
  refine fw_bi h (fun y7 h => ?_)
  refine fw_istore_n C [(3, _), (0, _), (1, _), (2, _)] dX10_clashOf_39 rfl (Nat.le_of_ble_eq_true rfl) rfl ?_
  refine fw_aload_n C 1 dX10_clashOf_40 rfl rfl ?_
  refine fw_iload_n C 2 dX10_clashOf_41 rfl rfl ?_
  obtain ⟨v8, e8, h⟩ := b1_some h
  refine fw_callV (ci := 10) [_] C (c_X10_settledOf hl e8) cal_X10_settledOf wm_X10_125 wi_yX10_settledOf wsl_yX10_settledOf (Nat.le_of_ble_eq_true rfl) rfl (gO_of g1) rfl (Nat.le_of_ble_eq_true rfl) ⟨Nat.le_of_ble_eq_true rfl, Nat.le_of_ble_eq_true rfl⟩ ⟨Nat.zero_le _, Nat.zero_le _⟩ dX10_clashOf_42 ?_
  refine fw_aload_n C 1 dX10_clashOf_45 rfl rfl ?_
  refine fw_iload_n C 3 dX10_clashOf_46 rfl rfl ?_
  obtain ⟨v9, e9, h⟩ := b1_some h
  refine fw_callV (ci := 10) [_] C (c_X10_settledOf hl e9) cal_X10_settledOf wm_X10_125 wi_yX10_settledOf wsl_yX10_settledOf (Nat.le_of_ble_eq_true rfl) rfl (gO_of g1) rfl (Nat.le_of_ble_eq_true rfl) ⟨Nat.le_of_ble_eq_true rfl, Nat.le_of_ble_eq_true rfl⟩ ⟨Nat.zero_le _, Nat.zero_le _⟩ dX10_clashOf_47 ?_
  refine fw_iand C dX10_clashOf_50 ?_
  refine fw_aload_n C 1 dX10_clashOf_51 rfl rfl ?_
  refine fw_iload_n C 2 dX10_clashOf_52 rfl rfl ?_
  refine fw_bipush C 9 dX10_clashOf_53 rfl ?_
  obtain ⟨v10, e10, h⟩ := b1_some h
  refine fw_callV (ci := 10) [_, _] C (c_X10_of hl e10) cal_X10_of wm_X10_65 wi_yX10_of wsl_yX10_of (Nat.le_of_ble_eq_true rfl) rfl (gO_of g1) rfl (Nat.le_of_ble_eq_true rfl) ⟨Nat.le_of_ble_eq_true rfl, Nat.le_of_ble_eq_true rfl⟩ ⟨Nat.zero_le _, Nat.zero_le _⟩ dX10_clashOf_55 ?_
  refine fw_aload_n C 1 dX10_clashOf_58 rfl rfl ?_
  refine fw_iload_n C 3 dX10_clashOf_59 rfl rfl ?_
  refine fw_bipush C 9 dX10_clashOf_60 rfl ?_
  obtain ⟨v11, e11, h⟩ := b1_some h
  refine fw_callV (ci := 10) [_, _] C (c_X10_of hl e11) cal_X10_of wm_X10_65 wi_yX10_of wsl_yX10_of (Nat.le_of_ble_eq_true rfl) rfl (gO_of g1) rfl (Nat.le_of_ble_eq_true rfl) ⟨Nat.le_of_ble_eq_true rfl, Nat.le_of_ble_eq_true rfl⟩ ⟨Nat.zero_le _, Nat.zero_le _⟩ dX10_clashOf_62 ?_
  refine fw_ixor C dX10_clashOf_65 ?_
  refine fw_iand C dX10_clashOf_66 ?_
  refine fw_bi h (fun y12 h => ?_)
  refine fw_istore C [(4, _), (3, _), (0, _), (1, _), (2, _)] dX10_clashOf_67 (Nat.le_of_ble_eq_true rfl) rfl ?_
  refine fw_iload_n C 1 dX10_clashOf_69 rfl rfl ?_
  refine fw_if_eq C 78 dX10_clashOf_70 (by decide) (fun c13 => ?_) (fun c13 => ?_)
  · replace h := (if_pos c13).symm.trans h
    refine fw_iconst C (-1) dX10_clashOf_78 rfl ?_
    obtain rfl := Option.some.inj h
    exact fw_iret C hr hlk dX10_clashOf_79
  · replace h := (if_neg c13).symm.trans h
    refine fw_iload_n C 3 dX10_clashOf_73 rfl rfl ?_
    refine fw_iload_n C 4 dX10_clashOf_74 rfl rfl ?_
    refine fw_icmp_ne C 80 dX10_clashOf_75 (by decide) (fun c14 => ?_) (fun c14 => ?_)
    · replace h := (if_neg c14).symm.trans h
      refine fw_iconst C 0 dX10_clashOf_80 rfl ?_
      refine fw_istore C [(5, _), (4, _), (3, _), (0, _), (1, _), (2, _)] dX10_clashOf_81 (Nat.le_of_ble_eq_true rfl) rfl ?_
      refine fw_sub [1, 0] rfl ?_
      obtain ⟨l18, e18, h⟩ := b1_some h
      rcases l18 with t18 | d18
      · obtain rfl := Option.some.inj (bl_l h)
        exact lc_X10_clashOf_83 C hr hlk hl ht e18 (fun d hd => nomatch hd) (fun t ht => by cases ht; rfl)
      replace h := bl_r h
      refine lc_X10_clashOf_83 C hr hlk hl ht e18 (fun d hd => ?_) (fun t ht => nomatch ht)
      cases hd
      refine fw_iconst C (-1) dX10_clashOf_109 rfl ?_
      obtain rfl := Option.some.inj h
      exact fw_iret C hr hlk dX10_clashOf_110
    · replace h := (if_pos c14).symm.trans h
      refine fw_iconst C (-1) dX10_clashOf_78 rfl ?_
      obtain rfl := Option.some.inj h
      exact fw_iret C hr hlk dX10_clashOf_79
set_option maxRecDepth 100000 in
def lf_X10_judgedOnes_4 (S : List fw_Sh) (M : fw_Mem) (a0 : Nat) (x1 : Int32) : Nat → Int32 → Int32 → Option (Int32)
  | 0, _, _ => none
  | n + 1, x2, x3 => gd (gO S 10 a0) (b1 (f_X10_suits S M a0) (fun v1 => if v1 ≤ x3 then (some x2) else (b1 (f_X10_isJudged S M a0 x3) (fun v4 => if v4 = 0 then (lf_X10_judgedOnes_4 S M a0 x1 n x2 (x3 + 1)) else (if x1 = 0 then (lf_X10_judgedOnes_4 S M a0 x1 n (x2 + 1) (x3 + 1)) else (b1 (f_X10_isReversed S M a0 x3) (fun v7 => if v7 = 0 then (lf_X10_judgedOnes_4 S M a0 x1 n x2 (x3 + 1)) else (lf_X10_judgedOnes_4 S M a0 x1 n (x2 + 1) (x3 + 1)))))))))
set_option maxHeartbeats 4000000 in
set_option maxRecDepth 100000 in
theorem lc_X10_judgedOnes_4 {G : fw_G} {p : Program} {l : Launch} {e : Env} {s : State} {m : MethodId} {args : Array Value} {below : List Frame} {meth : Method} {c : Code} {S : List fw_Sh} {o : fw_O} {M : fw_Mem} {a0 : Nat} {x1 : Int32} (C : fw_C G RX10 cX10_judgedOnes 4 p s m args c) (hr : meth.sig.returnType = (some .int)) (hlk : meth.locks = false) (hl : l.stackTraces = false) (ht : ∀ x ∈ c.exceptionTable.toList, False) :
    ∀ {n : Nat} {x2 : Int32} {x3 : Int32} {r : (Int32)} (h : lf_X10_judgedOnes_4 S M a0 x1 n x2 x3 = some r) (kx : fw_W G p l e (fw_rm 3 (fw_mcO o) (fw_msO o)) s m args below meth c 4 (fw_Z G below args s (fw_mcO o) (fw_msO o) o) 0 0 41 [(2, .int r)] [] S M), fw_W G p l e (fw_rm 3 (fw_mcO o) (fw_msO o)) s m args below meth c 4 (fw_Z G below args s (fw_mcO o) (fw_msO o) o) 0 0 4 [(0, .ref a0), (1, .int x1), (2, .int x2), (3, .int x3)] [] S M := by
  intro n
  induction n with
  | zero =>
    intro x2 x3 r h
    exact nomatch (show (none : Option (Int32)) = some r from h)
  | succ n ih =>
    intro x2 x3 r h kx
    rw [lf_X10_judgedOnes_4.eq_2] at h
    refine fw_iload_n C 3 dX10_judgedOnes_4 rfl rfl ?_
    refine fw_aload_n C 0 dX10_judgedOnes_5 rfl rfl ?_
    obtain ⟨g2, h⟩ := gd_some h
    obtain ⟨v1, e1, h⟩ := b1_some h
    refine fw_callV (ci := 10) [] C (c_X10_suits hl e1) cal_X10_suits wm_X10_62 wi_yX10_suits wsl_yX10_suits (Nat.le_of_ble_eq_true rfl) rfl (gO_of g2) rfl (Nat.le_of_ble_eq_true rfl) ⟨Nat.le_of_ble_eq_true rfl, Nat.le_of_ble_eq_true rfl⟩ ⟨Nat.zero_le _, Nat.zero_le _⟩ dX10_judgedOnes_6 ?_
    refine fw_icmp_ge C 41 dX10_judgedOnes_9 (by decide) (fun c3 => ?_) (fun c3 => ?_)
    · replace h := (if_pos c3).symm.trans h
      obtain rfl := Option.some.inj h
      refine fw_sub [2] rfl ?_
      exact kx
    · replace h := (if_neg c3).symm.trans h
      refine fw_aload_n C 0 dX10_judgedOnes_12 rfl rfl ?_
      refine fw_iload_n C 3 dX10_judgedOnes_13 rfl rfl ?_
      obtain ⟨v4, e4, h⟩ := b1_some h
      refine fw_callV (ci := 10) [_] C (c_X10_isJudged hl e4) cal_X10_isJudged wm_X10_69 wi_yX10_isJudged wsl_yX10_isJudged (Nat.le_of_ble_eq_true rfl) rfl (gO_of g2) rfl (Nat.le_of_ble_eq_true rfl) ⟨Nat.le_of_ble_eq_true rfl, Nat.le_of_ble_eq_true rfl⟩ ⟨Nat.zero_le _, Nat.zero_le _⟩ dX10_judgedOnes_14 ?_
      refine fw_if_eq C 35 dX10_judgedOnes_17 (by decide) (fun c5 => ?_) (fun c5 => ?_)
      · replace h := (if_pos c5).symm.trans h
        refine fw_iinc C _ 3 [(3, _), (0, _), (1, _), (2, _)] dX10_judgedOnes_35 rfl rfl (Nat.le_of_ble_eq_true rfl) rfl ?_
        refine fw_goto C 4 dX10_judgedOnes_38 (by decide) ?_
        refine fw_sub [1, 2, 3, 0] rfl ?_
        exact ih h kx
      · replace h := (if_neg c5).symm.trans h
        refine fw_iload_n C 1 dX10_judgedOnes_20 rfl rfl ?_
        refine fw_if_eq C 32 dX10_judgedOnes_21 (by decide) (fun c6 => ?_) (fun c6 => ?_)
        · replace h := (if_pos c6).symm.trans h
          refine fw_iinc C _ 2 [(2, _), (0, _), (1, _), (3, _)] dX10_judgedOnes_32 rfl rfl (Nat.le_of_ble_eq_true rfl) rfl ?_
          refine fw_iinc C _ 3 [(3, _), (2, _), (0, _), (1, _)] dX10_judgedOnes_35 rfl rfl (Nat.le_of_ble_eq_true rfl) rfl ?_
          refine fw_goto C 4 dX10_judgedOnes_38 (by decide) ?_
          refine fw_sub [2, 3, 1, 0] rfl ?_
          exact ih h kx
        · replace h := (if_neg c6).symm.trans h
          refine fw_aload_n C 0 dX10_judgedOnes_24 rfl rfl ?_
          refine fw_iload_n C 3 dX10_judgedOnes_25 rfl rfl ?_
          obtain ⟨v7, e7, h⟩ := b1_some h
          refine fw_callV (ci := 10) [_] C (c_X10_isReversed hl e7) cal_X10_isReversed wm_X10_86 wi_yX10_isReversed wsl_yX10_isReversed (Nat.le_of_ble_eq_true rfl) rfl (gO_of g2) rfl (Nat.le_of_ble_eq_true rfl) ⟨Nat.le_of_ble_eq_true rfl, Nat.le_of_ble_eq_true rfl⟩ ⟨Nat.zero_le _, Nat.zero_le _⟩ dX10_judgedOnes_26 ?_
          refine fw_if_eq C 35 dX10_judgedOnes_29 (by decide) (fun c8 => ?_) (fun c8 => ?_)
          · replace h := (if_pos c8).symm.trans h
            refine fw_iinc C _ 3 [(3, _), (0, _), (1, _), (2, _)] dX10_judgedOnes_35 rfl rfl (Nat.le_of_ble_eq_true rfl) rfl ?_
            refine fw_goto C 4 dX10_judgedOnes_38 (by decide) ?_
            refine fw_sub [1, 2, 3, 0] rfl ?_
            exact ih h kx
          · replace h := (if_neg c8).symm.trans h
            refine fw_iinc C _ 2 [(2, _), (0, _), (1, _), (3, _)] dX10_judgedOnes_32 rfl rfl (Nat.le_of_ble_eq_true rfl) rfl ?_
            refine fw_iinc C _ 3 [(3, _), (2, _), (0, _), (1, _)] dX10_judgedOnes_35 rfl rfl (Nat.le_of_ble_eq_true rfl) rfl ?_
            refine fw_goto C 4 dX10_judgedOnes_38 (by decide) ?_
            refine fw_sub [2, 3, 1, 0] rfl ?_
            exact ih h kx
set_option maxRecDepth 100000 in
def f_X10_judgedOnes (S : List fw_Sh) (M : fw_Mem) (a0 : Nat) (x1 : Int32) : Option Int32 := b1 (lf_X10_judgedOnes_4 S M a0 x1 20000 0 0) (fun l9 => some l9)
set_option maxHeartbeats 4000000 in
set_option maxRecDepth 100000 in
theorem c_X10_judgedOnes {l : Launch} {G : fw_G} {S : List fw_Sh} {M : fw_Mem} {a0 : Nat} {x1 : Int32} {r : Int32} (hl : l.stackTraces = false) (h : f_X10_judgedOnes S M a0 x1 = some r) : fw_M l G yX10_judgedOnes (.code yX10_judgedOnes cX10_judgedOnes 4 (some .int)) 3 (fw_mcO (.inl (some (.int r)), S, M)) (fw_msO (.inl (some (.int r)), S, M)) S M [.ref a0, .int x1] (.inl (some (.int r)), S, M) := by
  refine fw_of [(0, .ref a0), (1, .int x1)] (by decide) (Nat.le_of_ble_eq_true rfl) rfl ?_
  intro p e s m args below meth c C hr hlk hnm ht _
  unfold f_X10_judgedOnes at h
  refine fw_iconst C 0 dX10_judgedOnes_0 rfl ?_
  refine fw_istore_n C [(2, _), (0, _), (1, _)] dX10_judgedOnes_1 rfl (Nat.le_of_ble_eq_true rfl) rfl ?_
  refine fw_iconst C 0 dX10_judgedOnes_2 rfl ?_
  refine fw_istore_n C [(3, _), (2, _), (0, _), (1, _)] dX10_judgedOnes_3 rfl (Nat.le_of_ble_eq_true rfl) rfl ?_
  refine fw_sub [2, 3, 1, 0] rfl ?_
  obtain ⟨l9, e9, h⟩ := b1_some h
  refine lc_X10_judgedOnes_4 C hr hlk hl ht e9 ?_
  refine fw_iload_n C 0 dX10_judgedOnes_41 rfl rfl ?_
  obtain rfl := Option.some.inj h
  exact fw_iret C hr hlk dX10_judgedOnes_42
set_option maxRecDepth 100000 in
def lf_X10_clashes_20 (S : List fw_Sh) (M : fw_Mem) (a0 : Nat) (x2 : Int32) : Nat → Int32 → Int32 → Option (Int32)
  | 0, _, _ => none
  | n + 1, x1, x3 => gd (gO S 10 a0) (b1 (f_X10_suits S M a0) (fun v6 => if v6 ≤ x3 then (some x1) else (b1 (f_X10_clashOf S M a0 x2 x3) (fun v9 => if v9 = (-1) then (lf_X10_clashes_20 S M a0 x2 n x1 (x3 + 1)) else (lf_X10_clashes_20 S M a0 x2 n (x1 + 1) (x3 + 1))))))
set_option maxHeartbeats 4000000 in
set_option maxRecDepth 100000 in
theorem lc_X10_clashes_20 {G : fw_G} {p : Program} {l : Launch} {e : Env} {s : State} {m : MethodId} {args : Array Value} {below : List Frame} {meth : Method} {c : Code} {S : List fw_Sh} {o : fw_O} {M : fw_Mem} {a0 : Nat} {x2 : Int32} (C : fw_C G RX10 cX10_clashes 4 p s m args c) (hr : meth.sig.returnType = (some .int)) (hlk : meth.locks = false) (hl : l.stackTraces = false) (ht : ∀ x ∈ c.exceptionTable.toList, False) :
    ∀ {n : Nat} {x1 : Int32} {x3 : Int32} {r : (Int32)} (h : lf_X10_clashes_20 S M a0 x2 n x1 x3 = some r) (kx : fw_W G p l e (fw_rm 8 (fw_mcO o) (fw_msO o)) s m args below meth c 4 (fw_Z G below args s (fw_mcO o) (fw_msO o) o) 0 0 47 [(0, .ref a0), (1, .int r), (2, .int x2)] [] S M), fw_W G p l e (fw_rm 8 (fw_mcO o) (fw_msO o)) s m args below meth c 4 (fw_Z G below args s (fw_mcO o) (fw_msO o) o) 0 0 20 [(0, .ref a0), (1, .int x1), (2, .int x2), (3, .int x3)] [] S M := by
  intro n
  induction n with
  | zero =>
    intro x1 x3 r h
    exact nomatch (show (none : Option (Int32)) = some r from h)
  | succ n ih =>
    intro x1 x3 r h kx
    rw [lf_X10_clashes_20.eq_2] at h
    refine fw_iload_n C 3 dX10_clashes_20 rfl rfl ?_
    refine fw_aload_n C 0 dX10_clashes_21 rfl rfl ?_
    obtain ⟨g7, h⟩ := gd_some h
    obtain ⟨v6, e6, h⟩ := b1_some h
    refine fw_callV (ci := 10) [] C (c_X10_suits hl e6) cal_X10_suits wm_X10_62 wi_yX10_suits wsl_yX10_suits (Nat.le_of_ble_eq_true rfl) rfl (gO_of g7) rfl (Nat.le_of_ble_eq_true rfl) ⟨Nat.le_of_ble_eq_true rfl, Nat.le_of_ble_eq_true rfl⟩ ⟨Nat.zero_le _, Nat.zero_le _⟩ dX10_clashes_22 ?_
    refine fw_icmp_ge C 47 dX10_clashes_25 (by decide) (fun c8 => ?_) (fun c8 => ?_)
    · replace h := (if_pos c8).symm.trans h
      obtain rfl := Option.some.inj h
      refine fw_sub [0, 1, 2] rfl ?_
      exact kx
    · replace h := (if_neg c8).symm.trans h
      refine fw_aload_n C 0 dX10_clashes_28 rfl rfl ?_
      refine fw_iload_n C 2 dX10_clashes_29 rfl rfl ?_
      refine fw_iload_n C 3 dX10_clashes_30 rfl rfl ?_
      obtain ⟨v9, e9, h⟩ := b1_some h
      refine fw_callV (ci := 10) [_, _] C (c_X10_clashOf hl e9) cal_X10_clashOf wm_X10_155 wi_yX10_clashOf wsl_yX10_clashOf (Nat.le_of_ble_eq_true rfl) rfl (gO_of g7) rfl (Nat.le_of_ble_eq_true rfl) ⟨Nat.le_of_ble_eq_true rfl, Nat.le_of_ble_eq_true rfl⟩ ⟨Nat.zero_le _, Nat.zero_le _⟩ dX10_clashes_31 ?_
      refine fw_iconst C (-1) dX10_clashes_34 rfl ?_
      refine fw_icmp_eq C 41 dX10_clashes_35 (by decide) (fun c10 => ?_) (fun c10 => ?_)
      · replace h := (if_pos c10).symm.trans h
        refine fw_iinc C _ 3 [(3, _), (0, _), (1, _), (2, _)] dX10_clashes_41 rfl rfl (Nat.le_of_ble_eq_true rfl) rfl ?_
        refine fw_goto C 20 dX10_clashes_44 (by decide) ?_
        refine fw_sub [1, 2, 3, 0] rfl ?_
        exact ih h kx
      · replace h := (if_neg c10).symm.trans h
        refine fw_iinc C _ 1 [(1, _), (0, _), (2, _), (3, _)] dX10_clashes_38 rfl rfl (Nat.le_of_ble_eq_true rfl) rfl ?_
        refine fw_iinc C _ 3 [(3, _), (1, _), (0, _), (2, _)] dX10_clashes_41 rfl rfl (Nat.le_of_ble_eq_true rfl) rfl ?_
        refine fw_goto C 20 dX10_clashes_44 (by decide) ?_
        refine fw_sub [2, 1, 3, 0] rfl ?_
        exact ih h kx
set_option maxRecDepth 100000 in
def lf_X10_clashes_8 (S : List fw_Sh) (M : fw_Mem) (a0 : Nat) : Nat → Int32 → Int32 → Option (Int32)
  | 0, _, _ => none
  | n + 1, x1, x2 => gd (gO S 10 a0) (b1 (f_X10_suits S M a0) (fun v3 => if v3 ≤ x2 then (some x1) else (b1 (lf_X10_clashes_20 S M a0 x2 20000 x1 (x2 + 1)) (fun l11 => lf_X10_clashes_8 S M a0 n l11 (x2 + 1)))))
set_option maxHeartbeats 4000000 in
set_option maxRecDepth 100000 in
theorem lc_X10_clashes_8 {G : fw_G} {p : Program} {l : Launch} {e : Env} {s : State} {m : MethodId} {args : Array Value} {below : List Frame} {meth : Method} {c : Code} {S : List fw_Sh} {o : fw_O} {M : fw_Mem} {a0 : Nat} (C : fw_C G RX10 cX10_clashes 4 p s m args c) (hr : meth.sig.returnType = (some .int)) (hlk : meth.locks = false) (hl : l.stackTraces = false) (ht : ∀ x ∈ c.exceptionTable.toList, False) :
    ∀ {n : Nat} {x1 : Int32} {x2 : Int32} {r : (Int32)} (h : lf_X10_clashes_8 S M a0 n x1 x2 = some r) (kx : fw_W G p l e (fw_rm 8 (fw_mcO o) (fw_msO o)) s m args below meth c 4 (fw_Z G below args s (fw_mcO o) (fw_msO o) o) 0 0 53 [(1, .int r)] [] S M), fw_W G p l e (fw_rm 8 (fw_mcO o) (fw_msO o)) s m args below meth c 4 (fw_Z G below args s (fw_mcO o) (fw_msO o) o) 0 0 8 [(0, .ref a0), (1, .int x1), (2, .int x2)] [] S M := by
  intro n
  induction n with
  | zero =>
    intro x1 x2 r h
    exact nomatch (show (none : Option (Int32)) = some r from h)
  | succ n ih =>
    intro x1 x2 r h kx
    rw [lf_X10_clashes_8.eq_2] at h
    refine fw_iload_n C 2 dX10_clashes_8 rfl rfl ?_
    refine fw_aload_n C 0 dX10_clashes_9 rfl rfl ?_
    obtain ⟨g4, h⟩ := gd_some h
    obtain ⟨v3, e3, h⟩ := b1_some h
    refine fw_callV (ci := 10) [] C (c_X10_suits hl e3) cal_X10_suits wm_X10_62 wi_yX10_suits wsl_yX10_suits (Nat.le_of_ble_eq_true rfl) rfl (gO_of g4) rfl (Nat.le_of_ble_eq_true rfl) ⟨Nat.le_of_ble_eq_true rfl, Nat.le_of_ble_eq_true rfl⟩ ⟨Nat.zero_le _, Nat.zero_le _⟩ dX10_clashes_10 ?_
    refine fw_icmp_ge C 53 dX10_clashes_13 (by decide) (fun c5 => ?_) (fun c5 => ?_)
    · replace h := (if_pos c5).symm.trans h
      obtain rfl := Option.some.inj h
      refine fw_sub [1] rfl ?_
      exact kx
    · replace h := (if_neg c5).symm.trans h
      refine fw_iload_n C 2 dX10_clashes_16 rfl rfl ?_
      refine fw_iconst C 1 dX10_clashes_17 rfl ?_
      refine fw_iadd C dX10_clashes_18 ?_
      refine fw_istore_n C [(3, _), (0, _), (1, _), (2, _)] dX10_clashes_19 rfl (Nat.le_of_ble_eq_true rfl) rfl ?_
      refine fw_sub [1, 2, 3, 0] rfl ?_
      obtain ⟨l11, e11, h⟩ := b1_some h
      refine lc_X10_clashes_20 C hr hlk hl ht e11 ?_
      refine fw_iinc C _ 2 [(2, _), (0, _), (1, _)] dX10_clashes_47 rfl rfl (Nat.le_of_ble_eq_true rfl) rfl ?_
      refine fw_goto C 8 dX10_clashes_50 (by decide) ?_
      refine fw_sub [1, 2, 0] rfl ?_
      exact ih h kx
set_option maxRecDepth 100000 in
def f_X10_clashes (S : List fw_Sh) (M : fw_Mem) (a0 : Nat) : Option (Int32 × fw_Mem) := gd (gO S 10 a0) (b1 (f_X10_layBound S M a0) (fun M1 => b1 (lf_X10_clashes_8 S M1 a0 20000 0 0) (fun l12 => some (l12, M1))))
set_option maxHeartbeats 4000000 in
set_option maxRecDepth 100000 in
theorem c_X10_clashes {l : Launch} {G : fw_G} {S : List fw_Sh} {M : fw_Mem} {a0 : Nat} {r : (Int32 × fw_Mem)} (hl : l.stackTraces = false) (h : f_X10_clashes S M a0 = some r) : fw_M l G yX10_clashes (.code yX10_clashes cX10_clashes 4 (some .int)) 8 (fw_mcO (.inl (some (.int r.1)), S, r.2)) (fw_msO (.inl (some (.int r.1)), S, r.2)) S M [.ref a0] (.inl (some (.int r.1)), S, r.2) := by
  refine fw_of [(0, .ref a0)] (by decide) (Nat.le_of_ble_eq_true rfl) rfl ?_
  intro p e s m args below meth c C hr hlk hnm ht _
  unfold f_X10_clashes at h
  refine fw_aload_n C 0 dX10_clashes_0 rfl rfl ?_
  obtain ⟨g2, h⟩ := gd_some h
  obtain ⟨M1, e1, h⟩ := b1_some h
  refine fw_callV (ci := 10) [] C (c_X10_layBound hl e1) cal_X10_layBound wm_X10_152 wi_yX10_layBound wsl_yX10_layBound (Nat.le_of_ble_eq_true rfl) rfl (gO_of g2) rfl (Nat.le_of_ble_eq_true rfl) ⟨Nat.le_of_ble_eq_true rfl, Nat.le_of_ble_eq_true rfl⟩ ⟨Nat.zero_le _, Nat.zero_le _⟩ dX10_clashes_1 ?_
  refine fw_iconst C 0 dX10_clashes_4 rfl ?_
  refine fw_istore_n C [(1, _), (0, _)] dX10_clashes_5 rfl (Nat.le_of_ble_eq_true rfl) rfl ?_
  refine fw_iconst C 0 dX10_clashes_6 rfl ?_
  refine fw_istore_n C [(2, _), (1, _), (0, _)] dX10_clashes_7 rfl (Nat.le_of_ble_eq_true rfl) rfl ?_
  refine fw_sub [2, 1, 0] rfl ?_
  obtain ⟨l12, e12, h⟩ := b1_some h
  refine lc_X10_clashes_8 C hr hlk hl ht e12 ?_
  refine fw_iload_n C 0 dX10_clashes_53 rfl rfl ?_
  obtain rfl := Option.some.inj h
  exact fw_iret C hr hlk dX10_clashes_54
set_option maxRecDepth 100000 in
def f_X10_count (S : List fw_Sh) (M : fw_Mem) (a0 : Nat) (x1 : Int32) : Option (Int32 × fw_Mem) := gd (gO S 10 a0) (bm (fw_set M a0 6 0) (fun M2 => if x1 = 0 then (gd (gN (M2 a0 0)) (gd (gA S 0 ((M2 a0 0).toNatClampNeg) x1) (some ((M2 ((M2 a0 0).toNatClampNeg) x1.toNatClampNeg), M2)))) else (if x1 = 1 then (gd (gN (M2 a0 0)) (gd (gA S 0 ((M2 a0 0).toNatClampNeg) x1) (some ((M2 ((M2 a0 0).toNatClampNeg) x1.toNatClampNeg), M2)))) else (if x1 = 2 then (gd (gN (M2 a0 0)) (gd (gA S 0 ((M2 a0 0).toNatClampNeg) x1) (some ((M2 ((M2 a0 0).toNatClampNeg) x1.toNatClampNeg), M2)))) else (if x1 = 3 then (b1 (f_X10_judgedOnes S M2 a0 0) (fun v13 => some (v13, M2))) else (if x1 = 4 then (b1 (f_X10_judgedOnes S M2 a0 1) (fun v15 => some (v15, M2))) else (if x1 = 5 then (gd (gN (M2 a0 0)) (gd (gA S 0 ((M2 a0 0).toNatClampNeg) (((3 : Int32) + x1) - 5)) (some ((M2 ((M2 a0 0).toNatClampNeg) (((3 : Int32) + x1) - 5).toNatClampNeg), M2)))) else (if x1 = 6 then (gd (gN (M2 a0 0)) (gd (gA S 0 ((M2 a0 0).toNatClampNeg) (((3 : Int32) + x1) - 5)) (some ((M2 ((M2 a0 0).toNatClampNeg) (((3 : Int32) + x1) - 5).toNatClampNeg), M2)))) else (if x1 = 7 then (gd (gN (M2 a0 0)) (gd (gA S 0 ((M2 a0 0).toNatClampNeg) (((3 : Int32) + x1) - 5)) (some ((M2 ((M2 a0 0).toNatClampNeg) (((3 : Int32) + x1) - 5).toNatClampNeg), M2)))) else (if x1 = 8 then (some ((M2 a0 5), M2)) else (if x1 = 9 then (some ((M2 a0 15), M2)) else (if x1 = 10 then (b2 (f_X10_clashes S M2 a0) (fun v28 M28 => some (v28, M28))) else (b2 (f_X10_fail S M2 a0 1) (fun v29 M29 => some (v29, M29)))))))))))))))
set_option maxHeartbeats 4000000 in
set_option maxRecDepth 100000 in
theorem c_X10_count {l : Launch} {G : fw_G} {S : List fw_Sh} {M : fw_Mem} {a0 : Nat} {x1 : Int32} {r : (Int32 × fw_Mem)} (hl : l.stackTraces = false) (h : f_X10_count S M a0 x1 = some r) : fw_M l G yX10_count (.code yX10_count cX10_count 2 (some .int)) 9 (fw_mcO (.inl (some (.int r.1)), S, r.2)) (fw_msO (.inl (some (.int r.1)), S, r.2)) S M [.ref a0, .int x1] (.inl (some (.int r.1)), S, r.2) := by
  refine fw_of [(0, .ref a0), (1, .int x1)] (by decide) (Nat.le_of_ble_eq_true rfl) rfl ?_
  intro p e s m args below meth c C hr hlk hnm ht _
  unfold f_X10_count at h
  refine fw_aload_n C 0 dX10_count_0 rfl rfl ?_
  refine fw_iconst C 0 dX10_count_1 rfl ?_
  obtain ⟨g1, h⟩ := gd_some h
  refine fw_putI C 10 6 (Nat.le_of_ble_eq_true rfl) (Nat.le_of_ble_eq_true rfl) wf_X10_51 rfl rfl rfl rfl (gO_of g1) dX10_count_2 ?_
  refine fw_bm h (fun M2 h => ?_)
  refine fw_iload_n C 1 dX10_count_5 rfl rfl ?_
  by_cases c3 : x1 = 0
  · replace h := (if_pos c3).symm.trans h
    refine fw_tableIn C 0 64 dX10_count_6 c3 (by decide) (by decide) rfl (by decide) ?_
    refine fw_aload_n C 0 dX10_count_64 rfl rfl ?_
    obtain ⟨g4, h⟩ := gd_some h
    refine fw_getR C 10 0 (Nat.le_of_ble_eq_true rfl) (Nat.le_of_ble_eq_true rfl) wf_X10_9 rfl (gO_of g1) (gN_of g4) dX10_count_65 ?_
    refine fw_iload_n C 1 dX10_count_68 rfl rfl ?_
    obtain ⟨g5, h⟩ := gd_some h
    refine fw_iald C (gA_of g5) dX10_count_69 ?_
    obtain rfl := Option.some.inj h
    exact fw_iret C hr hlk dX10_count_70
  replace h := (if_neg c3).symm.trans h
  by_cases c6 : x1 = 1
  · replace h := (if_pos c6).symm.trans h
    refine fw_tableIn C 1 64 dX10_count_6 c6 (by decide) (by decide) rfl (by decide) ?_
    refine fw_aload_n C 0 dX10_count_64 rfl rfl ?_
    obtain ⟨g7, h⟩ := gd_some h
    refine fw_getR C 10 0 (Nat.le_of_ble_eq_true rfl) (Nat.le_of_ble_eq_true rfl) wf_X10_9 rfl (gO_of g1) (gN_of g7) dX10_count_65 ?_
    refine fw_iload_n C 1 dX10_count_68 rfl rfl ?_
    obtain ⟨g8, h⟩ := gd_some h
    refine fw_iald C (gA_of g8) dX10_count_69 ?_
    obtain rfl := Option.some.inj h
    exact fw_iret C hr hlk dX10_count_70
  replace h := (if_neg c6).symm.trans h
  by_cases c9 : x1 = 2
  · replace h := (if_pos c9).symm.trans h
    refine fw_tableIn C 2 64 dX10_count_6 c9 (by decide) (by decide) rfl (by decide) ?_
    refine fw_aload_n C 0 dX10_count_64 rfl rfl ?_
    obtain ⟨g10, h⟩ := gd_some h
    refine fw_getR C 10 0 (Nat.le_of_ble_eq_true rfl) (Nat.le_of_ble_eq_true rfl) wf_X10_9 rfl (gO_of g1) (gN_of g10) dX10_count_65 ?_
    refine fw_iload_n C 1 dX10_count_68 rfl rfl ?_
    obtain ⟨g11, h⟩ := gd_some h
    refine fw_iald C (gA_of g11) dX10_count_69 ?_
    obtain rfl := Option.some.inj h
    exact fw_iret C hr hlk dX10_count_70
  replace h := (if_neg c9).symm.trans h
  by_cases c12 : x1 = 3
  · replace h := (if_pos c12).symm.trans h
    refine fw_tableIn C 3 71 dX10_count_6 c12 (by decide) (by decide) rfl (by decide) ?_
    refine fw_aload_n C 0 dX10_count_71 rfl rfl ?_
    refine fw_iconst C 0 dX10_count_72 rfl ?_
    obtain ⟨v13, e13, h⟩ := b1_some h
    refine fw_callV (ci := 10) [_] C (c_X10_judgedOnes hl e13) cal_X10_judgedOnes wm_X10_158 wi_yX10_judgedOnes wsl_yX10_judgedOnes (Nat.le_of_ble_eq_true rfl) rfl (gO_of g1) rfl (Nat.le_of_ble_eq_true rfl) ⟨Nat.le_of_ble_eq_true rfl, Nat.le_of_ble_eq_true rfl⟩ ⟨Nat.zero_le _, Nat.zero_le _⟩ dX10_count_73 ?_
    obtain rfl := Option.some.inj h
    exact fw_iret C hr hlk dX10_count_76
  replace h := (if_neg c12).symm.trans h
  by_cases c14 : x1 = 4
  · replace h := (if_pos c14).symm.trans h
    refine fw_tableIn C 4 77 dX10_count_6 c14 (by decide) (by decide) rfl (by decide) ?_
    refine fw_aload_n C 0 dX10_count_77 rfl rfl ?_
    refine fw_iconst C 1 dX10_count_78 rfl ?_
    obtain ⟨v15, e15, h⟩ := b1_some h
    refine fw_callV (ci := 10) [_] C (c_X10_judgedOnes hl e15) cal_X10_judgedOnes wm_X10_158 wi_yX10_judgedOnes wsl_yX10_judgedOnes (Nat.le_of_ble_eq_true rfl) rfl (gO_of g1) rfl (Nat.le_of_ble_eq_true rfl) ⟨Nat.le_of_ble_eq_true rfl, Nat.le_of_ble_eq_true rfl⟩ ⟨Nat.zero_le _, Nat.zero_le _⟩ dX10_count_79 ?_
    obtain rfl := Option.some.inj h
    exact fw_iret C hr hlk dX10_count_82
  replace h := (if_neg c14).symm.trans h
  by_cases c16 : x1 = 5
  · replace h := (if_pos c16).symm.trans h
    refine fw_tableIn C 5 83 dX10_count_6 c16 (by decide) (by decide) rfl (by decide) ?_
    refine fw_aload_n C 0 dX10_count_83 rfl rfl ?_
    obtain ⟨g17, h⟩ := gd_some h
    refine fw_getR C 10 0 (Nat.le_of_ble_eq_true rfl) (Nat.le_of_ble_eq_true rfl) wf_X10_9 rfl (gO_of g1) (gN_of g17) dX10_count_84 ?_
    refine fw_iconst C 3 dX10_count_87 rfl ?_
    refine fw_iload_n C 1 dX10_count_88 rfl rfl ?_
    refine fw_iadd C dX10_count_89 ?_
    refine fw_iconst C 5 dX10_count_90 rfl ?_
    refine fw_isub C dX10_count_91 ?_
    obtain ⟨g18, h⟩ := gd_some h
    refine fw_iald C (gA_of g18) dX10_count_92 ?_
    obtain rfl := Option.some.inj h
    exact fw_iret C hr hlk dX10_count_93
  replace h := (if_neg c16).symm.trans h
  by_cases c19 : x1 = 6
  · replace h := (if_pos c19).symm.trans h
    refine fw_tableIn C 6 83 dX10_count_6 c19 (by decide) (by decide) rfl (by decide) ?_
    refine fw_aload_n C 0 dX10_count_83 rfl rfl ?_
    obtain ⟨g20, h⟩ := gd_some h
    refine fw_getR C 10 0 (Nat.le_of_ble_eq_true rfl) (Nat.le_of_ble_eq_true rfl) wf_X10_9 rfl (gO_of g1) (gN_of g20) dX10_count_84 ?_
    refine fw_iconst C 3 dX10_count_87 rfl ?_
    refine fw_iload_n C 1 dX10_count_88 rfl rfl ?_
    refine fw_iadd C dX10_count_89 ?_
    refine fw_iconst C 5 dX10_count_90 rfl ?_
    refine fw_isub C dX10_count_91 ?_
    obtain ⟨g21, h⟩ := gd_some h
    refine fw_iald C (gA_of g21) dX10_count_92 ?_
    obtain rfl := Option.some.inj h
    exact fw_iret C hr hlk dX10_count_93
  replace h := (if_neg c19).symm.trans h
  by_cases c22 : x1 = 7
  · replace h := (if_pos c22).symm.trans h
    refine fw_tableIn C 7 83 dX10_count_6 c22 (by decide) (by decide) rfl (by decide) ?_
    refine fw_aload_n C 0 dX10_count_83 rfl rfl ?_
    obtain ⟨g23, h⟩ := gd_some h
    refine fw_getR C 10 0 (Nat.le_of_ble_eq_true rfl) (Nat.le_of_ble_eq_true rfl) wf_X10_9 rfl (gO_of g1) (gN_of g23) dX10_count_84 ?_
    refine fw_iconst C 3 dX10_count_87 rfl ?_
    refine fw_iload_n C 1 dX10_count_88 rfl rfl ?_
    refine fw_iadd C dX10_count_89 ?_
    refine fw_iconst C 5 dX10_count_90 rfl ?_
    refine fw_isub C dX10_count_91 ?_
    obtain ⟨g24, h⟩ := gd_some h
    refine fw_iald C (gA_of g24) dX10_count_92 ?_
    obtain rfl := Option.some.inj h
    exact fw_iret C hr hlk dX10_count_93
  replace h := (if_neg c22).symm.trans h
  by_cases c25 : x1 = 8
  · replace h := (if_pos c25).symm.trans h
    refine fw_tableIn C 8 94 dX10_count_6 c25 (by decide) (by decide) rfl (by decide) ?_
    refine fw_aload_n C 0 dX10_count_94 rfl rfl ?_
    refine fw_getI C 10 5 (Nat.le_of_ble_eq_true rfl) (Nat.le_of_ble_eq_true rfl) wf_X10_162 rfl (gO_of g1) dX10_count_95 ?_
    obtain rfl := Option.some.inj h
    exact fw_iret C hr hlk dX10_count_98
  replace h := (if_neg c25).symm.trans h
  by_cases c26 : x1 = 9
  · replace h := (if_pos c26).symm.trans h
    refine fw_tableIn C 9 99 dX10_count_6 c26 (by decide) (by decide) rfl (by decide) ?_
    refine fw_aload_n C 0 dX10_count_99 rfl rfl ?_
    refine fw_getI C 10 15 (Nat.le_of_ble_eq_true rfl) (Nat.le_of_ble_eq_true rfl) wf_X10_165 rfl (gO_of g1) dX10_count_100 ?_
    obtain rfl := Option.some.inj h
    exact fw_iret C hr hlk dX10_count_103
  replace h := (if_neg c26).symm.trans h
  by_cases c27 : x1 = 10
  · replace h := (if_pos c27).symm.trans h
    refine fw_tableIn C 10 104 dX10_count_6 c27 (by decide) (by decide) rfl (by decide) ?_
    refine fw_aload_n C 0 dX10_count_104 rfl rfl ?_
    obtain ⟨v28, M28, e28, h⟩ := b2_some h
    refine fw_callV (ci := 10) [] C (c_X10_clashes hl e28) cal_X10_clashes wm_X10_168 wi_yX10_clashes wsl_yX10_clashes (Nat.le_of_ble_eq_true rfl) rfl (gO_of g1) rfl (Nat.le_of_ble_eq_true rfl) ⟨Nat.le_of_ble_eq_true rfl, Nat.le_of_ble_eq_true rfl⟩ ⟨Nat.zero_le _, Nat.zero_le _⟩ dX10_count_105 ?_
    obtain rfl := Option.some.inj h
    exact fw_iret C hr hlk dX10_count_108
  replace h := (if_neg c27).symm.trans h
  have qc3 := lv_neT c3 (a := 0) rfl
  have qc6 := lv_neT c6 (a := 1) rfl
  have qc9 := lv_neT c9 (a := 2) rfl
  have qc12 := lv_neT c12 (a := 3) rfl
  have qc14 := lv_neT c14 (a := 4) rfl
  have qc16 := lv_neT c16 (a := 5) rfl
  have qc19 := lv_neT c19 (a := 6) rfl
  have qc22 := lv_neT c22 (a := 7) rfl
  have qc25 := lv_neT c25 (a := 8) rfl
  have qc26 := lv_neT c26 (a := 9) rfl
  have qc27 := lv_neT c27 (a := 10) rfl
  refine fw_tableOut C 109 dX10_count_6 (by omega) (by decide) ?_
  refine fw_aload_n C 0 dX10_count_109 rfl rfl ?_
  refine fw_iconst C 1 dX10_count_110 rfl ?_
  obtain ⟨v29, M29, e29, h⟩ := b2_some h
  refine fw_callV (ci := 10) [_] C (c_X10_fail hl e29) cal_X10_fail wm_X10_171 wi_yX10_fail wsl_yX10_fail (Nat.le_of_ble_eq_true rfl) rfl (gO_of g1) rfl (Nat.le_of_ble_eq_true rfl) ⟨Nat.le_of_ble_eq_true rfl, Nat.le_of_ble_eq_true rfl⟩ ⟨Nat.zero_le _, Nat.zero_le _⟩ dX10_count_111 ?_
  obtain rfl := Option.some.inj h
  exact fw_iret C hr hlk dX10_count_114
