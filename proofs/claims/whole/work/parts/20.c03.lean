set_option maxRecDepth 100000 in
def f_X2_chainLink (S : List fw_Sh) (M : fw_Mem) (a0 : Nat) (x1 : Int32) (x2 : Int32) : Option Int32 := if ((x1 - 1) - x2) < 0 then (some (-1)) else (if (12 : Int32) ≤ ((x1 - 1) - x2) then (some (-1)) else (gd (gO S 2 a0) (gd (gN (M a0 5)) (gd (gA S 0 ((M a0 5).toNatClampNeg) ((x1 - 1) - x2)) (some (M ((M a0 5).toNatClampNeg) ((x1 - 1) - x2).toNatClampNeg))))))
set_option maxHeartbeats 4000000 in
set_option maxRecDepth 100000 in
theorem c_X2_chainLink {l : Launch} {G : fw_G} {S : List fw_Sh} {M : fw_Mem} {a0 : Nat} {x1 : Int32} {x2 : Int32} {r : Int32} (hl : l.stackTraces = false) (h : f_X2_chainLink S M a0 x1 x2 = some r) : fw_M l G yX2_chainLink (.code yX2_chainLink cX2_chainLink 4 (some .int)) 1 (fw_mcO (.inl (some (.int r)), S, M)) (fw_msO (.inl (some (.int r)), S, M)) S M [.ref a0, .int x1, .int x2] (.inl (some (.int r)), S, M) := by
  refine fw_of [(0, .ref a0), (1, .int x1), (2, .int x2)] (by decide) (Nat.le_of_ble_eq_true rfl) rfl ?_
  intro p e s m args below meth c C hr hlk hnm ht _
  unfold f_X2_chainLink at h
  refine fw_iload_n C 1 dX2_chainLink_0 rfl rfl ?_
  refine fw_iconst C 1 dX2_chainLink_1 rfl ?_
  refine fw_isub C dX2_chainLink_2 ?_
  refine fw_iload_n C 2 dX2_chainLink_3 rfl rfl ?_
  refine fw_isub C dX2_chainLink_4 ?_
  refine fw_istore_n C [(3, _), (0, _), (1, _), (2, _)] dX2_chainLink_5 rfl (Nat.le_of_ble_eq_true rfl) rfl ?_
  refine fw_iload_n C 0 dX2_chainLink_6 rfl rfl ?_
  refine fw_if_lt C 25 dX2_chainLink_7 (by decide) (fun c1 => ?_) (fun c1 => ?_)
  · replace h := (if_pos c1).symm.trans h
    refine fw_iconst C (-1) dX2_chainLink_25 rfl ?_
    obtain rfl := Option.some.inj h
    exact fw_iret C hr hlk dX2_chainLink_26
  · replace h := (if_neg c1).symm.trans h
    refine fw_iload_n C 0 dX2_chainLink_10 rfl rfl ?_
    refine fw_bipush C 12 dX2_chainLink_11 rfl ?_
    refine fw_icmp_ge C 25 dX2_chainLink_13 (by decide) (fun c2 => ?_) (fun c2 => ?_)
    · replace h := (if_pos c2).symm.trans h
      refine fw_iconst C (-1) dX2_chainLink_25 rfl ?_
      obtain rfl := Option.some.inj h
      exact fw_iret C hr hlk dX2_chainLink_26
    · replace h := (if_neg c2).symm.trans h
      refine fw_aload_n C 1 dX2_chainLink_16 rfl rfl ?_
      obtain ⟨g3, h⟩ := gd_some h
      obtain ⟨g4, h⟩ := gd_some h
      refine fw_getR C 2 5 (Nat.le_of_ble_eq_true rfl) (Nat.le_of_ble_eq_true rfl) wf_X2_24 rfl (gO_of g3) (gN_of g4) dX2_chainLink_17 ?_
      refine fw_iload_n C 0 dX2_chainLink_20 rfl rfl ?_
      obtain ⟨g5, h⟩ := gd_some h
      refine fw_iald C (gA_of g5) dX2_chainLink_21 ?_
      refine fw_goto C 26 dX2_chainLink_22 (by decide) ?_
      obtain rfl := Option.some.inj h
      exact fw_iret C hr hlk dX2_chainLink_26
set_option maxRecDepth 100000 in
def lf_J7_fill_53178_5 (S : List fw_Sh) (a0 : Nat) (x1 : Int32) (x3 : Int32) : Nat → Int32 → fw_Mem → Option (fw_Mem)
  | 0, _, _ => none
  | n + 1, x2, M => if x3 ≤ x2 then (some M) else (gd (gA S 0 a0 x2) (bm (fw_set M a0 x2.toNatClampNeg x1) (fun M4 => lf_J7_fill_53178_5 S a0 x1 x3 n (x2 + 1) M4)))
set_option maxHeartbeats 4000000 in
set_option maxRecDepth 100000 in
theorem lc_J7_fill_53178_5 {G : fw_G} {p : Program} {l : Launch} {e : Env} {s : State} {m : MethodId} {args : Array Value} {below : List Frame} {meth : Method} {c : Code} {S : List fw_Sh} {o : fw_O} {a0 : Nat} {x1 : Int32} {x3 : Int32} (C : fw_C G RJ7 cJ7_fill_53178 4 p s m args c) (hr : meth.sig.returnType = none) (hlk : meth.locks = false) (hl : l.stackTraces = false) (ht : ∀ x ∈ c.exceptionTable.toList, False) :
    ∀ {n : Nat} {x2 : Int32} {M : fw_Mem} {r : (fw_Mem)} (h : lf_J7_fill_53178_5 S a0 x1 x3 n x2 M = some r) (kx : fw_W G p l e (fw_rm 1 (fw_mcO o) (fw_msO o)) s m args below meth c 4 (fw_Z G below args s (fw_mcO o) (fw_msO o) o) 0 0 20 [] [] S r), fw_W G p l e (fw_rm 1 (fw_mcO o) (fw_msO o)) s m args below meth c 4 (fw_Z G below args s (fw_mcO o) (fw_msO o) o) 0 0 5 [(0, .ref a0), (1, .int x1), (2, .int x2), (3, .int x3)] [] S M := by
  intro n
  induction n with
  | zero =>
    intro x2 M r h
    exact nomatch (show (none : Option (fw_Mem)) = some r from h)
  | succ n ih =>
    intro x2 M r h kx
    rw [lf_J7_fill_53178_5.eq_2] at h
    refine fw_iload_n C 2 dJ7_fill_53178_5 rfl rfl ?_
    refine fw_iload_n C 3 dJ7_fill_53178_6 rfl rfl ?_
    refine fw_icmp_ge C 20 dJ7_fill_53178_7 (by decide) (fun c2 => ?_) (fun c2 => ?_)
    · replace h := (if_pos c2).symm.trans h
      obtain rfl := Option.some.inj h
      refine fw_sub [] rfl ?_
      exact kx
    · replace h := (if_neg c2).symm.trans h
      refine fw_aload_n C 0 dJ7_fill_53178_10 rfl rfl ?_
      refine fw_iload_n C 2 dJ7_fill_53178_11 rfl rfl ?_
      refine fw_iload_n C 1 dJ7_fill_53178_12 rfl rfl ?_
      obtain ⟨g3, h⟩ := gd_some h
      refine fw_iast C (gA_of g3) dJ7_fill_53178_13 ?_
      refine fw_bm h (fun M4 h => ?_)
      refine fw_iinc C _ 2 [(2, _), (0, _), (1, _), (3, _)] dJ7_fill_53178_14 rfl rfl (Nat.le_of_ble_eq_true rfl) rfl ?_
      refine fw_goto C 5 dJ7_fill_53178_17 (by decide) ?_
      refine fw_sub [1, 2, 0, 3] rfl ?_
      exact ih h kx
set_option maxRecDepth 100000 in
def f_J7_fill_53178 (S : List fw_Sh) (M : fw_Mem) (a0 : Nat) (x1 : Int32) : Option fw_Mem := gd (gL S 0 a0) (b1 (lf_J7_fill_53178_5 S a0 x1 (nI (fw_len2 S 0 a0)) 20000 0 M) (fun l5 => some l5))
set_option maxHeartbeats 4000000 in
set_option maxRecDepth 100000 in
theorem c_J7_fill_53178 {l : Launch} {G : fw_G} {S : List fw_Sh} {M : fw_Mem} {a0 : Nat} {x1 : Int32} {r : fw_Mem} (hl : l.stackTraces = false) (h : f_J7_fill_53178 S M a0 x1 = some r) : fw_M l G yJ7_fill_53178 (.code yJ7_fill_53178 cJ7_fill_53178 4 none) 1 (fw_mcO (.inl none, S, r)) (fw_msO (.inl none, S, r)) S M [.ref a0, .int x1] (.inl none, S, r) := by
  refine fw_of [(0, .ref a0), (1, .int x1)] (by decide) (Nat.le_of_ble_eq_true rfl) rfl ?_
  intro p e s m args below meth c C hr hlk hnm ht _
  unfold f_J7_fill_53178 at h
  refine fw_iconst C 0 dJ7_fill_53178_0 rfl ?_
  refine fw_istore_n C [(2, _), (0, _), (1, _)] dJ7_fill_53178_1 rfl (Nat.le_of_ble_eq_true rfl) rfl ?_
  refine fw_aload_n C 1 dJ7_fill_53178_2 rfl rfl ?_
  obtain ⟨g1, h⟩ := gd_some h
  refine fw_alen C 0 _ (by decide) (gL_of g1) dJ7_fill_53178_3 ?_
  refine fw_istore_n C [(3, _), (2, _), (0, _), (1, _)] dJ7_fill_53178_4 rfl (Nat.le_of_ble_eq_true rfl) rfl ?_
  refine fw_sub [2, 3, 1, 0] rfl ?_
  obtain ⟨l5, e5, h⟩ := b1_some h
  refine lc_J7_fill_53178_5 C hr hlk hl ht e5 ?_
  obtain rfl := Option.some.inj h
  exact fw_vret C hr hlk dJ7_fill_53178_20
set_option maxRecDepth 100000 in
def f_X2_isPerson (S : List fw_Sh) (M : fw_Mem) (x0 : Int32) : Option Int32 := if x0 < 0 then (some 0) else (if (12 : Int32) ≤ x0 then (some 0) else (some 1))
set_option maxHeartbeats 4000000 in
set_option maxRecDepth 100000 in
theorem c_X2_isPerson {l : Launch} {G : fw_G} {S : List fw_Sh} {M : fw_Mem} {x0 : Int32} {r : Int32} (hl : l.stackTraces = false) (h : f_X2_isPerson S M x0 = some r) : fw_M l G yX2_isPerson (.code yX2_isPerson cX2_isPerson 1 (some .boolean)) 1 (fw_mcO (.inl (some (.int r)), S, M)) (fw_msO (.inl (some (.int r)), S, M)) S M [.int x0] (.inl (some (.int r)), S, M) := by
  refine fw_of [(0, .int x0)] (by decide) (Nat.le_of_ble_eq_true rfl) rfl ?_
  intro p e s m args below meth c C hr hlk hnm ht _
  unfold f_X2_isPerson at h
  refine fw_iload_n C 0 dX2_isPerson_0 rfl rfl ?_
  refine fw_if_lt C 14 dX2_isPerson_1 (by decide) (fun c1 => ?_) (fun c1 => ?_)
  · replace h := (if_pos c1).symm.trans h
    refine fw_iconst C 0 dX2_isPerson_14 rfl ?_
    obtain rfl := Option.some.inj h
    exact fw_zret C hr (Or.inl rfl) hlk dX2_isPerson_15
  · replace h := (if_neg c1).symm.trans h
    refine fw_iload_n C 0 dX2_isPerson_4 rfl rfl ?_
    refine fw_bipush C 12 dX2_isPerson_5 rfl ?_
    refine fw_icmp_ge C 14 dX2_isPerson_7 (by decide) (fun c2 => ?_) (fun c2 => ?_)
    · replace h := (if_pos c2).symm.trans h
      refine fw_iconst C 0 dX2_isPerson_14 rfl ?_
      obtain rfl := Option.some.inj h
      exact fw_zret C hr (Or.inl rfl) hlk dX2_isPerson_15
    · replace h := (if_neg c2).symm.trans h
      refine fw_iconst C 1 dX2_isPerson_10 rfl ?_
      refine fw_goto C 15 dX2_isPerson_11 (by decide) ?_
      obtain rfl := Option.some.inj h
      exact fw_zret C hr (Or.inr rfl) hlk dX2_isPerson_15
set_option maxRecDepth 100000 in
def f_X2_linkTo (S : List fw_Sh) (M : fw_Mem) (a0 : Nat) (x1 : Int32) : Option Int32 := b1 (f_X2_isPerson S M x1) (fun v1 => if v1 = 0 then (some (-1)) else (gd (gO S 2 a0) (gd (gN (M a0 4)) (gd (gA S 0 ((M a0 4).toNatClampNeg) x1) (some (M ((M a0 4).toNatClampNeg) x1.toNatClampNeg))))))
set_option maxHeartbeats 4000000 in
set_option maxRecDepth 100000 in
theorem c_X2_linkTo {l : Launch} {G : fw_G} {S : List fw_Sh} {M : fw_Mem} {a0 : Nat} {x1 : Int32} {r : Int32} (hl : l.stackTraces = false) (h : f_X2_linkTo S M a0 x1 = some r) : fw_M l G yX2_linkTo (.code yX2_linkTo cX2_linkTo 2 (some .int)) 2 (fw_mcO (.inl (some (.int r)), S, M)) (fw_msO (.inl (some (.int r)), S, M)) S M [.ref a0, .int x1] (.inl (some (.int r)), S, M) := by
  refine fw_of [(0, .ref a0), (1, .int x1)] (by decide) (Nat.le_of_ble_eq_true rfl) rfl ?_
  intro p e s m args below meth c C hr hlk hnm ht _
  unfold f_X2_linkTo at h
  refine fw_iload_n C 1 dX2_linkTo_0 rfl rfl ?_
  obtain ⟨v1, e1, h⟩ := b1_some h
  refine fw_callS [_] C (c_X2_isPerson hl e1) cal_X2_isPerson wm_X2_113 wt_yX2_isPerson rfl (Nat.le_of_ble_eq_true rfl) ⟨Nat.le_of_ble_eq_true rfl, Nat.le_of_ble_eq_true rfl⟩ ⟨Nat.zero_le _, Nat.zero_le _⟩ dX2_linkTo_1 ?_
  refine fw_if_eq C 16 dX2_linkTo_4 (by decide) (fun c2 => ?_) (fun c2 => ?_)
  · replace h := (if_pos c2).symm.trans h
    refine fw_iconst C (-1) dX2_linkTo_16 rfl ?_
    obtain rfl := Option.some.inj h
    exact fw_iret C hr hlk dX2_linkTo_17
  · replace h := (if_neg c2).symm.trans h
    refine fw_aload_n C 0 dX2_linkTo_7 rfl rfl ?_
    obtain ⟨g3, h⟩ := gd_some h
    obtain ⟨g4, h⟩ := gd_some h
    refine fw_getR C 2 4 (Nat.le_of_ble_eq_true rfl) (Nat.le_of_ble_eq_true rfl) wf_X2_21 rfl (gO_of g3) (gN_of g4) dX2_linkTo_8 ?_
    refine fw_iload_n C 1 dX2_linkTo_11 rfl rfl ?_
    obtain ⟨g5, h⟩ := gd_some h
    refine fw_iald C (gA_of g5) dX2_linkTo_12 ?_
    refine fw_goto C 17 dX2_linkTo_13 (by decide) ?_
    obtain rfl := Option.some.inj h
    exact fw_iret C hr hlk dX2_linkTo_17
set_option maxRecDepth 100000 in
def lf_X2_goBack_8 (S : List fw_Sh) (a0 : Nat) : Nat → Int32 → Int32 → fw_Mem → Option (Int32 × fw_Mem)
  | 0, _, _, _ => none
  | n + 1, x2, x3, M => if (12 : Int32) ≤ x2 then (some (x2, M)) else (if x3 < 0 then (some (x2, M)) else (gd (gO S 2 a0) (gd (gN (M a0 0)) (gd (gO S 4 ((M a0 0).toNatClampNeg)) (if (M ((M a0 0).toNatClampNeg) 5) ≤ x3 then (some (x2, M)) else (gd (gN (M a0 5)) (gd (gA S 0 ((M a0 5).toNatClampNeg) x2) (bm (fw_set M ((M a0 5).toNatClampNeg) x2.toNatClampNeg x3) (fun M11 => gd (gN (M11 a0 0)) (gd (gO S 4 ((M11 a0 0).toNatClampNeg)) (gd (gN (M11 ((M11 a0 0).toNatClampNeg) 1)) (gd (gA S 3 ((M11 ((M11 a0 0).toNatClampNeg) 1).toNatClampNeg) x3) (gd (gN (M11 ((M11 ((M11 a0 0).toNatClampNeg) 1).toNatClampNeg) x3.toNatClampNeg)) (gd (gO S 3 ((M11 ((M11 ((M11 a0 0).toNatClampNeg) 1).toNatClampNeg) x3.toNatClampNeg).toNatClampNeg)) (b1 (f_X2_linkTo S M11 a0 (M11 ((M11 ((M11 ((M11 a0 0).toNatClampNeg) 1).toNatClampNeg) x3.toNatClampNeg).toNatClampNeg) 0)) (fun v18 => lf_X2_goBack_8 S a0 n (x2 + 1) v18 M11))))))))))))))))
set_option maxHeartbeats 4000000 in
set_option maxRecDepth 100000 in
theorem lc_X2_goBack_8 {G : fw_G} {p : Program} {l : Launch} {e : Env} {s : State} {m : MethodId} {args : Array Value} {below : List Frame} {meth : Method} {c : Code} {S : List fw_Sh} {o : fw_O} {a0 : Nat} (C : fw_C G RX2 cX2_goBack 4 p s m args c) (hr : meth.sig.returnType = (some .int)) (hlk : meth.locks = false) (hl : l.stackTraces = false) (ht : ∀ x ∈ c.exceptionTable.toList, False) :
    ∀ {n : Nat} {x2 : Int32} {x3 : Int32} {M : fw_Mem} {r : (Int32 × fw_Mem)} (h : lf_X2_goBack_8 S a0 n x2 x3 M = some r) (kx : fw_W G p l e (fw_rm 3 (fw_mcO o) (fw_msO o)) s m args below meth c 4 (fw_Z G below args s (fw_mcO o) (fw_msO o) o) 0 0 59 [(2, .int r.1)] [] S r.2), fw_W G p l e (fw_rm 3 (fw_mcO o) (fw_msO o)) s m args below meth c 4 (fw_Z G below args s (fw_mcO o) (fw_msO o) o) 0 0 8 [(0, .ref a0), (2, .int x2), (3, .int x3)] [] S M := by
  intro n
  induction n with
  | zero =>
    intro x2 x3 M r h
    exact nomatch (show (none : Option (Int32 × fw_Mem)) = some r from h)
  | succ n ih =>
    intro x2 x3 M r h kx
    rw [lf_X2_goBack_8.eq_2] at h
    refine fw_iload_n C 1 dX2_goBack_8 rfl rfl ?_
    refine fw_bipush C 12 dX2_goBack_9 rfl ?_
    refine fw_icmp_ge C 59 dX2_goBack_11 (by decide) (fun c3 => ?_) (fun c3 => ?_)
    · replace h := (if_pos c3).symm.trans h
      obtain rfl := Option.some.inj h
      refine fw_sub [1] rfl ?_
      exact kx
    · replace h := (if_neg c3).symm.trans h
      refine fw_iload_n C 2 dX2_goBack_14 rfl rfl ?_
      refine fw_if_lt C 59 dX2_goBack_15 (by decide) (fun c4 => ?_) (fun c4 => ?_)
      · replace h := (if_pos c4).symm.trans h
        obtain rfl := Option.some.inj h
        refine fw_sub [1] rfl ?_
        exact kx
      · replace h := (if_neg c4).symm.trans h
        refine fw_iload_n C 2 dX2_goBack_18 rfl rfl ?_
        refine fw_aload_n C 0 dX2_goBack_19 rfl rfl ?_
        obtain ⟨g5, h⟩ := gd_some h
        obtain ⟨g6, h⟩ := gd_some h
        refine fw_getR C 2 0 (Nat.le_of_ble_eq_true rfl) (Nat.le_of_ble_eq_true rfl) wf_X2_27 rfl (gO_of g5) (gN_of g6) dX2_goBack_20 ?_
        obtain ⟨g7, h⟩ := gd_some h
        refine fw_getI C 4 5 (Nat.le_of_ble_eq_true rfl) (Nat.le_of_ble_eq_true rfl) wf_X2_82 rfl (gO_of g7) dX2_goBack_23 ?_
        refine fw_icmp_ge C 59 dX2_goBack_26 (by decide) (fun c8 => ?_) (fun c8 => ?_)
        · replace h := (if_pos c8).symm.trans h
          obtain rfl := Option.some.inj h
          refine fw_sub [1] rfl ?_
          exact kx
        · replace h := (if_neg c8).symm.trans h
          refine fw_aload_n C 0 dX2_goBack_29 rfl rfl ?_
          obtain ⟨g9, h⟩ := gd_some h
          refine fw_getR C 2 5 (Nat.le_of_ble_eq_true rfl) (Nat.le_of_ble_eq_true rfl) wf_X2_24 rfl (gO_of g5) (gN_of g9) dX2_goBack_30 ?_
          refine fw_iload_n C 1 dX2_goBack_33 rfl rfl ?_
          refine fw_iload_n C 2 dX2_goBack_34 rfl rfl ?_
          obtain ⟨g10, h⟩ := gd_some h
          refine fw_iast C (gA_of g10) dX2_goBack_35 ?_
          refine fw_bm h (fun M11 h => ?_)
          refine fw_aload_n C 0 dX2_goBack_36 rfl rfl ?_
          refine fw_aload_n C 0 dX2_goBack_37 rfl rfl ?_
          obtain ⟨g12, h⟩ := gd_some h
          refine fw_getR C 2 0 (Nat.le_of_ble_eq_true rfl) (Nat.le_of_ble_eq_true rfl) wf_X2_27 rfl (gO_of g5) (gN_of g12) dX2_goBack_38 ?_
          obtain ⟨g13, h⟩ := gd_some h
          obtain ⟨g14, h⟩ := gd_some h
          refine fw_getR C 4 1 (Nat.le_of_ble_eq_true rfl) (Nat.le_of_ble_eq_true rfl) wf_X2_85 rfl (gO_of g13) (gN_of g14) dX2_goBack_41 ?_
          refine fw_iload_n C 2 dX2_goBack_44 rfl rfl ?_
          obtain ⟨g15, h⟩ := gd_some h
          obtain ⟨g16, h⟩ := gd_some h
          refine fw_aald C 3 (by decide) (gA_of g15) (gN_of g16) dX2_goBack_45 ?_
          obtain ⟨g17, h⟩ := gd_some h
          refine fw_getI C 3 0 (Nat.le_of_ble_eq_true rfl) (Nat.le_of_ble_eq_true rfl) wf_X2_89 rfl (gO_of g17) dX2_goBack_46 ?_
          obtain ⟨v18, e18, h⟩ := b1_some h
          refine fw_callV (ci := 2) [_] C (c_X2_linkTo hl e18) cal_X2_linkTo wm_X2_119 wi_yX2_linkTo wsl_yX2_linkTo (Nat.le_of_ble_eq_true rfl) rfl (gO_of g5) rfl (Nat.le_of_ble_eq_true rfl) ⟨Nat.le_of_ble_eq_true rfl, Nat.le_of_ble_eq_true rfl⟩ ⟨Nat.zero_le _, Nat.zero_le _⟩ dX2_goBack_49 ?_
          refine fw_istore_n C [(3, _), (0, _), (2, _)] dX2_goBack_52 rfl (Nat.le_of_ble_eq_true rfl) rfl ?_
          refine fw_iinc C _ 2 [(2, _), (3, _), (0, _)] dX2_goBack_53 rfl rfl (Nat.le_of_ble_eq_true rfl) rfl ?_
          refine fw_goto C 8 dX2_goBack_56 (by decide) ?_
          refine fw_sub [2, 0, 1] rfl ?_
          exact ih h kx
set_option maxRecDepth 100000 in
def f_X2_goBack (S : List fw_Sh) (M : fw_Mem) (a0 : Nat) (x1 : Int32) : Option (Int32 × fw_Mem) := gd (gO S 2 a0) (b1 (f_X2_linkTo S M a0 x1) (fun v1 => b1 (lf_X2_goBack_8 S a0 20000 0 v1 M) (fun l19 => some (l19.1, l19.2))))
set_option maxHeartbeats 4000000 in
set_option maxRecDepth 100000 in
theorem c_X2_goBack {l : Launch} {G : fw_G} {S : List fw_Sh} {M : fw_Mem} {a0 : Nat} {x1 : Int32} {r : (Int32 × fw_Mem)} (hl : l.stackTraces = false) (h : f_X2_goBack S M a0 x1 = some r) : fw_M l G yX2_goBack (.code yX2_goBack cX2_goBack 4 (some .int)) 3 (fw_mcO (.inl (some (.int r.1)), S, r.2)) (fw_msO (.inl (some (.int r.1)), S, r.2)) S M [.ref a0, .int x1] (.inl (some (.int r.1)), S, r.2) := by
  refine fw_of [(0, .ref a0), (1, .int x1)] (by decide) (Nat.le_of_ble_eq_true rfl) rfl ?_
  intro p e s m args below meth c C hr hlk hnm ht _
  unfold f_X2_goBack at h
  refine fw_iconst C 0 dX2_goBack_0 rfl ?_
  refine fw_istore_n C [(2, _), (0, _), (1, _)] dX2_goBack_1 rfl (Nat.le_of_ble_eq_true rfl) rfl ?_
  refine fw_aload_n C 1 dX2_goBack_2 rfl rfl ?_
  refine fw_iload_n C 2 dX2_goBack_3 rfl rfl ?_
  obtain ⟨g2, h⟩ := gd_some h
  obtain ⟨v1, e1, h⟩ := b1_some h
  refine fw_callV (ci := 2) [_] C (c_X2_linkTo hl e1) cal_X2_linkTo wm_X2_119 wi_yX2_linkTo wsl_yX2_linkTo (Nat.le_of_ble_eq_true rfl) rfl (gO_of g2) rfl (Nat.le_of_ble_eq_true rfl) ⟨Nat.le_of_ble_eq_true rfl, Nat.le_of_ble_eq_true rfl⟩ ⟨Nat.zero_le _, Nat.zero_le _⟩ dX2_goBack_4 ?_
  refine fw_istore_n C [(3, _), (2, _), (0, _), (1, _)] dX2_goBack_7 rfl (Nat.le_of_ble_eq_true rfl) rfl ?_
  refine fw_sub [2, 1, 0] rfl ?_
  obtain ⟨l19, e19, h⟩ := b1_some h
  refine lc_X2_goBack_8 C hr hlk hl ht e19 ?_
  refine fw_iload_n C 0 dX2_goBack_59 rfl rfl ?_
  obtain rfl := Option.some.inj h
  exact fw_iret C hr hlk dX2_goBack_60
set_option maxRecDepth 100000 in
def f_X6_party (S : List fw_Sh) (M : fw_Mem) (a0 : Nat) (x1 : Int32) : Option Int32 := if x1 = 0 then (gd (gO S 6 a0) (some (M a0 1))) else (gd (gO S 6 a0) (some (M a0 2)))
set_option maxHeartbeats 4000000 in
set_option maxRecDepth 100000 in
theorem c_X6_party {l : Launch} {G : fw_G} {S : List fw_Sh} {M : fw_Mem} {a0 : Nat} {x1 : Int32} {r : Int32} (hl : l.stackTraces = false) (h : f_X6_party S M a0 x1 = some r) : fw_M l G yX6_party (.code yX6_party cX6_party 2 (some .int)) 1 (fw_mcO (.inl (some (.int r)), S, M)) (fw_msO (.inl (some (.int r)), S, M)) S M [.ref a0, .int x1] (.inl (some (.int r)), S, M) := by
  refine fw_of [(0, .ref a0), (1, .int x1)] (by decide) (Nat.le_of_ble_eq_true rfl) rfl ?_
  intro p e s m args below meth c C hr hlk hnm ht _
  unfold f_X6_party at h
  refine fw_iload_n C 1 dX6_party_0 rfl rfl ?_
  refine fw_if_ne C 11 dX6_party_1 (by decide) (fun c1 => ?_) (fun c1 => ?_)
  · replace h := (if_neg c1).symm.trans h
    refine fw_aload_n C 0 dX6_party_11 rfl rfl ?_
    obtain ⟨g2, h⟩ := gd_some h
    refine fw_getI C 6 2 (Nat.le_of_ble_eq_true rfl) (Nat.le_of_ble_eq_true rfl) wf_X6_21 rfl (gO_of g2) dX6_party_12 ?_
    obtain rfl := Option.some.inj h
    exact fw_iret C hr hlk dX6_party_15
  · replace h := (if_pos c1).symm.trans h
    refine fw_aload_n C 0 dX6_party_4 rfl rfl ?_
    obtain ⟨g3, h⟩ := gd_some h
    refine fw_getI C 6 1 (Nat.le_of_ble_eq_true rfl) (Nat.le_of_ble_eq_true rfl) wf_X6_18 rfl (gO_of g3) dX6_party_5 ?_
    refine fw_goto C 15 dX6_party_8 (by decide) ?_
    obtain rfl := Option.some.inj h
    exact fw_iret C hr hlk dX6_party_15
set_option maxRecDepth 100000 in
def lf_X2_traceChain_52 (S : List fw_Sh) (a0 : Nat) (a1 : Nat) (x3 : Int32) (x7 : Int32) : Nat → Int32 → Int32 → Int32 → fw_Mem → Option (Int32 × Int32 × fw_Mem)
  | 0, _, _, _, _ => none
  | n + 1, x5, x6, x8, M => gd (gO S 2 a0) (gd (gN (M a0 0)) (gd (gO S 4 ((M a0 0).toNatClampNeg)) (if (M ((M a0 0).toNatClampNeg) 5) ≤ x8 then (some (x5, x6, M)) else (gd (gN (M ((M a0 0).toNatClampNeg) 1)) (gd (gA S 3 ((M ((M a0 0).toNatClampNeg) 1).toNatClampNeg) x8) (gd (gN (M ((M ((M a0 0).toNatClampNeg) 1).toNatClampNeg) x8.toNatClampNeg)) (gd (gO S 3 ((M ((M ((M a0 0).toNatClampNeg) 1).toNatClampNeg) x8.toNatClampNeg).toNatClampNeg)) (gd (gN (M a0 3)) (gd (gA S 0 ((M a0 3).toNatClampNeg) x7) (if (M ((M ((M ((M a0 0).toNatClampNeg) 1).toNatClampNeg) x8.toNatClampNeg).toNatClampNeg) 0) = (M ((M a0 3).toNatClampNeg) x7.toNatClampNeg) then (gd (gO S 6 a1) (b1 (f_X3_carries S M ((M ((M ((M a0 0).toNatClampNeg) 1).toNatClampNeg) x8.toNatClampNeg).toNatClampNeg) (M a1 7)) (fun v27 => if v27 = 0 then (b1 (f_X2_isPerson S M (M ((M ((M ((M a0 0).toNatClampNeg) 1).toNatClampNeg) x8.toNatClampNeg).toNatClampNeg) 1)) (fun v29 => if v29 = 0 then (lf_X2_traceChain_52 S a0 a1 x3 x7 n x5 x6 (x8 + 1) M) else (if ((x5 >>> ((M ((M ((M ((M a0 0).toNatClampNeg) 1).toNatClampNeg) x8.toNatClampNeg).toNatClampNeg) 1) &&& 31)) &&& 1) = 0 then (lf_X2_traceChain_52 S a0 a1 x3 x7 n x5 x6 (x8 + 1) M) else (lf_X2_traceChain_52 S a0 a1 x3 x7 n x5 x6 (x8 + 1) M)))) else (b1 (f_X2_isPerson S M (M ((M ((M ((M a0 0).toNatClampNeg) 1).toNatClampNeg) x8.toNatClampNeg).toNatClampNeg) 1)) (fun v32 => if v32 = 0 then (lf_X2_traceChain_52 S a0 a1 x3 x7 n x5 x6 (x8 + 1) M) else (if ((x5 >>> ((M ((M ((M ((M a0 0).toNatClampNeg) 1).toNatClampNeg) x8.toNatClampNeg).toNatClampNeg) 1) &&& 31)) &&& 1) = 0 then (if (12 : Int32) ≤ x6 then (lf_X2_traceChain_52 S a0 a1 x3 x7 n x5 x6 (x8 + 1) M) else (bm (x5 ||| ((1 : Int32) <<< ((M ((M ((M ((M a0 0).toNatClampNeg) 1).toNatClampNeg) x8.toNatClampNeg).toNatClampNeg) 1) &&& 31))) (fun y36 => gd (gN (M a0 4)) (gd (gA S 0 ((M a0 4).toNatClampNeg) (M ((M ((M ((M a0 0).toNatClampNeg) 1).toNatClampNeg) x8.toNatClampNeg).toNatClampNeg) 1)) (bm (fw_set M ((M a0 4).toNatClampNeg) (M ((M ((M ((M a0 0).toNatClampNeg) 1).toNatClampNeg) x8.toNatClampNeg).toNatClampNeg) 1).toNatClampNeg x8) (fun M39 => gd (gN (M39 a0 3)) (gd (gA S 0 ((M39 a0 3).toNatClampNeg) x6) (bm (fw_set M39 ((M39 a0 3).toNatClampNeg) x6.toNatClampNeg (M39 ((M ((M ((M a0 0).toNatClampNeg) 1).toNatClampNeg) x8.toNatClampNeg).toNatClampNeg) 1)) (fun M42 => lf_X2_traceChain_52 S a0 a1 x3 x7 n y36 (x6 + 1) (x8 + 1) M42))))))))) else (lf_X2_traceChain_52 S a0 a1 x3 x7 n x5 x6 (x8 + 1) M))))))) else (b1 (f_X2_isPerson S M (M ((M ((M ((M a0 0).toNatClampNeg) 1).toNatClampNeg) x8.toNatClampNeg).toNatClampNeg) 1)) (fun v23 => if v23 = 0 then (lf_X2_traceChain_52 S a0 a1 x3 x7 n x5 x6 (x8 + 1) M) else (if ((x5 >>> ((M ((M ((M ((M a0 0).toNatClampNeg) 1).toNatClampNeg) x8.toNatClampNeg).toNatClampNeg) 1) &&& 31)) &&& 1) = 0 then (lf_X2_traceChain_52 S a0 a1 x3 x7 n x5 x6 (x8 + 1) M) else (lf_X2_traceChain_52 S a0 a1 x3 x7 n x5 x6 (x8 + 1) M))))))))))))))
set_option maxHeartbeats 4000000 in
set_option maxRecDepth 100000 in
theorem lc_X2_traceChain_52 {G : fw_G} {p : Program} {l : Launch} {e : Env} {s : State} {m : MethodId} {args : Array Value} {below : List Frame} {meth : Method} {c : Code} {S : List fw_Sh} {o : fw_O} {a0 : Nat} {a1 : Nat} {x3 : Int32} {x7 : Int32} (C : fw_C G RX2 cX2_traceChain 12 p s m args c) (hr : meth.sig.returnType = (some .int)) (hlk : meth.locks = false) (hl : l.stackTraces = false) (ht : ∀ x ∈ c.exceptionTable.toList, False) :
    ∀ {n : Nat} {x5 : Int32} {x6 : Int32} {x8 : Int32} {M : fw_Mem} {r : (Int32 × Int32 × fw_Mem)} (h : lf_X2_traceChain_52 S a0 a1 x3 x7 n x5 x6 x8 M = some r) (kx : fw_W G p l e (fw_rm 4 (fw_mcO o) (fw_msO o)) s m args below meth c 12 (fw_Z G below args s (fw_mcO o) (fw_msO o) o) 0 0 203 [(0, .ref a0), (1, .ref a1), (3, .int x3), (5, .int r.1), (6, .int r.2.1), (7, .int x7)] [] S r.2.2), fw_W G p l e (fw_rm 4 (fw_mcO o) (fw_msO o)) s m args below meth c 12 (fw_Z G below args s (fw_mcO o) (fw_msO o) o) 0 0 52 [(0, .ref a0), (1, .ref a1), (3, .int x3), (5, .int x5), (6, .int x6), (7, .int x7), (8, .int x8)] [] S M := by
  intro n
  induction n with
  | zero =>
    intro x5 x6 x8 M r h
    exact nomatch (show (none : Option (Int32 × Int32 × fw_Mem)) = some r from h)
  | succ n ih =>
    intro x5 x6 x8 M r h kx
    rw [lf_X2_traceChain_52.eq_2] at h
    refine fw_iload C 6 dX2_traceChain_52 rfl ?_
    refine fw_aload_n C 0 dX2_traceChain_54 rfl rfl ?_
    obtain ⟨g12, h⟩ := gd_some h
    obtain ⟨g13, h⟩ := gd_some h
    refine fw_getR C 2 0 (Nat.le_of_ble_eq_true rfl) (Nat.le_of_ble_eq_true rfl) wf_X2_27 rfl (gO_of g12) (gN_of g13) dX2_traceChain_55 ?_
    obtain ⟨g14, h⟩ := gd_some h
    refine fw_getI C 4 5 (Nat.le_of_ble_eq_true rfl) (Nat.le_of_ble_eq_true rfl) wf_X2_82 rfl (gO_of g14) dX2_traceChain_58 ?_
    refine fw_icmp_ge C 203 dX2_traceChain_61 (by decide) (fun c15 => ?_) (fun c15 => ?_)
    · replace h := (if_pos c15).symm.trans h
      obtain rfl := Option.some.inj h
      refine fw_sub [0, 1, 2, 3, 4, 5] rfl ?_
      exact kx
    · replace h := (if_neg c15).symm.trans h
      refine fw_aload_n C 0 dX2_traceChain_64 rfl rfl ?_
      refine fw_getR C 2 0 (Nat.le_of_ble_eq_true rfl) (Nat.le_of_ble_eq_true rfl) wf_X2_27 rfl (gO_of g12) (gN_of g13) dX2_traceChain_65 ?_
      obtain ⟨g16, h⟩ := gd_some h
      refine fw_getR C 4 1 (Nat.le_of_ble_eq_true rfl) (Nat.le_of_ble_eq_true rfl) wf_X2_85 rfl (gO_of g14) (gN_of g16) dX2_traceChain_68 ?_
      refine fw_iload C 6 dX2_traceChain_71 rfl ?_
      obtain ⟨g17, h⟩ := gd_some h
      obtain ⟨g18, h⟩ := gd_some h
      refine fw_aald C 3 (by decide) (gA_of g17) (gN_of g18) dX2_traceChain_73 ?_
      refine fw_astore C [(9, _), (0, _), (1, _), (3, _), (5, _), (6, _), (7, _), (8, _)] dX2_traceChain_74 (Nat.le_of_ble_eq_true rfl) rfl ?_
      refine fw_aload C 0 dX2_traceChain_76 rfl ?_
      obtain ⟨g19, h⟩ := gd_some h
      refine fw_getI C 3 0 (Nat.le_of_ble_eq_true rfl) (Nat.le_of_ble_eq_true rfl) wf_X2_89 rfl (gO_of g19) dX2_traceChain_78 ?_
      refine fw_aload_n C 1 dX2_traceChain_81 rfl rfl ?_
      obtain ⟨g20, h⟩ := gd_some h
      refine fw_getR C 2 3 (Nat.le_of_ble_eq_true rfl) (Nat.le_of_ble_eq_true rfl) wf_X2_18 rfl (gO_of g12) (gN_of g20) dX2_traceChain_82 ?_
      refine fw_iload C 6 dX2_traceChain_85 rfl ?_
      obtain ⟨g21, h⟩ := gd_some h
      refine fw_iald C (gA_of g21) dX2_traceChain_87 ?_
      refine fw_icmp_ne C 107 dX2_traceChain_88 (by decide) (fun c22 => ?_) (fun c22 => ?_)
      · replace h := (if_neg c22).symm.trans h
        refine fw_iconst C 0 dX2_traceChain_107 rfl ?_
        refine fw_istore C [(10, _), (9, _), (0, _), (1, _), (3, _), (5, _), (6, _), (7, _), (8, _)] dX2_traceChain_108 (Nat.le_of_ble_eq_true rfl) rfl ?_
        refine fw_aload C 1 dX2_traceChain_110 rfl ?_
        refine fw_getI C 3 1 (Nat.le_of_ble_eq_true rfl) (Nat.le_of_ble_eq_true rfl) wf_X2_101 rfl (gO_of g19) dX2_traceChain_112 ?_
        obtain ⟨v23, e23, h⟩ := b1_some h
        refine fw_callS [_] C (c_X2_isPerson hl e23) cal_X2_isPerson wm_X2_113 wt_yX2_isPerson rfl (Nat.le_of_ble_eq_true rfl) ⟨Nat.le_of_ble_eq_true rfl, Nat.le_of_ble_eq_true rfl⟩ ⟨Nat.zero_le _, Nat.zero_le _⟩ dX2_traceChain_115 ?_
        refine fw_if_eq C 138 dX2_traceChain_118 (by decide) (fun c24 => ?_) (fun c24 => ?_)
        · replace h := (if_pos c24).symm.trans h
          refine fw_iconst C 0 dX2_traceChain_138 rfl ?_
          refine fw_istore C [(11, _), (10, _), (9, _), (0, _), (1, _), (3, _), (5, _), (6, _), (7, _), (8, _)] dX2_traceChain_139 (Nat.le_of_ble_eq_true rfl) rfl ?_
          refine fw_iload C 1 dX2_traceChain_141 rfl ?_
          refine fw_if_eq C 197 dX2_traceChain_143 (by decide) (fun _ => ?_) (fun q => absurd q (by decide))
          refine fw_iinc C _ 9 [(8, _), (11, _), (10, _), (9, _), (0, _), (1, _), (3, _), (5, _), (6, _), (7, _)] dX2_traceChain_197 rfl rfl (Nat.le_of_ble_eq_true rfl) rfl ?_
          refine fw_goto C 52 dX2_traceChain_200 (by decide) ?_
          refine fw_sub [4, 5, 6, 7, 8, 9, 0] rfl ?_
          exact ih h kx
        · replace h := (if_neg c24).symm.trans h
          refine fw_iload C 5 dX2_traceChain_121 rfl ?_
          refine fw_aload C 1 dX2_traceChain_123 rfl ?_
          refine fw_getI C 3 1 (Nat.le_of_ble_eq_true rfl) (Nat.le_of_ble_eq_true rfl) wf_X2_101 rfl (gO_of g19) dX2_traceChain_125 ?_
          refine fw_ishr C dX2_traceChain_128 ?_
          refine fw_iconst C 1 dX2_traceChain_129 rfl ?_
          refine fw_iand C dX2_traceChain_130 ?_
          refine fw_if_ne C 138 dX2_traceChain_131 (by decide) (fun c25 => ?_) (fun c25 => ?_)
          · replace h := (if_neg c25).symm.trans h
            refine fw_iconst C 0 dX2_traceChain_138 rfl ?_
            refine fw_istore C [(11, _), (10, _), (9, _), (0, _), (1, _), (3, _), (5, _), (6, _), (7, _), (8, _)] dX2_traceChain_139 (Nat.le_of_ble_eq_true rfl) rfl ?_
            refine fw_iload C 1 dX2_traceChain_141 rfl ?_
            refine fw_if_eq C 197 dX2_traceChain_143 (by decide) (fun _ => ?_) (fun q => absurd q (by decide))
            refine fw_iinc C _ 9 [(8, _), (11, _), (10, _), (9, _), (0, _), (1, _), (3, _), (5, _), (6, _), (7, _)] dX2_traceChain_197 rfl rfl (Nat.le_of_ble_eq_true rfl) rfl ?_
            refine fw_goto C 52 dX2_traceChain_200 (by decide) ?_
            refine fw_sub [4, 5, 6, 7, 8, 9, 0] rfl ?_
            exact ih h kx
          · replace h := (if_pos c25).symm.trans h
            refine fw_iconst C 1 dX2_traceChain_134 rfl ?_
            refine fw_goto C 139 dX2_traceChain_135 (by decide) ?_
            refine fw_istore C [(11, _), (10, _), (9, _), (0, _), (1, _), (3, _), (5, _), (6, _), (7, _), (8, _)] dX2_traceChain_139 (Nat.le_of_ble_eq_true rfl) rfl ?_
            refine fw_iload C 1 dX2_traceChain_141 rfl ?_
            refine fw_if_eq C 197 dX2_traceChain_143 (by decide) (fun _ => ?_) (fun q => absurd q (by decide))
            refine fw_iinc C _ 9 [(8, _), (11, _), (10, _), (9, _), (0, _), (1, _), (3, _), (5, _), (6, _), (7, _)] dX2_traceChain_197 rfl rfl (Nat.le_of_ble_eq_true rfl) rfl ?_
            refine fw_goto C 52 dX2_traceChain_200 (by decide) ?_
            refine fw_sub [4, 5, 6, 7, 8, 9, 0] rfl ?_
            exact ih h kx
      · replace h := (if_pos c22).symm.trans h
        refine fw_aload C 0 dX2_traceChain_91 rfl ?_
        refine fw_aload_n C 2 dX2_traceChain_93 rfl rfl ?_
        obtain ⟨g26, h⟩ := gd_some h
        refine fw_getI C 6 7 (Nat.le_of_ble_eq_true rfl) (Nat.le_of_ble_eq_true rfl) wf_X2_94 rfl (gO_of g26) dX2_traceChain_94 ?_
        obtain ⟨v27, e27, h⟩ := b1_some h
        refine fw_callV (ci := 3) [_] C (c_X3_carries hl e27) cal_X3_carries wm_X2_97 wi_yX3_carries wsl_yX3_carries (Nat.le_of_ble_eq_true rfl) rfl (gO_of g19) rfl (Nat.le_of_ble_eq_true rfl) ⟨Nat.le_of_ble_eq_true rfl, Nat.le_of_ble_eq_true rfl⟩ ⟨Nat.zero_le _, Nat.zero_le _⟩ dX2_traceChain_97 ?_
        refine fw_if_eq C 107 dX2_traceChain_100 (by decide) (fun c28 => ?_) (fun c28 => ?_)
        · replace h := (if_pos c28).symm.trans h
          refine fw_iconst C 0 dX2_traceChain_107 rfl ?_
          refine fw_istore C [(10, _), (9, _), (0, _), (1, _), (3, _), (5, _), (6, _), (7, _), (8, _)] dX2_traceChain_108 (Nat.le_of_ble_eq_true rfl) rfl ?_
          refine fw_aload C 1 dX2_traceChain_110 rfl ?_
          refine fw_getI C 3 1 (Nat.le_of_ble_eq_true rfl) (Nat.le_of_ble_eq_true rfl) wf_X2_101 rfl (gO_of g19) dX2_traceChain_112 ?_
          obtain ⟨v29, e29, h⟩ := b1_some h
          refine fw_callS [_] C (c_X2_isPerson hl e29) cal_X2_isPerson wm_X2_113 wt_yX2_isPerson rfl (Nat.le_of_ble_eq_true rfl) ⟨Nat.le_of_ble_eq_true rfl, Nat.le_of_ble_eq_true rfl⟩ ⟨Nat.zero_le _, Nat.zero_le _⟩ dX2_traceChain_115 ?_
          refine fw_if_eq C 138 dX2_traceChain_118 (by decide) (fun c30 => ?_) (fun c30 => ?_)
          · replace h := (if_pos c30).symm.trans h
            refine fw_iconst C 0 dX2_traceChain_138 rfl ?_
            refine fw_istore C [(11, _), (10, _), (9, _), (0, _), (1, _), (3, _), (5, _), (6, _), (7, _), (8, _)] dX2_traceChain_139 (Nat.le_of_ble_eq_true rfl) rfl ?_
            refine fw_iload C 1 dX2_traceChain_141 rfl ?_
            refine fw_if_eq C 197 dX2_traceChain_143 (by decide) (fun _ => ?_) (fun q => absurd q (by decide))
            refine fw_iinc C _ 9 [(8, _), (11, _), (10, _), (9, _), (0, _), (1, _), (3, _), (5, _), (6, _), (7, _)] dX2_traceChain_197 rfl rfl (Nat.le_of_ble_eq_true rfl) rfl ?_
            refine fw_goto C 52 dX2_traceChain_200 (by decide) ?_
            refine fw_sub [4, 5, 6, 7, 8, 9, 0] rfl ?_
            exact ih h kx
          · replace h := (if_neg c30).symm.trans h
            refine fw_iload C 5 dX2_traceChain_121 rfl ?_
            refine fw_aload C 1 dX2_traceChain_123 rfl ?_
            refine fw_getI C 3 1 (Nat.le_of_ble_eq_true rfl) (Nat.le_of_ble_eq_true rfl) wf_X2_101 rfl (gO_of g19) dX2_traceChain_125 ?_
            refine fw_ishr C dX2_traceChain_128 ?_
            refine fw_iconst C 1 dX2_traceChain_129 rfl ?_
            refine fw_iand C dX2_traceChain_130 ?_
            refine fw_if_ne C 138 dX2_traceChain_131 (by decide) (fun c31 => ?_) (fun c31 => ?_)
            · replace h := (if_neg c31).symm.trans h
              refine fw_iconst C 0 dX2_traceChain_138 rfl ?_
              refine fw_istore C [(11, _), (10, _), (9, _), (0, _), (1, _), (3, _), (5, _), (6, _), (7, _), (8, _)] dX2_traceChain_139 (Nat.le_of_ble_eq_true rfl) rfl ?_
              refine fw_iload C 1 dX2_traceChain_141 rfl ?_
              refine fw_if_eq C 197 dX2_traceChain_143 (by decide) (fun _ => ?_) (fun q => absurd q (by decide))
              refine fw_iinc C _ 9 [(8, _), (11, _), (10, _), (9, _), (0, _), (1, _), (3, _), (5, _), (6, _), (7, _)] dX2_traceChain_197 rfl rfl (Nat.le_of_ble_eq_true rfl) rfl ?_
              refine fw_goto C 52 dX2_traceChain_200 (by decide) ?_
              refine fw_sub [4, 5, 6, 7, 8, 9, 0] rfl ?_
              exact ih h kx
            · replace h := (if_pos c31).symm.trans h
              refine fw_iconst C 1 dX2_traceChain_134 rfl ?_
              refine fw_goto C 139 dX2_traceChain_135 (by decide) ?_
              refine fw_istore C [(11, _), (10, _), (9, _), (0, _), (1, _), (3, _), (5, _), (6, _), (7, _), (8, _)] dX2_traceChain_139 (Nat.le_of_ble_eq_true rfl) rfl ?_
              refine fw_iload C 1 dX2_traceChain_141 rfl ?_
              refine fw_if_eq C 197 dX2_traceChain_143 (by decide) (fun _ => ?_) (fun q => absurd q (by decide))
              refine fw_iinc C _ 9 [(8, _), (11, _), (10, _), (9, _), (0, _), (1, _), (3, _), (5, _), (6, _), (7, _)] dX2_traceChain_197 rfl rfl (Nat.le_of_ble_eq_true rfl) rfl ?_
              refine fw_goto C 52 dX2_traceChain_200 (by decide) ?_
              refine fw_sub [4, 5, 6, 7, 8, 9, 0] rfl ?_
              exact ih h kx
        · replace h := (if_neg c28).symm.trans h
          refine fw_iconst C 1 dX2_traceChain_103 rfl ?_
          refine fw_goto C 108 dX2_traceChain_104 (by decide) ?_
          refine fw_istore C [(10, _), (9, _), (0, _), (1, _), (3, _), (5, _), (6, _), (7, _), (8, _)] dX2_traceChain_108 (Nat.le_of_ble_eq_true rfl) rfl ?_
          refine fw_aload C 1 dX2_traceChain_110 rfl ?_
          refine fw_getI C 3 1 (Nat.le_of_ble_eq_true rfl) (Nat.le_of_ble_eq_true rfl) wf_X2_101 rfl (gO_of g19) dX2_traceChain_112 ?_
          obtain ⟨v32, e32, h⟩ := b1_some h
          refine fw_callS [_] C (c_X2_isPerson hl e32) cal_X2_isPerson wm_X2_113 wt_yX2_isPerson rfl (Nat.le_of_ble_eq_true rfl) ⟨Nat.le_of_ble_eq_true rfl, Nat.le_of_ble_eq_true rfl⟩ ⟨Nat.zero_le _, Nat.zero_le _⟩ dX2_traceChain_115 ?_
          refine fw_if_eq C 138 dX2_traceChain_118 (by decide) (fun c33 => ?_) (fun c33 => ?_)
          · replace h := (if_pos c33).symm.trans h
            refine fw_iconst C 0 dX2_traceChain_138 rfl ?_
            refine fw_istore C [(11, _), (10, _), (9, _), (0, _), (1, _), (3, _), (5, _), (6, _), (7, _), (8, _)] dX2_traceChain_139 (Nat.le_of_ble_eq_true rfl) rfl ?_
            refine fw_iload C 1 dX2_traceChain_141 rfl ?_
            refine fw_if_eq C 197 dX2_traceChain_143 (by decide) (fun q => absurd q (by decide)) (fun _ => ?_)
            refine fw_iload C 0 dX2_traceChain_146 rfl ?_
            refine fw_if_eq C 197 dX2_traceChain_148 (by decide) (fun _ => ?_) (fun q => absurd q (by decide))
            refine fw_iinc C _ 9 [(8, _), (11, _), (10, _), (9, _), (0, _), (1, _), (3, _), (5, _), (6, _), (7, _)] dX2_traceChain_197 rfl rfl (Nat.le_of_ble_eq_true rfl) rfl ?_
            refine fw_goto C 52 dX2_traceChain_200 (by decide) ?_
            refine fw_sub [4, 5, 6, 7, 8, 9, 0] rfl ?_
            exact ih h kx
          · replace h := (if_neg c33).symm.trans h
            refine fw_iload C 5 dX2_traceChain_121 rfl ?_
            refine fw_aload C 1 dX2_traceChain_123 rfl ?_
            refine fw_getI C 3 1 (Nat.le_of_ble_eq_true rfl) (Nat.le_of_ble_eq_true rfl) wf_X2_101 rfl (gO_of g19) dX2_traceChain_125 ?_
            refine fw_ishr C dX2_traceChain_128 ?_
            refine fw_iconst C 1 dX2_traceChain_129 rfl ?_
            refine fw_iand C dX2_traceChain_130 ?_
            refine fw_if_ne C 138 dX2_traceChain_131 (by decide) (fun c34 => ?_) (fun c34 => ?_)
            · replace h := (if_neg c34).symm.trans h
              refine fw_iconst C 0 dX2_traceChain_138 rfl ?_
              refine fw_istore C [(11, _), (10, _), (9, _), (0, _), (1, _), (3, _), (5, _), (6, _), (7, _), (8, _)] dX2_traceChain_139 (Nat.le_of_ble_eq_true rfl) rfl ?_
              refine fw_iload C 1 dX2_traceChain_141 rfl ?_
              refine fw_if_eq C 197 dX2_traceChain_143 (by decide) (fun q => absurd q (by decide)) (fun _ => ?_)
              refine fw_iload C 0 dX2_traceChain_146 rfl ?_
              refine fw_if_eq C 197 dX2_traceChain_148 (by decide) (fun _ => ?_) (fun q => absurd q (by decide))
              refine fw_iinc C _ 9 [(8, _), (11, _), (10, _), (9, _), (0, _), (1, _), (3, _), (5, _), (6, _), (7, _)] dX2_traceChain_197 rfl rfl (Nat.le_of_ble_eq_true rfl) rfl ?_
              refine fw_goto C 52 dX2_traceChain_200 (by decide) ?_
              refine fw_sub [4, 5, 6, 7, 8, 9, 0] rfl ?_
              exact ih h kx
            · replace h := (if_pos c34).symm.trans h
              refine fw_iconst C 1 dX2_traceChain_134 rfl ?_
              refine fw_goto C 139 dX2_traceChain_135 (by decide) ?_
              refine fw_istore C [(11, _), (10, _), (9, _), (0, _), (1, _), (3, _), (5, _), (6, _), (7, _), (8, _)] dX2_traceChain_139 (Nat.le_of_ble_eq_true rfl) rfl ?_
              refine fw_iload C 1 dX2_traceChain_141 rfl ?_
              refine fw_if_eq C 197 dX2_traceChain_143 (by decide) (fun q => absurd q (by decide)) (fun _ => ?_)
              refine fw_iload C 0 dX2_traceChain_146 rfl ?_
              refine fw_if_eq C 197 dX2_traceChain_148 (by decide) (fun q => absurd q (by decide)) (fun _ => ?_)
              refine fw_iload C 7 dX2_traceChain_151 rfl ?_
              refine fw_bipush C 12 dX2_traceChain_153 rfl ?_
              refine fw_icmp_ge C 197 dX2_traceChain_155 (by decide) (fun c35 => ?_) (fun c35 => ?_)
              · replace h := (if_pos c35).symm.trans h
                refine fw_iinc C _ 9 [(8, _), (11, _), (10, _), (9, _), (0, _), (1, _), (3, _), (5, _), (6, _), (7, _)] dX2_traceChain_197 rfl rfl (Nat.le_of_ble_eq_true rfl) rfl ?_
                refine fw_goto C 52 dX2_traceChain_200 (by decide) ?_
                refine fw_sub [4, 5, 6, 7, 8, 9, 0] rfl ?_
                exact ih h kx
              · replace h := (if_neg c35).symm.trans h
                refine fw_iload C 6 dX2_traceChain_158 rfl ?_
                refine fw_iconst C 1 dX2_traceChain_160 rfl ?_
                refine fw_aload C 2 dX2_traceChain_161 rfl ?_
                refine fw_getI C 3 1 (Nat.le_of_ble_eq_true rfl) (Nat.le_of_ble_eq_true rfl) wf_X2_101 rfl (gO_of g19) dX2_traceChain_163 ?_
                refine fw_ishl C dX2_traceChain_166 ?_
                refine fw_ior C dX2_traceChain_167 ?_
                refine fw_bi h (fun y36 h => ?_)
                refine fw_istore C [(5, _), (11, _), (10, _), (9, _), (0, _), (1, _), (3, _), (6, _), (7, _), (8, _)] dX2_traceChain_168 (Nat.le_of_ble_eq_true rfl) rfl ?_
                refine fw_aload_n C 4 dX2_traceChain_170 rfl rfl ?_
                obtain ⟨g37, h⟩ := gd_some h
                refine fw_getR C 2 4 (Nat.le_of_ble_eq_true rfl) (Nat.le_of_ble_eq_true rfl) wf_X2_21 rfl (gO_of g12) (gN_of g37) dX2_traceChain_171 ?_
                refine fw_aload C 3 dX2_traceChain_174 rfl ?_
                refine fw_getI C 3 1 (Nat.le_of_ble_eq_true rfl) (Nat.le_of_ble_eq_true rfl) wf_X2_101 rfl (gO_of g19) dX2_traceChain_176 ?_
                refine fw_iload C 9 dX2_traceChain_179 rfl ?_
                obtain ⟨g38, h⟩ := gd_some h
                refine fw_iast C (gA_of g38) dX2_traceChain_181 ?_
                refine fw_bm h (fun M39 h => ?_)
                refine fw_aload_n C 4 dX2_traceChain_182 rfl rfl ?_
                obtain ⟨g40, h⟩ := gd_some h
                refine fw_getR C 2 3 (Nat.le_of_ble_eq_true rfl) (Nat.le_of_ble_eq_true rfl) wf_X2_18 rfl (gO_of g12) (gN_of g40) dX2_traceChain_183 ?_
                refine fw_iload C 7 dX2_traceChain_186 rfl ?_
                refine fw_aload C 3 dX2_traceChain_188 rfl ?_
                refine fw_getI C 3 1 (Nat.le_of_ble_eq_true rfl) (Nat.le_of_ble_eq_true rfl) wf_X2_101 rfl (gO_of g19) dX2_traceChain_190 ?_
                obtain ⟨g41, h⟩ := gd_some h
                refine fw_iast C (gA_of g41) dX2_traceChain_193 ?_
                refine fw_bm h (fun M42 h => ?_)
                refine fw_iinc C _ 7 [(6, _), (5, _), (11, _), (10, _), (9, _), (0, _), (1, _), (3, _), (7, _), (8, _)] dX2_traceChain_194 rfl rfl (Nat.le_of_ble_eq_true rfl) rfl ?_
                refine fw_iinc C _ 9 [(8, _), (6, _), (5, _), (11, _), (10, _), (9, _), (0, _), (1, _), (3, _), (7, _)] dX2_traceChain_197 rfl rfl (Nat.le_of_ble_eq_true rfl) rfl ?_
                refine fw_goto C 52 dX2_traceChain_200 (by decide) ?_
                refine fw_sub [6, 7, 8, 2, 1, 9, 0] rfl ?_
                exact ih h kx
set_option maxRecDepth 100000 in
def lf_X2_traceChain_35 (S : List fw_Sh) (a0 : Nat) (a1 : Nat) (x3 : Int32) : Nat → Int32 → Int32 → Int32 → fw_Mem → Option (fw_Mem)
  | 0, _, _, _, _ => none
  | n + 1, x5, x6, x7, M => if x6 ≤ x7 then (some M) else (if (12 : Int32) ≤ x7 then (some M) else (b1 (lf_X2_traceChain_52 S a0 a1 x3 x7 20000 x5 x6 0 M) (fun l43 => lf_X2_traceChain_35 S a0 a1 x3 n l43.1 l43.2.1 (x7 + 1) l43.2.2)))
set_option maxHeartbeats 4000000 in
set_option maxRecDepth 100000 in
theorem lc_X2_traceChain_35 {G : fw_G} {p : Program} {l : Launch} {e : Env} {s : State} {m : MethodId} {args : Array Value} {below : List Frame} {meth : Method} {c : Code} {S : List fw_Sh} {o : fw_O} {a0 : Nat} {a1 : Nat} {x3 : Int32} (C : fw_C G RX2 cX2_traceChain 12 p s m args c) (hr : meth.sig.returnType = (some .int)) (hlk : meth.locks = false) (hl : l.stackTraces = false) (ht : ∀ x ∈ c.exceptionTable.toList, False) :
    ∀ {n : Nat} {x5 : Int32} {x6 : Int32} {x7 : Int32} {M : fw_Mem} {r : (fw_Mem)} (h : lf_X2_traceChain_35 S a0 a1 x3 n x5 x6 x7 M = some r) (kx : fw_W G p l e (fw_rm 4 (fw_mcO o) (fw_msO o)) s m args below meth c 12 (fw_Z G below args s (fw_mcO o) (fw_msO o) o) 0 0 209 [(0, .ref a0), (3, .int x3)] [] S r), fw_W G p l e (fw_rm 4 (fw_mcO o) (fw_msO o)) s m args below meth c 12 (fw_Z G below args s (fw_mcO o) (fw_msO o) o) 0 0 35 [(0, .ref a0), (1, .ref a1), (3, .int x3), (5, .int x5), (6, .int x6), (7, .int x7)] [] S M := by
  intro n
  induction n with
  | zero =>
    intro x5 x6 x7 M r h
    exact nomatch (show (none : Option (fw_Mem)) = some r from h)
  | succ n ih =>
    intro x5 x6 x7 M r h kx
    rw [lf_X2_traceChain_35.eq_2] at h
    refine fw_iload C 5 dX2_traceChain_35 rfl ?_
    refine fw_iload C 4 dX2_traceChain_37 rfl ?_
    refine fw_icmp_ge C 209 dX2_traceChain_39 (by decide) (fun c10 => ?_) (fun c10 => ?_)
    · replace h := (if_pos c10).symm.trans h
      obtain rfl := Option.some.inj h
      refine fw_sub [0, 2] rfl ?_
      exact kx
    · replace h := (if_neg c10).symm.trans h
      refine fw_iload C 5 dX2_traceChain_42 rfl ?_
      refine fw_bipush C 12 dX2_traceChain_44 rfl ?_
      refine fw_icmp_ge C 209 dX2_traceChain_46 (by decide) (fun c11 => ?_) (fun c11 => ?_)
      · replace h := (if_pos c11).symm.trans h
        obtain rfl := Option.some.inj h
        refine fw_sub [0, 2] rfl ?_
        exact kx
      · replace h := (if_neg c11).symm.trans h
        refine fw_iconst C 0 dX2_traceChain_49 rfl ?_
        refine fw_istore C [(8, _), (0, _), (1, _), (3, _), (5, _), (6, _), (7, _)] dX2_traceChain_50 (Nat.le_of_ble_eq_true rfl) rfl ?_
        refine fw_sub [1, 2, 3, 4, 5, 6, 0] rfl ?_
        obtain ⟨l43, e43, h⟩ := b1_some h
        refine lc_X2_traceChain_52 C hr hlk hl ht e43 ?_
        refine fw_iinc C _ 5 [(7, _), (0, _), (1, _), (3, _), (5, _), (6, _)] dX2_traceChain_203 rfl rfl (Nat.le_of_ble_eq_true rfl) rfl ?_
        refine fw_goto C 35 dX2_traceChain_206 (by decide) ?_
        refine fw_sub [1, 2, 3, 4, 5, 0] rfl ?_
        exact ih h kx
set_option maxRecDepth 100000 in
def f_X2_traceChain (S : List fw_Sh) (M : fw_Mem) (a0 : Nat) (a1 : Nat) (x2 : Int32) (x3 : Int32) : Option (Int32 × fw_Mem) := gd (gO S 2 a0) (gd (gN (M a0 4)) (b1 (f_J7_fill_53178 S M ((M a0 4).toNatClampNeg) (-1)) (fun M3 => gd (gO S 6 a1) (b1 (f_X6_party S M3 a1 x2) (fun v4 => bm ((1 : Int32) <<< (v4 &&& 31)) (fun y6 => gd (gN (M3 a0 3)) (gd (gA S 0 ((M3 a0 3).toNatClampNeg) 0) (bm (fw_set M3 ((M3 a0 3).toNatClampNeg) 0 v4) (fun M9 => b1 (lf_X2_traceChain_35 S a0 a1 x3 20000 y6 1 0 M9) (fun l44 => b2 (f_X2_goBack S l44 a0 x3) (fun v45 M45 => some (v45, M45))))))))))))
set_option maxHeartbeats 4000000 in
set_option maxRecDepth 100000 in
theorem c_X2_traceChain {l : Launch} {G : fw_G} {S : List fw_Sh} {M : fw_Mem} {a0 : Nat} {a1 : Nat} {x2 : Int32} {x3 : Int32} {r : (Int32 × fw_Mem)} (hl : l.stackTraces = false) (h : f_X2_traceChain S M a0 a1 x2 x3 = some r) : fw_M l G yX2_traceChain (.code yX2_traceChain cX2_traceChain 12 (some .int)) 4 (fw_mcO (.inl (some (.int r.1)), S, r.2)) (fw_msO (.inl (some (.int r.1)), S, r.2)) S M [.ref a0, .ref a1, .int x2, .int x3] (.inl (some (.int r.1)), S, r.2) := by
  refine fw_of [(0, .ref a0), (1, .ref a1), (2, .int x2), (3, .int x3)] (by decide) (Nat.le_of_ble_eq_true rfl) rfl ?_
  intro p e s m args below meth c C hr hlk hnm ht _
  unfold f_X2_traceChain at h
  refine fw_aload_n C 0 dX2_traceChain_0 rfl rfl ?_
  obtain ⟨g1, h⟩ := gd_some h
  obtain ⟨g2, h⟩ := gd_some h
  refine fw_getR C 2 4 (Nat.le_of_ble_eq_true rfl) (Nat.le_of_ble_eq_true rfl) wf_X2_21 rfl (gO_of g1) (gN_of g2) dX2_traceChain_1 ?_
  refine fw_iconst C (-1) dX2_traceChain_4 rfl ?_
  obtain ⟨M3, e3, h⟩ := b1_some h
  refine fw_callS [_, _] C (c_J7_fill_53178 hl e3) cal_J7_fill_53178 wm_X2_104 wt_yJ7_fill_53178 rfl (Nat.le_of_ble_eq_true rfl) ⟨Nat.le_of_ble_eq_true rfl, Nat.le_of_ble_eq_true rfl⟩ ⟨Nat.zero_le _, Nat.zero_le _⟩ dX2_traceChain_5 ?_
  refine fw_aload_n C 1 dX2_traceChain_8 rfl rfl ?_
  refine fw_iload_n C 2 dX2_traceChain_9 rfl rfl ?_
  obtain ⟨g5, h⟩ := gd_some h
  obtain ⟨v4, e4, h⟩ := b1_some h
  refine fw_callV (ci := 6) [_] C (c_X6_party hl e4) cal_X6_party wm_X2_110 wi_yX6_party wsl_yX6_party (Nat.le_of_ble_eq_true rfl) rfl (gO_of g5) rfl (Nat.le_of_ble_eq_true rfl) ⟨Nat.le_of_ble_eq_true rfl, Nat.le_of_ble_eq_true rfl⟩ ⟨Nat.zero_le _, Nat.zero_le _⟩ dX2_traceChain_10 ?_
  refine fw_istore C [(4, _), (0, _), (1, _), (2, _), (3, _)] dX2_traceChain_13 (Nat.le_of_ble_eq_true rfl) rfl ?_
  refine fw_iconst C 1 dX2_traceChain_15 rfl ?_
  refine fw_iload C 0 dX2_traceChain_16 rfl ?_
  refine fw_ishl C dX2_traceChain_18 ?_
  refine fw_bi h (fun y6 h => ?_)
  refine fw_istore C [(5, _), (4, _), (0, _), (1, _), (2, _), (3, _)] dX2_traceChain_19 (Nat.le_of_ble_eq_true rfl) rfl ?_
  refine fw_aload_n C 2 dX2_traceChain_21 rfl rfl ?_
  obtain ⟨g7, h⟩ := gd_some h
  refine fw_getR C 2 3 (Nat.le_of_ble_eq_true rfl) (Nat.le_of_ble_eq_true rfl) wf_X2_18 rfl (gO_of g1) (gN_of g7) dX2_traceChain_22 ?_
  refine fw_iconst C 0 dX2_traceChain_25 rfl ?_
  refine fw_iload C 1 dX2_traceChain_26 rfl ?_
  obtain ⟨g8, h⟩ := gd_some h
  refine fw_iast C (gA_of g8) dX2_traceChain_28 ?_
  refine fw_bm h (fun M9 h => ?_)
  refine fw_iconst C 1 dX2_traceChain_29 rfl ?_
  refine fw_istore C [(6, _), (5, _), (4, _), (0, _), (1, _), (2, _), (3, _)] dX2_traceChain_30 (Nat.le_of_ble_eq_true rfl) rfl ?_
  refine fw_iconst C 0 dX2_traceChain_32 rfl ?_
  refine fw_istore C [(7, _), (6, _), (5, _), (4, _), (0, _), (1, _), (2, _), (3, _)] dX2_traceChain_33 (Nat.le_of_ble_eq_true rfl) rfl ?_
  refine fw_sub [4, 5, 7, 2, 1, 0] rfl ?_
  obtain ⟨l44, e44, h⟩ := b1_some h
  refine lc_X2_traceChain_35 C hr hlk hl ht e44 ?_
  refine fw_aload_n C 0 dX2_traceChain_209 rfl rfl ?_
  refine fw_iload_n C 1 dX2_traceChain_210 rfl rfl ?_
  obtain ⟨v45, M45, e45, h⟩ := b2_some h
  refine fw_callV (ci := 2) [_] C (c_X2_goBack hl e45) cal_X2_goBack wm_X2_116 wi_yX2_goBack wsl_yX2_goBack (Nat.le_of_ble_eq_true rfl) rfl (gO_of g1) rfl (Nat.le_of_ble_eq_true rfl) ⟨Nat.le_of_ble_eq_true rfl, Nat.le_of_ble_eq_true rfl⟩ ⟨Nat.zero_le _, Nat.zero_le _⟩ dX2_traceChain_211 ?_
  obtain rfl := Option.some.inj h
  exact fw_iret C hr hlk dX2_traceChain_214
set_option maxRecDepth 100000 in
def f_X9_chain (S : List fw_Sh) (M : fw_Mem) (a0 : Nat) (x1 : Int32) (x2 : Int32) (x3 : Int32) (x4 : Int32) : Option ((Int32 ⊕ String) × fw_Mem) := gd (gO S 9 a0) (b1 (f_X9_suitAt S M a0 x1) (fun v1 => bx v1 (fun u1 => bn u1 none (fun w1 => b1 (f_X9_needPerson S M a0 x3) (fun v3 => bx v3 (fun _ => b1 (f_X9_needSide S M a0 x2) (fun v4 => bx v4 (fun _ => gd (gO S 6 w1) (b1 (f_X6_boundOn S M w1 x2) (fun v5 => if ((v5 >>> (x3 &&& 31)) &&& 1) = 0 then (some (.inl (-1), M)) else (gd (gN (M a0 5)) (gd (gO S 2 ((M a0 5).toNatClampNeg)) (b2 (f_X2_traceChain S M ((M a0 5).toNatClampNeg) w1 x2 x3) (fun v9 M9 => if x4 = (-1) then (some (.inl v9, M9)) else (if x4 < 0 then (some (.inr exN, M9)) else (if x4 < v9 then (gd (gN (M9 a0 5)) (gd (gO S 2 ((M9 a0 5).toNatClampNeg)) (b1 (f_X2_chainLink S M9 ((M9 a0 5).toNatClampNeg) v9 x4) (fun v15 => some (.inl v15, M9))))) else (some (.inr exN, M9))))))))))) (fun E4 => some (.inr E4, M)))) (fun E3 => some (.inr E3, M))))) (fun E1 => some (.inr E1, M))))
set_option maxHeartbeats 4000000 in
set_option maxRecDepth 100000 in
theorem c_X9_chain {l : Launch} {G : fw_G} {S : List fw_Sh} {M : fw_Mem} {a0 : Nat} {x1 : Int32} {x2 : Int32} {x3 : Int32} {x4 : Int32} {r : ((Int32 ⊕ String) × fw_Mem)} (hl : l.stackTraces = false) (h : f_X9_chain S M a0 x1 x2 x3 x4 = some r) : fw_M l G yX9_chain (.code yX9_chain cX9_chain 7 (some .int)) 7 (fw_mcO (fw_oI r.1, S, r.2)) (fw_msO (fw_oI r.1, S, r.2)) S M [.ref a0, .int x1, .int x2, .int x3, .int x4] (fw_oI r.1, S, r.2) := by
  refine fw_of [(0, .ref a0), (1, .int x1), (2, .int x2), (3, .int x3), (4, .int x4)] (by decide) (Nat.le_of_ble_eq_true rfl) rfl ?_
  intro p e s m args below meth c C hr hlk hnm ht _
  unfold f_X9_chain at h
  refine fw_aload_n C 0 dX9_chain_0 rfl rfl ?_
  refine fw_iload_n C 1 dX9_chain_1 rfl rfl ?_
  obtain ⟨g2, h⟩ := gd_some h
  obtain ⟨v1, e1, h⟩ := b1_some h
  rcases v1 with u1 | E1
  rotate_left
  · replace h := bx_r h
    obtain rfl := Option.some.inj h
    exact fw_callVX (ci := 9) [_] C (c_X9_suitAt hl e1) cal_X9_suitAt wm_X9_177 wi_yX9_suitAt wsl_yX9_suitAt (Nat.le_of_ble_eq_true rfl) rfl (gO_of g2) rfl (Nat.le_of_ble_eq_true rfl) ⟨Nat.le_of_ble_eq_true rfl, Nat.le_of_ble_eq_true rfl⟩ ⟨Nat.le_refl _, Nat.le_refl _⟩ dX9_chain_2 ht hlk
  replace h := bx_l h
  rcases u1 with _ | w1
  · cases h
  refine fw_callV (ci := 9) [_] C (c_X9_suitAt hl e1) cal_X9_suitAt wm_X9_177 wi_yX9_suitAt wsl_yX9_suitAt (Nat.le_of_ble_eq_true rfl) rfl (gO_of g2) rfl (Nat.le_of_ble_eq_true rfl) ⟨Nat.le_of_ble_eq_true rfl, Nat.le_of_ble_eq_true rfl⟩ ⟨Nat.zero_le _, Nat.zero_le _⟩ dX9_chain_2 ?_
  refine fw_astore C [(5, _), (0, _), (1, _), (2, _), (3, _), (4, _)] dX9_chain_5 (Nat.le_of_ble_eq_true rfl) rfl ?_
  refine fw_aload_n C 1 dX9_chain_7 rfl rfl ?_
  refine fw_iload_n C 4 dX9_chain_8 rfl rfl ?_
  obtain ⟨v3, e3, h⟩ := b1_some h
  rcases v3 with u3 | E3
  rotate_left
  · replace h := bx_r h
    obtain rfl := Option.some.inj h
    exact fw_callVX (ci := 9) [_] C (c_X9_needPerson hl e3) cal_X9_needPerson wm_X9_142 wi_yX9_needPerson wsl_yX9_needPerson (Nat.le_of_ble_eq_true rfl) rfl (gO_of g2) rfl (Nat.le_of_ble_eq_true rfl) ⟨Nat.le_of_ble_eq_true rfl, Nat.le_of_ble_eq_true rfl⟩ ⟨Nat.le_refl _, Nat.le_refl _⟩ dX9_chain_9 ht hlk
  replace h := bx_l h
  refine fw_callV (ci := 9) [_] C (c_X9_needPerson hl e3) cal_X9_needPerson wm_X9_142 wi_yX9_needPerson wsl_yX9_needPerson (Nat.le_of_ble_eq_true rfl) rfl (gO_of g2) rfl (Nat.le_of_ble_eq_true rfl) ⟨Nat.le_of_ble_eq_true rfl, Nat.le_of_ble_eq_true rfl⟩ ⟨Nat.zero_le _, Nat.zero_le _⟩ dX9_chain_9 ?_
  refine fw_aload_n C 1 dX9_chain_12 rfl rfl ?_
  refine fw_iload_n C 3 dX9_chain_13 rfl rfl ?_
  obtain ⟨v4, e4, h⟩ := b1_some h
  rcases v4 with u4 | E4
  rotate_left
  · replace h := bx_r h
    obtain rfl := Option.some.inj h
    exact fw_callVX (ci := 9) [_] C (c_X9_needSide hl e4) cal_X9_needSide wm_X9_232 wi_yX9_needSide wsl_yX9_needSide (Nat.le_of_ble_eq_true rfl) rfl (gO_of g2) rfl (Nat.le_of_ble_eq_true rfl) ⟨Nat.le_of_ble_eq_true rfl, Nat.le_of_ble_eq_true rfl⟩ ⟨Nat.le_refl _, Nat.le_refl _⟩ dX9_chain_14 ht hlk
  replace h := bx_l h
  refine fw_callV (ci := 9) [_] C (c_X9_needSide hl e4) cal_X9_needSide wm_X9_232 wi_yX9_needSide wsl_yX9_needSide (Nat.le_of_ble_eq_true rfl) rfl (gO_of g2) rfl (Nat.le_of_ble_eq_true rfl) ⟨Nat.le_of_ble_eq_true rfl, Nat.le_of_ble_eq_true rfl⟩ ⟨Nat.zero_le _, Nat.zero_le _⟩ dX9_chain_14 ?_
  refine fw_aload C 0 dX9_chain_17 rfl ?_
  refine fw_iload_n C 3 dX9_chain_19 rfl rfl ?_
  obtain ⟨g6, h⟩ := gd_some h
  obtain ⟨v5, e5, h⟩ := b1_some h
  refine fw_callV (ci := 6) [_] C (c_X6_boundOn hl e5) cal_X6_boundOn wm_X9_235 wi_yX6_boundOn wsl_yX6_boundOn (Nat.le_of_ble_eq_true rfl) rfl (gO_of g6) rfl (Nat.le_of_ble_eq_true rfl) ⟨Nat.le_of_ble_eq_true rfl, Nat.le_of_ble_eq_true rfl⟩ ⟨Nat.zero_le _, Nat.zero_le _⟩ dX9_chain_20 ?_
  refine fw_iload_n C 4 dX9_chain_23 rfl rfl ?_
  refine fw_ishr C dX9_chain_24 ?_
  refine fw_iconst C 1 dX9_chain_25 rfl ?_
  refine fw_iand C dX9_chain_26 ?_
  refine fw_if_ne C 32 dX9_chain_27 (by decide) (fun c7 => ?_) (fun c7 => ?_)
  · replace h := (if_neg c7).symm.trans h
    refine fw_aload_n C 1 dX9_chain_32 rfl rfl ?_
    obtain ⟨g8, h⟩ := gd_some h
    refine fw_getR C 9 5 (Nat.le_of_ble_eq_true rfl) (Nat.le_of_ble_eq_true rfl) wf_X9_45 rfl (gO_of g2) (gN_of g8) dX9_chain_33 ?_
    refine fw_aload C 0 dX9_chain_36 rfl ?_
    refine fw_iload_n C 3 dX9_chain_38 rfl rfl ?_
    refine fw_iload_n C 4 dX9_chain_39 rfl rfl ?_
    obtain ⟨g10, h⟩ := gd_some h
    obtain ⟨v9, M9, e9, h⟩ := b2_some h
    refine fw_callV (ci := 2) [_, _, _] C (c_X2_traceChain hl e9) cal_X2_traceChain wm_X9_238 wi_yX2_traceChain wsl_yX2_traceChain (Nat.le_of_ble_eq_true rfl) rfl (gO_of g10) rfl (Nat.le_of_ble_eq_true rfl) ⟨Nat.le_of_ble_eq_true rfl, Nat.le_of_ble_eq_true rfl⟩ ⟨Nat.zero_le _, Nat.zero_le _⟩ dX9_chain_40 ?_
    refine fw_istore C [(6, _), (5, _), (0, _), (1, _), (2, _), (3, _), (4, _)] dX9_chain_43 (Nat.le_of_ble_eq_true rfl) rfl ?_
    refine fw_iload C 6 dX9_chain_45 rfl ?_
    refine fw_iconst C (-1) dX9_chain_47 rfl ?_
    refine fw_icmp_ne C 54 dX9_chain_48 (by decide) (fun c11 => ?_) (fun c11 => ?_)
    · replace h := (if_neg c11).symm.trans h
      refine fw_iload C 6 dX9_chain_54 rfl ?_
      refine fw_if_lt C 66 dX9_chain_56 (by decide) (fun c12 => ?_) (fun c12 => ?_)
      · replace h := (if_pos c12).symm.trans h
        obtain rfl := Option.some.inj h
        exact fw_throwS C hl fw_exN (i := 41) (List.mem_of_getElem? (i := 27) rfl) dX9_chain_66 dX9_chain_69 dX9_chain_70 dX9_chain_72 dX9_chain_75 ht hlk (Nat.le_of_ble_eq_true rfl) (Nat.le_of_ble_eq_true rfl) (Nat.le_refl _) (Nat.le_refl _)
      · replace h := (if_neg c12).symm.trans h
        refine fw_iload C 6 dX9_chain_59 rfl ?_
        refine fw_iload C 0 dX9_chain_61 rfl ?_
        refine fw_icmp_lt C 76 dX9_chain_63 (by decide) (fun c13 => ?_) (fun c13 => ?_)
        · replace h := (if_pos c13).symm.trans h
          refine fw_aload_n C 2 dX9_chain_76 rfl rfl ?_
          obtain ⟨g14, h⟩ := gd_some h
          refine fw_getR C 9 5 (Nat.le_of_ble_eq_true rfl) (Nat.le_of_ble_eq_true rfl) wf_X9_45 rfl (gO_of g2) (gN_of g14) dX9_chain_77 ?_
          refine fw_iload C 0 dX9_chain_80 rfl ?_
          refine fw_iload C 6 dX9_chain_82 rfl ?_
          obtain ⟨g16, h⟩ := gd_some h
          obtain ⟨v15, e15, h⟩ := b1_some h
          refine fw_callV (ci := 2) [_, _] C (c_X2_chainLink hl e15) cal_X2_chainLink wm_X9_244 wi_yX2_chainLink wsl_yX2_chainLink (Nat.le_of_ble_eq_true rfl) rfl (gO_of g16) rfl (Nat.le_of_ble_eq_true rfl) ⟨Nat.le_of_ble_eq_true rfl, Nat.le_of_ble_eq_true rfl⟩ ⟨Nat.zero_le _, Nat.zero_le _⟩ dX9_chain_84 ?_
          obtain rfl := Option.some.inj h
          exact fw_iret C hr hlk dX9_chain_87
        · replace h := (if_neg c13).symm.trans h
          obtain rfl := Option.some.inj h
          exact fw_throwS C hl fw_exN (i := 41) (List.mem_of_getElem? (i := 27) rfl) dX9_chain_66 dX9_chain_69 dX9_chain_70 dX9_chain_72 dX9_chain_75 ht hlk (Nat.le_of_ble_eq_true rfl) (Nat.le_of_ble_eq_true rfl) (Nat.le_refl _) (Nat.le_refl _)
    · replace h := (if_pos c11).symm.trans h
      refine fw_iload C 0 dX9_chain_51 rfl ?_
      obtain rfl := Option.some.inj h
      exact fw_iret C hr hlk dX9_chain_53
  · replace h := (if_pos c7).symm.trans h
    refine fw_iconst C (-1) dX9_chain_30 rfl ?_
    obtain rfl := Option.some.inj h
    exact fw_iret C hr hlk dX9_chain_31
set_option maxRecDepth 100000 in
def f_X2_areSame (S : List fw_Sh) (M : fw_Mem) (a0 : Nat) (a1 : Nat) (a2 : Nat) : Option Int32 := gd (gO S 6 a1) (gd (gO S 6 a2) (b1 (f_J6_bitCount_0f7a4 S M ((M a1 4) &&& (M a2 4))) (fun v3 => b1 (f_J6_bitCount_0f7a4 S M (M a1 4)) (fun v4 => b1 (f_J6_bitCount_0f7a4 S M (M a2 4)) (fun v5 => bm (if v5 < v4 then v5 else v4) (fun y6 => if v3 ≤ 0 then (some 0) else (gd (gO S 2 a0) (gd (gN (M a0 0)) (gd (gO S 4 ((M a0 0).toNatClampNeg)) (gd (gN (M ((M a0 0).toNatClampNeg) 3)) (gd (gA S 0 ((M ((M a0 0).toNatClampNeg) 3).toNatClampNeg) 0) (if (v3 * 100) < ((M ((M ((M a0 0).toNatClampNeg) 3).toNatClampNeg) 0) * y6) then (some 0) else (some 1)))))))))))))
set_option maxHeartbeats 4000000 in
set_option maxRecDepth 100000 in
theorem c_X2_areSame {l : Launch} {G : fw_G} {S : List fw_Sh} {M : fw_Mem} {a0 : Nat} {a1 : Nat} {a2 : Nat} {r : Int32} (hl : l.stackTraces = false) (h : f_X2_areSame S M a0 a1 a2 = some r) : fw_M l G yX2_areSame (.code yX2_areSame cX2_areSame 5 (some .boolean)) 2 (fw_mcO (.inl (some (.int r)), S, M)) (fw_msO (.inl (some (.int r)), S, M)) S M [.ref a0, .ref a1, .ref a2] (.inl (some (.int r)), S, M) := by
  refine fw_of [(0, .ref a0), (1, .ref a1), (2, .ref a2)] (by decide) (Nat.le_of_ble_eq_true rfl) rfl ?_
  intro p e s m args below meth c C hr hlk hnm ht _
  unfold f_X2_areSame at h
  refine fw_aload_n C 1 dX2_areSame_0 rfl rfl ?_
  obtain ⟨g1, h⟩ := gd_some h
  refine fw_getI C 6 4 (Nat.le_of_ble_eq_true rfl) (Nat.le_of_ble_eq_true rfl) wf_X2_131 rfl (gO_of g1) dX2_areSame_1 ?_
  refine fw_aload_n C 2 dX2_areSame_4 rfl rfl ?_
  obtain ⟨g2, h⟩ := gd_some h
  refine fw_getI C 6 4 (Nat.le_of_ble_eq_true rfl) (Nat.le_of_ble_eq_true rfl) wf_X2_131 rfl (gO_of g2) dX2_areSame_5 ?_
  refine fw_iand C dX2_areSame_8 ?_
  obtain ⟨v3, e3, h⟩ := b1_some h
  refine fw_callS [_] C (c_J6_bitCount_0f7a4 hl e3) cal_J6_bitCount_0f7a4 wm_X2_134 wt_yJ6_bitCount_0f7a4 rfl (Nat.le_of_ble_eq_true rfl) ⟨Nat.le_of_ble_eq_true rfl, Nat.le_of_ble_eq_true rfl⟩ ⟨Nat.zero_le _, Nat.zero_le _⟩ dX2_areSame_9 ?_
  refine fw_istore_n C [(3, _), (0, _), (1, _), (2, _)] dX2_areSame_12 rfl (Nat.le_of_ble_eq_true rfl) rfl ?_
  refine fw_aload_n C 2 dX2_areSame_13 rfl rfl ?_
  refine fw_getI C 6 4 (Nat.le_of_ble_eq_true rfl) (Nat.le_of_ble_eq_true rfl) wf_X2_131 rfl (gO_of g1) dX2_areSame_14 ?_
  obtain ⟨v4, e4, h⟩ := b1_some h
  refine fw_callS [_] C (c_J6_bitCount_0f7a4 hl e4) cal_J6_bitCount_0f7a4 wm_X2_134 wt_yJ6_bitCount_0f7a4 rfl (Nat.le_of_ble_eq_true rfl) ⟨Nat.le_of_ble_eq_true rfl, Nat.le_of_ble_eq_true rfl⟩ ⟨Nat.zero_le _, Nat.zero_le _⟩ dX2_areSame_17 ?_
  refine fw_aload_n C 3 dX2_areSame_20 rfl rfl ?_
  refine fw_getI C 6 4 (Nat.le_of_ble_eq_true rfl) (Nat.le_of_ble_eq_true rfl) wf_X2_131 rfl (gO_of g2) dX2_areSame_21 ?_
  obtain ⟨v5, e5, h⟩ := b1_some h
  refine fw_callS [_] C (c_J6_bitCount_0f7a4 hl e5) cal_J6_bitCount_0f7a4 wm_X2_134 wt_yJ6_bitCount_0f7a4 rfl (Nat.le_of_ble_eq_true rfl) ⟨Nat.le_of_ble_eq_true rfl, Nat.le_of_ble_eq_true rfl⟩ ⟨Nat.zero_le _, Nat.zero_le _⟩ dX2_areSame_24 ?_
  refine fw_min C wm_X2_139 (Nat.le_of_ble_eq_true rfl) (Nat.le_of_ble_eq_true rfl) (Nat.le_of_ble_eq_true rfl) (Nat.zero_le _) (Nat.zero_le _) dX2_areSame_27 ?_
  refine fw_bi h (fun y6 h => ?_)
  refine fw_istore C [(4, _), (3, _), (0, _), (1, _), (2, _)] dX2_areSame_30 (Nat.le_of_ble_eq_true rfl) rfl ?_
  refine fw_iload_n C 1 dX2_areSame_32 rfl rfl ?_
  refine fw_if_le C 59 dX2_areSame_33 (by decide) (fun c7 => ?_) (fun c7 => ?_)
  · replace h := (if_pos c7).symm.trans h
    refine fw_iconst C 0 dX2_areSame_59 rfl ?_
    obtain rfl := Option.some.inj h
    exact fw_zret C hr (Or.inl rfl) hlk dX2_areSame_60
  · replace h := (if_neg c7).symm.trans h
    refine fw_iload_n C 1 dX2_areSame_36 rfl rfl ?_
    refine fw_bipush C 100 dX2_areSame_37 rfl ?_
    refine fw_imul C dX2_areSame_39 ?_
    refine fw_aload_n C 2 dX2_areSame_40 rfl rfl ?_
    obtain ⟨g8, h⟩ := gd_some h
    obtain ⟨g9, h⟩ := gd_some h
    refine fw_getR C 2 0 (Nat.le_of_ble_eq_true rfl) (Nat.le_of_ble_eq_true rfl) wf_X2_27 rfl (gO_of g8) (gN_of g9) dX2_areSame_41 ?_
    obtain ⟨g10, h⟩ := gd_some h
    obtain ⟨g11, h⟩ := gd_some h
    refine fw_getR C 4 3 (Nat.le_of_ble_eq_true rfl) (Nat.le_of_ble_eq_true rfl) wf_X2_41 rfl (gO_of g10) (gN_of g11) dX2_areSame_44 ?_
    refine fw_iconst C 0 dX2_areSame_47 rfl ?_
    obtain ⟨g12, h⟩ := gd_some h
    refine fw_iald C (gA_of g12) dX2_areSame_48 ?_
    refine fw_iload C 0 dX2_areSame_49 rfl ?_
    refine fw_imul C dX2_areSame_51 ?_
    refine fw_icmp_lt C 59 dX2_areSame_52 (by decide) (fun c13 => ?_) (fun c13 => ?_)
    · replace h := (if_pos c13).symm.trans h
      refine fw_iconst C 0 dX2_areSame_59 rfl ?_
      obtain rfl := Option.some.inj h
      exact fw_zret C hr (Or.inl rfl) hlk dX2_areSame_60
    · replace h := (if_neg c13).symm.trans h
      refine fw_iconst C 1 dX2_areSame_55 rfl ?_
      refine fw_goto C 60 dX2_areSame_56 (by decide) ?_
      obtain rfl := Option.some.inj h
      exact fw_zret C hr (Or.inr rfl) hlk dX2_areSame_60
set_option maxRecDepth 100000 in
def fj_X2_barsWhatComes_72 (S : List fw_Sh) (M : fw_Mem) (a0 : Nat) (a1 : Nat) (a2 : Nat) (x5 : Int32) (z0 : Int32) : Option Int32 := if x5 = 0 then (if z0 = 0 then (some 0) else (gd (gO S 2 a0) (gd (gN (M a0 0)) (gd (gO S 4 ((M a0 0).toNatClampNeg)) (gd (gN (M ((M a0 0).toNatClampNeg) 3)) (gd (gA S 0 ((M ((M a0 0).toNatClampNeg) 3).toNatClampNeg) 1) (if (M ((M ((M a0 0).toNatClampNeg) 3).toNatClampNeg) 1) = 2 then (b1 (f_X2_areSame S M a0 a1 a2) (fun v18 => if v18 = 0 then (some 0) else (some 1))) else (some 0)))))))) else (gd (gO S 2 a0) (b1 (f_X2_areSame S M a0 a1 a2) (fun v8 => if v8 = 0 then (some 0) else (some 1))))
set_option maxHeartbeats 4000000 in
set_option maxRecDepth 100000 in
theorem jc_X2_barsWhatComes_72 {G : fw_G} {p : Program} {l : Launch} {e : Env} {s : State} {m : MethodId} {args : Array Value} {below : List Frame} {meth : Method} {c : Code} {S : List fw_Sh} {M : fw_Mem} {a0 : Nat} {a1 : Nat} {a2 : Nat} {x5 : Int32} {z0 : Int32} {r : Int32} {o : fw_O} (C : fw_C G RX2 cX2_barsWhatComes 7 p s m args c) (hr : meth.sig.returnType = (some .boolean)) (hlk : meth.locks = false) (hl : l.stackTraces = false) (ht : ∀ x ∈ c.exceptionTable.toList, False) (ho : o = (.inl (some (.int r)), S, M)) (h : fj_X2_barsWhatComes_72 S M a0 a1 a2 x5 z0 = some r) :
    fw_W G p l e (fw_rm 3 (fw_mcO o) (fw_msO o)) s m args below meth c 7 (fw_Z G below args s (fw_mcO o) (fw_msO o) o) 0 0 72 [(0, .ref a0), (1, .ref a1), (2, .ref a2), (5, .int x5)] [.int z0] S M := by
  subst ho
  unfold fj_X2_barsWhatComes_72 at h
  refine fw_istore C [(6, _), (0, _), (1, _), (2, _), (5, _)] dX2_barsWhatComes_72 (Nat.le_of_ble_eq_true rfl) rfl ?_
  refine fw_iload C 4 dX2_barsWhatComes_74 rfl ?_
  refine fw_if_ne C 97 dX2_barsWhatComes_76 (by decide) (fun c7 => ?_) (fun c7 => ?_)
  · replace h := (if_neg c7).symm.trans h
    refine fw_aload_n C 1 dX2_barsWhatComes_97 rfl rfl ?_
    refine fw_aload_n C 2 dX2_barsWhatComes_98 rfl rfl ?_
    refine fw_aload_n C 3 dX2_barsWhatComes_99 rfl rfl ?_
    obtain ⟨g9, h⟩ := gd_some h
    obtain ⟨v8, e8, h⟩ := b1_some h
    refine fw_callV (ci := 2) [_, _] C (c_X2_areSame hl e8) cal_X2_areSame wm_X2_149 wi_yX2_areSame wsl_yX2_areSame (Nat.le_of_ble_eq_true rfl) rfl (gO_of g9) rfl (Nat.le_of_ble_eq_true rfl) ⟨Nat.le_of_ble_eq_true rfl, Nat.le_of_ble_eq_true rfl⟩ ⟨Nat.zero_le _, Nat.zero_le _⟩ dX2_barsWhatComes_100 ?_
    refine fw_if_eq C 110 dX2_barsWhatComes_103 (by decide) (fun c10 => ?_) (fun c10 => ?_)
    · replace h := (if_pos c10).symm.trans h
      refine fw_iconst C 0 dX2_barsWhatComes_110 rfl ?_
      obtain rfl := Option.some.inj h
      exact fw_zret C hr (Or.inl rfl) hlk dX2_barsWhatComes_111
    · replace h := (if_neg c10).symm.trans h
      refine fw_iconst C 1 dX2_barsWhatComes_106 rfl ?_
      refine fw_goto C 111 dX2_barsWhatComes_107 (by decide) ?_
      obtain rfl := Option.some.inj h
      exact fw_zret C hr (Or.inr rfl) hlk dX2_barsWhatComes_111
  · replace h := (if_pos c7).symm.trans h
    refine fw_iload C 0 dX2_barsWhatComes_79 rfl ?_
    refine fw_if_eq C 110 dX2_barsWhatComes_81 (by decide) (fun c11 => ?_) (fun c11 => ?_)
    · replace h := (if_pos c11).symm.trans h
      refine fw_iconst C 0 dX2_barsWhatComes_110 rfl ?_
      obtain rfl := Option.some.inj h
      exact fw_zret C hr (Or.inl rfl) hlk dX2_barsWhatComes_111
    · replace h := (if_neg c11).symm.trans h
      refine fw_aload_n C 1 dX2_barsWhatComes_84 rfl rfl ?_
      obtain ⟨g12, h⟩ := gd_some h
      obtain ⟨g13, h⟩ := gd_some h
      refine fw_getR C 2 0 (Nat.le_of_ble_eq_true rfl) (Nat.le_of_ble_eq_true rfl) wf_X2_27 rfl (gO_of g12) (gN_of g13) dX2_barsWhatComes_85 ?_
      obtain ⟨g14, h⟩ := gd_some h
      obtain ⟨g15, h⟩ := gd_some h
      refine fw_getR C 4 3 (Nat.le_of_ble_eq_true rfl) (Nat.le_of_ble_eq_true rfl) wf_X2_41 rfl (gO_of g14) (gN_of g15) dX2_barsWhatComes_88 ?_
      refine fw_iconst C 1 dX2_barsWhatComes_91 rfl ?_
      obtain ⟨g16, h⟩ := gd_some h
      refine fw_iald C (gA_of g16) dX2_barsWhatComes_92 ?_
      refine fw_iconst C 2 dX2_barsWhatComes_93 rfl ?_
      refine fw_icmp_ne C 110 dX2_barsWhatComes_94 (by decide) (fun c17 => ?_) (fun c17 => ?_)
      · replace h := (if_neg c17).symm.trans h
        refine fw_iconst C 0 dX2_barsWhatComes_110 rfl ?_
        obtain rfl := Option.some.inj h
        exact fw_zret C hr (Or.inl rfl) hlk dX2_barsWhatComes_111
      · replace h := (if_pos c17).symm.trans h
        refine fw_aload_n C 1 dX2_barsWhatComes_97 rfl rfl ?_
        refine fw_aload_n C 2 dX2_barsWhatComes_98 rfl rfl ?_
        refine fw_aload_n C 3 dX2_barsWhatComes_99 rfl rfl ?_
        obtain ⟨v18, e18, h⟩ := b1_some h
        refine fw_callV (ci := 2) [_, _] C (c_X2_areSame hl e18) cal_X2_areSame wm_X2_149 wi_yX2_areSame wsl_yX2_areSame (Nat.le_of_ble_eq_true rfl) rfl (gO_of g12) rfl (Nat.le_of_ble_eq_true rfl) ⟨Nat.le_of_ble_eq_true rfl, Nat.le_of_ble_eq_true rfl⟩ ⟨Nat.zero_le _, Nat.zero_le _⟩ dX2_barsWhatComes_100 ?_
        refine fw_if_eq C 110 dX2_barsWhatComes_103 (by decide) (fun c19 => ?_) (fun c19 => ?_)
        · replace h := (if_pos c19).symm.trans h
          refine fw_iconst C 0 dX2_barsWhatComes_110 rfl ?_
          obtain rfl := Option.some.inj h
          exact fw_zret C hr (Or.inl rfl) hlk dX2_barsWhatComes_111
        · replace h := (if_neg c19).symm.trans h
          refine fw_iconst C 1 dX2_barsWhatComes_106 rfl ?_
          refine fw_goto C 111 dX2_barsWhatComes_107 (by decide) ?_
          obtain rfl := Option.some.inj h
          exact fw_zret C hr (Or.inr rfl) hlk dX2_barsWhatComes_111
set_option maxRecDepth 100000 in
def fj_X2_barsWhatComes_45 (S : List fw_Sh) (M : fw_Mem) (a0 : Nat) (a1 : Nat) (a2 : Nat) (x3 : Int32) (x4 : Int32) (z0 : Int32) : Option Int32 := gd (gO S 6 a2) (if (((x4 >>> ((M a2 1) &&& 31)) &&& (x3 >>> ((M a2 2) &&& 31))) &&& 1) = 1 then fj_X2_barsWhatComes_72 S M a0 a1 a2 z0 1 else fj_X2_barsWhatComes_72 S M a0 a1 a2 z0 0)
set_option maxHeartbeats 4000000 in
set_option maxRecDepth 100000 in
theorem jc_X2_barsWhatComes_45 {G : fw_G} {p : Program} {l : Launch} {e : Env} {s : State} {m : MethodId} {args : Array Value} {below : List Frame} {meth : Method} {c : Code} {S : List fw_Sh} {M : fw_Mem} {a0 : Nat} {a1 : Nat} {a2 : Nat} {x3 : Int32} {x4 : Int32} {z0 : Int32} {r : Int32} {o : fw_O} (C : fw_C G RX2 cX2_barsWhatComes 7 p s m args c) (hr : meth.sig.returnType = (some .boolean)) (hlk : meth.locks = false) (hl : l.stackTraces = false) (ht : ∀ x ∈ c.exceptionTable.toList, False) (ho : o = (.inl (some (.int r)), S, M)) (h : fj_X2_barsWhatComes_45 S M a0 a1 a2 x3 x4 z0 = some r) :
    fw_W G p l e (fw_rm 3 (fw_mcO o) (fw_msO o)) s m args below meth c 7 (fw_Z G below args s (fw_mcO o) (fw_msO o) o) 0 0 45 [(0, .ref a0), (1, .ref a1), (2, .ref a2), (3, .int x3), (4, .int x4)] [.int z0] S M := by
  subst ho
  unfold fj_X2_barsWhatComes_45 at h
  refine fw_istore C [(5, _), (0, _), (1, _), (2, _), (3, _), (4, _)] dX2_barsWhatComes_45 (Nat.le_of_ble_eq_true rfl) rfl ?_
  refine fw_iload C 5 dX2_barsWhatComes_47 rfl ?_
  refine fw_aload_n C 3 dX2_barsWhatComes_49 rfl rfl ?_
  obtain ⟨g5, h⟩ := gd_some h
  refine fw_getI C 6 1 (Nat.le_of_ble_eq_true rfl) (Nat.le_of_ble_eq_true rfl) wf_X2_62 rfl (gO_of g5) dX2_barsWhatComes_50 ?_
  refine fw_ishr C dX2_barsWhatComes_53 ?_
  refine fw_iload_n C 4 dX2_barsWhatComes_54 rfl rfl ?_
  refine fw_aload_n C 3 dX2_barsWhatComes_55 rfl rfl ?_
  refine fw_getI C 6 2 (Nat.le_of_ble_eq_true rfl) (Nat.le_of_ble_eq_true rfl) wf_X2_72 rfl (gO_of g5) dX2_barsWhatComes_56 ?_
  refine fw_ishr C dX2_barsWhatComes_59 ?_
  refine fw_iand C dX2_barsWhatComes_60 ?_
  refine fw_iconst C 1 dX2_barsWhatComes_61 rfl ?_
  refine fw_iand C dX2_barsWhatComes_62 ?_
  refine fw_iconst C 1 dX2_barsWhatComes_63 rfl ?_
  refine fw_icmp_ne C 71 dX2_barsWhatComes_64 (by decide) (fun c6 => ?_) (fun c6 => ?_)
  · replace h := (if_neg c6).symm.trans h
    refine fw_iconst C 0 dX2_barsWhatComes_71 rfl ?_
    refine fw_sub [1, 2, 3, 0] rfl ?_
    exact jc_X2_barsWhatComes_72 C hr hlk hl ht rfl h
  · replace h := (if_pos c6).symm.trans h
    refine fw_iconst C 1 dX2_barsWhatComes_67 rfl ?_
    refine fw_goto C 72 dX2_barsWhatComes_68 (by decide) ?_
    refine fw_sub [1, 2, 3, 0] rfl ?_
    exact jc_X2_barsWhatComes_72 C hr hlk hl ht rfl h
set_option maxRecDepth 100000 in
def f_X2_barsWhatComes (S : List fw_Sh) (M : fw_Mem) (a0 : Nat) (a1 : Nat) (a2 : Nat) : Option Int32 := gd (gO S 6 a1) (if (M a1 8) = 0 then (some 0) else (gd (gO S 6 a2) (if ((((M a1 13) >>> ((M a2 1) &&& 31)) &&& ((M a1 14) >>> ((M a2 2) &&& 31))) &&& 1) = 1 then fj_X2_barsWhatComes_45 S M a0 a1 a2 (M a1 13) (M a1 14) 1 else fj_X2_barsWhatComes_45 S M a0 a1 a2 (M a1 13) (M a1 14) 0)))
set_option maxHeartbeats 4000000 in
set_option maxRecDepth 100000 in
theorem c_X2_barsWhatComes {l : Launch} {G : fw_G} {S : List fw_Sh} {M : fw_Mem} {a0 : Nat} {a1 : Nat} {a2 : Nat} {r : Int32} (hl : l.stackTraces = false) (h : f_X2_barsWhatComes S M a0 a1 a2 = some r) : fw_M l G yX2_barsWhatComes (.code yX2_barsWhatComes cX2_barsWhatComes 7 (some .boolean)) 3 (fw_mcO (.inl (some (.int r)), S, M)) (fw_msO (.inl (some (.int r)), S, M)) S M [.ref a0, .ref a1, .ref a2] (.inl (some (.int r)), S, M) := by
  refine fw_of [(0, .ref a0), (1, .ref a1), (2, .ref a2)] (by decide) (Nat.le_of_ble_eq_true rfl) rfl ?_
  intro p e s m args below meth c C hr hlk hnm ht _
  unfold f_X2_barsWhatComes at h
  refine fw_aload_n C 1 dX2_barsWhatComes_0 rfl rfl ?_
  obtain ⟨g1, h⟩ := gd_some h
  refine fw_getI C 6 8 (Nat.le_of_ble_eq_true rfl) (Nat.le_of_ble_eq_true rfl) wf_X2_145 rfl (gO_of g1) dX2_barsWhatComes_1 ?_
  refine fw_if_ne C 9 dX2_barsWhatComes_4 (by decide) (fun c2 => ?_) (fun c2 => ?_)
  · replace h := (if_neg c2).symm.trans h
    refine fw_aload_n C 1 dX2_barsWhatComes_9 rfl rfl ?_
    refine fw_getI C 6 13 (Nat.le_of_ble_eq_true rfl) (Nat.le_of_ble_eq_true rfl) wf_X2_69 rfl (gO_of g1) dX2_barsWhatComes_10 ?_
    refine fw_istore_n C [(3, _), (0, _), (1, _), (2, _)] dX2_barsWhatComes_13 rfl (Nat.le_of_ble_eq_true rfl) rfl ?_
    refine fw_aload_n C 2 dX2_barsWhatComes_14 rfl rfl ?_
    refine fw_getI C 6 14 (Nat.le_of_ble_eq_true rfl) (Nat.le_of_ble_eq_true rfl) wf_X2_75 rfl (gO_of g1) dX2_barsWhatComes_15 ?_
    refine fw_istore C [(4, _), (3, _), (0, _), (1, _), (2, _)] dX2_barsWhatComes_18 (Nat.le_of_ble_eq_true rfl) rfl ?_
    refine fw_iload_n C 1 dX2_barsWhatComes_20 rfl rfl ?_
    refine fw_aload_n C 4 dX2_barsWhatComes_21 rfl rfl ?_
    obtain ⟨g3, h⟩ := gd_some h
    refine fw_getI C 6 1 (Nat.le_of_ble_eq_true rfl) (Nat.le_of_ble_eq_true rfl) wf_X2_62 rfl (gO_of g3) dX2_barsWhatComes_22 ?_
    refine fw_ishr C dX2_barsWhatComes_25 ?_
    refine fw_iload C 0 dX2_barsWhatComes_26 rfl ?_
    refine fw_aload_n C 4 dX2_barsWhatComes_28 rfl rfl ?_
    refine fw_getI C 6 2 (Nat.le_of_ble_eq_true rfl) (Nat.le_of_ble_eq_true rfl) wf_X2_72 rfl (gO_of g3) dX2_barsWhatComes_29 ?_
    refine fw_ishr C dX2_barsWhatComes_32 ?_
    refine fw_iand C dX2_barsWhatComes_33 ?_
    refine fw_iconst C 1 dX2_barsWhatComes_34 rfl ?_
    refine fw_iand C dX2_barsWhatComes_35 ?_
    refine fw_iconst C 1 dX2_barsWhatComes_36 rfl ?_
    refine fw_icmp_ne C 44 dX2_barsWhatComes_37 (by decide) (fun c4 => ?_) (fun c4 => ?_)
    · replace h := (if_neg c4).symm.trans h
      refine fw_iconst C 0 dX2_barsWhatComes_44 rfl ?_
      refine fw_sub [2, 3, 4, 1, 0] rfl ?_
      exact jc_X2_barsWhatComes_45 C hr hlk hl ht rfl h
    · replace h := (if_pos c4).symm.trans h
      refine fw_iconst C 1 dX2_barsWhatComes_40 rfl ?_
      refine fw_goto C 45 dX2_barsWhatComes_41 (by decide) ?_
      refine fw_sub [2, 3, 4, 1, 0] rfl ?_
      exact jc_X2_barsWhatComes_45 C hr hlk hl ht rfl h
  · replace h := (if_pos c2).symm.trans h
    refine fw_iconst C 0 dX2_barsWhatComes_7 rfl ?_
    obtain rfl := Option.some.inj h
    exact fw_zret C hr (Or.inl rfl) hlk dX2_barsWhatComes_8
set_option maxRecDepth 100000 in
def f_X2_comesBehind (S : List fw_Sh) (M : fw_Mem) (a0 : Nat) (a1 : Nat) (a2 : Nat) : Option Int32 := gd (gO S 6 a1) (gd (gO S 6 a2) (if (M a1 0) = (M a2 0) then (some 0) else (b1 (f_X6_counts S M a2) (fun v4 => if v4 = 0 then (some 0) else (if (M a1 3) < (M a2 7) then (some 0) else (some 1))))))
set_option maxHeartbeats 4000000 in
set_option maxRecDepth 100000 in
theorem c_X2_comesBehind {l : Launch} {G : fw_G} {S : List fw_Sh} {M : fw_Mem} {a0 : Nat} {a1 : Nat} {a2 : Nat} {r : Int32} (hl : l.stackTraces = false) (h : f_X2_comesBehind S M a0 a1 a2 = some r) : fw_M l G yX2_comesBehind (.code yX2_comesBehind cX2_comesBehind 3 (some .boolean)) 2 (fw_mcO (.inl (some (.int r)), S, M)) (fw_msO (.inl (some (.int r)), S, M)) S M [.ref a0, .ref a1, .ref a2] (.inl (some (.int r)), S, M) := by
  refine fw_of [(0, .ref a0), (1, .ref a1), (2, .ref a2)] (by decide) (Nat.le_of_ble_eq_true rfl) rfl ?_
  intro p e s m args below meth c C hr hlk hnm ht _
  unfold f_X2_comesBehind at h
  refine fw_aload_n C 1 dX2_comesBehind_0 rfl rfl ?_
  obtain ⟨g1, h⟩ := gd_some h
  refine fw_getI C 6 0 (Nat.le_of_ble_eq_true rfl) (Nat.le_of_ble_eq_true rfl) wf_X2_122 rfl (gO_of g1) dX2_comesBehind_1 ?_
  refine fw_aload_n C 2 dX2_comesBehind_4 rfl rfl ?_
  obtain ⟨g2, h⟩ := gd_some h
  refine fw_getI C 6 0 (Nat.le_of_ble_eq_true rfl) (Nat.le_of_ble_eq_true rfl) wf_X2_122 rfl (gO_of g2) dX2_comesBehind_5 ?_
  refine fw_icmp_eq C 33 dX2_comesBehind_8 (by decide) (fun c3 => ?_) (fun c3 => ?_)
  · replace h := (if_pos c3).symm.trans h
    refine fw_iconst C 0 dX2_comesBehind_33 rfl ?_
    obtain rfl := Option.some.inj h
    exact fw_zret C hr (Or.inl rfl) hlk dX2_comesBehind_34
  · replace h := (if_neg c3).symm.trans h
    refine fw_aload_n C 2 dX2_comesBehind_11 rfl rfl ?_
    obtain ⟨v4, e4, h⟩ := b1_some h
    refine fw_callV (ci := 6) [] C (c_X6_counts hl e4) cal_X6_counts wm_X2_125 wi_yX6_counts wsl_yX6_counts (Nat.le_of_ble_eq_true rfl) rfl (gO_of g2) rfl (Nat.le_of_ble_eq_true rfl) ⟨Nat.le_of_ble_eq_true rfl, Nat.le_of_ble_eq_true rfl⟩ ⟨Nat.zero_le _, Nat.zero_le _⟩ dX2_comesBehind_12 ?_
    refine fw_if_eq C 33 dX2_comesBehind_15 (by decide) (fun c5 => ?_) (fun c5 => ?_)
    · replace h := (if_pos c5).symm.trans h
      refine fw_iconst C 0 dX2_comesBehind_33 rfl ?_
      obtain rfl := Option.some.inj h
      exact fw_zret C hr (Or.inl rfl) hlk dX2_comesBehind_34
    · replace h := (if_neg c5).symm.trans h
      refine fw_aload_n C 1 dX2_comesBehind_18 rfl rfl ?_
      refine fw_getI C 6 3 (Nat.le_of_ble_eq_true rfl) (Nat.le_of_ble_eq_true rfl) wf_X2_128 rfl (gO_of g1) dX2_comesBehind_19 ?_
      refine fw_aload_n C 2 dX2_comesBehind_22 rfl rfl ?_
      refine fw_getI C 6 7 (Nat.le_of_ble_eq_true rfl) (Nat.le_of_ble_eq_true rfl) wf_X2_94 rfl (gO_of g2) dX2_comesBehind_23 ?_
      refine fw_icmp_lt C 33 dX2_comesBehind_26 (by decide) (fun c6 => ?_) (fun c6 => ?_)
      · replace h := (if_pos c6).symm.trans h
        refine fw_iconst C 0 dX2_comesBehind_33 rfl ?_
        obtain rfl := Option.some.inj h
        exact fw_zret C hr (Or.inl rfl) hlk dX2_comesBehind_34
      · replace h := (if_neg c6).symm.trans h
        refine fw_iconst C 1 dX2_comesBehind_29 rfl ?_
        refine fw_goto C 34 dX2_comesBehind_30 (by decide) ?_
        obtain rfl := Option.some.inj h
        exact fw_zret C hr (Or.inr rfl) hlk dX2_comesBehind_34
set_option maxRecDepth 100000 in
def lf_X2_barringSuits_4 (S : List fw_Sh) (M : fw_Mem) (a0 : Nat) (a1 : Nat) : Nat → Int32 → Int32 → Option (Int32)
  | 0, _, _ => none
  | n + 1, x2, x3 => gd (gO S 2 a0) (gd (gN (M a0 0)) (gd (gO S 4 ((M a0 0).toNatClampNeg)) (if (M ((M a0 0).toNatClampNeg) 6) ≤ x3 then (some x2) else (gd (gN (M ((M a0 0).toNatClampNeg) 2)) (gd (gA S 4 ((M ((M a0 0).toNatClampNeg) 2).toNatClampNeg) x3) (gd (gN (M ((M ((M a0 0).toNatClampNeg) 2).toNatClampNeg) x3.toNatClampNeg)) (b1 (f_X2_comesBehind S M a0 a1 ((M ((M ((M a0 0).toNatClampNeg) 2).toNatClampNeg) x3.toNatClampNeg).toNatClampNeg)) (fun v8 => if v8 = 0 then (lf_X2_barringSuits_4 S M a0 a1 n x2 (x3 + 1)) else (b1 (f_X2_barsWhatComes S M a0 ((M ((M ((M a0 0).toNatClampNeg) 2).toNatClampNeg) x3.toNatClampNeg).toNatClampNeg) a1) (fun v10 => if v10 = 0 then (lf_X2_barringSuits_4 S M a0 a1 n x2 (x3 + 1)) else (bm (x2 ||| ((1 : Int32) <<< (x3 &&& 31))) (fun y12 => lf_X2_barringSuits_4 S M a0 a1 n y12 (x3 + 1)))))))))))))
set_option maxHeartbeats 4000000 in
set_option maxRecDepth 100000 in
theorem lc_X2_barringSuits_4 {G : fw_G} {p : Program} {l : Launch} {e : Env} {s : State} {m : MethodId} {args : Array Value} {below : List Frame} {meth : Method} {c : Code} {S : List fw_Sh} {o : fw_O} {M : fw_Mem} {a0 : Nat} {a1 : Nat} (C : fw_C G RX2 cX2_barringSuits 5 p s m args c) (hr : meth.sig.returnType = (some .int)) (hlk : meth.locks = false) (hl : l.stackTraces = false) (ht : ∀ x ∈ c.exceptionTable.toList, False) :
    ∀ {n : Nat} {x2 : Int32} {x3 : Int32} {r : (Int32)} (h : lf_X2_barringSuits_4 S M a0 a1 n x2 x3 = some r) (kx : fw_W G p l e (fw_rm 4 (fw_mcO o) (fw_msO o)) s m args below meth c 5 (fw_Z G below args s (fw_mcO o) (fw_msO o) o) 0 0 58 [(2, .int r)] [] S M), fw_W G p l e (fw_rm 4 (fw_mcO o) (fw_msO o)) s m args below meth c 5 (fw_Z G below args s (fw_mcO o) (fw_msO o) o) 0 0 4 [(0, .ref a0), (1, .ref a1), (2, .int x2), (3, .int x3)] [] S M := by
  intro n
  induction n with
  | zero =>
    intro x2 x3 r h
    exact nomatch (show (none : Option (Int32)) = some r from h)
  | succ n ih =>
    intro x2 x3 r h kx
    rw [lf_X2_barringSuits_4.eq_2] at h
    refine fw_iload_n C 3 dX2_barringSuits_4 rfl rfl ?_
    refine fw_aload_n C 0 dX2_barringSuits_5 rfl rfl ?_
    obtain ⟨g1, h⟩ := gd_some h
    obtain ⟨g2, h⟩ := gd_some h
    refine fw_getR C 2 0 (Nat.le_of_ble_eq_true rfl) (Nat.le_of_ble_eq_true rfl) wf_X2_27 rfl (gO_of g1) (gN_of g2) dX2_barringSuits_6 ?_
    obtain ⟨g3, h⟩ := gd_some h
    refine fw_getI C 4 6 (Nat.le_of_ble_eq_true rfl) (Nat.le_of_ble_eq_true rfl) wf_X2_31 rfl (gO_of g3) dX2_barringSuits_9 ?_
    refine fw_icmp_ge C 58 dX2_barringSuits_12 (by decide) (fun c4 => ?_) (fun c4 => ?_)
    · replace h := (if_pos c4).symm.trans h
      obtain rfl := Option.some.inj h
      refine fw_sub [2] rfl ?_
      exact kx
    · replace h := (if_neg c4).symm.trans h
      refine fw_aload_n C 0 dX2_barringSuits_15 rfl rfl ?_
      refine fw_getR C 2 0 (Nat.le_of_ble_eq_true rfl) (Nat.le_of_ble_eq_true rfl) wf_X2_27 rfl (gO_of g1) (gN_of g2) dX2_barringSuits_16 ?_
      obtain ⟨g5, h⟩ := gd_some h
      refine fw_getR C 4 2 (Nat.le_of_ble_eq_true rfl) (Nat.le_of_ble_eq_true rfl) wf_X2_37 rfl (gO_of g3) (gN_of g5) dX2_barringSuits_19 ?_
      refine fw_iload_n C 3 dX2_barringSuits_22 rfl rfl ?_
      obtain ⟨g6, h⟩ := gd_some h
      obtain ⟨g7, h⟩ := gd_some h
      refine fw_aald C 4 (by decide) (gA_of g6) (gN_of g7) dX2_barringSuits_23 ?_
      refine fw_astore C [(4, _), (0, _), (1, _), (2, _), (3, _)] dX2_barringSuits_24 (Nat.le_of_ble_eq_true rfl) rfl ?_
      refine fw_aload_n C 1 dX2_barringSuits_26 rfl rfl ?_
      refine fw_aload_n C 2 dX2_barringSuits_27 rfl rfl ?_
      refine fw_aload C 0 dX2_barringSuits_28 rfl ?_
      obtain ⟨v8, e8, h⟩ := b1_some h
      refine fw_callV (ci := 2) [_, _] C (c_X2_comesBehind hl e8) cal_X2_comesBehind wm_X2_153 wi_yX2_comesBehind wsl_yX2_comesBehind (Nat.le_of_ble_eq_true rfl) rfl (gO_of g1) rfl (Nat.le_of_ble_eq_true rfl) ⟨Nat.le_of_ble_eq_true rfl, Nat.le_of_ble_eq_true rfl⟩ ⟨Nat.zero_le _, Nat.zero_le _⟩ dX2_barringSuits_30 ?_
      refine fw_if_eq C 52 dX2_barringSuits_33 (by decide) (fun c9 => ?_) (fun c9 => ?_)
      · replace h := (if_pos c9).symm.trans h
        refine fw_iinc C _ 4 [(3, _), (4, _), (0, _), (1, _), (2, _)] dX2_barringSuits_52 rfl rfl (Nat.le_of_ble_eq_true rfl) rfl ?_
        refine fw_goto C 4 dX2_barringSuits_55 (by decide) ?_
        refine fw_sub [2, 3, 4, 0] rfl ?_
        exact ih h kx
      · replace h := (if_neg c9).symm.trans h
        refine fw_aload_n C 1 dX2_barringSuits_36 rfl rfl ?_
        refine fw_aload C 0 dX2_barringSuits_37 rfl ?_
        refine fw_aload_n C 2 dX2_barringSuits_39 rfl rfl ?_
        obtain ⟨v10, e10, h⟩ := b1_some h
        refine fw_callV (ci := 2) [_, _] C (c_X2_barsWhatComes hl e10) cal_X2_barsWhatComes wm_X2_156 wi_yX2_barsWhatComes wsl_yX2_barsWhatComes (Nat.le_of_ble_eq_true rfl) rfl (gO_of g1) rfl (Nat.le_of_ble_eq_true rfl) ⟨Nat.le_of_ble_eq_true rfl, Nat.le_of_ble_eq_true rfl⟩ ⟨Nat.zero_le _, Nat.zero_le _⟩ dX2_barringSuits_40 ?_
        refine fw_if_eq C 52 dX2_barringSuits_43 (by decide) (fun c11 => ?_) (fun c11 => ?_)
        · replace h := (if_pos c11).symm.trans h
          refine fw_iinc C _ 4 [(3, _), (4, _), (0, _), (1, _), (2, _)] dX2_barringSuits_52 rfl rfl (Nat.le_of_ble_eq_true rfl) rfl ?_
          refine fw_goto C 4 dX2_barringSuits_55 (by decide) ?_
          refine fw_sub [2, 3, 4, 0] rfl ?_
          exact ih h kx
        · replace h := (if_neg c11).symm.trans h
          refine fw_iload_n C 3 dX2_barringSuits_46 rfl rfl ?_
          refine fw_iconst C 1 dX2_barringSuits_47 rfl ?_
          refine fw_iload_n C 4 dX2_barringSuits_48 rfl rfl ?_
          refine fw_ishl C dX2_barringSuits_49 ?_
          refine fw_ior C dX2_barringSuits_50 ?_
          refine fw_bi h (fun y12 h => ?_)
          refine fw_istore_n C [(2, _), (4, _), (0, _), (1, _), (3, _)] dX2_barringSuits_51 rfl (Nat.le_of_ble_eq_true rfl) rfl ?_
          refine fw_iinc C _ 4 [(3, _), (2, _), (4, _), (0, _), (1, _)] dX2_barringSuits_52 rfl rfl (Nat.le_of_ble_eq_true rfl) rfl ?_
          refine fw_goto C 4 dX2_barringSuits_55 (by decide) ?_
          refine fw_sub [3, 4, 1, 0] rfl ?_
          exact ih h kx
set_option maxRecDepth 100000 in
def f_X2_barringSuits (S : List fw_Sh) (M : fw_Mem) (a0 : Nat) (a1 : Nat) : Option Int32 := b1 (lf_X2_barringSuits_4 S M a0 a1 20000 0 0) (fun l13 => some l13)
set_option maxHeartbeats 4000000 in
set_option maxRecDepth 100000 in
theorem c_X2_barringSuits {l : Launch} {G : fw_G} {S : List fw_Sh} {M : fw_Mem} {a0 : Nat} {a1 : Nat} {r : Int32} (hl : l.stackTraces = false) (h : f_X2_barringSuits S M a0 a1 = some r) : fw_M l G yX2_barringSuits (.code yX2_barringSuits cX2_barringSuits 5 (some .int)) 4 (fw_mcO (.inl (some (.int r)), S, M)) (fw_msO (.inl (some (.int r)), S, M)) S M [.ref a0, .ref a1] (.inl (some (.int r)), S, M) := by
  refine fw_of [(0, .ref a0), (1, .ref a1)] (by decide) (Nat.le_of_ble_eq_true rfl) rfl ?_
  intro p e s m args below meth c C hr hlk hnm ht _
  unfold f_X2_barringSuits at h
  refine fw_iconst C 0 dX2_barringSuits_0 rfl ?_
  refine fw_istore_n C [(2, _), (0, _), (1, _)] dX2_barringSuits_1 rfl (Nat.le_of_ble_eq_true rfl) rfl ?_
  refine fw_iconst C 0 dX2_barringSuits_2 rfl ?_
  refine fw_istore_n C [(3, _), (2, _), (0, _), (1, _)] dX2_barringSuits_3 rfl (Nat.le_of_ble_eq_true rfl) rfl ?_
  refine fw_sub [2, 3, 1, 0] rfl ?_
  obtain ⟨l13, e13, h⟩ := b1_some h
  refine lc_X2_barringSuits_4 C hr hlk hl ht e13 ?_
  refine fw_iload_n C 0 dX2_barringSuits_58 rfl rfl ?_
  obtain rfl := Option.some.inj h
  exact fw_iret C hr hlk dX2_barringSuits_59
set_option maxRecDepth 100000 in
def fj_X2_countsOverHolder_27 (S : List fw_Sh) (M : fw_Mem) (a0 : Nat) (a1 : Nat) (x3 : Int32) (z0 : Int32) : Option Int32 := if z0 = 0 then (gd (gO S 6 a1) (gd (gO S 2 a0) (gd (gN (M a0 0)) (gd (gO S 4 ((M a0 0).toNatClampNeg)) (gd (gN (M ((M a0 0).toNatClampNeg) 2)) (gd (gA S 4 ((M ((M a0 0).toNatClampNeg) 2).toNatClampNeg) x3) (gd (gN (M ((M ((M a0 0).toNatClampNeg) 2).toNatClampNeg) x3.toNatClampNeg)) (gd (gO S 6 ((M ((M ((M a0 0).toNatClampNeg) 2).toNatClampNeg) x3.toNatClampNeg).toNatClampNeg)) (if (M a1 7) < (M ((M ((M ((M a0 0).toNatClampNeg) 2).toNatClampNeg) x3.toNatClampNeg).toNatClampNeg) 7) then (some 0) else (some 1)))))))))) else (some 1)
set_option maxHeartbeats 4000000 in
set_option maxRecDepth 100000 in
theorem jc_X2_countsOverHolder_27 {G : fw_G} {p : Program} {l : Launch} {e : Env} {s : State} {m : MethodId} {args : Array Value} {below : List Frame} {meth : Method} {c : Code} {S : List fw_Sh} {M : fw_Mem} {a0 : Nat} {a1 : Nat} {x3 : Int32} {z0 : Int32} {r : Int32} {o : fw_O} (C : fw_C G RX2 cX2_countsOverHolder 5 p s m args c) (hr : meth.sig.returnType = (some .boolean)) (hlk : meth.locks = false) (hl : l.stackTraces = false) (ht : ∀ x ∈ c.exceptionTable.toList, False) (ho : o = (.inl (some (.int r)), S, M)) (h : fj_X2_countsOverHolder_27 S M a0 a1 x3 z0 = some r) :
    fw_W G p l e (fw_rm 1 (fw_mcO o) (fw_msO o)) s m args below meth c 5 (fw_Z G below args s (fw_mcO o) (fw_msO o) o) 0 0 27 [(0, .ref a0), (1, .ref a1), (3, .int x3)] [.int z0] S M := by
  subst ho
  unfold fj_X2_countsOverHolder_27 at h
  refine fw_istore C [(4, _), (0, _), (1, _), (3, _)] dX2_countsOverHolder_27 (Nat.le_of_ble_eq_true rfl) rfl ?_
  refine fw_iload C 0 dX2_countsOverHolder_29 rfl ?_
  refine fw_if_ne C 53 dX2_countsOverHolder_31 (by decide) (fun c6 => ?_) (fun c6 => ?_)
  · replace h := (if_neg c6).symm.trans h
    refine fw_iconst C 1 dX2_countsOverHolder_53 rfl ?_
    refine fw_goto C 58 dX2_countsOverHolder_54 (by decide) ?_
    obtain rfl := Option.some.inj h
    exact fw_zret C hr (Or.inr rfl) hlk dX2_countsOverHolder_58
  · replace h := (if_pos c6).symm.trans h
    refine fw_aload_n C 2 dX2_countsOverHolder_34 rfl rfl ?_
    obtain ⟨g7, h⟩ := gd_some h
    refine fw_getI C 6 7 (Nat.le_of_ble_eq_true rfl) (Nat.le_of_ble_eq_true rfl) wf_X2_94 rfl (gO_of g7) dX2_countsOverHolder_35 ?_
    refine fw_aload_n C 1 dX2_countsOverHolder_38 rfl rfl ?_
    obtain ⟨g8, h⟩ := gd_some h
    obtain ⟨g9, h⟩ := gd_some h
    refine fw_getR C 2 0 (Nat.le_of_ble_eq_true rfl) (Nat.le_of_ble_eq_true rfl) wf_X2_27 rfl (gO_of g8) (gN_of g9) dX2_countsOverHolder_39 ?_
    obtain ⟨g10, h⟩ := gd_some h
    obtain ⟨g11, h⟩ := gd_some h
    refine fw_getR C 4 2 (Nat.le_of_ble_eq_true rfl) (Nat.le_of_ble_eq_true rfl) wf_X2_37 rfl (gO_of g10) (gN_of g11) dX2_countsOverHolder_42 ?_
    refine fw_iload_n C 3 dX2_countsOverHolder_45 rfl rfl ?_
    obtain ⟨g12, h⟩ := gd_some h
    obtain ⟨g13, h⟩ := gd_some h
    refine fw_aald C 4 (by decide) (gA_of g12) (gN_of g13) dX2_countsOverHolder_46 ?_
    obtain ⟨g14, h⟩ := gd_some h
    refine fw_getI C 6 7 (Nat.le_of_ble_eq_true rfl) (Nat.le_of_ble_eq_true rfl) wf_X2_94 rfl (gO_of g14) dX2_countsOverHolder_47 ?_
    refine fw_icmp_lt C 57 dX2_countsOverHolder_50 (by decide) (fun c15 => ?_) (fun c15 => ?_)
    · replace h := (if_pos c15).symm.trans h
      refine fw_iconst C 0 dX2_countsOverHolder_57 rfl ?_
      obtain rfl := Option.some.inj h
      exact fw_zret C hr (Or.inl rfl) hlk dX2_countsOverHolder_58
    · replace h := (if_neg c15).symm.trans h
      refine fw_iconst C 1 dX2_countsOverHolder_53 rfl ?_
      refine fw_goto C 58 dX2_countsOverHolder_54 (by decide) ?_
      obtain rfl := Option.some.inj h
      exact fw_zret C hr (Or.inr rfl) hlk dX2_countsOverHolder_58
set_option maxRecDepth 100000 in
def f_X2_countsOverHolder (S : List fw_Sh) (M : fw_Mem) (a0 : Nat) (a1 : Nat) (x2 : Int32) : Option Int32 := gd (gO S 2 a0) (gd (gN (M a0 1)) (gd (gA S 0 ((M a0 1).toNatClampNeg) x2) (bm (M ((M a0 1).toNatClampNeg) x2.toNatClampNeg) (fun y4 => if y4 < 0 then fj_X2_countsOverHolder_27 S M a0 a1 y4 1 else (gd (gN (M a0 0)) (gd (gO S 4 ((M a0 0).toNatClampNeg)) (if y4 < (M ((M a0 0).toNatClampNeg) 6) then fj_X2_countsOverHolder_27 S M a0 a1 y4 0 else fj_X2_countsOverHolder_27 S M a0 a1 y4 1)))))))
set_option maxHeartbeats 4000000 in
set_option maxRecDepth 100000 in
theorem c_X2_countsOverHolder {l : Launch} {G : fw_G} {S : List fw_Sh} {M : fw_Mem} {a0 : Nat} {a1 : Nat} {x2 : Int32} {r : Int32} (hl : l.stackTraces = false) (h : f_X2_countsOverHolder S M a0 a1 x2 = some r) : fw_M l G yX2_countsOverHolder (.code yX2_countsOverHolder cX2_countsOverHolder 5 (some .boolean)) 1 (fw_mcO (.inl (some (.int r)), S, M)) (fw_msO (.inl (some (.int r)), S, M)) S M [.ref a0, .ref a1, .int x2] (.inl (some (.int r)), S, M) := by
  refine fw_of [(0, .ref a0), (1, .ref a1), (2, .int x2)] (by decide) (Nat.le_of_ble_eq_true rfl) rfl ?_
  intro p e s m args below meth c C hr hlk hnm ht _
  unfold f_X2_countsOverHolder at h
  refine fw_aload_n C 0 dX2_countsOverHolder_0 rfl rfl ?_
  obtain ⟨g1, h⟩ := gd_some h
  obtain ⟨g2, h⟩ := gd_some h
  refine fw_getR C 2 1 (Nat.le_of_ble_eq_true rfl) (Nat.le_of_ble_eq_true rfl) wf_X2_9 rfl (gO_of g1) (gN_of g2) dX2_countsOverHolder_1 ?_
  refine fw_iload_n C 2 dX2_countsOverHolder_4 rfl rfl ?_
  obtain ⟨g3, h⟩ := gd_some h
  refine fw_iald C (gA_of g3) dX2_countsOverHolder_5 ?_
  refine fw_bi h (fun y4 h => ?_)
  refine fw_istore_n C [(3, _), (0, _), (1, _), (2, _)] dX2_countsOverHolder_6 rfl (Nat.le_of_ble_eq_true rfl) rfl ?_
  refine fw_iload_n C 0 dX2_countsOverHolder_7 rfl rfl ?_
  refine fw_if_lt C 22 dX2_countsOverHolder_8 (by decide) (fun c5 => ?_) (fun c5 => ?_)
  · replace h := (if_pos c5).symm.trans h
    refine fw_iconst C 1 dX2_countsOverHolder_22 rfl ?_
    refine fw_goto C 27 dX2_countsOverHolder_23 (by decide) ?_
    refine fw_sub [1, 2, 0] rfl ?_
    exact jc_X2_countsOverHolder_27 C hr hlk hl ht rfl h
  · replace h := (if_neg c5).symm.trans h
    refine fw_iload_n C 0 dX2_countsOverHolder_11 rfl rfl ?_
    refine fw_aload_n C 1 dX2_countsOverHolder_12 rfl rfl ?_
    obtain ⟨g16, h⟩ := gd_some h
    refine fw_getR C 2 0 (Nat.le_of_ble_eq_true rfl) (Nat.le_of_ble_eq_true rfl) wf_X2_27 rfl (gO_of g1) (gN_of g16) dX2_countsOverHolder_13 ?_
    obtain ⟨g17, h⟩ := gd_some h
    refine fw_getI C 4 6 (Nat.le_of_ble_eq_true rfl) (Nat.le_of_ble_eq_true rfl) wf_X2_31 rfl (gO_of g17) dX2_countsOverHolder_16 ?_
    refine fw_icmp_lt C 26 dX2_countsOverHolder_19 (by decide) (fun c18 => ?_) (fun c18 => ?_)
    · replace h := (if_pos c18).symm.trans h
      refine fw_iconst C 0 dX2_countsOverHolder_26 rfl ?_
      refine fw_sub [1, 2, 0] rfl ?_
      exact jc_X2_countsOverHolder_27 C hr hlk hl ht rfl h
    · replace h := (if_neg c18).symm.trans h
      refine fw_iconst C 1 dX2_countsOverHolder_22 rfl ?_
      refine fw_goto C 27 dX2_countsOverHolder_23 (by decide) ?_
      refine fw_sub [1, 2, 0] rfl ?_
      exact jc_X2_countsOverHolder_27 C hr hlk hl ht rfl h
set_option maxRecDepth 100000 in
def f_X2_holdsAgainst (S : List fw_Sh) (M : fw_Mem) (a0 : Nat) (a1 : Nat) (x2 : Int32) (x3 : Int32) (x4 : Int32) : Option Int32 := gd (gO S 6 a1) (if ((((M a1 13) ||| (M a1 14)) >>> (x2 &&& 31)) &&& 1) = 0 then (some 0) else (gd (gO S 2 a0) (gd (gN (M a0 0)) (gd (gO S 4 ((M a0 0).toNatClampNeg)) (gd (gN (M ((M a0 0).toNatClampNeg) 3)) (gd (gA S 0 ((M ((M a0 0).toNatClampNeg) 3).toNatClampNeg) 1) (bm (M ((M ((M a0 0).toNatClampNeg) 3).toNatClampNeg) 1) (fun y8 => if y8 = 2 then (some 1) else (if y8 = 1 then (if x4 = 0 then (if (((((M a1 13) >>> (x2 &&& 31)) &&& ((M a1 14) >>> (x3 &&& 31))) ||| (((M a1 14) >>> (x2 &&& 31)) &&& ((M a1 13) >>> (x3 &&& 31)))) &&& 1) = 1 then (some 1) else (some 0)) else (some 1)) else (if (((((M a1 13) >>> (x2 &&& 31)) &&& ((M a1 14) >>> (x3 &&& 31))) ||| (((M a1 14) >>> (x2 &&& 31)) &&& ((M a1 13) >>> (x3 &&& 31)))) &&& 1) = 1 then (some 1) else (some 0)))))))))))
set_option maxHeartbeats 4000000 in
set_option maxRecDepth 100000 in
theorem c_X2_holdsAgainst {l : Launch} {G : fw_G} {S : List fw_Sh} {M : fw_Mem} {a0 : Nat} {a1 : Nat} {x2 : Int32} {x3 : Int32} {x4 : Int32} {r : Int32} (hl : l.stackTraces = false) (h : f_X2_holdsAgainst S M a0 a1 x2 x3 x4 = some r) : fw_M l G yX2_holdsAgainst (.code yX2_holdsAgainst cX2_holdsAgainst 8 (some .boolean)) 1 (fw_mcO (.inl (some (.int r)), S, M)) (fw_msO (.inl (some (.int r)), S, M)) S M [.ref a0, .ref a1, .int x2, .int x3, .int x4] (.inl (some (.int r)), S, M) := by
  refine fw_of [(0, .ref a0), (1, .ref a1), (2, .int x2), (3, .int x3), (4, .int x4)] (by decide) (Nat.le_of_ble_eq_true rfl) rfl ?_
  intro p e s m args below meth c C hr hlk hnm ht _
  unfold f_X2_holdsAgainst at h
  refine fw_aload_n C 1 dX2_holdsAgainst_0 rfl rfl ?_
  obtain ⟨g1, h⟩ := gd_some h
  refine fw_getI C 6 13 (Nat.le_of_ble_eq_true rfl) (Nat.le_of_ble_eq_true rfl) wf_X2_69 rfl (gO_of g1) dX2_holdsAgainst_1 ?_
  refine fw_istore C [(5, _), (0, _), (1, _), (2, _), (3, _), (4, _)] dX2_holdsAgainst_4 (Nat.le_of_ble_eq_true rfl) rfl ?_
  refine fw_aload_n C 2 dX2_holdsAgainst_6 rfl rfl ?_
  refine fw_getI C 6 14 (Nat.le_of_ble_eq_true rfl) (Nat.le_of_ble_eq_true rfl) wf_X2_75 rfl (gO_of g1) dX2_holdsAgainst_7 ?_
  refine fw_istore C [(6, _), (5, _), (0, _), (1, _), (2, _), (3, _), (4, _)] dX2_holdsAgainst_10 (Nat.le_of_ble_eq_true rfl) rfl ?_
  refine fw_iload C 1 dX2_holdsAgainst_12 rfl ?_
  refine fw_iload C 0 dX2_holdsAgainst_14 rfl ?_
  refine fw_ior C dX2_holdsAgainst_16 ?_
  refine fw_iload_n C 4 dX2_holdsAgainst_17 rfl rfl ?_
  refine fw_ishr C dX2_holdsAgainst_18 ?_
  refine fw_iconst C 1 dX2_holdsAgainst_19 rfl ?_
  refine fw_iand C dX2_holdsAgainst_20 ?_
  refine fw_if_ne C 26 dX2_holdsAgainst_21 (by decide) (fun c2 => ?_) (fun c2 => ?_)
  · replace h := (if_neg c2).symm.trans h
    refine fw_aload_n C 2 dX2_holdsAgainst_26 rfl rfl ?_
    obtain ⟨g3, h⟩ := gd_some h
    obtain ⟨g4, h⟩ := gd_some h
    refine fw_getR C 2 0 (Nat.le_of_ble_eq_true rfl) (Nat.le_of_ble_eq_true rfl) wf_X2_27 rfl (gO_of g3) (gN_of g4) dX2_holdsAgainst_27 ?_
    obtain ⟨g5, h⟩ := gd_some h
    obtain ⟨g6, h⟩ := gd_some h
    refine fw_getR C 4 3 (Nat.le_of_ble_eq_true rfl) (Nat.le_of_ble_eq_true rfl) wf_X2_41 rfl (gO_of g5) (gN_of g6) dX2_holdsAgainst_30 ?_
    refine fw_iconst C 1 dX2_holdsAgainst_33 rfl ?_
    obtain ⟨g7, h⟩ := gd_some h
    refine fw_iald C (gA_of g7) dX2_holdsAgainst_34 ?_
    refine fw_bi h (fun y8 h => ?_)
    refine fw_istore C [(7, _), (6, _), (5, _), (0, _), (1, _), (2, _), (3, _), (4, _)] dX2_holdsAgainst_35 (Nat.le_of_ble_eq_true rfl) rfl ?_
    refine fw_iload C 0 dX2_holdsAgainst_37 rfl ?_
    refine fw_iconst C 2 dX2_holdsAgainst_39 rfl ?_
    refine fw_icmp_eq C 54 dX2_holdsAgainst_40 (by decide) (fun c9 => ?_) (fun c9 => ?_)
    · replace h := (if_pos c9).symm.trans h
      refine fw_iconst C 1 dX2_holdsAgainst_54 rfl ?_
      obtain rfl := Option.some.inj h
      exact fw_zret C hr (Or.inr rfl) hlk dX2_holdsAgainst_55
    · replace h := (if_neg c9).symm.trans h
      refine fw_iload C 0 dX2_holdsAgainst_43 rfl ?_
      refine fw_iconst C 1 dX2_holdsAgainst_45 rfl ?_
      refine fw_icmp_ne C 56 dX2_holdsAgainst_46 (by decide) (fun c10 => ?_) (fun c10 => ?_)
      · replace h := (if_neg c10).symm.trans h
        refine fw_iload C 2 dX2_holdsAgainst_56 rfl ?_
        refine fw_iload_n C 5 dX2_holdsAgainst_58 rfl rfl ?_
        refine fw_ishr C dX2_holdsAgainst_59 ?_
        refine fw_iload C 1 dX2_holdsAgainst_60 rfl ?_
        refine fw_iload_n C 6 dX2_holdsAgainst_62 rfl rfl ?_
        refine fw_ishr C dX2_holdsAgainst_63 ?_
        refine fw_iand C dX2_holdsAgainst_64 ?_
        refine fw_iload C 1 dX2_holdsAgainst_65 rfl ?_
        refine fw_iload_n C 5 dX2_holdsAgainst_67 rfl rfl ?_
        refine fw_ishr C dX2_holdsAgainst_68 ?_
        refine fw_iload C 2 dX2_holdsAgainst_69 rfl ?_
        refine fw_iload_n C 6 dX2_holdsAgainst_71 rfl rfl ?_
        refine fw_ishr C dX2_holdsAgainst_72 ?_
        refine fw_iand C dX2_holdsAgainst_73 ?_
        refine fw_ior C dX2_holdsAgainst_74 ?_
        refine fw_iconst C 1 dX2_holdsAgainst_75 rfl ?_
        refine fw_iand C dX2_holdsAgainst_76 ?_
        refine fw_iconst C 1 dX2_holdsAgainst_77 rfl ?_
        refine fw_icmp_ne C 85 dX2_holdsAgainst_78 (by decide) (fun c11 => ?_) (fun c11 => ?_)
        · replace h := (if_neg c11).symm.trans h
          refine fw_iconst C 0 dX2_holdsAgainst_85 rfl ?_
          obtain rfl := Option.some.inj h
          exact fw_zret C hr (Or.inl rfl) hlk dX2_holdsAgainst_86
        · replace h := (if_pos c11).symm.trans h
          refine fw_iconst C 1 dX2_holdsAgainst_81 rfl ?_
          refine fw_goto C 86 dX2_holdsAgainst_82 (by decide) ?_
          obtain rfl := Option.some.inj h
          exact fw_zret C hr (Or.inr rfl) hlk dX2_holdsAgainst_86
      · replace h := (if_pos c10).symm.trans h
        refine fw_iload C 7 dX2_holdsAgainst_49 rfl ?_
        refine fw_if_eq C 56 dX2_holdsAgainst_51 (by decide) (fun c12 => ?_) (fun c12 => ?_)
        · replace h := (if_pos c12).symm.trans h
          refine fw_iload C 2 dX2_holdsAgainst_56 rfl ?_
          refine fw_iload_n C 5 dX2_holdsAgainst_58 rfl rfl ?_
          refine fw_ishr C dX2_holdsAgainst_59 ?_
          refine fw_iload C 1 dX2_holdsAgainst_60 rfl ?_
          refine fw_iload_n C 6 dX2_holdsAgainst_62 rfl rfl ?_
          refine fw_ishr C dX2_holdsAgainst_63 ?_
          refine fw_iand C dX2_holdsAgainst_64 ?_
          refine fw_iload C 1 dX2_holdsAgainst_65 rfl ?_
          refine fw_iload_n C 5 dX2_holdsAgainst_67 rfl rfl ?_
          refine fw_ishr C dX2_holdsAgainst_68 ?_
          refine fw_iload C 2 dX2_holdsAgainst_69 rfl ?_
          refine fw_iload_n C 6 dX2_holdsAgainst_71 rfl rfl ?_
          refine fw_ishr C dX2_holdsAgainst_72 ?_
          refine fw_iand C dX2_holdsAgainst_73 ?_
          refine fw_ior C dX2_holdsAgainst_74 ?_
          refine fw_iconst C 1 dX2_holdsAgainst_75 rfl ?_
          refine fw_iand C dX2_holdsAgainst_76 ?_
          refine fw_iconst C 1 dX2_holdsAgainst_77 rfl ?_
          refine fw_icmp_ne C 85 dX2_holdsAgainst_78 (by decide) (fun c13 => ?_) (fun c13 => ?_)
          · replace h := (if_neg c13).symm.trans h
            refine fw_iconst C 0 dX2_holdsAgainst_85 rfl ?_
            obtain rfl := Option.some.inj h
            exact fw_zret C hr (Or.inl rfl) hlk dX2_holdsAgainst_86
          · replace h := (if_pos c13).symm.trans h
            refine fw_iconst C 1 dX2_holdsAgainst_81 rfl ?_
            refine fw_goto C 86 dX2_holdsAgainst_82 (by decide) ?_
            obtain rfl := Option.some.inj h
            exact fw_zret C hr (Or.inr rfl) hlk dX2_holdsAgainst_86
        · replace h := (if_neg c12).symm.trans h
          refine fw_iconst C 1 dX2_holdsAgainst_54 rfl ?_
          obtain rfl := Option.some.inj h
          exact fw_zret C hr (Or.inr rfl) hlk dX2_holdsAgainst_55
  · replace h := (if_pos c2).symm.trans h
    refine fw_iconst C 0 dX2_holdsAgainst_24 rfl ?_
    obtain rfl := Option.some.inj h
    exact fw_zret C hr (Or.inl rfl) hlk dX2_holdsAgainst_25
set_option maxRecDepth 100000 in
def fj_X2_heldBy_61 (S : List fw_Sh) (M : fw_Mem) (a0 : Nat) (a1 : Nat) (a2 : Nat) (x3 : Int32) (x4 : Int32) (x5 : Int32) : Option Int32 := gd (gO S 6 a2) (gd (gO S 2 a0) (b1 (f_X2_holdsAgainst S M a0 a1 (M a2 1) (M a2 2) 1) (fun v13 => if v13 = 0 then (some x5) else (bm (x5 ||| (((M a2 5) &&& x4) ||| ((M a2 6) &&& x3))) (fun y16 => some y16)))))
set_option maxHeartbeats 4000000 in
set_option maxRecDepth 100000 in
theorem jc_X2_heldBy_61 {G : fw_G} {p : Program} {l : Launch} {e : Env} {s : State} {m : MethodId} {args : Array Value} {below : List Frame} {meth : Method} {c : Code} {S : List fw_Sh} {M : fw_Mem} {a0 : Nat} {a1 : Nat} {a2 : Nat} {x3 : Int32} {x4 : Int32} {x5 : Int32} {r : Int32} {o : fw_O} (C : fw_C G RX2 cX2_heldBy 6 p s m args c) (hr : meth.sig.returnType = (some .int)) (hlk : meth.locks = false) (hl : l.stackTraces = false) (ht : ∀ x ∈ c.exceptionTable.toList, False) (ho : o = (.inl (some (.int r)), S, M)) (h : fj_X2_heldBy_61 S M a0 a1 a2 x3 x4 x5 = some r) :
    fw_W G p l e (fw_rm 3 (fw_mcO o) (fw_msO o)) s m args below meth c 6 (fw_Z G below args s (fw_mcO o) (fw_msO o) o) 0 0 61 [(0, .ref a0), (1, .ref a1), (2, .ref a2), (3, .int x3), (4, .int x4), (5, .int x5)] [] S M := by
  subst ho
  unfold fj_X2_heldBy_61 at h
  refine fw_aload_n C 0 dX2_heldBy_61 rfl rfl ?_
  refine fw_aload_n C 1 dX2_heldBy_62 rfl rfl ?_
  refine fw_aload_n C 2 dX2_heldBy_63 rfl rfl ?_
  obtain ⟨g12, h⟩ := gd_some h
  refine fw_getI C 6 1 (Nat.le_of_ble_eq_true rfl) (Nat.le_of_ble_eq_true rfl) wf_X2_62 rfl (gO_of g12) dX2_heldBy_64 ?_
  refine fw_aload_n C 2 dX2_heldBy_67 rfl rfl ?_
  refine fw_getI C 6 2 (Nat.le_of_ble_eq_true rfl) (Nat.le_of_ble_eq_true rfl) wf_X2_72 rfl (gO_of g12) dX2_heldBy_68 ?_
  refine fw_iconst C 1 dX2_heldBy_71 rfl ?_
  obtain ⟨g14, h⟩ := gd_some h
  obtain ⟨v13, e13, h⟩ := b1_some h
  refine fw_callV (ci := 2) [_, _, _, _] C (c_X2_holdsAgainst hl e13) cal_X2_holdsAgainst wm_X2_159 wi_yX2_holdsAgainst wsl_yX2_holdsAgainst (Nat.le_of_ble_eq_true rfl) rfl (gO_of g14) rfl (Nat.le_of_ble_eq_true rfl) ⟨Nat.le_of_ble_eq_true rfl, Nat.le_of_ble_eq_true rfl⟩ ⟨Nat.zero_le _, Nat.zero_le _⟩ dX2_heldBy_72 ?_
  refine fw_if_eq C 97 dX2_heldBy_75 (by decide) (fun c15 => ?_) (fun c15 => ?_)
  · replace h := (if_pos c15).symm.trans h
    refine fw_iload C 5 dX2_heldBy_97 rfl ?_
    obtain rfl := Option.some.inj h
    exact fw_iret C hr hlk dX2_heldBy_99
  · replace h := (if_neg c15).symm.trans h
    refine fw_iload C 5 dX2_heldBy_78 rfl ?_
    refine fw_aload_n C 2 dX2_heldBy_80 rfl rfl ?_
    refine fw_getI C 6 5 (Nat.le_of_ble_eq_true rfl) (Nat.le_of_ble_eq_true rfl) wf_X2_163 rfl (gO_of g12) dX2_heldBy_81 ?_
    refine fw_iload C 4 dX2_heldBy_84 rfl ?_
    refine fw_iand C dX2_heldBy_86 ?_
    refine fw_aload_n C 2 dX2_heldBy_87 rfl rfl ?_
    refine fw_getI C 6 6 (Nat.le_of_ble_eq_true rfl) (Nat.le_of_ble_eq_true rfl) wf_X2_166 rfl (gO_of g12) dX2_heldBy_88 ?_
    refine fw_iload_n C 3 dX2_heldBy_91 rfl rfl ?_
    refine fw_iand C dX2_heldBy_92 ?_
    refine fw_ior C dX2_heldBy_93 ?_
    refine fw_ior C dX2_heldBy_94 ?_
    refine fw_bi h (fun y16 h => ?_)
    refine fw_istore C [(5, _), (0, _), (1, _), (2, _), (3, _), (4, _)] dX2_heldBy_95 (Nat.le_of_ble_eq_true rfl) rfl ?_
    refine fw_iload C 0 dX2_heldBy_97 rfl ?_
    obtain rfl := Option.some.inj h
    exact fw_iret C hr hlk dX2_heldBy_99
set_option maxRecDepth 100000 in
def f_X2_heldBy (S : List fw_Sh) (M : fw_Mem) (a0 : Nat) (a1 : Nat) (a2 : Nat) : Option Int32 := gd (gO S 2 a0) (b1 (f_X2_comesBehind S M a0 a2 a1) (fun v1 => if v1 = 0 then (some 0) else (gd (gO S 6 a1) (gd (gO S 6 a2) (b1 (f_X2_holdsAgainst S M a0 a1 (M a2 2) (M a2 1) 0) (fun v6 => if v6 = 0 then (b1 (f_X2_holdsAgainst S M a0 a1 (M a2 1) (M a2 2) 1) (fun v8 => if v8 = 0 then (some 0) else (bm ((0 : Int32) ||| (((M a2 5) &&& (M a1 16)) ||| ((M a2 6) &&& (M a1 15)))) (fun y10 => some y10)))) else (bm ((0 : Int32) ||| (((M a2 5) &&& (M a1 15)) ||| ((M a2 6) &&& (M a1 16)))) (fun y11 => fj_X2_heldBy_61 S M a0 a1 a2 (M a1 15) (M a1 16) y11))))))))
set_option maxHeartbeats 4000000 in
set_option maxRecDepth 100000 in
theorem c_X2_heldBy {l : Launch} {G : fw_G} {S : List fw_Sh} {M : fw_Mem} {a0 : Nat} {a1 : Nat} {a2 : Nat} {r : Int32} (hl : l.stackTraces = false) (h : f_X2_heldBy S M a0 a1 a2 = some r) : fw_M l G yX2_heldBy (.code yX2_heldBy cX2_heldBy 6 (some .int)) 3 (fw_mcO (.inl (some (.int r)), S, M)) (fw_msO (.inl (some (.int r)), S, M)) S M [.ref a0, .ref a1, .ref a2] (.inl (some (.int r)), S, M) := by
  refine fw_of [(0, .ref a0), (1, .ref a1), (2, .ref a2)] (by decide) (Nat.le_of_ble_eq_true rfl) rfl ?_
  intro p e s m args below meth c C hr hlk hnm ht _
  unfold f_X2_heldBy at h
  refine fw_aload_n C 0 dX2_heldBy_0 rfl rfl ?_
  refine fw_aload_n C 2 dX2_heldBy_1 rfl rfl ?_
  refine fw_aload_n C 1 dX2_heldBy_2 rfl rfl ?_
  obtain ⟨g2, h⟩ := gd_some h
  obtain ⟨v1, e1, h⟩ := b1_some h
  refine fw_callV (ci := 2) [_, _] C (c_X2_comesBehind hl e1) cal_X2_comesBehind wm_X2_153 wi_yX2_comesBehind wsl_yX2_comesBehind (Nat.le_of_ble_eq_true rfl) rfl (gO_of g2) rfl (Nat.le_of_ble_eq_true rfl) ⟨Nat.le_of_ble_eq_true rfl, Nat.le_of_ble_eq_true rfl⟩ ⟨Nat.zero_le _, Nat.zero_le _⟩ dX2_heldBy_3 ?_
  refine fw_if_ne C 11 dX2_heldBy_6 (by decide) (fun c3 => ?_) (fun c3 => ?_)
  · replace h := (if_neg c3).symm.trans h
    refine fw_aload_n C 1 dX2_heldBy_11 rfl rfl ?_
    obtain ⟨g4, h⟩ := gd_some h
    refine fw_getI C 6 15 (Nat.le_of_ble_eq_true rfl) (Nat.le_of_ble_eq_true rfl) wf_X2_53 rfl (gO_of g4) dX2_heldBy_12 ?_
    refine fw_istore_n C [(3, _), (0, _), (1, _), (2, _)] dX2_heldBy_15 rfl (Nat.le_of_ble_eq_true rfl) rfl ?_
    refine fw_aload_n C 2 dX2_heldBy_16 rfl rfl ?_
    refine fw_getI C 6 16 (Nat.le_of_ble_eq_true rfl) (Nat.le_of_ble_eq_true rfl) wf_X2_59 rfl (gO_of g4) dX2_heldBy_17 ?_
    refine fw_istore C [(4, _), (3, _), (0, _), (1, _), (2, _)] dX2_heldBy_20 (Nat.le_of_ble_eq_true rfl) rfl ?_
    refine fw_iconst C 0 dX2_heldBy_22 rfl ?_
    refine fw_istore C [(5, _), (4, _), (3, _), (0, _), (1, _), (2, _)] dX2_heldBy_23 (Nat.le_of_ble_eq_true rfl) rfl ?_
    refine fw_aload_n C 3 dX2_heldBy_25 rfl rfl ?_
    refine fw_aload_n C 4 dX2_heldBy_26 rfl rfl ?_
    refine fw_aload_n C 5 dX2_heldBy_27 rfl rfl ?_
    obtain ⟨g5, h⟩ := gd_some h
    refine fw_getI C 6 2 (Nat.le_of_ble_eq_true rfl) (Nat.le_of_ble_eq_true rfl) wf_X2_72 rfl (gO_of g5) dX2_heldBy_28 ?_
    refine fw_aload_n C 5 dX2_heldBy_31 rfl rfl ?_
    refine fw_getI C 6 1 (Nat.le_of_ble_eq_true rfl) (Nat.le_of_ble_eq_true rfl) wf_X2_62 rfl (gO_of g5) dX2_heldBy_32 ?_
    refine fw_iconst C 0 dX2_heldBy_35 rfl ?_
    obtain ⟨v6, e6, h⟩ := b1_some h
    refine fw_callV (ci := 2) [_, _, _, _] C (c_X2_holdsAgainst hl e6) cal_X2_holdsAgainst wm_X2_159 wi_yX2_holdsAgainst wsl_yX2_holdsAgainst (Nat.le_of_ble_eq_true rfl) rfl (gO_of g2) rfl (Nat.le_of_ble_eq_true rfl) ⟨Nat.le_of_ble_eq_true rfl, Nat.le_of_ble_eq_true rfl⟩ ⟨Nat.zero_le _, Nat.zero_le _⟩ dX2_heldBy_36 ?_
    refine fw_if_eq C 61 dX2_heldBy_39 (by decide) (fun c7 => ?_) (fun c7 => ?_)
    · replace h := (if_pos c7).symm.trans h
      refine fw_aload_n C 3 dX2_heldBy_61 rfl rfl ?_
      refine fw_aload_n C 4 dX2_heldBy_62 rfl rfl ?_
      refine fw_aload_n C 5 dX2_heldBy_63 rfl rfl ?_
      refine fw_getI C 6 1 (Nat.le_of_ble_eq_true rfl) (Nat.le_of_ble_eq_true rfl) wf_X2_62 rfl (gO_of g5) dX2_heldBy_64 ?_
      refine fw_aload_n C 5 dX2_heldBy_67 rfl rfl ?_
      refine fw_getI C 6 2 (Nat.le_of_ble_eq_true rfl) (Nat.le_of_ble_eq_true rfl) wf_X2_72 rfl (gO_of g5) dX2_heldBy_68 ?_
      refine fw_iconst C 1 dX2_heldBy_71 rfl ?_
      obtain ⟨v8, e8, h⟩ := b1_some h
      refine fw_callV (ci := 2) [_, _, _, _] C (c_X2_holdsAgainst hl e8) cal_X2_holdsAgainst wm_X2_159 wi_yX2_holdsAgainst wsl_yX2_holdsAgainst (Nat.le_of_ble_eq_true rfl) rfl (gO_of g2) rfl (Nat.le_of_ble_eq_true rfl) ⟨Nat.le_of_ble_eq_true rfl, Nat.le_of_ble_eq_true rfl⟩ ⟨Nat.zero_le _, Nat.zero_le _⟩ dX2_heldBy_72 ?_
      refine fw_if_eq C 97 dX2_heldBy_75 (by decide) (fun c9 => ?_) (fun c9 => ?_)
      · replace h := (if_pos c9).symm.trans h
        refine fw_iload C 0 dX2_heldBy_97 rfl ?_
        obtain rfl := Option.some.inj h
        exact fw_iret C hr hlk dX2_heldBy_99
      · replace h := (if_neg c9).symm.trans h
        refine fw_iload C 0 dX2_heldBy_78 rfl ?_
        refine fw_aload_n C 5 dX2_heldBy_80 rfl rfl ?_
        refine fw_getI C 6 5 (Nat.le_of_ble_eq_true rfl) (Nat.le_of_ble_eq_true rfl) wf_X2_163 rfl (gO_of g5) dX2_heldBy_81 ?_
        refine fw_iload C 1 dX2_heldBy_84 rfl ?_
        refine fw_iand C dX2_heldBy_86 ?_
        refine fw_aload_n C 5 dX2_heldBy_87 rfl rfl ?_
        refine fw_getI C 6 6 (Nat.le_of_ble_eq_true rfl) (Nat.le_of_ble_eq_true rfl) wf_X2_166 rfl (gO_of g5) dX2_heldBy_88 ?_
        refine fw_iload_n C 2 dX2_heldBy_91 rfl rfl ?_
        refine fw_iand C dX2_heldBy_92 ?_
        refine fw_ior C dX2_heldBy_93 ?_
        refine fw_ior C dX2_heldBy_94 ?_
        refine fw_bi h (fun y10 h => ?_)
        refine fw_istore C [(5, _), (4, _), (3, _), (0, _), (1, _), (2, _)] dX2_heldBy_95 (Nat.le_of_ble_eq_true rfl) rfl ?_
        refine fw_iload C 0 dX2_heldBy_97 rfl ?_
        obtain rfl := Option.some.inj h
        exact fw_iret C hr hlk dX2_heldBy_99
    · replace h := (if_neg c7).symm.trans h
      refine fw_iload C 0 dX2_heldBy_42 rfl ?_
      refine fw_aload_n C 5 dX2_heldBy_44 rfl rfl ?_
      refine fw_getI C 6 5 (Nat.le_of_ble_eq_true rfl) (Nat.le_of_ble_eq_true rfl) wf_X2_163 rfl (gO_of g5) dX2_heldBy_45 ?_
      refine fw_iload_n C 2 dX2_heldBy_48 rfl rfl ?_
      refine fw_iand C dX2_heldBy_49 ?_
      refine fw_aload_n C 5 dX2_heldBy_50 rfl rfl ?_
      refine fw_getI C 6 6 (Nat.le_of_ble_eq_true rfl) (Nat.le_of_ble_eq_true rfl) wf_X2_166 rfl (gO_of g5) dX2_heldBy_51 ?_
      refine fw_iload C 1 dX2_heldBy_54 rfl ?_
      refine fw_iand C dX2_heldBy_56 ?_
      refine fw_ior C dX2_heldBy_57 ?_
      refine fw_ior C dX2_heldBy_58 ?_
      refine fw_bi h (fun y11 h => ?_)
      refine fw_istore C [(5, _), (4, _), (3, _), (0, _), (1, _), (2, _)] dX2_heldBy_59 (Nat.le_of_ble_eq_true rfl) rfl ?_
      refine fw_sub [3, 4, 5, 2, 1, 0] rfl ?_
      exact jc_X2_heldBy_61 C hr hlk hl ht rfl h
  · replace h := (if_pos c3).symm.trans h
    refine fw_iconst C 0 dX2_heldBy_9 rfl ?_
    obtain rfl := Option.some.inj h
    exact fw_iret C hr hlk dX2_heldBy_10
set_option maxRecDepth 100000 in
def f_X2_setHolder (S : List fw_Sh) (M : fw_Mem) (a0 : Nat) (a1 : Nat) (x2 : Int32) : Option fw_Mem := bm ((1 : Int32) <<< (x2 &&& 31)) (fun y1 => gd (gO S 2 a0) (gd (gN (M a0 1)) (gd (gO S 6 a1) (gd (gA S 0 ((M a0 1).toNatClampNeg) x2) (bm (fw_set M ((M a0 1).toNatClampNeg) x2.toNatClampNeg (M a1 0)) (fun M6 => bm (fw_set M6 a0 6 (((M6 a0 6) &&& (y1 ^^^ (-1))) ||| ((M6 a1 10) &&& y1))) (fun M7 => bm (fw_set M7 a0 7 (((M7 a0 7) &&& (y1 ^^^ (-1))) ||| ((M7 a1 11) &&& y1))) (fun M8 => some M8))))))))
set_option maxHeartbeats 4000000 in
set_option maxRecDepth 100000 in
theorem c_X2_setHolder {l : Launch} {G : fw_G} {S : List fw_Sh} {M : fw_Mem} {a0 : Nat} {a1 : Nat} {x2 : Int32} {r : fw_Mem} (hl : l.stackTraces = false) (h : f_X2_setHolder S M a0 a1 x2 = some r) : fw_M l G yX2_setHolder (.code yX2_setHolder cX2_setHolder 4 none) 1 (fw_mcO (.inl none, S, r)) (fw_msO (.inl none, S, r)) S M [.ref a0, .ref a1, .int x2] (.inl none, S, r) := by
  refine fw_of [(0, .ref a0), (1, .ref a1), (2, .int x2)] (by decide) (Nat.le_of_ble_eq_true rfl) rfl ?_
  intro p e s m args below meth c C hr hlk hnm ht _
  unfold f_X2_setHolder at h
  refine fw_iconst C 1 dX2_setHolder_0 rfl ?_
  refine fw_iload_n C 2 dX2_setHolder_1 rfl rfl ?_
  refine fw_ishl C dX2_setHolder_2 ?_
  refine fw_bi h (fun y1 h => ?_)
  refine fw_istore_n C [(3, _), (0, _), (1, _), (2, _)] dX2_setHolder_3 rfl (Nat.le_of_ble_eq_true rfl) rfl ?_
  refine fw_aload_n C 1 dX2_setHolder_4 rfl rfl ?_
  obtain ⟨g2, h⟩ := gd_some h
  obtain ⟨g3, h⟩ := gd_some h
  refine fw_getR C 2 1 (Nat.le_of_ble_eq_true rfl) (Nat.le_of_ble_eq_true rfl) wf_X2_9 rfl (gO_of g2) (gN_of g3) dX2_setHolder_5 ?_
  refine fw_iload_n C 3 dX2_setHolder_8 rfl rfl ?_
  refine fw_aload_n C 2 dX2_setHolder_9 rfl rfl ?_
  obtain ⟨g4, h⟩ := gd_some h
  refine fw_getI C 6 0 (Nat.le_of_ble_eq_true rfl) (Nat.le_of_ble_eq_true rfl) wf_X2_122 rfl (gO_of g4) dX2_setHolder_10 ?_
  obtain ⟨g5, h⟩ := gd_some h
  refine fw_iast C (gA_of g5) dX2_setHolder_13 ?_
  refine fw_bm h (fun M6 h => ?_)
  refine fw_aload_n C 1 dX2_setHolder_14 rfl rfl ?_
  refine fw_aload_n C 1 dX2_setHolder_15 rfl rfl ?_
  refine fw_getI C 2 6 (Nat.le_of_ble_eq_true rfl) (Nat.le_of_ble_eq_true rfl) wf_X2_169 rfl (gO_of g2) dX2_setHolder_16 ?_
  refine fw_iload_n C 0 dX2_setHolder_19 rfl rfl ?_
  refine fw_iconst C (-1) dX2_setHolder_20 rfl ?_
  refine fw_ixor C dX2_setHolder_21 ?_
  refine fw_iand C dX2_setHolder_22 ?_
  refine fw_aload_n C 2 dX2_setHolder_23 rfl rfl ?_
  refine fw_getI C 6 10 (Nat.le_of_ble_eq_true rfl) (Nat.le_of_ble_eq_true rfl) wf_X2_50 rfl (gO_of g4) dX2_setHolder_24 ?_
  refine fw_iload_n C 0 dX2_setHolder_27 rfl rfl ?_
  refine fw_iand C dX2_setHolder_28 ?_
  refine fw_ior C dX2_setHolder_29 ?_
  refine fw_putI C 2 6 (Nat.le_of_ble_eq_true rfl) (Nat.le_of_ble_eq_true rfl) wf_X2_169 rfl rfl rfl rfl (gO_of g2) dX2_setHolder_30 ?_
  refine fw_bm h (fun M7 h => ?_)
  refine fw_aload_n C 1 dX2_setHolder_33 rfl rfl ?_
  refine fw_aload_n C 1 dX2_setHolder_34 rfl rfl ?_
  refine fw_getI C 2 7 (Nat.le_of_ble_eq_true rfl) (Nat.le_of_ble_eq_true rfl) wf_X2_172 rfl (gO_of g2) dX2_setHolder_35 ?_
  refine fw_iload_n C 0 dX2_setHolder_38 rfl rfl ?_
  refine fw_iconst C (-1) dX2_setHolder_39 rfl ?_
  refine fw_ixor C dX2_setHolder_40 ?_
  refine fw_iand C dX2_setHolder_41 ?_
  refine fw_aload_n C 2 dX2_setHolder_42 rfl rfl ?_
  refine fw_getI C 6 11 (Nat.le_of_ble_eq_true rfl) (Nat.le_of_ble_eq_true rfl) wf_X2_56 rfl (gO_of g4) dX2_setHolder_43 ?_
  refine fw_iload_n C 0 dX2_setHolder_46 rfl rfl ?_
  refine fw_iand C dX2_setHolder_47 ?_
  refine fw_ior C dX2_setHolder_48 ?_
  refine fw_putI C 2 7 (Nat.le_of_ble_eq_true rfl) (Nat.le_of_ble_eq_true rfl) wf_X2_172 rfl rfl rfl rfl (gO_of g2) dX2_setHolder_49 ?_
  refine fw_bm h (fun M8 h => ?_)
  obtain rfl := Option.some.inj h
  exact fw_vret C hr hlk dX2_setHolder_52
set_option maxRecDepth 100000 in
def lf_X2_weigh_52 (S : List fw_Sh) (a0 : Nat) (a1 : Nat) (x2 : Int32) (a3 : Nat) (x4 : Int32) : Nat → Int32 → fw_Mem → Option (fw_Mem)
  | 0, _, _ => none
  | n + 1, x5, M => if (31 : Int32) ≤ x5 then (some M) else (if x4 = 0 then (some M) else (if ((x4 >>> (x5 &&& 31)) &&& 1) = 1 then (gd (gO S 2 a0) (b1 (f_X2_countsOverHolder S M a0 a3 x5) (fun v17 => if v17 = 0 then (lf_X2_weigh_52 S a0 a1 x2 a3 x4 n (x5 + 1) M) else (b1 (f_X2_setHolder S M a0 a3 x5) (fun M20 => lf_X2_weigh_52 S a0 a1 x2 a3 x4 n (x5 + 1) M20))))) else (lf_X2_weigh_52 S a0 a1 x2 a3 x4 n (x5 + 1) M)))
set_option maxHeartbeats 4000000 in
set_option maxRecDepth 100000 in
theorem lc_X2_weigh_52 {G : fw_G} {p : Program} {l : Launch} {e : Env} {s : State} {m : MethodId} {args : Array Value} {below : List Frame} {meth : Method} {c : Code} {S : List fw_Sh} {o : fw_O} {a0 : Nat} {a1 : Nat} {x2 : Int32} {a3 : Nat} {x4 : Int32} (C : fw_C G RX2 cX2_weigh 6 p s m args c) (hr : meth.sig.returnType = none) (hlk : meth.locks = false) (hl : l.stackTraces = false) (ht : ∀ x ∈ c.exceptionTable.toList, False) :
    ∀ {n : Nat} {x5 : Int32} {M : fw_Mem} {r : (fw_Mem)} (h : lf_X2_weigh_52 S a0 a1 x2 a3 x4 n x5 M = some r) (kx : fw_W G p l e (fw_rm 4 (fw_mcO o) (fw_msO o)) s m args below meth c 6 (fw_Z G below args s (fw_mcO o) (fw_msO o) o) 0 0 98 [(0, .ref a0), (1, .ref a1), (2, .int x2)] [] S r), fw_W G p l e (fw_rm 4 (fw_mcO o) (fw_msO o)) s m args below meth c 6 (fw_Z G below args s (fw_mcO o) (fw_msO o) o) 0 0 52 [(0, .ref a0), (1, .ref a1), (2, .int x2), (3, .ref a3), (4, .int x4), (5, .int x5)] [] S M := by
  intro n
  induction n with
  | zero =>
    intro x5 M r h
    exact nomatch (show (none : Option (fw_Mem)) = some r from h)
  | succ n ih =>
    intro x5 M r h kx
    rw [lf_X2_weigh_52.eq_2] at h
    refine fw_iload C 5 dX2_weigh_52 rfl ?_
    refine fw_bipush C 31 dX2_weigh_54 rfl ?_
    refine fw_icmp_ge C 98 dX2_weigh_56 (by decide) (fun c14 => ?_) (fun c14 => ?_)
    · replace h := (if_pos c14).symm.trans h
      obtain rfl := Option.some.inj h
      refine fw_sub [0, 1, 2] rfl ?_
      exact kx
    · replace h := (if_neg c14).symm.trans h
      refine fw_iload C 4 dX2_weigh_59 rfl ?_
      refine fw_if_eq C 98 dX2_weigh_61 (by decide) (fun c15 => ?_) (fun c15 => ?_)
      · replace h := (if_pos c15).symm.trans h
        obtain rfl := Option.some.inj h
        refine fw_sub [0, 1, 2] rfl ?_
        exact kx
      · replace h := (if_neg c15).symm.trans h
        refine fw_iload C 4 dX2_weigh_64 rfl ?_
        refine fw_iload C 5 dX2_weigh_66 rfl ?_
        refine fw_ishr C dX2_weigh_68 ?_
        refine fw_iconst C 1 dX2_weigh_69 rfl ?_
        refine fw_iand C dX2_weigh_70 ?_
        refine fw_iconst C 1 dX2_weigh_71 rfl ?_
        refine fw_icmp_ne C 92 dX2_weigh_72 (by decide) (fun c16 => ?_) (fun c16 => ?_)
        · replace h := (if_neg c16).symm.trans h
          refine fw_iinc C _ 5 [(5, _), (0, _), (1, _), (2, _), (3, _), (4, _)] dX2_weigh_92 rfl rfl (Nat.le_of_ble_eq_true rfl) rfl ?_
          refine fw_goto C 52 dX2_weigh_95 (by decide) ?_
          refine fw_sub [1, 2, 3, 4, 5, 0] rfl ?_
          exact ih h kx
        · replace h := (if_pos c16).symm.trans h
          refine fw_aload_n C 0 dX2_weigh_75 rfl rfl ?_
          refine fw_aload_n C 3 dX2_weigh_76 rfl rfl ?_
          refine fw_iload C 5 dX2_weigh_77 rfl ?_
          obtain ⟨g18, h⟩ := gd_some h
          obtain ⟨v17, e17, h⟩ := b1_some h
          refine fw_callV (ci := 2) [_, _] C (c_X2_countsOverHolder hl e17) cal_X2_countsOverHolder wm_X2_179 wi_yX2_countsOverHolder wsl_yX2_countsOverHolder (Nat.le_of_ble_eq_true rfl) rfl (gO_of g18) rfl (Nat.le_of_ble_eq_true rfl) ⟨Nat.le_of_ble_eq_true rfl, Nat.le_of_ble_eq_true rfl⟩ ⟨Nat.zero_le _, Nat.zero_le _⟩ dX2_weigh_79 ?_
          refine fw_if_eq C 92 dX2_weigh_82 (by decide) (fun c19 => ?_) (fun c19 => ?_)
          · replace h := (if_pos c19).symm.trans h
            refine fw_iinc C _ 5 [(5, _), (0, _), (1, _), (2, _), (3, _), (4, _)] dX2_weigh_92 rfl rfl (Nat.le_of_ble_eq_true rfl) rfl ?_
            refine fw_goto C 52 dX2_weigh_95 (by decide) ?_
            refine fw_sub [1, 2, 3, 4, 5, 0] rfl ?_
            exact ih h kx
          · replace h := (if_neg c19).symm.trans h
            refine fw_aload_n C 0 dX2_weigh_85 rfl rfl ?_
            refine fw_aload_n C 3 dX2_weigh_86 rfl rfl ?_
            refine fw_iload C 5 dX2_weigh_87 rfl ?_
            obtain ⟨M20, e20, h⟩ := b1_some h
            refine fw_callV (ci := 2) [_, _] C (c_X2_setHolder hl e20) cal_X2_setHolder wm_X2_183 wi_yX2_setHolder wsl_yX2_setHolder (Nat.le_of_ble_eq_true rfl) rfl (gO_of g18) rfl (Nat.le_of_ble_eq_true rfl) ⟨Nat.le_of_ble_eq_true rfl, Nat.le_of_ble_eq_true rfl⟩ ⟨Nat.zero_le _, Nat.zero_le _⟩ dX2_weigh_89 ?_
            refine fw_iinc C _ 5 [(5, _), (0, _), (1, _), (2, _), (3, _), (4, _)] dX2_weigh_92 rfl rfl (Nat.le_of_ble_eq_true rfl) rfl ?_
            refine fw_goto C 52 dX2_weigh_95 (by decide) ?_
            refine fw_sub [1, 2, 3, 4, 5, 0] rfl ?_
            exact ih h kx
set_option maxRecDepth 100000 in
def lf_X2_weigh_20 (S : List fw_Sh) (a0 : Nat) (a1 : Nat) : Nat → Int32 → fw_Mem → Option (fw_Mem)
  | 0, _, _ => none
  | n + 1, x2, M => gd (gO S 2 a0) (gd (gN (M a0 0)) (gd (gO S 4 ((M a0 0).toNatClampNeg)) (if (M ((M a0 0).toNatClampNeg) 6) ≤ x2 then (some M) else (gd (gN (M ((M a0 0).toNatClampNeg) 2)) (gd (gA S 4 ((M ((M a0 0).toNatClampNeg) 2).toNatClampNeg) x2) (gd (gN (M ((M ((M a0 0).toNatClampNeg) 2).toNatClampNeg) x2.toNatClampNeg)) (b1 (f_X2_heldBy S M a0 ((M ((M ((M a0 0).toNatClampNeg) 2).toNatClampNeg) x2.toNatClampNeg).toNatClampNeg) a1) (fun v13 => b1 (lf_X2_weigh_52 S a0 a1 x2 ((M ((M ((M a0 0).toNatClampNeg) 2).toNatClampNeg) x2.toNatClampNeg).toNatClampNeg) v13 20000 0 M) (fun l21 => lf_X2_weigh_20 S a0 a1 n (x2 + 1) l21)))))))))
set_option maxHeartbeats 4000000 in
set_option maxRecDepth 100000 in
theorem lc_X2_weigh_20 {G : fw_G} {p : Program} {l : Launch} {e : Env} {s : State} {m : MethodId} {args : Array Value} {below : List Frame} {meth : Method} {c : Code} {S : List fw_Sh} {o : fw_O} {a0 : Nat} {a1 : Nat} (C : fw_C G RX2 cX2_weigh 6 p s m args c) (hr : meth.sig.returnType = none) (hlk : meth.locks = false) (hl : l.stackTraces = false) (ht : ∀ x ∈ c.exceptionTable.toList, False) :
    ∀ {n : Nat} {x2 : Int32} {M : fw_Mem} {r : (fw_Mem)} (h : lf_X2_weigh_20 S a0 a1 n x2 M = some r) (kx : fw_W G p l e (fw_rm 4 (fw_mcO o) (fw_msO o)) s m args below meth c 6 (fw_Z G below args s (fw_mcO o) (fw_msO o) o) 0 0 104 [] [] S r), fw_W G p l e (fw_rm 4 (fw_mcO o) (fw_msO o)) s m args below meth c 6 (fw_Z G below args s (fw_mcO o) (fw_msO o) o) 0 0 20 [(0, .ref a0), (1, .ref a1), (2, .int x2)] [] S M := by
  intro n
  induction n with
  | zero =>
    intro x2 M r h
    exact nomatch (show (none : Option (fw_Mem)) = some r from h)
  | succ n ih =>
    intro x2 M r h kx
    rw [lf_X2_weigh_20.eq_2] at h
    refine fw_iload_n C 2 dX2_weigh_20 rfl rfl ?_
    refine fw_aload_n C 0 dX2_weigh_21 rfl rfl ?_
    obtain ⟨g6, h⟩ := gd_some h
    obtain ⟨g7, h⟩ := gd_some h
    refine fw_getR C 2 0 (Nat.le_of_ble_eq_true rfl) (Nat.le_of_ble_eq_true rfl) wf_X2_27 rfl (gO_of g6) (gN_of g7) dX2_weigh_22 ?_
    obtain ⟨g8, h⟩ := gd_some h
    refine fw_getI C 4 6 (Nat.le_of_ble_eq_true rfl) (Nat.le_of_ble_eq_true rfl) wf_X2_31 rfl (gO_of g8) dX2_weigh_25 ?_
    refine fw_icmp_ge C 104 dX2_weigh_28 (by decide) (fun c9 => ?_) (fun c9 => ?_)
    · replace h := (if_pos c9).symm.trans h
      obtain rfl := Option.some.inj h
      refine fw_sub [] rfl ?_
      exact kx
    · replace h := (if_neg c9).symm.trans h
      refine fw_aload_n C 0 dX2_weigh_31 rfl rfl ?_
      refine fw_getR C 2 0 (Nat.le_of_ble_eq_true rfl) (Nat.le_of_ble_eq_true rfl) wf_X2_27 rfl (gO_of g6) (gN_of g7) dX2_weigh_32 ?_
      obtain ⟨g10, h⟩ := gd_some h
      refine fw_getR C 4 2 (Nat.le_of_ble_eq_true rfl) (Nat.le_of_ble_eq_true rfl) wf_X2_37 rfl (gO_of g8) (gN_of g10) dX2_weigh_35 ?_
      refine fw_iload_n C 2 dX2_weigh_38 rfl rfl ?_
      obtain ⟨g11, h⟩ := gd_some h
      obtain ⟨g12, h⟩ := gd_some h
      refine fw_aald C 4 (by decide) (gA_of g11) (gN_of g12) dX2_weigh_39 ?_
      refine fw_astore_n C [(3, _), (0, _), (1, _), (2, _)] dX2_weigh_40 rfl (Nat.le_of_ble_eq_true rfl) rfl ?_
      refine fw_aload_n C 1 dX2_weigh_41 rfl rfl ?_
      refine fw_aload_n C 0 dX2_weigh_42 rfl rfl ?_
      refine fw_aload_n C 2 dX2_weigh_43 rfl rfl ?_
      obtain ⟨v13, e13, h⟩ := b1_some h
      refine fw_callV (ci := 2) [_, _] C (c_X2_heldBy hl e13) cal_X2_heldBy wm_X2_175 wi_yX2_heldBy wsl_yX2_heldBy (Nat.le_of_ble_eq_true rfl) rfl (gO_of g6) rfl (Nat.le_of_ble_eq_true rfl) ⟨Nat.le_of_ble_eq_true rfl, Nat.le_of_ble_eq_true rfl⟩ ⟨Nat.zero_le _, Nat.zero_le _⟩ dX2_weigh_44 ?_
      refine fw_istore C [(4, _), (3, _), (0, _), (1, _), (2, _)] dX2_weigh_47 (Nat.le_of_ble_eq_true rfl) rfl ?_
      refine fw_iconst C 0 dX2_weigh_49 rfl ?_
      refine fw_istore C [(5, _), (4, _), (3, _), (0, _), (1, _), (2, _)] dX2_weigh_50 (Nat.le_of_ble_eq_true rfl) rfl ?_
      refine fw_sub [3, 4, 5, 2, 1, 0] rfl ?_
      obtain ⟨l21, e21, h⟩ := b1_some h
      refine lc_X2_weigh_52 C hr hlk hl ht e21 ?_
      refine fw_iinc C _ 2 [(2, _), (0, _), (1, _)] dX2_weigh_98 rfl rfl (Nat.le_of_ble_eq_true rfl) rfl ?_
      refine fw_goto C 20 dX2_weigh_101 (by decide) ?_
      refine fw_sub [1, 2, 0] rfl ?_
      exact ih h kx
set_option maxRecDepth 100000 in
def f_X2_weigh (S : List fw_Sh) (M : fw_Mem) (a0 : Nat) (a1 : Nat) : Option fw_Mem := gd (gO S 2 a0) (gd (gN (M a0 1)) (b1 (f_J7_fill_53178 S M ((M a0 1).toNatClampNeg) (-1)) (fun M3 => bm (fw_set M3 a0 6 0) (fun M4 => bm (fw_set M4 a0 7 0) (fun M5 => b1 (lf_X2_weigh_20 S a0 a1 20000 0 M5) (fun l22 => some l22))))))
set_option maxHeartbeats 4000000 in
set_option maxRecDepth 100000 in
theorem c_X2_weigh {l : Launch} {G : fw_G} {S : List fw_Sh} {M : fw_Mem} {a0 : Nat} {a1 : Nat} {r : fw_Mem} (hl : l.stackTraces = false) (h : f_X2_weigh S M a0 a1 = some r) : fw_M l G yX2_weigh (.code yX2_weigh cX2_weigh 6 none) 4 (fw_mcO (.inl none, S, r)) (fw_msO (.inl none, S, r)) S M [.ref a0, .ref a1] (.inl none, S, r) := by
  refine fw_of [(0, .ref a0), (1, .ref a1)] (by decide) (Nat.le_of_ble_eq_true rfl) rfl ?_
  intro p e s m args below meth c C hr hlk hnm ht _
  unfold f_X2_weigh at h
  refine fw_aload_n C 0 dX2_weigh_0 rfl rfl ?_
  obtain ⟨g1, h⟩ := gd_some h
  obtain ⟨g2, h⟩ := gd_some h
  refine fw_getR C 2 1 (Nat.le_of_ble_eq_true rfl) (Nat.le_of_ble_eq_true rfl) wf_X2_9 rfl (gO_of g1) (gN_of g2) dX2_weigh_1 ?_
  refine fw_iconst C (-1) dX2_weigh_4 rfl ?_
  obtain ⟨M3, e3, h⟩ := b1_some h
  refine fw_callS [_, _] C (c_J7_fill_53178 hl e3) cal_J7_fill_53178 wm_X2_104 wt_yJ7_fill_53178 rfl (Nat.le_of_ble_eq_true rfl) ⟨Nat.le_of_ble_eq_true rfl, Nat.le_of_ble_eq_true rfl⟩ ⟨Nat.zero_le _, Nat.zero_le _⟩ dX2_weigh_5 ?_
  refine fw_aload_n C 0 dX2_weigh_8 rfl rfl ?_
  refine fw_iconst C 0 dX2_weigh_9 rfl ?_
  refine fw_putI C 2 6 (Nat.le_of_ble_eq_true rfl) (Nat.le_of_ble_eq_true rfl) wf_X2_169 rfl rfl rfl rfl (gO_of g1) dX2_weigh_10 ?_
  refine fw_bm h (fun M4 h => ?_)
  refine fw_aload_n C 0 dX2_weigh_13 rfl rfl ?_
  refine fw_iconst C 0 dX2_weigh_14 rfl ?_
  refine fw_putI C 2 7 (Nat.le_of_ble_eq_true rfl) (Nat.le_of_ble_eq_true rfl) wf_X2_172 rfl rfl rfl rfl (gO_of g1) dX2_weigh_15 ?_
  refine fw_bm h (fun M5 h => ?_)
  refine fw_iconst C 0 dX2_weigh_18 rfl ?_
  refine fw_istore_n C [(2, _), (0, _), (1, _)] dX2_weigh_19 rfl (Nat.le_of_ble_eq_true rfl) rfl ?_
  refine fw_sub [1, 2, 0] rfl ?_
  obtain ⟨l22, e22, h⟩ := b1_some h
  refine lc_X2_weigh_20 C hr hlk hl ht e22 ?_
  obtain rfl := Option.some.inj h
  exact fw_vret C hr hlk dX2_weigh_104
set_option maxRecDepth 100000 in
def lf_X2_restsOn_39 (S : List fw_Sh) (M : fw_Mem) (a0 : Nat) (x2 : Int32) : Nat → Int32 → Int32 → Option (Int32)
  | 0, _, _ => none
  | n + 1, x3, x4 => if (31 : Int32) ≤ x4 then (some x3) else (if ((x2 >>> (x4 &&& 31)) &&& 1) = 1 then (gd (gO S 2 a0) (gd (gN (M a0 1)) (gd (gA S 0 ((M a0 1).toNatClampNeg) x4) (bm (x3 ||| ((1 : Int32) <<< ((M ((M a0 1).toNatClampNeg) x4.toNatClampNeg) &&& 31))) (fun y12 => lf_X2_restsOn_39 S M a0 x2 n y12 (x4 + 1)))))) else (lf_X2_restsOn_39 S M a0 x2 n x3 (x4 + 1)))
set_option maxHeartbeats 4000000 in
set_option maxRecDepth 100000 in
theorem lc_X2_restsOn_39 {G : fw_G} {p : Program} {l : Launch} {e : Env} {s : State} {m : MethodId} {args : Array Value} {below : List Frame} {meth : Method} {c : Code} {S : List fw_Sh} {o : fw_O} {M : fw_Mem} {a0 : Nat} {x2 : Int32} (C : fw_C G RX2 cX2_restsOn 5 p s m args c) (hr : meth.sig.returnType = (some .int)) (hlk : meth.locks = false) (hl : l.stackTraces = false) (ht : ∀ x ∈ c.exceptionTable.toList, False) :
    ∀ {n : Nat} {x3 : Int32} {x4 : Int32} {r : (Int32)} (h : lf_X2_restsOn_39 S M a0 x2 n x3 x4 = some r) (kx : fw_W G p l e (fw_rm 5 (fw_mcO o) (fw_msO o)) s m args below meth c 5 (fw_Z G below args s (fw_mcO o) (fw_msO o) o) 0 0 74 [(3, .int r)] [] S M), fw_W G p l e (fw_rm 5 (fw_mcO o) (fw_msO o)) s m args below meth c 5 (fw_Z G below args s (fw_mcO o) (fw_msO o) o) 0 0 39 [(0, .ref a0), (2, .int x2), (3, .int x3), (4, .int x4)] [] S M := by
  intro n
  induction n with
  | zero =>
    intro x3 x4 r h
    exact nomatch (show (none : Option (Int32)) = some r from h)
  | succ n ih =>
    intro x3 x4 r h kx
    rw [lf_X2_restsOn_39.eq_2] at h
    refine fw_iload C 3 dX2_restsOn_39 rfl ?_
    refine fw_bipush C 31 dX2_restsOn_41 rfl ?_
    refine fw_icmp_ge C 74 dX2_restsOn_43 (by decide) (fun c7 => ?_) (fun c7 => ?_)
    · replace h := (if_pos c7).symm.trans h
      obtain rfl := Option.some.inj h
      refine fw_sub [2] rfl ?_
      exact kx
    · replace h := (if_neg c7).symm.trans h
      refine fw_iload_n C 1 dX2_restsOn_46 rfl rfl ?_
      refine fw_iload C 3 dX2_restsOn_47 rfl ?_
      refine fw_ishr C dX2_restsOn_49 ?_
      refine fw_iconst C 1 dX2_restsOn_50 rfl ?_
      refine fw_iand C dX2_restsOn_51 ?_
      refine fw_iconst C 1 dX2_restsOn_52 rfl ?_
      refine fw_icmp_ne C 68 dX2_restsOn_53 (by decide) (fun c8 => ?_) (fun c8 => ?_)
      · replace h := (if_neg c8).symm.trans h
        refine fw_iinc C _ 3 [(4, _), (0, _), (2, _), (3, _)] dX2_restsOn_68 rfl rfl (Nat.le_of_ble_eq_true rfl) rfl ?_
        refine fw_goto C 39 dX2_restsOn_71 (by decide) ?_
        refine fw_sub [1, 2, 3, 0] rfl ?_
        exact ih h kx
      · replace h := (if_pos c8).symm.trans h
        refine fw_iload_n C 2 dX2_restsOn_56 rfl rfl ?_
        refine fw_iconst C 1 dX2_restsOn_57 rfl ?_
        refine fw_aload_n C 0 dX2_restsOn_58 rfl rfl ?_
        obtain ⟨g9, h⟩ := gd_some h
        obtain ⟨g10, h⟩ := gd_some h
        refine fw_getR C 2 1 (Nat.le_of_ble_eq_true rfl) (Nat.le_of_ble_eq_true rfl) wf_X2_9 rfl (gO_of g9) (gN_of g10) dX2_restsOn_59 ?_
        refine fw_iload C 3 dX2_restsOn_62 rfl ?_
        obtain ⟨g11, h⟩ := gd_some h
        refine fw_iald C (gA_of g11) dX2_restsOn_64 ?_
        refine fw_ishl C dX2_restsOn_65 ?_
        refine fw_ior C dX2_restsOn_66 ?_
        refine fw_bi h (fun y12 h => ?_)
        refine fw_istore_n C [(3, _), (0, _), (2, _), (4, _)] dX2_restsOn_67 rfl (Nat.le_of_ble_eq_true rfl) rfl ?_
        refine fw_iinc C _ 3 [(4, _), (3, _), (0, _), (2, _)] dX2_restsOn_68 rfl rfl (Nat.le_of_ble_eq_true rfl) rfl ?_
        refine fw_goto C 39 dX2_restsOn_71 (by decide) ?_
        refine fw_sub [2, 3, 1, 0] rfl ?_
        exact ih h kx
set_option maxRecDepth 100000 in
def f_X2_restsOn (S : List fw_Sh) (M : fw_Mem) (a0 : Nat) (a1 : Nat) : Option (Int32 × fw_Mem) := gd (gO S 6 a1) (b1 (f_X6_counts S M a1) (fun v1 => if v1 = 0 then (some (0, M)) else (gd (gO S 2 a0) (b1 (f_X2_weigh S M a0 a1) (fun M4 => bm (((M4 a1 10) &&& (M4 a0 6)) ||| ((M4 a1 11) &&& (M4 a0 7))) (fun y6 => b1 (lf_X2_restsOn_39 S M4 a0 y6 20000 0 0) (fun l13 => some (l13, M4))))))))
set_option maxHeartbeats 4000000 in
set_option maxRecDepth 100000 in
theorem c_X2_restsOn {l : Launch} {G : fw_G} {S : List fw_Sh} {M : fw_Mem} {a0 : Nat} {a1 : Nat} {r : (Int32 × fw_Mem)} (hl : l.stackTraces = false) (h : f_X2_restsOn S M a0 a1 = some r) : fw_M l G yX2_restsOn (.code yX2_restsOn cX2_restsOn 5 (some .int)) 5 (fw_mcO (.inl (some (.int r.1)), S, r.2)) (fw_msO (.inl (some (.int r.1)), S, r.2)) S M [.ref a0, .ref a1] (.inl (some (.int r.1)), S, r.2) := by
  refine fw_of [(0, .ref a0), (1, .ref a1)] (by decide) (Nat.le_of_ble_eq_true rfl) rfl ?_
  intro p e s m args below meth c C hr hlk hnm ht _
  unfold f_X2_restsOn at h
  refine fw_aload_n C 1 dX2_restsOn_0 rfl rfl ?_
  obtain ⟨g2, h⟩ := gd_some h
  obtain ⟨v1, e1, h⟩ := b1_some h
  refine fw_callV (ci := 6) [] C (c_X6_counts hl e1) cal_X6_counts wm_X2_125 wi_yX6_counts wsl_yX6_counts (Nat.le_of_ble_eq_true rfl) rfl (gO_of g2) rfl (Nat.le_of_ble_eq_true rfl) ⟨Nat.le_of_ble_eq_true rfl, Nat.le_of_ble_eq_true rfl⟩ ⟨Nat.zero_le _, Nat.zero_le _⟩ dX2_restsOn_1 ?_
  refine fw_if_ne C 9 dX2_restsOn_4 (by decide) (fun c3 => ?_) (fun c3 => ?_)
  · replace h := (if_neg c3).symm.trans h
    refine fw_aload_n C 0 dX2_restsOn_9 rfl rfl ?_
    refine fw_aload_n C 1 dX2_restsOn_10 rfl rfl ?_
    obtain ⟨g5, h⟩ := gd_some h
    obtain ⟨M4, e4, h⟩ := b1_some h
    refine fw_callV (ci := 2) [_] C (c_X2_weigh hl e4) cal_X2_weigh wm_X2_187 wi_yX2_weigh wsl_yX2_weigh (Nat.le_of_ble_eq_true rfl) rfl (gO_of g5) rfl (Nat.le_of_ble_eq_true rfl) ⟨Nat.le_of_ble_eq_true rfl, Nat.le_of_ble_eq_true rfl⟩ ⟨Nat.zero_le _, Nat.zero_le _⟩ dX2_restsOn_11 ?_
    refine fw_aload_n C 1 dX2_restsOn_14 rfl rfl ?_
    refine fw_getI C 6 10 (Nat.le_of_ble_eq_true rfl) (Nat.le_of_ble_eq_true rfl) wf_X2_50 rfl (gO_of g2) dX2_restsOn_15 ?_
    refine fw_aload_n C 0 dX2_restsOn_18 rfl rfl ?_
    refine fw_getI C 2 6 (Nat.le_of_ble_eq_true rfl) (Nat.le_of_ble_eq_true rfl) wf_X2_169 rfl (gO_of g5) dX2_restsOn_19 ?_
    refine fw_iand C dX2_restsOn_22 ?_
    refine fw_aload_n C 1 dX2_restsOn_23 rfl rfl ?_
    refine fw_getI C 6 11 (Nat.le_of_ble_eq_true rfl) (Nat.le_of_ble_eq_true rfl) wf_X2_56 rfl (gO_of g2) dX2_restsOn_24 ?_
    refine fw_aload_n C 0 dX2_restsOn_27 rfl rfl ?_
    refine fw_getI C 2 7 (Nat.le_of_ble_eq_true rfl) (Nat.le_of_ble_eq_true rfl) wf_X2_172 rfl (gO_of g5) dX2_restsOn_28 ?_
    refine fw_iand C dX2_restsOn_31 ?_
    refine fw_ior C dX2_restsOn_32 ?_
    refine fw_bi h (fun y6 h => ?_)
    refine fw_istore_n C [(2, _), (0, _), (1, _)] dX2_restsOn_33 rfl (Nat.le_of_ble_eq_true rfl) rfl ?_
    refine fw_iconst C 0 dX2_restsOn_34 rfl ?_
    refine fw_istore_n C [(3, _), (2, _), (0, _), (1, _)] dX2_restsOn_35 rfl (Nat.le_of_ble_eq_true rfl) rfl ?_
    refine fw_iconst C 0 dX2_restsOn_36 rfl ?_
    refine fw_istore C [(4, _), (3, _), (2, _), (0, _), (1, _)] dX2_restsOn_37 (Nat.le_of_ble_eq_true rfl) rfl ?_
    refine fw_sub [3, 2, 1, 0] rfl ?_
    obtain ⟨l13, e13, h⟩ := b1_some h
    refine lc_X2_restsOn_39 C hr hlk hl ht e13 ?_
    refine fw_iload_n C 0 dX2_restsOn_74 rfl rfl ?_
    obtain rfl := Option.some.inj h
    exact fw_iret C hr hlk dX2_restsOn_75
  · replace h := (if_pos c3).symm.trans h
    refine fw_iconst C 0 dX2_restsOn_7 rfl ?_
    obtain rfl := Option.some.inj h
    exact fw_iret C hr hlk dX2_restsOn_8
