set_option maxRecDepth 100000 in
def f_X4_clear (S : List fw_Sh) (M : fw_Mem) (a0 : Nat) : Option fw_Mem := gd (gO S 4 a0) (bm (fw_set M a0 4 0) (fun M2 => bm (fw_set M2 a0 5 0) (fun M3 => bm (fw_set M3 a0 6 0) (fun M4 => gd (gN (M4 a0 3)) (gd (gA S 0 ((M4 a0 3).toNatClampNeg) 0) (bm (fw_set M4 ((M4 a0 3).toNatClampNeg) 0 50) (fun M7 => gd (gN (M7 a0 3)) (gd (gA S 0 ((M7 a0 3).toNatClampNeg) 1) (bm (fw_set M7 ((M7 a0 3).toNatClampNeg) 1 0) (fun M10 => gd (gN (M10 a0 3)) (gd (gA S 0 ((M10 a0 3).toNatClampNeg) 2) (bm (fw_set M10 ((M10 a0 3).toNatClampNeg) 2 0) (fun M13 => some M13)))))))))))))
set_option maxHeartbeats 4000000 in
set_option maxRecDepth 100000 in
theorem c_X4_clear {l : Launch} {G : fw_G} {S : List fw_Sh} {M : fw_Mem} {a0 : Nat} {r : fw_Mem} (hl : l.stackTraces = false) (h : f_X4_clear S M a0 = some r) : fw_M l G yX4_clear (.code yX4_clear cX4_clear 1 none) 1 (fw_mcO (.inl none, S, r)) (fw_msO (.inl none, S, r)) S M [.ref a0] (.inl none, S, r) := by
  refine fw_of [(0, .ref a0)] (by decide) (Nat.le_of_ble_eq_true rfl) rfl ?_
  intro p e s m args below meth c C hr hlk hnm ht _
  unfold f_X4_clear at h
  refine fw_aload_n C 0 dX4_clear_0 rfl rfl ?_
  refine fw_iconst C 0 dX4_clear_1 rfl ?_
  obtain ⟨g1, h⟩ := gd_some h
  refine fw_putI C 4 4 (Nat.le_of_ble_eq_true rfl) (Nat.le_of_ble_eq_true rfl) wf_X4_37 rfl rfl rfl rfl (gO_of g1) dX4_clear_2 ?_
  refine fw_bm h (fun M2 h => ?_)
  refine fw_aload_n C 0 dX4_clear_5 rfl rfl ?_
  refine fw_iconst C 0 dX4_clear_6 rfl ?_
  refine fw_putI C 4 5 (Nat.le_of_ble_eq_true rfl) (Nat.le_of_ble_eq_true rfl) wf_X4_41 rfl rfl rfl rfl (gO_of g1) dX4_clear_7 ?_
  refine fw_bm h (fun M3 h => ?_)
  refine fw_aload_n C 0 dX4_clear_10 rfl rfl ?_
  refine fw_iconst C 0 dX4_clear_11 rfl ?_
  refine fw_putI C 4 6 (Nat.le_of_ble_eq_true rfl) (Nat.le_of_ble_eq_true rfl) wf_X4_44 rfl rfl rfl rfl (gO_of g1) dX4_clear_12 ?_
  refine fw_bm h (fun M4 h => ?_)
  refine fw_aload_n C 0 dX4_clear_15 rfl rfl ?_
  obtain ⟨g5, h⟩ := gd_some h
  refine fw_getR C 4 3 (Nat.le_of_ble_eq_true rfl) (Nat.le_of_ble_eq_true rfl) wf_X4_27 rfl (gO_of g1) (gN_of g5) dX4_clear_16 ?_
  refine fw_iconst C 0 dX4_clear_19 rfl ?_
  refine fw_bipush C 50 dX4_clear_20 rfl ?_
  obtain ⟨g6, h⟩ := gd_some h
  refine fw_iast C (gA_of g6) dX4_clear_22 ?_
  refine fw_bm h (fun M7 h => ?_)
  refine fw_aload_n C 0 dX4_clear_23 rfl rfl ?_
  obtain ⟨g8, h⟩ := gd_some h
  refine fw_getR C 4 3 (Nat.le_of_ble_eq_true rfl) (Nat.le_of_ble_eq_true rfl) wf_X4_27 rfl (gO_of g1) (gN_of g8) dX4_clear_24 ?_
  refine fw_iconst C 1 dX4_clear_27 rfl ?_
  refine fw_iconst C 0 dX4_clear_28 rfl ?_
  obtain ⟨g9, h⟩ := gd_some h
  refine fw_iast C (gA_of g9) dX4_clear_29 ?_
  refine fw_bm h (fun M10 h => ?_)
  refine fw_aload_n C 0 dX4_clear_30 rfl rfl ?_
  obtain ⟨g11, h⟩ := gd_some h
  refine fw_getR C 4 3 (Nat.le_of_ble_eq_true rfl) (Nat.le_of_ble_eq_true rfl) wf_X4_27 rfl (gO_of g1) (gN_of g11) dX4_clear_31 ?_
  refine fw_iconst C 2 dX4_clear_34 rfl ?_
  refine fw_iconst C 0 dX4_clear_35 rfl ?_
  obtain ⟨g12, h⟩ := gd_some h
  refine fw_iast C (gA_of g12) dX4_clear_36 ?_
  refine fw_bm h (fun M13 h => ?_)
  obtain rfl := Option.some.inj h
  exact fw_vret C hr hlk dX4_clear_37
set_option maxRecDepth 100000 in
def lf_X7_take_3 (S : List fw_Sh) (a0 : Nat) (x1 : Int32) : Nat → Int32 → fw_Mem → Option (fw_Mem)
  | 0, _, _ => none
  | n + 1, x2, M => if x2 < 0 then (some M) else (gd (gO S 7 a0) (if (600 : Int32) ≤ (M a0 1) then (some M) else (gd (gN (M a0 0)) (gd (gA S 1 ((M a0 0).toNatClampNeg) (M a0 1)) (bm (fw_set M ((M a0 0).toNatClampNeg) (M a0 1).toNatClampNeg (vp_nar .byte ((x1 >>> (x2 &&& 31) : Int32).toInt8.toInt32))) (fun M6 => bm (fw_set M6 a0 1 ((M6 a0 1) + 1)) (fun M7 => lf_X7_take_3 S a0 x1 n (x2 + (-8)) M7)))))))
set_option maxHeartbeats 4000000 in
set_option maxRecDepth 100000 in
theorem lc_X7_take_3 {G : fw_G} {p : Program} {l : Launch} {e : Env} {s : State} {m : MethodId} {args : Array Value} {below : List Frame} {meth : Method} {c : Code} {S : List fw_Sh} {o : fw_O} {a0 : Nat} {x1 : Int32} (C : fw_C G RX7 cX7_take 3 p s m args c) (hr : meth.sig.returnType = none) (hlk : meth.locks = false) (hl : l.stackTraces = false) (ht : ∀ x ∈ c.exceptionTable.toList, False) :
    ∀ {n : Nat} {x2 : Int32} {M : fw_Mem} {r : (fw_Mem)} (h : lf_X7_take_3 S a0 x1 n x2 M = some r) (kx : fw_W G p l e (fw_rm 1 (fw_mcO o) (fw_msO o)) s m args below meth c 3 (fw_Z G below args s (fw_mcO o) (fw_msO o) o) 0 0 46 [] [] S r), fw_W G p l e (fw_rm 1 (fw_mcO o) (fw_msO o)) s m args below meth c 3 (fw_Z G below args s (fw_mcO o) (fw_msO o) o) 0 0 3 [(0, .ref a0), (1, .int x1), (2, .int x2)] [] S M := by
  intro n
  induction n with
  | zero =>
    intro x2 M r h
    exact nomatch (show (none : Option (fw_Mem)) = some r from h)
  | succ n ih =>
    intro x2 M r h kx
    rw [lf_X7_take_3.eq_2] at h
    refine fw_iload_n C 2 dX7_take_3 rfl rfl ?_
    refine fw_if_lt C 46 dX7_take_4 (by decide) (fun c1 => ?_) (fun c1 => ?_)
    · replace h := (if_pos c1).symm.trans h
      obtain rfl := Option.some.inj h
      refine fw_sub [] rfl ?_
      exact kx
    · replace h := (if_neg c1).symm.trans h
      refine fw_aload_n C 0 dX7_take_7 rfl rfl ?_
      obtain ⟨g2, h⟩ := gd_some h
      refine fw_getI C 7 1 (Nat.le_of_ble_eq_true rfl) (Nat.le_of_ble_eq_true rfl) wf_X7_19 rfl (gO_of g2) dX7_take_8 ?_
      refine fw_sipush C 600 dX7_take_11 rfl ?_
      refine fw_icmp_ge C 46 dX7_take_14 (by decide) (fun c3 => ?_) (fun c3 => ?_)
      · replace h := (if_pos c3).symm.trans h
        obtain rfl := Option.some.inj h
        refine fw_sub [] rfl ?_
        exact kx
      · replace h := (if_neg c3).symm.trans h
        refine fw_aload_n C 0 dX7_take_17 rfl rfl ?_
        obtain ⟨g4, h⟩ := gd_some h
        refine fw_getR C 7 0 (Nat.le_of_ble_eq_true rfl) (Nat.le_of_ble_eq_true rfl) wf_X7_9 rfl (gO_of g2) (gN_of g4) dX7_take_18 ?_
        refine fw_aload_n C 0 dX7_take_21 rfl rfl ?_
        refine fw_getI C 7 1 (Nat.le_of_ble_eq_true rfl) (Nat.le_of_ble_eq_true rfl) wf_X7_19 rfl (gO_of g2) dX7_take_22 ?_
        refine fw_iload_n C 1 dX7_take_25 rfl rfl ?_
        refine fw_iload_n C 2 dX7_take_26 rfl rfl ?_
        refine fw_ishr C dX7_take_27 ?_
        refine fw_i2b C dX7_take_28 ?_
        obtain ⟨g5, h⟩ := gd_some h
        refine fw_bast C (gA_of g5) dX7_take_29 ?_
        refine fw_bm h (fun M6 h => ?_)
        refine fw_aload_n C 0 dX7_take_30 rfl rfl ?_
        refine fw_dup C dX7_take_31 rfl ?_
        refine fw_getI C 7 1 (Nat.le_of_ble_eq_true rfl) (Nat.le_of_ble_eq_true rfl) wf_X7_19 rfl (gO_of g2) dX7_take_32 ?_
        refine fw_iconst C 1 dX7_take_35 rfl ?_
        refine fw_iadd C dX7_take_36 ?_
        refine fw_putI C 7 1 (Nat.le_of_ble_eq_true rfl) (Nat.le_of_ble_eq_true rfl) wf_X7_19 rfl rfl rfl rfl (gO_of g2) dX7_take_37 ?_
        refine fw_bm h (fun M7 h => ?_)
        refine fw_iinc C _ 2 [(2, _), (0, _), (1, _)] dX7_take_40 rfl rfl (Nat.le_of_ble_eq_true rfl) rfl ?_
        refine fw_goto C 3 dX7_take_43 (by decide) ?_
        refine fw_sub [1, 2, 0] rfl ?_
        exact ih h kx
set_option maxRecDepth 100000 in
def f_X7_take (S : List fw_Sh) (M : fw_Mem) (a0 : Nat) (x1 : Int32) : Option fw_Mem := b1 (lf_X7_take_3 S a0 x1 20000 24 M) (fun l8 => some l8)
set_option maxHeartbeats 4000000 in
set_option maxRecDepth 100000 in
theorem c_X7_take {l : Launch} {G : fw_G} {S : List fw_Sh} {M : fw_Mem} {a0 : Nat} {x1 : Int32} {r : fw_Mem} (hl : l.stackTraces = false) (h : f_X7_take S M a0 x1 = some r) : fw_M l G yX7_take (.code yX7_take cX7_take 3 none) 1 (fw_mcO (.inl none, S, r)) (fw_msO (.inl none, S, r)) S M [.ref a0, .int x1] (.inl none, S, r) := by
  refine fw_of [(0, .ref a0), (1, .int x1)] (by decide) (Nat.le_of_ble_eq_true rfl) rfl ?_
  intro p e s m args below meth c C hr hlk hnm ht _
  unfold f_X7_take at h
  refine fw_bipush C 24 dX7_take_0 rfl ?_
  refine fw_istore_n C [(2, _), (0, _), (1, _)] dX7_take_2 rfl (Nat.le_of_ble_eq_true rfl) rfl ?_
  refine fw_sub [1, 2, 0] rfl ?_
  obtain ⟨l8, e8, h⟩ := b1_some h
  refine lc_X7_take_3 C hr hlk hl ht e8 ?_
  obtain rfl := Option.some.inj h
  exact fw_vret C hr hlk dX7_take_46
set_option maxRecDepth 100000 in
def f_X9_feed (S : List fw_Sh) (M : fw_Mem) (a0 : Nat) (x1 : Int32) (x2 : Int32) (x3 : Int32) (x4 : Int32) (x5 : Int32) : Option (Int32 × fw_Mem) := gd (gO S 9 a0) (gd (gN (M a0 0)) (gd (gO S 7 ((M a0 0).toNatClampNeg)) (if (M ((M a0 0).toNatClampNeg) 1) ≤ 580 then (b1 (f_X7_take S M ((M a0 0).toNatClampNeg) x1) (fun M5 => gd (gN (M5 a0 0)) (gd (gO S 7 ((M5 a0 0).toNatClampNeg)) (b1 (f_X7_take S M5 ((M5 a0 0).toNatClampNeg) x2) (fun M7 => gd (gN (M7 a0 0)) (gd (gO S 7 ((M7 a0 0).toNatClampNeg)) (b1 (f_X7_take S M7 ((M7 a0 0).toNatClampNeg) x3) (fun M10 => gd (gN (M10 a0 0)) (gd (gO S 7 ((M10 a0 0).toNatClampNeg)) (b1 (f_X7_take S M10 ((M10 a0 0).toNatClampNeg) x4) (fun M13 => gd (gN (M13 a0 0)) (gd (gO S 7 ((M13 a0 0).toNatClampNeg)) (b1 (f_X7_take S M13 ((M13 a0 0).toNatClampNeg) x5) (fun M16 => gd (gN (M16 a0 0)) (gd (gO S 7 ((M16 a0 0).toNatClampNeg)) (some ((M16 ((M16 a0 0).toNatClampNeg) 1), M16))))))))))))))))) else (some ((-1), M)))))
set_option maxHeartbeats 4000000 in
set_option maxRecDepth 100000 in
theorem c_X9_feed {l : Launch} {G : fw_G} {S : List fw_Sh} {M : fw_Mem} {a0 : Nat} {x1 : Int32} {x2 : Int32} {x3 : Int32} {x4 : Int32} {x5 : Int32} {r : (Int32 × fw_Mem)} (hl : l.stackTraces = false) (h : f_X9_feed S M a0 x1 x2 x3 x4 x5 = some r) : fw_M l G yX9_feed (.code yX9_feed cX9_feed 6 (some .int)) 2 (fw_mcO (.inl (some (.int r.1)), S, r.2)) (fw_msO (.inl (some (.int r.1)), S, r.2)) S M [.ref a0, .int x1, .int x2, .int x3, .int x4, .int x5] (.inl (some (.int r.1)), S, r.2) := by
  refine fw_of [(0, .ref a0), (1, .int x1), (2, .int x2), (3, .int x3), (4, .int x4), (5, .int x5)] (by decide) (Nat.le_of_ble_eq_true rfl) rfl ?_
  intro p e s m args below meth c C hr hlk hnm ht _
  unfold f_X9_feed at h
  refine fw_aload_n C 0 dX9_feed_0 rfl rfl ?_
  obtain ⟨g1, h⟩ := gd_some h
  obtain ⟨g2, h⟩ := gd_some h
  refine fw_getR C 9 0 (Nat.le_of_ble_eq_true rfl) (Nat.le_of_ble_eq_true rfl) wf_X9_12 rfl (gO_of g1) (gN_of g2) dX9_feed_1 ?_
  obtain ⟨g3, h⟩ := gd_some h
  refine fw_getI C 7 1 (Nat.le_of_ble_eq_true rfl) (Nat.le_of_ble_eq_true rfl) wf_X9_85 rfl (gO_of g3) dX9_feed_4 ?_
  refine fw_sipush C 580 dX9_feed_7 rfl ?_
  refine fw_icmp_le C 15 dX9_feed_10 (by decide) (fun c4 => ?_) (fun c4 => ?_)
  · replace h := (if_pos c4).symm.trans h
    refine fw_aload_n C 0 dX9_feed_15 rfl rfl ?_
    refine fw_getR C 9 0 (Nat.le_of_ble_eq_true rfl) (Nat.le_of_ble_eq_true rfl) wf_X9_12 rfl (gO_of g1) (gN_of g2) dX9_feed_16 ?_
    refine fw_iload_n C 1 dX9_feed_19 rfl rfl ?_
    obtain ⟨M5, e5, h⟩ := b1_some h
    refine fw_callV (ci := 7) [_] C (c_X7_take hl e5) cal_X7_take wm_X9_89 wi_yX7_take wsl_yX7_take (Nat.le_of_ble_eq_true rfl) rfl (gO_of g3) rfl (Nat.le_of_ble_eq_true rfl) ⟨Nat.le_of_ble_eq_true rfl, Nat.le_of_ble_eq_true rfl⟩ ⟨Nat.zero_le _, Nat.zero_le _⟩ dX9_feed_20 ?_
    refine fw_aload_n C 0 dX9_feed_23 rfl rfl ?_
    obtain ⟨g6, h⟩ := gd_some h
    refine fw_getR C 9 0 (Nat.le_of_ble_eq_true rfl) (Nat.le_of_ble_eq_true rfl) wf_X9_12 rfl (gO_of g1) (gN_of g6) dX9_feed_24 ?_
    refine fw_iload_n C 2 dX9_feed_27 rfl rfl ?_
    obtain ⟨g8, h⟩ := gd_some h
    obtain ⟨M7, e7, h⟩ := b1_some h
    refine fw_callV (ci := 7) [_] C (c_X7_take hl e7) cal_X7_take wm_X9_89 wi_yX7_take wsl_yX7_take (Nat.le_of_ble_eq_true rfl) rfl (gO_of g8) rfl (Nat.le_of_ble_eq_true rfl) ⟨Nat.le_of_ble_eq_true rfl, Nat.le_of_ble_eq_true rfl⟩ ⟨Nat.zero_le _, Nat.zero_le _⟩ dX9_feed_28 ?_
    refine fw_aload_n C 0 dX9_feed_31 rfl rfl ?_
    obtain ⟨g9, h⟩ := gd_some h
    refine fw_getR C 9 0 (Nat.le_of_ble_eq_true rfl) (Nat.le_of_ble_eq_true rfl) wf_X9_12 rfl (gO_of g1) (gN_of g9) dX9_feed_32 ?_
    refine fw_iload_n C 3 dX9_feed_35 rfl rfl ?_
    obtain ⟨g11, h⟩ := gd_some h
    obtain ⟨M10, e10, h⟩ := b1_some h
    refine fw_callV (ci := 7) [_] C (c_X7_take hl e10) cal_X7_take wm_X9_89 wi_yX7_take wsl_yX7_take (Nat.le_of_ble_eq_true rfl) rfl (gO_of g11) rfl (Nat.le_of_ble_eq_true rfl) ⟨Nat.le_of_ble_eq_true rfl, Nat.le_of_ble_eq_true rfl⟩ ⟨Nat.zero_le _, Nat.zero_le _⟩ dX9_feed_36 ?_
    refine fw_aload_n C 0 dX9_feed_39 rfl rfl ?_
    obtain ⟨g12, h⟩ := gd_some h
    refine fw_getR C 9 0 (Nat.le_of_ble_eq_true rfl) (Nat.le_of_ble_eq_true rfl) wf_X9_12 rfl (gO_of g1) (gN_of g12) dX9_feed_40 ?_
    refine fw_iload C 4 dX9_feed_43 rfl ?_
    obtain ⟨g14, h⟩ := gd_some h
    obtain ⟨M13, e13, h⟩ := b1_some h
    refine fw_callV (ci := 7) [_] C (c_X7_take hl e13) cal_X7_take wm_X9_89 wi_yX7_take wsl_yX7_take (Nat.le_of_ble_eq_true rfl) rfl (gO_of g14) rfl (Nat.le_of_ble_eq_true rfl) ⟨Nat.le_of_ble_eq_true rfl, Nat.le_of_ble_eq_true rfl⟩ ⟨Nat.zero_le _, Nat.zero_le _⟩ dX9_feed_45 ?_
    refine fw_aload_n C 0 dX9_feed_48 rfl rfl ?_
    obtain ⟨g15, h⟩ := gd_some h
    refine fw_getR C 9 0 (Nat.le_of_ble_eq_true rfl) (Nat.le_of_ble_eq_true rfl) wf_X9_12 rfl (gO_of g1) (gN_of g15) dX9_feed_49 ?_
    refine fw_iload C 5 dX9_feed_52 rfl ?_
    obtain ⟨g17, h⟩ := gd_some h
    obtain ⟨M16, e16, h⟩ := b1_some h
    refine fw_callV (ci := 7) [_] C (c_X7_take hl e16) cal_X7_take wm_X9_89 wi_yX7_take wsl_yX7_take (Nat.le_of_ble_eq_true rfl) rfl (gO_of g17) rfl (Nat.le_of_ble_eq_true rfl) ⟨Nat.le_of_ble_eq_true rfl, Nat.le_of_ble_eq_true rfl⟩ ⟨Nat.zero_le _, Nat.zero_le _⟩ dX9_feed_54 ?_
    refine fw_aload_n C 0 dX9_feed_57 rfl rfl ?_
    obtain ⟨g18, h⟩ := gd_some h
    refine fw_getR C 9 0 (Nat.le_of_ble_eq_true rfl) (Nat.le_of_ble_eq_true rfl) wf_X9_12 rfl (gO_of g1) (gN_of g18) dX9_feed_58 ?_
    obtain ⟨g19, h⟩ := gd_some h
    refine fw_getI C 7 1 (Nat.le_of_ble_eq_true rfl) (Nat.le_of_ble_eq_true rfl) wf_X9_85 rfl (gO_of g19) dX9_feed_61 ?_
    obtain rfl := Option.some.inj h
    exact fw_iret C hr hlk dX9_feed_64
  · replace h := (if_neg c4).symm.trans h
    refine fw_iconst C (-1) dX9_feed_13 rfl ?_
    obtain rfl := Option.some.inj h
    exact fw_iret C hr hlk dX9_feed_14
set_option maxRecDepth 100000 in
def f_X7_kindOf (S : List fw_Sh) (M : fw_Mem) (x0 : Int32) : Option Int32 := if x0 = 32 then (some 1) else (if x0 = 10 then (some 1) else (if x0 < 97 then (if x0 < 48 then (some 4) else (if (57 : Int32) < x0 then (some 4) else (some 3))) else (if (122 : Int32) < x0 then (if x0 < 48 then (some 4) else (if (57 : Int32) < x0 then (some 4) else (some 3))) else (some 2))))
set_option maxHeartbeats 4000000 in
set_option maxRecDepth 100000 in
theorem c_X7_kindOf {l : Launch} {G : fw_G} {S : List fw_Sh} {M : fw_Mem} {x0 : Int32} {r : Int32} (hl : l.stackTraces = false) (h : f_X7_kindOf S M x0 = some r) : fw_M l G yX7_kindOf (.code yX7_kindOf cX7_kindOf 1 (some .int)) 1 (fw_mcO (.inl (some (.int r)), S, M)) (fw_msO (.inl (some (.int r)), S, M)) S M [.int x0] (.inl (some (.int r)), S, M) := by
  refine fw_of [(0, .int x0)] (by decide) (Nat.le_of_ble_eq_true rfl) rfl ?_
  intro p e s m args below meth c C hr hlk hnm ht _
  unfold f_X7_kindOf at h
  refine fw_iload_n C 0 dX7_kindOf_0 rfl rfl ?_
  refine fw_bipush C 32 dX7_kindOf_1 rfl ?_
  refine fw_icmp_eq C 12 dX7_kindOf_3 (by decide) (fun c1 => ?_) (fun c1 => ?_)
  · replace h := (if_pos c1).symm.trans h
    refine fw_iconst C 1 dX7_kindOf_12 rfl ?_
    obtain rfl := Option.some.inj h
    exact fw_iret C hr hlk dX7_kindOf_13
  · replace h := (if_neg c1).symm.trans h
    refine fw_iload_n C 0 dX7_kindOf_6 rfl rfl ?_
    refine fw_bipush C 10 dX7_kindOf_7 rfl ?_
    refine fw_icmp_ne C 14 dX7_kindOf_9 (by decide) (fun c2 => ?_) (fun c2 => ?_)
    · replace h := (if_neg c2).symm.trans h
      refine fw_iload_n C 0 dX7_kindOf_14 rfl rfl ?_
      refine fw_bipush C 97 dX7_kindOf_15 rfl ?_
      refine fw_icmp_lt C 28 dX7_kindOf_17 (by decide) (fun c3 => ?_) (fun c3 => ?_)
      · replace h := (if_pos c3).symm.trans h
        refine fw_iload_n C 0 dX7_kindOf_28 rfl rfl ?_
        refine fw_bipush C 48 dX7_kindOf_29 rfl ?_
        refine fw_icmp_lt C 44 dX7_kindOf_31 (by decide) (fun c4 => ?_) (fun c4 => ?_)
        · replace h := (if_pos c4).symm.trans h
          refine fw_iconst C 4 dX7_kindOf_44 rfl ?_
          obtain rfl := Option.some.inj h
          exact fw_iret C hr hlk dX7_kindOf_45
        · replace h := (if_neg c4).symm.trans h
          refine fw_iload_n C 0 dX7_kindOf_34 rfl rfl ?_
          refine fw_bipush C 57 dX7_kindOf_35 rfl ?_
          refine fw_icmp_gt C 44 dX7_kindOf_37 (by decide) (fun c5 => ?_) (fun c5 => ?_)
          · replace h := (if_pos c5).symm.trans h
            refine fw_iconst C 4 dX7_kindOf_44 rfl ?_
            obtain rfl := Option.some.inj h
            exact fw_iret C hr hlk dX7_kindOf_45
          · replace h := (if_neg c5).symm.trans h
            refine fw_iconst C 3 dX7_kindOf_40 rfl ?_
            refine fw_goto C 45 dX7_kindOf_41 (by decide) ?_
            obtain rfl := Option.some.inj h
            exact fw_iret C hr hlk dX7_kindOf_45
      · replace h := (if_neg c3).symm.trans h
        refine fw_iload_n C 0 dX7_kindOf_20 rfl rfl ?_
        refine fw_bipush C 122 dX7_kindOf_21 rfl ?_
        refine fw_icmp_gt C 28 dX7_kindOf_23 (by decide) (fun c6 => ?_) (fun c6 => ?_)
        · replace h := (if_pos c6).symm.trans h
          refine fw_iload_n C 0 dX7_kindOf_28 rfl rfl ?_
          refine fw_bipush C 48 dX7_kindOf_29 rfl ?_
          refine fw_icmp_lt C 44 dX7_kindOf_31 (by decide) (fun c7 => ?_) (fun c7 => ?_)
          · replace h := (if_pos c7).symm.trans h
            refine fw_iconst C 4 dX7_kindOf_44 rfl ?_
            obtain rfl := Option.some.inj h
            exact fw_iret C hr hlk dX7_kindOf_45
          · replace h := (if_neg c7).symm.trans h
            refine fw_iload_n C 0 dX7_kindOf_34 rfl rfl ?_
            refine fw_bipush C 57 dX7_kindOf_35 rfl ?_
            refine fw_icmp_gt C 44 dX7_kindOf_37 (by decide) (fun c8 => ?_) (fun c8 => ?_)
            · replace h := (if_pos c8).symm.trans h
              refine fw_iconst C 4 dX7_kindOf_44 rfl ?_
              obtain rfl := Option.some.inj h
              exact fw_iret C hr hlk dX7_kindOf_45
            · replace h := (if_neg c8).symm.trans h
              refine fw_iconst C 3 dX7_kindOf_40 rfl ?_
              refine fw_goto C 45 dX7_kindOf_41 (by decide) ?_
              obtain rfl := Option.some.inj h
              exact fw_iret C hr hlk dX7_kindOf_45
        · replace h := (if_neg c6).symm.trans h
          refine fw_iconst C 2 dX7_kindOf_26 rfl ?_
          obtain rfl := Option.some.inj h
          exact fw_iret C hr hlk dX7_kindOf_27
    · replace h := (if_pos c2).symm.trans h
      refine fw_iconst C 1 dX7_kindOf_12 rfl ?_
      obtain rfl := Option.some.inj h
      exact fw_iret C hr hlk dX7_kindOf_13
set_option maxRecDepth 100000 in
def lf_X7_passRow_5 (S : List fw_Sh) (a0 : Nat) : Nat → fw_Mem → Option (fw_Mem)
  | 0, _ => none
  | n + 1, M => gd (gO S 7 a0) (if (M a0 2) ≤ (M a0 5) then (some M) else (gd (gN (M a0 0)) (gd (gA S 1 ((M a0 0).toNatClampNeg) (M a0 5)) (b1 (f_X7_kindOf S M (M ((M a0 0).toNatClampNeg) (M a0 5).toNatClampNeg)) (fun v7 => if v7 = (M a0 3) then (if (M a0 3) = 3 then (if (9999 : Int32) < (M a0 6) then (bm (fw_set M a0 5 ((M a0 5) + 1)) (fun M12 => lf_X7_passRow_5 S a0 n M12)) else (bm (fw_set M a0 6 ((((M a0 6) * 10) + (M ((M a0 0).toNatClampNeg) (M a0 5).toNatClampNeg)) - 48)) (fun M13 => bm (fw_set M13 a0 5 ((M13 a0 5) + 1)) (fun M14 => lf_X7_passRow_5 S a0 n M14)))) else (bm (fw_set M a0 5 ((M a0 5) + 1)) (fun M10 => lf_X7_passRow_5 S a0 n M10))) else (some M))))))
set_option maxHeartbeats 4000000 in
set_option maxRecDepth 100000 in
theorem lc_X7_passRow_5 {G : fw_G} {p : Program} {l : Launch} {e : Env} {s : State} {m : MethodId} {args : Array Value} {below : List Frame} {meth : Method} {c : Code} {S : List fw_Sh} {o : fw_O} {a0 : Nat} (C : fw_C G RX7 cX7_passRow 1 p s m args c) (hr : meth.sig.returnType = none) (hlk : meth.locks = false) (hl : l.stackTraces = false) (ht : ∀ x ∈ c.exceptionTable.toList, False) :
    ∀ {n : Nat} {M : fw_Mem} {r : (fw_Mem)} (h : lf_X7_passRow_5 S a0 n M = some r) (kx : fw_W G p l e (fw_rm 2 (fw_mcO o) (fw_msO o)) s m args below meth c 1 (fw_Z G below args s (fw_mcO o) (fw_msO o) o) 0 0 90 [] [] S r), fw_W G p l e (fw_rm 2 (fw_mcO o) (fw_msO o)) s m args below meth c 1 (fw_Z G below args s (fw_mcO o) (fw_msO o) o) 0 0 5 [(0, .ref a0)] [] S M := by
  intro n
  induction n with
  | zero =>
    intro M r h
    exact nomatch (show (none : Option (fw_Mem)) = some r from h)
  | succ n ih =>
    intro M r h kx
    rw [lf_X7_passRow_5.eq_2] at h
    refine fw_aload_n C 0 dX7_passRow_5 rfl rfl ?_
    obtain ⟨g3, h⟩ := gd_some h
    refine fw_getI C 7 5 (Nat.le_of_ble_eq_true rfl) (Nat.le_of_ble_eq_true rfl) wf_X7_31 rfl (gO_of g3) dX7_passRow_6 ?_
    refine fw_aload_n C 0 dX7_passRow_9 rfl rfl ?_
    refine fw_getI C 7 2 (Nat.le_of_ble_eq_true rfl) (Nat.le_of_ble_eq_true rfl) wf_X7_28 rfl (gO_of g3) dX7_passRow_10 ?_
    refine fw_icmp_ge C 90 dX7_passRow_13 (by decide) (fun c4 => ?_) (fun c4 => ?_)
    · replace h := (if_pos c4).symm.trans h
      obtain rfl := Option.some.inj h
      refine fw_sub [] rfl ?_
      exact kx
    · replace h := (if_neg c4).symm.trans h
      refine fw_aload_n C 0 dX7_passRow_16 rfl rfl ?_
      obtain ⟨g5, h⟩ := gd_some h
      refine fw_getR C 7 0 (Nat.le_of_ble_eq_true rfl) (Nat.le_of_ble_eq_true rfl) wf_X7_9 rfl (gO_of g3) (gN_of g5) dX7_passRow_17 ?_
      refine fw_aload_n C 0 dX7_passRow_20 rfl rfl ?_
      refine fw_getI C 7 5 (Nat.le_of_ble_eq_true rfl) (Nat.le_of_ble_eq_true rfl) wf_X7_31 rfl (gO_of g3) dX7_passRow_21 ?_
      obtain ⟨g6, h⟩ := gd_some h
      refine fw_bald C (gA_of g6) dX7_passRow_24 ?_
      obtain ⟨v7, e7, h⟩ := b1_some h
      refine fw_callS [_] C (c_X7_kindOf hl e7) cal_X7_kindOf wm_X7_43 wt_yX7_kindOf rfl (Nat.le_of_ble_eq_true rfl) ⟨Nat.le_of_ble_eq_true rfl, Nat.le_of_ble_eq_true rfl⟩ ⟨Nat.zero_le _, Nat.zero_le _⟩ dX7_passRow_25 ?_
      refine fw_aload_n C 0 dX7_passRow_28 rfl rfl ?_
      refine fw_getI C 7 3 (Nat.le_of_ble_eq_true rfl) (Nat.le_of_ble_eq_true rfl) wf_X7_47 rfl (gO_of g3) dX7_passRow_29 ?_
      refine fw_icmp_ne C 90 dX7_passRow_32 (by decide) (fun c8 => ?_) (fun c8 => ?_)
      · replace h := (if_neg c8).symm.trans h
        obtain rfl := Option.some.inj h
        refine fw_sub [] rfl ?_
        exact kx
      · replace h := (if_pos c8).symm.trans h
        refine fw_aload_n C 0 dX7_passRow_35 rfl rfl ?_
        refine fw_getI C 7 3 (Nat.le_of_ble_eq_true rfl) (Nat.le_of_ble_eq_true rfl) wf_X7_47 rfl (gO_of g3) dX7_passRow_36 ?_
        refine fw_iconst C 3 dX7_passRow_39 rfl ?_
        refine fw_icmp_ne C 77 dX7_passRow_40 (by decide) (fun c9 => ?_) (fun c9 => ?_)
        · replace h := (if_neg c9).symm.trans h
          refine fw_aload_n C 0 dX7_passRow_77 rfl rfl ?_
          refine fw_dup C dX7_passRow_78 rfl ?_
          refine fw_getI C 7 5 (Nat.le_of_ble_eq_true rfl) (Nat.le_of_ble_eq_true rfl) wf_X7_31 rfl (gO_of g3) dX7_passRow_79 ?_
          refine fw_iconst C 1 dX7_passRow_82 rfl ?_
          refine fw_iadd C dX7_passRow_83 ?_
          refine fw_putI C 7 5 (Nat.le_of_ble_eq_true rfl) (Nat.le_of_ble_eq_true rfl) wf_X7_31 rfl rfl rfl rfl (gO_of g3) dX7_passRow_84 ?_
          refine fw_bm h (fun M10 h => ?_)
          refine fw_goto C 5 dX7_passRow_87 (by decide) ?_
          exact ih h kx
        · replace h := (if_pos c9).symm.trans h
          refine fw_aload_n C 0 dX7_passRow_43 rfl rfl ?_
          refine fw_getI C 7 6 (Nat.le_of_ble_eq_true rfl) (Nat.le_of_ble_eq_true rfl) wf_X7_53 rfl (gO_of g3) dX7_passRow_44 ?_
          refine fw_sipush C 9999 dX7_passRow_47 rfl ?_
          refine fw_icmp_gt C 77 dX7_passRow_50 (by decide) (fun c11 => ?_) (fun c11 => ?_)
          · replace h := (if_pos c11).symm.trans h
            refine fw_aload_n C 0 dX7_passRow_77 rfl rfl ?_
            refine fw_dup C dX7_passRow_78 rfl ?_
            refine fw_getI C 7 5 (Nat.le_of_ble_eq_true rfl) (Nat.le_of_ble_eq_true rfl) wf_X7_31 rfl (gO_of g3) dX7_passRow_79 ?_
            refine fw_iconst C 1 dX7_passRow_82 rfl ?_
            refine fw_iadd C dX7_passRow_83 ?_
            refine fw_putI C 7 5 (Nat.le_of_ble_eq_true rfl) (Nat.le_of_ble_eq_true rfl) wf_X7_31 rfl rfl rfl rfl (gO_of g3) dX7_passRow_84 ?_
            refine fw_bm h (fun M12 h => ?_)
            refine fw_goto C 5 dX7_passRow_87 (by decide) ?_
            exact ih h kx
          · replace h := (if_neg c11).symm.trans h
            refine fw_aload_n C 0 dX7_passRow_53 rfl rfl ?_
            refine fw_aload_n C 0 dX7_passRow_54 rfl rfl ?_
            refine fw_getI C 7 6 (Nat.le_of_ble_eq_true rfl) (Nat.le_of_ble_eq_true rfl) wf_X7_53 rfl (gO_of g3) dX7_passRow_55 ?_
            refine fw_bipush C 10 dX7_passRow_58 rfl ?_
            refine fw_imul C dX7_passRow_60 ?_
            refine fw_aload_n C 0 dX7_passRow_61 rfl rfl ?_
            refine fw_getR C 7 0 (Nat.le_of_ble_eq_true rfl) (Nat.le_of_ble_eq_true rfl) wf_X7_9 rfl (gO_of g3) (gN_of g5) dX7_passRow_62 ?_
            refine fw_aload_n C 0 dX7_passRow_65 rfl rfl ?_
            refine fw_getI C 7 5 (Nat.le_of_ble_eq_true rfl) (Nat.le_of_ble_eq_true rfl) wf_X7_31 rfl (gO_of g3) dX7_passRow_66 ?_
            refine fw_bald C (gA_of g6) dX7_passRow_69 ?_
            refine fw_iadd C dX7_passRow_70 ?_
            refine fw_bipush C 48 dX7_passRow_71 rfl ?_
            refine fw_isub C dX7_passRow_73 ?_
            refine fw_putI C 7 6 (Nat.le_of_ble_eq_true rfl) (Nat.le_of_ble_eq_true rfl) wf_X7_53 rfl rfl rfl rfl (gO_of g3) dX7_passRow_74 ?_
            refine fw_bm h (fun M13 h => ?_)
            refine fw_aload_n C 0 dX7_passRow_77 rfl rfl ?_
            refine fw_dup C dX7_passRow_78 rfl ?_
            refine fw_getI C 7 5 (Nat.le_of_ble_eq_true rfl) (Nat.le_of_ble_eq_true rfl) wf_X7_31 rfl (gO_of g3) dX7_passRow_79 ?_
            refine fw_iconst C 1 dX7_passRow_82 rfl ?_
            refine fw_iadd C dX7_passRow_83 ?_
            refine fw_putI C 7 5 (Nat.le_of_ble_eq_true rfl) (Nat.le_of_ble_eq_true rfl) wf_X7_31 rfl rfl rfl rfl (gO_of g3) dX7_passRow_84 ?_
            refine fw_bm h (fun M14 h => ?_)
            refine fw_goto C 5 dX7_passRow_87 (by decide) ?_
            exact ih h kx
set_option maxRecDepth 100000 in
def f_X7_passRow (S : List fw_Sh) (M : fw_Mem) (a0 : Nat) : Option fw_Mem := gd (gO S 7 a0) (bm (fw_set M a0 6 0) (fun M2 => b1 (lf_X7_passRow_5 S a0 20000 M2) (fun l15 => some l15)))
set_option maxHeartbeats 4000000 in
set_option maxRecDepth 100000 in
theorem c_X7_passRow {l : Launch} {G : fw_G} {S : List fw_Sh} {M : fw_Mem} {a0 : Nat} {r : fw_Mem} (hl : l.stackTraces = false) (h : f_X7_passRow S M a0 = some r) : fw_M l G yX7_passRow (.code yX7_passRow cX7_passRow 1 none) 2 (fw_mcO (.inl none, S, r)) (fw_msO (.inl none, S, r)) S M [.ref a0] (.inl none, S, r) := by
  refine fw_of [(0, .ref a0)] (by decide) (Nat.le_of_ble_eq_true rfl) rfl ?_
  intro p e s m args below meth c C hr hlk hnm ht _
  unfold f_X7_passRow at h
  refine fw_aload_n C 0 dX7_passRow_0 rfl rfl ?_
  refine fw_iconst C 0 dX7_passRow_1 rfl ?_
  obtain ⟨g1, h⟩ := gd_some h
  refine fw_putI C 7 6 (Nat.le_of_ble_eq_true rfl) (Nat.le_of_ble_eq_true rfl) wf_X7_53 rfl rfl rfl rfl (gO_of g1) dX7_passRow_2 ?_
  refine fw_bm h (fun M2 h => ?_)
  obtain ⟨l15, e15, h⟩ := b1_some h
  refine lc_X7_passRow_5 C hr hlk hl ht e15 ?_
  obtain rfl := Option.some.inj h
  exact fw_vret C hr hlk dX7_passRow_90
set_option maxRecDepth 100000 in
def lf_X7_advance_16 (S : List fw_Sh) (a0 : Nat) : Nat → fw_Mem → Option (fw_Mem)
  | 0, _ => none
  | n + 1, M => gd (gO S 7 a0) (if (M a0 2) ≤ (M a0 4) then (some M) else (gd (gN (M a0 0)) (gd (gA S 1 ((M a0 0).toNatClampNeg) (M a0 4)) (b1 (f_X7_kindOf S M (M ((M a0 0).toNatClampNeg) (M a0 4).toNatClampNeg)) (fun v8 => if v8 = 1 then (bm (fw_set M a0 4 ((M a0 4) + 1)) (fun M10 => lf_X7_advance_16 S a0 n M10)) else (some M))))))
set_option maxHeartbeats 4000000 in
set_option maxRecDepth 100000 in
theorem lc_X7_advance_16 {G : fw_G} {p : Program} {l : Launch} {e : Env} {s : State} {m : MethodId} {args : Array Value} {below : List Frame} {meth : Method} {c : Code} {S : List fw_Sh} {o : fw_O} {a0 : Nat} (C : fw_C G RX7 cX7_advance 1 p s m args c) (hr : meth.sig.returnType = none) (hlk : meth.locks = false) (hl : l.stackTraces = false) (ht : ∀ x ∈ c.exceptionTable.toList, False) :
    ∀ {n : Nat} {M : fw_Mem} {r : (fw_Mem)} (h : lf_X7_advance_16 S a0 n M = some r) (kx : fw_W G p l e (fw_rm 3 (fw_mcO o) (fw_msO o)) s m args below meth c 1 (fw_Z G below args s (fw_mcO o) (fw_msO o) o) 0 0 56 [(0, .ref a0)] [] S r), fw_W G p l e (fw_rm 3 (fw_mcO o) (fw_msO o)) s m args below meth c 1 (fw_Z G below args s (fw_mcO o) (fw_msO o) o) 0 0 16 [(0, .ref a0)] [] S M := by
  intro n
  induction n with
  | zero =>
    intro M r h
    exact nomatch (show (none : Option (fw_Mem)) = some r from h)
  | succ n ih =>
    intro M r h kx
    rw [lf_X7_advance_16.eq_2] at h
    refine fw_aload_n C 0 dX7_advance_16 rfl rfl ?_
    obtain ⟨g4, h⟩ := gd_some h
    refine fw_getI C 7 4 (Nat.le_of_ble_eq_true rfl) (Nat.le_of_ble_eq_true rfl) wf_X7_40 rfl (gO_of g4) dX7_advance_17 ?_
    refine fw_aload_n C 0 dX7_advance_20 rfl rfl ?_
    refine fw_getI C 7 2 (Nat.le_of_ble_eq_true rfl) (Nat.le_of_ble_eq_true rfl) wf_X7_28 rfl (gO_of g4) dX7_advance_21 ?_
    refine fw_icmp_ge C 56 dX7_advance_24 (by decide) (fun c5 => ?_) (fun c5 => ?_)
    · replace h := (if_pos c5).symm.trans h
      obtain rfl := Option.some.inj h
      exact kx
    · replace h := (if_neg c5).symm.trans h
      refine fw_aload_n C 0 dX7_advance_27 rfl rfl ?_
      obtain ⟨g6, h⟩ := gd_some h
      refine fw_getR C 7 0 (Nat.le_of_ble_eq_true rfl) (Nat.le_of_ble_eq_true rfl) wf_X7_9 rfl (gO_of g4) (gN_of g6) dX7_advance_28 ?_
      refine fw_aload_n C 0 dX7_advance_31 rfl rfl ?_
      refine fw_getI C 7 4 (Nat.le_of_ble_eq_true rfl) (Nat.le_of_ble_eq_true rfl) wf_X7_40 rfl (gO_of g4) dX7_advance_32 ?_
      obtain ⟨g7, h⟩ := gd_some h
      refine fw_bald C (gA_of g7) dX7_advance_35 ?_
      obtain ⟨v8, e8, h⟩ := b1_some h
      refine fw_callS [_] C (c_X7_kindOf hl e8) cal_X7_kindOf wm_X7_43 wt_yX7_kindOf rfl (Nat.le_of_ble_eq_true rfl) ⟨Nat.le_of_ble_eq_true rfl, Nat.le_of_ble_eq_true rfl⟩ ⟨Nat.zero_le _, Nat.zero_le _⟩ dX7_advance_36 ?_
      refine fw_iconst C 1 dX7_advance_39 rfl ?_
      refine fw_icmp_ne C 56 dX7_advance_40 (by decide) (fun c9 => ?_) (fun c9 => ?_)
      · replace h := (if_neg c9).symm.trans h
        obtain rfl := Option.some.inj h
        exact kx
      · replace h := (if_pos c9).symm.trans h
        refine fw_aload_n C 0 dX7_advance_43 rfl rfl ?_
        refine fw_dup C dX7_advance_44 rfl ?_
        refine fw_getI C 7 4 (Nat.le_of_ble_eq_true rfl) (Nat.le_of_ble_eq_true rfl) wf_X7_40 rfl (gO_of g4) dX7_advance_45 ?_
        refine fw_iconst C 1 dX7_advance_48 rfl ?_
        refine fw_iadd C dX7_advance_49 ?_
        refine fw_putI C 7 4 (Nat.le_of_ble_eq_true rfl) (Nat.le_of_ble_eq_true rfl) wf_X7_40 rfl rfl rfl rfl (gO_of g4) dX7_advance_50 ?_
        refine fw_bm h (fun M10 h => ?_)
        refine fw_goto C 16 dX7_advance_53 (by decide) ?_
        exact ih h kx
set_option maxRecDepth 100000 in
def fj_X7_advance_92 (S : List fw_Sh) (M : fw_Mem) (a0 : Nat) (z0 : Int32) (z1 : Nat) : Option fw_Mem := gd (gO S 7 z1) (bm (fw_set M z1 3 z0) (fun M15 => gd (gO S 7 a0) (if (M15 a0 3) = 4 then (bm (fw_set M15 a0 5 ((M15 a0 5) + 1)) (fun M20 => some M20)) else (if (M15 a0 3) = 0 then (some M15) else (b1 (f_X7_passRow S M15 a0) (fun M19 => some M19))))))
set_option maxHeartbeats 4000000 in
set_option maxRecDepth 100000 in
theorem jc_X7_advance_92 {G : fw_G} {p : Program} {l : Launch} {e : Env} {s : State} {m : MethodId} {args : Array Value} {below : List Frame} {meth : Method} {c : Code} {S : List fw_Sh} {M : fw_Mem} {a0 : Nat} {z0 : Int32} {z1 : Nat} {r : fw_Mem} {o : fw_O} (C : fw_C G RX7 cX7_advance 1 p s m args c) (hr : meth.sig.returnType = none) (hlk : meth.locks = false) (hl : l.stackTraces = false) (ht : ∀ x ∈ c.exceptionTable.toList, False) (ho : o = (.inl none, S, r)) (h : fj_X7_advance_92 S M a0 z0 z1 = some r) :
    fw_W G p l e (fw_rm 3 (fw_mcO o) (fw_msO o)) s m args below meth c 1 (fw_Z G below args s (fw_mcO o) (fw_msO o) o) 0 0 92 [(0, .ref a0)] [.int z0, .ref z1] S M := by
  subst ho
  unfold fj_X7_advance_92 at h
  obtain ⟨g14, h⟩ := gd_some h
  refine fw_putI C 7 3 (Nat.le_of_ble_eq_true rfl) (Nat.le_of_ble_eq_true rfl) wf_X7_47 rfl rfl rfl rfl (gO_of g14) dX7_advance_92 ?_
  refine fw_bm h (fun M15 h => ?_)
  refine fw_aload_n C 0 dX7_advance_95 rfl rfl ?_
  obtain ⟨g16, h⟩ := gd_some h
  refine fw_getI C 7 3 (Nat.le_of_ble_eq_true rfl) (Nat.le_of_ble_eq_true rfl) wf_X7_47 rfl (gO_of g16) dX7_advance_96 ?_
  refine fw_iconst C 4 dX7_advance_99 rfl ?_
  refine fw_icmp_ne C 116 dX7_advance_100 (by decide) (fun c17 => ?_) (fun c17 => ?_)
  · replace h := (if_neg c17).symm.trans h
    refine fw_aload_n C 0 dX7_advance_116 rfl rfl ?_
    refine fw_getI C 7 3 (Nat.le_of_ble_eq_true rfl) (Nat.le_of_ble_eq_true rfl) wf_X7_47 rfl (gO_of g16) dX7_advance_117 ?_
    refine fw_if_eq C 127 dX7_advance_120 (by decide) (fun c18 => ?_) (fun c18 => ?_)
    · replace h := (if_pos c18).symm.trans h
      obtain rfl := Option.some.inj h
      exact fw_vret C hr hlk dX7_advance_127
    · replace h := (if_neg c18).symm.trans h
      refine fw_aload_n C 0 dX7_advance_123 rfl rfl ?_
      obtain ⟨M19, e19, h⟩ := b1_some h
      refine fw_callV (ci := 7) [] C (c_X7_passRow hl e19) cal_X7_passRow wm_X7_50 wi_yX7_passRow wsl_yX7_passRow (Nat.le_of_ble_eq_true rfl) rfl (gO_of g16) rfl (Nat.le_of_ble_eq_true rfl) ⟨Nat.le_of_ble_eq_true rfl, Nat.le_of_ble_eq_true rfl⟩ ⟨Nat.zero_le _, Nat.zero_le _⟩ dX7_advance_124 ?_
      obtain rfl := Option.some.inj h
      exact fw_vret C hr hlk dX7_advance_127
  · replace h := (if_pos c17).symm.trans h
    refine fw_aload_n C 0 dX7_advance_103 rfl rfl ?_
    refine fw_dup C dX7_advance_104 rfl ?_
    refine fw_getI C 7 5 (Nat.le_of_ble_eq_true rfl) (Nat.le_of_ble_eq_true rfl) wf_X7_31 rfl (gO_of g16) dX7_advance_105 ?_
    refine fw_iconst C 1 dX7_advance_108 rfl ?_
    refine fw_iadd C dX7_advance_109 ?_
    refine fw_putI C 7 5 (Nat.le_of_ble_eq_true rfl) (Nat.le_of_ble_eq_true rfl) wf_X7_31 rfl rfl rfl rfl (gO_of g16) dX7_advance_110 ?_
    refine fw_bm h (fun M20 h => ?_)
    refine fw_goto C 127 dX7_advance_113 (by decide) ?_
    obtain rfl := Option.some.inj h
    exact fw_vret C hr hlk dX7_advance_127
set_option maxRecDepth 100000 in
def f_X7_advance (S : List fw_Sh) (M : fw_Mem) (a0 : Nat) : Option fw_Mem := gd (gO S 7 a0) (if (M a0 7) = 0 then (bm (fw_set M a0 4 (M a0 5)) (fun M3 => b1 (lf_X7_advance_16 S a0 20000 M3) (fun l11 => bm (fw_set l11 a0 5 (l11 a0 4)) (fun M12 => if (M12 a0 2) ≤ (M12 a0 4) then fj_X7_advance_92 S M12 a0 0 a0 else (gd (gN (M12 a0 0)) (gd (gA S 1 ((M12 a0 0).toNatClampNeg) (M12 a0 4)) (b1 (f_X7_kindOf S M12 (M12 ((M12 a0 0).toNatClampNeg) (M12 a0 4).toNatClampNeg)) (fun v23 => fj_X7_advance_92 S M12 a0 v23 a0)))))))) else (some M))
set_option maxHeartbeats 4000000 in
set_option maxRecDepth 100000 in
theorem c_X7_advance {l : Launch} {G : fw_G} {S : List fw_Sh} {M : fw_Mem} {a0 : Nat} {r : fw_Mem} (hl : l.stackTraces = false) (h : f_X7_advance S M a0 = some r) : fw_M l G yX7_advance (.code yX7_advance cX7_advance 1 none) 3 (fw_mcO (.inl none, S, r)) (fw_msO (.inl none, S, r)) S M [.ref a0] (.inl none, S, r) := by
  refine fw_of [(0, .ref a0)] (by decide) (Nat.le_of_ble_eq_true rfl) rfl ?_
  intro p e s m args below meth c C hr hlk hnm ht _
  unfold f_X7_advance at h
  refine fw_aload_n C 0 dX7_advance_0 rfl rfl ?_
  obtain ⟨g1, h⟩ := gd_some h
  refine fw_getI C 7 7 (Nat.le_of_ble_eq_true rfl) (Nat.le_of_ble_eq_true rfl) wf_X7_34 rfl (gO_of g1) dX7_advance_1 ?_
  refine fw_if_eq C 8 dX7_advance_4 (by decide) (fun c2 => ?_) (fun c2 => ?_)
  · replace h := (if_pos c2).symm.trans h
    refine fw_aload_n C 0 dX7_advance_8 rfl rfl ?_
    refine fw_aload_n C 0 dX7_advance_9 rfl rfl ?_
    refine fw_getI C 7 5 (Nat.le_of_ble_eq_true rfl) (Nat.le_of_ble_eq_true rfl) wf_X7_31 rfl (gO_of g1) dX7_advance_10 ?_
    refine fw_putI C 7 4 (Nat.le_of_ble_eq_true rfl) (Nat.le_of_ble_eq_true rfl) wf_X7_40 rfl rfl rfl rfl (gO_of g1) dX7_advance_13 ?_
    refine fw_bm h (fun M3 h => ?_)
    obtain ⟨l11, e11, h⟩ := b1_some h
    refine lc_X7_advance_16 C hr hlk hl ht e11 ?_
    refine fw_aload_n C 0 dX7_advance_56 rfl rfl ?_
    refine fw_aload_n C 0 dX7_advance_57 rfl rfl ?_
    refine fw_getI C 7 4 (Nat.le_of_ble_eq_true rfl) (Nat.le_of_ble_eq_true rfl) wf_X7_40 rfl (gO_of g1) dX7_advance_58 ?_
    refine fw_putI C 7 5 (Nat.le_of_ble_eq_true rfl) (Nat.le_of_ble_eq_true rfl) wf_X7_31 rfl rfl rfl rfl (gO_of g1) dX7_advance_61 ?_
    refine fw_bm h (fun M12 h => ?_)
    refine fw_aload_n C 0 dX7_advance_64 rfl rfl ?_
    refine fw_aload_n C 0 dX7_advance_65 rfl rfl ?_
    refine fw_getI C 7 4 (Nat.le_of_ble_eq_true rfl) (Nat.le_of_ble_eq_true rfl) wf_X7_40 rfl (gO_of g1) dX7_advance_66 ?_
    refine fw_aload_n C 0 dX7_advance_69 rfl rfl ?_
    refine fw_getI C 7 2 (Nat.le_of_ble_eq_true rfl) (Nat.le_of_ble_eq_true rfl) wf_X7_28 rfl (gO_of g1) dX7_advance_70 ?_
    refine fw_icmp_ge C 91 dX7_advance_73 (by decide) (fun c13 => ?_) (fun c13 => ?_)
    · replace h := (if_pos c13).symm.trans h
      refine fw_iconst C 0 dX7_advance_91 rfl ?_
      exact jc_X7_advance_92 C hr hlk hl ht rfl h
    · replace h := (if_neg c13).symm.trans h
      refine fw_aload_n C 0 dX7_advance_76 rfl rfl ?_
      obtain ⟨g21, h⟩ := gd_some h
      refine fw_getR C 7 0 (Nat.le_of_ble_eq_true rfl) (Nat.le_of_ble_eq_true rfl) wf_X7_9 rfl (gO_of g1) (gN_of g21) dX7_advance_77 ?_
      refine fw_aload_n C 0 dX7_advance_80 rfl rfl ?_
      refine fw_getI C 7 4 (Nat.le_of_ble_eq_true rfl) (Nat.le_of_ble_eq_true rfl) wf_X7_40 rfl (gO_of g1) dX7_advance_81 ?_
      obtain ⟨g22, h⟩ := gd_some h
      refine fw_bald C (gA_of g22) dX7_advance_84 ?_
      obtain ⟨v23, e23, h⟩ := b1_some h
      refine fw_callS [_] C (c_X7_kindOf hl e23) cal_X7_kindOf wm_X7_43 wt_yX7_kindOf rfl (Nat.le_of_ble_eq_true rfl) ⟨Nat.le_of_ble_eq_true rfl, Nat.le_of_ble_eq_true rfl⟩ ⟨Nat.zero_le _, Nat.zero_le _⟩ dX7_advance_85 ?_
      refine fw_goto C 92 dX7_advance_88 (by decide) ?_
      exact jc_X7_advance_92 C hr hlk hl ht rfl h
  · replace h := (if_neg c2).symm.trans h
    obtain rfl := Option.some.inj h
    exact fw_vret C hr hlk dX7_advance_7
set_option maxRecDepth 100000 in
def f_X7_open (S : List fw_Sh) (M : fw_Mem) (a0 : Nat) (x1 : Int32) : Option fw_Mem := gd (gO S 7 a0) (bm (fw_set M a0 2 (if 600 < x1 then 600 else x1)) (fun M2 => bm (fw_set M2 a0 1 0) (fun M3 => bm (fw_set M3 a0 5 0) (fun M4 => bm (fw_set M4 a0 7 0) (fun M5 => bm (fw_set M5 a0 8 (-1)) (fun M6 => b1 (f_X7_advance S M6 a0) (fun M7 => some M7)))))))
set_option maxHeartbeats 4000000 in
set_option maxRecDepth 100000 in
theorem c_X7_open {l : Launch} {G : fw_G} {S : List fw_Sh} {M : fw_Mem} {a0 : Nat} {x1 : Int32} {r : fw_Mem} (hl : l.stackTraces = false) (h : f_X7_open S M a0 x1 = some r) : fw_M l G yX7_open (.code yX7_open cX7_open 2 none) 4 (fw_mcO (.inl none, S, r)) (fw_msO (.inl none, S, r)) S M [.ref a0, .int x1] (.inl none, S, r) := by
  refine fw_of [(0, .ref a0), (1, .int x1)] (by decide) (Nat.le_of_ble_eq_true rfl) rfl ?_
  intro p e s m args below meth c C hr hlk hnm ht _
  unfold f_X7_open at h
  refine fw_aload_n C 0 dX7_open_0 rfl rfl ?_
  refine fw_iload_n C 1 dX7_open_1 rfl rfl ?_
  refine fw_sipush C 600 dX7_open_2 rfl ?_
  refine fw_min C wm_X7_22 (Nat.le_of_ble_eq_true rfl) (Nat.le_of_ble_eq_true rfl) (Nat.le_of_ble_eq_true rfl) (Nat.zero_le _) (Nat.zero_le _) dX7_open_5 ?_
  obtain ⟨g1, h⟩ := gd_some h
  refine fw_putI C 7 2 (Nat.le_of_ble_eq_true rfl) (Nat.le_of_ble_eq_true rfl) wf_X7_28 rfl rfl rfl rfl (gO_of g1) dX7_open_8 ?_
  refine fw_bm h (fun M2 h => ?_)
  refine fw_aload_n C 0 dX7_open_11 rfl rfl ?_
  refine fw_iconst C 0 dX7_open_12 rfl ?_
  refine fw_putI C 7 1 (Nat.le_of_ble_eq_true rfl) (Nat.le_of_ble_eq_true rfl) wf_X7_19 rfl rfl rfl rfl (gO_of g1) dX7_open_13 ?_
  refine fw_bm h (fun M3 h => ?_)
  refine fw_aload_n C 0 dX7_open_16 rfl rfl ?_
  refine fw_iconst C 0 dX7_open_17 rfl ?_
  refine fw_putI C 7 5 (Nat.le_of_ble_eq_true rfl) (Nat.le_of_ble_eq_true rfl) wf_X7_31 rfl rfl rfl rfl (gO_of g1) dX7_open_18 ?_
  refine fw_bm h (fun M4 h => ?_)
  refine fw_aload_n C 0 dX7_open_21 rfl rfl ?_
  refine fw_iconst C 0 dX7_open_22 rfl ?_
  refine fw_putI C 7 7 (Nat.le_of_ble_eq_true rfl) (Nat.le_of_ble_eq_true rfl) wf_X7_34 rfl rfl rfl rfl (gO_of g1) dX7_open_23 ?_
  refine fw_bm h (fun M5 h => ?_)
  refine fw_aload_n C 0 dX7_open_26 rfl rfl ?_
  refine fw_iconst C (-1) dX7_open_27 rfl ?_
  refine fw_putI C 7 8 (Nat.le_of_ble_eq_true rfl) (Nat.le_of_ble_eq_true rfl) wf_X7_15 rfl rfl rfl rfl (gO_of g1) dX7_open_28 ?_
  refine fw_bm h (fun M6 h => ?_)
  refine fw_aload_n C 0 dX7_open_31 rfl rfl ?_
  obtain ⟨M7, e7, h⟩ := b1_some h
  refine fw_callV (ci := 7) [] C (c_X7_advance hl e7) cal_X7_advance wm_X7_37 wi_yX7_advance wsl_yX7_advance (Nat.le_of_ble_eq_true rfl) rfl (gO_of g1) rfl (Nat.le_of_ble_eq_true rfl) ⟨Nat.le_of_ble_eq_true rfl, Nat.le_of_ble_eq_true rfl⟩ ⟨Nat.zero_le _, Nat.zero_le _⟩ dX7_open_32 ?_
  obtain rfl := Option.some.inj h
  exact fw_vret C hr hlk dX7_open_35
set_option maxRecDepth 100000 in
def f_X7_fail (S : List fw_Sh) (M : fw_Mem) (a0 : Nat) (x1 : Int32) : Option fw_Mem := gd (gO S 7 a0) (if (M a0 7) = 0 then (bm (fw_set M a0 7 x1) (fun M3 => bm (fw_set M3 a0 8 (M3 a0 4)) (fun M4 => some M4))) else (some M))
set_option maxHeartbeats 4000000 in
set_option maxRecDepth 100000 in
theorem c_X7_fail {l : Launch} {G : fw_G} {S : List fw_Sh} {M : fw_Mem} {a0 : Nat} {x1 : Int32} {r : fw_Mem} (hl : l.stackTraces = false) (h : f_X7_fail S M a0 x1 = some r) : fw_M l G yX7_fail (.code yX7_fail cX7_fail 2 none) 1 (fw_mcO (.inl none, S, r)) (fw_msO (.inl none, S, r)) S M [.ref a0, .int x1] (.inl none, S, r) := by
  refine fw_of [(0, .ref a0), (1, .int x1)] (by decide) (Nat.le_of_ble_eq_true rfl) rfl ?_
  intro p e s m args below meth c C hr hlk hnm ht _
  unfold f_X7_fail at h
  refine fw_aload_n C 0 dX7_fail_0 rfl rfl ?_
  obtain ⟨g1, h⟩ := gd_some h
  refine fw_getI C 7 7 (Nat.le_of_ble_eq_true rfl) (Nat.le_of_ble_eq_true rfl) wf_X7_34 rfl (gO_of g1) dX7_fail_1 ?_
  refine fw_if_ne C 20 dX7_fail_4 (by decide) (fun c2 => ?_) (fun c2 => ?_)
  · replace h := (if_neg c2).symm.trans h
    obtain rfl := Option.some.inj h
    exact fw_vret C hr hlk dX7_fail_20
  · replace h := (if_pos c2).symm.trans h
    refine fw_aload_n C 0 dX7_fail_7 rfl rfl ?_
    refine fw_iload_n C 1 dX7_fail_8 rfl rfl ?_
    refine fw_putI C 7 7 (Nat.le_of_ble_eq_true rfl) (Nat.le_of_ble_eq_true rfl) wf_X7_34 rfl rfl rfl rfl (gO_of g1) dX7_fail_9 ?_
    refine fw_bm h (fun M3 h => ?_)
    refine fw_aload_n C 0 dX7_fail_12 rfl rfl ?_
    refine fw_aload_n C 0 dX7_fail_13 rfl rfl ?_
    refine fw_getI C 7 4 (Nat.le_of_ble_eq_true rfl) (Nat.le_of_ble_eq_true rfl) wf_X7_40 rfl (gO_of g1) dX7_fail_14 ?_
    refine fw_putI C 7 8 (Nat.le_of_ble_eq_true rfl) (Nat.le_of_ble_eq_true rfl) wf_X7_15 rfl rfl rfl rfl (gO_of g1) dX7_fail_17 ?_
    refine fw_bm h (fun M4 h => ?_)
    obtain rfl := Option.some.inj h
    exact fw_vret C hr hlk dX7_fail_20
set_option maxRecDepth 100000 in
def f_X7_isSign (S : List fw_Sh) (M : fw_Mem) (a0 : Nat) (x1 : Int32) : Option Int32 := gd (gO S 7 a0) (if (M a0 3) = 4 then (gd (gN (M a0 0)) (gd (gA S 1 ((M a0 0).toNatClampNeg) (M a0 4)) (if (M ((M a0 0).toNatClampNeg) (M a0 4).toNatClampNeg) = x1 then (some 1) else (some 0)))) else (some 0))
set_option maxHeartbeats 4000000 in
set_option maxRecDepth 100000 in
theorem c_X7_isSign {l : Launch} {G : fw_G} {S : List fw_Sh} {M : fw_Mem} {a0 : Nat} {x1 : Int32} {r : Int32} (hl : l.stackTraces = false) (h : f_X7_isSign S M a0 x1 = some r) : fw_M l G yX7_isSign (.code yX7_isSign cX7_isSign 2 (some .boolean)) 1 (fw_mcO (.inl (some (.int r)), S, M)) (fw_msO (.inl (some (.int r)), S, M)) S M [.ref a0, .int x1] (.inl (some (.int r)), S, M) := by
  refine fw_of [(0, .ref a0), (1, .int x1)] (by decide) (Nat.le_of_ble_eq_true rfl) rfl ?_
  intro p e s m args below meth c C hr hlk hnm ht _
  unfold f_X7_isSign at h
  refine fw_aload_n C 0 dX7_isSign_0 rfl rfl ?_
  obtain ⟨g1, h⟩ := gd_some h
  refine fw_getI C 7 3 (Nat.le_of_ble_eq_true rfl) (Nat.le_of_ble_eq_true rfl) wf_X7_47 rfl (gO_of g1) dX7_isSign_1 ?_
  refine fw_iconst C 4 dX7_isSign_4 rfl ?_
  refine fw_icmp_ne C 25 dX7_isSign_5 (by decide) (fun c2 => ?_) (fun c2 => ?_)
  · replace h := (if_neg c2).symm.trans h
    refine fw_iconst C 0 dX7_isSign_25 rfl ?_
    obtain rfl := Option.some.inj h
    exact fw_zret C hr (Or.inl rfl) hlk dX7_isSign_26
  · replace h := (if_pos c2).symm.trans h
    refine fw_aload_n C 0 dX7_isSign_8 rfl rfl ?_
    obtain ⟨g3, h⟩ := gd_some h
    refine fw_getR C 7 0 (Nat.le_of_ble_eq_true rfl) (Nat.le_of_ble_eq_true rfl) wf_X7_9 rfl (gO_of g1) (gN_of g3) dX7_isSign_9 ?_
    refine fw_aload_n C 0 dX7_isSign_12 rfl rfl ?_
    refine fw_getI C 7 4 (Nat.le_of_ble_eq_true rfl) (Nat.le_of_ble_eq_true rfl) wf_X7_40 rfl (gO_of g1) dX7_isSign_13 ?_
    obtain ⟨g4, h⟩ := gd_some h
    refine fw_bald C (gA_of g4) dX7_isSign_16 ?_
    refine fw_iload_n C 1 dX7_isSign_17 rfl rfl ?_
    refine fw_icmp_ne C 25 dX7_isSign_18 (by decide) (fun c5 => ?_) (fun c5 => ?_)
    · replace h := (if_neg c5).symm.trans h
      refine fw_iconst C 0 dX7_isSign_25 rfl ?_
      obtain rfl := Option.some.inj h
      exact fw_zret C hr (Or.inl rfl) hlk dX7_isSign_26
    · replace h := (if_pos c5).symm.trans h
      refine fw_iconst C 1 dX7_isSign_21 rfl ?_
      refine fw_goto C 26 dX7_isSign_22 (by decide) ?_
      obtain rfl := Option.some.inj h
      exact fw_zret C hr (Or.inr rfl) hlk dX7_isSign_26
set_option maxRecDepth 100000 in
def f_X7_passSign (S : List fw_Sh) (M : fw_Mem) (a0 : Nat) (x1 : Int32) : Option fw_Mem := gd (gO S 7 a0) (b1 (f_X7_isSign S M a0 x1) (fun v1 => if v1 = 0 then (b1 (f_X7_fail S M a0 1) (fun M5 => b1 (f_X7_advance S M5 a0) (fun M6 => some M6))) else (b1 (f_X7_advance S M a0) (fun M4 => some M4))))
set_option maxHeartbeats 4000000 in
set_option maxRecDepth 100000 in
theorem c_X7_passSign {l : Launch} {G : fw_G} {S : List fw_Sh} {M : fw_Mem} {a0 : Nat} {x1 : Int32} {r : fw_Mem} (hl : l.stackTraces = false) (h : f_X7_passSign S M a0 x1 = some r) : fw_M l G yX7_passSign (.code yX7_passSign cX7_passSign 2 none) 4 (fw_mcO (.inl none, S, r)) (fw_msO (.inl none, S, r)) S M [.ref a0, .int x1] (.inl none, S, r) := by
  refine fw_of [(0, .ref a0), (1, .int x1)] (by decide) (Nat.le_of_ble_eq_true rfl) rfl ?_
  intro p e s m args below meth c C hr hlk hnm ht _
  unfold f_X7_passSign at h
  refine fw_aload_n C 0 dX7_passSign_0 rfl rfl ?_
  refine fw_iload_n C 1 dX7_passSign_1 rfl rfl ?_
  obtain ⟨g2, h⟩ := gd_some h
  obtain ⟨v1, e1, h⟩ := b1_some h
  refine fw_callV (ci := 7) [_] C (c_X7_isSign hl e1) cal_X7_isSign wm_X7_71 wi_yX7_isSign wsl_yX7_isSign (Nat.le_of_ble_eq_true rfl) rfl (gO_of g2) rfl (Nat.le_of_ble_eq_true rfl) ⟨Nat.le_of_ble_eq_true rfl, Nat.le_of_ble_eq_true rfl⟩ ⟨Nat.zero_le _, Nat.zero_le _⟩ dX7_passSign_2 ?_
  refine fw_if_ne C 13 dX7_passSign_5 (by decide) (fun c3 => ?_) (fun c3 => ?_)
  · replace h := (if_neg c3).symm.trans h
    refine fw_aload_n C 0 dX7_passSign_13 rfl rfl ?_
    obtain ⟨M4, e4, h⟩ := b1_some h
    refine fw_callV (ci := 7) [] C (c_X7_advance hl e4) cal_X7_advance wm_X7_37 wi_yX7_advance wsl_yX7_advance (Nat.le_of_ble_eq_true rfl) rfl (gO_of g2) rfl (Nat.le_of_ble_eq_true rfl) ⟨Nat.le_of_ble_eq_true rfl, Nat.le_of_ble_eq_true rfl⟩ ⟨Nat.zero_le _, Nat.zero_le _⟩ dX7_passSign_14 ?_
    obtain rfl := Option.some.inj h
    exact fw_vret C hr hlk dX7_passSign_17
  · replace h := (if_pos c3).symm.trans h
    refine fw_aload_n C 0 dX7_passSign_8 rfl rfl ?_
    refine fw_iconst C 1 dX7_passSign_9 rfl ?_
    obtain ⟨M5, e5, h⟩ := b1_some h
    refine fw_callV (ci := 7) [_] C (c_X7_fail hl e5) cal_X7_fail wm_X7_75 wi_yX7_fail wsl_yX7_fail (Nat.le_of_ble_eq_true rfl) rfl (gO_of g2) rfl (Nat.le_of_ble_eq_true rfl) ⟨Nat.le_of_ble_eq_true rfl, Nat.le_of_ble_eq_true rfl⟩ ⟨Nat.zero_le _, Nat.zero_le _⟩ dX7_passSign_10 ?_
    refine fw_aload_n C 0 dX7_passSign_13 rfl rfl ?_
    obtain ⟨M6, e6, h⟩ := b1_some h
    refine fw_callV (ci := 7) [] C (c_X7_advance hl e6) cal_X7_advance wm_X7_37 wi_yX7_advance wsl_yX7_advance (Nat.le_of_ble_eq_true rfl) rfl (gO_of g2) rfl (Nat.le_of_ble_eq_true rfl) ⟨Nat.le_of_ble_eq_true rfl, Nat.le_of_ble_eq_true rfl⟩ ⟨Nat.zero_le _, Nat.zero_le _⟩ dX7_passSign_14 ?_
    obtain rfl := Option.some.inj h
    exact fw_vret C hr hlk dX7_passSign_17
set_option maxRecDepth 100000 in
def lf_X7_isWord_28 (S : List fw_Sh) (M : fw_Mem) (a0 : Nat) (a1 : Nat) : Nat → Int32 → Option (Int32 ⊕ (Unit))
  | 0, _ => none
  | n + 1, x2 => gd (gS a1) (if (nI (sLen a1)) ≤ x2 then (some (.inr ())) else (gd (gO S 7 a0) (gd (gN (M a0 0)) (gd (gA S 1 ((M a0 0).toNatClampNeg) ((M a0 4) + x2)) (gd (gT a1 x2) (if (M ((M a0 0).toNatClampNeg) ((M a0 4) + x2).toNatClampNeg) = (sChr a1 x2.toNatClampNeg) then (lf_X7_isWord_28 S M a0 a1 n (x2 + 1)) else (some (.inl 0))))))))
set_option maxHeartbeats 4000000 in
set_option maxRecDepth 100000 in
theorem lc_X7_isWord_28 {G : fw_G} {p : Program} {l : Launch} {e : Env} {s : State} {m : MethodId} {args : Array Value} {below : List Frame} {meth : Method} {c : Code} {S : List fw_Sh} {o : fw_O} {M : fw_Mem} {a0 : Nat} {a1 : Nat} (C : fw_C G RX7 cX7_isWord 3 p s m args c) (hr : meth.sig.returnType = (some .boolean)) (hlk : meth.locks = false) (hl : l.stackTraces = false) (ht : ∀ x ∈ c.exceptionTable.toList, False) :
    ∀ {n : Nat} {x2 : Int32} {r : (Int32 ⊕ (Unit))} (h : lf_X7_isWord_28 S M a0 a1 n x2 = some r) (kx : ∀ d, r = .inr d → fw_W G p l e (fw_rm 7 (fw_mcO o) (fw_msO o)) s m args below meth c 3 (fw_Z G below args s (fw_mcO o) (fw_msO o) o) 0 0 63 [] [] S M) (hret : ∀ t, r = .inl t → o = (.inl (some (.int t)), S, M)), fw_W G p l e (fw_rm 7 (fw_mcO o) (fw_msO o)) s m args below meth c 3 (fw_Z G below args s (fw_mcO o) (fw_msO o) o) 0 0 28 [(0, .ref a0), (1, .ref a1), (2, .int x2)] [] S M := by
  intro n
  induction n with
  | zero =>
    intro x2 r h
    exact nomatch (show (none : Option (Int32 ⊕ (Unit))) = some r from h)
  | succ n ih =>
    intro x2 r h kx hret
    rw [lf_X7_isWord_28.eq_2] at h
    refine fw_iload_n C 2 dX7_isWord_28 rfl rfl ?_
    refine fw_aload_n C 1 dX7_isWord_29 rfl rfl ?_
    obtain ⟨g5, h⟩ := gd_some h
    refine fw_strlen C hl wm_X7_56 (Nat.le_of_ble_eq_true rfl) (gS_of g5) (Nat.le_of_ble_eq_true rfl) (Nat.le_of_ble_eq_true rfl) (Nat.zero_le _) (Nat.zero_le _) dX7_isWord_30 ?_
    refine fw_icmp_ge C 63 dX7_isWord_33 (by decide) (fun c6 => ?_) (fun c6 => ?_)
    · replace h := (if_pos c6).symm.trans h
      refine fw_sub [] rfl ?_
      exact kx _ (Option.some.inj h).symm
    · replace h := (if_neg c6).symm.trans h
      refine fw_aload_n C 0 dX7_isWord_36 rfl rfl ?_
      obtain ⟨g7, h⟩ := gd_some h
      obtain ⟨g8, h⟩ := gd_some h
      refine fw_getR C 7 0 (Nat.le_of_ble_eq_true rfl) (Nat.le_of_ble_eq_true rfl) wf_X7_9 rfl (gO_of g7) (gN_of g8) dX7_isWord_37 ?_
      refine fw_aload_n C 0 dX7_isWord_40 rfl rfl ?_
      refine fw_getI C 7 4 (Nat.le_of_ble_eq_true rfl) (Nat.le_of_ble_eq_true rfl) wf_X7_40 rfl (gO_of g7) dX7_isWord_41 ?_
      refine fw_iload_n C 2 dX7_isWord_44 rfl rfl ?_
      refine fw_iadd C dX7_isWord_45 ?_
      obtain ⟨g9, h⟩ := gd_some h
      refine fw_bald C (gA_of g9) dX7_isWord_46 ?_
      refine fw_aload_n C 1 dX7_isWord_47 rfl rfl ?_
      refine fw_iload_n C 2 dX7_isWord_48 rfl rfl ?_
      obtain ⟨g10, h⟩ := gd_some h
      refine fw_strchr C hl wm_X7_61 (Nat.le_of_ble_eq_true rfl) (gS_of g5) (gT_of g10) (Nat.le_of_ble_eq_true rfl) (Nat.le_of_ble_eq_true rfl) (Nat.zero_le _) (Nat.zero_le _) dX7_isWord_49 ?_
      refine fw_icmp_eq C 57 dX7_isWord_52 (by decide) (fun c11 => ?_) (fun c11 => ?_)
      · replace h := (if_pos c11).symm.trans h
        refine fw_iinc C _ 2 [(2, _), (0, _), (1, _)] dX7_isWord_57 rfl rfl (Nat.le_of_ble_eq_true rfl) rfl ?_
        refine fw_goto C 28 dX7_isWord_60 (by decide) ?_
        refine fw_sub [1, 2, 0] rfl ?_
        exact ih h kx hret
      · replace h := (if_neg c11).symm.trans h
        refine fw_iconst C 0 dX7_isWord_55 rfl ?_
        have ho := hret _ (Option.some.inj h).symm
        subst ho
        exact fw_zret C hr (Or.inl rfl) hlk dX7_isWord_56
set_option maxRecDepth 100000 in
def f_X7_isWord (S : List fw_Sh) (M : fw_Mem) (a0 : Nat) (a1 : Nat) : Option Int32 := gd (gO S 7 a0) (if (M a0 3) = 2 then (gd (gS a1) (if ((M a0 5) - (M a0 4)) = (nI (sLen a1)) then (b1 (lf_X7_isWord_28 S M a0 a1 20000 0) (fun l12 => bl l12 (fun t12 => some t12) (fun d12 => some 1))) else (some 0))) else (some 0))
set_option maxHeartbeats 4000000 in
set_option maxRecDepth 100000 in
theorem c_X7_isWord {l : Launch} {G : fw_G} {S : List fw_Sh} {M : fw_Mem} {a0 : Nat} {a1 : Nat} {r : Int32} (hl : l.stackTraces = false) (h : f_X7_isWord S M a0 a1 = some r) : fw_M l G yX7_isWord (.code yX7_isWord cX7_isWord 3 (some .boolean)) 7 (fw_mcO (.inl (some (.int r)), S, M)) (fw_msO (.inl (some (.int r)), S, M)) S M [.ref a0, .ref a1] (.inl (some (.int r)), S, M) := by
  refine fw_of [(0, .ref a0), (1, .ref a1)] (by decide) (Nat.le_of_ble_eq_true rfl) rfl ?_
  intro p e s m args below meth c C hr hlk hnm ht _
  unfold f_X7_isWord at h
  refine fw_aload_n C 0 dX7_isWord_0 rfl rfl ?_
  obtain ⟨g1, h⟩ := gd_some h
  refine fw_getI C 7 3 (Nat.le_of_ble_eq_true rfl) (Nat.le_of_ble_eq_true rfl) wf_X7_47 rfl (gO_of g1) dX7_isWord_1 ?_
  refine fw_iconst C 2 dX7_isWord_4 rfl ?_
  refine fw_icmp_ne C 24 dX7_isWord_5 (by decide) (fun c2 => ?_) (fun c2 => ?_)
  · replace h := (if_neg c2).symm.trans h
    refine fw_iconst C 0 dX7_isWord_24 rfl ?_
    obtain rfl := Option.some.inj h
    exact fw_zret C hr (Or.inl rfl) hlk dX7_isWord_25
  · replace h := (if_pos c2).symm.trans h
    refine fw_aload_n C 0 dX7_isWord_8 rfl rfl ?_
    refine fw_getI C 7 5 (Nat.le_of_ble_eq_true rfl) (Nat.le_of_ble_eq_true rfl) wf_X7_31 rfl (gO_of g1) dX7_isWord_9 ?_
    refine fw_aload_n C 0 dX7_isWord_12 rfl rfl ?_
    refine fw_getI C 7 4 (Nat.le_of_ble_eq_true rfl) (Nat.le_of_ble_eq_true rfl) wf_X7_40 rfl (gO_of g1) dX7_isWord_13 ?_
    refine fw_isub C dX7_isWord_16 ?_
    refine fw_aload_n C 1 dX7_isWord_17 rfl rfl ?_
    obtain ⟨g3, h⟩ := gd_some h
    refine fw_strlen C hl wm_X7_56 (Nat.le_of_ble_eq_true rfl) (gS_of g3) (Nat.le_of_ble_eq_true rfl) (Nat.le_of_ble_eq_true rfl) (Nat.zero_le _) (Nat.zero_le _) dX7_isWord_18 ?_
    refine fw_icmp_eq C 26 dX7_isWord_21 (by decide) (fun c4 => ?_) (fun c4 => ?_)
    · replace h := (if_pos c4).symm.trans h
      refine fw_iconst C 0 dX7_isWord_26 rfl ?_
      refine fw_istore_n C [(2, _), (0, _), (1, _)] dX7_isWord_27 rfl (Nat.le_of_ble_eq_true rfl) rfl ?_
      refine fw_sub [1, 2, 0] rfl ?_
      obtain ⟨l12, e12, h⟩ := b1_some h
      rcases l12 with t12 | d12
      · obtain rfl := Option.some.inj (bl_l h)
        exact lc_X7_isWord_28 C hr hlk hl ht e12 (fun d hd => nomatch hd) (fun t ht => by cases ht; rfl)
      replace h := bl_r h
      refine lc_X7_isWord_28 C hr hlk hl ht e12 (fun d hd => ?_) (fun t ht => nomatch ht)
      cases hd
      refine fw_iconst C 1 dX7_isWord_63 rfl ?_
      obtain rfl := Option.some.inj h
      exact fw_zret C hr (Or.inr rfl) hlk dX7_isWord_64
    · replace h := (if_neg c4).symm.trans h
      refine fw_iconst C 0 dX7_isWord_24 rfl ?_
      obtain rfl := Option.some.inj h
      exact fw_zret C hr (Or.inl rfl) hlk dX7_isWord_25
set_option maxRecDepth 100000 in
def f_X6_allIssues (S : List fw_Sh) (M : fw_Mem) (a0 : Nat) : Option Int32 := gd (gO S 6 a0) (some ((M a0 5) ||| (M a0 6)))
set_option maxHeartbeats 4000000 in
set_option maxRecDepth 100000 in
theorem c_X6_allIssues {l : Launch} {G : fw_G} {S : List fw_Sh} {M : fw_Mem} {a0 : Nat} {r : Int32} (hl : l.stackTraces = false) (h : f_X6_allIssues S M a0 = some r) : fw_M l G yX6_allIssues (.code yX6_allIssues cX6_allIssues 1 (some .int)) 1 (fw_mcO (.inl (some (.int r)), S, M)) (fw_msO (.inl (some (.int r)), S, M)) S M [.ref a0] (.inl (some (.int r)), S, M) := by
  refine fw_of [(0, .ref a0)] (by decide) (Nat.le_of_ble_eq_true rfl) rfl ?_
  intro p e s m args below meth c C hr hlk hnm ht _
  unfold f_X6_allIssues at h
  refine fw_aload_n C 0 dX6_allIssues_0 rfl rfl ?_
  obtain ⟨g1, h⟩ := gd_some h
  refine fw_getI C 6 5 (Nat.le_of_ble_eq_true rfl) (Nat.le_of_ble_eq_true rfl) wf_X6_30 rfl (gO_of g1) dX6_allIssues_1 ?_
  refine fw_aload_n C 0 dX6_allIssues_4 rfl rfl ?_
  refine fw_getI C 6 6 (Nat.le_of_ble_eq_true rfl) (Nat.le_of_ble_eq_true rfl) wf_X6_33 rfl (gO_of g1) dX6_allIssues_5 ?_
  refine fw_ior C dX6_allIssues_8 ?_
  obtain rfl := Option.some.inj h
  exact fw_iret C hr hlk dX6_allIssues_9
set_option maxRecDepth 100000 in
def f_X6_decide (S : List fw_Sh) (M : fw_Mem) (a0 : Nat) (x1 : Int32) (x2 : Int32) : Option fw_Mem := gd (gO S 6 a0) (bm (fw_set M a0 7 x1) (fun M2 => gd (gB x2) (bm (fw_set M2 a0 8 x2) (fun M4 => bm (fw_set M4 a0 9 0) (fun M5 => bm (fw_set M5 a0 10 0) (fun M6 => bm (fw_set M6 a0 11 0) (fun M7 => bm (fw_set M7 a0 12 0) (fun M8 => some M8))))))))
set_option maxHeartbeats 4000000 in
set_option maxRecDepth 100000 in
theorem c_X6_decide {l : Launch} {G : fw_G} {S : List fw_Sh} {M : fw_Mem} {a0 : Nat} {x1 : Int32} {x2 : Int32} {r : fw_Mem} (hl : l.stackTraces = false) (h : f_X6_decide S M a0 x1 x2 = some r) : fw_M l G yX6_decide (.code yX6_decide cX6_decide 3 none) 1 (fw_mcO (.inl none, S, r)) (fw_msO (.inl none, S, r)) S M [.ref a0, .int x1, .int x2] (.inl none, S, r) := by
  refine fw_of [(0, .ref a0), (1, .int x1), (2, .int x2)] (by decide) (Nat.le_of_ble_eq_true rfl) rfl ?_
  intro p e s m args below meth c C hr hlk hnm ht _
  unfold f_X6_decide at h
  refine fw_aload_n C 0 dX6_decide_0 rfl rfl ?_
  refine fw_iload_n C 1 dX6_decide_1 rfl rfl ?_
  obtain ⟨g1, h⟩ := gd_some h
  refine fw_putI C 6 7 (Nat.le_of_ble_eq_true rfl) (Nat.le_of_ble_eq_true rfl) wf_X6_15 rfl rfl rfl rfl (gO_of g1) dX6_decide_2 ?_
  refine fw_bm h (fun M2 h => ?_)
  refine fw_aload_n C 0 dX6_decide_5 rfl rfl ?_
  refine fw_iload_n C 2 dX6_decide_6 rfl rfl ?_
  obtain ⟨g3, h⟩ := gd_some h
  refine fw_putI C 6 8 (Nat.le_of_ble_eq_true rfl) (Nat.le_of_ble_eq_true rfl) wf_X6_36 rfl rfl (gB_n g3) (gB_f g3) (gO_of g1) dX6_decide_7 ?_
  refine fw_bm h (fun M4 h => ?_)
  refine fw_aload_n C 0 dX6_decide_10 rfl rfl ?_
  refine fw_iconst C 0 dX6_decide_11 rfl ?_
  refine fw_putI C 6 9 (Nat.le_of_ble_eq_true rfl) (Nat.le_of_ble_eq_true rfl) wf_X6_40 rfl rfl rfl rfl (gO_of g1) dX6_decide_12 ?_
  refine fw_bm h (fun M5 h => ?_)
  refine fw_aload_n C 0 dX6_decide_15 rfl rfl ?_
  refine fw_iconst C 0 dX6_decide_16 rfl ?_
  refine fw_putI C 6 10 (Nat.le_of_ble_eq_true rfl) (Nat.le_of_ble_eq_true rfl) wf_X6_43 rfl rfl rfl rfl (gO_of g1) dX6_decide_17 ?_
  refine fw_bm h (fun M6 h => ?_)
  refine fw_aload_n C 0 dX6_decide_20 rfl rfl ?_
  refine fw_iconst C 0 dX6_decide_21 rfl ?_
  refine fw_putI C 6 11 (Nat.le_of_ble_eq_true rfl) (Nat.le_of_ble_eq_true rfl) wf_X6_46 rfl rfl rfl rfl (gO_of g1) dX6_decide_22 ?_
  refine fw_bm h (fun M7 h => ?_)
  refine fw_aload_n C 0 dX6_decide_25 rfl rfl ?_
  refine fw_iconst C 0 dX6_decide_26 rfl ?_
  refine fw_putI C 6 12 (Nat.le_of_ble_eq_true rfl) (Nat.le_of_ble_eq_true rfl) wf_X6_49 rfl rfl rfl rfl (gO_of g1) dX6_decide_27 ?_
  refine fw_bm h (fun M8 h => ?_)
  obtain rfl := Option.some.inj h
  exact fw_vret C hr hlk dX6_decide_30
set_option maxRecDepth 100000 in
def fj_X8_passNumber_69 (S : List fw_Sh) (M : fw_Mem) (a0 : Nat) : Option (Int32 × fw_Mem) := gd (gO S 8 a0) (gd (gN (M a0 0)) (gd (gO S 7 ((M a0 0).toNatClampNeg)) (if (M ((M a0 0).toNatClampNeg) 7) = 0 then (bm (M ((M a0 0).toNatClampNeg) 6) (fun y15 => b1 (f_X7_advance S M ((M a0 0).toNatClampNeg)) (fun M16 => some (y15, M16)))) else (some ((-1), M)))))
set_option maxHeartbeats 4000000 in
set_option maxRecDepth 100000 in
theorem jc_X8_passNumber_69 {G : fw_G} {p : Program} {l : Launch} {e : Env} {s : State} {m : MethodId} {args : Array Value} {below : List Frame} {meth : Method} {c : Code} {S : List fw_Sh} {M : fw_Mem} {a0 : Nat} {r : (Int32 × fw_Mem)} {o : fw_O} (C : fw_C G RX8 cX8_passNumber 4 p s m args c) (hr : meth.sig.returnType = (some .int)) (hlk : meth.locks = false) (hl : l.stackTraces = false) (ht : ∀ x ∈ c.exceptionTable.toList, False) (ho : o = (.inl (some (.int r.1)), S, r.2)) (h : fj_X8_passNumber_69 S M a0 = some r) :
    fw_W G p l e (fw_rm 4 (fw_mcO o) (fw_msO o)) s m args below meth c 4 (fw_Z G below args s (fw_mcO o) (fw_msO o) o) 0 0 69 [(0, .ref a0)] [] S M := by
  subst ho
  unfold fj_X8_passNumber_69 at h
  refine fw_aload_n C 0 dX8_passNumber_69 rfl rfl ?_
  obtain ⟨g11, h⟩ := gd_some h
  obtain ⟨g12, h⟩ := gd_some h
  refine fw_getR C 8 0 (Nat.le_of_ble_eq_true rfl) (Nat.le_of_ble_eq_true rfl) wf_X8_9 rfl (gO_of g11) (gN_of g12) dX8_passNumber_70 ?_
  obtain ⟨g13, h⟩ := gd_some h
  refine fw_getI C 7 7 (Nat.le_of_ble_eq_true rfl) (Nat.le_of_ble_eq_true rfl) wf_X8_30 rfl (gO_of g13) dX8_passNumber_73 ?_
  refine fw_if_eq C 81 dX8_passNumber_76 (by decide) (fun c14 => ?_) (fun c14 => ?_)
  · replace h := (if_pos c14).symm.trans h
    refine fw_aload_n C 0 dX8_passNumber_81 rfl rfl ?_
    refine fw_getR C 8 0 (Nat.le_of_ble_eq_true rfl) (Nat.le_of_ble_eq_true rfl) wf_X8_9 rfl (gO_of g11) (gN_of g12) dX8_passNumber_82 ?_
    refine fw_getI C 7 6 (Nat.le_of_ble_eq_true rfl) (Nat.le_of_ble_eq_true rfl) wf_X8_198 rfl (gO_of g13) dX8_passNumber_85 ?_
    refine fw_bi h (fun y15 h => ?_)
    refine fw_istore_n C [(3, _), (0, _)] dX8_passNumber_88 rfl (Nat.le_of_ble_eq_true rfl) rfl ?_
    refine fw_aload_n C 1 dX8_passNumber_89 rfl rfl ?_
    refine fw_getR C 8 0 (Nat.le_of_ble_eq_true rfl) (Nat.le_of_ble_eq_true rfl) wf_X8_9 rfl (gO_of g11) (gN_of g12) dX8_passNumber_90 ?_
    obtain ⟨M16, e16, h⟩ := b1_some h
    refine fw_callV (ci := 7) [] C (c_X7_advance hl e16) cal_X7_advance wm_X8_91 wi_yX7_advance wsl_yX7_advance (Nat.le_of_ble_eq_true rfl) rfl (gO_of g13) rfl (Nat.le_of_ble_eq_true rfl) ⟨Nat.le_of_ble_eq_true rfl, Nat.le_of_ble_eq_true rfl⟩ ⟨Nat.zero_le _, Nat.zero_le _⟩ dX8_passNumber_93 ?_
    refine fw_iload_n C 0 dX8_passNumber_96 rfl rfl ?_
    obtain rfl := Option.some.inj h
    exact fw_iret C hr hlk dX8_passNumber_97
  · replace h := (if_neg c14).symm.trans h
    refine fw_iconst C (-1) dX8_passNumber_79 rfl ?_
    obtain rfl := Option.some.inj h
    exact fw_iret C hr hlk dX8_passNumber_80
set_option maxRecDepth 100000 in
def fj_X8_passNumber_29 (S : List fw_Sh) (M : fw_Mem) (a0 : Nat) (x1 : Int32) (x2 : Int32) : Option (Int32 × fw_Mem) := gd (gO S 8 a0) (gd (gN (M a0 0)) (gd (gO S 7 ((M a0 0).toNatClampNeg)) (if (M ((M a0 0).toNatClampNeg) 7) = 0 then (if (M ((M a0 0).toNatClampNeg) 6) < x1 then (b1 (f_X7_fail S M ((M a0 0).toNatClampNeg) 2) (fun M43 => fj_X8_passNumber_69 S M43 a0)) else (if (M ((M a0 0).toNatClampNeg) 6) ≤ x2 then (if (M ((M a0 0).toNatClampNeg) 7) = 0 then (bm (M ((M a0 0).toNatClampNeg) 6) (fun y46 => b1 (f_X7_advance S M ((M a0 0).toNatClampNeg)) (fun M47 => some (y46, M47)))) else (some ((-1), M))) else (b1 (f_X7_fail S M ((M a0 0).toNatClampNeg) 2) (fun M48 => fj_X8_passNumber_69 S M48 a0)))) else (if (M ((M a0 0).toNatClampNeg) 7) = 0 then (bm (M ((M a0 0).toNatClampNeg) 6) (fun y40 => b1 (f_X7_advance S M ((M a0 0).toNatClampNeg)) (fun M41 => some (y40, M41)))) else (some ((-1), M))))))
set_option maxHeartbeats 4000000 in
set_option maxRecDepth 100000 in
theorem jc_X8_passNumber_29 {G : fw_G} {p : Program} {l : Launch} {e : Env} {s : State} {m : MethodId} {args : Array Value} {below : List Frame} {meth : Method} {c : Code} {S : List fw_Sh} {M : fw_Mem} {a0 : Nat} {x1 : Int32} {x2 : Int32} {r : (Int32 × fw_Mem)} {o : fw_O} (C : fw_C G RX8 cX8_passNumber 4 p s m args c) (hr : meth.sig.returnType = (some .int)) (hlk : meth.locks = false) (hl : l.stackTraces = false) (ht : ∀ x ∈ c.exceptionTable.toList, False) (ho : o = (.inl (some (.int r.1)), S, r.2)) (h : fj_X8_passNumber_29 S M a0 x1 x2 = some r) :
    fw_W G p l e (fw_rm 4 (fw_mcO o) (fw_msO o)) s m args below meth c 4 (fw_Z G below args s (fw_mcO o) (fw_msO o) o) 0 0 29 [(0, .ref a0), (1, .int x1), (2, .int x2)] [] S M := by
  subst ho
  unfold fj_X8_passNumber_29 at h
  refine fw_aload_n C 0 dX8_passNumber_29 rfl rfl ?_
  obtain ⟨g35, h⟩ := gd_some h
  obtain ⟨g36, h⟩ := gd_some h
  refine fw_getR C 8 0 (Nat.le_of_ble_eq_true rfl) (Nat.le_of_ble_eq_true rfl) wf_X8_9 rfl (gO_of g35) (gN_of g36) dX8_passNumber_30 ?_
  obtain ⟨g37, h⟩ := gd_some h
  refine fw_getI C 7 7 (Nat.le_of_ble_eq_true rfl) (Nat.le_of_ble_eq_true rfl) wf_X8_30 rfl (gO_of g37) dX8_passNumber_33 ?_
  refine fw_if_ne C 69 dX8_passNumber_36 (by decide) (fun c38 => ?_) (fun c38 => ?_)
  · replace h := (if_neg c38).symm.trans h
    refine fw_aload_n C 0 dX8_passNumber_69 rfl rfl ?_
    refine fw_getR C 8 0 (Nat.le_of_ble_eq_true rfl) (Nat.le_of_ble_eq_true rfl) wf_X8_9 rfl (gO_of g35) (gN_of g36) dX8_passNumber_70 ?_
    refine fw_getI C 7 7 (Nat.le_of_ble_eq_true rfl) (Nat.le_of_ble_eq_true rfl) wf_X8_30 rfl (gO_of g37) dX8_passNumber_73 ?_
    refine fw_if_eq C 81 dX8_passNumber_76 (by decide) (fun c39 => ?_) (fun c39 => ?_)
    · replace h := (if_pos c39).symm.trans h
      refine fw_aload_n C 0 dX8_passNumber_81 rfl rfl ?_
      refine fw_getR C 8 0 (Nat.le_of_ble_eq_true rfl) (Nat.le_of_ble_eq_true rfl) wf_X8_9 rfl (gO_of g35) (gN_of g36) dX8_passNumber_82 ?_
      refine fw_getI C 7 6 (Nat.le_of_ble_eq_true rfl) (Nat.le_of_ble_eq_true rfl) wf_X8_198 rfl (gO_of g37) dX8_passNumber_85 ?_
      refine fw_bi h (fun y40 h => ?_)
      refine fw_istore_n C [(3, _), (0, _), (1, _), (2, _)] dX8_passNumber_88 rfl (Nat.le_of_ble_eq_true rfl) rfl ?_
      refine fw_aload_n C 1 dX8_passNumber_89 rfl rfl ?_
      refine fw_getR C 8 0 (Nat.le_of_ble_eq_true rfl) (Nat.le_of_ble_eq_true rfl) wf_X8_9 rfl (gO_of g35) (gN_of g36) dX8_passNumber_90 ?_
      obtain ⟨M41, e41, h⟩ := b1_some h
      refine fw_callV (ci := 7) [] C (c_X7_advance hl e41) cal_X7_advance wm_X8_91 wi_yX7_advance wsl_yX7_advance (Nat.le_of_ble_eq_true rfl) rfl (gO_of g37) rfl (Nat.le_of_ble_eq_true rfl) ⟨Nat.le_of_ble_eq_true rfl, Nat.le_of_ble_eq_true rfl⟩ ⟨Nat.zero_le _, Nat.zero_le _⟩ dX8_passNumber_93 ?_
      refine fw_iload_n C 0 dX8_passNumber_96 rfl rfl ?_
      obtain rfl := Option.some.inj h
      exact fw_iret C hr hlk dX8_passNumber_97
    · replace h := (if_neg c39).symm.trans h
      refine fw_iconst C (-1) dX8_passNumber_79 rfl ?_
      obtain rfl := Option.some.inj h
      exact fw_iret C hr hlk dX8_passNumber_80
  · replace h := (if_pos c38).symm.trans h
    refine fw_aload_n C 0 dX8_passNumber_39 rfl rfl ?_
    refine fw_getR C 8 0 (Nat.le_of_ble_eq_true rfl) (Nat.le_of_ble_eq_true rfl) wf_X8_9 rfl (gO_of g35) (gN_of g36) dX8_passNumber_40 ?_
    refine fw_getI C 7 6 (Nat.le_of_ble_eq_true rfl) (Nat.le_of_ble_eq_true rfl) wf_X8_198 rfl (gO_of g37) dX8_passNumber_43 ?_
    refine fw_iload_n C 1 dX8_passNumber_46 rfl rfl ?_
    refine fw_icmp_lt C 61 dX8_passNumber_47 (by decide) (fun c42 => ?_) (fun c42 => ?_)
    · replace h := (if_pos c42).symm.trans h
      refine fw_aload_n C 0 dX8_passNumber_61 rfl rfl ?_
      refine fw_getR C 8 0 (Nat.le_of_ble_eq_true rfl) (Nat.le_of_ble_eq_true rfl) wf_X8_9 rfl (gO_of g35) (gN_of g36) dX8_passNumber_62 ?_
      refine fw_iconst C 2 dX8_passNumber_65 rfl ?_
      obtain ⟨M43, e43, h⟩ := b1_some h
      refine fw_callV (ci := 7) [_] C (c_X7_fail hl e43) cal_X7_fail wm_X8_85 wi_yX7_fail wsl_yX7_fail (Nat.le_of_ble_eq_true rfl) rfl (gO_of g37) rfl (Nat.le_of_ble_eq_true rfl) ⟨Nat.le_of_ble_eq_true rfl, Nat.le_of_ble_eq_true rfl⟩ ⟨Nat.zero_le _, Nat.zero_le _⟩ dX8_passNumber_66 ?_
      refine fw_sub [0] rfl ?_
      exact jc_X8_passNumber_69 C hr hlk hl ht rfl h
    · replace h := (if_neg c42).symm.trans h
      refine fw_aload_n C 0 dX8_passNumber_50 rfl rfl ?_
      refine fw_getR C 8 0 (Nat.le_of_ble_eq_true rfl) (Nat.le_of_ble_eq_true rfl) wf_X8_9 rfl (gO_of g35) (gN_of g36) dX8_passNumber_51 ?_
      refine fw_getI C 7 6 (Nat.le_of_ble_eq_true rfl) (Nat.le_of_ble_eq_true rfl) wf_X8_198 rfl (gO_of g37) dX8_passNumber_54 ?_
      refine fw_iload_n C 2 dX8_passNumber_57 rfl rfl ?_
      refine fw_icmp_le C 69 dX8_passNumber_58 (by decide) (fun c44 => ?_) (fun c44 => ?_)
      · replace h := (if_pos c44).symm.trans h
        refine fw_aload_n C 0 dX8_passNumber_69 rfl rfl ?_
        refine fw_getR C 8 0 (Nat.le_of_ble_eq_true rfl) (Nat.le_of_ble_eq_true rfl) wf_X8_9 rfl (gO_of g35) (gN_of g36) dX8_passNumber_70 ?_
        refine fw_getI C 7 7 (Nat.le_of_ble_eq_true rfl) (Nat.le_of_ble_eq_true rfl) wf_X8_30 rfl (gO_of g37) dX8_passNumber_73 ?_
        refine fw_if_eq C 81 dX8_passNumber_76 (by decide) (fun c45 => ?_) (fun c45 => ?_)
        · replace h := (if_pos c45).symm.trans h
          refine fw_aload_n C 0 dX8_passNumber_81 rfl rfl ?_
          refine fw_getR C 8 0 (Nat.le_of_ble_eq_true rfl) (Nat.le_of_ble_eq_true rfl) wf_X8_9 rfl (gO_of g35) (gN_of g36) dX8_passNumber_82 ?_
          refine fw_getI C 7 6 (Nat.le_of_ble_eq_true rfl) (Nat.le_of_ble_eq_true rfl) wf_X8_198 rfl (gO_of g37) dX8_passNumber_85 ?_
          refine fw_bi h (fun y46 h => ?_)
          refine fw_istore_n C [(3, _), (0, _), (1, _), (2, _)] dX8_passNumber_88 rfl (Nat.le_of_ble_eq_true rfl) rfl ?_
          refine fw_aload_n C 1 dX8_passNumber_89 rfl rfl ?_
          refine fw_getR C 8 0 (Nat.le_of_ble_eq_true rfl) (Nat.le_of_ble_eq_true rfl) wf_X8_9 rfl (gO_of g35) (gN_of g36) dX8_passNumber_90 ?_
          obtain ⟨M47, e47, h⟩ := b1_some h
          refine fw_callV (ci := 7) [] C (c_X7_advance hl e47) cal_X7_advance wm_X8_91 wi_yX7_advance wsl_yX7_advance (Nat.le_of_ble_eq_true rfl) rfl (gO_of g37) rfl (Nat.le_of_ble_eq_true rfl) ⟨Nat.le_of_ble_eq_true rfl, Nat.le_of_ble_eq_true rfl⟩ ⟨Nat.zero_le _, Nat.zero_le _⟩ dX8_passNumber_93 ?_
          refine fw_iload_n C 0 dX8_passNumber_96 rfl rfl ?_
          obtain rfl := Option.some.inj h
          exact fw_iret C hr hlk dX8_passNumber_97
        · replace h := (if_neg c45).symm.trans h
          refine fw_iconst C (-1) dX8_passNumber_79 rfl ?_
          obtain rfl := Option.some.inj h
          exact fw_iret C hr hlk dX8_passNumber_80
      · replace h := (if_neg c44).symm.trans h
        refine fw_aload_n C 0 dX8_passNumber_61 rfl rfl ?_
        refine fw_getR C 8 0 (Nat.le_of_ble_eq_true rfl) (Nat.le_of_ble_eq_true rfl) wf_X8_9 rfl (gO_of g35) (gN_of g36) dX8_passNumber_62 ?_
        refine fw_iconst C 2 dX8_passNumber_65 rfl ?_
        obtain ⟨M48, e48, h⟩ := b1_some h
        refine fw_callV (ci := 7) [_] C (c_X7_fail hl e48) cal_X7_fail wm_X8_85 wi_yX7_fail wsl_yX7_fail (Nat.le_of_ble_eq_true rfl) rfl (gO_of g37) rfl (Nat.le_of_ble_eq_true rfl) ⟨Nat.le_of_ble_eq_true rfl, Nat.le_of_ble_eq_true rfl⟩ ⟨Nat.zero_le _, Nat.zero_le _⟩ dX8_passNumber_66 ?_
        refine fw_sub [0] rfl ?_
        exact jc_X8_passNumber_69 C hr hlk hl ht rfl h
set_option maxRecDepth 100000 in
def f_X8_passNumber (S : List fw_Sh) (M : fw_Mem) (a0 : Nat) (x1 : Int32) (x2 : Int32) : Option (Int32 × fw_Mem) := gd (gO S 8 a0) (gd (gN (M a0 0)) (gd (gO S 7 ((M a0 0).toNatClampNeg)) (if (M ((M a0 0).toNatClampNeg) 7) = 0 then (if (M ((M a0 0).toNatClampNeg) 3) = 3 then (if (M ((M a0 0).toNatClampNeg) 7) = 0 then (if (M ((M a0 0).toNatClampNeg) 6) < x1 then (b1 (f_X7_fail S M ((M a0 0).toNatClampNeg) 2) (fun M28 => fj_X8_passNumber_69 S M28 a0)) else (if (M ((M a0 0).toNatClampNeg) 6) ≤ x2 then (if (M ((M a0 0).toNatClampNeg) 7) = 0 then (bm (M ((M a0 0).toNatClampNeg) 6) (fun y31 => b1 (f_X7_advance S M ((M a0 0).toNatClampNeg)) (fun M32 => some (y31, M32)))) else (some ((-1), M))) else (b1 (f_X7_fail S M ((M a0 0).toNatClampNeg) 2) (fun M33 => fj_X8_passNumber_69 S M33 a0)))) else (if (M ((M a0 0).toNatClampNeg) 7) = 0 then (bm (M ((M a0 0).toNatClampNeg) 6) (fun y25 => b1 (f_X7_advance S M ((M a0 0).toNatClampNeg)) (fun M26 => some (y25, M26)))) else (some ((-1), M)))) else (b1 (f_X7_fail S M ((M a0 0).toNatClampNeg) 1) (fun M34 => fj_X8_passNumber_29 S M34 a0 x1 x2))) else (if (M ((M a0 0).toNatClampNeg) 7) = 0 then (if (M ((M a0 0).toNatClampNeg) 6) < x1 then (b1 (f_X7_fail S M ((M a0 0).toNatClampNeg) 2) (fun M10 => fj_X8_passNumber_69 S M10 a0)) else (if (M ((M a0 0).toNatClampNeg) 6) ≤ x2 then (if (M ((M a0 0).toNatClampNeg) 7) = 0 then (bm (M ((M a0 0).toNatClampNeg) 6) (fun y19 => b1 (f_X7_advance S M ((M a0 0).toNatClampNeg)) (fun M20 => some (y19, M20)))) else (some ((-1), M))) else (b1 (f_X7_fail S M ((M a0 0).toNatClampNeg) 2) (fun M21 => fj_X8_passNumber_69 S M21 a0)))) else (if (M ((M a0 0).toNatClampNeg) 7) = 0 then (bm (M ((M a0 0).toNatClampNeg) 6) (fun y7 => b1 (f_X7_advance S M ((M a0 0).toNatClampNeg)) (fun M8 => some (y7, M8)))) else (some ((-1), M)))))))
set_option maxHeartbeats 4000000 in
set_option maxRecDepth 100000 in
theorem c_X8_passNumber {l : Launch} {G : fw_G} {S : List fw_Sh} {M : fw_Mem} {a0 : Nat} {x1 : Int32} {x2 : Int32} {r : (Int32 × fw_Mem)} (hl : l.stackTraces = false) (h : f_X8_passNumber S M a0 x1 x2 = some r) : fw_M l G yX8_passNumber (.code yX8_passNumber cX8_passNumber 4 (some .int)) 4 (fw_mcO (.inl (some (.int r.1)), S, r.2)) (fw_msO (.inl (some (.int r.1)), S, r.2)) S M [.ref a0, .int x1, .int x2] (.inl (some (.int r.1)), S, r.2) := by
  refine fw_of [(0, .ref a0), (1, .int x1), (2, .int x2)] (by decide) (Nat.le_of_ble_eq_true rfl) rfl ?_
  intro p e s m args below meth c C hr hlk hnm ht _
  unfold f_X8_passNumber at h
  refine fw_aload_n C 0 dX8_passNumber_0 rfl rfl ?_
  obtain ⟨g1, h⟩ := gd_some h
  obtain ⟨g2, h⟩ := gd_some h
  refine fw_getR C 8 0 (Nat.le_of_ble_eq_true rfl) (Nat.le_of_ble_eq_true rfl) wf_X8_9 rfl (gO_of g1) (gN_of g2) dX8_passNumber_1 ?_
  obtain ⟨g3, h⟩ := gd_some h
  refine fw_getI C 7 7 (Nat.le_of_ble_eq_true rfl) (Nat.le_of_ble_eq_true rfl) wf_X8_30 rfl (gO_of g3) dX8_passNumber_4 ?_
  refine fw_if_ne C 29 dX8_passNumber_7 (by decide) (fun c4 => ?_) (fun c4 => ?_)
  · replace h := (if_neg c4).symm.trans h
    refine fw_aload_n C 0 dX8_passNumber_29 rfl rfl ?_
    refine fw_getR C 8 0 (Nat.le_of_ble_eq_true rfl) (Nat.le_of_ble_eq_true rfl) wf_X8_9 rfl (gO_of g1) (gN_of g2) dX8_passNumber_30 ?_
    refine fw_getI C 7 7 (Nat.le_of_ble_eq_true rfl) (Nat.le_of_ble_eq_true rfl) wf_X8_30 rfl (gO_of g3) dX8_passNumber_33 ?_
    refine fw_if_ne C 69 dX8_passNumber_36 (by decide) (fun c5 => ?_) (fun c5 => ?_)
    · replace h := (if_neg c5).symm.trans h
      refine fw_aload_n C 0 dX8_passNumber_69 rfl rfl ?_
      refine fw_getR C 8 0 (Nat.le_of_ble_eq_true rfl) (Nat.le_of_ble_eq_true rfl) wf_X8_9 rfl (gO_of g1) (gN_of g2) dX8_passNumber_70 ?_
      refine fw_getI C 7 7 (Nat.le_of_ble_eq_true rfl) (Nat.le_of_ble_eq_true rfl) wf_X8_30 rfl (gO_of g3) dX8_passNumber_73 ?_
      refine fw_if_eq C 81 dX8_passNumber_76 (by decide) (fun c6 => ?_) (fun c6 => ?_)
      · replace h := (if_pos c6).symm.trans h
        refine fw_aload_n C 0 dX8_passNumber_81 rfl rfl ?_
        refine fw_getR C 8 0 (Nat.le_of_ble_eq_true rfl) (Nat.le_of_ble_eq_true rfl) wf_X8_9 rfl (gO_of g1) (gN_of g2) dX8_passNumber_82 ?_
        refine fw_getI C 7 6 (Nat.le_of_ble_eq_true rfl) (Nat.le_of_ble_eq_true rfl) wf_X8_198 rfl (gO_of g3) dX8_passNumber_85 ?_
        refine fw_bi h (fun y7 h => ?_)
        refine fw_istore_n C [(3, _), (0, _), (1, _), (2, _)] dX8_passNumber_88 rfl (Nat.le_of_ble_eq_true rfl) rfl ?_
        refine fw_aload_n C 1 dX8_passNumber_89 rfl rfl ?_
        refine fw_getR C 8 0 (Nat.le_of_ble_eq_true rfl) (Nat.le_of_ble_eq_true rfl) wf_X8_9 rfl (gO_of g1) (gN_of g2) dX8_passNumber_90 ?_
        obtain ⟨M8, e8, h⟩ := b1_some h
        refine fw_callV (ci := 7) [] C (c_X7_advance hl e8) cal_X7_advance wm_X8_91 wi_yX7_advance wsl_yX7_advance (Nat.le_of_ble_eq_true rfl) rfl (gO_of g3) rfl (Nat.le_of_ble_eq_true rfl) ⟨Nat.le_of_ble_eq_true rfl, Nat.le_of_ble_eq_true rfl⟩ ⟨Nat.zero_le _, Nat.zero_le _⟩ dX8_passNumber_93 ?_
        refine fw_iload_n C 0 dX8_passNumber_96 rfl rfl ?_
        obtain rfl := Option.some.inj h
        exact fw_iret C hr hlk dX8_passNumber_97
      · replace h := (if_neg c6).symm.trans h
        refine fw_iconst C (-1) dX8_passNumber_79 rfl ?_
        obtain rfl := Option.some.inj h
        exact fw_iret C hr hlk dX8_passNumber_80
    · replace h := (if_pos c5).symm.trans h
      refine fw_aload_n C 0 dX8_passNumber_39 rfl rfl ?_
      refine fw_getR C 8 0 (Nat.le_of_ble_eq_true rfl) (Nat.le_of_ble_eq_true rfl) wf_X8_9 rfl (gO_of g1) (gN_of g2) dX8_passNumber_40 ?_
      refine fw_getI C 7 6 (Nat.le_of_ble_eq_true rfl) (Nat.le_of_ble_eq_true rfl) wf_X8_198 rfl (gO_of g3) dX8_passNumber_43 ?_
      refine fw_iload_n C 1 dX8_passNumber_46 rfl rfl ?_
      refine fw_icmp_lt C 61 dX8_passNumber_47 (by decide) (fun c9 => ?_) (fun c9 => ?_)
      · replace h := (if_pos c9).symm.trans h
        refine fw_aload_n C 0 dX8_passNumber_61 rfl rfl ?_
        refine fw_getR C 8 0 (Nat.le_of_ble_eq_true rfl) (Nat.le_of_ble_eq_true rfl) wf_X8_9 rfl (gO_of g1) (gN_of g2) dX8_passNumber_62 ?_
        refine fw_iconst C 2 dX8_passNumber_65 rfl ?_
        obtain ⟨M10, e10, h⟩ := b1_some h
        refine fw_callV (ci := 7) [_] C (c_X7_fail hl e10) cal_X7_fail wm_X8_85 wi_yX7_fail wsl_yX7_fail (Nat.le_of_ble_eq_true rfl) rfl (gO_of g3) rfl (Nat.le_of_ble_eq_true rfl) ⟨Nat.le_of_ble_eq_true rfl, Nat.le_of_ble_eq_true rfl⟩ ⟨Nat.zero_le _, Nat.zero_le _⟩ dX8_passNumber_66 ?_
        refine fw_sub [0] rfl ?_
        exact jc_X8_passNumber_69 C hr hlk hl ht rfl h
      · replace h := (if_neg c9).symm.trans h
        refine fw_aload_n C 0 dX8_passNumber_50 rfl rfl ?_
        refine fw_getR C 8 0 (Nat.le_of_ble_eq_true rfl) (Nat.le_of_ble_eq_true rfl) wf_X8_9 rfl (gO_of g1) (gN_of g2) dX8_passNumber_51 ?_
        refine fw_getI C 7 6 (Nat.le_of_ble_eq_true rfl) (Nat.le_of_ble_eq_true rfl) wf_X8_198 rfl (gO_of g3) dX8_passNumber_54 ?_
        refine fw_iload_n C 2 dX8_passNumber_57 rfl rfl ?_
        refine fw_icmp_le C 69 dX8_passNumber_58 (by decide) (fun c17 => ?_) (fun c17 => ?_)
        · replace h := (if_pos c17).symm.trans h
          refine fw_aload_n C 0 dX8_passNumber_69 rfl rfl ?_
          refine fw_getR C 8 0 (Nat.le_of_ble_eq_true rfl) (Nat.le_of_ble_eq_true rfl) wf_X8_9 rfl (gO_of g1) (gN_of g2) dX8_passNumber_70 ?_
          refine fw_getI C 7 7 (Nat.le_of_ble_eq_true rfl) (Nat.le_of_ble_eq_true rfl) wf_X8_30 rfl (gO_of g3) dX8_passNumber_73 ?_
          refine fw_if_eq C 81 dX8_passNumber_76 (by decide) (fun c18 => ?_) (fun c18 => ?_)
          · replace h := (if_pos c18).symm.trans h
            refine fw_aload_n C 0 dX8_passNumber_81 rfl rfl ?_
            refine fw_getR C 8 0 (Nat.le_of_ble_eq_true rfl) (Nat.le_of_ble_eq_true rfl) wf_X8_9 rfl (gO_of g1) (gN_of g2) dX8_passNumber_82 ?_
            refine fw_getI C 7 6 (Nat.le_of_ble_eq_true rfl) (Nat.le_of_ble_eq_true rfl) wf_X8_198 rfl (gO_of g3) dX8_passNumber_85 ?_
            refine fw_bi h (fun y19 h => ?_)
            refine fw_istore_n C [(3, _), (0, _), (1, _), (2, _)] dX8_passNumber_88 rfl (Nat.le_of_ble_eq_true rfl) rfl ?_
            refine fw_aload_n C 1 dX8_passNumber_89 rfl rfl ?_
            refine fw_getR C 8 0 (Nat.le_of_ble_eq_true rfl) (Nat.le_of_ble_eq_true rfl) wf_X8_9 rfl (gO_of g1) (gN_of g2) dX8_passNumber_90 ?_
            obtain ⟨M20, e20, h⟩ := b1_some h
            refine fw_callV (ci := 7) [] C (c_X7_advance hl e20) cal_X7_advance wm_X8_91 wi_yX7_advance wsl_yX7_advance (Nat.le_of_ble_eq_true rfl) rfl (gO_of g3) rfl (Nat.le_of_ble_eq_true rfl) ⟨Nat.le_of_ble_eq_true rfl, Nat.le_of_ble_eq_true rfl⟩ ⟨Nat.zero_le _, Nat.zero_le _⟩ dX8_passNumber_93 ?_
            refine fw_iload_n C 0 dX8_passNumber_96 rfl rfl ?_
            obtain rfl := Option.some.inj h
            exact fw_iret C hr hlk dX8_passNumber_97
          · replace h := (if_neg c18).symm.trans h
            refine fw_iconst C (-1) dX8_passNumber_79 rfl ?_
            obtain rfl := Option.some.inj h
            exact fw_iret C hr hlk dX8_passNumber_80
        · replace h := (if_neg c17).symm.trans h
          refine fw_aload_n C 0 dX8_passNumber_61 rfl rfl ?_
          refine fw_getR C 8 0 (Nat.le_of_ble_eq_true rfl) (Nat.le_of_ble_eq_true rfl) wf_X8_9 rfl (gO_of g1) (gN_of g2) dX8_passNumber_62 ?_
          refine fw_iconst C 2 dX8_passNumber_65 rfl ?_
          obtain ⟨M21, e21, h⟩ := b1_some h
          refine fw_callV (ci := 7) [_] C (c_X7_fail hl e21) cal_X7_fail wm_X8_85 wi_yX7_fail wsl_yX7_fail (Nat.le_of_ble_eq_true rfl) rfl (gO_of g3) rfl (Nat.le_of_ble_eq_true rfl) ⟨Nat.le_of_ble_eq_true rfl, Nat.le_of_ble_eq_true rfl⟩ ⟨Nat.zero_le _, Nat.zero_le _⟩ dX8_passNumber_66 ?_
          refine fw_sub [0] rfl ?_
          exact jc_X8_passNumber_69 C hr hlk hl ht rfl h
  · replace h := (if_pos c4).symm.trans h
    refine fw_aload_n C 0 dX8_passNumber_10 rfl rfl ?_
    refine fw_getR C 8 0 (Nat.le_of_ble_eq_true rfl) (Nat.le_of_ble_eq_true rfl) wf_X8_9 rfl (gO_of g1) (gN_of g2) dX8_passNumber_11 ?_
    refine fw_getI C 7 3 (Nat.le_of_ble_eq_true rfl) (Nat.le_of_ble_eq_true rfl) wf_X8_34 rfl (gO_of g3) dX8_passNumber_14 ?_
    refine fw_iconst C 3 dX8_passNumber_17 rfl ?_
    refine fw_icmp_eq C 29 dX8_passNumber_18 (by decide) (fun c22 => ?_) (fun c22 => ?_)
    · replace h := (if_pos c22).symm.trans h
      refine fw_aload_n C 0 dX8_passNumber_29 rfl rfl ?_
      refine fw_getR C 8 0 (Nat.le_of_ble_eq_true rfl) (Nat.le_of_ble_eq_true rfl) wf_X8_9 rfl (gO_of g1) (gN_of g2) dX8_passNumber_30 ?_
      refine fw_getI C 7 7 (Nat.le_of_ble_eq_true rfl) (Nat.le_of_ble_eq_true rfl) wf_X8_30 rfl (gO_of g3) dX8_passNumber_33 ?_
      refine fw_if_ne C 69 dX8_passNumber_36 (by decide) (fun c23 => ?_) (fun c23 => ?_)
      · replace h := (if_neg c23).symm.trans h
        refine fw_aload_n C 0 dX8_passNumber_69 rfl rfl ?_
        refine fw_getR C 8 0 (Nat.le_of_ble_eq_true rfl) (Nat.le_of_ble_eq_true rfl) wf_X8_9 rfl (gO_of g1) (gN_of g2) dX8_passNumber_70 ?_
        refine fw_getI C 7 7 (Nat.le_of_ble_eq_true rfl) (Nat.le_of_ble_eq_true rfl) wf_X8_30 rfl (gO_of g3) dX8_passNumber_73 ?_
        refine fw_if_eq C 81 dX8_passNumber_76 (by decide) (fun c24 => ?_) (fun c24 => ?_)
        · replace h := (if_pos c24).symm.trans h
          refine fw_aload_n C 0 dX8_passNumber_81 rfl rfl ?_
          refine fw_getR C 8 0 (Nat.le_of_ble_eq_true rfl) (Nat.le_of_ble_eq_true rfl) wf_X8_9 rfl (gO_of g1) (gN_of g2) dX8_passNumber_82 ?_
          refine fw_getI C 7 6 (Nat.le_of_ble_eq_true rfl) (Nat.le_of_ble_eq_true rfl) wf_X8_198 rfl (gO_of g3) dX8_passNumber_85 ?_
          refine fw_bi h (fun y25 h => ?_)
          refine fw_istore_n C [(3, _), (0, _), (1, _), (2, _)] dX8_passNumber_88 rfl (Nat.le_of_ble_eq_true rfl) rfl ?_
          refine fw_aload_n C 1 dX8_passNumber_89 rfl rfl ?_
          refine fw_getR C 8 0 (Nat.le_of_ble_eq_true rfl) (Nat.le_of_ble_eq_true rfl) wf_X8_9 rfl (gO_of g1) (gN_of g2) dX8_passNumber_90 ?_
          obtain ⟨M26, e26, h⟩ := b1_some h
          refine fw_callV (ci := 7) [] C (c_X7_advance hl e26) cal_X7_advance wm_X8_91 wi_yX7_advance wsl_yX7_advance (Nat.le_of_ble_eq_true rfl) rfl (gO_of g3) rfl (Nat.le_of_ble_eq_true rfl) ⟨Nat.le_of_ble_eq_true rfl, Nat.le_of_ble_eq_true rfl⟩ ⟨Nat.zero_le _, Nat.zero_le _⟩ dX8_passNumber_93 ?_
          refine fw_iload_n C 0 dX8_passNumber_96 rfl rfl ?_
          obtain rfl := Option.some.inj h
          exact fw_iret C hr hlk dX8_passNumber_97
        · replace h := (if_neg c24).symm.trans h
          refine fw_iconst C (-1) dX8_passNumber_79 rfl ?_
          obtain rfl := Option.some.inj h
          exact fw_iret C hr hlk dX8_passNumber_80
      · replace h := (if_pos c23).symm.trans h
        refine fw_aload_n C 0 dX8_passNumber_39 rfl rfl ?_
        refine fw_getR C 8 0 (Nat.le_of_ble_eq_true rfl) (Nat.le_of_ble_eq_true rfl) wf_X8_9 rfl (gO_of g1) (gN_of g2) dX8_passNumber_40 ?_
        refine fw_getI C 7 6 (Nat.le_of_ble_eq_true rfl) (Nat.le_of_ble_eq_true rfl) wf_X8_198 rfl (gO_of g3) dX8_passNumber_43 ?_
        refine fw_iload_n C 1 dX8_passNumber_46 rfl rfl ?_
        refine fw_icmp_lt C 61 dX8_passNumber_47 (by decide) (fun c27 => ?_) (fun c27 => ?_)
        · replace h := (if_pos c27).symm.trans h
          refine fw_aload_n C 0 dX8_passNumber_61 rfl rfl ?_
          refine fw_getR C 8 0 (Nat.le_of_ble_eq_true rfl) (Nat.le_of_ble_eq_true rfl) wf_X8_9 rfl (gO_of g1) (gN_of g2) dX8_passNumber_62 ?_
          refine fw_iconst C 2 dX8_passNumber_65 rfl ?_
          obtain ⟨M28, e28, h⟩ := b1_some h
          refine fw_callV (ci := 7) [_] C (c_X7_fail hl e28) cal_X7_fail wm_X8_85 wi_yX7_fail wsl_yX7_fail (Nat.le_of_ble_eq_true rfl) rfl (gO_of g3) rfl (Nat.le_of_ble_eq_true rfl) ⟨Nat.le_of_ble_eq_true rfl, Nat.le_of_ble_eq_true rfl⟩ ⟨Nat.zero_le _, Nat.zero_le _⟩ dX8_passNumber_66 ?_
          refine fw_sub [0] rfl ?_
          exact jc_X8_passNumber_69 C hr hlk hl ht rfl h
        · replace h := (if_neg c27).symm.trans h
          refine fw_aload_n C 0 dX8_passNumber_50 rfl rfl ?_
          refine fw_getR C 8 0 (Nat.le_of_ble_eq_true rfl) (Nat.le_of_ble_eq_true rfl) wf_X8_9 rfl (gO_of g1) (gN_of g2) dX8_passNumber_51 ?_
          refine fw_getI C 7 6 (Nat.le_of_ble_eq_true rfl) (Nat.le_of_ble_eq_true rfl) wf_X8_198 rfl (gO_of g3) dX8_passNumber_54 ?_
          refine fw_iload_n C 2 dX8_passNumber_57 rfl rfl ?_
          refine fw_icmp_le C 69 dX8_passNumber_58 (by decide) (fun c29 => ?_) (fun c29 => ?_)
          · replace h := (if_pos c29).symm.trans h
            refine fw_aload_n C 0 dX8_passNumber_69 rfl rfl ?_
            refine fw_getR C 8 0 (Nat.le_of_ble_eq_true rfl) (Nat.le_of_ble_eq_true rfl) wf_X8_9 rfl (gO_of g1) (gN_of g2) dX8_passNumber_70 ?_
            refine fw_getI C 7 7 (Nat.le_of_ble_eq_true rfl) (Nat.le_of_ble_eq_true rfl) wf_X8_30 rfl (gO_of g3) dX8_passNumber_73 ?_
            refine fw_if_eq C 81 dX8_passNumber_76 (by decide) (fun c30 => ?_) (fun c30 => ?_)
            · replace h := (if_pos c30).symm.trans h
              refine fw_aload_n C 0 dX8_passNumber_81 rfl rfl ?_
              refine fw_getR C 8 0 (Nat.le_of_ble_eq_true rfl) (Nat.le_of_ble_eq_true rfl) wf_X8_9 rfl (gO_of g1) (gN_of g2) dX8_passNumber_82 ?_
              refine fw_getI C 7 6 (Nat.le_of_ble_eq_true rfl) (Nat.le_of_ble_eq_true rfl) wf_X8_198 rfl (gO_of g3) dX8_passNumber_85 ?_
              refine fw_bi h (fun y31 h => ?_)
              refine fw_istore_n C [(3, _), (0, _), (1, _), (2, _)] dX8_passNumber_88 rfl (Nat.le_of_ble_eq_true rfl) rfl ?_
              refine fw_aload_n C 1 dX8_passNumber_89 rfl rfl ?_
              refine fw_getR C 8 0 (Nat.le_of_ble_eq_true rfl) (Nat.le_of_ble_eq_true rfl) wf_X8_9 rfl (gO_of g1) (gN_of g2) dX8_passNumber_90 ?_
              obtain ⟨M32, e32, h⟩ := b1_some h
              refine fw_callV (ci := 7) [] C (c_X7_advance hl e32) cal_X7_advance wm_X8_91 wi_yX7_advance wsl_yX7_advance (Nat.le_of_ble_eq_true rfl) rfl (gO_of g3) rfl (Nat.le_of_ble_eq_true rfl) ⟨Nat.le_of_ble_eq_true rfl, Nat.le_of_ble_eq_true rfl⟩ ⟨Nat.zero_le _, Nat.zero_le _⟩ dX8_passNumber_93 ?_
              refine fw_iload_n C 0 dX8_passNumber_96 rfl rfl ?_
              obtain rfl := Option.some.inj h
              exact fw_iret C hr hlk dX8_passNumber_97
            · replace h := (if_neg c30).symm.trans h
              refine fw_iconst C (-1) dX8_passNumber_79 rfl ?_
              obtain rfl := Option.some.inj h
              exact fw_iret C hr hlk dX8_passNumber_80
          · replace h := (if_neg c29).symm.trans h
            refine fw_aload_n C 0 dX8_passNumber_61 rfl rfl ?_
            refine fw_getR C 8 0 (Nat.le_of_ble_eq_true rfl) (Nat.le_of_ble_eq_true rfl) wf_X8_9 rfl (gO_of g1) (gN_of g2) dX8_passNumber_62 ?_
            refine fw_iconst C 2 dX8_passNumber_65 rfl ?_
            obtain ⟨M33, e33, h⟩ := b1_some h
            refine fw_callV (ci := 7) [_] C (c_X7_fail hl e33) cal_X7_fail wm_X8_85 wi_yX7_fail wsl_yX7_fail (Nat.le_of_ble_eq_true rfl) rfl (gO_of g3) rfl (Nat.le_of_ble_eq_true rfl) ⟨Nat.le_of_ble_eq_true rfl, Nat.le_of_ble_eq_true rfl⟩ ⟨Nat.zero_le _, Nat.zero_le _⟩ dX8_passNumber_66 ?_
            refine fw_sub [0] rfl ?_
            exact jc_X8_passNumber_69 C hr hlk hl ht rfl h
    · replace h := (if_neg c22).symm.trans h
      refine fw_aload_n C 0 dX8_passNumber_21 rfl rfl ?_
      refine fw_getR C 8 0 (Nat.le_of_ble_eq_true rfl) (Nat.le_of_ble_eq_true rfl) wf_X8_9 rfl (gO_of g1) (gN_of g2) dX8_passNumber_22 ?_
      refine fw_iconst C 1 dX8_passNumber_25 rfl ?_
      obtain ⟨M34, e34, h⟩ := b1_some h
      refine fw_callV (ci := 7) [_] C (c_X7_fail hl e34) cal_X7_fail wm_X8_85 wi_yX7_fail wsl_yX7_fail (Nat.le_of_ble_eq_true rfl) rfl (gO_of g3) rfl (Nat.le_of_ble_eq_true rfl) ⟨Nat.le_of_ble_eq_true rfl, Nat.le_of_ble_eq_true rfl⟩ ⟨Nat.zero_le _, Nat.zero_le _⟩ dX8_passNumber_26 ?_
      exact jc_X8_passNumber_29 C hr hlk hl ht rfl h
set_option maxRecDepth 100000 in
def lf_X8_passSet_37 (S : List fw_Sh) (a0 : Nat) (x2 : Int32) : Nat → Int32 → Int32 → fw_Mem → Option ((Int32 × fw_Mem) ⊕ (Int32 × fw_Mem))
  | 0, _, _, _ => none
  | n + 1, x3, x4, M => if x4 ≤ 0 then (some (.inr (x3, M))) else (gd (gO S 8 a0) (gd (gN (M a0 0)) (gd (gO S 7 ((M a0 0).toNatClampNeg)) (if (M ((M a0 0).toNatClampNeg) 3) = 3 then (bm (M ((M a0 0).toNatClampNeg) 6) (fun y13 => if (31 : Int32) ≤ y13 then (b1 (f_X7_fail S M ((M a0 0).toNatClampNeg) 2) (fun M15 => some (.inl (0, M15)))) else (if (((x2 &&& (x3 ^^^ (-1))) >>> (y13 &&& 31)) &&& 1) = 0 then (b1 (f_X7_fail S M ((M a0 0).toNatClampNeg) 2) (fun M19 => some (.inl (0, M19)))) else (bm (x3 ||| ((1 : Int32) <<< (y13 &&& 31))) (fun y17 => b1 (f_X7_advance S M ((M a0 0).toNatClampNeg)) (fun M18 => lf_X8_passSet_37 S a0 x2 n y17 (x4 + (-1)) M18)))))) else (some (.inr (x3, M)))))))
set_option maxHeartbeats 4000000 in
set_option maxRecDepth 100000 in
theorem lc_X8_passSet_37 {G : fw_G} {p : Program} {l : Launch} {e : Env} {s : State} {m : MethodId} {args : Array Value} {below : List Frame} {meth : Method} {c : Code} {S : List fw_Sh} {o : fw_O} {a0 : Nat} {x2 : Int32} (C : fw_C G RX8 cX8_passSet 6 p s m args c) (hr : meth.sig.returnType = (some .int)) (hlk : meth.locks = false) (hl : l.stackTraces = false) (ht : ∀ x ∈ c.exceptionTable.toList, False) :
    ∀ {n : Nat} {x3 : Int32} {x4 : Int32} {M : fw_Mem} {r : ((Int32 × fw_Mem) ⊕ (Int32 × fw_Mem))} (h : lf_X8_passSet_37 S a0 x2 n x3 x4 M = some r) (kx : ∀ d, r = .inr d → fw_W G p l e (fw_rm 8 (fw_mcO o) (fw_msO o)) s m args below meth c 6 (fw_Z G below args s (fw_mcO o) (fw_msO o) o) 0 0 112 [(3, .int d.1)] [] S d.2) (hret : ∀ t, r = .inl t → o = (.inl (some (.int t.1)), S, t.2)), fw_W G p l e (fw_rm 8 (fw_mcO o) (fw_msO o)) s m args below meth c 6 (fw_Z G below args s (fw_mcO o) (fw_msO o) o) 0 0 37 [(0, .ref a0), (2, .int x2), (3, .int x3), (4, .int x4)] [] S M := by
  intro n
  induction n with
  | zero =>
    intro x3 x4 M r h
    exact nomatch (show (none : Option ((Int32 × fw_Mem) ⊕ (Int32 × fw_Mem))) = some r from h)
  | succ n ih =>
    intro x3 x4 M r h kx hret
    rw [lf_X8_passSet_37.eq_2] at h
    refine fw_iload C 3 dX8_passSet_37 rfl ?_
    refine fw_if_le C 112 dX8_passSet_39 (by decide) (fun c8 => ?_) (fun c8 => ?_)
    · replace h := (if_pos c8).symm.trans h
      refine fw_sub [2] rfl ?_
      exact kx _ (Option.some.inj h).symm
    · replace h := (if_neg c8).symm.trans h
      refine fw_aload_n C 0 dX8_passSet_42 rfl rfl ?_
      obtain ⟨g9, h⟩ := gd_some h
      obtain ⟨g10, h⟩ := gd_some h
      refine fw_getR C 8 0 (Nat.le_of_ble_eq_true rfl) (Nat.le_of_ble_eq_true rfl) wf_X8_9 rfl (gO_of g9) (gN_of g10) dX8_passSet_43 ?_
      obtain ⟨g11, h⟩ := gd_some h
      refine fw_getI C 7 3 (Nat.le_of_ble_eq_true rfl) (Nat.le_of_ble_eq_true rfl) wf_X8_34 rfl (gO_of g11) dX8_passSet_46 ?_
      refine fw_iconst C 3 dX8_passSet_49 rfl ?_
      refine fw_icmp_ne C 112 dX8_passSet_50 (by decide) (fun c12 => ?_) (fun c12 => ?_)
      · replace h := (if_neg c12).symm.trans h
        refine fw_sub [2] rfl ?_
        exact kx _ (Option.some.inj h).symm
      · replace h := (if_pos c12).symm.trans h
        refine fw_aload_n C 0 dX8_passSet_53 rfl rfl ?_
        refine fw_getR C 8 0 (Nat.le_of_ble_eq_true rfl) (Nat.le_of_ble_eq_true rfl) wf_X8_9 rfl (gO_of g9) (gN_of g10) dX8_passSet_54 ?_
        refine fw_getI C 7 6 (Nat.le_of_ble_eq_true rfl) (Nat.le_of_ble_eq_true rfl) wf_X8_198 rfl (gO_of g11) dX8_passSet_57 ?_
        refine fw_bi h (fun y13 h => ?_)
        refine fw_istore C [(5, _), (0, _), (2, _), (3, _), (4, _)] dX8_passSet_60 (Nat.le_of_ble_eq_true rfl) rfl ?_
        refine fw_iload C 0 dX8_passSet_62 rfl ?_
        refine fw_bipush C 31 dX8_passSet_64 rfl ?_
        refine fw_icmp_ge C 82 dX8_passSet_66 (by decide) (fun c14 => ?_) (fun c14 => ?_)
        · replace h := (if_pos c14).symm.trans h
          refine fw_aload_n C 1 dX8_passSet_82 rfl rfl ?_
          refine fw_getR C 8 0 (Nat.le_of_ble_eq_true rfl) (Nat.le_of_ble_eq_true rfl) wf_X8_9 rfl (gO_of g9) (gN_of g10) dX8_passSet_83 ?_
          refine fw_iconst C 2 dX8_passSet_86 rfl ?_
          obtain ⟨M15, e15, h⟩ := b1_some h
          refine fw_callV (ci := 7) [_] C (c_X7_fail hl e15) cal_X7_fail wm_X8_85 wi_yX7_fail wsl_yX7_fail (Nat.le_of_ble_eq_true rfl) rfl (gO_of g11) rfl (Nat.le_of_ble_eq_true rfl) ⟨Nat.le_of_ble_eq_true rfl, Nat.le_of_ble_eq_true rfl⟩ ⟨Nat.zero_le _, Nat.zero_le _⟩ dX8_passSet_87 ?_
          refine fw_iconst C 0 dX8_passSet_90 rfl ?_
          have ho := hret _ (Option.some.inj h).symm
          subst ho
          exact fw_iret C hr hlk dX8_passSet_91
        · replace h := (if_neg c14).symm.trans h
          refine fw_iload_n C 2 dX8_passSet_69 rfl rfl ?_
          refine fw_iload_n C 3 dX8_passSet_70 rfl rfl ?_
          refine fw_iconst C (-1) dX8_passSet_71 rfl ?_
          refine fw_ixor C dX8_passSet_72 ?_
          refine fw_iand C dX8_passSet_73 ?_
          refine fw_iload C 0 dX8_passSet_74 rfl ?_
          refine fw_ishr C dX8_passSet_76 ?_
          refine fw_iconst C 1 dX8_passSet_77 rfl ?_
          refine fw_iand C dX8_passSet_78 ?_
          refine fw_if_ne C 92 dX8_passSet_79 (by decide) (fun c16 => ?_) (fun c16 => ?_)
          · replace h := (if_neg c16).symm.trans h
            refine fw_iload_n C 3 dX8_passSet_92 rfl rfl ?_
            refine fw_iconst C 1 dX8_passSet_93 rfl ?_
            refine fw_iload C 0 dX8_passSet_94 rfl ?_
            refine fw_ishl C dX8_passSet_96 ?_
            refine fw_ior C dX8_passSet_97 ?_
            refine fw_bi h (fun y17 h => ?_)
            refine fw_istore_n C [(3, _), (5, _), (0, _), (2, _), (4, _)] dX8_passSet_98 rfl (Nat.le_of_ble_eq_true rfl) rfl ?_
            refine fw_aload_n C 2 dX8_passSet_99 rfl rfl ?_
            refine fw_getR C 8 0 (Nat.le_of_ble_eq_true rfl) (Nat.le_of_ble_eq_true rfl) wf_X8_9 rfl (gO_of g9) (gN_of g10) dX8_passSet_100 ?_
            obtain ⟨M18, e18, h⟩ := b1_some h
            refine fw_callV (ci := 7) [] C (c_X7_advance hl e18) cal_X7_advance wm_X8_91 wi_yX7_advance wsl_yX7_advance (Nat.le_of_ble_eq_true rfl) rfl (gO_of g11) rfl (Nat.le_of_ble_eq_true rfl) ⟨Nat.le_of_ble_eq_true rfl, Nat.le_of_ble_eq_true rfl⟩ ⟨Nat.zero_le _, Nat.zero_le _⟩ dX8_passSet_103 ?_
            refine fw_iinc C _ 4 [(4, _), (3, _), (5, _), (0, _), (2, _)] dX8_passSet_106 rfl rfl (Nat.le_of_ble_eq_true rfl) rfl ?_
            refine fw_goto C 37 dX8_passSet_109 (by decide) ?_
            refine fw_sub [3, 4, 1, 0] rfl ?_
            exact ih h kx hret
          · replace h := (if_pos c16).symm.trans h
            refine fw_aload_n C 1 dX8_passSet_82 rfl rfl ?_
            refine fw_getR C 8 0 (Nat.le_of_ble_eq_true rfl) (Nat.le_of_ble_eq_true rfl) wf_X8_9 rfl (gO_of g9) (gN_of g10) dX8_passSet_83 ?_
            refine fw_iconst C 2 dX8_passSet_86 rfl ?_
            obtain ⟨M19, e19, h⟩ := b1_some h
            refine fw_callV (ci := 7) [_] C (c_X7_fail hl e19) cal_X7_fail wm_X8_85 wi_yX7_fail wsl_yX7_fail (Nat.le_of_ble_eq_true rfl) rfl (gO_of g11) rfl (Nat.le_of_ble_eq_true rfl) ⟨Nat.le_of_ble_eq_true rfl, Nat.le_of_ble_eq_true rfl⟩ ⟨Nat.zero_le _, Nat.zero_le _⟩ dX8_passSet_87 ?_
            refine fw_iconst C 0 dX8_passSet_90 rfl ?_
            have ho := hret _ (Option.some.inj h).symm
            subst ho
            exact fw_iret C hr hlk dX8_passSet_91
set_option maxRecDepth 100000 in
def f_X8_passSet (S : List fw_Sh) (M : fw_Mem) (a0 : Nat) (a1 : Nat) (x2 : Int32) : Option (Int32 × fw_Mem) := gd (gO S 8 a0) (gd (gN (M a0 0)) (gd (gO S 7 ((M a0 0).toNatClampNeg)) (if (M ((M a0 0).toNatClampNeg) 7) = 0 then (b1 (f_X7_isWord S M ((M a0 0).toNatClampNeg) a1) (fun v5 => if v5 = 0 then (some (0, M)) else (b1 (f_X7_advance S M ((M a0 0).toNatClampNeg)) (fun M7 => b1 (lf_X8_passSet_37 S a0 x2 20000 0 600 M7) (fun l20 => bl l20 (fun t20 => some t20) (fun d20 => some (d20.1, d20.2))))))) else (some (0, M)))))
set_option maxHeartbeats 4000000 in
set_option maxRecDepth 100000 in
theorem c_X8_passSet {l : Launch} {G : fw_G} {S : List fw_Sh} {M : fw_Mem} {a0 : Nat} {a1 : Nat} {x2 : Int32} {r : (Int32 × fw_Mem)} (hl : l.stackTraces = false) (h : f_X8_passSet S M a0 a1 x2 = some r) : fw_M l G yX8_passSet (.code yX8_passSet cX8_passSet 6 (some .int)) 8 (fw_mcO (.inl (some (.int r.1)), S, r.2)) (fw_msO (.inl (some (.int r.1)), S, r.2)) S M [.ref a0, .ref a1, .int x2] (.inl (some (.int r.1)), S, r.2) := by
  refine fw_of [(0, .ref a0), (1, .ref a1), (2, .int x2)] (by decide) (Nat.le_of_ble_eq_true rfl) rfl ?_
  intro p e s m args below meth c C hr hlk hnm ht _
  unfold f_X8_passSet at h
  refine fw_aload_n C 0 dX8_passSet_0 rfl rfl ?_
  obtain ⟨g1, h⟩ := gd_some h
  obtain ⟨g2, h⟩ := gd_some h
  refine fw_getR C 8 0 (Nat.le_of_ble_eq_true rfl) (Nat.le_of_ble_eq_true rfl) wf_X8_9 rfl (gO_of g1) (gN_of g2) dX8_passSet_1 ?_
  obtain ⟨g3, h⟩ := gd_some h
  refine fw_getI C 7 7 (Nat.le_of_ble_eq_true rfl) (Nat.le_of_ble_eq_true rfl) wf_X8_30 rfl (gO_of g3) dX8_passSet_4 ?_
  refine fw_if_ne C 21 dX8_passSet_7 (by decide) (fun c4 => ?_) (fun c4 => ?_)
  · replace h := (if_neg c4).symm.trans h
    refine fw_iconst C 0 dX8_passSet_21 rfl ?_
    obtain rfl := Option.some.inj h
    exact fw_iret C hr hlk dX8_passSet_22
  · replace h := (if_pos c4).symm.trans h
    refine fw_aload_n C 0 dX8_passSet_10 rfl rfl ?_
    refine fw_getR C 8 0 (Nat.le_of_ble_eq_true rfl) (Nat.le_of_ble_eq_true rfl) wf_X8_9 rfl (gO_of g1) (gN_of g2) dX8_passSet_11 ?_
    refine fw_aload_n C 1 dX8_passSet_14 rfl rfl ?_
    obtain ⟨v5, e5, h⟩ := b1_some h
    refine fw_callV (ci := 7) [_] C (c_X7_isWord hl e5) cal_X7_isWord wm_X8_46 wi_yX7_isWord wsl_yX7_isWord (Nat.le_of_ble_eq_true rfl) rfl (gO_of g3) rfl (Nat.le_of_ble_eq_true rfl) ⟨Nat.le_of_ble_eq_true rfl, Nat.le_of_ble_eq_true rfl⟩ ⟨Nat.zero_le _, Nat.zero_le _⟩ dX8_passSet_15 ?_
    refine fw_if_ne C 23 dX8_passSet_18 (by decide) (fun c6 => ?_) (fun c6 => ?_)
    · replace h := (if_neg c6).symm.trans h
      refine fw_aload_n C 0 dX8_passSet_23 rfl rfl ?_
      refine fw_getR C 8 0 (Nat.le_of_ble_eq_true rfl) (Nat.le_of_ble_eq_true rfl) wf_X8_9 rfl (gO_of g1) (gN_of g2) dX8_passSet_24 ?_
      obtain ⟨M7, e7, h⟩ := b1_some h
      refine fw_callV (ci := 7) [] C (c_X7_advance hl e7) cal_X7_advance wm_X8_91 wi_yX7_advance wsl_yX7_advance (Nat.le_of_ble_eq_true rfl) rfl (gO_of g3) rfl (Nat.le_of_ble_eq_true rfl) ⟨Nat.le_of_ble_eq_true rfl, Nat.le_of_ble_eq_true rfl⟩ ⟨Nat.zero_le _, Nat.zero_le _⟩ dX8_passSet_27 ?_
      refine fw_iconst C 0 dX8_passSet_30 rfl ?_
      refine fw_istore_n C [(3, _), (0, _), (1, _), (2, _)] dX8_passSet_31 rfl (Nat.le_of_ble_eq_true rfl) rfl ?_
      refine fw_sipush C 600 dX8_passSet_32 rfl ?_
      refine fw_istore C [(4, _), (3, _), (0, _), (1, _), (2, _)] dX8_passSet_35 (Nat.le_of_ble_eq_true rfl) rfl ?_
      refine fw_sub [2, 4, 1, 0] rfl ?_
      obtain ⟨l20, e20, h⟩ := b1_some h
      rcases l20 with t20 | d20
      · obtain rfl := Option.some.inj (bl_l h)
        exact lc_X8_passSet_37 C hr hlk hl ht e20 (fun d hd => nomatch hd) (fun t ht => by cases ht; rfl)
      replace h := bl_r h
      refine lc_X8_passSet_37 C hr hlk hl ht e20 (fun d hd => ?_) (fun t ht => nomatch ht)
      cases hd
      refine fw_iload_n C 0 dX8_passSet_112 rfl rfl ?_
      obtain rfl := Option.some.inj h
      exact fw_iret C hr hlk dX8_passSet_113
    · replace h := (if_pos c6).symm.trans h
      refine fw_iconst C 0 dX8_passSet_21 rfl ?_
      obtain rfl := Option.some.inj h
      exact fw_iret C hr hlk dX8_passSet_22
set_option maxRecDepth 100000 in
def f_X6_counts (S : List fw_Sh) (M : fw_Mem) (a0 : Nat) : Option Int32 := gd (gO S 6 a0) (if (M a0 7) = (-1) then (some 0) else (if (M a0 9) = 0 then (some 1) else (some 0)))
set_option maxHeartbeats 4000000 in
set_option maxRecDepth 100000 in
theorem c_X6_counts {l : Launch} {G : fw_G} {S : List fw_Sh} {M : fw_Mem} {a0 : Nat} {r : Int32} (hl : l.stackTraces = false) (h : f_X6_counts S M a0 = some r) : fw_M l G yX6_counts (.code yX6_counts cX6_counts 1 (some .boolean)) 1 (fw_mcO (.inl (some (.int r)), S, M)) (fw_msO (.inl (some (.int r)), S, M)) S M [.ref a0] (.inl (some (.int r)), S, M) := by
  refine fw_of [(0, .ref a0)] (by decide) (Nat.le_of_ble_eq_true rfl) rfl ?_
  intro p e s m args below meth c C hr hlk hnm ht _
  unfold f_X6_counts at h
  refine fw_aload_n C 0 dX6_counts_0 rfl rfl ?_
  obtain ⟨g1, h⟩ := gd_some h
  refine fw_getI C 6 7 (Nat.le_of_ble_eq_true rfl) (Nat.le_of_ble_eq_true rfl) wf_X6_15 rfl (gO_of g1) dX6_counts_1 ?_
  refine fw_iconst C (-1) dX6_counts_4 rfl ?_
  refine fw_icmp_eq C 19 dX6_counts_5 (by decide) (fun c2 => ?_) (fun c2 => ?_)
  · replace h := (if_pos c2).symm.trans h
    refine fw_iconst C 0 dX6_counts_19 rfl ?_
    obtain rfl := Option.some.inj h
    exact fw_zret C hr (Or.inl rfl) hlk dX6_counts_20
  · replace h := (if_neg c2).symm.trans h
    refine fw_aload_n C 0 dX6_counts_8 rfl rfl ?_
    refine fw_getI C 6 9 (Nat.le_of_ble_eq_true rfl) (Nat.le_of_ble_eq_true rfl) wf_X6_40 rfl (gO_of g1) dX6_counts_9 ?_
    refine fw_if_ne C 19 dX6_counts_12 (by decide) (fun c3 => ?_) (fun c3 => ?_)
    · replace h := (if_neg c3).symm.trans h
      refine fw_iconst C 0 dX6_counts_19 rfl ?_
      obtain rfl := Option.some.inj h
      exact fw_zret C hr (Or.inl rfl) hlk dX6_counts_20
    · replace h := (if_pos c3).symm.trans h
      refine fw_iconst C 1 dX6_counts_15 rfl ?_
      refine fw_goto C 20 dX6_counts_16 (by decide) ?_
      obtain rfl := Option.some.inj h
      exact fw_zret C hr (Or.inr rfl) hlk dX6_counts_20
set_option maxRecDepth 100000 in
def f_X6_isJudged (S : List fw_Sh) (M : fw_Mem) (a0 : Nat) : Option Int32 := gd (gO S 6 a0) (if (M a0 7) = (-1) then (some 0) else (some 1))
set_option maxHeartbeats 4000000 in
set_option maxRecDepth 100000 in
theorem c_X6_isJudged {l : Launch} {G : fw_G} {S : List fw_Sh} {M : fw_Mem} {a0 : Nat} {r : Int32} (hl : l.stackTraces = false) (h : f_X6_isJudged S M a0 = some r) : fw_M l G yX6_isJudged (.code yX6_isJudged cX6_isJudged 1 (some .boolean)) 1 (fw_mcO (.inl (some (.int r)), S, M)) (fw_msO (.inl (some (.int r)), S, M)) S M [.ref a0] (.inl (some (.int r)), S, M) := by
  refine fw_of [(0, .ref a0)] (by decide) (Nat.le_of_ble_eq_true rfl) rfl ?_
  intro p e s m args below meth c C hr hlk hnm ht _
  unfold f_X6_isJudged at h
  refine fw_aload_n C 0 dX6_isJudged_0 rfl rfl ?_
  obtain ⟨g1, h⟩ := gd_some h
  refine fw_getI C 6 7 (Nat.le_of_ble_eq_true rfl) (Nat.le_of_ble_eq_true rfl) wf_X6_15 rfl (gO_of g1) dX6_isJudged_1 ?_
  refine fw_iconst C (-1) dX6_isJudged_4 rfl ?_
  refine fw_icmp_eq C 12 dX6_isJudged_5 (by decide) (fun c2 => ?_) (fun c2 => ?_)
  · replace h := (if_pos c2).symm.trans h
    refine fw_iconst C 0 dX6_isJudged_12 rfl ?_
    obtain rfl := Option.some.inj h
    exact fw_zret C hr (Or.inl rfl) hlk dX6_isJudged_13
  · replace h := (if_neg c2).symm.trans h
    refine fw_iconst C 1 dX6_isJudged_8 rfl ?_
    refine fw_goto C 13 dX6_isJudged_9 (by decide) ?_
    obtain rfl := Option.some.inj h
    exact fw_zret C hr (Or.inr rfl) hlk dX6_isJudged_13
set_option maxRecDepth 100000 in
def fj_X8_passSuit_77 (S : List fw_Sh) (M : fw_Mem) (a0 : Nat) (a2 : Nat) (z0 : Int32) : Option (Option Nat × fw_Mem) := if z0 = 0 then (gd (gO S 8 a0) (gd (gN (M a0 0)) (gd (gO S 7 ((M a0 0).toNatClampNeg)) (if (M ((M a0 0).toNatClampNeg) 3) = 3 then (b1 (f_X7_fail S M ((M a0 0).toNatClampNeg) 2) (fun M31 => some (none, M31))) else (b1 (f_X7_fail S M ((M a0 0).toNatClampNeg) 1) (fun M30 => some (none, M30))))))) else (gd (gO S 8 a0) (gd (gN (M a0 0)) (gd (gO S 7 ((M a0 0).toNatClampNeg)) (b1 (f_X7_advance S M ((M a0 0).toNatClampNeg)) (fun M34 => some ((some a2), M34))))))
set_option maxHeartbeats 4000000 in
set_option maxRecDepth 100000 in
theorem jc_X8_passSuit_77 {G : fw_G} {p : Program} {l : Launch} {e : Env} {s : State} {m : MethodId} {args : Array Value} {below : List Frame} {meth : Method} {c : Code} {S : List fw_Sh} {M : fw_Mem} {a0 : Nat} {a2 : Nat} {z0 : Int32} {r : (Option Nat × fw_Mem)} {o : fw_O} (C : fw_C G RX8 cX8_passSuit 4 p s m args c) (hr : meth.sig.returnType = (some (.object "BarredSuits$Suit"))) (hlk : meth.locks = false) (hl : l.stackTraces = false) (ht : ∀ x ∈ c.exceptionTable.toList, False) (ho : o = (.inl (some (rv r.1)), S, r.2)) (h : fj_X8_passSuit_77 S M a0 a2 z0 = some r) :
    fw_W G p l e (fw_rm 4 (fw_mcO o) (fw_msO o)) s m args below meth c 4 (fw_Z G below args s (fw_mcO o) (fw_msO o) o) 0 0 77 [(0, .ref a0), (2, .ref a2)] [.int z0] S M := by
  subst ho
  unfold fj_X8_passSuit_77 at h
  refine fw_istore_n C [(3, _), (0, _), (2, _)] dX8_passSuit_77 rfl (Nat.le_of_ble_eq_true rfl) rfl ?_
  refine fw_iload_n C 0 dX8_passSuit_78 rfl rfl ?_
  refine fw_if_eq C 91 dX8_passSuit_79 (by decide) (fun c25 => ?_) (fun c25 => ?_)
  · replace h := (if_pos c25).symm.trans h
    refine fw_aload_n C 1 dX8_passSuit_91 rfl rfl ?_
    obtain ⟨g26, h⟩ := gd_some h
    obtain ⟨g27, h⟩ := gd_some h
    refine fw_getR C 8 0 (Nat.le_of_ble_eq_true rfl) (Nat.le_of_ble_eq_true rfl) wf_X8_9 rfl (gO_of g26) (gN_of g27) dX8_passSuit_92 ?_
    refine fw_aload_n C 1 dX8_passSuit_95 rfl rfl ?_
    refine fw_getR C 8 0 (Nat.le_of_ble_eq_true rfl) (Nat.le_of_ble_eq_true rfl) wf_X8_9 rfl (gO_of g26) (gN_of g27) dX8_passSuit_96 ?_
    obtain ⟨g28, h⟩ := gd_some h
    refine fw_getI C 7 3 (Nat.le_of_ble_eq_true rfl) (Nat.le_of_ble_eq_true rfl) wf_X8_34 rfl (gO_of g28) dX8_passSuit_99 ?_
    refine fw_iconst C 3 dX8_passSuit_102 rfl ?_
    refine fw_icmp_ne C 110 dX8_passSuit_103 (by decide) (fun c29 => ?_) (fun c29 => ?_)
    · replace h := (if_neg c29).symm.trans h
      refine fw_iconst C 1 dX8_passSuit_110 rfl ?_
      obtain ⟨M30, e30, h⟩ := b1_some h
      refine fw_callV (ci := 7) [_] C (c_X7_fail hl e30) cal_X7_fail wm_X8_85 wi_yX7_fail wsl_yX7_fail (Nat.le_of_ble_eq_true rfl) rfl (gO_of g28) rfl (Nat.le_of_ble_eq_true rfl) ⟨Nat.le_of_ble_eq_true rfl, Nat.le_of_ble_eq_true rfl⟩ ⟨Nat.zero_le _, Nat.zero_le _⟩ dX8_passSuit_111 ?_
      refine fw_null C dX8_passSuit_114 ?_
      obtain rfl := Option.some.inj h
      exact fw_aret C hr (Or.inl rfl) hlk dX8_passSuit_115
    · replace h := (if_pos c29).symm.trans h
      refine fw_iconst C 2 dX8_passSuit_106 rfl ?_
      refine fw_goto C 111 dX8_passSuit_107 (by decide) ?_
      obtain ⟨M31, e31, h⟩ := b1_some h
      refine fw_callV (ci := 7) [_] C (c_X7_fail hl e31) cal_X7_fail wm_X8_85 wi_yX7_fail wsl_yX7_fail (Nat.le_of_ble_eq_true rfl) rfl (gO_of g28) rfl (Nat.le_of_ble_eq_true rfl) ⟨Nat.le_of_ble_eq_true rfl, Nat.le_of_ble_eq_true rfl⟩ ⟨Nat.zero_le _, Nat.zero_le _⟩ dX8_passSuit_111 ?_
      refine fw_null C dX8_passSuit_114 ?_
      obtain rfl := Option.some.inj h
      exact fw_aret C hr (Or.inl rfl) hlk dX8_passSuit_115
  · replace h := (if_neg c25).symm.trans h
    refine fw_aload_n C 1 dX8_passSuit_82 rfl rfl ?_
    obtain ⟨g32, h⟩ := gd_some h
    obtain ⟨g33, h⟩ := gd_some h
    refine fw_getR C 8 0 (Nat.le_of_ble_eq_true rfl) (Nat.le_of_ble_eq_true rfl) wf_X8_9 rfl (gO_of g32) (gN_of g33) dX8_passSuit_83 ?_
    obtain ⟨g35, h⟩ := gd_some h
    obtain ⟨M34, e34, h⟩ := b1_some h
    refine fw_callV (ci := 7) [] C (c_X7_advance hl e34) cal_X7_advance wm_X8_91 wi_yX7_advance wsl_yX7_advance (Nat.le_of_ble_eq_true rfl) rfl (gO_of g35) rfl (Nat.le_of_ble_eq_true rfl) ⟨Nat.le_of_ble_eq_true rfl, Nat.le_of_ble_eq_true rfl⟩ ⟨Nat.zero_le _, Nat.zero_le _⟩ dX8_passSuit_86 ?_
    refine fw_aload_n C 2 dX8_passSuit_89 rfl rfl ?_
    obtain rfl := Option.some.inj h
    exact fw_aret C hr (Or.inr ⟨_, rfl⟩) hlk dX8_passSuit_90
set_option maxRecDepth 100000 in
def f_X8_passSuit (S : List fw_Sh) (M : fw_Mem) (a0 : Nat) (x1 : Int32) : Option (Option Nat × fw_Mem) := gd (gO S 8 a0) (gd (gN (M a0 0)) (gd (gO S 7 ((M a0 0).toNatClampNeg)) (if (M ((M a0 0).toNatClampNeg) 7) = 0 then (if (M ((M a0 0).toNatClampNeg) 3) = 3 then (gd (gN (M a0 1)) (gd (gO S 4 ((M a0 1).toNatClampNeg)) (if (M ((M a0 1).toNatClampNeg) 6) ≤ (M ((M a0 0).toNatClampNeg) 6) then (if (M ((M a0 0).toNatClampNeg) 3) = 3 then (b1 (f_X7_fail S M ((M a0 0).toNatClampNeg) 2) (fun M17 => some (none, M17))) else (b1 (f_X7_fail S M ((M a0 0).toNatClampNeg) 1) (fun M16 => some (none, M16)))) else (gd (gN (M ((M a0 1).toNatClampNeg) 2)) (gd (gA S 4 ((M ((M a0 1).toNatClampNeg) 2).toNatClampNeg) (M ((M a0 0).toNatClampNeg) 6)) (gd (gN (M ((M ((M a0 1).toNatClampNeg) 2).toNatClampNeg) (M ((M a0 0).toNatClampNeg) 6).toNatClampNeg)) (if x1 = 0 then (gd (gO S 6 ((M ((M ((M a0 1).toNatClampNeg) 2).toNatClampNeg) (M ((M a0 0).toNatClampNeg) 6).toNatClampNeg).toNatClampNeg)) (b1 (f_X6_isJudged S M ((M ((M ((M a0 1).toNatClampNeg) 2).toNatClampNeg) (M ((M a0 0).toNatClampNeg) 6).toNatClampNeg).toNatClampNeg)) (fun v22 => if v22 = 0 then fj_X8_passSuit_77 S M a0 ((M ((M ((M a0 1).toNatClampNeg) 2).toNatClampNeg) (M ((M a0 0).toNatClampNeg) 6).toNatClampNeg).toNatClampNeg) 1 else fj_X8_passSuit_77 S M a0 ((M ((M ((M a0 1).toNatClampNeg) 2).toNatClampNeg) (M ((M a0 0).toNatClampNeg) 6).toNatClampNeg).toNatClampNeg) 0))) else (gd (gO S 6 ((M ((M ((M a0 1).toNatClampNeg) 2).toNatClampNeg) (M ((M a0 0).toNatClampNeg) 6).toNatClampNeg).toNatClampNeg)) (b1 (f_X6_counts S M ((M ((M ((M a0 1).toNatClampNeg) 2).toNatClampNeg) (M ((M a0 0).toNatClampNeg) 6).toNatClampNeg).toNatClampNeg)) (fun v36 => fj_X8_passSuit_77 S M a0 ((M ((M ((M a0 1).toNatClampNeg) 2).toNatClampNeg) (M ((M a0 0).toNatClampNeg) 6).toNatClampNeg).toNatClampNeg) v36)))))))))) else (if (M ((M a0 0).toNatClampNeg) 3) = 3 then (b1 (f_X7_fail S M ((M a0 0).toNatClampNeg) 2) (fun M11 => some (none, M11))) else (b1 (f_X7_fail S M ((M a0 0).toNatClampNeg) 1) (fun M10 => some (none, M10))))) else (if (M ((M a0 0).toNatClampNeg) 3) = 3 then (b1 (f_X7_fail S M ((M a0 0).toNatClampNeg) 2) (fun M7 => some (none, M7))) else (b1 (f_X7_fail S M ((M a0 0).toNatClampNeg) 1) (fun M6 => some (none, M6)))))))
set_option maxHeartbeats 4000000 in
set_option maxRecDepth 100000 in
theorem c_X8_passSuit {l : Launch} {G : fw_G} {S : List fw_Sh} {M : fw_Mem} {a0 : Nat} {x1 : Int32} {r : (Option Nat × fw_Mem)} (hl : l.stackTraces = false) (h : f_X8_passSuit S M a0 x1 = some r) : fw_M l G yX8_passSuit (.code yX8_passSuit cX8_passSuit 4 (some (.object "BarredSuits$Suit"))) 4 (fw_mcO (.inl (some (rv r.1)), S, r.2)) (fw_msO (.inl (some (rv r.1)), S, r.2)) S M [.ref a0, .int x1] (.inl (some (rv r.1)), S, r.2) := by
  refine fw_of [(0, .ref a0), (1, .int x1)] (by decide) (Nat.le_of_ble_eq_true rfl) rfl ?_
  intro p e s m args below meth c C hr hlk hnm ht _
  unfold f_X8_passSuit at h
  refine fw_aload_n C 0 dX8_passSuit_0 rfl rfl ?_
  obtain ⟨g1, h⟩ := gd_some h
  obtain ⟨g2, h⟩ := gd_some h
  refine fw_getR C 8 0 (Nat.le_of_ble_eq_true rfl) (Nat.le_of_ble_eq_true rfl) wf_X8_9 rfl (gO_of g1) (gN_of g2) dX8_passSuit_1 ?_
  obtain ⟨g3, h⟩ := gd_some h
  refine fw_getI C 7 7 (Nat.le_of_ble_eq_true rfl) (Nat.le_of_ble_eq_true rfl) wf_X8_30 rfl (gO_of g3) dX8_passSuit_4 ?_
  refine fw_if_ne C 91 dX8_passSuit_7 (by decide) (fun c4 => ?_) (fun c4 => ?_)
  · replace h := (if_neg c4).symm.trans h
    refine fw_aload_n C 0 dX8_passSuit_91 rfl rfl ?_
    refine fw_getR C 8 0 (Nat.le_of_ble_eq_true rfl) (Nat.le_of_ble_eq_true rfl) wf_X8_9 rfl (gO_of g1) (gN_of g2) dX8_passSuit_92 ?_
    refine fw_aload_n C 0 dX8_passSuit_95 rfl rfl ?_
    refine fw_getR C 8 0 (Nat.le_of_ble_eq_true rfl) (Nat.le_of_ble_eq_true rfl) wf_X8_9 rfl (gO_of g1) (gN_of g2) dX8_passSuit_96 ?_
    refine fw_getI C 7 3 (Nat.le_of_ble_eq_true rfl) (Nat.le_of_ble_eq_true rfl) wf_X8_34 rfl (gO_of g3) dX8_passSuit_99 ?_
    refine fw_iconst C 3 dX8_passSuit_102 rfl ?_
    refine fw_icmp_ne C 110 dX8_passSuit_103 (by decide) (fun c5 => ?_) (fun c5 => ?_)
    · replace h := (if_neg c5).symm.trans h
      refine fw_iconst C 1 dX8_passSuit_110 rfl ?_
      obtain ⟨M6, e6, h⟩ := b1_some h
      refine fw_callV (ci := 7) [_] C (c_X7_fail hl e6) cal_X7_fail wm_X8_85 wi_yX7_fail wsl_yX7_fail (Nat.le_of_ble_eq_true rfl) rfl (gO_of g3) rfl (Nat.le_of_ble_eq_true rfl) ⟨Nat.le_of_ble_eq_true rfl, Nat.le_of_ble_eq_true rfl⟩ ⟨Nat.zero_le _, Nat.zero_le _⟩ dX8_passSuit_111 ?_
      refine fw_null C dX8_passSuit_114 ?_
      obtain rfl := Option.some.inj h
      exact fw_aret C hr (Or.inl rfl) hlk dX8_passSuit_115
    · replace h := (if_pos c5).symm.trans h
      refine fw_iconst C 2 dX8_passSuit_106 rfl ?_
      refine fw_goto C 111 dX8_passSuit_107 (by decide) ?_
      obtain ⟨M7, e7, h⟩ := b1_some h
      refine fw_callV (ci := 7) [_] C (c_X7_fail hl e7) cal_X7_fail wm_X8_85 wi_yX7_fail wsl_yX7_fail (Nat.le_of_ble_eq_true rfl) rfl (gO_of g3) rfl (Nat.le_of_ble_eq_true rfl) ⟨Nat.le_of_ble_eq_true rfl, Nat.le_of_ble_eq_true rfl⟩ ⟨Nat.zero_le _, Nat.zero_le _⟩ dX8_passSuit_111 ?_
      refine fw_null C dX8_passSuit_114 ?_
      obtain rfl := Option.some.inj h
      exact fw_aret C hr (Or.inl rfl) hlk dX8_passSuit_115
  · replace h := (if_pos c4).symm.trans h
    refine fw_aload_n C 0 dX8_passSuit_10 rfl rfl ?_
    refine fw_getR C 8 0 (Nat.le_of_ble_eq_true rfl) (Nat.le_of_ble_eq_true rfl) wf_X8_9 rfl (gO_of g1) (gN_of g2) dX8_passSuit_11 ?_
    refine fw_getI C 7 3 (Nat.le_of_ble_eq_true rfl) (Nat.le_of_ble_eq_true rfl) wf_X8_34 rfl (gO_of g3) dX8_passSuit_14 ?_
    refine fw_iconst C 3 dX8_passSuit_17 rfl ?_
    refine fw_icmp_ne C 91 dX8_passSuit_18 (by decide) (fun c8 => ?_) (fun c8 => ?_)
    · replace h := (if_neg c8).symm.trans h
      refine fw_aload_n C 0 dX8_passSuit_91 rfl rfl ?_
      refine fw_getR C 8 0 (Nat.le_of_ble_eq_true rfl) (Nat.le_of_ble_eq_true rfl) wf_X8_9 rfl (gO_of g1) (gN_of g2) dX8_passSuit_92 ?_
      refine fw_aload_n C 0 dX8_passSuit_95 rfl rfl ?_
      refine fw_getR C 8 0 (Nat.le_of_ble_eq_true rfl) (Nat.le_of_ble_eq_true rfl) wf_X8_9 rfl (gO_of g1) (gN_of g2) dX8_passSuit_96 ?_
      refine fw_getI C 7 3 (Nat.le_of_ble_eq_true rfl) (Nat.le_of_ble_eq_true rfl) wf_X8_34 rfl (gO_of g3) dX8_passSuit_99 ?_
      refine fw_iconst C 3 dX8_passSuit_102 rfl ?_
      refine fw_icmp_ne C 110 dX8_passSuit_103 (by decide) (fun c9 => ?_) (fun c9 => ?_)
      · replace h := (if_neg c9).symm.trans h
        refine fw_iconst C 1 dX8_passSuit_110 rfl ?_
        obtain ⟨M10, e10, h⟩ := b1_some h
        refine fw_callV (ci := 7) [_] C (c_X7_fail hl e10) cal_X7_fail wm_X8_85 wi_yX7_fail wsl_yX7_fail (Nat.le_of_ble_eq_true rfl) rfl (gO_of g3) rfl (Nat.le_of_ble_eq_true rfl) ⟨Nat.le_of_ble_eq_true rfl, Nat.le_of_ble_eq_true rfl⟩ ⟨Nat.zero_le _, Nat.zero_le _⟩ dX8_passSuit_111 ?_
        refine fw_null C dX8_passSuit_114 ?_
        obtain rfl := Option.some.inj h
        exact fw_aret C hr (Or.inl rfl) hlk dX8_passSuit_115
      · replace h := (if_pos c9).symm.trans h
        refine fw_iconst C 2 dX8_passSuit_106 rfl ?_
        refine fw_goto C 111 dX8_passSuit_107 (by decide) ?_
        obtain ⟨M11, e11, h⟩ := b1_some h
        refine fw_callV (ci := 7) [_] C (c_X7_fail hl e11) cal_X7_fail wm_X8_85 wi_yX7_fail wsl_yX7_fail (Nat.le_of_ble_eq_true rfl) rfl (gO_of g3) rfl (Nat.le_of_ble_eq_true rfl) ⟨Nat.le_of_ble_eq_true rfl, Nat.le_of_ble_eq_true rfl⟩ ⟨Nat.zero_le _, Nat.zero_le _⟩ dX8_passSuit_111 ?_
        refine fw_null C dX8_passSuit_114 ?_
        obtain rfl := Option.some.inj h
        exact fw_aret C hr (Or.inl rfl) hlk dX8_passSuit_115
    · replace h := (if_pos c8).symm.trans h
      refine fw_aload_n C 0 dX8_passSuit_21 rfl rfl ?_
      refine fw_getR C 8 0 (Nat.le_of_ble_eq_true rfl) (Nat.le_of_ble_eq_true rfl) wf_X8_9 rfl (gO_of g1) (gN_of g2) dX8_passSuit_22 ?_
      refine fw_getI C 7 6 (Nat.le_of_ble_eq_true rfl) (Nat.le_of_ble_eq_true rfl) wf_X8_198 rfl (gO_of g3) dX8_passSuit_25 ?_
      refine fw_aload_n C 0 dX8_passSuit_28 rfl rfl ?_
      obtain ⟨g12, h⟩ := gd_some h
      refine fw_getR C 8 1 (Nat.le_of_ble_eq_true rfl) (Nat.le_of_ble_eq_true rfl) wf_X8_15 rfl (gO_of g1) (gN_of g12) dX8_passSuit_29 ?_
      obtain ⟨g13, h⟩ := gd_some h
      refine fw_getI C 4 6 (Nat.le_of_ble_eq_true rfl) (Nat.le_of_ble_eq_true rfl) wf_X8_124 rfl (gO_of g13) dX8_passSuit_32 ?_
      refine fw_icmp_ge C 91 dX8_passSuit_35 (by decide) (fun c14 => ?_) (fun c14 => ?_)
      · replace h := (if_pos c14).symm.trans h
        refine fw_aload_n C 0 dX8_passSuit_91 rfl rfl ?_
        refine fw_getR C 8 0 (Nat.le_of_ble_eq_true rfl) (Nat.le_of_ble_eq_true rfl) wf_X8_9 rfl (gO_of g1) (gN_of g2) dX8_passSuit_92 ?_
        refine fw_aload_n C 0 dX8_passSuit_95 rfl rfl ?_
        refine fw_getR C 8 0 (Nat.le_of_ble_eq_true rfl) (Nat.le_of_ble_eq_true rfl) wf_X8_9 rfl (gO_of g1) (gN_of g2) dX8_passSuit_96 ?_
        refine fw_getI C 7 3 (Nat.le_of_ble_eq_true rfl) (Nat.le_of_ble_eq_true rfl) wf_X8_34 rfl (gO_of g3) dX8_passSuit_99 ?_
        refine fw_iconst C 3 dX8_passSuit_102 rfl ?_
        refine fw_icmp_ne C 110 dX8_passSuit_103 (by decide) (fun c15 => ?_) (fun c15 => ?_)
        · replace h := (if_neg c15).symm.trans h
          refine fw_iconst C 1 dX8_passSuit_110 rfl ?_
          obtain ⟨M16, e16, h⟩ := b1_some h
          refine fw_callV (ci := 7) [_] C (c_X7_fail hl e16) cal_X7_fail wm_X8_85 wi_yX7_fail wsl_yX7_fail (Nat.le_of_ble_eq_true rfl) rfl (gO_of g3) rfl (Nat.le_of_ble_eq_true rfl) ⟨Nat.le_of_ble_eq_true rfl, Nat.le_of_ble_eq_true rfl⟩ ⟨Nat.zero_le _, Nat.zero_le _⟩ dX8_passSuit_111 ?_
          refine fw_null C dX8_passSuit_114 ?_
          obtain rfl := Option.some.inj h
          exact fw_aret C hr (Or.inl rfl) hlk dX8_passSuit_115
        · replace h := (if_pos c15).symm.trans h
          refine fw_iconst C 2 dX8_passSuit_106 rfl ?_
          refine fw_goto C 111 dX8_passSuit_107 (by decide) ?_
          obtain ⟨M17, e17, h⟩ := b1_some h
          refine fw_callV (ci := 7) [_] C (c_X7_fail hl e17) cal_X7_fail wm_X8_85 wi_yX7_fail wsl_yX7_fail (Nat.le_of_ble_eq_true rfl) rfl (gO_of g3) rfl (Nat.le_of_ble_eq_true rfl) ⟨Nat.le_of_ble_eq_true rfl, Nat.le_of_ble_eq_true rfl⟩ ⟨Nat.zero_le _, Nat.zero_le _⟩ dX8_passSuit_111 ?_
          refine fw_null C dX8_passSuit_114 ?_
          obtain rfl := Option.some.inj h
          exact fw_aret C hr (Or.inl rfl) hlk dX8_passSuit_115
      · replace h := (if_neg c14).symm.trans h
        refine fw_aload_n C 0 dX8_passSuit_38 rfl rfl ?_
        refine fw_getR C 8 1 (Nat.le_of_ble_eq_true rfl) (Nat.le_of_ble_eq_true rfl) wf_X8_15 rfl (gO_of g1) (gN_of g12) dX8_passSuit_39 ?_
        obtain ⟨g18, h⟩ := gd_some h
        refine fw_getR C 4 2 (Nat.le_of_ble_eq_true rfl) (Nat.le_of_ble_eq_true rfl) wf_X8_127 rfl (gO_of g13) (gN_of g18) dX8_passSuit_42 ?_
        refine fw_aload_n C 0 dX8_passSuit_45 rfl rfl ?_
        refine fw_getR C 8 0 (Nat.le_of_ble_eq_true rfl) (Nat.le_of_ble_eq_true rfl) wf_X8_9 rfl (gO_of g1) (gN_of g2) dX8_passSuit_46 ?_
        refine fw_getI C 7 6 (Nat.le_of_ble_eq_true rfl) (Nat.le_of_ble_eq_true rfl) wf_X8_198 rfl (gO_of g3) dX8_passSuit_49 ?_
        obtain ⟨g19, h⟩ := gd_some h
        obtain ⟨g20, h⟩ := gd_some h
        refine fw_aald C 4 (by decide) (gA_of g19) (gN_of g20) dX8_passSuit_52 ?_
        refine fw_astore_n C [(2, _), (0, _), (1, _)] dX8_passSuit_53 rfl (Nat.le_of_ble_eq_true rfl) rfl ?_
        refine fw_iload_n C 2 dX8_passSuit_54 rfl rfl ?_
        refine fw_if_eq C 65 dX8_passSuit_55 (by decide) (fun c21 => ?_) (fun c21 => ?_)
        · replace h := (if_pos c21).symm.trans h
          refine fw_aload_n C 0 dX8_passSuit_65 rfl rfl ?_
          obtain ⟨g23, h⟩ := gd_some h
          obtain ⟨v22, e22, h⟩ := b1_some h
          refine fw_callV (ci := 6) [] C (c_X6_isJudged hl e22) cal_X6_isJudged wm_X8_204 wi_yX6_isJudged wsl_yX6_isJudged (Nat.le_of_ble_eq_true rfl) rfl (gO_of g23) rfl (Nat.le_of_ble_eq_true rfl) ⟨Nat.le_of_ble_eq_true rfl, Nat.le_of_ble_eq_true rfl⟩ ⟨Nat.zero_le _, Nat.zero_le _⟩ dX8_passSuit_66 ?_
          refine fw_if_ne C 76 dX8_passSuit_69 (by decide) (fun c24 => ?_) (fun c24 => ?_)
          · replace h := (if_neg c24).symm.trans h
            refine fw_iconst C 0 dX8_passSuit_76 rfl ?_
            refine fw_sub [1, 0] rfl ?_
            exact jc_X8_passSuit_77 C hr hlk hl ht rfl h
          · replace h := (if_pos c24).symm.trans h
            refine fw_iconst C 1 dX8_passSuit_72 rfl ?_
            refine fw_goto C 77 dX8_passSuit_73 (by decide) ?_
            refine fw_sub [1, 0] rfl ?_
            exact jc_X8_passSuit_77 C hr hlk hl ht rfl h
        · replace h := (if_neg c21).symm.trans h
          refine fw_aload_n C 0 dX8_passSuit_58 rfl rfl ?_
          obtain ⟨g37, h⟩ := gd_some h
          obtain ⟨v36, e36, h⟩ := b1_some h
          refine fw_callV (ci := 6) [] C (c_X6_counts hl e36) cal_X6_counts wm_X8_201 wi_yX6_counts wsl_yX6_counts (Nat.le_of_ble_eq_true rfl) rfl (gO_of g37) rfl (Nat.le_of_ble_eq_true rfl) ⟨Nat.le_of_ble_eq_true rfl, Nat.le_of_ble_eq_true rfl⟩ ⟨Nat.zero_le _, Nat.zero_le _⟩ dX8_passSuit_59 ?_
          refine fw_goto C 77 dX8_passSuit_62 (by decide) ?_
          refine fw_sub [1, 0] rfl ?_
          exact jc_X8_passSuit_77 C hr hlk hl ht rfl h
set_option maxRecDepth 100000 in
def fj_X8_readJudged_64 (S : List fw_Sh) (M : fw_Mem) (a0 : Nat) (a1 : Nat) (x2 : Int32) (x3 : Int32) : Option fw_Mem := gd (gO S 8 a0) (gd (gN (M a0 0)) (gd (gO S 7 ((M a0 0).toNatClampNeg)) (if (M ((M a0 0).toNatClampNeg) 7) = 0 then (gd (gO S 6 a1) (b1 (f_X6_decide S M a1 x2 x3) (fun M45 => gd (gN (M45 a0 0)) (gd (gO S 7 ((M45 a0 0).toNatClampNeg)) (b1 (f_X7_advance S M45 ((M45 a0 0).toNatClampNeg)) (fun M48 => b1 (f_X6_allIssues S M48 a1) (fun v50 => b2 (f_X8_passSet S M48 a0 1000031 v50) (fun v51 M51 => bm (fw_set M51 a1 10 v51) (fun M52 => b1 (f_X6_allIssues S M52 a1) (fun v53 => b2 (f_X8_passSet S M52 a0 1000019 (v53 &&& ((M52 a1 10) ^^^ (-1)))) (fun v54 M54 => bm (fw_set M54 a1 11 v54) (fun M55 => b2 (f_X8_passSet S M55 a0 1000029 ((M55 a1 10) ||| (M55 a1 11))) (fun v56 M56 => bm (fw_set M56 a1 12 v56) (fun M57 => some M57)))))))))))))) else (some M))))
set_option maxHeartbeats 4000000 in
set_option maxRecDepth 100000 in
theorem jc_X8_readJudged_64 {G : fw_G} {p : Program} {l : Launch} {e : Env} {s : State} {m : MethodId} {args : Array Value} {below : List Frame} {meth : Method} {c : Code} {S : List fw_Sh} {M : fw_Mem} {a0 : Nat} {a1 : Nat} {x2 : Int32} {x3 : Int32} {r : fw_Mem} {o : fw_O} (C : fw_C G RX8 cX8_readJudged 4 p s m args c) (hr : meth.sig.returnType = none) (hlk : meth.locks = false) (hl : l.stackTraces = false) (ht : ∀ x ∈ c.exceptionTable.toList, False) (ho : o = (.inl none, S, r)) (h : fj_X8_readJudged_64 S M a0 a1 x2 x3 = some r) :
    fw_W G p l e (fw_rm 9 (fw_mcO o) (fw_msO o)) s m args below meth c 4 (fw_Z G below args s (fw_mcO o) (fw_msO o) o) 0 0 64 [(0, .ref a0), (1, .ref a1), (2, .int x2), (3, .int x3)] [] S M := by
  subst ho
  unfold fj_X8_readJudged_64 at h
  refine fw_aload_n C 0 dX8_readJudged_64 rfl rfl ?_
  obtain ⟨g41, h⟩ := gd_some h
  obtain ⟨g42, h⟩ := gd_some h
  refine fw_getR C 8 0 (Nat.le_of_ble_eq_true rfl) (Nat.le_of_ble_eq_true rfl) wf_X8_9 rfl (gO_of g41) (gN_of g42) dX8_readJudged_65 ?_
  obtain ⟨g43, h⟩ := gd_some h
  refine fw_getI C 7 7 (Nat.le_of_ble_eq_true rfl) (Nat.le_of_ble_eq_true rfl) wf_X8_30 rfl (gO_of g43) dX8_readJudged_68 ?_
  refine fw_if_eq C 75 dX8_readJudged_71 (by decide) (fun c44 => ?_) (fun c44 => ?_)
  · replace h := (if_pos c44).symm.trans h
    refine fw_aload_n C 1 dX8_readJudged_75 rfl rfl ?_
    refine fw_iload_n C 2 dX8_readJudged_76 rfl rfl ?_
    refine fw_iload_n C 3 dX8_readJudged_77 rfl rfl ?_
    obtain ⟨g46, h⟩ := gd_some h
    obtain ⟨M45, e45, h⟩ := b1_some h
    refine fw_callV (ci := 6) [_, _] C (c_X6_decide hl e45) cal_X6_decide wm_X8_131 wi_yX6_decide wsl_yX6_decide (Nat.le_of_ble_eq_true rfl) rfl (gO_of g46) rfl (Nat.le_of_ble_eq_true rfl) ⟨Nat.le_of_ble_eq_true rfl, Nat.le_of_ble_eq_true rfl⟩ ⟨Nat.zero_le _, Nat.zero_le _⟩ dX8_readJudged_78 ?_
    refine fw_aload_n C 0 dX8_readJudged_81 rfl rfl ?_
    obtain ⟨g47, h⟩ := gd_some h
    refine fw_getR C 8 0 (Nat.le_of_ble_eq_true rfl) (Nat.le_of_ble_eq_true rfl) wf_X8_9 rfl (gO_of g41) (gN_of g47) dX8_readJudged_82 ?_
    obtain ⟨g49, h⟩ := gd_some h
    obtain ⟨M48, e48, h⟩ := b1_some h
    refine fw_callV (ci := 7) [] C (c_X7_advance hl e48) cal_X7_advance wm_X8_91 wi_yX7_advance wsl_yX7_advance (Nat.le_of_ble_eq_true rfl) rfl (gO_of g49) rfl (Nat.le_of_ble_eq_true rfl) ⟨Nat.le_of_ble_eq_true rfl, Nat.le_of_ble_eq_true rfl⟩ ⟨Nat.zero_le _, Nat.zero_le _⟩ dX8_readJudged_85 ?_
    refine fw_aload_n C 1 dX8_readJudged_88 rfl rfl ?_
    refine fw_aload_n C 0 dX8_readJudged_89 rfl rfl ?_
    refine fw_ldcS C (i := 30) (List.mem_of_getElem? (i := 12) rfl) dX8_readJudged_90 ?_
    refine fw_aload_n C 1 dX8_readJudged_92 rfl rfl ?_
    obtain ⟨v50, e50, h⟩ := b1_some h
    refine fw_callV (ci := 6) [] C (c_X6_allIssues hl e50) cal_X6_allIssues wm_X8_173 wi_yX6_allIssues wsl_yX6_allIssues (Nat.le_of_ble_eq_true rfl) rfl (gO_of g46) rfl (Nat.le_of_ble_eq_true rfl) ⟨Nat.le_of_ble_eq_true rfl, Nat.le_of_ble_eq_true rfl⟩ ⟨Nat.zero_le _, Nat.zero_le _⟩ dX8_readJudged_93 ?_
    obtain ⟨v51, M51, e51, h⟩ := b2_some h
    refine fw_callV (ci := 8) [_, _] C (c_X8_passSet hl e51) cal_X8_passSet wm_X8_149 wi_yX8_passSet wsl_yX8_passSet (Nat.le_of_ble_eq_true rfl) rfl (gO_of g41) rfl (Nat.le_of_ble_eq_true rfl) ⟨Nat.le_of_ble_eq_true rfl, Nat.le_of_ble_eq_true rfl⟩ ⟨Nat.zero_le _, Nat.zero_le _⟩ dX8_readJudged_96 ?_
    refine fw_putI C 6 10 (Nat.le_of_ble_eq_true rfl) (Nat.le_of_ble_eq_true rfl) wf_X8_176 rfl rfl rfl rfl (gO_of g46) dX8_readJudged_99 ?_
    refine fw_bm h (fun M52 h => ?_)
    refine fw_aload_n C 1 dX8_readJudged_102 rfl rfl ?_
    refine fw_aload_n C 0 dX8_readJudged_103 rfl rfl ?_
    refine fw_ldcS C (i := 18) (List.mem_of_getElem? (i := 13) rfl) dX8_readJudged_104 ?_
    refine fw_aload_n C 1 dX8_readJudged_106 rfl rfl ?_
    obtain ⟨v53, e53, h⟩ := b1_some h
    refine fw_callV (ci := 6) [] C (c_X6_allIssues hl e53) cal_X6_allIssues wm_X8_173 wi_yX6_allIssues wsl_yX6_allIssues (Nat.le_of_ble_eq_true rfl) rfl (gO_of g46) rfl (Nat.le_of_ble_eq_true rfl) ⟨Nat.le_of_ble_eq_true rfl, Nat.le_of_ble_eq_true rfl⟩ ⟨Nat.zero_le _, Nat.zero_le _⟩ dX8_readJudged_107 ?_
    refine fw_aload_n C 1 dX8_readJudged_110 rfl rfl ?_
    refine fw_getI C 6 10 (Nat.le_of_ble_eq_true rfl) (Nat.le_of_ble_eq_true rfl) wf_X8_176 rfl (gO_of g46) dX8_readJudged_111 ?_
    refine fw_iconst C (-1) dX8_readJudged_114 rfl ?_
    refine fw_ixor C dX8_readJudged_115 ?_
    refine fw_iand C dX8_readJudged_116 ?_
    obtain ⟨v54, M54, e54, h⟩ := b2_some h
    refine fw_callV (ci := 8) [_, _] C (c_X8_passSet hl e54) cal_X8_passSet wm_X8_149 wi_yX8_passSet wsl_yX8_passSet (Nat.le_of_ble_eq_true rfl) rfl (gO_of g41) rfl (Nat.le_of_ble_eq_true rfl) ⟨Nat.le_of_ble_eq_true rfl, Nat.le_of_ble_eq_true rfl⟩ ⟨Nat.zero_le _, Nat.zero_le _⟩ dX8_readJudged_117 ?_
    refine fw_putI C 6 11 (Nat.le_of_ble_eq_true rfl) (Nat.le_of_ble_eq_true rfl) wf_X8_180 rfl rfl rfl rfl (gO_of g46) dX8_readJudged_120 ?_
    refine fw_bm h (fun M55 h => ?_)
    refine fw_aload_n C 1 dX8_readJudged_123 rfl rfl ?_
    refine fw_aload_n C 0 dX8_readJudged_124 rfl rfl ?_
    refine fw_ldcS C (i := 28) (List.mem_of_getElem? (i := 14) rfl) dX8_readJudged_125 ?_
    refine fw_aload_n C 1 dX8_readJudged_127 rfl rfl ?_
    refine fw_getI C 6 10 (Nat.le_of_ble_eq_true rfl) (Nat.le_of_ble_eq_true rfl) wf_X8_176 rfl (gO_of g46) dX8_readJudged_128 ?_
    refine fw_aload_n C 1 dX8_readJudged_131 rfl rfl ?_
    refine fw_getI C 6 11 (Nat.le_of_ble_eq_true rfl) (Nat.le_of_ble_eq_true rfl) wf_X8_180 rfl (gO_of g46) dX8_readJudged_132 ?_
    refine fw_ior C dX8_readJudged_135 ?_
    obtain ⟨v56, M56, e56, h⟩ := b2_some h
    refine fw_callV (ci := 8) [_, _] C (c_X8_passSet hl e56) cal_X8_passSet wm_X8_149 wi_yX8_passSet wsl_yX8_passSet (Nat.le_of_ble_eq_true rfl) rfl (gO_of g41) rfl (Nat.le_of_ble_eq_true rfl) ⟨Nat.le_of_ble_eq_true rfl, Nat.le_of_ble_eq_true rfl⟩ ⟨Nat.zero_le _, Nat.zero_le _⟩ dX8_readJudged_136 ?_
    refine fw_putI C 6 12 (Nat.le_of_ble_eq_true rfl) (Nat.le_of_ble_eq_true rfl) wf_X8_184 rfl rfl rfl rfl (gO_of g46) dX8_readJudged_139 ?_
    refine fw_bm h (fun M57 h => ?_)
    obtain rfl := Option.some.inj h
    exact fw_vret C hr hlk dX8_readJudged_142
  · replace h := (if_neg c44).symm.trans h
    obtain rfl := Option.some.inj h
    exact fw_vret C hr hlk dX8_readJudged_74
set_option maxRecDepth 100000 in
def f_X8_readJudged (S : List fw_Sh) (M : fw_Mem) (a0 : Nat) : Option fw_Mem := gd (gO S 8 a0) (gd (gN (M a0 0)) (gd (gO S 7 ((M a0 0).toNatClampNeg)) (b1 (f_X7_advance S M ((M a0 0).toNatClampNeg)) (fun M3 => b2 (f_X8_passSuit S M3 a0 0) (fun v5 M5 => bn v5 (some M5) (fun w5 => gd (gO S 6 w5) (b2 (f_X8_passNumber S M5 a0 (M5 w5 3) 9999) (fun v7 M7 => gd (gN (M7 a0 0)) (gd (gO S 7 ((M7 a0 0).toNatClampNeg)) (b1 (f_X7_isWord S M7 ((M7 a0 0).toNatClampNeg) 1000016) (fun v9 => if v9 = 0 then (b1 (f_X7_isWord S M7 ((M7 a0 0).toNatClampNeg) 1000011) (fun v25 => if v25 = 0 then (b1 (f_X7_fail S M7 ((M7 a0 0).toNatClampNeg) 1) (fun M40 => fj_X8_readJudged_64 S M40 a0 w5 v7 v9)) else (if (M7 ((M7 a0 0).toNatClampNeg) 7) = 0 then (b1 (f_X6_decide S M7 w5 v7 v9) (fun M28 => gd (gN (M28 a0 0)) (gd (gO S 7 ((M28 a0 0).toNatClampNeg)) (b1 (f_X7_advance S M28 ((M28 a0 0).toNatClampNeg)) (fun M30 => b1 (f_X6_allIssues S M30 w5) (fun v32 => b2 (f_X8_passSet S M30 a0 1000031 v32) (fun v33 M33 => bm (fw_set M33 w5 10 v33) (fun M34 => b1 (f_X6_allIssues S M34 w5) (fun v35 => b2 (f_X8_passSet S M34 a0 1000019 (v35 &&& ((M34 w5 10) ^^^ (-1)))) (fun v36 M36 => bm (fw_set M36 w5 11 v36) (fun M37 => b2 (f_X8_passSet S M37 a0 1000029 ((M37 w5 10) ||| (M37 w5 11))) (fun v38 M38 => bm (fw_set M38 w5 12 v38) (fun M39 => some M39))))))))))))) else (some M7)))) else (if (M7 ((M7 a0 0).toNatClampNeg) 7) = 0 then (b1 (f_X6_decide S M7 w5 v7 v9) (fun M13 => gd (gN (M13 a0 0)) (gd (gO S 7 ((M13 a0 0).toNatClampNeg)) (b1 (f_X7_advance S M13 ((M13 a0 0).toNatClampNeg)) (fun M15 => b1 (f_X6_allIssues S M15 w5) (fun v17 => b2 (f_X8_passSet S M15 a0 1000031 v17) (fun v18 M18 => bm (fw_set M18 w5 10 v18) (fun M19 => b1 (f_X6_allIssues S M19 w5) (fun v20 => b2 (f_X8_passSet S M19 a0 1000019 (v20 &&& ((M19 w5 10) ^^^ (-1)))) (fun v21 M21 => bm (fw_set M21 w5 11 v21) (fun M22 => b2 (f_X8_passSet S M22 a0 1000029 ((M22 w5 10) ||| (M22 w5 11))) (fun v23 M23 => bm (fw_set M23 w5 12 v23) (fun M24 => some M24))))))))))))) else (some M7)))))))))))))
set_option maxHeartbeats 4000000 in
set_option maxRecDepth 100000 in
theorem c_X8_readJudged {l : Launch} {G : fw_G} {S : List fw_Sh} {M : fw_Mem} {a0 : Nat} {r : fw_Mem} (hl : l.stackTraces = false) (h : f_X8_readJudged S M a0 = some r) : fw_M l G yX8_readJudged (.code yX8_readJudged cX8_readJudged 4 none) 9 (fw_mcO (.inl none, S, r)) (fw_msO (.inl none, S, r)) S M [.ref a0] (.inl none, S, r) := by
  refine fw_of [(0, .ref a0)] (by decide) (Nat.le_of_ble_eq_true rfl) rfl ?_
  intro p e s m args below meth c C hr hlk hnm ht _
  unfold f_X8_readJudged at h
  refine fw_aload_n C 0 dX8_readJudged_0 rfl rfl ?_
  obtain ⟨g1, h⟩ := gd_some h
  obtain ⟨g2, h⟩ := gd_some h
  refine fw_getR C 8 0 (Nat.le_of_ble_eq_true rfl) (Nat.le_of_ble_eq_true rfl) wf_X8_9 rfl (gO_of g1) (gN_of g2) dX8_readJudged_1 ?_
  obtain ⟨g4, h⟩ := gd_some h
  obtain ⟨M3, e3, h⟩ := b1_some h
  refine fw_callV (ci := 7) [] C (c_X7_advance hl e3) cal_X7_advance wm_X8_91 wi_yX7_advance wsl_yX7_advance (Nat.le_of_ble_eq_true rfl) rfl (gO_of g4) rfl (Nat.le_of_ble_eq_true rfl) ⟨Nat.le_of_ble_eq_true rfl, Nat.le_of_ble_eq_true rfl⟩ ⟨Nat.zero_le _, Nat.zero_le _⟩ dX8_readJudged_4 ?_
  refine fw_aload_n C 0 dX8_readJudged_7 rfl rfl ?_
  refine fw_iconst C 0 dX8_readJudged_8 rfl ?_
  obtain ⟨v5, M5, e5, h⟩ := b2_some h
  rcases v5 with _ | w5
  · refine fw_callV (ci := 8) [_] C (c_X8_passSuit hl e5) cal_X8_passSuit wm_X8_163 wi_yX8_passSuit wsl_yX8_passSuit (Nat.le_of_ble_eq_true rfl) rfl (gO_of g1) rfl (Nat.le_of_ble_eq_true rfl) ⟨Nat.le_of_ble_eq_true rfl, Nat.le_of_ble_eq_true rfl⟩ ⟨Nat.zero_le _, Nat.zero_le _⟩ dX8_readJudged_9 ?_
    refine fw_astore_nN C [(1, _), (0, _)] dX8_readJudged_12 rfl (Nat.le_of_ble_eq_true rfl) rfl ?_
    refine fw_aload_nN C 0 dX8_readJudged_13 rfl rfl ?_
    refine fw_ifnonnullN C dX8_readJudged_14 ?_
    obtain rfl := Option.some.inj h
    exact fw_vret C hr hlk dX8_readJudged_17
  refine fw_callV (ci := 8) [_] C (c_X8_passSuit hl e5) cal_X8_passSuit wm_X8_163 wi_yX8_passSuit wsl_yX8_passSuit (Nat.le_of_ble_eq_true rfl) rfl (gO_of g1) rfl (Nat.le_of_ble_eq_true rfl) ⟨Nat.le_of_ble_eq_true rfl, Nat.le_of_ble_eq_true rfl⟩ ⟨Nat.zero_le _, Nat.zero_le _⟩ dX8_readJudged_9 ?_
  refine fw_astore_n C [(1, _), (0, _)] dX8_readJudged_12 rfl (Nat.le_of_ble_eq_true rfl) rfl ?_
  refine fw_aload_n C 0 dX8_readJudged_13 rfl rfl ?_
  refine fw_ifnonnull C 18 dX8_readJudged_14 (by decide) ?_
  refine fw_aload_n C 1 dX8_readJudged_18 rfl rfl ?_
  refine fw_aload_n C 0 dX8_readJudged_19 rfl rfl ?_
  obtain ⟨g6, h⟩ := gd_some h
  refine fw_getI C 6 3 (Nat.le_of_ble_eq_true rfl) (Nat.le_of_ble_eq_true rfl) wf_X8_143 rfl (gO_of g6) dX8_readJudged_20 ?_
  refine fw_sipush C 9999 dX8_readJudged_23 rfl ?_
  obtain ⟨v7, M7, e7, h⟩ := b2_some h
  refine fw_callV (ci := 8) [_, _] C (c_X8_passNumber hl e7) cal_X8_passNumber wm_X8_116 wi_yX8_passNumber wsl_yX8_passNumber (Nat.le_of_ble_eq_true rfl) rfl (gO_of g1) rfl (Nat.le_of_ble_eq_true rfl) ⟨Nat.le_of_ble_eq_true rfl, Nat.le_of_ble_eq_true rfl⟩ ⟨Nat.zero_le _, Nat.zero_le _⟩ dX8_readJudged_26 ?_
  refine fw_istore_n C [(2, _), (1, _), (0, _)] dX8_readJudged_29 rfl (Nat.le_of_ble_eq_true rfl) rfl ?_
  refine fw_aload_n C 2 dX8_readJudged_30 rfl rfl ?_
  obtain ⟨g8, h⟩ := gd_some h
  refine fw_getR C 8 0 (Nat.le_of_ble_eq_true rfl) (Nat.le_of_ble_eq_true rfl) wf_X8_9 rfl (gO_of g1) (gN_of g8) dX8_readJudged_31 ?_
  refine fw_ldcS C (i := 15) (List.mem_of_getElem? (i := 10) rfl) dX8_readJudged_34 ?_
  obtain ⟨g10, h⟩ := gd_some h
  obtain ⟨v9, e9, h⟩ := b1_some h
  refine fw_callV (ci := 7) [_] C (c_X7_isWord hl e9) cal_X7_isWord wm_X8_46 wi_yX7_isWord wsl_yX7_isWord (Nat.le_of_ble_eq_true rfl) rfl (gO_of g10) rfl (Nat.le_of_ble_eq_true rfl) ⟨Nat.le_of_ble_eq_true rfl, Nat.le_of_ble_eq_true rfl⟩ ⟨Nat.zero_le _, Nat.zero_le _⟩ dX8_readJudged_36 ?_
  refine fw_istore_n C [(3, _), (2, _), (1, _), (0, _)] dX8_readJudged_39 rfl (Nat.le_of_ble_eq_true rfl) rfl ?_
  refine fw_iload_n C 0 dX8_readJudged_40 rfl rfl ?_
  refine fw_if_ne C 64 dX8_readJudged_41 (by decide) (fun c11 => ?_) (fun c11 => ?_)
  · replace h := (if_neg c11).symm.trans h
    refine fw_aload_n C 3 dX8_readJudged_64 rfl rfl ?_
    refine fw_getR C 8 0 (Nat.le_of_ble_eq_true rfl) (Nat.le_of_ble_eq_true rfl) wf_X8_9 rfl (gO_of g1) (gN_of g8) dX8_readJudged_65 ?_
    refine fw_getI C 7 7 (Nat.le_of_ble_eq_true rfl) (Nat.le_of_ble_eq_true rfl) wf_X8_30 rfl (gO_of g10) dX8_readJudged_68 ?_
    refine fw_if_eq C 75 dX8_readJudged_71 (by decide) (fun c12 => ?_) (fun c12 => ?_)
    · replace h := (if_pos c12).symm.trans h
      refine fw_aload_n C 2 dX8_readJudged_75 rfl rfl ?_
      refine fw_iload_n C 1 dX8_readJudged_76 rfl rfl ?_
      refine fw_iload_n C 0 dX8_readJudged_77 rfl rfl ?_
      obtain ⟨M13, e13, h⟩ := b1_some h
      refine fw_callV (ci := 6) [_, _] C (c_X6_decide hl e13) cal_X6_decide wm_X8_131 wi_yX6_decide wsl_yX6_decide (Nat.le_of_ble_eq_true rfl) rfl (gO_of g6) rfl (Nat.le_of_ble_eq_true rfl) ⟨Nat.le_of_ble_eq_true rfl, Nat.le_of_ble_eq_true rfl⟩ ⟨Nat.zero_le _, Nat.zero_le _⟩ dX8_readJudged_78 ?_
      refine fw_aload_n C 3 dX8_readJudged_81 rfl rfl ?_
      obtain ⟨g14, h⟩ := gd_some h
      refine fw_getR C 8 0 (Nat.le_of_ble_eq_true rfl) (Nat.le_of_ble_eq_true rfl) wf_X8_9 rfl (gO_of g1) (gN_of g14) dX8_readJudged_82 ?_
      obtain ⟨g16, h⟩ := gd_some h
      obtain ⟨M15, e15, h⟩ := b1_some h
      refine fw_callV (ci := 7) [] C (c_X7_advance hl e15) cal_X7_advance wm_X8_91 wi_yX7_advance wsl_yX7_advance (Nat.le_of_ble_eq_true rfl) rfl (gO_of g16) rfl (Nat.le_of_ble_eq_true rfl) ⟨Nat.le_of_ble_eq_true rfl, Nat.le_of_ble_eq_true rfl⟩ ⟨Nat.zero_le _, Nat.zero_le _⟩ dX8_readJudged_85 ?_
      refine fw_aload_n C 2 dX8_readJudged_88 rfl rfl ?_
      refine fw_aload_n C 3 dX8_readJudged_89 rfl rfl ?_
      refine fw_ldcS C (i := 30) (List.mem_of_getElem? (i := 12) rfl) dX8_readJudged_90 ?_
      refine fw_aload_n C 2 dX8_readJudged_92 rfl rfl ?_
      obtain ⟨v17, e17, h⟩ := b1_some h
      refine fw_callV (ci := 6) [] C (c_X6_allIssues hl e17) cal_X6_allIssues wm_X8_173 wi_yX6_allIssues wsl_yX6_allIssues (Nat.le_of_ble_eq_true rfl) rfl (gO_of g6) rfl (Nat.le_of_ble_eq_true rfl) ⟨Nat.le_of_ble_eq_true rfl, Nat.le_of_ble_eq_true rfl⟩ ⟨Nat.zero_le _, Nat.zero_le _⟩ dX8_readJudged_93 ?_
      obtain ⟨v18, M18, e18, h⟩ := b2_some h
      refine fw_callV (ci := 8) [_, _] C (c_X8_passSet hl e18) cal_X8_passSet wm_X8_149 wi_yX8_passSet wsl_yX8_passSet (Nat.le_of_ble_eq_true rfl) rfl (gO_of g1) rfl (Nat.le_of_ble_eq_true rfl) ⟨Nat.le_of_ble_eq_true rfl, Nat.le_of_ble_eq_true rfl⟩ ⟨Nat.zero_le _, Nat.zero_le _⟩ dX8_readJudged_96 ?_
      refine fw_putI C 6 10 (Nat.le_of_ble_eq_true rfl) (Nat.le_of_ble_eq_true rfl) wf_X8_176 rfl rfl rfl rfl (gO_of g6) dX8_readJudged_99 ?_
      refine fw_bm h (fun M19 h => ?_)
      refine fw_aload_n C 2 dX8_readJudged_102 rfl rfl ?_
      refine fw_aload_n C 3 dX8_readJudged_103 rfl rfl ?_
      refine fw_ldcS C (i := 18) (List.mem_of_getElem? (i := 13) rfl) dX8_readJudged_104 ?_
      refine fw_aload_n C 2 dX8_readJudged_106 rfl rfl ?_
      obtain ⟨v20, e20, h⟩ := b1_some h
      refine fw_callV (ci := 6) [] C (c_X6_allIssues hl e20) cal_X6_allIssues wm_X8_173 wi_yX6_allIssues wsl_yX6_allIssues (Nat.le_of_ble_eq_true rfl) rfl (gO_of g6) rfl (Nat.le_of_ble_eq_true rfl) ⟨Nat.le_of_ble_eq_true rfl, Nat.le_of_ble_eq_true rfl⟩ ⟨Nat.zero_le _, Nat.zero_le _⟩ dX8_readJudged_107 ?_
      refine fw_aload_n C 2 dX8_readJudged_110 rfl rfl ?_
      refine fw_getI C 6 10 (Nat.le_of_ble_eq_true rfl) (Nat.le_of_ble_eq_true rfl) wf_X8_176 rfl (gO_of g6) dX8_readJudged_111 ?_
      refine fw_iconst C (-1) dX8_readJudged_114 rfl ?_
      refine fw_ixor C dX8_readJudged_115 ?_
      refine fw_iand C dX8_readJudged_116 ?_
      obtain ⟨v21, M21, e21, h⟩ := b2_some h
      refine fw_callV (ci := 8) [_, _] C (c_X8_passSet hl e21) cal_X8_passSet wm_X8_149 wi_yX8_passSet wsl_yX8_passSet (Nat.le_of_ble_eq_true rfl) rfl (gO_of g1) rfl (Nat.le_of_ble_eq_true rfl) ⟨Nat.le_of_ble_eq_true rfl, Nat.le_of_ble_eq_true rfl⟩ ⟨Nat.zero_le _, Nat.zero_le _⟩ dX8_readJudged_117 ?_
      refine fw_putI C 6 11 (Nat.le_of_ble_eq_true rfl) (Nat.le_of_ble_eq_true rfl) wf_X8_180 rfl rfl rfl rfl (gO_of g6) dX8_readJudged_120 ?_
      refine fw_bm h (fun M22 h => ?_)
      refine fw_aload_n C 2 dX8_readJudged_123 rfl rfl ?_
      refine fw_aload_n C 3 dX8_readJudged_124 rfl rfl ?_
      refine fw_ldcS C (i := 28) (List.mem_of_getElem? (i := 14) rfl) dX8_readJudged_125 ?_
      refine fw_aload_n C 2 dX8_readJudged_127 rfl rfl ?_
      refine fw_getI C 6 10 (Nat.le_of_ble_eq_true rfl) (Nat.le_of_ble_eq_true rfl) wf_X8_176 rfl (gO_of g6) dX8_readJudged_128 ?_
      refine fw_aload_n C 2 dX8_readJudged_131 rfl rfl ?_
      refine fw_getI C 6 11 (Nat.le_of_ble_eq_true rfl) (Nat.le_of_ble_eq_true rfl) wf_X8_180 rfl (gO_of g6) dX8_readJudged_132 ?_
      refine fw_ior C dX8_readJudged_135 ?_
      obtain ⟨v23, M23, e23, h⟩ := b2_some h
      refine fw_callV (ci := 8) [_, _] C (c_X8_passSet hl e23) cal_X8_passSet wm_X8_149 wi_yX8_passSet wsl_yX8_passSet (Nat.le_of_ble_eq_true rfl) rfl (gO_of g1) rfl (Nat.le_of_ble_eq_true rfl) ⟨Nat.le_of_ble_eq_true rfl, Nat.le_of_ble_eq_true rfl⟩ ⟨Nat.zero_le _, Nat.zero_le _⟩ dX8_readJudged_136 ?_
      refine fw_putI C 6 12 (Nat.le_of_ble_eq_true rfl) (Nat.le_of_ble_eq_true rfl) wf_X8_184 rfl rfl rfl rfl (gO_of g6) dX8_readJudged_139 ?_
      refine fw_bm h (fun M24 h => ?_)
      obtain rfl := Option.some.inj h
      exact fw_vret C hr hlk dX8_readJudged_142
    · replace h := (if_neg c12).symm.trans h
      obtain rfl := Option.some.inj h
      exact fw_vret C hr hlk dX8_readJudged_74
  · replace h := (if_pos c11).symm.trans h
    refine fw_aload_n C 3 dX8_readJudged_44 rfl rfl ?_
    refine fw_getR C 8 0 (Nat.le_of_ble_eq_true rfl) (Nat.le_of_ble_eq_true rfl) wf_X8_9 rfl (gO_of g1) (gN_of g8) dX8_readJudged_45 ?_
    refine fw_ldcS C (i := 10) (List.mem_of_getElem? (i := 11) rfl) dX8_readJudged_48 ?_
    obtain ⟨v25, e25, h⟩ := b1_some h
    refine fw_callV (ci := 7) [_] C (c_X7_isWord hl e25) cal_X7_isWord wm_X8_46 wi_yX7_isWord wsl_yX7_isWord (Nat.le_of_ble_eq_true rfl) rfl (gO_of g10) rfl (Nat.le_of_ble_eq_true rfl) ⟨Nat.le_of_ble_eq_true rfl, Nat.le_of_ble_eq_true rfl⟩ ⟨Nat.zero_le _, Nat.zero_le _⟩ dX8_readJudged_50 ?_
    refine fw_if_ne C 64 dX8_readJudged_53 (by decide) (fun c26 => ?_) (fun c26 => ?_)
    · replace h := (if_neg c26).symm.trans h
      refine fw_aload_n C 3 dX8_readJudged_64 rfl rfl ?_
      refine fw_getR C 8 0 (Nat.le_of_ble_eq_true rfl) (Nat.le_of_ble_eq_true rfl) wf_X8_9 rfl (gO_of g1) (gN_of g8) dX8_readJudged_65 ?_
      refine fw_getI C 7 7 (Nat.le_of_ble_eq_true rfl) (Nat.le_of_ble_eq_true rfl) wf_X8_30 rfl (gO_of g10) dX8_readJudged_68 ?_
      refine fw_if_eq C 75 dX8_readJudged_71 (by decide) (fun c27 => ?_) (fun c27 => ?_)
      · replace h := (if_pos c27).symm.trans h
        refine fw_aload_n C 2 dX8_readJudged_75 rfl rfl ?_
        refine fw_iload_n C 1 dX8_readJudged_76 rfl rfl ?_
        refine fw_iload_n C 0 dX8_readJudged_77 rfl rfl ?_
        obtain ⟨M28, e28, h⟩ := b1_some h
        refine fw_callV (ci := 6) [_, _] C (c_X6_decide hl e28) cal_X6_decide wm_X8_131 wi_yX6_decide wsl_yX6_decide (Nat.le_of_ble_eq_true rfl) rfl (gO_of g6) rfl (Nat.le_of_ble_eq_true rfl) ⟨Nat.le_of_ble_eq_true rfl, Nat.le_of_ble_eq_true rfl⟩ ⟨Nat.zero_le _, Nat.zero_le _⟩ dX8_readJudged_78 ?_
        refine fw_aload_n C 3 dX8_readJudged_81 rfl rfl ?_
        obtain ⟨g29, h⟩ := gd_some h
        refine fw_getR C 8 0 (Nat.le_of_ble_eq_true rfl) (Nat.le_of_ble_eq_true rfl) wf_X8_9 rfl (gO_of g1) (gN_of g29) dX8_readJudged_82 ?_
        obtain ⟨g31, h⟩ := gd_some h
        obtain ⟨M30, e30, h⟩ := b1_some h
        refine fw_callV (ci := 7) [] C (c_X7_advance hl e30) cal_X7_advance wm_X8_91 wi_yX7_advance wsl_yX7_advance (Nat.le_of_ble_eq_true rfl) rfl (gO_of g31) rfl (Nat.le_of_ble_eq_true rfl) ⟨Nat.le_of_ble_eq_true rfl, Nat.le_of_ble_eq_true rfl⟩ ⟨Nat.zero_le _, Nat.zero_le _⟩ dX8_readJudged_85 ?_
        refine fw_aload_n C 2 dX8_readJudged_88 rfl rfl ?_
        refine fw_aload_n C 3 dX8_readJudged_89 rfl rfl ?_
        refine fw_ldcS C (i := 30) (List.mem_of_getElem? (i := 12) rfl) dX8_readJudged_90 ?_
        refine fw_aload_n C 2 dX8_readJudged_92 rfl rfl ?_
        obtain ⟨v32, e32, h⟩ := b1_some h
        refine fw_callV (ci := 6) [] C (c_X6_allIssues hl e32) cal_X6_allIssues wm_X8_173 wi_yX6_allIssues wsl_yX6_allIssues (Nat.le_of_ble_eq_true rfl) rfl (gO_of g6) rfl (Nat.le_of_ble_eq_true rfl) ⟨Nat.le_of_ble_eq_true rfl, Nat.le_of_ble_eq_true rfl⟩ ⟨Nat.zero_le _, Nat.zero_le _⟩ dX8_readJudged_93 ?_
        obtain ⟨v33, M33, e33, h⟩ := b2_some h
        refine fw_callV (ci := 8) [_, _] C (c_X8_passSet hl e33) cal_X8_passSet wm_X8_149 wi_yX8_passSet wsl_yX8_passSet (Nat.le_of_ble_eq_true rfl) rfl (gO_of g1) rfl (Nat.le_of_ble_eq_true rfl) ⟨Nat.le_of_ble_eq_true rfl, Nat.le_of_ble_eq_true rfl⟩ ⟨Nat.zero_le _, Nat.zero_le _⟩ dX8_readJudged_96 ?_
        refine fw_putI C 6 10 (Nat.le_of_ble_eq_true rfl) (Nat.le_of_ble_eq_true rfl) wf_X8_176 rfl rfl rfl rfl (gO_of g6) dX8_readJudged_99 ?_
        refine fw_bm h (fun M34 h => ?_)
        refine fw_aload_n C 2 dX8_readJudged_102 rfl rfl ?_
        refine fw_aload_n C 3 dX8_readJudged_103 rfl rfl ?_
        refine fw_ldcS C (i := 18) (List.mem_of_getElem? (i := 13) rfl) dX8_readJudged_104 ?_
        refine fw_aload_n C 2 dX8_readJudged_106 rfl rfl ?_
        obtain ⟨v35, e35, h⟩ := b1_some h
        refine fw_callV (ci := 6) [] C (c_X6_allIssues hl e35) cal_X6_allIssues wm_X8_173 wi_yX6_allIssues wsl_yX6_allIssues (Nat.le_of_ble_eq_true rfl) rfl (gO_of g6) rfl (Nat.le_of_ble_eq_true rfl) ⟨Nat.le_of_ble_eq_true rfl, Nat.le_of_ble_eq_true rfl⟩ ⟨Nat.zero_le _, Nat.zero_le _⟩ dX8_readJudged_107 ?_
        refine fw_aload_n C 2 dX8_readJudged_110 rfl rfl ?_
        refine fw_getI C 6 10 (Nat.le_of_ble_eq_true rfl) (Nat.le_of_ble_eq_true rfl) wf_X8_176 rfl (gO_of g6) dX8_readJudged_111 ?_
        refine fw_iconst C (-1) dX8_readJudged_114 rfl ?_
        refine fw_ixor C dX8_readJudged_115 ?_
        refine fw_iand C dX8_readJudged_116 ?_
        obtain ⟨v36, M36, e36, h⟩ := b2_some h
        refine fw_callV (ci := 8) [_, _] C (c_X8_passSet hl e36) cal_X8_passSet wm_X8_149 wi_yX8_passSet wsl_yX8_passSet (Nat.le_of_ble_eq_true rfl) rfl (gO_of g1) rfl (Nat.le_of_ble_eq_true rfl) ⟨Nat.le_of_ble_eq_true rfl, Nat.le_of_ble_eq_true rfl⟩ ⟨Nat.zero_le _, Nat.zero_le _⟩ dX8_readJudged_117 ?_
        refine fw_putI C 6 11 (Nat.le_of_ble_eq_true rfl) (Nat.le_of_ble_eq_true rfl) wf_X8_180 rfl rfl rfl rfl (gO_of g6) dX8_readJudged_120 ?_
        refine fw_bm h (fun M37 h => ?_)
        refine fw_aload_n C 2 dX8_readJudged_123 rfl rfl ?_
        refine fw_aload_n C 3 dX8_readJudged_124 rfl rfl ?_
        refine fw_ldcS C (i := 28) (List.mem_of_getElem? (i := 14) rfl) dX8_readJudged_125 ?_
        refine fw_aload_n C 2 dX8_readJudged_127 rfl rfl ?_
        refine fw_getI C 6 10 (Nat.le_of_ble_eq_true rfl) (Nat.le_of_ble_eq_true rfl) wf_X8_176 rfl (gO_of g6) dX8_readJudged_128 ?_
        refine fw_aload_n C 2 dX8_readJudged_131 rfl rfl ?_
        refine fw_getI C 6 11 (Nat.le_of_ble_eq_true rfl) (Nat.le_of_ble_eq_true rfl) wf_X8_180 rfl (gO_of g6) dX8_readJudged_132 ?_
        refine fw_ior C dX8_readJudged_135 ?_
        obtain ⟨v38, M38, e38, h⟩ := b2_some h
        refine fw_callV (ci := 8) [_, _] C (c_X8_passSet hl e38) cal_X8_passSet wm_X8_149 wi_yX8_passSet wsl_yX8_passSet (Nat.le_of_ble_eq_true rfl) rfl (gO_of g1) rfl (Nat.le_of_ble_eq_true rfl) ⟨Nat.le_of_ble_eq_true rfl, Nat.le_of_ble_eq_true rfl⟩ ⟨Nat.zero_le _, Nat.zero_le _⟩ dX8_readJudged_136 ?_
        refine fw_putI C 6 12 (Nat.le_of_ble_eq_true rfl) (Nat.le_of_ble_eq_true rfl) wf_X8_184 rfl rfl rfl rfl (gO_of g6) dX8_readJudged_139 ?_
        refine fw_bm h (fun M39 h => ?_)
        obtain rfl := Option.some.inj h
        exact fw_vret C hr hlk dX8_readJudged_142
      · replace h := (if_neg c27).symm.trans h
        obtain rfl := Option.some.inj h
        exact fw_vret C hr hlk dX8_readJudged_74
    · replace h := (if_pos c26).symm.trans h
      refine fw_aload_n C 3 dX8_readJudged_56 rfl rfl ?_
      refine fw_getR C 8 0 (Nat.le_of_ble_eq_true rfl) (Nat.le_of_ble_eq_true rfl) wf_X8_9 rfl (gO_of g1) (gN_of g8) dX8_readJudged_57 ?_
      refine fw_iconst C 1 dX8_readJudged_60 rfl ?_
      obtain ⟨M40, e40, h⟩ := b1_some h
      refine fw_callV (ci := 7) [_] C (c_X7_fail hl e40) cal_X7_fail wm_X8_85 wi_yX7_fail wsl_yX7_fail (Nat.le_of_ble_eq_true rfl) rfl (gO_of g10) rfl (Nat.le_of_ble_eq_true rfl) ⟨Nat.le_of_ble_eq_true rfl, Nat.le_of_ble_eq_true rfl⟩ ⟨Nat.zero_le _, Nat.zero_le _⟩ dX8_readJudged_61 ?_
      refine fw_sub [3, 2, 1, 0] rfl ?_
      exact jc_X8_readJudged_64 C hr hlk hl ht rfl h
