set_option maxRecDepth 100000 in
def f_X4_clear (S : List fw_Sh) (M : fw_Mem) (a0 : Nat) : Option fw_Mem := gd (gO S 4 a0) (bm (fw_set M a0 4 0) (fun M2 => bm (fw_set M2 a0 5 0) (fun M3 => bm (fw_set M3 a0 6 0) (fun M4 => gd (gN (M4 a0 3)) (gd (gA S 0 ((M4 a0 3).toNatClampNeg) 0) (bm (fw_set M4 ((M4 a0 3).toNatClampNeg) 0 50) (fun M7 => gd (gN (M7 a0 3)) (gd (gA S 0 ((M7 a0 3).toNatClampNeg) 1) (bm (fw_set M7 ((M7 a0 3).toNatClampNeg) 1 0) (fun M10 => gd (gN (M10 a0 3)) (gd (gA S 0 ((M10 a0 3).toNatClampNeg) 2) (bm (fw_set M10 ((M10 a0 3).toNatClampNeg) 2 0) (fun M13 => some M13)))))))))))))
theorem cal_X4_clear : fw_cal yX4_clear (.code yX4_clear cX4_clear 1 none) 0 := ⟨wc_yX4_clear, wini_X4, by decide, by decide, by decide +kernel⟩
set_option maxHeartbeats 4000000 in
set_option maxRecDepth 100000 in
theorem c_X4_clear {l : Launch} {G : fw_G} {S : List fw_Sh} {M : fw_Mem} {a0 : Nat} {r : fw_Mem} (hl : l.stackTraces = false) (h : f_X4_clear S M a0 = some r) : fw_M l G yX4_clear (.code yX4_clear cX4_clear 1 none) 1 (fw_mcO (.inl none, S, r)) (fw_msO (.inl none, S, r)) S M [.ref a0] (.inl none, S, r) := by
  refine fw_of [(0, .ref a0)] (by decide) (Nat.le_of_ble_eq_true rfl) rfl ?_
  intro p e s m args below meth c C hr hlk hnm ht _
  unfold f_X4_clear at h
  refine fw_aload_n C 0 dX4_clear_0 rfl rfl ?_
  refine fw_iconst C 0 dX4_clear_1 rfl ?_
  obtain ⟨g1, h⟩ := gd_some h
  refine fw_putI C 4 4 (Nat.le_of_ble_eq_true rfl) (Nat.le_of_ble_eq_true rfl) wf_X4_37 rfl rfl rfl rfl (gO_of g1) dX4_clear_2 ?_
  refine fw_bm h (fun M2 h => ?_)
  refine fw_aload_n C 0 dX4_clear_5 rfl rfl ?_
  refine fw_iconst C 0 dX4_clear_6 rfl ?_
  refine fw_putI C 4 5 (Nat.le_of_ble_eq_true rfl) (Nat.le_of_ble_eq_true rfl) wf_X4_41 rfl rfl rfl rfl (gO_of g1) dX4_clear_7 ?_
  refine fw_bm h (fun M3 h => ?_)
  refine fw_aload_n C 0 dX4_clear_10 rfl rfl ?_
  refine fw_iconst C 0 dX4_clear_11 rfl ?_
  refine fw_putI C 4 6 (Nat.le_of_ble_eq_true rfl) (Nat.le_of_ble_eq_true rfl) wf_X4_44 rfl rfl rfl rfl (gO_of g1) dX4_clear_12 ?_
  refine fw_bm h (fun M4 h => ?_)
  refine fw_aload_n C 0 dX4_clear_15 rfl rfl ?_
  obtain ⟨g5, h⟩ := gd_some h
  refine fw_getR C 4 3 (Nat.le_of_ble_eq_true rfl) (Nat.le_of_ble_eq_true rfl) wf_X4_27 rfl (gO_of g1) (gN_of g5) dX4_clear_16 ?_
  refine fw_iconst C 0 dX4_clear_19 rfl ?_
  refine fw_bipush C 50 dX4_clear_20 rfl ?_
  obtain ⟨g6, h⟩ := gd_some h
  refine fw_iast C (gA_of g6) dX4_clear_22 ?_
  refine fw_bm h (fun M7 h => ?_)
  refine fw_aload_n C 0 dX4_clear_23 rfl rfl ?_
  obtain ⟨g8, h⟩ := gd_some h
  refine fw_getR C 4 3 (Nat.le_of_ble_eq_true rfl) (Nat.le_of_ble_eq_true rfl) wf_X4_27 rfl (gO_of g1) (gN_of g8) dX4_clear_24 ?_
  refine fw_iconst C 1 dX4_clear_27 rfl ?_
  refine fw_iconst C 0 dX4_clear_28 rfl ?_
  obtain ⟨g9, h⟩ := gd_some h
  refine fw_iast C (gA_of g9) dX4_clear_29 ?_
  refine fw_bm h (fun M10 h => ?_)
  refine fw_aload_n C 0 dX4_clear_30 rfl rfl ?_
  obtain ⟨g11, h⟩ := gd_some h
  refine fw_getR C 4 3 (Nat.le_of_ble_eq_true rfl) (Nat.le_of_ble_eq_true rfl) wf_X4_27 rfl (gO_of g1) (gN_of g11) dX4_clear_31 ?_
  refine fw_iconst C 2 dX4_clear_34 rfl ?_
  refine fw_iconst C 0 dX4_clear_35 rfl ?_
  obtain ⟨g12, h⟩ := gd_some h
  refine fw_iast C (gA_of g12) dX4_clear_36 ?_
  refine fw_bm h (fun M13 h => ?_)
  cases h
  exact fw_vret C hr hlk dX4_clear_37
set_option maxRecDepth 100000 in
def lf_X7_take_3 (S : List fw_Sh) (a0 : Nat) (x1 : Int32) : Nat → Int32 → fw_Mem → Option (fw_Mem)
  | 0, _, _ => none
  | n + 1, x2, M => if x2 < 0 then (some M) else (gd (gO S 7 a0) (if (600 : Int32) ≤ (M a0 1) then (some M) else (gd (gN (M a0 0)) (gd (gA S 1 ((M a0 0).toNatClampNeg) (M a0 1)) (bm (fw_set M ((M a0 0).toNatClampNeg) (M a0 1).toNatClampNeg (vp_nar .byte ((x1 >>> (x2 &&& 31) : Int32).toInt8.toInt32))) (fun M6 => bm (fw_set M6 a0 1 ((M6 a0 1) + 1)) (fun M7 => lf_X7_take_3 S a0 x1 n (x2 + (-8)) M7)))))))
set_option maxHeartbeats 4000000 in
set_option maxRecDepth 100000 in
theorem lc_X7_take_3 {G : fw_G} {p : Program} {l : Launch} {e : Env} {s : State} {m : MethodId} {args : Array Value} {below : List Frame} {meth : Method} {c : Code} {S : List fw_Sh} {o : fw_O} {a0 : Nat} {x1 : Int32} (C : fw_C G RX7 cX7_take 3 p s m args c) (hr : meth.sig.returnType = none) (hlk : meth.locks = false) (hl : l.stackTraces = false) (ht : ∀ x ∈ c.exceptionTable.toList, False) :
    ∀ {n : Nat} {x2 : Int32} {M : fw_Mem} {r : (fw_Mem)} (h : lf_X7_take_3 S a0 x1 n x2 M = some r) (kx : fw_W G p l e (fw_rm 1 (fw_mcO o) (fw_msO o)) s m args below meth c 3 (fw_Z G below args s (fw_mcO o) (fw_msO o) o) 0 0 46 [] [] S r), fw_W G p l e (fw_rm 1 (fw_mcO o) (fw_msO o)) s m args below meth c 3 (fw_Z G below args s (fw_mcO o) (fw_msO o) o) 0 0 3 [(0, .ref a0), (1, .int x1), (2, .int x2)] [] S M := by
  intro n
  induction n with
  | zero =>
    intro x2 M r h
    exact nomatch (show (none : Option (fw_Mem)) = some r from h)
  | succ n ih =>
    intro x2 M r h kx
    rw [lf_X7_take_3.eq_2] at h
    refine fw_iload_n C 2 dX7_take_3 rfl rfl ?_
    refine fw_if_lt C 46 dX7_take_4 (by decide) (fun c1 => ?_) (fun c1 => ?_)
    · replace h := (if_pos c1).symm.trans h
      cases h
      refine fw_sub [] rfl ?_
      exact kx
    · replace h := (if_neg c1).symm.trans h
      refine fw_aload_n C 0 dX7_take_7 rfl rfl ?_
      obtain ⟨g2, h⟩ := gd_some h
      refine fw_getI C 7 1 (Nat.le_of_ble_eq_true rfl) (Nat.le_of_ble_eq_true rfl) wf_X7_19 rfl (gO_of g2) dX7_take_8 ?_
      refine fw_sipush C 600 dX7_take_11 rfl ?_
      refine fw_icmp_ge C 46 dX7_take_14 (by decide) (fun c3 => ?_) (fun c3 => ?_)
      · replace h := (if_pos c3).symm.trans h
        cases h
        refine fw_sub [] rfl ?_
        exact kx
      · replace h := (if_neg c3).symm.trans h
        refine fw_aload_n C 0 dX7_take_17 rfl rfl ?_
        obtain ⟨g4, h⟩ := gd_some h
        refine fw_getR C 7 0 (Nat.le_of_ble_eq_true rfl) (Nat.le_of_ble_eq_true rfl) wf_X7_9 rfl (gO_of g2) (gN_of g4) dX7_take_18 ?_
        refine fw_aload_n C 0 dX7_take_21 rfl rfl ?_
        refine fw_getI C 7 1 (Nat.le_of_ble_eq_true rfl) (Nat.le_of_ble_eq_true rfl) wf_X7_19 rfl (gO_of g2) dX7_take_22 ?_
        refine fw_iload_n C 1 dX7_take_25 rfl rfl ?_
        refine fw_iload_n C 2 dX7_take_26 rfl rfl ?_
        refine fw_ishr C dX7_take_27 ?_
        refine fw_i2b C dX7_take_28 ?_
        obtain ⟨g5, h⟩ := gd_some h
        refine fw_bast C (gA_of g5) dX7_take_29 ?_
        refine fw_bm h (fun M6 h => ?_)
        refine fw_aload_n C 0 dX7_take_30 rfl rfl ?_
        refine fw_dup C dX7_take_31 rfl ?_
        refine fw_getI C 7 1 (Nat.le_of_ble_eq_true rfl) (Nat.le_of_ble_eq_true rfl) wf_X7_19 rfl (gO_of g2) dX7_take_32 ?_
        refine fw_iconst C 1 dX7_take_35 rfl ?_
        refine fw_iadd C dX7_take_36 ?_
        refine fw_putI C 7 1 (Nat.le_of_ble_eq_true rfl) (Nat.le_of_ble_eq_true rfl) wf_X7_19 rfl rfl rfl rfl (gO_of g2) dX7_take_37 ?_
        refine fw_bm h (fun M7 h => ?_)
        refine fw_iinc C _ 2 [(2, _), (0, _), (1, _)] dX7_take_40 rfl rfl (Nat.le_of_ble_eq_true rfl) rfl ?_
        refine fw_goto C 3 dX7_take_43 (by decide) ?_
        refine fw_sub [1, 2, 0] rfl ?_
        exact ih h kx
set_option maxRecDepth 100000 in
def f_X7_take (S : List fw_Sh) (M : fw_Mem) (a0 : Nat) (x1 : Int32) : Option fw_Mem := b1 (lf_X7_take_3 S a0 x1 20000 24 M) (fun l8 => some l8)
theorem cal_X7_take : fw_cal yX7_take (.code yX7_take cX7_take 3 none) 1 := ⟨wc_yX7_take, wini_X7, by decide, by decide, by decide +kernel⟩
set_option maxHeartbeats 4000000 in
set_option maxRecDepth 100000 in
theorem c_X7_take {l : Launch} {G : fw_G} {S : List fw_Sh} {M : fw_Mem} {a0 : Nat} {x1 : Int32} {r : fw_Mem} (hl : l.stackTraces = false) (h : f_X7_take S M a0 x1 = some r) : fw_M l G yX7_take (.code yX7_take cX7_take 3 none) 1 (fw_mcO (.inl none, S, r)) (fw_msO (.inl none, S, r)) S M [.ref a0, .int x1] (.inl none, S, r) := by
  refine fw_of [(0, .ref a0), (1, .int x1)] (by decide) (Nat.le_of_ble_eq_true rfl) rfl ?_
  intro p e s m args below meth c C hr hlk hnm ht _
  unfold f_X7_take at h
  refine fw_bipush C 24 dX7_take_0 rfl ?_
  refine fw_istore_n C [(2, _), (0, _), (1, _)] dX7_take_2 rfl (Nat.le_of_ble_eq_true rfl) rfl ?_
  refine fw_sub [1, 2, 0] rfl ?_
  obtain ⟨l8, e8, h⟩ := b1_some h
  refine lc_X7_take_3 C hr hlk hl ht e8 ?_
  cases h
  exact fw_vret C hr hlk dX7_take_46
set_option maxRecDepth 100000 in
def f_X9_feed (S : List fw_Sh) (M : fw_Mem) (a0 : Nat) (x1 : Int32) (x2 : Int32) (x3 : Int32) (x4 : Int32) (x5 : Int32) : Option (Int32 × fw_Mem) := gd (gO S 9 a0) (gd (gN (M a0 0)) (gd (gO S 7 ((M a0 0).toNatClampNeg)) (if (M ((M a0 0).toNatClampNeg) 1) ≤ 580 then (b1 (f_X7_take S M ((M a0 0).toNatClampNeg) x1) (fun M5 => gd (gN (M5 a0 0)) (gd (gO S 7 ((M5 a0 0).toNatClampNeg)) (b1 (f_X7_take S M5 ((M5 a0 0).toNatClampNeg) x2) (fun M7 => gd (gN (M7 a0 0)) (gd (gO S 7 ((M7 a0 0).toNatClampNeg)) (b1 (f_X7_take S M7 ((M7 a0 0).toNatClampNeg) x3) (fun M10 => gd (gN (M10 a0 0)) (gd (gO S 7 ((M10 a0 0).toNatClampNeg)) (b1 (f_X7_take S M10 ((M10 a0 0).toNatClampNeg) x4) (fun M13 => gd (gN (M13 a0 0)) (gd (gO S 7 ((M13 a0 0).toNatClampNeg)) (b1 (f_X7_take S M13 ((M13 a0 0).toNatClampNeg) x5) (fun M16 => gd (gN (M16 a0 0)) (gd (gO S 7 ((M16 a0 0).toNatClampNeg)) (some ((M16 ((M16 a0 0).toNatClampNeg) 1), M16))))))))))))))))) else (some ((-1), M)))))
theorem cal_X9_feed : fw_cal yX9_feed (.code yX9_feed cX9_feed 6 (some .int)) 5 := ⟨wc_yX9_feed, wini_X9, by decide, by decide, by decide +kernel⟩
set_option maxHeartbeats 4000000 in
set_option maxRecDepth 100000 in
theorem c_X9_feed {l : Launch} {G : fw_G} {S : List fw_Sh} {M : fw_Mem} {a0 : Nat} {x1 : Int32} {x2 : Int32} {x3 : Int32} {x4 : Int32} {x5 : Int32} {r : (Int32 × fw_Mem)} (hl : l.stackTraces = false) (h : f_X9_feed S M a0 x1 x2 x3 x4 x5 = some r) : fw_M l G yX9_feed (.code yX9_feed cX9_feed 6 (some .int)) 2 (fw_mcO (.inl (some (.int r.1)), S, r.2)) (fw_msO (.inl (some (.int r.1)), S, r.2)) S M [.ref a0, .int x1, .int x2, .int x3, .int x4, .int x5] (.inl (some (.int r.1)), S, r.2) := by
  refine fw_of [(0, .ref a0), (1, .int x1), (2, .int x2), (3, .int x3), (4, .int x4), (5, .int x5)] (by decide) (Nat.le_of_ble_eq_true rfl) rfl ?_
  intro p e s m args below meth c C hr hlk hnm ht _
  unfold f_X9_feed at h
  refine fw_aload_n C 0 dX9_feed_0 rfl rfl ?_
  obtain ⟨g1, h⟩ := gd_some h
  obtain ⟨g2, h⟩ := gd_some h
  refine fw_getR C 9 0 (Nat.le_of_ble_eq_true rfl) (Nat.le_of_ble_eq_true rfl) wf_X9_12 rfl (gO_of g1) (gN_of g2) dX9_feed_1 ?_
  obtain ⟨g3, h⟩ := gd_some h
  refine fw_getI C 7 1 (Nat.le_of_ble_eq_true rfl) (Nat.le_of_ble_eq_true rfl) wf_X9_85 rfl (gO_of g3) dX9_feed_4 ?_
  refine fw_sipush C 580 dX9_feed_7 rfl ?_
  refine fw_icmp_le C 15 dX9_feed_10 (by decide) (fun c4 => ?_) (fun c4 => ?_)
  · replace h := (if_pos c4).symm.trans h
    refine fw_aload_n C 0 dX9_feed_15 rfl rfl ?_
    refine fw_getR C 9 0 (Nat.le_of_ble_eq_true rfl) (Nat.le_of_ble_eq_true rfl) wf_X9_12 rfl (gO_of g1) (gN_of g2) dX9_feed_16 ?_
    refine fw_iload_n C 1 dX9_feed_19 rfl rfl ?_
    obtain ⟨M5, e5, h⟩ := b1_some h
    refine fw_callV (ci := 7) [_] C (c_X7_take hl e5) cal_X7_take wm_X9_89 wi_yX7_take wsl_yX7_take (Nat.le_of_ble_eq_true rfl) rfl (gO_of g3) rfl (Nat.le_of_ble_eq_true rfl) ⟨Nat.le_of_ble_eq_true rfl, Nat.le_of_ble_eq_true rfl⟩ ⟨Nat.zero_le _, Nat.zero_le _⟩ dX9_feed_20 ?_
    refine fw_aload_n C 0 dX9_feed_23 rfl rfl ?_
    obtain ⟨g6, h⟩ := gd_some h
    refine fw_getR C 9 0 (Nat.le_of_ble_eq_true rfl) (Nat.le_of_ble_eq_true rfl) wf_X9_12 rfl (gO_of g1) (gN_of g6) dX9_feed_24 ?_
    refine fw_iload_n C 2 dX9_feed_27 rfl rfl ?_
    obtain ⟨g8, h⟩ := gd_some h
    obtain ⟨M7, e7, h⟩ := b1_some h
    refine fw_callV (ci := 7) [_] C (c_X7_take hl e7) cal_X7_take wm_X9_89 wi_yX7_take wsl_yX7_take (Nat.le_of_ble_eq_true rfl) rfl (gO_of g8) rfl (Nat.le_of_ble_eq_true rfl) ⟨Nat.le_of_ble_eq_true rfl, Nat.le_of_ble_eq_true rfl⟩ ⟨Nat.zero_le _, Nat.zero_le _⟩ dX9_feed_28 ?_
    refine fw_aload_n C 0 dX9_feed_31 rfl rfl ?_
    obtain ⟨g9, h⟩ := gd_some h
    refine fw_getR C 9 0 (Nat.le_of_ble_eq_true rfl) (Nat.le_of_ble_eq_true rfl) wf_X9_12 rfl (gO_of g1) (gN_of g9) dX9_feed_32 ?_
    refine fw_iload_n C 3 dX9_feed_35 rfl rfl ?_
    obtain ⟨g11, h⟩ := gd_some h
    obtain ⟨M10, e10, h⟩ := b1_some h
    refine fw_callV (ci := 7) [_] C (c_X7_take hl e10) cal_X7_take wm_X9_89 wi_yX7_take wsl_yX7_take (Nat.le_of_ble_eq_true rfl) rfl (gO_of g11) rfl (Nat.le_of_ble_eq_true rfl) ⟨Nat.le_of_ble_eq_true rfl, Nat.le_of_ble_eq_true rfl⟩ ⟨Nat.zero_le _, Nat.zero_le _⟩ dX9_feed_36 ?_
    refine fw_aload_n C 0 dX9_feed_39 rfl rfl ?_
    obtain ⟨g12, h⟩ := gd_some h
    refine fw_getR C 9 0 (Nat.le_of_ble_eq_true rfl) (Nat.le_of_ble_eq_true rfl) wf_X9_12 rfl (gO_of g1) (gN_of g12) dX9_feed_40 ?_
    refine fw_iload C 4 dX9_feed_43 rfl ?_
    obtain ⟨g14, h⟩ := gd_some h
    obtain ⟨M13, e13, h⟩ := b1_some h
    refine fw_callV (ci := 7) [_] C (c_X7_take hl e13) cal_X7_take wm_X9_89 wi_yX7_take wsl_yX7_take (Nat.le_of_ble_eq_true rfl) rfl (gO_of g14) rfl (Nat.le_of_ble_eq_true rfl) ⟨Nat.le_of_ble_eq_true rfl, Nat.le_of_ble_eq_true rfl⟩ ⟨Nat.zero_le _, Nat.zero_le _⟩ dX9_feed_45 ?_
    refine fw_aload_n C 0 dX9_feed_48 rfl rfl ?_
    obtain ⟨g15, h⟩ := gd_some h
    refine fw_getR C 9 0 (Nat.le_of_ble_eq_true rfl) (Nat.le_of_ble_eq_true rfl) wf_X9_12 rfl (gO_of g1) (gN_of g15) dX9_feed_49 ?_
    refine fw_iload C 5 dX9_feed_52 rfl ?_
    obtain ⟨g17, h⟩ := gd_some h
    obtain ⟨M16, e16, h⟩ := b1_some h
    refine fw_callV (ci := 7) [_] C (c_X7_take hl e16) cal_X7_take wm_X9_89 wi_yX7_take wsl_yX7_take (Nat.le_of_ble_eq_true rfl) rfl (gO_of g17) rfl (Nat.le_of_ble_eq_true rfl) ⟨Nat.le_of_ble_eq_true rfl, Nat.le_of_ble_eq_true rfl⟩ ⟨Nat.zero_le _, Nat.zero_le _⟩ dX9_feed_54 ?_
    refine fw_aload_n C 0 dX9_feed_57 rfl rfl ?_
    obtain ⟨g18, h⟩ := gd_some h
    refine fw_getR C 9 0 (Nat.le_of_ble_eq_true rfl) (Nat.le_of_ble_eq_true rfl) wf_X9_12 rfl (gO_of g1) (gN_of g18) dX9_feed_58 ?_
    obtain ⟨g19, h⟩ := gd_some h
    refine fw_getI C 7 1 (Nat.le_of_ble_eq_true rfl) (Nat.le_of_ble_eq_true rfl) wf_X9_85 rfl (gO_of g19) dX9_feed_61 ?_
    cases h
    exact fw_iret C hr hlk dX9_feed_64
  · replace h := (if_neg c4).symm.trans h
    refine fw_iconst C (-1) dX9_feed_13 rfl ?_
    cases h
    exact fw_iret C hr hlk dX9_feed_14
set_option maxRecDepth 100000 in
def f_X7_kindOf (S : List fw_Sh) (M : fw_Mem) (x0 : Int32) : Option Int32 := if x0 = 32 then (some 1) else (if x0 = 10 then (some 1) else (if x0 < 97 then (if x0 < 48 then (some 4) else (if (57 : Int32) < x0 then (some 4) else (some 3))) else (if (122 : Int32) < x0 then (if x0 < 48 then (some 4) else (if (57 : Int32) < x0 then (some 4) else (some 3))) else (some 2))))
theorem cal_X7_kindOf : fw_cal yX7_kindOf (.code yX7_kindOf cX7_kindOf 1 (some .int)) 1 := ⟨wc_yX7_kindOf, wini_X7, by decide, by decide, by decide +kernel⟩
set_option maxHeartbeats 4000000 in
set_option maxRecDepth 100000 in
theorem c_X7_kindOf {l : Launch} {G : fw_G} {S : List fw_Sh} {M : fw_Mem} {x0 : Int32} {r : Int32} (hl : l.stackTraces = false) (h : f_X7_kindOf S M x0 = some r) : fw_M l G yX7_kindOf (.code yX7_kindOf cX7_kindOf 1 (some .int)) 1 (fw_mcO (.inl (some (.int r)), S, M)) (fw_msO (.inl (some (.int r)), S, M)) S M [.int x0] (.inl (some (.int r)), S, M) := by
  refine fw_of [(0, .int x0)] (by decide) (Nat.le_of_ble_eq_true rfl) rfl ?_
  intro p e s m args below meth c C hr hlk hnm ht _
  unfold f_X7_kindOf at h
  refine fw_iload_n C 0 dX7_kindOf_0 rfl rfl ?_
  refine fw_bipush C 32 dX7_kindOf_1 rfl ?_
  refine fw_icmp_eq C 12 dX7_kindOf_3 (by decide) (fun c1 => ?_) (fun c1 => ?_)
  · replace h := (if_pos c1).symm.trans h
    refine fw_iconst C 1 dX7_kindOf_12 rfl ?_
    cases h
    exact fw_iret C hr hlk dX7_kindOf_13
  · replace h := (if_neg c1).symm.trans h
    refine fw_iload_n C 0 dX7_kindOf_6 rfl rfl ?_
    refine fw_bipush C 10 dX7_kindOf_7 rfl ?_
    refine fw_icmp_ne C 14 dX7_kindOf_9 (by decide) (fun c2 => ?_) (fun c2 => ?_)
    · replace h := (if_neg c2).symm.trans h
      refine fw_iload_n C 0 dX7_kindOf_14 rfl rfl ?_
      refine fw_bipush C 97 dX7_kindOf_15 rfl ?_
      refine fw_icmp_lt C 28 dX7_kindOf_17 (by decide) (fun c3 => ?_) (fun c3 => ?_)
      · replace h := (if_pos c3).symm.trans h
        refine fw_iload_n C 0 dX7_kindOf_28 rfl rfl ?_
        refine fw_bipush C 48 dX7_kindOf_29 rfl ?_
        refine fw_icmp_lt C 44 dX7_kindOf_31 (by decide) (fun c4 => ?_) (fun c4 => ?_)
        · replace h := (if_pos c4).symm.trans h
          refine fw_iconst C 4 dX7_kindOf_44 rfl ?_
          cases h
          exact fw_iret C hr hlk dX7_kindOf_45
        · replace h := (if_neg c4).symm.trans h
          refine fw_iload_n C 0 dX7_kindOf_34 rfl rfl ?_
          refine fw_bipush C 57 dX7_kindOf_35 rfl ?_
          refine fw_icmp_gt C 44 dX7_kindOf_37 (by decide) (fun c5 => ?_) (fun c5 => ?_)
          · replace h := (if_pos c5).symm.trans h
            refine fw_iconst C 4 dX7_kindOf_44 rfl ?_
            cases h
            exact fw_iret C hr hlk dX7_kindOf_45
          · replace h := (if_neg c5).symm.trans h
            refine fw_iconst C 3 dX7_kindOf_40 rfl ?_
            refine fw_goto C 45 dX7_kindOf_41 (by decide) ?_
            cases h
            exact fw_iret C hr hlk dX7_kindOf_45
      · replace h := (if_neg c3).symm.trans h
        refine fw_iload_n C 0 dX7_kindOf_20 rfl rfl ?_
        refine fw_bipush C 122 dX7_kindOf_21 rfl ?_
        refine fw_icmp_gt C 28 dX7_kindOf_23 (by decide) (fun c6 => ?_) (fun c6 => ?_)
        · replace h := (if_pos c6).symm.trans h
          refine fw_iload_n C 0 dX7_kindOf_28 rfl rfl ?_
          refine fw_bipush C 48 dX7_kindOf_29 rfl ?_
          refine fw_icmp_lt C 44 dX7_kindOf_31 (by decide) (fun c7 => ?_) (fun c7 => ?_)
          · replace h := (if_pos c7).symm.trans h
            refine fw_iconst C 4 dX7_kindOf_44 rfl ?_
            cases h
            exact fw_iret C hr hlk dX7_kindOf_45
          · replace h := (if_neg c7).symm.trans h
            refine fw_iload_n C 0 dX7_kindOf_34 rfl rfl ?_
            refine fw_bipush C 57 dX7_kindOf_35 rfl ?_
            refine fw_icmp_gt C 44 dX7_kindOf_37 (by decide) (fun c8 => ?_) (fun c8 => ?_)
            · replace h := (if_pos c8).symm.trans h
              refine fw_iconst C 4 dX7_kindOf_44 rfl ?_
              cases h
              exact fw_iret C hr hlk dX7_kindOf_45
            · replace h := (if_neg c8).symm.trans h
              refine fw_iconst C 3 dX7_kindOf_40 rfl ?_
              refine fw_goto C 45 dX7_kindOf_41 (by decide) ?_
              cases h
              exact fw_iret C hr hlk dX7_kindOf_45
        · replace h := (if_neg c6).symm.trans h
          refine fw_iconst C 2 dX7_kindOf_26 rfl ?_
          cases h
          exact fw_iret C hr hlk dX7_kindOf_27
    · replace h := (if_pos c2).symm.trans h
      refine fw_iconst C 1 dX7_kindOf_12 rfl ?_
      cases h
      exact fw_iret C hr hlk dX7_kindOf_13
set_option maxRecDepth 100000 in
def lf_X7_passRow_5 (S : List fw_Sh) (a0 : Nat) : Nat → fw_Mem → Option (fw_Mem)
  | 0, _ => none
  | n + 1, M => gd (gO S 7 a0) (if (M a0 2) ≤ (M a0 5) then (some M) else (gd (gN (M a0 0)) (gd (gA S 1 ((M a0 0).toNatClampNeg) (M a0 5)) (b1 (f_X7_kindOf S M (M ((M a0 0).toNatClampNeg) (M a0 5).toNatClampNeg)) (fun v7 => if v7 = (M a0 3) then (if (M a0 3) = 3 then (if (9999 : Int32) < (M a0 6) then (bm (fw_set M a0 5 ((M a0 5) + 1)) (fun M12 => lf_X7_passRow_5 S a0 n M12)) else (bm (fw_set M a0 6 ((((M a0 6) * 10) + (M ((M a0 0).toNatClampNeg) (M a0 5).toNatClampNeg)) - 48)) (fun M13 => bm (fw_set M13 a0 5 ((M13 a0 5) + 1)) (fun M14 => lf_X7_passRow_5 S a0 n M14)))) else (bm (fw_set M a0 5 ((M a0 5) + 1)) (fun M10 => lf_X7_passRow_5 S a0 n M10))) else (some M))))))
set_option maxHeartbeats 4000000 in
set_option maxRecDepth 100000 in
theorem lc_X7_passRow_5 {G : fw_G} {p : Program} {l : Launch} {e : Env} {s : State} {m : MethodId} {args : Array Value} {below : List Frame} {meth : Method} {c : Code} {S : List fw_Sh} {o : fw_O} {a0 : Nat} (C : fw_C G RX7 cX7_passRow 1 p s m args c) (hr : meth.sig.returnType = none) (hlk : meth.locks = false) (hl : l.stackTraces = false) (ht : ∀ x ∈ c.exceptionTable.toList, False) :
    ∀ {n : Nat} {M : fw_Mem} {r : (fw_Mem)} (h : lf_X7_passRow_5 S a0 n M = some r) (kx : fw_W G p l e (fw_rm 2 (fw_mcO o) (fw_msO o)) s m args below meth c 1 (fw_Z G below args s (fw_mcO o) (fw_msO o) o) 0 0 90 [] [] S r), fw_W G p l e (fw_rm 2 (fw_mcO o) (fw_msO o)) s m args below meth c 1 (fw_Z G below args s (fw_mcO o) (fw_msO o) o) 0 0 5 [(0, .ref a0)] [] S M := by
  intro n
  induction n with
  | zero =>
    intro M r h
    exact nomatch (show (none : Option (fw_Mem)) = some r from h)
  | succ n ih =>
    intro M r h kx
    rw [lf_X7_passRow_5.eq_2] at h
    refine fw_aload_n C 0 dX7_passRow_5 rfl rfl ?_
    obtain ⟨g3, h⟩ := gd_some h
    refine fw_getI C 7 5 (Nat.le_of_ble_eq_true rfl) (Nat.le_of_ble_eq_true rfl) wf_X7_31 rfl (gO_of g3) dX7_passRow_6 ?_
    refine fw_aload_n C 0 dX7_passRow_9 rfl rfl ?_
    refine fw_getI C 7 2 (Nat.le_of_ble_eq_true rfl) (Nat.le_of_ble_eq_true rfl) wf_X7_28 rfl (gO_of g3) dX7_passRow_10 ?_
    refine fw_icmp_ge C 90 dX7_passRow_13 (by decide) (fun c4 => ?_) (fun c4 => ?_)
    · replace h := (if_pos c4).symm.trans h
      cases h
      refine fw_sub [] rfl ?_
      exact kx
    · replace h := (if_neg c4).symm.trans h
      refine fw_aload_n C 0 dX7_passRow_16 rfl rfl ?_
      obtain ⟨g5, h⟩ := gd_some h
      refine fw_getR C 7 0 (Nat.le_of_ble_eq_true rfl) (Nat.le_of_ble_eq_true rfl) wf_X7_9 rfl (gO_of g3) (gN_of g5) dX7_passRow_17 ?_
      refine fw_aload_n C 0 dX7_passRow_20 rfl rfl ?_
      refine fw_getI C 7 5 (Nat.le_of_ble_eq_true rfl) (Nat.le_of_ble_eq_true rfl) wf_X7_31 rfl (gO_of g3) dX7_passRow_21 ?_
      obtain ⟨g6, h⟩ := gd_some h
      refine fw_bald C (gA_of g6) dX7_passRow_24 ?_
      obtain ⟨v7, e7, h⟩ := b1_some h
      refine fw_callS [_] C (c_X7_kindOf hl e7) cal_X7_kindOf wm_X7_43 wt_yX7_kindOf rfl (Nat.le_of_ble_eq_true rfl) ⟨Nat.le_of_ble_eq_true rfl, Nat.le_of_ble_eq_true rfl⟩ ⟨Nat.zero_le _, Nat.zero_le _⟩ dX7_passRow_25 ?_
      refine fw_aload_n C 0 dX7_passRow_28 rfl rfl ?_
      refine fw_getI C 7 3 (Nat.le_of_ble_eq_true rfl) (Nat.le_of_ble_eq_true rfl) wf_X7_47 rfl (gO_of g3) dX7_passRow_29 ?_
      refine fw_icmp_ne C 90 dX7_passRow_32 (by decide) (fun c8 => ?_) (fun c8 => ?_)
      · replace h := (if_neg c8).symm.trans h
        cases h
        refine fw_sub [] rfl ?_
        exact kx
      · replace h := (if_pos c8).symm.trans h
        refine fw_aload_n C 0 dX7_passRow_35 rfl rfl ?_
        refine fw_getI C 7 3 (Nat.le_of_ble_eq_true rfl) (Nat.le_of_ble_eq_true rfl) wf_X7_47 rfl (gO_of g3) dX7_passRow_36 ?_
        refine fw_iconst C 3 dX7_passRow_39 rfl ?_
        refine fw_icmp_ne C 77 dX7_passRow_40 (by decide) (fun c9 => ?_) (fun c9 => ?_)
        · replace h := (if_neg c9).symm.trans h
          refine fw_aload_n C 0 dX7_passRow_77 rfl rfl ?_
          refine fw_dup C dX7_passRow_78 rfl ?_
          refine fw_getI C 7 5 (Nat.le_of_ble_eq_true rfl) (Nat.le_of_ble_eq_true rfl) wf_X7_31 rfl (gO_of g3) dX7_passRow_79 ?_
          refine fw_iconst C 1 dX7_passRow_82 rfl ?_
          refine fw_iadd C dX7_passRow_83 ?_
          refine fw_putI C 7 5 (Nat.le_of_ble_eq_true rfl) (Nat.le_of_ble_eq_true rfl) wf_X7_31 rfl rfl rfl rfl (gO_of g3) dX7_passRow_84 ?_
          refine fw_bm h (fun M10 h => ?_)
          refine fw_goto C 5 dX7_passRow_87 (by decide) ?_
          exact ih h kx
        · replace h := (if_pos c9).symm.trans h
          refine fw_aload_n C 0 dX7_passRow_43 rfl rfl ?_
          refine fw_getI C 7 6 (Nat.le_of_ble_eq_true rfl) (Nat.le_of_ble_eq_true rfl) wf_X7_53 rfl (gO_of g3) dX7_passRow_44 ?_
          refine fw_sipush C 9999 dX7_passRow_47 rfl ?_
          refine fw_icmp_gt C 77 dX7_passRow_50 (by decide) (fun c11 => ?_) (fun c11 => ?_)
          · replace h := (if_pos c11).symm.trans h
            refine fw_aload_n C 0 dX7_passRow_77 rfl rfl ?_
            refine fw_dup C dX7_passRow_78 rfl ?_
            refine fw_getI C 7 5 (Nat.le_of_ble_eq_true rfl) (Nat.le_of_ble_eq_true rfl) wf_X7_31 rfl (gO_of g3) dX7_passRow_79 ?_
            refine fw_iconst C 1 dX7_passRow_82 rfl ?_
            refine fw_iadd C dX7_passRow_83 ?_
            refine fw_putI C 7 5 (Nat.le_of_ble_eq_true rfl) (Nat.le_of_ble_eq_true rfl) wf_X7_31 rfl rfl rfl rfl (gO_of g3) dX7_passRow_84 ?_
            refine fw_bm h (fun M12 h => ?_)
            refine fw_goto C 5 dX7_passRow_87 (by decide) ?_
            exact ih h kx
          · replace h := (if_neg c11).symm.trans h
            refine fw_aload_n C 0 dX7_passRow_53 rfl rfl ?_
            refine fw_aload_n C 0 dX7_passRow_54 rfl rfl ?_
            refine fw_getI C 7 6 (Nat.le_of_ble_eq_true rfl) (Nat.le_of_ble_eq_true rfl) wf_X7_53 rfl (gO_of g3) dX7_passRow_55 ?_
            refine fw_bipush C 10 dX7_passRow_58 rfl ?_
            refine fw_imul C dX7_passRow_60 ?_
            refine fw_aload_n C 0 dX7_passRow_61 rfl rfl ?_
            refine fw_getR C 7 0 (Nat.le_of_ble_eq_true rfl) (Nat.le_of_ble_eq_true rfl) wf_X7_9 rfl (gO_of g3) (gN_of g5) dX7_passRow_62 ?_
            refine fw_aload_n C 0 dX7_passRow_65 rfl rfl ?_
            refine fw_getI C 7 5 (Nat.le_of_ble_eq_true rfl) (Nat.le_of_ble_eq_true rfl) wf_X7_31 rfl (gO_of g3) dX7_passRow_66 ?_
            refine fw_bald C (gA_of g6) dX7_passRow_69 ?_
            refine fw_iadd C dX7_passRow_70 ?_
            refine fw_bipush C 48 dX7_passRow_71 rfl ?_
            refine fw_isub C dX7_passRow_73 ?_
            refine fw_putI C 7 6 (Nat.le_of_ble_eq_true rfl) (Nat.le_of_ble_eq_true rfl) wf_X7_53 rfl rfl rfl rfl (gO_of g3) dX7_passRow_74 ?_
            refine fw_bm h (fun M13 h => ?_)
            refine fw_aload_n C 0 dX7_passRow_77 rfl rfl ?_
            refine fw_dup C dX7_passRow_78 rfl ?_
            refine fw_getI C 7 5 (Nat.le_of_ble_eq_true rfl) (Nat.le_of_ble_eq_true rfl) wf_X7_31 rfl (gO_of g3) dX7_passRow_79 ?_
            refine fw_iconst C 1 dX7_passRow_82 rfl ?_
            refine fw_iadd C dX7_passRow_83 ?_
            refine fw_putI C 7 5 (Nat.le_of_ble_eq_true rfl) (Nat.le_of_ble_eq_true rfl) wf_X7_31 rfl rfl rfl rfl (gO_of g3) dX7_passRow_84 ?_
            refine fw_bm h (fun M14 h => ?_)
            refine fw_goto C 5 dX7_passRow_87 (by decide) ?_
            exact ih h kx
set_option maxRecDepth 100000 in
def f_X7_passRow (S : List fw_Sh) (M : fw_Mem) (a0 : Nat) : Option fw_Mem := gd (gO S 7 a0) (bm (fw_set M a0 6 0) (fun M2 => b1 (lf_X7_passRow_5 S a0 20000 M2) (fun l15 => some l15)))
theorem cal_X7_passRow : fw_cal yX7_passRow (.code yX7_passRow cX7_passRow 1 none) 0 := ⟨wc_yX7_passRow, wini_X7, by decide, by decide, by decide +kernel⟩
set_option maxHeartbeats 4000000 in
set_option maxRecDepth 100000 in
theorem c_X7_passRow {l : Launch} {G : fw_G} {S : List fw_Sh} {M : fw_Mem} {a0 : Nat} {r : fw_Mem} (hl : l.stackTraces = false) (h : f_X7_passRow S M a0 = some r) : fw_M l G yX7_passRow (.code yX7_passRow cX7_passRow 1 none) 2 (fw_mcO (.inl none, S, r)) (fw_msO (.inl none, S, r)) S M [.ref a0] (.inl none, S, r) := by
  refine fw_of [(0, .ref a0)] (by decide) (Nat.le_of_ble_eq_true rfl) rfl ?_
  intro p e s m args below meth c C hr hlk hnm ht _
  unfold f_X7_passRow at h
  refine fw_aload_n C 0 dX7_passRow_0 rfl rfl ?_
  refine fw_iconst C 0 dX7_passRow_1 rfl ?_
  obtain ⟨g1, h⟩ := gd_some h
  refine fw_putI C 7 6 (Nat.le_of_ble_eq_true rfl) (Nat.le_of_ble_eq_true rfl) wf_X7_53 rfl rfl rfl rfl (gO_of g1) dX7_passRow_2 ?_
  refine fw_bm h (fun M2 h => ?_)
  obtain ⟨l15, e15, h⟩ := b1_some h
  refine lc_X7_passRow_5 C hr hlk hl ht e15 ?_
  cases h
  exact fw_vret C hr hlk dX7_passRow_90
set_option maxRecDepth 100000 in
def lf_X7_advance_16 (S : List fw_Sh) (a0 : Nat) : Nat → fw_Mem → Option (fw_Mem)
  | 0, _ => none
  | n + 1, M => gd (gO S 7 a0) (if (M a0 2) ≤ (M a0 4) then (some M) else (gd (gN (M a0 0)) (gd (gA S 1 ((M a0 0).toNatClampNeg) (M a0 4)) (b1 (f_X7_kindOf S M (M ((M a0 0).toNatClampNeg) (M a0 4).toNatClampNeg)) (fun v8 => if v8 = 1 then (bm (fw_set M a0 4 ((M a0 4) + 1)) (fun M10 => lf_X7_advance_16 S a0 n M10)) else (some M))))))
set_option maxHeartbeats 4000000 in
set_option maxRecDepth 100000 in
theorem lc_X7_advance_16 {G : fw_G} {p : Program} {l : Launch} {e : Env} {s : State} {m : MethodId} {args : Array Value} {below : List Frame} {meth : Method} {c : Code} {S : List fw_Sh} {o : fw_O} {a0 : Nat} (C : fw_C G RX7 cX7_advance 1 p s m args c) (hr : meth.sig.returnType = none) (hlk : meth.locks = false) (hl : l.stackTraces = false) (ht : ∀ x ∈ c.exceptionTable.toList, False) :
    ∀ {n : Nat} {M : fw_Mem} {r : (fw_Mem)} (h : lf_X7_advance_16 S a0 n M = some r) (kx : fw_W G p l e (fw_rm 3 (fw_mcO o) (fw_msO o)) s m args below meth c 1 (fw_Z G below args s (fw_mcO o) (fw_msO o) o) 0 0 56 [(0, .ref a0)] [] S r), fw_W G p l e (fw_rm 3 (fw_mcO o) (fw_msO o)) s m args below meth c 1 (fw_Z G below args s (fw_mcO o) (fw_msO o) o) 0 0 16 [(0, .ref a0)] [] S M := by
  intro n
  induction n with
  | zero =>
    intro M r h
    exact nomatch (show (none : Option (fw_Mem)) = some r from h)
  | succ n ih =>
    intro M r h kx
    rw [lf_X7_advance_16.eq_2] at h
    refine fw_aload_n C 0 dX7_advance_16 rfl rfl ?_
    obtain ⟨g4, h⟩ := gd_some h
    refine fw_getI C 7 4 (Nat.le_of_ble_eq_true rfl) (Nat.le_of_ble_eq_true rfl) wf_X7_40 rfl (gO_of g4) dX7_advance_17 ?_
    refine fw_aload_n C 0 dX7_advance_20 rfl rfl ?_
    refine fw_getI C 7 2 (Nat.le_of_ble_eq_true rfl) (Nat.le_of_ble_eq_true rfl) wf_X7_28 rfl (gO_of g4) dX7_advance_21 ?_
    refine fw_icmp_ge C 56 dX7_advance_24 (by decide) (fun c5 => ?_) (fun c5 => ?_)
    · replace h := (if_pos c5).symm.trans h
      cases h
      exact kx
    · replace h := (if_neg c5).symm.trans h
      refine fw_aload_n C 0 dX7_advance_27 rfl rfl ?_
      obtain ⟨g6, h⟩ := gd_some h
      refine fw_getR C 7 0 (Nat.le_of_ble_eq_true rfl) (Nat.le_of_ble_eq_true rfl) wf_X7_9 rfl (gO_of g4) (gN_of g6) dX7_advance_28 ?_
      refine fw_aload_n C 0 dX7_advance_31 rfl rfl ?_
      refine fw_getI C 7 4 (Nat.le_of_ble_eq_true rfl) (Nat.le_of_ble_eq_true rfl) wf_X7_40 rfl (gO_of g4) dX7_advance_32 ?_
      obtain ⟨g7, h⟩ := gd_some h
      refine fw_bald C (gA_of g7) dX7_advance_35 ?_
      obtain ⟨v8, e8, h⟩ := b1_some h
      refine fw_callS [_] C (c_X7_kindOf hl e8) cal_X7_kindOf wm_X7_43 wt_yX7_kindOf rfl (Nat.le_of_ble_eq_true rfl) ⟨Nat.le_of_ble_eq_true rfl, Nat.le_of_ble_eq_true rfl⟩ ⟨Nat.zero_le _, Nat.zero_le _⟩ dX7_advance_36 ?_
      refine fw_iconst C 1 dX7_advance_39 rfl ?_
      refine fw_icmp_ne C 56 dX7_advance_40 (by decide) (fun c9 => ?_) (fun c9 => ?_)
      · replace h := (if_neg c9).symm.trans h
        cases h
        exact kx
      · replace h := (if_pos c9).symm.trans h
        refine fw_aload_n C 0 dX7_advance_43 rfl rfl ?_
        refine fw_dup C dX7_advance_44 rfl ?_
        refine fw_getI C 7 4 (Nat.le_of_ble_eq_true rfl) (Nat.le_of_ble_eq_true rfl) wf_X7_40 rfl (gO_of g4) dX7_advance_45 ?_
        refine fw_iconst C 1 dX7_advance_48 rfl ?_
        refine fw_iadd C dX7_advance_49 ?_
        refine fw_putI C 7 4 (Nat.le_of_ble_eq_true rfl) (Nat.le_of_ble_eq_true rfl) wf_X7_40 rfl rfl rfl rfl (gO_of g4) dX7_advance_50 ?_
        refine fw_bm h (fun M10 h => ?_)
        refine fw_goto C 16 dX7_advance_53 (by decide) ?_
        exact ih h kx
set_option maxRecDepth 100000 in
def fj_X7_advance_92 (S : List fw_Sh) (M : fw_Mem) (a0 : Nat) (z0 : Int32) (z1 : Nat) : Option fw_Mem := gd (gO S 7 z1) (bm (fw_set M z1 3 z0) (fun M15 => gd (gO S 7 a0) (if (M15 a0 3) = 4 then (bm (fw_set M15 a0 5 ((M15 a0 5) + 1)) (fun M20 => some M20)) else (if (M15 a0 3) = 0 then (some M15) else (b1 (f_X7_passRow S M15 a0) (fun M19 => some M19))))))
set_option maxHeartbeats 4000000 in
set_option maxRecDepth 100000 in
theorem jc_X7_advance_92 {G : fw_G} {p : Program} {l : Launch} {e : Env} {s : State} {m : MethodId} {args : Array Value} {below : List Frame} {meth : Method} {c : Code} {S : List fw_Sh} {M : fw_Mem} {a0 : Nat} {z0 : Int32} {z1 : Nat} {r : fw_Mem} {o : fw_O} (C : fw_C G RX7 cX7_advance 1 p s m args c) (hr : meth.sig.returnType = none) (hlk : meth.locks = false) (hl : l.stackTraces = false) (ht : ∀ x ∈ c.exceptionTable.toList, False) (ho : o = (.inl none, S, r)) (h : fj_X7_advance_92 S M a0 z0 z1 = some r) :
    fw_W G p l e (fw_rm 3 (fw_mcO o) (fw_msO o)) s m args below meth c 1 (fw_Z G below args s (fw_mcO o) (fw_msO o) o) 0 0 92 [(0, .ref a0)] [.int z0, .ref z1] S M := by
  subst ho
  unfold fj_X7_advance_92 at h
  obtain ⟨g14, h⟩ := gd_some h
  refine fw_putI C 7 3 (Nat.le_of_ble_eq_true rfl) (Nat.le_of_ble_eq_true rfl) wf_X7_47 rfl rfl rfl rfl (gO_of g14) dX7_advance_92 ?_
  refine fw_bm h (fun M15 h => ?_)
  refine fw_aload_n C 0 dX7_advance_95 rfl rfl ?_
  obtain ⟨g16, h⟩ := gd_some h
  refine fw_getI C 7 3 (Nat.le_of_ble_eq_true rfl) (Nat.le_of_ble_eq_true rfl) wf_X7_47 rfl (gO_of g16) dX7_advance_96 ?_
  refine fw_iconst C 4 dX7_advance_99 rfl ?_
  refine fw_icmp_ne C 116 dX7_advance_100 (by decide) (fun c17 => ?_) (fun c17 => ?_)
  · replace h := (if_neg c17).symm.trans h
    refine fw_aload_n C 0 dX7_advance_116 rfl rfl ?_
    refine fw_getI C 7 3 (Nat.le_of_ble_eq_true rfl) (Nat.le_of_ble_eq_true rfl) wf_X7_47 rfl (gO_of g16) dX7_advance_117 ?_
    refine fw_if_eq C 127 dX7_advance_120 (by decide) (fun c18 => ?_) (fun c18 => ?_)
    · replace h := (if_pos c18).symm.trans h
      cases h
      exact fw_vret C hr hlk dX7_advance_127
    · replace h := (if_neg c18).symm.trans h
      refine fw_aload_n C 0 dX7_advance_123 rfl rfl ?_
      obtain ⟨M19, e19, h⟩ := b1_some h
      refine fw_callV (ci := 7) [] C (c_X7_passRow hl e19) cal_X7_passRow wm_X7_50 wi_yX7_passRow wsl_yX7_passRow (Nat.le_of_ble_eq_true rfl) rfl (gO_of g16) rfl (Nat.le_of_ble_eq_true rfl) ⟨Nat.le_of_ble_eq_true rfl, Nat.le_of_ble_eq_true rfl⟩ ⟨Nat.zero_le _, Nat.zero_le _⟩ dX7_advance_124 ?_
      cases h
      exact fw_vret C hr hlk dX7_advance_127
  · replace h := (if_pos c17).symm.trans h
    refine fw_aload_n C 0 dX7_advance_103 rfl rfl ?_
    refine fw_dup C dX7_advance_104 rfl ?_
    refine fw_getI C 7 5 (Nat.le_of_ble_eq_true rfl) (Nat.le_of_ble_eq_true rfl) wf_X7_31 rfl (gO_of g16) dX7_advance_105 ?_
    refine fw_iconst C 1 dX7_advance_108 rfl ?_
    refine fw_iadd C dX7_advance_109 ?_
    refine fw_putI C 7 5 (Nat.le_of_ble_eq_true rfl) (Nat.le_of_ble_eq_true rfl) wf_X7_31 rfl rfl rfl rfl (gO_of g16) dX7_advance_110 ?_
    refine fw_bm h (fun M20 h => ?_)
    refine fw_goto C 127 dX7_advance_113 (by decide) ?_
    cases h
    exact fw_vret C hr hlk dX7_advance_127
set_option maxRecDepth 100000 in
def f_X7_advance (S : List fw_Sh) (M : fw_Mem) (a0 : Nat) : Option fw_Mem := gd (gO S 7 a0) (if (M a0 7) = 0 then (bm (fw_set M a0 4 (M a0 5)) (fun M3 => b1 (lf_X7_advance_16 S a0 20000 M3) (fun l11 => bm (fw_set l11 a0 5 (l11 a0 4)) (fun M12 => if (M12 a0 2) ≤ (M12 a0 4) then fj_X7_advance_92 S M12 a0 0 a0 else (gd (gN (M12 a0 0)) (gd (gA S 1 ((M12 a0 0).toNatClampNeg) (M12 a0 4)) (b1 (f_X7_kindOf S M12 (M12 ((M12 a0 0).toNatClampNeg) (M12 a0 4).toNatClampNeg)) (fun v23 => fj_X7_advance_92 S M12 a0 v23 a0)))))))) else (some M))
theorem cal_X7_advance : fw_cal yX7_advance (.code yX7_advance cX7_advance 1 none) 0 := ⟨wc_yX7_advance, wini_X7, by decide, by decide, by decide +kernel⟩
set_option maxHeartbeats 4000000 in
set_option maxRecDepth 100000 in
theorem c_X7_advance {l : Launch} {G : fw_G} {S : List fw_Sh} {M : fw_Mem} {a0 : Nat} {r : fw_Mem} (hl : l.stackTraces = false) (h : f_X7_advance S M a0 = some r) : fw_M l G yX7_advance (.code yX7_advance cX7_advance 1 none) 3 (fw_mcO (.inl none, S, r)) (fw_msO (.inl none, S, r)) S M [.ref a0] (.inl none, S, r) := by
  refine fw_of [(0, .ref a0)] (by decide) (Nat.le_of_ble_eq_true rfl) rfl ?_
  intro p e s m args below meth c C hr hlk hnm ht _
  unfold f_X7_advance at h
  refine fw_aload_n C 0 dX7_advance_0 rfl rfl ?_
  obtain ⟨g1, h⟩ := gd_some h
  refine fw_getI C 7 7 (Nat.le_of_ble_eq_true rfl) (Nat.le_of_ble_eq_true rfl) wf_X7_34 rfl (gO_of g1) dX7_advance_1 ?_
  refine fw_if_eq C 8 dX7_advance_4 (by decide) (fun c2 => ?_) (fun c2 => ?_)
  · replace h := (if_pos c2).symm.trans h
    refine fw_aload_n C 0 dX7_advance_8 rfl rfl ?_
    refine fw_aload_n C 0 dX7_advance_9 rfl rfl ?_
    refine fw_getI C 7 5 (Nat.le_of_ble_eq_true rfl) (Nat.le_of_ble_eq_true rfl) wf_X7_31 rfl (gO_of g1) dX7_advance_10 ?_
    refine fw_putI C 7 4 (Nat.le_of_ble_eq_true rfl) (Nat.le_of_ble_eq_true rfl) wf_X7_40 rfl rfl rfl rfl (gO_of g1) dX7_advance_13 ?_
    refine fw_bm h (fun M3 h => ?_)
    obtain ⟨l11, e11, h⟩ := b1_some h
    refine lc_X7_advance_16 C hr hlk hl ht e11 ?_
    refine fw_aload_n C 0 dX7_advance_56 rfl rfl ?_
    refine fw_aload_n C 0 dX7_advance_57 rfl rfl ?_
    refine fw_getI C 7 4 (Nat.le_of_ble_eq_true rfl) (Nat.le_of_ble_eq_true rfl) wf_X7_40 rfl (gO_of g1) dX7_advance_58 ?_
    refine fw_putI C 7 5 (Nat.le_of_ble_eq_true rfl) (Nat.le_of_ble_eq_true rfl) wf_X7_31 rfl rfl rfl rfl (gO_of g1) dX7_advance_61 ?_
    refine fw_bm h (fun M12 h => ?_)
    refine fw_aload_n C 0 dX7_advance_64 rfl rfl ?_
    refine fw_aload_n C 0 dX7_advance_65 rfl rfl ?_
    refine fw_getI C 7 4 (Nat.le_of_ble_eq_true rfl) (Nat.le_of_ble_eq_true rfl) wf_X7_40 rfl (gO_of g1) dX7_advance_66 ?_
    refine fw_aload_n C 0 dX7_advance_69 rfl rfl ?_
    refine fw_getI C 7 2 (Nat.le_of_ble_eq_true rfl) (Nat.le_of_ble_eq_true rfl) wf_X7_28 rfl (gO_of g1) dX7_advance_70 ?_
    refine fw_icmp_ge C 91 dX7_advance_73 (by decide) (fun c13 => ?_) (fun c13 => ?_)
    · replace h := (if_pos c13).symm.trans h
      refine fw_iconst C 0 dX7_advance_91 rfl ?_
      exact jc_X7_advance_92 C hr hlk hl ht rfl h
    · replace h := (if_neg c13).symm.trans h
      refine fw_aload_n C 0 dX7_advance_76 rfl rfl ?_
      obtain ⟨g21, h⟩ := gd_some h
      refine fw_getR C 7 0 (Nat.le_of_ble_eq_true rfl) (Nat.le_of_ble_eq_true rfl) wf_X7_9 rfl (gO_of g1) (gN_of g21) dX7_advance_77 ?_
      refine fw_aload_n C 0 dX7_advance_80 rfl rfl ?_
      refine fw_getI C 7 4 (Nat.le_of_ble_eq_true rfl) (Nat.le_of_ble_eq_true rfl) wf_X7_40 rfl (gO_of g1) dX7_advance_81 ?_
      obtain ⟨g22, h⟩ := gd_some h
      refine fw_bald C (gA_of g22) dX7_advance_84 ?_
      obtain ⟨v23, e23, h⟩ := b1_some h
      refine fw_callS [_] C (c_X7_kindOf hl e23) cal_X7_kindOf wm_X7_43 wt_yX7_kindOf rfl (Nat.le_of_ble_eq_true rfl) ⟨Nat.le_of_ble_eq_true rfl, Nat.le_of_ble_eq_true rfl⟩ ⟨Nat.zero_le _, Nat.zero_le _⟩ dX7_advance_85 ?_
      refine fw_goto C 92 dX7_advance_88 (by decide) ?_
      exact jc_X7_advance_92 C hr hlk hl ht rfl h
  · replace h := (if_neg c2).symm.trans h
    cases h
    exact fw_vret C hr hlk dX7_advance_7
set_option maxRecDepth 100000 in
def f_X6_allIssues (S : List fw_Sh) (M : fw_Mem) (a0 : Nat) : Option Int32 := gd (gO S 6 a0) (some ((M a0 5) ||| (M a0 6)))
theorem cal_X6_allIssues : fw_cal yX6_allIssues (.code yX6_allIssues cX6_allIssues 1 (some .int)) 0 := ⟨wc_yX6_allIssues, wini_X6, by decide, by decide, by decide +kernel⟩
set_option maxHeartbeats 4000000 in
set_option maxRecDepth 100000 in
theorem c_X6_allIssues {l : Launch} {G : fw_G} {S : List fw_Sh} {M : fw_Mem} {a0 : Nat} {r : Int32} (hl : l.stackTraces = false) (h : f_X6_allIssues S M a0 = some r) : fw_M l G yX6_allIssues (.code yX6_allIssues cX6_allIssues 1 (some .int)) 1 (fw_mcO (.inl (some (.int r)), S, M)) (fw_msO (.inl (some (.int r)), S, M)) S M [.ref a0] (.inl (some (.int r)), S, M) := by
  refine fw_of [(0, .ref a0)] (by decide) (Nat.le_of_ble_eq_true rfl) rfl ?_
  intro p e s m args below meth c C hr hlk hnm ht _
  unfold f_X6_allIssues at h
  refine fw_aload_n C 0 dX6_allIssues_0 rfl rfl ?_
  obtain ⟨g1, h⟩ := gd_some h
  refine fw_getI C 6 5 (Nat.le_of_ble_eq_true rfl) (Nat.le_of_ble_eq_true rfl) wf_X6_30 rfl (gO_of g1) dX6_allIssues_1 ?_
  refine fw_aload_n C 0 dX6_allIssues_4 rfl rfl ?_
  refine fw_getI C 6 6 (Nat.le_of_ble_eq_true rfl) (Nat.le_of_ble_eq_true rfl) wf_X6_33 rfl (gO_of g1) dX6_allIssues_5 ?_
  refine fw_ior C dX6_allIssues_8 ?_
  cases h
  exact fw_iret C hr hlk dX6_allIssues_9
set_option maxRecDepth 100000 in
def f_X6_counts (S : List fw_Sh) (M : fw_Mem) (a0 : Nat) : Option Int32 := gd (gO S 6 a0) (if (M a0 7) = (-1) then (some 0) else (if (M a0 9) = 0 then (some 1) else (some 0)))
theorem cal_X6_counts : fw_cal yX6_counts (.code yX6_counts cX6_counts 1 (some .boolean)) 0 := ⟨wc_yX6_counts, wini_X6, by decide, by decide, by decide +kernel⟩
set_option maxHeartbeats 4000000 in
set_option maxRecDepth 100000 in
theorem c_X6_counts {l : Launch} {G : fw_G} {S : List fw_Sh} {M : fw_Mem} {a0 : Nat} {r : Int32} (hl : l.stackTraces = false) (h : f_X6_counts S M a0 = some r) : fw_M l G yX6_counts (.code yX6_counts cX6_counts 1 (some .boolean)) 1 (fw_mcO (.inl (some (.int r)), S, M)) (fw_msO (.inl (some (.int r)), S, M)) S M [.ref a0] (.inl (some (.int r)), S, M) := by
  refine fw_of [(0, .ref a0)] (by decide) (Nat.le_of_ble_eq_true rfl) rfl ?_
  intro p e s m args below meth c C hr hlk hnm ht _
  unfold f_X6_counts at h
  refine fw_aload_n C 0 dX6_counts_0 rfl rfl ?_
  obtain ⟨g1, h⟩ := gd_some h
  refine fw_getI C 6 7 (Nat.le_of_ble_eq_true rfl) (Nat.le_of_ble_eq_true rfl) wf_X6_15 rfl (gO_of g1) dX6_counts_1 ?_
  refine fw_iconst C (-1) dX6_counts_4 rfl ?_
  refine fw_icmp_eq C 19 dX6_counts_5 (by decide) (fun c2 => ?_) (fun c2 => ?_)
  · replace h := (if_pos c2).symm.trans h
    refine fw_iconst C 0 dX6_counts_19 rfl ?_
    cases h
    exact fw_zret C hr (by decide) hlk dX6_counts_20
  · replace h := (if_neg c2).symm.trans h
    refine fw_aload_n C 0 dX6_counts_8 rfl rfl ?_
    refine fw_getI C 6 9 (Nat.le_of_ble_eq_true rfl) (Nat.le_of_ble_eq_true rfl) wf_X6_40 rfl (gO_of g1) dX6_counts_9 ?_
    refine fw_if_ne C 19 dX6_counts_12 (by decide) (fun c3 => ?_) (fun c3 => ?_)
    · replace h := (if_neg c3).symm.trans h
      refine fw_iconst C 0 dX6_counts_19 rfl ?_
      cases h
      exact fw_zret C hr (by decide) hlk dX6_counts_20
    · replace h := (if_pos c3).symm.trans h
      refine fw_iconst C 1 dX6_counts_15 rfl ?_
      refine fw_goto C 20 dX6_counts_16 (by decide) ?_
      cases h
      exact fw_zret C hr (by decide) hlk dX6_counts_20
set_option maxRecDepth 100000 in
def f_X6_isJudged (S : List fw_Sh) (M : fw_Mem) (a0 : Nat) : Option Int32 := gd (gO S 6 a0) (if (M a0 7) = (-1) then (some 0) else (some 1))
theorem cal_X6_isJudged : fw_cal yX6_isJudged (.code yX6_isJudged cX6_isJudged 1 (some .boolean)) 0 := ⟨wc_yX6_isJudged, wini_X6, by decide, by decide, by decide +kernel⟩
set_option maxHeartbeats 4000000 in
set_option maxRecDepth 100000 in
theorem c_X6_isJudged {l : Launch} {G : fw_G} {S : List fw_Sh} {M : fw_Mem} {a0 : Nat} {r : Int32} (hl : l.stackTraces = false) (h : f_X6_isJudged S M a0 = some r) : fw_M l G yX6_isJudged (.code yX6_isJudged cX6_isJudged 1 (some .boolean)) 1 (fw_mcO (.inl (some (.int r)), S, M)) (fw_msO (.inl (some (.int r)), S, M)) S M [.ref a0] (.inl (some (.int r)), S, M) := by
  refine fw_of [(0, .ref a0)] (by decide) (Nat.le_of_ble_eq_true rfl) rfl ?_
  intro p e s m args below meth c C hr hlk hnm ht _
  unfold f_X6_isJudged at h
  refine fw_aload_n C 0 dX6_isJudged_0 rfl rfl ?_
  obtain ⟨g1, h⟩ := gd_some h
  refine fw_getI C 6 7 (Nat.le_of_ble_eq_true rfl) (Nat.le_of_ble_eq_true rfl) wf_X6_15 rfl (gO_of g1) dX6_isJudged_1 ?_
  refine fw_iconst C (-1) dX6_isJudged_4 rfl ?_
  refine fw_icmp_eq C 12 dX6_isJudged_5 (by decide) (fun c2 => ?_) (fun c2 => ?_)
  · replace h := (if_pos c2).symm.trans h
    refine fw_iconst C 0 dX6_isJudged_12 rfl ?_
    cases h
    exact fw_zret C hr (by decide) hlk dX6_isJudged_13
  · replace h := (if_neg c2).symm.trans h
    refine fw_iconst C 1 dX6_isJudged_8 rfl ?_
    refine fw_goto C 13 dX6_isJudged_9 (by decide) ?_
    cases h
    exact fw_zret C hr (by decide) hlk dX6_isJudged_13
set_option maxRecDepth 100000 in
def f_X3_isRuler (S : List fw_Sh) (M : fw_Mem) (a0 : Nat) : Option Int32 := gd (gO S 3 a0) (if (M a0 3) = (-1) then (some 0) else (some 1))
theorem cal_X3_isRuler : fw_cal yX3_isRuler (.code yX3_isRuler cX3_isRuler 1 (some .boolean)) 0 := ⟨wc_yX3_isRuler, wini_X3, by decide, by decide, by decide +kernel⟩
set_option maxHeartbeats 4000000 in
set_option maxRecDepth 100000 in
theorem c_X3_isRuler {l : Launch} {G : fw_G} {S : List fw_Sh} {M : fw_Mem} {a0 : Nat} {r : Int32} (hl : l.stackTraces = false) (h : f_X3_isRuler S M a0 = some r) : fw_M l G yX3_isRuler (.code yX3_isRuler cX3_isRuler 1 (some .boolean)) 1 (fw_mcO (.inl (some (.int r)), S, M)) (fw_msO (.inl (some (.int r)), S, M)) S M [.ref a0] (.inl (some (.int r)), S, M) := by
  refine fw_of [(0, .ref a0)] (by decide) (Nat.le_of_ble_eq_true rfl) rfl ?_
  intro p e s m args below meth c C hr hlk hnm ht _
  unfold f_X3_isRuler at h
  refine fw_aload_n C 0 dX3_isRuler_0 rfl rfl ?_
  obtain ⟨g1, h⟩ := gd_some h
  refine fw_getI C 3 3 (Nat.le_of_ble_eq_true rfl) (Nat.le_of_ble_eq_true rfl) wf_X3_21 rfl (gO_of g1) dX3_isRuler_1 ?_
  refine fw_iconst C (-1) dX3_isRuler_4 rfl ?_
  refine fw_icmp_eq C 12 dX3_isRuler_5 (by decide) (fun c2 => ?_) (fun c2 => ?_)
  · replace h := (if_pos c2).symm.trans h
    refine fw_iconst C 0 dX3_isRuler_12 rfl ?_
    cases h
    exact fw_zret C hr (by decide) hlk dX3_isRuler_13
  · replace h := (if_neg c2).symm.trans h
    refine fw_iconst C 1 dX3_isRuler_8 rfl ?_
    refine fw_goto C 13 dX3_isRuler_9 (by decide) ?_
    cases h
    exact fw_zret C hr (by decide) hlk dX3_isRuler_13
set_option maxRecDepth 100000 in
def f_X3_carries (S : List fw_Sh) (M : fw_Mem) (a0 : Nat) (x1 : Int32) : Option Int32 := gd (gO S 3 a0) (b1 (f_X3_isRuler S M a0) (fun v1 => if v1 = 0 then (if (M a0 2) < x1 then (some 0) else (some 1)) else (if x1 < (M a0 2) then (some 0) else (if (M a0 3) < x1 then (some 0) else (some 1)))))
theorem cal_X3_carries : fw_cal yX3_carries (.code yX3_carries cX3_carries 2 (some .boolean)) 1 := ⟨wc_yX3_carries, wini_X3, by decide, by decide, by decide +kernel⟩
set_option maxHeartbeats 4000000 in
set_option maxRecDepth 100000 in
theorem c_X3_carries {l : Launch} {G : fw_G} {S : List fw_Sh} {M : fw_Mem} {a0 : Nat} {x1 : Int32} {r : Int32} (hl : l.stackTraces = false) (h : f_X3_carries S M a0 x1 = some r) : fw_M l G yX3_carries (.code yX3_carries cX3_carries 2 (some .boolean)) 2 (fw_mcO (.inl (some (.int r)), S, M)) (fw_msO (.inl (some (.int r)), S, M)) S M [.ref a0, .int x1] (.inl (some (.int r)), S, M) := by
  refine fw_of [(0, .ref a0), (1, .int x1)] (by decide) (Nat.le_of_ble_eq_true rfl) rfl ?_
  intro p e s m args below meth c C hr hlk hnm ht _
  unfold f_X3_carries at h
  refine fw_aload_n C 0 dX3_carries_0 rfl rfl ?_
  obtain ⟨g2, h⟩ := gd_some h
  obtain ⟨v1, e1, h⟩ := b1_some h
  refine fw_callV (ci := 3) [] C (c_X3_isRuler hl e1) cal_X3_isRuler wm_X3_24 wi_yX3_isRuler wsl_yX3_isRuler (Nat.le_of_ble_eq_true rfl) rfl (gO_of g2) rfl (Nat.le_of_ble_eq_true rfl) ⟨Nat.le_of_ble_eq_true rfl, Nat.le_of_ble_eq_true rfl⟩ ⟨Nat.zero_le _, Nat.zero_le _⟩ dX3_carries_1 ?_
  refine fw_if_eq C 31 dX3_carries_4 (by decide) (fun c3 => ?_) (fun c3 => ?_)
  · replace h := (if_pos c3).symm.trans h
    refine fw_aload_n C 0 dX3_carries_31 rfl rfl ?_
    refine fw_getI C 3 2 (Nat.le_of_ble_eq_true rfl) (Nat.le_of_ble_eq_true rfl) wf_X3_18 rfl (gO_of g2) dX3_carries_32 ?_
    refine fw_iload_n C 1 dX3_carries_35 rfl rfl ?_
    refine fw_icmp_lt C 43 dX3_carries_36 (by decide) (fun c4 => ?_) (fun c4 => ?_)
    · replace h := (if_pos c4).symm.trans h
      refine fw_iconst C 0 dX3_carries_43 rfl ?_
      cases h
      exact fw_zret C hr (by decide) hlk dX3_carries_44
    · replace h := (if_neg c4).symm.trans h
      refine fw_iconst C 1 dX3_carries_39 rfl ?_
      refine fw_goto C 44 dX3_carries_40 (by decide) ?_
      cases h
      exact fw_zret C hr (by decide) hlk dX3_carries_44
  · replace h := (if_neg c3).symm.trans h
    refine fw_aload_n C 0 dX3_carries_7 rfl rfl ?_
    refine fw_getI C 3 2 (Nat.le_of_ble_eq_true rfl) (Nat.le_of_ble_eq_true rfl) wf_X3_18 rfl (gO_of g2) dX3_carries_8 ?_
    refine fw_iload_n C 1 dX3_carries_11 rfl rfl ?_
    refine fw_icmp_gt C 27 dX3_carries_12 (by decide) (fun c5 => ?_) (fun c5 => ?_)
    · replace h := (if_pos c5).symm.trans h
      refine fw_iconst C 0 dX3_carries_27 rfl ?_
      refine fw_goto C 44 dX3_carries_28 (by decide) ?_
      cases h
      exact fw_zret C hr (by decide) hlk dX3_carries_44
    · replace h := (if_neg c5).symm.trans h
      refine fw_iload_n C 1 dX3_carries_15 rfl rfl ?_
      refine fw_aload_n C 0 dX3_carries_16 rfl rfl ?_
      refine fw_getI C 3 3 (Nat.le_of_ble_eq_true rfl) (Nat.le_of_ble_eq_true rfl) wf_X3_21 rfl (gO_of g2) dX3_carries_17 ?_
      refine fw_icmp_gt C 27 dX3_carries_20 (by decide) (fun c6 => ?_) (fun c6 => ?_)
      · replace h := (if_pos c6).symm.trans h
        refine fw_iconst C 0 dX3_carries_27 rfl ?_
        refine fw_goto C 44 dX3_carries_28 (by decide) ?_
        cases h
        exact fw_zret C hr (by decide) hlk dX3_carries_44
      · replace h := (if_neg c6).symm.trans h
        refine fw_iconst C 1 dX3_carries_23 rfl ?_
        refine fw_goto C 44 dX3_carries_24 (by decide) ?_
        cases h
        exact fw_zret C hr (by decide) hlk dX3_carries_44
set_option maxRecDepth 100000 in
def lf_X2_reachOf_29 (S : List fw_Sh) (M : fw_Mem) (a0 : Nat) (a1 : Nat) (x4 : Int32) (x5 : Int32) : Nat → Int32 → Int32 → Option (Int32)
  | 0, _, _ => none
  | n + 1, x3, x6 => gd (gO S 2 a0) (gd (gN (M a0 0)) (gd (gO S 4 ((M a0 0).toNatClampNeg)) (if (M ((M a0 0).toNatClampNeg) 5) ≤ x6 then (some x3) else (gd (gN (M ((M a0 0).toNatClampNeg) 1)) (gd (gA S 3 ((M ((M a0 0).toNatClampNeg) 1).toNatClampNeg) x6) (gd (gN (M ((M ((M a0 0).toNatClampNeg) 1).toNatClampNeg) x6.toNatClampNeg)) (gd (gO S 3 ((M ((M ((M a0 0).toNatClampNeg) 1).toNatClampNeg) x6.toNatClampNeg).toNatClampNeg)) (if ((x3 >>> ((M ((M ((M ((M a0 0).toNatClampNeg) 1).toNatClampNeg) x6.toNatClampNeg).toNatClampNeg) 0) &&& 31)) &&& 1) = 1 then (gd (gO S 6 a1) (b1 (f_X3_carries S M ((M ((M ((M a0 0).toNatClampNeg) 1).toNatClampNeg) x6.toNatClampNeg).toNatClampNeg) (M a1 7)) (fun v15 => if v15 = 0 then (lf_X2_reachOf_29 S M a0 a1 x4 x5 n x3 (x6 + 1)) else (bm (x3 ||| (1 <<< ((M ((M ((M ((M a0 0).toNatClampNeg) 1).toNatClampNeg) x6.toNatClampNeg).toNatClampNeg) 1) &&& 31))) (fun y17 => lf_X2_reachOf_29 S M a0 a1 x4 x5 n y17 (x6 + 1)))))) else (lf_X2_reachOf_29 S M a0 a1 x4 x5 n x3 (x6 + 1))))))))))
set_option maxHeartbeats 4000000 in
set_option maxRecDepth 100000 in
theorem lc_X2_reachOf_29 {G : fw_G} {p : Program} {l : Launch} {e : Env} {s : State} {m : MethodId} {args : Array Value} {below : List Frame} {meth : Method} {c : Code} {S : List fw_Sh} {o : fw_O} {M : fw_Mem} {a0 : Nat} {a1 : Nat} {x4 : Int32} {x5 : Int32} (C : fw_C G RX2 cX2_reachOf 8 p s m args c) (hr : meth.sig.returnType = (some .int)) (hlk : meth.locks = false) (hl : l.stackTraces = false) (ht : ∀ x ∈ c.exceptionTable.toList, False) :
    ∀ {n : Nat} {x3 : Int32} {x6 : Int32} {r : (Int32)} (h : lf_X2_reachOf_29 S M a0 a1 x4 x5 n x3 x6 = some r) (kx : fw_W G p l e (fw_rm 3 (fw_mcO o) (fw_msO o)) s m args below meth c 8 (fw_Z G below args s (fw_mcO o) (fw_msO o) o) 0 0 94 [(0, .ref a0), (1, .ref a1), (3, .int r), (4, .int x4), (5, .int x5)] [] S M), fw_W G p l e (fw_rm 3 (fw_mcO o) (fw_msO o)) s m args below meth c 8 (fw_Z G below args s (fw_mcO o) (fw_msO o) o) 0 0 29 [(0, .ref a0), (1, .ref a1), (3, .int x3), (4, .int x4), (5, .int x5), (6, .int x6)] [] S M := by
  intro n
  induction n with
  | zero =>
    intro x3 x6 r h
    exact nomatch (show (none : Option (Int32)) = some r from h)
  | succ n ih =>
    intro x3 x6 r h kx
    rw [lf_X2_reachOf_29.eq_2] at h
    refine fw_iload C 5 dX2_reachOf_29 rfl ?_
    refine fw_aload_n C 0 dX2_reachOf_31 rfl rfl ?_
    obtain ⟨g5, h⟩ := gd_some h
    obtain ⟨g6, h⟩ := gd_some h
    refine fw_getR C 2 0 (Nat.le_of_ble_eq_true rfl) (Nat.le_of_ble_eq_true rfl) wf_X2_27 rfl (gO_of g5) (gN_of g6) dX2_reachOf_32 ?_
    obtain ⟨g7, h⟩ := gd_some h
    refine fw_getI C 4 5 (Nat.le_of_ble_eq_true rfl) (Nat.le_of_ble_eq_true rfl) wf_X2_82 rfl (gO_of g7) dX2_reachOf_35 ?_
    refine fw_icmp_ge C 94 dX2_reachOf_38 (by decide) (fun c8 => ?_) (fun c8 => ?_)
    · replace h := (if_pos c8).symm.trans h
      cases h
      refine fw_sub [0, 1, 2, 3, 4] rfl ?_
      exact kx
    · replace h := (if_neg c8).symm.trans h
      refine fw_aload_n C 0 dX2_reachOf_41 rfl rfl ?_
      refine fw_getR C 2 0 (Nat.le_of_ble_eq_true rfl) (Nat.le_of_ble_eq_true rfl) wf_X2_27 rfl (gO_of g5) (gN_of g6) dX2_reachOf_42 ?_
      obtain ⟨g9, h⟩ := gd_some h
      refine fw_getR C 4 1 (Nat.le_of_ble_eq_true rfl) (Nat.le_of_ble_eq_true rfl) wf_X2_85 rfl (gO_of g7) (gN_of g9) dX2_reachOf_45 ?_
      refine fw_iload C 5 dX2_reachOf_48 rfl ?_
      obtain ⟨g10, h⟩ := gd_some h
      obtain ⟨g11, h⟩ := gd_some h
      refine fw_aald C 3 (by decide) (gA_of g10) (gN_of g11) dX2_reachOf_50 ?_
      refine fw_astore C [(7, _), (0, _), (1, _), (3, _), (4, _), (5, _), (6, _)] dX2_reachOf_51 (Nat.le_of_ble_eq_true rfl) rfl ?_
      refine fw_iload_n C 3 dX2_reachOf_53 rfl rfl ?_
      refine fw_aload C 0 dX2_reachOf_54 rfl ?_
      obtain ⟨g12, h⟩ := gd_some h
      refine fw_getI C 3 0 (Nat.le_of_ble_eq_true rfl) (Nat.le_of_ble_eq_true rfl) wf_X2_89 rfl (gO_of g12) dX2_reachOf_56 ?_
      refine fw_ishr C dX2_reachOf_59 ?_
      refine fw_iconst C 1 dX2_reachOf_60 rfl ?_
      refine fw_iand C dX2_reachOf_61 ?_
      refine fw_iconst C 1 dX2_reachOf_62 rfl ?_
      refine fw_icmp_ne C 88 dX2_reachOf_63 (by decide) (fun c13 => ?_) (fun c13 => ?_)
      · replace h := (if_neg c13).symm.trans h
        refine fw_iinc C _ 6 [(6, _), (7, _), (0, _), (1, _), (3, _), (4, _), (5, _)] dX2_reachOf_88 rfl rfl (Nat.le_of_ble_eq_true rfl) rfl ?_
        refine fw_goto C 29 dX2_reachOf_91 (by decide) ?_
        refine fw_sub [2, 3, 4, 5, 6, 0] rfl ?_
        exact ih h kx
      · replace h := (if_pos c13).symm.trans h
        refine fw_aload C 0 dX2_reachOf_66 rfl ?_
        refine fw_aload_n C 2 dX2_reachOf_68 rfl rfl ?_
        obtain ⟨g14, h⟩ := gd_some h
        refine fw_getI C 6 7 (Nat.le_of_ble_eq_true rfl) (Nat.le_of_ble_eq_true rfl) wf_X2_94 rfl (gO_of g14) dX2_reachOf_69 ?_
        obtain ⟨v15, e15, h⟩ := b1_some h
        refine fw_callV (ci := 3) [_] C (c_X3_carries hl e15) cal_X3_carries wm_X2_97 wi_yX3_carries wsl_yX3_carries (Nat.le_of_ble_eq_true rfl) rfl (gO_of g12) rfl (Nat.le_of_ble_eq_true rfl) ⟨Nat.le_of_ble_eq_true rfl, Nat.le_of_ble_eq_true rfl⟩ ⟨Nat.zero_le _, Nat.zero_le _⟩ dX2_reachOf_72 ?_
        refine fw_if_eq C 88 dX2_reachOf_75 (by decide) (fun c16 => ?_) (fun c16 => ?_)
        · replace h := (if_pos c16).symm.trans h
          refine fw_iinc C _ 6 [(6, _), (7, _), (0, _), (1, _), (3, _), (4, _), (5, _)] dX2_reachOf_88 rfl rfl (Nat.le_of_ble_eq_true rfl) rfl ?_
          refine fw_goto C 29 dX2_reachOf_91 (by decide) ?_
          refine fw_sub [2, 3, 4, 5, 6, 0] rfl ?_
          exact ih h kx
        · replace h := (if_neg c16).symm.trans h
          refine fw_iload_n C 3 dX2_reachOf_78 rfl rfl ?_
          refine fw_iconst C 1 dX2_reachOf_79 rfl ?_
          refine fw_aload C 0 dX2_reachOf_80 rfl ?_
          refine fw_getI C 3 1 (Nat.le_of_ble_eq_true rfl) (Nat.le_of_ble_eq_true rfl) wf_X2_101 rfl (gO_of g12) dX2_reachOf_82 ?_
          refine fw_ishl C dX2_reachOf_85 ?_
          refine fw_ior C dX2_reachOf_86 ?_
          refine fw_bi h (fun y17 h => ?_)
          refine fw_istore_n C [(3, _), (7, _), (0, _), (1, _), (4, _), (5, _), (6, _)] dX2_reachOf_87 rfl (Nat.le_of_ble_eq_true rfl) rfl ?_
          refine fw_iinc C _ 6 [(6, _), (3, _), (7, _), (0, _), (1, _), (4, _), (5, _)] dX2_reachOf_88 rfl rfl (Nat.le_of_ble_eq_true rfl) rfl ?_
          refine fw_goto C 29 dX2_reachOf_91 (by decide) ?_
          refine fw_sub [3, 4, 1, 5, 6, 0] rfl ?_
          exact ih h kx
set_option maxRecDepth 100000 in
def lf_X2_reachOf_16 (S : List fw_Sh) (M : fw_Mem) (a0 : Nat) (a1 : Nat) : Nat → Int32 → Int32 → Option (Int32 ⊕ (Int32))
  | 0, _, _ => none
  | n + 1, x3, x4 => if (12 : Int32) ≤ x4 then (some (.inr x3)) else (b1 (lf_X2_reachOf_29 S M a0 a1 x4 x3 20000 x3 0) (fun l18 => if l18 = x3 then (some (.inl l18)) else (lf_X2_reachOf_16 S M a0 a1 n l18 (x4 + 1))))
set_option maxHeartbeats 4000000 in
set_option maxRecDepth 100000 in
theorem lc_X2_reachOf_16 {G : fw_G} {p : Program} {l : Launch} {e : Env} {s : State} {m : MethodId} {args : Array Value} {below : List Frame} {meth : Method} {c : Code} {S : List fw_Sh} {o : fw_O} {M : fw_Mem} {a0 : Nat} {a1 : Nat} (C : fw_C G RX2 cX2_reachOf 8 p s m args c) (hr : meth.sig.returnType = (some .int)) (hlk : meth.locks = false) (hl : l.stackTraces = false) (ht : ∀ x ∈ c.exceptionTable.toList, False) :
    ∀ {n : Nat} {x3 : Int32} {x4 : Int32} {r : (Int32 ⊕ (Int32))} (h : lf_X2_reachOf_16 S M a0 a1 n x3 x4 = some r) (kx : ∀ d, r = .inr d → fw_W G p l e (fw_rm 3 (fw_mcO o) (fw_msO o)) s m args below meth c 8 (fw_Z G below args s (fw_mcO o) (fw_msO o) o) 0 0 108 [(3, .int d)] [] S M) (hret : ∀ t, r = .inl t → o = (.inl (some (.int t)), S, M)), fw_W G p l e (fw_rm 3 (fw_mcO o) (fw_msO o)) s m args below meth c 8 (fw_Z G below args s (fw_mcO o) (fw_msO o) o) 0 0 16 [(0, .ref a0), (1, .ref a1), (3, .int x3), (4, .int x4)] [] S M := by
  intro n
  induction n with
  | zero =>
    intro x3 x4 r h
    exact nomatch (show (none : Option (Int32 ⊕ (Int32))) = some r from h)
  | succ n ih =>
    intro x3 x4 r h kx hret
    rw [lf_X2_reachOf_16.eq_2] at h
    refine fw_iload C 3 dX2_reachOf_16 rfl ?_
    refine fw_bipush C 12 dX2_reachOf_18 rfl ?_
    refine fw_icmp_ge C 108 dX2_reachOf_20 (by decide) (fun c4 => ?_) (fun c4 => ?_)
    · replace h := (if_pos c4).symm.trans h
      refine fw_sub [2] rfl ?_
      exact kx _ (Option.some.inj h).symm
    · replace h := (if_neg c4).symm.trans h
      refine fw_iload_n C 2 dX2_reachOf_23 rfl rfl ?_
      refine fw_istore C [(5, _), (0, _), (1, _), (3, _), (4, _)] dX2_reachOf_24 (Nat.le_of_ble_eq_true rfl) rfl ?_
      refine fw_iconst C 0 dX2_reachOf_26 rfl ?_
      refine fw_istore C [(6, _), (5, _), (0, _), (1, _), (3, _), (4, _)] dX2_reachOf_27 (Nat.le_of_ble_eq_true rfl) rfl ?_
      refine fw_sub [2, 3, 4, 5, 1, 0] rfl ?_
      obtain ⟨l18, e18, h⟩ := b1_some h
      refine lc_X2_reachOf_29 C hr hlk hl ht e18 ?_
      refine fw_iload_n C 2 dX2_reachOf_94 rfl rfl ?_
      refine fw_iload C 4 dX2_reachOf_95 rfl ?_
      refine fw_icmp_ne C 102 dX2_reachOf_97 (by decide) (fun c19 => ?_) (fun c19 => ?_)
      · replace h := (if_neg c19).symm.trans h
        refine fw_iinc C _ 3 [(4, _), (0, _), (1, _), (3, _), (5, _)] dX2_reachOf_102 rfl rfl (Nat.le_of_ble_eq_true rfl) rfl ?_
        refine fw_goto C 16 dX2_reachOf_105 (by decide) ?_
        refine fw_sub [1, 2, 3, 0] rfl ?_
        exact ih h kx hret
      · replace h := (if_pos c19).symm.trans h
        refine fw_iload_n C 2 dX2_reachOf_100 rfl rfl ?_
        have ho := hret _ (Option.some.inj h).symm
        subst ho
        exact fw_iret C hr hlk dX2_reachOf_101
set_option maxRecDepth 100000 in
def f_X2_reachOf (S : List fw_Sh) (M : fw_Mem) (a0 : Nat) (a1 : Nat) (x2 : Int32) : Option Int32 := gd (gO S 6 a1) (b1 (f_X6_isJudged S M a1) (fun v1 => if v1 = 0 then (some 0) else (b1 (lf_X2_reachOf_16 S M a0 a1 20000 (1 <<< (x2 &&& 31)) 0) (fun l20 => bl l20 (fun t20 => some t20) (fun d20 => some d20)))))
theorem cal_X2_reachOf : fw_cal yX2_reachOf (.code yX2_reachOf cX2_reachOf 8 (some .int)) 2 := ⟨wc_yX2_reachOf, wini_X2, by decide, by decide, by decide +kernel⟩
set_option maxHeartbeats 4000000 in
set_option maxRecDepth 100000 in
theorem c_X2_reachOf {l : Launch} {G : fw_G} {S : List fw_Sh} {M : fw_Mem} {a0 : Nat} {a1 : Nat} {x2 : Int32} {r : Int32} (hl : l.stackTraces = false) (h : f_X2_reachOf S M a0 a1 x2 = some r) : fw_M l G yX2_reachOf (.code yX2_reachOf cX2_reachOf 8 (some .int)) 3 (fw_mcO (.inl (some (.int r)), S, M)) (fw_msO (.inl (some (.int r)), S, M)) S M [.ref a0, .ref a1, .int x2] (.inl (some (.int r)), S, M) := by
  refine fw_of [(0, .ref a0), (1, .ref a1), (2, .int x2)] (by decide) (Nat.le_of_ble_eq_true rfl) rfl ?_
  intro p e s m args below meth c C hr hlk hnm ht _
  unfold f_X2_reachOf at h
  refine fw_aload_n C 1 dX2_reachOf_0 rfl rfl ?_
  obtain ⟨g2, h⟩ := gd_some h
  obtain ⟨v1, e1, h⟩ := b1_some h
  refine fw_callV (ci := 6) [] C (c_X6_isJudged hl e1) cal_X6_isJudged wm_X2_78 wi_yX6_isJudged wsl_yX6_isJudged (Nat.le_of_ble_eq_true rfl) rfl (gO_of g2) rfl (Nat.le_of_ble_eq_true rfl) ⟨Nat.le_of_ble_eq_true rfl, Nat.le_of_ble_eq_true rfl⟩ ⟨Nat.zero_le _, Nat.zero_le _⟩ dX2_reachOf_1 ?_
  refine fw_if_ne C 9 dX2_reachOf_4 (by decide) (fun c3 => ?_) (fun c3 => ?_)
  · replace h := (if_neg c3).symm.trans h
    refine fw_iconst C 1 dX2_reachOf_9 rfl ?_
    refine fw_iload_n C 2 dX2_reachOf_10 rfl rfl ?_
    refine fw_ishl C dX2_reachOf_11 ?_
    refine fw_istore_n C [(3, _), (0, _), (1, _), (2, _)] dX2_reachOf_12 rfl (Nat.le_of_ble_eq_true rfl) rfl ?_
    refine fw_iconst C 0 dX2_reachOf_13 rfl ?_
    refine fw_istore C [(4, _), (3, _), (0, _), (1, _), (2, _)] dX2_reachOf_14 (Nat.le_of_ble_eq_true rfl) rfl ?_
    refine fw_sub [2, 3, 1, 0] rfl ?_
    obtain ⟨l20, e20, h⟩ := b1_some h
    rcases l20 with t20 | d20
    · cases bl_l h
      exact lc_X2_reachOf_16 C hr hlk hl ht e20 (fun d hd => nomatch hd) (fun t ht => by cases ht; rfl)
    replace h := bl_r h
    refine lc_X2_reachOf_16 C hr hlk hl ht e20 (fun d hd => ?_) (fun t ht => nomatch ht)
    cases hd
    refine fw_iload_n C 0 dX2_reachOf_108 rfl rfl ?_
    cases h
    exact fw_iret C hr hlk dX2_reachOf_109
  · replace h := (if_pos c3).symm.trans h
    refine fw_iconst C 0 dX2_reachOf_7 rfl ?_
    cases h
    exact fw_iret C hr hlk dX2_reachOf_8
set_option maxRecDepth 100000 in
def f_J6_bitCount_0f7a4 (S : List fw_Sh) (M : fw_Mem) (x0 : Int32) : Option Int32 := bm (x0 - (((x0.toUInt32 >>> ((1 : Int32).toUInt32 &&& Int32.toUInt32 31)).toInt32) &&& 1431655765)) (fun y1 => bm ((y1 &&& 858993459) + (((y1.toUInt32 >>> ((2 : Int32).toUInt32 &&& Int32.toUInt32 31)).toInt32) &&& 858993459)) (fun y2 => bm ((y2 + ((y2.toUInt32 >>> ((4 : Int32).toUInt32 &&& Int32.toUInt32 31)).toInt32)) &&& 252645135) (fun y3 => bm (y3 + ((y3.toUInt32 >>> ((8 : Int32).toUInt32 &&& Int32.toUInt32 31)).toInt32)) (fun y4 => bm (y4 + ((y4.toUInt32 >>> ((16 : Int32).toUInt32 &&& Int32.toUInt32 31)).toInt32)) (fun y5 => some (y5 &&& 63))))))
theorem cal_J6_bitCount_0f7a4 : fw_cal yJ6_bitCount_0f7a4 (.code yJ6_bitCount_0f7a4 cJ6_bitCount_0f7a4 1 (some .int)) 1 := ⟨wc_yJ6_bitCount_0f7a4, wini_J6, by decide, by decide, by decide +kernel⟩
set_option maxHeartbeats 4000000 in
set_option maxRecDepth 100000 in
theorem c_J6_bitCount_0f7a4 {l : Launch} {G : fw_G} {S : List fw_Sh} {M : fw_Mem} {x0 : Int32} {r : Int32} (hl : l.stackTraces = false) (h : f_J6_bitCount_0f7a4 S M x0 = some r) : fw_M l G yJ6_bitCount_0f7a4 (.code yJ6_bitCount_0f7a4 cJ6_bitCount_0f7a4 1 (some .int)) 1 (fw_mcO (.inl (some (.int r)), S, M)) (fw_msO (.inl (some (.int r)), S, M)) S M [.int x0] (.inl (some (.int r)), S, M) := by
  refine fw_of [(0, .int x0)] (by decide) (Nat.le_of_ble_eq_true rfl) rfl ?_
  intro p e s m args below meth c C hr hlk hnm ht _
  unfold f_J6_bitCount_0f7a4 at h
  refine fw_iload_n C 0 dJ6_bitCount_0f7a4_0 rfl rfl ?_
  refine fw_iload_n C 0 dJ6_bitCount_0f7a4_1 rfl rfl ?_
  refine fw_iconst C 1 dJ6_bitCount_0f7a4_2 rfl ?_
  refine fw_iushr C dJ6_bitCount_0f7a4_3 ?_
  refine fw_ldcw C wk_J6_265 dJ6_bitCount_0f7a4_4 ?_
  refine fw_iand C dJ6_bitCount_0f7a4_7 ?_
  refine fw_isub C dJ6_bitCount_0f7a4_8 ?_
  refine fw_bi h (fun y1 h => ?_)
  refine fw_istore_n C [(0, _)] dJ6_bitCount_0f7a4_9 rfl (Nat.le_of_ble_eq_true rfl) rfl ?_
  refine fw_iload_n C 0 dJ6_bitCount_0f7a4_10 rfl rfl ?_
  refine fw_ldcw C wk_J6_266 dJ6_bitCount_0f7a4_11 ?_
  refine fw_iand C dJ6_bitCount_0f7a4_14 ?_
  refine fw_iload_n C 0 dJ6_bitCount_0f7a4_15 rfl rfl ?_
  refine fw_iconst C 2 dJ6_bitCount_0f7a4_16 rfl ?_
  refine fw_iushr C dJ6_bitCount_0f7a4_17 ?_
  refine fw_ldcw C wk_J6_266 dJ6_bitCount_0f7a4_18 ?_
  refine fw_iand C dJ6_bitCount_0f7a4_21 ?_
  refine fw_iadd C dJ6_bitCount_0f7a4_22 ?_
  refine fw_bi h (fun y2 h => ?_)
  refine fw_istore_n C [(0, _)] dJ6_bitCount_0f7a4_23 rfl (Nat.le_of_ble_eq_true rfl) rfl ?_
  refine fw_iload_n C 0 dJ6_bitCount_0f7a4_24 rfl rfl ?_
  refine fw_iload_n C 0 dJ6_bitCount_0f7a4_25 rfl rfl ?_
  refine fw_iconst C 4 dJ6_bitCount_0f7a4_26 rfl ?_
  refine fw_iushr C dJ6_bitCount_0f7a4_27 ?_
  refine fw_iadd C dJ6_bitCount_0f7a4_28 ?_
  refine fw_ldcw C wk_J6_267 dJ6_bitCount_0f7a4_29 ?_
  refine fw_iand C dJ6_bitCount_0f7a4_32 ?_
  refine fw_bi h (fun y3 h => ?_)
  refine fw_istore_n C [(0, _)] dJ6_bitCount_0f7a4_33 rfl (Nat.le_of_ble_eq_true rfl) rfl ?_
  refine fw_iload_n C 0 dJ6_bitCount_0f7a4_34 rfl rfl ?_
  refine fw_iload_n C 0 dJ6_bitCount_0f7a4_35 rfl rfl ?_
  refine fw_bipush C 8 dJ6_bitCount_0f7a4_36 rfl ?_
  refine fw_iushr C dJ6_bitCount_0f7a4_38 ?_
  refine fw_iadd C dJ6_bitCount_0f7a4_39 ?_
  refine fw_bi h (fun y4 h => ?_)
  refine fw_istore_n C [(0, _)] dJ6_bitCount_0f7a4_40 rfl (Nat.le_of_ble_eq_true rfl) rfl ?_
  refine fw_iload_n C 0 dJ6_bitCount_0f7a4_41 rfl rfl ?_
  refine fw_iload_n C 0 dJ6_bitCount_0f7a4_42 rfl rfl ?_
  refine fw_bipush C 16 dJ6_bitCount_0f7a4_43 rfl ?_
  refine fw_iushr C dJ6_bitCount_0f7a4_45 ?_
  refine fw_iadd C dJ6_bitCount_0f7a4_46 ?_
  refine fw_bi h (fun y5 h => ?_)
  refine fw_istore_n C [(0, _)] dJ6_bitCount_0f7a4_47 rfl (Nat.le_of_ble_eq_true rfl) rfl ?_
  refine fw_iload_n C 0 dJ6_bitCount_0f7a4_48 rfl rfl ?_
  refine fw_bipush C 63 dJ6_bitCount_0f7a4_49 rfl ?_
  refine fw_iand C dJ6_bitCount_0f7a4_51 ?_
  cases h
  exact fw_iret C hr hlk dJ6_bitCount_0f7a4_52
set_option maxRecDepth 100000 in
def f_X6_winner (S : List fw_Sh) (M : fw_Mem) (a0 : Nat) : Option Int32 := gd (gO S 6 a0) (b1 (f_X6_isJudged S M a0) (fun v1 => if v1 = 0 then (some (-1)) else (if (M a0 8) = 0 then (some (-1)) else (if ((M a0 5) &&& ((M a0 10) ^^^ (-1))) = 0 then (if ((M a0 6) &&& (M a0 10)) = 0 then (some 0) else (some 1)) else (some 1)))))
theorem cal_X6_winner : fw_cal yX6_winner (.code yX6_winner cX6_winner 1 (some .int)) 0 := ⟨wc_yX6_winner, wini_X6, by decide, by decide, by decide +kernel⟩
set_option maxHeartbeats 4000000 in
set_option maxRecDepth 100000 in
theorem c_X6_winner {l : Launch} {G : fw_G} {S : List fw_Sh} {M : fw_Mem} {a0 : Nat} {r : Int32} (hl : l.stackTraces = false) (h : f_X6_winner S M a0 = some r) : fw_M l G yX6_winner (.code yX6_winner cX6_winner 1 (some .int)) 2 (fw_mcO (.inl (some (.int r)), S, M)) (fw_msO (.inl (some (.int r)), S, M)) S M [.ref a0] (.inl (some (.int r)), S, M) := by
  refine fw_of [(0, .ref a0)] (by decide) (Nat.le_of_ble_eq_true rfl) rfl ?_
  intro p e s m args below meth c C hr hlk hnm ht _
  unfold f_X6_winner at h
  refine fw_aload_n C 0 dX6_winner_0 rfl rfl ?_
  obtain ⟨g2, h⟩ := gd_some h
  obtain ⟨v1, e1, h⟩ := b1_some h
  refine fw_callV (ci := 6) [] C (c_X6_isJudged hl e1) cal_X6_isJudged wm_X6_58 wi_yX6_isJudged wsl_yX6_isJudged (Nat.le_of_ble_eq_true rfl) rfl (gO_of g2) rfl (Nat.le_of_ble_eq_true rfl) ⟨Nat.le_of_ble_eq_true rfl, Nat.le_of_ble_eq_true rfl⟩ ⟨Nat.zero_le _, Nat.zero_le _⟩ dX6_winner_1 ?_
  refine fw_if_eq C 14 dX6_winner_4 (by decide) (fun c3 => ?_) (fun c3 => ?_)
  · replace h := (if_pos c3).symm.trans h
    refine fw_iconst C (-1) dX6_winner_14 rfl ?_
    cases h
    exact fw_iret C hr hlk dX6_winner_15
  · replace h := (if_neg c3).symm.trans h
    refine fw_aload_n C 0 dX6_winner_7 rfl rfl ?_
    refine fw_getI C 6 8 (Nat.le_of_ble_eq_true rfl) (Nat.le_of_ble_eq_true rfl) wf_X6_36 rfl (gO_of g2) dX6_winner_8 ?_
    refine fw_if_ne C 16 dX6_winner_11 (by decide) (fun c4 => ?_) (fun c4 => ?_)
    · replace h := (if_neg c4).symm.trans h
      refine fw_aload_n C 0 dX6_winner_16 rfl rfl ?_
      refine fw_getI C 6 5 (Nat.le_of_ble_eq_true rfl) (Nat.le_of_ble_eq_true rfl) wf_X6_30 rfl (gO_of g2) dX6_winner_17 ?_
      refine fw_aload_n C 0 dX6_winner_20 rfl rfl ?_
      refine fw_getI C 6 10 (Nat.le_of_ble_eq_true rfl) (Nat.le_of_ble_eq_true rfl) wf_X6_43 rfl (gO_of g2) dX6_winner_21 ?_
      refine fw_iconst C (-1) dX6_winner_24 rfl ?_
      refine fw_ixor C dX6_winner_25 ?_
      refine fw_iand C dX6_winner_26 ?_
      refine fw_if_ne C 46 dX6_winner_27 (by decide) (fun c5 => ?_) (fun c5 => ?_)
      · replace h := (if_neg c5).symm.trans h
        refine fw_iconst C 1 dX6_winner_46 rfl ?_
        cases h
        exact fw_iret C hr hlk dX6_winner_47
      · replace h := (if_pos c5).symm.trans h
        refine fw_aload_n C 0 dX6_winner_30 rfl rfl ?_
        refine fw_getI C 6 6 (Nat.le_of_ble_eq_true rfl) (Nat.le_of_ble_eq_true rfl) wf_X6_33 rfl (gO_of g2) dX6_winner_31 ?_
        refine fw_aload_n C 0 dX6_winner_34 rfl rfl ?_
        refine fw_getI C 6 10 (Nat.le_of_ble_eq_true rfl) (Nat.le_of_ble_eq_true rfl) wf_X6_43 rfl (gO_of g2) dX6_winner_35 ?_
        refine fw_iand C dX6_winner_38 ?_
        refine fw_if_ne C 46 dX6_winner_39 (by decide) (fun c6 => ?_) (fun c6 => ?_)
        · replace h := (if_neg c6).symm.trans h
          refine fw_iconst C 1 dX6_winner_46 rfl ?_
          cases h
          exact fw_iret C hr hlk dX6_winner_47
        · replace h := (if_pos c6).symm.trans h
          refine fw_iconst C 0 dX6_winner_42 rfl ?_
          refine fw_goto C 47 dX6_winner_43 (by decide) ?_
          cases h
          exact fw_iret C hr hlk dX6_winner_47
    · replace h := (if_pos c4).symm.trans h
      refine fw_iconst C (-1) dX6_winner_14 rfl ?_
      cases h
      exact fw_iret C hr hlk dX6_winner_15
set_option maxRecDepth 100000 in
def f_X6_necessaryIssues (S : List fw_Sh) (M : fw_Mem) (a0 : Nat) (x1 : Int32) : Option Int32 := gd (gO S 6 a0) (b1 (f_X6_winner S M a0) (fun v1 => if v1 = (-1) then (some 0) else (if v1 = 0 then (some ((M a0 5) ||| ((M a0 6) &&& (M a0 11)))) else (bm (((M a0 5) &&& (M a0 11)) ||| ((M a0 6) &&& (M a0 10))) (fun y5 => if x1 = 1 then (some y5) else (b1 (f_J6_bitCount_0f7a4 S M y5) (fun v7 => if v7 = 1 then (some y5) else (some 0))))))))
theorem cal_X6_necessaryIssues : fw_cal yX6_necessaryIssues (.code yX6_necessaryIssues cX6_necessaryIssues 4 (some .int)) 1 := ⟨wc_yX6_necessaryIssues, wini_X6, by decide, by decide, by decide +kernel⟩
set_option maxHeartbeats 4000000 in
set_option maxRecDepth 100000 in
theorem c_X6_necessaryIssues {l : Launch} {G : fw_G} {S : List fw_Sh} {M : fw_Mem} {a0 : Nat} {x1 : Int32} {r : Int32} (hl : l.stackTraces = false) (h : f_X6_necessaryIssues S M a0 x1 = some r) : fw_M l G yX6_necessaryIssues (.code yX6_necessaryIssues cX6_necessaryIssues 4 (some .int)) 3 (fw_mcO (.inl (some (.int r)), S, M)) (fw_msO (.inl (some (.int r)), S, M)) S M [.ref a0, .int x1] (.inl (some (.int r)), S, M) := by
  refine fw_of [(0, .ref a0), (1, .int x1)] (by decide) (Nat.le_of_ble_eq_true rfl) rfl ?_
  intro p e s m args below meth c C hr hlk hnm ht _
  unfold f_X6_necessaryIssues at h
  refine fw_aload_n C 0 dX6_necessaryIssues_0 rfl rfl ?_
  obtain ⟨g2, h⟩ := gd_some h
  obtain ⟨v1, e1, h⟩ := b1_some h
  refine fw_callV (ci := 6) [] C (c_X6_winner hl e1) cal_X6_winner wm_X6_62 wi_yX6_winner wsl_yX6_winner (Nat.le_of_ble_eq_true rfl) rfl (gO_of g2) rfl (Nat.le_of_ble_eq_true rfl) ⟨Nat.le_of_ble_eq_true rfl, Nat.le_of_ble_eq_true rfl⟩ ⟨Nat.zero_le _, Nat.zero_le _⟩ dX6_necessaryIssues_1 ?_
  refine fw_istore_n C [(2, _), (0, _), (1, _)] dX6_necessaryIssues_4 rfl (Nat.le_of_ble_eq_true rfl) rfl ?_
  refine fw_iload_n C 0 dX6_necessaryIssues_5 rfl rfl ?_
  refine fw_iconst C (-1) dX6_necessaryIssues_6 rfl ?_
  refine fw_icmp_ne C 12 dX6_necessaryIssues_7 (by decide) (fun c3 => ?_) (fun c3 => ?_)
  · replace h := (if_neg c3).symm.trans h
    refine fw_iload_n C 0 dX6_necessaryIssues_12 rfl rfl ?_
    refine fw_if_ne C 31 dX6_necessaryIssues_13 (by decide) (fun c4 => ?_) (fun c4 => ?_)
    · replace h := (if_neg c4).symm.trans h
      refine fw_aload_n C 1 dX6_necessaryIssues_31 rfl rfl ?_
      refine fw_getI C 6 5 (Nat.le_of_ble_eq_true rfl) (Nat.le_of_ble_eq_true rfl) wf_X6_30 rfl (gO_of g2) dX6_necessaryIssues_32 ?_
      refine fw_aload_n C 1 dX6_necessaryIssues_35 rfl rfl ?_
      refine fw_getI C 6 11 (Nat.le_of_ble_eq_true rfl) (Nat.le_of_ble_eq_true rfl) wf_X6_46 rfl (gO_of g2) dX6_necessaryIssues_36 ?_
      refine fw_iand C dX6_necessaryIssues_39 ?_
      refine fw_aload_n C 1 dX6_necessaryIssues_40 rfl rfl ?_
      refine fw_getI C 6 6 (Nat.le_of_ble_eq_true rfl) (Nat.le_of_ble_eq_true rfl) wf_X6_33 rfl (gO_of g2) dX6_necessaryIssues_41 ?_
      refine fw_aload_n C 1 dX6_necessaryIssues_44 rfl rfl ?_
      refine fw_getI C 6 10 (Nat.le_of_ble_eq_true rfl) (Nat.le_of_ble_eq_true rfl) wf_X6_43 rfl (gO_of g2) dX6_necessaryIssues_45 ?_
      refine fw_iand C dX6_necessaryIssues_48 ?_
      refine fw_ior C dX6_necessaryIssues_49 ?_
      refine fw_bi h (fun y5 h => ?_)
      refine fw_istore_n C [(3, _), (2, _), (0, _), (1, _)] dX6_necessaryIssues_50 rfl (Nat.le_of_ble_eq_true rfl) rfl ?_
      refine fw_iload_n C 3 dX6_necessaryIssues_51 rfl rfl ?_
      refine fw_iconst C 1 dX6_necessaryIssues_52 rfl ?_
      refine fw_icmp_eq C 64 dX6_necessaryIssues_53 (by decide) (fun c6 => ?_) (fun c6 => ?_)
      · replace h := (if_pos c6).symm.trans h
        refine fw_iload_n C 0 dX6_necessaryIssues_64 rfl rfl ?_
        refine fw_goto C 69 dX6_necessaryIssues_65 (by decide) ?_
        cases h
        exact fw_iret C hr hlk dX6_necessaryIssues_69
      · replace h := (if_neg c6).symm.trans h
        refine fw_iload_n C 0 dX6_necessaryIssues_56 rfl rfl ?_
        obtain ⟨v7, e7, h⟩ := b1_some h
        refine fw_callS [_] C (c_J6_bitCount_0f7a4 hl e7) cal_J6_bitCount_0f7a4 wm_X6_66 wt_yJ6_bitCount_0f7a4 rfl (Nat.le_of_ble_eq_true rfl) ⟨Nat.le_of_ble_eq_true rfl, Nat.le_of_ble_eq_true rfl⟩ ⟨Nat.zero_le _, Nat.zero_le _⟩ dX6_necessaryIssues_57 ?_
        refine fw_iconst C 1 dX6_necessaryIssues_60 rfl ?_
        refine fw_icmp_ne C 68 dX6_necessaryIssues_61 (by decide) (fun c8 => ?_) (fun c8 => ?_)
        · replace h := (if_neg c8).symm.trans h
          refine fw_iconst C 0 dX6_necessaryIssues_68 rfl ?_
          cases h
          exact fw_iret C hr hlk dX6_necessaryIssues_69
        · replace h := (if_pos c8).symm.trans h
          refine fw_iload_n C 0 dX6_necessaryIssues_64 rfl rfl ?_
          refine fw_goto C 69 dX6_necessaryIssues_65 (by decide) ?_
          cases h
          exact fw_iret C hr hlk dX6_necessaryIssues_69
    · replace h := (if_pos c4).symm.trans h
      refine fw_aload_n C 1 dX6_necessaryIssues_16 rfl rfl ?_
      refine fw_getI C 6 5 (Nat.le_of_ble_eq_true rfl) (Nat.le_of_ble_eq_true rfl) wf_X6_30 rfl (gO_of g2) dX6_necessaryIssues_17 ?_
      refine fw_aload_n C 1 dX6_necessaryIssues_20 rfl rfl ?_
      refine fw_getI C 6 6 (Nat.le_of_ble_eq_true rfl) (Nat.le_of_ble_eq_true rfl) wf_X6_33 rfl (gO_of g2) dX6_necessaryIssues_21 ?_
      refine fw_aload_n C 1 dX6_necessaryIssues_24 rfl rfl ?_
      refine fw_getI C 6 11 (Nat.le_of_ble_eq_true rfl) (Nat.le_of_ble_eq_true rfl) wf_X6_46 rfl (gO_of g2) dX6_necessaryIssues_25 ?_
      refine fw_iand C dX6_necessaryIssues_28 ?_
      refine fw_ior C dX6_necessaryIssues_29 ?_
      cases h
      exact fw_iret C hr hlk dX6_necessaryIssues_30
  · replace h := (if_pos c3).symm.trans h
    refine fw_iconst C 0 dX6_necessaryIssues_10 rfl ?_
    cases h
    exact fw_iret C hr hlk dX6_necessaryIssues_11
set_option maxRecDepth 100000 in
def f_X6_settledIssues (S : List fw_Sh) (M : fw_Mem) (a0 : Nat) (x1 : Int32) : Option Int32 := gd (gO S 6 a0) (if (M a0 9) = 0 then (b1 (f_X6_necessaryIssues S M a0 x1) (fun v3 => some (v3 &&& ((M a0 12) ^^^ (-1))))) else (some 0))
theorem cal_X6_settledIssues : fw_cal yX6_settledIssues (.code yX6_settledIssues cX6_settledIssues 2 (some .int)) 1 := ⟨wc_yX6_settledIssues, wini_X6, by decide, by decide, by decide +kernel⟩
set_option maxHeartbeats 4000000 in
set_option maxRecDepth 100000 in
theorem c_X6_settledIssues {l : Launch} {G : fw_G} {S : List fw_Sh} {M : fw_Mem} {a0 : Nat} {x1 : Int32} {r : Int32} (hl : l.stackTraces = false) (h : f_X6_settledIssues S M a0 x1 = some r) : fw_M l G yX6_settledIssues (.code yX6_settledIssues cX6_settledIssues 2 (some .int)) 4 (fw_mcO (.inl (some (.int r)), S, M)) (fw_msO (.inl (some (.int r)), S, M)) S M [.ref a0, .int x1] (.inl (some (.int r)), S, M) := by
  refine fw_of [(0, .ref a0), (1, .int x1)] (by decide) (Nat.le_of_ble_eq_true rfl) rfl ?_
  intro p e s m args below meth c C hr hlk hnm ht _
  unfold f_X6_settledIssues at h
  refine fw_aload_n C 0 dX6_settledIssues_0 rfl rfl ?_
  obtain ⟨g1, h⟩ := gd_some h
  refine fw_getI C 6 9 (Nat.le_of_ble_eq_true rfl) (Nat.le_of_ble_eq_true rfl) wf_X6_40 rfl (gO_of g1) dX6_settledIssues_1 ?_
  refine fw_if_eq C 11 dX6_settledIssues_4 (by decide) (fun c2 => ?_) (fun c2 => ?_)
  · replace h := (if_pos c2).symm.trans h
    refine fw_aload_n C 0 dX6_settledIssues_11 rfl rfl ?_
    refine fw_iload_n C 1 dX6_settledIssues_12 rfl rfl ?_
    obtain ⟨v3, e3, h⟩ := b1_some h
    refine fw_callV (ci := 6) [_] C (c_X6_necessaryIssues hl e3) cal_X6_necessaryIssues wm_X6_72 wi_yX6_necessaryIssues wsl_yX6_necessaryIssues (Nat.le_of_ble_eq_true rfl) rfl (gO_of g1) rfl (Nat.le_of_ble_eq_true rfl) ⟨Nat.le_of_ble_eq_true rfl, Nat.le_of_ble_eq_true rfl⟩ ⟨Nat.zero_le _, Nat.zero_le _⟩ dX6_settledIssues_13 ?_
    refine fw_aload_n C 0 dX6_settledIssues_16 rfl rfl ?_
    refine fw_getI C 6 12 (Nat.le_of_ble_eq_true rfl) (Nat.le_of_ble_eq_true rfl) wf_X6_49 rfl (gO_of g1) dX6_settledIssues_17 ?_
    refine fw_iconst C (-1) dX6_settledIssues_20 rfl ?_
    refine fw_ixor C dX6_settledIssues_21 ?_
    refine fw_iand C dX6_settledIssues_22 ?_
    cases h
    exact fw_iret C hr hlk dX6_settledIssues_23
  · replace h := (if_neg c2).symm.trans h
    refine fw_iconst C 0 dX6_settledIssues_7 rfl ?_
    refine fw_goto C 23 dX6_settledIssues_8 (by decide) ?_
    cases h
    exact fw_iret C hr hlk dX6_settledIssues_23
set_option maxRecDepth 100000 in
def lf_X2_refresh_2 (S : List fw_Sh) (a0 : Nat) : Nat → Int32 → fw_Mem → Option (fw_Mem)
  | 0, _, _ => none
  | n + 1, x1, M => gd (gO S 2 a0) (gd (gN (M a0 0)) (gd (gO S 4 ((M a0 0).toNatClampNeg)) (if (M ((M a0 0).toNatClampNeg) 6) ≤ x1 then (some M) else (gd (gN (M ((M a0 0).toNatClampNeg) 2)) (gd (gA S 4 ((M ((M a0 0).toNatClampNeg) 2).toNatClampNeg) x1) (gd (gN (M ((M ((M a0 0).toNatClampNeg) 2).toNatClampNeg) x1.toNatClampNeg)) (gd (gN (M ((M a0 0).toNatClampNeg) 3)) (gd (gA S 0 ((M ((M a0 0).toNatClampNeg) 3).toNatClampNeg) 2) (gd (gO S 6 ((M ((M ((M a0 0).toNatClampNeg) 2).toNatClampNeg) x1.toNatClampNeg).toNatClampNeg)) (b1 (f_X6_settledIssues S M ((M ((M ((M a0 0).toNatClampNeg) 2).toNatClampNeg) x1.toNatClampNeg).toNatClampNeg) (M ((M ((M a0 0).toNatClampNeg) 3).toNatClampNeg) 2)) (fun v10 => bm (fw_set M ((M ((M ((M a0 0).toNatClampNeg) 2).toNatClampNeg) x1.toNatClampNeg).toNatClampNeg) 15 (v10 &&& (M ((M ((M ((M a0 0).toNatClampNeg) 2).toNatClampNeg) x1.toNatClampNeg).toNatClampNeg) 10))) (fun M12 => bm (fw_set M12 ((M ((M ((M a0 0).toNatClampNeg) 2).toNatClampNeg) x1.toNatClampNeg).toNatClampNeg) 16 (v10 &&& (M12 ((M ((M ((M a0 0).toNatClampNeg) 2).toNatClampNeg) x1.toNatClampNeg).toNatClampNeg) 11))) (fun M13 => b1 (f_X2_reachOf S M13 a0 ((M ((M ((M a0 0).toNatClampNeg) 2).toNatClampNeg) x1.toNatClampNeg).toNatClampNeg) (M13 ((M ((M ((M a0 0).toNatClampNeg) 2).toNatClampNeg) x1.toNatClampNeg).toNatClampNeg) 1)) (fun v14 => bm (fw_set M13 ((M ((M ((M a0 0).toNatClampNeg) 2).toNatClampNeg) x1.toNatClampNeg).toNatClampNeg) 13 v14) (fun M15 => b1 (f_X2_reachOf S M15 a0 ((M ((M ((M a0 0).toNatClampNeg) 2).toNatClampNeg) x1.toNatClampNeg).toNatClampNeg) (M15 ((M ((M ((M a0 0).toNatClampNeg) 2).toNatClampNeg) x1.toNatClampNeg).toNatClampNeg) 2)) (fun v16 => bm (fw_set M15 ((M ((M ((M a0 0).toNatClampNeg) 2).toNatClampNeg) x1.toNatClampNeg).toNatClampNeg) 14 v16) (fun M17 => lf_X2_refresh_2 S a0 n (x1 + 1) M17)))))))))))))))))
set_option maxHeartbeats 4000000 in
set_option maxRecDepth 100000 in
theorem lc_X2_refresh_2 {G : fw_G} {p : Program} {l : Launch} {e : Env} {s : State} {m : MethodId} {args : Array Value} {below : List Frame} {meth : Method} {c : Code} {S : List fw_Sh} {o : fw_O} {a0 : Nat} (C : fw_C G RX2 cX2_refresh 4 p s m args c) (hr : meth.sig.returnType = none) (hlk : meth.locks = false) (hl : l.stackTraces = false) (ht : ∀ x ∈ c.exceptionTable.toList, False) :
    ∀ {n : Nat} {x1 : Int32} {M : fw_Mem} {r : (fw_Mem)} (h : lf_X2_refresh_2 S a0 n x1 M = some r) (kx : fw_W G p l e (fw_rm 5 (fw_mcO o) (fw_msO o)) s m args below meth c 4 (fw_Z G below args s (fw_mcO o) (fw_msO o) o) 0 0 89 [] [] S r), fw_W G p l e (fw_rm 5 (fw_mcO o) (fw_msO o)) s m args below meth c 4 (fw_Z G below args s (fw_mcO o) (fw_msO o) o) 0 0 2 [(0, .ref a0), (1, .int x1)] [] S M := by
  intro n
  induction n with
  | zero =>
    intro x1 M r h
    exact nomatch (show (none : Option (fw_Mem)) = some r from h)
  | succ n ih =>
    intro x1 M r h kx
    rw [lf_X2_refresh_2.eq_2] at h
    refine fw_iload_n C 1 dX2_refresh_2 rfl rfl ?_
    refine fw_aload_n C 0 dX2_refresh_3 rfl rfl ?_
    obtain ⟨g1, h⟩ := gd_some h
    obtain ⟨g2, h⟩ := gd_some h
    refine fw_getR C 2 0 (Nat.le_of_ble_eq_true rfl) (Nat.le_of_ble_eq_true rfl) wf_X2_27 rfl (gO_of g1) (gN_of g2) dX2_refresh_4 ?_
    obtain ⟨g3, h⟩ := gd_some h
    refine fw_getI C 4 6 (Nat.le_of_ble_eq_true rfl) (Nat.le_of_ble_eq_true rfl) wf_X2_31 rfl (gO_of g3) dX2_refresh_7 ?_
    refine fw_icmp_ge C 89 dX2_refresh_10 (by decide) (fun c4 => ?_) (fun c4 => ?_)
    · replace h := (if_pos c4).symm.trans h
      cases h
      refine fw_sub [] rfl ?_
      exact kx
    · replace h := (if_neg c4).symm.trans h
      refine fw_aload_n C 0 dX2_refresh_13 rfl rfl ?_
      refine fw_getR C 2 0 (Nat.le_of_ble_eq_true rfl) (Nat.le_of_ble_eq_true rfl) wf_X2_27 rfl (gO_of g1) (gN_of g2) dX2_refresh_14 ?_
      obtain ⟨g5, h⟩ := gd_some h
      refine fw_getR C 4 2 (Nat.le_of_ble_eq_true rfl) (Nat.le_of_ble_eq_true rfl) wf_X2_37 rfl (gO_of g3) (gN_of g5) dX2_refresh_17 ?_
      refine fw_iload_n C 1 dX2_refresh_20 rfl rfl ?_
      obtain ⟨g6, h⟩ := gd_some h
      obtain ⟨g7, h⟩ := gd_some h
      refine fw_aald C 4 (by decide) (gA_of g6) (gN_of g7) dX2_refresh_21 ?_
      refine fw_astore_n C [(2, _), (0, _), (1, _)] dX2_refresh_22 rfl (Nat.le_of_ble_eq_true rfl) rfl ?_
      refine fw_aload_n C 0 dX2_refresh_23 rfl rfl ?_
      refine fw_aload_n C 1 dX2_refresh_24 rfl rfl ?_
      refine fw_getR C 2 0 (Nat.le_of_ble_eq_true rfl) (Nat.le_of_ble_eq_true rfl) wf_X2_27 rfl (gO_of g1) (gN_of g2) dX2_refresh_25 ?_
      obtain ⟨g8, h⟩ := gd_some h
      refine fw_getR C 4 3 (Nat.le_of_ble_eq_true rfl) (Nat.le_of_ble_eq_true rfl) wf_X2_41 rfl (gO_of g3) (gN_of g8) dX2_refresh_28 ?_
      refine fw_iconst C 2 dX2_refresh_31 rfl ?_
      obtain ⟨g9, h⟩ := gd_some h
      refine fw_iald C (gA_of g9) dX2_refresh_32 ?_
      obtain ⟨g11, h⟩ := gd_some h
      obtain ⟨v10, e10, h⟩ := b1_some h
      refine fw_callV (ci := 6) [_] C (c_X6_settledIssues hl e10) cal_X6_settledIssues wm_X2_44 wi_yX6_settledIssues wsl_yX6_settledIssues (Nat.le_of_ble_eq_true rfl) rfl (gO_of g11) rfl (Nat.le_of_ble_eq_true rfl) ⟨Nat.le_of_ble_eq_true rfl, Nat.le_of_ble_eq_true rfl⟩ ⟨Nat.zero_le _, Nat.zero_le _⟩ dX2_refresh_33 ?_
      refine fw_istore_n C [(3, _), (2, _), (0, _), (1, _)] dX2_refresh_36 rfl (Nat.le_of_ble_eq_true rfl) rfl ?_
      refine fw_aload_n C 1 dX2_refresh_37 rfl rfl ?_
      refine fw_iload_n C 0 dX2_refresh_38 rfl rfl ?_
      refine fw_aload_n C 1 dX2_refresh_39 rfl rfl ?_
      refine fw_getI C 6 10 (Nat.le_of_ble_eq_true rfl) (Nat.le_of_ble_eq_true rfl) wf_X2_50 rfl (gO_of g11) dX2_refresh_40 ?_
      refine fw_iand C dX2_refresh_43 ?_
      refine fw_putI C 6 15 (Nat.le_of_ble_eq_true rfl) (Nat.le_of_ble_eq_true rfl) wf_X2_53 rfl rfl rfl rfl (gO_of g11) dX2_refresh_44 ?_
      refine fw_bm h (fun M12 h => ?_)
      refine fw_aload_n C 1 dX2_refresh_47 rfl rfl ?_
      refine fw_iload_n C 0 dX2_refresh_48 rfl rfl ?_
      refine fw_aload_n C 1 dX2_refresh_49 rfl rfl ?_
      refine fw_getI C 6 11 (Nat.le_of_ble_eq_true rfl) (Nat.le_of_ble_eq_true rfl) wf_X2_56 rfl (gO_of g11) dX2_refresh_50 ?_
      refine fw_iand C dX2_refresh_53 ?_
      refine fw_putI C 6 16 (Nat.le_of_ble_eq_true rfl) (Nat.le_of_ble_eq_true rfl) wf_X2_59 rfl rfl rfl rfl (gO_of g11) dX2_refresh_54 ?_
      refine fw_bm h (fun M13 h => ?_)
      refine fw_aload_n C 1 dX2_refresh_57 rfl rfl ?_
      refine fw_aload_n C 2 dX2_refresh_58 rfl rfl ?_
      refine fw_aload_n C 1 dX2_refresh_59 rfl rfl ?_
      refine fw_aload_n C 1 dX2_refresh_60 rfl rfl ?_
      refine fw_getI C 6 1 (Nat.le_of_ble_eq_true rfl) (Nat.le_of_ble_eq_true rfl) wf_X2_62 rfl (gO_of g11) dX2_refresh_61 ?_
      obtain ⟨v14, e14, h⟩ := b1_some h
      refine fw_callV (ci := 2) [_, _] C (c_X2_reachOf hl e14) cal_X2_reachOf wm_X2_65 wi_yX2_reachOf wsl_yX2_reachOf (Nat.le_of_ble_eq_true rfl) rfl (gO_of g1) rfl (Nat.le_of_ble_eq_true rfl) ⟨Nat.le_of_ble_eq_true rfl, Nat.le_of_ble_eq_true rfl⟩ ⟨Nat.zero_le _, Nat.zero_le _⟩ dX2_refresh_64 ?_
      refine fw_putI C 6 13 (Nat.le_of_ble_eq_true rfl) (Nat.le_of_ble_eq_true rfl) wf_X2_69 rfl rfl rfl rfl (gO_of g11) dX2_refresh_67 ?_
      refine fw_bm h (fun M15 h => ?_)
      refine fw_aload_n C 1 dX2_refresh_70 rfl rfl ?_
      refine fw_aload_n C 2 dX2_refresh_71 rfl rfl ?_
      refine fw_aload_n C 1 dX2_refresh_72 rfl rfl ?_
      refine fw_aload_n C 1 dX2_refresh_73 rfl rfl ?_
      refine fw_getI C 6 2 (Nat.le_of_ble_eq_true rfl) (Nat.le_of_ble_eq_true rfl) wf_X2_72 rfl (gO_of g11) dX2_refresh_74 ?_
      obtain ⟨v16, e16, h⟩ := b1_some h
      refine fw_callV (ci := 2) [_, _] C (c_X2_reachOf hl e16) cal_X2_reachOf wm_X2_65 wi_yX2_reachOf wsl_yX2_reachOf (Nat.le_of_ble_eq_true rfl) rfl (gO_of g1) rfl (Nat.le_of_ble_eq_true rfl) ⟨Nat.le_of_ble_eq_true rfl, Nat.le_of_ble_eq_true rfl⟩ ⟨Nat.zero_le _, Nat.zero_le _⟩ dX2_refresh_77 ?_
      refine fw_putI C 6 14 (Nat.le_of_ble_eq_true rfl) (Nat.le_of_ble_eq_true rfl) wf_X2_75 rfl rfl rfl rfl (gO_of g11) dX2_refresh_80 ?_
      refine fw_bm h (fun M17 h => ?_)
      refine fw_iinc C _ 3 [(1, _), (3, _), (2, _), (0, _)] dX2_refresh_83 rfl rfl (Nat.le_of_ble_eq_true rfl) rfl ?_
      refine fw_goto C 2 dX2_refresh_86 (by decide) ?_
      refine fw_sub [3, 0] rfl ?_
      exact ih h kx
set_option maxRecDepth 100000 in
def f_X2_refresh (S : List fw_Sh) (M : fw_Mem) (a0 : Nat) : Option fw_Mem := b1 (lf_X2_refresh_2 S a0 20000 0 M) (fun l18 => some l18)
theorem cal_X2_refresh : fw_cal yX2_refresh (.code yX2_refresh cX2_refresh 4 none) 0 := ⟨wc_yX2_refresh, wini_X2, by decide, by decide, by decide +kernel⟩
set_option maxHeartbeats 4000000 in
set_option maxRecDepth 100000 in
theorem c_X2_refresh {l : Launch} {G : fw_G} {S : List fw_Sh} {M : fw_Mem} {a0 : Nat} {r : fw_Mem} (hl : l.stackTraces = false) (h : f_X2_refresh S M a0 = some r) : fw_M l G yX2_refresh (.code yX2_refresh cX2_refresh 4 none) 5 (fw_mcO (.inl none, S, r)) (fw_msO (.inl none, S, r)) S M [.ref a0] (.inl none, S, r) := by
  refine fw_of [(0, .ref a0)] (by decide) (Nat.le_of_ble_eq_true rfl) rfl ?_
  intro p e s m args below meth c C hr hlk hnm ht _
  unfold f_X2_refresh at h
  refine fw_iconst C 0 dX2_refresh_0 rfl ?_
  refine fw_istore_n C [(1, _), (0, _)] dX2_refresh_1 rfl (Nat.le_of_ble_eq_true rfl) rfl ?_
  refine fw_sub [1, 0] rfl ?_
  obtain ⟨l18, e18, h⟩ := b1_some h
  refine lc_X2_refresh_2 C hr hlk hl ht e18 ?_
  cases h
  exact fw_vret C hr hlk dX2_refresh_89
