set_option maxRecDepth 100000 in
def f_X6_necessaryIssues (S : List fw_Sh) (M : fw_Mem) (a0 : Nat) (x1 : Int32) : Option Int32 := gd (gO S 6 a0) (b1 (f_X6_winner S M a0) (fun v1 => if v1 = (-1) then (some 0) else (if v1 = 0 then (some ((M a0 5) ||| ((M a0 6) &&& (M a0 11)))) else (bm (((M a0 5) &&& (M a0 11)) ||| ((M a0 6) &&& (M a0 10))) (fun y5 => if x1 = 1 then (some y5) else (b1 (f_J6_bitCount_0f7a4 S M y5) (fun v7 => if v7 = 1 then (some y5) else (some 0))))))))
set_option maxHeartbeats 4000000 in
set_option maxRecDepth 100000 in
theorem c_X6_necessaryIssues {l : Launch} {G : fw_G} {S : List fw_Sh} {M : fw_Mem} {a0 : Nat} {x1 : Int32} {r : Int32} (hl : l.stackTraces = false) (h : f_X6_necessaryIssues S M a0 x1 = some r) : fw_M l G yX6_necessaryIssues (.code yX6_necessaryIssues cX6_necessaryIssues 4 (some .int)) 3 (fw_mcO (.inl (some (.int r)), S, M)) (fw_msO (.inl (some (.int r)), S, M)) S M [.ref a0, .int x1] (.inl (some (.int r)), S, M) := by
  refine fw_of [(0, .ref a0), (1, .int x1)] (by decide) (Nat.le_of_ble_eq_true rfl) rfl ?_
  intro p e s m args below meth c C hr hlk hnm ht _
  unfold f_X6_necessaryIssues at h
  refine fw_aload_n C 0 dX6_necessaryIssues_0 rfl rfl ?_
  obtain ⟨g2, h⟩ := gd_some h
  obtain ⟨v1, e1, h⟩ := b1_some h
  refine fw_callV (ci := 6) [] C (c_X6_winner hl e1) cal_X6_winner wm_X6_62 wi_yX6_winner wsl_yX6_winner (Nat.le_of_ble_eq_true rfl) rfl (gO_of g2) rfl (Nat.le_of_ble_eq_true rfl) ⟨Nat.le_of_ble_eq_true rfl, Nat.le_of_ble_eq_true rfl⟩ ⟨Nat.zero_le _, Nat.zero_le _⟩ dX6_necessaryIssues_1 ?_
  refine fw_istore_n C [(2, _), (0, _), (1, _)] dX6_necessaryIssues_4 rfl (Nat.le_of_ble_eq_true rfl) rfl ?_
  refine fw_iload_n C 0 dX6_necessaryIssues_5 rfl rfl ?_
  refine fw_iconst C (-1) dX6_necessaryIssues_6 rfl ?_
  refine fw_icmp_ne C 12 dX6_necessaryIssues_7 (by decide) (fun c3 => ?_) (fun c3 => ?_)
  · replace h := (if_neg c3).symm.trans h
    refine fw_iload_n C 0 dX6_necessaryIssues_12 rfl rfl ?_
    refine fw_if_ne C 31 dX6_necessaryIssues_13 (by decide) (fun c4 => ?_) (fun c4 => ?_)
    · replace h := (if_neg c4).symm.trans h
      refine fw_aload_n C 1 dX6_necessaryIssues_31 rfl rfl ?_
      refine fw_getI C 6 5 (Nat.le_of_ble_eq_true rfl) (Nat.le_of_ble_eq_true rfl) wf_X6_30 rfl (gO_of g2) dX6_necessaryIssues_32 ?_
      refine fw_aload_n C 1 dX6_necessaryIssues_35 rfl rfl ?_
      refine fw_getI C 6 11 (Nat.le_of_ble_eq_true rfl) (Nat.le_of_ble_eq_true rfl) wf_X6_46 rfl (gO_of g2) dX6_necessaryIssues_36 ?_
      refine fw_iand C dX6_necessaryIssues_39 ?_
      refine fw_aload_n C 1 dX6_necessaryIssues_40 rfl rfl ?_
      refine fw_getI C 6 6 (Nat.le_of_ble_eq_true rfl) (Nat.le_of_ble_eq_true rfl) wf_X6_33 rfl (gO_of g2) dX6_necessaryIssues_41 ?_
      refine fw_aload_n C 1 dX6_necessaryIssues_44 rfl rfl ?_
      refine fw_getI C 6 10 (Nat.le_of_ble_eq_true rfl) (Nat.le_of_ble_eq_true rfl) wf_X6_43 rfl (gO_of g2) dX6_necessaryIssues_45 ?_
      refine fw_iand C dX6_necessaryIssues_48 ?_
      refine fw_ior C dX6_necessaryIssues_49 ?_
      refine fw_bi h (fun y5 h => ?_)
      refine fw_istore_n C [(3, _), (2, _), (0, _), (1, _)] dX6_necessaryIssues_50 rfl (Nat.le_of_ble_eq_true rfl) rfl ?_
      refine fw_iload_n C 3 dX6_necessaryIssues_51 rfl rfl ?_
      refine fw_iconst C 1 dX6_necessaryIssues_52 rfl ?_
      refine fw_icmp_eq C 64 dX6_necessaryIssues_53 (by decide) (fun c6 => ?_) (fun c6 => ?_)
      · replace h := (if_pos c6).symm.trans h
        refine fw_iload_n C 0 dX6_necessaryIssues_64 rfl rfl ?_
        refine fw_goto C 69 dX6_necessaryIssues_65 (by decide) ?_
        obtain rfl := Option.some.inj h
        exact fw_iret C hr hlk dX6_necessaryIssues_69
      · replace h := (if_neg c6).symm.trans h
        refine fw_iload_n C 0 dX6_necessaryIssues_56 rfl rfl ?_
        obtain ⟨v7, e7, h⟩ := b1_some h
        refine fw_callS [_] C (c_J6_bitCount_0f7a4 hl e7) cal_J6_bitCount_0f7a4 wm_X6_66 wt_yJ6_bitCount_0f7a4 rfl (Nat.le_of_ble_eq_true rfl) ⟨Nat.le_of_ble_eq_true rfl, Nat.le_of_ble_eq_true rfl⟩ ⟨Nat.zero_le _, Nat.zero_le _⟩ dX6_necessaryIssues_57 ?_
        refine fw_iconst C 1 dX6_necessaryIssues_60 rfl ?_
        refine fw_icmp_ne C 68 dX6_necessaryIssues_61 (by decide) (fun c8 => ?_) (fun c8 => ?_)
        · replace h := (if_neg c8).symm.trans h
          refine fw_iconst C 0 dX6_necessaryIssues_68 rfl ?_
          obtain rfl := Option.some.inj h
          exact fw_iret C hr hlk dX6_necessaryIssues_69
        · replace h := (if_pos c8).symm.trans h
          refine fw_iload_n C 0 dX6_necessaryIssues_64 rfl rfl ?_
          refine fw_goto C 69 dX6_necessaryIssues_65 (by decide) ?_
          obtain rfl := Option.some.inj h
          exact fw_iret C hr hlk dX6_necessaryIssues_69
    · replace h := (if_pos c4).symm.trans h
      refine fw_aload_n C 1 dX6_necessaryIssues_16 rfl rfl ?_
      refine fw_getI C 6 5 (Nat.le_of_ble_eq_true rfl) (Nat.le_of_ble_eq_true rfl) wf_X6_30 rfl (gO_of g2) dX6_necessaryIssues_17 ?_
      refine fw_aload_n C 1 dX6_necessaryIssues_20 rfl rfl ?_
      refine fw_getI C 6 6 (Nat.le_of_ble_eq_true rfl) (Nat.le_of_ble_eq_true rfl) wf_X6_33 rfl (gO_of g2) dX6_necessaryIssues_21 ?_
      refine fw_aload_n C 1 dX6_necessaryIssues_24 rfl rfl ?_
      refine fw_getI C 6 11 (Nat.le_of_ble_eq_true rfl) (Nat.le_of_ble_eq_true rfl) wf_X6_46 rfl (gO_of g2) dX6_necessaryIssues_25 ?_
      refine fw_iand C dX6_necessaryIssues_28 ?_
      refine fw_ior C dX6_necessaryIssues_29 ?_
      obtain rfl := Option.some.inj h
      exact fw_iret C hr hlk dX6_necessaryIssues_30
  · replace h := (if_pos c3).symm.trans h
    refine fw_iconst C 0 dX6_necessaryIssues_10 rfl ?_
    obtain rfl := Option.some.inj h
    exact fw_iret C hr hlk dX6_necessaryIssues_11
set_option maxRecDepth 100000 in
def f_X6_settledIssues (S : List fw_Sh) (M : fw_Mem) (a0 : Nat) (x1 : Int32) : Option Int32 := gd (gO S 6 a0) (if (M a0 9) = 0 then (b1 (f_X6_necessaryIssues S M a0 x1) (fun v3 => some (v3 &&& ((M a0 12) ^^^ (-1))))) else (some 0))
set_option maxHeartbeats 4000000 in
set_option maxRecDepth 100000 in
theorem c_X6_settledIssues {l : Launch} {G : fw_G} {S : List fw_Sh} {M : fw_Mem} {a0 : Nat} {x1 : Int32} {r : Int32} (hl : l.stackTraces = false) (h : f_X6_settledIssues S M a0 x1 = some r) : fw_M l G yX6_settledIssues (.code yX6_settledIssues cX6_settledIssues 2 (some .int)) 4 (fw_mcO (.inl (some (.int r)), S, M)) (fw_msO (.inl (some (.int r)), S, M)) S M [.ref a0, .int x1] (.inl (some (.int r)), S, M) := by
  refine fw_of [(0, .ref a0), (1, .int x1)] (by decide) (Nat.le_of_ble_eq_true rfl) rfl ?_
  intro p e s m args below meth c C hr hlk hnm ht _
  unfold f_X6_settledIssues at h
  refine fw_aload_n C 0 dX6_settledIssues_0 rfl rfl ?_
  obtain ⟨g1, h⟩ := gd_some h
  refine fw_getI C 6 9 (Nat.le_of_ble_eq_true rfl) (Nat.le_of_ble_eq_true rfl) wf_X6_40 rfl (gO_of g1) dX6_settledIssues_1 ?_
  refine fw_if_eq C 11 dX6_settledIssues_4 (by decide) (fun c2 => ?_) (fun c2 => ?_)
  · replace h := (if_pos c2).symm.trans h
    refine fw_aload_n C 0 dX6_settledIssues_11 rfl rfl ?_
    refine fw_iload_n C 1 dX6_settledIssues_12 rfl rfl ?_
    obtain ⟨v3, e3, h⟩ := b1_some h
    refine fw_callV (ci := 6) [_] C (c_X6_necessaryIssues hl e3) cal_X6_necessaryIssues wm_X6_72 wi_yX6_necessaryIssues wsl_yX6_necessaryIssues (Nat.le_of_ble_eq_true rfl) rfl (gO_of g1) rfl (Nat.le_of_ble_eq_true rfl) ⟨Nat.le_of_ble_eq_true rfl, Nat.le_of_ble_eq_true rfl⟩ ⟨Nat.zero_le _, Nat.zero_le _⟩ dX6_settledIssues_13 ?_
    refine fw_aload_n C 0 dX6_settledIssues_16 rfl rfl ?_
    refine fw_getI C 6 12 (Nat.le_of_ble_eq_true rfl) (Nat.le_of_ble_eq_true rfl) wf_X6_49 rfl (gO_of g1) dX6_settledIssues_17 ?_
    refine fw_iconst C (-1) dX6_settledIssues_20 rfl ?_
    refine fw_ixor C dX6_settledIssues_21 ?_
    refine fw_iand C dX6_settledIssues_22 ?_
    obtain rfl := Option.some.inj h
    exact fw_iret C hr hlk dX6_settledIssues_23
  · replace h := (if_neg c2).symm.trans h
    refine fw_iconst C 0 dX6_settledIssues_7 rfl ?_
    refine fw_goto C 23 dX6_settledIssues_8 (by decide) ?_
    obtain rfl := Option.some.inj h
    exact fw_iret C hr hlk dX6_settledIssues_23
set_option maxRecDepth 100000 in
def lf_X2_refresh_2 (S : List fw_Sh) (a0 : Nat) : Nat → Int32 → fw_Mem → Option (fw_Mem)
  | 0, _, _ => none
  | n + 1, x1, M => gd (gO S 2 a0) (gd (gN (M a0 0)) (gd (gO S 4 ((M a0 0).toNatClampNeg)) (if (M ((M a0 0).toNatClampNeg) 6) ≤ x1 then (some M) else (gd (gN (M ((M a0 0).toNatClampNeg) 2)) (gd (gA S 4 ((M ((M a0 0).toNatClampNeg) 2).toNatClampNeg) x1) (gd (gN (M ((M ((M a0 0).toNatClampNeg) 2).toNatClampNeg) x1.toNatClampNeg)) (gd (gN (M ((M a0 0).toNatClampNeg) 3)) (gd (gA S 0 ((M ((M a0 0).toNatClampNeg) 3).toNatClampNeg) 2) (gd (gO S 6 ((M ((M ((M a0 0).toNatClampNeg) 2).toNatClampNeg) x1.toNatClampNeg).toNatClampNeg)) (b1 (f_X6_settledIssues S M ((M ((M ((M a0 0).toNatClampNeg) 2).toNatClampNeg) x1.toNatClampNeg).toNatClampNeg) (M ((M ((M a0 0).toNatClampNeg) 3).toNatClampNeg) 2)) (fun v10 => bm (fw_set M ((M ((M ((M a0 0).toNatClampNeg) 2).toNatClampNeg) x1.toNatClampNeg).toNatClampNeg) 15 (v10 &&& (M ((M ((M ((M a0 0).toNatClampNeg) 2).toNatClampNeg) x1.toNatClampNeg).toNatClampNeg) 10))) (fun M12 => bm (fw_set M12 ((M ((M ((M a0 0).toNatClampNeg) 2).toNatClampNeg) x1.toNatClampNeg).toNatClampNeg) 16 (v10 &&& (M12 ((M ((M ((M a0 0).toNatClampNeg) 2).toNatClampNeg) x1.toNatClampNeg).toNatClampNeg) 11))) (fun M13 => b1 (f_X2_reachOf S M13 a0 ((M ((M ((M a0 0).toNatClampNeg) 2).toNatClampNeg) x1.toNatClampNeg).toNatClampNeg) (M13 ((M ((M ((M a0 0).toNatClampNeg) 2).toNatClampNeg) x1.toNatClampNeg).toNatClampNeg) 1)) (fun v14 => bm (fw_set M13 ((M ((M ((M a0 0).toNatClampNeg) 2).toNatClampNeg) x1.toNatClampNeg).toNatClampNeg) 13 v14) (fun M15 => b1 (f_X2_reachOf S M15 a0 ((M ((M ((M a0 0).toNatClampNeg) 2).toNatClampNeg) x1.toNatClampNeg).toNatClampNeg) (M15 ((M ((M ((M a0 0).toNatClampNeg) 2).toNatClampNeg) x1.toNatClampNeg).toNatClampNeg) 2)) (fun v16 => bm (fw_set M15 ((M ((M ((M a0 0).toNatClampNeg) 2).toNatClampNeg) x1.toNatClampNeg).toNatClampNeg) 14 v16) (fun M17 => lf_X2_refresh_2 S a0 n (x1 + 1) M17)))))))))))))))))
set_option maxHeartbeats 4000000 in
set_option maxRecDepth 100000 in
theorem lc_X2_refresh_2 {G : fw_G} {p : Program} {l : Launch} {e : Env} {s : State} {m : MethodId} {args : Array Value} {below : List Frame} {meth : Method} {c : Code} {S : List fw_Sh} {o : fw_O} {a0 : Nat} (C : fw_C G RX2 cX2_refresh 4 p s m args c) (hr : meth.sig.returnType = none) (hlk : meth.locks = false) (hl : l.stackTraces = false) (ht : ∀ x ∈ c.exceptionTable.toList, False) :
    ∀ {n : Nat} {x1 : Int32} {M : fw_Mem} {r : (fw_Mem)} (h : lf_X2_refresh_2 S a0 n x1 M = some r) (kx : fw_W G p l e (fw_rm 5 (fw_mcO o) (fw_msO o)) s m args below meth c 4 (fw_Z G below args s (fw_mcO o) (fw_msO o) o) 0 0 89 [] [] S r), fw_W G p l e (fw_rm 5 (fw_mcO o) (fw_msO o)) s m args below meth c 4 (fw_Z G below args s (fw_mcO o) (fw_msO o) o) 0 0 2 [(0, .ref a0), (1, .int x1)] [] S M := by
  intro n
  induction n with
  | zero =>
    intro x1 M r h
    exact nomatch (show (none : Option (fw_Mem)) = some r from h)
  | succ n ih =>
    intro x1 M r h kx
    rw [lf_X2_refresh_2.eq_2] at h
    refine fw_iload_n C 1 dX2_refresh_2 rfl rfl ?_
    refine fw_aload_n C 0 dX2_refresh_3 rfl rfl ?_
    obtain ⟨g1, h⟩ := gd_some h
    obtain ⟨g2, h⟩ := gd_some h
    refine fw_getR C 2 0 (Nat.le_of_ble_eq_true rfl) (Nat.le_of_ble_eq_true rfl) wf_X2_27 rfl (gO_of g1) (gN_of g2) dX2_refresh_4 ?_
    obtain ⟨g3, h⟩ := gd_some h
    refine fw_getI C 4 6 (Nat.le_of_ble_eq_true rfl) (Nat.le_of_ble_eq_true rfl) wf_X2_31 rfl (gO_of g3) dX2_refresh_7 ?_
    refine fw_icmp_ge C 89 dX2_refresh_10 (by decide) (fun c4 => ?_) (fun c4 => ?_)
    · replace h := (if_pos c4).symm.trans h
      obtain rfl := Option.some.inj h
      refine fw_sub [] rfl ?_
      exact kx
    · replace h := (if_neg c4).symm.trans h
      refine fw_aload_n C 0 dX2_refresh_13 rfl rfl ?_
      refine fw_getR C 2 0 (Nat.le_of_ble_eq_true rfl) (Nat.le_of_ble_eq_true rfl) wf_X2_27 rfl (gO_of g1) (gN_of g2) dX2_refresh_14 ?_
      obtain ⟨g5, h⟩ := gd_some h
      refine fw_getR C 4 2 (Nat.le_of_ble_eq_true rfl) (Nat.le_of_ble_eq_true rfl) wf_X2_37 rfl (gO_of g3) (gN_of g5) dX2_refresh_17 ?_
      refine fw_iload_n C 1 dX2_refresh_20 rfl rfl ?_
      obtain ⟨g6, h⟩ := gd_some h
      obtain ⟨g7, h⟩ := gd_some h
      refine fw_aald C 4 (by decide) (gA_of g6) (gN_of g7) dX2_refresh_21 ?_
      refine fw_astore_n C [(2, _), (0, _), (1, _)] dX2_refresh_22 rfl (Nat.le_of_ble_eq_true rfl) rfl ?_
      refine fw_aload_n C 0 dX2_refresh_23 rfl rfl ?_
      refine fw_aload_n C 1 dX2_refresh_24 rfl rfl ?_
      refine fw_getR C 2 0 (Nat.le_of_ble_eq_true rfl) (Nat.le_of_ble_eq_true rfl) wf_X2_27 rfl (gO_of g1) (gN_of g2) dX2_refresh_25 ?_
      obtain ⟨g8, h⟩ := gd_some h
      refine fw_getR C 4 3 (Nat.le_of_ble_eq_true rfl) (Nat.le_of_ble_eq_true rfl) wf_X2_41 rfl (gO_of g3) (gN_of g8) dX2_refresh_28 ?_
      refine fw_iconst C 2 dX2_refresh_31 rfl ?_
      obtain ⟨g9, h⟩ := gd_some h
      refine fw_iald C (gA_of g9) dX2_refresh_32 ?_
      obtain ⟨g11, h⟩ := gd_some h
      obtain ⟨v10, e10, h⟩ := b1_some h
      refine fw_callV (ci := 6) [_] C (c_X6_settledIssues hl e10) cal_X6_settledIssues wm_X2_44 wi_yX6_settledIssues wsl_yX6_settledIssues (Nat.le_of_ble_eq_true rfl) rfl (gO_of g11) rfl (Nat.le_of_ble_eq_true rfl) ⟨Nat.le_of_ble_eq_true rfl, Nat.le_of_ble_eq_true rfl⟩ ⟨Nat.zero_le _, Nat.zero_le _⟩ dX2_refresh_33 ?_
      refine fw_istore_n C [(3, _), (2, _), (0, _), (1, _)] dX2_refresh_36 rfl (Nat.le_of_ble_eq_true rfl) rfl ?_
      refine fw_aload_n C 1 dX2_refresh_37 rfl rfl ?_
      refine fw_iload_n C 0 dX2_refresh_38 rfl rfl ?_
      refine fw_aload_n C 1 dX2_refresh_39 rfl rfl ?_
      refine fw_getI C 6 10 (Nat.le_of_ble_eq_true rfl) (Nat.le_of_ble_eq_true rfl) wf_X2_50 rfl (gO_of g11) dX2_refresh_40 ?_
      refine fw_iand C dX2_refresh_43 ?_
      refine fw_putI C 6 15 (Nat.le_of_ble_eq_true rfl) (Nat.le_of_ble_eq_true rfl) wf_X2_53 rfl rfl rfl rfl (gO_of g11) dX2_refresh_44 ?_
      refine fw_bm h (fun M12 h => ?_)
      refine fw_aload_n C 1 dX2_refresh_47 rfl rfl ?_
      refine fw_iload_n C 0 dX2_refresh_48 rfl rfl ?_
      refine fw_aload_n C 1 dX2_refresh_49 rfl rfl ?_
      refine fw_getI C 6 11 (Nat.le_of_ble_eq_true rfl) (Nat.le_of_ble_eq_true rfl) wf_X2_56 rfl (gO_of g11) dX2_refresh_50 ?_
      refine fw_iand C dX2_refresh_53 ?_
      refine fw_putI C 6 16 (Nat.le_of_ble_eq_true rfl) (Nat.le_of_ble_eq_true rfl) wf_X2_59 rfl rfl rfl rfl (gO_of g11) dX2_refresh_54 ?_
      refine fw_bm h (fun M13 h => ?_)
      refine fw_aload_n C 1 dX2_refresh_57 rfl rfl ?_
      refine fw_aload_n C 2 dX2_refresh_58 rfl rfl ?_
      refine fw_aload_n C 1 dX2_refresh_59 rfl rfl ?_
      refine fw_aload_n C 1 dX2_refresh_60 rfl rfl ?_
      refine fw_getI C 6 1 (Nat.le_of_ble_eq_true rfl) (Nat.le_of_ble_eq_true rfl) wf_X2_62 rfl (gO_of g11) dX2_refresh_61 ?_
      obtain ⟨v14, e14, h⟩ := b1_some h
      refine fw_callV (ci := 2) [_, _] C (c_X2_reachOf hl e14) cal_X2_reachOf wm_X2_65 wi_yX2_reachOf wsl_yX2_reachOf (Nat.le_of_ble_eq_true rfl) rfl (gO_of g1) rfl (Nat.le_of_ble_eq_true rfl) ⟨Nat.le_of_ble_eq_true rfl, Nat.le_of_ble_eq_true rfl⟩ ⟨Nat.zero_le _, Nat.zero_le _⟩ dX2_refresh_64 ?_
      refine fw_putI C 6 13 (Nat.le_of_ble_eq_true rfl) (Nat.le_of_ble_eq_true rfl) wf_X2_69 rfl rfl rfl rfl (gO_of g11) dX2_refresh_67 ?_
      refine fw_bm h (fun M15 h => ?_)
      refine fw_aload_n C 1 dX2_refresh_70 rfl rfl ?_
      refine fw_aload_n C 2 dX2_refresh_71 rfl rfl ?_
      refine fw_aload_n C 1 dX2_refresh_72 rfl rfl ?_
      refine fw_aload_n C 1 dX2_refresh_73 rfl rfl ?_
      refine fw_getI C 6 2 (Nat.le_of_ble_eq_true rfl) (Nat.le_of_ble_eq_true rfl) wf_X2_72 rfl (gO_of g11) dX2_refresh_74 ?_
      obtain ⟨v16, e16, h⟩ := b1_some h
      refine fw_callV (ci := 2) [_, _] C (c_X2_reachOf hl e16) cal_X2_reachOf wm_X2_65 wi_yX2_reachOf wsl_yX2_reachOf (Nat.le_of_ble_eq_true rfl) rfl (gO_of g1) rfl (Nat.le_of_ble_eq_true rfl) ⟨Nat.le_of_ble_eq_true rfl, Nat.le_of_ble_eq_true rfl⟩ ⟨Nat.zero_le _, Nat.zero_le _⟩ dX2_refresh_77 ?_
      refine fw_putI C 6 14 (Nat.le_of_ble_eq_true rfl) (Nat.le_of_ble_eq_true rfl) wf_X2_75 rfl rfl rfl rfl (gO_of g11) dX2_refresh_80 ?_
      refine fw_bm h (fun M17 h => ?_)
      refine fw_iinc C _ 3 [(1, _), (3, _), (2, _), (0, _)] dX2_refresh_83 rfl rfl (Nat.le_of_ble_eq_true rfl) rfl ?_
      refine fw_goto C 2 dX2_refresh_86 (by decide) ?_
      refine fw_sub [3, 0] rfl ?_
      exact ih h kx
set_option maxRecDepth 100000 in
def f_X2_refresh (S : List fw_Sh) (M : fw_Mem) (a0 : Nat) : Option fw_Mem := b1 (lf_X2_refresh_2 S a0 20000 0 M) (fun l18 => some l18)
set_option maxHeartbeats 4000000 in
set_option maxRecDepth 100000 in
theorem c_X2_refresh {l : Launch} {G : fw_G} {S : List fw_Sh} {M : fw_Mem} {a0 : Nat} {r : fw_Mem} (hl : l.stackTraces = false) (h : f_X2_refresh S M a0 = some r) : fw_M l G yX2_refresh (.code yX2_refresh cX2_refresh 4 none) 5 (fw_mcO (.inl none, S, r)) (fw_msO (.inl none, S, r)) S M [.ref a0] (.inl none, S, r) := by
  refine fw_of [(0, .ref a0)] (by decide) (Nat.le_of_ble_eq_true rfl) rfl ?_
  intro p e s m args below meth c C hr hlk hnm ht _
  unfold f_X2_refresh at h
  refine fw_iconst C 0 dX2_refresh_0 rfl ?_
  refine fw_istore_n C [(1, _), (0, _)] dX2_refresh_1 rfl (Nat.le_of_ble_eq_true rfl) rfl ?_
  refine fw_sub [1, 0] rfl ?_
  obtain ⟨l18, e18, h⟩ := b1_some h
  refine lc_X2_refresh_2 C hr hlk hl ht e18 ?_
  obtain rfl := Option.some.inj h
  exact fw_vret C hr hlk dX2_refresh_89
set_option maxRecDepth 100000 in
def f_X3_become (S : List fw_Sh) (M : fw_Mem) (a0 : Nat) (a1 : Nat) : Option fw_Mem := gd (gO S 3 a1) (gd (gO S 3 a0) (bm (fw_set M a0 0 (M a1 0)) (fun M3 => bm (fw_set M3 a0 1 (M3 a1 1)) (fun M4 => bm (fw_set M4 a0 2 (M4 a1 2)) (fun M5 => bm (fw_set M5 a0 3 (M5 a1 3)) (fun M6 => some M6))))))
set_option maxHeartbeats 4000000 in
set_option maxRecDepth 100000 in
theorem c_X3_become {l : Launch} {G : fw_G} {S : List fw_Sh} {M : fw_Mem} {a0 : Nat} {a1 : Nat} {r : fw_Mem} (hl : l.stackTraces = false) (h : f_X3_become S M a0 a1 = some r) : fw_M l G yX3_become (.code yX3_become cX3_become 2 none) 1 (fw_mcO (.inl none, S, r)) (fw_msO (.inl none, S, r)) S M [.ref a0, .ref a1] (.inl none, S, r) := by
  refine fw_of [(0, .ref a0), (1, .ref a1)] (by decide) (Nat.le_of_ble_eq_true rfl) rfl ?_
  intro p e s m args below meth c C hr hlk hnm ht _
  unfold f_X3_become at h
  refine fw_aload_n C 0 dX3_become_0 rfl rfl ?_
  refine fw_aload_n C 1 dX3_become_1 rfl rfl ?_
  obtain ⟨g1, h⟩ := gd_some h
  refine fw_getI C 3 0 (Nat.le_of_ble_eq_true rfl) (Nat.le_of_ble_eq_true rfl) wf_X3_9 rfl (gO_of g1) dX3_become_2 ?_
  obtain ⟨g2, h⟩ := gd_some h
  refine fw_putI C 3 0 (Nat.le_of_ble_eq_true rfl) (Nat.le_of_ble_eq_true rfl) wf_X3_9 rfl rfl rfl rfl (gO_of g2) dX3_become_5 ?_
  refine fw_bm h (fun M3 h => ?_)
  refine fw_aload_n C 0 dX3_become_8 rfl rfl ?_
  refine fw_aload_n C 1 dX3_become_9 rfl rfl ?_
  refine fw_getI C 3 1 (Nat.le_of_ble_eq_true rfl) (Nat.le_of_ble_eq_true rfl) wf_X3_15 rfl (gO_of g1) dX3_become_10 ?_
  refine fw_putI C 3 1 (Nat.le_of_ble_eq_true rfl) (Nat.le_of_ble_eq_true rfl) wf_X3_15 rfl rfl rfl rfl (gO_of g2) dX3_become_13 ?_
  refine fw_bm h (fun M4 h => ?_)
  refine fw_aload_n C 0 dX3_become_16 rfl rfl ?_
  refine fw_aload_n C 1 dX3_become_17 rfl rfl ?_
  refine fw_getI C 3 2 (Nat.le_of_ble_eq_true rfl) (Nat.le_of_ble_eq_true rfl) wf_X3_18 rfl (gO_of g1) dX3_become_18 ?_
  refine fw_putI C 3 2 (Nat.le_of_ble_eq_true rfl) (Nat.le_of_ble_eq_true rfl) wf_X3_18 rfl rfl rfl rfl (gO_of g2) dX3_become_21 ?_
  refine fw_bm h (fun M5 h => ?_)
  refine fw_aload_n C 0 dX3_become_24 rfl rfl ?_
  refine fw_aload_n C 1 dX3_become_25 rfl rfl ?_
  refine fw_getI C 3 3 (Nat.le_of_ble_eq_true rfl) (Nat.le_of_ble_eq_true rfl) wf_X3_21 rfl (gO_of g1) dX3_become_26 ?_
  refine fw_putI C 3 3 (Nat.le_of_ble_eq_true rfl) (Nat.le_of_ble_eq_true rfl) wf_X3_21 rfl rfl rfl rfl (gO_of g2) dX3_become_29 ?_
  refine fw_bm h (fun M6 h => ?_)
  obtain rfl := Option.some.inj h
  exact fw_vret C hr hlk dX3_become_32
set_option maxRecDepth 100000 in
def f_X6_become (S : List fw_Sh) (M : fw_Mem) (a0 : Nat) (a1 : Nat) : Option fw_Mem := gd (gO S 6 a1) (gd (gO S 6 a0) (bm (fw_set M a0 1 (M a1 1)) (fun M3 => bm (fw_set M3 a0 2 (M3 a1 2)) (fun M4 => bm (fw_set M4 a0 3 (M4 a1 3)) (fun M5 => bm (fw_set M5 a0 4 (M5 a1 4)) (fun M6 => bm (fw_set M6 a0 5 (M6 a1 5)) (fun M7 => bm (fw_set M7 a0 6 (M7 a1 6)) (fun M8 => bm (fw_set M8 a0 7 (M8 a1 7)) (fun M9 => gd (gB (M9 a1 8)) (bm (fw_set M9 a0 8 (M9 a1 8)) (fun M11 => gd (gB (M11 a1 9)) (bm (fw_set M11 a0 9 (M11 a1 9)) (fun M13 => bm (fw_set M13 a0 10 (M13 a1 10)) (fun M14 => bm (fw_set M14 a0 11 (M14 a1 11)) (fun M15 => bm (fw_set M15 a0 12 (M15 a1 12)) (fun M16 => some M16))))))))))))))))
set_option maxHeartbeats 4000000 in
set_option maxRecDepth 100000 in
theorem c_X6_become {l : Launch} {G : fw_G} {S : List fw_Sh} {M : fw_Mem} {a0 : Nat} {a1 : Nat} {r : fw_Mem} (hl : l.stackTraces = false) (h : f_X6_become S M a0 a1 = some r) : fw_M l G yX6_become (.code yX6_become cX6_become 2 none) 1 (fw_mcO (.inl none, S, r)) (fw_msO (.inl none, S, r)) S M [.ref a0, .ref a1] (.inl none, S, r) := by
  refine fw_of [(0, .ref a0), (1, .ref a1)] (by decide) (Nat.le_of_ble_eq_true rfl) rfl ?_
  intro p e s m args below meth c C hr hlk hnm ht _
  unfold f_X6_become at h
  refine fw_aload_n C 0 dX6_become_0 rfl rfl ?_
  refine fw_aload_n C 1 dX6_become_1 rfl rfl ?_
  obtain ⟨g1, h⟩ := gd_some h
  refine fw_getI C 6 1 (Nat.le_of_ble_eq_true rfl) (Nat.le_of_ble_eq_true rfl) wf_X6_18 rfl (gO_of g1) dX6_become_2 ?_
  obtain ⟨g2, h⟩ := gd_some h
  refine fw_putI C 6 1 (Nat.le_of_ble_eq_true rfl) (Nat.le_of_ble_eq_true rfl) wf_X6_18 rfl rfl rfl rfl (gO_of g2) dX6_become_5 ?_
  refine fw_bm h (fun M3 h => ?_)
  refine fw_aload_n C 0 dX6_become_8 rfl rfl ?_
  refine fw_aload_n C 1 dX6_become_9 rfl rfl ?_
  refine fw_getI C 6 2 (Nat.le_of_ble_eq_true rfl) (Nat.le_of_ble_eq_true rfl) wf_X6_21 rfl (gO_of g1) dX6_become_10 ?_
  refine fw_putI C 6 2 (Nat.le_of_ble_eq_true rfl) (Nat.le_of_ble_eq_true rfl) wf_X6_21 rfl rfl rfl rfl (gO_of g2) dX6_become_13 ?_
  refine fw_bm h (fun M4 h => ?_)
  refine fw_aload_n C 0 dX6_become_16 rfl rfl ?_
  refine fw_aload_n C 1 dX6_become_17 rfl rfl ?_
  refine fw_getI C 6 3 (Nat.le_of_ble_eq_true rfl) (Nat.le_of_ble_eq_true rfl) wf_X6_24 rfl (gO_of g1) dX6_become_18 ?_
  refine fw_putI C 6 3 (Nat.le_of_ble_eq_true rfl) (Nat.le_of_ble_eq_true rfl) wf_X6_24 rfl rfl rfl rfl (gO_of g2) dX6_become_21 ?_
  refine fw_bm h (fun M5 h => ?_)
  refine fw_aload_n C 0 dX6_become_24 rfl rfl ?_
  refine fw_aload_n C 1 dX6_become_25 rfl rfl ?_
  refine fw_getI C 6 4 (Nat.le_of_ble_eq_true rfl) (Nat.le_of_ble_eq_true rfl) wf_X6_27 rfl (gO_of g1) dX6_become_26 ?_
  refine fw_putI C 6 4 (Nat.le_of_ble_eq_true rfl) (Nat.le_of_ble_eq_true rfl) wf_X6_27 rfl rfl rfl rfl (gO_of g2) dX6_become_29 ?_
  refine fw_bm h (fun M6 h => ?_)
  refine fw_aload_n C 0 dX6_become_32 rfl rfl ?_
  refine fw_aload_n C 1 dX6_become_33 rfl rfl ?_
  refine fw_getI C 6 5 (Nat.le_of_ble_eq_true rfl) (Nat.le_of_ble_eq_true rfl) wf_X6_30 rfl (gO_of g1) dX6_become_34 ?_
  refine fw_putI C 6 5 (Nat.le_of_ble_eq_true rfl) (Nat.le_of_ble_eq_true rfl) wf_X6_30 rfl rfl rfl rfl (gO_of g2) dX6_become_37 ?_
  refine fw_bm h (fun M7 h => ?_)
  refine fw_aload_n C 0 dX6_become_40 rfl rfl ?_
  refine fw_aload_n C 1 dX6_become_41 rfl rfl ?_
  refine fw_getI C 6 6 (Nat.le_of_ble_eq_true rfl) (Nat.le_of_ble_eq_true rfl) wf_X6_33 rfl (gO_of g1) dX6_become_42 ?_
  refine fw_putI C 6 6 (Nat.le_of_ble_eq_true rfl) (Nat.le_of_ble_eq_true rfl) wf_X6_33 rfl rfl rfl rfl (gO_of g2) dX6_become_45 ?_
  refine fw_bm h (fun M8 h => ?_)
  refine fw_aload_n C 0 dX6_become_48 rfl rfl ?_
  refine fw_aload_n C 1 dX6_become_49 rfl rfl ?_
  refine fw_getI C 6 7 (Nat.le_of_ble_eq_true rfl) (Nat.le_of_ble_eq_true rfl) wf_X6_15 rfl (gO_of g1) dX6_become_50 ?_
  refine fw_putI C 6 7 (Nat.le_of_ble_eq_true rfl) (Nat.le_of_ble_eq_true rfl) wf_X6_15 rfl rfl rfl rfl (gO_of g2) dX6_become_53 ?_
  refine fw_bm h (fun M9 h => ?_)
  refine fw_aload_n C 0 dX6_become_56 rfl rfl ?_
  refine fw_aload_n C 1 dX6_become_57 rfl rfl ?_
  refine fw_getI C 6 8 (Nat.le_of_ble_eq_true rfl) (Nat.le_of_ble_eq_true rfl) wf_X6_36 rfl (gO_of g1) dX6_become_58 ?_
  obtain ⟨g10, h⟩ := gd_some h
  refine fw_putI C 6 8 (Nat.le_of_ble_eq_true rfl) (Nat.le_of_ble_eq_true rfl) wf_X6_36 rfl rfl (gB_n g10) (gB_f g10) (gO_of g2) dX6_become_61 ?_
  refine fw_bm h (fun M11 h => ?_)
  refine fw_aload_n C 0 dX6_become_64 rfl rfl ?_
  refine fw_aload_n C 1 dX6_become_65 rfl rfl ?_
  refine fw_getI C 6 9 (Nat.le_of_ble_eq_true rfl) (Nat.le_of_ble_eq_true rfl) wf_X6_40 rfl (gO_of g1) dX6_become_66 ?_
  obtain ⟨g12, h⟩ := gd_some h
  refine fw_putI C 6 9 (Nat.le_of_ble_eq_true rfl) (Nat.le_of_ble_eq_true rfl) wf_X6_40 rfl rfl (gB_n g12) (gB_f g12) (gO_of g2) dX6_become_69 ?_
  refine fw_bm h (fun M13 h => ?_)
  refine fw_aload_n C 0 dX6_become_72 rfl rfl ?_
  refine fw_aload_n C 1 dX6_become_73 rfl rfl ?_
  refine fw_getI C 6 10 (Nat.le_of_ble_eq_true rfl) (Nat.le_of_ble_eq_true rfl) wf_X6_43 rfl (gO_of g1) dX6_become_74 ?_
  refine fw_putI C 6 10 (Nat.le_of_ble_eq_true rfl) (Nat.le_of_ble_eq_true rfl) wf_X6_43 rfl rfl rfl rfl (gO_of g2) dX6_become_77 ?_
  refine fw_bm h (fun M14 h => ?_)
  refine fw_aload_n C 0 dX6_become_80 rfl rfl ?_
  refine fw_aload_n C 1 dX6_become_81 rfl rfl ?_
  refine fw_getI C 6 11 (Nat.le_of_ble_eq_true rfl) (Nat.le_of_ble_eq_true rfl) wf_X6_46 rfl (gO_of g1) dX6_become_82 ?_
  refine fw_putI C 6 11 (Nat.le_of_ble_eq_true rfl) (Nat.le_of_ble_eq_true rfl) wf_X6_46 rfl rfl rfl rfl (gO_of g2) dX6_become_85 ?_
  refine fw_bm h (fun M15 h => ?_)
  refine fw_aload_n C 0 dX6_become_88 rfl rfl ?_
  refine fw_aload_n C 1 dX6_become_89 rfl rfl ?_
  refine fw_getI C 6 12 (Nat.le_of_ble_eq_true rfl) (Nat.le_of_ble_eq_true rfl) wf_X6_49 rfl (gO_of g1) dX6_become_90 ?_
  refine fw_putI C 6 12 (Nat.le_of_ble_eq_true rfl) (Nat.le_of_ble_eq_true rfl) wf_X6_49 rfl rfl rfl rfl (gO_of g2) dX6_become_93 ?_
  refine fw_bm h (fun M16 h => ?_)
  obtain rfl := Option.some.inj h
  exact fw_vret C hr hlk dX6_become_96
set_option maxRecDepth 100000 in
def lf_X4_become_62 (S : List fw_Sh) (a0 : Nat) (a1 : Nat) : Nat → Int32 → fw_Mem → Option (fw_Mem)
  | 0, _, _ => none
  | n + 1, x2, M => gd (gO S 4 a0) (if (M a0 5) ≤ x2 then (some M) else (if (24 : Int32) ≤ x2 then (some M) else (gd (gN (M a0 1)) (gd (gA S 3 ((M a0 1).toNatClampNeg) x2) (gd (gN (M ((M a0 1).toNatClampNeg) x2.toNatClampNeg)) (gd (gO S 4 a1) (gd (gN (M a1 1)) (gd (gA S 3 ((M a1 1).toNatClampNeg) x2) (gd (gN (M ((M a1 1).toNatClampNeg) x2.toNatClampNeg)) (gd (gO S 3 ((M ((M a0 1).toNatClampNeg) x2.toNatClampNeg).toNatClampNeg)) (b1 (f_X3_become S M ((M ((M a0 1).toNatClampNeg) x2.toNatClampNeg).toNatClampNeg) ((M ((M a1 1).toNatClampNeg) x2.toNatClampNeg).toNatClampNeg)) (fun M26 => lf_X4_become_62 S a0 a1 n (x2 + 1) M26))))))))))))
set_option maxHeartbeats 4000000 in
set_option maxRecDepth 100000 in
theorem lc_X4_become_62 {G : fw_G} {p : Program} {l : Launch} {e : Env} {s : State} {m : MethodId} {args : Array Value} {below : List Frame} {meth : Method} {c : Code} {S : List fw_Sh} {o : fw_O} {a0 : Nat} {a1 : Nat} (C : fw_C G RX4 cX4_become 3 p s m args c) (hr : meth.sig.returnType = none) (hlk : meth.locks = false) (hl : l.stackTraces = false) (ht : ∀ x ∈ c.exceptionTable.toList, False) :
    ∀ {n : Nat} {x2 : Int32} {M : fw_Mem} {r : (fw_Mem)} (h : lf_X4_become_62 S a0 a1 n x2 M = some r) (kx : fw_W G p l e (fw_rm 2 (fw_mcO o) (fw_msO o)) s m args below meth c 3 (fw_Z G below args s (fw_mcO o) (fw_msO o) o) 0 0 97 [(0, .ref a0), (1, .ref a1)] [] S r), fw_W G p l e (fw_rm 2 (fw_mcO o) (fw_msO o)) s m args below meth c 3 (fw_Z G below args s (fw_mcO o) (fw_msO o) o) 0 0 62 [(0, .ref a0), (1, .ref a1), (2, .int x2)] [] S M := by
  intro n
  induction n with
  | zero =>
    intro x2 M r h
    exact nomatch (show (none : Option (fw_Mem)) = some r from h)
  | succ n ih =>
    intro x2 M r h kx
    rw [lf_X4_become_62.eq_2] at h
    refine fw_iload_n C 2 dX4_become_62 rfl rfl ?_
    refine fw_aload_n C 0 dX4_become_63 rfl rfl ?_
    obtain ⟨g16, h⟩ := gd_some h
    refine fw_getI C 4 5 (Nat.le_of_ble_eq_true rfl) (Nat.le_of_ble_eq_true rfl) wf_X4_41 rfl (gO_of g16) dX4_become_64 ?_
    refine fw_icmp_ge C 97 dX4_become_67 (by decide) (fun c17 => ?_) (fun c17 => ?_)
    · replace h := (if_pos c17).symm.trans h
      obtain rfl := Option.some.inj h
      refine fw_sub [0, 1] rfl ?_
      exact kx
    · replace h := (if_neg c17).symm.trans h
      refine fw_iload_n C 2 dX4_become_70 rfl rfl ?_
      refine fw_bipush C 24 dX4_become_71 rfl ?_
      refine fw_icmp_ge C 97 dX4_become_73 (by decide) (fun c18 => ?_) (fun c18 => ?_)
      · replace h := (if_pos c18).symm.trans h
        obtain rfl := Option.some.inj h
        refine fw_sub [0, 1] rfl ?_
        exact kx
      · replace h := (if_neg c18).symm.trans h
        refine fw_aload_n C 0 dX4_become_76 rfl rfl ?_
        obtain ⟨g19, h⟩ := gd_some h
        refine fw_getR C 4 1 (Nat.le_of_ble_eq_true rfl) (Nat.le_of_ble_eq_true rfl) wf_X4_17 rfl (gO_of g16) (gN_of g19) dX4_become_77 ?_
        refine fw_iload_n C 2 dX4_become_80 rfl rfl ?_
        obtain ⟨g20, h⟩ := gd_some h
        obtain ⟨g21, h⟩ := gd_some h
        refine fw_aald C 3 (by decide) (gA_of g20) (gN_of g21) dX4_become_81 ?_
        refine fw_aload_n C 1 dX4_become_82 rfl rfl ?_
        obtain ⟨g22, h⟩ := gd_some h
        obtain ⟨g23, h⟩ := gd_some h
        refine fw_getR C 4 1 (Nat.le_of_ble_eq_true rfl) (Nat.le_of_ble_eq_true rfl) wf_X4_17 rfl (gO_of g22) (gN_of g23) dX4_become_83 ?_
        refine fw_iload_n C 2 dX4_become_86 rfl rfl ?_
        obtain ⟨g24, h⟩ := gd_some h
        obtain ⟨g25, h⟩ := gd_some h
        refine fw_aald C 3 (by decide) (gA_of g24) (gN_of g25) dX4_become_87 ?_
        obtain ⟨g27, h⟩ := gd_some h
        obtain ⟨M26, e26, h⟩ := b1_some h
        refine fw_callV (ci := 3) [_] C (c_X3_become hl e26) cal_X3_become wm_X4_53 wi_yX3_become wsl_yX3_become (Nat.le_of_ble_eq_true rfl) rfl (gO_of g27) rfl (Nat.le_of_ble_eq_true rfl) ⟨Nat.le_of_ble_eq_true rfl, Nat.le_of_ble_eq_true rfl⟩ ⟨Nat.zero_le _, Nat.zero_le _⟩ dX4_become_88 ?_
        refine fw_iinc C _ 2 [(2, _), (0, _), (1, _)] dX4_become_91 rfl rfl (Nat.le_of_ble_eq_true rfl) rfl ?_
        refine fw_goto C 62 dX4_become_94 (by decide) ?_
        refine fw_sub [1, 2, 0] rfl ?_
        exact ih h kx
set_option maxRecDepth 100000 in
def lf_X4_become_99 (S : List fw_Sh) (a0 : Nat) (a1 : Nat) : Nat → Int32 → fw_Mem → Option (fw_Mem)
  | 0, _, _ => none
  | n + 1, x2, M => gd (gO S 4 a0) (if (M a0 6) ≤ x2 then (some M) else (if (10 : Int32) ≤ x2 then (some M) else (gd (gN (M a0 2)) (gd (gA S 4 ((M a0 2).toNatClampNeg) x2) (gd (gN (M ((M a0 2).toNatClampNeg) x2.toNatClampNeg)) (gd (gO S 4 a1) (gd (gN (M a1 2)) (gd (gA S 4 ((M a1 2).toNatClampNeg) x2) (gd (gN (M ((M a1 2).toNatClampNeg) x2.toNatClampNeg)) (gd (gO S 6 ((M ((M a0 2).toNatClampNeg) x2.toNatClampNeg).toNatClampNeg)) (b1 (f_X6_become S M ((M ((M a0 2).toNatClampNeg) x2.toNatClampNeg).toNatClampNeg) ((M ((M a1 2).toNatClampNeg) x2.toNatClampNeg).toNatClampNeg)) (fun M39 => lf_X4_become_99 S a0 a1 n (x2 + 1) M39))))))))))))
set_option maxHeartbeats 4000000 in
set_option maxRecDepth 100000 in
theorem lc_X4_become_99 {G : fw_G} {p : Program} {l : Launch} {e : Env} {s : State} {m : MethodId} {args : Array Value} {below : List Frame} {meth : Method} {c : Code} {S : List fw_Sh} {o : fw_O} {a0 : Nat} {a1 : Nat} (C : fw_C G RX4 cX4_become 3 p s m args c) (hr : meth.sig.returnType = none) (hlk : meth.locks = false) (hl : l.stackTraces = false) (ht : ∀ x ∈ c.exceptionTable.toList, False) :
    ∀ {n : Nat} {x2 : Int32} {M : fw_Mem} {r : (fw_Mem)} (h : lf_X4_become_99 S a0 a1 n x2 M = some r) (kx : fw_W G p l e (fw_rm 2 (fw_mcO o) (fw_msO o)) s m args below meth c 3 (fw_Z G below args s (fw_mcO o) (fw_msO o) o) 0 0 134 [] [] S r), fw_W G p l e (fw_rm 2 (fw_mcO o) (fw_msO o)) s m args below meth c 3 (fw_Z G below args s (fw_mcO o) (fw_msO o) o) 0 0 99 [(0, .ref a0), (1, .ref a1), (2, .int x2)] [] S M := by
  intro n
  induction n with
  | zero =>
    intro x2 M r h
    exact nomatch (show (none : Option (fw_Mem)) = some r from h)
  | succ n ih =>
    intro x2 M r h kx
    rw [lf_X4_become_99.eq_2] at h
    refine fw_iload_n C 2 dX4_become_99 rfl rfl ?_
    refine fw_aload_n C 0 dX4_become_100 rfl rfl ?_
    obtain ⟨g29, h⟩ := gd_some h
    refine fw_getI C 4 6 (Nat.le_of_ble_eq_true rfl) (Nat.le_of_ble_eq_true rfl) wf_X4_44 rfl (gO_of g29) dX4_become_101 ?_
    refine fw_icmp_ge C 134 dX4_become_104 (by decide) (fun c30 => ?_) (fun c30 => ?_)
    · replace h := (if_pos c30).symm.trans h
      obtain rfl := Option.some.inj h
      refine fw_sub [] rfl ?_
      exact kx
    · replace h := (if_neg c30).symm.trans h
      refine fw_iload_n C 2 dX4_become_107 rfl rfl ?_
      refine fw_bipush C 10 dX4_become_108 rfl ?_
      refine fw_icmp_ge C 134 dX4_become_110 (by decide) (fun c31 => ?_) (fun c31 => ?_)
      · replace h := (if_pos c31).symm.trans h
        obtain rfl := Option.some.inj h
        refine fw_sub [] rfl ?_
        exact kx
      · replace h := (if_neg c31).symm.trans h
        refine fw_aload_n C 0 dX4_become_113 rfl rfl ?_
        obtain ⟨g32, h⟩ := gd_some h
        refine fw_getR C 4 2 (Nat.le_of_ble_eq_true rfl) (Nat.le_of_ble_eq_true rfl) wf_X4_23 rfl (gO_of g29) (gN_of g32) dX4_become_114 ?_
        refine fw_iload_n C 2 dX4_become_117 rfl rfl ?_
        obtain ⟨g33, h⟩ := gd_some h
        obtain ⟨g34, h⟩ := gd_some h
        refine fw_aald C 4 (by decide) (gA_of g33) (gN_of g34) dX4_become_118 ?_
        refine fw_aload_n C 1 dX4_become_119 rfl rfl ?_
        obtain ⟨g35, h⟩ := gd_some h
        obtain ⟨g36, h⟩ := gd_some h
        refine fw_getR C 4 2 (Nat.le_of_ble_eq_true rfl) (Nat.le_of_ble_eq_true rfl) wf_X4_23 rfl (gO_of g35) (gN_of g36) dX4_become_120 ?_
        refine fw_iload_n C 2 dX4_become_123 rfl rfl ?_
        obtain ⟨g37, h⟩ := gd_some h
        obtain ⟨g38, h⟩ := gd_some h
        refine fw_aald C 4 (by decide) (gA_of g37) (gN_of g38) dX4_become_124 ?_
        obtain ⟨g40, h⟩ := gd_some h
        obtain ⟨M39, e39, h⟩ := b1_some h
        refine fw_callV (ci := 6) [_] C (c_X6_become hl e39) cal_X6_become wm_X4_57 wi_yX6_become wsl_yX6_become (Nat.le_of_ble_eq_true rfl) rfl (gO_of g40) rfl (Nat.le_of_ble_eq_true rfl) ⟨Nat.le_of_ble_eq_true rfl, Nat.le_of_ble_eq_true rfl⟩ ⟨Nat.zero_le _, Nat.zero_le _⟩ dX4_become_125 ?_
        refine fw_iinc C _ 2 [(2, _), (0, _), (1, _)] dX4_become_128 rfl rfl (Nat.le_of_ble_eq_true rfl) rfl ?_
        refine fw_goto C 99 dX4_become_131 (by decide) ?_
        refine fw_sub [1, 2, 0] rfl ?_
        exact ih h kx
set_option maxRecDepth 100000 in
def f_X4_become (S : List fw_Sh) (M : fw_Mem) (a0 : Nat) (a1 : Nat) : Option fw_Mem := gd (gO S 4 a1) (gd (gO S 4 a0) (bm (fw_set M a0 4 (M a1 4)) (fun M3 => bm (fw_set M3 a0 5 (M3 a1 5)) (fun M4 => bm (fw_set M4 a0 6 (M4 a1 6)) (fun M5 => gd (gN (M5 a1 0)) (gd (gN (M5 a0 0)) (gd (gL S 0 ((M5 a0 0).toNatClampNeg)) (gd (gC S ((M5 a1 0).toNatClampNeg) 0 ((M5 a0 0).toNatClampNeg) 0 (nI (fw_len2 S 0 ((M5 a0 0).toNatClampNeg)))) (bm (fw_cpy M5 ((M5 a1 0).toNatClampNeg) ((M5 a0 0).toNatClampNeg) 0 0 (nI (fw_len2 S 0 ((M5 a0 0).toNatClampNeg))).toNatClampNeg) (fun M10 => gd (gN (M10 a1 3)) (gd (gN (M10 a0 3)) (gd (gL S 0 ((M10 a0 3).toNatClampNeg)) (gd (gC S ((M10 a1 3).toNatClampNeg) 0 ((M10 a0 3).toNatClampNeg) 0 (nI (fw_len2 S 0 ((M10 a0 3).toNatClampNeg)))) (bm (fw_cpy M10 ((M10 a1 3).toNatClampNeg) ((M10 a0 3).toNatClampNeg) 0 0 (nI (fw_len2 S 0 ((M10 a0 3).toNatClampNeg))).toNatClampNeg) (fun M15 => b1 (lf_X4_become_62 S a0 a1 20000 0 M15) (fun l28 => b1 (lf_X4_become_99 S a0 a1 20000 0 l28) (fun l41 => some l41)))))))))))))))))
set_option maxHeartbeats 4000000 in
set_option maxRecDepth 100000 in
theorem c_X4_become {l : Launch} {G : fw_G} {S : List fw_Sh} {M : fw_Mem} {a0 : Nat} {a1 : Nat} {r : fw_Mem} (hl : l.stackTraces = false) (h : f_X4_become S M a0 a1 = some r) : fw_M l G yX4_become (.code yX4_become cX4_become 3 none) 2 (fw_mcO (.inl none, S, r)) (fw_msO (.inl none, S, r)) S M [.ref a0, .ref a1] (.inl none, S, r) := by
  refine fw_of [(0, .ref a0), (1, .ref a1)] (by decide) (Nat.le_of_ble_eq_true rfl) rfl ?_
  intro p e s m args below meth c C hr hlk hnm ht _
  unfold f_X4_become at h
  refine fw_aload_n C 0 dX4_become_0 rfl rfl ?_
  refine fw_aload_n C 1 dX4_become_1 rfl rfl ?_
  obtain ⟨g1, h⟩ := gd_some h
  refine fw_getI C 4 4 (Nat.le_of_ble_eq_true rfl) (Nat.le_of_ble_eq_true rfl) wf_X4_37 rfl (gO_of g1) dX4_become_2 ?_
  obtain ⟨g2, h⟩ := gd_some h
  refine fw_putI C 4 4 (Nat.le_of_ble_eq_true rfl) (Nat.le_of_ble_eq_true rfl) wf_X4_37 rfl rfl rfl rfl (gO_of g2) dX4_become_5 ?_
  refine fw_bm h (fun M3 h => ?_)
  refine fw_aload_n C 0 dX4_become_8 rfl rfl ?_
  refine fw_aload_n C 1 dX4_become_9 rfl rfl ?_
  refine fw_getI C 4 5 (Nat.le_of_ble_eq_true rfl) (Nat.le_of_ble_eq_true rfl) wf_X4_41 rfl (gO_of g1) dX4_become_10 ?_
  refine fw_putI C 4 5 (Nat.le_of_ble_eq_true rfl) (Nat.le_of_ble_eq_true rfl) wf_X4_41 rfl rfl rfl rfl (gO_of g2) dX4_become_13 ?_
  refine fw_bm h (fun M4 h => ?_)
  refine fw_aload_n C 0 dX4_become_16 rfl rfl ?_
  refine fw_aload_n C 1 dX4_become_17 rfl rfl ?_
  refine fw_getI C 4 6 (Nat.le_of_ble_eq_true rfl) (Nat.le_of_ble_eq_true rfl) wf_X4_44 rfl (gO_of g1) dX4_become_18 ?_
  refine fw_putI C 4 6 (Nat.le_of_ble_eq_true rfl) (Nat.le_of_ble_eq_true rfl) wf_X4_44 rfl rfl rfl rfl (gO_of g2) dX4_become_21 ?_
  refine fw_bm h (fun M5 h => ?_)
  refine fw_aload_n C 1 dX4_become_24 rfl rfl ?_
  obtain ⟨g6, h⟩ := gd_some h
  refine fw_getR C 4 0 (Nat.le_of_ble_eq_true rfl) (Nat.le_of_ble_eq_true rfl) wf_X4_9 rfl (gO_of g1) (gN_of g6) dX4_become_25 ?_
  refine fw_iconst C 0 dX4_become_28 rfl ?_
  refine fw_aload_n C 0 dX4_become_29 rfl rfl ?_
  obtain ⟨g7, h⟩ := gd_some h
  refine fw_getR C 4 0 (Nat.le_of_ble_eq_true rfl) (Nat.le_of_ble_eq_true rfl) wf_X4_9 rfl (gO_of g2) (gN_of g7) dX4_become_30 ?_
  refine fw_iconst C 0 dX4_become_33 rfl ?_
  refine fw_aload_n C 0 dX4_become_34 rfl rfl ?_
  refine fw_getR C 4 0 (Nat.le_of_ble_eq_true rfl) (Nat.le_of_ble_eq_true rfl) wf_X4_9 rfl (gO_of g2) (gN_of g7) dX4_become_35 ?_
  obtain ⟨g8, h⟩ := gd_some h
  refine fw_alen C 0 _ (by decide) (gL_of g8) dX4_become_38 ?_
  obtain ⟨g9, h⟩ := gd_some h
  refine fw_copy C wm_X4_47 (Nat.le_of_ble_eq_true rfl) (gC_of g9) (Nat.le_of_ble_eq_true rfl) (Nat.le_of_ble_eq_true rfl) dX4_become_39 ?_
  refine fw_bm h (fun M10 h => ?_)
  refine fw_aload_n C 1 dX4_become_42 rfl rfl ?_
  obtain ⟨g11, h⟩ := gd_some h
  refine fw_getR C 4 3 (Nat.le_of_ble_eq_true rfl) (Nat.le_of_ble_eq_true rfl) wf_X4_27 rfl (gO_of g1) (gN_of g11) dX4_become_43 ?_
  refine fw_iconst C 0 dX4_become_46 rfl ?_
  refine fw_aload_n C 0 dX4_become_47 rfl rfl ?_
  obtain ⟨g12, h⟩ := gd_some h
  refine fw_getR C 4 3 (Nat.le_of_ble_eq_true rfl) (Nat.le_of_ble_eq_true rfl) wf_X4_27 rfl (gO_of g2) (gN_of g12) dX4_become_48 ?_
  refine fw_iconst C 0 dX4_become_51 rfl ?_
  refine fw_aload_n C 0 dX4_become_52 rfl rfl ?_
  refine fw_getR C 4 3 (Nat.le_of_ble_eq_true rfl) (Nat.le_of_ble_eq_true rfl) wf_X4_27 rfl (gO_of g2) (gN_of g12) dX4_become_53 ?_
  obtain ⟨g13, h⟩ := gd_some h
  refine fw_alen C 0 _ (by decide) (gL_of g13) dX4_become_56 ?_
  obtain ⟨g14, h⟩ := gd_some h
  refine fw_copy C wm_X4_47 (Nat.le_of_ble_eq_true rfl) (gC_of g14) (Nat.le_of_ble_eq_true rfl) (Nat.le_of_ble_eq_true rfl) dX4_become_57 ?_
  refine fw_bm h (fun M15 h => ?_)
  refine fw_iconst C 0 dX4_become_60 rfl ?_
  refine fw_istore_n C [(2, _), (0, _), (1, _)] dX4_become_61 rfl (Nat.le_of_ble_eq_true rfl) rfl ?_
  refine fw_sub [1, 2, 0] rfl ?_
  obtain ⟨l28, e28, h⟩ := b1_some h
  refine lc_X4_become_62 C hr hlk hl ht e28 ?_
  refine fw_iconst C 0 dX4_become_97 rfl ?_
  refine fw_istore_n C [(2, _), (0, _), (1, _)] dX4_become_98 rfl (Nat.le_of_ble_eq_true rfl) rfl ?_
  refine fw_sub [1, 2, 0] rfl ?_
  obtain ⟨l41, e41, h⟩ := b1_some h
  refine lc_X4_become_99 C hr hlk hl ht e41 ?_
  obtain rfl := Option.some.inj h
  exact fw_vret C hr hlk dX4_become_134
set_option maxRecDepth 100000 in
def f_X9_startAnewFrom (S : List fw_Sh) (M : fw_Mem) (a0 : Nat) (a1 : Nat) : Option fw_Mem := gd (gO S 9 a0) (gd (gN (M a0 1)) (gd (gO S 4 ((M a0 1).toNatClampNeg)) (b1 (f_X4_become S M ((M a0 1).toNatClampNeg) a1) (fun M3 => gd (gN (M3 a0 7)) (gd (gO S 0 ((M3 a0 7).toNatClampNeg)) (bm (fw_set M3 ((M3 a0 7).toNatClampNeg) 1 0) (fun M7 => gd (gN (M7 a0 5)) (gd (gO S 2 ((M7 a0 5).toNatClampNeg)) (b1 (f_X2_refresh S M7 ((M7 a0 5).toNatClampNeg)) (fun M9 => some M9))))))))))
set_option maxHeartbeats 4000000 in
set_option maxRecDepth 100000 in
theorem c_X9_startAnewFrom {l : Launch} {G : fw_G} {S : List fw_Sh} {M : fw_Mem} {a0 : Nat} {a1 : Nat} {r : fw_Mem} (hl : l.stackTraces = false) (h : f_X9_startAnewFrom S M a0 a1 = some r) : fw_M l G yX9_startAnewFrom (.code yX9_startAnewFrom cX9_startAnewFrom 2 none) 6 (fw_mcO (.inl none, S, r)) (fw_msO (.inl none, S, r)) S M [.ref a0, .ref a1] (.inl none, S, r) := by
  refine fw_of [(0, .ref a0), (1, .ref a1)] (by decide) (Nat.le_of_ble_eq_true rfl) rfl ?_
  intro p e s m args below meth c C hr hlk hnm ht _
  unfold f_X9_startAnewFrom at h
  refine fw_aload_n C 0 dX9_startAnewFrom_0 rfl rfl ?_
  obtain ⟨g1, h⟩ := gd_some h
  obtain ⟨g2, h⟩ := gd_some h
  refine fw_getR C 9 1 (Nat.le_of_ble_eq_true rfl) (Nat.le_of_ble_eq_true rfl) wf_X9_21 rfl (gO_of g1) (gN_of g2) dX9_startAnewFrom_1 ?_
  refine fw_aload_n C 1 dX9_startAnewFrom_4 rfl rfl ?_
  obtain ⟨g4, h⟩ := gd_some h
  obtain ⟨M3, e3, h⟩ := b1_some h
  refine fw_callV (ci := 4) [_] C (c_X4_become hl e3) cal_X4_become wm_X9_414 wi_yX4_become wsl_yX4_become (Nat.le_of_ble_eq_true rfl) rfl (gO_of g4) rfl (Nat.le_of_ble_eq_true rfl) ⟨Nat.le_of_ble_eq_true rfl, Nat.le_of_ble_eq_true rfl⟩ ⟨Nat.zero_le _, Nat.zero_le _⟩ dX9_startAnewFrom_5 ?_
  refine fw_aload_n C 0 dX9_startAnewFrom_8 rfl rfl ?_
  obtain ⟨g5, h⟩ := gd_some h
  refine fw_getR C 9 7 (Nat.le_of_ble_eq_true rfl) (Nat.le_of_ble_eq_true rfl) wf_X9_61 rfl (gO_of g1) (gN_of g5) dX9_startAnewFrom_9 ?_
  refine fw_iconst C 0 dX9_startAnewFrom_12 rfl ?_
  obtain ⟨g6, h⟩ := gd_some h
  refine fw_putI C 0 1 (Nat.le_of_ble_eq_true rfl) (Nat.le_of_ble_eq_true rfl) wf_X9_131 rfl rfl rfl rfl (gO_of g6) dX9_startAnewFrom_13 ?_
  refine fw_bm h (fun M7 h => ?_)
  refine fw_aload_n C 0 dX9_startAnewFrom_16 rfl rfl ?_
  obtain ⟨g8, h⟩ := gd_some h
  refine fw_getR C 9 5 (Nat.le_of_ble_eq_true rfl) (Nat.le_of_ble_eq_true rfl) wf_X9_45 rfl (gO_of g1) (gN_of g8) dX9_startAnewFrom_17 ?_
  obtain ⟨g10, h⟩ := gd_some h
  obtain ⟨M9, e9, h⟩ := b1_some h
  refine fw_callV (ci := 2) [] C (c_X2_refresh hl e9) cal_X2_refresh wm_X9_368 wi_yX2_refresh wsl_yX2_refresh (Nat.le_of_ble_eq_true rfl) rfl (gO_of g10) rfl (Nat.le_of_ble_eq_true rfl) ⟨Nat.le_of_ble_eq_true rfl, Nat.le_of_ble_eq_true rfl⟩ ⟨Nat.zero_le _, Nat.zero_le _⟩ dX9_startAnewFrom_20 ?_
  obtain rfl := Option.some.inj h
  exact fw_vret C hr hlk dX9_startAnewFrom_23
set_option maxRecDepth 100000 in
def f_X9_desk (S : List fw_Sh) (M : fw_Mem) (a0 : Nat) (x1 : Int32) : Option ((Int32 ⊕ String) × fw_Mem) := if x1 < 0 then (some (.inr exI, M)) else (gd (gO S 9 a0) (gd (gN (M a0 0)) (gd (gO S 7 ((M a0 0).toNatClampNeg)) (if x1 ≤ (M ((M a0 0).toNatClampNeg) 1) then (gd (gN (M a0 4)) (gd (gO S 8 ((M a0 4).toNatClampNeg)) (b1 (f_X8_read S M ((M a0 4).toNatClampNeg) x1) (fun M7 => gd (gN (M7 a0 0)) (gd (gO S 7 ((M7 a0 0).toNatClampNeg)) (if (M7 ((M7 a0 0).toNatClampNeg) 7) = 0 then (gd (gN (M7 a0 2)) (b1 (f_X9_startAnewFrom S M7 a0 ((M7 a0 2).toNatClampNeg)) (fun M13 => gd (gN (M13 a0 1)) (gd (gO S 4 ((M13 a0 1).toNatClampNeg)) (some (.inl (M13 ((M13 a0 1).toNatClampNeg) 6), M13)))))) else (some (.inl (((-10) : Int32) - (M7 ((M7 a0 0).toNatClampNeg) 7)), M7)))))))) else (some (.inr exI, M))))))
set_option maxHeartbeats 4000000 in
set_option maxRecDepth 100000 in
theorem c_X9_desk {l : Launch} {G : fw_G} {S : List fw_Sh} {M : fw_Mem} {a0 : Nat} {x1 : Int32} {r : ((Int32 ⊕ String) × fw_Mem)} (hl : l.stackTraces = false) (h : f_X9_desk S M a0 x1 = some r) : fw_M l G yX9_desk (.code yX9_desk cX9_desk 2 (some .int)) 13 (fw_mcO (fw_oI r.1, S, r.2)) (fw_msO (fw_oI r.1, S, r.2)) S M [.ref a0, .int x1] (fw_oI r.1, S, r.2) := by
  refine fw_of [(0, .ref a0), (1, .int x1)] (by decide) (Nat.le_of_ble_eq_true rfl) rfl ?_
  intro p e s m args below meth c C hr hlk hnm ht _
  unfold f_X9_desk at h
  refine fw_iload_n C 1 dX9_desk_0 rfl rfl ?_
  refine fw_if_lt C 15 dX9_desk_1 (by decide) (fun c1 => ?_) (fun c1 => ?_)
  · replace h := (if_pos c1).symm.trans h
    obtain rfl := Option.some.inj h
    exact fw_throwS C hl fw_exI (i := 55) (List.mem_of_getElem? (i := 0) rfl) dX9_desk_15 dX9_desk_18 dX9_desk_19 dX9_desk_21 dX9_desk_24 ht hlk (Nat.le_of_ble_eq_true rfl) (Nat.le_of_ble_eq_true rfl) (Nat.le_refl _) (Nat.le_refl _)
  · replace h := (if_neg c1).symm.trans h
    refine fw_iload_n C 1 dX9_desk_4 rfl rfl ?_
    refine fw_aload_n C 0 dX9_desk_5 rfl rfl ?_
    obtain ⟨g2, h⟩ := gd_some h
    obtain ⟨g3, h⟩ := gd_some h
    refine fw_getR C 9 0 (Nat.le_of_ble_eq_true rfl) (Nat.le_of_ble_eq_true rfl) wf_X9_12 rfl (gO_of g2) (gN_of g3) dX9_desk_6 ?_
    obtain ⟨g4, h⟩ := gd_some h
    refine fw_getI C 7 1 (Nat.le_of_ble_eq_true rfl) (Nat.le_of_ble_eq_true rfl) wf_X9_85 rfl (gO_of g4) dX9_desk_9 ?_
    refine fw_icmp_le C 25 dX9_desk_12 (by decide) (fun c5 => ?_) (fun c5 => ?_)
    · replace h := (if_pos c5).symm.trans h
      refine fw_aload_n C 0 dX9_desk_25 rfl rfl ?_
      obtain ⟨g6, h⟩ := gd_some h
      refine fw_getR C 9 4 (Nat.le_of_ble_eq_true rfl) (Nat.le_of_ble_eq_true rfl) wf_X9_36 rfl (gO_of g2) (gN_of g6) dX9_desk_26 ?_
      refine fw_iload_n C 1 dX9_desk_29 rfl rfl ?_
      obtain ⟨g8, h⟩ := gd_some h
      obtain ⟨M7, e7, h⟩ := b1_some h
      refine fw_callV (ci := 8) [_] C (c_X8_read hl e7) cal_X8_read wm_X9_99 wi_yX8_read wsl_yX8_read (Nat.le_of_ble_eq_true rfl) rfl (gO_of g8) rfl (Nat.le_of_ble_eq_true rfl) ⟨Nat.le_of_ble_eq_true rfl, Nat.le_of_ble_eq_true rfl⟩ ⟨Nat.zero_le _, Nat.zero_le _⟩ dX9_desk_30 ?_
      refine fw_aload_n C 0 dX9_desk_33 rfl rfl ?_
      obtain ⟨g9, h⟩ := gd_some h
      refine fw_getR C 9 0 (Nat.le_of_ble_eq_true rfl) (Nat.le_of_ble_eq_true rfl) wf_X9_12 rfl (gO_of g2) (gN_of g9) dX9_desk_34 ?_
      obtain ⟨g10, h⟩ := gd_some h
      refine fw_getI C 7 7 (Nat.le_of_ble_eq_true rfl) (Nat.le_of_ble_eq_true rfl) wf_X9_102 rfl (gO_of g10) dX9_desk_37 ?_
      refine fw_if_eq C 54 dX9_desk_40 (by decide) (fun c11 => ?_) (fun c11 => ?_)
      · replace h := (if_pos c11).symm.trans h
        refine fw_aload_n C 0 dX9_desk_54 rfl rfl ?_
        refine fw_aload_n C 0 dX9_desk_55 rfl rfl ?_
        obtain ⟨g12, h⟩ := gd_some h
        refine fw_getR C 9 2 (Nat.le_of_ble_eq_true rfl) (Nat.le_of_ble_eq_true rfl) wf_X9_25 rfl (gO_of g2) (gN_of g12) dX9_desk_56 ?_
        obtain ⟨M13, e13, h⟩ := b1_some h
        refine fw_callV (ci := 9) [_] C (c_X9_startAnewFrom hl e13) cal_X9_startAnewFrom wm_X9_105 wi_yX9_startAnewFrom wsl_yX9_startAnewFrom (Nat.le_of_ble_eq_true rfl) rfl (gO_of g2) rfl (Nat.le_of_ble_eq_true rfl) ⟨Nat.le_of_ble_eq_true rfl, Nat.le_of_ble_eq_true rfl⟩ ⟨Nat.zero_le _, Nat.zero_le _⟩ dX9_desk_59 ?_
        refine fw_aload_n C 0 dX9_desk_62 rfl rfl ?_
        obtain ⟨g14, h⟩ := gd_some h
        refine fw_getR C 9 1 (Nat.le_of_ble_eq_true rfl) (Nat.le_of_ble_eq_true rfl) wf_X9_21 rfl (gO_of g2) (gN_of g14) dX9_desk_63 ?_
        obtain ⟨g15, h⟩ := gd_some h
        refine fw_getI C 4 6 (Nat.le_of_ble_eq_true rfl) (Nat.le_of_ble_eq_true rfl) wf_X9_108 rfl (gO_of g15) dX9_desk_66 ?_
        obtain rfl := Option.some.inj h
        exact fw_iret C hr hlk dX9_desk_69
      · replace h := (if_neg c11).symm.trans h
        refine fw_bipush C (-10) dX9_desk_43 rfl ?_
        refine fw_aload_n C 0 dX9_desk_45 rfl rfl ?_
        refine fw_getR C 9 0 (Nat.le_of_ble_eq_true rfl) (Nat.le_of_ble_eq_true rfl) wf_X9_12 rfl (gO_of g2) (gN_of g9) dX9_desk_46 ?_
        refine fw_getI C 7 7 (Nat.le_of_ble_eq_true rfl) (Nat.le_of_ble_eq_true rfl) wf_X9_102 rfl (gO_of g10) dX9_desk_49 ?_
        refine fw_isub C dX9_desk_52 ?_
        obtain rfl := Option.some.inj h
        exact fw_iret C hr hlk dX9_desk_53
    · replace h := (if_neg c5).symm.trans h
      obtain rfl := Option.some.inj h
      exact fw_throwS C hl fw_exI (i := 55) (List.mem_of_getElem? (i := 0) rfl) dX9_desk_15 dX9_desk_18 dX9_desk_19 dX9_desk_21 dX9_desk_24 ht hlk (Nat.le_of_ble_eq_true rfl) (Nat.le_of_ble_eq_true rfl) (Nat.le_refl _) (Nat.le_refl _)
set_option maxRecDepth 100000 in
def f_X9_fault (S : List fw_Sh) (M : fw_Mem) (a0 : Nat) : Option Int32 := gd (gO S 9 a0) (gd (gN (M a0 0)) (gd (gO S 7 ((M a0 0).toNatClampNeg)) (some (M ((M a0 0).toNatClampNeg) 8))))
set_option maxHeartbeats 4000000 in
set_option maxRecDepth 100000 in
theorem c_X9_fault {l : Launch} {G : fw_G} {S : List fw_Sh} {M : fw_Mem} {a0 : Nat} {r : Int32} (hl : l.stackTraces = false) (h : f_X9_fault S M a0 = some r) : fw_M l G yX9_fault (.code yX9_fault cX9_fault 1 (some .int)) 1 (fw_mcO (.inl (some (.int r)), S, M)) (fw_msO (.inl (some (.int r)), S, M)) S M [.ref a0] (.inl (some (.int r)), S, M) := by
  refine fw_of [(0, .ref a0)] (by decide) (Nat.le_of_ble_eq_true rfl) rfl ?_
  intro p e s m args below meth c C hr hlk hnm ht _
  unfold f_X9_fault at h
  refine fw_aload_n C 0 dX9_fault_0 rfl rfl ?_
  obtain ⟨g1, h⟩ := gd_some h
  obtain ⟨g2, h⟩ := gd_some h
  refine fw_getR C 9 0 (Nat.le_of_ble_eq_true rfl) (Nat.le_of_ble_eq_true rfl) wf_X9_12 rfl (gO_of g1) (gN_of g2) dX9_fault_1 ?_
  obtain ⟨g3, h⟩ := gd_some h
  refine fw_getI C 7 8 (Nat.le_of_ble_eq_true rfl) (Nat.le_of_ble_eq_true rfl) wf_X9_111 rfl (gO_of g3) dX9_fault_4 ?_
  obtain rfl := Option.some.inj h
  exact fw_iret C hr hlk dX9_fault_7
set_option maxRecDepth 100000 in
def f_X6_boundAtAll (S : List fw_Sh) (M : fw_Mem) (a0 : Nat) : Option Int32 := gd (gO S 6 a0) (some ((M a0 13) ||| (M a0 14)))
set_option maxHeartbeats 4000000 in
set_option maxRecDepth 100000 in
theorem c_X6_boundAtAll {l : Launch} {G : fw_G} {S : List fw_Sh} {M : fw_Mem} {a0 : Nat} {r : Int32} (hl : l.stackTraces = false) (h : f_X6_boundAtAll S M a0 = some r) : fw_M l G yX6_boundAtAll (.code yX6_boundAtAll cX6_boundAtAll 1 (some .int)) 1 (fw_mcO (.inl (some (.int r)), S, M)) (fw_msO (.inl (some (.int r)), S, M)) S M [.ref a0] (.inl (some (.int r)), S, M) := by
  refine fw_of [(0, .ref a0)] (by decide) (Nat.le_of_ble_eq_true rfl) rfl ?_
  intro p e s m args below meth c C hr hlk hnm ht _
  unfold f_X6_boundAtAll at h
  refine fw_aload_n C 0 dX6_boundAtAll_0 rfl rfl ?_
  obtain ⟨g1, h⟩ := gd_some h
  refine fw_getI C 6 13 (Nat.le_of_ble_eq_true rfl) (Nat.le_of_ble_eq_true rfl) wf_X6_52 rfl (gO_of g1) dX6_boundAtAll_1 ?_
  refine fw_aload_n C 0 dX6_boundAtAll_4 rfl rfl ?_
  refine fw_getI C 6 14 (Nat.le_of_ble_eq_true rfl) (Nat.le_of_ble_eq_true rfl) wf_X6_55 rfl (gO_of g1) dX6_boundAtAll_5 ?_
  refine fw_ior C dX6_boundAtAll_8 ?_
  obtain rfl := Option.some.inj h
  exact fw_iret C hr hlk dX6_boundAtAll_9
set_option maxRecDepth 100000 in
def f_X2_clashingIssues (S : List fw_Sh) (M : fw_Mem) (a0 : Nat) (a1 : Nat) (a2 : Nat) : Option Int32 := gd (gO S 6 a1) (b1 (f_X6_boundAtAll S M a1) (fun v1 => gd (gO S 6 a2) (b1 (f_X6_boundAtAll S M a2) (fun v3 => if (v1 &&& v3) = 0 then (some 0) else (some (((M a1 15) &&& (M a2 16)) ||| ((M a1 16) &&& (M a2 15))))))))
set_option maxHeartbeats 4000000 in
set_option maxRecDepth 100000 in
theorem c_X2_clashingIssues {l : Launch} {G : fw_G} {S : List fw_Sh} {M : fw_Mem} {a0 : Nat} {a1 : Nat} {a2 : Nat} {r : Int32} (hl : l.stackTraces = false) (h : f_X2_clashingIssues S M a0 a1 a2 = some r) : fw_M l G yX2_clashingIssues (.code yX2_clashingIssues cX2_clashingIssues 3 (some .int)) 2 (fw_mcO (.inl (some (.int r)), S, M)) (fw_msO (.inl (some (.int r)), S, M)) S M [.ref a0, .ref a1, .ref a2] (.inl (some (.int r)), S, M) := by
  refine fw_of [(0, .ref a0), (1, .ref a1), (2, .ref a2)] (by decide) (Nat.le_of_ble_eq_true rfl) rfl ?_
  intro p e s m args below meth c C hr hlk hnm ht _
  unfold f_X2_clashingIssues at h
  refine fw_aload_n C 1 dX2_clashingIssues_0 rfl rfl ?_
  obtain ⟨g2, h⟩ := gd_some h
  obtain ⟨v1, e1, h⟩ := b1_some h
  refine fw_callV (ci := 6) [] C (c_X6_boundAtAll hl e1) cal_X6_boundAtAll wm_X2_213 wi_yX6_boundAtAll wsl_yX6_boundAtAll (Nat.le_of_ble_eq_true rfl) rfl (gO_of g2) rfl (Nat.le_of_ble_eq_true rfl) ⟨Nat.le_of_ble_eq_true rfl, Nat.le_of_ble_eq_true rfl⟩ ⟨Nat.zero_le _, Nat.zero_le _⟩ dX2_clashingIssues_1 ?_
  refine fw_aload_n C 2 dX2_clashingIssues_4 rfl rfl ?_
  obtain ⟨g4, h⟩ := gd_some h
  obtain ⟨v3, e3, h⟩ := b1_some h
  refine fw_callV (ci := 6) [] C (c_X6_boundAtAll hl e3) cal_X6_boundAtAll wm_X2_213 wi_yX6_boundAtAll wsl_yX6_boundAtAll (Nat.le_of_ble_eq_true rfl) rfl (gO_of g4) rfl (Nat.le_of_ble_eq_true rfl) ⟨Nat.le_of_ble_eq_true rfl, Nat.le_of_ble_eq_true rfl⟩ ⟨Nat.zero_le _, Nat.zero_le _⟩ dX2_clashingIssues_5 ?_
  refine fw_iand C dX2_clashingIssues_8 ?_
  refine fw_if_ne C 14 dX2_clashingIssues_9 (by decide) (fun c5 => ?_) (fun c5 => ?_)
  · replace h := (if_neg c5).symm.trans h
    refine fw_aload_n C 1 dX2_clashingIssues_14 rfl rfl ?_
    refine fw_getI C 6 15 (Nat.le_of_ble_eq_true rfl) (Nat.le_of_ble_eq_true rfl) wf_X2_53 rfl (gO_of g2) dX2_clashingIssues_15 ?_
    refine fw_aload_n C 2 dX2_clashingIssues_18 rfl rfl ?_
    refine fw_getI C 6 16 (Nat.le_of_ble_eq_true rfl) (Nat.le_of_ble_eq_true rfl) wf_X2_59 rfl (gO_of g4) dX2_clashingIssues_19 ?_
    refine fw_iand C dX2_clashingIssues_22 ?_
    refine fw_aload_n C 1 dX2_clashingIssues_23 rfl rfl ?_
    refine fw_getI C 6 16 (Nat.le_of_ble_eq_true rfl) (Nat.le_of_ble_eq_true rfl) wf_X2_59 rfl (gO_of g2) dX2_clashingIssues_24 ?_
    refine fw_aload_n C 2 dX2_clashingIssues_27 rfl rfl ?_
    refine fw_getI C 6 15 (Nat.le_of_ble_eq_true rfl) (Nat.le_of_ble_eq_true rfl) wf_X2_53 rfl (gO_of g4) dX2_clashingIssues_28 ?_
    refine fw_iand C dX2_clashingIssues_31 ?_
    refine fw_ior C dX2_clashingIssues_32 ?_
    obtain rfl := Option.some.inj h
    exact fw_iret C hr hlk dX2_clashingIssues_33
  · replace h := (if_pos c5).symm.trans h
    refine fw_iconst C 0 dX2_clashingIssues_12 rfl ?_
    obtain rfl := Option.some.inj h
    exact fw_iret C hr hlk dX2_clashingIssues_13
set_option maxRecDepth 100000 in
def lf_X2_clashCount_17 (S : List fw_Sh) (M : fw_Mem) (a0 : Nat) (x2 : Int32) : Nat → Int32 → Int32 → Option (Int32)
  | 0, _, _ => none
  | n + 1, x1, x3 => if x2 ≤ x3 then (some x1) else (gd (gO S 2 a0) (gd (gN (M a0 0)) (gd (gO S 4 ((M a0 0).toNatClampNeg)) (gd (gN (M ((M a0 0).toNatClampNeg) 2)) (gd (gA S 4 ((M ((M a0 0).toNatClampNeg) 2).toNatClampNeg) x2) (gd (gN (M ((M ((M a0 0).toNatClampNeg) 2).toNatClampNeg) x2.toNatClampNeg)) (gd (gA S 4 ((M ((M a0 0).toNatClampNeg) 2).toNatClampNeg) x3) (gd (gN (M ((M ((M a0 0).toNatClampNeg) 2).toNatClampNeg) x3.toNatClampNeg)) (b1 (f_X2_clashingIssues S M a0 ((M ((M ((M a0 0).toNatClampNeg) 2).toNatClampNeg) x2.toNatClampNeg).toNatClampNeg) ((M ((M ((M a0 0).toNatClampNeg) 2).toNatClampNeg) x3.toNatClampNeg).toNatClampNeg)) (fun v14 => if v14 = 0 then (lf_X2_clashCount_17 S M a0 x2 n (x1 + 0) (x3 + 1)) else (lf_X2_clashCount_17 S M a0 x2 n (x1 + 1) (x3 + 1))))))))))))
set_option maxHeartbeats 4000000 in
set_option maxRecDepth 100000 in
theorem lc_X2_clashCount_17 {G : fw_G} {p : Program} {l : Launch} {e : Env} {s : State} {m : MethodId} {args : Array Value} {below : List Frame} {meth : Method} {c : Code} {S : List fw_Sh} {o : fw_O} {M : fw_Mem} {a0 : Nat} {x2 : Int32} (C : fw_C G RX2 cX2_clashCount 4 p s m args c) (hr : meth.sig.returnType = (some .int)) (hlk : meth.locks = false) (hl : l.stackTraces = false) (ht : ∀ x ∈ c.exceptionTable.toList, False) :
    ∀ {n : Nat} {x1 : Int32} {x3 : Int32} {r : (Int32)} (h : lf_X2_clashCount_17 S M a0 x2 n x1 x3 = some r) (kx : fw_W G p l e (fw_rm 3 (fw_mcO o) (fw_msO o)) s m args below meth c 4 (fw_Z G below args s (fw_mcO o) (fw_msO o) o) 0 0 61 [(0, .ref a0), (1, .int r), (2, .int x2)] [] S M), fw_W G p l e (fw_rm 3 (fw_mcO o) (fw_msO o)) s m args below meth c 4 (fw_Z G below args s (fw_mcO o) (fw_msO o) o) 0 0 17 [(0, .ref a0), (1, .int x1), (2, .int x2), (3, .int x3)] [] S M := by
  intro n
  induction n with
  | zero =>
    intro x1 x3 r h
    exact nomatch (show (none : Option (Int32)) = some r from h)
  | succ n ih =>
    intro x1 x3 r h kx
    rw [lf_X2_clashCount_17.eq_2] at h
    refine fw_iload_n C 3 dX2_clashCount_17 rfl rfl ?_
    refine fw_iload_n C 2 dX2_clashCount_18 rfl rfl ?_
    refine fw_icmp_ge C 61 dX2_clashCount_19 (by decide) (fun c5 => ?_) (fun c5 => ?_)
    · replace h := (if_pos c5).symm.trans h
      obtain rfl := Option.some.inj h
      refine fw_sub [0, 1, 2] rfl ?_
      exact kx
    · replace h := (if_neg c5).symm.trans h
      refine fw_iload_n C 1 dX2_clashCount_22 rfl rfl ?_
      refine fw_aload_n C 0 dX2_clashCount_23 rfl rfl ?_
      refine fw_aload_n C 0 dX2_clashCount_24 rfl rfl ?_
      obtain ⟨g6, h⟩ := gd_some h
      obtain ⟨g7, h⟩ := gd_some h
      refine fw_getR C 2 0 (Nat.le_of_ble_eq_true rfl) (Nat.le_of_ble_eq_true rfl) wf_X2_27 rfl (gO_of g6) (gN_of g7) dX2_clashCount_25 ?_
      obtain ⟨g8, h⟩ := gd_some h
      obtain ⟨g9, h⟩ := gd_some h
      refine fw_getR C 4 2 (Nat.le_of_ble_eq_true rfl) (Nat.le_of_ble_eq_true rfl) wf_X2_37 rfl (gO_of g8) (gN_of g9) dX2_clashCount_28 ?_
      refine fw_iload_n C 2 dX2_clashCount_31 rfl rfl ?_
      obtain ⟨g10, h⟩ := gd_some h
      obtain ⟨g11, h⟩ := gd_some h
      refine fw_aald C 4 (by decide) (gA_of g10) (gN_of g11) dX2_clashCount_32 ?_
      refine fw_aload_n C 0 dX2_clashCount_33 rfl rfl ?_
      refine fw_getR C 2 0 (Nat.le_of_ble_eq_true rfl) (Nat.le_of_ble_eq_true rfl) wf_X2_27 rfl (gO_of g6) (gN_of g7) dX2_clashCount_34 ?_
      refine fw_getR C 4 2 (Nat.le_of_ble_eq_true rfl) (Nat.le_of_ble_eq_true rfl) wf_X2_37 rfl (gO_of g8) (gN_of g9) dX2_clashCount_37 ?_
      refine fw_iload_n C 3 dX2_clashCount_40 rfl rfl ?_
      obtain ⟨g12, h⟩ := gd_some h
      obtain ⟨g13, h⟩ := gd_some h
      refine fw_aald C 4 (by decide) (gA_of g12) (gN_of g13) dX2_clashCount_41 ?_
      obtain ⟨v14, e14, h⟩ := b1_some h
      refine fw_callV (ci := 2) [_, _] C (c_X2_clashingIssues hl e14) cal_X2_clashingIssues wm_X2_217 wi_yX2_clashingIssues wsl_yX2_clashingIssues (Nat.le_of_ble_eq_true rfl) rfl (gO_of g6) rfl (Nat.le_of_ble_eq_true rfl) ⟨Nat.le_of_ble_eq_true rfl, Nat.le_of_ble_eq_true rfl⟩ ⟨Nat.zero_le _, Nat.zero_le _⟩ dX2_clashCount_42 ?_
      refine fw_if_ne C 52 dX2_clashCount_45 (by decide) (fun c15 => ?_) (fun c15 => ?_)
      · replace h := (if_neg c15).symm.trans h
        refine fw_iconst C 1 dX2_clashCount_52 rfl ?_
        refine fw_iadd C dX2_clashCount_53 ?_
        refine fw_istore_n C [(1, _), (0, _), (2, _), (3, _)] dX2_clashCount_54 rfl (Nat.le_of_ble_eq_true rfl) rfl ?_
        refine fw_iinc C _ 3 [(3, _), (1, _), (0, _), (2, _)] dX2_clashCount_55 rfl rfl (Nat.le_of_ble_eq_true rfl) rfl ?_
        refine fw_goto C 17 dX2_clashCount_58 (by decide) ?_
        refine fw_sub [2, 1, 3, 0] rfl ?_
        exact ih h kx
      · replace h := (if_pos c15).symm.trans h
        refine fw_iconst C 0 dX2_clashCount_48 rfl ?_
        refine fw_goto C 53 dX2_clashCount_49 (by decide) ?_
        refine fw_iadd C dX2_clashCount_53 ?_
        refine fw_istore_n C [(1, _), (0, _), (2, _), (3, _)] dX2_clashCount_54 rfl (Nat.le_of_ble_eq_true rfl) rfl ?_
        refine fw_iinc C _ 3 [(3, _), (1, _), (0, _), (2, _)] dX2_clashCount_55 rfl rfl (Nat.le_of_ble_eq_true rfl) rfl ?_
        refine fw_goto C 17 dX2_clashCount_58 (by decide) ?_
        refine fw_sub [2, 1, 3, 0] rfl ?_
        exact ih h kx
set_option maxRecDepth 100000 in
def lf_X2_clashCount_4 (S : List fw_Sh) (M : fw_Mem) (a0 : Nat) : Nat → Int32 → Int32 → Option (Int32)
  | 0, _, _ => none
  | n + 1, x1, x2 => gd (gO S 2 a0) (gd (gN (M a0 0)) (gd (gO S 4 ((M a0 0).toNatClampNeg)) (if (M ((M a0 0).toNatClampNeg) 6) ≤ x2 then (some x1) else (b1 (lf_X2_clashCount_17 S M a0 x2 20000 x1 0) (fun l16 => lf_X2_clashCount_4 S M a0 n l16 (x2 + 1))))))
set_option maxHeartbeats 4000000 in
set_option maxRecDepth 100000 in
theorem lc_X2_clashCount_4 {G : fw_G} {p : Program} {l : Launch} {e : Env} {s : State} {m : MethodId} {args : Array Value} {below : List Frame} {meth : Method} {c : Code} {S : List fw_Sh} {o : fw_O} {M : fw_Mem} {a0 : Nat} (C : fw_C G RX2 cX2_clashCount 4 p s m args c) (hr : meth.sig.returnType = (some .int)) (hlk : meth.locks = false) (hl : l.stackTraces = false) (ht : ∀ x ∈ c.exceptionTable.toList, False) :
    ∀ {n : Nat} {x1 : Int32} {x2 : Int32} {r : (Int32)} (h : lf_X2_clashCount_4 S M a0 n x1 x2 = some r) (kx : fw_W G p l e (fw_rm 3 (fw_mcO o) (fw_msO o)) s m args below meth c 4 (fw_Z G below args s (fw_mcO o) (fw_msO o) o) 0 0 67 [(1, .int r)] [] S M), fw_W G p l e (fw_rm 3 (fw_mcO o) (fw_msO o)) s m args below meth c 4 (fw_Z G below args s (fw_mcO o) (fw_msO o) o) 0 0 4 [(0, .ref a0), (1, .int x1), (2, .int x2)] [] S M := by
  intro n
  induction n with
  | zero =>
    intro x1 x2 r h
    exact nomatch (show (none : Option (Int32)) = some r from h)
  | succ n ih =>
    intro x1 x2 r h kx
    rw [lf_X2_clashCount_4.eq_2] at h
    refine fw_iload_n C 2 dX2_clashCount_4 rfl rfl ?_
    refine fw_aload_n C 0 dX2_clashCount_5 rfl rfl ?_
    obtain ⟨g1, h⟩ := gd_some h
    obtain ⟨g2, h⟩ := gd_some h
    refine fw_getR C 2 0 (Nat.le_of_ble_eq_true rfl) (Nat.le_of_ble_eq_true rfl) wf_X2_27 rfl (gO_of g1) (gN_of g2) dX2_clashCount_6 ?_
    obtain ⟨g3, h⟩ := gd_some h
    refine fw_getI C 4 6 (Nat.le_of_ble_eq_true rfl) (Nat.le_of_ble_eq_true rfl) wf_X2_31 rfl (gO_of g3) dX2_clashCount_9 ?_
    refine fw_icmp_ge C 67 dX2_clashCount_12 (by decide) (fun c4 => ?_) (fun c4 => ?_)
    · replace h := (if_pos c4).symm.trans h
      obtain rfl := Option.some.inj h
      refine fw_sub [1] rfl ?_
      exact kx
    · replace h := (if_neg c4).symm.trans h
      refine fw_iconst C 0 dX2_clashCount_15 rfl ?_
      refine fw_istore_n C [(3, _), (0, _), (1, _), (2, _)] dX2_clashCount_16 rfl (Nat.le_of_ble_eq_true rfl) rfl ?_
      refine fw_sub [1, 2, 3, 0] rfl ?_
      obtain ⟨l16, e16, h⟩ := b1_some h
      refine lc_X2_clashCount_17 C hr hlk hl ht e16 ?_
      refine fw_iinc C _ 2 [(2, _), (0, _), (1, _)] dX2_clashCount_61 rfl rfl (Nat.le_of_ble_eq_true rfl) rfl ?_
      refine fw_goto C 4 dX2_clashCount_64 (by decide) ?_
      refine fw_sub [1, 2, 0] rfl ?_
      exact ih h kx
set_option maxRecDepth 100000 in
def f_X2_clashCount (S : List fw_Sh) (M : fw_Mem) (a0 : Nat) : Option Int32 := b1 (lf_X2_clashCount_4 S M a0 20000 0 0) (fun l17 => some l17)
set_option maxHeartbeats 4000000 in
set_option maxRecDepth 100000 in
theorem c_X2_clashCount {l : Launch} {G : fw_G} {S : List fw_Sh} {M : fw_Mem} {a0 : Nat} {r : Int32} (hl : l.stackTraces = false) (h : f_X2_clashCount S M a0 = some r) : fw_M l G yX2_clashCount (.code yX2_clashCount cX2_clashCount 4 (some .int)) 3 (fw_mcO (.inl (some (.int r)), S, M)) (fw_msO (.inl (some (.int r)), S, M)) S M [.ref a0] (.inl (some (.int r)), S, M) := by
  refine fw_of [(0, .ref a0)] (by decide) (Nat.le_of_ble_eq_true rfl) rfl ?_
  intro p e s m args below meth c C hr hlk hnm ht _
  unfold f_X2_clashCount at h
  refine fw_iconst C 0 dX2_clashCount_0 rfl ?_
  refine fw_istore_n C [(1, _), (0, _)] dX2_clashCount_1 rfl (Nat.le_of_ble_eq_true rfl) rfl ?_
  refine fw_iconst C 0 dX2_clashCount_2 rfl ?_
  refine fw_istore_n C [(2, _), (1, _), (0, _)] dX2_clashCount_3 rfl (Nat.le_of_ble_eq_true rfl) rfl ?_
  refine fw_sub [2, 1, 0] rfl ?_
  obtain ⟨l17, e17, h⟩ := b1_some h
  refine lc_X2_clashCount_4 C hr hlk hl ht e17 ?_
  refine fw_iload_n C 0 dX2_clashCount_67 rfl rfl ?_
  obtain rfl := Option.some.inj h
  exact fw_iret C hr hlk dX2_clashCount_68
set_option maxRecDepth 100000 in
def lf_X4_judgedCount_4 (S : List fw_Sh) (M : fw_Mem) (a0 : Nat) : Nat → Int32 → Int32 → Option (Int32)
  | 0, _, _ => none
  | n + 1, x1, x2 => gd (gO S 4 a0) (if (M a0 6) ≤ x2 then (some x1) else (gd (gN (M a0 2)) (gd (gA S 4 ((M a0 2).toNatClampNeg) x2) (gd (gN (M ((M a0 2).toNatClampNeg) x2.toNatClampNeg)) (gd (gO S 6 ((M ((M a0 2).toNatClampNeg) x2.toNatClampNeg).toNatClampNeg)) (b1 (f_X6_isJudged S M ((M ((M a0 2).toNatClampNeg) x2.toNatClampNeg).toNatClampNeg)) (fun v6 => if v6 = 0 then (lf_X4_judgedCount_4 S M a0 n (x1 + 0) (x2 + 1)) else (lf_X4_judgedCount_4 S M a0 n (x1 + 1) (x2 + 1)))))))))
set_option maxHeartbeats 4000000 in
set_option maxRecDepth 100000 in
theorem lc_X4_judgedCount_4 {G : fw_G} {p : Program} {l : Launch} {e : Env} {s : State} {m : MethodId} {args : Array Value} {below : List Frame} {meth : Method} {c : Code} {S : List fw_Sh} {o : fw_O} {M : fw_Mem} {a0 : Nat} (C : fw_C G RX4 cX4_judgedCount 3 p s m args c) (hr : meth.sig.returnType = (some .int)) (hlk : meth.locks = false) (hl : l.stackTraces = false) (ht : ∀ x ∈ c.exceptionTable.toList, False) :
    ∀ {n : Nat} {x1 : Int32} {x2 : Int32} {r : (Int32)} (h : lf_X4_judgedCount_4 S M a0 n x1 x2 = some r) (kx : fw_W G p l e (fw_rm 2 (fw_mcO o) (fw_msO o)) s m args below meth c 3 (fw_Z G below args s (fw_mcO o) (fw_msO o) o) 0 0 38 [(1, .int r)] [] S M), fw_W G p l e (fw_rm 2 (fw_mcO o) (fw_msO o)) s m args below meth c 3 (fw_Z G below args s (fw_mcO o) (fw_msO o) o) 0 0 4 [(0, .ref a0), (1, .int x1), (2, .int x2)] [] S M := by
  intro n
  induction n with
  | zero =>
    intro x1 x2 r h
    exact nomatch (show (none : Option (Int32)) = some r from h)
  | succ n ih =>
    intro x1 x2 r h kx
    rw [lf_X4_judgedCount_4.eq_2] at h
    refine fw_iload_n C 2 dX4_judgedCount_4 rfl rfl ?_
    refine fw_aload_n C 0 dX4_judgedCount_5 rfl rfl ?_
    obtain ⟨g1, h⟩ := gd_some h
    refine fw_getI C 4 6 (Nat.le_of_ble_eq_true rfl) (Nat.le_of_ble_eq_true rfl) wf_X4_44 rfl (gO_of g1) dX4_judgedCount_6 ?_
    refine fw_icmp_ge C 38 dX4_judgedCount_9 (by decide) (fun c2 => ?_) (fun c2 => ?_)
    · replace h := (if_pos c2).symm.trans h
      obtain rfl := Option.some.inj h
      refine fw_sub [1] rfl ?_
      exact kx
    · replace h := (if_neg c2).symm.trans h
      refine fw_iload_n C 1 dX4_judgedCount_12 rfl rfl ?_
      refine fw_aload_n C 0 dX4_judgedCount_13 rfl rfl ?_
      obtain ⟨g3, h⟩ := gd_some h
      refine fw_getR C 4 2 (Nat.le_of_ble_eq_true rfl) (Nat.le_of_ble_eq_true rfl) wf_X4_23 rfl (gO_of g1) (gN_of g3) dX4_judgedCount_14 ?_
      refine fw_iload_n C 2 dX4_judgedCount_17 rfl rfl ?_
      obtain ⟨g4, h⟩ := gd_some h
      obtain ⟨g5, h⟩ := gd_some h
      refine fw_aald C 4 (by decide) (gA_of g4) (gN_of g5) dX4_judgedCount_18 ?_
      obtain ⟨g7, h⟩ := gd_some h
      obtain ⟨v6, e6, h⟩ := b1_some h
      refine fw_callV (ci := 6) [] C (c_X6_isJudged hl e6) cal_X6_isJudged wm_X4_60 wi_yX6_isJudged wsl_yX6_isJudged (Nat.le_of_ble_eq_true rfl) rfl (gO_of g7) rfl (Nat.le_of_ble_eq_true rfl) ⟨Nat.le_of_ble_eq_true rfl, Nat.le_of_ble_eq_true rfl⟩ ⟨Nat.zero_le _, Nat.zero_le _⟩ dX4_judgedCount_19 ?_
      refine fw_if_eq C 29 dX4_judgedCount_22 (by decide) (fun c8 => ?_) (fun c8 => ?_)
      · replace h := (if_pos c8).symm.trans h
        refine fw_iconst C 0 dX4_judgedCount_29 rfl ?_
        refine fw_iadd C dX4_judgedCount_30 ?_
        refine fw_istore_n C [(1, _), (0, _), (2, _)] dX4_judgedCount_31 rfl (Nat.le_of_ble_eq_true rfl) rfl ?_
        refine fw_iinc C _ 2 [(2, _), (1, _), (0, _)] dX4_judgedCount_32 rfl rfl (Nat.le_of_ble_eq_true rfl) rfl ?_
        refine fw_goto C 4 dX4_judgedCount_35 (by decide) ?_
        refine fw_sub [2, 1, 0] rfl ?_
        exact ih h kx
      · replace h := (if_neg c8).symm.trans h
        refine fw_iconst C 1 dX4_judgedCount_25 rfl ?_
        refine fw_goto C 30 dX4_judgedCount_26 (by decide) ?_
        refine fw_iadd C dX4_judgedCount_30 ?_
        refine fw_istore_n C [(1, _), (0, _), (2, _)] dX4_judgedCount_31 rfl (Nat.le_of_ble_eq_true rfl) rfl ?_
        refine fw_iinc C _ 2 [(2, _), (1, _), (0, _)] dX4_judgedCount_32 rfl rfl (Nat.le_of_ble_eq_true rfl) rfl ?_
        refine fw_goto C 4 dX4_judgedCount_35 (by decide) ?_
        refine fw_sub [2, 1, 0] rfl ?_
        exact ih h kx
set_option maxRecDepth 100000 in
def f_X4_judgedCount (S : List fw_Sh) (M : fw_Mem) (a0 : Nat) : Option Int32 := b1 (lf_X4_judgedCount_4 S M a0 20000 0 0) (fun l9 => some l9)
set_option maxHeartbeats 4000000 in
set_option maxRecDepth 100000 in
theorem c_X4_judgedCount {l : Launch} {G : fw_G} {S : List fw_Sh} {M : fw_Mem} {a0 : Nat} {r : Int32} (hl : l.stackTraces = false) (h : f_X4_judgedCount S M a0 = some r) : fw_M l G yX4_judgedCount (.code yX4_judgedCount cX4_judgedCount 3 (some .int)) 2 (fw_mcO (.inl (some (.int r)), S, M)) (fw_msO (.inl (some (.int r)), S, M)) S M [.ref a0] (.inl (some (.int r)), S, M) := by
  refine fw_of [(0, .ref a0)] (by decide) (Nat.le_of_ble_eq_true rfl) rfl ?_
  intro p e s m args below meth c C hr hlk hnm ht _
  unfold f_X4_judgedCount at h
  refine fw_iconst C 0 dX4_judgedCount_0 rfl ?_
  refine fw_istore_n C [(1, _), (0, _)] dX4_judgedCount_1 rfl (Nat.le_of_ble_eq_true rfl) rfl ?_
  refine fw_iconst C 0 dX4_judgedCount_2 rfl ?_
  refine fw_istore_n C [(2, _), (1, _), (0, _)] dX4_judgedCount_3 rfl (Nat.le_of_ble_eq_true rfl) rfl ?_
  refine fw_sub [2, 1, 0] rfl ?_
  obtain ⟨l9, e9, h⟩ := b1_some h
  refine lc_X4_judgedCount_4 C hr hlk hl ht e9 ?_
  refine fw_iload_n C 0 dX4_judgedCount_38 rfl rfl ?_
  obtain rfl := Option.some.inj h
  exact fw_iret C hr hlk dX4_judgedCount_39
set_option maxRecDepth 100000 in
def lf_X4_reversedCount_4 (S : List fw_Sh) (M : fw_Mem) (a0 : Nat) : Nat → Int32 → Int32 → Option (Int32)
  | 0, _, _ => none
  | n + 1, x1, x2 => gd (gO S 4 a0) (if (M a0 6) ≤ x2 then (some x1) else (gd (gN (M a0 2)) (gd (gA S 4 ((M a0 2).toNatClampNeg) x2) (gd (gN (M ((M a0 2).toNatClampNeg) x2.toNatClampNeg)) (gd (gO S 6 ((M ((M a0 2).toNatClampNeg) x2.toNatClampNeg).toNatClampNeg)) (if (M ((M ((M a0 2).toNatClampNeg) x2.toNatClampNeg).toNatClampNeg) 9) = 0 then (lf_X4_reversedCount_4 S M a0 n (x1 + 0) (x2 + 1)) else (lf_X4_reversedCount_4 S M a0 n (x1 + 1) (x2 + 1))))))))
set_option maxHeartbeats 4000000 in
set_option maxRecDepth 100000 in
theorem lc_X4_reversedCount_4 {G : fw_G} {p : Program} {l : Launch} {e : Env} {s : State} {m : MethodId} {args : Array Value} {below : List Frame} {meth : Method} {c : Code} {S : List fw_Sh} {o : fw_O} {M : fw_Mem} {a0 : Nat} (C : fw_C G RX4 cX4_reversedCount 3 p s m args c) (hr : meth.sig.returnType = (some .int)) (hlk : meth.locks = false) (hl : l.stackTraces = false) (ht : ∀ x ∈ c.exceptionTable.toList, False) :
    ∀ {n : Nat} {x1 : Int32} {x2 : Int32} {r : (Int32)} (h : lf_X4_reversedCount_4 S M a0 n x1 x2 = some r) (kx : fw_W G p l e (fw_rm 1 (fw_mcO o) (fw_msO o)) s m args below meth c 3 (fw_Z G below args s (fw_mcO o) (fw_msO o) o) 0 0 38 [(1, .int r)] [] S M), fw_W G p l e (fw_rm 1 (fw_mcO o) (fw_msO o)) s m args below meth c 3 (fw_Z G below args s (fw_mcO o) (fw_msO o) o) 0 0 4 [(0, .ref a0), (1, .int x1), (2, .int x2)] [] S M := by
  intro n
  induction n with
  | zero =>
    intro x1 x2 r h
    exact nomatch (show (none : Option (Int32)) = some r from h)
  | succ n ih =>
    intro x1 x2 r h kx
    rw [lf_X4_reversedCount_4.eq_2] at h
    refine fw_iload_n C 2 dX4_reversedCount_4 rfl rfl ?_
    refine fw_aload_n C 0 dX4_reversedCount_5 rfl rfl ?_
    obtain ⟨g1, h⟩ := gd_some h
    refine fw_getI C 4 6 (Nat.le_of_ble_eq_true rfl) (Nat.le_of_ble_eq_true rfl) wf_X4_44 rfl (gO_of g1) dX4_reversedCount_6 ?_
    refine fw_icmp_ge C 38 dX4_reversedCount_9 (by decide) (fun c2 => ?_) (fun c2 => ?_)
    · replace h := (if_pos c2).symm.trans h
      obtain rfl := Option.some.inj h
      refine fw_sub [1] rfl ?_
      exact kx
    · replace h := (if_neg c2).symm.trans h
      refine fw_iload_n C 1 dX4_reversedCount_12 rfl rfl ?_
      refine fw_aload_n C 0 dX4_reversedCount_13 rfl rfl ?_
      obtain ⟨g3, h⟩ := gd_some h
      refine fw_getR C 4 2 (Nat.le_of_ble_eq_true rfl) (Nat.le_of_ble_eq_true rfl) wf_X4_23 rfl (gO_of g1) (gN_of g3) dX4_reversedCount_14 ?_
      refine fw_iload_n C 2 dX4_reversedCount_17 rfl rfl ?_
      obtain ⟨g4, h⟩ := gd_some h
      obtain ⟨g5, h⟩ := gd_some h
      refine fw_aald C 4 (by decide) (gA_of g4) (gN_of g5) dX4_reversedCount_18 ?_
      obtain ⟨g6, h⟩ := gd_some h
      refine fw_getI C 6 9 (Nat.le_of_ble_eq_true rfl) (Nat.le_of_ble_eq_true rfl) wf_X4_64 rfl (gO_of g6) dX4_reversedCount_19 ?_
      refine fw_if_eq C 29 dX4_reversedCount_22 (by decide) (fun c7 => ?_) (fun c7 => ?_)
      · replace h := (if_pos c7).symm.trans h
        refine fw_iconst C 0 dX4_reversedCount_29 rfl ?_
        refine fw_iadd C dX4_reversedCount_30 ?_
        refine fw_istore_n C [(1, _), (0, _), (2, _)] dX4_reversedCount_31 rfl (Nat.le_of_ble_eq_true rfl) rfl ?_
        refine fw_iinc C _ 2 [(2, _), (1, _), (0, _)] dX4_reversedCount_32 rfl rfl (Nat.le_of_ble_eq_true rfl) rfl ?_
        refine fw_goto C 4 dX4_reversedCount_35 (by decide) ?_
        refine fw_sub [2, 1, 0] rfl ?_
        exact ih h kx
      · replace h := (if_neg c7).symm.trans h
        refine fw_iconst C 1 dX4_reversedCount_25 rfl ?_
        refine fw_goto C 30 dX4_reversedCount_26 (by decide) ?_
        refine fw_iadd C dX4_reversedCount_30 ?_
        refine fw_istore_n C [(1, _), (0, _), (2, _)] dX4_reversedCount_31 rfl (Nat.le_of_ble_eq_true rfl) rfl ?_
        refine fw_iinc C _ 2 [(2, _), (1, _), (0, _)] dX4_reversedCount_32 rfl rfl (Nat.le_of_ble_eq_true rfl) rfl ?_
        refine fw_goto C 4 dX4_reversedCount_35 (by decide) ?_
        refine fw_sub [2, 1, 0] rfl ?_
        exact ih h kx
set_option maxRecDepth 100000 in
def f_X4_reversedCount (S : List fw_Sh) (M : fw_Mem) (a0 : Nat) : Option Int32 := b1 (lf_X4_reversedCount_4 S M a0 20000 0 0) (fun l8 => some l8)
set_option maxHeartbeats 4000000 in
set_option maxRecDepth 100000 in
theorem c_X4_reversedCount {l : Launch} {G : fw_G} {S : List fw_Sh} {M : fw_Mem} {a0 : Nat} {r : Int32} (hl : l.stackTraces = false) (h : f_X4_reversedCount S M a0 = some r) : fw_M l G yX4_reversedCount (.code yX4_reversedCount cX4_reversedCount 3 (some .int)) 1 (fw_mcO (.inl (some (.int r)), S, M)) (fw_msO (.inl (some (.int r)), S, M)) S M [.ref a0] (.inl (some (.int r)), S, M) := by
  refine fw_of [(0, .ref a0)] (by decide) (Nat.le_of_ble_eq_true rfl) rfl ?_
  intro p e s m args below meth c C hr hlk hnm ht _
  unfold f_X4_reversedCount at h
  refine fw_iconst C 0 dX4_reversedCount_0 rfl ?_
  refine fw_istore_n C [(1, _), (0, _)] dX4_reversedCount_1 rfl (Nat.le_of_ble_eq_true rfl) rfl ?_
  refine fw_iconst C 0 dX4_reversedCount_2 rfl ?_
  refine fw_istore_n C [(2, _), (1, _), (0, _)] dX4_reversedCount_3 rfl (Nat.le_of_ble_eq_true rfl) rfl ?_
  refine fw_sub [2, 1, 0] rfl ?_
  obtain ⟨l8, e8, h⟩ := b1_some h
  refine lc_X4_reversedCount_4 C hr hlk hl ht e8 ?_
  refine fw_iload_n C 0 dX4_reversedCount_38 rfl rfl ?_
  obtain rfl := Option.some.inj h
  exact fw_iret C hr hlk dX4_reversedCount_39
set_option maxRecDepth 100000 in
def f_X9_count (S : List fw_Sh) (M : fw_Mem) (a0 : Nat) (x1 : Int32) : Option (Int32 ⊕ String) := if x1 = 0 then (gd (gO S 9 a0) (gd (gN (M a0 1)) (gd (gO S 4 ((M a0 1).toNatClampNeg)) (some (.inl (M ((M a0 1).toNatClampNeg) 4)))))) else (if x1 = 1 then (gd (gO S 9 a0) (gd (gN (M a0 1)) (gd (gO S 4 ((M a0 1).toNatClampNeg)) (some (.inl (M ((M a0 1).toNatClampNeg) 5)))))) else (if x1 = 2 then (gd (gO S 9 a0) (gd (gN (M a0 1)) (gd (gO S 4 ((M a0 1).toNatClampNeg)) (some (.inl (M ((M a0 1).toNatClampNeg) 6)))))) else (if x1 = 3 then (gd (gO S 9 a0) (gd (gN (M a0 1)) (gd (gO S 4 ((M a0 1).toNatClampNeg)) (b1 (f_X4_judgedCount S M ((M a0 1).toNatClampNeg)) (fun v16 => some (.inl v16)))))) else (if x1 = 4 then (gd (gO S 9 a0) (gd (gN (M a0 1)) (gd (gO S 4 ((M a0 1).toNatClampNeg)) (b1 (f_X4_reversedCount S M ((M a0 1).toNatClampNeg)) (fun v21 => some (.inl v21)))))) else (if x1 = 5 then (gd (gO S 9 a0) (gd (gN (M a0 1)) (gd (gO S 4 ((M a0 1).toNatClampNeg)) (gd (gN (M ((M a0 1).toNatClampNeg) 3)) (gd (gA S 0 ((M ((M a0 1).toNatClampNeg) 3).toNatClampNeg) 0) (some (.inl (M ((M ((M a0 1).toNatClampNeg) 3).toNatClampNeg) 0)))))))) else (if x1 = 6 then (gd (gO S 9 a0) (gd (gN (M a0 1)) (gd (gO S 4 ((M a0 1).toNatClampNeg)) (gd (gN (M ((M a0 1).toNatClampNeg) 3)) (gd (gA S 0 ((M ((M a0 1).toNatClampNeg) 3).toNatClampNeg) 1) (some (.inl (M ((M ((M a0 1).toNatClampNeg) 3).toNatClampNeg) 1)))))))) else (if x1 = 7 then (gd (gO S 9 a0) (gd (gN (M a0 1)) (gd (gO S 4 ((M a0 1).toNatClampNeg)) (gd (gN (M ((M a0 1).toNatClampNeg) 3)) (gd (gA S 0 ((M ((M a0 1).toNatClampNeg) 3).toNatClampNeg) 2) (some (.inl (M ((M ((M a0 1).toNatClampNeg) 3).toNatClampNeg) 2)))))))) else (if x1 = 8 then (gd (gO S 9 a0) (gd (gN (M a0 7)) (gd (gO S 0 ((M a0 7).toNatClampNeg)) (some (.inl (M ((M a0 7).toNatClampNeg) 1)))))) else (if x1 = 9 then (gd (gO S 9 a0) (gd (gN (M a0 0)) (gd (gO S 7 ((M a0 0).toNatClampNeg)) (some (.inl (M ((M a0 0).toNatClampNeg) 1)))))) else (if x1 = 10 then (gd (gO S 9 a0) (gd (gN (M a0 5)) (gd (gO S 2 ((M a0 5).toNatClampNeg)) (b1 (f_X2_clashCount S M ((M a0 5).toNatClampNeg)) (fun v52 => some (.inl v52)))))) else (some (.inr exN))))))))))))
set_option maxHeartbeats 4000000 in
set_option maxRecDepth 100000 in
theorem c_X9_count {l : Launch} {G : fw_G} {S : List fw_Sh} {M : fw_Mem} {a0 : Nat} {x1 : Int32} {r : (Int32 ⊕ String)} (hl : l.stackTraces = false) (h : f_X9_count S M a0 x1 = some r) : fw_M l G yX9_count (.code yX9_count cX9_count 2 (some .int)) 6 (fw_mcO (fw_oI r, S, M)) (fw_msO (fw_oI r, S, M)) S M [.ref a0, .int x1] (fw_oI r, S, M) := by
  refine fw_of [(0, .ref a0), (1, .int x1)] (by decide) (Nat.le_of_ble_eq_true rfl) rfl ?_
  intro p e s m args below meth c C hr hlk hnm ht _
  unfold f_X9_count at h
  refine fw_iload_n C 1 dX9_count_0 rfl rfl ?_
  by_cases c1 : x1 = 0
  · replace h := (if_pos c1).symm.trans h
    refine fw_tableIn C 0 60 dX9_count_1 c1 (by decide) (by decide) rfl (by decide) ?_
    refine fw_aload_n C 0 dX9_count_60 rfl rfl ?_
    obtain ⟨g2, h⟩ := gd_some h
    obtain ⟨g3, h⟩ := gd_some h
    refine fw_getR C 9 1 (Nat.le_of_ble_eq_true rfl) (Nat.le_of_ble_eq_true rfl) wf_X9_21 rfl (gO_of g2) (gN_of g3) dX9_count_61 ?_
    obtain ⟨g4, h⟩ := gd_some h
    refine fw_getI C 4 4 (Nat.le_of_ble_eq_true rfl) (Nat.le_of_ble_eq_true rfl) wf_X9_114 rfl (gO_of g4) dX9_count_64 ?_
    obtain rfl := Option.some.inj h
    exact fw_iret C hr hlk dX9_count_67
  replace h := (if_neg c1).symm.trans h
  by_cases c5 : x1 = 1
  · replace h := (if_pos c5).symm.trans h
    refine fw_tableIn C 1 68 dX9_count_1 c5 (by decide) (by decide) rfl (by decide) ?_
    refine fw_aload_n C 0 dX9_count_68 rfl rfl ?_
    obtain ⟨g6, h⟩ := gd_some h
    obtain ⟨g7, h⟩ := gd_some h
    refine fw_getR C 9 1 (Nat.le_of_ble_eq_true rfl) (Nat.le_of_ble_eq_true rfl) wf_X9_21 rfl (gO_of g6) (gN_of g7) dX9_count_69 ?_
    obtain ⟨g8, h⟩ := gd_some h
    refine fw_getI C 4 5 (Nat.le_of_ble_eq_true rfl) (Nat.le_of_ble_eq_true rfl) wf_X9_117 rfl (gO_of g8) dX9_count_72 ?_
    obtain rfl := Option.some.inj h
    exact fw_iret C hr hlk dX9_count_75
  replace h := (if_neg c5).symm.trans h
  by_cases c9 : x1 = 2
  · replace h := (if_pos c9).symm.trans h
    refine fw_tableIn C 2 76 dX9_count_1 c9 (by decide) (by decide) rfl (by decide) ?_
    refine fw_aload_n C 0 dX9_count_76 rfl rfl ?_
    obtain ⟨g10, h⟩ := gd_some h
    obtain ⟨g11, h⟩ := gd_some h
    refine fw_getR C 9 1 (Nat.le_of_ble_eq_true rfl) (Nat.le_of_ble_eq_true rfl) wf_X9_21 rfl (gO_of g10) (gN_of g11) dX9_count_77 ?_
    obtain ⟨g12, h⟩ := gd_some h
    refine fw_getI C 4 6 (Nat.le_of_ble_eq_true rfl) (Nat.le_of_ble_eq_true rfl) wf_X9_108 rfl (gO_of g12) dX9_count_80 ?_
    obtain rfl := Option.some.inj h
    exact fw_iret C hr hlk dX9_count_83
  replace h := (if_neg c9).symm.trans h
  by_cases c13 : x1 = 3
  · replace h := (if_pos c13).symm.trans h
    refine fw_tableIn C 3 84 dX9_count_1 c13 (by decide) (by decide) rfl (by decide) ?_
    refine fw_aload_n C 0 dX9_count_84 rfl rfl ?_
    obtain ⟨g14, h⟩ := gd_some h
    obtain ⟨g15, h⟩ := gd_some h
    refine fw_getR C 9 1 (Nat.le_of_ble_eq_true rfl) (Nat.le_of_ble_eq_true rfl) wf_X9_21 rfl (gO_of g14) (gN_of g15) dX9_count_85 ?_
    obtain ⟨g17, h⟩ := gd_some h
    obtain ⟨v16, e16, h⟩ := b1_some h
    refine fw_callV (ci := 4) [] C (c_X4_judgedCount hl e16) cal_X4_judgedCount wm_X9_120 wi_yX4_judgedCount wsl_yX4_judgedCount (Nat.le_of_ble_eq_true rfl) rfl (gO_of g17) rfl (Nat.le_of_ble_eq_true rfl) ⟨Nat.le_of_ble_eq_true rfl, Nat.le_of_ble_eq_true rfl⟩ ⟨Nat.zero_le _, Nat.zero_le _⟩ dX9_count_88 ?_
    obtain rfl := Option.some.inj h
    exact fw_iret C hr hlk dX9_count_91
  replace h := (if_neg c13).symm.trans h
  by_cases c18 : x1 = 4
  · replace h := (if_pos c18).symm.trans h
    refine fw_tableIn C 4 92 dX9_count_1 c18 (by decide) (by decide) rfl (by decide) ?_
    refine fw_aload_n C 0 dX9_count_92 rfl rfl ?_
    obtain ⟨g19, h⟩ := gd_some h
    obtain ⟨g20, h⟩ := gd_some h
    refine fw_getR C 9 1 (Nat.le_of_ble_eq_true rfl) (Nat.le_of_ble_eq_true rfl) wf_X9_21 rfl (gO_of g19) (gN_of g20) dX9_count_93 ?_
    obtain ⟨g22, h⟩ := gd_some h
    obtain ⟨v21, e21, h⟩ := b1_some h
    refine fw_callV (ci := 4) [] C (c_X4_reversedCount hl e21) cal_X4_reversedCount wm_X9_124 wi_yX4_reversedCount wsl_yX4_reversedCount (Nat.le_of_ble_eq_true rfl) rfl (gO_of g22) rfl (Nat.le_of_ble_eq_true rfl) ⟨Nat.le_of_ble_eq_true rfl, Nat.le_of_ble_eq_true rfl⟩ ⟨Nat.zero_le _, Nat.zero_le _⟩ dX9_count_96 ?_
    obtain rfl := Option.some.inj h
    exact fw_iret C hr hlk dX9_count_99
  replace h := (if_neg c18).symm.trans h
  by_cases c23 : x1 = 5
  · replace h := (if_pos c23).symm.trans h
    refine fw_tableIn C 5 100 dX9_count_1 c23 (by decide) (by decide) rfl (by decide) ?_
    refine fw_aload_n C 0 dX9_count_100 rfl rfl ?_
    obtain ⟨g24, h⟩ := gd_some h
    obtain ⟨g25, h⟩ := gd_some h
    refine fw_getR C 9 1 (Nat.le_of_ble_eq_true rfl) (Nat.le_of_ble_eq_true rfl) wf_X9_21 rfl (gO_of g24) (gN_of g25) dX9_count_101 ?_
    obtain ⟨g26, h⟩ := gd_some h
    obtain ⟨g27, h⟩ := gd_some h
    refine fw_getR C 4 3 (Nat.le_of_ble_eq_true rfl) (Nat.le_of_ble_eq_true rfl) wf_X9_127 rfl (gO_of g26) (gN_of g27) dX9_count_104 ?_
    refine fw_iconst C 0 dX9_count_107 rfl ?_
    obtain ⟨g28, h⟩ := gd_some h
    refine fw_iald C (gA_of g28) dX9_count_108 ?_
    obtain rfl := Option.some.inj h
    exact fw_iret C hr hlk dX9_count_109
  replace h := (if_neg c23).symm.trans h
  by_cases c29 : x1 = 6
  · replace h := (if_pos c29).symm.trans h
    refine fw_tableIn C 6 110 dX9_count_1 c29 (by decide) (by decide) rfl (by decide) ?_
    refine fw_aload_n C 0 dX9_count_110 rfl rfl ?_
    obtain ⟨g30, h⟩ := gd_some h
    obtain ⟨g31, h⟩ := gd_some h
    refine fw_getR C 9 1 (Nat.le_of_ble_eq_true rfl) (Nat.le_of_ble_eq_true rfl) wf_X9_21 rfl (gO_of g30) (gN_of g31) dX9_count_111 ?_
    obtain ⟨g32, h⟩ := gd_some h
    obtain ⟨g33, h⟩ := gd_some h
    refine fw_getR C 4 3 (Nat.le_of_ble_eq_true rfl) (Nat.le_of_ble_eq_true rfl) wf_X9_127 rfl (gO_of g32) (gN_of g33) dX9_count_114 ?_
    refine fw_iconst C 1 dX9_count_117 rfl ?_
    obtain ⟨g34, h⟩ := gd_some h
    refine fw_iald C (gA_of g34) dX9_count_118 ?_
    obtain rfl := Option.some.inj h
    exact fw_iret C hr hlk dX9_count_119
  replace h := (if_neg c29).symm.trans h
  by_cases c35 : x1 = 7
  · replace h := (if_pos c35).symm.trans h
    refine fw_tableIn C 7 120 dX9_count_1 c35 (by decide) (by decide) rfl (by decide) ?_
    refine fw_aload_n C 0 dX9_count_120 rfl rfl ?_
    obtain ⟨g36, h⟩ := gd_some h
    obtain ⟨g37, h⟩ := gd_some h
    refine fw_getR C 9 1 (Nat.le_of_ble_eq_true rfl) (Nat.le_of_ble_eq_true rfl) wf_X9_21 rfl (gO_of g36) (gN_of g37) dX9_count_121 ?_
    obtain ⟨g38, h⟩ := gd_some h
    obtain ⟨g39, h⟩ := gd_some h
    refine fw_getR C 4 3 (Nat.le_of_ble_eq_true rfl) (Nat.le_of_ble_eq_true rfl) wf_X9_127 rfl (gO_of g38) (gN_of g39) dX9_count_124 ?_
    refine fw_iconst C 2 dX9_count_127 rfl ?_
    obtain ⟨g40, h⟩ := gd_some h
    refine fw_iald C (gA_of g40) dX9_count_128 ?_
    obtain rfl := Option.some.inj h
    exact fw_iret C hr hlk dX9_count_129
  replace h := (if_neg c35).symm.trans h
  by_cases c41 : x1 = 8
  · replace h := (if_pos c41).symm.trans h
    refine fw_tableIn C 8 130 dX9_count_1 c41 (by decide) (by decide) rfl (by decide) ?_
    refine fw_aload_n C 0 dX9_count_130 rfl rfl ?_
    obtain ⟨g42, h⟩ := gd_some h
    obtain ⟨g43, h⟩ := gd_some h
    refine fw_getR C 9 7 (Nat.le_of_ble_eq_true rfl) (Nat.le_of_ble_eq_true rfl) wf_X9_61 rfl (gO_of g42) (gN_of g43) dX9_count_131 ?_
    obtain ⟨g44, h⟩ := gd_some h
    refine fw_getI C 0 1 (Nat.le_of_ble_eq_true rfl) (Nat.le_of_ble_eq_true rfl) wf_X9_131 rfl (gO_of g44) dX9_count_134 ?_
    obtain rfl := Option.some.inj h
    exact fw_iret C hr hlk dX9_count_137
  replace h := (if_neg c41).symm.trans h
  by_cases c45 : x1 = 9
  · replace h := (if_pos c45).symm.trans h
    refine fw_tableIn C 9 138 dX9_count_1 c45 (by decide) (by decide) rfl (by decide) ?_
    refine fw_aload_n C 0 dX9_count_138 rfl rfl ?_
    obtain ⟨g46, h⟩ := gd_some h
    obtain ⟨g47, h⟩ := gd_some h
    refine fw_getR C 9 0 (Nat.le_of_ble_eq_true rfl) (Nat.le_of_ble_eq_true rfl) wf_X9_12 rfl (gO_of g46) (gN_of g47) dX9_count_139 ?_
    obtain ⟨g48, h⟩ := gd_some h
    refine fw_getI C 7 1 (Nat.le_of_ble_eq_true rfl) (Nat.le_of_ble_eq_true rfl) wf_X9_85 rfl (gO_of g48) dX9_count_142 ?_
    obtain rfl := Option.some.inj h
    exact fw_iret C hr hlk dX9_count_145
  replace h := (if_neg c45).symm.trans h
  by_cases c49 : x1 = 10
  · replace h := (if_pos c49).symm.trans h
    refine fw_tableIn C 10 146 dX9_count_1 c49 (by decide) (by decide) rfl (by decide) ?_
    refine fw_aload_n C 0 dX9_count_146 rfl rfl ?_
    obtain ⟨g50, h⟩ := gd_some h
    obtain ⟨g51, h⟩ := gd_some h
    refine fw_getR C 9 5 (Nat.le_of_ble_eq_true rfl) (Nat.le_of_ble_eq_true rfl) wf_X9_45 rfl (gO_of g50) (gN_of g51) dX9_count_147 ?_
    obtain ⟨g53, h⟩ := gd_some h
    obtain ⟨v52, e52, h⟩ := b1_some h
    refine fw_callV (ci := 2) [] C (c_X2_clashCount hl e52) cal_X2_clashCount wm_X9_134 wi_yX2_clashCount wsl_yX2_clashCount (Nat.le_of_ble_eq_true rfl) rfl (gO_of g53) rfl (Nat.le_of_ble_eq_true rfl) ⟨Nat.le_of_ble_eq_true rfl, Nat.le_of_ble_eq_true rfl⟩ ⟨Nat.zero_le _, Nat.zero_le _⟩ dX9_count_150 ?_
    obtain rfl := Option.some.inj h
    exact fw_iret C hr hlk dX9_count_153
  replace h := (if_neg c49).symm.trans h
  have qc1 := lv_neT c1 (a := 0) rfl
  have qc5 := lv_neT c5 (a := 1) rfl
  have qc9 := lv_neT c9 (a := 2) rfl
  have qc13 := lv_neT c13 (a := 3) rfl
  have qc18 := lv_neT c18 (a := 4) rfl
  have qc23 := lv_neT c23 (a := 5) rfl
  have qc29 := lv_neT c29 (a := 6) rfl
  have qc35 := lv_neT c35 (a := 7) rfl
  have qc41 := lv_neT c41 (a := 8) rfl
  have qc45 := lv_neT c45 (a := 9) rfl
  have qc49 := lv_neT c49 (a := 10) rfl
  refine fw_tableOut C 154 dX9_count_1 (by omega) (by decide) ?_
  obtain rfl := Option.some.inj h
  exact fw_throwS C hl fw_exN (i := 35) (List.mem_of_getElem? (i := 19) rfl) dX9_count_154 dX9_count_157 dX9_count_158 dX9_count_160 dX9_count_163 ht hlk (Nat.le_of_ble_eq_true rfl) (Nat.le_of_ble_eq_true rfl) (Nat.le_refl _) (Nat.le_refl _)
set_option maxRecDepth 100000 in
def f_X9_needPerson (S : List fw_Sh) (M : fw_Mem) (a0 : Nat) (x1 : Int32) : Option (Unit ⊕ String) := if x1 < 0 then (some (.inr exN)) else (gd (gO S 9 a0) (gd (gN (M a0 1)) (gd (gO S 4 ((M a0 1).toNatClampNeg)) (if x1 < (M ((M a0 1).toNatClampNeg) 4) then (some (.inl ())) else (some (.inr exN))))))
set_option maxHeartbeats 4000000 in
set_option maxRecDepth 100000 in
theorem c_X9_needPerson {l : Launch} {G : fw_G} {S : List fw_Sh} {M : fw_Mem} {a0 : Nat} {x1 : Int32} {r : (Unit ⊕ String)} (hl : l.stackTraces = false) (h : f_X9_needPerson S M a0 x1 = some r) : fw_M l G yX9_needPerson (.code yX9_needPerson cX9_needPerson 2 none) 6 (fw_mcO (fw_oV r, S, M)) (fw_msO (fw_oV r, S, M)) S M [.ref a0, .int x1] (fw_oV r, S, M) := by
  refine fw_of [(0, .ref a0), (1, .int x1)] (by decide) (Nat.le_of_ble_eq_true rfl) rfl ?_
  intro p e s m args below meth c C hr hlk hnm ht _
  unfold f_X9_needPerson at h
  refine fw_iload_n C 1 dX9_needPerson_0 rfl rfl ?_
  refine fw_if_lt C 15 dX9_needPerson_1 (by decide) (fun c1 => ?_) (fun c1 => ?_)
  · replace h := (if_pos c1).symm.trans h
    obtain rfl := Option.some.inj h
    exact fw_throwW C hl fw_exN (i := 42) (List.mem_of_getElem? (i := 20) rfl) dX9_needPerson_15 dX9_needPerson_18 dX9_needPerson_19 dX9_needPerson_22 dX9_needPerson_25 ht hlk (Nat.le_of_ble_eq_true rfl) (Nat.le_of_ble_eq_true rfl) (Nat.le_refl _) (Nat.le_refl _)
  · replace h := (if_neg c1).symm.trans h
    refine fw_iload_n C 1 dX9_needPerson_4 rfl rfl ?_
    refine fw_aload_n C 0 dX9_needPerson_5 rfl rfl ?_
    obtain ⟨g2, h⟩ := gd_some h
    obtain ⟨g3, h⟩ := gd_some h
    refine fw_getR C 9 1 (Nat.le_of_ble_eq_true rfl) (Nat.le_of_ble_eq_true rfl) wf_X9_21 rfl (gO_of g2) (gN_of g3) dX9_needPerson_6 ?_
    obtain ⟨g4, h⟩ := gd_some h
    refine fw_getI C 4 4 (Nat.le_of_ble_eq_true rfl) (Nat.le_of_ble_eq_true rfl) wf_X9_114 rfl (gO_of g4) dX9_needPerson_9 ?_
    refine fw_icmp_lt C 26 dX9_needPerson_12 (by decide) (fun c5 => ?_) (fun c5 => ?_)
    · replace h := (if_pos c5).symm.trans h
      obtain rfl := Option.some.inj h
      exact fw_vret C hr hlk dX9_needPerson_26
    · replace h := (if_neg c5).symm.trans h
      obtain rfl := Option.some.inj h
      exact fw_throwW C hl fw_exN (i := 42) (List.mem_of_getElem? (i := 20) rfl) dX9_needPerson_15 dX9_needPerson_18 dX9_needPerson_19 dX9_needPerson_22 dX9_needPerson_25 ht hlk (Nat.le_of_ble_eq_true rfl) (Nat.le_of_ble_eq_true rfl) (Nat.le_refl _) (Nat.le_refl _)
set_option maxRecDepth 100000 in
def f_X9_letter (S : List fw_Sh) (M : fw_Mem) (a0 : Nat) (x1 : Int32) (x2 : Int32) : Option (Int32 ⊕ String) := gd (gO S 9 a0) (b1 (f_X9_needPerson S M a0 x1) (fun v1 => bx v1 (fun _ => if x2 < 0 then (some (.inr exN)) else (if x2 < 6 then (gd (gN (M a0 1)) (gd (gO S 4 ((M a0 1).toNatClampNeg)) (gd (gN (M ((M a0 1).toNatClampNeg) 0)) (gd (gA S 0 ((M ((M a0 1).toNatClampNeg) 0).toNatClampNeg) ((x1 * 6) + x2)) (some (.inl (M ((M ((M a0 1).toNatClampNeg) 0).toNatClampNeg) ((x1 * 6) + x2).toNatClampNeg))))))) else (some (.inr exN)))) (fun E1 => some (.inr E1))))
set_option maxHeartbeats 4000000 in
set_option maxRecDepth 100000 in
theorem c_X9_letter {l : Launch} {G : fw_G} {S : List fw_Sh} {M : fw_Mem} {a0 : Nat} {x1 : Int32} {x2 : Int32} {r : (Int32 ⊕ String)} (hl : l.stackTraces = false) (h : f_X9_letter S M a0 x1 x2 = some r) : fw_M l G yX9_letter (.code yX9_letter cX9_letter 3 (some .int)) 7 (fw_mcO (fw_oI r, S, M)) (fw_msO (fw_oI r, S, M)) S M [.ref a0, .int x1, .int x2] (fw_oI r, S, M) := by
  refine fw_of [(0, .ref a0), (1, .int x1), (2, .int x2)] (by decide) (Nat.le_of_ble_eq_true rfl) rfl ?_
  intro p e s m args below meth c C hr hlk hnm ht _
  unfold f_X9_letter at h
  refine fw_aload_n C 0 dX9_letter_0 rfl rfl ?_
  refine fw_iload_n C 1 dX9_letter_1 rfl rfl ?_
  obtain ⟨g2, h⟩ := gd_some h
  obtain ⟨v1, e1, h⟩ := b1_some h
  rcases v1 with u1 | E1
  rotate_left
  · replace h := bx_r h
    obtain rfl := Option.some.inj h
    exact fw_callVX (ci := 9) [_] C (c_X9_needPerson hl e1) cal_X9_needPerson wm_X9_142 wi_yX9_needPerson wsl_yX9_needPerson (Nat.le_of_ble_eq_true rfl) rfl (gO_of g2) rfl (Nat.le_of_ble_eq_true rfl) ⟨Nat.le_of_ble_eq_true rfl, Nat.le_of_ble_eq_true rfl⟩ ⟨Nat.le_refl _, Nat.le_refl _⟩ dX9_letter_2 ht hlk
  replace h := bx_l h
  refine fw_callV (ci := 9) [_] C (c_X9_needPerson hl e1) cal_X9_needPerson wm_X9_142 wi_yX9_needPerson wsl_yX9_needPerson (Nat.le_of_ble_eq_true rfl) rfl (gO_of g2) rfl (Nat.le_of_ble_eq_true rfl) ⟨Nat.le_of_ble_eq_true rfl, Nat.le_of_ble_eq_true rfl⟩ ⟨Nat.zero_le _, Nat.zero_le _⟩ dX9_letter_2 ?_
  refine fw_iload_n C 2 dX9_letter_5 rfl rfl ?_
  refine fw_if_lt C 15 dX9_letter_6 (by decide) (fun c3 => ?_) (fun c3 => ?_)
  · replace h := (if_pos c3).symm.trans h
    obtain rfl := Option.some.inj h
    exact fw_throwS C hl fw_exN (i := 39) (List.mem_of_getElem? (i := 21) rfl) dX9_letter_15 dX9_letter_18 dX9_letter_19 dX9_letter_21 dX9_letter_24 ht hlk (Nat.le_of_ble_eq_true rfl) (Nat.le_of_ble_eq_true rfl) (Nat.le_refl _) (Nat.le_refl _)
  · replace h := (if_neg c3).symm.trans h
    refine fw_iload_n C 2 dX9_letter_9 rfl rfl ?_
    refine fw_bipush C 6 dX9_letter_10 rfl ?_
    refine fw_icmp_lt C 25 dX9_letter_12 (by decide) (fun c4 => ?_) (fun c4 => ?_)
    · replace h := (if_pos c4).symm.trans h
      refine fw_aload_n C 0 dX9_letter_25 rfl rfl ?_
      obtain ⟨g5, h⟩ := gd_some h
      refine fw_getR C 9 1 (Nat.le_of_ble_eq_true rfl) (Nat.le_of_ble_eq_true rfl) wf_X9_21 rfl (gO_of g2) (gN_of g5) dX9_letter_26 ?_
      obtain ⟨g6, h⟩ := gd_some h
      obtain ⟨g7, h⟩ := gd_some h
      refine fw_getR C 4 0 (Nat.le_of_ble_eq_true rfl) (Nat.le_of_ble_eq_true rfl) wf_X9_147 rfl (gO_of g6) (gN_of g7) dX9_letter_29 ?_
      refine fw_iload_n C 1 dX9_letter_32 rfl rfl ?_
      refine fw_bipush C 6 dX9_letter_33 rfl ?_
      refine fw_imul C dX9_letter_35 ?_
      refine fw_iload_n C 2 dX9_letter_36 rfl rfl ?_
      refine fw_iadd C dX9_letter_37 ?_
      obtain ⟨g8, h⟩ := gd_some h
      refine fw_iald C (gA_of g8) dX9_letter_38 ?_
      obtain rfl := Option.some.inj h
      exact fw_iret C hr hlk dX9_letter_39
    · replace h := (if_neg c4).symm.trans h
      obtain rfl := Option.some.inj h
      exact fw_throwS C hl fw_exN (i := 39) (List.mem_of_getElem? (i := 21) rfl) dX9_letter_15 dX9_letter_18 dX9_letter_19 dX9_letter_21 dX9_letter_24 ht hlk (Nat.le_of_ble_eq_true rfl) (Nat.le_of_ble_eq_true rfl) (Nat.le_refl _) (Nat.le_refl _)
set_option maxRecDepth 100000 in
def f_X9_needLink (S : List fw_Sh) (M : fw_Mem) (a0 : Nat) (x1 : Int32) : Option (Unit ⊕ String) := if x1 < 0 then (some (.inr exN)) else (gd (gO S 9 a0) (gd (gN (M a0 1)) (gd (gO S 4 ((M a0 1).toNatClampNeg)) (if x1 < (M ((M a0 1).toNatClampNeg) 5) then (some (.inl ())) else (some (.inr exN))))))
set_option maxHeartbeats 4000000 in
set_option maxRecDepth 100000 in
theorem c_X9_needLink {l : Launch} {G : fw_G} {S : List fw_Sh} {M : fw_Mem} {a0 : Nat} {x1 : Int32} {r : (Unit ⊕ String)} (hl : l.stackTraces = false) (h : f_X9_needLink S M a0 x1 = some r) : fw_M l G yX9_needLink (.code yX9_needLink cX9_needLink 2 none) 6 (fw_mcO (fw_oV r, S, M)) (fw_msO (fw_oV r, S, M)) S M [.ref a0, .int x1] (fw_oV r, S, M) := by
  refine fw_of [(0, .ref a0), (1, .int x1)] (by decide) (Nat.le_of_ble_eq_true rfl) rfl ?_
  intro p e s m args below meth c C hr hlk hnm ht _
  unfold f_X9_needLink at h
  refine fw_iload_n C 1 dX9_needLink_0 rfl rfl ?_
  refine fw_if_lt C 15 dX9_needLink_1 (by decide) (fun c1 => ?_) (fun c1 => ?_)
  · replace h := (if_pos c1).symm.trans h
    obtain rfl := Option.some.inj h
    exact fw_throwW C hl fw_exN (i := 40) (List.mem_of_getElem? (i := 22) rfl) dX9_needLink_15 dX9_needLink_18 dX9_needLink_19 dX9_needLink_22 dX9_needLink_25 ht hlk (Nat.le_of_ble_eq_true rfl) (Nat.le_of_ble_eq_true rfl) (Nat.le_refl _) (Nat.le_refl _)
  · replace h := (if_neg c1).symm.trans h
    refine fw_iload_n C 1 dX9_needLink_4 rfl rfl ?_
    refine fw_aload_n C 0 dX9_needLink_5 rfl rfl ?_
    obtain ⟨g2, h⟩ := gd_some h
    obtain ⟨g3, h⟩ := gd_some h
    refine fw_getR C 9 1 (Nat.le_of_ble_eq_true rfl) (Nat.le_of_ble_eq_true rfl) wf_X9_21 rfl (gO_of g2) (gN_of g3) dX9_needLink_6 ?_
    obtain ⟨g4, h⟩ := gd_some h
    refine fw_getI C 4 5 (Nat.le_of_ble_eq_true rfl) (Nat.le_of_ble_eq_true rfl) wf_X9_117 rfl (gO_of g4) dX9_needLink_9 ?_
    refine fw_icmp_lt C 26 dX9_needLink_12 (by decide) (fun c5 => ?_) (fun c5 => ?_)
    · replace h := (if_pos c5).symm.trans h
      obtain rfl := Option.some.inj h
      exact fw_vret C hr hlk dX9_needLink_26
    · replace h := (if_neg c5).symm.trans h
      obtain rfl := Option.some.inj h
      exact fw_throwW C hl fw_exN (i := 40) (List.mem_of_getElem? (i := 22) rfl) dX9_needLink_15 dX9_needLink_18 dX9_needLink_19 dX9_needLink_22 dX9_needLink_25 ht hlk (Nat.le_of_ble_eq_true rfl) (Nat.le_of_ble_eq_true rfl) (Nat.le_refl _) (Nat.le_refl _)
set_option maxRecDepth 100000 in
def f_X9_link (S : List fw_Sh) (M : fw_Mem) (a0 : Nat) (x1 : Int32) (x2 : Int32) : Option (Int32 ⊕ String) := gd (gO S 9 a0) (b1 (f_X9_needLink S M a0 x1) (fun v1 => bx v1 (fun _ => gd (gN (M a0 1)) (gd (gO S 4 ((M a0 1).toNatClampNeg)) (gd (gN (M ((M a0 1).toNatClampNeg) 1)) (gd (gA S 3 ((M ((M a0 1).toNatClampNeg) 1).toNatClampNeg) x1) (gd (gN (M ((M ((M a0 1).toNatClampNeg) 1).toNatClampNeg) x1.toNatClampNeg)) (if x2 = 0 then (gd (gO S 3 ((M ((M ((M a0 1).toNatClampNeg) 1).toNatClampNeg) x1.toNatClampNeg).toNatClampNeg)) (some (.inl (M ((M ((M ((M a0 1).toNatClampNeg) 1).toNatClampNeg) x1.toNatClampNeg).toNatClampNeg) 0)))) else (if x2 = 1 then (gd (gO S 3 ((M ((M ((M a0 1).toNatClampNeg) 1).toNatClampNeg) x1.toNatClampNeg).toNatClampNeg)) (some (.inl (M ((M ((M ((M a0 1).toNatClampNeg) 1).toNatClampNeg) x1.toNatClampNeg).toNatClampNeg) 1)))) else (if x2 = 2 then (gd (gO S 3 ((M ((M ((M a0 1).toNatClampNeg) 1).toNatClampNeg) x1.toNatClampNeg).toNatClampNeg)) (b1 (f_X3_isRuler S M ((M ((M ((M a0 1).toNatClampNeg) 1).toNatClampNeg) x1.toNatClampNeg).toNatClampNeg)) (fun v13 => if v13 = 0 then (some (.inl 0)) else (some (.inl 1))))) else (if x2 = 3 then (gd (gO S 3 ((M ((M ((M a0 1).toNatClampNeg) 1).toNatClampNeg) x1.toNatClampNeg).toNatClampNeg)) (some (.inl (M ((M ((M ((M a0 1).toNatClampNeg) 1).toNatClampNeg) x1.toNatClampNeg).toNatClampNeg) 2)))) else (if x2 = 4 then (gd (gO S 3 ((M ((M ((M a0 1).toNatClampNeg) 1).toNatClampNeg) x1.toNatClampNeg).toNatClampNeg)) (b1 (f_X3_isRuler S M ((M ((M ((M a0 1).toNatClampNeg) 1).toNatClampNeg) x1.toNatClampNeg).toNatClampNeg)) (fun v19 => if v19 = 0 then (some (.inl 9999)) else (some (.inl (M ((M ((M ((M a0 1).toNatClampNeg) 1).toNatClampNeg) x1.toNatClampNeg).toNatClampNeg) 3)))))) else (some (.inr exN)))))))))))) (fun E1 => some (.inr E1))))
set_option maxHeartbeats 4000000 in
set_option maxRecDepth 100000 in
theorem c_X9_link {l : Launch} {G : fw_G} {S : List fw_Sh} {M : fw_Mem} {a0 : Nat} {x1 : Int32} {x2 : Int32} {r : (Int32 ⊕ String)} (hl : l.stackTraces = false) (h : f_X9_link S M a0 x1 x2 = some r) : fw_M l G yX9_link (.code yX9_link cX9_link 4 (some .int)) 7 (fw_mcO (fw_oI r, S, M)) (fw_msO (fw_oI r, S, M)) S M [.ref a0, .int x1, .int x2] (fw_oI r, S, M) := by
  refine fw_of [(0, .ref a0), (1, .int x1), (2, .int x2)] (by decide) (Nat.le_of_ble_eq_true rfl) rfl ?_
  intro p e s m args below meth c C hr hlk hnm ht _
  unfold f_X9_link at h
  refine fw_aload_n C 0 dX9_link_0 rfl rfl ?_
  refine fw_iload_n C 1 dX9_link_1 rfl rfl ?_
  obtain ⟨g2, h⟩ := gd_some h
  obtain ⟨v1, e1, h⟩ := b1_some h
  rcases v1 with u1 | E1
  rotate_left
  · replace h := bx_r h
    obtain rfl := Option.some.inj h
    exact fw_callVX (ci := 9) [_] C (c_X9_needLink hl e1) cal_X9_needLink wm_X9_150 wi_yX9_needLink wsl_yX9_needLink (Nat.le_of_ble_eq_true rfl) rfl (gO_of g2) rfl (Nat.le_of_ble_eq_true rfl) ⟨Nat.le_of_ble_eq_true rfl, Nat.le_of_ble_eq_true rfl⟩ ⟨Nat.le_refl _, Nat.le_refl _⟩ dX9_link_2 ht hlk
  replace h := bx_l h
  refine fw_callV (ci := 9) [_] C (c_X9_needLink hl e1) cal_X9_needLink wm_X9_150 wi_yX9_needLink wsl_yX9_needLink (Nat.le_of_ble_eq_true rfl) rfl (gO_of g2) rfl (Nat.le_of_ble_eq_true rfl) ⟨Nat.le_of_ble_eq_true rfl, Nat.le_of_ble_eq_true rfl⟩ ⟨Nat.zero_le _, Nat.zero_le _⟩ dX9_link_2 ?_
  refine fw_aload_n C 0 dX9_link_5 rfl rfl ?_
  obtain ⟨g3, h⟩ := gd_some h
  refine fw_getR C 9 1 (Nat.le_of_ble_eq_true rfl) (Nat.le_of_ble_eq_true rfl) wf_X9_21 rfl (gO_of g2) (gN_of g3) dX9_link_6 ?_
  obtain ⟨g4, h⟩ := gd_some h
  obtain ⟨g5, h⟩ := gd_some h
  refine fw_getR C 4 1 (Nat.le_of_ble_eq_true rfl) (Nat.le_of_ble_eq_true rfl) wf_X9_153 rfl (gO_of g4) (gN_of g5) dX9_link_9 ?_
  refine fw_iload_n C 1 dX9_link_12 rfl rfl ?_
  obtain ⟨g6, h⟩ := gd_some h
  obtain ⟨g7, h⟩ := gd_some h
  refine fw_aald C 3 (by decide) (gA_of g6) (gN_of g7) dX9_link_13 ?_
  refine fw_astore_n C [(3, _), (0, _), (1, _), (2, _)] dX9_link_14 rfl (Nat.le_of_ble_eq_true rfl) rfl ?_
  refine fw_iload_n C 3 dX9_link_15 rfl rfl ?_
  by_cases c8 : x2 = 0
  · replace h := (if_pos c8).symm.trans h
    refine fw_tableIn C 0 52 dX9_link_16 c8 (by decide) (by decide) rfl (by decide) ?_
    refine fw_aload_n C 0 dX9_link_52 rfl rfl ?_
    obtain ⟨g9, h⟩ := gd_some h
    refine fw_getI C 3 0 (Nat.le_of_ble_eq_true rfl) (Nat.le_of_ble_eq_true rfl) wf_X9_157 rfl (gO_of g9) dX9_link_53 ?_
    obtain rfl := Option.some.inj h
    exact fw_iret C hr hlk dX9_link_56
  replace h := (if_neg c8).symm.trans h
  by_cases c10 : x2 = 1
  · replace h := (if_pos c10).symm.trans h
    refine fw_tableIn C 1 57 dX9_link_16 c10 (by decide) (by decide) rfl (by decide) ?_
    refine fw_aload_n C 0 dX9_link_57 rfl rfl ?_
    obtain ⟨g11, h⟩ := gd_some h
    refine fw_getI C 3 1 (Nat.le_of_ble_eq_true rfl) (Nat.le_of_ble_eq_true rfl) wf_X9_162 rfl (gO_of g11) dX9_link_58 ?_
    obtain rfl := Option.some.inj h
    exact fw_iret C hr hlk dX9_link_61
  replace h := (if_neg c10).symm.trans h
  by_cases c12 : x2 = 2
  · replace h := (if_pos c12).symm.trans h
    refine fw_tableIn C 2 62 dX9_link_16 c12 (by decide) (by decide) rfl (by decide) ?_
    refine fw_aload_n C 0 dX9_link_62 rfl rfl ?_
    obtain ⟨g14, h⟩ := gd_some h
    obtain ⟨v13, e13, h⟩ := b1_some h
    refine fw_callV (ci := 3) [] C (c_X3_isRuler hl e13) cal_X3_isRuler wm_X9_165 wi_yX3_isRuler wsl_yX3_isRuler (Nat.le_of_ble_eq_true rfl) rfl (gO_of g14) rfl (Nat.le_of_ble_eq_true rfl) ⟨Nat.le_of_ble_eq_true rfl, Nat.le_of_ble_eq_true rfl⟩ ⟨Nat.zero_le _, Nat.zero_le _⟩ dX9_link_63 ?_
    refine fw_if_eq C 73 dX9_link_66 (by decide) (fun c15 => ?_) (fun c15 => ?_)
    · replace h := (if_pos c15).symm.trans h
      refine fw_iconst C 0 dX9_link_73 rfl ?_
      obtain rfl := Option.some.inj h
      exact fw_iret C hr hlk dX9_link_74
    · replace h := (if_neg c15).symm.trans h
      refine fw_iconst C 1 dX9_link_69 rfl ?_
      refine fw_goto C 74 dX9_link_70 (by decide) ?_
      obtain rfl := Option.some.inj h
      exact fw_iret C hr hlk dX9_link_74
  replace h := (if_neg c12).symm.trans h
  by_cases c16 : x2 = 3
  · replace h := (if_pos c16).symm.trans h
    refine fw_tableIn C 3 75 dX9_link_16 c16 (by decide) (by decide) rfl (by decide) ?_
    refine fw_aload_n C 0 dX9_link_75 rfl rfl ?_
    obtain ⟨g17, h⟩ := gd_some h
    refine fw_getI C 3 2 (Nat.le_of_ble_eq_true rfl) (Nat.le_of_ble_eq_true rfl) wf_X9_169 rfl (gO_of g17) dX9_link_76 ?_
    obtain rfl := Option.some.inj h
    exact fw_iret C hr hlk dX9_link_79
  replace h := (if_neg c16).symm.trans h
  by_cases c18 : x2 = 4
  · replace h := (if_pos c18).symm.trans h
    refine fw_tableIn C 4 80 dX9_link_16 c18 (by decide) (by decide) rfl (by decide) ?_
    refine fw_aload_n C 0 dX9_link_80 rfl rfl ?_
    obtain ⟨g20, h⟩ := gd_some h
    obtain ⟨v19, e19, h⟩ := b1_some h
    refine fw_callV (ci := 3) [] C (c_X3_isRuler hl e19) cal_X3_isRuler wm_X9_165 wi_yX3_isRuler wsl_yX3_isRuler (Nat.le_of_ble_eq_true rfl) rfl (gO_of g20) rfl (Nat.le_of_ble_eq_true rfl) ⟨Nat.le_of_ble_eq_true rfl, Nat.le_of_ble_eq_true rfl⟩ ⟨Nat.zero_le _, Nat.zero_le _⟩ dX9_link_81 ?_
    refine fw_if_eq C 94 dX9_link_84 (by decide) (fun c21 => ?_) (fun c21 => ?_)
    · replace h := (if_pos c21).symm.trans h
      refine fw_sipush C 9999 dX9_link_94 rfl ?_
      obtain rfl := Option.some.inj h
      exact fw_iret C hr hlk dX9_link_97
    · replace h := (if_neg c21).symm.trans h
      refine fw_aload_n C 0 dX9_link_87 rfl rfl ?_
      refine fw_getI C 3 3 (Nat.le_of_ble_eq_true rfl) (Nat.le_of_ble_eq_true rfl) wf_X9_172 rfl (gO_of g20) dX9_link_88 ?_
      refine fw_goto C 97 dX9_link_91 (by decide) ?_
      obtain rfl := Option.some.inj h
      exact fw_iret C hr hlk dX9_link_97
  replace h := (if_neg c18).symm.trans h
  have qc8 := lv_neT c8 (a := 0) rfl
  have qc10 := lv_neT c10 (a := 1) rfl
  have qc12 := lv_neT c12 (a := 2) rfl
  have qc16 := lv_neT c16 (a := 3) rfl
  have qc18 := lv_neT c18 (a := 4) rfl
  refine fw_tableOut C 98 dX9_link_16 (by omega) (by decide) ?_
  obtain rfl := Option.some.inj h
  exact fw_throwS C hl fw_exN (i := 47) (List.mem_of_getElem? (i := 23) rfl) dX9_link_98 dX9_link_101 dX9_link_102 dX9_link_104 dX9_link_107 ht hlk (Nat.le_of_ble_eq_true rfl) (Nat.le_of_ble_eq_true rfl) (Nat.le_refl _) (Nat.le_refl _)
set_option maxRecDepth 100000 in
def f_X9_suitAt (S : List fw_Sh) (M : fw_Mem) (a0 : Nat) (x1 : Int32) : Option (Option Nat ⊕ String) := if x1 < 0 then (some (.inr exN)) else (gd (gO S 9 a0) (gd (gN (M a0 1)) (gd (gO S 4 ((M a0 1).toNatClampNeg)) (if x1 < (M ((M a0 1).toNatClampNeg) 6) then (gd (gN (M ((M a0 1).toNatClampNeg) 2)) (gd (gA S 4 ((M ((M a0 1).toNatClampNeg) 2).toNatClampNeg) x1) (gd (gN (M ((M ((M a0 1).toNatClampNeg) 2).toNatClampNeg) x1.toNatClampNeg)) (some (.inl (some ((M ((M ((M a0 1).toNatClampNeg) 2).toNatClampNeg) x1.toNatClampNeg).toNatClampNeg))))))) else (some (.inr exN))))))
set_option maxHeartbeats 4000000 in
set_option maxRecDepth 100000 in
theorem c_X9_suitAt {l : Launch} {G : fw_G} {S : List fw_Sh} {M : fw_Mem} {a0 : Nat} {x1 : Int32} {r : (Option Nat ⊕ String)} (hl : l.stackTraces = false) (h : f_X9_suitAt S M a0 x1 = some r) : fw_M l G yX9_suitAt (.code yX9_suitAt cX9_suitAt 2 (some (.object "BarredSuits$Suit"))) 6 (fw_mcO (fw_oA r, S, M)) (fw_msO (fw_oA r, S, M)) S M [.ref a0, .int x1] (fw_oA r, S, M) := by
  refine fw_of [(0, .ref a0), (1, .int x1)] (by decide) (Nat.le_of_ble_eq_true rfl) rfl ?_
  intro p e s m args below meth c C hr hlk hnm ht _
  unfold f_X9_suitAt at h
  refine fw_iload_n C 1 dX9_suitAt_0 rfl rfl ?_
  refine fw_if_lt C 15 dX9_suitAt_1 (by decide) (fun c1 => ?_) (fun c1 => ?_)
  · replace h := (if_pos c1).symm.trans h
    obtain rfl := Option.some.inj h
    exact fw_throwW C hl fw_exN (i := 46) (List.mem_of_getElem? (i := 24) rfl) dX9_suitAt_15 dX9_suitAt_18 dX9_suitAt_19 dX9_suitAt_22 dX9_suitAt_25 ht hlk (Nat.le_of_ble_eq_true rfl) (Nat.le_of_ble_eq_true rfl) (Nat.le_refl _) (Nat.le_refl _)
  · replace h := (if_neg c1).symm.trans h
    refine fw_iload_n C 1 dX9_suitAt_4 rfl rfl ?_
    refine fw_aload_n C 0 dX9_suitAt_5 rfl rfl ?_
    obtain ⟨g2, h⟩ := gd_some h
    obtain ⟨g3, h⟩ := gd_some h
    refine fw_getR C 9 1 (Nat.le_of_ble_eq_true rfl) (Nat.le_of_ble_eq_true rfl) wf_X9_21 rfl (gO_of g2) (gN_of g3) dX9_suitAt_6 ?_
    obtain ⟨g4, h⟩ := gd_some h
    refine fw_getI C 4 6 (Nat.le_of_ble_eq_true rfl) (Nat.le_of_ble_eq_true rfl) wf_X9_108 rfl (gO_of g4) dX9_suitAt_9 ?_
    refine fw_icmp_lt C 26 dX9_suitAt_12 (by decide) (fun c5 => ?_) (fun c5 => ?_)
    · replace h := (if_pos c5).symm.trans h
      refine fw_aload_n C 0 dX9_suitAt_26 rfl rfl ?_
      refine fw_getR C 9 1 (Nat.le_of_ble_eq_true rfl) (Nat.le_of_ble_eq_true rfl) wf_X9_21 rfl (gO_of g2) (gN_of g3) dX9_suitAt_27 ?_
      obtain ⟨g6, h⟩ := gd_some h
      refine fw_getR C 4 2 (Nat.le_of_ble_eq_true rfl) (Nat.le_of_ble_eq_true rfl) wf_X9_419 rfl (gO_of g4) (gN_of g6) dX9_suitAt_30 ?_
      refine fw_iload_n C 1 dX9_suitAt_33 rfl rfl ?_
      obtain ⟨g7, h⟩ := gd_some h
      obtain ⟨g8, h⟩ := gd_some h
      refine fw_aald C 4 (by decide) (gA_of g7) (gN_of g8) dX9_suitAt_34 ?_
      obtain rfl := Option.some.inj h
      exact fw_aret C hr (Or.inr ⟨_, rfl⟩) hlk dX9_suitAt_35
    · replace h := (if_neg c5).symm.trans h
      obtain rfl := Option.some.inj h
      exact fw_throwW C hl fw_exN (i := 46) (List.mem_of_getElem? (i := 24) rfl) dX9_suitAt_15 dX9_suitAt_18 dX9_suitAt_19 dX9_suitAt_22 dX9_suitAt_25 ht hlk (Nat.le_of_ble_eq_true rfl) (Nat.le_of_ble_eq_true rfl) (Nat.le_refl _) (Nat.le_refl _)
set_option maxRecDepth 100000 in
def f_X9_suit (S : List fw_Sh) (M : fw_Mem) (a0 : Nat) (x1 : Int32) (x2 : Int32) : Option (Int32 ⊕ String) := gd (gO S 9 a0) (b1 (f_X9_suitAt S M a0 x1) (fun v1 => bx v1 (fun u1 => bn u1 none (fun w1 => if x2 = 0 then (gd (gO S 6 w1) (some (.inl (M w1 1)))) else (if x2 = 1 then (gd (gO S 6 w1) (some (.inl (M w1 2)))) else (if x2 = 2 then (gd (gO S 6 w1) (some (.inl (M w1 3)))) else (if x2 = 3 then (gd (gO S 6 w1) (some (.inl (M w1 4)))) else (if x2 = 4 then (gd (gO S 6 w1) (some (.inl (M w1 5)))) else (if x2 = 5 then (gd (gO S 6 w1) (some (.inl (M w1 6)))) else (if x2 = 6 then (gd (gO S 6 w1) (some (.inl (M w1 7)))) else (if x2 = 7 then (gd (gO S 6 w1) (if (M w1 8) = 0 then (some (.inl 0)) else (some (.inl 1)))) else (if x2 = 8 then (gd (gO S 6 w1) (if (M w1 9) = 0 then (some (.inl 0)) else (some (.inl 1)))) else (if x2 = 9 then (gd (gO S 6 w1) (some (.inl (M w1 10)))) else (if x2 = 10 then (gd (gO S 6 w1) (some (.inl (M w1 11)))) else (if x2 = 11 then (gd (gO S 6 w1) (some (.inl (M w1 12)))) else (if x2 = 12 then (gd (gO S 6 w1) (b1 (f_X6_winner S M w1) (fun v30 => some (.inl v30)))) else (if x2 = 13 then (gd (gN (M a0 1)) (gd (gO S 4 ((M a0 1).toNatClampNeg)) (gd (gN (M ((M a0 1).toNatClampNeg) 3)) (gd (gA S 0 ((M ((M a0 1).toNatClampNeg) 3).toNatClampNeg) 2) (gd (gO S 6 w1) (b1 (f_X6_necessaryIssues S M w1 (M ((M ((M a0 1).toNatClampNeg) 3).toNatClampNeg) 2)) (fun v37 => some (.inl v37)))))))) else (if x2 = 14 then (gd (gO S 6 w1) (some (.inl ((M w1 15) ||| (M w1 16))))) else (some (.inr exN)))))))))))))))))) (fun E1 => some (.inr E1))))
set_option maxHeartbeats 4000000 in
set_option maxRecDepth 100000 in
theorem c_X9_suit {l : Launch} {G : fw_G} {S : List fw_Sh} {M : fw_Mem} {a0 : Nat} {x1 : Int32} {x2 : Int32} {r : (Int32 ⊕ String)} (hl : l.stackTraces = false) (h : f_X9_suit S M a0 x1 x2 = some r) : fw_M l G yX9_suit (.code yX9_suit cX9_suit 4 (some .int)) 7 (fw_mcO (fw_oI r, S, M)) (fw_msO (fw_oI r, S, M)) S M [.ref a0, .int x1, .int x2] (fw_oI r, S, M) := by
  refine fw_of [(0, .ref a0), (1, .int x1), (2, .int x2)] (by decide) (Nat.le_of_ble_eq_true rfl) rfl ?_
  intro p e s m args below meth c C hr hlk hnm ht _
  unfold f_X9_suit at h
  refine fw_aload_n C 0 dX9_suit_0 rfl rfl ?_
  refine fw_iload_n C 1 dX9_suit_1 rfl rfl ?_
  obtain ⟨g2, h⟩ := gd_some h
  obtain ⟨v1, e1, h⟩ := b1_some h
  rcases v1 with u1 | E1
  rotate_left
  · replace h := bx_r h
    obtain rfl := Option.some.inj h
    exact fw_callVX (ci := 9) [_] C (c_X9_suitAt hl e1) cal_X9_suitAt wm_X9_177 wi_yX9_suitAt wsl_yX9_suitAt (Nat.le_of_ble_eq_true rfl) rfl (gO_of g2) rfl (Nat.le_of_ble_eq_true rfl) ⟨Nat.le_of_ble_eq_true rfl, Nat.le_of_ble_eq_true rfl⟩ ⟨Nat.le_refl _, Nat.le_refl _⟩ dX9_suit_2 ht hlk
  replace h := bx_l h
  rcases u1 with _ | w1
  · cases h
  refine fw_callV (ci := 9) [_] C (c_X9_suitAt hl e1) cal_X9_suitAt wm_X9_177 wi_yX9_suitAt wsl_yX9_suitAt (Nat.le_of_ble_eq_true rfl) rfl (gO_of g2) rfl (Nat.le_of_ble_eq_true rfl) ⟨Nat.le_of_ble_eq_true rfl, Nat.le_of_ble_eq_true rfl⟩ ⟨Nat.zero_le _, Nat.zero_le _⟩ dX9_suit_2 ?_
  refine fw_astore_n C [(3, _), (0, _), (1, _), (2, _)] dX9_suit_5 rfl (Nat.le_of_ble_eq_true rfl) rfl ?_
  refine fw_iload_n C 3 dX9_suit_6 rfl rfl ?_
  by_cases c3 : x2 = 0
  · replace h := (if_pos c3).symm.trans h
    refine fw_tableIn C 0 80 dX9_suit_7 c3 (by decide) (by decide) rfl (by decide) ?_
    refine fw_aload_n C 0 dX9_suit_80 rfl rfl ?_
    obtain ⟨g4, h⟩ := gd_some h
    refine fw_getI C 6 1 (Nat.le_of_ble_eq_true rfl) (Nat.le_of_ble_eq_true rfl) wf_X9_181 rfl (gO_of g4) dX9_suit_81 ?_
    obtain rfl := Option.some.inj h
    exact fw_iret C hr hlk dX9_suit_84
  replace h := (if_neg c3).symm.trans h
  by_cases c5 : x2 = 1
  · replace h := (if_pos c5).symm.trans h
    refine fw_tableIn C 1 85 dX9_suit_7 c5 (by decide) (by decide) rfl (by decide) ?_
    refine fw_aload_n C 0 dX9_suit_85 rfl rfl ?_
    obtain ⟨g6, h⟩ := gd_some h
    refine fw_getI C 6 2 (Nat.le_of_ble_eq_true rfl) (Nat.le_of_ble_eq_true rfl) wf_X9_184 rfl (gO_of g6) dX9_suit_86 ?_
    obtain rfl := Option.some.inj h
    exact fw_iret C hr hlk dX9_suit_89
  replace h := (if_neg c5).symm.trans h
  by_cases c7 : x2 = 2
  · replace h := (if_pos c7).symm.trans h
    refine fw_tableIn C 2 90 dX9_suit_7 c7 (by decide) (by decide) rfl (by decide) ?_
    refine fw_aload_n C 0 dX9_suit_90 rfl rfl ?_
    obtain ⟨g8, h⟩ := gd_some h
    refine fw_getI C 6 3 (Nat.le_of_ble_eq_true rfl) (Nat.le_of_ble_eq_true rfl) wf_X9_187 rfl (gO_of g8) dX9_suit_91 ?_
    obtain rfl := Option.some.inj h
    exact fw_iret C hr hlk dX9_suit_94
  replace h := (if_neg c7).symm.trans h
  by_cases c9 : x2 = 3
  · replace h := (if_pos c9).symm.trans h
    refine fw_tableIn C 3 95 dX9_suit_7 c9 (by decide) (by decide) rfl (by decide) ?_
    refine fw_aload_n C 0 dX9_suit_95 rfl rfl ?_
    obtain ⟨g10, h⟩ := gd_some h
    refine fw_getI C 6 4 (Nat.le_of_ble_eq_true rfl) (Nat.le_of_ble_eq_true rfl) wf_X9_190 rfl (gO_of g10) dX9_suit_96 ?_
    obtain rfl := Option.some.inj h
    exact fw_iret C hr hlk dX9_suit_99
  replace h := (if_neg c9).symm.trans h
  by_cases c11 : x2 = 4
  · replace h := (if_pos c11).symm.trans h
    refine fw_tableIn C 4 100 dX9_suit_7 c11 (by decide) (by decide) rfl (by decide) ?_
    refine fw_aload_n C 0 dX9_suit_100 rfl rfl ?_
    obtain ⟨g12, h⟩ := gd_some h
    refine fw_getI C 6 5 (Nat.le_of_ble_eq_true rfl) (Nat.le_of_ble_eq_true rfl) wf_X9_193 rfl (gO_of g12) dX9_suit_101 ?_
    obtain rfl := Option.some.inj h
    exact fw_iret C hr hlk dX9_suit_104
  replace h := (if_neg c11).symm.trans h
  by_cases c13 : x2 = 5
  · replace h := (if_pos c13).symm.trans h
    refine fw_tableIn C 5 105 dX9_suit_7 c13 (by decide) (by decide) rfl (by decide) ?_
    refine fw_aload_n C 0 dX9_suit_105 rfl rfl ?_
    obtain ⟨g14, h⟩ := gd_some h
    refine fw_getI C 6 6 (Nat.le_of_ble_eq_true rfl) (Nat.le_of_ble_eq_true rfl) wf_X9_196 rfl (gO_of g14) dX9_suit_106 ?_
    obtain rfl := Option.some.inj h
    exact fw_iret C hr hlk dX9_suit_109
  replace h := (if_neg c13).symm.trans h
  by_cases c15 : x2 = 6
  · replace h := (if_pos c15).symm.trans h
    refine fw_tableIn C 6 110 dX9_suit_7 c15 (by decide) (by decide) rfl (by decide) ?_
    refine fw_aload_n C 0 dX9_suit_110 rfl rfl ?_
    obtain ⟨g16, h⟩ := gd_some h
    refine fw_getI C 6 7 (Nat.le_of_ble_eq_true rfl) (Nat.le_of_ble_eq_true rfl) wf_X9_199 rfl (gO_of g16) dX9_suit_111 ?_
    obtain rfl := Option.some.inj h
    exact fw_iret C hr hlk dX9_suit_114
  replace h := (if_neg c15).symm.trans h
  by_cases c17 : x2 = 7
  · replace h := (if_pos c17).symm.trans h
    refine fw_tableIn C 7 115 dX9_suit_7 c17 (by decide) (by decide) rfl (by decide) ?_
    refine fw_aload_n C 0 dX9_suit_115 rfl rfl ?_
    obtain ⟨g18, h⟩ := gd_some h
    refine fw_getI C 6 8 (Nat.le_of_ble_eq_true rfl) (Nat.le_of_ble_eq_true rfl) wf_X9_202 rfl (gO_of g18) dX9_suit_116 ?_
    refine fw_if_eq C 126 dX9_suit_119 (by decide) (fun c19 => ?_) (fun c19 => ?_)
    · replace h := (if_pos c19).symm.trans h
      refine fw_iconst C 0 dX9_suit_126 rfl ?_
      obtain rfl := Option.some.inj h
      exact fw_iret C hr hlk dX9_suit_127
    · replace h := (if_neg c19).symm.trans h
      refine fw_iconst C 1 dX9_suit_122 rfl ?_
      refine fw_goto C 127 dX9_suit_123 (by decide) ?_
      obtain rfl := Option.some.inj h
      exact fw_iret C hr hlk dX9_suit_127
  replace h := (if_neg c17).symm.trans h
  by_cases c20 : x2 = 8
  · replace h := (if_pos c20).symm.trans h
    refine fw_tableIn C 8 128 dX9_suit_7 c20 (by decide) (by decide) rfl (by decide) ?_
    refine fw_aload_n C 0 dX9_suit_128 rfl rfl ?_
    obtain ⟨g21, h⟩ := gd_some h
    refine fw_getI C 6 9 (Nat.le_of_ble_eq_true rfl) (Nat.le_of_ble_eq_true rfl) wf_X9_205 rfl (gO_of g21) dX9_suit_129 ?_
    refine fw_if_eq C 139 dX9_suit_132 (by decide) (fun c22 => ?_) (fun c22 => ?_)
    · replace h := (if_pos c22).symm.trans h
      refine fw_iconst C 0 dX9_suit_139 rfl ?_
      obtain rfl := Option.some.inj h
      exact fw_iret C hr hlk dX9_suit_140
    · replace h := (if_neg c22).symm.trans h
      refine fw_iconst C 1 dX9_suit_135 rfl ?_
      refine fw_goto C 140 dX9_suit_136 (by decide) ?_
      obtain rfl := Option.some.inj h
      exact fw_iret C hr hlk dX9_suit_140
  replace h := (if_neg c20).symm.trans h
  by_cases c23 : x2 = 9
  · replace h := (if_pos c23).symm.trans h
    refine fw_tableIn C 9 141 dX9_suit_7 c23 (by decide) (by decide) rfl (by decide) ?_
    refine fw_aload_n C 0 dX9_suit_141 rfl rfl ?_
    obtain ⟨g24, h⟩ := gd_some h
    refine fw_getI C 6 10 (Nat.le_of_ble_eq_true rfl) (Nat.le_of_ble_eq_true rfl) wf_X9_208 rfl (gO_of g24) dX9_suit_142 ?_
    obtain rfl := Option.some.inj h
    exact fw_iret C hr hlk dX9_suit_145
  replace h := (if_neg c23).symm.trans h
  by_cases c25 : x2 = 10
  · replace h := (if_pos c25).symm.trans h
    refine fw_tableIn C 10 146 dX9_suit_7 c25 (by decide) (by decide) rfl (by decide) ?_
    refine fw_aload_n C 0 dX9_suit_146 rfl rfl ?_
    obtain ⟨g26, h⟩ := gd_some h
    refine fw_getI C 6 11 (Nat.le_of_ble_eq_true rfl) (Nat.le_of_ble_eq_true rfl) wf_X9_211 rfl (gO_of g26) dX9_suit_147 ?_
    obtain rfl := Option.some.inj h
    exact fw_iret C hr hlk dX9_suit_150
  replace h := (if_neg c25).symm.trans h
  by_cases c27 : x2 = 11
  · replace h := (if_pos c27).symm.trans h
    refine fw_tableIn C 11 151 dX9_suit_7 c27 (by decide) (by decide) rfl (by decide) ?_
    refine fw_aload_n C 0 dX9_suit_151 rfl rfl ?_
    obtain ⟨g28, h⟩ := gd_some h
    refine fw_getI C 6 12 (Nat.le_of_ble_eq_true rfl) (Nat.le_of_ble_eq_true rfl) wf_X9_214 rfl (gO_of g28) dX9_suit_152 ?_
    obtain rfl := Option.some.inj h
    exact fw_iret C hr hlk dX9_suit_155
  replace h := (if_neg c27).symm.trans h
  by_cases c29 : x2 = 12
  · replace h := (if_pos c29).symm.trans h
    refine fw_tableIn C 12 156 dX9_suit_7 c29 (by decide) (by decide) rfl (by decide) ?_
    refine fw_aload_n C 0 dX9_suit_156 rfl rfl ?_
    obtain ⟨g31, h⟩ := gd_some h
    obtain ⟨v30, e30, h⟩ := b1_some h
    refine fw_callV (ci := 6) [] C (c_X6_winner hl e30) cal_X6_winner wm_X9_217 wi_yX6_winner wsl_yX6_winner (Nat.le_of_ble_eq_true rfl) rfl (gO_of g31) rfl (Nat.le_of_ble_eq_true rfl) ⟨Nat.le_of_ble_eq_true rfl, Nat.le_of_ble_eq_true rfl⟩ ⟨Nat.zero_le _, Nat.zero_le _⟩ dX9_suit_157 ?_
    obtain rfl := Option.some.inj h
    exact fw_iret C hr hlk dX9_suit_160
  replace h := (if_neg c29).symm.trans h
  by_cases c32 : x2 = 13
  · replace h := (if_pos c32).symm.trans h
    refine fw_tableIn C 13 161 dX9_suit_7 c32 (by decide) (by decide) rfl (by decide) ?_
    refine fw_aload_n C 0 dX9_suit_161 rfl rfl ?_
    refine fw_aload_n C 1 dX9_suit_162 rfl rfl ?_
    obtain ⟨g33, h⟩ := gd_some h
    refine fw_getR C 9 1 (Nat.le_of_ble_eq_true rfl) (Nat.le_of_ble_eq_true rfl) wf_X9_21 rfl (gO_of g2) (gN_of g33) dX9_suit_163 ?_
    obtain ⟨g34, h⟩ := gd_some h
    obtain ⟨g35, h⟩ := gd_some h
    refine fw_getR C 4 3 (Nat.le_of_ble_eq_true rfl) (Nat.le_of_ble_eq_true rfl) wf_X9_127 rfl (gO_of g34) (gN_of g35) dX9_suit_166 ?_
    refine fw_iconst C 2 dX9_suit_169 rfl ?_
    obtain ⟨g36, h⟩ := gd_some h
    refine fw_iald C (gA_of g36) dX9_suit_170 ?_
    obtain ⟨g38, h⟩ := gd_some h
    obtain ⟨v37, e37, h⟩ := b1_some h
    refine fw_callV (ci := 6) [_] C (c_X6_necessaryIssues hl e37) cal_X6_necessaryIssues wm_X9_220 wi_yX6_necessaryIssues wsl_yX6_necessaryIssues (Nat.le_of_ble_eq_true rfl) rfl (gO_of g38) rfl (Nat.le_of_ble_eq_true rfl) ⟨Nat.le_of_ble_eq_true rfl, Nat.le_of_ble_eq_true rfl⟩ ⟨Nat.zero_le _, Nat.zero_le _⟩ dX9_suit_171 ?_
    obtain rfl := Option.some.inj h
    exact fw_iret C hr hlk dX9_suit_174
  replace h := (if_neg c32).symm.trans h
  by_cases c39 : x2 = 14
  · replace h := (if_pos c39).symm.trans h
    refine fw_tableIn C 14 175 dX9_suit_7 c39 (by decide) (by decide) rfl (by decide) ?_
    refine fw_aload_n C 0 dX9_suit_175 rfl rfl ?_
    obtain ⟨g40, h⟩ := gd_some h
    refine fw_getI C 6 15 (Nat.le_of_ble_eq_true rfl) (Nat.le_of_ble_eq_true rfl) wf_X9_224 rfl (gO_of g40) dX9_suit_176 ?_
    refine fw_aload_n C 0 dX9_suit_179 rfl rfl ?_
    refine fw_getI C 6 16 (Nat.le_of_ble_eq_true rfl) (Nat.le_of_ble_eq_true rfl) wf_X9_227 rfl (gO_of g40) dX9_suit_180 ?_
    refine fw_ior C dX9_suit_183 ?_
    obtain rfl := Option.some.inj h
    exact fw_iret C hr hlk dX9_suit_184
  replace h := (if_neg c39).symm.trans h
  have qc3 := lv_neT c3 (a := 0) rfl
  have qc5 := lv_neT c5 (a := 1) rfl
  have qc7 := lv_neT c7 (a := 2) rfl
  have qc9 := lv_neT c9 (a := 3) rfl
  have qc11 := lv_neT c11 (a := 4) rfl
  have qc13 := lv_neT c13 (a := 5) rfl
  have qc15 := lv_neT c15 (a := 6) rfl
  have qc17 := lv_neT c17 (a := 7) rfl
  have qc20 := lv_neT c20 (a := 8) rfl
  have qc23 := lv_neT c23 (a := 9) rfl
  have qc25 := lv_neT c25 (a := 10) rfl
  have qc27 := lv_neT c27 (a := 11) rfl
  have qc29 := lv_neT c29 (a := 12) rfl
  have qc32 := lv_neT c32 (a := 13) rfl
  have qc39 := lv_neT c39 (a := 14) rfl
  refine fw_tableOut C 185 dX9_suit_7 (by omega) (by decide) ?_
  obtain rfl := Option.some.inj h
  exact fw_throwS C hl fw_exN (i := 48) (List.mem_of_getElem? (i := 25) rfl) dX9_suit_185 dX9_suit_188 dX9_suit_189 dX9_suit_191 dX9_suit_194 ht hlk (Nat.le_of_ble_eq_true rfl) (Nat.le_of_ble_eq_true rfl) (Nat.le_refl _) (Nat.le_refl _)
set_option maxRecDepth 100000 in
def f_X6_boundOn (S : List fw_Sh) (M : fw_Mem) (a0 : Nat) (x1 : Int32) : Option Int32 := if x1 = 0 then (gd (gO S 6 a0) (some (M a0 13))) else (gd (gO S 6 a0) (some (M a0 14)))
set_option maxHeartbeats 4000000 in
set_option maxRecDepth 100000 in
theorem c_X6_boundOn {l : Launch} {G : fw_G} {S : List fw_Sh} {M : fw_Mem} {a0 : Nat} {x1 : Int32} {r : Int32} (hl : l.stackTraces = false) (h : f_X6_boundOn S M a0 x1 = some r) : fw_M l G yX6_boundOn (.code yX6_boundOn cX6_boundOn 2 (some .int)) 1 (fw_mcO (.inl (some (.int r)), S, M)) (fw_msO (.inl (some (.int r)), S, M)) S M [.ref a0, .int x1] (.inl (some (.int r)), S, M) := by
  refine fw_of [(0, .ref a0), (1, .int x1)] (by decide) (Nat.le_of_ble_eq_true rfl) rfl ?_
  intro p e s m args below meth c C hr hlk hnm ht _
  unfold f_X6_boundOn at h
  refine fw_iload_n C 1 dX6_boundOn_0 rfl rfl ?_
  refine fw_if_ne C 11 dX6_boundOn_1 (by decide) (fun c1 => ?_) (fun c1 => ?_)
  · replace h := (if_neg c1).symm.trans h
    refine fw_aload_n C 0 dX6_boundOn_11 rfl rfl ?_
    obtain ⟨g2, h⟩ := gd_some h
    refine fw_getI C 6 14 (Nat.le_of_ble_eq_true rfl) (Nat.le_of_ble_eq_true rfl) wf_X6_55 rfl (gO_of g2) dX6_boundOn_12 ?_
    obtain rfl := Option.some.inj h
    exact fw_iret C hr hlk dX6_boundOn_15
  · replace h := (if_pos c1).symm.trans h
    refine fw_aload_n C 0 dX6_boundOn_4 rfl rfl ?_
    obtain ⟨g3, h⟩ := gd_some h
    refine fw_getI C 6 13 (Nat.le_of_ble_eq_true rfl) (Nat.le_of_ble_eq_true rfl) wf_X6_52 rfl (gO_of g3) dX6_boundOn_5 ?_
    refine fw_goto C 15 dX6_boundOn_8 (by decide) ?_
    obtain rfl := Option.some.inj h
    exact fw_iret C hr hlk dX6_boundOn_15
set_option maxRecDepth 100000 in
def f_X9_needSide (S : List fw_Sh) (M : fw_Mem) (a0 : Nat) (x1 : Int32) : Option (Unit ⊕ String) := if x1 < 0 then (some (.inr exN)) else (if x1 ≤ 1 then (some (.inl ())) else (some (.inr exN)))
set_option maxHeartbeats 4000000 in
set_option maxRecDepth 100000 in
theorem c_X9_needSide {l : Launch} {G : fw_G} {S : List fw_Sh} {M : fw_Mem} {a0 : Nat} {x1 : Int32} {r : (Unit ⊕ String)} (hl : l.stackTraces = false) (h : f_X9_needSide S M a0 x1 = some r) : fw_M l G yX9_needSide (.code yX9_needSide cX9_needSide 2 none) 6 (fw_mcO (fw_oV r, S, M)) (fw_msO (fw_oV r, S, M)) S M [.ref a0, .int x1] (fw_oV r, S, M) := by
  refine fw_of [(0, .ref a0), (1, .int x1)] (by decide) (Nat.le_of_ble_eq_true rfl) rfl ?_
  intro p e s m args below meth c C hr hlk hnm ht _
  unfold f_X9_needSide at h
  refine fw_iload_n C 1 dX9_needSide_0 rfl rfl ?_
  refine fw_if_lt C 9 dX9_needSide_1 (by decide) (fun c1 => ?_) (fun c1 => ?_)
  · replace h := (if_pos c1).symm.trans h
    obtain rfl := Option.some.inj h
    exact fw_throwW C hl fw_exN (i := 45) (List.mem_of_getElem? (i := 26) rfl) dX9_needSide_9 dX9_needSide_12 dX9_needSide_13 dX9_needSide_16 dX9_needSide_19 ht hlk (Nat.le_of_ble_eq_true rfl) (Nat.le_of_ble_eq_true rfl) (Nat.le_refl _) (Nat.le_refl _)
  · replace h := (if_neg c1).symm.trans h
    refine fw_iload_n C 1 dX9_needSide_4 rfl rfl ?_
    refine fw_iconst C 1 dX9_needSide_5 rfl ?_
    refine fw_icmp_le C 20 dX9_needSide_6 (by decide) (fun c2 => ?_) (fun c2 => ?_)
    · replace h := (if_pos c2).symm.trans h
      obtain rfl := Option.some.inj h
      exact fw_vret C hr hlk dX9_needSide_20
    · replace h := (if_neg c2).symm.trans h
      obtain rfl := Option.some.inj h
      exact fw_throwW C hl fw_exN (i := 45) (List.mem_of_getElem? (i := 26) rfl) dX9_needSide_9 dX9_needSide_12 dX9_needSide_13 dX9_needSide_16 dX9_needSide_19 ht hlk (Nat.le_of_ble_eq_true rfl) (Nat.le_of_ble_eq_true rfl) (Nat.le_refl _) (Nat.le_refl _)
set_option maxRecDepth 100000 in
def f_X9_isBound (S : List fw_Sh) (M : fw_Mem) (a0 : Nat) (x1 : Int32) (x2 : Int32) (x3 : Int32) : Option (Int32 ⊕ String) := gd (gO S 9 a0) (b1 (f_X9_suitAt S M a0 x1) (fun v1 => bx v1 (fun u1 => bn u1 none (fun w1 => b1 (f_X9_needPerson S M a0 x3) (fun v3 => bx v3 (fun _ => b1 (f_X9_needSide S M a0 x2) (fun v4 => bx v4 (fun _ => gd (gO S 6 w1) (b1 (f_X6_boundOn S M w1 x2) (fun v5 => if ((v5 >>> (x3 &&& 31)) &&& 1) = 1 then (some (.inl 1)) else (some (.inl 0))))) (fun E4 => some (.inr E4)))) (fun E3 => some (.inr E3))))) (fun E1 => some (.inr E1))))
set_option maxHeartbeats 4000000 in
set_option maxRecDepth 100000 in
theorem c_X9_isBound {l : Launch} {G : fw_G} {S : List fw_Sh} {M : fw_Mem} {a0 : Nat} {x1 : Int32} {x2 : Int32} {x3 : Int32} {r : (Int32 ⊕ String)} (hl : l.stackTraces = false) (h : f_X9_isBound S M a0 x1 x2 x3 = some r) : fw_M l G yX9_isBound (.code yX9_isBound cX9_isBound 5 (some .boolean)) 7 (fw_mcO (fw_oI r, S, M)) (fw_msO (fw_oI r, S, M)) S M [.ref a0, .int x1, .int x2, .int x3] (fw_oI r, S, M) := by
  refine fw_of [(0, .ref a0), (1, .int x1), (2, .int x2), (3, .int x3)] (by decide) (Nat.le_of_ble_eq_true rfl) rfl ?_
  intro p e s m args below meth c C hr hlk hnm ht _
  unfold f_X9_isBound at h
  refine fw_aload_n C 0 dX9_isBound_0 rfl rfl ?_
  refine fw_iload_n C 1 dX9_isBound_1 rfl rfl ?_
  obtain ⟨g2, h⟩ := gd_some h
  obtain ⟨v1, e1, h⟩ := b1_some h
  rcases v1 with u1 | E1
  rotate_left
  · replace h := bx_r h
    obtain rfl := Option.some.inj h
    exact fw_callVX (ci := 9) [_] C (c_X9_suitAt hl e1) cal_X9_suitAt wm_X9_177 wi_yX9_suitAt wsl_yX9_suitAt (Nat.le_of_ble_eq_true rfl) rfl (gO_of g2) rfl (Nat.le_of_ble_eq_true rfl) ⟨Nat.le_of_ble_eq_true rfl, Nat.le_of_ble_eq_true rfl⟩ ⟨Nat.le_refl _, Nat.le_refl _⟩ dX9_isBound_2 ht hlk
  replace h := bx_l h
  rcases u1 with _ | w1
  · cases h
  refine fw_callV (ci := 9) [_] C (c_X9_suitAt hl e1) cal_X9_suitAt wm_X9_177 wi_yX9_suitAt wsl_yX9_suitAt (Nat.le_of_ble_eq_true rfl) rfl (gO_of g2) rfl (Nat.le_of_ble_eq_true rfl) ⟨Nat.le_of_ble_eq_true rfl, Nat.le_of_ble_eq_true rfl⟩ ⟨Nat.zero_le _, Nat.zero_le _⟩ dX9_isBound_2 ?_
  refine fw_astore C [(4, _), (0, _), (1, _), (2, _), (3, _)] dX9_isBound_5 (Nat.le_of_ble_eq_true rfl) rfl ?_
  refine fw_aload_n C 1 dX9_isBound_7 rfl rfl ?_
  refine fw_iload_n C 4 dX9_isBound_8 rfl rfl ?_
  obtain ⟨v3, e3, h⟩ := b1_some h
  rcases v3 with u3 | E3
  rotate_left
  · replace h := bx_r h
    obtain rfl := Option.some.inj h
    exact fw_callVX (ci := 9) [_] C (c_X9_needPerson hl e3) cal_X9_needPerson wm_X9_142 wi_yX9_needPerson wsl_yX9_needPerson (Nat.le_of_ble_eq_true rfl) rfl (gO_of g2) rfl (Nat.le_of_ble_eq_true rfl) ⟨Nat.le_of_ble_eq_true rfl, Nat.le_of_ble_eq_true rfl⟩ ⟨Nat.le_refl _, Nat.le_refl _⟩ dX9_isBound_9 ht hlk
  replace h := bx_l h
  refine fw_callV (ci := 9) [_] C (c_X9_needPerson hl e3) cal_X9_needPerson wm_X9_142 wi_yX9_needPerson wsl_yX9_needPerson (Nat.le_of_ble_eq_true rfl) rfl (gO_of g2) rfl (Nat.le_of_ble_eq_true rfl) ⟨Nat.le_of_ble_eq_true rfl, Nat.le_of_ble_eq_true rfl⟩ ⟨Nat.zero_le _, Nat.zero_le _⟩ dX9_isBound_9 ?_
  refine fw_aload_n C 1 dX9_isBound_12 rfl rfl ?_
  refine fw_iload_n C 3 dX9_isBound_13 rfl rfl ?_
  obtain ⟨v4, e4, h⟩ := b1_some h
  rcases v4 with u4 | E4
  rotate_left
  · replace h := bx_r h
    obtain rfl := Option.some.inj h
    exact fw_callVX (ci := 9) [_] C (c_X9_needSide hl e4) cal_X9_needSide wm_X9_232 wi_yX9_needSide wsl_yX9_needSide (Nat.le_of_ble_eq_true rfl) rfl (gO_of g2) rfl (Nat.le_of_ble_eq_true rfl) ⟨Nat.le_of_ble_eq_true rfl, Nat.le_of_ble_eq_true rfl⟩ ⟨Nat.le_refl _, Nat.le_refl _⟩ dX9_isBound_14 ht hlk
  replace h := bx_l h
  refine fw_callV (ci := 9) [_] C (c_X9_needSide hl e4) cal_X9_needSide wm_X9_232 wi_yX9_needSide wsl_yX9_needSide (Nat.le_of_ble_eq_true rfl) rfl (gO_of g2) rfl (Nat.le_of_ble_eq_true rfl) ⟨Nat.le_of_ble_eq_true rfl, Nat.le_of_ble_eq_true rfl⟩ ⟨Nat.zero_le _, Nat.zero_le _⟩ dX9_isBound_14 ?_
  refine fw_aload C 0 dX9_isBound_17 rfl ?_
  refine fw_iload_n C 3 dX9_isBound_19 rfl rfl ?_
  obtain ⟨g6, h⟩ := gd_some h
  obtain ⟨v5, e5, h⟩ := b1_some h
  refine fw_callV (ci := 6) [_] C (c_X6_boundOn hl e5) cal_X6_boundOn wm_X9_235 wi_yX6_boundOn wsl_yX6_boundOn (Nat.le_of_ble_eq_true rfl) rfl (gO_of g6) rfl (Nat.le_of_ble_eq_true rfl) ⟨Nat.le_of_ble_eq_true rfl, Nat.le_of_ble_eq_true rfl⟩ ⟨Nat.zero_le _, Nat.zero_le _⟩ dX9_isBound_20 ?_
  refine fw_iload_n C 4 dX9_isBound_23 rfl rfl ?_
  refine fw_ishr C dX9_isBound_24 ?_
  refine fw_iconst C 1 dX9_isBound_25 rfl ?_
  refine fw_iand C dX9_isBound_26 ?_
  refine fw_iconst C 1 dX9_isBound_27 rfl ?_
  refine fw_icmp_ne C 35 dX9_isBound_28 (by decide) (fun c7 => ?_) (fun c7 => ?_)
  · replace h := (if_neg c7).symm.trans h
    refine fw_iconst C 0 dX9_isBound_35 rfl ?_
    obtain rfl := Option.some.inj h
    exact fw_zret C hr (Or.inl rfl) hlk dX9_isBound_36
  · replace h := (if_pos c7).symm.trans h
    refine fw_iconst C 1 dX9_isBound_31 rfl ?_
    refine fw_goto C 36 dX9_isBound_32 (by decide) ?_
    obtain rfl := Option.some.inj h
    exact fw_zret C hr (Or.inr rfl) hlk dX9_isBound_36
