set_option maxRecDepth 100000 in
def lf_X9_lowestBit_2 (S : List fw_Sh) (M : fw_Mem) (x0 : Int32) : Nat → Int32 → Option (Int32 ⊕ (Unit))
  | 0, _ => none
  | n + 1, x1 => if (31 : Int32) ≤ x1 then (some (.inr ())) else (if ((x0 >>> (x1 &&& 31)) &&& 1) = 1 then (some (.inl x1)) else (lf_X9_lowestBit_2 S M x0 n (x1 + 1)))
set_option maxHeartbeats 4000000 in
set_option maxRecDepth 100000 in
theorem lc_X9_lowestBit_2 {G : fw_G} {p : Program} {l : Launch} {e : Env} {s : State} {m : MethodId} {args : Array Value} {below : List Frame} {meth : Method} {c : Code} {S : List fw_Sh} {o : fw_O} {M : fw_Mem} {x0 : Int32} (C : fw_C G RX9 cX9_lowestBit 2 p s m args c) (hr : meth.sig.returnType = (some .int)) (hlk : meth.locks = false) (hl : l.stackTraces = false) (ht : ∀ x ∈ c.exceptionTable.toList, False) :
    ∀ {n : Nat} {x1 : Int32} {r : (Int32 ⊕ (Unit))} (h : lf_X9_lowestBit_2 S M x0 n x1 = some r) (kx : ∀ d, r = .inr d → fw_W G p l e (fw_rm 1 (fw_mcO o) (fw_msO o)) s m args below meth c 2 (fw_Z G below args s (fw_mcO o) (fw_msO o) o) 0 0 25 [] [] S M) (hret : ∀ t, r = .inl t → o = (.inl (some (.int t)), S, M)), fw_W G p l e (fw_rm 1 (fw_mcO o) (fw_msO o)) s m args below meth c 2 (fw_Z G below args s (fw_mcO o) (fw_msO o) o) 0 0 2 [(0, .int x0), (1, .int x1)] [] S M := by
  intro n
  induction n with
  | zero =>
    intro x1 r h
    exact nomatch (show (none : Option (Int32 ⊕ (Unit))) = some r from h)
  | succ n ih =>
    intro x1 r h kx hret
    rw [lf_X9_lowestBit_2.eq_2] at h
    refine fw_iload_n C 1 dX9_lowestBit_2 rfl rfl ?_
    refine fw_bipush C 31 dX9_lowestBit_3 rfl ?_
    refine fw_icmp_ge C 25 dX9_lowestBit_5 (by decide) (fun c1 => ?_) (fun c1 => ?_)
    · replace h := (if_pos c1).symm.trans h
      refine fw_sub [] rfl ?_
      exact kx _ (Option.some.inj h).symm
    · replace h := (if_neg c1).symm.trans h
      refine fw_iload_n C 0 dX9_lowestBit_8 rfl rfl ?_
      refine fw_iload_n C 1 dX9_lowestBit_9 rfl rfl ?_
      refine fw_ishr C dX9_lowestBit_10 ?_
      refine fw_iconst C 1 dX9_lowestBit_11 rfl ?_
      refine fw_iand C dX9_lowestBit_12 ?_
      refine fw_iconst C 1 dX9_lowestBit_13 rfl ?_
      refine fw_icmp_ne C 19 dX9_lowestBit_14 (by decide) (fun c2 => ?_) (fun c2 => ?_)
      · replace h := (if_neg c2).symm.trans h
        refine fw_iinc C _ 1 [(1, _), (0, _)] dX9_lowestBit_19 rfl rfl (Nat.le_of_ble_eq_true rfl) rfl ?_
        refine fw_goto C 2 dX9_lowestBit_22 (by decide) ?_
        refine fw_sub [1, 0] rfl ?_
        exact ih h kx hret
      · replace h := (if_pos c2).symm.trans h
        refine fw_iload_n C 1 dX9_lowestBit_17 rfl rfl ?_
        have ho := hret _ (Option.some.inj h).symm
        subst ho
        exact fw_iret C hr hlk dX9_lowestBit_18
set_option maxRecDepth 100000 in
def f_X9_lowestBit (S : List fw_Sh) (M : fw_Mem) (x0 : Int32) : Option Int32 := b1 (lf_X9_lowestBit_2 S M x0 20000 0) (fun l3 => bl l3 (fun t3 => some t3) (fun d3 => some (-1)))
set_option maxHeartbeats 4000000 in
set_option maxRecDepth 100000 in
theorem c_X9_lowestBit {l : Launch} {G : fw_G} {S : List fw_Sh} {M : fw_Mem} {x0 : Int32} {r : Int32} (hl : l.stackTraces = false) (h : f_X9_lowestBit S M x0 = some r) : fw_M l G yX9_lowestBit (.code yX9_lowestBit cX9_lowestBit 2 (some .int)) 1 (fw_mcO (.inl (some (.int r)), S, M)) (fw_msO (.inl (some (.int r)), S, M)) S M [.int x0] (.inl (some (.int r)), S, M) := by
  refine fw_of [(0, .int x0)] (by decide) (Nat.le_of_ble_eq_true rfl) rfl ?_
  intro p e s m args below meth c C hr hlk hnm ht _
  unfold f_X9_lowestBit at h
  refine fw_iconst C 0 dX9_lowestBit_0 rfl ?_
  refine fw_istore_n C [(1, _), (0, _)] dX9_lowestBit_1 rfl (Nat.le_of_ble_eq_true rfl) rfl ?_
  refine fw_sub [1, 0] rfl ?_
  obtain ⟨l3, e3, h⟩ := b1_some h
  rcases l3 with t3 | d3
  · obtain rfl := Option.some.inj (bl_l h)
    exact lc_X9_lowestBit_2 C hr hlk hl ht e3 (fun d hd => nomatch hd) (fun t ht => by cases ht; rfl)
  replace h := bl_r h
  refine lc_X9_lowestBit_2 C hr hlk hl ht e3 (fun d hd => ?_) (fun t ht => nomatch ht)
  cases hd
  refine fw_iconst C (-1) dX9_lowestBit_25 rfl ?_
  obtain rfl := Option.some.inj h
  exact fw_iret C hr hlk dX9_lowestBit_26
set_option maxRecDepth 100000 in
def f_X9_two (S : List fw_Sh) (M : fw_Mem) (a0 : Nat) (x1 : Int32) (x2 : Int32) (x3 : Int32) : Option ((Int32 ⊕ String) × fw_Mem) := gd (gO S 9 a0) (b1 (f_X9_suitAt S M a0 x1) (fun v1 => bx v1 (fun u1 => bn u1 none (fun w1 => b1 (f_X9_suitAt S M a0 x2) (fun v3 => bx v3 (fun u3 => bn u3 none (fun w3 => if x3 = 0 then (gd (gO S 6 w1) (gd (gO S 6 w3) (some (.inl ((M w1 4) &&& (M w3 4)), M)))) else (if x3 = 1 then (gd (gN (M a0 5)) (gd (gO S 2 ((M a0 5).toNatClampNeg)) (b1 (f_X2_areSame S M ((M a0 5).toNatClampNeg) w1 w3) (fun v9 => if v9 = 0 then (some (.inl 0, M)) else (some (.inl 1, M)))))) else (if x3 = 2 then (gd (gN (M a0 5)) (gd (gO S 2 ((M a0 5).toNatClampNeg)) (b1 (f_X2_barringSuits S M ((M a0 5).toNatClampNeg) w1) (fun v14 => some (.inl ((v14 >>> (x2 &&& 31)) &&& 1), M))))) else (if x3 = 3 then (gd (gN (M a0 5)) (gd (gO S 2 ((M a0 5).toNatClampNeg)) (b1 (f_X2_comesBehind S M ((M a0 5).toNatClampNeg) w1 w3) (fun v18 => if v18 = 0 then (some (.inl 0, M)) else (some (.inl 1, M)))))) else (if x3 = 4 then (gd (gN (M a0 5)) (gd (gO S 2 ((M a0 5).toNatClampNeg)) (b2 (f_X2_restsOn S M ((M a0 5).toNatClampNeg) w1) (fun v23 M23 => some (.inl ((v23 >>> (x2 &&& 31)) &&& 1), M23))))) else (if x3 = 5 then (gd (gN (M a0 5)) (gd (gO S 2 ((M a0 5).toNatClampNeg)) (b1 (f_X2_clashingIssues S M ((M a0 5).toNatClampNeg) w1 w3) (fun v27 => b1 (f_X9_lowestBit S M v27) (fun v29 => some (.inl v29, M)))))) else (some (.inr exN, M))))))))) (fun E3 => some (.inr E3, M))))) (fun E1 => some (.inr E1, M))))
set_option maxHeartbeats 4000000 in
set_option maxRecDepth 100000 in
theorem c_X9_two {l : Launch} {G : fw_G} {S : List fw_Sh} {M : fw_Mem} {a0 : Nat} {x1 : Int32} {x2 : Int32} {x3 : Int32} {r : ((Int32 ⊕ String) × fw_Mem)} (hl : l.stackTraces = false) (h : f_X9_two S M a0 x1 x2 x3 = some r) : fw_M l G yX9_two (.code yX9_two cX9_two 6 (some .int)) 7 (fw_mcO (fw_oI r.1, S, r.2)) (fw_msO (fw_oI r.1, S, r.2)) S M [.ref a0, .int x1, .int x2, .int x3] (fw_oI r.1, S, r.2) := by
  refine fw_of [(0, .ref a0), (1, .int x1), (2, .int x2), (3, .int x3)] (by decide) (Nat.le_of_ble_eq_true rfl) rfl ?_
  intro p e s m args below meth c C hr hlk hnm ht _
  unfold f_X9_two at h
  refine fw_aload_n C 0 dX9_two_0 rfl rfl ?_
  refine fw_iload_n C 1 dX9_two_1 rfl rfl ?_
  obtain ⟨g2, h⟩ := gd_some h
  obtain ⟨v1, e1, h⟩ := b1_some h
  rcases v1 with u1 | E1
  rotate_left
  · replace h := bx_r h
    obtain rfl := Option.some.inj h
    exact fw_callVX (ci := 9) [_] C (c_X9_suitAt hl e1) cal_X9_suitAt wm_X9_177 wi_yX9_suitAt wsl_yX9_suitAt (Nat.le_of_ble_eq_true rfl) rfl (gO_of g2) rfl (Nat.le_of_ble_eq_true rfl) ⟨Nat.le_of_ble_eq_true rfl, Nat.le_of_ble_eq_true rfl⟩ ⟨Nat.le_refl _, Nat.le_refl _⟩ dX9_two_2 ht hlk
  replace h := bx_l h
  rcases u1 with _ | w1
  · cases h
  refine fw_callV (ci := 9) [_] C (c_X9_suitAt hl e1) cal_X9_suitAt wm_X9_177 wi_yX9_suitAt wsl_yX9_suitAt (Nat.le_of_ble_eq_true rfl) rfl (gO_of g2) rfl (Nat.le_of_ble_eq_true rfl) ⟨Nat.le_of_ble_eq_true rfl, Nat.le_of_ble_eq_true rfl⟩ ⟨Nat.zero_le _, Nat.zero_le _⟩ dX9_two_2 ?_
  refine fw_astore C [(4, _), (0, _), (1, _), (2, _), (3, _)] dX9_two_5 (Nat.le_of_ble_eq_true rfl) rfl ?_
  refine fw_aload_n C 1 dX9_two_7 rfl rfl ?_
  refine fw_iload_n C 3 dX9_two_8 rfl rfl ?_
  obtain ⟨v3, e3, h⟩ := b1_some h
  rcases v3 with u3 | E3
  rotate_left
  · replace h := bx_r h
    obtain rfl := Option.some.inj h
    exact fw_callVX (ci := 9) [_] C (c_X9_suitAt hl e3) cal_X9_suitAt wm_X9_177 wi_yX9_suitAt wsl_yX9_suitAt (Nat.le_of_ble_eq_true rfl) rfl (gO_of g2) rfl (Nat.le_of_ble_eq_true rfl) ⟨Nat.le_of_ble_eq_true rfl, Nat.le_of_ble_eq_true rfl⟩ ⟨Nat.le_refl _, Nat.le_refl _⟩ dX9_two_9 ht hlk
  replace h := bx_l h
  rcases u3 with _ | w3
  · cases h
  refine fw_callV (ci := 9) [_] C (c_X9_suitAt hl e3) cal_X9_suitAt wm_X9_177 wi_yX9_suitAt wsl_yX9_suitAt (Nat.le_of_ble_eq_true rfl) rfl (gO_of g2) rfl (Nat.le_of_ble_eq_true rfl) ⟨Nat.le_of_ble_eq_true rfl, Nat.le_of_ble_eq_true rfl⟩ ⟨Nat.zero_le _, Nat.zero_le _⟩ dX9_two_9 ?_
  refine fw_astore C [(5, _), (4, _), (0, _), (1, _), (2, _), (3, _)] dX9_two_12 (Nat.le_of_ble_eq_true rfl) rfl ?_
  refine fw_iload_n C 5 dX9_two_14 rfl rfl ?_
  by_cases c4 : x3 = 0
  · replace h := (if_pos c4).symm.trans h
    refine fw_tableIn C 0 52 dX9_two_15 c4 (by decide) (by decide) rfl (by decide) ?_
    refine fw_aload C 1 dX9_two_52 rfl ?_
    obtain ⟨g5, h⟩ := gd_some h
    refine fw_getI C 6 4 (Nat.le_of_ble_eq_true rfl) (Nat.le_of_ble_eq_true rfl) wf_X9_190 rfl (gO_of g5) dX9_two_54 ?_
    refine fw_aload C 0 dX9_two_57 rfl ?_
    obtain ⟨g6, h⟩ := gd_some h
    refine fw_getI C 6 4 (Nat.le_of_ble_eq_true rfl) (Nat.le_of_ble_eq_true rfl) wf_X9_190 rfl (gO_of g6) dX9_two_59 ?_
    refine fw_iand C dX9_two_62 ?_
    obtain rfl := Option.some.inj h
    exact fw_iret C hr hlk dX9_two_63
  replace h := (if_neg c4).symm.trans h
  by_cases c7 : x3 = 1
  · replace h := (if_pos c7).symm.trans h
    refine fw_tableIn C 1 64 dX9_two_15 c7 (by decide) (by decide) rfl (by decide) ?_
    refine fw_aload_n C 2 dX9_two_64 rfl rfl ?_
    obtain ⟨g8, h⟩ := gd_some h
    refine fw_getR C 9 5 (Nat.le_of_ble_eq_true rfl) (Nat.le_of_ble_eq_true rfl) wf_X9_45 rfl (gO_of g2) (gN_of g8) dX9_two_65 ?_
    refine fw_aload C 1 dX9_two_68 rfl ?_
    refine fw_aload C 0 dX9_two_70 rfl ?_
    obtain ⟨g10, h⟩ := gd_some h
    obtain ⟨v9, e9, h⟩ := b1_some h
    refine fw_callV (ci := 2) [_, _] C (c_X2_areSame hl e9) cal_X2_areSame wm_X9_248 wi_yX2_areSame wsl_yX2_areSame (Nat.le_of_ble_eq_true rfl) rfl (gO_of g10) rfl (Nat.le_of_ble_eq_true rfl) ⟨Nat.le_of_ble_eq_true rfl, Nat.le_of_ble_eq_true rfl⟩ ⟨Nat.zero_le _, Nat.zero_le _⟩ dX9_two_72 ?_
    refine fw_if_eq C 82 dX9_two_75 (by decide) (fun c11 => ?_) (fun c11 => ?_)
    · replace h := (if_pos c11).symm.trans h
      refine fw_iconst C 0 dX9_two_82 rfl ?_
      obtain rfl := Option.some.inj h
      exact fw_iret C hr hlk dX9_two_83
    · replace h := (if_neg c11).symm.trans h
      refine fw_iconst C 1 dX9_two_78 rfl ?_
      refine fw_goto C 83 dX9_two_79 (by decide) ?_
      obtain rfl := Option.some.inj h
      exact fw_iret C hr hlk dX9_two_83
  replace h := (if_neg c7).symm.trans h
  by_cases c12 : x3 = 2
  · replace h := (if_pos c12).symm.trans h
    refine fw_tableIn C 2 84 dX9_two_15 c12 (by decide) (by decide) rfl (by decide) ?_
    refine fw_aload_n C 2 dX9_two_84 rfl rfl ?_
    obtain ⟨g13, h⟩ := gd_some h
    refine fw_getR C 9 5 (Nat.le_of_ble_eq_true rfl) (Nat.le_of_ble_eq_true rfl) wf_X9_45 rfl (gO_of g2) (gN_of g13) dX9_two_85 ?_
    refine fw_aload C 1 dX9_two_88 rfl ?_
    obtain ⟨g15, h⟩ := gd_some h
    obtain ⟨v14, e14, h⟩ := b1_some h
    refine fw_callV (ci := 2) [_] C (c_X2_barringSuits hl e14) cal_X2_barringSuits wm_X9_252 wi_yX2_barringSuits wsl_yX2_barringSuits (Nat.le_of_ble_eq_true rfl) rfl (gO_of g15) rfl (Nat.le_of_ble_eq_true rfl) ⟨Nat.le_of_ble_eq_true rfl, Nat.le_of_ble_eq_true rfl⟩ ⟨Nat.zero_le _, Nat.zero_le _⟩ dX9_two_90 ?_
    refine fw_iload_n C 4 dX9_two_93 rfl rfl ?_
    refine fw_ishr C dX9_two_94 ?_
    refine fw_iconst C 1 dX9_two_95 rfl ?_
    refine fw_iand C dX9_two_96 ?_
    obtain rfl := Option.some.inj h
    exact fw_iret C hr hlk dX9_two_97
  replace h := (if_neg c12).symm.trans h
  by_cases c16 : x3 = 3
  · replace h := (if_pos c16).symm.trans h
    refine fw_tableIn C 3 98 dX9_two_15 c16 (by decide) (by decide) rfl (by decide) ?_
    refine fw_aload_n C 2 dX9_two_98 rfl rfl ?_
    obtain ⟨g17, h⟩ := gd_some h
    refine fw_getR C 9 5 (Nat.le_of_ble_eq_true rfl) (Nat.le_of_ble_eq_true rfl) wf_X9_45 rfl (gO_of g2) (gN_of g17) dX9_two_99 ?_
    refine fw_aload C 1 dX9_two_102 rfl ?_
    refine fw_aload C 0 dX9_two_104 rfl ?_
    obtain ⟨g19, h⟩ := gd_some h
    obtain ⟨v18, e18, h⟩ := b1_some h
    refine fw_callV (ci := 2) [_, _] C (c_X2_comesBehind hl e18) cal_X2_comesBehind wm_X9_256 wi_yX2_comesBehind wsl_yX2_comesBehind (Nat.le_of_ble_eq_true rfl) rfl (gO_of g19) rfl (Nat.le_of_ble_eq_true rfl) ⟨Nat.le_of_ble_eq_true rfl, Nat.le_of_ble_eq_true rfl⟩ ⟨Nat.zero_le _, Nat.zero_le _⟩ dX9_two_106 ?_
    refine fw_if_eq C 116 dX9_two_109 (by decide) (fun c20 => ?_) (fun c20 => ?_)
    · replace h := (if_pos c20).symm.trans h
      refine fw_iconst C 0 dX9_two_116 rfl ?_
      obtain rfl := Option.some.inj h
      exact fw_iret C hr hlk dX9_two_117
    · replace h := (if_neg c20).symm.trans h
      refine fw_iconst C 1 dX9_two_112 rfl ?_
      refine fw_goto C 117 dX9_two_113 (by decide) ?_
      obtain rfl := Option.some.inj h
      exact fw_iret C hr hlk dX9_two_117
  replace h := (if_neg c16).symm.trans h
  by_cases c21 : x3 = 4
  · replace h := (if_pos c21).symm.trans h
    refine fw_tableIn C 4 118 dX9_two_15 c21 (by decide) (by decide) rfl (by decide) ?_
    refine fw_aload_n C 2 dX9_two_118 rfl rfl ?_
    obtain ⟨g22, h⟩ := gd_some h
    refine fw_getR C 9 5 (Nat.le_of_ble_eq_true rfl) (Nat.le_of_ble_eq_true rfl) wf_X9_45 rfl (gO_of g2) (gN_of g22) dX9_two_119 ?_
    refine fw_aload C 1 dX9_two_122 rfl ?_
    obtain ⟨g24, h⟩ := gd_some h
    obtain ⟨v23, M23, e23, h⟩ := b2_some h
    refine fw_callV (ci := 2) [_] C (c_X2_restsOn hl e23) cal_X2_restsOn wm_X9_259 wi_yX2_restsOn wsl_yX2_restsOn (Nat.le_of_ble_eq_true rfl) rfl (gO_of g24) rfl (Nat.le_of_ble_eq_true rfl) ⟨Nat.le_of_ble_eq_true rfl, Nat.le_of_ble_eq_true rfl⟩ ⟨Nat.zero_le _, Nat.zero_le _⟩ dX9_two_124 ?_
    refine fw_iload_n C 4 dX9_two_127 rfl rfl ?_
    refine fw_ishr C dX9_two_128 ?_
    refine fw_iconst C 1 dX9_two_129 rfl ?_
    refine fw_iand C dX9_two_130 ?_
    obtain rfl := Option.some.inj h
    exact fw_iret C hr hlk dX9_two_131
  replace h := (if_neg c21).symm.trans h
  by_cases c25 : x3 = 5
  · replace h := (if_pos c25).symm.trans h
    refine fw_tableIn C 5 132 dX9_two_15 c25 (by decide) (by decide) rfl (by decide) ?_
    refine fw_aload_n C 2 dX9_two_132 rfl rfl ?_
    obtain ⟨g26, h⟩ := gd_some h
    refine fw_getR C 9 5 (Nat.le_of_ble_eq_true rfl) (Nat.le_of_ble_eq_true rfl) wf_X9_45 rfl (gO_of g2) (gN_of g26) dX9_two_133 ?_
    refine fw_aload C 1 dX9_two_136 rfl ?_
    refine fw_aload C 0 dX9_two_138 rfl ?_
    obtain ⟨g28, h⟩ := gd_some h
    obtain ⟨v27, e27, h⟩ := b1_some h
    refine fw_callV (ci := 2) [_, _] C (c_X2_clashingIssues hl e27) cal_X2_clashingIssues wm_X9_262 wi_yX2_clashingIssues wsl_yX2_clashingIssues (Nat.le_of_ble_eq_true rfl) rfl (gO_of g28) rfl (Nat.le_of_ble_eq_true rfl) ⟨Nat.le_of_ble_eq_true rfl, Nat.le_of_ble_eq_true rfl⟩ ⟨Nat.zero_le _, Nat.zero_le _⟩ dX9_two_140 ?_
    obtain ⟨v29, e29, h⟩ := b1_some h
    refine fw_callS [_] C (c_X9_lowestBit hl e29) cal_X9_lowestBit wm_X9_266 wt_yX9_lowestBit rfl (Nat.le_of_ble_eq_true rfl) ⟨Nat.le_of_ble_eq_true rfl, Nat.le_of_ble_eq_true rfl⟩ ⟨Nat.zero_le _, Nat.zero_le _⟩ dX9_two_143 ?_
    obtain rfl := Option.some.inj h
    exact fw_iret C hr hlk dX9_two_146
  replace h := (if_neg c25).symm.trans h
  have qc4 := lv_neT c4 (a := 0) rfl
  have qc7 := lv_neT c7 (a := 1) rfl
  have qc12 := lv_neT c12 (a := 2) rfl
  have qc16 := lv_neT c16 (a := 3) rfl
  have qc21 := lv_neT c21 (a := 4) rfl
  have qc25 := lv_neT c25 (a := 5) rfl
  refine fw_tableOut C 147 dX9_two_15 (by omega) (by decide) ?_
  obtain rfl := Option.some.inj h
  exact fw_throwW C hl fw_exN (i := 50) (List.mem_of_getElem? (i := 28) rfl) dX9_two_147 dX9_two_150 dX9_two_151 dX9_two_154 dX9_two_157 ht hlk (Nat.le_of_ble_eq_true rfl) (Nat.le_of_ble_eq_true rfl) (Nat.le_refl _) (Nat.le_refl _)
set_option maxRecDepth 100000 in
def f_X9_barred (S : List fw_Sh) (M : fw_Mem) (a0 : Nat) (x1 : Int32) : Option (Int32 ⊕ String) := gd (gO S 9 a0) (gd (gN (M a0 5)) (b1 (f_X9_suitAt S M a0 x1) (fun v3 => bx v3 (fun u3 => bn u3 none (fun w3 => gd (gO S 2 ((M a0 5).toNatClampNeg)) (b1 (f_X2_barringSuits S M ((M a0 5).toNatClampNeg) w3) (fun v4 => some (.inl v4))))) (fun E3 => some (.inr E3)))))
set_option maxHeartbeats 4000000 in
set_option maxRecDepth 100000 in
theorem c_X9_barred {l : Launch} {G : fw_G} {S : List fw_Sh} {M : fw_Mem} {a0 : Nat} {x1 : Int32} {r : (Int32 ⊕ String)} (hl : l.stackTraces = false) (h : f_X9_barred S M a0 x1 = some r) : fw_M l G yX9_barred (.code yX9_barred cX9_barred 2 (some .int)) 7 (fw_mcO (fw_oI r, S, M)) (fw_msO (fw_oI r, S, M)) S M [.ref a0, .int x1] (fw_oI r, S, M) := by
  refine fw_of [(0, .ref a0), (1, .int x1)] (by decide) (Nat.le_of_ble_eq_true rfl) rfl ?_
  intro p e s m args below meth c C hr hlk hnm ht _
  unfold f_X9_barred at h
  refine fw_aload_n C 0 dX9_barred_0 rfl rfl ?_
  obtain ⟨g1, h⟩ := gd_some h
  obtain ⟨g2, h⟩ := gd_some h
  refine fw_getR C 9 5 (Nat.le_of_ble_eq_true rfl) (Nat.le_of_ble_eq_true rfl) wf_X9_45 rfl (gO_of g1) (gN_of g2) dX9_barred_1 ?_
  refine fw_aload_n C 0 dX9_barred_4 rfl rfl ?_
  refine fw_iload_n C 1 dX9_barred_5 rfl rfl ?_
  obtain ⟨v3, e3, h⟩ := b1_some h
  rcases v3 with u3 | E3
  rotate_left
  · replace h := bx_r h
    obtain rfl := Option.some.inj h
    exact fw_callVX (ci := 9) [_] C (c_X9_suitAt hl e3) cal_X9_suitAt wm_X9_177 wi_yX9_suitAt wsl_yX9_suitAt (Nat.le_of_ble_eq_true rfl) rfl (gO_of g1) rfl (Nat.le_of_ble_eq_true rfl) ⟨Nat.le_of_ble_eq_true rfl, Nat.le_of_ble_eq_true rfl⟩ ⟨Nat.le_refl _, Nat.le_refl _⟩ dX9_barred_6 ht hlk
  replace h := bx_l h
  rcases u3 with _ | w3
  · cases h
  refine fw_callV (ci := 9) [_] C (c_X9_suitAt hl e3) cal_X9_suitAt wm_X9_177 wi_yX9_suitAt wsl_yX9_suitAt (Nat.le_of_ble_eq_true rfl) rfl (gO_of g1) rfl (Nat.le_of_ble_eq_true rfl) ⟨Nat.le_of_ble_eq_true rfl, Nat.le_of_ble_eq_true rfl⟩ ⟨Nat.zero_le _, Nat.zero_le _⟩ dX9_barred_6 ?_
  obtain ⟨g5, h⟩ := gd_some h
  obtain ⟨v4, e4, h⟩ := b1_some h
  refine fw_callV (ci := 2) [_] C (c_X2_barringSuits hl e4) cal_X2_barringSuits wm_X9_252 wi_yX2_barringSuits wsl_yX2_barringSuits (Nat.le_of_ble_eq_true rfl) rfl (gO_of g5) rfl (Nat.le_of_ble_eq_true rfl) ⟨Nat.le_of_ble_eq_true rfl, Nat.le_of_ble_eq_true rfl⟩ ⟨Nat.zero_le _, Nat.zero_le _⟩ dX9_barred_9 ?_
  obtain rfl := Option.some.inj h
  exact fw_iret C hr hlk dX9_barred_12
set_option maxRecDepth 100000 in
def lf_X2_holderCount_5 (S : List fw_Sh) (M : fw_Mem) (a0 : Nat) (a1 : Nat) (x2 : Int32) : Nat → Int32 → Int32 → Option (Int32)
  | 0, _, _ => none
  | n + 1, x3, x4 => gd (gO S 2 a0) (gd (gN (M a0 0)) (gd (gO S 4 ((M a0 0).toNatClampNeg)) (if (M ((M a0 0).toNatClampNeg) 6) ≤ x4 then (some x3) else (gd (gN (M ((M a0 0).toNatClampNeg) 2)) (gd (gA S 4 ((M ((M a0 0).toNatClampNeg) 2).toNatClampNeg) x4) (gd (gN (M ((M ((M a0 0).toNatClampNeg) 2).toNatClampNeg) x4.toNatClampNeg)) (b1 (f_X2_heldBy S M a0 ((M ((M ((M a0 0).toNatClampNeg) 2).toNatClampNeg) x4.toNatClampNeg).toNatClampNeg) a1) (fun v8 => bm (x3 + ((v8 >>> (x2 &&& 31)) &&& 1)) (fun y9 => lf_X2_holderCount_5 S M a0 a1 x2 n y9 (x4 + 1))))))))))
set_option maxHeartbeats 4000000 in
set_option maxRecDepth 100000 in
theorem lc_X2_holderCount_5 {G : fw_G} {p : Program} {l : Launch} {e : Env} {s : State} {m : MethodId} {args : Array Value} {below : List Frame} {meth : Method} {c : Code} {S : List fw_Sh} {o : fw_O} {M : fw_Mem} {a0 : Nat} {a1 : Nat} {x2 : Int32} (C : fw_C G RX2 cX2_holderCount 5 p s m args c) (hr : meth.sig.returnType = (some .int)) (hlk : meth.locks = false) (hl : l.stackTraces = false) (ht : ∀ x ∈ c.exceptionTable.toList, False) :
    ∀ {n : Nat} {x3 : Int32} {x4 : Int32} {r : (Int32)} (h : lf_X2_holderCount_5 S M a0 a1 x2 n x3 x4 = some r) (kx : fw_W G p l e (fw_rm 4 (fw_mcO o) (fw_msO o)) s m args below meth c 5 (fw_Z G below args s (fw_mcO o) (fw_msO o) o) 0 0 45 [(3, .int r)] [] S M), fw_W G p l e (fw_rm 4 (fw_mcO o) (fw_msO o)) s m args below meth c 5 (fw_Z G below args s (fw_mcO o) (fw_msO o) o) 0 0 5 [(0, .ref a0), (1, .ref a1), (2, .int x2), (3, .int x3), (4, .int x4)] [] S M := by
  intro n
  induction n with
  | zero =>
    intro x3 x4 r h
    exact nomatch (show (none : Option (Int32)) = some r from h)
  | succ n ih =>
    intro x3 x4 r h kx
    rw [lf_X2_holderCount_5.eq_2] at h
    refine fw_iload C 4 dX2_holderCount_5 rfl ?_
    refine fw_aload_n C 0 dX2_holderCount_7 rfl rfl ?_
    obtain ⟨g1, h⟩ := gd_some h
    obtain ⟨g2, h⟩ := gd_some h
    refine fw_getR C 2 0 (Nat.le_of_ble_eq_true rfl) (Nat.le_of_ble_eq_true rfl) wf_X2_27 rfl (gO_of g1) (gN_of g2) dX2_holderCount_8 ?_
    obtain ⟨g3, h⟩ := gd_some h
    refine fw_getI C 4 6 (Nat.le_of_ble_eq_true rfl) (Nat.le_of_ble_eq_true rfl) wf_X2_31 rfl (gO_of g3) dX2_holderCount_11 ?_
    refine fw_icmp_ge C 45 dX2_holderCount_14 (by decide) (fun c4 => ?_) (fun c4 => ?_)
    · replace h := (if_pos c4).symm.trans h
      obtain rfl := Option.some.inj h
      refine fw_sub [3] rfl ?_
      exact kx
    · replace h := (if_neg c4).symm.trans h
      refine fw_iload_n C 3 dX2_holderCount_17 rfl rfl ?_
      refine fw_aload_n C 0 dX2_holderCount_18 rfl rfl ?_
      refine fw_aload_n C 0 dX2_holderCount_19 rfl rfl ?_
      refine fw_getR C 2 0 (Nat.le_of_ble_eq_true rfl) (Nat.le_of_ble_eq_true rfl) wf_X2_27 rfl (gO_of g1) (gN_of g2) dX2_holderCount_20 ?_
      obtain ⟨g5, h⟩ := gd_some h
      refine fw_getR C 4 2 (Nat.le_of_ble_eq_true rfl) (Nat.le_of_ble_eq_true rfl) wf_X2_37 rfl (gO_of g3) (gN_of g5) dX2_holderCount_23 ?_
      refine fw_iload C 4 dX2_holderCount_26 rfl ?_
      obtain ⟨g6, h⟩ := gd_some h
      obtain ⟨g7, h⟩ := gd_some h
      refine fw_aald C 4 (by decide) (gA_of g6) (gN_of g7) dX2_holderCount_28 ?_
      refine fw_aload_n C 1 dX2_holderCount_29 rfl rfl ?_
      obtain ⟨v8, e8, h⟩ := b1_some h
      refine fw_callV (ci := 2) [_, _] C (c_X2_heldBy hl e8) cal_X2_heldBy wm_X2_175 wi_yX2_heldBy wsl_yX2_heldBy (Nat.le_of_ble_eq_true rfl) rfl (gO_of g1) rfl (Nat.le_of_ble_eq_true rfl) ⟨Nat.le_of_ble_eq_true rfl, Nat.le_of_ble_eq_true rfl⟩ ⟨Nat.zero_le _, Nat.zero_le _⟩ dX2_holderCount_30 ?_
      refine fw_iload_n C 2 dX2_holderCount_33 rfl rfl ?_
      refine fw_ishr C dX2_holderCount_34 ?_
      refine fw_iconst C 1 dX2_holderCount_35 rfl ?_
      refine fw_iand C dX2_holderCount_36 ?_
      refine fw_iadd C dX2_holderCount_37 ?_
      refine fw_bi h (fun y9 h => ?_)
      refine fw_istore_n C [(3, _), (0, _), (1, _), (2, _), (4, _)] dX2_holderCount_38 rfl (Nat.le_of_ble_eq_true rfl) rfl ?_
      refine fw_iinc C _ 4 [(4, _), (3, _), (0, _), (1, _), (2, _)] dX2_holderCount_39 rfl rfl (Nat.le_of_ble_eq_true rfl) rfl ?_
      refine fw_goto C 5 dX2_holderCount_42 (by decide) ?_
      refine fw_sub [2, 3, 4, 1, 0] rfl ?_
      exact ih h kx
set_option maxRecDepth 100000 in
def f_X2_holderCount (S : List fw_Sh) (M : fw_Mem) (a0 : Nat) (a1 : Nat) (x2 : Int32) : Option Int32 := b1 (lf_X2_holderCount_5 S M a0 a1 x2 20000 0 0) (fun l10 => some l10)
set_option maxHeartbeats 4000000 in
set_option maxRecDepth 100000 in
theorem c_X2_holderCount {l : Launch} {G : fw_G} {S : List fw_Sh} {M : fw_Mem} {a0 : Nat} {a1 : Nat} {x2 : Int32} {r : Int32} (hl : l.stackTraces = false) (h : f_X2_holderCount S M a0 a1 x2 = some r) : fw_M l G yX2_holderCount (.code yX2_holderCount cX2_holderCount 5 (some .int)) 4 (fw_mcO (.inl (some (.int r)), S, M)) (fw_msO (.inl (some (.int r)), S, M)) S M [.ref a0, .ref a1, .int x2] (.inl (some (.int r)), S, M) := by
  refine fw_of [(0, .ref a0), (1, .ref a1), (2, .int x2)] (by decide) (Nat.le_of_ble_eq_true rfl) rfl ?_
  intro p e s m args below meth c C hr hlk hnm ht _
  unfold f_X2_holderCount at h
  refine fw_iconst C 0 dX2_holderCount_0 rfl ?_
  refine fw_istore_n C [(3, _), (0, _), (1, _), (2, _)] dX2_holderCount_1 rfl (Nat.le_of_ble_eq_true rfl) rfl ?_
  refine fw_iconst C 0 dX2_holderCount_2 rfl ?_
  refine fw_istore C [(4, _), (3, _), (0, _), (1, _), (2, _)] dX2_holderCount_3 (Nat.le_of_ble_eq_true rfl) rfl ?_
  refine fw_sub [2, 3, 4, 1, 0] rfl ?_
  obtain ⟨l10, e10, h⟩ := b1_some h
  refine lc_X2_holderCount_5 C hr hlk hl ht e10 ?_
  refine fw_iload_n C 0 dX2_holderCount_45 rfl rfl ?_
  obtain rfl := Option.some.inj h
  exact fw_iret C hr hlk dX2_holderCount_46
set_option maxRecDepth 100000 in
def f_X9_needIssue (S : List fw_Sh) (M : fw_Mem) (a0 : Nat) (a1 : Nat) (x2 : Int32) : Option (Unit ⊕ String) := if x2 < 0 then (some (.inr exN)) else (if (31 : Int32) ≤ x2 then (some (.inr exN)) else (gd (gO S 6 a1) (b1 (f_X6_allIssues S M a1) (fun v3 => if ((v3 >>> (x2 &&& 31)) &&& 1) = 0 then (some (.inr exN)) else (some (.inl ()))))))
set_option maxHeartbeats 4000000 in
set_option maxRecDepth 100000 in
theorem c_X9_needIssue {l : Launch} {G : fw_G} {S : List fw_Sh} {M : fw_Mem} {a0 : Nat} {a1 : Nat} {x2 : Int32} {r : (Unit ⊕ String)} (hl : l.stackTraces = false) (h : f_X9_needIssue S M a0 a1 x2 = some r) : fw_M l G yX9_needIssue (.code yX9_needIssue cX9_needIssue 3 none) 6 (fw_mcO (fw_oV r, S, M)) (fw_msO (fw_oV r, S, M)) S M [.ref a0, .ref a1, .int x2] (fw_oV r, S, M) := by
  refine fw_of [(0, .ref a0), (1, .ref a1), (2, .int x2)] (by decide) (Nat.le_of_ble_eq_true rfl) rfl ?_
  intro p e s m args below meth c C hr hlk hnm ht _
  unfold f_X9_needIssue at h
  refine fw_iload_n C 2 dX9_needIssue_0 rfl rfl ?_
  refine fw_if_lt C 21 dX9_needIssue_1 (by decide) (fun c1 => ?_) (fun c1 => ?_)
  · replace h := (if_pos c1).symm.trans h
    obtain rfl := Option.some.inj h
    exact fw_throwW C hl fw_exN (i := 54) (List.mem_of_getElem? (i := 29) rfl) dX9_needIssue_21 dX9_needIssue_24 dX9_needIssue_25 dX9_needIssue_28 dX9_needIssue_31 ht hlk (Nat.le_of_ble_eq_true rfl) (Nat.le_of_ble_eq_true rfl) (Nat.le_refl _) (Nat.le_refl _)
  · replace h := (if_neg c1).symm.trans h
    refine fw_iload_n C 2 dX9_needIssue_4 rfl rfl ?_
    refine fw_bipush C 31 dX9_needIssue_5 rfl ?_
    refine fw_icmp_ge C 21 dX9_needIssue_7 (by decide) (fun c2 => ?_) (fun c2 => ?_)
    · replace h := (if_pos c2).symm.trans h
      obtain rfl := Option.some.inj h
      exact fw_throwW C hl fw_exN (i := 54) (List.mem_of_getElem? (i := 29) rfl) dX9_needIssue_21 dX9_needIssue_24 dX9_needIssue_25 dX9_needIssue_28 dX9_needIssue_31 ht hlk (Nat.le_of_ble_eq_true rfl) (Nat.le_of_ble_eq_true rfl) (Nat.le_refl _) (Nat.le_refl _)
    · replace h := (if_neg c2).symm.trans h
      refine fw_aload_n C 1 dX9_needIssue_10 rfl rfl ?_
      obtain ⟨g4, h⟩ := gd_some h
      obtain ⟨v3, e3, h⟩ := b1_some h
      refine fw_callV (ci := 6) [] C (c_X6_allIssues hl e3) cal_X6_allIssues wm_X9_296 wi_yX6_allIssues wsl_yX6_allIssues (Nat.le_of_ble_eq_true rfl) rfl (gO_of g4) rfl (Nat.le_of_ble_eq_true rfl) ⟨Nat.le_of_ble_eq_true rfl, Nat.le_of_ble_eq_true rfl⟩ ⟨Nat.zero_le _, Nat.zero_le _⟩ dX9_needIssue_11 ?_
      refine fw_iload_n C 2 dX9_needIssue_14 rfl rfl ?_
      refine fw_ishr C dX9_needIssue_15 ?_
      refine fw_iconst C 1 dX9_needIssue_16 rfl ?_
      refine fw_iand C dX9_needIssue_17 ?_
      refine fw_if_ne C 32 dX9_needIssue_18 (by decide) (fun c5 => ?_) (fun c5 => ?_)
      · replace h := (if_neg c5).symm.trans h
        obtain rfl := Option.some.inj h
        exact fw_vret C hr hlk dX9_needIssue_32
      · replace h := (if_pos c5).symm.trans h
        obtain rfl := Option.some.inj h
        exact fw_throwW C hl fw_exN (i := 54) (List.mem_of_getElem? (i := 29) rfl) dX9_needIssue_21 dX9_needIssue_24 dX9_needIssue_25 dX9_needIssue_28 dX9_needIssue_31 ht hlk (Nat.le_of_ble_eq_true rfl) (Nat.le_of_ble_eq_true rfl) (Nat.le_refl _) (Nat.le_refl _)
set_option maxRecDepth 100000 in
def f_X9_held (S : List fw_Sh) (M : fw_Mem) (a0 : Nat) (x1 : Int32) (x2 : Int32) (x3 : Int32) : Option ((Int32 ⊕ String) × fw_Mem) := gd (gO S 9 a0) (b1 (f_X9_suitAt S M a0 x1) (fun v1 => bx v1 (fun u1 => bn u1 none (fun w1 => b1 (f_X9_needIssue S M a0 w1 x2) (fun v3 => bx v3 (fun _ => if x3 < 0 then (some (.inr exN, M)) else (if x3 ≤ 2 then (if x3 = 2 then (gd (gN (M a0 5)) (gd (gO S 2 ((M a0 5).toNatClampNeg)) (b1 (f_X2_holderCount S M ((M a0 5).toNatClampNeg) w1 x2) (fun v18 => some (.inl v18, M))))) else (gd (gN (M a0 5)) (gd (gO S 2 ((M a0 5).toNatClampNeg)) (b1 (f_X2_weigh S M ((M a0 5).toNatClampNeg) w1) (fun M8 => gd (gN (M8 a0 5)) (gd (gO S 2 ((M8 a0 5).toNatClampNeg)) (gd (gN (M8 ((M8 a0 5).toNatClampNeg) 1)) (gd (gA S 0 ((M8 ((M8 a0 5).toNatClampNeg) 1).toNatClampNeg) x2) (bm (M8 ((M8 ((M8 a0 5).toNatClampNeg) 1).toNatClampNeg) x2.toNatClampNeg) (fun y14 => if x3 = 0 then (some (.inl y14, M8)) else (if y14 = (-1) then (some (.inl y14, M8)) else (some (.inl (((M8 ((M8 a0 5).toNatClampNeg) 6) >>> (x2 &&& 31)) &&& 1), M8))))))))))))) else (some (.inr exN, M)))) (fun E3 => some (.inr E3, M))))) (fun E1 => some (.inr E1, M))))
set_option maxHeartbeats 4000000 in
set_option maxRecDepth 100000 in
theorem c_X9_held {l : Launch} {G : fw_G} {S : List fw_Sh} {M : fw_Mem} {a0 : Nat} {x1 : Int32} {x2 : Int32} {x3 : Int32} {r : ((Int32 ⊕ String) × fw_Mem)} (hl : l.stackTraces = false) (h : f_X9_held S M a0 x1 x2 x3 = some r) : fw_M l G yX9_held (.code yX9_held cX9_held 6 (some .int)) 7 (fw_mcO (fw_oI r.1, S, r.2)) (fw_msO (fw_oI r.1, S, r.2)) S M [.ref a0, .int x1, .int x2, .int x3] (fw_oI r.1, S, r.2) := by
  refine fw_of [(0, .ref a0), (1, .int x1), (2, .int x2), (3, .int x3)] (by decide) (Nat.le_of_ble_eq_true rfl) rfl ?_
  intro p e s m args below meth c C hr hlk hnm ht _
  unfold f_X9_held at h
  refine fw_aload_n C 0 dX9_held_0 rfl rfl ?_
  refine fw_iload_n C 1 dX9_held_1 rfl rfl ?_
  obtain ⟨g2, h⟩ := gd_some h
  obtain ⟨v1, e1, h⟩ := b1_some h
  rcases v1 with u1 | E1
  rotate_left
  · replace h := bx_r h
    obtain rfl := Option.some.inj h
    exact fw_callVX (ci := 9) [_] C (c_X9_suitAt hl e1) cal_X9_suitAt wm_X9_177 wi_yX9_suitAt wsl_yX9_suitAt (Nat.le_of_ble_eq_true rfl) rfl (gO_of g2) rfl (Nat.le_of_ble_eq_true rfl) ⟨Nat.le_of_ble_eq_true rfl, Nat.le_of_ble_eq_true rfl⟩ ⟨Nat.le_refl _, Nat.le_refl _⟩ dX9_held_2 ht hlk
  replace h := bx_l h
  rcases u1 with _ | w1
  · cases h
  refine fw_callV (ci := 9) [_] C (c_X9_suitAt hl e1) cal_X9_suitAt wm_X9_177 wi_yX9_suitAt wsl_yX9_suitAt (Nat.le_of_ble_eq_true rfl) rfl (gO_of g2) rfl (Nat.le_of_ble_eq_true rfl) ⟨Nat.le_of_ble_eq_true rfl, Nat.le_of_ble_eq_true rfl⟩ ⟨Nat.zero_le _, Nat.zero_le _⟩ dX9_held_2 ?_
  refine fw_astore C [(4, _), (0, _), (1, _), (2, _), (3, _)] dX9_held_5 (Nat.le_of_ble_eq_true rfl) rfl ?_
  refine fw_aload_n C 1 dX9_held_7 rfl rfl ?_
  refine fw_aload C 0 dX9_held_8 rfl ?_
  refine fw_iload_n C 3 dX9_held_10 rfl rfl ?_
  obtain ⟨v3, e3, h⟩ := b1_some h
  rcases v3 with u3 | E3
  rotate_left
  · replace h := bx_r h
    obtain rfl := Option.some.inj h
    exact fw_callVX (ci := 9) [_, _] C (c_X9_needIssue hl e3) cal_X9_needIssue wm_X9_271 wi_yX9_needIssue wsl_yX9_needIssue (Nat.le_of_ble_eq_true rfl) rfl (gO_of g2) rfl (Nat.le_of_ble_eq_true rfl) ⟨Nat.le_of_ble_eq_true rfl, Nat.le_of_ble_eq_true rfl⟩ ⟨Nat.le_refl _, Nat.le_refl _⟩ dX9_held_11 ht hlk
  replace h := bx_l h
  refine fw_callV (ci := 9) [_, _] C (c_X9_needIssue hl e3) cal_X9_needIssue wm_X9_271 wi_yX9_needIssue wsl_yX9_needIssue (Nat.le_of_ble_eq_true rfl) rfl (gO_of g2) rfl (Nat.le_of_ble_eq_true rfl) ⟨Nat.le_of_ble_eq_true rfl, Nat.le_of_ble_eq_true rfl⟩ ⟨Nat.zero_le _, Nat.zero_le _⟩ dX9_held_11 ?_
  refine fw_iload_n C 4 dX9_held_14 rfl rfl ?_
  refine fw_if_lt C 23 dX9_held_15 (by decide) (fun c4 => ?_) (fun c4 => ?_)
  · replace h := (if_pos c4).symm.trans h
    obtain rfl := Option.some.inj h
    exact fw_throwW C hl fw_exN (i := 49) (List.mem_of_getElem? (i := 30) rfl) dX9_held_23 dX9_held_26 dX9_held_27 dX9_held_30 dX9_held_33 ht hlk (Nat.le_of_ble_eq_true rfl) (Nat.le_of_ble_eq_true rfl) (Nat.le_refl _) (Nat.le_refl _)
  · replace h := (if_neg c4).symm.trans h
    refine fw_iload_n C 4 dX9_held_18 rfl rfl ?_
    refine fw_iconst C 2 dX9_held_19 rfl ?_
    refine fw_icmp_le C 34 dX9_held_20 (by decide) (fun c5 => ?_) (fun c5 => ?_)
    · replace h := (if_pos c5).symm.trans h
      refine fw_iload_n C 4 dX9_held_34 rfl rfl ?_
      refine fw_iconst C 2 dX9_held_35 rfl ?_
      refine fw_icmp_ne C 50 dX9_held_36 (by decide) (fun c6 => ?_) (fun c6 => ?_)
      · replace h := (if_neg c6).symm.trans h
        refine fw_aload_n C 1 dX9_held_50 rfl rfl ?_
        obtain ⟨g7, h⟩ := gd_some h
        refine fw_getR C 9 5 (Nat.le_of_ble_eq_true rfl) (Nat.le_of_ble_eq_true rfl) wf_X9_45 rfl (gO_of g2) (gN_of g7) dX9_held_51 ?_
        refine fw_aload C 0 dX9_held_54 rfl ?_
        obtain ⟨g9, h⟩ := gd_some h
        obtain ⟨M8, e8, h⟩ := b1_some h
        refine fw_callV (ci := 2) [_] C (c_X2_weigh hl e8) cal_X2_weigh wm_X9_281 wi_yX2_weigh wsl_yX2_weigh (Nat.le_of_ble_eq_true rfl) rfl (gO_of g9) rfl (Nat.le_of_ble_eq_true rfl) ⟨Nat.le_of_ble_eq_true rfl, Nat.le_of_ble_eq_true rfl⟩ ⟨Nat.zero_le _, Nat.zero_le _⟩ dX9_held_56 ?_
        refine fw_aload_n C 1 dX9_held_59 rfl rfl ?_
        obtain ⟨g10, h⟩ := gd_some h
        refine fw_getR C 9 5 (Nat.le_of_ble_eq_true rfl) (Nat.le_of_ble_eq_true rfl) wf_X9_45 rfl (gO_of g2) (gN_of g10) dX9_held_60 ?_
        obtain ⟨g11, h⟩ := gd_some h
        obtain ⟨g12, h⟩ := gd_some h
        refine fw_getR C 2 1 (Nat.le_of_ble_eq_true rfl) (Nat.le_of_ble_eq_true rfl) wf_X9_285 rfl (gO_of g11) (gN_of g12) dX9_held_63 ?_
        refine fw_iload_n C 3 dX9_held_66 rfl rfl ?_
        obtain ⟨g13, h⟩ := gd_some h
        refine fw_iald C (gA_of g13) dX9_held_67 ?_
        refine fw_bi h (fun y14 h => ?_)
        refine fw_istore C [(5, _), (4, _), (0, _), (1, _), (2, _), (3, _)] dX9_held_68 (Nat.le_of_ble_eq_true rfl) rfl ?_
        refine fw_iload_n C 5 dX9_held_70 rfl rfl ?_
        refine fw_if_eq C 80 dX9_held_71 (by decide) (fun c15 => ?_) (fun c15 => ?_)
        · replace h := (if_pos c15).symm.trans h
          refine fw_iload C 0 dX9_held_80 rfl ?_
          obtain rfl := Option.some.inj h
          exact fw_iret C hr hlk dX9_held_82
        · replace h := (if_neg c15).symm.trans h
          refine fw_iload C 0 dX9_held_74 rfl ?_
          refine fw_iconst C (-1) dX9_held_76 rfl ?_
          refine fw_icmp_ne C 83 dX9_held_77 (by decide) (fun c16 => ?_) (fun c16 => ?_)
          · replace h := (if_neg c16).symm.trans h
            refine fw_aload_n C 2 dX9_held_83 rfl rfl ?_
            refine fw_getR C 9 5 (Nat.le_of_ble_eq_true rfl) (Nat.le_of_ble_eq_true rfl) wf_X9_45 rfl (gO_of g2) (gN_of g10) dX9_held_84 ?_
            refine fw_getI C 2 6 (Nat.le_of_ble_eq_true rfl) (Nat.le_of_ble_eq_true rfl) wf_X9_288 rfl (gO_of g11) dX9_held_87 ?_
            refine fw_iload_n C 4 dX9_held_90 rfl rfl ?_
            refine fw_ishr C dX9_held_91 ?_
            refine fw_iconst C 1 dX9_held_92 rfl ?_
            refine fw_iand C dX9_held_93 ?_
            obtain rfl := Option.some.inj h
            exact fw_iret C hr hlk dX9_held_94
          · replace h := (if_pos c16).symm.trans h
            refine fw_iload C 0 dX9_held_80 rfl ?_
            obtain rfl := Option.some.inj h
            exact fw_iret C hr hlk dX9_held_82
      · replace h := (if_pos c6).symm.trans h
        refine fw_aload_n C 1 dX9_held_39 rfl rfl ?_
        obtain ⟨g17, h⟩ := gd_some h
        refine fw_getR C 9 5 (Nat.le_of_ble_eq_true rfl) (Nat.le_of_ble_eq_true rfl) wf_X9_45 rfl (gO_of g2) (gN_of g17) dX9_held_40 ?_
        refine fw_aload C 0 dX9_held_43 rfl ?_
        refine fw_iload_n C 3 dX9_held_45 rfl rfl ?_
        obtain ⟨g19, h⟩ := gd_some h
        obtain ⟨v18, e18, h⟩ := b1_some h
        refine fw_callV (ci := 2) [_, _] C (c_X2_holderCount hl e18) cal_X2_holderCount wm_X9_277 wi_yX2_holderCount wsl_yX2_holderCount (Nat.le_of_ble_eq_true rfl) rfl (gO_of g19) rfl (Nat.le_of_ble_eq_true rfl) ⟨Nat.le_of_ble_eq_true rfl, Nat.le_of_ble_eq_true rfl⟩ ⟨Nat.zero_le _, Nat.zero_le _⟩ dX9_held_46 ?_
        obtain rfl := Option.some.inj h
        exact fw_iret C hr hlk dX9_held_49
    · replace h := (if_neg c5).symm.trans h
      obtain rfl := Option.some.inj h
      exact fw_throwW C hl fw_exN (i := 49) (List.mem_of_getElem? (i := 30) rfl) dX9_held_23 dX9_held_26 dX9_held_27 dX9_held_30 dX9_held_33 ht hlk (Nat.le_of_ble_eq_true rfl) (Nat.le_of_ble_eq_true rfl) (Nat.le_refl _) (Nat.le_refl _)
set_option maxRecDepth 100000 in
def f_X2_heldIssues (S : List fw_Sh) (M : fw_Mem) (a0 : Nat) (a1 : Nat) : Option (Int32 × fw_Mem) := gd (gO S 2 a0) (b1 (f_X2_weigh S M a0 a1) (fun M1 => some (((M1 a0 6) ||| (M1 a0 7)), M1)))
set_option maxHeartbeats 4000000 in
set_option maxRecDepth 100000 in
theorem c_X2_heldIssues {l : Launch} {G : fw_G} {S : List fw_Sh} {M : fw_Mem} {a0 : Nat} {a1 : Nat} {r : (Int32 × fw_Mem)} (hl : l.stackTraces = false) (h : f_X2_heldIssues S M a0 a1 = some r) : fw_M l G yX2_heldIssues (.code yX2_heldIssues cX2_heldIssues 2 (some .int)) 5 (fw_mcO (.inl (some (.int r.1)), S, r.2)) (fw_msO (.inl (some (.int r.1)), S, r.2)) S M [.ref a0, .ref a1] (.inl (some (.int r.1)), S, r.2) := by
  refine fw_of [(0, .ref a0), (1, .ref a1)] (by decide) (Nat.le_of_ble_eq_true rfl) rfl ?_
  intro p e s m args below meth c C hr hlk hnm ht _
  unfold f_X2_heldIssues at h
  refine fw_aload_n C 0 dX2_heldIssues_0 rfl rfl ?_
  refine fw_aload_n C 1 dX2_heldIssues_1 rfl rfl ?_
  obtain ⟨g2, h⟩ := gd_some h
  obtain ⟨M1, e1, h⟩ := b1_some h
  refine fw_callV (ci := 2) [_] C (c_X2_weigh hl e1) cal_X2_weigh wm_X2_187 wi_yX2_weigh wsl_yX2_weigh (Nat.le_of_ble_eq_true rfl) rfl (gO_of g2) rfl (Nat.le_of_ble_eq_true rfl) ⟨Nat.le_of_ble_eq_true rfl, Nat.le_of_ble_eq_true rfl⟩ ⟨Nat.zero_le _, Nat.zero_le _⟩ dX2_heldIssues_2 ?_
  refine fw_aload_n C 0 dX2_heldIssues_5 rfl rfl ?_
  refine fw_getI C 2 6 (Nat.le_of_ble_eq_true rfl) (Nat.le_of_ble_eq_true rfl) wf_X2_169 rfl (gO_of g2) dX2_heldIssues_6 ?_
  refine fw_aload_n C 0 dX2_heldIssues_9 rfl rfl ?_
  refine fw_getI C 2 7 (Nat.le_of_ble_eq_true rfl) (Nat.le_of_ble_eq_true rfl) wf_X2_172 rfl (gO_of g2) dX2_heldIssues_10 ?_
  refine fw_ior C dX2_heldIssues_13 ?_
  obtain rfl := Option.some.inj h
  exact fw_iret C hr hlk dX2_heldIssues_14
set_option maxRecDepth 100000 in
def f_X9_issues (S : List fw_Sh) (M : fw_Mem) (a0 : Nat) (x1 : Int32) (x2 : Int32) : Option ((Int32 ⊕ String) × fw_Mem) := gd (gO S 9 a0) (b1 (f_X9_suitAt S M a0 x1) (fun v1 => bx v1 (fun u1 => bn u1 none (fun w1 => if x2 < 0 then (some (.inr exN, M)) else (if x2 ≤ 1 then (gd (gN (M a0 5)) (gd (gO S 2 ((M a0 5).toNatClampNeg)) (b2 (f_X2_heldIssues S M ((M a0 5).toNatClampNeg) w1) (fun v6 M6 => if x2 = 0 then (some (.inl v6, M6)) else (gd (gO S 6 w1) (b1 (f_X6_allIssues S M6 w1) (fun v9 => some (.inl (v9 &&& (v6 ^^^ (-1))), M6)))))))) else (some (.inr exN, M))))) (fun E1 => some (.inr E1, M))))
set_option maxHeartbeats 4000000 in
set_option maxRecDepth 100000 in
theorem c_X9_issues {l : Launch} {G : fw_G} {S : List fw_Sh} {M : fw_Mem} {a0 : Nat} {x1 : Int32} {x2 : Int32} {r : ((Int32 ⊕ String) × fw_Mem)} (hl : l.stackTraces = false) (h : f_X9_issues S M a0 x1 x2 = some r) : fw_M l G yX9_issues (.code yX9_issues cX9_issues 5 (some .int)) 7 (fw_mcO (fw_oI r.1, S, r.2)) (fw_msO (fw_oI r.1, S, r.2)) S M [.ref a0, .int x1, .int x2] (fw_oI r.1, S, r.2) := by
  refine fw_of [(0, .ref a0), (1, .int x1), (2, .int x2)] (by decide) (Nat.le_of_ble_eq_true rfl) rfl ?_
  intro p e s m args below meth c C hr hlk hnm ht _
  unfold f_X9_issues at h
  refine fw_aload_n C 0 dX9_issues_0 rfl rfl ?_
  refine fw_iload_n C 1 dX9_issues_1 rfl rfl ?_
  obtain ⟨g2, h⟩ := gd_some h
  obtain ⟨v1, e1, h⟩ := b1_some h
  rcases v1 with u1 | E1
  rotate_left
  · replace h := bx_r h
    obtain rfl := Option.some.inj h
    exact fw_callVX (ci := 9) [_] C (c_X9_suitAt hl e1) cal_X9_suitAt wm_X9_177 wi_yX9_suitAt wsl_yX9_suitAt (Nat.le_of_ble_eq_true rfl) rfl (gO_of g2) rfl (Nat.le_of_ble_eq_true rfl) ⟨Nat.le_of_ble_eq_true rfl, Nat.le_of_ble_eq_true rfl⟩ ⟨Nat.le_refl _, Nat.le_refl _⟩ dX9_issues_2 ht hlk
  replace h := bx_l h
  rcases u1 with _ | w1
  · cases h
  refine fw_callV (ci := 9) [_] C (c_X9_suitAt hl e1) cal_X9_suitAt wm_X9_177 wi_yX9_suitAt wsl_yX9_suitAt (Nat.le_of_ble_eq_true rfl) rfl (gO_of g2) rfl (Nat.le_of_ble_eq_true rfl) ⟨Nat.le_of_ble_eq_true rfl, Nat.le_of_ble_eq_true rfl⟩ ⟨Nat.zero_le _, Nat.zero_le _⟩ dX9_issues_2 ?_
  refine fw_astore_n C [(3, _), (0, _), (1, _), (2, _)] dX9_issues_5 rfl (Nat.le_of_ble_eq_true rfl) rfl ?_
  refine fw_iload_n C 3 dX9_issues_6 rfl rfl ?_
  refine fw_if_lt C 15 dX9_issues_7 (by decide) (fun c3 => ?_) (fun c3 => ?_)
  · replace h := (if_pos c3).symm.trans h
    obtain rfl := Option.some.inj h
    exact fw_throwW C hl fw_exN (i := 38) (List.mem_of_getElem? (i := 31) rfl) dX9_issues_15 dX9_issues_18 dX9_issues_19 dX9_issues_22 dX9_issues_25 ht hlk (Nat.le_of_ble_eq_true rfl) (Nat.le_of_ble_eq_true rfl) (Nat.le_refl _) (Nat.le_refl _)
  · replace h := (if_neg c3).symm.trans h
    refine fw_iload_n C 3 dX9_issues_10 rfl rfl ?_
    refine fw_iconst C 1 dX9_issues_11 rfl ?_
    refine fw_icmp_le C 26 dX9_issues_12 (by decide) (fun c4 => ?_) (fun c4 => ?_)
    · replace h := (if_pos c4).symm.trans h
      refine fw_aload_n C 1 dX9_issues_26 rfl rfl ?_
      obtain ⟨g5, h⟩ := gd_some h
      refine fw_getR C 9 5 (Nat.le_of_ble_eq_true rfl) (Nat.le_of_ble_eq_true rfl) wf_X9_45 rfl (gO_of g2) (gN_of g5) dX9_issues_27 ?_
      refine fw_aload_n C 0 dX9_issues_30 rfl rfl ?_
      obtain ⟨g7, h⟩ := gd_some h
      obtain ⟨v6, M6, e6, h⟩ := b2_some h
      refine fw_callV (ci := 2) [_] C (c_X2_heldIssues hl e6) cal_X2_heldIssues wm_X9_293 wi_yX2_heldIssues wsl_yX2_heldIssues (Nat.le_of_ble_eq_true rfl) rfl (gO_of g7) rfl (Nat.le_of_ble_eq_true rfl) ⟨Nat.le_of_ble_eq_true rfl, Nat.le_of_ble_eq_true rfl⟩ ⟨Nat.zero_le _, Nat.zero_le _⟩ dX9_issues_31 ?_
      refine fw_istore C [(4, _), (3, _), (0, _), (1, _), (2, _)] dX9_issues_34 (Nat.le_of_ble_eq_true rfl) rfl ?_
      refine fw_iload_n C 4 dX9_issues_36 rfl rfl ?_
      refine fw_if_ne C 45 dX9_issues_37 (by decide) (fun c8 => ?_) (fun c8 => ?_)
      · replace h := (if_neg c8).symm.trans h
        refine fw_aload_n C 1 dX9_issues_45 rfl rfl ?_
        obtain ⟨g10, h⟩ := gd_some h
        obtain ⟨v9, e9, h⟩ := b1_some h
        refine fw_callV (ci := 6) [] C (c_X6_allIssues hl e9) cal_X6_allIssues wm_X9_296 wi_yX6_allIssues wsl_yX6_allIssues (Nat.le_of_ble_eq_true rfl) rfl (gO_of g10) rfl (Nat.le_of_ble_eq_true rfl) ⟨Nat.le_of_ble_eq_true rfl, Nat.le_of_ble_eq_true rfl⟩ ⟨Nat.zero_le _, Nat.zero_le _⟩ dX9_issues_46 ?_
        refine fw_iload C 0 dX9_issues_49 rfl ?_
        refine fw_iconst C (-1) dX9_issues_51 rfl ?_
        refine fw_ixor C dX9_issues_52 ?_
        refine fw_iand C dX9_issues_53 ?_
        obtain rfl := Option.some.inj h
        exact fw_iret C hr hlk dX9_issues_54
      · replace h := (if_pos c8).symm.trans h
        refine fw_iload C 0 dX9_issues_40 rfl ?_
        refine fw_goto C 54 dX9_issues_42 (by decide) ?_
        obtain rfl := Option.some.inj h
        exact fw_iret C hr hlk dX9_issues_54
    · replace h := (if_neg c4).symm.trans h
      obtain rfl := Option.some.inj h
      exact fw_throwW C hl fw_exN (i := 38) (List.mem_of_getElem? (i := 31) rfl) dX9_issues_15 dX9_issues_18 dX9_issues_19 dX9_issues_22 dX9_issues_25 ht hlk (Nat.le_of_ble_eq_true rfl) (Nat.le_of_ble_eq_true rfl) (Nat.le_refl _) (Nat.le_refl _)
set_option maxRecDepth 100000 in
def f_X2_forcedWay (S : List fw_Sh) (M : fw_Mem) (a0 : Nat) (a1 : Nat) : Option (Int32 × fw_Mem) := gd (gO S 2 a0) (b1 (f_X2_barringSuits S M a0 a1) (fun v1 => if v1 = 0 then (b1 (f_X2_weigh S M a0 a1) (fun M4 => gd (gO S 6 a1) (if (((M4 a1 5) &&& (M4 a0 7)) ||| ((M4 a1 6) &&& (M4 a0 6))) = 0 then (if (((M4 a1 5) &&& ((M4 a0 6) ^^^ (-1))) ||| ((M4 a1 6) &&& ((M4 a0 7) ^^^ (-1)))) = 0 then (some (0, M4)) else (some ((-1), M4))) else (some (1, M4))))) else (some (2, M))))
set_option maxHeartbeats 4000000 in
set_option maxRecDepth 100000 in
theorem c_X2_forcedWay {l : Launch} {G : fw_G} {S : List fw_Sh} {M : fw_Mem} {a0 : Nat} {a1 : Nat} {r : (Int32 × fw_Mem)} (hl : l.stackTraces = false) (h : f_X2_forcedWay S M a0 a1 = some r) : fw_M l G yX2_forcedWay (.code yX2_forcedWay cX2_forcedWay 2 (some .int)) 5 (fw_mcO (.inl (some (.int r.1)), S, r.2)) (fw_msO (.inl (some (.int r.1)), S, r.2)) S M [.ref a0, .ref a1] (.inl (some (.int r.1)), S, r.2) := by
  refine fw_of [(0, .ref a0), (1, .ref a1)] (by decide) (Nat.le_of_ble_eq_true rfl) rfl ?_
  intro p e s m args below meth c C hr hlk hnm ht _
  unfold f_X2_forcedWay at h
  refine fw_aload_n C 0 dX2_forcedWay_0 rfl rfl ?_
  refine fw_aload_n C 1 dX2_forcedWay_1 rfl rfl ?_
  obtain ⟨g2, h⟩ := gd_some h
  obtain ⟨v1, e1, h⟩ := b1_some h
  refine fw_callV (ci := 2) [_] C (c_X2_barringSuits hl e1) cal_X2_barringSuits wm_X2_191 wi_yX2_barringSuits wsl_yX2_barringSuits (Nat.le_of_ble_eq_true rfl) rfl (gO_of g2) rfl (Nat.le_of_ble_eq_true rfl) ⟨Nat.le_of_ble_eq_true rfl, Nat.le_of_ble_eq_true rfl⟩ ⟨Nat.zero_le _, Nat.zero_le _⟩ dX2_forcedWay_2 ?_
  refine fw_if_eq C 10 dX2_forcedWay_5 (by decide) (fun c3 => ?_) (fun c3 => ?_)
  · replace h := (if_pos c3).symm.trans h
    refine fw_aload_n C 0 dX2_forcedWay_10 rfl rfl ?_
    refine fw_aload_n C 1 dX2_forcedWay_11 rfl rfl ?_
    obtain ⟨M4, e4, h⟩ := b1_some h
    refine fw_callV (ci := 2) [_] C (c_X2_weigh hl e4) cal_X2_weigh wm_X2_187 wi_yX2_weigh wsl_yX2_weigh (Nat.le_of_ble_eq_true rfl) rfl (gO_of g2) rfl (Nat.le_of_ble_eq_true rfl) ⟨Nat.le_of_ble_eq_true rfl, Nat.le_of_ble_eq_true rfl⟩ ⟨Nat.zero_le _, Nat.zero_le _⟩ dX2_forcedWay_12 ?_
    refine fw_aload_n C 1 dX2_forcedWay_15 rfl rfl ?_
    obtain ⟨g5, h⟩ := gd_some h
    refine fw_getI C 6 5 (Nat.le_of_ble_eq_true rfl) (Nat.le_of_ble_eq_true rfl) wf_X2_163 rfl (gO_of g5) dX2_forcedWay_16 ?_
    refine fw_aload_n C 0 dX2_forcedWay_19 rfl rfl ?_
    refine fw_getI C 2 7 (Nat.le_of_ble_eq_true rfl) (Nat.le_of_ble_eq_true rfl) wf_X2_172 rfl (gO_of g2) dX2_forcedWay_20 ?_
    refine fw_iand C dX2_forcedWay_23 ?_
    refine fw_aload_n C 1 dX2_forcedWay_24 rfl rfl ?_
    refine fw_getI C 6 6 (Nat.le_of_ble_eq_true rfl) (Nat.le_of_ble_eq_true rfl) wf_X2_166 rfl (gO_of g5) dX2_forcedWay_25 ?_
    refine fw_aload_n C 0 dX2_forcedWay_28 rfl rfl ?_
    refine fw_getI C 2 6 (Nat.le_of_ble_eq_true rfl) (Nat.le_of_ble_eq_true rfl) wf_X2_169 rfl (gO_of g2) dX2_forcedWay_29 ?_
    refine fw_iand C dX2_forcedWay_32 ?_
    refine fw_ior C dX2_forcedWay_33 ?_
    refine fw_if_eq C 39 dX2_forcedWay_34 (by decide) (fun c6 => ?_) (fun c6 => ?_)
    · replace h := (if_pos c6).symm.trans h
      refine fw_aload_n C 1 dX2_forcedWay_39 rfl rfl ?_
      refine fw_getI C 6 5 (Nat.le_of_ble_eq_true rfl) (Nat.le_of_ble_eq_true rfl) wf_X2_163 rfl (gO_of g5) dX2_forcedWay_40 ?_
      refine fw_aload_n C 0 dX2_forcedWay_43 rfl rfl ?_
      refine fw_getI C 2 6 (Nat.le_of_ble_eq_true rfl) (Nat.le_of_ble_eq_true rfl) wf_X2_169 rfl (gO_of g2) dX2_forcedWay_44 ?_
      refine fw_iconst C (-1) dX2_forcedWay_47 rfl ?_
      refine fw_ixor C dX2_forcedWay_48 ?_
      refine fw_iand C dX2_forcedWay_49 ?_
      refine fw_aload_n C 1 dX2_forcedWay_50 rfl rfl ?_
      refine fw_getI C 6 6 (Nat.le_of_ble_eq_true rfl) (Nat.le_of_ble_eq_true rfl) wf_X2_166 rfl (gO_of g5) dX2_forcedWay_51 ?_
      refine fw_aload_n C 0 dX2_forcedWay_54 rfl rfl ?_
      refine fw_getI C 2 7 (Nat.le_of_ble_eq_true rfl) (Nat.le_of_ble_eq_true rfl) wf_X2_172 rfl (gO_of g2) dX2_forcedWay_55 ?_
      refine fw_iconst C (-1) dX2_forcedWay_58 rfl ?_
      refine fw_ixor C dX2_forcedWay_59 ?_
      refine fw_iand C dX2_forcedWay_60 ?_
      refine fw_ior C dX2_forcedWay_61 ?_
      refine fw_if_ne C 69 dX2_forcedWay_62 (by decide) (fun c7 => ?_) (fun c7 => ?_)
      · replace h := (if_neg c7).symm.trans h
        refine fw_iconst C (-1) dX2_forcedWay_69 rfl ?_
        obtain rfl := Option.some.inj h
        exact fw_iret C hr hlk dX2_forcedWay_70
      · replace h := (if_pos c7).symm.trans h
        refine fw_iconst C 0 dX2_forcedWay_65 rfl ?_
        refine fw_goto C 70 dX2_forcedWay_66 (by decide) ?_
        obtain rfl := Option.some.inj h
        exact fw_iret C hr hlk dX2_forcedWay_70
    · replace h := (if_neg c6).symm.trans h
      refine fw_iconst C 1 dX2_forcedWay_37 rfl ?_
      obtain rfl := Option.some.inj h
      exact fw_iret C hr hlk dX2_forcedWay_38
  · replace h := (if_neg c3).symm.trans h
    refine fw_iconst C 2 dX2_forcedWay_8 rfl ?_
    obtain rfl := Option.some.inj h
    exact fw_iret C hr hlk dX2_forcedWay_9
set_option maxRecDepth 100000 in
def f_X9_forced (S : List fw_Sh) (M : fw_Mem) (a0 : Nat) (x1 : Int32) : Option ((Int32 ⊕ String) × fw_Mem) := gd (gO S 9 a0) (gd (gN (M a0 5)) (b1 (f_X9_suitAt S M a0 x1) (fun v3 => bx v3 (fun u3 => bn u3 none (fun w3 => gd (gO S 2 ((M a0 5).toNatClampNeg)) (b2 (f_X2_forcedWay S M ((M a0 5).toNatClampNeg) w3) (fun v4 M4 => some (.inl v4, M4))))) (fun E3 => some (.inr E3, M)))))
set_option maxHeartbeats 4000000 in
set_option maxRecDepth 100000 in
theorem c_X9_forced {l : Launch} {G : fw_G} {S : List fw_Sh} {M : fw_Mem} {a0 : Nat} {x1 : Int32} {r : ((Int32 ⊕ String) × fw_Mem)} (hl : l.stackTraces = false) (h : f_X9_forced S M a0 x1 = some r) : fw_M l G yX9_forced (.code yX9_forced cX9_forced 2 (some .int)) 7 (fw_mcO (fw_oI r.1, S, r.2)) (fw_msO (fw_oI r.1, S, r.2)) S M [.ref a0, .int x1] (fw_oI r.1, S, r.2) := by
  refine fw_of [(0, .ref a0), (1, .int x1)] (by decide) (Nat.le_of_ble_eq_true rfl) rfl ?_
  intro p e s m args below meth c C hr hlk hnm ht _
  unfold f_X9_forced at h
  refine fw_aload_n C 0 dX9_forced_0 rfl rfl ?_
  obtain ⟨g1, h⟩ := gd_some h
  obtain ⟨g2, h⟩ := gd_some h
  refine fw_getR C 9 5 (Nat.le_of_ble_eq_true rfl) (Nat.le_of_ble_eq_true rfl) wf_X9_45 rfl (gO_of g1) (gN_of g2) dX9_forced_1 ?_
  refine fw_aload_n C 0 dX9_forced_4 rfl rfl ?_
  refine fw_iload_n C 1 dX9_forced_5 rfl rfl ?_
  obtain ⟨v3, e3, h⟩ := b1_some h
  rcases v3 with u3 | E3
  rotate_left
  · replace h := bx_r h
    obtain rfl := Option.some.inj h
    exact fw_callVX (ci := 9) [_] C (c_X9_suitAt hl e3) cal_X9_suitAt wm_X9_177 wi_yX9_suitAt wsl_yX9_suitAt (Nat.le_of_ble_eq_true rfl) rfl (gO_of g1) rfl (Nat.le_of_ble_eq_true rfl) ⟨Nat.le_of_ble_eq_true rfl, Nat.le_of_ble_eq_true rfl⟩ ⟨Nat.le_refl _, Nat.le_refl _⟩ dX9_forced_6 ht hlk
  replace h := bx_l h
  rcases u3 with _ | w3
  · cases h
  refine fw_callV (ci := 9) [_] C (c_X9_suitAt hl e3) cal_X9_suitAt wm_X9_177 wi_yX9_suitAt wsl_yX9_suitAt (Nat.le_of_ble_eq_true rfl) rfl (gO_of g1) rfl (Nat.le_of_ble_eq_true rfl) ⟨Nat.le_of_ble_eq_true rfl, Nat.le_of_ble_eq_true rfl⟩ ⟨Nat.zero_le _, Nat.zero_le _⟩ dX9_forced_6 ?_
  obtain ⟨g5, h⟩ := gd_some h
  obtain ⟨v4, M4, e4, h⟩ := b2_some h
  refine fw_callV (ci := 2) [_] C (c_X2_forcedWay hl e4) cal_X2_forcedWay wm_X9_299 wi_yX2_forcedWay wsl_yX2_forcedWay (Nat.le_of_ble_eq_true rfl) rfl (gO_of g5) rfl (Nat.le_of_ble_eq_true rfl) ⟨Nat.le_of_ble_eq_true rfl, Nat.le_of_ble_eq_true rfl⟩ ⟨Nat.zero_le _, Nat.zero_le _⟩ dX9_forced_9 ?_
  obtain rfl := Option.some.inj h
  exact fw_iret C hr hlk dX9_forced_12
set_option maxRecDepth 100000 in
def f_X5_addSign (S : List fw_Sh) (M : fw_Mem) (a0 : Nat) (x1 : Int32) : Option fw_Mem := gd (gO S 5 a0) (if (256 : Int32) ≤ (M a0 1) then (some M) else (gd (gN (M a0 0)) (gd (gA S 1 ((M a0 0).toNatClampNeg) (M a0 1)) (bm (fw_set M ((M a0 0).toNatClampNeg) (M a0 1).toNatClampNeg (vp_nar .byte ((x1 : Int32).toInt8.toInt32))) (fun M5 => bm (fw_set M5 a0 1 ((M5 a0 1) + 1)) (fun M6 => some M6))))))
set_option maxHeartbeats 4000000 in
set_option maxRecDepth 100000 in
theorem c_X5_addSign {l : Launch} {G : fw_G} {S : List fw_Sh} {M : fw_Mem} {a0 : Nat} {x1 : Int32} {r : fw_Mem} (hl : l.stackTraces = false) (h : f_X5_addSign S M a0 x1 = some r) : fw_M l G yX5_addSign (.code yX5_addSign cX5_addSign 2 none) 1 (fw_mcO (.inl none, S, r)) (fw_msO (.inl none, S, r)) S M [.ref a0, .int x1] (.inl none, S, r) := by
  refine fw_of [(0, .ref a0), (1, .int x1)] (by decide) (Nat.le_of_ble_eq_true rfl) rfl ?_
  intro p e s m args below meth c C hr hlk hnm ht _
  unfold f_X5_addSign at h
  refine fw_aload_n C 0 dX5_addSign_0 rfl rfl ?_
  obtain ⟨g1, h⟩ := gd_some h
  refine fw_getI C 5 1 (Nat.le_of_ble_eq_true rfl) (Nat.le_of_ble_eq_true rfl) wf_X5_15 rfl (gO_of g1) dX5_addSign_1 ?_
  refine fw_sipush C 256 dX5_addSign_4 rfl ?_
  refine fw_icmp_ge C 31 dX5_addSign_7 (by decide) (fun c2 => ?_) (fun c2 => ?_)
  · replace h := (if_pos c2).symm.trans h
    obtain rfl := Option.some.inj h
    exact fw_vret C hr hlk dX5_addSign_31
  · replace h := (if_neg c2).symm.trans h
    refine fw_aload_n C 0 dX5_addSign_10 rfl rfl ?_
    obtain ⟨g3, h⟩ := gd_some h
    refine fw_getR C 5 0 (Nat.le_of_ble_eq_true rfl) (Nat.le_of_ble_eq_true rfl) wf_X5_9 rfl (gO_of g1) (gN_of g3) dX5_addSign_11 ?_
    refine fw_aload_n C 0 dX5_addSign_14 rfl rfl ?_
    refine fw_getI C 5 1 (Nat.le_of_ble_eq_true rfl) (Nat.le_of_ble_eq_true rfl) wf_X5_15 rfl (gO_of g1) dX5_addSign_15 ?_
    refine fw_iload_n C 1 dX5_addSign_18 rfl rfl ?_
    refine fw_i2b C dX5_addSign_19 ?_
    obtain ⟨g4, h⟩ := gd_some h
    refine fw_bast C (gA_of g4) dX5_addSign_20 ?_
    refine fw_bm h (fun M5 h => ?_)
    refine fw_aload_n C 0 dX5_addSign_21 rfl rfl ?_
    refine fw_dup C dX5_addSign_22 rfl ?_
    refine fw_getI C 5 1 (Nat.le_of_ble_eq_true rfl) (Nat.le_of_ble_eq_true rfl) wf_X5_15 rfl (gO_of g1) dX5_addSign_23 ?_
    refine fw_iconst C 1 dX5_addSign_26 rfl ?_
    refine fw_iadd C dX5_addSign_27 ?_
    refine fw_putI C 5 1 (Nat.le_of_ble_eq_true rfl) (Nat.le_of_ble_eq_true rfl) wf_X5_15 rfl rfl rfl rfl (gO_of g1) dX5_addSign_28 ?_
    refine fw_bm h (fun M6 h => ?_)
    obtain rfl := Option.some.inj h
    exact fw_vret C hr hlk dX5_addSign_31
set_option maxRecDepth 100000 in
def fj_X5_addNumber_18 (S : List fw_Sh) (M : fw_Mem) (a0 : Nat) (x1 : Int32) : Option fw_Mem := gd (gO S 5 a0) (b1 (f_X5_addSign S M a0 ((((48 : Int32) + (x1 - x1 / 10 * 10) : Int32).toUInt32 % 65536).toInt32)) (fun M6 => some M6))
set_option maxHeartbeats 4000000 in
set_option maxRecDepth 100000 in
theorem jc_X5_addNumber_18 {G : fw_G} {p : Program} {l : Launch} {e : Env} {s : State} {m : MethodId} {args : Array Value} {below : List Frame} {meth : Method} {c : Code} {S : List fw_Sh} {M : fw_Mem} {a0 : Nat} {x1 : Int32} {r : fw_Mem} {o : fw_O} (C : fw_C G RX5 cX5_addNumber 2 p s m args c) (hr : meth.sig.returnType = none) (hlk : meth.locks = false) (hl : l.stackTraces = false) (ht : ∀ x ∈ c.exceptionTable.toList, False) (ho : o = (.inl none, S, r)) (h : fj_X5_addNumber_18 S M a0 x1 = some r) :
    fw_W G p l e (fw_rm 2 (fw_mcO o) (fw_msO o)) s m args below meth c 2 (fw_Z G below args s (fw_mcO o) (fw_msO o) o) 0 0 18 [(0, .ref a0), (1, .int x1)] [] S M := by
  subst ho
  unfold fj_X5_addNumber_18 at h
  refine fw_aload_n C 0 dX5_addNumber_18 rfl rfl ?_
  refine fw_bipush C 48 dX5_addNumber_19 rfl ?_
  refine fw_iload_n C 1 dX5_addNumber_21 rfl rfl ?_
  refine fw_bipush C 10 dX5_addNumber_22 rfl ?_
  refine fw_irem C dX5_addNumber_24 (by decide) ?_
  refine fw_iadd C dX5_addNumber_25 ?_
  refine fw_i2c C dX5_addNumber_26 ?_
  obtain ⟨g7, h⟩ := gd_some h
  obtain ⟨M6, e6, h⟩ := b1_some h
  refine fw_callV (ci := 5) [_] C (c_X5_addSign hl e6) cal_X5_addSign wm_X5_19 wi_yX5_addSign wsl_yX5_addSign (Nat.le_of_ble_eq_true rfl) rfl (gO_of g7) rfl (Nat.le_of_ble_eq_true rfl) ⟨Nat.le_of_ble_eq_true rfl, Nat.le_of_ble_eq_true rfl⟩ ⟨Nat.zero_le _, Nat.zero_le _⟩ dX5_addNumber_27 ?_
  obtain rfl := Option.some.inj h
  exact fw_vret C hr hlk dX5_addNumber_30
set_option maxRecDepth 100000 in
def f_X5_addNumber (S : List fw_Sh) (M : fw_Mem) (a0 : Nat) (x1 : Int32) : Option fw_Mem := if x1 < 10 then (gd (gO S 5 a0) (b1 (f_X5_addSign S M a0 ((((48 : Int32) + (x1 - x1 / 10 * 10) : Int32).toUInt32 % 65536).toInt32)) (fun M2 => some M2))) else (gd (gO S 5 a0) (b1 (f_X5_addSign S M a0 ((((48 : Int32) + (x1 / 10) : Int32).toUInt32 % 65536).toInt32)) (fun M4 => fj_X5_addNumber_18 S M4 a0 x1)))
set_option maxHeartbeats 4000000 in
set_option maxRecDepth 100000 in
theorem c_X5_addNumber {l : Launch} {G : fw_G} {S : List fw_Sh} {M : fw_Mem} {a0 : Nat} {x1 : Int32} {r : fw_Mem} (hl : l.stackTraces = false) (h : f_X5_addNumber S M a0 x1 = some r) : fw_M l G yX5_addNumber (.code yX5_addNumber cX5_addNumber 2 none) 2 (fw_mcO (.inl none, S, r)) (fw_msO (.inl none, S, r)) S M [.ref a0, .int x1] (.inl none, S, r) := by
  refine fw_of [(0, .ref a0), (1, .int x1)] (by decide) (Nat.le_of_ble_eq_true rfl) rfl ?_
  intro p e s m args below meth c C hr hlk hnm ht _
  unfold f_X5_addNumber at h
  refine fw_iload_n C 1 dX5_addNumber_0 rfl rfl ?_
  refine fw_bipush C 10 dX5_addNumber_1 rfl ?_
  refine fw_icmp_lt C 18 dX5_addNumber_3 (by decide) (fun c1 => ?_) (fun c1 => ?_)
  · replace h := (if_pos c1).symm.trans h
    refine fw_aload_n C 0 dX5_addNumber_18 rfl rfl ?_
    refine fw_bipush C 48 dX5_addNumber_19 rfl ?_
    refine fw_iload_n C 1 dX5_addNumber_21 rfl rfl ?_
    refine fw_bipush C 10 dX5_addNumber_22 rfl ?_
    refine fw_irem C dX5_addNumber_24 (by decide) ?_
    refine fw_iadd C dX5_addNumber_25 ?_
    refine fw_i2c C dX5_addNumber_26 ?_
    obtain ⟨g3, h⟩ := gd_some h
    obtain ⟨M2, e2, h⟩ := b1_some h
    refine fw_callV (ci := 5) [_] C (c_X5_addSign hl e2) cal_X5_addSign wm_X5_19 wi_yX5_addSign wsl_yX5_addSign (Nat.le_of_ble_eq_true rfl) rfl (gO_of g3) rfl (Nat.le_of_ble_eq_true rfl) ⟨Nat.le_of_ble_eq_true rfl, Nat.le_of_ble_eq_true rfl⟩ ⟨Nat.zero_le _, Nat.zero_le _⟩ dX5_addNumber_27 ?_
    obtain rfl := Option.some.inj h
    exact fw_vret C hr hlk dX5_addNumber_30
  · replace h := (if_neg c1).symm.trans h
    refine fw_aload_n C 0 dX5_addNumber_6 rfl rfl ?_
    refine fw_bipush C 48 dX5_addNumber_7 rfl ?_
    refine fw_iload_n C 1 dX5_addNumber_9 rfl rfl ?_
    refine fw_bipush C 10 dX5_addNumber_10 rfl ?_
    refine fw_idiv C dX5_addNumber_12 (by decide) ?_
    refine fw_iadd C dX5_addNumber_13 ?_
    refine fw_i2c C dX5_addNumber_14 ?_
    obtain ⟨g5, h⟩ := gd_some h
    obtain ⟨M4, e4, h⟩ := b1_some h
    refine fw_callV (ci := 5) [_] C (c_X5_addSign hl e4) cal_X5_addSign wm_X5_19 wi_yX5_addSign wsl_yX5_addSign (Nat.le_of_ble_eq_true rfl) rfl (gO_of g5) rfl (Nat.le_of_ble_eq_true rfl) ⟨Nat.le_of_ble_eq_true rfl, Nat.le_of_ble_eq_true rfl⟩ ⟨Nat.zero_le _, Nat.zero_le _⟩ dX5_addNumber_15 ?_
    exact jc_X5_addNumber_18 C hr hlk hl ht rfl h
set_option maxRecDepth 100000 in
def fj_X5_addHeld_13 (S : List fw_Sh) (M : fw_Mem) (a0 : Nat) (x1 : Int32) (x2 : Int32) (x3 : Int32) : Option fw_Mem := gd (gO S 5 a0) (b1 (f_X5_addNumber S M a0 x1) (fun M12 => if x2 = 0 then (b1 (f_X5_addSign S M12 a0 110) (fun M15 => b1 (f_X5_addSign S M15 a0 64) (fun M16 => b1 (f_X5_addNumber S M16 a0 x3) (fun M17 => some M17)))) else (b1 (f_X5_addSign S M12 a0 121) (fun M18 => b1 (f_X5_addSign S M18 a0 64) (fun M19 => b1 (f_X5_addNumber S M19 a0 x3) (fun M20 => some M20))))))
set_option maxHeartbeats 4000000 in
set_option maxRecDepth 100000 in
theorem jc_X5_addHeld_13 {G : fw_G} {p : Program} {l : Launch} {e : Env} {s : State} {m : MethodId} {args : Array Value} {below : List Frame} {meth : Method} {c : Code} {S : List fw_Sh} {M : fw_Mem} {a0 : Nat} {x1 : Int32} {x2 : Int32} {x3 : Int32} {r : fw_Mem} {o : fw_O} (C : fw_C G RX5 cX5_addHeld 4 p s m args c) (hr : meth.sig.returnType = none) (hlk : meth.locks = false) (hl : l.stackTraces = false) (ht : ∀ x ∈ c.exceptionTable.toList, False) (ho : o = (.inl none, S, r)) (h : fj_X5_addHeld_13 S M a0 x1 x2 x3 = some r) :
    fw_W G p l e (fw_rm 3 (fw_mcO o) (fw_msO o)) s m args below meth c 4 (fw_Z G below args s (fw_mcO o) (fw_msO o) o) 0 0 13 [(0, .ref a0), (1, .int x1), (2, .int x2), (3, .int x3)] [] S M := by
  subst ho
  unfold fj_X5_addHeld_13 at h
  refine fw_aload_n C 0 dX5_addHeld_13 rfl rfl ?_
  refine fw_iload_n C 1 dX5_addHeld_14 rfl rfl ?_
  obtain ⟨g13, h⟩ := gd_some h
  obtain ⟨M12, e12, h⟩ := b1_some h
  refine fw_callV (ci := 5) [_] C (c_X5_addNumber hl e12) cal_X5_addNumber wm_X5_23 wi_yX5_addNumber wsl_yX5_addNumber (Nat.le_of_ble_eq_true rfl) rfl (gO_of g13) rfl (Nat.le_of_ble_eq_true rfl) ⟨Nat.le_of_ble_eq_true rfl, Nat.le_of_ble_eq_true rfl⟩ ⟨Nat.zero_le _, Nat.zero_le _⟩ dX5_addHeld_15 ?_
  refine fw_aload_n C 0 dX5_addHeld_18 rfl rfl ?_
  refine fw_iload_n C 2 dX5_addHeld_19 rfl rfl ?_
  refine fw_if_eq C 28 dX5_addHeld_20 (by decide) (fun c14 => ?_) (fun c14 => ?_)
  · replace h := (if_pos c14).symm.trans h
    refine fw_bipush C 110 dX5_addHeld_28 rfl ?_
    obtain ⟨M15, e15, h⟩ := b1_some h
    refine fw_callV (ci := 5) [_] C (c_X5_addSign hl e15) cal_X5_addSign wm_X5_19 wi_yX5_addSign wsl_yX5_addSign (Nat.le_of_ble_eq_true rfl) rfl (gO_of g13) rfl (Nat.le_of_ble_eq_true rfl) ⟨Nat.le_of_ble_eq_true rfl, Nat.le_of_ble_eq_true rfl⟩ ⟨Nat.zero_le _, Nat.zero_le _⟩ dX5_addHeld_30 ?_
    refine fw_aload_n C 0 dX5_addHeld_33 rfl rfl ?_
    refine fw_bipush C 64 dX5_addHeld_34 rfl ?_
    obtain ⟨M16, e16, h⟩ := b1_some h
    refine fw_callV (ci := 5) [_] C (c_X5_addSign hl e16) cal_X5_addSign wm_X5_19 wi_yX5_addSign wsl_yX5_addSign (Nat.le_of_ble_eq_true rfl) rfl (gO_of g13) rfl (Nat.le_of_ble_eq_true rfl) ⟨Nat.le_of_ble_eq_true rfl, Nat.le_of_ble_eq_true rfl⟩ ⟨Nat.zero_le _, Nat.zero_le _⟩ dX5_addHeld_36 ?_
    refine fw_aload_n C 0 dX5_addHeld_39 rfl rfl ?_
    refine fw_iload_n C 3 dX5_addHeld_40 rfl rfl ?_
    obtain ⟨M17, e17, h⟩ := b1_some h
    refine fw_callV (ci := 5) [_] C (c_X5_addNumber hl e17) cal_X5_addNumber wm_X5_23 wi_yX5_addNumber wsl_yX5_addNumber (Nat.le_of_ble_eq_true rfl) rfl (gO_of g13) rfl (Nat.le_of_ble_eq_true rfl) ⟨Nat.le_of_ble_eq_true rfl, Nat.le_of_ble_eq_true rfl⟩ ⟨Nat.zero_le _, Nat.zero_le _⟩ dX5_addHeld_41 ?_
    obtain rfl := Option.some.inj h
    exact fw_vret C hr hlk dX5_addHeld_44
  · replace h := (if_neg c14).symm.trans h
    refine fw_bipush C 121 dX5_addHeld_23 rfl ?_
    refine fw_goto C 30 dX5_addHeld_25 (by decide) ?_
    obtain ⟨M18, e18, h⟩ := b1_some h
    refine fw_callV (ci := 5) [_] C (c_X5_addSign hl e18) cal_X5_addSign wm_X5_19 wi_yX5_addSign wsl_yX5_addSign (Nat.le_of_ble_eq_true rfl) rfl (gO_of g13) rfl (Nat.le_of_ble_eq_true rfl) ⟨Nat.le_of_ble_eq_true rfl, Nat.le_of_ble_eq_true rfl⟩ ⟨Nat.zero_le _, Nat.zero_le _⟩ dX5_addHeld_30 ?_
    refine fw_aload_n C 0 dX5_addHeld_33 rfl rfl ?_
    refine fw_bipush C 64 dX5_addHeld_34 rfl ?_
    obtain ⟨M19, e19, h⟩ := b1_some h
    refine fw_callV (ci := 5) [_] C (c_X5_addSign hl e19) cal_X5_addSign wm_X5_19 wi_yX5_addSign wsl_yX5_addSign (Nat.le_of_ble_eq_true rfl) rfl (gO_of g13) rfl (Nat.le_of_ble_eq_true rfl) ⟨Nat.le_of_ble_eq_true rfl, Nat.le_of_ble_eq_true rfl⟩ ⟨Nat.zero_le _, Nat.zero_le _⟩ dX5_addHeld_36 ?_
    refine fw_aload_n C 0 dX5_addHeld_39 rfl rfl ?_
    refine fw_iload_n C 3 dX5_addHeld_40 rfl rfl ?_
    obtain ⟨M20, e20, h⟩ := b1_some h
    refine fw_callV (ci := 5) [_] C (c_X5_addNumber hl e20) cal_X5_addNumber wm_X5_23 wi_yX5_addNumber wsl_yX5_addNumber (Nat.le_of_ble_eq_true rfl) rfl (gO_of g13) rfl (Nat.le_of_ble_eq_true rfl) ⟨Nat.le_of_ble_eq_true rfl, Nat.le_of_ble_eq_true rfl⟩ ⟨Nat.zero_le _, Nat.zero_le _⟩ dX5_addHeld_41 ?_
    obtain rfl := Option.some.inj h
    exact fw_vret C hr hlk dX5_addHeld_44
set_option maxRecDepth 100000 in
def f_X5_addHeld (S : List fw_Sh) (M : fw_Mem) (a0 : Nat) (x1 : Int32) (x2 : Int32) (x3 : Int32) : Option fw_Mem := gd (gO S 5 a0) (if (M a0 1) ≤ 0 then (b1 (f_X5_addNumber S M a0 x1) (fun M3 => if x2 = 0 then (b1 (f_X5_addSign S M3 a0 110) (fun M5 => b1 (f_X5_addSign S M5 a0 64) (fun M6 => b1 (f_X5_addNumber S M6 a0 x3) (fun M7 => some M7)))) else (b1 (f_X5_addSign S M3 a0 121) (fun M8 => b1 (f_X5_addSign S M8 a0 64) (fun M9 => b1 (f_X5_addNumber S M9 a0 x3) (fun M10 => some M10)))))) else (b1 (f_X5_addSign S M a0 44) (fun M11 => fj_X5_addHeld_13 S M11 a0 x1 x2 x3)))
set_option maxHeartbeats 4000000 in
set_option maxRecDepth 100000 in
theorem c_X5_addHeld {l : Launch} {G : fw_G} {S : List fw_Sh} {M : fw_Mem} {a0 : Nat} {x1 : Int32} {x2 : Int32} {x3 : Int32} {r : fw_Mem} (hl : l.stackTraces = false) (h : f_X5_addHeld S M a0 x1 x2 x3 = some r) : fw_M l G yX5_addHeld (.code yX5_addHeld cX5_addHeld 4 none) 3 (fw_mcO (.inl none, S, r)) (fw_msO (.inl none, S, r)) S M [.ref a0, .int x1, .int x2, .int x3] (.inl none, S, r) := by
  refine fw_of [(0, .ref a0), (1, .int x1), (2, .int x2), (3, .int x3)] (by decide) (Nat.le_of_ble_eq_true rfl) rfl ?_
  intro p e s m args below meth c C hr hlk hnm ht _
  unfold f_X5_addHeld at h
  refine fw_aload_n C 0 dX5_addHeld_0 rfl rfl ?_
  obtain ⟨g1, h⟩ := gd_some h
  refine fw_getI C 5 1 (Nat.le_of_ble_eq_true rfl) (Nat.le_of_ble_eq_true rfl) wf_X5_15 rfl (gO_of g1) dX5_addHeld_1 ?_
  refine fw_if_le C 13 dX5_addHeld_4 (by decide) (fun c2 => ?_) (fun c2 => ?_)
  · replace h := (if_pos c2).symm.trans h
    refine fw_aload_n C 0 dX5_addHeld_13 rfl rfl ?_
    refine fw_iload_n C 1 dX5_addHeld_14 rfl rfl ?_
    obtain ⟨M3, e3, h⟩ := b1_some h
    refine fw_callV (ci := 5) [_] C (c_X5_addNumber hl e3) cal_X5_addNumber wm_X5_23 wi_yX5_addNumber wsl_yX5_addNumber (Nat.le_of_ble_eq_true rfl) rfl (gO_of g1) rfl (Nat.le_of_ble_eq_true rfl) ⟨Nat.le_of_ble_eq_true rfl, Nat.le_of_ble_eq_true rfl⟩ ⟨Nat.zero_le _, Nat.zero_le _⟩ dX5_addHeld_15 ?_
    refine fw_aload_n C 0 dX5_addHeld_18 rfl rfl ?_
    refine fw_iload_n C 2 dX5_addHeld_19 rfl rfl ?_
    refine fw_if_eq C 28 dX5_addHeld_20 (by decide) (fun c4 => ?_) (fun c4 => ?_)
    · replace h := (if_pos c4).symm.trans h
      refine fw_bipush C 110 dX5_addHeld_28 rfl ?_
      obtain ⟨M5, e5, h⟩ := b1_some h
      refine fw_callV (ci := 5) [_] C (c_X5_addSign hl e5) cal_X5_addSign wm_X5_19 wi_yX5_addSign wsl_yX5_addSign (Nat.le_of_ble_eq_true rfl) rfl (gO_of g1) rfl (Nat.le_of_ble_eq_true rfl) ⟨Nat.le_of_ble_eq_true rfl, Nat.le_of_ble_eq_true rfl⟩ ⟨Nat.zero_le _, Nat.zero_le _⟩ dX5_addHeld_30 ?_
      refine fw_aload_n C 0 dX5_addHeld_33 rfl rfl ?_
      refine fw_bipush C 64 dX5_addHeld_34 rfl ?_
      obtain ⟨M6, e6, h⟩ := b1_some h
      refine fw_callV (ci := 5) [_] C (c_X5_addSign hl e6) cal_X5_addSign wm_X5_19 wi_yX5_addSign wsl_yX5_addSign (Nat.le_of_ble_eq_true rfl) rfl (gO_of g1) rfl (Nat.le_of_ble_eq_true rfl) ⟨Nat.le_of_ble_eq_true rfl, Nat.le_of_ble_eq_true rfl⟩ ⟨Nat.zero_le _, Nat.zero_le _⟩ dX5_addHeld_36 ?_
      refine fw_aload_n C 0 dX5_addHeld_39 rfl rfl ?_
      refine fw_iload_n C 3 dX5_addHeld_40 rfl rfl ?_
      obtain ⟨M7, e7, h⟩ := b1_some h
      refine fw_callV (ci := 5) [_] C (c_X5_addNumber hl e7) cal_X5_addNumber wm_X5_23 wi_yX5_addNumber wsl_yX5_addNumber (Nat.le_of_ble_eq_true rfl) rfl (gO_of g1) rfl (Nat.le_of_ble_eq_true rfl) ⟨Nat.le_of_ble_eq_true rfl, Nat.le_of_ble_eq_true rfl⟩ ⟨Nat.zero_le _, Nat.zero_le _⟩ dX5_addHeld_41 ?_
      obtain rfl := Option.some.inj h
      exact fw_vret C hr hlk dX5_addHeld_44
    · replace h := (if_neg c4).symm.trans h
      refine fw_bipush C 121 dX5_addHeld_23 rfl ?_
      refine fw_goto C 30 dX5_addHeld_25 (by decide) ?_
      obtain ⟨M8, e8, h⟩ := b1_some h
      refine fw_callV (ci := 5) [_] C (c_X5_addSign hl e8) cal_X5_addSign wm_X5_19 wi_yX5_addSign wsl_yX5_addSign (Nat.le_of_ble_eq_true rfl) rfl (gO_of g1) rfl (Nat.le_of_ble_eq_true rfl) ⟨Nat.le_of_ble_eq_true rfl, Nat.le_of_ble_eq_true rfl⟩ ⟨Nat.zero_le _, Nat.zero_le _⟩ dX5_addHeld_30 ?_
      refine fw_aload_n C 0 dX5_addHeld_33 rfl rfl ?_
      refine fw_bipush C 64 dX5_addHeld_34 rfl ?_
      obtain ⟨M9, e9, h⟩ := b1_some h
      refine fw_callV (ci := 5) [_] C (c_X5_addSign hl e9) cal_X5_addSign wm_X5_19 wi_yX5_addSign wsl_yX5_addSign (Nat.le_of_ble_eq_true rfl) rfl (gO_of g1) rfl (Nat.le_of_ble_eq_true rfl) ⟨Nat.le_of_ble_eq_true rfl, Nat.le_of_ble_eq_true rfl⟩ ⟨Nat.zero_le _, Nat.zero_le _⟩ dX5_addHeld_36 ?_
      refine fw_aload_n C 0 dX5_addHeld_39 rfl rfl ?_
      refine fw_iload_n C 3 dX5_addHeld_40 rfl rfl ?_
      obtain ⟨M10, e10, h⟩ := b1_some h
      refine fw_callV (ci := 5) [_] C (c_X5_addNumber hl e10) cal_X5_addNumber wm_X5_23 wi_yX5_addNumber wsl_yX5_addNumber (Nat.le_of_ble_eq_true rfl) rfl (gO_of g1) rfl (Nat.le_of_ble_eq_true rfl) ⟨Nat.le_of_ble_eq_true rfl, Nat.le_of_ble_eq_true rfl⟩ ⟨Nat.zero_le _, Nat.zero_le _⟩ dX5_addHeld_41 ?_
      obtain rfl := Option.some.inj h
      exact fw_vret C hr hlk dX5_addHeld_44
  · replace h := (if_neg c2).symm.trans h
    refine fw_aload_n C 0 dX5_addHeld_7 rfl rfl ?_
    refine fw_bipush C 44 dX5_addHeld_8 rfl ?_
    obtain ⟨M11, e11, h⟩ := b1_some h
    refine fw_callV (ci := 5) [_] C (c_X5_addSign hl e11) cal_X5_addSign wm_X5_19 wi_yX5_addSign wsl_yX5_addSign (Nat.le_of_ble_eq_true rfl) rfl (gO_of g1) rfl (Nat.le_of_ble_eq_true rfl) ⟨Nat.le_of_ble_eq_true rfl, Nat.le_of_ble_eq_true rfl⟩ ⟨Nat.zero_le _, Nat.zero_le _⟩ dX5_addHeld_10 ?_
    exact jc_X5_addHeld_13 C hr hlk hl ht rfl h
set_option maxRecDepth 100000 in
def lf_X9_say_34 (S : List fw_Sh) (a0 : Nat) (x3 : Int32) : Nat → Int32 → fw_Mem → Option (fw_Mem)
  | 0, _, _ => none
  | n + 1, x4, M => if (31 : Int32) ≤ x4 then (some M) else (gd (gO S 9 a0) (gd (gN (M a0 5)) (gd (gO S 2 ((M a0 5).toNatClampNeg)) (gd (gN (M ((M a0 5).toNatClampNeg) 1)) (gd (gA S 0 ((M ((M a0 5).toNatClampNeg) 1).toNatClampNeg) x4) (bm (M ((M ((M a0 5).toNatClampNeg) 1).toNatClampNeg) x4.toNatClampNeg) (fun y18 => if y18 = (-1) then (lf_X9_say_34 S a0 x3 n (x4 + 1) M) else (gd (gN (M a0 8)) (if (((M ((M a0 5).toNatClampNeg) 6) >>> (x4 &&& 31)) &&& 1) = 1 then (gd (gO S 5 ((M a0 8).toNatClampNeg)) (b1 (f_X5_addHeld S M ((M a0 8).toNatClampNeg) x4 1 y18) (fun M24 => lf_X9_say_34 S a0 x3 n (x4 + 1) M24))) else (gd (gO S 5 ((M a0 8).toNatClampNeg)) (b1 (f_X5_addHeld S M ((M a0 8).toNatClampNeg) x4 0 y18) (fun M22 => lf_X9_say_34 S a0 x3 n (x4 + 1) M22))))))))))))
set_option maxHeartbeats 4000000 in
set_option maxRecDepth 100000 in
theorem lc_X9_say_34 {G : fw_G} {p : Program} {l : Launch} {e : Env} {s : State} {m : MethodId} {args : Array Value} {below : List Frame} {meth : Method} {c : Code} {S : List fw_Sh} {o : fw_O} {a0 : Nat} {x3 : Int32} (C : fw_C G RX9 cX9_say 6 p s m args c) (hr : meth.sig.returnType = (some .int)) (hlk : meth.locks = false) (hl : l.stackTraces = false) (ht : ∀ x ∈ c.exceptionTable.toList, False) :
    ∀ {n : Nat} {x4 : Int32} {M : fw_Mem} {r : (fw_Mem)} (h : lf_X9_say_34 S a0 x3 n x4 M = some r) (kx : fw_W G p l e (fw_rm 7 (fw_mcO o) (fw_msO o)) s m args below meth c 6 (fw_Z G below args s (fw_mcO o) (fw_msO o) o) 0 0 97 [(0, .ref a0), (3, .int x3)] [] S r), fw_W G p l e (fw_rm 7 (fw_mcO o) (fw_msO o)) s m args below meth c 6 (fw_Z G below args s (fw_mcO o) (fw_msO o) o) 0 0 34 [(0, .ref a0), (3, .int x3), (4, .int x4)] [] S M := by
  intro n
  induction n with
  | zero =>
    intro x4 M r h
    exact nomatch (show (none : Option (fw_Mem)) = some r from h)
  | succ n ih =>
    intro x4 M r h kx
    rw [lf_X9_say_34.eq_2] at h
    refine fw_iload C 2 dX9_say_34 rfl ?_
    refine fw_bipush C 31 dX9_say_36 rfl ?_
    refine fw_icmp_ge C 97 dX9_say_38 (by decide) (fun c12 => ?_) (fun c12 => ?_)
    · replace h := (if_pos c12).symm.trans h
      obtain rfl := Option.some.inj h
      refine fw_sub [0, 1] rfl ?_
      exact kx
    · replace h := (if_neg c12).symm.trans h
      refine fw_aload_n C 0 dX9_say_41 rfl rfl ?_
      obtain ⟨g13, h⟩ := gd_some h
      obtain ⟨g14, h⟩ := gd_some h
      refine fw_getR C 9 5 (Nat.le_of_ble_eq_true rfl) (Nat.le_of_ble_eq_true rfl) wf_X9_45 rfl (gO_of g13) (gN_of g14) dX9_say_42 ?_
      obtain ⟨g15, h⟩ := gd_some h
      obtain ⟨g16, h⟩ := gd_some h
      refine fw_getR C 2 1 (Nat.le_of_ble_eq_true rfl) (Nat.le_of_ble_eq_true rfl) wf_X9_285 rfl (gO_of g15) (gN_of g16) dX9_say_45 ?_
      refine fw_iload C 2 dX9_say_48 rfl ?_
      obtain ⟨g17, h⟩ := gd_some h
      refine fw_iald C (gA_of g17) dX9_say_50 ?_
      refine fw_bi h (fun y18 h => ?_)
      refine fw_istore C [(5, _), (0, _), (3, _), (4, _)] dX9_say_51 (Nat.le_of_ble_eq_true rfl) rfl ?_
      refine fw_iload C 0 dX9_say_53 rfl ?_
      refine fw_iconst C (-1) dX9_say_55 rfl ?_
      refine fw_icmp_eq C 91 dX9_say_56 (by decide) (fun c19 => ?_) (fun c19 => ?_)
      · replace h := (if_pos c19).symm.trans h
        refine fw_iinc C _ 3 [(4, _), (5, _), (0, _), (3, _)] dX9_say_91 rfl rfl (Nat.le_of_ble_eq_true rfl) rfl ?_
        refine fw_goto C 34 dX9_say_94 (by decide) ?_
        refine fw_sub [2, 3, 0] rfl ?_
        exact ih h kx
      · replace h := (if_neg c19).symm.trans h
        refine fw_aload_n C 1 dX9_say_59 rfl rfl ?_
        obtain ⟨g20, h⟩ := gd_some h
        refine fw_getR C 9 8 (Nat.le_of_ble_eq_true rfl) (Nat.le_of_ble_eq_true rfl) wf_X9_68 rfl (gO_of g13) (gN_of g20) dX9_say_60 ?_
        refine fw_iload C 3 dX9_say_63 rfl ?_
        refine fw_aload_n C 1 dX9_say_65 rfl rfl ?_
        refine fw_getR C 9 5 (Nat.le_of_ble_eq_true rfl) (Nat.le_of_ble_eq_true rfl) wf_X9_45 rfl (gO_of g13) (gN_of g14) dX9_say_66 ?_
        refine fw_getI C 2 6 (Nat.le_of_ble_eq_true rfl) (Nat.le_of_ble_eq_true rfl) wf_X9_288 rfl (gO_of g15) dX9_say_69 ?_
        refine fw_iload C 3 dX9_say_72 rfl ?_
        refine fw_ishr C dX9_say_74 ?_
        refine fw_iconst C 1 dX9_say_75 rfl ?_
        refine fw_iand C dX9_say_76 ?_
        refine fw_iconst C 1 dX9_say_77 rfl ?_
        refine fw_icmp_ne C 85 dX9_say_78 (by decide) (fun c21 => ?_) (fun c21 => ?_)
        · replace h := (if_neg c21).symm.trans h
          refine fw_iconst C 0 dX9_say_85 rfl ?_
          refine fw_iload C 0 dX9_say_86 rfl ?_
          obtain ⟨g23, h⟩ := gd_some h
          obtain ⟨M22, e22, h⟩ := b1_some h
          refine fw_callV (ci := 5) [_, _, _] C (c_X5_addHeld hl e22) cal_X5_addHeld wm_X9_303 wi_yX5_addHeld wsl_yX5_addHeld (Nat.le_of_ble_eq_true rfl) rfl (gO_of g23) rfl (Nat.le_of_ble_eq_true rfl) ⟨Nat.le_of_ble_eq_true rfl, Nat.le_of_ble_eq_true rfl⟩ ⟨Nat.zero_le _, Nat.zero_le _⟩ dX9_say_88 ?_
          refine fw_iinc C _ 3 [(4, _), (5, _), (0, _), (3, _)] dX9_say_91 rfl rfl (Nat.le_of_ble_eq_true rfl) rfl ?_
          refine fw_goto C 34 dX9_say_94 (by decide) ?_
          refine fw_sub [2, 3, 0] rfl ?_
          exact ih h kx
        · replace h := (if_pos c21).symm.trans h
          refine fw_iconst C 1 dX9_say_81 rfl ?_
          refine fw_goto C 86 dX9_say_82 (by decide) ?_
          refine fw_iload C 0 dX9_say_86 rfl ?_
          obtain ⟨g25, h⟩ := gd_some h
          obtain ⟨M24, e24, h⟩ := b1_some h
          refine fw_callV (ci := 5) [_, _, _] C (c_X5_addHeld hl e24) cal_X5_addHeld wm_X9_303 wi_yX5_addHeld wsl_yX5_addHeld (Nat.le_of_ble_eq_true rfl) rfl (gO_of g25) rfl (Nat.le_of_ble_eq_true rfl) ⟨Nat.le_of_ble_eq_true rfl, Nat.le_of_ble_eq_true rfl⟩ ⟨Nat.zero_le _, Nat.zero_le _⟩ dX9_say_88 ?_
          refine fw_iinc C _ 3 [(4, _), (5, _), (0, _), (3, _)] dX9_say_91 rfl rfl (Nat.le_of_ble_eq_true rfl) rfl ?_
          refine fw_goto C 34 dX9_say_94 (by decide) ?_
          refine fw_sub [2, 3, 0] rfl ?_
          exact ih h kx
set_option maxRecDepth 100000 in
def f_X9_say (S : List fw_Sh) (M : fw_Mem) (a0 : Nat) (x1 : Int32) : Option ((Int32 ⊕ String) × fw_Mem) := gd (gO S 9 a0) (b1 (f_X9_suitAt S M a0 x1) (fun v1 => bx v1 (fun u1 => bn u1 none (fun w1 => gd (gN (M a0 5)) (gd (gO S 2 ((M a0 5).toNatClampNeg)) (b2 (f_X2_forcedWay S M ((M a0 5).toNatClampNeg) w1) (fun v4 M4 => gd (gN (M4 a0 5)) (gd (gO S 2 ((M4 a0 5).toNatClampNeg)) (b1 (f_X2_weigh S M4 ((M4 a0 5).toNatClampNeg) w1) (fun M7 => gd (gN (M7 a0 8)) (gd (gO S 5 ((M7 a0 8).toNatClampNeg)) (bm (fw_set M7 ((M7 a0 8).toNatClampNeg) 1 0) (fun M11 => b1 (lf_X9_say_34 S a0 v4 20000 0 M11) (fun l26 => if v4 = (-1) then (gd (gN (l26 a0 8)) (gd (gO S 5 ((l26 a0 8).toNatClampNeg)) (some (.inl (l26 ((l26 a0 8).toNatClampNeg) 1), l26)))) else (gd (gN (l26 a0 8)) (gd (gO S 5 ((l26 a0 8).toNatClampNeg)) (b1 (f_X5_addSign S l26 ((l26 a0 8).toNatClampNeg) 33) (fun M31 => gd (gN (M31 a0 8)) (gd (gO S 5 ((M31 a0 8).toNatClampNeg)) (b1 (f_X5_addNumber S M31 ((M31 a0 8).toNatClampNeg) v4) (fun M34 => gd (gN (M34 a0 8)) (gd (gO S 5 ((M34 a0 8).toNatClampNeg)) (some (.inl (M34 ((M34 a0 8).toNatClampNeg) 1), M34)))))))))))))))))))))) (fun E1 => some (.inr E1, M))))
set_option maxHeartbeats 4000000 in
set_option maxRecDepth 100000 in
theorem c_X9_say {l : Launch} {G : fw_G} {S : List fw_Sh} {M : fw_Mem} {a0 : Nat} {x1 : Int32} {r : ((Int32 ⊕ String) × fw_Mem)} (hl : l.stackTraces = false) (h : f_X9_say S M a0 x1 = some r) : fw_M l G yX9_say (.code yX9_say cX9_say 6 (some .int)) 7 (fw_mcO (fw_oI r.1, S, r.2)) (fw_msO (fw_oI r.1, S, r.2)) S M [.ref a0, .int x1] (fw_oI r.1, S, r.2) := by
  refine fw_of [(0, .ref a0), (1, .int x1)] (by decide) (Nat.le_of_ble_eq_true rfl) rfl ?_
  intro p e s m args below meth c C hr hlk hnm ht _
  unfold f_X9_say at h
  refine fw_aload_n C 0 dX9_say_0 rfl rfl ?_
  refine fw_iload_n C 1 dX9_say_1 rfl rfl ?_
  obtain ⟨g2, h⟩ := gd_some h
  obtain ⟨v1, e1, h⟩ := b1_some h
  rcases v1 with u1 | E1
  rotate_left
  · replace h := bx_r h
    obtain rfl := Option.some.inj h
    exact fw_callVX (ci := 9) [_] C (c_X9_suitAt hl e1) cal_X9_suitAt wm_X9_177 wi_yX9_suitAt wsl_yX9_suitAt (Nat.le_of_ble_eq_true rfl) rfl (gO_of g2) rfl (Nat.le_of_ble_eq_true rfl) ⟨Nat.le_of_ble_eq_true rfl, Nat.le_of_ble_eq_true rfl⟩ ⟨Nat.le_refl _, Nat.le_refl _⟩ dX9_say_2 ht hlk
  replace h := bx_l h
  rcases u1 with _ | w1
  · cases h
  refine fw_callV (ci := 9) [_] C (c_X9_suitAt hl e1) cal_X9_suitAt wm_X9_177 wi_yX9_suitAt wsl_yX9_suitAt (Nat.le_of_ble_eq_true rfl) rfl (gO_of g2) rfl (Nat.le_of_ble_eq_true rfl) ⟨Nat.le_of_ble_eq_true rfl, Nat.le_of_ble_eq_true rfl⟩ ⟨Nat.zero_le _, Nat.zero_le _⟩ dX9_say_2 ?_
  refine fw_astore_n C [(2, _), (0, _), (1, _)] dX9_say_5 rfl (Nat.le_of_ble_eq_true rfl) rfl ?_
  refine fw_aload_n C 1 dX9_say_6 rfl rfl ?_
  obtain ⟨g3, h⟩ := gd_some h
  refine fw_getR C 9 5 (Nat.le_of_ble_eq_true rfl) (Nat.le_of_ble_eq_true rfl) wf_X9_45 rfl (gO_of g2) (gN_of g3) dX9_say_7 ?_
  refine fw_aload_n C 0 dX9_say_10 rfl rfl ?_
  obtain ⟨g5, h⟩ := gd_some h
  obtain ⟨v4, M4, e4, h⟩ := b2_some h
  refine fw_callV (ci := 2) [_] C (c_X2_forcedWay hl e4) cal_X2_forcedWay wm_X9_299 wi_yX2_forcedWay wsl_yX2_forcedWay (Nat.le_of_ble_eq_true rfl) rfl (gO_of g5) rfl (Nat.le_of_ble_eq_true rfl) ⟨Nat.le_of_ble_eq_true rfl, Nat.le_of_ble_eq_true rfl⟩ ⟨Nat.zero_le _, Nat.zero_le _⟩ dX9_say_11 ?_
  refine fw_istore_n C [(3, _), (2, _), (0, _), (1, _)] dX9_say_14 rfl (Nat.le_of_ble_eq_true rfl) rfl ?_
  refine fw_aload_n C 2 dX9_say_15 rfl rfl ?_
  obtain ⟨g6, h⟩ := gd_some h
  refine fw_getR C 9 5 (Nat.le_of_ble_eq_true rfl) (Nat.le_of_ble_eq_true rfl) wf_X9_45 rfl (gO_of g2) (gN_of g6) dX9_say_16 ?_
  refine fw_aload_n C 1 dX9_say_19 rfl rfl ?_
  obtain ⟨g8, h⟩ := gd_some h
  obtain ⟨M7, e7, h⟩ := b1_some h
  refine fw_callV (ci := 2) [_] C (c_X2_weigh hl e7) cal_X2_weigh wm_X9_281 wi_yX2_weigh wsl_yX2_weigh (Nat.le_of_ble_eq_true rfl) rfl (gO_of g8) rfl (Nat.le_of_ble_eq_true rfl) ⟨Nat.le_of_ble_eq_true rfl, Nat.le_of_ble_eq_true rfl⟩ ⟨Nat.zero_le _, Nat.zero_le _⟩ dX9_say_20 ?_
  refine fw_aload_n C 2 dX9_say_23 rfl rfl ?_
  obtain ⟨g9, h⟩ := gd_some h
  refine fw_getR C 9 8 (Nat.le_of_ble_eq_true rfl) (Nat.le_of_ble_eq_true rfl) wf_X9_68 rfl (gO_of g2) (gN_of g9) dX9_say_24 ?_
  refine fw_iconst C 0 dX9_say_27 rfl ?_
  obtain ⟨g10, h⟩ := gd_some h
  refine fw_putI C 5 1 (Nat.le_of_ble_eq_true rfl) (Nat.le_of_ble_eq_true rfl) wf_X9_302 rfl rfl rfl rfl (gO_of g10) dX9_say_28 ?_
  refine fw_bm h (fun M11 h => ?_)
  refine fw_iconst C 0 dX9_say_31 rfl ?_
  refine fw_istore C [(4, _), (3, _), (2, _), (0, _), (1, _)] dX9_say_32 (Nat.le_of_ble_eq_true rfl) rfl ?_
  refine fw_sub [3, 1, 0] rfl ?_
  obtain ⟨l26, e26, h⟩ := b1_some h
  refine lc_X9_say_34 C hr hlk hl ht e26 ?_
  refine fw_iload_n C 1 dX9_say_97 rfl rfl ?_
  refine fw_iconst C (-1) dX9_say_98 rfl ?_
  refine fw_icmp_eq C 119 dX9_say_99 (by decide) (fun c27 => ?_) (fun c27 => ?_)
  · replace h := (if_pos c27).symm.trans h
    refine fw_aload_n C 0 dX9_say_119 rfl rfl ?_
    obtain ⟨g28, h⟩ := gd_some h
    refine fw_getR C 9 8 (Nat.le_of_ble_eq_true rfl) (Nat.le_of_ble_eq_true rfl) wf_X9_68 rfl (gO_of g2) (gN_of g28) dX9_say_120 ?_
    obtain ⟨g29, h⟩ := gd_some h
    refine fw_getI C 5 1 (Nat.le_of_ble_eq_true rfl) (Nat.le_of_ble_eq_true rfl) wf_X9_302 rfl (gO_of g29) dX9_say_123 ?_
    obtain rfl := Option.some.inj h
    exact fw_iret C hr hlk dX9_say_126
  · replace h := (if_neg c27).symm.trans h
    refine fw_aload_n C 0 dX9_say_102 rfl rfl ?_
    obtain ⟨g30, h⟩ := gd_some h
    refine fw_getR C 9 8 (Nat.le_of_ble_eq_true rfl) (Nat.le_of_ble_eq_true rfl) wf_X9_68 rfl (gO_of g2) (gN_of g30) dX9_say_103 ?_
    refine fw_bipush C 33 dX9_say_106 rfl ?_
    obtain ⟨g32, h⟩ := gd_some h
    obtain ⟨M31, e31, h⟩ := b1_some h
    refine fw_callV (ci := 5) [_] C (c_X5_addSign hl e31) cal_X5_addSign wm_X9_307 wi_yX5_addSign wsl_yX5_addSign (Nat.le_of_ble_eq_true rfl) rfl (gO_of g32) rfl (Nat.le_of_ble_eq_true rfl) ⟨Nat.le_of_ble_eq_true rfl, Nat.le_of_ble_eq_true rfl⟩ ⟨Nat.zero_le _, Nat.zero_le _⟩ dX9_say_108 ?_
    refine fw_aload_n C 0 dX9_say_111 rfl rfl ?_
    obtain ⟨g33, h⟩ := gd_some h
    refine fw_getR C 9 8 (Nat.le_of_ble_eq_true rfl) (Nat.le_of_ble_eq_true rfl) wf_X9_68 rfl (gO_of g2) (gN_of g33) dX9_say_112 ?_
    refine fw_iload_n C 1 dX9_say_115 rfl rfl ?_
    obtain ⟨g35, h⟩ := gd_some h
    obtain ⟨M34, e34, h⟩ := b1_some h
    refine fw_callV (ci := 5) [_] C (c_X5_addNumber hl e34) cal_X5_addNumber wm_X9_311 wi_yX5_addNumber wsl_yX5_addNumber (Nat.le_of_ble_eq_true rfl) rfl (gO_of g35) rfl (Nat.le_of_ble_eq_true rfl) ⟨Nat.le_of_ble_eq_true rfl, Nat.le_of_ble_eq_true rfl⟩ ⟨Nat.zero_le _, Nat.zero_le _⟩ dX9_say_116 ?_
    refine fw_aload_n C 0 dX9_say_119 rfl rfl ?_
    obtain ⟨g36, h⟩ := gd_some h
    refine fw_getR C 9 8 (Nat.le_of_ble_eq_true rfl) (Nat.le_of_ble_eq_true rfl) wf_X9_68 rfl (gO_of g2) (gN_of g36) dX9_say_120 ?_
    obtain ⟨g37, h⟩ := gd_some h
    refine fw_getI C 5 1 (Nat.le_of_ble_eq_true rfl) (Nat.le_of_ble_eq_true rfl) wf_X9_302 rfl (gO_of g37) dX9_say_123 ?_
    obtain rfl := Option.some.inj h
    exact fw_iret C hr hlk dX9_say_126
set_option maxRecDepth 100000 in
def f_X9_said (S : List fw_Sh) (M : fw_Mem) (a0 : Nat) (x1 : Int32) : Option Int32 := if x1 < 0 then (some (-1)) else (gd (gO S 9 a0) (gd (gN (M a0 8)) (gd (gO S 5 ((M a0 8).toNatClampNeg)) (if x1 < (M ((M a0 8).toNatClampNeg) 1) then (gd (gN (M ((M a0 8).toNatClampNeg) 0)) (gd (gA S 1 ((M ((M a0 8).toNatClampNeg) 0).toNatClampNeg) x1) (some (M ((M ((M a0 8).toNatClampNeg) 0).toNatClampNeg) x1.toNatClampNeg)))) else (some (-1))))))
set_option maxHeartbeats 4000000 in
set_option maxRecDepth 100000 in
theorem c_X9_said {l : Launch} {G : fw_G} {S : List fw_Sh} {M : fw_Mem} {a0 : Nat} {x1 : Int32} {r : Int32} (hl : l.stackTraces = false) (h : f_X9_said S M a0 x1 = some r) : fw_M l G yX9_said (.code yX9_said cX9_said 2 (some .int)) 1 (fw_mcO (.inl (some (.int r)), S, M)) (fw_msO (.inl (some (.int r)), S, M)) S M [.ref a0, .int x1] (.inl (some (.int r)), S, M) := by
  refine fw_of [(0, .ref a0), (1, .int x1)] (by decide) (Nat.le_of_ble_eq_true rfl) rfl ?_
  intro p e s m args below meth c C hr hlk hnm ht _
  unfold f_X9_said at h
  refine fw_iload_n C 1 dX9_said_0 rfl rfl ?_
  refine fw_if_lt C 15 dX9_said_1 (by decide) (fun c1 => ?_) (fun c1 => ?_)
  · replace h := (if_pos c1).symm.trans h
    refine fw_iconst C (-1) dX9_said_15 rfl ?_
    refine fw_goto C 28 dX9_said_16 (by decide) ?_
    obtain rfl := Option.some.inj h
    exact fw_iret C hr hlk dX9_said_28
  · replace h := (if_neg c1).symm.trans h
    refine fw_iload_n C 1 dX9_said_4 rfl rfl ?_
    refine fw_aload_n C 0 dX9_said_5 rfl rfl ?_
    obtain ⟨g2, h⟩ := gd_some h
    obtain ⟨g3, h⟩ := gd_some h
    refine fw_getR C 9 8 (Nat.le_of_ble_eq_true rfl) (Nat.le_of_ble_eq_true rfl) wf_X9_68 rfl (gO_of g2) (gN_of g3) dX9_said_6 ?_
    obtain ⟨g4, h⟩ := gd_some h
    refine fw_getI C 5 1 (Nat.le_of_ble_eq_true rfl) (Nat.le_of_ble_eq_true rfl) wf_X9_302 rfl (gO_of g4) dX9_said_9 ?_
    refine fw_icmp_lt C 19 dX9_said_12 (by decide) (fun c5 => ?_) (fun c5 => ?_)
    · replace h := (if_pos c5).symm.trans h
      refine fw_aload_n C 0 dX9_said_19 rfl rfl ?_
      refine fw_getR C 9 8 (Nat.le_of_ble_eq_true rfl) (Nat.le_of_ble_eq_true rfl) wf_X9_68 rfl (gO_of g2) (gN_of g3) dX9_said_20 ?_
      obtain ⟨g6, h⟩ := gd_some h
      refine fw_getR C 5 0 (Nat.le_of_ble_eq_true rfl) (Nat.le_of_ble_eq_true rfl) wf_X9_314 rfl (gO_of g4) (gN_of g6) dX9_said_23 ?_
      refine fw_iload_n C 1 dX9_said_26 rfl rfl ?_
      obtain ⟨g7, h⟩ := gd_some h
      refine fw_bald C (gA_of g7) dX9_said_27 ?_
      obtain rfl := Option.some.inj h
      exact fw_iret C hr hlk dX9_said_28
    · replace h := (if_neg c5).symm.trans h
      refine fw_iconst C (-1) dX9_said_15 rfl ?_
      refine fw_goto C 28 dX9_said_16 (by decide) ?_
      obtain rfl := Option.some.inj h
      exact fw_iret C hr hlk dX9_said_28
set_option maxRecDepth 100000 in
def lf_X2_latestBinding_7 (S : List fw_Sh) (M : fw_Mem) (a0 : Nat) (x1 : Int32) : Nat → Int32 → Int32 → Int32 → Option (Int32)
  | 0, _, _, _ => none
  | n + 1, x2, x3, x4 => gd (gO S 2 a0) (gd (gN (M a0 0)) (gd (gO S 4 ((M a0 0).toNatClampNeg)) (if (M ((M a0 0).toNatClampNeg) 6) ≤ x4 then (some x2) else (gd (gN (M ((M a0 0).toNatClampNeg) 2)) (gd (gA S 4 ((M ((M a0 0).toNatClampNeg) 2).toNatClampNeg) x4) (gd (gN (M ((M ((M a0 0).toNatClampNeg) 2).toNatClampNeg) x4.toNatClampNeg)) (gd (gO S 6 ((M ((M ((M a0 0).toNatClampNeg) 2).toNatClampNeg) x4.toNatClampNeg).toNatClampNeg)) (b1 (f_X6_counts S M ((M ((M ((M a0 0).toNatClampNeg) 2).toNatClampNeg) x4.toNatClampNeg).toNatClampNeg)) (fun v8 => if v8 = 0 then (lf_X2_latestBinding_7 S M a0 x1 n x2 x3 (x4 + 1)) else (b1 (f_X6_boundAtAll S M ((M ((M ((M a0 0).toNatClampNeg) 2).toNatClampNeg) x4.toNatClampNeg).toNatClampNeg)) (fun v11 => if ((v11 >>> (x1 &&& 31)) &&& 1) = 1 then (if (M ((M ((M ((M a0 0).toNatClampNeg) 2).toNatClampNeg) x4.toNatClampNeg).toNatClampNeg) 7) < x3 then (lf_X2_latestBinding_7 S M a0 x1 n x2 x3 (x4 + 1)) else (bm (M ((M ((M ((M a0 0).toNatClampNeg) 2).toNatClampNeg) x4.toNatClampNeg).toNatClampNeg) 7) (fun y14 => lf_X2_latestBinding_7 S M a0 x1 n x4 y14 (x4 + 1)))) else (lf_X2_latestBinding_7 S M a0 x1 n x2 x3 (x4 + 1)))))))))))))
set_option maxHeartbeats 4000000 in
set_option maxRecDepth 100000 in
theorem lc_X2_latestBinding_7 {G : fw_G} {p : Program} {l : Launch} {e : Env} {s : State} {m : MethodId} {args : Array Value} {below : List Frame} {meth : Method} {c : Code} {S : List fw_Sh} {o : fw_O} {M : fw_Mem} {a0 : Nat} {x1 : Int32} (C : fw_C G RX2 cX2_latestBinding 7 p s m args c) (hr : meth.sig.returnType = (some .int)) (hlk : meth.locks = false) (hl : l.stackTraces = false) (ht : ∀ x ∈ c.exceptionTable.toList, False) :
    ∀ {n : Nat} {x2 : Int32} {x3 : Int32} {x4 : Int32} {r : (Int32)} (h : lf_X2_latestBinding_7 S M a0 x1 n x2 x3 x4 = some r) (kx : fw_W G p l e (fw_rm 2 (fw_mcO o) (fw_msO o)) s m args below meth c 7 (fw_Z G below args s (fw_mcO o) (fw_msO o) o) 0 0 88 [(2, .int r)] [] S M), fw_W G p l e (fw_rm 2 (fw_mcO o) (fw_msO o)) s m args below meth c 7 (fw_Z G below args s (fw_mcO o) (fw_msO o) o) 0 0 7 [(0, .ref a0), (1, .int x1), (2, .int x2), (3, .int x3), (4, .int x4)] [] S M := by
  intro n
  induction n with
  | zero =>
    intro x2 x3 x4 r h
    exact nomatch (show (none : Option (Int32)) = some r from h)
  | succ n ih =>
    intro x2 x3 x4 r h kx
    rw [lf_X2_latestBinding_7.eq_2] at h
    refine fw_iload C 4 dX2_latestBinding_7 rfl ?_
    refine fw_aload_n C 0 dX2_latestBinding_9 rfl rfl ?_
    obtain ⟨g1, h⟩ := gd_some h
    obtain ⟨g2, h⟩ := gd_some h
    refine fw_getR C 2 0 (Nat.le_of_ble_eq_true rfl) (Nat.le_of_ble_eq_true rfl) wf_X2_27 rfl (gO_of g1) (gN_of g2) dX2_latestBinding_10 ?_
    obtain ⟨g3, h⟩ := gd_some h
    refine fw_getI C 4 6 (Nat.le_of_ble_eq_true rfl) (Nat.le_of_ble_eq_true rfl) wf_X2_31 rfl (gO_of g3) dX2_latestBinding_13 ?_
    refine fw_icmp_ge C 88 dX2_latestBinding_16 (by decide) (fun c4 => ?_) (fun c4 => ?_)
    · replace h := (if_pos c4).symm.trans h
      obtain rfl := Option.some.inj h
      refine fw_sub [2] rfl ?_
      exact kx
    · replace h := (if_neg c4).symm.trans h
      refine fw_aload_n C 0 dX2_latestBinding_19 rfl rfl ?_
      refine fw_getR C 2 0 (Nat.le_of_ble_eq_true rfl) (Nat.le_of_ble_eq_true rfl) wf_X2_27 rfl (gO_of g1) (gN_of g2) dX2_latestBinding_20 ?_
      obtain ⟨g5, h⟩ := gd_some h
      refine fw_getR C 4 2 (Nat.le_of_ble_eq_true rfl) (Nat.le_of_ble_eq_true rfl) wf_X2_37 rfl (gO_of g3) (gN_of g5) dX2_latestBinding_23 ?_
      refine fw_iload C 4 dX2_latestBinding_26 rfl ?_
      obtain ⟨g6, h⟩ := gd_some h
      obtain ⟨g7, h⟩ := gd_some h
      refine fw_aald C 4 (by decide) (gA_of g6) (gN_of g7) dX2_latestBinding_28 ?_
      refine fw_astore C [(5, _), (0, _), (1, _), (2, _), (3, _), (4, _)] dX2_latestBinding_29 (Nat.le_of_ble_eq_true rfl) rfl ?_
      refine fw_aload C 0 dX2_latestBinding_31 rfl ?_
      obtain ⟨g9, h⟩ := gd_some h
      obtain ⟨v8, e8, h⟩ := b1_some h
      refine fw_callV (ci := 6) [] C (c_X6_counts hl e8) cal_X6_counts wm_X2_125 wi_yX6_counts wsl_yX6_counts (Nat.le_of_ble_eq_true rfl) rfl (gO_of g9) rfl (Nat.le_of_ble_eq_true rfl) ⟨Nat.le_of_ble_eq_true rfl, Nat.le_of_ble_eq_true rfl⟩ ⟨Nat.zero_le _, Nat.zero_le _⟩ dX2_latestBinding_33 ?_
      refine fw_if_eq C 56 dX2_latestBinding_36 (by decide) (fun c10 => ?_) (fun c10 => ?_)
      · replace h := (if_pos c10).symm.trans h
        refine fw_iconst C 0 dX2_latestBinding_56 rfl ?_
        refine fw_istore C [(6, _), (5, _), (0, _), (1, _), (2, _), (3, _), (4, _)] dX2_latestBinding_57 (Nat.le_of_ble_eq_true rfl) rfl ?_
        refine fw_iload C 0 dX2_latestBinding_59 rfl ?_
        refine fw_if_eq C 82 dX2_latestBinding_61 (by decide) (fun _ => ?_) (fun q => absurd q (by decide))
        refine fw_iinc C _ 6 [(4, _), (6, _), (5, _), (0, _), (1, _), (2, _), (3, _)] dX2_latestBinding_82 rfl rfl (Nat.le_of_ble_eq_true rfl) rfl ?_
        refine fw_goto C 7 dX2_latestBinding_85 (by decide) ?_
        refine fw_sub [3, 4, 5, 6, 0] rfl ?_
        exact ih h kx
      · replace h := (if_neg c10).symm.trans h
        refine fw_aload C 0 dX2_latestBinding_39 rfl ?_
        obtain ⟨v11, e11, h⟩ := b1_some h
        refine fw_callV (ci := 6) [] C (c_X6_boundAtAll hl e11) cal_X6_boundAtAll wm_X2_213 wi_yX6_boundAtAll wsl_yX6_boundAtAll (Nat.le_of_ble_eq_true rfl) rfl (gO_of g9) rfl (Nat.le_of_ble_eq_true rfl) ⟨Nat.le_of_ble_eq_true rfl, Nat.le_of_ble_eq_true rfl⟩ ⟨Nat.zero_le _, Nat.zero_le _⟩ dX2_latestBinding_41 ?_
        refine fw_iload_n C 2 dX2_latestBinding_44 rfl rfl ?_
        refine fw_ishr C dX2_latestBinding_45 ?_
        refine fw_iconst C 1 dX2_latestBinding_46 rfl ?_
        refine fw_iand C dX2_latestBinding_47 ?_
        refine fw_iconst C 1 dX2_latestBinding_48 rfl ?_
        refine fw_icmp_ne C 56 dX2_latestBinding_49 (by decide) (fun c12 => ?_) (fun c12 => ?_)
        · replace h := (if_neg c12).symm.trans h
          refine fw_iconst C 0 dX2_latestBinding_56 rfl ?_
          refine fw_istore C [(6, _), (5, _), (0, _), (1, _), (2, _), (3, _), (4, _)] dX2_latestBinding_57 (Nat.le_of_ble_eq_true rfl) rfl ?_
          refine fw_iload C 0 dX2_latestBinding_59 rfl ?_
          refine fw_if_eq C 82 dX2_latestBinding_61 (by decide) (fun _ => ?_) (fun q => absurd q (by decide))
          refine fw_iinc C _ 6 [(4, _), (6, _), (5, _), (0, _), (1, _), (2, _), (3, _)] dX2_latestBinding_82 rfl rfl (Nat.le_of_ble_eq_true rfl) rfl ?_
          refine fw_goto C 7 dX2_latestBinding_85 (by decide) ?_
          refine fw_sub [3, 4, 5, 6, 0] rfl ?_
          exact ih h kx
        · replace h := (if_pos c12).symm.trans h
          refine fw_iconst C 1 dX2_latestBinding_52 rfl ?_
          refine fw_goto C 57 dX2_latestBinding_53 (by decide) ?_
          refine fw_istore C [(6, _), (5, _), (0, _), (1, _), (2, _), (3, _), (4, _)] dX2_latestBinding_57 (Nat.le_of_ble_eq_true rfl) rfl ?_
          refine fw_iload C 0 dX2_latestBinding_59 rfl ?_
          refine fw_if_eq C 82 dX2_latestBinding_61 (by decide) (fun q => absurd q (by decide)) (fun _ => ?_)
          refine fw_aload C 1 dX2_latestBinding_64 rfl ?_
          refine fw_getI C 6 7 (Nat.le_of_ble_eq_true rfl) (Nat.le_of_ble_eq_true rfl) wf_X2_94 rfl (gO_of g9) dX2_latestBinding_66 ?_
          refine fw_iload_n C 5 dX2_latestBinding_69 rfl rfl ?_
          refine fw_icmp_lt C 82 dX2_latestBinding_70 (by decide) (fun c13 => ?_) (fun c13 => ?_)
          · replace h := (if_pos c13).symm.trans h
            refine fw_iinc C _ 6 [(4, _), (6, _), (5, _), (0, _), (1, _), (2, _), (3, _)] dX2_latestBinding_82 rfl rfl (Nat.le_of_ble_eq_true rfl) rfl ?_
            refine fw_goto C 7 dX2_latestBinding_85 (by decide) ?_
            refine fw_sub [3, 4, 5, 6, 0] rfl ?_
            exact ih h kx
          · replace h := (if_neg c13).symm.trans h
            refine fw_iload C 6 dX2_latestBinding_73 rfl ?_
            refine fw_istore_n C [(2, _), (6, _), (5, _), (0, _), (1, _), (3, _), (4, _)] dX2_latestBinding_75 rfl (Nat.le_of_ble_eq_true rfl) rfl ?_
            refine fw_aload C 2 dX2_latestBinding_76 rfl ?_
            refine fw_getI C 6 7 (Nat.le_of_ble_eq_true rfl) (Nat.le_of_ble_eq_true rfl) wf_X2_94 rfl (gO_of g9) dX2_latestBinding_78 ?_
            refine fw_bi h (fun y14 h => ?_)
            refine fw_istore_n C [(3, _), (2, _), (6, _), (5, _), (0, _), (1, _), (4, _)] dX2_latestBinding_81 rfl (Nat.le_of_ble_eq_true rfl) rfl ?_
            refine fw_iinc C _ 6 [(4, _), (3, _), (2, _), (6, _), (5, _), (0, _), (1, _)] dX2_latestBinding_82 rfl rfl (Nat.le_of_ble_eq_true rfl) rfl ?_
            refine fw_goto C 7 dX2_latestBinding_85 (by decide) ?_
            refine fw_sub [5, 6, 2, 1, 0] rfl ?_
            exact ih h kx
set_option maxRecDepth 100000 in
def f_X2_latestBinding (S : List fw_Sh) (M : fw_Mem) (a0 : Nat) (x1 : Int32) : Option Int32 := b1 (lf_X2_latestBinding_7 S M a0 x1 20000 (-1) (-1) 0) (fun l15 => some l15)
set_option maxHeartbeats 4000000 in
set_option maxRecDepth 100000 in
theorem c_X2_latestBinding {l : Launch} {G : fw_G} {S : List fw_Sh} {M : fw_Mem} {a0 : Nat} {x1 : Int32} {r : Int32} (hl : l.stackTraces = false) (h : f_X2_latestBinding S M a0 x1 = some r) : fw_M l G yX2_latestBinding (.code yX2_latestBinding cX2_latestBinding 7 (some .int)) 2 (fw_mcO (.inl (some (.int r)), S, M)) (fw_msO (.inl (some (.int r)), S, M)) S M [.ref a0, .int x1] (.inl (some (.int r)), S, M) := by
  refine fw_of [(0, .ref a0), (1, .int x1)] (by decide) (Nat.le_of_ble_eq_true rfl) rfl ?_
  intro p e s m args below meth c C hr hlk hnm ht _
  unfold f_X2_latestBinding at h
  refine fw_iconst C (-1) dX2_latestBinding_0 rfl ?_
  refine fw_istore_n C [(2, _), (0, _), (1, _)] dX2_latestBinding_1 rfl (Nat.le_of_ble_eq_true rfl) rfl ?_
  refine fw_iconst C (-1) dX2_latestBinding_2 rfl ?_
  refine fw_istore_n C [(3, _), (2, _), (0, _), (1, _)] dX2_latestBinding_3 rfl (Nat.le_of_ble_eq_true rfl) rfl ?_
  refine fw_iconst C 0 dX2_latestBinding_4 rfl ?_
  refine fw_istore C [(4, _), (3, _), (2, _), (0, _), (1, _)] dX2_latestBinding_5 (Nat.le_of_ble_eq_true rfl) rfl ?_
  refine fw_sub [3, 4, 2, 1, 0] rfl ?_
  obtain ⟨l15, e15, h⟩ := b1_some h
  refine lc_X2_latestBinding_7 C hr hlk hl ht e15 ?_
  refine fw_iload_n C 0 dX2_latestBinding_88 rfl rfl ?_
  obtain rfl := Option.some.inj h
  exact fw_iret C hr hlk dX2_latestBinding_89
set_option maxRecDepth 100000 in
def f_X9_latest (S : List fw_Sh) (M : fw_Mem) (a0 : Nat) (x1 : Int32) : Option (Int32 ⊕ String) := gd (gO S 9 a0) (b1 (f_X9_needPerson S M a0 x1) (fun v1 => bx v1 (fun _ => gd (gN (M a0 5)) (gd (gO S 2 ((M a0 5).toNatClampNeg)) (b1 (f_X2_latestBinding S M ((M a0 5).toNatClampNeg) x1) (fun v4 => some (.inl v4))))) (fun E1 => some (.inr E1))))
set_option maxHeartbeats 4000000 in
set_option maxRecDepth 100000 in
theorem c_X9_latest {l : Launch} {G : fw_G} {S : List fw_Sh} {M : fw_Mem} {a0 : Nat} {x1 : Int32} {r : (Int32 ⊕ String)} (hl : l.stackTraces = false) (h : f_X9_latest S M a0 x1 = some r) : fw_M l G yX9_latest (.code yX9_latest cX9_latest 2 (some .int)) 7 (fw_mcO (fw_oI r, S, M)) (fw_msO (fw_oI r, S, M)) S M [.ref a0, .int x1] (fw_oI r, S, M) := by
  refine fw_of [(0, .ref a0), (1, .int x1)] (by decide) (Nat.le_of_ble_eq_true rfl) rfl ?_
  intro p e s m args below meth c C hr hlk hnm ht _
  unfold f_X9_latest at h
  refine fw_aload_n C 0 dX9_latest_0 rfl rfl ?_
  refine fw_iload_n C 1 dX9_latest_1 rfl rfl ?_
  obtain ⟨g2, h⟩ := gd_some h
  obtain ⟨v1, e1, h⟩ := b1_some h
  rcases v1 with u1 | E1
  rotate_left
  · replace h := bx_r h
    obtain rfl := Option.some.inj h
    exact fw_callVX (ci := 9) [_] C (c_X9_needPerson hl e1) cal_X9_needPerson wm_X9_142 wi_yX9_needPerson wsl_yX9_needPerson (Nat.le_of_ble_eq_true rfl) rfl (gO_of g2) rfl (Nat.le_of_ble_eq_true rfl) ⟨Nat.le_of_ble_eq_true rfl, Nat.le_of_ble_eq_true rfl⟩ ⟨Nat.le_refl _, Nat.le_refl _⟩ dX9_latest_2 ht hlk
  replace h := bx_l h
  refine fw_callV (ci := 9) [_] C (c_X9_needPerson hl e1) cal_X9_needPerson wm_X9_142 wi_yX9_needPerson wsl_yX9_needPerson (Nat.le_of_ble_eq_true rfl) rfl (gO_of g2) rfl (Nat.le_of_ble_eq_true rfl) ⟨Nat.le_of_ble_eq_true rfl, Nat.le_of_ble_eq_true rfl⟩ ⟨Nat.zero_le _, Nat.zero_le _⟩ dX9_latest_2 ?_
  refine fw_aload_n C 0 dX9_latest_5 rfl rfl ?_
  obtain ⟨g3, h⟩ := gd_some h
  refine fw_getR C 9 5 (Nat.le_of_ble_eq_true rfl) (Nat.le_of_ble_eq_true rfl) wf_X9_45 rfl (gO_of g2) (gN_of g3) dX9_latest_6 ?_
  refine fw_iload_n C 1 dX9_latest_9 rfl rfl ?_
  obtain ⟨g5, h⟩ := gd_some h
  obtain ⟨v4, e4, h⟩ := b1_some h
  refine fw_callV (ci := 2) [_] C (c_X2_latestBinding hl e4) cal_X2_latestBinding wm_X9_318 wi_yX2_latestBinding wsl_yX2_latestBinding (Nat.le_of_ble_eq_true rfl) rfl (gO_of g5) rfl (Nat.le_of_ble_eq_true rfl) ⟨Nat.le_of_ble_eq_true rfl, Nat.le_of_ble_eq_true rfl⟩ ⟨Nat.zero_le _, Nat.zero_le _⟩ dX9_latest_10 ?_
  obtain rfl := Option.some.inj h
  exact fw_iret C hr hlk dX9_latest_13
set_option maxRecDepth 100000 in
def f_X2_measure (S : List fw_Sh) (M : fw_Mem) (a0 : Nat) (a1 : Nat) (x2 : Int32) : Option (Int32 × fw_Mem) := if x2 = 0 then (gd (gO S 2 a0) (b1 (f_X2_barringSuits S M a0 a1) (fun v8 => if v8 = 0 then (some (0, M)) else (some (1, M))))) else (if x2 = 1 then (gd (gO S 2 a0) (b2 (f_X2_heldIssues S M a0 a1) (fun v5 M5 => b1 (f_J6_bitCount_0f7a4 S M5 v5) (fun v7 => some (v7, M5))))) else (gd (gO S 2 a0) (b2 (f_X2_forcedWay S M a0 a1) (fun v3 M3 => some (v3, M3)))))
set_option maxHeartbeats 4000000 in
set_option maxRecDepth 100000 in
theorem c_X2_measure {l : Launch} {G : fw_G} {S : List fw_Sh} {M : fw_Mem} {a0 : Nat} {a1 : Nat} {x2 : Int32} {r : (Int32 × fw_Mem)} (hl : l.stackTraces = false) (h : f_X2_measure S M a0 a1 x2 = some r) : fw_M l G yX2_measure (.code yX2_measure cX2_measure 3 (some .int)) 6 (fw_mcO (.inl (some (.int r.1)), S, r.2)) (fw_msO (.inl (some (.int r.1)), S, r.2)) S M [.ref a0, .ref a1, .int x2] (.inl (some (.int r.1)), S, r.2) := by
  refine fw_of [(0, .ref a0), (1, .ref a1), (2, .int x2)] (by decide) (Nat.le_of_ble_eq_true rfl) rfl ?_
  intro p e s m args below meth c C hr hlk hnm ht _
  unfold f_X2_measure at h
  refine fw_iload_n C 2 dX2_measure_0 rfl rfl ?_
  refine fw_if_ne C 18 dX2_measure_1 (by decide) (fun c1 => ?_) (fun c1 => ?_)
  · replace h := (if_neg c1).symm.trans h
    refine fw_iload_n C 2 dX2_measure_18 rfl rfl ?_
    refine fw_iconst C 1 dX2_measure_19 rfl ?_
    refine fw_icmp_ne C 34 dX2_measure_20 (by decide) (fun c2 => ?_) (fun c2 => ?_)
    · replace h := (if_neg c2).symm.trans h
      refine fw_aload_n C 0 dX2_measure_34 rfl rfl ?_
      refine fw_aload_n C 1 dX2_measure_35 rfl rfl ?_
      obtain ⟨g4, h⟩ := gd_some h
      obtain ⟨v3, M3, e3, h⟩ := b2_some h
      refine fw_callV (ci := 2) [_] C (c_X2_forcedWay hl e3) cal_X2_forcedWay wm_X2_210 wi_yX2_forcedWay wsl_yX2_forcedWay (Nat.le_of_ble_eq_true rfl) rfl (gO_of g4) rfl (Nat.le_of_ble_eq_true rfl) ⟨Nat.le_of_ble_eq_true rfl, Nat.le_of_ble_eq_true rfl⟩ ⟨Nat.zero_le _, Nat.zero_le _⟩ dX2_measure_36 ?_
      obtain rfl := Option.some.inj h
      exact fw_iret C hr hlk dX2_measure_39
    · replace h := (if_pos c2).symm.trans h
      refine fw_aload_n C 0 dX2_measure_23 rfl rfl ?_
      refine fw_aload_n C 1 dX2_measure_24 rfl rfl ?_
      obtain ⟨g6, h⟩ := gd_some h
      obtain ⟨v5, M5, e5, h⟩ := b2_some h
      refine fw_callV (ci := 2) [_] C (c_X2_heldIssues hl e5) cal_X2_heldIssues wm_X2_207 wi_yX2_heldIssues wsl_yX2_heldIssues (Nat.le_of_ble_eq_true rfl) rfl (gO_of g6) rfl (Nat.le_of_ble_eq_true rfl) ⟨Nat.le_of_ble_eq_true rfl, Nat.le_of_ble_eq_true rfl⟩ ⟨Nat.zero_le _, Nat.zero_le _⟩ dX2_measure_25 ?_
      obtain ⟨v7, e7, h⟩ := b1_some h
      refine fw_callS [_] C (c_J6_bitCount_0f7a4 hl e7) cal_J6_bitCount_0f7a4 wm_X2_134 wt_yJ6_bitCount_0f7a4 rfl (Nat.le_of_ble_eq_true rfl) ⟨Nat.le_of_ble_eq_true rfl, Nat.le_of_ble_eq_true rfl⟩ ⟨Nat.zero_le _, Nat.zero_le _⟩ dX2_measure_28 ?_
      refine fw_goto C 39 dX2_measure_31 (by decide) ?_
      obtain rfl := Option.some.inj h
      exact fw_iret C hr hlk dX2_measure_39
  · replace h := (if_pos c1).symm.trans h
    refine fw_aload_n C 0 dX2_measure_4 rfl rfl ?_
    refine fw_aload_n C 1 dX2_measure_5 rfl rfl ?_
    obtain ⟨g9, h⟩ := gd_some h
    obtain ⟨v8, e8, h⟩ := b1_some h
    refine fw_callV (ci := 2) [_] C (c_X2_barringSuits hl e8) cal_X2_barringSuits wm_X2_191 wi_yX2_barringSuits wsl_yX2_barringSuits (Nat.le_of_ble_eq_true rfl) rfl (gO_of g9) rfl (Nat.le_of_ble_eq_true rfl) ⟨Nat.le_of_ble_eq_true rfl, Nat.le_of_ble_eq_true rfl⟩ ⟨Nat.zero_le _, Nat.zero_le _⟩ dX2_measure_6 ?_
    refine fw_if_ne C 16 dX2_measure_9 (by decide) (fun c10 => ?_) (fun c10 => ?_)
    · replace h := (if_neg c10).symm.trans h
      refine fw_iconst C 1 dX2_measure_16 rfl ?_
      obtain rfl := Option.some.inj h
      exact fw_iret C hr hlk dX2_measure_17
    · replace h := (if_pos c10).symm.trans h
      refine fw_iconst C 0 dX2_measure_12 rfl ?_
      refine fw_goto C 17 dX2_measure_13 (by decide) ?_
      obtain rfl := Option.some.inj h
      exact fw_iret C hr hlk dX2_measure_17
set_option maxRecDepth 100000 in
def lf_X2_changedWithout_5 (S : List fw_Sh) (a0 : Nat) (a1 : Nat) (x2 : Int32) : Nat → Int32 → Int32 → fw_Mem → Option (Int32 × fw_Mem)
  | 0, _, _, _ => none
  | n + 1, x3, x4, M => gd (gO S 2 a0) (gd (gN (M a0 0)) (gd (gO S 4 ((M a0 0).toNatClampNeg)) (if (M ((M a0 0).toNatClampNeg) 6) ≤ x4 then (some (x3, M)) else (gd (gN (M ((M a0 0).toNatClampNeg) 2)) (gd (gA S 4 ((M ((M a0 0).toNatClampNeg) 2).toNatClampNeg) x4) (gd (gN (M ((M ((M a0 0).toNatClampNeg) 2).toNatClampNeg) x4.toNatClampNeg)) (b2 (f_X2_measure S M a0 ((M ((M ((M a0 0).toNatClampNeg) 2).toNatClampNeg) x4.toNatClampNeg).toNatClampNeg) x2) (fun v8 M8 => gd (gO S 6 a1) (bm (fw_set M8 a1 9 1) (fun M10 => b2 (f_X2_measure S M10 a0 ((M ((M ((M a0 0).toNatClampNeg) 2).toNatClampNeg) x4.toNatClampNeg).toNatClampNeg) x2) (fun v11 M11 => bm (fw_set M11 a1 9 0) (fun M12 => if v8 = v11 then (lf_X2_changedWithout_5 S a0 a1 x2 n x3 (x4 + 1) M12) else (bm (x3 ||| ((1 : Int32) <<< (x4 &&& 31))) (fun y14 => lf_X2_changedWithout_5 S a0 a1 x2 n y14 (x4 + 1) M12))))))))))))))
set_option maxHeartbeats 4000000 in
set_option maxRecDepth 100000 in
theorem lc_X2_changedWithout_5 {G : fw_G} {p : Program} {l : Launch} {e : Env} {s : State} {m : MethodId} {args : Array Value} {below : List Frame} {meth : Method} {c : Code} {S : List fw_Sh} {o : fw_O} {a0 : Nat} {a1 : Nat} {x2 : Int32} (C : fw_C G RX2 cX2_changedWithout 8 p s m args c) (hr : meth.sig.returnType = (some .int)) (hlk : meth.locks = false) (hl : l.stackTraces = false) (ht : ∀ x ∈ c.exceptionTable.toList, False) :
    ∀ {n : Nat} {x3 : Int32} {x4 : Int32} {M : fw_Mem} {r : (Int32 × fw_Mem)} (h : lf_X2_changedWithout_5 S a0 a1 x2 n x3 x4 M = some r) (kx : fw_W G p l e (fw_rm 7 (fw_mcO o) (fw_msO o)) s m args below meth c 8 (fw_Z G below args s (fw_mcO o) (fw_msO o) o) 0 0 77 [(3, .int r.1)] [] S r.2), fw_W G p l e (fw_rm 7 (fw_mcO o) (fw_msO o)) s m args below meth c 8 (fw_Z G below args s (fw_mcO o) (fw_msO o) o) 0 0 5 [(0, .ref a0), (1, .ref a1), (2, .int x2), (3, .int x3), (4, .int x4)] [] S M := by
  intro n
  induction n with
  | zero =>
    intro x3 x4 M r h
    exact nomatch (show (none : Option (Int32 × fw_Mem)) = some r from h)
  | succ n ih =>
    intro x3 x4 M r h kx
    rw [lf_X2_changedWithout_5.eq_2] at h
    refine fw_iload C 4 dX2_changedWithout_5 rfl ?_
    refine fw_aload_n C 0 dX2_changedWithout_7 rfl rfl ?_
    obtain ⟨g1, h⟩ := gd_some h
    obtain ⟨g2, h⟩ := gd_some h
    refine fw_getR C 2 0 (Nat.le_of_ble_eq_true rfl) (Nat.le_of_ble_eq_true rfl) wf_X2_27 rfl (gO_of g1) (gN_of g2) dX2_changedWithout_8 ?_
    obtain ⟨g3, h⟩ := gd_some h
    refine fw_getI C 4 6 (Nat.le_of_ble_eq_true rfl) (Nat.le_of_ble_eq_true rfl) wf_X2_31 rfl (gO_of g3) dX2_changedWithout_11 ?_
    refine fw_icmp_ge C 77 dX2_changedWithout_14 (by decide) (fun c4 => ?_) (fun c4 => ?_)
    · replace h := (if_pos c4).symm.trans h
      obtain rfl := Option.some.inj h
      refine fw_sub [3] rfl ?_
      exact kx
    · replace h := (if_neg c4).symm.trans h
      refine fw_aload_n C 0 dX2_changedWithout_17 rfl rfl ?_
      refine fw_getR C 2 0 (Nat.le_of_ble_eq_true rfl) (Nat.le_of_ble_eq_true rfl) wf_X2_27 rfl (gO_of g1) (gN_of g2) dX2_changedWithout_18 ?_
      obtain ⟨g5, h⟩ := gd_some h
      refine fw_getR C 4 2 (Nat.le_of_ble_eq_true rfl) (Nat.le_of_ble_eq_true rfl) wf_X2_37 rfl (gO_of g3) (gN_of g5) dX2_changedWithout_21 ?_
      refine fw_iload C 4 dX2_changedWithout_24 rfl ?_
      obtain ⟨g6, h⟩ := gd_some h
      obtain ⟨g7, h⟩ := gd_some h
      refine fw_aald C 4 (by decide) (gA_of g6) (gN_of g7) dX2_changedWithout_26 ?_
      refine fw_astore C [(5, _), (0, _), (1, _), (2, _), (3, _), (4, _)] dX2_changedWithout_27 (Nat.le_of_ble_eq_true rfl) rfl ?_
      refine fw_aload_n C 1 dX2_changedWithout_29 rfl rfl ?_
      refine fw_aload C 0 dX2_changedWithout_30 rfl ?_
      refine fw_iload_n C 3 dX2_changedWithout_32 rfl rfl ?_
      obtain ⟨v8, M8, e8, h⟩ := b2_some h
      refine fw_callV (ci := 2) [_, _] C (c_X2_measure hl e8) cal_X2_measure wm_X2_201 wi_yX2_measure wsl_yX2_measure (Nat.le_of_ble_eq_true rfl) rfl (gO_of g1) rfl (Nat.le_of_ble_eq_true rfl) ⟨Nat.le_of_ble_eq_true rfl, Nat.le_of_ble_eq_true rfl⟩ ⟨Nat.zero_le _, Nat.zero_le _⟩ dX2_changedWithout_33 ?_
      refine fw_istore C [(6, _), (5, _), (0, _), (1, _), (2, _), (3, _), (4, _)] dX2_changedWithout_36 (Nat.le_of_ble_eq_true rfl) rfl ?_
      refine fw_aload_n C 3 dX2_changedWithout_38 rfl rfl ?_
      refine fw_iconst C 1 dX2_changedWithout_39 rfl ?_
      obtain ⟨g9, h⟩ := gd_some h
      refine fw_putI C 6 9 (Nat.le_of_ble_eq_true rfl) (Nat.le_of_ble_eq_true rfl) wf_X2_204 rfl rfl rfl rfl (gO_of g9) dX2_changedWithout_40 ?_
      refine fw_bm h (fun M10 h => ?_)
      refine fw_aload_n C 2 dX2_changedWithout_43 rfl rfl ?_
      refine fw_aload C 1 dX2_changedWithout_44 rfl ?_
      refine fw_iload_n C 4 dX2_changedWithout_46 rfl rfl ?_
      obtain ⟨v11, M11, e11, h⟩ := b2_some h
      refine fw_callV (ci := 2) [_, _] C (c_X2_measure hl e11) cal_X2_measure wm_X2_201 wi_yX2_measure wsl_yX2_measure (Nat.le_of_ble_eq_true rfl) rfl (gO_of g1) rfl (Nat.le_of_ble_eq_true rfl) ⟨Nat.le_of_ble_eq_true rfl, Nat.le_of_ble_eq_true rfl⟩ ⟨Nat.zero_le _, Nat.zero_le _⟩ dX2_changedWithout_47 ?_
      refine fw_istore C [(7, _), (6, _), (5, _), (0, _), (1, _), (2, _), (3, _), (4, _)] dX2_changedWithout_50 (Nat.le_of_ble_eq_true rfl) rfl ?_
      refine fw_aload_n C 4 dX2_changedWithout_52 rfl rfl ?_
      refine fw_iconst C 0 dX2_changedWithout_53 rfl ?_
      refine fw_putI C 6 9 (Nat.le_of_ble_eq_true rfl) (Nat.le_of_ble_eq_true rfl) wf_X2_204 rfl rfl rfl rfl (gO_of g9) dX2_changedWithout_54 ?_
      refine fw_bm h (fun M12 h => ?_)
      refine fw_iload C 1 dX2_changedWithout_57 rfl ?_
      refine fw_iload C 0 dX2_changedWithout_59 rfl ?_
      refine fw_icmp_eq C 71 dX2_changedWithout_61 (by decide) (fun c13 => ?_) (fun c13 => ?_)
      · replace h := (if_pos c13).symm.trans h
        refine fw_iinc C _ 7 [(4, _), (7, _), (6, _), (5, _), (0, _), (1, _), (2, _), (3, _)] dX2_changedWithout_71 rfl rfl (Nat.le_of_ble_eq_true rfl) rfl ?_
        refine fw_goto C 5 dX2_changedWithout_74 (by decide) ?_
        refine fw_sub [4, 5, 6, 7, 0] rfl ?_
        exact ih h kx
      · replace h := (if_neg c13).symm.trans h
        refine fw_iload_n C 6 dX2_changedWithout_64 rfl rfl ?_
        refine fw_iconst C 1 dX2_changedWithout_65 rfl ?_
        refine fw_iload C 7 dX2_changedWithout_66 rfl ?_
        refine fw_ishl C dX2_changedWithout_68 ?_
        refine fw_ior C dX2_changedWithout_69 ?_
        refine fw_bi h (fun y14 h => ?_)
        refine fw_istore_n C [(3, _), (7, _), (6, _), (5, _), (0, _), (1, _), (2, _), (4, _)] dX2_changedWithout_70 rfl (Nat.le_of_ble_eq_true rfl) rfl ?_
        refine fw_iinc C _ 7 [(4, _), (3, _), (7, _), (6, _), (5, _), (0, _), (1, _), (2, _)] dX2_changedWithout_71 rfl rfl (Nat.le_of_ble_eq_true rfl) rfl ?_
        refine fw_goto C 5 dX2_changedWithout_74 (by decide) ?_
        refine fw_sub [5, 6, 7, 1, 0] rfl ?_
        exact ih h kx
set_option maxRecDepth 100000 in
def f_X2_changedWithout (S : List fw_Sh) (M : fw_Mem) (a0 : Nat) (a1 : Nat) (x2 : Int32) : Option (Int32 × fw_Mem) := b1 (lf_X2_changedWithout_5 S a0 a1 x2 20000 0 0 M) (fun l15 => some (l15.1, l15.2))
set_option maxHeartbeats 4000000 in
set_option maxRecDepth 100000 in
theorem c_X2_changedWithout {l : Launch} {G : fw_G} {S : List fw_Sh} {M : fw_Mem} {a0 : Nat} {a1 : Nat} {x2 : Int32} {r : (Int32 × fw_Mem)} (hl : l.stackTraces = false) (h : f_X2_changedWithout S M a0 a1 x2 = some r) : fw_M l G yX2_changedWithout (.code yX2_changedWithout cX2_changedWithout 8 (some .int)) 7 (fw_mcO (.inl (some (.int r.1)), S, r.2)) (fw_msO (.inl (some (.int r.1)), S, r.2)) S M [.ref a0, .ref a1, .int x2] (.inl (some (.int r.1)), S, r.2) := by
  refine fw_of [(0, .ref a0), (1, .ref a1), (2, .int x2)] (by decide) (Nat.le_of_ble_eq_true rfl) rfl ?_
  intro p e s m args below meth c C hr hlk hnm ht _
  unfold f_X2_changedWithout at h
  refine fw_iconst C 0 dX2_changedWithout_0 rfl ?_
  refine fw_istore_n C [(3, _), (0, _), (1, _), (2, _)] dX2_changedWithout_1 rfl (Nat.le_of_ble_eq_true rfl) rfl ?_
  refine fw_iconst C 0 dX2_changedWithout_2 rfl ?_
  refine fw_istore C [(4, _), (3, _), (0, _), (1, _), (2, _)] dX2_changedWithout_3 (Nat.le_of_ble_eq_true rfl) rfl ?_
  refine fw_sub [2, 3, 4, 1, 0] rfl ?_
  obtain ⟨l15, e15, h⟩ := b1_some h
  refine lc_X2_changedWithout_5 C hr hlk hl ht e15 ?_
  refine fw_iload_n C 0 dX2_changedWithout_77 rfl rfl ?_
  obtain rfl := Option.some.inj h
  exact fw_iret C hr hlk dX2_changedWithout_78
set_option maxRecDepth 100000 in
def lf_X2_restingOn_4 (S : List fw_Sh) (a0 : Nat) (x1 : Int32) : Nat → Int32 → Int32 → fw_Mem → Option (Int32 × fw_Mem)
  | 0, _, _, _ => none
  | n + 1, x2, x3, M => gd (gO S 2 a0) (gd (gN (M a0 0)) (gd (gO S 4 ((M a0 0).toNatClampNeg)) (if (M ((M a0 0).toNatClampNeg) 6) ≤ x3 then (some (x2, M)) else (gd (gN (M a0 2)) (gd (gN (M ((M a0 0).toNatClampNeg) 2)) (gd (gA S 4 ((M ((M a0 0).toNatClampNeg) 2).toNatClampNeg) x3) (gd (gN (M ((M ((M a0 0).toNatClampNeg) 2).toNatClampNeg) x3.toNatClampNeg)) (b2 (f_X2_restsOn S M a0 ((M ((M ((M a0 0).toNatClampNeg) 2).toNatClampNeg) x3.toNatClampNeg).toNatClampNeg)) (fun v9 M9 => gd (gA S 0 ((M a0 2).toNatClampNeg) x3) (bm (fw_set M9 ((M a0 2).toNatClampNeg) x3.toNatClampNeg v9) (fun M11 => gd (gN (M11 a0 2)) (gd (gA S 0 ((M11 a0 2).toNatClampNeg) x3) (if ((M11 ((M11 a0 2).toNatClampNeg) x3.toNatClampNeg) &&& x1) = 0 then (lf_X2_restingOn_4 S a0 x1 n x2 (x3 + 1) M11) else (bm (x2 ||| ((1 : Int32) <<< (x3 &&& 31))) (fun y15 => lf_X2_restingOn_4 S a0 x1 n y15 (x3 + 1) M11)))))))))))))))
set_option maxHeartbeats 4000000 in
set_option maxRecDepth 100000 in
theorem lc_X2_restingOn_4 {G : fw_G} {p : Program} {l : Launch} {e : Env} {s : State} {m : MethodId} {args : Array Value} {below : List Frame} {meth : Method} {c : Code} {S : List fw_Sh} {o : fw_O} {a0 : Nat} {x1 : Int32} (C : fw_C G RX2 cX2_restingOn 4 p s m args c) (hr : meth.sig.returnType = (some .int)) (hlk : meth.locks = false) (hl : l.stackTraces = false) (ht : ∀ x ∈ c.exceptionTable.toList, False) :
    ∀ {n : Nat} {x2 : Int32} {x3 : Int32} {M : fw_Mem} {r : (Int32 × fw_Mem)} (h : lf_X2_restingOn_4 S a0 x1 n x2 x3 M = some r) (kx : fw_W G p l e (fw_rm 6 (fw_mcO o) (fw_msO o)) s m args below meth c 4 (fw_Z G below args s (fw_mcO o) (fw_msO o) o) 0 0 57 [(2, .int r.1)] [] S r.2), fw_W G p l e (fw_rm 6 (fw_mcO o) (fw_msO o)) s m args below meth c 4 (fw_Z G below args s (fw_mcO o) (fw_msO o) o) 0 0 4 [(0, .ref a0), (1, .int x1), (2, .int x2), (3, .int x3)] [] S M := by
  intro n
  induction n with
  | zero =>
    intro x2 x3 M r h
    exact nomatch (show (none : Option (Int32 × fw_Mem)) = some r from h)
  | succ n ih =>
    intro x2 x3 M r h kx
    rw [lf_X2_restingOn_4.eq_2] at h
    refine fw_iload_n C 3 dX2_restingOn_4 rfl rfl ?_
    refine fw_aload_n C 0 dX2_restingOn_5 rfl rfl ?_
    obtain ⟨g1, h⟩ := gd_some h
    obtain ⟨g2, h⟩ := gd_some h
    refine fw_getR C 2 0 (Nat.le_of_ble_eq_true rfl) (Nat.le_of_ble_eq_true rfl) wf_X2_27 rfl (gO_of g1) (gN_of g2) dX2_restingOn_6 ?_
    obtain ⟨g3, h⟩ := gd_some h
    refine fw_getI C 4 6 (Nat.le_of_ble_eq_true rfl) (Nat.le_of_ble_eq_true rfl) wf_X2_31 rfl (gO_of g3) dX2_restingOn_9 ?_
    refine fw_icmp_ge C 57 dX2_restingOn_12 (by decide) (fun c4 => ?_) (fun c4 => ?_)
    · replace h := (if_pos c4).symm.trans h
      obtain rfl := Option.some.inj h
      refine fw_sub [2] rfl ?_
      exact kx
    · replace h := (if_neg c4).symm.trans h
      refine fw_aload_n C 0 dX2_restingOn_15 rfl rfl ?_
      obtain ⟨g5, h⟩ := gd_some h
      refine fw_getR C 2 2 (Nat.le_of_ble_eq_true rfl) (Nat.le_of_ble_eq_true rfl) wf_X2_15 rfl (gO_of g1) (gN_of g5) dX2_restingOn_16 ?_
      refine fw_iload_n C 3 dX2_restingOn_19 rfl rfl ?_
      refine fw_aload_n C 0 dX2_restingOn_20 rfl rfl ?_
      refine fw_aload_n C 0 dX2_restingOn_21 rfl rfl ?_
      refine fw_getR C 2 0 (Nat.le_of_ble_eq_true rfl) (Nat.le_of_ble_eq_true rfl) wf_X2_27 rfl (gO_of g1) (gN_of g2) dX2_restingOn_22 ?_
      obtain ⟨g6, h⟩ := gd_some h
      refine fw_getR C 4 2 (Nat.le_of_ble_eq_true rfl) (Nat.le_of_ble_eq_true rfl) wf_X2_37 rfl (gO_of g3) (gN_of g6) dX2_restingOn_25 ?_
      refine fw_iload_n C 3 dX2_restingOn_28 rfl rfl ?_
      obtain ⟨g7, h⟩ := gd_some h
      obtain ⟨g8, h⟩ := gd_some h
      refine fw_aald C 4 (by decide) (gA_of g7) (gN_of g8) dX2_restingOn_29 ?_
      obtain ⟨v9, M9, e9, h⟩ := b2_some h
      refine fw_callV (ci := 2) [_] C (c_X2_restsOn hl e9) cal_X2_restsOn wm_X2_195 wi_yX2_restsOn wsl_yX2_restsOn (Nat.le_of_ble_eq_true rfl) rfl (gO_of g1) rfl (Nat.le_of_ble_eq_true rfl) ⟨Nat.le_of_ble_eq_true rfl, Nat.le_of_ble_eq_true rfl⟩ ⟨Nat.zero_le _, Nat.zero_le _⟩ dX2_restingOn_30 ?_
      obtain ⟨g10, h⟩ := gd_some h
      refine fw_iast C (gA_of g10) dX2_restingOn_33 ?_
      refine fw_bm h (fun M11 h => ?_)
      refine fw_aload_n C 0 dX2_restingOn_34 rfl rfl ?_
      obtain ⟨g12, h⟩ := gd_some h
      refine fw_getR C 2 2 (Nat.le_of_ble_eq_true rfl) (Nat.le_of_ble_eq_true rfl) wf_X2_15 rfl (gO_of g1) (gN_of g12) dX2_restingOn_35 ?_
      refine fw_iload_n C 3 dX2_restingOn_38 rfl rfl ?_
      obtain ⟨g13, h⟩ := gd_some h
      refine fw_iald C (gA_of g13) dX2_restingOn_39 ?_
      refine fw_iload_n C 1 dX2_restingOn_40 rfl rfl ?_
      refine fw_iand C dX2_restingOn_41 ?_
      refine fw_if_eq C 51 dX2_restingOn_42 (by decide) (fun c14 => ?_) (fun c14 => ?_)
      · replace h := (if_pos c14).symm.trans h
        refine fw_iinc C _ 3 [(3, _), (0, _), (1, _), (2, _)] dX2_restingOn_51 rfl rfl (Nat.le_of_ble_eq_true rfl) rfl ?_
        refine fw_goto C 4 dX2_restingOn_54 (by decide) ?_
        refine fw_sub [1, 2, 3, 0] rfl ?_
        exact ih h kx
      · replace h := (if_neg c14).symm.trans h
        refine fw_iload_n C 2 dX2_restingOn_45 rfl rfl ?_
        refine fw_iconst C 1 dX2_restingOn_46 rfl ?_
        refine fw_iload_n C 3 dX2_restingOn_47 rfl rfl ?_
        refine fw_ishl C dX2_restingOn_48 ?_
        refine fw_ior C dX2_restingOn_49 ?_
        refine fw_bi h (fun y15 h => ?_)
        refine fw_istore_n C [(2, _), (0, _), (1, _), (3, _)] dX2_restingOn_50 rfl (Nat.le_of_ble_eq_true rfl) rfl ?_
        refine fw_iinc C _ 3 [(3, _), (2, _), (0, _), (1, _)] dX2_restingOn_51 rfl rfl (Nat.le_of_ble_eq_true rfl) rfl ?_
        refine fw_goto C 4 dX2_restingOn_54 (by decide) ?_
        refine fw_sub [2, 3, 1, 0] rfl ?_
        exact ih h kx
set_option maxRecDepth 100000 in
def f_X2_restingOn (S : List fw_Sh) (M : fw_Mem) (a0 : Nat) (x1 : Int32) : Option (Int32 × fw_Mem) := b1 (lf_X2_restingOn_4 S a0 x1 20000 0 0 M) (fun l16 => some (l16.1, l16.2))
set_option maxHeartbeats 4000000 in
set_option maxRecDepth 100000 in
theorem c_X2_restingOn {l : Launch} {G : fw_G} {S : List fw_Sh} {M : fw_Mem} {a0 : Nat} {x1 : Int32} {r : (Int32 × fw_Mem)} (hl : l.stackTraces = false) (h : f_X2_restingOn S M a0 x1 = some r) : fw_M l G yX2_restingOn (.code yX2_restingOn cX2_restingOn 4 (some .int)) 6 (fw_mcO (.inl (some (.int r.1)), S, r.2)) (fw_msO (.inl (some (.int r.1)), S, r.2)) S M [.ref a0, .int x1] (.inl (some (.int r.1)), S, r.2) := by
  refine fw_of [(0, .ref a0), (1, .int x1)] (by decide) (Nat.le_of_ble_eq_true rfl) rfl ?_
  intro p e s m args below meth c C hr hlk hnm ht _
  unfold f_X2_restingOn at h
  refine fw_iconst C 0 dX2_restingOn_0 rfl ?_
  refine fw_istore_n C [(2, _), (0, _), (1, _)] dX2_restingOn_1 rfl (Nat.le_of_ble_eq_true rfl) rfl ?_
  refine fw_iconst C 0 dX2_restingOn_2 rfl ?_
  refine fw_istore_n C [(3, _), (2, _), (0, _), (1, _)] dX2_restingOn_3 rfl (Nat.le_of_ble_eq_true rfl) rfl ?_
  refine fw_sub [2, 3, 1, 0] rfl ?_
  obtain ⟨l16, e16, h⟩ := b1_some h
  refine lc_X2_restingOn_4 C hr hlk hl ht e16 ?_
  refine fw_iload_n C 0 dX2_restingOn_57 rfl rfl ?_
  obtain rfl := Option.some.inj h
  exact fw_iret C hr hlk dX2_restingOn_58
set_option maxRecDepth 100000 in
def lf_X2_restingInTheEnd_19 (S : List fw_Sh) (M : fw_Mem) (a0 : Nat) (x3 : Int32) : Nat → Int32 → Int32 → Option (Int32)
  | 0, _, _ => none
  | n + 1, x2, x4 => gd (gO S 2 a0) (gd (gN (M a0 0)) (gd (gO S 4 ((M a0 0).toNatClampNeg)) (if (M ((M a0 0).toNatClampNeg) 6) ≤ x4 then (some x2) else (gd (gN (M a0 2)) (gd (gA S 0 ((M a0 2).toNatClampNeg) x4) (if ((M ((M a0 2).toNatClampNeg) x4.toNatClampNeg) &&& x2) = 0 then (lf_X2_restingInTheEnd_19 S M a0 x3 n x2 (x4 + 1)) else (bm (x2 ||| ((1 : Int32) <<< (x4 &&& 31))) (fun y11 => lf_X2_restingInTheEnd_19 S M a0 x3 n y11 (x4 + 1)))))))))
set_option maxHeartbeats 4000000 in
set_option maxRecDepth 100000 in
theorem lc_X2_restingInTheEnd_19 {G : fw_G} {p : Program} {l : Launch} {e : Env} {s : State} {m : MethodId} {args : Array Value} {below : List Frame} {meth : Method} {c : Code} {S : List fw_Sh} {o : fw_O} {M : fw_Mem} {a0 : Nat} {x3 : Int32} (C : fw_C G RX2 cX2_restingInTheEnd 5 p s m args c) (hr : meth.sig.returnType = (some .int)) (hlk : meth.locks = false) (hl : l.stackTraces = false) (ht : ∀ x ∈ c.exceptionTable.toList, False) :
    ∀ {n : Nat} {x2 : Int32} {x4 : Int32} {r : (Int32)} (h : lf_X2_restingInTheEnd_19 S M a0 x3 n x2 x4 = some r) (kx : fw_W G p l e (fw_rm 7 (fw_mcO o) (fw_msO o)) s m args below meth c 5 (fw_Z G below args s (fw_mcO o) (fw_msO o) o) 0 0 56 [(0, .ref a0), (2, .int r), (3, .int x3)] [] S M), fw_W G p l e (fw_rm 7 (fw_mcO o) (fw_msO o)) s m args below meth c 5 (fw_Z G below args s (fw_mcO o) (fw_msO o) o) 0 0 19 [(0, .ref a0), (2, .int x2), (3, .int x3), (4, .int x4)] [] S M := by
  intro n
  induction n with
  | zero =>
    intro x2 x4 r h
    exact nomatch (show (none : Option (Int32)) = some r from h)
  | succ n ih =>
    intro x2 x4 r h kx
    rw [lf_X2_restingInTheEnd_19.eq_2] at h
    refine fw_iload C 3 dX2_restingInTheEnd_19 rfl ?_
    refine fw_aload_n C 0 dX2_restingInTheEnd_21 rfl rfl ?_
    obtain ⟨g4, h⟩ := gd_some h
    obtain ⟨g5, h⟩ := gd_some h
    refine fw_getR C 2 0 (Nat.le_of_ble_eq_true rfl) (Nat.le_of_ble_eq_true rfl) wf_X2_27 rfl (gO_of g4) (gN_of g5) dX2_restingInTheEnd_22 ?_
    obtain ⟨g6, h⟩ := gd_some h
    refine fw_getI C 4 6 (Nat.le_of_ble_eq_true rfl) (Nat.le_of_ble_eq_true rfl) wf_X2_31 rfl (gO_of g6) dX2_restingInTheEnd_25 ?_
    refine fw_icmp_ge C 56 dX2_restingInTheEnd_28 (by decide) (fun c7 => ?_) (fun c7 => ?_)
    · replace h := (if_pos c7).symm.trans h
      obtain rfl := Option.some.inj h
      refine fw_sub [0, 1, 2] rfl ?_
      exact kx
    · replace h := (if_neg c7).symm.trans h
      refine fw_aload_n C 0 dX2_restingInTheEnd_31 rfl rfl ?_
      obtain ⟨g8, h⟩ := gd_some h
      refine fw_getR C 2 2 (Nat.le_of_ble_eq_true rfl) (Nat.le_of_ble_eq_true rfl) wf_X2_15 rfl (gO_of g4) (gN_of g8) dX2_restingInTheEnd_32 ?_
      refine fw_iload C 3 dX2_restingInTheEnd_35 rfl ?_
      obtain ⟨g9, h⟩ := gd_some h
      refine fw_iald C (gA_of g9) dX2_restingInTheEnd_37 ?_
      refine fw_iload_n C 1 dX2_restingInTheEnd_38 rfl rfl ?_
      refine fw_iand C dX2_restingInTheEnd_39 ?_
      refine fw_if_eq C 50 dX2_restingInTheEnd_40 (by decide) (fun c10 => ?_) (fun c10 => ?_)
      · replace h := (if_pos c10).symm.trans h
        refine fw_iinc C _ 3 [(4, _), (0, _), (2, _), (3, _)] dX2_restingInTheEnd_50 rfl rfl (Nat.le_of_ble_eq_true rfl) rfl ?_
        refine fw_goto C 19 dX2_restingInTheEnd_53 (by decide) ?_
        refine fw_sub [1, 2, 3, 0] rfl ?_
        exact ih h kx
      · replace h := (if_neg c10).symm.trans h
        refine fw_iload_n C 1 dX2_restingInTheEnd_43 rfl rfl ?_
        refine fw_iconst C 1 dX2_restingInTheEnd_44 rfl ?_
        refine fw_iload C 3 dX2_restingInTheEnd_45 rfl ?_
        refine fw_ishl C dX2_restingInTheEnd_47 ?_
        refine fw_ior C dX2_restingInTheEnd_48 ?_
        refine fw_bi h (fun y11 h => ?_)
        refine fw_istore_n C [(2, _), (0, _), (3, _), (4, _)] dX2_restingInTheEnd_49 rfl (Nat.le_of_ble_eq_true rfl) rfl ?_
        refine fw_iinc C _ 3 [(4, _), (2, _), (0, _), (3, _)] dX2_restingInTheEnd_50 rfl rfl (Nat.le_of_ble_eq_true rfl) rfl ?_
        refine fw_goto C 19 dX2_restingInTheEnd_53 (by decide) ?_
        refine fw_sub [2, 1, 3, 0] rfl ?_
        exact ih h kx
set_option maxRecDepth 100000 in
def lf_X2_restingInTheEnd_10 (S : List fw_Sh) (M : fw_Mem) (a0 : Nat) : Nat → Int32 → Int32 → Option (Int32)
  | 0, _, _ => none
  | n + 1, x2, x3 => if (10 : Int32) ≤ x3 then (some x2) else (b1 (lf_X2_restingInTheEnd_19 S M a0 x3 20000 x2 0) (fun l12 => lf_X2_restingInTheEnd_10 S M a0 n l12 (x3 + 1)))
set_option maxHeartbeats 4000000 in
set_option maxRecDepth 100000 in
theorem lc_X2_restingInTheEnd_10 {G : fw_G} {p : Program} {l : Launch} {e : Env} {s : State} {m : MethodId} {args : Array Value} {below : List Frame} {meth : Method} {c : Code} {S : List fw_Sh} {o : fw_O} {M : fw_Mem} {a0 : Nat} (C : fw_C G RX2 cX2_restingInTheEnd 5 p s m args c) (hr : meth.sig.returnType = (some .int)) (hlk : meth.locks = false) (hl : l.stackTraces = false) (ht : ∀ x ∈ c.exceptionTable.toList, False) :
    ∀ {n : Nat} {x2 : Int32} {x3 : Int32} {r : (Int32)} (h : lf_X2_restingInTheEnd_10 S M a0 n x2 x3 = some r) (kx : fw_W G p l e (fw_rm 7 (fw_mcO o) (fw_msO o)) s m args below meth c 5 (fw_Z G below args s (fw_mcO o) (fw_msO o) o) 0 0 62 [(2, .int r)] [] S M), fw_W G p l e (fw_rm 7 (fw_mcO o) (fw_msO o)) s m args below meth c 5 (fw_Z G below args s (fw_mcO o) (fw_msO o) o) 0 0 10 [(0, .ref a0), (2, .int x2), (3, .int x3)] [] S M := by
  intro n
  induction n with
  | zero =>
    intro x2 x3 r h
    exact nomatch (show (none : Option (Int32)) = some r from h)
  | succ n ih =>
    intro x2 x3 r h kx
    rw [lf_X2_restingInTheEnd_10.eq_2] at h
    refine fw_iload_n C 2 dX2_restingInTheEnd_10 rfl rfl ?_
    refine fw_bipush C 10 dX2_restingInTheEnd_11 rfl ?_
    refine fw_icmp_ge C 62 dX2_restingInTheEnd_13 (by decide) (fun c3 => ?_) (fun c3 => ?_)
    · replace h := (if_pos c3).symm.trans h
      obtain rfl := Option.some.inj h
      refine fw_sub [1] rfl ?_
      exact kx
    · replace h := (if_neg c3).symm.trans h
      refine fw_iconst C 0 dX2_restingInTheEnd_16 rfl ?_
      refine fw_istore C [(4, _), (0, _), (2, _), (3, _)] dX2_restingInTheEnd_17 (Nat.le_of_ble_eq_true rfl) rfl ?_
      refine fw_sub [1, 2, 3, 0] rfl ?_
      obtain ⟨l12, e12, h⟩ := b1_some h
      refine lc_X2_restingInTheEnd_19 C hr hlk hl ht e12 ?_
      refine fw_iinc C _ 2 [(3, _), (0, _), (2, _)] dX2_restingInTheEnd_56 rfl rfl (Nat.le_of_ble_eq_true rfl) rfl ?_
      refine fw_goto C 10 dX2_restingInTheEnd_59 (by decide) ?_
      refine fw_sub [1, 2, 0] rfl ?_
      exact ih h kx
set_option maxRecDepth 100000 in
def f_X2_restingInTheEnd (S : List fw_Sh) (M : fw_Mem) (a0 : Nat) (x1 : Int32) : Option (Int32 × fw_Mem) := gd (gO S 2 a0) (b2 (f_X2_restingOn S M a0 ((1 : Int32) <<< (x1 &&& 31))) (fun v1 M1 => b1 (lf_X2_restingInTheEnd_10 S M1 a0 20000 v1 0) (fun l13 => some (l13, M1))))
set_option maxHeartbeats 4000000 in
set_option maxRecDepth 100000 in
theorem c_X2_restingInTheEnd {l : Launch} {G : fw_G} {S : List fw_Sh} {M : fw_Mem} {a0 : Nat} {x1 : Int32} {r : (Int32 × fw_Mem)} (hl : l.stackTraces = false) (h : f_X2_restingInTheEnd S M a0 x1 = some r) : fw_M l G yX2_restingInTheEnd (.code yX2_restingInTheEnd cX2_restingInTheEnd 5 (some .int)) 7 (fw_mcO (.inl (some (.int r.1)), S, r.2)) (fw_msO (.inl (some (.int r.1)), S, r.2)) S M [.ref a0, .int x1] (.inl (some (.int r.1)), S, r.2) := by
  refine fw_of [(0, .ref a0), (1, .int x1)] (by decide) (Nat.le_of_ble_eq_true rfl) rfl ?_
  intro p e s m args below meth c C hr hlk hnm ht _
  unfold f_X2_restingInTheEnd at h
  refine fw_aload_n C 0 dX2_restingInTheEnd_0 rfl rfl ?_
  refine fw_iconst C 1 dX2_restingInTheEnd_1 rfl ?_
  refine fw_iload_n C 1 dX2_restingInTheEnd_2 rfl rfl ?_
  refine fw_ishl C dX2_restingInTheEnd_3 ?_
  obtain ⟨g2, h⟩ := gd_some h
  obtain ⟨v1, M1, e1, h⟩ := b2_some h
  refine fw_callV (ci := 2) [_] C (c_X2_restingOn hl e1) cal_X2_restingOn wm_X2_198 wi_yX2_restingOn wsl_yX2_restingOn (Nat.le_of_ble_eq_true rfl) rfl (gO_of g2) rfl (Nat.le_of_ble_eq_true rfl) ⟨Nat.le_of_ble_eq_true rfl, Nat.le_of_ble_eq_true rfl⟩ ⟨Nat.zero_le _, Nat.zero_le _⟩ dX2_restingInTheEnd_4 ?_
  refine fw_istore_n C [(2, _), (0, _), (1, _)] dX2_restingInTheEnd_7 rfl (Nat.le_of_ble_eq_true rfl) rfl ?_
  refine fw_iconst C 0 dX2_restingInTheEnd_8 rfl ?_
  refine fw_istore_n C [(3, _), (2, _), (0, _), (1, _)] dX2_restingInTheEnd_9 rfl (Nat.le_of_ble_eq_true rfl) rfl ?_
  refine fw_sub [2, 1, 0] rfl ?_
  obtain ⟨l13, e13, h⟩ := b1_some h
  refine lc_X2_restingInTheEnd_10 C hr hlk hl ht e13 ?_
  refine fw_iload_n C 0 dX2_restingInTheEnd_62 rfl rfl ?_
  obtain rfl := Option.some.inj h
  exact fw_iret C hr hlk dX2_restingInTheEnd_63
set_option maxRecDepth 100000 in
def f_X9_goes (S : List fw_Sh) (M : fw_Mem) (a0 : Nat) (x1 : Int32) (x2 : Int32) : Option ((Int32 ⊕ String) × fw_Mem) := gd (gO S 9 a0) (b1 (f_X9_suitAt S M a0 x1) (fun v1 => bx v1 (fun u1 => bn u1 none (fun w1 => if x2 < 0 then (some (.inr exN, M)) else (if x2 ≤ 4 then (gd (gO S 6 w1) (b1 (f_X6_counts S M w1) (fun v5 => if v5 = 0 then (some (.inl 0, M)) else (if x2 = 3 then (gd (gN (M a0 5)) (gd (gO S 2 ((M a0 5).toNatClampNeg)) (b2 (f_X2_restingOn S M ((M a0 5).toNatClampNeg) ((1 : Int32) <<< (x1 &&& 31))) (fun v17 M17 => some (.inl v17, M17))))) else (if x2 = 4 then (gd (gN (M a0 5)) (gd (gO S 2 ((M a0 5).toNatClampNeg)) (b2 (f_X2_restingInTheEnd S M ((M a0 5).toNatClampNeg) x1) (fun v14 M14 => some (.inl v14, M14))))) else (gd (gN (M a0 5)) (gd (gO S 2 ((M a0 5).toNatClampNeg)) (b2 (f_X2_changedWithout S M ((M a0 5).toNatClampNeg) w1 x2) (fun v11 M11 => some (.inl v11, M11)))))))))) else (some (.inr exN, M))))) (fun E1 => some (.inr E1, M))))
set_option maxHeartbeats 4000000 in
set_option maxRecDepth 100000 in
theorem c_X9_goes {l : Launch} {G : fw_G} {S : List fw_Sh} {M : fw_Mem} {a0 : Nat} {x1 : Int32} {x2 : Int32} {r : ((Int32 ⊕ String) × fw_Mem)} (hl : l.stackTraces = false) (h : f_X9_goes S M a0 x1 x2 = some r) : fw_M l G yX9_goes (.code yX9_goes cX9_goes 4 (some .int)) 8 (fw_mcO (fw_oI r.1, S, r.2)) (fw_msO (fw_oI r.1, S, r.2)) S M [.ref a0, .int x1, .int x2] (fw_oI r.1, S, r.2) := by
  refine fw_of [(0, .ref a0), (1, .int x1), (2, .int x2)] (by decide) (Nat.le_of_ble_eq_true rfl) rfl ?_
  intro p e s m args below meth c C hr hlk hnm ht _
  unfold f_X9_goes at h
  refine fw_aload_n C 0 dX9_goes_0 rfl rfl ?_
  refine fw_iload_n C 1 dX9_goes_1 rfl rfl ?_
  obtain ⟨g2, h⟩ := gd_some h
  obtain ⟨v1, e1, h⟩ := b1_some h
  rcases v1 with u1 | E1
  rotate_left
  · replace h := bx_r h
    obtain rfl := Option.some.inj h
    exact fw_callVX (ci := 9) [_] C (c_X9_suitAt hl e1) cal_X9_suitAt wm_X9_177 wi_yX9_suitAt wsl_yX9_suitAt (Nat.le_of_ble_eq_true rfl) rfl (gO_of g2) rfl (Nat.le_of_ble_eq_true rfl) ⟨Nat.le_of_ble_eq_true rfl, Nat.le_of_ble_eq_true rfl⟩ ⟨Nat.le_refl _, Nat.le_refl _⟩ dX9_goes_2 ht hlk
  replace h := bx_l h
  rcases u1 with _ | w1
  · cases h
  refine fw_callV (ci := 9) [_] C (c_X9_suitAt hl e1) cal_X9_suitAt wm_X9_177 wi_yX9_suitAt wsl_yX9_suitAt (Nat.le_of_ble_eq_true rfl) rfl (gO_of g2) rfl (Nat.le_of_ble_eq_true rfl) ⟨Nat.le_of_ble_eq_true rfl, Nat.le_of_ble_eq_true rfl⟩ ⟨Nat.zero_le _, Nat.zero_le _⟩ dX9_goes_2 ?_
  refine fw_astore_n C [(3, _), (0, _), (1, _), (2, _)] dX9_goes_5 rfl (Nat.le_of_ble_eq_true rfl) rfl ?_
  refine fw_iload_n C 3 dX9_goes_6 rfl rfl ?_
  refine fw_if_lt C 15 dX9_goes_7 (by decide) (fun c3 => ?_) (fun c3 => ?_)
  · replace h := (if_pos c3).symm.trans h
    obtain rfl := Option.some.inj h
    exact fw_throwW C hl fw_exN (i := 51) (List.mem_of_getElem? (i := 32) rfl) dX9_goes_15 dX9_goes_18 dX9_goes_19 dX9_goes_22 dX9_goes_25 ht hlk (Nat.le_of_ble_eq_true rfl) (Nat.le_of_ble_eq_true rfl) (Nat.le_refl _) (Nat.le_refl _)
  · replace h := (if_neg c3).symm.trans h
    refine fw_iload_n C 3 dX9_goes_10 rfl rfl ?_
    refine fw_iconst C 4 dX9_goes_11 rfl ?_
    refine fw_icmp_le C 26 dX9_goes_12 (by decide) (fun c4 => ?_) (fun c4 => ?_)
    · replace h := (if_pos c4).symm.trans h
      refine fw_aload_n C 0 dX9_goes_26 rfl rfl ?_
      obtain ⟨g6, h⟩ := gd_some h
      obtain ⟨v5, e5, h⟩ := b1_some h
      refine fw_callV (ci := 6) [] C (c_X6_counts hl e5) cal_X6_counts wm_X9_323 wi_yX6_counts wsl_yX6_counts (Nat.le_of_ble_eq_true rfl) rfl (gO_of g6) rfl (Nat.le_of_ble_eq_true rfl) ⟨Nat.le_of_ble_eq_true rfl, Nat.le_of_ble_eq_true rfl⟩ ⟨Nat.zero_le _, Nat.zero_le _⟩ dX9_goes_27 ?_
      refine fw_if_ne C 35 dX9_goes_30 (by decide) (fun c7 => ?_) (fun c7 => ?_)
      · replace h := (if_neg c7).symm.trans h
        refine fw_iload_n C 3 dX9_goes_35 rfl rfl ?_
        refine fw_iconst C 3 dX9_goes_36 rfl ?_
        refine fw_icmp_ne C 51 dX9_goes_37 (by decide) (fun c8 => ?_) (fun c8 => ?_)
        · replace h := (if_neg c8).symm.trans h
          refine fw_iload_n C 3 dX9_goes_51 rfl rfl ?_
          refine fw_iconst C 4 dX9_goes_52 rfl ?_
          refine fw_icmp_ne C 67 dX9_goes_53 (by decide) (fun c9 => ?_) (fun c9 => ?_)
          · replace h := (if_neg c9).symm.trans h
            refine fw_aload_n C 1 dX9_goes_67 rfl rfl ?_
            obtain ⟨g10, h⟩ := gd_some h
            refine fw_getR C 9 5 (Nat.le_of_ble_eq_true rfl) (Nat.le_of_ble_eq_true rfl) wf_X9_45 rfl (gO_of g2) (gN_of g10) dX9_goes_68 ?_
            refine fw_aload_n C 0 dX9_goes_71 rfl rfl ?_
            refine fw_iload_n C 3 dX9_goes_72 rfl rfl ?_
            obtain ⟨g12, h⟩ := gd_some h
            obtain ⟨v11, M11, e11, h⟩ := b2_some h
            refine fw_callV (ci := 2) [_, _] C (c_X2_changedWithout hl e11) cal_X2_changedWithout wm_X9_332 wi_yX2_changedWithout wsl_yX2_changedWithout (Nat.le_of_ble_eq_true rfl) rfl (gO_of g12) rfl (Nat.le_of_ble_eq_true rfl) ⟨Nat.le_of_ble_eq_true rfl, Nat.le_of_ble_eq_true rfl⟩ ⟨Nat.zero_le _, Nat.zero_le _⟩ dX9_goes_73 ?_
            obtain rfl := Option.some.inj h
            exact fw_iret C hr hlk dX9_goes_76
          · replace h := (if_pos c9).symm.trans h
            refine fw_aload_n C 1 dX9_goes_56 rfl rfl ?_
            obtain ⟨g13, h⟩ := gd_some h
            refine fw_getR C 9 5 (Nat.le_of_ble_eq_true rfl) (Nat.le_of_ble_eq_true rfl) wf_X9_45 rfl (gO_of g2) (gN_of g13) dX9_goes_57 ?_
            refine fw_iload_n C 2 dX9_goes_60 rfl rfl ?_
            obtain ⟨g15, h⟩ := gd_some h
            obtain ⟨v14, M14, e14, h⟩ := b2_some h
            refine fw_callV (ci := 2) [_] C (c_X2_restingInTheEnd hl e14) cal_X2_restingInTheEnd wm_X9_329 wi_yX2_restingInTheEnd wsl_yX2_restingInTheEnd (Nat.le_of_ble_eq_true rfl) rfl (gO_of g15) rfl (Nat.le_of_ble_eq_true rfl) ⟨Nat.le_of_ble_eq_true rfl, Nat.le_of_ble_eq_true rfl⟩ ⟨Nat.zero_le _, Nat.zero_le _⟩ dX9_goes_61 ?_
            refine fw_goto C 76 dX9_goes_64 (by decide) ?_
            obtain rfl := Option.some.inj h
            exact fw_iret C hr hlk dX9_goes_76
        · replace h := (if_pos c8).symm.trans h
          refine fw_aload_n C 1 dX9_goes_40 rfl rfl ?_
          obtain ⟨g16, h⟩ := gd_some h
          refine fw_getR C 9 5 (Nat.le_of_ble_eq_true rfl) (Nat.le_of_ble_eq_true rfl) wf_X9_45 rfl (gO_of g2) (gN_of g16) dX9_goes_41 ?_
          refine fw_iconst C 1 dX9_goes_44 rfl ?_
          refine fw_iload_n C 2 dX9_goes_45 rfl rfl ?_
          refine fw_ishl C dX9_goes_46 ?_
          obtain ⟨g18, h⟩ := gd_some h
          obtain ⟨v17, M17, e17, h⟩ := b2_some h
          refine fw_callV (ci := 2) [_] C (c_X2_restingOn hl e17) cal_X2_restingOn wm_X9_326 wi_yX2_restingOn wsl_yX2_restingOn (Nat.le_of_ble_eq_true rfl) rfl (gO_of g18) rfl (Nat.le_of_ble_eq_true rfl) ⟨Nat.le_of_ble_eq_true rfl, Nat.le_of_ble_eq_true rfl⟩ ⟨Nat.zero_le _, Nat.zero_le _⟩ dX9_goes_47 ?_
          obtain rfl := Option.some.inj h
          exact fw_iret C hr hlk dX9_goes_50
      · replace h := (if_pos c7).symm.trans h
        refine fw_iconst C 0 dX9_goes_33 rfl ?_
        obtain rfl := Option.some.inj h
        exact fw_iret C hr hlk dX9_goes_34
    · replace h := (if_neg c4).symm.trans h
      obtain rfl := Option.some.inj h
      exact fw_throwW C hl fw_exN (i := 51) (List.mem_of_getElem? (i := 32) rfl) dX9_goes_15 dX9_goes_18 dX9_goes_19 dX9_goes_22 dX9_goes_25 ht hlk (Nat.le_of_ble_eq_true rfl) (Nat.le_of_ble_eq_true rfl) (Nat.le_refl _) (Nat.le_refl _)
