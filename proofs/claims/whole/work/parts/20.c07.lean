set_option maxRecDepth 100000 in
def lf_X2_tabulate_2 (S : List fw_Sh) (a0 : Nat) (a1 : Nat) : Nat → Int32 → fw_Mem → Option (fw_Mem)
  | 0, _, _ => none
  | n + 1, x2, M => gd (gO S 2 a0) (gd (gN (M a0 0)) (gd (gO S 4 ((M a0 0).toNatClampNeg)) (if (M ((M a0 0).toNatClampNeg) 6) ≤ x2 then (some M) else (gd (gL S 0 a1) (if (nI (fw_len2 S 0 a1)) < ((x2 + 1) * 10) then (some M) else (gd (gN (M ((M a0 0).toNatClampNeg) 2)) (gd (gA S 4 ((M ((M a0 0).toNatClampNeg) 2).toNatClampNeg) x2) (gd (gN (M ((M ((M a0 0).toNatClampNeg) 2).toNatClampNeg) x2.toNatClampNeg)) (b2 (f_X2_heldIssues S M a0 ((M ((M ((M a0 0).toNatClampNeg) 2).toNatClampNeg) x2.toNatClampNeg).toNatClampNeg)) (fun v10 M10 => gd (gA S 0 a1 (x2 * 10)) (bm (fw_set M10 a1 (x2 * 10).toNatClampNeg x2) (fun M12 => gd (gO S 6 ((M ((M ((M a0 0).toNatClampNeg) 2).toNatClampNeg) x2.toNatClampNeg).toNatClampNeg)) (gd (gA S 0 a1 ((x2 * 10) + 1)) (bm (fw_set M12 a1 ((x2 * 10) + 1).toNatClampNeg (M12 ((M ((M ((M a0 0).toNatClampNeg) 2).toNatClampNeg) x2.toNatClampNeg).toNatClampNeg) 1)) (fun M15 => gd (gA S 0 a1 ((x2 * 10) + 2)) (bm (fw_set M15 a1 ((x2 * 10) + 2).toNatClampNeg (M15 ((M ((M ((M a0 0).toNatClampNeg) 2).toNatClampNeg) x2.toNatClampNeg).toNatClampNeg) 2)) (fun M17 => gd (gA S 0 a1 ((x2 * 10) + 3)) (bm (fw_set M17 a1 ((x2 * 10) + 3).toNatClampNeg (M17 ((M ((M ((M a0 0).toNatClampNeg) 2).toNatClampNeg) x2.toNatClampNeg).toNatClampNeg) 3)) (fun M19 => gd (gA S 0 a1 ((x2 * 10) + 4)) (bm (fw_set M19 a1 ((x2 * 10) + 4).toNatClampNeg (M19 ((M ((M ((M a0 0).toNatClampNeg) 2).toNatClampNeg) x2.toNatClampNeg).toNatClampNeg) 7)) (fun M21 => if (M21 ((M ((M ((M a0 0).toNatClampNeg) 2).toNatClampNeg) x2.toNatClampNeg).toNatClampNeg) 9) = 0 then (b1 (f_X6_winner S M21 ((M ((M ((M a0 0).toNatClampNeg) 2).toNatClampNeg) x2.toNatClampNeg).toNatClampNeg)) (fun v23 => gd (gA S 0 a1 ((x2 * 10) + 5)) (bm (fw_set M21 a1 ((x2 * 10) + 5).toNatClampNeg v23) (fun M25 => b1 (f_X2_barringSuits S M25 a0 ((M ((M ((M a0 0).toNatClampNeg) 2).toNatClampNeg) x2.toNatClampNeg).toNatClampNeg)) (fun v26 => b1 (f_J6_bitCount_0f7a4 S M25 v26) (fun v27 => gd (gA S 0 a1 ((x2 * 10) + 6)) (bm (fw_set M25 a1 ((x2 * 10) + 6).toNatClampNeg v27) (fun M29 => b1 (f_J6_bitCount_0f7a4 S M29 v10) (fun v30 => gd (gA S 0 a1 ((x2 * 10) + 7)) (bm (fw_set M29 a1 ((x2 * 10) + 7).toNatClampNeg v30) (fun M32 => b1 (f_X6_allIssues S M32 ((M ((M ((M a0 0).toNatClampNeg) 2).toNatClampNeg) x2.toNatClampNeg).toNatClampNeg)) (fun v33 => b1 (f_J6_bitCount_0f7a4 S M32 (v33 &&& (v10 ^^^ (-1)))) (fun v34 => gd (gA S 0 a1 ((x2 * 10) + 8)) (bm (fw_set M32 a1 ((x2 * 10) + 8).toNatClampNeg v34) (fun M36 => b2 (f_X2_forcedWay S M36 a0 ((M ((M ((M a0 0).toNatClampNeg) 2).toNatClampNeg) x2.toNatClampNeg).toNatClampNeg)) (fun v37 M37 => gd (gA S 0 a1 ((x2 * 10) + 9)) (bm (fw_set M37 a1 ((x2 * 10) + 9).toNatClampNeg v37) (fun M39 => lf_X2_tabulate_2 S a0 a1 n (x2 + 1) M39)))))))))))))))))) else (gd (gA S 0 a1 ((x2 * 10) + 5)) (bm (fw_set M21 a1 ((x2 * 10) + 5).toNatClampNeg (-1)) (fun M41 => b1 (f_X2_barringSuits S M41 a0 ((M ((M ((M a0 0).toNatClampNeg) 2).toNatClampNeg) x2.toNatClampNeg).toNatClampNeg)) (fun v42 => b1 (f_J6_bitCount_0f7a4 S M41 v42) (fun v43 => gd (gA S 0 a1 ((x2 * 10) + 6)) (bm (fw_set M41 a1 ((x2 * 10) + 6).toNatClampNeg v43) (fun M45 => b1 (f_J6_bitCount_0f7a4 S M45 v10) (fun v46 => gd (gA S 0 a1 ((x2 * 10) + 7)) (bm (fw_set M45 a1 ((x2 * 10) + 7).toNatClampNeg v46) (fun M48 => b1 (f_X6_allIssues S M48 ((M ((M ((M a0 0).toNatClampNeg) 2).toNatClampNeg) x2.toNatClampNeg).toNatClampNeg)) (fun v49 => b1 (f_J6_bitCount_0f7a4 S M48 (v49 &&& (v10 ^^^ (-1)))) (fun v50 => gd (gA S 0 a1 ((x2 * 10) + 8)) (bm (fw_set M48 a1 ((x2 * 10) + 8).toNatClampNeg v50) (fun M52 => b2 (f_X2_forcedWay S M52 a0 ((M ((M ((M a0 0).toNatClampNeg) 2).toNatClampNeg) x2.toNatClampNeg).toNatClampNeg)) (fun v53 M53 => gd (gA S 0 a1 ((x2 * 10) + 9)) (bm (fw_set M53 a1 ((x2 * 10) + 9).toNatClampNeg v53) (fun M55 => lf_X2_tabulate_2 S a0 a1 n (x2 + 1) M55))))))))))))))))))))))))))))))))))))))
set_option maxHeartbeats 4000000 in
set_option maxRecDepth 100000 in
theorem lc_X2_tabulate_2 {G : fw_G} {p : Program} {l : Launch} {e : Env} {s : State} {m : MethodId} {args : Array Value} {below : List Frame} {meth : Method} {c : Code} {S : List fw_Sh} {o : fw_O} {a0 : Nat} {a1 : Nat} (C : fw_C G RX2 cX2_tabulate 6 p s m args c) (hr : meth.sig.returnType = none) (hlk : meth.locks = false) (hl : l.stackTraces = false) (ht : ∀ x ∈ c.exceptionTable.toList, False) :
    ∀ {n : Nat} {x2 : Int32} {M : fw_Mem} {r : (fw_Mem)} (h : lf_X2_tabulate_2 S a0 a1 n x2 M = some r) (kx : fw_W G p l e (fw_rm 6 (fw_mcO o) (fw_msO o)) s m args below meth c 6 (fw_Z G below args s (fw_mcO o) (fw_msO o) o) 0 0 177 [] [] S r), fw_W G p l e (fw_rm 6 (fw_mcO o) (fw_msO o)) s m args below meth c 6 (fw_Z G below args s (fw_mcO o) (fw_msO o) o) 0 0 2 [(0, .ref a0), (1, .ref a1), (2, .int x2)] [] S M := by
  intro n
  induction n with
  | zero =>
    intro x2 M r h
    exact nomatch (show (none : Option (fw_Mem)) = some r from h)
  | succ n ih =>
    intro x2 M r h kx
    rw [lf_X2_tabulate_2.eq_2] at h
    refine fw_iload_n C 2 dX2_tabulate_2 rfl rfl ?_
    refine fw_aload_n C 0 dX2_tabulate_3 rfl rfl ?_
    obtain ⟨g1, h⟩ := gd_some h
    obtain ⟨g2, h⟩ := gd_some h
    refine fw_getR C 2 0 (Nat.le_of_ble_eq_true rfl) (Nat.le_of_ble_eq_true rfl) wf_X2_27 rfl (gO_of g1) (gN_of g2) dX2_tabulate_4 ?_
    obtain ⟨g3, h⟩ := gd_some h
    refine fw_getI C 4 6 (Nat.le_of_ble_eq_true rfl) (Nat.le_of_ble_eq_true rfl) wf_X2_31 rfl (gO_of g3) dX2_tabulate_7 ?_
    refine fw_icmp_ge C 177 dX2_tabulate_10 (by decide) (fun c4 => ?_) (fun c4 => ?_)
    · replace h := (if_pos c4).symm.trans h
      obtain rfl := Option.some.inj h
      refine fw_sub [] rfl ?_
      exact kx
    · replace h := (if_neg c4).symm.trans h
      refine fw_iload_n C 2 dX2_tabulate_13 rfl rfl ?_
      refine fw_iconst C 1 dX2_tabulate_14 rfl ?_
      refine fw_iadd C dX2_tabulate_15 ?_
      refine fw_bipush C 10 dX2_tabulate_16 rfl ?_
      refine fw_imul C dX2_tabulate_18 ?_
      refine fw_aload_n C 1 dX2_tabulate_19 rfl rfl ?_
      obtain ⟨g5, h⟩ := gd_some h
      refine fw_alen C 0 _ (by decide) (gL_of g5) dX2_tabulate_20 ?_
      refine fw_icmp_gt C 177 dX2_tabulate_21 (by decide) (fun c6 => ?_) (fun c6 => ?_)
      · replace h := (if_pos c6).symm.trans h
        obtain rfl := Option.some.inj h
        refine fw_sub [] rfl ?_
        exact kx
      · replace h := (if_neg c6).symm.trans h
        refine fw_aload_n C 0 dX2_tabulate_24 rfl rfl ?_
        refine fw_getR C 2 0 (Nat.le_of_ble_eq_true rfl) (Nat.le_of_ble_eq_true rfl) wf_X2_27 rfl (gO_of g1) (gN_of g2) dX2_tabulate_25 ?_
        obtain ⟨g7, h⟩ := gd_some h
        refine fw_getR C 4 2 (Nat.le_of_ble_eq_true rfl) (Nat.le_of_ble_eq_true rfl) wf_X2_37 rfl (gO_of g3) (gN_of g7) dX2_tabulate_28 ?_
        refine fw_iload_n C 2 dX2_tabulate_31 rfl rfl ?_
        obtain ⟨g8, h⟩ := gd_some h
        obtain ⟨g9, h⟩ := gd_some h
        refine fw_aald C 4 (by decide) (gA_of g8) (gN_of g9) dX2_tabulate_32 ?_
        refine fw_astore_n C [(3, _), (0, _), (1, _), (2, _)] dX2_tabulate_33 rfl (Nat.le_of_ble_eq_true rfl) rfl ?_
        refine fw_iload_n C 3 dX2_tabulate_34 rfl rfl ?_
        refine fw_bipush C 10 dX2_tabulate_35 rfl ?_
        refine fw_imul C dX2_tabulate_37 ?_
        refine fw_istore C [(4, _), (3, _), (0, _), (1, _), (2, _)] dX2_tabulate_38 (Nat.le_of_ble_eq_true rfl) rfl ?_
        refine fw_aload_n C 2 dX2_tabulate_40 rfl rfl ?_
        refine fw_aload_n C 1 dX2_tabulate_41 rfl rfl ?_
        obtain ⟨v10, M10, e10, h⟩ := b2_some h
        refine fw_callV (ci := 2) [_] C (c_X2_heldIssues hl e10) cal_X2_heldIssues wm_X2_207 wi_yX2_heldIssues wsl_yX2_heldIssues (Nat.le_of_ble_eq_true rfl) rfl (gO_of g1) rfl (Nat.le_of_ble_eq_true rfl) ⟨Nat.le_of_ble_eq_true rfl, Nat.le_of_ble_eq_true rfl⟩ ⟨Nat.zero_le _, Nat.zero_le _⟩ dX2_tabulate_42 ?_
        refine fw_istore C [(5, _), (4, _), (3, _), (0, _), (1, _), (2, _)] dX2_tabulate_45 (Nat.le_of_ble_eq_true rfl) rfl ?_
        refine fw_aload_n C 4 dX2_tabulate_47 rfl rfl ?_
        refine fw_iload C 1 dX2_tabulate_48 rfl ?_
        refine fw_iload_n C 5 dX2_tabulate_50 rfl rfl ?_
        obtain ⟨g11, h⟩ := gd_some h
        refine fw_iast C (gA_of g11) dX2_tabulate_51 ?_
        refine fw_bm h (fun M12 h => ?_)
        refine fw_aload_n C 4 dX2_tabulate_52 rfl rfl ?_
        refine fw_iload C 1 dX2_tabulate_53 rfl ?_
        refine fw_iconst C 1 dX2_tabulate_55 rfl ?_
        refine fw_iadd C dX2_tabulate_56 ?_
        refine fw_aload_n C 2 dX2_tabulate_57 rfl rfl ?_
        obtain ⟨g13, h⟩ := gd_some h
        refine fw_getI C 6 1 (Nat.le_of_ble_eq_true rfl) (Nat.le_of_ble_eq_true rfl) wf_X2_62 rfl (gO_of g13) dX2_tabulate_58 ?_
        obtain ⟨g14, h⟩ := gd_some h
        refine fw_iast C (gA_of g14) dX2_tabulate_61 ?_
        refine fw_bm h (fun M15 h => ?_)
        refine fw_aload_n C 4 dX2_tabulate_62 rfl rfl ?_
        refine fw_iload C 1 dX2_tabulate_63 rfl ?_
        refine fw_iconst C 2 dX2_tabulate_65 rfl ?_
        refine fw_iadd C dX2_tabulate_66 ?_
        refine fw_aload_n C 2 dX2_tabulate_67 rfl rfl ?_
        refine fw_getI C 6 2 (Nat.le_of_ble_eq_true rfl) (Nat.le_of_ble_eq_true rfl) wf_X2_72 rfl (gO_of g13) dX2_tabulate_68 ?_
        obtain ⟨g16, h⟩ := gd_some h
        refine fw_iast C (gA_of g16) dX2_tabulate_71 ?_
        refine fw_bm h (fun M17 h => ?_)
        refine fw_aload_n C 4 dX2_tabulate_72 rfl rfl ?_
        refine fw_iload C 1 dX2_tabulate_73 rfl ?_
        refine fw_iconst C 3 dX2_tabulate_75 rfl ?_
        refine fw_iadd C dX2_tabulate_76 ?_
        refine fw_aload_n C 2 dX2_tabulate_77 rfl rfl ?_
        refine fw_getI C 6 3 (Nat.le_of_ble_eq_true rfl) (Nat.le_of_ble_eq_true rfl) wf_X2_128 rfl (gO_of g13) dX2_tabulate_78 ?_
        obtain ⟨g18, h⟩ := gd_some h
        refine fw_iast C (gA_of g18) dX2_tabulate_81 ?_
        refine fw_bm h (fun M19 h => ?_)
        refine fw_aload_n C 4 dX2_tabulate_82 rfl rfl ?_
        refine fw_iload C 1 dX2_tabulate_83 rfl ?_
        refine fw_iconst C 4 dX2_tabulate_85 rfl ?_
        refine fw_iadd C dX2_tabulate_86 ?_
        refine fw_aload_n C 2 dX2_tabulate_87 rfl rfl ?_
        refine fw_getI C 6 7 (Nat.le_of_ble_eq_true rfl) (Nat.le_of_ble_eq_true rfl) wf_X2_94 rfl (gO_of g13) dX2_tabulate_88 ?_
        obtain ⟨g20, h⟩ := gd_some h
        refine fw_iast C (gA_of g20) dX2_tabulate_91 ?_
        refine fw_bm h (fun M21 h => ?_)
        refine fw_aload_n C 4 dX2_tabulate_92 rfl rfl ?_
        refine fw_iload C 1 dX2_tabulate_93 rfl ?_
        refine fw_iconst C 5 dX2_tabulate_95 rfl ?_
        refine fw_iadd C dX2_tabulate_96 ?_
        refine fw_aload_n C 2 dX2_tabulate_97 rfl rfl ?_
        refine fw_getI C 6 9 (Nat.le_of_ble_eq_true rfl) (Nat.le_of_ble_eq_true rfl) wf_X2_204 rfl (gO_of g13) dX2_tabulate_98 ?_
        refine fw_if_eq C 108 dX2_tabulate_101 (by decide) (fun c22 => ?_) (fun c22 => ?_)
        · replace h := (if_pos c22).symm.trans h
          refine fw_aload_n C 2 dX2_tabulate_108 rfl rfl ?_
          obtain ⟨v23, e23, h⟩ := b1_some h
          refine fw_callV (ci := 6) [] C (c_X6_winner hl e23) cal_X6_winner wm_X2_222 wi_yX6_winner wsl_yX6_winner (Nat.le_of_ble_eq_true rfl) rfl (gO_of g13) rfl (Nat.le_of_ble_eq_true rfl) ⟨Nat.le_of_ble_eq_true rfl, Nat.le_of_ble_eq_true rfl⟩ ⟨Nat.zero_le _, Nat.zero_le _⟩ dX2_tabulate_109 ?_
          obtain ⟨g24, h⟩ := gd_some h
          refine fw_iast C (gA_of g24) dX2_tabulate_112 ?_
          refine fw_bm h (fun M25 h => ?_)
          refine fw_aload_n C 4 dX2_tabulate_113 rfl rfl ?_
          refine fw_iload C 1 dX2_tabulate_114 rfl ?_
          refine fw_bipush C 6 dX2_tabulate_116 rfl ?_
          refine fw_iadd C dX2_tabulate_118 ?_
          refine fw_aload_n C 3 dX2_tabulate_119 rfl rfl ?_
          refine fw_aload_n C 2 dX2_tabulate_120 rfl rfl ?_
          obtain ⟨v26, e26, h⟩ := b1_some h
          refine fw_callV (ci := 2) [_] C (c_X2_barringSuits hl e26) cal_X2_barringSuits wm_X2_191 wi_yX2_barringSuits wsl_yX2_barringSuits (Nat.le_of_ble_eq_true rfl) rfl (gO_of g1) rfl (Nat.le_of_ble_eq_true rfl) ⟨Nat.le_of_ble_eq_true rfl, Nat.le_of_ble_eq_true rfl⟩ ⟨Nat.zero_le _, Nat.zero_le _⟩ dX2_tabulate_121 ?_
          obtain ⟨v27, e27, h⟩ := b1_some h
          refine fw_callS [_] C (c_J6_bitCount_0f7a4 hl e27) cal_J6_bitCount_0f7a4 wm_X2_134 wt_yJ6_bitCount_0f7a4 rfl (Nat.le_of_ble_eq_true rfl) ⟨Nat.le_of_ble_eq_true rfl, Nat.le_of_ble_eq_true rfl⟩ ⟨Nat.zero_le _, Nat.zero_le _⟩ dX2_tabulate_124 ?_
          obtain ⟨g28, h⟩ := gd_some h
          refine fw_iast C (gA_of g28) dX2_tabulate_127 ?_
          refine fw_bm h (fun M29 h => ?_)
          refine fw_aload_n C 4 dX2_tabulate_128 rfl rfl ?_
          refine fw_iload C 1 dX2_tabulate_129 rfl ?_
          refine fw_bipush C 7 dX2_tabulate_131 rfl ?_
          refine fw_iadd C dX2_tabulate_133 ?_
          refine fw_iload C 0 dX2_tabulate_134 rfl ?_
          obtain ⟨v30, e30, h⟩ := b1_some h
          refine fw_callS [_] C (c_J6_bitCount_0f7a4 hl e30) cal_J6_bitCount_0f7a4 wm_X2_134 wt_yJ6_bitCount_0f7a4 rfl (Nat.le_of_ble_eq_true rfl) ⟨Nat.le_of_ble_eq_true rfl, Nat.le_of_ble_eq_true rfl⟩ ⟨Nat.zero_le _, Nat.zero_le _⟩ dX2_tabulate_136 ?_
          obtain ⟨g31, h⟩ := gd_some h
          refine fw_iast C (gA_of g31) dX2_tabulate_139 ?_
          refine fw_bm h (fun M32 h => ?_)
          refine fw_aload_n C 4 dX2_tabulate_140 rfl rfl ?_
          refine fw_iload C 1 dX2_tabulate_141 rfl ?_
          refine fw_bipush C 8 dX2_tabulate_143 rfl ?_
          refine fw_iadd C dX2_tabulate_145 ?_
          refine fw_aload_n C 2 dX2_tabulate_146 rfl rfl ?_
          obtain ⟨v33, e33, h⟩ := b1_some h
          refine fw_callV (ci := 6) [] C (c_X6_allIssues hl e33) cal_X6_allIssues wm_X2_225 wi_yX6_allIssues wsl_yX6_allIssues (Nat.le_of_ble_eq_true rfl) rfl (gO_of g13) rfl (Nat.le_of_ble_eq_true rfl) ⟨Nat.le_of_ble_eq_true rfl, Nat.le_of_ble_eq_true rfl⟩ ⟨Nat.zero_le _, Nat.zero_le _⟩ dX2_tabulate_147 ?_
          refine fw_iload C 0 dX2_tabulate_150 rfl ?_
          refine fw_iconst C (-1) dX2_tabulate_152 rfl ?_
          refine fw_ixor C dX2_tabulate_153 ?_
          refine fw_iand C dX2_tabulate_154 ?_
          obtain ⟨v34, e34, h⟩ := b1_some h
          refine fw_callS [_] C (c_J6_bitCount_0f7a4 hl e34) cal_J6_bitCount_0f7a4 wm_X2_134 wt_yJ6_bitCount_0f7a4 rfl (Nat.le_of_ble_eq_true rfl) ⟨Nat.le_of_ble_eq_true rfl, Nat.le_of_ble_eq_true rfl⟩ ⟨Nat.zero_le _, Nat.zero_le _⟩ dX2_tabulate_155 ?_
          obtain ⟨g35, h⟩ := gd_some h
          refine fw_iast C (gA_of g35) dX2_tabulate_158 ?_
          refine fw_bm h (fun M36 h => ?_)
          refine fw_aload_n C 4 dX2_tabulate_159 rfl rfl ?_
          refine fw_iload C 1 dX2_tabulate_160 rfl ?_
          refine fw_bipush C 9 dX2_tabulate_162 rfl ?_
          refine fw_iadd C dX2_tabulate_164 ?_
          refine fw_aload_n C 3 dX2_tabulate_165 rfl rfl ?_
          refine fw_aload_n C 2 dX2_tabulate_166 rfl rfl ?_
          obtain ⟨v37, M37, e37, h⟩ := b2_some h
          refine fw_callV (ci := 2) [_] C (c_X2_forcedWay hl e37) cal_X2_forcedWay wm_X2_210 wi_yX2_forcedWay wsl_yX2_forcedWay (Nat.le_of_ble_eq_true rfl) rfl (gO_of g1) rfl (Nat.le_of_ble_eq_true rfl) ⟨Nat.le_of_ble_eq_true rfl, Nat.le_of_ble_eq_true rfl⟩ ⟨Nat.zero_le _, Nat.zero_le _⟩ dX2_tabulate_167 ?_
          obtain ⟨g38, h⟩ := gd_some h
          refine fw_iast C (gA_of g38) dX2_tabulate_170 ?_
          refine fw_bm h (fun M39 h => ?_)
          refine fw_iinc C _ 5 [(2, _), (5, _), (4, _), (3, _), (0, _), (1, _)] dX2_tabulate_171 rfl rfl (Nat.le_of_ble_eq_true rfl) rfl ?_
          refine fw_goto C 2 dX2_tabulate_174 (by decide) ?_
          refine fw_sub [4, 5, 0] rfl ?_
          exact ih h kx
        · replace h := (if_neg c22).symm.trans h
          refine fw_iconst C (-1) dX2_tabulate_104 rfl ?_
          refine fw_goto C 112 dX2_tabulate_105 (by decide) ?_
          obtain ⟨g40, h⟩ := gd_some h
          refine fw_iast C (gA_of g40) dX2_tabulate_112 ?_
          refine fw_bm h (fun M41 h => ?_)
          refine fw_aload_n C 4 dX2_tabulate_113 rfl rfl ?_
          refine fw_iload C 1 dX2_tabulate_114 rfl ?_
          refine fw_bipush C 6 dX2_tabulate_116 rfl ?_
          refine fw_iadd C dX2_tabulate_118 ?_
          refine fw_aload_n C 3 dX2_tabulate_119 rfl rfl ?_
          refine fw_aload_n C 2 dX2_tabulate_120 rfl rfl ?_
          obtain ⟨v42, e42, h⟩ := b1_some h
          refine fw_callV (ci := 2) [_] C (c_X2_barringSuits hl e42) cal_X2_barringSuits wm_X2_191 wi_yX2_barringSuits wsl_yX2_barringSuits (Nat.le_of_ble_eq_true rfl) rfl (gO_of g1) rfl (Nat.le_of_ble_eq_true rfl) ⟨Nat.le_of_ble_eq_true rfl, Nat.le_of_ble_eq_true rfl⟩ ⟨Nat.zero_le _, Nat.zero_le _⟩ dX2_tabulate_121 ?_
          obtain ⟨v43, e43, h⟩ := b1_some h
          refine fw_callS [_] C (c_J6_bitCount_0f7a4 hl e43) cal_J6_bitCount_0f7a4 wm_X2_134 wt_yJ6_bitCount_0f7a4 rfl (Nat.le_of_ble_eq_true rfl) ⟨Nat.le_of_ble_eq_true rfl, Nat.le_of_ble_eq_true rfl⟩ ⟨Nat.zero_le _, Nat.zero_le _⟩ dX2_tabulate_124 ?_
          obtain ⟨g44, h⟩ := gd_some h
          refine fw_iast C (gA_of g44) dX2_tabulate_127 ?_
          refine fw_bm h (fun M45 h => ?_)
          refine fw_aload_n C 4 dX2_tabulate_128 rfl rfl ?_
          refine fw_iload C 1 dX2_tabulate_129 rfl ?_
          refine fw_bipush C 7 dX2_tabulate_131 rfl ?_
          refine fw_iadd C dX2_tabulate_133 ?_
          refine fw_iload C 0 dX2_tabulate_134 rfl ?_
          obtain ⟨v46, e46, h⟩ := b1_some h
          refine fw_callS [_] C (c_J6_bitCount_0f7a4 hl e46) cal_J6_bitCount_0f7a4 wm_X2_134 wt_yJ6_bitCount_0f7a4 rfl (Nat.le_of_ble_eq_true rfl) ⟨Nat.le_of_ble_eq_true rfl, Nat.le_of_ble_eq_true rfl⟩ ⟨Nat.zero_le _, Nat.zero_le _⟩ dX2_tabulate_136 ?_
          obtain ⟨g47, h⟩ := gd_some h
          refine fw_iast C (gA_of g47) dX2_tabulate_139 ?_
          refine fw_bm h (fun M48 h => ?_)
          refine fw_aload_n C 4 dX2_tabulate_140 rfl rfl ?_
          refine fw_iload C 1 dX2_tabulate_141 rfl ?_
          refine fw_bipush C 8 dX2_tabulate_143 rfl ?_
          refine fw_iadd C dX2_tabulate_145 ?_
          refine fw_aload_n C 2 dX2_tabulate_146 rfl rfl ?_
          obtain ⟨v49, e49, h⟩ := b1_some h
          refine fw_callV (ci := 6) [] C (c_X6_allIssues hl e49) cal_X6_allIssues wm_X2_225 wi_yX6_allIssues wsl_yX6_allIssues (Nat.le_of_ble_eq_true rfl) rfl (gO_of g13) rfl (Nat.le_of_ble_eq_true rfl) ⟨Nat.le_of_ble_eq_true rfl, Nat.le_of_ble_eq_true rfl⟩ ⟨Nat.zero_le _, Nat.zero_le _⟩ dX2_tabulate_147 ?_
          refine fw_iload C 0 dX2_tabulate_150 rfl ?_
          refine fw_iconst C (-1) dX2_tabulate_152 rfl ?_
          refine fw_ixor C dX2_tabulate_153 ?_
          refine fw_iand C dX2_tabulate_154 ?_
          obtain ⟨v50, e50, h⟩ := b1_some h
          refine fw_callS [_] C (c_J6_bitCount_0f7a4 hl e50) cal_J6_bitCount_0f7a4 wm_X2_134 wt_yJ6_bitCount_0f7a4 rfl (Nat.le_of_ble_eq_true rfl) ⟨Nat.le_of_ble_eq_true rfl, Nat.le_of_ble_eq_true rfl⟩ ⟨Nat.zero_le _, Nat.zero_le _⟩ dX2_tabulate_155 ?_
          obtain ⟨g51, h⟩ := gd_some h
          refine fw_iast C (gA_of g51) dX2_tabulate_158 ?_
          refine fw_bm h (fun M52 h => ?_)
          refine fw_aload_n C 4 dX2_tabulate_159 rfl rfl ?_
          refine fw_iload C 1 dX2_tabulate_160 rfl ?_
          refine fw_bipush C 9 dX2_tabulate_162 rfl ?_
          refine fw_iadd C dX2_tabulate_164 ?_
          refine fw_aload_n C 3 dX2_tabulate_165 rfl rfl ?_
          refine fw_aload_n C 2 dX2_tabulate_166 rfl rfl ?_
          obtain ⟨v53, M53, e53, h⟩ := b2_some h
          refine fw_callV (ci := 2) [_] C (c_X2_forcedWay hl e53) cal_X2_forcedWay wm_X2_210 wi_yX2_forcedWay wsl_yX2_forcedWay (Nat.le_of_ble_eq_true rfl) rfl (gO_of g1) rfl (Nat.le_of_ble_eq_true rfl) ⟨Nat.le_of_ble_eq_true rfl, Nat.le_of_ble_eq_true rfl⟩ ⟨Nat.zero_le _, Nat.zero_le _⟩ dX2_tabulate_167 ?_
          obtain ⟨g54, h⟩ := gd_some h
          refine fw_iast C (gA_of g54) dX2_tabulate_170 ?_
          refine fw_bm h (fun M55 h => ?_)
          refine fw_iinc C _ 5 [(2, _), (5, _), (4, _), (3, _), (0, _), (1, _)] dX2_tabulate_171 rfl rfl (Nat.le_of_ble_eq_true rfl) rfl ?_
          refine fw_goto C 2 dX2_tabulate_174 (by decide) ?_
          refine fw_sub [4, 5, 0] rfl ?_
          exact ih h kx
set_option maxRecDepth 100000 in
def f_X2_tabulate (S : List fw_Sh) (M : fw_Mem) (a0 : Nat) (a1 : Nat) : Option fw_Mem := b1 (lf_X2_tabulate_2 S a0 a1 20000 0 M) (fun l56 => some l56)
set_option maxHeartbeats 4000000 in
set_option maxRecDepth 100000 in
theorem c_X2_tabulate {l : Launch} {G : fw_G} {S : List fw_Sh} {M : fw_Mem} {a0 : Nat} {a1 : Nat} {r : fw_Mem} (hl : l.stackTraces = false) (h : f_X2_tabulate S M a0 a1 = some r) : fw_M l G yX2_tabulate (.code yX2_tabulate cX2_tabulate 6 none) 6 (fw_mcO (.inl none, S, r)) (fw_msO (.inl none, S, r)) S M [.ref a0, .ref a1] (.inl none, S, r) := by
  refine fw_of [(0, .ref a0), (1, .ref a1)] (by decide) (Nat.le_of_ble_eq_true rfl) rfl ?_
  intro p e s m args below meth c C hr hlk hnm ht _
  unfold f_X2_tabulate at h
  refine fw_iconst C 0 dX2_tabulate_0 rfl ?_
  refine fw_istore_n C [(2, _), (0, _), (1, _)] dX2_tabulate_1 rfl (Nat.le_of_ble_eq_true rfl) rfl ?_
  refine fw_sub [1, 2, 0] rfl ?_
  obtain ⟨l56, e56, h⟩ := b1_some h
  refine lc_X2_tabulate_2 C hr hlk hl ht e56 ?_
  obtain rfl := Option.some.inj h
  exact fw_vret C hr hlk dX2_tabulate_177
set_option maxRecDepth 100000 in
def f_X9_ask (S : List fw_Sh) (M : fw_Mem) (a0 : Nat) (x1 : Int32) : Option ((Int32 ⊕ String) × fw_Mem) := if x1 < 0 then (some (.inr exI, M)) else (if (200 : Int32) < x1 then (some (.inr exI, M)) else (gd (gO S 9 a0) (gd (gN (M a0 0)) (gd (gO S 7 ((M a0 0).toNatClampNeg)) (if x1 ≤ (M ((M a0 0).toNatClampNeg) 1) then (gd (gN (M a0 5)) (gd (gN (M a0 6)) (gd (gO S 1 ((M a0 6).toNatClampNeg)) (gd (gN (M ((M a0 6).toNatClampNeg) 1)) (gd (gO S 2 ((M a0 5).toNatClampNeg)) (b1 (f_X2_tabulate S M ((M a0 5).toNatClampNeg) ((M ((M a0 6).toNatClampNeg) 1).toNatClampNeg)) (fun M11 => gd (gN (M11 a0 6)) (gd (gN (M11 a0 1)) (gd (gO S 4 ((M11 a0 1).toNatClampNeg)) (gd (gO S 1 ((M11 a0 6).toNatClampNeg)) (b2 (f_X1_answer S M11 ((M11 a0 6).toNatClampNeg) x1 (M11 ((M11 a0 1).toNatClampNeg) 6)) (fun v16 M16 => some (.inl v16, M16))))))))))))) else (some (.inr exI, M)))))))
set_option maxHeartbeats 4000000 in
set_option maxRecDepth 100000 in
theorem c_X9_ask {l : Launch} {G : fw_G} {S : List fw_Sh} {M : fw_Mem} {a0 : Nat} {x1 : Int32} {r : ((Int32 ⊕ String) × fw_Mem)} (hl : l.stackTraces = false) (h : f_X9_ask S M a0 x1 = some r) : fw_M l G yX9_ask (.code yX9_ask cX9_ask 2 (some .int)) 52 (fw_mcO (fw_oI r.1, S, r.2)) (fw_msO (fw_oI r.1, S, r.2)) S M [.ref a0, .int x1] (fw_oI r.1, S, r.2) := by
  refine fw_of [(0, .ref a0), (1, .int x1)] (by decide) (Nat.le_of_ble_eq_true rfl) rfl ?_
  intro p e s m args below meth c C hr hlk hnm ht _
  unfold f_X9_ask at h
  refine fw_iload_n C 1 dX9_ask_0 rfl rfl ?_
  refine fw_if_lt C 22 dX9_ask_1 (by decide) (fun c1 => ?_) (fun c1 => ?_)
  · replace h := (if_pos c1).symm.trans h
    obtain rfl := Option.some.inj h
    exact fw_throwW C hl fw_exI (i := 34) (List.mem_of_getElem? (i := 42) rfl) dX9_ask_22 dX9_ask_25 dX9_ask_26 dX9_ask_29 dX9_ask_32 ht hlk (Nat.le_of_ble_eq_true rfl) (Nat.le_of_ble_eq_true rfl) (Nat.le_refl _) (Nat.le_refl _)
  · replace h := (if_neg c1).symm.trans h
    refine fw_iload_n C 1 dX9_ask_4 rfl rfl ?_
    refine fw_sipush C 200 dX9_ask_5 rfl ?_
    refine fw_icmp_gt C 22 dX9_ask_8 (by decide) (fun c2 => ?_) (fun c2 => ?_)
    · replace h := (if_pos c2).symm.trans h
      obtain rfl := Option.some.inj h
      exact fw_throwW C hl fw_exI (i := 34) (List.mem_of_getElem? (i := 42) rfl) dX9_ask_22 dX9_ask_25 dX9_ask_26 dX9_ask_29 dX9_ask_32 ht hlk (Nat.le_of_ble_eq_true rfl) (Nat.le_of_ble_eq_true rfl) (Nat.le_refl _) (Nat.le_refl _)
    · replace h := (if_neg c2).symm.trans h
      refine fw_iload_n C 1 dX9_ask_11 rfl rfl ?_
      refine fw_aload_n C 0 dX9_ask_12 rfl rfl ?_
      obtain ⟨g3, h⟩ := gd_some h
      obtain ⟨g4, h⟩ := gd_some h
      refine fw_getR C 9 0 (Nat.le_of_ble_eq_true rfl) (Nat.le_of_ble_eq_true rfl) wf_X9_12 rfl (gO_of g3) (gN_of g4) dX9_ask_13 ?_
      obtain ⟨g5, h⟩ := gd_some h
      refine fw_getI C 7 1 (Nat.le_of_ble_eq_true rfl) (Nat.le_of_ble_eq_true rfl) wf_X9_85 rfl (gO_of g5) dX9_ask_16 ?_
      refine fw_icmp_le C 33 dX9_ask_19 (by decide) (fun c6 => ?_) (fun c6 => ?_)
      · replace h := (if_pos c6).symm.trans h
        refine fw_aload_n C 0 dX9_ask_33 rfl rfl ?_
        obtain ⟨g7, h⟩ := gd_some h
        refine fw_getR C 9 5 (Nat.le_of_ble_eq_true rfl) (Nat.le_of_ble_eq_true rfl) wf_X9_45 rfl (gO_of g3) (gN_of g7) dX9_ask_34 ?_
        refine fw_aload_n C 0 dX9_ask_37 rfl rfl ?_
        obtain ⟨g8, h⟩ := gd_some h
        refine fw_getR C 9 6 (Nat.le_of_ble_eq_true rfl) (Nat.le_of_ble_eq_true rfl) wf_X9_54 rfl (gO_of g3) (gN_of g8) dX9_ask_38 ?_
        obtain ⟨g9, h⟩ := gd_some h
        obtain ⟨g10, h⟩ := gd_some h
        refine fw_getR C 1 1 (Nat.le_of_ble_eq_true rfl) (Nat.le_of_ble_eq_true rfl) wf_X9_404 rfl (gO_of g9) (gN_of g10) dX9_ask_41 ?_
        obtain ⟨g12, h⟩ := gd_some h
        obtain ⟨M11, e11, h⟩ := b1_some h
        refine fw_callV (ci := 2) [_] C (c_X2_tabulate hl e11) cal_X2_tabulate wm_X9_407 wi_yX2_tabulate wsl_yX2_tabulate (Nat.le_of_ble_eq_true rfl) rfl (gO_of g12) rfl (Nat.le_of_ble_eq_true rfl) ⟨Nat.le_of_ble_eq_true rfl, Nat.le_of_ble_eq_true rfl⟩ ⟨Nat.zero_le _, Nat.zero_le _⟩ dX9_ask_44 ?_
        refine fw_aload_n C 0 dX9_ask_47 rfl rfl ?_
        obtain ⟨g13, h⟩ := gd_some h
        refine fw_getR C 9 6 (Nat.le_of_ble_eq_true rfl) (Nat.le_of_ble_eq_true rfl) wf_X9_54 rfl (gO_of g3) (gN_of g13) dX9_ask_48 ?_
        refine fw_iload_n C 1 dX9_ask_51 rfl rfl ?_
        refine fw_aload_n C 0 dX9_ask_52 rfl rfl ?_
        obtain ⟨g14, h⟩ := gd_some h
        refine fw_getR C 9 1 (Nat.le_of_ble_eq_true rfl) (Nat.le_of_ble_eq_true rfl) wf_X9_21 rfl (gO_of g3) (gN_of g14) dX9_ask_53 ?_
        obtain ⟨g15, h⟩ := gd_some h
        refine fw_getI C 4 6 (Nat.le_of_ble_eq_true rfl) (Nat.le_of_ble_eq_true rfl) wf_X9_108 rfl (gO_of g15) dX9_ask_56 ?_
        obtain ⟨g17, h⟩ := gd_some h
        obtain ⟨v16, M16, e16, h⟩ := b2_some h
        refine fw_callV (ci := 1) [_, _] C (c_X1_answer hl e16) cal_X1_answer wm_X9_411 wi_yX1_answer wsl_yX1_answer (Nat.le_of_ble_eq_true rfl) rfl (gO_of g17) rfl (Nat.le_of_ble_eq_true rfl) ⟨Nat.le_of_ble_eq_true rfl, Nat.le_of_ble_eq_true rfl⟩ ⟨Nat.zero_le _, Nat.zero_le _⟩ dX9_ask_59 ?_
        obtain rfl := Option.some.inj h
        exact fw_iret C hr hlk dX9_ask_62
      · replace h := (if_neg c6).symm.trans h
        obtain rfl := Option.some.inj h
        exact fw_throwW C hl fw_exI (i := 34) (List.mem_of_getElem? (i := 42) rfl) dX9_ask_22 dX9_ask_25 dX9_ask_26 dX9_ask_29 dX9_ask_32 ht hlk (Nat.le_of_ble_eq_true rfl) (Nat.le_of_ble_eq_true rfl) (Nat.le_refl _) (Nat.le_refl _)
set_option maxRecDepth 100000 in
def f_X9_image (S : List fw_Sh) (M : fw_Mem) (a0 : Nat) : Option fw_Mem := gd (gO S 9 a0) (gd (gN (M a0 3)) (gd (gN (M a0 1)) (gd (gO S 4 ((M a0 3).toNatClampNeg)) (b1 (f_X4_become S M ((M a0 3).toNatClampNeg) ((M a0 1).toNatClampNeg)) (fun M4 => bm (fw_set M4 a0 10 1) (fun M6 => some M6))))))
set_option maxHeartbeats 4000000 in
set_option maxRecDepth 100000 in
theorem c_X9_image {l : Launch} {G : fw_G} {S : List fw_Sh} {M : fw_Mem} {a0 : Nat} {r : fw_Mem} (hl : l.stackTraces = false) (h : f_X9_image S M a0 = some r) : fw_M l G yX9_image (.code yX9_image cX9_image 1 none) 3 (fw_mcO (.inl none, S, r)) (fw_msO (.inl none, S, r)) S M [.ref a0] (.inl none, S, r) := by
  refine fw_of [(0, .ref a0)] (by decide) (Nat.le_of_ble_eq_true rfl) rfl ?_
  intro p e s m args below meth c C hr hlk hnm ht _
  unfold f_X9_image at h
  refine fw_aload_n C 0 dX9_image_0 rfl rfl ?_
  obtain ⟨g1, h⟩ := gd_some h
  obtain ⟨g2, h⟩ := gd_some h
  refine fw_getR C 9 3 (Nat.le_of_ble_eq_true rfl) (Nat.le_of_ble_eq_true rfl) wf_X9_28 rfl (gO_of g1) (gN_of g2) dX9_image_1 ?_
  refine fw_aload_n C 0 dX9_image_4 rfl rfl ?_
  obtain ⟨g3, h⟩ := gd_some h
  refine fw_getR C 9 1 (Nat.le_of_ble_eq_true rfl) (Nat.le_of_ble_eq_true rfl) wf_X9_21 rfl (gO_of g1) (gN_of g3) dX9_image_5 ?_
  obtain ⟨g5, h⟩ := gd_some h
  obtain ⟨M4, e4, h⟩ := b1_some h
  refine fw_callV (ci := 4) [_] C (c_X4_become hl e4) cal_X4_become wm_X9_414 wi_yX4_become wsl_yX4_become (Nat.le_of_ble_eq_true rfl) rfl (gO_of g5) rfl (Nat.le_of_ble_eq_true rfl) ⟨Nat.le_of_ble_eq_true rfl, Nat.le_of_ble_eq_true rfl⟩ ⟨Nat.zero_le _, Nat.zero_le _⟩ dX9_image_8 ?_
  refine fw_aload_n C 0 dX9_image_11 rfl rfl ?_
  refine fw_iconst C 1 dX9_image_12 rfl ?_
  refine fw_putI C 9 10 (Nat.le_of_ble_eq_true rfl) (Nat.le_of_ble_eq_true rfl) wf_X9_81 rfl rfl rfl rfl (gO_of g1) dX9_image_13 ?_
  refine fw_bm h (fun M6 h => ?_)
  obtain rfl := Option.some.inj h
  exact fw_vret C hr hlk dX9_image_16
set_option maxRecDepth 100000 in
def f_X9_back (S : List fw_Sh) (M : fw_Mem) (a0 : Nat) : Option (Int32 × fw_Mem) := gd (gO S 9 a0) (if (M a0 10) = 0 then (some (0, M)) else (gd (gN (M a0 3)) (b1 (f_X9_startAnewFrom S M a0 ((M a0 3).toNatClampNeg)) (fun M4 => some (1, M4)))))
set_option maxHeartbeats 4000000 in
set_option maxRecDepth 100000 in
theorem c_X9_back {l : Launch} {G : fw_G} {S : List fw_Sh} {M : fw_Mem} {a0 : Nat} {r : (Int32 × fw_Mem)} (hl : l.stackTraces = false) (h : f_X9_back S M a0 = some r) : fw_M l G yX9_back (.code yX9_back cX9_back 1 (some .boolean)) 7 (fw_mcO (.inl (some (.int r.1)), S, r.2)) (fw_msO (.inl (some (.int r.1)), S, r.2)) S M [.ref a0] (.inl (some (.int r.1)), S, r.2) := by
  refine fw_of [(0, .ref a0)] (by decide) (Nat.le_of_ble_eq_true rfl) rfl ?_
  intro p e s m args below meth c C hr hlk hnm ht _
  unfold f_X9_back at h
  refine fw_aload_n C 0 dX9_back_0 rfl rfl ?_
  obtain ⟨g1, h⟩ := gd_some h
  refine fw_getI C 9 10 (Nat.le_of_ble_eq_true rfl) (Nat.le_of_ble_eq_true rfl) wf_X9_81 rfl (gO_of g1) dX9_back_1 ?_
  refine fw_if_ne C 9 dX9_back_4 (by decide) (fun c2 => ?_) (fun c2 => ?_)
  · replace h := (if_neg c2).symm.trans h
    refine fw_aload_n C 0 dX9_back_9 rfl rfl ?_
    refine fw_aload_n C 0 dX9_back_10 rfl rfl ?_
    obtain ⟨g3, h⟩ := gd_some h
    refine fw_getR C 9 3 (Nat.le_of_ble_eq_true rfl) (Nat.le_of_ble_eq_true rfl) wf_X9_28 rfl (gO_of g1) (gN_of g3) dX9_back_11 ?_
    obtain ⟨M4, e4, h⟩ := b1_some h
    refine fw_callV (ci := 9) [_] C (c_X9_startAnewFrom hl e4) cal_X9_startAnewFrom wm_X9_105 wi_yX9_startAnewFrom wsl_yX9_startAnewFrom (Nat.le_of_ble_eq_true rfl) rfl (gO_of g1) rfl (Nat.le_of_ble_eq_true rfl) ⟨Nat.le_of_ble_eq_true rfl, Nat.le_of_ble_eq_true rfl⟩ ⟨Nat.zero_le _, Nat.zero_le _⟩ dX9_back_14 ?_
    refine fw_iconst C 1 dX9_back_17 rfl ?_
    obtain rfl := Option.some.inj h
    exact fw_zret C hr (Or.inr rfl) hlk dX9_back_18
  · replace h := (if_pos c2).symm.trans h
    refine fw_iconst C 0 dX9_back_7 rfl ?_
    obtain rfl := Option.some.inj h
    exact fw_zret C hr (Or.inl rfl) hlk dX9_back_8
set_option maxRecDepth 100000 in
def lf_X10_bare_2 (S : List fw_Sh) (a0 : Nat) : Nat → Int32 → fw_Mem → Option (fw_Mem)
  | 0, _, _ => none
  | n + 1, x1, M => if (330 : Int32) ≤ x1 then (some M) else (gd (gA S 0 a0 x1) (bm (fw_set M a0 x1.toNatClampNeg 0) (fun M3 => lf_X10_bare_2 S a0 n (x1 + 1) M3)))
set_option maxHeartbeats 4000000 in
set_option maxRecDepth 100000 in
theorem lc_X10_bare_2 {G : fw_G} {p : Program} {l : Launch} {e : Env} {s : State} {m : MethodId} {args : Array Value} {below : List Frame} {meth : Method} {c : Code} {S : List fw_Sh} {o : fw_O} {a0 : Nat} (C : fw_C G RX10 cX10_bare 2 p s m args c) (hr : meth.sig.returnType = none) (hlk : meth.locks = false) (hl : l.stackTraces = false) (ht : ∀ x ∈ c.exceptionTable.toList, False) :
    ∀ {n : Nat} {x1 : Int32} {M : fw_Mem} {r : (fw_Mem)} (h : lf_X10_bare_2 S a0 n x1 M = some r) (kx : fw_W G p l e (fw_rm 1 (fw_mcO o) (fw_msO o)) s m args below meth c 2 (fw_Z G below args s (fw_mcO o) (fw_msO o) o) 0 0 19 [(0, .ref a0)] [] S r), fw_W G p l e (fw_rm 1 (fw_mcO o) (fw_msO o)) s m args below meth c 2 (fw_Z G below args s (fw_mcO o) (fw_msO o) o) 0 0 2 [(0, .ref a0), (1, .int x1)] [] S M := by
  intro n
  induction n with
  | zero =>
    intro x1 M r h
    exact nomatch (show (none : Option (fw_Mem)) = some r from h)
  | succ n ih =>
    intro x1 M r h kx
    rw [lf_X10_bare_2.eq_2] at h
    refine fw_iload_n C 1 dX10_bare_2 rfl rfl ?_
    refine fw_sipush C 330 dX10_bare_3 rfl ?_
    refine fw_icmp_ge C 19 dX10_bare_6 (by decide) (fun c1 => ?_) (fun c1 => ?_)
    · replace h := (if_pos c1).symm.trans h
      obtain rfl := Option.some.inj h
      refine fw_sub [0] rfl ?_
      exact kx
    · replace h := (if_neg c1).symm.trans h
      refine fw_aload_n C 0 dX10_bare_9 rfl rfl ?_
      refine fw_iload_n C 1 dX10_bare_10 rfl rfl ?_
      refine fw_iconst C 0 dX10_bare_11 rfl ?_
      obtain ⟨g2, h⟩ := gd_some h
      refine fw_iast C (gA_of g2) dX10_bare_12 ?_
      refine fw_bm h (fun M3 h => ?_)
      refine fw_iinc C _ 1 [(1, _), (0, _)] dX10_bare_13 rfl rfl (Nat.le_of_ble_eq_true rfl) rfl ?_
      refine fw_goto C 2 dX10_bare_16 (by decide) ?_
      refine fw_sub [1, 0] rfl ?_
      exact ih h kx
set_option maxRecDepth 100000 in
def f_X10_bare (S : List fw_Sh) (M : fw_Mem) (a0 : Nat) : Option fw_Mem := b1 (lf_X10_bare_2 S a0 20000 0 M) (fun l4 => gd (gA S 0 a0 3) (bm (fw_set l4 a0 3 50) (fun M6 => some M6)))
set_option maxHeartbeats 4000000 in
set_option maxRecDepth 100000 in
theorem c_X10_bare {l : Launch} {G : fw_G} {S : List fw_Sh} {M : fw_Mem} {a0 : Nat} {r : fw_Mem} (hl : l.stackTraces = false) (h : f_X10_bare S M a0 = some r) : fw_M l G yX10_bare (.code yX10_bare cX10_bare 2 none) 1 (fw_mcO (.inl none, S, r)) (fw_msO (.inl none, S, r)) S M [.ref a0] (.inl none, S, r) := by
  refine fw_of [(0, .ref a0)] (by decide) (Nat.le_of_ble_eq_true rfl) rfl ?_
  intro p e s m args below meth c C hr hlk hnm ht _
  unfold f_X10_bare at h
  refine fw_iconst C 0 dX10_bare_0 rfl ?_
  refine fw_istore_n C [(1, _), (0, _)] dX10_bare_1 rfl (Nat.le_of_ble_eq_true rfl) rfl ?_
  refine fw_sub [1, 0] rfl ?_
  obtain ⟨l4, e4, h⟩ := b1_some h
  refine lc_X10_bare_2 C hr hlk hl ht e4 ?_
  refine fw_aload_n C 0 dX10_bare_19 rfl rfl ?_
  refine fw_iconst C 3 dX10_bare_20 rfl ?_
  refine fw_bipush C 50 dX10_bare_21 rfl ?_
  obtain ⟨g5, h⟩ := gd_some h
  refine fw_iast C (gA_of g5) dX10_bare_23 ?_
  refine fw_bm h (fun M6 h => ?_)
  obtain rfl := Option.some.inj h
  exact fw_vret C hr hlk dX10_bare_24
set_option maxRecDepth 100000 in
def f_X10_thrown (S : List fw_Sh) (M : fw_Mem) (a0 : Nat) : Option Int32 := gd (gO S 10 a0) (some (M a0 6))
set_option maxHeartbeats 4000000 in
set_option maxRecDepth 100000 in
theorem c_X10_thrown {l : Launch} {G : fw_G} {S : List fw_Sh} {M : fw_Mem} {a0 : Nat} {r : Int32} (hl : l.stackTraces = false) (h : f_X10_thrown S M a0 = some r) : fw_M l G yX10_thrown (.code yX10_thrown cX10_thrown 1 (some .int)) 1 (fw_mcO (.inl (some (.int r)), S, M)) (fw_msO (.inl (some (.int r)), S, M)) S M [.ref a0] (.inl (some (.int r)), S, M) := by
  refine fw_of [(0, .ref a0)] (by decide) (Nat.le_of_ble_eq_true rfl) rfl ?_
  intro p e s m args below meth c C hr hlk hnm ht _
  unfold f_X10_thrown at h
  refine fw_aload_n C 0 dX10_thrown_0 rfl rfl ?_
  obtain ⟨g1, h⟩ := gd_some h
  refine fw_getI C 10 6 (Nat.le_of_ble_eq_true rfl) (Nat.le_of_ble_eq_true rfl) wf_X10_51 rfl (gO_of g1) dX10_thrown_1 ?_
  obtain rfl := Option.some.inj h
  exact fw_iret C hr hlk dX10_thrown_4
set_option maxRecDepth 100000 in
def f_X10_fail (S : List fw_Sh) (M : fw_Mem) (a0 : Nat) (x1 : Int32) : Option (Int32 × fw_Mem) := gd (gO S 10 a0) (bm (fw_set M a0 6 x1) (fun M2 => some (0, M2)))
set_option maxHeartbeats 4000000 in
set_option maxRecDepth 100000 in
theorem c_X10_fail {l : Launch} {G : fw_G} {S : List fw_Sh} {M : fw_Mem} {a0 : Nat} {x1 : Int32} {r : (Int32 × fw_Mem)} (hl : l.stackTraces = false) (h : f_X10_fail S M a0 x1 = some r) : fw_M l G yX10_fail (.code yX10_fail cX10_fail 2 (some .int)) 1 (fw_mcO (.inl (some (.int r.1)), S, r.2)) (fw_msO (.inl (some (.int r.1)), S, r.2)) S M [.ref a0, .int x1] (.inl (some (.int r.1)), S, r.2) := by
  refine fw_of [(0, .ref a0), (1, .int x1)] (by decide) (Nat.le_of_ble_eq_true rfl) rfl ?_
  intro p e s m args below meth c C hr hlk hnm ht _
  unfold f_X10_fail at h
  refine fw_aload_n C 0 dX10_fail_0 rfl rfl ?_
  refine fw_iload_n C 1 dX10_fail_1 rfl rfl ?_
  obtain ⟨g1, h⟩ := gd_some h
  refine fw_putI C 10 6 (Nat.le_of_ble_eq_true rfl) (Nat.le_of_ble_eq_true rfl) wf_X10_51 rfl rfl rfl rfl (gO_of g1) dX10_fail_2 ?_
  refine fw_bm h (fun M2 h => ?_)
  refine fw_iconst C 0 dX10_fail_5 rfl ?_
  obtain rfl := Option.some.inj h
  exact fw_iret C hr hlk dX10_fail_6
set_option maxRecDepth 100000 in
def f_X10_isIn (S : List fw_Sh) (M : fw_Mem) (x0 : Int32) (x1 : Int32) (x2 : Int32) : Option Int32 := if x0 < x1 then (some 0) else (if x2 < x0 then (some 0) else (some 1))
set_option maxHeartbeats 4000000 in
set_option maxRecDepth 100000 in
theorem c_X10_isIn {l : Launch} {G : fw_G} {S : List fw_Sh} {M : fw_Mem} {x0 : Int32} {x1 : Int32} {x2 : Int32} {r : Int32} (hl : l.stackTraces = false) (h : f_X10_isIn S M x0 x1 x2 = some r) : fw_M l G yX10_isIn (.code yX10_isIn cX10_isIn 3 (some .boolean)) 1 (fw_mcO (.inl (some (.int r)), S, M)) (fw_msO (.inl (some (.int r)), S, M)) S M [.int x0, .int x1, .int x2] (.inl (some (.int r)), S, M) := by
  refine fw_of [(0, .int x0), (1, .int x1), (2, .int x2)] (by decide) (Nat.le_of_ble_eq_true rfl) rfl ?_
  intro p e s m args below meth c C hr hlk hnm ht _
  unfold f_X10_isIn at h
  refine fw_iload_n C 0 dX10_isIn_0 rfl rfl ?_
  refine fw_iload_n C 1 dX10_isIn_1 rfl rfl ?_
  refine fw_icmp_lt C 14 dX10_isIn_2 (by decide) (fun c1 => ?_) (fun c1 => ?_)
  · replace h := (if_pos c1).symm.trans h
    refine fw_iconst C 0 dX10_isIn_14 rfl ?_
    obtain rfl := Option.some.inj h
    exact fw_zret C hr (Or.inl rfl) hlk dX10_isIn_15
  · replace h := (if_neg c1).symm.trans h
    refine fw_iload_n C 0 dX10_isIn_5 rfl rfl ?_
    refine fw_iload_n C 2 dX10_isIn_6 rfl rfl ?_
    refine fw_icmp_gt C 14 dX10_isIn_7 (by decide) (fun c2 => ?_) (fun c2 => ?_)
    · replace h := (if_pos c2).symm.trans h
      refine fw_iconst C 0 dX10_isIn_14 rfl ?_
      obtain rfl := Option.some.inj h
      exact fw_zret C hr (Or.inl rfl) hlk dX10_isIn_15
    · replace h := (if_neg c2).symm.trans h
      refine fw_iconst C 1 dX10_isIn_10 rfl ?_
      refine fw_goto C 15 dX10_isIn_11 (by decide) ?_
      obtain rfl := Option.some.inj h
      exact fw_zret C hr (Or.inr rfl) hlk dX10_isIn_15
set_option maxRecDepth 100000 in
def lf_X10_copy_2 (S : List fw_Sh) (a0 : Nat) (a1 : Nat) : Nat → Int32 → fw_Mem → Option (fw_Mem)
  | 0, _, _ => none
  | n + 1, x2, M => if (330 : Int32) ≤ x2 then (some M) else (gd (gA S 0 a1 x2) (gd (gA S 0 a0 x2) (bm (fw_set M a0 x2.toNatClampNeg (M a1 x2.toNatClampNeg)) (fun M4 => lf_X10_copy_2 S a0 a1 n (x2 + 1) M4))))
set_option maxHeartbeats 4000000 in
set_option maxRecDepth 100000 in
theorem lc_X10_copy_2 {G : fw_G} {p : Program} {l : Launch} {e : Env} {s : State} {m : MethodId} {args : Array Value} {below : List Frame} {meth : Method} {c : Code} {S : List fw_Sh} {o : fw_O} {a0 : Nat} {a1 : Nat} (C : fw_C G RX10 cX10_copy 3 p s m args c) (hr : meth.sig.returnType = none) (hlk : meth.locks = false) (hl : l.stackTraces = false) (ht : ∀ x ∈ c.exceptionTable.toList, False) :
    ∀ {n : Nat} {x2 : Int32} {M : fw_Mem} {r : (fw_Mem)} (h : lf_X10_copy_2 S a0 a1 n x2 M = some r) (kx : fw_W G p l e (fw_rm 1 (fw_mcO o) (fw_msO o)) s m args below meth c 3 (fw_Z G below args s (fw_mcO o) (fw_msO o) o) 0 0 21 [] [] S r), fw_W G p l e (fw_rm 1 (fw_mcO o) (fw_msO o)) s m args below meth c 3 (fw_Z G below args s (fw_mcO o) (fw_msO o) o) 0 0 2 [(0, .ref a0), (1, .ref a1), (2, .int x2)] [] S M := by
  intro n
  induction n with
  | zero =>
    intro x2 M r h
    exact nomatch (show (none : Option (fw_Mem)) = some r from h)
  | succ n ih =>
    intro x2 M r h kx
    rw [lf_X10_copy_2.eq_2] at h
    refine fw_iload_n C 2 dX10_copy_2 rfl rfl ?_
    refine fw_sipush C 330 dX10_copy_3 rfl ?_
    refine fw_icmp_ge C 21 dX10_copy_6 (by decide) (fun c1 => ?_) (fun c1 => ?_)
    · replace h := (if_pos c1).symm.trans h
      obtain rfl := Option.some.inj h
      refine fw_sub [] rfl ?_
      exact kx
    · replace h := (if_neg c1).symm.trans h
      refine fw_aload_n C 0 dX10_copy_9 rfl rfl ?_
      refine fw_iload_n C 2 dX10_copy_10 rfl rfl ?_
      refine fw_aload_n C 1 dX10_copy_11 rfl rfl ?_
      refine fw_iload_n C 2 dX10_copy_12 rfl rfl ?_
      obtain ⟨g2, h⟩ := gd_some h
      refine fw_iald C (gA_of g2) dX10_copy_13 ?_
      obtain ⟨g3, h⟩ := gd_some h
      refine fw_iast C (gA_of g3) dX10_copy_14 ?_
      refine fw_bm h (fun M4 h => ?_)
      refine fw_iinc C _ 2 [(2, _), (0, _), (1, _)] dX10_copy_15 rfl rfl (Nat.le_of_ble_eq_true rfl) rfl ?_
      refine fw_goto C 2 dX10_copy_18 (by decide) ?_
      refine fw_sub [1, 2, 0] rfl ?_
      exact ih h kx
set_option maxRecDepth 100000 in
def f_X10_copy (S : List fw_Sh) (M : fw_Mem) (a0 : Nat) (a1 : Nat) : Option fw_Mem := b1 (lf_X10_copy_2 S a0 a1 20000 0 M) (fun l5 => some l5)
set_option maxHeartbeats 4000000 in
set_option maxRecDepth 100000 in
theorem c_X10_copy {l : Launch} {G : fw_G} {S : List fw_Sh} {M : fw_Mem} {a0 : Nat} {a1 : Nat} {r : fw_Mem} (hl : l.stackTraces = false) (h : f_X10_copy S M a0 a1 = some r) : fw_M l G yX10_copy (.code yX10_copy cX10_copy 3 none) 1 (fw_mcO (.inl none, S, r)) (fw_msO (.inl none, S, r)) S M [.ref a0, .ref a1] (.inl none, S, r) := by
  refine fw_of [(0, .ref a0), (1, .ref a1)] (by decide) (Nat.le_of_ble_eq_true rfl) rfl ?_
  intro p e s m args below meth c C hr hlk hnm ht _
  unfold f_X10_copy at h
  refine fw_iconst C 0 dX10_copy_0 rfl ?_
  refine fw_istore_n C [(2, _), (0, _), (1, _)] dX10_copy_1 rfl (Nat.le_of_ble_eq_true rfl) rfl ?_
  refine fw_sub [1, 2, 0] rfl ?_
  obtain ⟨l5, e5, h⟩ := b1_some h
  refine lc_X10_copy_2 C hr hlk hl ht e5 ?_
  obtain rfl := Option.some.inj h
  exact fw_vret C hr hlk dX10_copy_21
set_option maxRecDepth 100000 in
def f_X10_has (S : List fw_Sh) (M : fw_Mem) (x0 : Int32) (x1 : Int32) : Option Int32 := if ((x0 >>> (x1 &&& 31)) &&& 1) = 1 then (some 1) else (some 0)
set_option maxHeartbeats 4000000 in
set_option maxRecDepth 100000 in
theorem c_X10_has {l : Launch} {G : fw_G} {S : List fw_Sh} {M : fw_Mem} {x0 : Int32} {x1 : Int32} {r : Int32} (hl : l.stackTraces = false) (h : f_X10_has S M x0 x1 = some r) : fw_M l G yX10_has (.code yX10_has cX10_has 2 (some .boolean)) 1 (fw_mcO (.inl (some (.int r)), S, M)) (fw_msO (.inl (some (.int r)), S, M)) S M [.int x0, .int x1] (.inl (some (.int r)), S, M) := by
  refine fw_of [(0, .int x0), (1, .int x1)] (by decide) (Nat.le_of_ble_eq_true rfl) rfl ?_
  intro p e s m args below meth c C hr hlk hnm ht _
  unfold f_X10_has at h
  refine fw_iload_n C 0 dX10_has_0 rfl rfl ?_
  refine fw_iload_n C 1 dX10_has_1 rfl rfl ?_
  refine fw_ishr C dX10_has_2 ?_
  refine fw_iconst C 1 dX10_has_3 rfl ?_
  refine fw_iand C dX10_has_4 ?_
  refine fw_iconst C 1 dX10_has_5 rfl ?_
  refine fw_icmp_ne C 13 dX10_has_6 (by decide) (fun c1 => ?_) (fun c1 => ?_)
  · replace h := (if_neg c1).symm.trans h
    refine fw_iconst C 0 dX10_has_13 rfl ?_
    obtain rfl := Option.some.inj h
    exact fw_zret C hr (Or.inl rfl) hlk dX10_has_14
  · replace h := (if_pos c1).symm.trans h
    refine fw_iconst C 1 dX10_has_9 rfl ?_
    refine fw_goto C 14 dX10_has_10 (by decide) ?_
    obtain rfl := Option.some.inj h
    exact fw_zret C hr (Or.inr rfl) hlk dX10_has_14
set_option maxRecDepth 100000 in
def lf_X10_bitsOf_4 (S : List fw_Sh) (M : fw_Mem) : Nat → Int32 → Int32 → Option (Int32)
  | 0, _, _ => none
  | n + 1, x1, x2 => if x2 = 0 then (some x1) else (lf_X10_bitsOf_4 S M n (x1 + 1) (x2 &&& (x2 - 1)))
set_option maxHeartbeats 4000000 in
set_option maxRecDepth 100000 in
theorem lc_X10_bitsOf_4 {G : fw_G} {p : Program} {l : Launch} {e : Env} {s : State} {m : MethodId} {args : Array Value} {below : List Frame} {meth : Method} {c : Code} {S : List fw_Sh} {o : fw_O} {M : fw_Mem} (C : fw_C G RX10 cX10_bitsOf 3 p s m args c) (hr : meth.sig.returnType = (some .int)) (hlk : meth.locks = false) (hl : l.stackTraces = false) (ht : ∀ x ∈ c.exceptionTable.toList, False) :
    ∀ {n : Nat} {x1 : Int32} {x2 : Int32} {r : (Int32)} (h : lf_X10_bitsOf_4 S M n x1 x2 = some r) (kx : fw_W G p l e (fw_rm 1 (fw_mcO o) (fw_msO o)) s m args below meth c 3 (fw_Z G below args s (fw_mcO o) (fw_msO o) o) 0 0 20 [(1, .int r)] [] S M), fw_W G p l e (fw_rm 1 (fw_mcO o) (fw_msO o)) s m args below meth c 3 (fw_Z G below args s (fw_mcO o) (fw_msO o) o) 0 0 4 [(1, .int x1), (2, .int x2)] [] S M := by
  intro n
  induction n with
  | zero =>
    intro x1 x2 r h
    exact nomatch (show (none : Option (Int32)) = some r from h)
  | succ n ih =>
    intro x1 x2 r h kx
    rw [lf_X10_bitsOf_4.eq_2] at h
    refine fw_iload_n C 1 dX10_bitsOf_4 rfl rfl ?_
    refine fw_if_eq C 20 dX10_bitsOf_5 (by decide) (fun c1 => ?_) (fun c1 => ?_)
    · replace h := (if_pos c1).symm.trans h
      obtain rfl := Option.some.inj h
      refine fw_sub [0] rfl ?_
      exact kx
    · replace h := (if_neg c1).symm.trans h
      refine fw_iinc C _ 0 [(1, _), (2, _)] dX10_bitsOf_8 rfl rfl (Nat.le_of_ble_eq_true rfl) rfl ?_
      refine fw_iload_n C 1 dX10_bitsOf_11 rfl rfl ?_
      refine fw_iload_n C 1 dX10_bitsOf_12 rfl rfl ?_
      refine fw_iconst C 1 dX10_bitsOf_13 rfl ?_
      refine fw_isub C dX10_bitsOf_14 ?_
      refine fw_iand C dX10_bitsOf_15 ?_
      refine fw_istore_n C [(2, _), (1, _)] dX10_bitsOf_16 rfl (Nat.le_of_ble_eq_true rfl) rfl ?_
      refine fw_goto C 4 dX10_bitsOf_17 (by decide) ?_
      refine fw_sub [1, 0] rfl ?_
      exact ih h kx
set_option maxRecDepth 100000 in
def f_X10_bitsOf (S : List fw_Sh) (M : fw_Mem) (x0 : Int32) : Option Int32 := b1 (lf_X10_bitsOf_4 S M 20000 0 x0) (fun l2 => some l2)
set_option maxHeartbeats 4000000 in
set_option maxRecDepth 100000 in
theorem c_X10_bitsOf {l : Launch} {G : fw_G} {S : List fw_Sh} {M : fw_Mem} {x0 : Int32} {r : Int32} (hl : l.stackTraces = false) (h : f_X10_bitsOf S M x0 = some r) : fw_M l G yX10_bitsOf (.code yX10_bitsOf cX10_bitsOf 3 (some .int)) 1 (fw_mcO (.inl (some (.int r)), S, M)) (fw_msO (.inl (some (.int r)), S, M)) S M [.int x0] (.inl (some (.int r)), S, M) := by
  refine fw_of [(0, .int x0)] (by decide) (Nat.le_of_ble_eq_true rfl) rfl ?_
  intro p e s m args below meth c C hr hlk hnm ht _
  unfold f_X10_bitsOf at h
  refine fw_iconst C 0 dX10_bitsOf_0 rfl ?_
  refine fw_istore_n C [(1, _), (0, _)] dX10_bitsOf_1 rfl (Nat.le_of_ble_eq_true rfl) rfl ?_
  refine fw_iload_n C 1 dX10_bitsOf_2 rfl rfl ?_
  refine fw_istore_n C [(2, _), (1, _), (0, _)] dX10_bitsOf_3 rfl (Nat.le_of_ble_eq_true rfl) rfl ?_
  refine fw_sub [1, 0] rfl ?_
  obtain ⟨l2, e2, h⟩ := b1_some h
  refine lc_X10_bitsOf_4 C hr hlk hl ht e2 ?_
  refine fw_iload_n C 0 dX10_bitsOf_20 rfl rfl ?_
  obtain rfl := Option.some.inj h
  exact fw_iret C hr hlk dX10_bitsOf_21
set_option maxRecDepth 100000 in
def f_X10_persons (S : List fw_Sh) (M : fw_Mem) (a0 : Nat) : Option Int32 := gd (gO S 10 a0) (gd (gN (M a0 0)) (gd (gA S 0 ((M a0 0).toNatClampNeg) 0) (some (M ((M a0 0).toNatClampNeg) 0))))
set_option maxHeartbeats 4000000 in
set_option maxRecDepth 100000 in
theorem c_X10_persons {l : Launch} {G : fw_G} {S : List fw_Sh} {M : fw_Mem} {a0 : Nat} {r : Int32} (hl : l.stackTraces = false) (h : f_X10_persons S M a0 = some r) : fw_M l G yX10_persons (.code yX10_persons cX10_persons 1 (some .int)) 1 (fw_mcO (.inl (some (.int r)), S, M)) (fw_msO (.inl (some (.int r)), S, M)) S M [.ref a0] (.inl (some (.int r)), S, M) := by
  refine fw_of [(0, .ref a0)] (by decide) (Nat.le_of_ble_eq_true rfl) rfl ?_
  intro p e s m args below meth c C hr hlk hnm ht _
  unfold f_X10_persons at h
  refine fw_aload_n C 0 dX10_persons_0 rfl rfl ?_
  obtain ⟨g1, h⟩ := gd_some h
  obtain ⟨g2, h⟩ := gd_some h
  refine fw_getR C 10 0 (Nat.le_of_ble_eq_true rfl) (Nat.le_of_ble_eq_true rfl) wf_X10_9 rfl (gO_of g1) (gN_of g2) dX10_persons_1 ?_
  refine fw_iconst C 0 dX10_persons_4 rfl ?_
  obtain ⟨g3, h⟩ := gd_some h
  refine fw_iald C (gA_of g3) dX10_persons_5 ?_
  obtain rfl := Option.some.inj h
  exact fw_iret C hr hlk dX10_persons_6
set_option maxRecDepth 100000 in
def f_X10_links (S : List fw_Sh) (M : fw_Mem) (a0 : Nat) : Option Int32 := gd (gO S 10 a0) (gd (gN (M a0 0)) (gd (gA S 0 ((M a0 0).toNatClampNeg) 1) (some (M ((M a0 0).toNatClampNeg) 1))))
set_option maxHeartbeats 4000000 in
set_option maxRecDepth 100000 in
theorem c_X10_links {l : Launch} {G : fw_G} {S : List fw_Sh} {M : fw_Mem} {a0 : Nat} {r : Int32} (hl : l.stackTraces = false) (h : f_X10_links S M a0 = some r) : fw_M l G yX10_links (.code yX10_links cX10_links 1 (some .int)) 1 (fw_mcO (.inl (some (.int r)), S, M)) (fw_msO (.inl (some (.int r)), S, M)) S M [.ref a0] (.inl (some (.int r)), S, M) := by
  refine fw_of [(0, .ref a0)] (by decide) (Nat.le_of_ble_eq_true rfl) rfl ?_
  intro p e s m args below meth c C hr hlk hnm ht _
  unfold f_X10_links at h
  refine fw_aload_n C 0 dX10_links_0 rfl rfl ?_
  obtain ⟨g1, h⟩ := gd_some h
  obtain ⟨g2, h⟩ := gd_some h
  refine fw_getR C 10 0 (Nat.le_of_ble_eq_true rfl) (Nat.le_of_ble_eq_true rfl) wf_X10_9 rfl (gO_of g1) (gN_of g2) dX10_links_1 ?_
  refine fw_iconst C 1 dX10_links_4 rfl ?_
  obtain ⟨g3, h⟩ := gd_some h
  refine fw_iald C (gA_of g3) dX10_links_5 ?_
  obtain rfl := Option.some.inj h
  exact fw_iret C hr hlk dX10_links_6
set_option maxRecDepth 100000 in
def f_X10_suits (S : List fw_Sh) (M : fw_Mem) (a0 : Nat) : Option Int32 := gd (gO S 10 a0) (gd (gN (M a0 0)) (gd (gA S 0 ((M a0 0).toNatClampNeg) 2) (some (M ((M a0 0).toNatClampNeg) 2))))
set_option maxHeartbeats 4000000 in
set_option maxRecDepth 100000 in
theorem c_X10_suits {l : Launch} {G : fw_G} {S : List fw_Sh} {M : fw_Mem} {a0 : Nat} {r : Int32} (hl : l.stackTraces = false) (h : f_X10_suits S M a0 = some r) : fw_M l G yX10_suits (.code yX10_suits cX10_suits 1 (some .int)) 1 (fw_mcO (.inl (some (.int r)), S, M)) (fw_msO (.inl (some (.int r)), S, M)) S M [.ref a0] (.inl (some (.int r)), S, M) := by
  refine fw_of [(0, .ref a0)] (by decide) (Nat.le_of_ble_eq_true rfl) rfl ?_
  intro p e s m args below meth c C hr hlk hnm ht _
  unfold f_X10_suits at h
  refine fw_aload_n C 0 dX10_suits_0 rfl rfl ?_
  obtain ⟨g1, h⟩ := gd_some h
  obtain ⟨g2, h⟩ := gd_some h
  refine fw_getR C 10 0 (Nat.le_of_ble_eq_true rfl) (Nat.le_of_ble_eq_true rfl) wf_X10_9 rfl (gO_of g1) (gN_of g2) dX10_suits_1 ?_
  refine fw_iconst C 2 dX10_suits_4 rfl ?_
  obtain ⟨g3, h⟩ := gd_some h
  refine fw_iald C (gA_of g3) dX10_suits_5 ?_
  obtain rfl := Option.some.inj h
  exact fw_iret C hr hlk dX10_suits_6
set_option maxRecDepth 100000 in
def f_X10_linkOf (S : List fw_Sh) (M : fw_Mem) (a0 : Nat) (x1 : Int32) (x2 : Int32) : Option Int32 := gd (gO S 10 a0) (gd (gN (M a0 0)) (gd (gA S 0 ((M a0 0).toNatClampNeg) (((78 : Int32) + ((5 : Int32) * x1)) + x2)) (some (M ((M a0 0).toNatClampNeg) (((78 : Int32) + ((5 : Int32) * x1)) + x2).toNatClampNeg))))
set_option maxHeartbeats 4000000 in
set_option maxRecDepth 100000 in
theorem c_X10_linkOf {l : Launch} {G : fw_G} {S : List fw_Sh} {M : fw_Mem} {a0 : Nat} {x1 : Int32} {x2 : Int32} {r : Int32} (hl : l.stackTraces = false) (h : f_X10_linkOf S M a0 x1 x2 = some r) : fw_M l G yX10_linkOf (.code yX10_linkOf cX10_linkOf 3 (some .int)) 1 (fw_mcO (.inl (some (.int r)), S, M)) (fw_msO (.inl (some (.int r)), S, M)) S M [.ref a0, .int x1, .int x2] (.inl (some (.int r)), S, M) := by
  refine fw_of [(0, .ref a0), (1, .int x1), (2, .int x2)] (by decide) (Nat.le_of_ble_eq_true rfl) rfl ?_
  intro p e s m args below meth c C hr hlk hnm ht _
  unfold f_X10_linkOf at h
  refine fw_aload_n C 0 dX10_linkOf_0 rfl rfl ?_
  obtain ⟨g1, h⟩ := gd_some h
  obtain ⟨g2, h⟩ := gd_some h
  refine fw_getR C 10 0 (Nat.le_of_ble_eq_true rfl) (Nat.le_of_ble_eq_true rfl) wf_X10_9 rfl (gO_of g1) (gN_of g2) dX10_linkOf_1 ?_
  refine fw_bipush C 78 dX10_linkOf_4 rfl ?_
  refine fw_iconst C 5 dX10_linkOf_6 rfl ?_
  refine fw_iload_n C 1 dX10_linkOf_7 rfl rfl ?_
  refine fw_imul C dX10_linkOf_8 ?_
  refine fw_iadd C dX10_linkOf_9 ?_
  refine fw_iload_n C 2 dX10_linkOf_10 rfl rfl ?_
  refine fw_iadd C dX10_linkOf_11 ?_
  obtain ⟨g3, h⟩ := gd_some h
  refine fw_iald C (gA_of g3) dX10_linkOf_12 ?_
  obtain rfl := Option.some.inj h
  exact fw_iret C hr hlk dX10_linkOf_13
set_option maxRecDepth 100000 in
def f_X10_of (S : List fw_Sh) (M : fw_Mem) (a0 : Nat) (x1 : Int32) (x2 : Int32) : Option Int32 := gd (gO S 10 a0) (gd (gN (M a0 0)) (gd (gA S 0 ((M a0 0).toNatClampNeg) (((198 : Int32) + ((12 : Int32) * x1)) + x2)) (some (M ((M a0 0).toNatClampNeg) (((198 : Int32) + ((12 : Int32) * x1)) + x2).toNatClampNeg))))
set_option maxHeartbeats 4000000 in
set_option maxRecDepth 100000 in
theorem c_X10_of {l : Launch} {G : fw_G} {S : List fw_Sh} {M : fw_Mem} {a0 : Nat} {x1 : Int32} {x2 : Int32} {r : Int32} (hl : l.stackTraces = false) (h : f_X10_of S M a0 x1 x2 = some r) : fw_M l G yX10_of (.code yX10_of cX10_of 3 (some .int)) 1 (fw_mcO (.inl (some (.int r)), S, M)) (fw_msO (.inl (some (.int r)), S, M)) S M [.ref a0, .int x1, .int x2] (.inl (some (.int r)), S, M) := by
  refine fw_of [(0, .ref a0), (1, .int x1), (2, .int x2)] (by decide) (Nat.le_of_ble_eq_true rfl) rfl ?_
  intro p e s m args below meth c C hr hlk hnm ht _
  unfold f_X10_of at h
  refine fw_aload_n C 0 dX10_of_0 rfl rfl ?_
  obtain ⟨g1, h⟩ := gd_some h
  obtain ⟨g2, h⟩ := gd_some h
  refine fw_getR C 10 0 (Nat.le_of_ble_eq_true rfl) (Nat.le_of_ble_eq_true rfl) wf_X10_9 rfl (gO_of g1) (gN_of g2) dX10_of_1 ?_
  refine fw_sipush C 198 dX10_of_4 rfl ?_
  refine fw_bipush C 12 dX10_of_7 rfl ?_
  refine fw_iload_n C 1 dX10_of_9 rfl rfl ?_
  refine fw_imul C dX10_of_10 ?_
  refine fw_iadd C dX10_of_11 ?_
  refine fw_iload_n C 2 dX10_of_12 rfl rfl ?_
  refine fw_iadd C dX10_of_13 ?_
  obtain ⟨g3, h⟩ := gd_some h
  refine fw_iald C (gA_of g3) dX10_of_14 ?_
  obtain rfl := Option.some.inj h
  exact fw_iret C hr hlk dX10_of_15
set_option maxRecDepth 100000 in
def f_X10_put (S : List fw_Sh) (M : fw_Mem) (a0 : Nat) (x1 : Int32) (x2 : Int32) (x3 : Int32) : Option fw_Mem := gd (gO S 10 a0) (gd (gN (M a0 0)) (gd (gA S 0 ((M a0 0).toNatClampNeg) (((198 : Int32) + ((12 : Int32) * x1)) + x2)) (bm (fw_set M ((M a0 0).toNatClampNeg) (((198 : Int32) + ((12 : Int32) * x1)) + x2).toNatClampNeg x3) (fun M4 => some M4))))
set_option maxHeartbeats 4000000 in
set_option maxRecDepth 100000 in
theorem c_X10_put {l : Launch} {G : fw_G} {S : List fw_Sh} {M : fw_Mem} {a0 : Nat} {x1 : Int32} {x2 : Int32} {x3 : Int32} {r : fw_Mem} (hl : l.stackTraces = false) (h : f_X10_put S M a0 x1 x2 x3 = some r) : fw_M l G yX10_put (.code yX10_put cX10_put 4 none) 1 (fw_mcO (.inl none, S, r)) (fw_msO (.inl none, S, r)) S M [.ref a0, .int x1, .int x2, .int x3] (.inl none, S, r) := by
  refine fw_of [(0, .ref a0), (1, .int x1), (2, .int x2), (3, .int x3)] (by decide) (Nat.le_of_ble_eq_true rfl) rfl ?_
  intro p e s m args below meth c C hr hlk hnm ht _
  unfold f_X10_put at h
  refine fw_aload_n C 0 dX10_put_0 rfl rfl ?_
  obtain ⟨g1, h⟩ := gd_some h
  obtain ⟨g2, h⟩ := gd_some h
  refine fw_getR C 10 0 (Nat.le_of_ble_eq_true rfl) (Nat.le_of_ble_eq_true rfl) wf_X10_9 rfl (gO_of g1) (gN_of g2) dX10_put_1 ?_
  refine fw_sipush C 198 dX10_put_4 rfl ?_
  refine fw_bipush C 12 dX10_put_7 rfl ?_
  refine fw_iload_n C 1 dX10_put_9 rfl rfl ?_
  refine fw_imul C dX10_put_10 ?_
  refine fw_iadd C dX10_put_11 ?_
  refine fw_iload_n C 2 dX10_put_12 rfl rfl ?_
  refine fw_iadd C dX10_put_13 ?_
  refine fw_iload_n C 3 dX10_put_14 rfl rfl ?_
  obtain ⟨g3, h⟩ := gd_some h
  refine fw_iast C (gA_of g3) dX10_put_15 ?_
  refine fw_bm h (fun M4 h => ?_)
  obtain rfl := Option.some.inj h
  exact fw_vret C hr hlk dX10_put_16
set_option maxRecDepth 100000 in
def f_X10_isPerson (S : List fw_Sh) (M : fw_Mem) (a0 : Nat) (x1 : Int32) : Option Int32 := gd (gO S 10 a0) (b1 (f_X10_persons S M a0) (fun v1 => b1 (f_X10_isIn S M x1 0 (v1 - 1)) (fun v3 => gd (gB v3) (some v3))))
set_option maxHeartbeats 4000000 in
set_option maxRecDepth 100000 in
theorem c_X10_isPerson {l : Launch} {G : fw_G} {S : List fw_Sh} {M : fw_Mem} {a0 : Nat} {x1 : Int32} {r : Int32} (hl : l.stackTraces = false) (h : f_X10_isPerson S M a0 x1 = some r) : fw_M l G yX10_isPerson (.code yX10_isPerson cX10_isPerson 2 (some .boolean)) 2 (fw_mcO (.inl (some (.int r)), S, M)) (fw_msO (.inl (some (.int r)), S, M)) S M [.ref a0, .int x1] (.inl (some (.int r)), S, M) := by
  refine fw_of [(0, .ref a0), (1, .int x1)] (by decide) (Nat.le_of_ble_eq_true rfl) rfl ?_
  intro p e s m args below meth c C hr hlk hnm ht _
  unfold f_X10_isPerson at h
  refine fw_iload_n C 1 dX10_isPerson_0 rfl rfl ?_
  refine fw_iconst C 0 dX10_isPerson_1 rfl ?_
  refine fw_aload_n C 0 dX10_isPerson_2 rfl rfl ?_
  obtain ⟨g2, h⟩ := gd_some h
  obtain ⟨v1, e1, h⟩ := b1_some h
  refine fw_callV (ci := 10) [] C (c_X10_persons hl e1) cal_X10_persons wm_X10_54 wi_yX10_persons wsl_yX10_persons (Nat.le_of_ble_eq_true rfl) rfl (gO_of g2) rfl (Nat.le_of_ble_eq_true rfl) ⟨Nat.le_of_ble_eq_true rfl, Nat.le_of_ble_eq_true rfl⟩ ⟨Nat.zero_le _, Nat.zero_le _⟩ dX10_isPerson_3 ?_
  refine fw_iconst C 1 dX10_isPerson_6 rfl ?_
  refine fw_isub C dX10_isPerson_7 ?_
  obtain ⟨v3, e3, h⟩ := b1_some h
  refine fw_callS [_, _, _] C (c_X10_isIn hl e3) cal_X10_isIn wm_X10_58 wt_yX10_isIn rfl (Nat.le_of_ble_eq_true rfl) ⟨Nat.le_of_ble_eq_true rfl, Nat.le_of_ble_eq_true rfl⟩ ⟨Nat.zero_le _, Nat.zero_le _⟩ dX10_isPerson_8 ?_
  obtain ⟨g4, h⟩ := gd_some h
  obtain rfl := Option.some.inj h
  exact fw_zret C hr (gB_of g4) hlk dX10_isPerson_11
set_option maxRecDepth 100000 in
def f_X10_isSuit (S : List fw_Sh) (M : fw_Mem) (a0 : Nat) (x1 : Int32) : Option Int32 := gd (gO S 10 a0) (b1 (f_X10_suits S M a0) (fun v1 => b1 (f_X10_isIn S M x1 0 (v1 - 1)) (fun v3 => gd (gB v3) (some v3))))
set_option maxHeartbeats 4000000 in
set_option maxRecDepth 100000 in
theorem c_X10_isSuit {l : Launch} {G : fw_G} {S : List fw_Sh} {M : fw_Mem} {a0 : Nat} {x1 : Int32} {r : Int32} (hl : l.stackTraces = false) (h : f_X10_isSuit S M a0 x1 = some r) : fw_M l G yX10_isSuit (.code yX10_isSuit cX10_isSuit 2 (some .boolean)) 2 (fw_mcO (.inl (some (.int r)), S, M)) (fw_msO (.inl (some (.int r)), S, M)) S M [.ref a0, .int x1] (.inl (some (.int r)), S, M) := by
  refine fw_of [(0, .ref a0), (1, .int x1)] (by decide) (Nat.le_of_ble_eq_true rfl) rfl ?_
  intro p e s m args below meth c C hr hlk hnm ht _
  unfold f_X10_isSuit at h
  refine fw_iload_n C 1 dX10_isSuit_0 rfl rfl ?_
  refine fw_iconst C 0 dX10_isSuit_1 rfl ?_
  refine fw_aload_n C 0 dX10_isSuit_2 rfl rfl ?_
  obtain ⟨g2, h⟩ := gd_some h
  obtain ⟨v1, e1, h⟩ := b1_some h
  refine fw_callV (ci := 10) [] C (c_X10_suits hl e1) cal_X10_suits wm_X10_62 wi_yX10_suits wsl_yX10_suits (Nat.le_of_ble_eq_true rfl) rfl (gO_of g2) rfl (Nat.le_of_ble_eq_true rfl) ⟨Nat.le_of_ble_eq_true rfl, Nat.le_of_ble_eq_true rfl⟩ ⟨Nat.zero_le _, Nat.zero_le _⟩ dX10_isSuit_3 ?_
  refine fw_iconst C 1 dX10_isSuit_6 rfl ?_
  refine fw_isub C dX10_isSuit_7 ?_
  obtain ⟨v3, e3, h⟩ := b1_some h
  refine fw_callS [_, _, _] C (c_X10_isIn hl e3) cal_X10_isIn wm_X10_58 wt_yX10_isIn rfl (Nat.le_of_ble_eq_true rfl) ⟨Nat.le_of_ble_eq_true rfl, Nat.le_of_ble_eq_true rfl⟩ ⟨Nat.zero_le _, Nat.zero_le _⟩ dX10_isSuit_8 ?_
  obtain ⟨g4, h⟩ := gd_some h
  obtain rfl := Option.some.inj h
  exact fw_zret C hr (gB_of g4) hlk dX10_isSuit_11
set_option maxRecDepth 100000 in
def f_X10_isJudged (S : List fw_Sh) (M : fw_Mem) (a0 : Nat) (x1 : Int32) : Option Int32 := gd (gO S 10 a0) (b1 (f_X10_of S M a0 x1 6) (fun v1 => if v1 = (-1) then (some 0) else (some 1)))
set_option maxHeartbeats 4000000 in
set_option maxRecDepth 100000 in
theorem c_X10_isJudged {l : Launch} {G : fw_G} {S : List fw_Sh} {M : fw_Mem} {a0 : Nat} {x1 : Int32} {r : Int32} (hl : l.stackTraces = false) (h : f_X10_isJudged S M a0 x1 = some r) : fw_M l G yX10_isJudged (.code yX10_isJudged cX10_isJudged 2 (some .boolean)) 2 (fw_mcO (.inl (some (.int r)), S, M)) (fw_msO (.inl (some (.int r)), S, M)) S M [.ref a0, .int x1] (.inl (some (.int r)), S, M) := by
  refine fw_of [(0, .ref a0), (1, .int x1)] (by decide) (Nat.le_of_ble_eq_true rfl) rfl ?_
  intro p e s m args below meth c C hr hlk hnm ht _
  unfold f_X10_isJudged at h
  refine fw_aload_n C 0 dX10_isJudged_0 rfl rfl ?_
  refine fw_iload_n C 1 dX10_isJudged_1 rfl rfl ?_
  refine fw_bipush C 6 dX10_isJudged_2 rfl ?_
  obtain ⟨g2, h⟩ := gd_some h
  obtain ⟨v1, e1, h⟩ := b1_some h
  refine fw_callV (ci := 10) [_, _] C (c_X10_of hl e1) cal_X10_of wm_X10_65 wi_yX10_of wsl_yX10_of (Nat.le_of_ble_eq_true rfl) rfl (gO_of g2) rfl (Nat.le_of_ble_eq_true rfl) ⟨Nat.le_of_ble_eq_true rfl, Nat.le_of_ble_eq_true rfl⟩ ⟨Nat.zero_le _, Nat.zero_le _⟩ dX10_isJudged_4 ?_
  refine fw_iconst C (-1) dX10_isJudged_7 rfl ?_
  refine fw_icmp_eq C 15 dX10_isJudged_8 (by decide) (fun c3 => ?_) (fun c3 => ?_)
  · replace h := (if_pos c3).symm.trans h
    refine fw_iconst C 0 dX10_isJudged_15 rfl ?_
    obtain rfl := Option.some.inj h
    exact fw_zret C hr (Or.inl rfl) hlk dX10_isJudged_16
  · replace h := (if_neg c3).symm.trans h
    refine fw_iconst C 1 dX10_isJudged_11 rfl ?_
    refine fw_goto C 16 dX10_isJudged_12 (by decide) ?_
    obtain rfl := Option.some.inj h
    exact fw_zret C hr (Or.inr rfl) hlk dX10_isJudged_16
set_option maxRecDepth 100000 in
def f_X10_isReversed (S : List fw_Sh) (M : fw_Mem) (a0 : Nat) (x1 : Int32) : Option Int32 := gd (gO S 10 a0) (b1 (f_X10_of S M a0 x1 8) (fun v1 => if v1 = 1 then (some 1) else (some 0)))
set_option maxHeartbeats 4000000 in
set_option maxRecDepth 100000 in
theorem c_X10_isReversed {l : Launch} {G : fw_G} {S : List fw_Sh} {M : fw_Mem} {a0 : Nat} {x1 : Int32} {r : Int32} (hl : l.stackTraces = false) (h : f_X10_isReversed S M a0 x1 = some r) : fw_M l G yX10_isReversed (.code yX10_isReversed cX10_isReversed 2 (some .boolean)) 2 (fw_mcO (.inl (some (.int r)), S, M)) (fw_msO (.inl (some (.int r)), S, M)) S M [.ref a0, .int x1] (.inl (some (.int r)), S, M) := by
  refine fw_of [(0, .ref a0), (1, .int x1)] (by decide) (Nat.le_of_ble_eq_true rfl) rfl ?_
  intro p e s m args below meth c C hr hlk hnm ht _
  unfold f_X10_isReversed at h
  refine fw_aload_n C 0 dX10_isReversed_0 rfl rfl ?_
  refine fw_iload_n C 1 dX10_isReversed_1 rfl rfl ?_
  refine fw_bipush C 8 dX10_isReversed_2 rfl ?_
  obtain ⟨g2, h⟩ := gd_some h
  obtain ⟨v1, e1, h⟩ := b1_some h
  refine fw_callV (ci := 10) [_, _] C (c_X10_of hl e1) cal_X10_of wm_X10_65 wi_yX10_of wsl_yX10_of (Nat.le_of_ble_eq_true rfl) rfl (gO_of g2) rfl (Nat.le_of_ble_eq_true rfl) ⟨Nat.le_of_ble_eq_true rfl, Nat.le_of_ble_eq_true rfl⟩ ⟨Nat.zero_le _, Nat.zero_le _⟩ dX10_isReversed_4 ?_
  refine fw_iconst C 1 dX10_isReversed_7 rfl ?_
  refine fw_icmp_ne C 15 dX10_isReversed_8 (by decide) (fun c3 => ?_) (fun c3 => ?_)
  · replace h := (if_neg c3).symm.trans h
    refine fw_iconst C 0 dX10_isReversed_15 rfl ?_
    obtain rfl := Option.some.inj h
    exact fw_zret C hr (Or.inl rfl) hlk dX10_isReversed_16
  · replace h := (if_pos c3).symm.trans h
    refine fw_iconst C 1 dX10_isReversed_11 rfl ?_
    refine fw_goto C 16 dX10_isReversed_12 (by decide) ?_
    obtain rfl := Option.some.inj h
    exact fw_zret C hr (Or.inr rfl) hlk dX10_isReversed_16
set_option maxRecDepth 100000 in
def f_X10_isOnMerits (S : List fw_Sh) (M : fw_Mem) (a0 : Nat) (x1 : Int32) : Option Int32 := gd (gO S 10 a0) (b1 (f_X10_isJudged S M a0 x1) (fun v1 => if v1 = 0 then (some 0) else (b1 (f_X10_of S M a0 x1 7) (fun v4 => if v4 = 1 then (some 1) else (some 0)))))
set_option maxHeartbeats 4000000 in
set_option maxRecDepth 100000 in
theorem c_X10_isOnMerits {l : Launch} {G : fw_G} {S : List fw_Sh} {M : fw_Mem} {a0 : Nat} {x1 : Int32} {r : Int32} (hl : l.stackTraces = false) (h : f_X10_isOnMerits S M a0 x1 = some r) : fw_M l G yX10_isOnMerits (.code yX10_isOnMerits cX10_isOnMerits 2 (some .boolean)) 3 (fw_mcO (.inl (some (.int r)), S, M)) (fw_msO (.inl (some (.int r)), S, M)) S M [.ref a0, .int x1] (.inl (some (.int r)), S, M) := by
  refine fw_of [(0, .ref a0), (1, .int x1)] (by decide) (Nat.le_of_ble_eq_true rfl) rfl ?_
  intro p e s m args below meth c C hr hlk hnm ht _
  unfold f_X10_isOnMerits at h
  refine fw_aload_n C 0 dX10_isOnMerits_0 rfl rfl ?_
  refine fw_iload_n C 1 dX10_isOnMerits_1 rfl rfl ?_
  obtain ⟨g2, h⟩ := gd_some h
  obtain ⟨v1, e1, h⟩ := b1_some h
  refine fw_callV (ci := 10) [_] C (c_X10_isJudged hl e1) cal_X10_isJudged wm_X10_69 wi_yX10_isJudged wsl_yX10_isJudged (Nat.le_of_ble_eq_true rfl) rfl (gO_of g2) rfl (Nat.le_of_ble_eq_true rfl) ⟨Nat.le_of_ble_eq_true rfl, Nat.le_of_ble_eq_true rfl⟩ ⟨Nat.zero_le _, Nat.zero_le _⟩ dX10_isOnMerits_2 ?_
  refine fw_if_eq C 23 dX10_isOnMerits_5 (by decide) (fun c3 => ?_) (fun c3 => ?_)
  · replace h := (if_pos c3).symm.trans h
    refine fw_iconst C 0 dX10_isOnMerits_23 rfl ?_
    obtain rfl := Option.some.inj h
    exact fw_zret C hr (Or.inl rfl) hlk dX10_isOnMerits_24
  · replace h := (if_neg c3).symm.trans h
    refine fw_aload_n C 0 dX10_isOnMerits_8 rfl rfl ?_
    refine fw_iload_n C 1 dX10_isOnMerits_9 rfl rfl ?_
    refine fw_bipush C 7 dX10_isOnMerits_10 rfl ?_
    obtain ⟨v4, e4, h⟩ := b1_some h
    refine fw_callV (ci := 10) [_, _] C (c_X10_of hl e4) cal_X10_of wm_X10_65 wi_yX10_of wsl_yX10_of (Nat.le_of_ble_eq_true rfl) rfl (gO_of g2) rfl (Nat.le_of_ble_eq_true rfl) ⟨Nat.le_of_ble_eq_true rfl, Nat.le_of_ble_eq_true rfl⟩ ⟨Nat.zero_le _, Nat.zero_le _⟩ dX10_isOnMerits_12 ?_
    refine fw_iconst C 1 dX10_isOnMerits_15 rfl ?_
    refine fw_icmp_ne C 23 dX10_isOnMerits_16 (by decide) (fun c5 => ?_) (fun c5 => ?_)
    · replace h := (if_neg c5).symm.trans h
      refine fw_iconst C 0 dX10_isOnMerits_23 rfl ?_
      obtain rfl := Option.some.inj h
      exact fw_zret C hr (Or.inl rfl) hlk dX10_isOnMerits_24
    · replace h := (if_pos c5).symm.trans h
      refine fw_iconst C 1 dX10_isOnMerits_19 rfl ?_
      refine fw_goto C 24 dX10_isOnMerits_20 (by decide) ?_
      obtain rfl := Option.some.inj h
      exact fw_zret C hr (Or.inr rfl) hlk dX10_isOnMerits_24
set_option maxRecDepth 100000 in
def f_X10_issuesOf (S : List fw_Sh) (M : fw_Mem) (a0 : Nat) (x1 : Int32) : Option Int32 := gd (gO S 10 a0) (b1 (f_X10_of S M a0 x1 4) (fun v1 => b1 (f_X10_of S M a0 x1 5) (fun v3 => some (v1 ||| v3))))
set_option maxHeartbeats 4000000 in
set_option maxRecDepth 100000 in
theorem c_X10_issuesOf {l : Launch} {G : fw_G} {S : List fw_Sh} {M : fw_Mem} {a0 : Nat} {x1 : Int32} {r : Int32} (hl : l.stackTraces = false) (h : f_X10_issuesOf S M a0 x1 = some r) : fw_M l G yX10_issuesOf (.code yX10_issuesOf cX10_issuesOf 2 (some .int)) 2 (fw_mcO (.inl (some (.int r)), S, M)) (fw_msO (.inl (some (.int r)), S, M)) S M [.ref a0, .int x1] (.inl (some (.int r)), S, M) := by
  refine fw_of [(0, .ref a0), (1, .int x1)] (by decide) (Nat.le_of_ble_eq_true rfl) rfl ?_
  intro p e s m args below meth c C hr hlk hnm ht _
  unfold f_X10_issuesOf at h
  refine fw_aload_n C 0 dX10_issuesOf_0 rfl rfl ?_
  refine fw_iload_n C 1 dX10_issuesOf_1 rfl rfl ?_
  refine fw_iconst C 4 dX10_issuesOf_2 rfl ?_
  obtain ⟨g2, h⟩ := gd_some h
  obtain ⟨v1, e1, h⟩ := b1_some h
  refine fw_callV (ci := 10) [_, _] C (c_X10_of hl e1) cal_X10_of wm_X10_65 wi_yX10_of wsl_yX10_of (Nat.le_of_ble_eq_true rfl) rfl (gO_of g2) rfl (Nat.le_of_ble_eq_true rfl) ⟨Nat.le_of_ble_eq_true rfl, Nat.le_of_ble_eq_true rfl⟩ ⟨Nat.zero_le _, Nat.zero_le _⟩ dX10_issuesOf_3 ?_
  refine fw_aload_n C 0 dX10_issuesOf_6 rfl rfl ?_
  refine fw_iload_n C 1 dX10_issuesOf_7 rfl rfl ?_
  refine fw_iconst C 5 dX10_issuesOf_8 rfl ?_
  obtain ⟨v3, e3, h⟩ := b1_some h
  refine fw_callV (ci := 10) [_, _] C (c_X10_of hl e3) cal_X10_of wm_X10_65 wi_yX10_of wsl_yX10_of (Nat.le_of_ble_eq_true rfl) rfl (gO_of g2) rfl (Nat.le_of_ble_eq_true rfl) ⟨Nat.le_of_ble_eq_true rfl, Nat.le_of_ble_eq_true rfl⟩ ⟨Nat.zero_le _, Nat.zero_le _⟩ dX10_issuesOf_9 ?_
  refine fw_ior C dX10_issuesOf_12 ?_
  obtain rfl := Option.some.inj h
  exact fw_iret C hr hlk dX10_issuesOf_13
set_option maxRecDepth 100000 in
def f_X10_winsOf (S : List fw_Sh) (M : fw_Mem) (a0 : Nat) (x1 : Int32) : Option Int32 := gd (gO S 10 a0) (b1 (f_X10_isOnMerits S M a0 x1) (fun v1 => if v1 = 0 then (some (-1)) else (b1 (f_X10_of S M a0 x1 4) (fun v4 => b1 (f_X10_of S M a0 x1 9) (fun v5 => if (v4 &&& (v5 ^^^ (-1))) = 0 then (b1 (f_X10_of S M a0 x1 5) (fun v7 => b1 (f_X10_of S M a0 x1 9) (fun v8 => if (v7 &&& v8) = 0 then (some 0) else (some 1)))) else (some 1))))))
set_option maxHeartbeats 4000000 in
set_option maxRecDepth 100000 in
theorem c_X10_winsOf {l : Launch} {G : fw_G} {S : List fw_Sh} {M : fw_Mem} {a0 : Nat} {x1 : Int32} {r : Int32} (hl : l.stackTraces = false) (h : f_X10_winsOf S M a0 x1 = some r) : fw_M l G yX10_winsOf (.code yX10_winsOf cX10_winsOf 3 (some .int)) 4 (fw_mcO (.inl (some (.int r)), S, M)) (fw_msO (.inl (some (.int r)), S, M)) S M [.ref a0, .int x1] (.inl (some (.int r)), S, M) := by
  refine fw_of [(0, .ref a0), (1, .int x1)] (by decide) (Nat.le_of_ble_eq_true rfl) rfl ?_
  intro p e s m args below meth c C hr hlk hnm ht _
  unfold f_X10_winsOf at h
  refine fw_aload_n C 0 dX10_winsOf_0 rfl rfl ?_
  refine fw_iload_n C 1 dX10_winsOf_1 rfl rfl ?_
  obtain ⟨g2, h⟩ := gd_some h
  obtain ⟨v1, e1, h⟩ := b1_some h
  refine fw_callV (ci := 10) [_] C (c_X10_isOnMerits hl e1) cal_X10_isOnMerits wm_X10_73 wi_yX10_isOnMerits wsl_yX10_isOnMerits (Nat.le_of_ble_eq_true rfl) rfl (gO_of g2) rfl (Nat.le_of_ble_eq_true rfl) ⟨Nat.le_of_ble_eq_true rfl, Nat.le_of_ble_eq_true rfl⟩ ⟨Nat.zero_le _, Nat.zero_le _⟩ dX10_winsOf_2 ?_
  refine fw_if_ne C 10 dX10_winsOf_5 (by decide) (fun c3 => ?_) (fun c3 => ?_)
  · replace h := (if_neg c3).symm.trans h
    refine fw_aload_n C 0 dX10_winsOf_10 rfl rfl ?_
    refine fw_iload_n C 1 dX10_winsOf_11 rfl rfl ?_
    refine fw_iconst C 4 dX10_winsOf_12 rfl ?_
    obtain ⟨v4, e4, h⟩ := b1_some h
    refine fw_callV (ci := 10) [_, _] C (c_X10_of hl e4) cal_X10_of wm_X10_65 wi_yX10_of wsl_yX10_of (Nat.le_of_ble_eq_true rfl) rfl (gO_of g2) rfl (Nat.le_of_ble_eq_true rfl) ⟨Nat.le_of_ble_eq_true rfl, Nat.le_of_ble_eq_true rfl⟩ ⟨Nat.zero_le _, Nat.zero_le _⟩ dX10_winsOf_13 ?_
    refine fw_aload_n C 0 dX10_winsOf_16 rfl rfl ?_
    refine fw_iload_n C 1 dX10_winsOf_17 rfl rfl ?_
    refine fw_bipush C 9 dX10_winsOf_18 rfl ?_
    obtain ⟨v5, e5, h⟩ := b1_some h
    refine fw_callV (ci := 10) [_, _] C (c_X10_of hl e5) cal_X10_of wm_X10_65 wi_yX10_of wsl_yX10_of (Nat.le_of_ble_eq_true rfl) rfl (gO_of g2) rfl (Nat.le_of_ble_eq_true rfl) ⟨Nat.le_of_ble_eq_true rfl, Nat.le_of_ble_eq_true rfl⟩ ⟨Nat.zero_le _, Nat.zero_le _⟩ dX10_winsOf_20 ?_
    refine fw_iconst C (-1) dX10_winsOf_23 rfl ?_
    refine fw_ixor C dX10_winsOf_24 ?_
    refine fw_iand C dX10_winsOf_25 ?_
    refine fw_if_ne C 50 dX10_winsOf_26 (by decide) (fun c6 => ?_) (fun c6 => ?_)
    · replace h := (if_neg c6).symm.trans h
      refine fw_iconst C 0 dX10_winsOf_50 rfl ?_
      refine fw_istore_n C [(2, _), (0, _), (1, _)] dX10_winsOf_51 rfl (Nat.le_of_ble_eq_true rfl) rfl ?_
      refine fw_iload_n C 0 dX10_winsOf_52 rfl rfl ?_
      refine fw_if_eq C 60 dX10_winsOf_53 (by decide) (fun _ => ?_) (fun q => absurd q (by decide))
      refine fw_iconst C 1 dX10_winsOf_60 rfl ?_
      obtain rfl := Option.some.inj h
      exact fw_iret C hr hlk dX10_winsOf_61
    · replace h := (if_pos c6).symm.trans h
      refine fw_aload_n C 0 dX10_winsOf_29 rfl rfl ?_
      refine fw_iload_n C 1 dX10_winsOf_30 rfl rfl ?_
      refine fw_iconst C 5 dX10_winsOf_31 rfl ?_
      obtain ⟨v7, e7, h⟩ := b1_some h
      refine fw_callV (ci := 10) [_, _] C (c_X10_of hl e7) cal_X10_of wm_X10_65 wi_yX10_of wsl_yX10_of (Nat.le_of_ble_eq_true rfl) rfl (gO_of g2) rfl (Nat.le_of_ble_eq_true rfl) ⟨Nat.le_of_ble_eq_true rfl, Nat.le_of_ble_eq_true rfl⟩ ⟨Nat.zero_le _, Nat.zero_le _⟩ dX10_winsOf_32 ?_
      refine fw_aload_n C 0 dX10_winsOf_35 rfl rfl ?_
      refine fw_iload_n C 1 dX10_winsOf_36 rfl rfl ?_
      refine fw_bipush C 9 dX10_winsOf_37 rfl ?_
      obtain ⟨v8, e8, h⟩ := b1_some h
      refine fw_callV (ci := 10) [_, _] C (c_X10_of hl e8) cal_X10_of wm_X10_65 wi_yX10_of wsl_yX10_of (Nat.le_of_ble_eq_true rfl) rfl (gO_of g2) rfl (Nat.le_of_ble_eq_true rfl) ⟨Nat.le_of_ble_eq_true rfl, Nat.le_of_ble_eq_true rfl⟩ ⟨Nat.zero_le _, Nat.zero_le _⟩ dX10_winsOf_39 ?_
      refine fw_iand C dX10_winsOf_42 ?_
      refine fw_if_ne C 50 dX10_winsOf_43 (by decide) (fun c9 => ?_) (fun c9 => ?_)
      · replace h := (if_neg c9).symm.trans h
        refine fw_iconst C 0 dX10_winsOf_50 rfl ?_
        refine fw_istore_n C [(2, _), (0, _), (1, _)] dX10_winsOf_51 rfl (Nat.le_of_ble_eq_true rfl) rfl ?_
        refine fw_iload_n C 0 dX10_winsOf_52 rfl rfl ?_
        refine fw_if_eq C 60 dX10_winsOf_53 (by decide) (fun _ => ?_) (fun q => absurd q (by decide))
        refine fw_iconst C 1 dX10_winsOf_60 rfl ?_
        obtain rfl := Option.some.inj h
        exact fw_iret C hr hlk dX10_winsOf_61
      · replace h := (if_pos c9).symm.trans h
        refine fw_iconst C 1 dX10_winsOf_46 rfl ?_
        refine fw_goto C 51 dX10_winsOf_47 (by decide) ?_
        refine fw_istore_n C [(2, _), (0, _), (1, _)] dX10_winsOf_51 rfl (Nat.le_of_ble_eq_true rfl) rfl ?_
        refine fw_iload_n C 0 dX10_winsOf_52 rfl rfl ?_
        refine fw_if_eq C 60 dX10_winsOf_53 (by decide) (fun q => absurd q (by decide)) (fun _ => ?_)
        refine fw_iconst C 0 dX10_winsOf_56 rfl ?_
        refine fw_goto C 61 dX10_winsOf_57 (by decide) ?_
        obtain rfl := Option.some.inj h
        exact fw_iret C hr hlk dX10_winsOf_61
  · replace h := (if_pos c3).symm.trans h
    refine fw_iconst C (-1) dX10_winsOf_8 rfl ?_
    obtain rfl := Option.some.inj h
    exact fw_iret C hr hlk dX10_winsOf_9
set_option maxRecDepth 100000 in
def f_X10_groundsOf (S : List fw_Sh) (M : fw_Mem) (a0 : Nat) (x1 : Int32) : Option Int32 := gd (gO S 10 a0) (b1 (f_X10_of S M a0 x1 4) (fun v1 => b1 (f_X10_of S M a0 x1 10) (fun v3 => b1 (f_X10_of S M a0 x1 5) (fun v4 => b1 (f_X10_of S M a0 x1 9) (fun v5 => some ((v1 &&& v3) ||| (v4 &&& v5)))))))
set_option maxHeartbeats 4000000 in
set_option maxRecDepth 100000 in
theorem c_X10_groundsOf {l : Launch} {G : fw_G} {S : List fw_Sh} {M : fw_Mem} {a0 : Nat} {x1 : Int32} {r : Int32} (hl : l.stackTraces = false) (h : f_X10_groundsOf S M a0 x1 = some r) : fw_M l G yX10_groundsOf (.code yX10_groundsOf cX10_groundsOf 2 (some .int)) 2 (fw_mcO (.inl (some (.int r)), S, M)) (fw_msO (.inl (some (.int r)), S, M)) S M [.ref a0, .int x1] (.inl (some (.int r)), S, M) := by
  refine fw_of [(0, .ref a0), (1, .int x1)] (by decide) (Nat.le_of_ble_eq_true rfl) rfl ?_
  intro p e s m args below meth c C hr hlk hnm ht _
  unfold f_X10_groundsOf at h
  refine fw_aload_n C 0 dX10_groundsOf_0 rfl rfl ?_
  refine fw_iload_n C 1 dX10_groundsOf_1 rfl rfl ?_
  refine fw_iconst C 4 dX10_groundsOf_2 rfl ?_
  obtain ⟨g2, h⟩ := gd_some h
  obtain ⟨v1, e1, h⟩ := b1_some h
  refine fw_callV (ci := 10) [_, _] C (c_X10_of hl e1) cal_X10_of wm_X10_65 wi_yX10_of wsl_yX10_of (Nat.le_of_ble_eq_true rfl) rfl (gO_of g2) rfl (Nat.le_of_ble_eq_true rfl) ⟨Nat.le_of_ble_eq_true rfl, Nat.le_of_ble_eq_true rfl⟩ ⟨Nat.zero_le _, Nat.zero_le _⟩ dX10_groundsOf_3 ?_
  refine fw_aload_n C 0 dX10_groundsOf_6 rfl rfl ?_
  refine fw_iload_n C 1 dX10_groundsOf_7 rfl rfl ?_
  refine fw_bipush C 10 dX10_groundsOf_8 rfl ?_
  obtain ⟨v3, e3, h⟩ := b1_some h
  refine fw_callV (ci := 10) [_, _] C (c_X10_of hl e3) cal_X10_of wm_X10_65 wi_yX10_of wsl_yX10_of (Nat.le_of_ble_eq_true rfl) rfl (gO_of g2) rfl (Nat.le_of_ble_eq_true rfl) ⟨Nat.le_of_ble_eq_true rfl, Nat.le_of_ble_eq_true rfl⟩ ⟨Nat.zero_le _, Nat.zero_le _⟩ dX10_groundsOf_10 ?_
  refine fw_iand C dX10_groundsOf_13 ?_
  refine fw_aload_n C 0 dX10_groundsOf_14 rfl rfl ?_
  refine fw_iload_n C 1 dX10_groundsOf_15 rfl rfl ?_
  refine fw_iconst C 5 dX10_groundsOf_16 rfl ?_
  obtain ⟨v4, e4, h⟩ := b1_some h
  refine fw_callV (ci := 10) [_, _] C (c_X10_of hl e4) cal_X10_of wm_X10_65 wi_yX10_of wsl_yX10_of (Nat.le_of_ble_eq_true rfl) rfl (gO_of g2) rfl (Nat.le_of_ble_eq_true rfl) ⟨Nat.le_of_ble_eq_true rfl, Nat.le_of_ble_eq_true rfl⟩ ⟨Nat.zero_le _, Nat.zero_le _⟩ dX10_groundsOf_17 ?_
  refine fw_aload_n C 0 dX10_groundsOf_20 rfl rfl ?_
  refine fw_iload_n C 1 dX10_groundsOf_21 rfl rfl ?_
  refine fw_bipush C 9 dX10_groundsOf_22 rfl ?_
  obtain ⟨v5, e5, h⟩ := b1_some h
  refine fw_callV (ci := 10) [_, _] C (c_X10_of hl e5) cal_X10_of wm_X10_65 wi_yX10_of wsl_yX10_of (Nat.le_of_ble_eq_true rfl) rfl (gO_of g2) rfl (Nat.le_of_ble_eq_true rfl) ⟨Nat.le_of_ble_eq_true rfl, Nat.le_of_ble_eq_true rfl⟩ ⟨Nat.zero_le _, Nat.zero_le _⟩ dX10_groundsOf_24 ?_
  refine fw_iand C dX10_groundsOf_27 ?_
  refine fw_ior C dX10_groundsOf_28 ?_
  obtain rfl := Option.some.inj h
  exact fw_iret C hr hlk dX10_groundsOf_29
set_option maxRecDepth 100000 in
def f_X10_necessaryOf (S : List fw_Sh) (M : fw_Mem) (a0 : Nat) (x1 : Int32) : Option Int32 := gd (gO S 10 a0) (b1 (f_X10_winsOf S M a0 x1) (fun v1 => if v1 = (-1) then (some 0) else (if v1 = 0 then (b1 (f_X10_of S M a0 x1 4) (fun v11 => b1 (f_X10_of S M a0 x1 5) (fun v12 => b1 (f_X10_of S M a0 x1 10) (fun v13 => some (v11 ||| (v12 &&& v13)))))) else (b1 (f_X10_groundsOf S M a0 x1) (fun v5 => b1 (f_X10_bitsOf S M v5) (fun v6 => if v6 = 1 then (some v5) else (gd (gN (M a0 0)) (gd (gA S 0 ((M a0 0).toNatClampNeg) 5) (if (M ((M a0 0).toNatClampNeg) 5) = 1 then (some v5) else (some 0))))))))))
set_option maxHeartbeats 4000000 in
set_option maxRecDepth 100000 in
theorem c_X10_necessaryOf {l : Launch} {G : fw_G} {S : List fw_Sh} {M : fw_Mem} {a0 : Nat} {x1 : Int32} {r : Int32} (hl : l.stackTraces = false) (h : f_X10_necessaryOf S M a0 x1 = some r) : fw_M l G yX10_necessaryOf (.code yX10_necessaryOf cX10_necessaryOf 4 (some .int)) 5 (fw_mcO (.inl (some (.int r)), S, M)) (fw_msO (.inl (some (.int r)), S, M)) S M [.ref a0, .int x1] (.inl (some (.int r)), S, M) := by
  refine fw_of [(0, .ref a0), (1, .int x1)] (by decide) (Nat.le_of_ble_eq_true rfl) rfl ?_
  intro p e s m args below meth c C hr hlk hnm ht _
  unfold f_X10_necessaryOf at h
  refine fw_aload_n C 0 dX10_necessaryOf_0 rfl rfl ?_
  refine fw_iload_n C 1 dX10_necessaryOf_1 rfl rfl ?_
  obtain ⟨g2, h⟩ := gd_some h
  obtain ⟨v1, e1, h⟩ := b1_some h
  refine fw_callV (ci := 10) [_] C (c_X10_winsOf hl e1) cal_X10_winsOf wm_X10_76 wi_yX10_winsOf wsl_yX10_winsOf (Nat.le_of_ble_eq_true rfl) rfl (gO_of g2) rfl (Nat.le_of_ble_eq_true rfl) ⟨Nat.le_of_ble_eq_true rfl, Nat.le_of_ble_eq_true rfl⟩ ⟨Nat.zero_le _, Nat.zero_le _⟩ dX10_necessaryOf_2 ?_
  refine fw_istore_n C [(2, _), (0, _), (1, _)] dX10_necessaryOf_5 rfl (Nat.le_of_ble_eq_true rfl) rfl ?_
  refine fw_iload_n C 0 dX10_necessaryOf_6 rfl rfl ?_
  refine fw_iconst C (-1) dX10_necessaryOf_7 rfl ?_
  refine fw_icmp_ne C 13 dX10_necessaryOf_8 (by decide) (fun c3 => ?_) (fun c3 => ?_)
  · replace h := (if_neg c3).symm.trans h
    refine fw_iload_n C 0 dX10_necessaryOf_13 rfl rfl ?_
    refine fw_if_ne C 39 dX10_necessaryOf_14 (by decide) (fun c4 => ?_) (fun c4 => ?_)
    · replace h := (if_neg c4).symm.trans h
      refine fw_aload_n C 1 dX10_necessaryOf_39 rfl rfl ?_
      refine fw_iload_n C 2 dX10_necessaryOf_40 rfl rfl ?_
      obtain ⟨v5, e5, h⟩ := b1_some h
      refine fw_callV (ci := 10) [_] C (c_X10_groundsOf hl e5) cal_X10_groundsOf wm_X10_80 wi_yX10_groundsOf wsl_yX10_groundsOf (Nat.le_of_ble_eq_true rfl) rfl (gO_of g2) rfl (Nat.le_of_ble_eq_true rfl) ⟨Nat.le_of_ble_eq_true rfl, Nat.le_of_ble_eq_true rfl⟩ ⟨Nat.zero_le _, Nat.zero_le _⟩ dX10_necessaryOf_41 ?_
      refine fw_istore_n C [(3, _), (2, _), (0, _), (1, _)] dX10_necessaryOf_44 rfl (Nat.le_of_ble_eq_true rfl) rfl ?_
      refine fw_iload_n C 0 dX10_necessaryOf_45 rfl rfl ?_
      obtain ⟨v6, e6, h⟩ := b1_some h
      refine fw_callS [_] C (c_X10_bitsOf hl e6) cal_X10_bitsOf wm_X10_83 wt_yX10_bitsOf rfl (Nat.le_of_ble_eq_true rfl) ⟨Nat.le_of_ble_eq_true rfl, Nat.le_of_ble_eq_true rfl⟩ ⟨Nat.zero_le _, Nat.zero_le _⟩ dX10_necessaryOf_46 ?_
      refine fw_iconst C 1 dX10_necessaryOf_49 rfl ?_
      refine fw_icmp_eq C 63 dX10_necessaryOf_50 (by decide) (fun c7 => ?_) (fun c7 => ?_)
      · replace h := (if_pos c7).symm.trans h
        refine fw_iload_n C 0 dX10_necessaryOf_63 rfl rfl ?_
        refine fw_goto C 68 dX10_necessaryOf_64 (by decide) ?_
        obtain rfl := Option.some.inj h
        exact fw_iret C hr hlk dX10_necessaryOf_68
      · replace h := (if_neg c7).symm.trans h
        refine fw_aload_n C 2 dX10_necessaryOf_53 rfl rfl ?_
        obtain ⟨g8, h⟩ := gd_some h
        refine fw_getR C 10 0 (Nat.le_of_ble_eq_true rfl) (Nat.le_of_ble_eq_true rfl) wf_X10_9 rfl (gO_of g2) (gN_of g8) dX10_necessaryOf_54 ?_
        refine fw_iconst C 5 dX10_necessaryOf_57 rfl ?_
        obtain ⟨g9, h⟩ := gd_some h
        refine fw_iald C (gA_of g9) dX10_necessaryOf_58 ?_
        refine fw_iconst C 1 dX10_necessaryOf_59 rfl ?_
        refine fw_icmp_ne C 67 dX10_necessaryOf_60 (by decide) (fun c10 => ?_) (fun c10 => ?_)
        · replace h := (if_neg c10).symm.trans h
          refine fw_iconst C 0 dX10_necessaryOf_67 rfl ?_
          obtain rfl := Option.some.inj h
          exact fw_iret C hr hlk dX10_necessaryOf_68
        · replace h := (if_pos c10).symm.trans h
          refine fw_iload_n C 0 dX10_necessaryOf_63 rfl rfl ?_
          refine fw_goto C 68 dX10_necessaryOf_64 (by decide) ?_
          obtain rfl := Option.some.inj h
          exact fw_iret C hr hlk dX10_necessaryOf_68
    · replace h := (if_pos c4).symm.trans h
      refine fw_aload_n C 1 dX10_necessaryOf_17 rfl rfl ?_
      refine fw_iload_n C 2 dX10_necessaryOf_18 rfl rfl ?_
      refine fw_iconst C 4 dX10_necessaryOf_19 rfl ?_
      obtain ⟨v11, e11, h⟩ := b1_some h
      refine fw_callV (ci := 10) [_, _] C (c_X10_of hl e11) cal_X10_of wm_X10_65 wi_yX10_of wsl_yX10_of (Nat.le_of_ble_eq_true rfl) rfl (gO_of g2) rfl (Nat.le_of_ble_eq_true rfl) ⟨Nat.le_of_ble_eq_true rfl, Nat.le_of_ble_eq_true rfl⟩ ⟨Nat.zero_le _, Nat.zero_le _⟩ dX10_necessaryOf_20 ?_
      refine fw_aload_n C 1 dX10_necessaryOf_23 rfl rfl ?_
      refine fw_iload_n C 2 dX10_necessaryOf_24 rfl rfl ?_
      refine fw_iconst C 5 dX10_necessaryOf_25 rfl ?_
      obtain ⟨v12, e12, h⟩ := b1_some h
      refine fw_callV (ci := 10) [_, _] C (c_X10_of hl e12) cal_X10_of wm_X10_65 wi_yX10_of wsl_yX10_of (Nat.le_of_ble_eq_true rfl) rfl (gO_of g2) rfl (Nat.le_of_ble_eq_true rfl) ⟨Nat.le_of_ble_eq_true rfl, Nat.le_of_ble_eq_true rfl⟩ ⟨Nat.zero_le _, Nat.zero_le _⟩ dX10_necessaryOf_26 ?_
      refine fw_aload_n C 1 dX10_necessaryOf_29 rfl rfl ?_
      refine fw_iload_n C 2 dX10_necessaryOf_30 rfl rfl ?_
      refine fw_bipush C 10 dX10_necessaryOf_31 rfl ?_
      obtain ⟨v13, e13, h⟩ := b1_some h
      refine fw_callV (ci := 10) [_, _] C (c_X10_of hl e13) cal_X10_of wm_X10_65 wi_yX10_of wsl_yX10_of (Nat.le_of_ble_eq_true rfl) rfl (gO_of g2) rfl (Nat.le_of_ble_eq_true rfl) ⟨Nat.le_of_ble_eq_true rfl, Nat.le_of_ble_eq_true rfl⟩ ⟨Nat.zero_le _, Nat.zero_le _⟩ dX10_necessaryOf_33 ?_
      refine fw_iand C dX10_necessaryOf_36 ?_
      refine fw_ior C dX10_necessaryOf_37 ?_
      obtain rfl := Option.some.inj h
      exact fw_iret C hr hlk dX10_necessaryOf_38
  · replace h := (if_pos c3).symm.trans h
    refine fw_iconst C 0 dX10_necessaryOf_11 rfl ?_
    obtain rfl := Option.some.inj h
    exact fw_iret C hr hlk dX10_necessaryOf_12
set_option maxRecDepth 100000 in
def f_X10_settledOf (S : List fw_Sh) (M : fw_Mem) (a0 : Nat) (x1 : Int32) : Option Int32 := gd (gO S 10 a0) (b1 (f_X10_isReversed S M a0 x1) (fun v1 => if v1 = 0 then (b1 (f_X10_necessaryOf S M a0 x1) (fun v4 => b1 (f_X10_of S M a0 x1 11) (fun v5 => some (v4 &&& (v5 ^^^ (-1)))))) else (some 0)))
set_option maxHeartbeats 4000000 in
set_option maxRecDepth 100000 in
theorem c_X10_settledOf {l : Launch} {G : fw_G} {S : List fw_Sh} {M : fw_Mem} {a0 : Nat} {x1 : Int32} {r : Int32} (hl : l.stackTraces = false) (h : f_X10_settledOf S M a0 x1 = some r) : fw_M l G yX10_settledOf (.code yX10_settledOf cX10_settledOf 2 (some .int)) 6 (fw_mcO (.inl (some (.int r)), S, M)) (fw_msO (.inl (some (.int r)), S, M)) S M [.ref a0, .int x1] (.inl (some (.int r)), S, M) := by
  refine fw_of [(0, .ref a0), (1, .int x1)] (by decide) (Nat.le_of_ble_eq_true rfl) rfl ?_
  intro p e s m args below meth c C hr hlk hnm ht _
  unfold f_X10_settledOf at h
  refine fw_aload_n C 0 dX10_settledOf_0 rfl rfl ?_
  refine fw_iload_n C 1 dX10_settledOf_1 rfl rfl ?_
  obtain ⟨g2, h⟩ := gd_some h
  obtain ⟨v1, e1, h⟩ := b1_some h
  refine fw_callV (ci := 10) [_] C (c_X10_isReversed hl e1) cal_X10_isReversed wm_X10_86 wi_yX10_isReversed wsl_yX10_isReversed (Nat.le_of_ble_eq_true rfl) rfl (gO_of g2) rfl (Nat.le_of_ble_eq_true rfl) ⟨Nat.le_of_ble_eq_true rfl, Nat.le_of_ble_eq_true rfl⟩ ⟨Nat.zero_le _, Nat.zero_le _⟩ dX10_settledOf_2 ?_
  refine fw_if_eq C 12 dX10_settledOf_5 (by decide) (fun c3 => ?_) (fun c3 => ?_)
  · replace h := (if_pos c3).symm.trans h
    refine fw_aload_n C 0 dX10_settledOf_12 rfl rfl ?_
    refine fw_iload_n C 1 dX10_settledOf_13 rfl rfl ?_
    obtain ⟨v4, e4, h⟩ := b1_some h
    refine fw_callV (ci := 10) [_] C (c_X10_necessaryOf hl e4) cal_X10_necessaryOf wm_X10_89 wi_yX10_necessaryOf wsl_yX10_necessaryOf (Nat.le_of_ble_eq_true rfl) rfl (gO_of g2) rfl (Nat.le_of_ble_eq_true rfl) ⟨Nat.le_of_ble_eq_true rfl, Nat.le_of_ble_eq_true rfl⟩ ⟨Nat.zero_le _, Nat.zero_le _⟩ dX10_settledOf_14 ?_
    refine fw_aload_n C 0 dX10_settledOf_17 rfl rfl ?_
    refine fw_iload_n C 1 dX10_settledOf_18 rfl rfl ?_
    refine fw_bipush C 11 dX10_settledOf_19 rfl ?_
    obtain ⟨v5, e5, h⟩ := b1_some h
    refine fw_callV (ci := 10) [_, _] C (c_X10_of hl e5) cal_X10_of wm_X10_65 wi_yX10_of wsl_yX10_of (Nat.le_of_ble_eq_true rfl) rfl (gO_of g2) rfl (Nat.le_of_ble_eq_true rfl) ⟨Nat.le_of_ble_eq_true rfl, Nat.le_of_ble_eq_true rfl⟩ ⟨Nat.zero_le _, Nat.zero_le _⟩ dX10_settledOf_21 ?_
    refine fw_iconst C (-1) dX10_settledOf_24 rfl ?_
    refine fw_ixor C dX10_settledOf_25 ?_
    refine fw_iand C dX10_settledOf_26 ?_
    obtain rfl := Option.some.inj h
    exact fw_iret C hr hlk dX10_settledOf_27
  · replace h := (if_neg c3).symm.trans h
    refine fw_iconst C 0 dX10_settledOf_8 rfl ?_
    refine fw_goto C 27 dX10_settledOf_9 (by decide) ?_
    obtain rfl := Option.some.inj h
    exact fw_iret C hr hlk dX10_settledOf_27
set_option maxRecDepth 100000 in
def f_X10_binds (S : List fw_Sh) (M : fw_Mem) (a0 : Nat) (x1 : Int32) (x2 : Int32) : Option Int32 := gd (gO S 10 a0) (b1 (f_X10_linkOf S M a0 x1 2) (fun v1 => if v1 = 1 then (b1 (f_X10_linkOf S M a0 x1 3) (fun v6 => b1 (f_X10_linkOf S M a0 x1 4) (fun v7 => b1 (f_X10_isIn S M x2 v6 v7) (fun v8 => gd (gB v8) (some v8))))) else (b1 (f_X10_linkOf S M a0 x1 3) (fun v4 => if v4 < x2 then (some 0) else (some 1)))))
set_option maxHeartbeats 4000000 in
set_option maxRecDepth 100000 in
theorem c_X10_binds {l : Launch} {G : fw_G} {S : List fw_Sh} {M : fw_Mem} {a0 : Nat} {x1 : Int32} {x2 : Int32} {r : Int32} (hl : l.stackTraces = false) (h : f_X10_binds S M a0 x1 x2 = some r) : fw_M l G yX10_binds (.code yX10_binds cX10_binds 3 (some .boolean)) 2 (fw_mcO (.inl (some (.int r)), S, M)) (fw_msO (.inl (some (.int r)), S, M)) S M [.ref a0, .int x1, .int x2] (.inl (some (.int r)), S, M) := by
  refine fw_of [(0, .ref a0), (1, .int x1), (2, .int x2)] (by decide) (Nat.le_of_ble_eq_true rfl) rfl ?_
  intro p e s m args below meth c C hr hlk hnm ht _
  unfold f_X10_binds at h
  refine fw_aload_n C 0 dX10_binds_0 rfl rfl ?_
  refine fw_iload_n C 1 dX10_binds_1 rfl rfl ?_
  refine fw_iconst C 2 dX10_binds_2 rfl ?_
  obtain ⟨g2, h⟩ := gd_some h
  obtain ⟨v1, e1, h⟩ := b1_some h
  refine fw_callV (ci := 10) [_, _] C (c_X10_linkOf hl e1) cal_X10_linkOf wm_X10_92 wi_yX10_linkOf wsl_yX10_linkOf (Nat.le_of_ble_eq_true rfl) rfl (gO_of g2) rfl (Nat.le_of_ble_eq_true rfl) ⟨Nat.le_of_ble_eq_true rfl, Nat.le_of_ble_eq_true rfl⟩ ⟨Nat.zero_le _, Nat.zero_le _⟩ dX10_binds_3 ?_
  refine fw_iconst C 1 dX10_binds_6 rfl ?_
  refine fw_icmp_ne C 27 dX10_binds_7 (by decide) (fun c3 => ?_) (fun c3 => ?_)
  · replace h := (if_neg c3).symm.trans h
    refine fw_aload_n C 0 dX10_binds_27 rfl rfl ?_
    refine fw_iload_n C 1 dX10_binds_28 rfl rfl ?_
    refine fw_iconst C 3 dX10_binds_29 rfl ?_
    obtain ⟨v4, e4, h⟩ := b1_some h
    refine fw_callV (ci := 10) [_, _] C (c_X10_linkOf hl e4) cal_X10_linkOf wm_X10_92 wi_yX10_linkOf wsl_yX10_linkOf (Nat.le_of_ble_eq_true rfl) rfl (gO_of g2) rfl (Nat.le_of_ble_eq_true rfl) ⟨Nat.le_of_ble_eq_true rfl, Nat.le_of_ble_eq_true rfl⟩ ⟨Nat.zero_le _, Nat.zero_le _⟩ dX10_binds_30 ?_
    refine fw_iload_n C 2 dX10_binds_33 rfl rfl ?_
    refine fw_icmp_lt C 41 dX10_binds_34 (by decide) (fun c5 => ?_) (fun c5 => ?_)
    · replace h := (if_pos c5).symm.trans h
      refine fw_iconst C 0 dX10_binds_41 rfl ?_
      obtain rfl := Option.some.inj h
      exact fw_zret C hr (Or.inl rfl) hlk dX10_binds_42
    · replace h := (if_neg c5).symm.trans h
      refine fw_iconst C 1 dX10_binds_37 rfl ?_
      refine fw_goto C 42 dX10_binds_38 (by decide) ?_
      obtain rfl := Option.some.inj h
      exact fw_zret C hr (Or.inr rfl) hlk dX10_binds_42
  · replace h := (if_pos c3).symm.trans h
    refine fw_iload_n C 2 dX10_binds_10 rfl rfl ?_
    refine fw_aload_n C 0 dX10_binds_11 rfl rfl ?_
    refine fw_iload_n C 1 dX10_binds_12 rfl rfl ?_
    refine fw_iconst C 3 dX10_binds_13 rfl ?_
    obtain ⟨v6, e6, h⟩ := b1_some h
    refine fw_callV (ci := 10) [_, _] C (c_X10_linkOf hl e6) cal_X10_linkOf wm_X10_92 wi_yX10_linkOf wsl_yX10_linkOf (Nat.le_of_ble_eq_true rfl) rfl (gO_of g2) rfl (Nat.le_of_ble_eq_true rfl) ⟨Nat.le_of_ble_eq_true rfl, Nat.le_of_ble_eq_true rfl⟩ ⟨Nat.zero_le _, Nat.zero_le _⟩ dX10_binds_14 ?_
    refine fw_aload_n C 0 dX10_binds_17 rfl rfl ?_
    refine fw_iload_n C 1 dX10_binds_18 rfl rfl ?_
    refine fw_iconst C 4 dX10_binds_19 rfl ?_
    obtain ⟨v7, e7, h⟩ := b1_some h
    refine fw_callV (ci := 10) [_, _] C (c_X10_linkOf hl e7) cal_X10_linkOf wm_X10_92 wi_yX10_linkOf wsl_yX10_linkOf (Nat.le_of_ble_eq_true rfl) rfl (gO_of g2) rfl (Nat.le_of_ble_eq_true rfl) ⟨Nat.le_of_ble_eq_true rfl, Nat.le_of_ble_eq_true rfl⟩ ⟨Nat.zero_le _, Nat.zero_le _⟩ dX10_binds_20 ?_
    obtain ⟨v8, e8, h⟩ := b1_some h
    refine fw_callS [_, _, _] C (c_X10_isIn hl e8) cal_X10_isIn wm_X10_58 wt_yX10_isIn rfl (Nat.le_of_ble_eq_true rfl) ⟨Nat.le_of_ble_eq_true rfl, Nat.le_of_ble_eq_true rfl⟩ ⟨Nat.zero_le _, Nat.zero_le _⟩ dX10_binds_23 ?_
    obtain ⟨g9, h⟩ := gd_some h
    obtain rfl := Option.some.inj h
    exact fw_zret C hr (gB_of g9) hlk dX10_binds_26
set_option maxRecDepth 100000 in
def lf_X10_boundBy_26 (S : List fw_Sh) (M : fw_Mem) (a0 : Nat) (x1 : Int32) (x4 : Int32) : Nat → Int32 → Int32 → Option (Int32)
  | 0, _, _ => none
  | n + 1, x3, x5 => gd (gO S 10 a0) (b1 (f_X10_links S M a0) (fun v5 => if v5 ≤ x5 then (some x3) else (b1 (f_X10_linkOf S M a0 x5 0) (fun v8 => b1 (f_X10_has S M x3 v8) (fun v9 => if v9 = 0 then (lf_X10_boundBy_26 S M a0 x1 x4 n x3 (x5 + 1)) else (b1 (f_X10_of S M a0 x1 6) (fun v11 => b1 (f_X10_binds S M a0 x5 v11) (fun v12 => if v12 = 0 then (lf_X10_boundBy_26 S M a0 x1 x4 n x3 (x5 + 1)) else (b1 (f_X10_linkOf S M a0 x5 1) (fun v14 => bm (x3 ||| ((1 : Int32) <<< (v14 &&& 31))) (fun y15 => lf_X10_boundBy_26 S M a0 x1 x4 n y15 (x5 + 1))))))))))))
set_option maxHeartbeats 4000000 in
set_option maxRecDepth 100000 in
theorem lc_X10_boundBy_26 {G : fw_G} {p : Program} {l : Launch} {e : Env} {s : State} {m : MethodId} {args : Array Value} {below : List Frame} {meth : Method} {c : Code} {S : List fw_Sh} {o : fw_O} {M : fw_Mem} {a0 : Nat} {x1 : Int32} {x4 : Int32} (C : fw_C G RX10 cX10_boundBy 6 p s m args c) (hr : meth.sig.returnType = (some .int)) (hlk : meth.locks = false) (hl : l.stackTraces = false) (ht : ∀ x ∈ c.exceptionTable.toList, False) :
    ∀ {n : Nat} {x3 : Int32} {x5 : Int32} {r : (Int32)} (h : lf_X10_boundBy_26 S M a0 x1 x4 n x3 x5 = some r) (kx : fw_W G p l e (fw_rm 3 (fw_mcO o) (fw_msO o)) s m args below meth c 6 (fw_Z G below args s (fw_mcO o) (fw_msO o) o) 0 0 83 [(0, .ref a0), (1, .int x1), (3, .int r), (4, .int x4)] [] S M), fw_W G p l e (fw_rm 3 (fw_mcO o) (fw_msO o)) s m args below meth c 6 (fw_Z G below args s (fw_mcO o) (fw_msO o) o) 0 0 26 [(0, .ref a0), (1, .int x1), (3, .int x3), (4, .int x4), (5, .int x5)] [] S M := by
  intro n
  induction n with
  | zero =>
    intro x3 x5 r h
    exact nomatch (show (none : Option (Int32)) = some r from h)
  | succ n ih =>
    intro x3 x5 r h kx
    rw [lf_X10_boundBy_26.eq_2] at h
    refine fw_iload C 4 dX10_boundBy_26 rfl ?_
    refine fw_aload_n C 0 dX10_boundBy_28 rfl rfl ?_
    obtain ⟨g6, h⟩ := gd_some h
    obtain ⟨v5, e5, h⟩ := b1_some h
    refine fw_callV (ci := 10) [] C (c_X10_links hl e5) cal_X10_links wm_X10_95 wi_yX10_links wsl_yX10_links (Nat.le_of_ble_eq_true rfl) rfl (gO_of g6) rfl (Nat.le_of_ble_eq_true rfl) ⟨Nat.le_of_ble_eq_true rfl, Nat.le_of_ble_eq_true rfl⟩ ⟨Nat.zero_le _, Nat.zero_le _⟩ dX10_boundBy_29 ?_
    refine fw_icmp_ge C 83 dX10_boundBy_32 (by decide) (fun c7 => ?_) (fun c7 => ?_)
    · replace h := (if_pos c7).symm.trans h
      obtain rfl := Option.some.inj h
      refine fw_sub [0, 1, 2, 3] rfl ?_
      exact kx
    · replace h := (if_neg c7).symm.trans h
      refine fw_iload_n C 2 dX10_boundBy_35 rfl rfl ?_
      refine fw_aload_n C 0 dX10_boundBy_36 rfl rfl ?_
      refine fw_iload C 4 dX10_boundBy_37 rfl ?_
      refine fw_iconst C 0 dX10_boundBy_39 rfl ?_
      obtain ⟨v8, e8, h⟩ := b1_some h
      refine fw_callV (ci := 10) [_, _] C (c_X10_linkOf hl e8) cal_X10_linkOf wm_X10_92 wi_yX10_linkOf wsl_yX10_linkOf (Nat.le_of_ble_eq_true rfl) rfl (gO_of g6) rfl (Nat.le_of_ble_eq_true rfl) ⟨Nat.le_of_ble_eq_true rfl, Nat.le_of_ble_eq_true rfl⟩ ⟨Nat.zero_le _, Nat.zero_le _⟩ dX10_boundBy_40 ?_
      obtain ⟨v9, e9, h⟩ := b1_some h
      refine fw_callS [_, _] C (c_X10_has hl e9) cal_X10_has wm_X10_98 wt_yX10_has rfl (Nat.le_of_ble_eq_true rfl) ⟨Nat.le_of_ble_eq_true rfl, Nat.le_of_ble_eq_true rfl⟩ ⟨Nat.zero_le _, Nat.zero_le _⟩ dX10_boundBy_43 ?_
      refine fw_if_eq C 77 dX10_boundBy_46 (by decide) (fun c10 => ?_) (fun c10 => ?_)
      · replace h := (if_pos c10).symm.trans h
        refine fw_iinc C _ 4 [(5, _), (0, _), (1, _), (3, _), (4, _)] dX10_boundBy_77 rfl rfl (Nat.le_of_ble_eq_true rfl) rfl ?_
        refine fw_goto C 26 dX10_boundBy_80 (by decide) ?_
        refine fw_sub [1, 2, 3, 4, 0] rfl ?_
        exact ih h kx
      · replace h := (if_neg c10).symm.trans h
        refine fw_aload_n C 0 dX10_boundBy_49 rfl rfl ?_
        refine fw_iload C 4 dX10_boundBy_50 rfl ?_
        refine fw_aload_n C 0 dX10_boundBy_52 rfl rfl ?_
        refine fw_iload_n C 1 dX10_boundBy_53 rfl rfl ?_
        refine fw_bipush C 6 dX10_boundBy_54 rfl ?_
        obtain ⟨v11, e11, h⟩ := b1_some h
        refine fw_callV (ci := 10) [_, _] C (c_X10_of hl e11) cal_X10_of wm_X10_65 wi_yX10_of wsl_yX10_of (Nat.le_of_ble_eq_true rfl) rfl (gO_of g6) rfl (Nat.le_of_ble_eq_true rfl) ⟨Nat.le_of_ble_eq_true rfl, Nat.le_of_ble_eq_true rfl⟩ ⟨Nat.zero_le _, Nat.zero_le _⟩ dX10_boundBy_56 ?_
        obtain ⟨v12, e12, h⟩ := b1_some h
        refine fw_callV (ci := 10) [_, _] C (c_X10_binds hl e12) cal_X10_binds wm_X10_102 wi_yX10_binds wsl_yX10_binds (Nat.le_of_ble_eq_true rfl) rfl (gO_of g6) rfl (Nat.le_of_ble_eq_true rfl) ⟨Nat.le_of_ble_eq_true rfl, Nat.le_of_ble_eq_true rfl⟩ ⟨Nat.zero_le _, Nat.zero_le _⟩ dX10_boundBy_59 ?_
        refine fw_if_eq C 77 dX10_boundBy_62 (by decide) (fun c13 => ?_) (fun c13 => ?_)
        · replace h := (if_pos c13).symm.trans h
          refine fw_iinc C _ 4 [(5, _), (0, _), (1, _), (3, _), (4, _)] dX10_boundBy_77 rfl rfl (Nat.le_of_ble_eq_true rfl) rfl ?_
          refine fw_goto C 26 dX10_boundBy_80 (by decide) ?_
          refine fw_sub [1, 2, 3, 4, 0] rfl ?_
          exact ih h kx
        · replace h := (if_neg c13).symm.trans h
          refine fw_iload_n C 2 dX10_boundBy_65 rfl rfl ?_
          refine fw_iconst C 1 dX10_boundBy_66 rfl ?_
          refine fw_aload_n C 0 dX10_boundBy_67 rfl rfl ?_
          refine fw_iload C 4 dX10_boundBy_68 rfl ?_
          refine fw_iconst C 1 dX10_boundBy_70 rfl ?_
          obtain ⟨v14, e14, h⟩ := b1_some h
          refine fw_callV (ci := 10) [_, _] C (c_X10_linkOf hl e14) cal_X10_linkOf wm_X10_92 wi_yX10_linkOf wsl_yX10_linkOf (Nat.le_of_ble_eq_true rfl) rfl (gO_of g6) rfl (Nat.le_of_ble_eq_true rfl) ⟨Nat.le_of_ble_eq_true rfl, Nat.le_of_ble_eq_true rfl⟩ ⟨Nat.zero_le _, Nat.zero_le _⟩ dX10_boundBy_71 ?_
          refine fw_ishl C dX10_boundBy_74 ?_
          refine fw_ior C dX10_boundBy_75 ?_
          refine fw_bi h (fun y15 h => ?_)
          refine fw_istore_n C [(3, _), (0, _), (1, _), (4, _), (5, _)] dX10_boundBy_76 rfl (Nat.le_of_ble_eq_true rfl) rfl ?_
          refine fw_iinc C _ 4 [(5, _), (3, _), (0, _), (1, _), (4, _)] dX10_boundBy_77 rfl rfl (Nat.le_of_ble_eq_true rfl) rfl ?_
          refine fw_goto C 26 dX10_boundBy_80 (by decide) ?_
          refine fw_sub [2, 3, 1, 4, 0] rfl ?_
          exact ih h kx
set_option maxRecDepth 100000 in
def lf_X10_boundBy_14 (S : List fw_Sh) (M : fw_Mem) (a0 : Nat) (x1 : Int32) : Nat → Int32 → Int32 → Option (Int32)
  | 0, _, _ => none
  | n + 1, x3, x4 => if x4 = x3 then (some x3) else (b1 (lf_X10_boundBy_26 S M a0 x1 x3 20000 x3 0) (fun l16 => lf_X10_boundBy_14 S M a0 x1 n l16 x3))
set_option maxHeartbeats 4000000 in
set_option maxRecDepth 100000 in
theorem lc_X10_boundBy_14 {G : fw_G} {p : Program} {l : Launch} {e : Env} {s : State} {m : MethodId} {args : Array Value} {below : List Frame} {meth : Method} {c : Code} {S : List fw_Sh} {o : fw_O} {M : fw_Mem} {a0 : Nat} {x1 : Int32} (C : fw_C G RX10 cX10_boundBy 6 p s m args c) (hr : meth.sig.returnType = (some .int)) (hlk : meth.locks = false) (hl : l.stackTraces = false) (ht : ∀ x ∈ c.exceptionTable.toList, False) :
    ∀ {n : Nat} {x3 : Int32} {x4 : Int32} {r : (Int32)} (h : lf_X10_boundBy_14 S M a0 x1 n x3 x4 = some r) (kx : fw_W G p l e (fw_rm 3 (fw_mcO o) (fw_msO o)) s m args below meth c 6 (fw_Z G below args s (fw_mcO o) (fw_msO o) o) 0 0 86 [(3, .int r)] [] S M), fw_W G p l e (fw_rm 3 (fw_mcO o) (fw_msO o)) s m args below meth c 6 (fw_Z G below args s (fw_mcO o) (fw_msO o) o) 0 0 14 [(0, .ref a0), (1, .int x1), (3, .int x3), (4, .int x4)] [] S M := by
  intro n
  induction n with
  | zero =>
    intro x3 x4 r h
    exact nomatch (show (none : Option (Int32)) = some r from h)
  | succ n ih =>
    intro x3 x4 r h kx
    rw [lf_X10_boundBy_14.eq_2] at h
    refine fw_iload C 3 dX10_boundBy_14 rfl ?_
    refine fw_iload_n C 2 dX10_boundBy_16 rfl rfl ?_
    refine fw_icmp_eq C 86 dX10_boundBy_17 (by decide) (fun c4 => ?_) (fun c4 => ?_)
    · replace h := (if_pos c4).symm.trans h
      obtain rfl := Option.some.inj h
      refine fw_sub [2] rfl ?_
      exact kx
    · replace h := (if_neg c4).symm.trans h
      refine fw_iload_n C 2 dX10_boundBy_20 rfl rfl ?_
      refine fw_istore C [(4, _), (0, _), (1, _), (3, _)] dX10_boundBy_21 (Nat.le_of_ble_eq_true rfl) rfl ?_
      refine fw_iconst C 0 dX10_boundBy_23 rfl ?_
      refine fw_istore C [(5, _), (4, _), (0, _), (1, _), (3, _)] dX10_boundBy_24 (Nat.le_of_ble_eq_true rfl) rfl ?_
      refine fw_sub [2, 3, 4, 1, 0] rfl ?_
      obtain ⟨l16, e16, h⟩ := b1_some h
      refine lc_X10_boundBy_26 C hr hlk hl ht e16 ?_
      refine fw_goto C 14 dX10_boundBy_83 (by decide) ?_
      exact ih h kx
set_option maxRecDepth 100000 in
def f_X10_boundBy (S : List fw_Sh) (M : fw_Mem) (a0 : Nat) (x1 : Int32) (x2 : Int32) : Option Int32 := gd (gO S 10 a0) (b1 (f_X10_of S M a0 x1 ((0 : Int32) + x2)) (fun v1 => bm ((1 : Int32) <<< (v1 &&& 31)) (fun y3 => b1 (lf_X10_boundBy_14 S M a0 x1 20000 y3 0) (fun l17 => some l17))))
set_option maxHeartbeats 4000000 in
set_option maxRecDepth 100000 in
theorem c_X10_boundBy {l : Launch} {G : fw_G} {S : List fw_Sh} {M : fw_Mem} {a0 : Nat} {x1 : Int32} {x2 : Int32} {r : Int32} (hl : l.stackTraces = false) (h : f_X10_boundBy S M a0 x1 x2 = some r) : fw_M l G yX10_boundBy (.code yX10_boundBy cX10_boundBy 6 (some .int)) 3 (fw_mcO (.inl (some (.int r)), S, M)) (fw_msO (.inl (some (.int r)), S, M)) S M [.ref a0, .int x1, .int x2] (.inl (some (.int r)), S, M) := by
  refine fw_of [(0, .ref a0), (1, .int x1), (2, .int x2)] (by decide) (Nat.le_of_ble_eq_true rfl) rfl ?_
  intro p e s m args below meth c C hr hlk hnm ht _
  unfold f_X10_boundBy at h
  refine fw_iconst C 1 dX10_boundBy_0 rfl ?_
  refine fw_aload_n C 0 dX10_boundBy_1 rfl rfl ?_
  refine fw_iload_n C 1 dX10_boundBy_2 rfl rfl ?_
  refine fw_iconst C 0 dX10_boundBy_3 rfl ?_
  refine fw_iload_n C 2 dX10_boundBy_4 rfl rfl ?_
  refine fw_iadd C dX10_boundBy_5 ?_
  obtain ⟨g2, h⟩ := gd_some h
  obtain ⟨v1, e1, h⟩ := b1_some h
  refine fw_callV (ci := 10) [_, _] C (c_X10_of hl e1) cal_X10_of wm_X10_65 wi_yX10_of wsl_yX10_of (Nat.le_of_ble_eq_true rfl) rfl (gO_of g2) rfl (Nat.le_of_ble_eq_true rfl) ⟨Nat.le_of_ble_eq_true rfl, Nat.le_of_ble_eq_true rfl⟩ ⟨Nat.zero_le _, Nat.zero_le _⟩ dX10_boundBy_6 ?_
  refine fw_ishl C dX10_boundBy_9 ?_
  refine fw_bi h (fun y3 h => ?_)
  refine fw_istore_n C [(3, _), (0, _), (1, _), (2, _)] dX10_boundBy_10 rfl (Nat.le_of_ble_eq_true rfl) rfl ?_
  refine fw_iconst C 0 dX10_boundBy_11 rfl ?_
  refine fw_istore C [(4, _), (3, _), (0, _), (1, _), (2, _)] dX10_boundBy_12 (Nat.le_of_ble_eq_true rfl) rfl ?_
  refine fw_sub [2, 3, 1, 0] rfl ?_
  obtain ⟨l17, e17, h⟩ := b1_some h
  refine lc_X10_boundBy_14 C hr hlk hl ht e17 ?_
  refine fw_iload_n C 0 dX10_boundBy_86 rfl rfl ?_
  obtain rfl := Option.some.inj h
  exact fw_iret C hr hlk dX10_boundBy_87
set_option maxRecDepth 100000 in
def lf_X10_layBound_12 (S : List fw_Sh) (a0 : Nat) (x1 : Int32) : Nat → Int32 → fw_Mem → Option (fw_Mem)
  | 0, _, _ => none
  | n + 1, x2, M => if (2 : Int32) ≤ x2 then (some M) else (gd (gO S 10 a0) (gd (gN (M a0 7)) (b1 (f_X10_isJudged S M a0 x1) (fun v7 => if v7 = 0 then (gd (gA S 0 ((M a0 7).toNatClampNeg) (((2 : Int32) * x1) + x2)) (bm (fw_set M ((M a0 7).toNatClampNeg) (((2 : Int32) * x1) + x2).toNatClampNeg 0) (fun M10 => lf_X10_layBound_12 S a0 x1 n (x2 + 1) M10))) else (b1 (f_X10_boundBy S M a0 x1 x2) (fun v11 => gd (gA S 0 ((M a0 7).toNatClampNeg) (((2 : Int32) * x1) + x2)) (bm (fw_set M ((M a0 7).toNatClampNeg) (((2 : Int32) * x1) + x2).toNatClampNeg v11) (fun M13 => lf_X10_layBound_12 S a0 x1 n (x2 + 1) M13))))))))
set_option maxHeartbeats 4000000 in
set_option maxRecDepth 100000 in
theorem lc_X10_layBound_12 {G : fw_G} {p : Program} {l : Launch} {e : Env} {s : State} {m : MethodId} {args : Array Value} {below : List Frame} {meth : Method} {c : Code} {S : List fw_Sh} {o : fw_O} {a0 : Nat} {x1 : Int32} (C : fw_C G RX10 cX10_layBound 3 p s m args c) (hr : meth.sig.returnType = none) (hlk : meth.locks = false) (hl : l.stackTraces = false) (ht : ∀ x ∈ c.exceptionTable.toList, False) :
    ∀ {n : Nat} {x2 : Int32} {M : fw_Mem} {r : (fw_Mem)} (h : lf_X10_layBound_12 S a0 x1 n x2 M = some r) (kx : fw_W G p l e (fw_rm 4 (fw_mcO o) (fw_msO o)) s m args below meth c 3 (fw_Z G below args s (fw_mcO o) (fw_msO o) o) 0 0 51 [(0, .ref a0), (1, .int x1)] [] S r), fw_W G p l e (fw_rm 4 (fw_mcO o) (fw_msO o)) s m args below meth c 3 (fw_Z G below args s (fw_mcO o) (fw_msO o) o) 0 0 12 [(0, .ref a0), (1, .int x1), (2, .int x2)] [] S M := by
  intro n
  induction n with
  | zero =>
    intro x2 M r h
    exact nomatch (show (none : Option (fw_Mem)) = some r from h)
  | succ n ih =>
    intro x2 M r h kx
    rw [lf_X10_layBound_12.eq_2] at h
    refine fw_iload_n C 2 dX10_layBound_12 rfl rfl ?_
    refine fw_iconst C 2 dX10_layBound_13 rfl ?_
    refine fw_icmp_ge C 51 dX10_layBound_14 (by decide) (fun c4 => ?_) (fun c4 => ?_)
    · replace h := (if_pos c4).symm.trans h
      obtain rfl := Option.some.inj h
      refine fw_sub [0, 1] rfl ?_
      exact kx
    · replace h := (if_neg c4).symm.trans h
      refine fw_aload_n C 0 dX10_layBound_17 rfl rfl ?_
      obtain ⟨g5, h⟩ := gd_some h
      obtain ⟨g6, h⟩ := gd_some h
      refine fw_getR C 10 7 (Nat.le_of_ble_eq_true rfl) (Nat.le_of_ble_eq_true rfl) wf_X10_22 rfl (gO_of g5) (gN_of g6) dX10_layBound_18 ?_
      refine fw_iconst C 2 dX10_layBound_21 rfl ?_
      refine fw_iload_n C 1 dX10_layBound_22 rfl rfl ?_
      refine fw_imul C dX10_layBound_23 ?_
      refine fw_iload_n C 2 dX10_layBound_24 rfl rfl ?_
      refine fw_iadd C dX10_layBound_25 ?_
      refine fw_aload_n C 0 dX10_layBound_26 rfl rfl ?_
      refine fw_iload_n C 1 dX10_layBound_27 rfl rfl ?_
      obtain ⟨v7, e7, h⟩ := b1_some h
      refine fw_callV (ci := 10) [_] C (c_X10_isJudged hl e7) cal_X10_isJudged wm_X10_69 wi_yX10_isJudged wsl_yX10_isJudged (Nat.le_of_ble_eq_true rfl) rfl (gO_of g5) rfl (Nat.le_of_ble_eq_true rfl) ⟨Nat.le_of_ble_eq_true rfl, Nat.le_of_ble_eq_true rfl⟩ ⟨Nat.zero_le _, Nat.zero_le _⟩ dX10_layBound_28 ?_
      refine fw_if_eq C 43 dX10_layBound_31 (by decide) (fun c8 => ?_) (fun c8 => ?_)
      · replace h := (if_pos c8).symm.trans h
        refine fw_iconst C 0 dX10_layBound_43 rfl ?_
        obtain ⟨g9, h⟩ := gd_some h
        refine fw_iast C (gA_of g9) dX10_layBound_44 ?_
        refine fw_bm h (fun M10 h => ?_)
        refine fw_iinc C _ 2 [(2, _), (0, _), (1, _)] dX10_layBound_45 rfl rfl (Nat.le_of_ble_eq_true rfl) rfl ?_
        refine fw_goto C 12 dX10_layBound_48 (by decide) ?_
        refine fw_sub [1, 2, 0] rfl ?_
        exact ih h kx
      · replace h := (if_neg c8).symm.trans h
        refine fw_aload_n C 0 dX10_layBound_34 rfl rfl ?_
        refine fw_iload_n C 1 dX10_layBound_35 rfl rfl ?_
        refine fw_iload_n C 2 dX10_layBound_36 rfl rfl ?_
        obtain ⟨v11, e11, h⟩ := b1_some h
        refine fw_callV (ci := 10) [_, _] C (c_X10_boundBy hl e11) cal_X10_boundBy wm_X10_105 wi_yX10_boundBy wsl_yX10_boundBy (Nat.le_of_ble_eq_true rfl) rfl (gO_of g5) rfl (Nat.le_of_ble_eq_true rfl) ⟨Nat.le_of_ble_eq_true rfl, Nat.le_of_ble_eq_true rfl⟩ ⟨Nat.zero_le _, Nat.zero_le _⟩ dX10_layBound_37 ?_
        refine fw_goto C 44 dX10_layBound_40 (by decide) ?_
        obtain ⟨g12, h⟩ := gd_some h
        refine fw_iast C (gA_of g12) dX10_layBound_44 ?_
        refine fw_bm h (fun M13 h => ?_)
        refine fw_iinc C _ 2 [(2, _), (0, _), (1, _)] dX10_layBound_45 rfl rfl (Nat.le_of_ble_eq_true rfl) rfl ?_
        refine fw_goto C 12 dX10_layBound_48 (by decide) ?_
        refine fw_sub [1, 2, 0] rfl ?_
        exact ih h kx
set_option maxRecDepth 100000 in
def lf_X10_layBound_2 (S : List fw_Sh) (a0 : Nat) : Nat → Int32 → fw_Mem → Option (fw_Mem)
  | 0, _, _ => none
  | n + 1, x1, M => gd (gO S 10 a0) (b1 (f_X10_suits S M a0) (fun v1 => if v1 ≤ x1 then (some M) else (b1 (lf_X10_layBound_12 S a0 x1 20000 0 M) (fun l14 => lf_X10_layBound_2 S a0 n (x1 + 1) l14))))
set_option maxHeartbeats 4000000 in
set_option maxRecDepth 100000 in
theorem lc_X10_layBound_2 {G : fw_G} {p : Program} {l : Launch} {e : Env} {s : State} {m : MethodId} {args : Array Value} {below : List Frame} {meth : Method} {c : Code} {S : List fw_Sh} {o : fw_O} {a0 : Nat} (C : fw_C G RX10 cX10_layBound 3 p s m args c) (hr : meth.sig.returnType = none) (hlk : meth.locks = false) (hl : l.stackTraces = false) (ht : ∀ x ∈ c.exceptionTable.toList, False) :
    ∀ {n : Nat} {x1 : Int32} {M : fw_Mem} {r : (fw_Mem)} (h : lf_X10_layBound_2 S a0 n x1 M = some r) (kx : fw_W G p l e (fw_rm 4 (fw_mcO o) (fw_msO o)) s m args below meth c 3 (fw_Z G below args s (fw_mcO o) (fw_msO o) o) 0 0 57 [] [] S r), fw_W G p l e (fw_rm 4 (fw_mcO o) (fw_msO o)) s m args below meth c 3 (fw_Z G below args s (fw_mcO o) (fw_msO o) o) 0 0 2 [(0, .ref a0), (1, .int x1)] [] S M := by
  intro n
  induction n with
  | zero =>
    intro x1 M r h
    exact nomatch (show (none : Option (fw_Mem)) = some r from h)
  | succ n ih =>
    intro x1 M r h kx
    rw [lf_X10_layBound_2.eq_2] at h
    refine fw_iload_n C 1 dX10_layBound_2 rfl rfl ?_
    refine fw_aload_n C 0 dX10_layBound_3 rfl rfl ?_
    obtain ⟨g2, h⟩ := gd_some h
    obtain ⟨v1, e1, h⟩ := b1_some h
    refine fw_callV (ci := 10) [] C (c_X10_suits hl e1) cal_X10_suits wm_X10_62 wi_yX10_suits wsl_yX10_suits (Nat.le_of_ble_eq_true rfl) rfl (gO_of g2) rfl (Nat.le_of_ble_eq_true rfl) ⟨Nat.le_of_ble_eq_true rfl, Nat.le_of_ble_eq_true rfl⟩ ⟨Nat.zero_le _, Nat.zero_le _⟩ dX10_layBound_4 ?_
    refine fw_icmp_ge C 57 dX10_layBound_7 (by decide) (fun c3 => ?_) (fun c3 => ?_)
    · replace h := (if_pos c3).symm.trans h
      obtain rfl := Option.some.inj h
      refine fw_sub [] rfl ?_
      exact kx
    · replace h := (if_neg c3).symm.trans h
      refine fw_iconst C 0 dX10_layBound_10 rfl ?_
      refine fw_istore_n C [(2, _), (0, _), (1, _)] dX10_layBound_11 rfl (Nat.le_of_ble_eq_true rfl) rfl ?_
      refine fw_sub [1, 2, 0] rfl ?_
      obtain ⟨l14, e14, h⟩ := b1_some h
      refine lc_X10_layBound_12 C hr hlk hl ht e14 ?_
      refine fw_iinc C _ 1 [(1, _), (0, _)] dX10_layBound_51 rfl rfl (Nat.le_of_ble_eq_true rfl) rfl ?_
      refine fw_goto C 2 dX10_layBound_54 (by decide) ?_
      refine fw_sub [1, 0] rfl ?_
      exact ih h kx
set_option maxRecDepth 100000 in
def f_X10_layBound (S : List fw_Sh) (M : fw_Mem) (a0 : Nat) : Option fw_Mem := b1 (lf_X10_layBound_2 S a0 20000 0 M) (fun l15 => some l15)
set_option maxHeartbeats 4000000 in
set_option maxRecDepth 100000 in
theorem c_X10_layBound {l : Launch} {G : fw_G} {S : List fw_Sh} {M : fw_Mem} {a0 : Nat} {r : fw_Mem} (hl : l.stackTraces = false) (h : f_X10_layBound S M a0 = some r) : fw_M l G yX10_layBound (.code yX10_layBound cX10_layBound 3 none) 4 (fw_mcO (.inl none, S, r)) (fw_msO (.inl none, S, r)) S M [.ref a0] (.inl none, S, r) := by
  refine fw_of [(0, .ref a0)] (by decide) (Nat.le_of_ble_eq_true rfl) rfl ?_
  intro p e s m args below meth c C hr hlk hnm ht _
  unfold f_X10_layBound at h
  refine fw_iconst C 0 dX10_layBound_0 rfl ?_
  refine fw_istore_n C [(1, _), (0, _)] dX10_layBound_1 rfl (Nat.le_of_ble_eq_true rfl) rfl ?_
  refine fw_sub [1, 0] rfl ?_
  obtain ⟨l15, e15, h⟩ := b1_some h
  refine lc_X10_layBound_2 C hr hlk hl ht e15 ?_
  obtain rfl := Option.some.inj h
  exact fw_vret C hr hlk dX10_layBound_57
set_option maxRecDepth 100000 in
def f_X10_isBoundBy (S : List fw_Sh) (M : fw_Mem) (a0 : Nat) (x1 : Int32) (x2 : Int32) (x3 : Int32) : Option Int32 := gd (gO S 10 a0) (gd (gN (M a0 7)) (gd (gA S 0 ((M a0 7).toNatClampNeg) (((2 : Int32) * x1) + x2)) (b1 (f_X10_has S M (M ((M a0 7).toNatClampNeg) (((2 : Int32) * x1) + x2).toNatClampNeg) x3) (fun v4 => gd (gB v4) (some v4)))))
set_option maxHeartbeats 4000000 in
set_option maxRecDepth 100000 in
theorem c_X10_isBoundBy {l : Launch} {G : fw_G} {S : List fw_Sh} {M : fw_Mem} {a0 : Nat} {x1 : Int32} {x2 : Int32} {x3 : Int32} {r : Int32} (hl : l.stackTraces = false) (h : f_X10_isBoundBy S M a0 x1 x2 x3 = some r) : fw_M l G yX10_isBoundBy (.code yX10_isBoundBy cX10_isBoundBy 4 (some .boolean)) 2 (fw_mcO (.inl (some (.int r)), S, M)) (fw_msO (.inl (some (.int r)), S, M)) S M [.ref a0, .int x1, .int x2, .int x3] (.inl (some (.int r)), S, M) := by
  refine fw_of [(0, .ref a0), (1, .int x1), (2, .int x2), (3, .int x3)] (by decide) (Nat.le_of_ble_eq_true rfl) rfl ?_
  intro p e s m args below meth c C hr hlk hnm ht _
  unfold f_X10_isBoundBy at h
  refine fw_aload_n C 0 dX10_isBoundBy_0 rfl rfl ?_
  obtain ⟨g1, h⟩ := gd_some h
  obtain ⟨g2, h⟩ := gd_some h
  refine fw_getR C 10 7 (Nat.le_of_ble_eq_true rfl) (Nat.le_of_ble_eq_true rfl) wf_X10_22 rfl (gO_of g1) (gN_of g2) dX10_isBoundBy_1 ?_
  refine fw_iconst C 2 dX10_isBoundBy_4 rfl ?_
  refine fw_iload_n C 1 dX10_isBoundBy_5 rfl rfl ?_
  refine fw_imul C dX10_isBoundBy_6 ?_
  refine fw_iload_n C 2 dX10_isBoundBy_7 rfl rfl ?_
  refine fw_iadd C dX10_isBoundBy_8 ?_
  obtain ⟨g3, h⟩ := gd_some h
  refine fw_iald C (gA_of g3) dX10_isBoundBy_9 ?_
  refine fw_iload_n C 3 dX10_isBoundBy_10 rfl rfl ?_
  obtain ⟨v4, e4, h⟩ := b1_some h
  refine fw_callS [_, _] C (c_X10_has hl e4) cal_X10_has wm_X10_98 wt_yX10_has rfl (Nat.le_of_ble_eq_true rfl) ⟨Nat.le_of_ble_eq_true rfl, Nat.le_of_ble_eq_true rfl⟩ ⟨Nat.zero_le _, Nat.zero_le _⟩ dX10_isBoundBy_11 ?_
  obtain ⟨g5, h⟩ := gd_some h
  obtain rfl := Option.some.inj h
  exact fw_zret C hr (gB_of g5) hlk dX10_isBoundBy_14
set_option maxRecDepth 100000 in
def f_X10_isBoundAtAll (S : List fw_Sh) (M : fw_Mem) (a0 : Nat) (x1 : Int32) (x2 : Int32) : Option Int32 := gd (gO S 10 a0) (b1 (f_X10_isBoundBy S M a0 x1 0 x2) (fun v1 => if v1 = 0 then (b1 (f_X10_isBoundBy S M a0 x1 1 x2) (fun v4 => if v4 = 0 then (some 0) else (some 1))) else (some 1)))
set_option maxHeartbeats 4000000 in
set_option maxRecDepth 100000 in
theorem c_X10_isBoundAtAll {l : Launch} {G : fw_G} {S : List fw_Sh} {M : fw_Mem} {a0 : Nat} {x1 : Int32} {x2 : Int32} {r : Int32} (hl : l.stackTraces = false) (h : f_X10_isBoundAtAll S M a0 x1 x2 = some r) : fw_M l G yX10_isBoundAtAll (.code yX10_isBoundAtAll cX10_isBoundAtAll 3 (some .boolean)) 3 (fw_mcO (.inl (some (.int r)), S, M)) (fw_msO (.inl (some (.int r)), S, M)) S M [.ref a0, .int x1, .int x2] (.inl (some (.int r)), S, M) := by
  refine fw_of [(0, .ref a0), (1, .int x1), (2, .int x2)] (by decide) (Nat.le_of_ble_eq_true rfl) rfl ?_
  intro p e s m args below meth c C hr hlk hnm ht _
  unfold f_X10_isBoundAtAll at h
  refine fw_aload_n C 0 dX10_isBoundAtAll_0 rfl rfl ?_
  refine fw_iload_n C 1 dX10_isBoundAtAll_1 rfl rfl ?_
  refine fw_iconst C 0 dX10_isBoundAtAll_2 rfl ?_
  refine fw_iload_n C 2 dX10_isBoundAtAll_3 rfl rfl ?_
  obtain ⟨g2, h⟩ := gd_some h
  obtain ⟨v1, e1, h⟩ := b1_some h
  refine fw_callV (ci := 10) [_, _, _] C (c_X10_isBoundBy hl e1) cal_X10_isBoundBy wm_X10_108 wi_yX10_isBoundBy wsl_yX10_isBoundBy (Nat.le_of_ble_eq_true rfl) rfl (gO_of g2) rfl (Nat.le_of_ble_eq_true rfl) ⟨Nat.le_of_ble_eq_true rfl, Nat.le_of_ble_eq_true rfl⟩ ⟨Nat.zero_le _, Nat.zero_le _⟩ dX10_isBoundAtAll_4 ?_
  refine fw_if_ne C 20 dX10_isBoundAtAll_7 (by decide) (fun c3 => ?_) (fun c3 => ?_)
  · replace h := (if_neg c3).symm.trans h
    refine fw_iconst C 1 dX10_isBoundAtAll_20 rfl ?_
    refine fw_goto C 25 dX10_isBoundAtAll_21 (by decide) ?_
    obtain rfl := Option.some.inj h
    exact fw_zret C hr (Or.inr rfl) hlk dX10_isBoundAtAll_25
  · replace h := (if_pos c3).symm.trans h
    refine fw_aload_n C 0 dX10_isBoundAtAll_10 rfl rfl ?_
    refine fw_iload_n C 1 dX10_isBoundAtAll_11 rfl rfl ?_
    refine fw_iconst C 1 dX10_isBoundAtAll_12 rfl ?_
    refine fw_iload_n C 2 dX10_isBoundAtAll_13 rfl rfl ?_
    obtain ⟨v4, e4, h⟩ := b1_some h
    refine fw_callV (ci := 10) [_, _, _] C (c_X10_isBoundBy hl e4) cal_X10_isBoundBy wm_X10_108 wi_yX10_isBoundBy wsl_yX10_isBoundBy (Nat.le_of_ble_eq_true rfl) rfl (gO_of g2) rfl (Nat.le_of_ble_eq_true rfl) ⟨Nat.le_of_ble_eq_true rfl, Nat.le_of_ble_eq_true rfl⟩ ⟨Nat.zero_le _, Nat.zero_le _⟩ dX10_isBoundAtAll_14 ?_
    refine fw_if_eq C 24 dX10_isBoundAtAll_17 (by decide) (fun c5 => ?_) (fun c5 => ?_)
    · replace h := (if_pos c5).symm.trans h
      refine fw_iconst C 0 dX10_isBoundAtAll_24 rfl ?_
      obtain rfl := Option.some.inj h
      exact fw_zret C hr (Or.inl rfl) hlk dX10_isBoundAtAll_25
    · replace h := (if_neg c5).symm.trans h
      refine fw_iconst C 1 dX10_isBoundAtAll_20 rfl ?_
      refine fw_goto C 25 dX10_isBoundAtAll_21 (by decide) ?_
      obtain rfl := Option.some.inj h
      exact fw_zret C hr (Or.inr rfl) hlk dX10_isBoundAtAll_25
set_option maxRecDepth 100000 in
def lf_X10_layAway_2 (S : List fw_Sh) (a0 : Nat) (x1 : Int32) (x2 : Int32) : Nat → Int32 → fw_Mem → Option (fw_Mem)
  | 0, _, _ => none
  | n + 1, x3, M => if (12 : Int32) ≤ x3 then (some M) else (gd (gO S 10 a0) (gd (gN (M a0 8)) (gd (gA S 0 ((M a0 8).toNatClampNeg) x3) (bm (fw_set M ((M a0 8).toNatClampNeg) x3.toNatClampNeg (-1)) (fun M5 => lf_X10_layAway_2 S a0 x1 x2 n (x3 + 1) M5)))))
set_option maxHeartbeats 4000000 in
set_option maxRecDepth 100000 in
theorem lc_X10_layAway_2 {G : fw_G} {p : Program} {l : Launch} {e : Env} {s : State} {m : MethodId} {args : Array Value} {below : List Frame} {meth : Method} {c : Code} {S : List fw_Sh} {o : fw_O} {a0 : Nat} {x1 : Int32} {x2 : Int32} (C : fw_C G RX10 cX10_layAway 6 p s m args c) (hr : meth.sig.returnType = none) (hlk : meth.locks = false) (hl : l.stackTraces = false) (ht : ∀ x ∈ c.exceptionTable.toList, False) :
    ∀ {n : Nat} {x3 : Int32} {M : fw_Mem} {r : (fw_Mem)} (h : lf_X10_layAway_2 S a0 x1 x2 n x3 M = some r) (kx : fw_W G p l e (fw_rm 3 (fw_mcO o) (fw_msO o)) s m args below meth c 6 (fw_Z G below args s (fw_mcO o) (fw_msO o) o) 0 0 21 [(0, .ref a0), (1, .int x1), (2, .int x2)] [] S r), fw_W G p l e (fw_rm 3 (fw_mcO o) (fw_msO o)) s m args below meth c 6 (fw_Z G below args s (fw_mcO o) (fw_msO o) o) 0 0 2 [(0, .ref a0), (1, .int x1), (2, .int x2), (3, .int x3)] [] S M := by
  intro n
  induction n with
  | zero =>
    intro x3 M r h
    exact nomatch (show (none : Option (fw_Mem)) = some r from h)
  | succ n ih =>
    intro x3 M r h kx
    rw [lf_X10_layAway_2.eq_2] at h
    refine fw_iload_n C 3 dX10_layAway_2 rfl rfl ?_
    refine fw_bipush C 12 dX10_layAway_3 rfl ?_
    refine fw_icmp_ge C 21 dX10_layAway_5 (by decide) (fun c1 => ?_) (fun c1 => ?_)
    · replace h := (if_pos c1).symm.trans h
      obtain rfl := Option.some.inj h
      refine fw_sub [0, 1, 2] rfl ?_
      exact kx
    · replace h := (if_neg c1).symm.trans h
      refine fw_aload_n C 0 dX10_layAway_8 rfl rfl ?_
      obtain ⟨g2, h⟩ := gd_some h
      obtain ⟨g3, h⟩ := gd_some h
      refine fw_getR C 10 8 (Nat.le_of_ble_eq_true rfl) (Nat.le_of_ble_eq_true rfl) wf_X10_25 rfl (gO_of g2) (gN_of g3) dX10_layAway_9 ?_
      refine fw_iload_n C 3 dX10_layAway_12 rfl rfl ?_
      refine fw_iconst C (-1) dX10_layAway_13 rfl ?_
      obtain ⟨g4, h⟩ := gd_some h
      refine fw_iast C (gA_of g4) dX10_layAway_14 ?_
      refine fw_bm h (fun M5 h => ?_)
      refine fw_iinc C _ 3 [(3, _), (0, _), (1, _), (2, _)] dX10_layAway_15 rfl rfl (Nat.le_of_ble_eq_true rfl) rfl ?_
      refine fw_goto C 2 dX10_layAway_18 (by decide) ?_
      refine fw_sub [1, 2, 3, 0] rfl ?_
      exact ih h kx
set_option maxRecDepth 100000 in
def lf_X10_layAway_41 (S : List fw_Sh) (a0 : Nat) (x1 : Int32) (x3 : Int32) : Nat → Int32 → fw_Mem → Option (fw_Mem)
  | 0, _, _ => none
  | n + 1, x4, M => gd (gO S 10 a0) (b1 (f_X10_links S M a0) (fun v14 => if v14 ≤ x4 then (some M) else (b1 (f_X10_linkOf S M a0 x4 0) (fun v17 => gd (gN (M a0 8)) (b1 (f_X10_linkOf S M a0 x4 1) (fun v19 => gd (gA S 0 ((M a0 8).toNatClampNeg) v19) (if (M ((M a0 8).toNatClampNeg) v19.toNatClampNeg) = x3 then (gd (gA S 0 ((M a0 8).toNatClampNeg) v17) (if (M ((M a0 8).toNatClampNeg) v17.toNatClampNeg) = (-1) then (b1 (f_X10_of S M a0 x1 6) (fun v24 => b1 (f_X10_binds S M a0 x4 v24) (fun v25 => if v25 = 0 then (lf_X10_layAway_41 S a0 x1 x3 n (x4 + 1) M) else (bm (fw_set M ((M a0 8).toNatClampNeg) v17.toNatClampNeg (x3 + 1)) (fun M27 => lf_X10_layAway_41 S a0 x1 x3 n (x4 + 1) M27))))) else (lf_X10_layAway_41 S a0 x1 x3 n (x4 + 1) M))) else (lf_X10_layAway_41 S a0 x1 x3 n (x4 + 1) M))))))))
set_option maxHeartbeats 4000000 in
set_option maxRecDepth 100000 in
theorem lc_X10_layAway_41 {G : fw_G} {p : Program} {l : Launch} {e : Env} {s : State} {m : MethodId} {args : Array Value} {below : List Frame} {meth : Method} {c : Code} {S : List fw_Sh} {o : fw_O} {a0 : Nat} {x1 : Int32} {x3 : Int32} (C : fw_C G RX10 cX10_layAway 6 p s m args c) (hr : meth.sig.returnType = none) (hlk : meth.locks = false) (hl : l.stackTraces = false) (ht : ∀ x ∈ c.exceptionTable.toList, False) :
    ∀ {n : Nat} {x4 : Int32} {M : fw_Mem} {r : (fw_Mem)} (h : lf_X10_layAway_41 S a0 x1 x3 n x4 M = some r) (kx : fw_W G p l e (fw_rm 3 (fw_mcO o) (fw_msO o)) s m args below meth c 6 (fw_Z G below args s (fw_mcO o) (fw_msO o) o) 0 0 118 [(0, .ref a0), (1, .int x1), (3, .int x3)] [] S r), fw_W G p l e (fw_rm 3 (fw_mcO o) (fw_msO o)) s m args below meth c 6 (fw_Z G below args s (fw_mcO o) (fw_msO o) o) 0 0 41 [(0, .ref a0), (1, .int x1), (3, .int x3), (4, .int x4)] [] S M := by
  intro n
  induction n with
  | zero =>
    intro x4 M r h
    exact nomatch (show (none : Option (fw_Mem)) = some r from h)
  | succ n ih =>
    intro x4 M r h kx
    rw [lf_X10_layAway_41.eq_2] at h
    refine fw_iload C 3 dX10_layAway_41 rfl ?_
    refine fw_aload_n C 0 dX10_layAway_43 rfl rfl ?_
    obtain ⟨g15, h⟩ := gd_some h
    obtain ⟨v14, e14, h⟩ := b1_some h
    refine fw_callV (ci := 10) [] C (c_X10_links hl e14) cal_X10_links wm_X10_95 wi_yX10_links wsl_yX10_links (Nat.le_of_ble_eq_true rfl) rfl (gO_of g15) rfl (Nat.le_of_ble_eq_true rfl) ⟨Nat.le_of_ble_eq_true rfl, Nat.le_of_ble_eq_true rfl⟩ ⟨Nat.zero_le _, Nat.zero_le _⟩ dX10_layAway_44 ?_
    refine fw_icmp_ge C 118 dX10_layAway_47 (by decide) (fun c16 => ?_) (fun c16 => ?_)
    · replace h := (if_pos c16).symm.trans h
      obtain rfl := Option.some.inj h
      refine fw_sub [0, 1, 2] rfl ?_
      exact kx
    · replace h := (if_neg c16).symm.trans h
      refine fw_aload_n C 0 dX10_layAway_50 rfl rfl ?_
      refine fw_iload C 3 dX10_layAway_51 rfl ?_
      refine fw_iconst C 0 dX10_layAway_53 rfl ?_
      obtain ⟨v17, e17, h⟩ := b1_some h
      refine fw_callV (ci := 10) [_, _] C (c_X10_linkOf hl e17) cal_X10_linkOf wm_X10_92 wi_yX10_linkOf wsl_yX10_linkOf (Nat.le_of_ble_eq_true rfl) rfl (gO_of g15) rfl (Nat.le_of_ble_eq_true rfl) ⟨Nat.le_of_ble_eq_true rfl, Nat.le_of_ble_eq_true rfl⟩ ⟨Nat.zero_le _, Nat.zero_le _⟩ dX10_layAway_54 ?_
      refine fw_istore C [(5, _), (0, _), (1, _), (3, _), (4, _)] dX10_layAway_57 (Nat.le_of_ble_eq_true rfl) rfl ?_
      refine fw_aload_n C 1 dX10_layAway_59 rfl rfl ?_
      obtain ⟨g18, h⟩ := gd_some h
      refine fw_getR C 10 8 (Nat.le_of_ble_eq_true rfl) (Nat.le_of_ble_eq_true rfl) wf_X10_25 rfl (gO_of g15) (gN_of g18) dX10_layAway_60 ?_
      refine fw_aload_n C 1 dX10_layAway_63 rfl rfl ?_
      refine fw_iload C 4 dX10_layAway_64 rfl ?_
      refine fw_iconst C 1 dX10_layAway_66 rfl ?_
      obtain ⟨v19, e19, h⟩ := b1_some h
      refine fw_callV (ci := 10) [_, _] C (c_X10_linkOf hl e19) cal_X10_linkOf wm_X10_92 wi_yX10_linkOf wsl_yX10_linkOf (Nat.le_of_ble_eq_true rfl) rfl (gO_of g15) rfl (Nat.le_of_ble_eq_true rfl) ⟨Nat.le_of_ble_eq_true rfl, Nat.le_of_ble_eq_true rfl⟩ ⟨Nat.zero_le _, Nat.zero_le _⟩ dX10_layAway_67 ?_
      obtain ⟨g20, h⟩ := gd_some h
      refine fw_iald C (gA_of g20) dX10_layAway_70 ?_
      refine fw_iload_n C 3 dX10_layAway_71 rfl rfl ?_
      refine fw_icmp_ne C 112 dX10_layAway_72 (by decide) (fun c21 => ?_) (fun c21 => ?_)
      · replace h := (if_neg c21).symm.trans h
        refine fw_iinc C _ 4 [(4, _), (5, _), (0, _), (1, _), (3, _)] dX10_layAway_112 rfl rfl (Nat.le_of_ble_eq_true rfl) rfl ?_
        refine fw_goto C 41 dX10_layAway_115 (by decide) ?_
        refine fw_sub [2, 3, 4, 0] rfl ?_
        exact ih h kx
      · replace h := (if_pos c21).symm.trans h
        refine fw_aload_n C 1 dX10_layAway_75 rfl rfl ?_
        refine fw_getR C 10 8 (Nat.le_of_ble_eq_true rfl) (Nat.le_of_ble_eq_true rfl) wf_X10_25 rfl (gO_of g15) (gN_of g18) dX10_layAway_76 ?_
        refine fw_iload C 0 dX10_layAway_79 rfl ?_
        obtain ⟨g22, h⟩ := gd_some h
        refine fw_iald C (gA_of g22) dX10_layAway_81 ?_
        refine fw_iconst C (-1) dX10_layAway_82 rfl ?_
        refine fw_icmp_ne C 112 dX10_layAway_83 (by decide) (fun c23 => ?_) (fun c23 => ?_)
        · replace h := (if_neg c23).symm.trans h
          refine fw_iinc C _ 4 [(4, _), (5, _), (0, _), (1, _), (3, _)] dX10_layAway_112 rfl rfl (Nat.le_of_ble_eq_true rfl) rfl ?_
          refine fw_goto C 41 dX10_layAway_115 (by decide) ?_
          refine fw_sub [2, 3, 4, 0] rfl ?_
          exact ih h kx
        · replace h := (if_pos c23).symm.trans h
          refine fw_aload_n C 1 dX10_layAway_86 rfl rfl ?_
          refine fw_iload C 4 dX10_layAway_87 rfl ?_
          refine fw_aload_n C 1 dX10_layAway_89 rfl rfl ?_
          refine fw_iload_n C 2 dX10_layAway_90 rfl rfl ?_
          refine fw_bipush C 6 dX10_layAway_91 rfl ?_
          obtain ⟨v24, e24, h⟩ := b1_some h
          refine fw_callV (ci := 10) [_, _] C (c_X10_of hl e24) cal_X10_of wm_X10_65 wi_yX10_of wsl_yX10_of (Nat.le_of_ble_eq_true rfl) rfl (gO_of g15) rfl (Nat.le_of_ble_eq_true rfl) ⟨Nat.le_of_ble_eq_true rfl, Nat.le_of_ble_eq_true rfl⟩ ⟨Nat.zero_le _, Nat.zero_le _⟩ dX10_layAway_93 ?_
          obtain ⟨v25, e25, h⟩ := b1_some h
          refine fw_callV (ci := 10) [_, _] C (c_X10_binds hl e25) cal_X10_binds wm_X10_102 wi_yX10_binds wsl_yX10_binds (Nat.le_of_ble_eq_true rfl) rfl (gO_of g15) rfl (Nat.le_of_ble_eq_true rfl) ⟨Nat.le_of_ble_eq_true rfl, Nat.le_of_ble_eq_true rfl⟩ ⟨Nat.zero_le _, Nat.zero_le _⟩ dX10_layAway_96 ?_
          refine fw_if_eq C 112 dX10_layAway_99 (by decide) (fun c26 => ?_) (fun c26 => ?_)
          · replace h := (if_pos c26).symm.trans h
            refine fw_iinc C _ 4 [(4, _), (5, _), (0, _), (1, _), (3, _)] dX10_layAway_112 rfl rfl (Nat.le_of_ble_eq_true rfl) rfl ?_
            refine fw_goto C 41 dX10_layAway_115 (by decide) ?_
            refine fw_sub [2, 3, 4, 0] rfl ?_
            exact ih h kx
          · replace h := (if_neg c26).symm.trans h
            refine fw_aload_n C 1 dX10_layAway_102 rfl rfl ?_
            refine fw_getR C 10 8 (Nat.le_of_ble_eq_true rfl) (Nat.le_of_ble_eq_true rfl) wf_X10_25 rfl (gO_of g15) (gN_of g18) dX10_layAway_103 ?_
            refine fw_iload C 0 dX10_layAway_106 rfl ?_
            refine fw_iload_n C 3 dX10_layAway_108 rfl rfl ?_
            refine fw_iconst C 1 dX10_layAway_109 rfl ?_
            refine fw_iadd C dX10_layAway_110 ?_
            refine fw_iast C (gA_of g22) dX10_layAway_111 ?_
            refine fw_bm h (fun M27 h => ?_)
            refine fw_iinc C _ 4 [(4, _), (5, _), (0, _), (1, _), (3, _)] dX10_layAway_112 rfl rfl (Nat.le_of_ble_eq_true rfl) rfl ?_
            refine fw_goto C 41 dX10_layAway_115 (by decide) ?_
            refine fw_sub [2, 3, 4, 0] rfl ?_
            exact ih h kx
set_option maxRecDepth 100000 in
def lf_X10_layAway_30 (S : List fw_Sh) (a0 : Nat) (x1 : Int32) : Nat → Int32 → fw_Mem → Option (fw_Mem)
  | 0, _, _ => none
  | n + 1, x3, M => gd (gO S 10 a0) (b1 (f_X10_persons S M a0) (fun v11 => if v11 ≤ x3 then (some M) else (b1 (lf_X10_layAway_41 S a0 x1 x3 20000 0 M) (fun l28 => lf_X10_layAway_30 S a0 x1 n (x3 + 1) l28))))
set_option maxHeartbeats 4000000 in
set_option maxRecDepth 100000 in
theorem lc_X10_layAway_30 {G : fw_G} {p : Program} {l : Launch} {e : Env} {s : State} {m : MethodId} {args : Array Value} {below : List Frame} {meth : Method} {c : Code} {S : List fw_Sh} {o : fw_O} {a0 : Nat} {x1 : Int32} (C : fw_C G RX10 cX10_layAway 6 p s m args c) (hr : meth.sig.returnType = none) (hlk : meth.locks = false) (hl : l.stackTraces = false) (ht : ∀ x ∈ c.exceptionTable.toList, False) :
    ∀ {n : Nat} {x3 : Int32} {M : fw_Mem} {r : (fw_Mem)} (h : lf_X10_layAway_30 S a0 x1 n x3 M = some r) (kx : fw_W G p l e (fw_rm 3 (fw_mcO o) (fw_msO o)) s m args below meth c 6 (fw_Z G below args s (fw_mcO o) (fw_msO o) o) 0 0 124 [] [] S r), fw_W G p l e (fw_rm 3 (fw_mcO o) (fw_msO o)) s m args below meth c 6 (fw_Z G below args s (fw_mcO o) (fw_msO o) o) 0 0 30 [(0, .ref a0), (1, .int x1), (3, .int x3)] [] S M := by
  intro n
  induction n with
  | zero =>
    intro x3 M r h
    exact nomatch (show (none : Option (fw_Mem)) = some r from h)
  | succ n ih =>
    intro x3 M r h kx
    rw [lf_X10_layAway_30.eq_2] at h
    refine fw_iload_n C 2 dX10_layAway_30 rfl rfl ?_
    refine fw_aload_n C 0 dX10_layAway_31 rfl rfl ?_
    obtain ⟨g12, h⟩ := gd_some h
    obtain ⟨v11, e11, h⟩ := b1_some h
    refine fw_callV (ci := 10) [] C (c_X10_persons hl e11) cal_X10_persons wm_X10_54 wi_yX10_persons wsl_yX10_persons (Nat.le_of_ble_eq_true rfl) rfl (gO_of g12) rfl (Nat.le_of_ble_eq_true rfl) ⟨Nat.le_of_ble_eq_true rfl, Nat.le_of_ble_eq_true rfl⟩ ⟨Nat.zero_le _, Nat.zero_le _⟩ dX10_layAway_32 ?_
    refine fw_icmp_ge C 124 dX10_layAway_35 (by decide) (fun c13 => ?_) (fun c13 => ?_)
    · replace h := (if_pos c13).symm.trans h
      obtain rfl := Option.some.inj h
      refine fw_sub [] rfl ?_
      exact kx
    · replace h := (if_neg c13).symm.trans h
      refine fw_iconst C 0 dX10_layAway_38 rfl ?_
      refine fw_istore C [(4, _), (0, _), (1, _), (3, _)] dX10_layAway_39 (Nat.le_of_ble_eq_true rfl) rfl ?_
      refine fw_sub [1, 2, 3, 0] rfl ?_
      obtain ⟨l28, e28, h⟩ := b1_some h
      refine lc_X10_layAway_41 C hr hlk hl ht e28 ?_
      refine fw_iinc C _ 2 [(3, _), (0, _), (1, _)] dX10_layAway_118 rfl rfl (Nat.le_of_ble_eq_true rfl) rfl ?_
      refine fw_goto C 30 dX10_layAway_121 (by decide) ?_
      refine fw_sub [1, 2, 0] rfl ?_
      exact ih h kx
set_option maxRecDepth 100000 in
def f_X10_layAway (S : List fw_Sh) (M : fw_Mem) (a0 : Nat) (x1 : Int32) (x2 : Int32) : Option fw_Mem := b1 (lf_X10_layAway_2 S a0 x1 x2 20000 0 M) (fun l6 => gd (gO S 10 a0) (gd (gN (l6 a0 8)) (gd (gA S 0 ((l6 a0 8).toNatClampNeg) x2) (bm (fw_set l6 ((l6 a0 8).toNatClampNeg) x2.toNatClampNeg 0) (fun M10 => b1 (lf_X10_layAway_30 S a0 x1 20000 0 M10) (fun l29 => some l29))))))
set_option maxHeartbeats 4000000 in
set_option maxRecDepth 100000 in
theorem c_X10_layAway {l : Launch} {G : fw_G} {S : List fw_Sh} {M : fw_Mem} {a0 : Nat} {x1 : Int32} {x2 : Int32} {r : fw_Mem} (hl : l.stackTraces = false) (h : f_X10_layAway S M a0 x1 x2 = some r) : fw_M l G yX10_layAway (.code yX10_layAway cX10_layAway 6 none) 3 (fw_mcO (.inl none, S, r)) (fw_msO (.inl none, S, r)) S M [.ref a0, .int x1, .int x2] (.inl none, S, r) := by
  refine fw_of [(0, .ref a0), (1, .int x1), (2, .int x2)] (by decide) (Nat.le_of_ble_eq_true rfl) rfl ?_
  intro p e s m args below meth c C hr hlk hnm ht _
  unfold f_X10_layAway at h
  refine fw_iconst C 0 dX10_layAway_0 rfl ?_
  refine fw_istore_n C [(3, _), (0, _), (1, _), (2, _)] dX10_layAway_1 rfl (Nat.le_of_ble_eq_true rfl) rfl ?_
  refine fw_sub [1, 2, 3, 0] rfl ?_
  obtain ⟨l6, e6, h⟩ := b1_some h
  refine lc_X10_layAway_2 C hr hlk hl ht e6 ?_
  refine fw_aload_n C 0 dX10_layAway_21 rfl rfl ?_
  obtain ⟨g7, h⟩ := gd_some h
  obtain ⟨g8, h⟩ := gd_some h
  refine fw_getR C 10 8 (Nat.le_of_ble_eq_true rfl) (Nat.le_of_ble_eq_true rfl) wf_X10_25 rfl (gO_of g7) (gN_of g8) dX10_layAway_22 ?_
  refine fw_iload_n C 2 dX10_layAway_25 rfl rfl ?_
  refine fw_iconst C 0 dX10_layAway_26 rfl ?_
  obtain ⟨g9, h⟩ := gd_some h
  refine fw_iast C (gA_of g9) dX10_layAway_27 ?_
  refine fw_bm h (fun M10 h => ?_)
  refine fw_iconst C 0 dX10_layAway_28 rfl ?_
  refine fw_istore_n C [(3, _), (0, _), (1, _), (2, _)] dX10_layAway_29 rfl (Nat.le_of_ble_eq_true rfl) rfl ?_
  refine fw_sub [1, 2, 0] rfl ?_
  obtain ⟨l29, e29, h⟩ := b1_some h
  refine lc_X10_layAway_30 C hr hlk hl ht e29 ?_
  obtain rfl := Option.some.inj h
  exact fw_vret C hr hlk dX10_layAway_124
