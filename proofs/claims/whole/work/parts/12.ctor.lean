theorem fw_isO_app {S : List fw_Sh} {ci a : Nat} (T : List fw_Sh) (h : fw_isO S ci a) : fw_isO (S ++ T) ci a := by
  have hl : a < S.length := (List.getElem?_eq_some_iff.mp h).1
  unfold fw_isO
  rw [List.getElem?_append_left hl]
  exact h
theorem fw_isO_last (S : List fw_Sh) (ci : Nat) : fw_isO (S ++ [.inr ci]) ci S.length := by
  unfold fw_isO
  rw [List.getElem?_append_right (Nat.le_refl _), Nat.sub_self]
  rfl
def mI_X3_init (S : List fw_Sh) (M : fw_Mem) (a0 : Nat) : fw_Mem := M
set_option maxRecDepth 100000 in
theorem cI_X3_init {l : Launch} {G : fw_G} {S : List fw_Sh} {M : fw_Mem} {a0 : Nat} (hs : S.length < 300000) (ha : fw_isO S 3 a0) : fw_MI l G yX3_init (.code yX3_init cX3_init 1 none) 2 0 0 S M [.ref a0] S (mI_X3_init S M a0) := by
  refine fw_ofI [(0, .ref a0)] (by decide) (Nat.le_of_ble_eq_true rfl) rfl ?_
  intro p e s m args below meth c C hr hlk hnm hz
  refine fw_aload_n C 0 dX3_init_0 rfl rfl ?_
  refine fw_objI C wm_X3_3 (Nat.le_of_ble_eq_true rfl) (Nat.le_of_ble_eq_true rfl) (Nat.le_of_ble_eq_true rfl) dX3_init_1 ?_
  exact fw_vret C hr hlk dX3_init_4
def mI_X6_init (S : List fw_Sh) (M : fw_Mem) (a0 : Nat) (x1 : Int32) : fw_Mem := (fw_set (fw_set M a0 0 x1) a0 7 (-1))
set_option maxRecDepth 100000 in
theorem cI_X6_init {l : Launch} {G : fw_G} {S : List fw_Sh} {M : fw_Mem} {a0 : Nat} {x1 : Int32} (hs : S.length < 300000) (ha : fw_isO S 6 a0) : fw_MI l G yX6_init (.code yX6_init cX6_init 2 none) 2 0 0 S M [.ref a0, .int x1] S (mI_X6_init S M a0 x1) := by
  refine fw_ofI [(0, .ref a0), (1, .int x1)] (by decide) (Nat.le_of_ble_eq_true rfl) rfl ?_
  intro p e s m args below meth c C hr hlk hnm hz
  refine fw_aload_n C 0 dX6_init_0 rfl rfl ?_
  refine fw_objI C wm_X6_3 (Nat.le_of_ble_eq_true rfl) (Nat.le_of_ble_eq_true rfl) (Nat.le_of_ble_eq_true rfl) dX6_init_1 ?_
  refine fw_aload_n C 0 dX6_init_4 rfl rfl ?_
  refine fw_iload_n C 1 dX6_init_5 rfl rfl ?_
  refine fw_putFI C 6 0 (Nat.le_of_ble_eq_true rfl) (Nat.le_of_ble_eq_true rfl) wf_X6_9 rfl rfl hnm rfl rfl rfl ha dX6_init_6 ?_
  refine fw_aload_n C 0 dX6_init_9 rfl rfl ?_
  refine fw_iconst C (-1) dX6_init_10 rfl ?_
  refine fw_putI C 6 7 (Nat.le_of_ble_eq_true rfl) (Nat.le_of_ble_eq_true rfl) wf_X6_15 rfl rfl rfl rfl ha dX6_init_11 ?_
  exact fw_vret C hr hlk dX6_init_14
def mI_X5_init (S : List fw_Sh) (M : fw_Mem) (a0 : Nat) : fw_Mem := (fw_set (fw_nA M S.length 0) a0 0 (nI S.length))
set_option maxRecDepth 100000 in
theorem cI_X5_init {l : Launch} {G : fw_G} {S : List fw_Sh} {M : fw_Mem} {a0 : Nat} (hs : S.length < 300000) (ha : fw_isO S 5 a0) : fw_MI l G yX5_init (.code yX5_init cX5_init 1 none) 2 1 256 S M [.ref a0] (S ++ [Sum.inl (1, 256)]) (mI_X5_init S M a0) := by
  refine fw_ofI [(0, .ref a0)] (by decide) (Nat.le_of_ble_eq_true rfl) rfl ?_
  intro p e s m args below meth c C hr hlk hnm hz
  refine fw_aload_n C 0 dX5_init_0 rfl rfl ?_
  refine fw_objI C wm_X5_3 (Nat.le_of_ble_eq_true rfl) (Nat.le_of_ble_eq_true rfl) (Nat.le_of_ble_eq_true rfl) dX5_init_1 ?_
  refine fw_aload_n C 0 dX5_init_4 rfl rfl ?_
  refine fw_sipush C 256 dX5_init_5 rfl ?_
  refine fw_newP C 1 .byte 256 (by decide) warr_byte (by decide) rfl (Nat.le_of_ble_eq_true rfl) (by rw [hz]; (try simp only [List.length_append, List.length_cons, List.length_nil]); omega) (by (try simp only [List.length_append, List.length_cons, List.length_nil]); omega) (Nat.le_of_ble_eq_true rfl) (Nat.le_of_ble_eq_true rfl) dX5_init_8 ?_
  refine fw_putFR C 5 0 (Nat.le_of_ble_eq_true rfl) (Nat.le_of_ble_eq_true rfl) wf_X5_9 rfl rfl hnm rfl (by (try simp only [List.length_append, List.length_cons, List.length_nil]); omega) (fw_isO_app _ ha) dX5_init_10 ?_
  exact fw_vret C hr hlk dX5_init_13
def mI_X7_init (S : List fw_Sh) (M : fw_Mem) (a0 : Nat) : fw_Mem := (fw_set (fw_set (fw_nA M S.length 0) a0 0 (nI S.length)) a0 8 (-1))
set_option maxRecDepth 100000 in
theorem cI_X7_init {l : Launch} {G : fw_G} {S : List fw_Sh} {M : fw_Mem} {a0 : Nat} (hs : S.length < 300000) (ha : fw_isO S 7 a0) : fw_MI l G yX7_init (.code yX7_init cX7_init 1 none) 2 1 600 S M [.ref a0] (S ++ [Sum.inl (1, 600)]) (mI_X7_init S M a0) := by
  refine fw_ofI [(0, .ref a0)] (by decide) (Nat.le_of_ble_eq_true rfl) rfl ?_
  intro p e s m args below meth c C hr hlk hnm hz
  refine fw_aload_n C 0 dX7_init_0 rfl rfl ?_
  refine fw_objI C wm_X7_3 (Nat.le_of_ble_eq_true rfl) (Nat.le_of_ble_eq_true rfl) (Nat.le_of_ble_eq_true rfl) dX7_init_1 ?_
  refine fw_aload_n C 0 dX7_init_4 rfl rfl ?_
  refine fw_sipush C 600 dX7_init_5 rfl ?_
  refine fw_newP C 1 .byte 600 (by decide) warr_byte (by decide) rfl (Nat.le_of_ble_eq_true rfl) (by rw [hz]; (try simp only [List.length_append, List.length_cons, List.length_nil]); omega) (by (try simp only [List.length_append, List.length_cons, List.length_nil]); omega) (Nat.le_of_ble_eq_true rfl) (Nat.le_of_ble_eq_true rfl) dX7_init_8 ?_
  refine fw_putFR C 7 0 (Nat.le_of_ble_eq_true rfl) (Nat.le_of_ble_eq_true rfl) wf_X7_9 rfl rfl hnm rfl (by (try simp only [List.length_append, List.length_cons, List.length_nil]); omega) (fw_isO_app _ ha) dX7_init_10 ?_
  refine fw_aload_n C 0 dX7_init_13 rfl rfl ?_
  refine fw_iconst C (-1) dX7_init_14 rfl ?_
  refine fw_putI C 7 8 (Nat.le_of_ble_eq_true rfl) (Nat.le_of_ble_eq_true rfl) wf_X7_15 rfl rfl rfl rfl (fw_isO_app _ ha) dX7_init_15 ?_
  exact fw_vret C hr hlk dX7_init_18
def mI_X0_init (S : List fw_Sh) (M : fw_Mem) (a0 : Nat) : fw_Mem := (fw_set (fw_nA M S.length 0) a0 0 (nI S.length))
set_option maxRecDepth 100000 in
theorem cI_X0_init {l : Launch} {G : fw_G} {S : List fw_Sh} {M : fw_Mem} {a0 : Nat} (hs : S.length < 300000) (ha : fw_isO S 0 a0) : fw_MI l G yX0_init (.code yX0_init cX0_init 1 none) 2 1 72 S M [.ref a0] (S ++ [Sum.inl (0, 72)]) (mI_X0_init S M a0) := by
  refine fw_ofI [(0, .ref a0)] (by decide) (Nat.le_of_ble_eq_true rfl) rfl ?_
  intro p e s m args below meth c C hr hlk hnm hz
  refine fw_aload_n C 0 dX0_init_0 rfl rfl ?_
  refine fw_objI C wm_X0_3 (Nat.le_of_ble_eq_true rfl) (Nat.le_of_ble_eq_true rfl) (Nat.le_of_ble_eq_true rfl) dX0_init_1 ?_
  refine fw_aload_n C 0 dX0_init_4 rfl rfl ?_
  refine fw_bipush C 72 dX0_init_5 rfl ?_
  refine fw_newP C 0 .int 72 (by decide) warr_int (by decide) rfl (Nat.le_of_ble_eq_true rfl) (by rw [hz]; (try simp only [List.length_append, List.length_cons, List.length_nil]); omega) (by (try simp only [List.length_append, List.length_cons, List.length_nil]); omega) (Nat.le_of_ble_eq_true rfl) (Nat.le_of_ble_eq_true rfl) dX0_init_7 ?_
  refine fw_putFR C 0 0 (Nat.le_of_ble_eq_true rfl) (Nat.le_of_ble_eq_true rfl) wf_X0_11 rfl rfl hnm rfl (by (try simp only [List.length_append, List.length_cons, List.length_nil]); omega) (fw_isO_app _ ha) dX0_init_9 ?_
  exact fw_vret C hr hlk dX0_init_12
def mI_X1_init (S : List fw_Sh) (M : fw_Mem) (a0 : Nat) (a1 : Nat) : fw_Mem := (fw_set (fw_set (fw_nA (fw_set (fw_nA (fw_set (fw_nA M S.length 0) a0 1 (nI S.length)) (S ++ [Sum.inl (0, 100)]).length 0) a0 2 (nI ((S ++ [Sum.inl (0, 100)]).length))) ((S ++ [Sum.inl (0, 100)]) ++ [Sum.inl (0, 10)]).length 0) a0 3 (nI (((S ++ [Sum.inl (0, 100)]) ++ [Sum.inl (0, 10)]).length))) a0 0 (nI a1))
set_option maxRecDepth 100000 in
theorem cI_X1_init {l : Launch} {G : fw_G} {S : List fw_Sh} {M : fw_Mem} {a0 : Nat} {a1 : Nat} (hs : S.length < 300000) (ha : fw_isO S 1 a0) (hb1 : a1 < 1000000) : fw_MI l G yX1_init (.code yX1_init cX1_init 2 none) 2 3 120 S M [.ref a0, .ref a1] (((S ++ [Sum.inl (0, 100)]) ++ [Sum.inl (0, 10)]) ++ [Sum.inl (0, 10)]) (mI_X1_init S M a0 a1) := by
  refine fw_ofI [(0, .ref a0), (1, .ref a1)] (by decide) (Nat.le_of_ble_eq_true rfl) rfl ?_
  intro p e s m args below meth c C hr hlk hnm hz
  refine fw_aload_n C 0 dX1_init_0 rfl rfl ?_
  refine fw_objI C wm_X1_3 (Nat.le_of_ble_eq_true rfl) (Nat.le_of_ble_eq_true rfl) (Nat.le_of_ble_eq_true rfl) dX1_init_1 ?_
  refine fw_aload_n C 0 dX1_init_4 rfl rfl ?_
  refine fw_bipush C 100 dX1_init_5 rfl ?_
  refine fw_newP C 0 .int 100 (by decide) warr_int (by decide) rfl (Nat.le_of_ble_eq_true rfl) (by rw [hz]; (try simp only [List.length_append, List.length_cons, List.length_nil]); omega) (by (try simp only [List.length_append, List.length_cons, List.length_nil]); omega) (Nat.le_of_ble_eq_true rfl) (Nat.le_of_ble_eq_true rfl) dX1_init_7 ?_
  refine fw_putFR C 1 1 (Nat.le_of_ble_eq_true rfl) (Nat.le_of_ble_eq_true rfl) wf_X1_11 rfl rfl hnm rfl (by (try simp only [List.length_append, List.length_cons, List.length_nil]); omega) (fw_isO_app _ ha) dX1_init_9 ?_
  refine fw_aload_n C 0 dX1_init_12 rfl rfl ?_
  refine fw_bipush C 10 dX1_init_13 rfl ?_
  refine fw_newP C 0 .int 10 (by decide) warr_int (by decide) rfl (Nat.le_of_ble_eq_true rfl) (by rw [hz]; (try simp only [List.length_append, List.length_cons, List.length_nil]); omega) (by (try simp only [List.length_append, List.length_cons, List.length_nil]); omega) (Nat.le_of_ble_eq_true rfl) (Nat.le_of_ble_eq_true rfl) dX1_init_15 ?_
  refine fw_putFR C 1 2 (Nat.le_of_ble_eq_true rfl) (Nat.le_of_ble_eq_true rfl) wf_X1_15 rfl rfl hnm rfl (by (try simp only [List.length_append, List.length_cons, List.length_nil]); omega) (fw_isO_app _ (fw_isO_app _ ha)) dX1_init_17 ?_
  refine fw_aload_n C 0 dX1_init_20 rfl rfl ?_
  refine fw_bipush C 10 dX1_init_21 rfl ?_
  refine fw_newP C 0 .int 10 (by decide) warr_int (by decide) rfl (Nat.le_of_ble_eq_true rfl) (by rw [hz]; (try simp only [List.length_append, List.length_cons, List.length_nil]); omega) (by (try simp only [List.length_append, List.length_cons, List.length_nil]); omega) (Nat.le_of_ble_eq_true rfl) (Nat.le_of_ble_eq_true rfl) dX1_init_23 ?_
  refine fw_putFR C 1 3 (Nat.le_of_ble_eq_true rfl) (Nat.le_of_ble_eq_true rfl) wf_X1_18 rfl rfl hnm rfl (by (try simp only [List.length_append, List.length_cons, List.length_nil]); omega) (fw_isO_app _ (fw_isO_app _ (fw_isO_app _ ha))) dX1_init_25 ?_
  refine fw_aload_n C 0 dX1_init_28 rfl rfl ?_
  refine fw_aload_n C 1 dX1_init_29 rfl rfl ?_
  refine fw_putFR C 1 0 (Nat.le_of_ble_eq_true rfl) (Nat.le_of_ble_eq_true rfl) wf_X1_21 rfl rfl hnm rfl hb1 (fw_isO_app _ (fw_isO_app _ (fw_isO_app _ ha))) dX1_init_30 ?_
  exact fw_vret C hr hlk dX1_init_33
def mI_X2_init (S : List fw_Sh) (M : fw_Mem) (a0 : Nat) (a1 : Nat) : fw_Mem := (fw_set (fw_set (fw_nA (fw_set (fw_nA (fw_set (fw_nA (fw_set (fw_nA (fw_set (fw_nA M S.length 0) a0 1 (nI S.length)) (S ++ [Sum.inl (0, 31)]).length 0) a0 2 (nI ((S ++ [Sum.inl (0, 31)]).length))) ((S ++ [Sum.inl (0, 31)]) ++ [Sum.inl (0, 10)]).length 0) a0 3 (nI (((S ++ [Sum.inl (0, 31)]) ++ [Sum.inl (0, 10)]).length))) (((S ++ [Sum.inl (0, 31)]) ++ [Sum.inl (0, 10)]) ++ [Sum.inl (0, 12)]).length 0) a0 4 (nI ((((S ++ [Sum.inl (0, 31)]) ++ [Sum.inl (0, 10)]) ++ [Sum.inl (0, 12)]).length))) ((((S ++ [Sum.inl (0, 31)]) ++ [Sum.inl (0, 10)]) ++ [Sum.inl (0, 12)]) ++ [Sum.inl (0, 12)]).length 0) a0 5 (nI (((((S ++ [Sum.inl (0, 31)]) ++ [Sum.inl (0, 10)]) ++ [Sum.inl (0, 12)]) ++ [Sum.inl (0, 12)]).length))) a0 0 (nI a1))
set_option maxRecDepth 100000 in
theorem cI_X2_init {l : Launch} {G : fw_G} {S : List fw_Sh} {M : fw_Mem} {a0 : Nat} {a1 : Nat} (hs : S.length < 300000) (ha : fw_isO S 2 a0) (hb1 : a1 < 1000000) : fw_MI l G yX2_init (.code yX2_init cX2_init 2 none) 2 5 77 S M [.ref a0, .ref a1] (((((S ++ [Sum.inl (0, 31)]) ++ [Sum.inl (0, 10)]) ++ [Sum.inl (0, 12)]) ++ [Sum.inl (0, 12)]) ++ [Sum.inl (0, 12)]) (mI_X2_init S M a0 a1) := by
  refine fw_ofI [(0, .ref a0), (1, .ref a1)] (by decide) (Nat.le_of_ble_eq_true rfl) rfl ?_
  intro p e s m args below meth c C hr hlk hnm hz
  refine fw_aload_n C 0 dX2_init_0 rfl rfl ?_
  refine fw_objI C wm_X2_3 (Nat.le_of_ble_eq_true rfl) (Nat.le_of_ble_eq_true rfl) (Nat.le_of_ble_eq_true rfl) dX2_init_1 ?_
  refine fw_aload_n C 0 dX2_init_4 rfl rfl ?_
  refine fw_bipush C 31 dX2_init_5 rfl ?_
  refine fw_newP C 0 .int 31 (by decide) warr_int (by decide) rfl (Nat.le_of_ble_eq_true rfl) (by rw [hz]; (try simp only [List.length_append, List.length_cons, List.length_nil]); omega) (by (try simp only [List.length_append, List.length_cons, List.length_nil]); omega) (Nat.le_of_ble_eq_true rfl) (Nat.le_of_ble_eq_true rfl) dX2_init_7 ?_
  refine fw_putFR C 2 1 (Nat.le_of_ble_eq_true rfl) (Nat.le_of_ble_eq_true rfl) wf_X2_9 rfl rfl hnm rfl (by (try simp only [List.length_append, List.length_cons, List.length_nil]); omega) (fw_isO_app _ ha) dX2_init_9 ?_
  refine fw_aload_n C 0 dX2_init_12 rfl rfl ?_
  refine fw_bipush C 10 dX2_init_13 rfl ?_
  refine fw_newP C 0 .int 10 (by decide) warr_int (by decide) rfl (Nat.le_of_ble_eq_true rfl) (by rw [hz]; (try simp only [List.length_append, List.length_cons, List.length_nil]); omega) (by (try simp only [List.length_append, List.length_cons, List.length_nil]); omega) (Nat.le_of_ble_eq_true rfl) (Nat.le_of_ble_eq_true rfl) dX2_init_15 ?_
  refine fw_putFR C 2 2 (Nat.le_of_ble_eq_true rfl) (Nat.le_of_ble_eq_true rfl) wf_X2_15 rfl rfl hnm rfl (by (try simp only [List.length_append, List.length_cons, List.length_nil]); omega) (fw_isO_app _ (fw_isO_app _ ha)) dX2_init_17 ?_
  refine fw_aload_n C 0 dX2_init_20 rfl rfl ?_
  refine fw_bipush C 12 dX2_init_21 rfl ?_
  refine fw_newP C 0 .int 12 (by decide) warr_int (by decide) rfl (Nat.le_of_ble_eq_true rfl) (by rw [hz]; (try simp only [List.length_append, List.length_cons, List.length_nil]); omega) (by (try simp only [List.length_append, List.length_cons, List.length_nil]); omega) (Nat.le_of_ble_eq_true rfl) (Nat.le_of_ble_eq_true rfl) dX2_init_23 ?_
  refine fw_putFR C 2 3 (Nat.le_of_ble_eq_true rfl) (Nat.le_of_ble_eq_true rfl) wf_X2_18 rfl rfl hnm rfl (by (try simp only [List.length_append, List.length_cons, List.length_nil]); omega) (fw_isO_app _ (fw_isO_app _ (fw_isO_app _ ha))) dX2_init_25 ?_
  refine fw_aload_n C 0 dX2_init_28 rfl rfl ?_
  refine fw_bipush C 12 dX2_init_29 rfl ?_
  refine fw_newP C 0 .int 12 (by decide) warr_int (by decide) rfl (Nat.le_of_ble_eq_true rfl) (by rw [hz]; (try simp only [List.length_append, List.length_cons, List.length_nil]); omega) (by (try simp only [List.length_append, List.length_cons, List.length_nil]); omega) (Nat.le_of_ble_eq_true rfl) (Nat.le_of_ble_eq_true rfl) dX2_init_31 ?_
  refine fw_putFR C 2 4 (Nat.le_of_ble_eq_true rfl) (Nat.le_of_ble_eq_true rfl) wf_X2_21 rfl rfl hnm rfl (by (try simp only [List.length_append, List.length_cons, List.length_nil]); omega) (fw_isO_app _ (fw_isO_app _ (fw_isO_app _ (fw_isO_app _ ha)))) dX2_init_33 ?_
  refine fw_aload_n C 0 dX2_init_36 rfl rfl ?_
  refine fw_bipush C 12 dX2_init_37 rfl ?_
  refine fw_newP C 0 .int 12 (by decide) warr_int (by decide) rfl (Nat.le_of_ble_eq_true rfl) (by rw [hz]; (try simp only [List.length_append, List.length_cons, List.length_nil]); omega) (by (try simp only [List.length_append, List.length_cons, List.length_nil]); omega) (Nat.le_of_ble_eq_true rfl) (Nat.le_of_ble_eq_true rfl) dX2_init_39 ?_
  refine fw_putFR C 2 5 (Nat.le_of_ble_eq_true rfl) (Nat.le_of_ble_eq_true rfl) wf_X2_24 rfl rfl hnm rfl (by (try simp only [List.length_append, List.length_cons, List.length_nil]); omega) (fw_isO_app _ (fw_isO_app _ (fw_isO_app _ (fw_isO_app _ (fw_isO_app _ ha))))) dX2_init_41 ?_
  refine fw_aload_n C 0 dX2_init_44 rfl rfl ?_
  refine fw_aload_n C 1 dX2_init_45 rfl rfl ?_
  refine fw_putFR C 2 0 (Nat.le_of_ble_eq_true rfl) (Nat.le_of_ble_eq_true rfl) wf_X2_27 rfl rfl hnm rfl hb1 (fw_isO_app _ (fw_isO_app _ (fw_isO_app _ (fw_isO_app _ (fw_isO_app _ ha))))) dX2_init_46 ?_
  exact fw_vret C hr hlk dX2_init_49
def mI_X8_init (S : List fw_Sh) (M : fw_Mem) (a0 : Nat) (a1 : Nat) (a2 : Nat) : fw_Mem := (fw_set (fw_set M a0 0 (nI a1)) a0 1 (nI a2))
set_option maxRecDepth 100000 in
theorem cI_X8_init {l : Launch} {G : fw_G} {S : List fw_Sh} {M : fw_Mem} {a0 : Nat} {a1 : Nat} {a2 : Nat} (hs : S.length < 300000) (ha : fw_isO S 8 a0) (hb1 : a1 < 1000000) (hb2 : a2 < 1000000) : fw_MI l G yX8_init (.code yX8_init cX8_init 3 none) 2 0 0 S M [.ref a0, .ref a1, .ref a2] S (mI_X8_init S M a0 a1 a2) := by
  refine fw_ofI [(0, .ref a0), (1, .ref a1), (2, .ref a2)] (by decide) (Nat.le_of_ble_eq_true rfl) rfl ?_
  intro p e s m args below meth c C hr hlk hnm hz
  refine fw_aload_n C 0 dX8_init_0 rfl rfl ?_
  refine fw_objI C wm_X8_3 (Nat.le_of_ble_eq_true rfl) (Nat.le_of_ble_eq_true rfl) (Nat.le_of_ble_eq_true rfl) dX8_init_1 ?_
  refine fw_aload_n C 0 dX8_init_4 rfl rfl ?_
  refine fw_aload_n C 1 dX8_init_5 rfl rfl ?_
  refine fw_putFR C 8 0 (Nat.le_of_ble_eq_true rfl) (Nat.le_of_ble_eq_true rfl) wf_X8_9 rfl rfl hnm rfl hb1 ha dX8_init_6 ?_
  refine fw_aload_n C 0 dX8_init_9 rfl rfl ?_
  refine fw_aload_n C 2 dX8_init_10 rfl rfl ?_
  refine fw_putFR C 8 1 (Nat.le_of_ble_eq_true rfl) (Nat.le_of_ble_eq_true rfl) wf_X8_15 rfl rfl hnm rfl hb2 ha dX8_init_11 ?_
  exact fw_vret C hr hlk dX8_init_14
