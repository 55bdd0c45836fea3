def f_L_desk (S : List fw_Sh) (M : fw_Mem) (a0 : Nat) (x1 : Int32) (a2 : Nat) : Option (Int32 × fw_Mem) := gd (gO S 9 a0) (b2 (f_X9_desk S M a0 x1) (fun v M1 => bx v (fun u => gd (gA S 2 a2 0) (bm (fw_set M1 a2 0 u) (fun M9 => some (0, M9)))) (fun E => if E = exI then some (1, M1) else none)))
theorem cal_L_desk : fw_cal yL_desk (.codeWith yL_desk cL_desk 4 (some .int) [(0, 9, 12, 13)]) 3 := ⟨wc_yL_desk, wini_L, by decide, by decide, by decide +kernel⟩
set_option maxHeartbeats 4000000 in
set_option maxRecDepth 100000 in
theorem c_L_desk {l : Launch} {G : fw_G} {S : List fw_Sh} {M : fw_Mem} {a0 : Nat} {x1 : Int32} {a2 : Nat} {r : Int32 × fw_Mem} (hl : l.stackTraces = false) (h : f_L_desk S M a0 x1 a2 = some r) : fw_MW l G yL_desk (.codeWith yL_desk cL_desk 4 (some .int) [(0, 9, 12, 13)]) 14 S M [.ref a0, .int x1, .ref a2] r.1 r.2 := by
  refine fw_ofH [(0, .ref a0), (1, .int x1), (2, .ref a2)] (by decide) (Nat.le_of_ble_eq_true rfl) rfl ?_
  intro p e s m args below meth c C hr hlk htab
  unfold f_L_desk at h
  refine fw_aload_n C 2 dL_desk_0 rfl rfl ?_
  refine fw_iconst C 0 dL_desk_1 rfl ?_
  refine fw_aload_n C 0 dL_desk_2 rfl rfl ?_
  refine fw_iload_n C 1 dL_desk_3 rfl rfl ?_
  obtain ⟨g0, h⟩ := gd_some h
  obtain ⟨v, M1, ev, h⟩ := b2_some h
  rcases v with u | E
  · replace h := bx_l h
    refine fw_callV (ci := 9) [_] C (c_X9_desk hl ev) cal_X9_desk wm_L_7 wi_yX9_desk wsl_yX9_desk (Nat.le_of_ble_eq_true rfl) rfl (gO_of g0) rfl (Nat.le_of_ble_eq_true rfl) ⟨Nat.le_of_ble_eq_true rfl, Nat.le_of_ble_eq_true rfl⟩ ⟨Nat.le_of_ble_eq_true rfl, Nat.le_of_ble_eq_true rfl⟩ dL_desk_4 ?_
    refine fw_i2l C dL_desk_7 ?_
    obtain ⟨g1, h⟩ := gd_some h
    refine fw_last (x := _) C (gA_of g1) dL_desk_8 ?_
    refine fw_bm h (fun M9 h => ?_)
    refine fw_goto C 15 dL_desk_9 (by decide) ?_
    refine fw_iconst C 0 dL_desk_15 rfl ?_
    obtain rfl := Option.some.inj h
    refine fw_widen (k := 1) (n := 6) (Nat.le_of_ble_eq_true rfl) (Nat.le_of_ble_eq_true rfl) ?_
    exact fw_iret C hr hlk dL_desk_16
  · replace h := bx_r h
    by_cases c0 : E = exI
    · replace h := (if_pos c0).symm.trans h
      subst c0
      obtain rfl := Option.some.inj h
      intro H locs ls hv hR hV
      exact fw_goesH C (fw_runV (ci := 9) C (c_X9_desk hl ev) cal_X9_desk wm_L_7 wi_yX9_desk wsl_yX9_desk (Nat.le_of_ble_eq_true rfl) rfl (gO_of g0) rfl (Nat.le_of_ble_eq_true rfl) ⟨Nat.le_of_ble_eq_true rfl, Nat.le_of_ble_eq_true rfl⟩ ⟨Nat.le_of_ble_eq_true rfl, Nat.le_of_ble_eq_true rfl⟩ dL_desk_4 hv hR hV) hV [] (⟨0, 9, 12, 13⟩ : ExceptionTableEntry) [] htab (fun z hz => nomatch hz) rfl (by decide) (C.1.2.2.2.2 _ wcl_L_13) (va_Nw.use rfl (C.2.2.2.2.2.1.2 _ (List.mem_of_getElem? (i := 0) rfl))) (fun H1 locs1 q hR1 hV1 => fw_hand_n C hr hlk hv hR1 hV1 rfl (Nat.le_of_ble_eq_true rfl) dL_desk_12 dL_desk_13 dL_desk_14 rfl)
    replace h := (if_neg c0).symm.trans h
    cases h
def f_L_count (S : List fw_Sh) (M : fw_Mem) (a0 : Nat) (x1 : Int32) (a2 : Nat) : Option (Int32 × fw_Mem) := gd (gO S 9 a0) (b1 (f_X9_count S M a0 x1) (fun v => bx v (fun u => gd (gA S 2 a2 0) (bm (fw_set M a2 0 u) (fun M9 => some (0, M9)))) (fun E => if E = exN then some (1, M) else none)))
theorem cal_L_count : fw_cal yL_count (.codeWith yL_count cL_count 4 (some .int) [(0, 9, 12, 18)]) 3 := ⟨wc_yL_count, wini_L, by decide, by decide, by decide +kernel⟩
set_option maxHeartbeats 4000000 in
set_option maxRecDepth 100000 in
theorem c_L_count {l : Launch} {G : fw_G} {S : List fw_Sh} {M : fw_Mem} {a0 : Nat} {x1 : Int32} {a2 : Nat} {r : Int32 × fw_Mem} (hl : l.stackTraces = false) (h : f_L_count S M a0 x1 a2 = some r) : fw_MW l G yL_count (.codeWith yL_count cL_count 4 (some .int) [(0, 9, 12, 18)]) 7 S M [.ref a0, .int x1, .ref a2] r.1 r.2 := by
  refine fw_ofH [(0, .ref a0), (1, .int x1), (2, .ref a2)] (by decide) (Nat.le_of_ble_eq_true rfl) rfl ?_
  intro p e s m args below meth c C hr hlk htab
  unfold f_L_count at h
  refine fw_aload_n C 2 dL_count_0 rfl rfl ?_
  refine fw_iconst C 0 dL_count_1 rfl ?_
  refine fw_aload_n C 0 dL_count_2 rfl rfl ?_
  refine fw_iload_n C 1 dL_count_3 rfl rfl ?_
  obtain ⟨g0, h⟩ := gd_some h
  obtain ⟨v, ev, h⟩ := b1_some h
  rcases v with u | E
  · replace h := bx_l h
    refine fw_callV (ci := 9) [_] C (c_X9_count hl ev) cal_X9_count wm_L_15 wi_yX9_count wsl_yX9_count (Nat.le_of_ble_eq_true rfl) rfl (gO_of g0) rfl (Nat.le_of_ble_eq_true rfl) ⟨Nat.le_of_ble_eq_true rfl, Nat.le_of_ble_eq_true rfl⟩ ⟨Nat.le_of_ble_eq_true rfl, Nat.le_of_ble_eq_true rfl⟩ dL_count_4 ?_
    refine fw_i2l C dL_count_7 ?_
    obtain ⟨g1, h⟩ := gd_some h
    refine fw_last (x := _) C (gA_of g1) dL_count_8 ?_
    refine fw_bm h (fun M9 h => ?_)
    refine fw_goto C 15 dL_count_9 (by decide) ?_
    refine fw_iconst C 0 dL_count_15 rfl ?_
    obtain rfl := Option.some.inj h
    refine fw_widen (k := 1) (n := 6) (Nat.le_of_ble_eq_true rfl) (Nat.le_of_ble_eq_true rfl) ?_
    exact fw_iret C hr hlk dL_count_16
  · replace h := bx_r h
    by_cases c0 : E = exN
    · replace h := (if_pos c0).symm.trans h
      subst c0
      obtain rfl := Option.some.inj h
      intro H locs ls hv hR hV
      exact fw_goesH C (fw_runV (ci := 9) C (c_X9_count hl ev) cal_X9_count wm_L_15 wi_yX9_count wsl_yX9_count (Nat.le_of_ble_eq_true rfl) rfl (gO_of g0) rfl (Nat.le_of_ble_eq_true rfl) ⟨Nat.le_of_ble_eq_true rfl, Nat.le_of_ble_eq_true rfl⟩ ⟨Nat.le_of_ble_eq_true rfl, Nat.le_of_ble_eq_true rfl⟩ dL_count_4 hv hR hV) hV [] (⟨0, 9, 12, 18⟩ : ExceptionTableEntry) [] htab (fun z hz => nomatch hz) rfl (by decide) (C.1.2.2.2.2 _ wcl_L_18) (va_Nw.use rfl (C.2.2.2.2.2.1.2 _ (List.mem_of_getElem? (i := 1) rfl))) (fun H1 locs1 q hR1 hV1 => fw_hand_n C hr hlk hv hR1 hV1 rfl (Nat.le_of_ble_eq_true rfl) dL_count_12 dL_count_13 dL_count_14 rfl)
    replace h := (if_neg c0).symm.trans h
    cases h
def f_L_letter (S : List fw_Sh) (M : fw_Mem) (a0 : Nat) (x1 : Int32) (x2 : Int32) (a3 : Nat) : Option (Int32 × fw_Mem) := gd (gO S 9 a0) (b1 (f_X9_letter S M a0 x1 x2) (fun v => bx v (fun u => gd (gA S 2 a3 0) (bm (fw_set M a3 0 u) (fun M9 => some (0, M9)))) (fun E => if E = exN then some (1, M) else none)))
theorem cal_L_letter : fw_cal yL_letter (.codeWith yL_letter cL_letter 5 (some .int) [(0, 10, 13, 18)]) 4 := ⟨wc_yL_letter, wini_L, by decide, by decide, by decide +kernel⟩
set_option maxHeartbeats 4000000 in
set_option maxRecDepth 100000 in
theorem c_L_letter {l : Launch} {G : fw_G} {S : List fw_Sh} {M : fw_Mem} {a0 : Nat} {x1 : Int32} {x2 : Int32} {a3 : Nat} {r : Int32 × fw_Mem} (hl : l.stackTraces = false) (h : f_L_letter S M a0 x1 x2 a3 = some r) : fw_MW l G yL_letter (.codeWith yL_letter cL_letter 5 (some .int) [(0, 10, 13, 18)]) 8 S M [.ref a0, .int x1, .int x2, .ref a3] r.1 r.2 := by
  refine fw_ofH [(0, .ref a0), (1, .int x1), (2, .int x2), (3, .ref a3)] (by decide) (Nat.le_of_ble_eq_true rfl) rfl ?_
  intro p e s m args below meth c C hr hlk htab
  unfold f_L_letter at h
  refine fw_aload_n C 3 dL_letter_0 rfl rfl ?_
  refine fw_iconst C 0 dL_letter_1 rfl ?_
  refine fw_aload_n C 0 dL_letter_2 rfl rfl ?_
  refine fw_iload_n C 1 dL_letter_3 rfl rfl ?_
  refine fw_iload_n C 2 dL_letter_4 rfl rfl ?_
  obtain ⟨g0, h⟩ := gd_some h
  obtain ⟨v, ev, h⟩ := b1_some h
  rcases v with u | E
  · replace h := bx_l h
    refine fw_callV (ci := 9) [_, _] C (c_X9_letter hl ev) cal_X9_letter wm_L_20 wi_yX9_letter wsl_yX9_letter (Nat.le_of_ble_eq_true rfl) rfl (gO_of g0) rfl (Nat.le_of_ble_eq_true rfl) ⟨Nat.le_of_ble_eq_true rfl, Nat.le_of_ble_eq_true rfl⟩ ⟨Nat.le_of_ble_eq_true rfl, Nat.le_of_ble_eq_true rfl⟩ dL_letter_5 ?_
    refine fw_i2l C dL_letter_8 ?_
    obtain ⟨g1, h⟩ := gd_some h
    refine fw_last (x := _) C (gA_of g1) dL_letter_9 ?_
    refine fw_bm h (fun M9 h => ?_)
    refine fw_goto C 17 dL_letter_10 (by decide) ?_
    refine fw_iconst C 0 dL_letter_17 rfl ?_
    obtain rfl := Option.some.inj h
    refine fw_widen (k := 1) (n := 6) (Nat.le_of_ble_eq_true rfl) (Nat.le_of_ble_eq_true rfl) ?_
    exact fw_iret C hr hlk dL_letter_18
  · replace h := bx_r h
    by_cases c0 : E = exN
    · replace h := (if_pos c0).symm.trans h
      subst c0
      obtain rfl := Option.some.inj h
      intro H locs ls hv hR hV
      exact fw_goesH C (fw_runV (ci := 9) C (c_X9_letter hl ev) cal_X9_letter wm_L_20 wi_yX9_letter wsl_yX9_letter (Nat.le_of_ble_eq_true rfl) rfl (gO_of g0) rfl (Nat.le_of_ble_eq_true rfl) ⟨Nat.le_of_ble_eq_true rfl, Nat.le_of_ble_eq_true rfl⟩ ⟨Nat.le_of_ble_eq_true rfl, Nat.le_of_ble_eq_true rfl⟩ dL_letter_5 hv hR hV) hV [] (⟨0, 10, 13, 18⟩ : ExceptionTableEntry) [] htab (fun z hz => nomatch hz) rfl (by decide) (C.1.2.2.2.2 _ wcl_L_18) (va_Nw.use rfl (C.2.2.2.2.2.1.2 _ (List.mem_of_getElem? (i := 1) rfl))) (fun H1 locs1 q hR1 hV1 => fw_hand C hr hlk hv hR1 hV1 (Nat.le_of_ble_eq_true rfl) dL_letter_13 dL_letter_15 dL_letter_16 rfl)
    replace h := (if_neg c0).symm.trans h
    cases h
def f_L_link (S : List fw_Sh) (M : fw_Mem) (a0 : Nat) (x1 : Int32) (x2 : Int32) (a3 : Nat) : Option (Int32 × fw_Mem) := gd (gO S 9 a0) (b1 (f_X9_link S M a0 x1 x2) (fun v => bx v (fun u => gd (gA S 2 a3 0) (bm (fw_set M a3 0 u) (fun M9 => some (0, M9)))) (fun E => if E = exN then some (1, M) else none)))
theorem cal_L_link : fw_cal yL_link (.codeWith yL_link cL_link 5 (some .int) [(0, 10, 13, 18)]) 4 := ⟨wc_yL_link, wini_L, by decide, by decide, by decide +kernel⟩
set_option maxHeartbeats 4000000 in
set_option maxRecDepth 100000 in
theorem c_L_link {l : Launch} {G : fw_G} {S : List fw_Sh} {M : fw_Mem} {a0 : Nat} {x1 : Int32} {x2 : Int32} {a3 : Nat} {r : Int32 × fw_Mem} (hl : l.stackTraces = false) (h : f_L_link S M a0 x1 x2 a3 = some r) : fw_MW l G yL_link (.codeWith yL_link cL_link 5 (some .int) [(0, 10, 13, 18)]) 8 S M [.ref a0, .int x1, .int x2, .ref a3] r.1 r.2 := by
  refine fw_ofH [(0, .ref a0), (1, .int x1), (2, .int x2), (3, .ref a3)] (by decide) (Nat.le_of_ble_eq_true rfl) rfl ?_
  intro p e s m args below meth c C hr hlk htab
  unfold f_L_link at h
  refine fw_aload_n C 3 dL_link_0 rfl rfl ?_
  refine fw_iconst C 0 dL_link_1 rfl ?_
  refine fw_aload_n C 0 dL_link_2 rfl rfl ?_
  refine fw_iload_n C 1 dL_link_3 rfl rfl ?_
  refine fw_iload_n C 2 dL_link_4 rfl rfl ?_
  obtain ⟨g0, h⟩ := gd_some h
  obtain ⟨v, ev, h⟩ := b1_some h
  rcases v with u | E
  · replace h := bx_l h
    refine fw_callV (ci := 9) [_, _] C (c_X9_link hl ev) cal_X9_link wm_L_24 wi_yX9_link wsl_yX9_link (Nat.le_of_ble_eq_true rfl) rfl (gO_of g0) rfl (Nat.le_of_ble_eq_true rfl) ⟨Nat.le_of_ble_eq_true rfl, Nat.le_of_ble_eq_true rfl⟩ ⟨Nat.le_of_ble_eq_true rfl, Nat.le_of_ble_eq_true rfl⟩ dL_link_5 ?_
    refine fw_i2l C dL_link_8 ?_
    obtain ⟨g1, h⟩ := gd_some h
    refine fw_last (x := _) C (gA_of g1) dL_link_9 ?_
    refine fw_bm h (fun M9 h => ?_)
    refine fw_goto C 17 dL_link_10 (by decide) ?_
    refine fw_iconst C 0 dL_link_17 rfl ?_
    obtain rfl := Option.some.inj h
    refine fw_widen (k := 1) (n := 6) (Nat.le_of_ble_eq_true rfl) (Nat.le_of_ble_eq_true rfl) ?_
    exact fw_iret C hr hlk dL_link_18
  · replace h := bx_r h
    by_cases c0 : E = exN
    · replace h := (if_pos c0).symm.trans h
      subst c0
      obtain rfl := Option.some.inj h
      intro H locs ls hv hR hV
      exact fw_goesH C (fw_runV (ci := 9) C (c_X9_link hl ev) cal_X9_link wm_L_24 wi_yX9_link wsl_yX9_link (Nat.le_of_ble_eq_true rfl) rfl (gO_of g0) rfl (Nat.le_of_ble_eq_true rfl) ⟨Nat.le_of_ble_eq_true rfl, Nat.le_of_ble_eq_true rfl⟩ ⟨Nat.le_of_ble_eq_true rfl, Nat.le_of_ble_eq_true rfl⟩ dL_link_5 hv hR hV) hV [] (⟨0, 10, 13, 18⟩ : ExceptionTableEntry) [] htab (fun z hz => nomatch hz) rfl (by decide) (C.1.2.2.2.2 _ wcl_L_18) (va_Nw.use rfl (C.2.2.2.2.2.1.2 _ (List.mem_of_getElem? (i := 1) rfl))) (fun H1 locs1 q hR1 hV1 => fw_hand C hr hlk hv hR1 hV1 (Nat.le_of_ble_eq_true rfl) dL_link_13 dL_link_15 dL_link_16 rfl)
    replace h := (if_neg c0).symm.trans h
    cases h
def f_L_suit (S : List fw_Sh) (M : fw_Mem) (a0 : Nat) (x1 : Int32) (x2 : Int32) (a3 : Nat) : Option (Int32 × fw_Mem) := gd (gO S 9 a0) (b1 (f_X9_suit S M a0 x1 x2) (fun v => bx v (fun u => gd (gA S 2 a3 0) (bm (fw_set M a3 0 u) (fun M9 => some (0, M9)))) (fun E => if E = exN then some (1, M) else none)))
theorem cal_L_suit : fw_cal yL_suit (.codeWith yL_suit cL_suit 5 (some .int) [(0, 10, 13, 18)]) 4 := ⟨wc_yL_suit, wini_L, by decide, by decide, by decide +kernel⟩
set_option maxHeartbeats 4000000 in
set_option maxRecDepth 100000 in
theorem c_L_suit {l : Launch} {G : fw_G} {S : List fw_Sh} {M : fw_Mem} {a0 : Nat} {x1 : Int32} {x2 : Int32} {a3 : Nat} {r : Int32 × fw_Mem} (hl : l.stackTraces = false) (h : f_L_suit S M a0 x1 x2 a3 = some r) : fw_MW l G yL_suit (.codeWith yL_suit cL_suit 5 (some .int) [(0, 10, 13, 18)]) 8 S M [.ref a0, .int x1, .int x2, .ref a3] r.1 r.2 := by
  refine fw_ofH [(0, .ref a0), (1, .int x1), (2, .int x2), (3, .ref a3)] (by decide) (Nat.le_of_ble_eq_true rfl) rfl ?_
  intro p e s m args below meth c C hr hlk htab
  unfold f_L_suit at h
  refine fw_aload_n C 3 dL_suit_0 rfl rfl ?_
  refine fw_iconst C 0 dL_suit_1 rfl ?_
  refine fw_aload_n C 0 dL_suit_2 rfl rfl ?_
  refine fw_iload_n C 1 dL_suit_3 rfl rfl ?_
  refine fw_iload_n C 2 dL_suit_4 rfl rfl ?_
  obtain ⟨g0, h⟩ := gd_some h
  obtain ⟨v, ev, h⟩ := b1_some h
  rcases v with u | E
  · replace h := bx_l h
    refine fw_callV (ci := 9) [_, _] C (c_X9_suit hl ev) cal_X9_suit wm_L_27 wi_yX9_suit wsl_yX9_suit (Nat.le_of_ble_eq_true rfl) rfl (gO_of g0) rfl (Nat.le_of_ble_eq_true rfl) ⟨Nat.le_of_ble_eq_true rfl, Nat.le_of_ble_eq_true rfl⟩ ⟨Nat.le_of_ble_eq_true rfl, Nat.le_of_ble_eq_true rfl⟩ dL_suit_5 ?_
    refine fw_i2l C dL_suit_8 ?_
    obtain ⟨g1, h⟩ := gd_some h
    refine fw_last (x := _) C (gA_of g1) dL_suit_9 ?_
    refine fw_bm h (fun M9 h => ?_)
    refine fw_goto C 17 dL_suit_10 (by decide) ?_
    refine fw_iconst C 0 dL_suit_17 rfl ?_
    obtain rfl := Option.some.inj h
    refine fw_widen (k := 1) (n := 6) (Nat.le_of_ble_eq_true rfl) (Nat.le_of_ble_eq_true rfl) ?_
    exact fw_iret C hr hlk dL_suit_18
  · replace h := bx_r h
    by_cases c0 : E = exN
    · replace h := (if_pos c0).symm.trans h
      subst c0
      obtain rfl := Option.some.inj h
      intro H locs ls hv hR hV
      exact fw_goesH C (fw_runV (ci := 9) C (c_X9_suit hl ev) cal_X9_suit wm_L_27 wi_yX9_suit wsl_yX9_suit (Nat.le_of_ble_eq_true rfl) rfl (gO_of g0) rfl (Nat.le_of_ble_eq_true rfl) ⟨Nat.le_of_ble_eq_true rfl, Nat.le_of_ble_eq_true rfl⟩ ⟨Nat.le_of_ble_eq_true rfl, Nat.le_of_ble_eq_true rfl⟩ dL_suit_5 hv hR hV) hV [] (⟨0, 10, 13, 18⟩ : ExceptionTableEntry) [] htab (fun z hz => nomatch hz) rfl (by decide) (C.1.2.2.2.2 _ wcl_L_18) (va_Nw.use rfl (C.2.2.2.2.2.1.2 _ (List.mem_of_getElem? (i := 1) rfl))) (fun H1 locs1 q hR1 hV1 => fw_hand C hr hlk hv hR1 hV1 (Nat.le_of_ble_eq_true rfl) dL_suit_13 dL_suit_15 dL_suit_16 rfl)
    replace h := (if_neg c0).symm.trans h
    cases h
def f_L_isBound (S : List fw_Sh) (M : fw_Mem) (a0 : Nat) (x1 : Int32) (x2 : Int32) (x3 : Int32) (a4 : Nat) : Option (Int32 × fw_Mem) := gd (gO S 9 a0) (b1 (f_X9_isBound S M a0 x1 x2 x3) (fun v => bx v (fun u => if u = 0 then (gd (gA S 2 a4 0) (bm (fw_set M a4 0 0) (fun M9 => some (0, M9)))) else (gd (gA S 2 a4 0) (bm (fw_set M a4 0 1) (fun M9 => some (0, M9))))) (fun E => if E = exN then some (1, M) else none)))
theorem cal_L_isBound : fw_cal yL_isBound (.codeWith yL_isBound cL_isBound 6 (some .int) [(0, 19, 22, 18)]) 5 := ⟨wc_yL_isBound, wini_L, by decide, by decide, by decide +kernel⟩
set_option maxHeartbeats 4000000 in
set_option maxRecDepth 100000 in
theorem c_L_isBound {l : Launch} {G : fw_G} {S : List fw_Sh} {M : fw_Mem} {a0 : Nat} {x1 : Int32} {x2 : Int32} {x3 : Int32} {a4 : Nat} {r : Int32 × fw_Mem} (hl : l.stackTraces = false) (h : f_L_isBound S M a0 x1 x2 x3 a4 = some r) : fw_MW l G yL_isBound (.codeWith yL_isBound cL_isBound 6 (some .int) [(0, 19, 22, 18)]) 8 S M [.ref a0, .int x1, .int x2, .int x3, .ref a4] r.1 r.2 := by
  refine fw_ofH [(0, .ref a0), (1, .int x1), (2, .int x2), (3, .int x3), (4, .ref a4)] (by decide) (Nat.le_of_ble_eq_true rfl) rfl ?_
  intro p e s m args below meth c C hr hlk htab
  unfold f_L_isBound at h
  refine fw_aload C 4 dL_isBound_0 rfl ?_
  refine fw_iconst C 0 dL_isBound_2 rfl ?_
  refine fw_aload_n C 0 dL_isBound_3 rfl rfl ?_
  refine fw_iload_n C 1 dL_isBound_4 rfl rfl ?_
  refine fw_iload_n C 2 dL_isBound_5 rfl rfl ?_
  refine fw_iload_n C 3 dL_isBound_6 rfl rfl ?_
  obtain ⟨g0, h⟩ := gd_some h
  obtain ⟨v, ev, h⟩ := b1_some h
  rcases v with u | E
  · replace h := bx_l h
    refine fw_callV (ci := 9) [_, _, _] C (c_X9_isBound hl ev) cal_X9_isBound wm_L_30 wi_yX9_isBound wsl_yX9_isBound (Nat.le_of_ble_eq_true rfl) rfl (gO_of g0) rfl (Nat.le_of_ble_eq_true rfl) ⟨Nat.le_of_ble_eq_true rfl, Nat.le_of_ble_eq_true rfl⟩ ⟨Nat.le_of_ble_eq_true rfl, Nat.le_of_ble_eq_true rfl⟩ dL_isBound_7 ?_
    refine fw_if_eq C 17 dL_isBound_10 (by decide) (fun c1 => ?_) (fun c1 => ?_)
    · replace h := (if_pos c1).symm.trans h
      refine fw_lconst C ((0 : Int32).toInt64) dL_isBound_17 rfl ?_
      obtain ⟨g1, h⟩ := gd_some h
      refine fw_last (x := 0) C (gA_of g1) dL_isBound_18 ?_
      refine fw_bm h (fun M9 h => ?_)
      refine fw_goto C 26 dL_isBound_19 (by decide) ?_
      refine fw_iconst C 0 dL_isBound_26 rfl ?_
      obtain rfl := Option.some.inj h
      refine fw_widen (k := 1) (n := 6) (Nat.le_of_ble_eq_true rfl) (Nat.le_of_ble_eq_true rfl) ?_
      exact fw_iret C hr hlk dL_isBound_27
    · replace h := (if_neg c1).symm.trans h
      refine fw_lconst C ((1 : Int32).toInt64) dL_isBound_13 rfl ?_
      refine fw_goto C 18 dL_isBound_14 (by decide) ?_
      obtain ⟨g1, h⟩ := gd_some h
      refine fw_last (x := 1) C (gA_of g1) dL_isBound_18 ?_
      refine fw_bm h (fun M9 h => ?_)
      refine fw_goto C 26 dL_isBound_19 (by decide) ?_
      refine fw_iconst C 0 dL_isBound_26 rfl ?_
      obtain rfl := Option.some.inj h
      refine fw_widen (k := 1) (n := 6) (Nat.le_of_ble_eq_true rfl) (Nat.le_of_ble_eq_true rfl) ?_
      exact fw_iret C hr hlk dL_isBound_27
  · replace h := bx_r h
    by_cases c0 : E = exN
    · replace h := (if_pos c0).symm.trans h
      subst c0
      obtain rfl := Option.some.inj h
      intro H locs ls hv hR hV
      exact fw_goesH C (fw_runV (ci := 9) C (c_X9_isBound hl ev) cal_X9_isBound wm_L_30 wi_yX9_isBound wsl_yX9_isBound (Nat.le_of_ble_eq_true rfl) rfl (gO_of g0) rfl (Nat.le_of_ble_eq_true rfl) ⟨Nat.le_of_ble_eq_true rfl, Nat.le_of_ble_eq_true rfl⟩ ⟨Nat.le_of_ble_eq_true rfl, Nat.le_of_ble_eq_true rfl⟩ dL_isBound_7 hv hR hV) hV [] (⟨0, 19, 22, 18⟩ : ExceptionTableEntry) [] htab (fun z hz => nomatch hz) rfl (by decide) (C.1.2.2.2.2 _ wcl_L_18) (va_Nw.use rfl (C.2.2.2.2.2.1.2 _ (List.mem_of_getElem? (i := 1) rfl))) (fun H1 locs1 q hR1 hV1 => fw_hand C hr hlk hv hR1 hV1 (Nat.le_of_ble_eq_true rfl) dL_isBound_22 dL_isBound_24 dL_isBound_25 rfl)
    replace h := (if_neg c0).symm.trans h
    cases h
def f_L_chain (S : List fw_Sh) (M : fw_Mem) (a0 : Nat) (x1 : Int32) (x2 : Int32) (x3 : Int32) (x4 : Int32) (a5 : Nat) : Option (Int32 × fw_Mem) := gd (gO S 9 a0) (b2 (f_X9_chain S M a0 x1 x2 x3 x4) (fun v M1 => bx v (fun u => gd (gA S 2 a5 0) (bm (fw_set M1 a5 0 u) (fun M9 => some (0, M9)))) (fun E => if E = exN then some (1, M1) else none)))
theorem cal_L_chain : fw_cal yL_chain (.codeWith yL_chain cL_chain 7 (some .int) [(0, 14, 17, 18)]) 6 := ⟨wc_yL_chain, wini_L, by decide, by decide, by decide +kernel⟩
set_option maxHeartbeats 4000000 in
set_option maxRecDepth 100000 in
theorem c_L_chain {l : Launch} {G : fw_G} {S : List fw_Sh} {M : fw_Mem} {a0 : Nat} {x1 : Int32} {x2 : Int32} {x3 : Int32} {x4 : Int32} {a5 : Nat} {r : Int32 × fw_Mem} (hl : l.stackTraces = false) (h : f_L_chain S M a0 x1 x2 x3 x4 a5 = some r) : fw_MW l G yL_chain (.codeWith yL_chain cL_chain 7 (some .int) [(0, 14, 17, 18)]) 8 S M [.ref a0, .int x1, .int x2, .int x3, .int x4, .ref a5] r.1 r.2 := by
  refine fw_ofH [(0, .ref a0), (1, .int x1), (2, .int x2), (3, .int x3), (4, .int x4), (5, .ref a5)] (by decide) (Nat.le_of_ble_eq_true rfl) rfl ?_
  intro p e s m args below meth c C hr hlk htab
  unfold f_L_chain at h
  refine fw_aload C 5 dL_chain_0 rfl ?_
  refine fw_iconst C 0 dL_chain_2 rfl ?_
  refine fw_aload_n C 0 dL_chain_3 rfl rfl ?_
  refine fw_iload_n C 1 dL_chain_4 rfl rfl ?_
  refine fw_iload_n C 2 dL_chain_5 rfl rfl ?_
  refine fw_iload_n C 3 dL_chain_6 rfl rfl ?_
  refine fw_iload C 4 dL_chain_7 rfl ?_
  obtain ⟨g0, h⟩ := gd_some h
  obtain ⟨v, M1, ev, h⟩ := b2_some h
  rcases v with u | E
  · replace h := bx_l h
    refine fw_callV (ci := 9) [_, _, _, _] C (c_X9_chain hl ev) cal_X9_chain wm_L_34 wi_yX9_chain wsl_yX9_chain (Nat.le_of_ble_eq_true rfl) rfl (gO_of g0) rfl (Nat.le_of_ble_eq_true rfl) ⟨Nat.le_of_ble_eq_true rfl, Nat.le_of_ble_eq_true rfl⟩ ⟨Nat.le_of_ble_eq_true rfl, Nat.le_of_ble_eq_true rfl⟩ dL_chain_9 ?_
    refine fw_i2l C dL_chain_12 ?_
    obtain ⟨g1, h⟩ := gd_some h
    refine fw_last (x := _) C (gA_of g1) dL_chain_13 ?_
    refine fw_bm h (fun M9 h => ?_)
    refine fw_goto C 21 dL_chain_14 (by decide) ?_
    refine fw_iconst C 0 dL_chain_21 rfl ?_
    obtain rfl := Option.some.inj h
    refine fw_widen (k := 1) (n := 6) (Nat.le_of_ble_eq_true rfl) (Nat.le_of_ble_eq_true rfl) ?_
    exact fw_iret C hr hlk dL_chain_22
  · replace h := bx_r h
    by_cases c0 : E = exN
    · replace h := (if_pos c0).symm.trans h
      subst c0
      obtain rfl := Option.some.inj h
      intro H locs ls hv hR hV
      exact fw_goesH C (fw_runV (ci := 9) C (c_X9_chain hl ev) cal_X9_chain wm_L_34 wi_yX9_chain wsl_yX9_chain (Nat.le_of_ble_eq_true rfl) rfl (gO_of g0) rfl (Nat.le_of_ble_eq_true rfl) ⟨Nat.le_of_ble_eq_true rfl, Nat.le_of_ble_eq_true rfl⟩ ⟨Nat.le_of_ble_eq_true rfl, Nat.le_of_ble_eq_true rfl⟩ dL_chain_9 hv hR hV) hV [] (⟨0, 14, 17, 18⟩ : ExceptionTableEntry) [] htab (fun z hz => nomatch hz) rfl (by decide) (C.1.2.2.2.2 _ wcl_L_18) (va_Nw.use rfl (C.2.2.2.2.2.1.2 _ (List.mem_of_getElem? (i := 1) rfl))) (fun H1 locs1 q hR1 hV1 => fw_hand C hr hlk hv hR1 hV1 (Nat.le_of_ble_eq_true rfl) dL_chain_17 dL_chain_19 dL_chain_20 rfl)
    replace h := (if_neg c0).symm.trans h
    cases h
def f_L_two (S : List fw_Sh) (M : fw_Mem) (a0 : Nat) (x1 : Int32) (x2 : Int32) (x3 : Int32) (a4 : Nat) : Option (Int32 × fw_Mem) := gd (gO S 9 a0) (b2 (f_X9_two S M a0 x1 x2 x3) (fun v M1 => bx v (fun u => gd (gA S 2 a4 0) (bm (fw_set M1 a4 0 u) (fun M9 => some (0, M9)))) (fun E => if E = exN then some (1, M1) else none)))
theorem cal_L_two : fw_cal yL_two (.codeWith yL_two cL_two 6 (some .int) [(0, 12, 15, 18)]) 5 := ⟨wc_yL_two, wini_L, by decide, by decide, by decide +kernel⟩
set_option maxHeartbeats 4000000 in
set_option maxRecDepth 100000 in
theorem c_L_two {l : Launch} {G : fw_G} {S : List fw_Sh} {M : fw_Mem} {a0 : Nat} {x1 : Int32} {x2 : Int32} {x3 : Int32} {a4 : Nat} {r : Int32 × fw_Mem} (hl : l.stackTraces = false) (h : f_L_two S M a0 x1 x2 x3 a4 = some r) : fw_MW l G yL_two (.codeWith yL_two cL_two 6 (some .int) [(0, 12, 15, 18)]) 8 S M [.ref a0, .int x1, .int x2, .int x3, .ref a4] r.1 r.2 := by
  refine fw_ofH [(0, .ref a0), (1, .int x1), (2, .int x2), (3, .int x3), (4, .ref a4)] (by decide) (Nat.le_of_ble_eq_true rfl) rfl ?_
  intro p e s m args below meth c C hr hlk htab
  unfold f_L_two at h
  refine fw_aload C 4 dL_two_0 rfl ?_
  refine fw_iconst C 0 dL_two_2 rfl ?_
  refine fw_aload_n C 0 dL_two_3 rfl rfl ?_
  refine fw_iload_n C 1 dL_two_4 rfl rfl ?_
  refine fw_iload_n C 2 dL_two_5 rfl rfl ?_
  refine fw_iload_n C 3 dL_two_6 rfl rfl ?_
  obtain ⟨g0, h⟩ := gd_some h
  obtain ⟨v, M1, ev, h⟩ := b2_some h
  rcases v with u | E
  · replace h := bx_l h
    refine fw_callV (ci := 9) [_, _, _] C (c_X9_two hl ev) cal_X9_two wm_L_38 wi_yX9_two wsl_yX9_two (Nat.le_of_ble_eq_true rfl) rfl (gO_of g0) rfl (Nat.le_of_ble_eq_true rfl) ⟨Nat.le_of_ble_eq_true rfl, Nat.le_of_ble_eq_true rfl⟩ ⟨Nat.le_of_ble_eq_true rfl, Nat.le_of_ble_eq_true rfl⟩ dL_two_7 ?_
    refine fw_i2l C dL_two_10 ?_
    obtain ⟨g1, h⟩ := gd_some h
    refine fw_last (x := _) C (gA_of g1) dL_two_11 ?_
    refine fw_bm h (fun M9 h => ?_)
    refine fw_goto C 19 dL_two_12 (by decide) ?_
    refine fw_iconst C 0 dL_two_19 rfl ?_
    obtain rfl := Option.some.inj h
    refine fw_widen (k := 1) (n := 6) (Nat.le_of_ble_eq_true rfl) (Nat.le_of_ble_eq_true rfl) ?_
    exact fw_iret C hr hlk dL_two_20
  · replace h := bx_r h
    by_cases c0 : E = exN
    · replace h := (if_pos c0).symm.trans h
      subst c0
      obtain rfl := Option.some.inj h
      intro H locs ls hv hR hV
      exact fw_goesH C (fw_runV (ci := 9) C (c_X9_two hl ev) cal_X9_two wm_L_38 wi_yX9_two wsl_yX9_two (Nat.le_of_ble_eq_true rfl) rfl (gO_of g0) rfl (Nat.le_of_ble_eq_true rfl) ⟨Nat.le_of_ble_eq_true rfl, Nat.le_of_ble_eq_true rfl⟩ ⟨Nat.le_of_ble_eq_true rfl, Nat.le_of_ble_eq_true rfl⟩ dL_two_7 hv hR hV) hV [] (⟨0, 12, 15, 18⟩ : ExceptionTableEntry) [] htab (fun z hz => nomatch hz) rfl (by decide) (C.1.2.2.2.2 _ wcl_L_18) (va_Nw.use rfl (C.2.2.2.2.2.1.2 _ (List.mem_of_getElem? (i := 1) rfl))) (fun H1 locs1 q hR1 hV1 => fw_hand C hr hlk hv hR1 hV1 (Nat.le_of_ble_eq_true rfl) dL_two_15 dL_two_17 dL_two_18 rfl)
    replace h := (if_neg c0).symm.trans h
    cases h
def f_L_barred (S : List fw_Sh) (M : fw_Mem) (a0 : Nat) (x1 : Int32) (a2 : Nat) : Option (Int32 × fw_Mem) := gd (gO S 9 a0) (b1 (f_X9_barred S M a0 x1) (fun v => bx v (fun u => gd (gA S 2 a2 0) (bm (fw_set M a2 0 u) (fun M9 => some (0, M9)))) (fun E => if E = exN then some (1, M) else none)))
theorem cal_L_barred : fw_cal yL_barred (.codeWith yL_barred cL_barred 4 (some .int) [(0, 9, 12, 18)]) 3 := ⟨wc_yL_barred, wini_L, by decide, by decide, by decide +kernel⟩
set_option maxHeartbeats 4000000 in
set_option maxRecDepth 100000 in
theorem c_L_barred {l : Launch} {G : fw_G} {S : List fw_Sh} {M : fw_Mem} {a0 : Nat} {x1 : Int32} {a2 : Nat} {r : Int32 × fw_Mem} (hl : l.stackTraces = false) (h : f_L_barred S M a0 x1 a2 = some r) : fw_MW l G yL_barred (.codeWith yL_barred cL_barred 4 (some .int) [(0, 9, 12, 18)]) 8 S M [.ref a0, .int x1, .ref a2] r.1 r.2 := by
  refine fw_ofH [(0, .ref a0), (1, .int x1), (2, .ref a2)] (by decide) (Nat.le_of_ble_eq_true rfl) rfl ?_
  intro p e s m args below meth c C hr hlk htab
  unfold f_L_barred at h
  refine fw_aload_n C 2 dL_barred_0 rfl rfl ?_
  refine fw_iconst C 0 dL_barred_1 rfl ?_
  refine fw_aload_n C 0 dL_barred_2 rfl rfl ?_
  refine fw_iload_n C 1 dL_barred_3 rfl rfl ?_
  obtain ⟨g0, h⟩ := gd_some h
  obtain ⟨v, ev, h⟩ := b1_some h
  rcases v with u | E
  · replace h := bx_l h
    refine fw_callV (ci := 9) [_] C (c_X9_barred hl ev) cal_X9_barred wm_L_42 wi_yX9_barred wsl_yX9_barred (Nat.le_of_ble_eq_true rfl) rfl (gO_of g0) rfl (Nat.le_of_ble_eq_true rfl) ⟨Nat.le_of_ble_eq_true rfl, Nat.le_of_ble_eq_true rfl⟩ ⟨Nat.le_of_ble_eq_true rfl, Nat.le_of_ble_eq_true rfl⟩ dL_barred_4 ?_
    refine fw_i2l C dL_barred_7 ?_
    obtain ⟨g1, h⟩ := gd_some h
    refine fw_last (x := _) C (gA_of g1) dL_barred_8 ?_
    refine fw_bm h (fun M9 h => ?_)
    refine fw_goto C 15 dL_barred_9 (by decide) ?_
    refine fw_iconst C 0 dL_barred_15 rfl ?_
    obtain rfl := Option.some.inj h
    refine fw_widen (k := 1) (n := 6) (Nat.le_of_ble_eq_true rfl) (Nat.le_of_ble_eq_true rfl) ?_
    exact fw_iret C hr hlk dL_barred_16
  · replace h := bx_r h
    by_cases c0 : E = exN
    · replace h := (if_pos c0).symm.trans h
      subst c0
      obtain rfl := Option.some.inj h
      intro H locs ls hv hR hV
      exact fw_goesH C (fw_runV (ci := 9) C (c_X9_barred hl ev) cal_X9_barred wm_L_42 wi_yX9_barred wsl_yX9_barred (Nat.le_of_ble_eq_true rfl) rfl (gO_of g0) rfl (Nat.le_of_ble_eq_true rfl) ⟨Nat.le_of_ble_eq_true rfl, Nat.le_of_ble_eq_true rfl⟩ ⟨Nat.le_of_ble_eq_true rfl, Nat.le_of_ble_eq_true rfl⟩ dL_barred_4 hv hR hV) hV [] (⟨0, 9, 12, 18⟩ : ExceptionTableEntry) [] htab (fun z hz => nomatch hz) rfl (by decide) (C.1.2.2.2.2 _ wcl_L_18) (va_Nw.use rfl (C.2.2.2.2.2.1.2 _ (List.mem_of_getElem? (i := 1) rfl))) (fun H1 locs1 q hR1 hV1 => fw_hand_n C hr hlk hv hR1 hV1 rfl (Nat.le_of_ble_eq_true rfl) dL_barred_12 dL_barred_13 dL_barred_14 rfl)
    replace h := (if_neg c0).symm.trans h
    cases h
def f_L_held (S : List fw_Sh) (M : fw_Mem) (a0 : Nat) (x1 : Int32) (x2 : Int32) (x3 : Int32) (a4 : Nat) : Option (Int32 × fw_Mem) := gd (gO S 9 a0) (b2 (f_X9_held S M a0 x1 x2 x3) (fun v M1 => bx v (fun u => gd (gA S 2 a4 0) (bm (fw_set M1 a4 0 u) (fun M9 => some (0, M9)))) (fun E => if E = exN then some (1, M1) else none)))
theorem cal_L_held : fw_cal yL_held (.codeWith yL_held cL_held 6 (some .int) [(0, 12, 15, 18)]) 5 := ⟨wc_yL_held, wini_L, by decide, by decide, by decide +kernel⟩
set_option maxHeartbeats 4000000 in
set_option maxRecDepth 100000 in
theorem c_L_held {l : Launch} {G : fw_G} {S : List fw_Sh} {M : fw_Mem} {a0 : Nat} {x1 : Int32} {x2 : Int32} {x3 : Int32} {a4 : Nat} {r : Int32 × fw_Mem} (hl : l.stackTraces = false) (h : f_L_held S M a0 x1 x2 x3 a4 = some r) : fw_MW l G yL_held (.codeWith yL_held cL_held 6 (some .int) [(0, 12, 15, 18)]) 8 S M [.ref a0, .int x1, .int x2, .int x3, .ref a4] r.1 r.2 := by
  refine fw_ofH [(0, .ref a0), (1, .int x1), (2, .int x2), (3, .int x3), (4, .ref a4)] (by decide) (Nat.le_of_ble_eq_true rfl) rfl ?_
  intro p e s m args below meth c C hr hlk htab
  unfold f_L_held at h
  refine fw_aload C 4 dL_held_0 rfl ?_
  refine fw_iconst C 0 dL_held_2 rfl ?_
  refine fw_aload_n C 0 dL_held_3 rfl rfl ?_
  refine fw_iload_n C 1 dL_held_4 rfl rfl ?_
  refine fw_iload_n C 2 dL_held_5 rfl rfl ?_
  refine fw_iload_n C 3 dL_held_6 rfl rfl ?_
  obtain ⟨g0, h⟩ := gd_some h
  obtain ⟨v, M1, ev, h⟩ := b2_some h
  rcases v with u | E
  · replace h := bx_l h
    refine fw_callV (ci := 9) [_, _, _] C (c_X9_held hl ev) cal_X9_held wm_L_45 wi_yX9_held wsl_yX9_held (Nat.le_of_ble_eq_true rfl) rfl (gO_of g0) rfl (Nat.le_of_ble_eq_true rfl) ⟨Nat.le_of_ble_eq_true rfl, Nat.le_of_ble_eq_true rfl⟩ ⟨Nat.le_of_ble_eq_true rfl, Nat.le_of_ble_eq_true rfl⟩ dL_held_7 ?_
    refine fw_i2l C dL_held_10 ?_
    obtain ⟨g1, h⟩ := gd_some h
    refine fw_last (x := _) C (gA_of g1) dL_held_11 ?_
    refine fw_bm h (fun M9 h => ?_)
    refine fw_goto C 19 dL_held_12 (by decide) ?_
    refine fw_iconst C 0 dL_held_19 rfl ?_
    obtain rfl := Option.some.inj h
    refine fw_widen (k := 1) (n := 6) (Nat.le_of_ble_eq_true rfl) (Nat.le_of_ble_eq_true rfl) ?_
    exact fw_iret C hr hlk dL_held_20
  · replace h := bx_r h
    by_cases c0 : E = exN
    · replace h := (if_pos c0).symm.trans h
      subst c0
      obtain rfl := Option.some.inj h
      intro H locs ls hv hR hV
      exact fw_goesH C (fw_runV (ci := 9) C (c_X9_held hl ev) cal_X9_held wm_L_45 wi_yX9_held wsl_yX9_held (Nat.le_of_ble_eq_true rfl) rfl (gO_of g0) rfl (Nat.le_of_ble_eq_true rfl) ⟨Nat.le_of_ble_eq_true rfl, Nat.le_of_ble_eq_true rfl⟩ ⟨Nat.le_of_ble_eq_true rfl, Nat.le_of_ble_eq_true rfl⟩ dL_held_7 hv hR hV) hV [] (⟨0, 12, 15, 18⟩ : ExceptionTableEntry) [] htab (fun z hz => nomatch hz) rfl (by decide) (C.1.2.2.2.2 _ wcl_L_18) (va_Nw.use rfl (C.2.2.2.2.2.1.2 _ (List.mem_of_getElem? (i := 1) rfl))) (fun H1 locs1 q hR1 hV1 => fw_hand C hr hlk hv hR1 hV1 (Nat.le_of_ble_eq_true rfl) dL_held_15 dL_held_17 dL_held_18 rfl)
    replace h := (if_neg c0).symm.trans h
    cases h
def f_L_issues (S : List fw_Sh) (M : fw_Mem) (a0 : Nat) (x1 : Int32) (x2 : Int32) (a3 : Nat) : Option (Int32 × fw_Mem) := gd (gO S 9 a0) (b2 (f_X9_issues S M a0 x1 x2) (fun v M1 => bx v (fun u => gd (gA S 2 a3 0) (bm (fw_set M1 a3 0 u) (fun M9 => some (0, M9)))) (fun E => if E = exN then some (1, M1) else none)))
theorem cal_L_issues : fw_cal yL_issues (.codeWith yL_issues cL_issues 5 (some .int) [(0, 10, 13, 18)]) 4 := ⟨wc_yL_issues, wini_L, by decide, by decide, by decide +kernel⟩
set_option maxHeartbeats 4000000 in
set_option maxRecDepth 100000 in
theorem c_L_issues {l : Launch} {G : fw_G} {S : List fw_Sh} {M : fw_Mem} {a0 : Nat} {x1 : Int32} {x2 : Int32} {a3 : Nat} {r : Int32 × fw_Mem} (hl : l.stackTraces = false) (h : f_L_issues S M a0 x1 x2 a3 = some r) : fw_MW l G yL_issues (.codeWith yL_issues cL_issues 5 (some .int) [(0, 10, 13, 18)]) 8 S M [.ref a0, .int x1, .int x2, .ref a3] r.1 r.2 := by
  refine fw_ofH [(0, .ref a0), (1, .int x1), (2, .int x2), (3, .ref a3)] (by decide) (Nat.le_of_ble_eq_true rfl) rfl ?_
  intro p e s m args below meth c C hr hlk htab
  unfold f_L_issues at h
  refine fw_aload_n C 3 dL_issues_0 rfl rfl ?_
  refine fw_iconst C 0 dL_issues_1 rfl ?_
  refine fw_aload_n C 0 dL_issues_2 rfl rfl ?_
  refine fw_iload_n C 1 dL_issues_3 rfl rfl ?_
  refine fw_iload_n C 2 dL_issues_4 rfl rfl ?_
  obtain ⟨g0, h⟩ := gd_some h
  obtain ⟨v, M1, ev, h⟩ := b2_some h
  rcases v with u | E
  · replace h := bx_l h
    refine fw_callV (ci := 9) [_, _] C (c_X9_issues hl ev) cal_X9_issues wm_L_48 wi_yX9_issues wsl_yX9_issues (Nat.le_of_ble_eq_true rfl) rfl (gO_of g0) rfl (Nat.le_of_ble_eq_true rfl) ⟨Nat.le_of_ble_eq_true rfl, Nat.le_of_ble_eq_true rfl⟩ ⟨Nat.le_of_ble_eq_true rfl, Nat.le_of_ble_eq_true rfl⟩ dL_issues_5 ?_
    refine fw_i2l C dL_issues_8 ?_
    obtain ⟨g1, h⟩ := gd_some h
    refine fw_last (x := _) C (gA_of g1) dL_issues_9 ?_
    refine fw_bm h (fun M9 h => ?_)
    refine fw_goto C 17 dL_issues_10 (by decide) ?_
    refine fw_iconst C 0 dL_issues_17 rfl ?_
    obtain rfl := Option.some.inj h
    refine fw_widen (k := 1) (n := 6) (Nat.le_of_ble_eq_true rfl) (Nat.le_of_ble_eq_true rfl) ?_
    exact fw_iret C hr hlk dL_issues_18
  · replace h := bx_r h
    by_cases c0 : E = exN
    · replace h := (if_pos c0).symm.trans h
      subst c0
      obtain rfl := Option.some.inj h
      intro H locs ls hv hR hV
      exact fw_goesH C (fw_runV (ci := 9) C (c_X9_issues hl ev) cal_X9_issues wm_L_48 wi_yX9_issues wsl_yX9_issues (Nat.le_of_ble_eq_true rfl) rfl (gO_of g0) rfl (Nat.le_of_ble_eq_true rfl) ⟨Nat.le_of_ble_eq_true rfl, Nat.le_of_ble_eq_true rfl⟩ ⟨Nat.le_of_ble_eq_true rfl, Nat.le_of_ble_eq_true rfl⟩ dL_issues_5 hv hR hV) hV [] (⟨0, 10, 13, 18⟩ : ExceptionTableEntry) [] htab (fun z hz => nomatch hz) rfl (by decide) (C.1.2.2.2.2 _ wcl_L_18) (va_Nw.use rfl (C.2.2.2.2.2.1.2 _ (List.mem_of_getElem? (i := 1) rfl))) (fun H1 locs1 q hR1 hV1 => fw_hand C hr hlk hv hR1 hV1 (Nat.le_of_ble_eq_true rfl) dL_issues_13 dL_issues_15 dL_issues_16 rfl)
    replace h := (if_neg c0).symm.trans h
    cases h
def f_L_forced (S : List fw_Sh) (M : fw_Mem) (a0 : Nat) (x1 : Int32) (a2 : Nat) : Option (Int32 × fw_Mem) := gd (gO S 9 a0) (b2 (f_X9_forced S M a0 x1) (fun v M1 => bx v (fun u => gd (gA S 2 a2 0) (bm (fw_set M1 a2 0 u) (fun M9 => some (0, M9)))) (fun E => if E = exN then some (1, M1) else none)))
theorem cal_L_forced : fw_cal yL_forced (.codeWith yL_forced cL_forced 4 (some .int) [(0, 9, 12, 18)]) 3 := ⟨wc_yL_forced, wini_L, by decide, by decide, by decide +kernel⟩
set_option maxHeartbeats 4000000 in
set_option maxRecDepth 100000 in
theorem c_L_forced {l : Launch} {G : fw_G} {S : List fw_Sh} {M : fw_Mem} {a0 : Nat} {x1 : Int32} {a2 : Nat} {r : Int32 × fw_Mem} (hl : l.stackTraces = false) (h : f_L_forced S M a0 x1 a2 = some r) : fw_MW l G yL_forced (.codeWith yL_forced cL_forced 4 (some .int) [(0, 9, 12, 18)]) 8 S M [.ref a0, .int x1, .ref a2] r.1 r.2 := by
  refine fw_ofH [(0, .ref a0), (1, .int x1), (2, .ref a2)] (by decide) (Nat.le_of_ble_eq_true rfl) rfl ?_
  intro p e s m args below meth c C hr hlk htab
  unfold f_L_forced at h
  refine fw_aload_n C 2 dL_forced_0 rfl rfl ?_
  refine fw_iconst C 0 dL_forced_1 rfl ?_
  refine fw_aload_n C 0 dL_forced_2 rfl rfl ?_
  refine fw_iload_n C 1 dL_forced_3 rfl rfl ?_
  obtain ⟨g0, h⟩ := gd_some h
  obtain ⟨v, M1, ev, h⟩ := b2_some h
  rcases v with u | E
  · replace h := bx_l h
    refine fw_callV (ci := 9) [_] C (c_X9_forced hl ev) cal_X9_forced wm_L_51 wi_yX9_forced wsl_yX9_forced (Nat.le_of_ble_eq_true rfl) rfl (gO_of g0) rfl (Nat.le_of_ble_eq_true rfl) ⟨Nat.le_of_ble_eq_true rfl, Nat.le_of_ble_eq_true rfl⟩ ⟨Nat.le_of_ble_eq_true rfl, Nat.le_of_ble_eq_true rfl⟩ dL_forced_4 ?_
    refine fw_i2l C dL_forced_7 ?_
    obtain ⟨g1, h⟩ := gd_some h
    refine fw_last (x := _) C (gA_of g1) dL_forced_8 ?_
    refine fw_bm h (fun M9 h => ?_)
    refine fw_goto C 15 dL_forced_9 (by decide) ?_
    refine fw_iconst C 0 dL_forced_15 rfl ?_
    obtain rfl := Option.some.inj h
    refine fw_widen (k := 1) (n := 6) (Nat.le_of_ble_eq_true rfl) (Nat.le_of_ble_eq_true rfl) ?_
    exact fw_iret C hr hlk dL_forced_16
  · replace h := bx_r h
    by_cases c0 : E = exN
    · replace h := (if_pos c0).symm.trans h
      subst c0
      obtain rfl := Option.some.inj h
      intro H locs ls hv hR hV
      exact fw_goesH C (fw_runV (ci := 9) C (c_X9_forced hl ev) cal_X9_forced wm_L_51 wi_yX9_forced wsl_yX9_forced (Nat.le_of_ble_eq_true rfl) rfl (gO_of g0) rfl (Nat.le_of_ble_eq_true rfl) ⟨Nat.le_of_ble_eq_true rfl, Nat.le_of_ble_eq_true rfl⟩ ⟨Nat.le_of_ble_eq_true rfl, Nat.le_of_ble_eq_true rfl⟩ dL_forced_4 hv hR hV) hV [] (⟨0, 9, 12, 18⟩ : ExceptionTableEntry) [] htab (fun z hz => nomatch hz) rfl (by decide) (C.1.2.2.2.2 _ wcl_L_18) (va_Nw.use rfl (C.2.2.2.2.2.1.2 _ (List.mem_of_getElem? (i := 1) rfl))) (fun H1 locs1 q hR1 hV1 => fw_hand_n C hr hlk hv hR1 hV1 rfl (Nat.le_of_ble_eq_true rfl) dL_forced_12 dL_forced_13 dL_forced_14 rfl)
    replace h := (if_neg c0).symm.trans h
    cases h
def f_L_say (S : List fw_Sh) (M : fw_Mem) (a0 : Nat) (x1 : Int32) (a2 : Nat) : Option (Int32 × fw_Mem) := gd (gO S 9 a0) (b2 (f_X9_say S M a0 x1) (fun v M1 => bx v (fun u => gd (gA S 2 a2 0) (bm (fw_set M1 a2 0 u) (fun M9 => some (0, M9)))) (fun E => if E = exN then some (1, M1) else none)))
theorem cal_L_say : fw_cal yL_say (.codeWith yL_say cL_say 4 (some .int) [(0, 9, 12, 18)]) 3 := ⟨wc_yL_say, wini_L, by decide, by decide, by decide +kernel⟩
set_option maxHeartbeats 4000000 in
set_option maxRecDepth 100000 in
theorem c_L_say {l : Launch} {G : fw_G} {S : List fw_Sh} {M : fw_Mem} {a0 : Nat} {x1 : Int32} {a2 : Nat} {r : Int32 × fw_Mem} (hl : l.stackTraces = false) (h : f_L_say S M a0 x1 a2 = some r) : fw_MW l G yL_say (.codeWith yL_say cL_say 4 (some .int) [(0, 9, 12, 18)]) 8 S M [.ref a0, .int x1, .ref a2] r.1 r.2 := by
  refine fw_ofH [(0, .ref a0), (1, .int x1), (2, .ref a2)] (by decide) (Nat.le_of_ble_eq_true rfl) rfl ?_
  intro p e s m args below meth c C hr hlk htab
  unfold f_L_say at h
  refine fw_aload_n C 2 dL_say_0 rfl rfl ?_
  refine fw_iconst C 0 dL_say_1 rfl ?_
  refine fw_aload_n C 0 dL_say_2 rfl rfl ?_
  refine fw_iload_n C 1 dL_say_3 rfl rfl ?_
  obtain ⟨g0, h⟩ := gd_some h
  obtain ⟨v, M1, ev, h⟩ := b2_some h
  rcases v with u | E
  · replace h := bx_l h
    refine fw_callV (ci := 9) [_] C (c_X9_say hl ev) cal_X9_say wm_L_54 wi_yX9_say wsl_yX9_say (Nat.le_of_ble_eq_true rfl) rfl (gO_of g0) rfl (Nat.le_of_ble_eq_true rfl) ⟨Nat.le_of_ble_eq_true rfl, Nat.le_of_ble_eq_true rfl⟩ ⟨Nat.le_of_ble_eq_true rfl, Nat.le_of_ble_eq_true rfl⟩ dL_say_4 ?_
    refine fw_i2l C dL_say_7 ?_
    obtain ⟨g1, h⟩ := gd_some h
    refine fw_last (x := _) C (gA_of g1) dL_say_8 ?_
    refine fw_bm h (fun M9 h => ?_)
    refine fw_goto C 15 dL_say_9 (by decide) ?_
    refine fw_iconst C 0 dL_say_15 rfl ?_
    obtain rfl := Option.some.inj h
    refine fw_widen (k := 1) (n := 6) (Nat.le_of_ble_eq_true rfl) (Nat.le_of_ble_eq_true rfl) ?_
    exact fw_iret C hr hlk dL_say_16
  · replace h := bx_r h
    by_cases c0 : E = exN
    · replace h := (if_pos c0).symm.trans h
      subst c0
      obtain rfl := Option.some.inj h
      intro H locs ls hv hR hV
      exact fw_goesH C (fw_runV (ci := 9) C (c_X9_say hl ev) cal_X9_say wm_L_54 wi_yX9_say wsl_yX9_say (Nat.le_of_ble_eq_true rfl) rfl (gO_of g0) rfl (Nat.le_of_ble_eq_true rfl) ⟨Nat.le_of_ble_eq_true rfl, Nat.le_of_ble_eq_true rfl⟩ ⟨Nat.le_of_ble_eq_true rfl, Nat.le_of_ble_eq_true rfl⟩ dL_say_4 hv hR hV) hV [] (⟨0, 9, 12, 18⟩ : ExceptionTableEntry) [] htab (fun z hz => nomatch hz) rfl (by decide) (C.1.2.2.2.2 _ wcl_L_18) (va_Nw.use rfl (C.2.2.2.2.2.1.2 _ (List.mem_of_getElem? (i := 1) rfl))) (fun H1 locs1 q hR1 hV1 => fw_hand_n C hr hlk hv hR1 hV1 rfl (Nat.le_of_ble_eq_true rfl) dL_say_12 dL_say_13 dL_say_14 rfl)
    replace h := (if_neg c0).symm.trans h
    cases h
def f_L_latest (S : List fw_Sh) (M : fw_Mem) (a0 : Nat) (x1 : Int32) (a2 : Nat) : Option (Int32 × fw_Mem) := gd (gO S 9 a0) (b1 (f_X9_latest S M a0 x1) (fun v => bx v (fun u => gd (gA S 2 a2 0) (bm (fw_set M a2 0 u) (fun M9 => some (0, M9)))) (fun E => if E = exN then some (1, M) else none)))
theorem cal_L_latest : fw_cal yL_latest (.codeWith yL_latest cL_latest 4 (some .int) [(0, 9, 12, 18)]) 3 := ⟨wc_yL_latest, wini_L, by decide, by decide, by decide +kernel⟩
set_option maxHeartbeats 4000000 in
set_option maxRecDepth 100000 in
theorem c_L_latest {l : Launch} {G : fw_G} {S : List fw_Sh} {M : fw_Mem} {a0 : Nat} {x1 : Int32} {a2 : Nat} {r : Int32 × fw_Mem} (hl : l.stackTraces = false) (h : f_L_latest S M a0 x1 a2 = some r) : fw_MW l G yL_latest (.codeWith yL_latest cL_latest 4 (some .int) [(0, 9, 12, 18)]) 8 S M [.ref a0, .int x1, .ref a2] r.1 r.2 := by
  refine fw_ofH [(0, .ref a0), (1, .int x1), (2, .ref a2)] (by decide) (Nat.le_of_ble_eq_true rfl) rfl ?_
  intro p e s m args below meth c C hr hlk htab
  unfold f_L_latest at h
  refine fw_aload_n C 2 dL_latest_0 rfl rfl ?_
  refine fw_iconst C 0 dL_latest_1 rfl ?_
  refine fw_aload_n C 0 dL_latest_2 rfl rfl ?_
  refine fw_iload_n C 1 dL_latest_3 rfl rfl ?_
  obtain ⟨g0, h⟩ := gd_some h
  obtain ⟨v, ev, h⟩ := b1_some h
  rcases v with u | E
  · replace h := bx_l h
    refine fw_callV (ci := 9) [_] C (c_X9_latest hl ev) cal_X9_latest wm_L_57 wi_yX9_latest wsl_yX9_latest (Nat.le_of_ble_eq_true rfl) rfl (gO_of g0) rfl (Nat.le_of_ble_eq_true rfl) ⟨Nat.le_of_ble_eq_true rfl, Nat.le_of_ble_eq_true rfl⟩ ⟨Nat.le_of_ble_eq_true rfl, Nat.le_of_ble_eq_true rfl⟩ dL_latest_4 ?_
    refine fw_i2l C dL_latest_7 ?_
    obtain ⟨g1, h⟩ := gd_some h
    refine fw_last (x := _) C (gA_of g1) dL_latest_8 ?_
    refine fw_bm h (fun M9 h => ?_)
    refine fw_goto C 15 dL_latest_9 (by decide) ?_
    refine fw_iconst C 0 dL_latest_15 rfl ?_
    obtain rfl := Option.some.inj h
    refine fw_widen (k := 1) (n := 6) (Nat.le_of_ble_eq_true rfl) (Nat.le_of_ble_eq_true rfl) ?_
    exact fw_iret C hr hlk dL_latest_16
  · replace h := bx_r h
    by_cases c0 : E = exN
    · replace h := (if_pos c0).symm.trans h
      subst c0
      obtain rfl := Option.some.inj h
      intro H locs ls hv hR hV
      exact fw_goesH C (fw_runV (ci := 9) C (c_X9_latest hl ev) cal_X9_latest wm_L_57 wi_yX9_latest wsl_yX9_latest (Nat.le_of_ble_eq_true rfl) rfl (gO_of g0) rfl (Nat.le_of_ble_eq_true rfl) ⟨Nat.le_of_ble_eq_true rfl, Nat.le_of_ble_eq_true rfl⟩ ⟨Nat.le_of_ble_eq_true rfl, Nat.le_of_ble_eq_true rfl⟩ dL_latest_4 hv hR hV) hV [] (⟨0, 9, 12, 18⟩ : ExceptionTableEntry) [] htab (fun z hz => nomatch hz) rfl (by decide) (C.1.2.2.2.2 _ wcl_L_18) (va_Nw.use rfl (C.2.2.2.2.2.1.2 _ (List.mem_of_getElem? (i := 1) rfl))) (fun H1 locs1 q hR1 hV1 => fw_hand_n C hr hlk hv hR1 hV1 rfl (Nat.le_of_ble_eq_true rfl) dL_latest_12 dL_latest_13 dL_latest_14 rfl)
    replace h := (if_neg c0).symm.trans h
    cases h
def f_L_goes (S : List fw_Sh) (M : fw_Mem) (a0 : Nat) (x1 : Int32) (x2 : Int32) (a3 : Nat) : Option (Int32 × fw_Mem) := gd (gO S 9 a0) (b2 (f_X9_goes S M a0 x1 x2) (fun v M1 => bx v (fun u => gd (gA S 2 a3 0) (bm (fw_set M1 a3 0 u) (fun M9 => some (0, M9)))) (fun E => if E = exN then some (1, M1) else none)))
theorem cal_L_goes : fw_cal yL_goes (.codeWith yL_goes cL_goes 5 (some .int) [(0, 10, 13, 18)]) 4 := ⟨wc_yL_goes, wini_L, by decide, by decide, by decide +kernel⟩
set_option maxHeartbeats 4000000 in
set_option maxRecDepth 100000 in
theorem c_L_goes {l : Launch} {G : fw_G} {S : List fw_Sh} {M : fw_Mem} {a0 : Nat} {x1 : Int32} {x2 : Int32} {a3 : Nat} {r : Int32 × fw_Mem} (hl : l.stackTraces = false) (h : f_L_goes S M a0 x1 x2 a3 = some r) : fw_MW l G yL_goes (.codeWith yL_goes cL_goes 5 (some .int) [(0, 10, 13, 18)]) 9 S M [.ref a0, .int x1, .int x2, .ref a3] r.1 r.2 := by
  refine fw_ofH [(0, .ref a0), (1, .int x1), (2, .int x2), (3, .ref a3)] (by decide) (Nat.le_of_ble_eq_true rfl) rfl ?_
  intro p e s m args below meth c C hr hlk htab
  unfold f_L_goes at h
  refine fw_aload_n C 3 dL_goes_0 rfl rfl ?_
  refine fw_iconst C 0 dL_goes_1 rfl ?_
  refine fw_aload_n C 0 dL_goes_2 rfl rfl ?_
  refine fw_iload_n C 1 dL_goes_3 rfl rfl ?_
  refine fw_iload_n C 2 dL_goes_4 rfl rfl ?_
  obtain ⟨g0, h⟩ := gd_some h
  obtain ⟨v, M1, ev, h⟩ := b2_some h
  rcases v with u | E
  · replace h := bx_l h
    refine fw_callV (ci := 9) [_, _] C (c_X9_goes hl ev) cal_X9_goes wm_L_60 wi_yX9_goes wsl_yX9_goes (Nat.le_of_ble_eq_true rfl) rfl (gO_of g0) rfl (Nat.le_of_ble_eq_true rfl) ⟨Nat.le_of_ble_eq_true rfl, Nat.le_of_ble_eq_true rfl⟩ ⟨Nat.le_of_ble_eq_true rfl, Nat.le_of_ble_eq_true rfl⟩ dL_goes_5 ?_
    refine fw_i2l C dL_goes_8 ?_
    obtain ⟨g1, h⟩ := gd_some h
    refine fw_last (x := _) C (gA_of g1) dL_goes_9 ?_
    refine fw_bm h (fun M9 h => ?_)
    refine fw_goto C 17 dL_goes_10 (by decide) ?_
    refine fw_iconst C 0 dL_goes_17 rfl ?_
    obtain rfl := Option.some.inj h
    refine fw_widen (k := 1) (n := 6) (Nat.le_of_ble_eq_true rfl) (Nat.le_of_ble_eq_true rfl) ?_
    exact fw_iret C hr hlk dL_goes_18
  · replace h := bx_r h
    by_cases c0 : E = exN
    · replace h := (if_pos c0).symm.trans h
      subst c0
      obtain rfl := Option.some.inj h
      intro H locs ls hv hR hV
      exact fw_goesH C (fw_runV (ci := 9) C (c_X9_goes hl ev) cal_X9_goes wm_L_60 wi_yX9_goes wsl_yX9_goes (Nat.le_of_ble_eq_true rfl) rfl (gO_of g0) rfl (Nat.le_of_ble_eq_true rfl) ⟨Nat.le_of_ble_eq_true rfl, Nat.le_of_ble_eq_true rfl⟩ ⟨Nat.le_of_ble_eq_true rfl, Nat.le_of_ble_eq_true rfl⟩ dL_goes_5 hv hR hV) hV [] (⟨0, 10, 13, 18⟩ : ExceptionTableEntry) [] htab (fun z hz => nomatch hz) rfl (by decide) (C.1.2.2.2.2 _ wcl_L_18) (va_Nw.use rfl (C.2.2.2.2.2.1.2 _ (List.mem_of_getElem? (i := 1) rfl))) (fun H1 locs1 q hR1 hV1 => fw_hand C hr hlk hv hR1 hV1 (Nat.le_of_ble_eq_true rfl) dL_goes_13 dL_goes_15 dL_goes_16 rfl)
    replace h := (if_neg c0).symm.trans h
    cases h
def f_L_would (S : List fw_Sh) (M : fw_Mem) (a0 : Nat) (x1 : Int32) (x2 : Int32) (x3 : Int32) (x4 : Int32) (x5 : Int32) (x6 : Int32) (a7 : Nat) : Option (Int32 × fw_Mem) := gd (gO S 9 a0) (b2 (f_X9_would S M a0 x1 x2 x3 x4 x5 x6) (fun v M1 => bx v (fun u => gd (gA S 2 a7 0) (bm (fw_set M1 a7 0 u) (fun M9 => some (0, M9)))) (fun E => if E = exN then some (1, M1) else if E = exI then some (2, M1) else none)))
theorem cal_L_would : fw_cal yL_would (.codeWith yL_would cL_would 9 (some .int) [(0, 18, 21, 18), (0, 18, 25, 13)]) 8 := ⟨wc_yL_would, wini_L, by decide, by decide, by decide +kernel⟩
set_option maxHeartbeats 4000000 in
set_option maxRecDepth 100000 in
theorem c_L_would {l : Launch} {G : fw_G} {S : List fw_Sh} {M : fw_Mem} {a0 : Nat} {x1 : Int32} {x2 : Int32} {x3 : Int32} {x4 : Int32} {x5 : Int32} {x6 : Int32} {a7 : Nat} {r : Int32 × fw_Mem} (hl : l.stackTraces = false) (h : f_L_would S M a0 x1 x2 x3 x4 x5 x6 a7 = some r) : fw_MW l G yL_would (.codeWith yL_would cL_would 9 (some .int) [(0, 18, 21, 18), (0, 18, 25, 13)]) 9 S M [.ref a0, .int x1, .int x2, .int x3, .int x4, .int x5, .int x6, .ref a7] r.1 r.2 := by
  refine fw_ofH [(0, .ref a0), (1, .int x1), (2, .int x2), (3, .int x3), (4, .int x4), (5, .int x5), (6, .int x6), (7, .ref a7)] (by decide) (Nat.le_of_ble_eq_true rfl) rfl ?_
  intro p e s m args below meth c C hr hlk htab
  unfold f_L_would at h
  refine fw_aload C 7 dL_would_0 rfl ?_
  refine fw_iconst C 0 dL_would_2 rfl ?_
  refine fw_aload_n C 0 dL_would_3 rfl rfl ?_
  refine fw_iload_n C 1 dL_would_4 rfl rfl ?_
  refine fw_iload_n C 2 dL_would_5 rfl rfl ?_
  refine fw_iload_n C 3 dL_would_6 rfl rfl ?_
  refine fw_iload C 4 dL_would_7 rfl ?_
  refine fw_iload C 5 dL_would_9 rfl ?_
  refine fw_iload C 6 dL_would_11 rfl ?_
  obtain ⟨g0, h⟩ := gd_some h
  obtain ⟨v, M1, ev, h⟩ := b2_some h
  rcases v with u | E
  · replace h := bx_l h
    refine fw_callV (ci := 9) [_, _, _, _, _, _] C (c_X9_would hl ev) cal_X9_would wm_L_63 wi_yX9_would wsl_yX9_would (Nat.le_of_ble_eq_true rfl) rfl (gO_of g0) rfl (Nat.le_of_ble_eq_true rfl) ⟨Nat.le_of_ble_eq_true rfl, Nat.le_of_ble_eq_true rfl⟩ ⟨Nat.le_of_ble_eq_true rfl, Nat.le_of_ble_eq_true rfl⟩ dL_would_13 ?_
    refine fw_i2l C dL_would_16 ?_
    obtain ⟨g1, h⟩ := gd_some h
    refine fw_last (x := _) C (gA_of g1) dL_would_17 ?_
    refine fw_bm h (fun M9 h => ?_)
    refine fw_goto C 29 dL_would_18 (by decide) ?_
    refine fw_iconst C 0 dL_would_29 rfl ?_
    obtain rfl := Option.some.inj h
    refine fw_widen (k := 1) (n := 6) (Nat.le_of_ble_eq_true rfl) (Nat.le_of_ble_eq_true rfl) ?_
    exact fw_iret C hr hlk dL_would_30
  · replace h := bx_r h
    by_cases c0 : E = exN
    · replace h := (if_pos c0).symm.trans h
      subst c0
      obtain rfl := Option.some.inj h
      intro H locs ls hv hR hV
      exact fw_goesH C (fw_runV (ci := 9) C (c_X9_would hl ev) cal_X9_would wm_L_63 wi_yX9_would wsl_yX9_would (Nat.le_of_ble_eq_true rfl) rfl (gO_of g0) rfl (Nat.le_of_ble_eq_true rfl) ⟨Nat.le_of_ble_eq_true rfl, Nat.le_of_ble_eq_true rfl⟩ ⟨Nat.le_of_ble_eq_true rfl, Nat.le_of_ble_eq_true rfl⟩ dL_would_13 hv hR hV) hV [] (⟨0, 18, 21, 18⟩ : ExceptionTableEntry) [(⟨0, 18, 25, 13⟩ : ExceptionTableEntry)] htab (fun z hz => nomatch hz) rfl (by decide) (C.1.2.2.2.2 _ wcl_L_18) (va_Nw.use rfl (C.2.2.2.2.2.1.2 _ (List.mem_of_getElem? (i := 1) rfl))) (fun H1 locs1 q hR1 hV1 => fw_hand C hr hlk hv hR1 hV1 (Nat.le_of_ble_eq_true rfl) dL_would_21 dL_would_23 dL_would_24 rfl)
    replace h := (if_neg c0).symm.trans h
    by_cases c1 : E = exI
    · replace h := (if_pos c1).symm.trans h
      subst c1
      obtain rfl := Option.some.inj h
      intro H locs ls hv hR hV
      exact fw_goesH C (fw_runV (ci := 9) C (c_X9_would hl ev) cal_X9_would wm_L_63 wi_yX9_would wsl_yX9_would (Nat.le_of_ble_eq_true rfl) rfl (gO_of g0) rfl (Nat.le_of_ble_eq_true rfl) ⟨Nat.le_of_ble_eq_true rfl, Nat.le_of_ble_eq_true rfl⟩ ⟨Nat.le_of_ble_eq_true rfl, Nat.le_of_ble_eq_true rfl⟩ dL_would_13 hv hR hV) hV [(⟨0, 18, 21, 18⟩ : ExceptionTableEntry)] (⟨0, 18, 25, 13⟩ : ExceptionTableEntry) [] htab (fun z hz => by rcases List.mem_singleton.mp hz with rfl; exact Or.inr ⟨by decide, _, C.1.2.2.2.2 _ wcl_L_18, C.2.2.2.2.2.1.1⟩) rfl (by decide) (C.1.2.2.2.2 _ wcl_L_13) (va_Nw.use rfl (C.2.2.2.2.2.1.2 _ (List.mem_of_getElem? (i := 0) rfl))) (fun H1 locs1 q hR1 hV1 => fw_hand C hr hlk hv hR1 hV1 (Nat.le_of_ble_eq_true rfl) dL_would_25 dL_would_27 dL_would_28 rfl)
    replace h := (if_neg c1).symm.trans h
    cases h
def f_L_freeTill (S : List fw_Sh) (M : fw_Mem) (a0 : Nat) (x1 : Int32) (a2 : Nat) : Option (Int32 × fw_Mem) := gd (gO S 9 a0) (b1 (f_X9_freeTill S M a0 x1) (fun v => bx v (fun u => gd (gA S 2 a2 0) (bm (fw_set M a2 0 u) (fun M9 => some (0, M9)))) (fun E => if E = exN then some (1, M) else none)))
theorem cal_L_freeTill : fw_cal yL_freeTill (.codeWith yL_freeTill cL_freeTill 4 (some .int) [(0, 9, 12, 18)]) 3 := ⟨wc_yL_freeTill, wini_L, by decide, by decide, by decide +kernel⟩
set_option maxHeartbeats 4000000 in
set_option maxRecDepth 100000 in
theorem c_L_freeTill {l : Launch} {G : fw_G} {S : List fw_Sh} {M : fw_Mem} {a0 : Nat} {x1 : Int32} {a2 : Nat} {r : Int32 × fw_Mem} (hl : l.stackTraces = false) (h : f_L_freeTill S M a0 x1 a2 = some r) : fw_MW l G yL_freeTill (.codeWith yL_freeTill cL_freeTill 4 (some .int) [(0, 9, 12, 18)]) 8 S M [.ref a0, .int x1, .ref a2] r.1 r.2 := by
  refine fw_ofH [(0, .ref a0), (1, .int x1), (2, .ref a2)] (by decide) (Nat.le_of_ble_eq_true rfl) rfl ?_
  intro p e s m args below meth c C hr hlk htab
  unfold f_L_freeTill at h
  refine fw_aload_n C 2 dL_freeTill_0 rfl rfl ?_
  refine fw_iconst C 0 dL_freeTill_1 rfl ?_
  refine fw_aload_n C 0 dL_freeTill_2 rfl rfl ?_
  refine fw_iload_n C 1 dL_freeTill_3 rfl rfl ?_
  obtain ⟨g0, h⟩ := gd_some h
  obtain ⟨v, ev, h⟩ := b1_some h
  rcases v with u | E
  · replace h := bx_l h
    refine fw_callV (ci := 9) [_] C (c_X9_freeTill hl ev) cal_X9_freeTill wm_L_67 wi_yX9_freeTill wsl_yX9_freeTill (Nat.le_of_ble_eq_true rfl) rfl (gO_of g0) rfl (Nat.le_of_ble_eq_true rfl) ⟨Nat.le_of_ble_eq_true rfl, Nat.le_of_ble_eq_true rfl⟩ ⟨Nat.le_of_ble_eq_true rfl, Nat.le_of_ble_eq_true rfl⟩ dL_freeTill_4 ?_
    refine fw_i2l C dL_freeTill_7 ?_
    obtain ⟨g1, h⟩ := gd_some h
    refine fw_last (x := _) C (gA_of g1) dL_freeTill_8 ?_
    refine fw_bm h (fun M9 h => ?_)
    refine fw_goto C 15 dL_freeTill_9 (by decide) ?_
    refine fw_iconst C 0 dL_freeTill_15 rfl ?_
    obtain rfl := Option.some.inj h
    refine fw_widen (k := 1) (n := 6) (Nat.le_of_ble_eq_true rfl) (Nat.le_of_ble_eq_true rfl) ?_
    exact fw_iret C hr hlk dL_freeTill_16
  · replace h := bx_r h
    by_cases c0 : E = exN
    · replace h := (if_pos c0).symm.trans h
      subst c0
      obtain rfl := Option.some.inj h
      intro H locs ls hv hR hV
      exact fw_goesH C (fw_runV (ci := 9) C (c_X9_freeTill hl ev) cal_X9_freeTill wm_L_67 wi_yX9_freeTill wsl_yX9_freeTill (Nat.le_of_ble_eq_true rfl) rfl (gO_of g0) rfl (Nat.le_of_ble_eq_true rfl) ⟨Nat.le_of_ble_eq_true rfl, Nat.le_of_ble_eq_true rfl⟩ ⟨Nat.le_of_ble_eq_true rfl, Nat.le_of_ble_eq_true rfl⟩ dL_freeTill_4 hv hR hV) hV [] (⟨0, 9, 12, 18⟩ : ExceptionTableEntry) [] htab (fun z hz => nomatch hz) rfl (by decide) (C.1.2.2.2.2 _ wcl_L_18) (va_Nw.use rfl (C.2.2.2.2.2.1.2 _ (List.mem_of_getElem? (i := 1) rfl))) (fun H1 locs1 q hR1 hV1 => fw_hand_n C hr hlk hv hR1 hV1 rfl (Nat.le_of_ble_eq_true rfl) dL_freeTill_12 dL_freeTill_13 dL_freeTill_14 rfl)
    replace h := (if_neg c0).symm.trans h
    cases h
def f_L_against (S : List fw_Sh) (M : fw_Mem) (a0 : Nat) (x1 : Int32) (a2 : Nat) : Option (Int32 × fw_Mem) := gd (gO S 9 a0) (b1 (f_X9_against S M a0 x1) (fun v => bx v (fun u => gd (gA S 2 a2 0) (bm (fw_set M a2 0 u) (fun M9 => some (0, M9)))) (fun E => if E = exN then some (1, M) else none)))
theorem cal_L_against : fw_cal yL_against (.codeWith yL_against cL_against 4 (some .int) [(0, 9, 12, 18)]) 3 := ⟨wc_yL_against, wini_L, by decide, by decide, by decide +kernel⟩
set_option maxHeartbeats 4000000 in
set_option maxRecDepth 100000 in
theorem c_L_against {l : Launch} {G : fw_G} {S : List fw_Sh} {M : fw_Mem} {a0 : Nat} {x1 : Int32} {a2 : Nat} {r : Int32 × fw_Mem} (hl : l.stackTraces = false) (h : f_L_against S M a0 x1 a2 = some r) : fw_MW l G yL_against (.codeWith yL_against cL_against 4 (some .int) [(0, 9, 12, 18)]) 7 S M [.ref a0, .int x1, .ref a2] r.1 r.2 := by
  refine fw_ofH [(0, .ref a0), (1, .int x1), (2, .ref a2)] (by decide) (Nat.le_of_ble_eq_true rfl) rfl ?_
  intro p e s m args below meth c C hr hlk htab
  unfold f_L_against at h
  refine fw_aload_n C 2 dL_against_0 rfl rfl ?_
  refine fw_iconst C 0 dL_against_1 rfl ?_
  refine fw_aload_n C 0 dL_against_2 rfl rfl ?_
  refine fw_iload_n C 1 dL_against_3 rfl rfl ?_
  obtain ⟨g0, h⟩ := gd_some h
  obtain ⟨v, ev, h⟩ := b1_some h
  rcases v with u | E
  · replace h := bx_l h
    refine fw_callV (ci := 9) [_] C (c_X9_against hl ev) cal_X9_against wm_L_70 wi_yX9_against wsl_yX9_against (Nat.le_of_ble_eq_true rfl) rfl (gO_of g0) rfl (Nat.le_of_ble_eq_true rfl) ⟨Nat.le_of_ble_eq_true rfl, Nat.le_of_ble_eq_true rfl⟩ ⟨Nat.le_of_ble_eq_true rfl, Nat.le_of_ble_eq_true rfl⟩ dL_against_4 ?_
    refine fw_i2l C dL_against_7 ?_
    obtain ⟨g1, h⟩ := gd_some h
    refine fw_last (x := _) C (gA_of g1) dL_against_8 ?_
    refine fw_bm h (fun M9 h => ?_)
    refine fw_goto C 15 dL_against_9 (by decide) ?_
    refine fw_iconst C 0 dL_against_15 rfl ?_
    obtain rfl := Option.some.inj h
    refine fw_widen (k := 1) (n := 6) (Nat.le_of_ble_eq_true rfl) (Nat.le_of_ble_eq_true rfl) ?_
    exact fw_iret C hr hlk dL_against_16
  · replace h := bx_r h
    by_cases c0 : E = exN
    · replace h := (if_pos c0).symm.trans h
      subst c0
      obtain rfl := Option.some.inj h
      intro H locs ls hv hR hV
      exact fw_goesH C (fw_runV (ci := 9) C (c_X9_against hl ev) cal_X9_against wm_L_70 wi_yX9_against wsl_yX9_against (Nat.le_of_ble_eq_true rfl) rfl (gO_of g0) rfl (Nat.le_of_ble_eq_true rfl) ⟨Nat.le_of_ble_eq_true rfl, Nat.le_of_ble_eq_true rfl⟩ ⟨Nat.le_of_ble_eq_true rfl, Nat.le_of_ble_eq_true rfl⟩ dL_against_4 hv hR hV) hV [] (⟨0, 9, 12, 18⟩ : ExceptionTableEntry) [] htab (fun z hz => nomatch hz) rfl (by decide) (C.1.2.2.2.2 _ wcl_L_18) (va_Nw.use rfl (C.2.2.2.2.2.1.2 _ (List.mem_of_getElem? (i := 1) rfl))) (fun H1 locs1 q hR1 hV1 => fw_hand_n C hr hlk hv hR1 hV1 rfl (Nat.le_of_ble_eq_true rfl) dL_against_12 dL_against_13 dL_against_14 rfl)
    replace h := (if_neg c0).symm.trans h
    cases h
def f_L_judge (S : List fw_Sh) (M : fw_Mem) (a0 : Nat) (x1 : Int32) (x2 : Int32) (x3 : Int32) (a4 : Nat) : Option (Int32 × fw_Mem) := gd (gO S 9 a0) (b2 (f_X9_judge S M a0 x1 x2 x3) (fun v M1 => bx v (fun u => if u = 0 then (gd (gA S 2 a4 0) (bm (fw_set M1 a4 0 0) (fun M9 => some (0, M9)))) else (gd (gA S 2 a4 0) (bm (fw_set M1 a4 0 1) (fun M9 => some (0, M9))))) (fun E => if E = exN then some (1, M1) else if E = exI then some (2, M1) else none)))
theorem cal_L_judge : fw_cal yL_judge (.codeWith yL_judge cL_judge 6 (some .int) [(0, 19, 22, 18), (0, 19, 26, 13)]) 5 := ⟨wc_yL_judge, wini_L, by decide, by decide, by decide +kernel⟩
set_option maxHeartbeats 4000000 in
set_option maxRecDepth 100000 in
theorem c_L_judge {l : Launch} {G : fw_G} {S : List fw_Sh} {M : fw_Mem} {a0 : Nat} {x1 : Int32} {x2 : Int32} {x3 : Int32} {a4 : Nat} {r : Int32 × fw_Mem} (hl : l.stackTraces = false) (h : f_L_judge S M a0 x1 x2 x3 a4 = some r) : fw_MW l G yL_judge (.codeWith yL_judge cL_judge 6 (some .int) [(0, 19, 22, 18), (0, 19, 26, 13)]) 8 S M [.ref a0, .int x1, .int x2, .int x3, .ref a4] r.1 r.2 := by
  refine fw_ofH [(0, .ref a0), (1, .int x1), (2, .int x2), (3, .int x3), (4, .ref a4)] (by decide) (Nat.le_of_ble_eq_true rfl) rfl ?_
  intro p e s m args below meth c C hr hlk htab
  unfold f_L_judge at h
  refine fw_aload C 4 dL_judge_0 rfl ?_
  refine fw_iconst C 0 dL_judge_2 rfl ?_
  refine fw_aload_n C 0 dL_judge_3 rfl rfl ?_
  refine fw_iload_n C 1 dL_judge_4 rfl rfl ?_
  refine fw_iload_n C 2 dL_judge_5 rfl rfl ?_
  refine fw_iload_n C 3 dL_judge_6 rfl rfl ?_
  obtain ⟨g0, h⟩ := gd_some h
  obtain ⟨v, M1, ev, h⟩ := b2_some h
  rcases v with u | E
  · replace h := bx_l h
    refine fw_callV (ci := 9) [_, _, _] C (c_X9_judge hl ev) cal_X9_judge wm_L_73 wi_yX9_judge wsl_yX9_judge (Nat.le_of_ble_eq_true rfl) rfl (gO_of g0) rfl (Nat.le_of_ble_eq_true rfl) ⟨Nat.le_of_ble_eq_true rfl, Nat.le_of_ble_eq_true rfl⟩ ⟨Nat.le_of_ble_eq_true rfl, Nat.le_of_ble_eq_true rfl⟩ dL_judge_7 ?_
    refine fw_if_eq C 17 dL_judge_10 (by decide) (fun c1 => ?_) (fun c1 => ?_)
    · replace h := (if_pos c1).symm.trans h
      refine fw_lconst C ((0 : Int32).toInt64) dL_judge_17 rfl ?_
      obtain ⟨g1, h⟩ := gd_some h
      refine fw_last (x := 0) C (gA_of g1) dL_judge_18 ?_
      refine fw_bm h (fun M9 h => ?_)
      refine fw_goto C 30 dL_judge_19 (by decide) ?_
      refine fw_iconst C 0 dL_judge_30 rfl ?_
      obtain rfl := Option.some.inj h
      refine fw_widen (k := 1) (n := 6) (Nat.le_of_ble_eq_true rfl) (Nat.le_of_ble_eq_true rfl) ?_
      exact fw_iret C hr hlk dL_judge_31
    · replace h := (if_neg c1).symm.trans h
      refine fw_lconst C ((1 : Int32).toInt64) dL_judge_13 rfl ?_
      refine fw_goto C 18 dL_judge_14 (by decide) ?_
      obtain ⟨g1, h⟩ := gd_some h
      refine fw_last (x := 1) C (gA_of g1) dL_judge_18 ?_
      refine fw_bm h (fun M9 h => ?_)
      refine fw_goto C 30 dL_judge_19 (by decide) ?_
      refine fw_iconst C 0 dL_judge_30 rfl ?_
      obtain rfl := Option.some.inj h
      refine fw_widen (k := 1) (n := 6) (Nat.le_of_ble_eq_true rfl) (Nat.le_of_ble_eq_true rfl) ?_
      exact fw_iret C hr hlk dL_judge_31
  · replace h := bx_r h
    by_cases c0 : E = exN
    · replace h := (if_pos c0).symm.trans h
      subst c0
      obtain rfl := Option.some.inj h
      intro H locs ls hv hR hV
      exact fw_goesH C (fw_runV (ci := 9) C (c_X9_judge hl ev) cal_X9_judge wm_L_73 wi_yX9_judge wsl_yX9_judge (Nat.le_of_ble_eq_true rfl) rfl (gO_of g0) rfl (Nat.le_of_ble_eq_true rfl) ⟨Nat.le_of_ble_eq_true rfl, Nat.le_of_ble_eq_true rfl⟩ ⟨Nat.le_of_ble_eq_true rfl, Nat.le_of_ble_eq_true rfl⟩ dL_judge_7 hv hR hV) hV [] (⟨0, 19, 22, 18⟩ : ExceptionTableEntry) [(⟨0, 19, 26, 13⟩ : ExceptionTableEntry)] htab (fun z hz => nomatch hz) rfl (by decide) (C.1.2.2.2.2 _ wcl_L_18) (va_Nw.use rfl (C.2.2.2.2.2.1.2 _ (List.mem_of_getElem? (i := 1) rfl))) (fun H1 locs1 q hR1 hV1 => fw_hand C hr hlk hv hR1 hV1 (Nat.le_of_ble_eq_true rfl) dL_judge_22 dL_judge_24 dL_judge_25 rfl)
    replace h := (if_neg c0).symm.trans h
    by_cases c1 : E = exI
    · replace h := (if_pos c1).symm.trans h
      subst c1
      obtain rfl := Option.some.inj h
      intro H locs ls hv hR hV
      exact fw_goesH C (fw_runV (ci := 9) C (c_X9_judge hl ev) cal_X9_judge wm_L_73 wi_yX9_judge wsl_yX9_judge (Nat.le_of_ble_eq_true rfl) rfl (gO_of g0) rfl (Nat.le_of_ble_eq_true rfl) ⟨Nat.le_of_ble_eq_true rfl, Nat.le_of_ble_eq_true rfl⟩ ⟨Nat.le_of_ble_eq_true rfl, Nat.le_of_ble_eq_true rfl⟩ dL_judge_7 hv hR hV) hV [(⟨0, 19, 22, 18⟩ : ExceptionTableEntry)] (⟨0, 19, 26, 13⟩ : ExceptionTableEntry) [] htab (fun z hz => by rcases List.mem_singleton.mp hz with rfl; exact Or.inr ⟨by decide, _, C.1.2.2.2.2 _ wcl_L_18, C.2.2.2.2.2.1.1⟩) rfl (by decide) (C.1.2.2.2.2 _ wcl_L_13) (va_Nw.use rfl (C.2.2.2.2.2.1.2 _ (List.mem_of_getElem? (i := 0) rfl))) (fun H1 locs1 q hR1 hV1 => fw_hand C hr hlk hv hR1 hV1 (Nat.le_of_ble_eq_true rfl) dL_judge_26 dL_judge_28 dL_judge_29 rfl)
    replace h := (if_neg c1).symm.trans h
    cases h
def f_L_find (S : List fw_Sh) (M : fw_Mem) (a0 : Nat) (x1 : Int32) (x2 : Int32) (x3 : Int32) (x4 : Int32) (a5 : Nat) : Option (Int32 × fw_Mem) := gd (gO S 9 a0) (b2 (f_X9_find S M a0 x1 x2 x3 x4) (fun v M1 => bx v (fun u => gd (gA S 2 a5 0) (bm (fw_set M1 a5 0 u) (fun M9 => some (0, M9)))) (fun E => if E = exN then some (1, M1) else if E = exI then some (2, M1) else none)))
theorem cal_L_find : fw_cal yL_find (.codeWith yL_find cL_find 7 (some .int) [(0, 14, 17, 18), (0, 14, 21, 13)]) 6 := ⟨wc_yL_find, wini_L, by decide, by decide, by decide +kernel⟩
set_option maxHeartbeats 4000000 in
set_option maxRecDepth 100000 in
theorem c_L_find {l : Launch} {G : fw_G} {S : List fw_Sh} {M : fw_Mem} {a0 : Nat} {x1 : Int32} {x2 : Int32} {x3 : Int32} {x4 : Int32} {a5 : Nat} {r : Int32 × fw_Mem} (hl : l.stackTraces = false) (h : f_L_find S M a0 x1 x2 x3 x4 a5 = some r) : fw_MW l G yL_find (.codeWith yL_find cL_find 7 (some .int) [(0, 14, 17, 18), (0, 14, 21, 13)]) 8 S M [.ref a0, .int x1, .int x2, .int x3, .int x4, .ref a5] r.1 r.2 := by
  refine fw_ofH [(0, .ref a0), (1, .int x1), (2, .int x2), (3, .int x3), (4, .int x4), (5, .ref a5)] (by decide) (Nat.le_of_ble_eq_true rfl) rfl ?_
  intro p e s m args below meth c C hr hlk htab
  unfold f_L_find at h
  refine fw_aload C 5 dL_find_0 rfl ?_
  refine fw_iconst C 0 dL_find_2 rfl ?_
  refine fw_aload_n C 0 dL_find_3 rfl rfl ?_
  refine fw_iload_n C 1 dL_find_4 rfl rfl ?_
  refine fw_iload_n C 2 dL_find_5 rfl rfl ?_
  refine fw_iload_n C 3 dL_find_6 rfl rfl ?_
  refine fw_iload C 4 dL_find_7 rfl ?_
  obtain ⟨g0, h⟩ := gd_some h
  obtain ⟨v, M1, ev, h⟩ := b2_some h
  rcases v with u | E
  · replace h := bx_l h
    refine fw_callV (ci := 9) [_, _, _, _] C (c_X9_find hl ev) cal_X9_find wm_L_77 wi_yX9_find wsl_yX9_find (Nat.le_of_ble_eq_true rfl) rfl (gO_of g0) rfl (Nat.le_of_ble_eq_true rfl) ⟨Nat.le_of_ble_eq_true rfl, Nat.le_of_ble_eq_true rfl⟩ ⟨Nat.le_of_ble_eq_true rfl, Nat.le_of_ble_eq_true rfl⟩ dL_find_9 ?_
    refine fw_i2l C dL_find_12 ?_
    obtain ⟨g1, h⟩ := gd_some h
    refine fw_last (x := _) C (gA_of g1) dL_find_13 ?_
    refine fw_bm h (fun M9 h => ?_)
    refine fw_goto C 25 dL_find_14 (by decide) ?_
    refine fw_iconst C 0 dL_find_25 rfl ?_
    obtain rfl := Option.some.inj h
    refine fw_widen (k := 1) (n := 6) (Nat.le_of_ble_eq_true rfl) (Nat.le_of_ble_eq_true rfl) ?_
    exact fw_iret C hr hlk dL_find_26
  · replace h := bx_r h
    by_cases c0 : E = exN
    · replace h := (if_pos c0).symm.trans h
      subst c0
      obtain rfl := Option.some.inj h
      intro H locs ls hv hR hV
      exact fw_goesH C (fw_runV (ci := 9) C (c_X9_find hl ev) cal_X9_find wm_L_77 wi_yX9_find wsl_yX9_find (Nat.le_of_ble_eq_true rfl) rfl (gO_of g0) rfl (Nat.le_of_ble_eq_true rfl) ⟨Nat.le_of_ble_eq_true rfl, Nat.le_of_ble_eq_true rfl⟩ ⟨Nat.le_of_ble_eq_true rfl, Nat.le_of_ble_eq_true rfl⟩ dL_find_9 hv hR hV) hV [] (⟨0, 14, 17, 18⟩ : ExceptionTableEntry) [(⟨0, 14, 21, 13⟩ : ExceptionTableEntry)] htab (fun z hz => nomatch hz) rfl (by decide) (C.1.2.2.2.2 _ wcl_L_18) (va_Nw.use rfl (C.2.2.2.2.2.1.2 _ (List.mem_of_getElem? (i := 1) rfl))) (fun H1 locs1 q hR1 hV1 => fw_hand C hr hlk hv hR1 hV1 (Nat.le_of_ble_eq_true rfl) dL_find_17 dL_find_19 dL_find_20 rfl)
    replace h := (if_neg c0).symm.trans h
    by_cases c1 : E = exI
    · replace h := (if_pos c1).symm.trans h
      subst c1
      obtain rfl := Option.some.inj h
      intro H locs ls hv hR hV
      exact fw_goesH C (fw_runV (ci := 9) C (c_X9_find hl ev) cal_X9_find wm_L_77 wi_yX9_find wsl_yX9_find (Nat.le_of_ble_eq_true rfl) rfl (gO_of g0) rfl (Nat.le_of_ble_eq_true rfl) ⟨Nat.le_of_ble_eq_true rfl, Nat.le_of_ble_eq_true rfl⟩ ⟨Nat.le_of_ble_eq_true rfl, Nat.le_of_ble_eq_true rfl⟩ dL_find_9 hv hR hV) hV [(⟨0, 14, 17, 18⟩ : ExceptionTableEntry)] (⟨0, 14, 21, 13⟩ : ExceptionTableEntry) [] htab (fun z hz => by rcases List.mem_singleton.mp hz with rfl; exact Or.inr ⟨by decide, _, C.1.2.2.2.2 _ wcl_L_18, C.2.2.2.2.2.1.1⟩) rfl (by decide) (C.1.2.2.2.2 _ wcl_L_13) (va_Nw.use rfl (C.2.2.2.2.2.1.2 _ (List.mem_of_getElem? (i := 0) rfl))) (fun H1 locs1 q hR1 hV1 => fw_hand C hr hlk hv hR1 hV1 (Nat.le_of_ble_eq_true rfl) dL_find_21 dL_find_23 dL_find_24 rfl)
    replace h := (if_neg c1).symm.trans h
    cases h
def f_L_reverse (S : List fw_Sh) (M : fw_Mem) (a0 : Nat) (x1 : Int32) (a2 : Nat) : Option (Int32 × fw_Mem) := gd (gO S 9 a0) (b2 (f_X9_reverse S M a0 x1) (fun v M1 => bx v (fun u => if u = 0 then (gd (gA S 2 a2 0) (bm (fw_set M1 a2 0 0) (fun M9 => some (0, M9)))) else (gd (gA S 2 a2 0) (bm (fw_set M1 a2 0 1) (fun M9 => some (0, M9))))) (fun E => if E = exN then some (1, M1) else none)))
theorem cal_L_reverse : fw_cal yL_reverse (.codeWith yL_reverse cL_reverse 4 (some .int) [(0, 16, 19, 18)]) 3 := ⟨wc_yL_reverse, wini_L, by decide, by decide, by decide +kernel⟩
set_option maxHeartbeats 4000000 in
set_option maxRecDepth 100000 in
theorem c_L_reverse {l : Launch} {G : fw_G} {S : List fw_Sh} {M : fw_Mem} {a0 : Nat} {x1 : Int32} {a2 : Nat} {r : Int32 × fw_Mem} (hl : l.stackTraces = false) (h : f_L_reverse S M a0 x1 a2 = some r) : fw_MW l G yL_reverse (.codeWith yL_reverse cL_reverse 4 (some .int) [(0, 16, 19, 18)]) 8 S M [.ref a0, .int x1, .ref a2] r.1 r.2 := by
  refine fw_ofH [(0, .ref a0), (1, .int x1), (2, .ref a2)] (by decide) (Nat.le_of_ble_eq_true rfl) rfl ?_
  intro p e s m args below meth c C hr hlk htab
  unfold f_L_reverse at h
  refine fw_aload_n C 2 dL_reverse_0 rfl rfl ?_
  refine fw_iconst C 0 dL_reverse_1 rfl ?_
  refine fw_aload_n C 0 dL_reverse_2 rfl rfl ?_
  refine fw_iload_n C 1 dL_reverse_3 rfl rfl ?_
  obtain ⟨g0, h⟩ := gd_some h
  obtain ⟨v, M1, ev, h⟩ := b2_some h
  rcases v with u | E
  · replace h := bx_l h
    refine fw_callV (ci := 9) [_] C (c_X9_reverse hl ev) cal_X9_reverse wm_L_81 wi_yX9_reverse wsl_yX9_reverse (Nat.le_of_ble_eq_true rfl) rfl (gO_of g0) rfl (Nat.le_of_ble_eq_true rfl) ⟨Nat.le_of_ble_eq_true rfl, Nat.le_of_ble_eq_true rfl⟩ ⟨Nat.le_of_ble_eq_true rfl, Nat.le_of_ble_eq_true rfl⟩ dL_reverse_4 ?_
    refine fw_if_eq C 14 dL_reverse_7 (by decide) (fun c1 => ?_) (fun c1 => ?_)
    · replace h := (if_pos c1).symm.trans h
      refine fw_lconst C ((0 : Int32).toInt64) dL_reverse_14 rfl ?_
      obtain ⟨g1, h⟩ := gd_some h
      refine fw_last (x := 0) C (gA_of g1) dL_reverse_15 ?_
      refine fw_bm h (fun M9 h => ?_)
      refine fw_goto C 22 dL_reverse_16 (by decide) ?_
      refine fw_iconst C 0 dL_reverse_22 rfl ?_
      obtain rfl := Option.some.inj h
      refine fw_widen (k := 1) (n := 6) (Nat.le_of_ble_eq_true rfl) (Nat.le_of_ble_eq_true rfl) ?_
      exact fw_iret C hr hlk dL_reverse_23
    · replace h := (if_neg c1).symm.trans h
      refine fw_lconst C ((1 : Int32).toInt64) dL_reverse_10 rfl ?_
      refine fw_goto C 15 dL_reverse_11 (by decide) ?_
      obtain ⟨g1, h⟩ := gd_some h
      refine fw_last (x := 1) C (gA_of g1) dL_reverse_15 ?_
      refine fw_bm h (fun M9 h => ?_)
      refine fw_goto C 22 dL_reverse_16 (by decide) ?_
      refine fw_iconst C 0 dL_reverse_22 rfl ?_
      obtain rfl := Option.some.inj h
      refine fw_widen (k := 1) (n := 6) (Nat.le_of_ble_eq_true rfl) (Nat.le_of_ble_eq_true rfl) ?_
      exact fw_iret C hr hlk dL_reverse_23
  · replace h := bx_r h
    by_cases c0 : E = exN
    · replace h := (if_pos c0).symm.trans h
      subst c0
      obtain rfl := Option.some.inj h
      intro H locs ls hv hR hV
      exact fw_goesH C (fw_runV (ci := 9) C (c_X9_reverse hl ev) cal_X9_reverse wm_L_81 wi_yX9_reverse wsl_yX9_reverse (Nat.le_of_ble_eq_true rfl) rfl (gO_of g0) rfl (Nat.le_of_ble_eq_true rfl) ⟨Nat.le_of_ble_eq_true rfl, Nat.le_of_ble_eq_true rfl⟩ ⟨Nat.le_of_ble_eq_true rfl, Nat.le_of_ble_eq_true rfl⟩ dL_reverse_4 hv hR hV) hV [] (⟨0, 16, 19, 18⟩ : ExceptionTableEntry) [] htab (fun z hz => nomatch hz) rfl (by decide) (C.1.2.2.2.2 _ wcl_L_18) (va_Nw.use rfl (C.2.2.2.2.2.1.2 _ (List.mem_of_getElem? (i := 1) rfl))) (fun H1 locs1 q hR1 hV1 => fw_hand_n C hr hlk hv hR1 hV1 rfl (Nat.le_of_ble_eq_true rfl) dL_reverse_19 dL_reverse_20 dL_reverse_21 rfl)
    replace h := (if_neg c0).symm.trans h
    cases h
def f_L_tie (S : List fw_Sh) (M : fw_Mem) (a0 : Nat) (x1 : Int32) (x2 : Int32) (x3 : Int32) (x4 : Int32) (a5 : Nat) : Option (Int32 × fw_Mem) := gd (gO S 9 a0) (b2 (f_X9_tie S M a0 x1 x2 x3 x4) (fun v M1 => bx v (fun u => gd (gA S 2 a5 0) (bm (fw_set M1 a5 0 u) (fun M9 => some (0, M9)))) (fun E => if E = exN then some (1, M1) else if E = exI then some (2, M1) else none)))
theorem cal_L_tie : fw_cal yL_tie (.codeWith yL_tie cL_tie 7 (some .int) [(0, 14, 17, 18), (0, 14, 21, 13)]) 6 := ⟨wc_yL_tie, wini_L, by decide, by decide, by decide +kernel⟩
set_option maxHeartbeats 4000000 in
set_option maxRecDepth 100000 in
theorem c_L_tie {l : Launch} {G : fw_G} {S : List fw_Sh} {M : fw_Mem} {a0 : Nat} {x1 : Int32} {x2 : Int32} {x3 : Int32} {x4 : Int32} {a5 : Nat} {r : Int32 × fw_Mem} (hl : l.stackTraces = false) (h : f_L_tie S M a0 x1 x2 x3 x4 a5 = some r) : fw_MW l G yL_tie (.codeWith yL_tie cL_tie 7 (some .int) [(0, 14, 17, 18), (0, 14, 21, 13)]) 9 S M [.ref a0, .int x1, .int x2, .int x3, .int x4, .ref a5] r.1 r.2 := by
  refine fw_ofH [(0, .ref a0), (1, .int x1), (2, .int x2), (3, .int x3), (4, .int x4), (5, .ref a5)] (by decide) (Nat.le_of_ble_eq_true rfl) rfl ?_
  intro p e s m args below meth c C hr hlk htab
  unfold f_L_tie at h
  refine fw_aload C 5 dL_tie_0 rfl ?_
  refine fw_iconst C 0 dL_tie_2 rfl ?_
  refine fw_aload_n C 0 dL_tie_3 rfl rfl ?_
  refine fw_iload_n C 1 dL_tie_4 rfl rfl ?_
  refine fw_iload_n C 2 dL_tie_5 rfl rfl ?_
  refine fw_iload_n C 3 dL_tie_6 rfl rfl ?_
  refine fw_iload C 4 dL_tie_7 rfl ?_
  obtain ⟨g0, h⟩ := gd_some h
  obtain ⟨v, M1, ev, h⟩ := b2_some h
  rcases v with u | E
  · replace h := bx_l h
    refine fw_callV (ci := 9) [_, _, _, _] C (c_X9_tie hl ev) cal_X9_tie wm_L_85 wi_yX9_tie wsl_yX9_tie (Nat.le_of_ble_eq_true rfl) rfl (gO_of g0) rfl (Nat.le_of_ble_eq_true rfl) ⟨Nat.le_of_ble_eq_true rfl, Nat.le_of_ble_eq_true rfl⟩ ⟨Nat.le_of_ble_eq_true rfl, Nat.le_of_ble_eq_true rfl⟩ dL_tie_9 ?_
    refine fw_i2l C dL_tie_12 ?_
    obtain ⟨g1, h⟩ := gd_some h
    refine fw_last (x := _) C (gA_of g1) dL_tie_13 ?_
    refine fw_bm h (fun M9 h => ?_)
    refine fw_goto C 25 dL_tie_14 (by decide) ?_
    refine fw_iconst C 0 dL_tie_25 rfl ?_
    obtain rfl := Option.some.inj h
    refine fw_widen (k := 1) (n := 6) (Nat.le_of_ble_eq_true rfl) (Nat.le_of_ble_eq_true rfl) ?_
    exact fw_iret C hr hlk dL_tie_26
  · replace h := bx_r h
    by_cases c0 : E = exN
    · replace h := (if_pos c0).symm.trans h
      subst c0
      obtain rfl := Option.some.inj h
      intro H locs ls hv hR hV
      exact fw_goesH C (fw_runV (ci := 9) C (c_X9_tie hl ev) cal_X9_tie wm_L_85 wi_yX9_tie wsl_yX9_tie (Nat.le_of_ble_eq_true rfl) rfl (gO_of g0) rfl (Nat.le_of_ble_eq_true rfl) ⟨Nat.le_of_ble_eq_true rfl, Nat.le_of_ble_eq_true rfl⟩ ⟨Nat.le_of_ble_eq_true rfl, Nat.le_of_ble_eq_true rfl⟩ dL_tie_9 hv hR hV) hV [] (⟨0, 14, 17, 18⟩ : ExceptionTableEntry) [(⟨0, 14, 21, 13⟩ : ExceptionTableEntry)] htab (fun z hz => nomatch hz) rfl (by decide) (C.1.2.2.2.2 _ wcl_L_18) (va_Nw.use rfl (C.2.2.2.2.2.1.2 _ (List.mem_of_getElem? (i := 1) rfl))) (fun H1 locs1 q hR1 hV1 => fw_hand C hr hlk hv hR1 hV1 (Nat.le_of_ble_eq_true rfl) dL_tie_17 dL_tie_19 dL_tie_20 rfl)
    replace h := (if_neg c0).symm.trans h
    by_cases c1 : E = exI
    · replace h := (if_pos c1).symm.trans h
      subst c1
      obtain rfl := Option.some.inj h
      intro H locs ls hv hR hV
      exact fw_goesH C (fw_runV (ci := 9) C (c_X9_tie hl ev) cal_X9_tie wm_L_85 wi_yX9_tie wsl_yX9_tie (Nat.le_of_ble_eq_true rfl) rfl (gO_of g0) rfl (Nat.le_of_ble_eq_true rfl) ⟨Nat.le_of_ble_eq_true rfl, Nat.le_of_ble_eq_true rfl⟩ ⟨Nat.le_of_ble_eq_true rfl, Nat.le_of_ble_eq_true rfl⟩ dL_tie_9 hv hR hV) hV [(⟨0, 14, 17, 18⟩ : ExceptionTableEntry)] (⟨0, 14, 21, 13⟩ : ExceptionTableEntry) [] htab (fun z hz => by rcases List.mem_singleton.mp hz with rfl; exact Or.inr ⟨by decide, _, C.1.2.2.2.2 _ wcl_L_18, C.2.2.2.2.2.1.1⟩) rfl (by decide) (C.1.2.2.2.2 _ wcl_L_13) (va_Nw.use rfl (C.2.2.2.2.2.1.2 _ (List.mem_of_getElem? (i := 0) rfl))) (fun H1 locs1 q hR1 hV1 => fw_hand C hr hlk hv hR1 hV1 (Nat.le_of_ble_eq_true rfl) dL_tie_21 dL_tie_23 dL_tie_24 rfl)
    replace h := (if_neg c1).symm.trans h
    cases h
def f_L_cut (S : List fw_Sh) (M : fw_Mem) (a0 : Nat) (x1 : Int32) (a2 : Nat) : Option (Int32 × fw_Mem) := gd (gO S 9 a0) (b2 (f_X9_cut S M a0 x1) (fun v M1 => bx v (fun u => gd (gA S 2 a2 0) (bm (fw_set M1 a2 0 u) (fun M9 => some (0, M9)))) (fun E => if E = exN then some (1, M1) else none)))
theorem cal_L_cut : fw_cal yL_cut (.codeWith yL_cut cL_cut 4 (some .int) [(0, 9, 12, 18)]) 3 := ⟨wc_yL_cut, wini_L, by decide, by decide, by decide +kernel⟩
set_option maxHeartbeats 4000000 in
set_option maxRecDepth 100000 in
theorem c_L_cut {l : Launch} {G : fw_G} {S : List fw_Sh} {M : fw_Mem} {a0 : Nat} {x1 : Int32} {a2 : Nat} {r : Int32 × fw_Mem} (hl : l.stackTraces = false) (h : f_L_cut S M a0 x1 a2 = some r) : fw_MW l G yL_cut (.codeWith yL_cut cL_cut 4 (some .int) [(0, 9, 12, 18)]) 8 S M [.ref a0, .int x1, .ref a2] r.1 r.2 := by
  refine fw_ofH [(0, .ref a0), (1, .int x1), (2, .ref a2)] (by decide) (Nat.le_of_ble_eq_true rfl) rfl ?_
  intro p e s m args below meth c C hr hlk htab
  unfold f_L_cut at h
  refine fw_aload_n C 2 dL_cut_0 rfl rfl ?_
  refine fw_iconst C 0 dL_cut_1 rfl ?_
  refine fw_aload_n C 0 dL_cut_2 rfl rfl ?_
  refine fw_iload_n C 1 dL_cut_3 rfl rfl ?_
  obtain ⟨g0, h⟩ := gd_some h
  obtain ⟨v, M1, ev, h⟩ := b2_some h
  rcases v with u | E
  · replace h := bx_l h
    refine fw_callV (ci := 9) [_] C (c_X9_cut hl ev) cal_X9_cut wm_L_88 wi_yX9_cut wsl_yX9_cut (Nat.le_of_ble_eq_true rfl) rfl (gO_of g0) rfl (Nat.le_of_ble_eq_true rfl) ⟨Nat.le_of_ble_eq_true rfl, Nat.le_of_ble_eq_true rfl⟩ ⟨Nat.le_of_ble_eq_true rfl, Nat.le_of_ble_eq_true rfl⟩ dL_cut_4 ?_
    refine fw_i2l C dL_cut_7 ?_
    obtain ⟨g1, h⟩ := gd_some h
    refine fw_last (x := _) C (gA_of g1) dL_cut_8 ?_
    refine fw_bm h (fun M9 h => ?_)
    refine fw_goto C 15 dL_cut_9 (by decide) ?_
    refine fw_iconst C 0 dL_cut_15 rfl ?_
    obtain rfl := Option.some.inj h
    refine fw_widen (k := 1) (n := 6) (Nat.le_of_ble_eq_true rfl) (Nat.le_of_ble_eq_true rfl) ?_
    exact fw_iret C hr hlk dL_cut_16
  · replace h := bx_r h
    by_cases c0 : E = exN
    · replace h := (if_pos c0).symm.trans h
      subst c0
      obtain rfl := Option.some.inj h
      intro H locs ls hv hR hV
      exact fw_goesH C (fw_runV (ci := 9) C (c_X9_cut hl ev) cal_X9_cut wm_L_88 wi_yX9_cut wsl_yX9_cut (Nat.le_of_ble_eq_true rfl) rfl (gO_of g0) rfl (Nat.le_of_ble_eq_true rfl) ⟨Nat.le_of_ble_eq_true rfl, Nat.le_of_ble_eq_true rfl⟩ ⟨Nat.le_of_ble_eq_true rfl, Nat.le_of_ble_eq_true rfl⟩ dL_cut_4 hv hR hV) hV [] (⟨0, 9, 12, 18⟩ : ExceptionTableEntry) [] htab (fun z hz => nomatch hz) rfl (by decide) (C.1.2.2.2.2 _ wcl_L_18) (va_Nw.use rfl (C.2.2.2.2.2.1.2 _ (List.mem_of_getElem? (i := 1) rfl))) (fun H1 locs1 q hR1 hV1 => fw_hand_n C hr hlk hv hR1 hV1 rfl (Nat.le_of_ble_eq_true rfl) dL_cut_12 dL_cut_13 dL_cut_14 rfl)
    replace h := (if_neg c0).symm.trans h
    cases h
def f_L_rule (S : List fw_Sh) (M : fw_Mem) (a0 : Nat) (x1 : Int32) (x2 : Int32) (a3 : Nat) : Option (Int32 × fw_Mem) := gd (gO S 9 a0) (b2 (f_X9_rule S M a0 x1 x2) (fun v M1 => bx v (fun u => gd (gA S 2 a3 0) (bm (fw_set M1 a3 0 u) (fun M9 => some (0, M9)))) (fun E => if E = exN then some (1, M1) else if E = exI then some (2, M1) else none)))
theorem cal_L_rule : fw_cal yL_rule (.codeWith yL_rule cL_rule 5 (some .int) [(0, 10, 13, 18), (0, 10, 17, 13)]) 4 := ⟨wc_yL_rule, wini_L, by decide, by decide, by decide +kernel⟩
set_option maxHeartbeats 4000000 in
set_option maxRecDepth 100000 in
theorem c_L_rule {l : Launch} {G : fw_G} {S : List fw_Sh} {M : fw_Mem} {a0 : Nat} {x1 : Int32} {x2 : Int32} {a3 : Nat} {r : Int32 × fw_Mem} (hl : l.stackTraces = false) (h : f_L_rule S M a0 x1 x2 a3 = some r) : fw_MW l G yL_rule (.codeWith yL_rule cL_rule 5 (some .int) [(0, 10, 13, 18), (0, 10, 17, 13)]) 7 S M [.ref a0, .int x1, .int x2, .ref a3] r.1 r.2 := by
  refine fw_ofH [(0, .ref a0), (1, .int x1), (2, .int x2), (3, .ref a3)] (by decide) (Nat.le_of_ble_eq_true rfl) rfl ?_
  intro p e s m args below meth c C hr hlk htab
  unfold f_L_rule at h
  refine fw_aload_n C 3 dL_rule_0 rfl rfl ?_
  refine fw_iconst C 0 dL_rule_1 rfl ?_
  refine fw_aload_n C 0 dL_rule_2 rfl rfl ?_
  refine fw_iload_n C 1 dL_rule_3 rfl rfl ?_
  refine fw_iload_n C 2 dL_rule_4 rfl rfl ?_
  obtain ⟨g0, h⟩ := gd_some h
  obtain ⟨v, M1, ev, h⟩ := b2_some h
  rcases v with u | E
  · replace h := bx_l h
    refine fw_callV (ci := 9) [_, _] C (c_X9_rule hl ev) cal_X9_rule wm_L_91 wi_yX9_rule wsl_yX9_rule (Nat.le_of_ble_eq_true rfl) rfl (gO_of g0) rfl (Nat.le_of_ble_eq_true rfl) ⟨Nat.le_of_ble_eq_true rfl, Nat.le_of_ble_eq_true rfl⟩ ⟨Nat.le_of_ble_eq_true rfl, Nat.le_of_ble_eq_true rfl⟩ dL_rule_5 ?_
    refine fw_i2l C dL_rule_8 ?_
    obtain ⟨g1, h⟩ := gd_some h
    refine fw_last (x := _) C (gA_of g1) dL_rule_9 ?_
    refine fw_bm h (fun M9 h => ?_)
    refine fw_goto C 21 dL_rule_10 (by decide) ?_
    refine fw_iconst C 0 dL_rule_21 rfl ?_
    obtain rfl := Option.some.inj h
    refine fw_widen (k := 1) (n := 6) (Nat.le_of_ble_eq_true rfl) (Nat.le_of_ble_eq_true rfl) ?_
    exact fw_iret C hr hlk dL_rule_22
  · replace h := bx_r h
    by_cases c0 : E = exN
    · replace h := (if_pos c0).symm.trans h
      subst c0
      obtain rfl := Option.some.inj h
      intro H locs ls hv hR hV
      exact fw_goesH C (fw_runV (ci := 9) C (c_X9_rule hl ev) cal_X9_rule wm_L_91 wi_yX9_rule wsl_yX9_rule (Nat.le_of_ble_eq_true rfl) rfl (gO_of g0) rfl (Nat.le_of_ble_eq_true rfl) ⟨Nat.le_of_ble_eq_true rfl, Nat.le_of_ble_eq_true rfl⟩ ⟨Nat.le_of_ble_eq_true rfl, Nat.le_of_ble_eq_true rfl⟩ dL_rule_5 hv hR hV) hV [] (⟨0, 10, 13, 18⟩ : ExceptionTableEntry) [(⟨0, 10, 17, 13⟩ : ExceptionTableEntry)] htab (fun z hz => nomatch hz) rfl (by decide) (C.1.2.2.2.2 _ wcl_L_18) (va_Nw.use rfl (C.2.2.2.2.2.1.2 _ (List.mem_of_getElem? (i := 1) rfl))) (fun H1 locs1 q hR1 hV1 => fw_hand C hr hlk hv hR1 hV1 (Nat.le_of_ble_eq_true rfl) dL_rule_13 dL_rule_15 dL_rule_16 rfl)
    replace h := (if_neg c0).symm.trans h
    by_cases c1 : E = exI
    · replace h := (if_pos c1).symm.trans h
      subst c1
      obtain rfl := Option.some.inj h
      intro H locs ls hv hR hV
      exact fw_goesH C (fw_runV (ci := 9) C (c_X9_rule hl ev) cal_X9_rule wm_L_91 wi_yX9_rule wsl_yX9_rule (Nat.le_of_ble_eq_true rfl) rfl (gO_of g0) rfl (Nat.le_of_ble_eq_true rfl) ⟨Nat.le_of_ble_eq_true rfl, Nat.le_of_ble_eq_true rfl⟩ ⟨Nat.le_of_ble_eq_true rfl, Nat.le_of_ble_eq_true rfl⟩ dL_rule_5 hv hR hV) hV [(⟨0, 10, 13, 18⟩ : ExceptionTableEntry)] (⟨0, 10, 17, 13⟩ : ExceptionTableEntry) [] htab (fun z hz => by rcases List.mem_singleton.mp hz with rfl; exact Or.inr ⟨by decide, _, C.1.2.2.2.2 _ wcl_L_18, C.2.2.2.2.2.1.1⟩) rfl (by decide) (C.1.2.2.2.2 _ wcl_L_13) (va_Nw.use rfl (C.2.2.2.2.2.1.2 _ (List.mem_of_getElem? (i := 0) rfl))) (fun H1 locs1 q hR1 hV1 => fw_hand C hr hlk hv hR1 hV1 (Nat.le_of_ble_eq_true rfl) dL_rule_17 dL_rule_19 dL_rule_20 rfl)
    replace h := (if_neg c1).symm.trans h
    cases h
def f_L_ask (S : List fw_Sh) (M : fw_Mem) (a0 : Nat) (x1 : Int32) (a2 : Nat) : Option (Int32 × fw_Mem) := gd (gO S 9 a0) (b2 (f_X9_ask S M a0 x1) (fun v M1 => bx v (fun u => gd (gA S 2 a2 0) (bm (fw_set M1 a2 0 u) (fun M9 => some (0, M9)))) (fun E => if E = exI then some (1, M1) else none)))
theorem cal_L_ask : fw_cal yL_ask (.codeWith yL_ask cL_ask 4 (some .int) [(0, 9, 12, 13)]) 3 := ⟨wc_yL_ask, wini_L, by decide, by decide, by decide +kernel⟩
set_option maxHeartbeats 4000000 in
set_option maxRecDepth 100000 in
theorem c_L_ask {l : Launch} {G : fw_G} {S : List fw_Sh} {M : fw_Mem} {a0 : Nat} {x1 : Int32} {a2 : Nat} {r : Int32 × fw_Mem} (hl : l.stackTraces = false) (h : f_L_ask S M a0 x1 a2 = some r) : fw_MW l G yL_ask (.codeWith yL_ask cL_ask 4 (some .int) [(0, 9, 12, 13)]) 53 S M [.ref a0, .int x1, .ref a2] r.1 r.2 := by
  refine fw_ofH [(0, .ref a0), (1, .int x1), (2, .ref a2)] (by decide) (Nat.le_of_ble_eq_true rfl) rfl ?_
  intro p e s m args below meth c C hr hlk htab
  unfold f_L_ask at h
  refine fw_aload_n C 2 dL_ask_0 rfl rfl ?_
  refine fw_iconst C 0 dL_ask_1 rfl ?_
  refine fw_aload_n C 0 dL_ask_2 rfl rfl ?_
  refine fw_iload_n C 1 dL_ask_3 rfl rfl ?_
  obtain ⟨g0, h⟩ := gd_some h
  obtain ⟨v, M1, ev, h⟩ := b2_some h
  rcases v with u | E
  · replace h := bx_l h
    refine fw_callV (ci := 9) [_] C (c_X9_ask hl ev) cal_X9_ask wm_L_94 wi_yX9_ask wsl_yX9_ask (Nat.le_of_ble_eq_true rfl) rfl (gO_of g0) rfl (Nat.le_of_ble_eq_true rfl) ⟨Nat.le_of_ble_eq_true rfl, Nat.le_of_ble_eq_true rfl⟩ ⟨Nat.le_of_ble_eq_true rfl, Nat.le_of_ble_eq_true rfl⟩ dL_ask_4 ?_
    refine fw_i2l C dL_ask_7 ?_
    obtain ⟨g1, h⟩ := gd_some h
    refine fw_last (x := _) C (gA_of g1) dL_ask_8 ?_
    refine fw_bm h (fun M9 h => ?_)
    refine fw_goto C 15 dL_ask_9 (by decide) ?_
    refine fw_iconst C 0 dL_ask_15 rfl ?_
    obtain rfl := Option.some.inj h
    refine fw_widen (k := 1) (n := 6) (Nat.le_of_ble_eq_true rfl) (Nat.le_of_ble_eq_true rfl) ?_
    exact fw_iret C hr hlk dL_ask_16
  · replace h := bx_r h
    by_cases c0 : E = exI
    · replace h := (if_pos c0).symm.trans h
      subst c0
      obtain rfl := Option.some.inj h
      intro H locs ls hv hR hV
      exact fw_goesH C (fw_runV (ci := 9) C (c_X9_ask hl ev) cal_X9_ask wm_L_94 wi_yX9_ask wsl_yX9_ask (Nat.le_of_ble_eq_true rfl) rfl (gO_of g0) rfl (Nat.le_of_ble_eq_true rfl) ⟨Nat.le_of_ble_eq_true rfl, Nat.le_of_ble_eq_true rfl⟩ ⟨Nat.le_of_ble_eq_true rfl, Nat.le_of_ble_eq_true rfl⟩ dL_ask_4 hv hR hV) hV [] (⟨0, 9, 12, 13⟩ : ExceptionTableEntry) [] htab (fun z hz => nomatch hz) rfl (by decide) (C.1.2.2.2.2 _ wcl_L_13) (va_Nw.use rfl (C.2.2.2.2.2.1.2 _ (List.mem_of_getElem? (i := 0) rfl))) (fun H1 locs1 q hR1 hV1 => fw_hand_n C hr hlk hv hR1 hV1 rfl (Nat.le_of_ble_eq_true rfl) dL_ask_12 dL_ask_13 dL_ask_14 rfl)
    replace h := (if_neg c0).symm.trans h
    cases h
