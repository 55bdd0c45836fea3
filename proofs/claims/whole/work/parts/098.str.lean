/-! ===== String constants: length() and charAt(), through the JDK's own code ===== -/
theorem fw_adVp (G : fw_G) {i : Nat} (h : i < 500000) : fw_ad G (500000 + i) = fw_adV G i := by
  have h2 : 500000 + i - 500000 = i := by omega
  simp only [fw_ad]
  rw [if_neg (by omega), if_pos (by omega), h2]
theorem fw_shr0 (x : Int32) : x >>> ((0 : Int32) &&& 31) = x := by
  apply Int32.toInt_inj.mp
  rw [pk_shr x ((0 : Int32) &&& 31) 0 (by decide)]
  exact Int.shiftRight_zero _
theorem fw_chr_ok : ∀ i, i < 31 → ∀ j, j < 10 → ((((fw_byt.getD i []).getD j 0) &&& 255 : Int32).toUInt32 % 65536).toInt32 = (fw_byt.getD i []).getD j 0 := by decide +kernel
theorem fw_len_ok : ∀ i, i < 31 → fw_len.getD i 0 < 10 := by decide +kernel
section FWQ
variable {G : fw_G} {own : String} {cc : ByteArray} {nL : Nat} {p : Program} {l : Launch} {e : Env} {R : Room} {s : State} {m : MethodId} {args : Array Value} {below : List Frame} {meth : Method} {c : Code} {Q : State → Prop} {cb sb pc : Nat} {lv : List (Nat × Value)} {st : List Value} {S S' : List fw_Sh} {M M' : fw_Mem}
theorem fw_gstZ (C : fw_C G RJ0 cc nL p s m args c) (d : decode cc pc = .ok (.getstatic 38, 3)) (k : fw_W G p l e R s m args below meth c nL Q cb sb (pc + 3) lv (.int 1 :: st) S M) : fw_W G p l e R s m args below meth c nL Q cb sb pc lv st S M :=
  fun H locs ls hl hR hS => va_gets C.1.1 C.1.2.1 C.2.2.2.2.2.2.2.2.2.1 hS C.1.2.2.2.1 (C.1.2.2.2.2 _ wf_J0_38) (fun _ h => h) d (k H locs ls hl hR hS)
theorem fw_scod (C : fw_C G RJ0 cc nL p s m args c) {i : Nat} (hi : i < fw_nS) (d : decode cc pc = .ok (.getfield 15, 3)) (k : fw_W G p l e R s m args below meth c nL Q cb sb (pc + 3) lv (.int 0 :: st) S M) : fw_W G p l e R s m args below meth c nL Q cb sb pc lv (.ref (1000001 + i) :: st) S M := by
  intro H locs ls hl hR hS
  show W p l e R s m args below meth c H locs cb sb Q (F0 m pc ls (.ref (fw_ad G (1000001 + i)) :: st.map (fw_cv G)))
  rw [fw_adS]
  exact vk_getf C.1.1 C.1.2.1 (C.2.2.2.2.2.2.1 i hi).2.1 hS C.1.2.2.2.1 (C.1.2.2.2.2 _ wf_J0_15) (fun _ h => h) d (k H locs ls hl hR hS)
theorem fw_sval (C : fw_C G RJ0 cc nL p s m args c) {i : Nat} (hi : i < fw_nS) (d : decode cc pc = .ok (.getfield 9, 3)) (k : fw_W G p l e R s m args below meth c nL Q cb sb (pc + 3) lv (.ref (500000 + i) :: st) S M) : fw_W G p l e R s m args below meth c nL Q cb sb pc lv (.ref (1000001 + i) :: st) S M := by
  intro H locs ls hl hR hS
  have k9 := k H locs ls hl hR hS
  have e9 : List.map (fw_cv G) (.ref (500000 + i) :: st) = .ref (fw_adV G i) :: st.map (fw_cv G) := by
    show Value.ref (fw_ad G (500000 + i)) :: _ = _
    rw [fw_adVp G (by unfold fw_nS at hi; omega)]
  rw [e9] at k9
  show W p l e R s m args below meth c H locs cb sb Q (F0 m pc ls (.ref (fw_ad G (1000001 + i)) :: st.map (fw_cv G)))
  rw [fw_adS]
  exact vk_getf C.1.1 C.1.2.1 (C.2.2.2.2.2.2.1 i hi).2.2.1 hS C.1.2.2.2.1 (C.1.2.2.2.2 _ wf_J0_9) (fun _ h => h) d k9
theorem fw_svlen (C : fw_C G own cc nL p s m args c) {i : Nat} (hi : i < fw_nS) (d : decode cc pc = .ok (.arraylength, 1)) (k : fw_W G p l e R s m args below meth c nL Q cb sb (pc + 1) lv (.int (nI (fw_len.getD i 0)) :: st) S M) : fw_W G p l e R s m args below meth c nL Q cb sb pc lv (.ref (500000 + i) :: st) S M := by
  intro H locs ls hl hR hS
  show W p l e R s m args below meth c H locs cb sb Q (F0 m pc ls (.ref (fw_ad G (500000 + i)) :: st.map (fw_cv G)))
  rw [fw_adVp G (by unfold fw_nS at hi; omega)]
  exact va_tlen C.1.1 C.1.2.1 (C.2.2.2.2.2.2.1 i hi).2.2.2 hS rfl d (k H locs ls hl hR hS)
theorem fw_svld (C : fw_C G own cc nL p s m args c) {i : Nat} {j : Int32} (hi : i < fw_nS) (hj : vp_in j (fw_len.getD i 0)) (d : decode cc pc = .ok (.baload, 1)) (k : fw_W G p l e R s m args below meth c nL Q cb sb (pc + 1) lv (.int ((fw_byt.getD i []).getD j.toNatClampNeg 0) :: st) S M) : fw_W G p l e R s m args below meth c nL Q cb sb pc lv (.int j :: .ref (500000 + i) :: st) S M := by
  intro H locs ls hl hR hS
  show W p l e R s m args below meth c H locs cb sb Q (F0 m pc ls (.int j :: .ref (fw_ad G (500000 + i)) :: st.map (fw_cv G)))
  rw [fw_adVp G (by unfold fw_nS at hi; omega)]
  exact va_tb C.1.1 C.1.2.1 (C.2.2.2.2.2.2.1 i hi).2.2.2 hS hj rfl d (k H locs ls hl hR hS)
theorem fw_tret (C : fw_C G own cc nL p s m args c) {v : Int32} {ty : FieldType} (hr : meth.sig.returnType = some ty) (hn : narrow ty (.int v) = .int v) (hlocks : meth.locks = false) (d : decode cc pc = .ok (.ireturn, 1)) : fw_W G p l e R s m args below meth c nL (fw_Z G below args s cb sb (.inl (some (.int v)), S, M)) cb sb pc lv [.int v] S M := by
  intro H locs ls hl hR hS
  exact vx_ret (W.zret (v := v) C.1.1 C.1.2.1 hr hn (fun t ht hW => ⟨some (.int v), rfl, rfl, by rw [ht]; exact hR, hS.F ht⟩) hS.2.2 d hlocks)
/-- a call on a String constant -/
theorem fw_callVS {y : MethodName} {bytes : ByteArray} {maxL ix n d mc ms i : Nat} {ret : Option FieldType} (As : List Value) {v : Option Value} (C : fw_C G own cc nL p s m args c) (hi : i < fw_nS) (hM : fw_M l G y (.code y bytes maxL ret) d mc ms S M (.ref (1000001 + i) :: As) (.inl v, S', M')) (hc : fw_cal y (.code y bytes maxL ret) n) (w1 : Cond.methodLink own ix y ∈ wsU) (w2 : Cond.instanceMethod y ∈ wsU) (w3 : Cond.selects RJ0 y y ∈ wsU) (hy : y.cls = RJ0) (hn : As.length = n) (hst : (st.map fun v => v.category).sum ≤ 8) (hr : d + 1 ≤ R.frames ∧ 8 + (maxL + 11) + 64 * d ≤ R.locals) (hf : cb + mc ≤ R.cells ∧ sb + ms ≤ R.slots) (dd : decode cc pc = .ok (.invokevirtual ix, 3)) (kk : fw_W G p l e R s m args below meth c nL Q (cb + mc) (sb + ms) (pc + 3) lv (v.toList ++ st) S' M') :
    fw_W G p l e R s m args below meth c nL Q cb sb pc lv (As.reverse ++ .ref (1000001 + i) :: st) S M := by
  intro H locs ls hv hR hV
  have hts : ∀ w ∈ wsU, w.before args s = true := C.1.2.2.2.2
  have hw : GoodIn wsU (wsV own ix RJ0 y (Cond.code y bytes maxL ret :: wsU)) := by
    intro x hx
    rcases List.mem_append.mp hx with h | h
    · rcases List.mem_cons.mp h with rfl | h
      · exact ⟨w1, good_of_word (wsU_good _ w1)⟩
      rcases List.mem_cons.mp h with rfl | h
      · exact ⟨w2, good_of_word (wsU_good _ w2)⟩
      rcases List.mem_cons.mp h with rfl | h
      · exact ⟨w3, good_of_word (wsU_good _ w3)⟩
      rcases List.mem_cons.mp h with rfl | h
      · exact ⟨wini_J0, good_of_word (wsU_good _ wini_J0)⟩
      · cases h
    · exact fw_goodU _ hc.1 x h
  have cw : CallW R s args own RJ0 ix y bytes maxL ret (Cond.code y bytes maxL ret :: wsU) (fw_rm d mc ms) mc ms n := cwV n hts hw rfl rfl rfl ⟨hy, hc.2.2⟩ hr
  have hp := fw_pre (vs := .ref (1000001 + i) :: As) C hR hV
  have hrecv : ∃ cell : Cell, H[fw_adK G i]? = some cell ∧ cell.vm.isStatics = false ∧ s.vm.findClass "java/lang/String" = some cell.cls := by
    obtain ⟨cell, h1, h2, h3, -⟩ := (C.2.2.2.2.2.2.1 i hi).1.kept hV.2.1
    exact ⟨cell, h1, h2, h3⟩
  rw [← fw_adS] at hrecv
  refine fw_goes (vx_runV (b := fw_ad G (1000001 + i)) (As := As.map (fw_cv G)) ⟨C.1.1, C.1.2.1, C.1.2.2.1, C.1.2.2.2.1, hts⟩ hM cw ⟨hp.1, hrecv, hp.2⟩ rfl (by rw [List.length_map]; exact hn) hv.1 ?_ (lv_room (by rw [fw_cats]; exact hst)) dd hf) hv hV kk
  show ((As.reverse ++ .ref (1000001 + i) :: st).map (fw_cv G)) = (As.map (fw_cv G)).reverse ++ Value.ref (fw_ad G (1000001 + i)) :: st.map (fw_cv G)
  rw [List.map_append, List.map_reverse, List.map_cons]
  rfl
end FWQ
theorem calJ_coder : fw_cal yJ0_coder_7d493 (.code yJ0_coder_7d493 cJ0_coder_7d493 1 (some .byte)) 0 := ⟨wc_yJ0_coder_7d493, wini_J0, by decide, by decide, by decide +kernel⟩
theorem calJ_lat : fw_cal yJ0_isLatin1_aae02 (.code yJ0_isLatin1_aae02 cJ0_isLatin1_aae02 1 (some .boolean)) 0 := ⟨wc_yJ0_isLatin1_aae02, wini_J0, by decide, by decide, by decide +kernel⟩
theorem calJ_len : fw_cal yJ0_length_8abf5 (.code yJ0_length_8abf5 cJ0_length_8abf5 1 (some .int)) 0 := ⟨wc_yJ0_length_8abf5, wini_J0, by decide, by decide, by decide +kernel⟩
theorem calJ_chr : fw_cal yJ0_charAt_5068e (.code yJ0_charAt_5068e cJ0_charAt_5068e 2 (some .char)) 1 := ⟨wc_yJ0_charAt_5068e, wini_J0, by decide, by decide, by decide +kernel⟩
theorem calJ_lchr : fw_cal yJ1_charAt_3b067 (.code yJ1_charAt_3b067 cJ1_charAt_3b067 2 (some .char)) 2 := ⟨wc_yJ1_charAt_3b067, wini_J1, by decide, by decide, by decide +kernel⟩
theorem calJ_chk : fw_cal yJ0_checkIndex_df160 (.code yJ0_checkIndex_df160 cJ0_checkIndex_df160 2 none) 2 := ⟨wc_yJ0_checkIndex_df160, wini_J0, by decide, by decide, by decide +kernel⟩
theorem calJ_pre : fw_cal yJ3_checkIndex_8e157 (.code yJ3_checkIndex_8e157 cJ3_checkIndex_8e157 3 (some .int)) 3 := ⟨wc_yJ3_checkIndex_8e157, wini_J3, by decide, by decide, by decide +kernel⟩
section FWQ2
variable {l : Launch} {G : fw_G} {S : List fw_Sh} {M : fw_Mem}
theorem cJ_coder {i : Nat} (hi : i < fw_nS) : fw_M l G yJ0_coder_7d493 (.code yJ0_coder_7d493 cJ0_coder_7d493 1 (some .byte)) 1 0 0 S M [.ref (1000001 + i)] (.inl (some (.int 0)), S, M) := by
  refine fw_of [(0, .ref (1000001 + i))] (by decide) (Nat.le_of_ble_eq_true rfl) rfl ?_
  intro p e s m args below meth c C hr hlk hnm ht _
  refine fw_gstZ C dJ0_coder_7d493_0 ?_
  refine fw_if_eq C 13 dJ0_coder_7d493_3 (by decide) (fun q => absurd q (by decide)) (fun _ => ?_)
  refine fw_aload_n C 0 dJ0_coder_7d493_6 rfl rfl ?_
  refine fw_scod C hi dJ0_coder_7d493_7 ?_
  refine fw_goto C 14 dJ0_coder_7d493_10 (by decide) ?_
  exact fw_tret C hr rfl hlk dJ0_coder_7d493_14
theorem cJ_lat {i : Nat} (hi : i < fw_nS) : fw_M l G yJ0_isLatin1_aae02 (.code yJ0_isLatin1_aae02 cJ0_isLatin1_aae02 1 (some .boolean)) 1 0 0 S M [.ref (1000001 + i)] (.inl (some (.int 1)), S, M) := by
  refine fw_of [(0, .ref (1000001 + i))] (by decide) (Nat.le_of_ble_eq_true rfl) rfl ?_
  intro p e s m args below meth c C hr hlk hnm ht _
  refine fw_gstZ C dJ0_isLatin1_aae02_0 ?_
  refine fw_if_eq C 17 dJ0_isLatin1_aae02_3 (by decide) (fun q => absurd q (by decide)) (fun _ => ?_)
  refine fw_aload_n C 0 dJ0_isLatin1_aae02_6 rfl rfl ?_
  refine fw_scod C hi dJ0_isLatin1_aae02_7 ?_
  refine fw_if_ne C 17 dJ0_isLatin1_aae02_10 (by decide) (fun q => absurd rfl q) (fun _ => ?_)
  refine fw_iconst C 1 dJ0_isLatin1_aae02_13 rfl ?_
  refine fw_goto C 18 dJ0_isLatin1_aae02_14 (by decide) ?_
  exact fw_zret C hr (Or.inr rfl) hlk dJ0_isLatin1_aae02_18
theorem cJ_len {i : Nat} (hi : i < fw_nS) : fw_M l G yJ0_length_8abf5 (.code yJ0_length_8abf5 cJ0_length_8abf5 1 (some .int)) 2 0 0 S M [.ref (1000001 + i)] (.inl (some (.int (nI (fw_len.getD i 0)))), S, M) := by
  refine fw_of [(0, .ref (1000001 + i))] (by decide) (Nat.le_of_ble_eq_true rfl) rfl ?_
  intro p e s m args below meth c C hr hlk hnm ht _
  refine fw_aload_n C 0 dJ0_length_8abf5_0 rfl rfl ?_
  refine fw_sval C hi dJ0_length_8abf5_1 ?_
  refine fw_svlen C hi dJ0_length_8abf5_4 ?_
  refine fw_aload_n C 0 dJ0_length_8abf5_5 rfl rfl ?_
  refine fw_callVS [] C hi (cJ_coder hi) calJ_coder wm_J0_335 wi_yJ0_coder_7d493 wsl_yJ0_coder_7d493 rfl rfl (Nat.le_of_ble_eq_true rfl) ⟨Nat.le_of_ble_eq_true rfl, Nat.le_of_ble_eq_true rfl⟩ ⟨Nat.le_refl _, Nat.le_refl _⟩ dJ0_length_8abf5_6 ?_
  refine fw_ishr C dJ0_length_8abf5_9 ?_
  rw [fw_shr0]
  exact fw_iret C hr hlk dJ0_length_8abf5_10
/-- Preconditions.checkIndex, whatever the formatter is -/
theorem cJ_pre {j n : Int32} {v : Value} (h1 : ¬ j < 0) (h2 : j < n) : vx_Met l yJ3_checkIndex_8e157 (.code yJ3_checkIndex_8e157 cJ3_checkIndex_8e157 3 (some .int) :: wsU) (fw_rm 1 0 0) (va_Pc [.int j, .int n, v] (fun U => (v.category = 1) ∧ fw_Wd G U ∧ fw_R G S M U.heap)) (fw_Qc G (.inl (some (.int j)), S, M)) (fw_XC G (.inl (some (.int j)), S, M)) 0 0 (fw_A G) := by
  refine vx_ofW (cc := cJ3_checkIndex_8e157) (maxL := 3) (ret := some .int) (by decide) rfl ?_
  intro p e s m args below meth c s₁ B hml ht hv
  obtain ⟨rfl, hcat, hW, hR⟩ := hv
  have hts := atoms_spec (ws := Cond.code yJ3_checkIndex_8e157 cJ3_checkIndex_8e157 3 (some .int) :: wsU) B.pre
  have C : fw_C G RJ3 cJ3_checkIndex_8e157 3 p s m [.int j, .int n, v].toArray c := ⟨⟨B.exec, B.bytes, hml, findClass_of_methodNamed B.named, fun w hw => hts w (List.mem_cons_of_mem _ hw)⟩, hW⟩
  have hr := B.returns
  have hlk := B.notSynchronized
  have hb : fw_W G p l e (fw_rm 1 0 0) s m [.int j, .int n, v].toArray below meth c 3 (fw_Z G below [.int j, .int n, v].toArray s 0 0 (.inl (some (.int j)), S, M)) 0 0 0 [(0, .int j), (1, .int n)] [] S M := by
    refine fw_iload_n C 0 dJ3_checkIndex_8e157_0 rfl rfl ?_
    refine fw_if_lt C 9 dJ3_checkIndex_8e157_1 (by decide) (fun q => absurd q h1) (fun _ => ?_)
    refine fw_iload_n C 0 dJ3_checkIndex_8e157_4 rfl rfl ?_
    refine fw_iload_n C 1 dJ3_checkIndex_8e157_5 rfl rfl ?_
    refine fw_icmp_lt C 16 dJ3_checkIndex_8e157_6 (by decide) (fun _ => ?_) (fun q => absurd h2 q)
    refine fw_iload_n C 0 dJ3_checkIndex_8e157_16 rfl rfl ?_
    exact fw_iret C hr hlk dJ3_checkIndex_8e157_17
  have hle : (lg_sl [.int j, .int n, v]).length ≤ 3 := by
    have q1 : ∀ (x : Value) (xs : List Value), (lg_sl (x :: xs)).length = (if x.category = 2 then 2 else 1) + (lg_sl xs).length := by
      intro x xs
      simp only [lg_sl, List.flatMap_cons, List.length_append]
      split <;> rfl
    rw [q1, q1, q1, hcat]
    exact Nat.le_of_ble_eq_true rfl
  have hl := lv_entry [.int j, .int n, v] (n := 3) hle
  rw [lg_entry_eq]
  refine hb s.heap [] _ ?_ hR va_S.rf
  refine ⟨hl.1, hl.2.1, fun q hq => hl.2.2 q ?_⟩
  have e9 : lv_args 0 [.int j, .int n, v] = (0, .int j) :: (1, .int n) :: lv_args 2 [v] := rfl
  rw [e9]
  simp only [List.map_cons, List.map_nil, fw_cl, fw_cv, List.mem_cons, List.not_mem_nil, or_false] at hq
  rcases hq with rfl | rfl
  · exact List.mem_cons_self
  · exact List.mem_cons_of_mem _ List.mem_cons_self
theorem cJ_chk {j n : Int32} (h1 : ¬ j < 0) (h2 : j < n) : fw_M l G yJ0_checkIndex_df160 (.code yJ0_checkIndex_df160 cJ0_checkIndex_df160 2 none) 2 0 0 S M [.int j, .int n] (.inl none, S, M) := by
  refine fw_of [(0, .int j), (1, .int n)] (by decide) (Nat.le_of_ble_eq_true rfl) rfl ?_
  intro p e s m args below meth c C hr hlk hnm ht _
  refine fw_iload_n C 0 dJ0_checkIndex_df160_0 rfl rfl ?_
  refine fw_iload_n C 1 dJ0_checkIndex_df160_1 rfl rfl ?_
  intro H locs ls hl hR hS
  have hts : ∀ w ∈ wsU, w.before args s = true := C.1.2.2.2.2
  have key : ∀ v : Value, v.category = 1 → va_Z "jdk/internal/util/Preconditions" "SIOOBE_FORMATTER" "Ljava/util/function/BiFunction;" v (fw_A G) s s.heap → W p l e (fw_rm 2 0 0) s m args below meth c H locs 0 0 (fw_Z G below args s 0 0 (.inl none, S, M)) (F0 m (0 + 1 + 1) ls [.int n, .int j]) := by
    intro v hcat hZ
    refine va_gets C.1.1 C.1.2.1 hZ hS C.1.2.2.2.1 (hts _ wf_J0_1053) (fun _ h => h) dJ0_checkIndex_df160_2 ?_
    have cw : CallB (fw_rm 2 0 0) s args RJ0 1059 yJ3_checkIndex_8e157 cJ3_checkIndex_8e157 3 (some .int) (Cond.code yJ3_checkIndex_8e157 cJ3_checkIndex_8e157 3 (some .int) :: wsU) (fw_rm 1 0 0) 0 0 3 := callB_of 3 hts (fw_goodU _ calJ_pre.1) rfl rfl rfl (hts _ calJ_pre.2.1) (hts _ wm_J0_1059) calJ_pre.2.2 ⟨Nat.le_of_ble_eq_true rfl, Nat.le_of_ble_eq_true rfl⟩
    have hp : PreS s H (va_Pc [.int j, .int n, v] (fun U => (v.category = 1) ∧ fw_Wd G U ∧ fw_R G S M U.heap)) [.int j, .int n, v] :=
      ⟨fun a U g mk hh => ⟨hh.1, hh.2.1, hh.2.2.1.step (State.WarmedH.refl U) (Nat.le_refl _) (fun _ _ _ => rfl), hh.2.2.2⟩, fun U hU hW => ⟨rfl, hcat, C.2.step hW (by rw [hU]; exact hS.1) (fun a z1 z2 => by rw [hU]; exact hS.2.1 a z1 z2), by rw [hU]; exact hR⟩⟩
    refine fw_goes (st := []) (lv := [(0, .int j), (1, .int n)]) (vx_runS (As := [.int j, .int n, v]) ⟨C.1.1, C.1.2.1, C.1.2.2.1, C.1.2.2.2.1, hts⟩ (cJ_pre h1 h2) ⟨cw, hts _ wt_yJ3_checkIndex_8e157⟩ hp rfl rfl hl.1 rfl (lv_room (Nat.le_of_ble_eq_true rfl)) dJ0_checkIndex_df160_5 ⟨Nat.le_refl _, Nat.le_refl _⟩) hl hS ?_
    refine fw_pop C dJ0_checkIndex_df160_8 rfl ?_
    exact fw_vret C hr hlk dJ0_checkIndex_df160_9
  rcases C.2.2.2.2.2.2.2.2.2.2.1 with hZ | ⟨t, hZ⟩
  · exact key .null rfl hZ
  · exact key (.ref t) rfl hZ
theorem cJ_lchr {i : Nat} {j : Int32} (hi : i < fw_nS) (hj : vp_in j (fw_len.getD i 0)) : fw_M l G yJ1_charAt_3b067 (.code yJ1_charAt_3b067 cJ1_charAt_3b067 2 (some .char)) 3 0 0 S M [.ref (500000 + i), .int j] (.inl (some (.int ((fw_byt.getD i []).getD j.toNatClampNeg 0))), S, M) := by
  have hl10 := fw_len_ok i hi
  have h1 : ¬ j < 0 := fun q => hj (Or.inl q)
  have h3 : j.toNatClampNeg < fw_len.getD i 0 := Nat.not_le.mp fun q => hj (Or.inr q)
  obtain ⟨k, hk, ek⟩ := vp_in_of hj (by omega)
  have h2 : j < nI (fw_len.getD i 0) := by rw [ek]; exact nI_lt hk (by omega)
  refine fw_of [(0, .ref (500000 + i)), (1, .int j)] (by decide) (Nat.le_of_ble_eq_true rfl) rfl ?_
  intro p e s m args below meth c C hr hlk hnm ht _
  refine fw_iload_n C 1 dJ1_charAt_3b067_0 rfl rfl ?_
  refine fw_aload_n C 0 dJ1_charAt_3b067_1 rfl rfl ?_
  refine fw_svlen C hi dJ1_charAt_3b067_2 ?_
  refine fw_callS [_, _] C (cJ_chk h1 h2) calJ_chk wm_J1_9 wt_yJ0_checkIndex_df160 rfl (Nat.le_of_ble_eq_true rfl) ⟨Nat.le_of_ble_eq_true rfl, Nat.le_of_ble_eq_true rfl⟩ ⟨Nat.le_refl _, Nat.le_refl _⟩ dJ1_charAt_3b067_3 ?_
  refine fw_aload_n C 0 dJ1_charAt_3b067_6 rfl rfl ?_
  refine fw_iload_n C 1 dJ1_charAt_3b067_7 rfl rfl ?_
  refine fw_svld C hi hj dJ1_charAt_3b067_8 ?_
  refine fw_sipush C 255 dJ1_charAt_3b067_9 rfl ?_
  refine fw_iand C dJ1_charAt_3b067_12 ?_
  refine fw_i2c C dJ1_charAt_3b067_13 ?_
  have hc := fw_chr_ok i hi j.toNatClampNeg (by omega)
  have hn := pk_nc ((fw_byt.getD i []).getD j.toNatClampNeg 0 &&& 255)
  rw [hc] at hn ⊢
  exact fw_tret C hr hn hlk dJ1_charAt_3b067_14
theorem cJ_chr {i : Nat} {j : Int32} (hi : i < fw_nS) (hj : vp_in j (fw_len.getD i 0)) : fw_M l G yJ0_charAt_5068e (.code yJ0_charAt_5068e cJ0_charAt_5068e 2 (some .char)) 4 0 0 S M [.ref (1000001 + i), .int j] (.inl (some (.int ((fw_byt.getD i []).getD j.toNatClampNeg 0))), S, M) := by
  have hl10 := fw_len_ok i hi
  have h3 : j.toNatClampNeg < fw_len.getD i 0 := Nat.not_le.mp fun q => hj (Or.inr q)
  have hn := pk_nc ((fw_byt.getD i []).getD j.toNatClampNeg 0 &&& 255)
  rw [fw_chr_ok i hi j.toNatClampNeg (by omega)] at hn
  refine fw_of [(0, .ref (1000001 + i)), (1, .int j)] (by decide) (Nat.le_of_ble_eq_true rfl) rfl ?_
  intro p e s m args below meth c C hr hlk hnm ht _
  refine fw_aload_n C 0 dJ0_charAt_5068e_0 rfl rfl ?_
  refine fw_callVS [] C hi (cJ_lat hi) calJ_lat wm_J0_492 wi_yJ0_isLatin1_aae02 wsl_yJ0_isLatin1_aae02 rfl rfl (Nat.le_of_ble_eq_true rfl) ⟨Nat.le_of_ble_eq_true rfl, Nat.le_of_ble_eq_true rfl⟩ ⟨Nat.le_refl _, Nat.le_refl _⟩ dJ0_charAt_5068e_1 ?_
  refine fw_if_eq C 16 dJ0_charAt_5068e_4 (by decide) (fun q => absurd q (by decide)) (fun _ => ?_)
  refine fw_aload_n C 0 dJ0_charAt_5068e_7 rfl rfl ?_
  refine fw_sval C hi dJ0_charAt_5068e_8 ?_
  refine fw_iload_n C 1 dJ0_charAt_5068e_11 rfl rfl ?_
  refine fw_callS [_, _] C (cJ_lchr hi hj) calJ_lchr wm_J0_495 wt_yJ1_charAt_3b067 rfl (Nat.le_of_ble_eq_true rfl) ⟨Nat.le_of_ble_eq_true rfl, Nat.le_of_ble_eq_true rfl⟩ ⟨Nat.le_refl _, Nat.le_refl _⟩ dJ0_charAt_5068e_12 ?_
  exact fw_tret C hr hn hlk dJ0_charAt_5068e_15
end FWQ2
section FWQ3
variable {G : fw_G} {own : String} {cc : ByteArray} {nL : Nat} {p : Program} {l : Launch} {e : Env} {R : Room} {s : State} {m : MethodId} {args : Array Value} {below : List Frame} {meth : Method} {c : Code} {Q : State → Prop} {cb sb pc : Nat} {lv : List (Nat × Value)} {st : List Value} {S : List fw_Sh} {M : fw_Mem}
theorem fw_strlen (C : fw_C G own cc nL p s m args c) (hl : l.stackTraces = false) {ix a : Nat} (w : Cond.methodLink own ix yJ0_length_8abf5 ∈ wsU) (hst : (st.map fun v => v.category).sum ≤ 8) (h : ∃ i, i < fw_nS ∧ a = 1000001 + i) (hf : 6 ≤ R.frames) (hlo : 300 ≤ R.locals) (hc : cb ≤ R.cells) (hs : sb ≤ R.slots) (d : decode cc pc = .ok (.invokevirtual ix, 3)) (k : fw_W G p l e R s m args below meth c nL Q cb sb (pc + 3) lv (.int (nI (sLen a)) :: st) S M) : fw_W G p l e R s m args below meth c nL Q cb sb pc lv (.ref a :: st) S M := by
  obtain ⟨i, hi, rfl⟩ := h
  have e1 : 1000001 + i - 1000001 = i := by omega
  rw [sLen, e1] at k
  exact fw_callVS [] C hi (cJ_len hi) calJ_len w wi_yJ0_length_8abf5 wsl_yJ0_length_8abf5 rfl rfl hst ⟨by omega, by omega⟩ ⟨hc, hs⟩ d k
theorem fw_strchr (C : fw_C G own cc nL p s m args c) (hl : l.stackTraces = false) {ix a : Nat} {i : Int32} (w : Cond.methodLink own ix yJ0_charAt_5068e ∈ wsU) (hst : (st.map fun v => v.category).sum ≤ 8) (h : ∃ i, i < fw_nS ∧ a = 1000001 + i) (hi : vp_in i (sLen a)) (hf : 6 ≤ R.frames) (hlo : 300 ≤ R.locals) (hc : cb ≤ R.cells) (hs : sb ≤ R.slots) (d : decode cc pc = .ok (.invokevirtual ix, 3)) (k : fw_W G p l e R s m args below meth c nL Q cb sb (pc + 3) lv (.int (sChr a i.toNatClampNeg) :: st) S M) : fw_W G p l e R s m args below meth c nL Q cb sb pc lv (.int i :: .ref a :: st) S M := by
  obtain ⟨q, hq, rfl⟩ := h
  have e1 : 1000001 + q - 1000001 = q := by omega
  rw [sChr, e1] at k
  rw [sLen, e1] at hi
  exact fw_callVS [.int i] C hq (cJ_chr hq hi) calJ_chr w wi_yJ0_charAt_5068e wsl_yJ0_charAt_5068e rfl rfl hst ⟨by omega, by omega⟩ ⟨hc, hs⟩ d k
end FWQ3
