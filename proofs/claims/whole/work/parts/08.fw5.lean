/-! ===== rules: switches, returns, throws, calls; the contract out of the walk ===== -/
section FWT
variable {G : fw_G} {own : String} {cc : ByteArray} {nL : Nat} {p : Program} {l : Launch} {e : Env} {R : Room} {s : State} {m : MethodId} {args : Array Value} {below : List Frame} {meth : Method} {c : Code} {Q : State → Prop} {cb sb pc : Nat} {lv lv' : List (Nat × Value)} {st : List Value} {S S' : List fw_Sh} {M M' : fw_Mem}
theorem fw_tableOut (C : fw_C G own cc nL p s m args c) {dflt lo hi : Int} {offs : Array Int} {len : Nat} {x : Int32} (tgt : Nat) (d : decode cc pc = .ok (.tableswitch dflt lo hi offs, len)) (h : x.toInt < lo ∨ hi < x.toInt) (ht : (pc : Int) + dflt = (tgt : Int)) (k : fw_W G p l e R s m args below meth c nL Q cb sb tgt lv st S M) : fw_W G p l e R s m args below meth c nL Q cb sb pc lv (.int x :: st) S M :=
  fun H locs ls hl hR hS => lv_tableOut C.1.1 C.1.2.1 d h ht (k H locs ls hl hR hS)
/-- a switch over lo .. lo + n - 1: each case, then the rest -/
theorem fw_tableIn (C : fw_C G own cc nL p s m args c) {dflt lo hi off : Int} {offs : Array Int} {len : Nat} {x : Int32} (v : Int32) (tgt : Nat) (d : decode cc pc = .ok (.tableswitch dflt lo hi offs, len)) (hx : x = v) (h1 : ¬ v.toInt < lo) (h2 : ¬ hi < v.toInt) (ho : offs[(v.toInt - lo).toNat]? = some off) (ht : (pc : Int) + off = (tgt : Int)) (k : fw_W G p l e R s m args below meth c nL Q cb sb tgt lv st S M) : fw_W G p l e R s m args below meth c nL Q cb sb pc lv (.int x :: st) S M := by
  subst hx
  exact fun H locs ls hl hR hS => lv_tableIn C.1.1 C.1.2.1 d h1 h2 ho ht (k H locs ls hl hR hS)
theorem fw_lookup (C : fw_C G own cc nL p s m args c) {dflt off : Int} {ps : Array (Int × Int)} {len : Nat} {x : Int32} (tgt : Nat) (d : decode cc pc = .ok (.lookupswitch dflt ps, len)) (hp : (ps.toList.zip (ps.toList.drop 1)).all (fun (a, next) => a.1 < next.1) = true) (ho : Op.lookupswitch.offset ps.toList dflt x.toInt = off) (ht : (pc : Int) + off = (tgt : Int)) (k : fw_W G p l e R s m args below meth c nL Q cb sb tgt lv st S M) : fw_W G p l e R s m args below meth c nL Q cb sb pc lv (.int x :: st) S M :=
  fun H locs ls hl hR hS => lv_lookup C.1.1 C.1.2.1 d hp ho ht (k H locs ls hl hR hS)
/-- what a body owes at its end -/
abbrev fw_Z (G : fw_G) (below : List Frame) (args : Array Value) (s : State) (mc ms : Nat) (o : fw_O) : State → Prop := vx_MQ below (fw_Qc G o) (fw_XC G o) args s mc ms (fw_A G)
theorem fw_iret (C : fw_C G own cc nL p s m args c) {v : Int32} (hr : meth.sig.returnType = some .int) (hlocks : meth.locks = false) (d : decode cc pc = .ok (.ireturn, 1)) : fw_W G p l e R s m args below meth c nL (fw_Z G below args s cb sb (.inl (some (.int v)), S, M)) cb sb pc lv [.int v] S M := by
  intro H locs ls hl hR hS
  exact vx_ret (W.iret (v := v) C.1.1 C.1.2.1 hr (fun t ht hW => ⟨some (.int v), rfl, rfl, by rw [ht]; exact hR, hS.F ht⟩) hS.2.2 d hlocks)
theorem fw_zret (C : fw_C G own cc nL p s m args c) {v : Int32} (hr : meth.sig.returnType = some .boolean) (hv : v = 0 ∨ v = 1) (hlocks : meth.locks = false) (d : decode cc pc = .ok (.ireturn, 1)) : fw_W G p l e R s m args below meth c nL (fw_Z G below args s cb sb (.inl (some (.int v)), S, M)) cb sb pc lv [.int v] S M := by
  intro H locs ls hl hR hS
  exact vx_ret (W.zret (v := v) C.1.1 C.1.2.1 hr (by rcases hv with rfl | rfl <;> rfl) (fun t ht hW => ⟨some (.int v), rfl, rfl, by rw [ht]; exact hR, hS.F ht⟩) hS.2.2 d hlocks)
theorem fw_vret (C : fw_C G own cc nL p s m args c) (hr : meth.sig.returnType = none) (hlocks : meth.locks = false) (d : decode cc pc = .ok (.return_, 1)) : fw_W G p l e R s m args below meth c nL (fw_Z G below args s cb sb (.inl none, S, M)) cb sb pc lv [] S M := by
  intro H locs ls hl hR hS
  exact vx_ret (W.vret C.1.1 C.1.2.1 hr (fun t ht hW => ⟨none, rfl, rfl, by rw [ht]; exact hR, hS.F ht⟩) hS.2.2 d hlocks)
theorem fw_aret (C : fw_C G own cc nL p s m args c) {v : Value} {rt : String} (hr : meth.sig.returnType = some (.object rt)) (hv : v = .null ∨ ∃ a, v = .ref a) (hlocks : meth.locks = false) (d : decode cc pc = .ok (.areturn, 1)) : fw_W G p l e R s m args below meth c nL (fw_Z G below args s cb sb (.inl (some v), S, M)) cb sb pc lv [v] S M := by
  intro H locs ls hl hR hS
  refine vx_ret (W.aret (v := fw_cv G v) C.1.1 C.1.2.1 hr (Or.inl ⟨_, rfl⟩) ?_ (fun t ht hW => ⟨some v, rfl, rfl, by rw [ht]; exact hR, hS.F ht⟩) hS.2.2 d hlocks)
  rcases hv with rfl | ⟨a, rfl⟩
  · exact Or.inl rfl
  · exact Or.inr ⟨_, rfl⟩
/-- the room may be rounded up -/
theorem fw_widen {k n : Nat} (h1 : cb ≤ k) (h2 : sb ≤ n) (kk : fw_W G p l e R s m args below meth c nL Q k n pc lv st S M) : fw_W G p l e R s m args below meth c nL Q cb sb pc lv st S M :=
  fun H locs ls hl hR hS => W.widen h1 h2 (kk H locs ls hl hR hS)
theorem fw_R_kept {H H1 : Heap} (h : fw_R G S M H) (hq : ∀ q : Nat, q < H.size → H1[q]? = H[q]?) : fw_R G S M H1 :=
  ⟨h.1, h.2.kept fun k q hk => hq _ (h.2 k q hk).lt⟩
/-- what a call gives back: the run, whatever kind of call it was -/
theorem fw_goes {H : Heap} {locs : List Loc} {ls : Array Slot} {mc ms : Nat} {st0 : List Value} {a : Array Value} {v : Option Value} (hr : vx_Run p l e R s m args below meth c H locs cb sb mc ms (F0 m pc ls st0) (st.map (fw_cv G)) (fw_Qc G (.inl v, S', M') a) (fw_XC G (.inl v, S', M')) (fw_A G)) (hv : lv_has ls nL (lv.map (fw_cl G))) (hS : va_S (fw_A G) s.heap H locs)
    (kk : fw_W G p l e R s m args below meth c nL Q (cb + mc) (sb + ms) (pc + 3) lv (v.toList ++ st) S' M') : W p l e R s m args below meth c H locs cb sb Q (F0 m pc ls st0) := by
  intro T hT X
  rcases hr T hT X with ⟨v', st₀, t, T', L, h0, X', hL, e1, e2, ⟨v2, hv2, hv3, hR', hF⟩, stp⟩ | ⟨q, st₀, t, T', L, E, ce, h0, X', hL, e1, e2, ⟨hq, -⟩, -⟩
  · cases hv2
    cases hv3
    obtain ⟨k1, k2, k3⟩ := vx_keep h0 e1 hS (fun q _ h => h) (fun q h => h) hL hF
    obtain ⟨t2, a1, b1⟩ := kk T'.heap (locs ++ L) ls hv (by rw [e1]; exact hR') k3 T' rfl X'
    refine ⟨t2, stp t2 ?_, b1⟩
    have e9 : List.map (fw_cv G) (v.toList ++ st) = (v.map (fw_cv G)).toList ++ st.map (fw_cv G) := by cases v <;> rfl
    rw [← e9]
    exact a1
  · cases hq
/-- a call that throws, no handler here -/
theorem fw_goesX {H : Heap} {locs : List Loc} {ls : Array Slot} {mc ms : Nat} {st0 : List Value} {a : Array Value} {X : String} (hr : vx_Run p l e R s m args below meth c H locs cb sb mc ms (F0 m pc ls st0) (st.map (fw_cv G)) (fw_Qc G (.inr X, S', M') a) (fw_XC G (.inr X, S', M')) (fw_A G)) (hS : va_S (fw_A G) s.heap H locs) (ht : ∀ x ∈ c.exceptionTable.toList, False) (hlocks : meth.locks = false) :
    W p l e R s m args below meth c H locs cb sb (fw_Z G below args s (cb + mc) (sb + ms) (.inr X, S', M')) (F0 m pc ls st0) := by
  intro T hT X0
  rcases hr T hT X0 with ⟨v', st₀, t, T', L, h0, X', hL, e1, e2, ⟨v2, hv2, -⟩, stp⟩ | ⟨q, st₀, t, T', L, E, ce, h0, X', hL, e1, e2, ⟨hq, hR', hF⟩, hce, hcv, hcl, stp⟩
  · cases hv2
  · cases hq
    obtain ⟨k1, k2, k3⟩ := vx_keep h0 e1 hS (fun q _ h => h) (fun q h => h) hL hF
    obtain ⟨t2, a1, b1⟩ := vx_out (Qc := fw_Qc G (.inr X, S', M')) (XC := fw_XC G (.inr X, S', M')) (free := fw_A G) (H := T'.heap) (locs := locs ++ L) (mc := cb + mc) (ms := sb + ms) (pc := pc) (ls := ls) (rest := st.map (fw_cv G)) (q := q) (E := X) (ce := ce) (fun x hx => (ht x hx).elim) hlocks (by rw [e1]; exact hce) hcv hcl (fun t9 ht9 _ => ⟨rfl, by rw [ht9, e1]; exact hR', k3.F ht9⟩) k3.2.2 (Nat.le_refl _) (Nat.le_refl _) T' rfl X'
    exact ⟨t2, stp.trans a1, b1⟩
theorem fw_pre {H : Heap} {locs : List Loc} {vs : List Value} (C : fw_C G own cc nL p s m args c) (hR : fw_R G S M H) (hS : va_S (fw_A G) s.heap H locs) : PreS s H (fw_Pc G S M vs) (vs.map (fw_cv G)) :=
  ⟨fw_blind G S M vs, fun U hU hW => ⟨rfl, C.2.step hW (by rw [hU]; exact hS.1) (fun a h1 h2 => by rw [hU]; exact hS.2.1 a h1 h2), by rw [hU]; exact hR⟩⟩
theorem fw_runV {H : Heap} {locs : List Loc} {ls : Array Slot} {y : MethodName} {bytes : ByteArray} {maxL ix n d mc ms a ci : Nat} {ret : Option FieldType} {As : List Value} {o : fw_O} (C : fw_C G own cc nL p s m args c) (hM : fw_M l G y (.code y bytes maxL ret) d mc ms S M (.ref a :: As) o) (hc : fw_cal y (.code y bytes maxL ret) n) (w1 : Cond.methodLink own ix y ∈ wsU) (w2 : Cond.instanceMethod y ∈ wsU) (w3 : Cond.selects (fw_RR ci) y y ∈ wsU) (hci : ci < 11) (hy : y.cls = fw_RR ci) (hS : fw_isO S ci a) (hn : As.length = n) (hst : (st.map fun v => v.category).sum ≤ 8) (hr : d + 1 ≤ R.frames ∧ 8 + (maxL + 11) + 64 * d ≤ R.locals) (hf : cb + mc ≤ R.cells ∧ sb + ms ≤ R.slots) (dd : decode cc pc = .ok (.invokevirtual ix, 3)) (hv : lv_has ls nL (lv.map (fw_cl G))) (hR : fw_R G S M H) (hV : va_S (fw_A G) s.heap H locs) :
    vx_Run p l e R s m args below meth c H locs cb sb mc ms (F0 m pc ls ((As.reverse ++ .ref a :: st).map (fw_cv G))) (st.map (fw_cv G)) (fw_Qc G o ((.ref a :: As).map (fw_cv G)).toArray) (fw_XC G o) (fw_A G) := by
  have hts : ∀ w ∈ wsU, w.before args s = true := C.1.2.2.2.2
  have hw : GoodIn wsU (wsV own ix (fw_RR ci) y (Cond.code y bytes maxL ret :: wsU)) := by
    intro x hx
    rcases List.mem_append.mp hx with h | h
    · rcases List.mem_cons.mp h with rfl | h
      · exact ⟨w1, good_of_word (wsU_good _ w1)⟩
      rcases List.mem_cons.mp h with rfl | h
      · exact ⟨w2, good_of_word (wsU_good _ w2)⟩
      rcases List.mem_cons.mp h with rfl | h
      · exact ⟨w3, good_of_word (wsU_good _ w3)⟩
      rcases List.mem_cons.mp h with rfl | h
      · have w4 := hc.2.1
        rw [hy] at w4
        exact ⟨w4, good_of_word (wsU_good _ w4)⟩
      · cases h
    · exact fw_goodU _ hc.1 x h
  have cw : CallW R s args own (fw_RR ci) ix y bytes maxL ret (Cond.code y bytes maxL ret :: wsU) (fw_rm d mc ms) mc ms n := cwV n hts hw rfl rfl rfl ⟨hy, hc.2.2⟩ hr
  have hrecv := va_recv C.2.1 hR.2 (fw_cls ci hci) (fw_ws_get G M hS)
  have hp := fw_pre (vs := .ref a :: As) C hR hV
  refine vx_runV (b := fw_ad G a) (As := As.map (fw_cv G)) ⟨C.1.1, C.1.2.1, C.1.2.2.1, C.1.2.2.2.1, hts⟩ hM cw ⟨hp.1, hrecv, hp.2⟩ rfl (by rw [List.length_map]; exact hn) hv.1 ?_ (lv_room (by rw [fw_cats]; exact hst)) dd hf
  show ((As.reverse ++ .ref a :: st).map (fw_cv G)) = (As.map (fw_cv G)).reverse ++ Value.ref (fw_ad G a) :: st.map (fw_cv G)
  rw [List.map_append, List.map_reverse, List.map_cons]
  rfl
theorem fw_callV {y : MethodName} {bytes : ByteArray} {maxL ix n d mc ms a ci : Nat} {ret : Option FieldType} (As : List Value) {v : Option Value} (C : fw_C G own cc nL p s m args c) (hM : fw_M l G y (.code y bytes maxL ret) d mc ms S M (.ref a :: As) (.inl v, S', M')) (hc : fw_cal y (.code y bytes maxL ret) n) (w1 : Cond.methodLink own ix y ∈ wsU) (w2 : Cond.instanceMethod y ∈ wsU) (w3 : Cond.selects (fw_RR ci) y y ∈ wsU) (hci : ci < 11) (hy : y.cls = fw_RR ci) (hS : fw_isO S ci a) (hn : As.length = n) (hst : (st.map fun v => v.category).sum ≤ 8) (hr : d + 1 ≤ R.frames ∧ 8 + (maxL + 11) + 64 * d ≤ R.locals) (hf : cb + mc ≤ R.cells ∧ sb + ms ≤ R.slots) (dd : decode cc pc = .ok (.invokevirtual ix, 3)) (kk : fw_W G p l e R s m args below meth c nL Q (cb + mc) (sb + ms) (pc + 3) lv (v.toList ++ st) S' M') :
    fw_W G p l e R s m args below meth c nL Q cb sb pc lv (As.reverse ++ .ref a :: st) S M :=
  fun H locs ls hv hR hV => fw_goes (fw_runV C hM hc w1 w2 w3 hci hy hS hn hst hr hf dd hv hR hV) hv hV kk
theorem fw_callVX {y : MethodName} {bytes : ByteArray} {maxL ix n d mc ms a ci : Nat} {ret : Option FieldType} (As : List Value) {X : String} (C : fw_C G own cc nL p s m args c) (hM : fw_M l G y (.code y bytes maxL ret) d mc ms S M (.ref a :: As) (.inr X, S', M')) (hc : fw_cal y (.code y bytes maxL ret) n) (w1 : Cond.methodLink own ix y ∈ wsU) (w2 : Cond.instanceMethod y ∈ wsU) (w3 : Cond.selects (fw_RR ci) y y ∈ wsU) (hci : ci < 11) (hy : y.cls = fw_RR ci) (hS : fw_isO S ci a) (hn : As.length = n) (hst : (st.map fun v => v.category).sum ≤ 8) (hr : d + 1 ≤ R.frames ∧ 8 + (maxL + 11) + 64 * d ≤ R.locals) (hf : cb + mc ≤ R.cells ∧ sb + ms ≤ R.slots) (dd : decode cc pc = .ok (.invokevirtual ix, 3)) (ht : ∀ x ∈ c.exceptionTable.toList, False) (hlocks : meth.locks = false) :
    fw_W G p l e R s m args below meth c nL (fw_Z G below args s (cb + mc) (sb + ms) (.inr X, S', M')) cb sb pc lv (As.reverse ++ .ref a :: st) S M :=
  fun H locs ls hv hR hV => fw_goesX (fw_runV C hM hc w1 w2 w3 hci hy hS hn hst hr hf dd hv hR hV) hV ht hlocks
theorem fw_runS {H : Heap} {locs : List Loc} {ls : Array Slot} {y : MethodName} {bytes : ByteArray} {maxL ix n d mc ms : Nat} {ret : Option FieldType} {As : List Value} {o : fw_O} (C : fw_C G own cc nL p s m args c) (hM : fw_M l G y (.code y bytes maxL ret) d mc ms S M As o) (hc : fw_cal y (.code y bytes maxL ret) n) (w1 : Cond.methodLink own ix y ∈ wsU) (w2 : Cond.static y ∈ wsU) (hn : As.length = n) (hst : (st.map fun v => v.category).sum ≤ 8) (hr : d + 1 ≤ R.frames ∧ 8 + (maxL + 11) + 64 * d ≤ R.locals) (hf : cb + mc ≤ R.cells ∧ sb + ms ≤ R.slots) (dd : decode cc pc = .ok (.invokestatic ix, 3)) (hv : lv_has ls nL (lv.map (fw_cl G))) (hR : fw_R G S M H) (hV : va_S (fw_A G) s.heap H locs) :
    vx_Run p l e R s m args below meth c H locs cb sb mc ms (F0 m pc ls ((As.reverse ++ st).map (fw_cv G))) (st.map (fw_cv G)) (fw_Qc G o (As.map (fw_cv G)).toArray) (fw_XC G o) (fw_A G) := by
  have hts : ∀ w ∈ wsU, w.before args s = true := C.1.2.2.2.2
  have cw : CallB R s args own ix y bytes maxL ret (Cond.code y bytes maxL ret :: wsU) (fw_rm d mc ms) mc ms n := callB_of n hts (fw_goodU _ hc.1) rfl rfl rfl (hts _ hc.2.1) (hts _ w1) hc.2.2 hr
  have hp := fw_pre (vs := As) C hR hV
  refine vx_runS (As := As.map (fw_cv G)) ⟨C.1.1, C.1.2.1, C.1.2.2.1, C.1.2.2.2.1, hts⟩ hM ⟨cw, hts _ w2⟩ hp rfl (by rw [List.length_map]; exact hn) hv.1 ?_ (lv_room (by rw [fw_cats]; exact hst)) dd hf
  show ((As.reverse ++ st).map (fw_cv G)) = (As.map (fw_cv G)).reverse ++ st.map (fw_cv G)
  rw [List.map_append, List.map_reverse]
theorem fw_callS {y : MethodName} {bytes : ByteArray} {maxL ix n d mc ms : Nat} {ret : Option FieldType} (As : List Value) {v : Option Value} (C : fw_C G own cc nL p s m args c) (hM : fw_M l G y (.code y bytes maxL ret) d mc ms S M As (.inl v, S', M')) (hc : fw_cal y (.code y bytes maxL ret) n) (w1 : Cond.methodLink own ix y ∈ wsU) (w2 : Cond.static y ∈ wsU) (hn : As.length = n) (hst : (st.map fun v => v.category).sum ≤ 8) (hr : d + 1 ≤ R.frames ∧ 8 + (maxL + 11) + 64 * d ≤ R.locals) (hf : cb + mc ≤ R.cells ∧ sb + ms ≤ R.slots) (dd : decode cc pc = .ok (.invokestatic ix, 3)) (kk : fw_W G p l e R s m args below meth c nL Q (cb + mc) (sb + ms) (pc + 3) lv (v.toList ++ st) S' M') :
    fw_W G p l e R s m args below meth c nL Q cb sb pc lv (As.reverse ++ st) S M :=
  fun H locs ls hv hR hV => fw_goes (fw_runS C hM hc w1 w2 hn hst hr hf dd hv hR hV) hv hV kk
/-- the contract out of the walk (a body without handlers) -/
theorem fw_of {y : MethodName} {cc : ByteArray} {maxL d mc ms : Nat} {ret : Option FieldType} {vs : List Value} {o : fw_O} (lv : List (Nat × Value)) (hy : plainName y.cls = true) (hlen : (lg_sl vs).length ≤ maxL) (hlv : lv_args 0 vs = lv)
    (body : ∀ (p : Program) (e : Env) (s : State) (m : MethodId) (args : Array Value) (below : List Frame) (meth : Method) (c : Code), fw_C G y.cls cc maxL p s m args c → meth.sig.returnType = ret → meth.locks = false → meth.name = y.name → (∀ x ∈ c.exceptionTable.toList, False) → args = (vs.map (fw_cv G)).toArray →
      fw_W G p l e (fw_rm d mc ms) s m args below meth c maxL (fw_Z G below args s mc ms o) 0 0 0 lv [] S M) : fw_M l G y (.code y cc maxL ret) d mc ms S M vs o := by
  subst hlv
  refine vx_ofW (cc := cc) (maxL := maxL) (ret := ret) hy rfl ?_
  intro p e s m args below meth c s₁ B hml ht hv
  obtain ⟨rfl, hW, hR⟩ := hv
  have hts := atoms_spec (ws := Cond.code y cc maxL ret :: wsU) B.pre
  have hC : fw_C G y.cls cc maxL p s m (vs.map (fw_cv G)).toArray c := ⟨⟨B.exec, B.bytes, hml, findClass_of_methodNamed B.named, fun w hw => hts w (List.mem_cons_of_mem _ hw)⟩, hW⟩
  have hb := body p e s m _ below meth c hC B.returns B.notSynchronized (name_of_methodNamed B.named B.method).1 ht rfl
  have e1 : ∀ (us : List Value), (lg_sl (us.map (fw_cv G))).length = (lg_sl us).length := by
    intro us
    induction us with
    | nil => rfl
    | cons u us ih =>
      have q1 : ∀ (x : Value) (xs : List Value), (lg_sl (x :: xs)).length = (if x.category = 2 then 2 else 1) + (lg_sl xs).length := by
        intro x xs
        simp only [lg_sl, List.flatMap_cons, List.length_append]
        split <;> rfl
      rw [List.map_cons, q1, q1, ih, fw_cv_cat]
  have e2 : ∀ (us : List Value) (i : Nat), lv_args i (us.map (fw_cv G)) = (lv_args i us).map (fw_cl G) := by
    intro us
    induction us with
    | nil => intro i; rfl
    | cons u us ih => intro i; cases u <;> simp only [List.map_cons, lv_args, fw_cv, fw_cl, ih] <;> rfl
  have hl := lv_entry (vs.map (fw_cv G)) (n := maxL) (by rw [e1]; exact hlen)
  rw [e2] at hl
  rw [lg_entry_eq]
  exact hb s.heap [] _ hl hR va_S.rf
end FWT
