/-! ===== the law's wrappers: a call, caught; calls of them ===== -/
theorem fw_metOf {l : Launch} {y : MethodName} {ws : List Cond} {rm : Room} {Pc : Array Value → State → Prop} {Qc : Array Value → State → Outcome → State → Prop} {XC : String → State → State → Prop} {mc ms : Nat} {free : Addr → Prop} (h : vx_Met l y ws rm Pc Qc XC mc ms free) (hX : ∀ E st t, ¬ XC E st t) : Met l y ws rm Pc Qc mc ms free := by
  intro p e ha hc hk s m args below hf h1 h2 h3
  obtain ⟨n, o, q1, q2, q3, hQ⟩ := h p e ha hc hk s m args below hf h1 h2 h3
  refine ⟨n, o, q1, q2, q3, ?_⟩
  rcases hQ with hQ | ⟨q, -, E, ce, L, hx, -⟩
  · exact hQ
  · exact (hX _ _ _ hx).elim
/-- a wrapper's contract: it returns -/
def fw_MW (l : Launch) (G : fw_G) (y : MethodName) (w : Cond) (d : Nat) (S : List fw_Sh) (M : fw_Mem) (vs : List Value) (v : Int32) (M' : fw_Mem) : Prop :=
  Met l y (w :: wsU) (fw_rm d 1 6) (fw_Pc G S M vs) (fw_Qc G (.inl (some (.int v)), S, M')) 1 6 (fw_A G)
section FWH
variable {G : fw_G} {own : String} {cc : ByteArray} {nL : Nat} {p : Program} {l : Launch} {e : Env} {R : Room} {s : State} {m : MethodId} {args : Array Value} {below : List Frame} {meth : Method} {c : Code} {Q : State → Prop} {cb sb pc : Nat} {lv : List (Nat × Value)} {st : List Value} {S S' : List fw_Sh} {M M' : fw_Mem}
theorem fw_goesH {H : Heap} {locs : List Loc} {ls : Array Slot} {mc ms : Nat} {st0 : List Value} {a : Array Value} {X nm : String} (C : fw_C G own cc nL p s m args c) (hr : vx_Run p l e R s m args below meth c H locs cb sb mc ms (F0 m pc ls st0) (st.map (fw_cv G)) (fw_Qc G (.inr X, S', M') a) (fw_XC G (.inr X, S', M')) (fw_A G)) (hS : va_S (fw_A G) s.heap H locs)
    (pre : List ExceptionTableEntry) (x : ExceptionTableEntry) (suf : List ExceptionTableEntry) (hsplit : c.exceptionTable.toList = pre ++ x :: suf) (hpass : ∀ z ∈ pre, covers z pc = false ∨ (z.catchType ≠ 0 ∧ ∃ nm : String, (Cond.classLink own z.catchType nm).before args s = true ∧ va_Nc X nm s)) (hx : covers x pc = true) (h0 : x.catchType ≠ 0) (hlink : (Cond.classLink own x.catchType nm).before args s = true) (hcast : (Cond.castable X nm).before args s = true)
    (kk : ∀ (H1 : Heap) (locs1 : List Loc) (q : Addr), fw_R G S' M' H1 → va_S (fw_A G) s.heap H1 locs1 → W p l e R s m args below meth c H1 locs1 (cb + mc) (sb + ms) Q (F0 m x.handlerPc ls [.ref q])) : W p l e R s m args below meth c H locs cb sb Q (F0 m pc ls st0) := by
  intro T hT X0
  rcases hr T hT X0 with ⟨v', st₀, t, T', L, h0', X', hL, e1, e2, ⟨v2, hv2, -⟩, stp⟩ | ⟨q, st₀, t, T', L, E, ce, h0', X', hL, e1, e2, ⟨hq, hR', hF⟩, hce, hcv, hcl, stp⟩
  · cases hv2
  · cases hq
    obtain ⟨k1, k2, k3⟩ := vx_keep h0' e1 hS (fun q _ h => h) (fun q h => h) hL hF
    obtain ⟨t2, a1, b1⟩ := vx_catch (rest := st.map (fw_cv G)) C.1.2.2.2.1 pre x suf hsplit hpass hx h0 hlink hcast (by rw [e1]; exact hce) hcv hcl (kk T'.heap (locs ++ L) q (by rw [e1]; exact hR') k3) T' rfl X'
    exact ⟨t2, stp.trans a1, b1⟩
/-- a handler that answers a number -/
theorem fw_hand {H : Heap} {locs : List Loc} {ls : Array Slot} {i : Nat} {n : Int} {v : Int32} {q : Addr} {hpc : Nat} (C : fw_C G own cc nL p s m args c) (hr : meth.sig.returnType = some .int) (hlk : meth.locks = false) (hl : lv_has ls nL (lv.map (fw_cl G))) (hR : fw_R G S M H) (hV : va_S (fw_A G) s.heap H locs) (hi : i < nL) (d1 : decode cc hpc = .ok (.astore i, 2)) (d2 : decode cc (hpc + 2) = .ok (.iconst n, 1)) (d3 : decode cc (hpc + 3) = .ok (.ireturn, 1)) (hv : Int32.ofInt n = v) :
    W p l e R s m args below meth c H locs cb sb (fw_Z G below args s cb sb (.inl (some (.int v)), S, M)) (F0 m hpc ls [.ref q]) := by
  refine lv_astore C.1.1 C.1.2.1 d1 hl hi rfl (fun ls' hl' => ?_)
  refine lv_iconst C.1.1 C.1.2.1 d2 hv ?_
  exact vx_ret (W.iret (v := v) C.1.1 C.1.2.1 hr (fun t ht hW => ⟨some (.int v), rfl, rfl, by rw [ht]; exact hR, hV.F ht⟩) hV.2.2 d3 hlk)
theorem fw_hand_n {H : Heap} {locs : List Loc} {ls : Array Slot} {k : Fin 4} {i : Nat} {n : Int} {v : Int32} {q : Addr} {hpc : Nat} (C : fw_C G own cc nL p s m args c) (hr : meth.sig.returnType = some .int) (hlk : meth.locks = false) (hl : lv_has ls nL (lv.map (fw_cl G))) (hR : fw_R G S M H) (hV : va_S (fw_A G) s.heap H locs) (hk : (k : Nat) = i) (hi : i < nL) (d1 : decode cc hpc = .ok (.astore_n k, 1)) (d2 : decode cc (hpc + 1) = .ok (.iconst n, 1)) (d3 : decode cc (hpc + 2) = .ok (.ireturn, 1)) (hv : Int32.ofInt n = v) :
    W p l e R s m args below meth c H locs cb sb (fw_Z G below args s cb sb (.inl (some (.int v)), S, M)) (F0 m hpc ls [.ref q]) := by
  refine lv_astore_n C.1.1 C.1.2.1 d1 hk hl hi rfl (fun ls' hl' => ?_)
  refine lv_iconst C.1.1 C.1.2.1 d2 hv ?_
  exact vx_ret (W.iret (v := v) C.1.1 C.1.2.1 hr (fun t ht hW => ⟨some (.int v), rfl, rfl, by rw [ht]; exact hR, hV.F ht⟩) hV.2.2 d3 hlk)
/-- a wrapper's contract out of its walk -/
theorem fw_ofH {y : MethodName} {cc : ByteArray} {maxL d : Nat} {hh : List (Nat × Nat × Nat × Nat)} {vs : List Value} {v : Int32} (lv : List (Nat × Value)) (hy : plainName y.cls = true) (hlen : (lg_sl vs).length ≤ maxL) (hlv : lv_args 0 vs = lv)
    (body : ∀ (p : Program) (e : Env) (s : State) (m : MethodId) (args : Array Value) (below : List Frame) (meth : Method) (c : Code), fw_C G y.cls cc maxL p s m args c → meth.sig.returnType = some .int → meth.locks = false → c.exceptionTable.toList = tableOf hh →
      fw_W G p l e (fw_rm d 1 6) s m args below meth c maxL (fw_Z G below args s 1 6 (.inl (some (.int v)), S, M')) 0 0 0 lv [] S M) : fw_MW l G y (.codeWith y cc maxL (some .int) hh) d S M vs v M' := by
  subst hlv
  refine fw_metOf (XC := fw_XC G (.inl (some (.int v)), S, M')) (vx_ofWH (cc := cc) (maxL := maxL) (ret := some .int) (hh := hh) hy rfl ?_) (fun E st t hx => nomatch hx.1)
  intro p e s m args below meth c s₁ B hml hv
  obtain ⟨rfl, hW, hR⟩ := hv
  have hts := atoms_spec (ws := Cond.codeWith y cc maxL (some .int) hh :: wsU) B.pre
  have hC : fw_C G y.cls cc maxL p s m (vs.map (fw_cv G)).toArray c := ⟨⟨B.exec, B.bytes, hml, findClass_of_methodNamed B.named, fun w hw => hts w (List.mem_cons_of_mem _ hw)⟩, hW⟩
  have hb := body p e s m _ below meth c hC B.returns B.notSynchronized (vx_table (x := y) B (hts _ List.mem_cons_self))
  have e1 : ∀ (us : List Value), (lg_sl (us.map (fw_cv G))).length = (lg_sl us).length := by
    intro us
    induction us with
    | nil => rfl
    | cons u us ih =>
      have q1 : ∀ (x : Value) (xs : List Value), (lg_sl (x :: xs)).length = (if x.category = 2 then 2 else 1) + (lg_sl xs).length := by
        intro x xs
        simp only [lg_sl, List.flatMap_cons, List.length_append]
        split <;> rfl
      rw [List.map_cons, q1, q1, ih, fw_cv_cat]
  have e2 : ∀ (us : List Value) (i : Nat), lv_args i (us.map (fw_cv G)) = (lv_args i us).map (fw_cl G) := by
    intro us
    induction us with
    | nil => intro i; rfl
    | cons u us ih => intro i; cases u <;> simp only [List.map_cons, lv_args, fw_cv, fw_cl, ih] <;> rfl
  have hl := lv_entry (vs.map (fw_cv G)) (n := maxL) (by rw [e1]; exact hlen)
  rw [e2] at hl
  rw [lg_entry_eq]
  exact hb s.heap [] _ hl hR va_S.rf
/-- the call of a wrapper -/
theorem fw_callW {y : MethodName} {bytes : ByteArray} {maxL ix n d : Nat} {hh : List (Nat × Nat × Nat × Nat)} (As : List Value) {v : Int32} (C : fw_C G own cc nL p s m args c) (hM : fw_MW l G y (.codeWith y bytes maxL (some .int) hh) d S M As v M') (hc : fw_cal y (.codeWith y bytes maxL (some .int) hh) n) (w1 : Cond.methodLink own ix y ∈ wsU) (w2 : Cond.static y ∈ wsU) (hn : As.length = n) (hst : (st.map fun v => v.category).sum ≤ 8) (hr : d + 1 ≤ R.frames ∧ 8 + (maxL + 11) + 64 * d ≤ R.locals) (hf : cb + 1 ≤ R.cells ∧ sb + 6 ≤ R.slots) (dd : decode cc pc = .ok (.invokestatic ix, 3)) (kk : fw_W G p l e R s m args below meth c nL Q (cb + 1) (sb + 6) (pc + 3) lv (.int v :: st) S M') :
    fw_W G p l e R s m args below meth c nL Q cb sb pc lv (As.reverse ++ st) S M := by
  intro H locs ls hv hR hV
  have hts : ∀ w ∈ wsU, w.before args s = true := C.1.2.2.2.2
  have hw : GoodIn wsU (va_wsS own ix y (Cond.codeWith y bytes maxL (some .int) hh :: wsU)) := by
    intro x hx
    rcases List.mem_append.mp hx with h | h
    · rcases List.mem_cons.mp h with rfl | h
      · exact ⟨w1, good_of_word (wsU_good _ w1)⟩
      rcases List.mem_cons.mp h with rfl | h
      · exact ⟨w2, good_of_word (wsU_good _ w2)⟩
      rcases List.mem_cons.mp h with rfl | h
      · exact ⟨hc.2.1, good_of_word (wsU_good _ hc.2.1)⟩
      · cases h
    · exact fw_goodU _ hc.1 x h
  have cw : vx_CSW R s args own ix y bytes maxL (some .int) hh (Cond.codeWith y bytes maxL (some .int) hh :: wsU) (fw_rm d 1 6) 1 6 n := vx_cwSW n hts hw rfl rfl rfl hc.2.2 hr
  have hp := fw_pre (vs := As) C hR hV
  have hrun := vx_runSW (As := As.map (fw_cv G)) (rest := st.map (fw_cv G)) (g := F0 m pc ls ((As.reverse ++ st).map (fw_cv G))) (meth := meth) (e := e) (below := below) (locs := locs) (cells := cb) (slots := sb) (H := H) ⟨C.1.1, C.1.2.1, C.1.2.2.1, C.1.2.2.2.1, hts⟩ hM cw hp rfl (by rw [List.length_map]; exact hn) hv.1 (by show ((As.reverse ++ st).map (fw_cv G)) = _; rw [List.map_append, List.map_reverse]) (lv_room (by rw [fw_cats]; exact hst)) dd hf
  intro T hT X
  obtain ⟨v', st₀, t, T', L, h0, X', hL, e1, e2, ⟨v2, hv2, hv3, hR', hF⟩, stp⟩ := hrun T hT X
  cases hv2
  cases hv3
  obtain ⟨k1, k2, k3⟩ := vx_keep h0 e1 hV (fun q _ h => h) (fun q h => h) hL hF
  obtain ⟨t2, a1, b1⟩ := kk T'.heap (locs ++ L) ls hv (by rw [e1]; exact hR') k3 T' rfl X'
  exact ⟨t2, stp t2 a1, b1⟩
end FWH
