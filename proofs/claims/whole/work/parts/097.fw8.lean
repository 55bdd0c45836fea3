/-! ===== calls of a nest mate's private static method; rooms ===== -/
theorem fw_room {d D mc ms maxL : Nat} (h : d + 1 ≤ D) (hm : maxL ≤ 45) : d + 1 ≤ (fw_rm D mc ms).frames ∧ 8 + (maxL + 11) + 64 * d ≤ (fw_rm D mc ms).locals := ⟨h, by show _ ≤ 64 * D; omega⟩
section FWN
variable {G : fw_G} {own : String} {cc : ByteArray} {nL : Nat} {p : Program} {l : Launch} {e : Env} {R : Room} {s : State} {m : MethodId} {args : Array Value} {below : List Frame} {meth : Method} {c : Code} {Q : State → Prop} {cb sb pc : Nat} {lv : List (Nat × Value)} {st : List Value} {S S' : List fw_Sh} {M M' : fw_Mem}
theorem fw_callSN {y : MethodName} {host : String} {bytes : ByteArray} {maxL ix n d mc ms : Nat} {ret : Option FieldType} (As : List Value) {v : Option Value} (C : fw_C G own cc nL p s m args c) (hM : fw_M l G y (.code y bytes maxL ret) d mc ms S M As (.inl v, S', M')) (hc : fw_cal y (.code y bytes maxL ret) n) (w1 : (own, ix, y, host) ∈ fw_nest) (w2 : Cond.static y ∈ wsU) (hn : As.length = n) (hst : (st.map fun v => v.category).sum ≤ 8) (hr : d + 1 ≤ R.frames ∧ 8 + (maxL + 11) + 64 * d ≤ R.locals) (hf : cb + mc ≤ R.cells ∧ sb + ms ≤ R.slots) (dd : decode cc pc = .ok (.invokestatic ix, 3)) (kk : fw_W G p l e R s m args below meth c nL Q (cb + mc) (sb + ms) (pc + 3) lv (v.toList ++ st) S' M') :
    fw_W G p l e R s m args below meth c nL Q cb sb pc lv (As.reverse ++ st) S M := by
  intro H locs ls hv hR hV
  have hts : ∀ w ∈ wsU, w.before args s = true := C.1.2.2.2.2
  have cw : va_CN R s args own ix y host bytes maxL ret (Cond.code y bytes maxL ret :: wsU) (fw_rm d mc ms) mc ms n := va_cnB n hts (fw_goodU _ hc.1) rfl rfl rfl (C.2.2.1 _ w1) (hts _ hc.2.1) hc.2.2 hr
  have hp := fw_pre (vs := As) C hR hV
  refine fw_goes (vx_runSN (As := As.map (fw_cv G)) ⟨C.1.1, C.1.2.1, C.1.2.2.1, C.1.2.2.2.1, hts⟩ hM ⟨cw, hts _ w2, trivial⟩ hp rfl (by rw [List.length_map]; exact hn) hv.1 ?_ (lv_room (by rw [fw_cats]; exact hst)) dd hf) hv hV kk
  show ((As.reverse ++ st).map (fw_cv G)) = (As.map (fw_cv G)).reverse ++ st.map (fw_cv G)
  rw [List.map_append, List.map_reverse]
end FWN
