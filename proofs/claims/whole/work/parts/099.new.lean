/-! ===== what is made: objects, arrays; constructors' calls. The cells lie one behind the other from the base on ===== -/
def fw_nO (M : fw_Mem) (a ci : Nat) : fw_Mem := fun b j => if b = a then (if fw_isR (fw_ty ci j) = true then -1 else 0) else M b j
def fw_nA (M : fw_Mem) (a : Nat) (v : Int32) : fw_Mem := fun b j => if b = a then v else M b j
theorem fw_ws_push (G : fw_G) {S : List fw_Sh} {M M' : fw_Mem} (sh : fw_Sh) (h : ∀ b, b < S.length → M' b = M b) : fw_ws G (S ++ [sh]) M' = fw_ws G S M ++ [(fw_ad G S.length, fw_cell G sh (M' S.length))] := by
  have e1 : (S ++ [sh]).length = S.length + 1 := by simp
  unfold fw_ws
  rw [e1, List.range_succ, List.map_append]
  congr 1
  · apply List.map_congr_left
    intro a ha
    have ha := List.mem_range.mp ha
    have e2 : (S ++ [sh]).getD a (.inr 0) = S.getD a (.inr 0) := by
      rw [List.getD_eq_getElem?_getD, List.getD_eq_getElem?_getD, List.getElem?_append_left ha]
    rw [e2, h a ha]
  · have e2 : (S ++ [sh]).getD S.length (.inr 0) = sh := by
      rw [List.getD_eq_getElem?_getD, List.getElem?_append_right (Nat.le_refl _), Nat.sub_self]
      rfl
    simp only [List.map_cons, List.map_nil, e2]
theorem fw_exact {G : fw_G} {S : List fw_Sh} {M : fw_Mem} {H : Heap} {z cb : Nat} (hR : fw_R G S M H) (hb : fw_base G ≤ z) (hz : z ≤ H.size) (hle : H.size ≤ z + cb) (hx : z + cb = fw_base G + S.length) : H.size = fw_base G + S.length := by
  have hl : fw_base G + S.length ≤ H.size := by
    rcases Nat.eq_zero_or_pos S.length with h | h
    · omega
    · have hs : S[S.length - 1]? = some S[S.length - 1] := List.getElem?_eq_getElem (by omega)
      have h1 := (hR.2 (S.length - 1) _ (fw_ws_get G M hs)).lt
      have h2 : fw_ad G (S.length - 1) < H.size := h1
      rw [fw_ad_low G (by have := hR.1; omega)] at h2
      omega
  omega
def fw_PcI (G : fw_G) (S : List fw_Sh) (M : fw_Mem) (vs : List Value) : Array Value → State → Prop := va_Pc (vs.map (fw_cv G)) (fun U => U.heap.size = fw_base G + S.length ∧ fw_Wd G U ∧ fw_R G S M U.heap)
/-- a constructor's contract: the heap's size is known at its start -/
def fw_MI (l : Launch) (G : fw_G) (y : MethodName) (w : Cond) (d mc ms : Nat) (S : List fw_Sh) (M : fw_Mem) (vs : List Value) (S' : List fw_Sh) (M' : fw_Mem) : Prop :=
  vx_Met l y (w :: wsU) (fw_rm d mc ms) (fw_PcI G S M vs) (fw_Qc G (.inl none, S', M')) (fw_XC G (.inl none, S', M')) mc ms (fw_A G)
theorem fw_blindI (G : fw_G) (S : List fw_Sh) (M : fw_Mem) (vs : List Value) : FrameBlind (fw_PcI G S M vs) := by
  intro a U g mk h
  obtain ⟨h1, h2, h3, h4⟩ := h
  exact ⟨h1, h2, h3.step (State.WarmedH.refl U) (Nat.le_refl _) (fun _ _ _ => rfl), h4⟩
theorem fw_len1 {S : List fw_Sh} (sh : fw_Sh) (h : S.length < 400000) : (S ++ [sh]).length ≤ 500000 := by
  rw [List.length_append, List.length_singleton]
  omega
theorem fw_vs1 {A : Nat → Prop} {H0 H H1 : Heap} {locs : List Loc} (hV : va_S A H0 H locs) (hz : H.size ≤ H1.size) (o1 : ∀ q : Nat, q < H.size → H1[q]? = H[q]?) : va_S A H0 H1 locs :=
  ⟨Nat.le_trans hV.1 hz, fun x h1 h2 => (o1 x (Nat.lt_of_lt_of_le h1 hV.1)).trans (hV.2.1 x h1 h2), hV.2.2⟩
theorem fw_ad1 (G : fw_G) {S : List fw_Sh} (h : S.length < 400000) : fw_ad G S.length = fw_base G + S.length := fw_ad_low G (by omega)
theorem fw_st1 (G : fw_G) {S : List fw_Sh} (h : S.length < 400000) (st : List Value) : List.map (fw_cv G) (Value.ref S.length :: st) = .ref (fw_base G + S.length) :: st.map (fw_cv G) := by
  rw [← fw_ad1 G h]
  rfl
section FWNEW
variable {G : fw_G} {own : String} {cc : ByteArray} {nL : Nat} {p : Program} {l : Launch} {e : Env} {R : Room} {s : State} {m : MethodId} {args : Array Value} {below : List Frame} {meth : Method} {c : Code} {Q : State → Prop} {cb sb pc : Nat} {lv : List (Nat × Value)} {st : List Value} {S S' : List fw_Sh} {M M' : fw_Mem}
theorem fw_dflt : ∀ ci : Nat, ci < 11 → ∀ j, j < fw_nF ci → (fw_isR (fw_ty ci j) = true ∧ defaultValue (fw_ty ci j) = .null) ∨ (fw_isR (fw_ty ci j) = false ∧ defaultValue (fw_ty ci j) = .int 0) := by decide +kernel
theorem fw_born (C : fw_C G own cc nL p s m args c) {ci : Nat} {H1 : Heap} {kC : Class} (hci : ci < 11) (hl : S.length < 400000) (hKn : u_Kn s (fw_RR ci) (fw_TT ci) (fw_nF ci) ((fw_D G).1 ci) ((fw_D G).2 ci)) (hkC : s.vm.classes[(fw_D G).1 ci]? = some kC) (e1 : H1[fw_base G + S.length]? = some (blank ((fw_D G).1 ci) kC)) : t_OB (fw_ad G S.length) ((fw_D G).1 ci) (fw_nF ci) ((fw_D G).2 ci) H1 (vp_V (fw_fs G ci (fw_nO M S.length ci S.length))) := by
  rw [fw_ad1 G hl]
  refine (u_born (fw_ty ci) C.1.2.2.2.2 (fw_inU ci hci) hKn hkC e1 (fw_tyok ci hci)).to (fun j hj => ?_)
  show defaultValue (fw_ty ci j) = (fw_fs G ci (fw_nO M S.length ci S.length)).getD j .null
  rw [List.getD_eq_getElem?_getD, fw_fs_get G _ hj]
  simp only [Option.getD_some, fw_nO, if_pos, fw_fv]
  rcases fw_dflt ci hci j hj with ⟨h1, h2⟩ | ⟨h1, h2⟩
  · simp [h1, h2, fw_fr, va_rf]
  · simp [h1, h2]
theorem fw_newO (C : fw_C G own cc nL p s m args c) {ix : Nat} (ci : Nat) (hci : ci < 11) (w1 : Cond.classLink own ix (fw_RR ci) ∈ wsU) (w2 : Cond.instantiable (fw_RR ci) (fw_nF ci) ∈ wsU) (w3 : Cond.initialized (fw_RR ci) ∈ wsU) (hx : s.heap.size + cb = fw_base G + S.length) (hl : S.length < 400000) (hc : cb + 1 ≤ R.cells) (hs : sb + fw_nF ci ≤ R.slots) (d : decode cc pc = .ok (.new ix, 3)) (k : fw_W G p l e R s m args below meth c nL Q (cb + 1) (sb + fw_nF ci) (pc + 3) lv (.ref S.length :: st) (S ++ [.inr ci]) (fw_nO M S.length ci)) : fw_W G p l e R s m args below meth c nL Q cb sb pc lv st S M := by
  intro H locs ls hv hR hV T hT X
  have hle : H.size ≤ s.heap.size + cb := by rw [← hT]; exact X.same.2.2.1
  have hsz := fw_exact hR C.2.2.2.2.2.2.2.2.2.2.2.2.2 hV.1 hle hx
  have hKn := C.2.1.1 ci _ (fw_cls ci hci)
  have key : W p l e R s m args below meth c H locs cb sb Q (F0 m pc ls (st.map (fw_cv G))) := by
    refine W.newcK C.1.1 C.1.2.1 C.1.2.2.2.1 (C.1.2.2.2.2 _ w1) (C.1.2.2.2.2 _ w2) (C.1.2.2.2.2 _ w3) rfl d hc hs hKn.2.1 hsz (fun H1 kC hkC e1 z1 o1 => ?_)
    have o2 : ∀ q : Nat, q < H.size → H1[q]? = H[q]? := fun q hq => o1 q (by rw [← hsz]; exact hq)
    have hR1 : fw_R G (S ++ [.inr ci]) (fw_nO M S.length ci) H1 := by
      refine ⟨fw_len1 _ hl, ?_⟩
      rw [fw_ws_push G (.inr ci) (M := M) (fun b hb => by funext j; simp only [fw_nO, if_neg (Nat.ne_of_lt hb)])]
      refine (hR.2.kept fun k x hx => o2 x.1 (hR.2 k x hx).lt).app (fun k x hx => ?_)
      have hz : k < 1 := (List.getElem?_eq_some_iff.mp hx).1
      rw [show k = 0 by omega] at hx
      cases hx
      exact ⟨_, fw_cls ci hci, fw_born C hci hl hKn hkC e1⟩
    have k9 := k H1 locs ls hv hR1 (fw_vs1 hV (by rw [z1, hsz]; exact Nat.le_succ _) o2)
    rw [fw_st1 G hl] at k9
    exact k9
  exact key T hT X
theorem fw_RA {H H1 : Heap} {kd N : Nat} {v : Int32} (hR : fw_R G S M H) (hl : S.length < 400000) (o2 : ∀ q : Nat, q < H.size → H1[q]? = H[q]?) (hcell : H1[fw_base G + S.length]? = some (vp_cell (fw_cA G kd) (N, fw_ar G kd (fun _ => v)))) : fw_R G (S ++ [.inl (kd, N)]) (fw_nA M S.length v) H1 := by
  refine ⟨fw_len1 _ hl, ?_⟩
  rw [fw_ws_push G (.inl (kd, N)) (M := M) (fun b hb => by funext j; simp only [fw_nA, if_neg (Nat.ne_of_lt hb)])]
  refine (hR.2.kept fun k x hx => o2 x.1 (hR.2 k x hx).lt).app (fun k x hx => ?_)
  have hz : k < 1 := (List.getElem?_eq_some_iff.mp hx).1
  rw [show k = 0 by omega] at hx
  cases hx
  have e3 : fw_nA M S.length v S.length = fun _ => v := by funext j; simp only [fw_nA, if_pos]
  show H1[fw_ad G S.length]? = some (vp_cell (fw_cA G kd) (N, fw_ar G kd (fw_nA M S.length v S.length)))
  rw [fw_ad1 G hl, e3]
  exact hcell
/-- kinds 0 int, 1 byte, 2 long -/
theorem fw_newP (C : fw_C G own cc nL p s m args c) (kd : Nat) (atype : ArrayType) {n : Int32} (N : Nat) (hkd : (kd = 0 ∧ newarray.typeOf atype = .int) ∨ (kd = 1 ∧ newarray.typeOf atype = .byte) ∨ (kd = 2 ∧ newarray.typeOf atype = .long)) (w : Cond.arrayClass (newarray.typeOf atype) ∈ wsU) (hn : ¬ n < 0) (hN : n.toNatClampNeg = N) (hN2 : N ≤ 60000) (hx : s.heap.size + cb = fw_base G + S.length) (hl : S.length < 400000) (hc : cb + 1 ≤ R.cells) (hs : sb + N ≤ R.slots) (d : decode cc pc = .ok (.newarray atype, 2)) (k : fw_W G p l e R s m args below meth c nL Q (cb + 1) (sb + N) (pc + 2) lv (.ref S.length :: st) (S ++ [.inl (kd, N)]) (fw_nA M S.length 0)) : fw_W G p l e R s m args below meth c nL Q cb sb pc lv (.int n :: st) S M := by
  intro H locs ls hv hR hV T hT X
  have hle : H.size ≤ s.heap.size + cb := by rw [← hT]; exact X.same.2.2.1
  have hsz := fw_exact hR C.2.2.2.2.2.2.2.2.2.2.2.2.2 hV.1 hle hx
  have hby : N * componentBytes (newarray.typeOf atype) ≤ 536870912 := by
    rcases hkd with ⟨-, h⟩ | ⟨-, h⟩ | ⟨-, h⟩ <;> rw [h] <;> simp only [componentBytes] <;> omega
  have key : W p l e R s m args below meth c H locs cb sb Q (F0 m pc ls (.int n :: st.map (fw_cv G))) := by
    refine va_newaK C.1.1 C.1.2.1 (C.1.2.2.2.2 _ w) rfl d rfl hn hN hby hc hs hsz (fun H1 cA e1 z1 o1 hAr hNm => ?_)
    have o2 : ∀ q : Nat, q < H.size → H1[q]? = H[q]? := fun q hq => o1 q (by rw [← hsz]; exact hq)
    have hcell : H1[fw_base G + S.length]? = some (vp_cell (fw_cA G kd) (N, fw_ar G kd (fun _ => 0))) := by
      rw [e1]
      rcases hkd with ⟨rfl, h⟩ | ⟨rfl, h⟩ | ⟨rfl, h⟩
      · have h9 : s.vm.findClass ("[" ++ FieldType.int.toString) = some (fw_cA G 0) := (C.2.1.2 0 _ rfl).2
        rw [h] at hNm ⊢
        rw [Option.some.inj (hNm.symm.trans h9)]
        rfl
      · have h9 : s.vm.findClass ("[" ++ FieldType.byte.toString) = some (fw_cA G 1) := (C.2.1.2 1 _ rfl).2
        rw [h] at hNm ⊢
        rw [Option.some.inj (hNm.symm.trans h9)]
        rfl
      · have h9 : s.vm.findClass ("[" ++ FieldType.long.toString) = some (fw_cA G 2) := (C.2.1.2 2 _ rfl).2
        rw [h] at hNm ⊢
        rw [Option.some.inj (hNm.symm.trans h9)]
        rfl
    have k9 := k H1 locs ls hv (fw_RA hR hl o2 hcell) (fw_vs1 hV (by rw [z1, hsz]; exact Nat.le_succ _) o2)
    rw [fw_st1 G hl] at k9
    exact k9
  exact key T hT X
/-- kinds 3 Link, 4 Suit -/
theorem fw_newR (C : fw_C G own cc nL p s m args c) (kd ci : Nat) {ix : Nat} {n : Int32} (N : Nat) (hkd : (kd = 3 ∧ ci = 3) ∨ (kd = 4 ∧ ci = 6)) (w : Cond.classLink own ix (fw_RR ci) ∈ wsU) (hn : ¬ n < 0) (hN : n.toNatClampNeg = N) (hN2 : N ≤ 60000) (hx : s.heap.size + cb = fw_base G + S.length) (hl : S.length < 400000) (hc : cb + 1 ≤ R.cells) (hs : sb + N ≤ R.slots) (d : decode cc pc = .ok (.anewarray ix, 3)) (k : fw_W G p l e R s m args below meth c nL Q (cb + 1) (sb + N) (pc + 3) lv (.ref S.length :: st) (S ++ [.inl (kd, N)]) (fw_nA M S.length (-1))) : fw_W G p l e R s m args below meth c nL Q cb sb pc lv (.int n :: st) S M := by
  subst hN
  intro H locs ls hv hR hV T hT X
  have hle : H.size ≤ s.heap.size + cb := by rw [← hT]; exact X.same.2.2.1
  have hsz := fw_exact hR C.2.2.2.2.2.2.2.2.2.2.2.2.2 hV.1 hle hx
  have hAO : va_AO (fw_RR ci) s := by
    rcases hkd with ⟨-, rfl⟩ | ⟨-, rfl⟩
    · exact C.2.2.2.2.1.1
    · exact C.2.2.2.2.1.2
  have key : W p l e R s m args below meth c H locs cb sb Q (F0 m pc ls (.int n :: st.map (fw_cv G))) := by
    refine W.anew C.1.1 C.1.2.1 C.1.2.2.2.1 (C.1.2.2.2.2 _ w) (va_AO.use hAO) rfl d rfl hn (by omega) hc hs (fun cA kA comp f1 f2 f3 f4 => ?_)
    generalize hH1 : H.push ({ cls := cA, slots := Array.replicate n.toNatClampNeg .null, vm := .none } : Cell) = H1
    have z1 : H1.size = H.size + 1 := by rw [← hH1, Array.size_push]
    have e1 : H1[H.size]? = some (arrV cA n.toNatClampNeg (fun _ => .null)) := by rw [← hH1, Array.getElem?_push_size, ← arrV_new]
    have o2 : ∀ q : Nat, q < H.size → H1[q]? = H[q]? := fun q hq => by rw [← hH1, Array.getElem?_push, if_neg (Nat.ne_of_lt hq)]
    have hcell : H1[fw_base G + S.length]? = some (vp_cell (fw_cA G kd) (n.toNatClampNeg, fw_ar G kd (fun _ => -1))) := by
      rw [← hsz, e1]
      rcases hkd with ⟨rfl, rfl⟩ | ⟨rfl, rfl⟩
      · obtain ⟨_, _, _, _, _, h9⟩ := (C.2.1.2 3 _ rfl).2
        rw [Option.some.inj (f1.symm.trans h9)]
        rfl
      · obtain ⟨_, _, _, _, _, h9⟩ := (C.2.1.2 4 _ rfl).2
        rw [Option.some.inj (f1.symm.trans h9)]
        rfl
    have k9 := k H1 locs ls hv (fw_RA hR hl o2 hcell) (fw_vs1 hV (by rw [z1]; exact Nat.le_succ _) o2)
    rw [fw_st1 G hl, ← hsz] at k9
    exact k9
  exact key T hT X
theorem fw_objI (C : fw_C G own cc nL p s m args c) {ix a : Nat} (w : Cond.methodLink own ix objectInit ∈ wsU) (hst : (st.map fun v => v.category).sum ≤ 8) (hf : 1 ≤ R.frames) (hlo : 20 ≤ R.locals) (d : decode cc pc = .ok (.invokespecial ix, 3)) (k : fw_W G p l e R s m args below meth c nL Q cb sb (pc + 3) lv st S M) : fw_W G p l e R s m args below meth c nL Q cb sb pc lv (.ref a :: st) S M := by
  intro H locs ls hv hR hV
  exact W.objInit C.1.1 C.1.2.1 C.1.2.2.2.1 (C.1.2.2.2.2 _ w) (C.1.2.2.2.2 _ wi_objectInit) (C.1.2.2.2.2 _ wc_objectInit) rfl (by rw [C.1.2.2.1]; exact hv.1) rfl d hf (by show 2 * 0 + _ + 12 ≤ _; rw [fw_cats]; omega) (k H locs ls hv hR hV)
theorem fw_callI {y : MethodName} {bytes : ByteArray} {maxL ix n d mc ms a : Nat} (As : List Value) (C : fw_C G own cc nL p s m args c) (hM : fw_MI l G y (.code y bytes maxL none) d mc ms S M (.ref a :: As) S' M') (hc : fw_cal y (.code y bytes maxL none) n) (hy : y.name = "<init>") (w1 : Cond.methodLink own ix y ∈ wsU) (w2 : Cond.instanceMethod y ∈ wsU) (hn : As.length = n) (hst : (st.map fun v => v.category).sum ≤ 8) (hr : d + 1 ≤ R.frames ∧ 8 + (maxL + 11) + 64 * d ≤ R.locals) (hf : cb + mc ≤ R.cells ∧ sb + ms ≤ R.slots) (hx : s.heap.size + cb = fw_base G + S.length) (dd : decode cc pc = .ok (.invokespecial ix, 3)) (kk : fw_W G p l e R s m args below meth c nL Q (cb + mc) (sb + ms) (pc + 3) lv st S' M') :
    fw_W G p l e R s m args below meth c nL Q cb sb pc lv (As.reverse ++ .ref a :: st) S M := by
  intro H locs ls hv hR hV T hT X
  have hle : H.size ≤ s.heap.size + cb := by rw [← hT]; exact X.same.2.2.1
  have hsz := fw_exact hR C.2.2.2.2.2.2.2.2.2.2.2.2.2 hV.1 hle hx
  have hts : ∀ w ∈ wsU, w.before args s = true := C.1.2.2.2.2
  have cw : CallB R s args own ix y bytes maxL none (Cond.code y bytes maxL none :: wsU) (fw_rm d mc ms) mc ms n := callB_of n hts (fw_goodU _ hc.1) rfl rfl rfl (hts _ hc.2.1) (hts _ w1) hc.2.2 hr
  have hp : PreS s H (fw_PcI G S M (.ref a :: As)) ((.ref a :: As).map (fw_cv G)) := ⟨fw_blindI G S M _, fun U hU hW => ⟨rfl, by rw [hU]; exact hsz, C.2.step hW (by rw [hU]; exact hV.1) (fun a h1 h2 => by rw [hU]; exact hV.2.1 a h1 h2), by rw [hU]; exact hR⟩⟩
  refine fw_goes (v := none) (vx_runI (b := fw_ad G a) (As := As.map (fw_cv G)) ⟨C.1.1, C.1.2.1, C.1.2.2.1, C.1.2.2.2.1, hts⟩ hM ⟨cw, hy, hts _ w2⟩ hp rfl (by rw [List.length_map]; exact hn) hv.1 ?_ (lv_room (by rw [fw_cats]; exact hst)) dd hf) hv hV kk T hT X
  show ((As.reverse ++ .ref a :: st).map (fw_cv G)) = (As.map (fw_cv G)).reverse ++ Value.ref (fw_ad G a) :: st.map (fw_cv G)
  rw [List.map_append, List.map_reverse, List.map_cons]
  rfl
theorem fw_callIN {y : MethodName} {host : String} {bytes : ByteArray} {maxL ix n d mc ms a : Nat} (As : List Value) (C : fw_C G own cc nL p s m args c) (hM : fw_MI l G y (.code y bytes maxL none) d mc ms S M (.ref a :: As) S' M') (hc : fw_cal y (.code y bytes maxL none) n) (hy : y.name = "<init>") (w1 : (own, ix, y, host) ∈ fw_nest) (w2 : Cond.instanceMethod y ∈ wsU) (hn : As.length = n) (hst : (st.map fun v => v.category).sum ≤ 8) (hr : d + 1 ≤ R.frames ∧ 8 + (maxL + 11) + 64 * d ≤ R.locals) (hf : cb + mc ≤ R.cells ∧ sb + ms ≤ R.slots) (hx : s.heap.size + cb = fw_base G + S.length) (dd : decode cc pc = .ok (.invokespecial ix, 3)) (kk : fw_W G p l e R s m args below meth c nL Q (cb + mc) (sb + ms) (pc + 3) lv st S' M') :
    fw_W G p l e R s m args below meth c nL Q cb sb pc lv (As.reverse ++ .ref a :: st) S M := by
  intro H locs ls hv hR hV T hT X
  have hle : H.size ≤ s.heap.size + cb := by rw [← hT]; exact X.same.2.2.1
  have hsz := fw_exact hR C.2.2.2.2.2.2.2.2.2.2.2.2.2 hV.1 hle hx
  have hts : ∀ w ∈ wsU, w.before args s = true := C.1.2.2.2.2
  have cw : va_CN R s args own ix y host bytes maxL none (Cond.code y bytes maxL none :: wsU) (fw_rm d mc ms) mc ms n := va_cnB n hts (fw_goodU _ hc.1) rfl rfl rfl (C.2.2.1 _ w1) (hts _ hc.2.1) hc.2.2 hr
  have hp : PreS s H (fw_PcI G S M (.ref a :: As)) ((.ref a :: As).map (fw_cv G)) := ⟨fw_blindI G S M _, fun U hU hW => ⟨rfl, by rw [hU]; exact hsz, C.2.step hW (by rw [hU]; exact hV.1) (fun a h1 h2 => by rw [hU]; exact hV.2.1 a h1 h2), by rw [hU]; exact hR⟩⟩
  refine fw_goes (v := none) (vx_runIN (b := fw_ad G a) (As := As.map (fw_cv G)) ⟨C.1.1, C.1.2.1, C.1.2.2.1, C.1.2.2.2.1, hts⟩ hM ⟨cw, hy, hts _ w2⟩ hp rfl (by rw [List.length_map]; exact hn) hv.1 ?_ (lv_room (by rw [fw_cats]; exact hst)) dd hf) hv hV kk T hT X
  show ((As.reverse ++ .ref a :: st).map (fw_cv G)) = (As.map (fw_cv G)).reverse ++ Value.ref (fw_ad G a) :: st.map (fw_cv G)
  rw [List.map_append, List.map_reverse, List.map_cons]
  rfl
/-- a constructor's contract out of its walk -/
theorem fw_ofI {y : MethodName} {cc : ByteArray} {maxL d mc ms : Nat} {vs : List Value} (lv : List (Nat × Value)) (hy : plainName y.cls = true) (hlen : (lg_sl vs).length ≤ maxL) (hlv : lv_args 0 vs = lv)
    (body : ∀ (p : Program) (e : Env) (s : State) (m : MethodId) (args : Array Value) (below : List Frame) (meth : Method) (c : Code), fw_C G y.cls cc maxL p s m args c → meth.sig.returnType = none → meth.locks = false → meth.name = y.name → s.heap.size = fw_base G + S.length →
      fw_W G p l e (fw_rm d mc ms) s m args below meth c maxL (fw_Z G below args s mc ms (.inl none, S', M')) 0 0 0 lv [] S M) : fw_MI l G y (.code y cc maxL none) d mc ms S M vs S' M' := by
  subst hlv
  refine vx_ofW (cc := cc) (maxL := maxL) (ret := none) hy rfl ?_
  intro p e s m args below meth c s₁ B hml ht hv
  obtain ⟨rfl, hz, hW, hR⟩ := hv
  have hts := atoms_spec (ws := Cond.code y cc maxL none :: wsU) B.pre
  have hC : fw_C G y.cls cc maxL p s m (vs.map (fw_cv G)).toArray c := ⟨⟨B.exec, B.bytes, hml, findClass_of_methodNamed B.named, fun w hw => hts w (List.mem_cons_of_mem _ hw)⟩, hW⟩
  have hb := body p e s m _ below meth c hC B.returns B.notSynchronized (name_of_methodNamed B.named B.method).1 hz
  have e1 : ∀ (us : List Value), (lg_sl (us.map (fw_cv G))).length = (lg_sl us).length := by
    intro us
    induction us with
    | nil => rfl
    | cons u us ih =>
      have q1 : ∀ (x : Value) (xs : List Value), (lg_sl (x :: xs)).length = (if x.category = 2 then 2 else 1) + (lg_sl xs).length := by
        intro x xs
        simp only [lg_sl, List.flatMap_cons, List.length_append]
        split <;> rfl
      rw [List.map_cons, q1, q1, ih, fw_cv_cat]
  have e2 : ∀ (us : List Value) (i : Nat), lv_args i (us.map (fw_cv G)) = (lv_args i us).map (fw_cl G) := by
    intro us
    induction us with
    | nil => intro i; rfl
    | cons u us ih => intro i; cases u <;> simp only [List.map_cons, lv_args, fw_cv, fw_cl, ih] <;> rfl
  have hl := lv_entry (vs.map (fw_cv G)) (n := maxL) (by rw [e1]; exact hlen)
  rw [e2] at hl
  rw [lg_entry_eq]
  exact hb s.heap [] _ hl hR va_S.rf
end FWNEW
