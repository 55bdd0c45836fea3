/-- words of the tables that last, though no warm row says so of all their kind -/
def fw_wl : List Cond := [.castable "java/lang/IllegalArgumentException" "java/lang/IllegalArgumentException", .castable "java/util/NoSuchElementException" "java/util/NoSuchElementException", .declares (Bundle.initS "java/lang/RuntimeException"), .declares (Bundle.initS "java/lang/Exception"), .declares (Bundle.initS Bundle.tN)]
theorem fw_wl_warm {s U : State} (hW : s.WarmedH U.vm) (h : ∀ w ∈ fw_wl, va_Nw w s) : ∀ w ∈ fw_wl, va_Nw w U := by
  have hd : ∀ y : MethodName, va_Nw (.declares y) s → va_Nw (.declares y) U := fun y hy => va_tabs rfl (rfl : (s.setVm U.vm).vm = U.vm) (by rw [Cond.declares_setVm hW.alike]; exact hy)
  intro w hw
  have hz := h w hw
  simp only [fw_wl, List.mem_cons, List.not_mem_nil, or_false] at hw
  rcases hw with rfl | rfl | rfl | rfl | rfl
  · exact va_Nw.warmC hW hz
  · exact va_Nw.warmC hW hz
  · exact hd _ hz
  · exact hd _ hz
  · exact hd _ hz
/-- the String constants that are read: coder 0, their bytes (kit's vk_S without 'they are apart') -/
def fw_vkS (G : fw_G) (U : State) (H : Heap) : Prop := ∀ i : Nat, i < fw_nS → va_O "java/lang/String" (fw_adK G i) (fw_A G) U H ∧ va_OF "java/lang/String" "coder" "B" (.int 0) (fw_adK G i) (fw_A G) U H ∧ va_OF "java/lang/String" "value" "[B" (.ref (fw_adV G i)) (fw_adK G i) (fw_A G) U H ∧ va_T .byte (fw_adV G i) (fw_len.getD i 0) (fun j => .int ((fw_byt.getD i []).getD j 0)) (fw_A G) U H
theorem fw_vkS.moved {G : fw_G} {u U : State} {H : Heap} (hvm : u.vm.Alike U.vm) (h : fw_vkS G u H) : fw_vkS G U H :=
  fun i hi => ⟨va_O.moved hvm (h i hi).1, va_OF.moved hvm (h i hi).2.1, va_OF.moved hvm (h i hi).2.2.1, va_T.moved hvm (h i hi).2.2.2⟩
theorem fw_vkS.kept {G : fw_G} {U : State} {H H1 : Heap} (h : fw_vkS G U H) (hq : ∀ a : Nat, a < H.size → ¬ fw_A G a → H1[a]? = H[a]?) : fw_vkS G U H1 :=
  fun i hi => ⟨(h i hi).1.kept hq, (h i hi).2.1.kept hq, (h i hi).2.2.1.kept hq, (h i hi).2.2.2.kept hq⟩
/-! ===== the world around: what holds of the tables, strings, statics, the script; it lasts ===== -/
def fw_Wd (G : fw_G) (U : State) : Prop :=
  va_K (fw_D G) vwCl (fw_tys G) U ∧ (∀ q ∈ fw_nest, va_Nw (.methodLinkNest q.1 q.2.1 q.2.2.1 q.2.2.2) U) ∧ (∀ q ∈ fw_str, vk_R q.1 q.2.1 q.2.2.1 (fw_adK G q.2.2.2) U) ∧ (va_AO RX3 U ∧ va_AO RX6 U) ∧
  (va_Nc "java/lang/IllegalArgumentException" "java/util/NoSuchElementException" U ∧ ∀ w ∈ fw_wl, va_Nw w U) ∧
  fw_vkS G U U.heap ∧ vx_Zq Bundle.tN "UNASSIGNED_STACK" Bundle.steD (fw_A G) U U.heap ∧ vx_Zq Bundle.tN "SUPPRESSED_SENTINEL" Bundle.listD (fw_A G) U U.heap ∧
  va_Z "java/lang/String" "COMPACT_STRINGS" "Z" (.int 1) (fw_A G) U U.heap ∧ va_Zq "jdk/internal/util/Preconditions" "SIOOBE_FORMATTER" "Ljava/util/function/BiFunction;" (fw_A G) U U.heap ∧
  va_X (fw_b G) (fw_L G) (fw_xs G) U U.heap ∧ fw_b G < fw_base G ∧ fw_base G ≤ U.heap.size
theorem fw_Wd.step {G : fw_G} {s U : State} (h : fw_Wd G s) (hW : s.WarmedH U.vm) (hz : s.heap.size ≤ U.heap.size) (hq : ∀ a : Nat, a < s.heap.size → ¬ fw_A G a → U.heap[a]? = s.heap[a]?) : fw_Wd G U := by
  obtain ⟨h1, h2, h3, ⟨h4, h5⟩, ⟨h6, h61⟩, h7, h8, h9, h10, h11, h12, h13, h14⟩ := h
  refine ⟨h1.moved hW.alike, fun q hm => va_Nw.warmM hW (h2 q hm), fun q hm => vk_R.warm hW (h3 q hm), ⟨h4.moved hW.alike, h5.moved hW.alike⟩, ⟨h6.moved hW.alike, fw_wl_warm hW h61⟩, (h7.moved hW.alike).kept hq, (h8.moved hW.alike).kept hq, (h9.moved hW.alike).kept hq, (h10.moved hW.alike).kept hq, (h11.moved hW.alike).kept hq, (h12.moved hW.alike).kept ?_, h13, Nat.le_trans h14 hz⟩
  exact hq _ (by omega) (fun z => by unfold fw_A at z; omega)
/-- what a method's body has at hand -/
def fw_C (G : fw_G) (own : String) (cc : ByteArray) (nL : Nat) (p : Program) (s : State) (m : MethodId) (args : Array Value) (c : Code) : Prop :=
  (p.tables.exec = Jvm.exec ∧ c.code = cc ∧ c.maxLocals = nL ∧ s.vm.findClass own = some m.cls ∧ ∀ w ∈ wsU, w.before args s = true) ∧ fw_Wd G s
/-- the abstract walk: from every concrete frame and heap that stand for it the machine comes to Q -/
def fw_W (G : fw_G) (p : Program) (l : Launch) (e : Env) (R : Room) (s : State) (m : MethodId) (args : Array Value) (below : List Frame) (meth : Method) (c : Code) (nL : Nat) (Q : State → Prop) (cb sb pc : Nat) (lv : List (Nat × Value)) (st : List Value) (S : List fw_Sh) (M : fw_Mem) : Prop :=
  ∀ (H : Heap) (locs : List Loc) (ls : Array Slot), lv_has ls nL (lv.map (fw_cl G)) → fw_R G S M H → va_S (fw_A G) s.heap H locs → W p l e R s m args below meth c H locs cb sb Q (F0 m pc ls (st.map (fw_cv G)))
/-- an outcome: a value or what was thrown; the memory behind it -/
abbrev fw_O : Type := (Option Value ⊕ String) × List fw_Sh × fw_Mem
def fw_Pc (G : fw_G) (S : List fw_Sh) (M : fw_Mem) (vs : List Value) : Array Value → State → Prop := va_Pc (vs.map (fw_cv G)) (fun U => fw_Wd G U ∧ fw_R G S M U.heap)
def fw_Qc (G : fw_G) (o : fw_O) : Array Value → State → Outcome → State → Prop := fun _ st oc t => ∃ v, o.1 = .inl v ∧ oc = .returned (v.map (fw_cv G)) ∧ fw_R G o.2.1 o.2.2 t.heap ∧ va_F (fw_A G) st t
def fw_XC (G : fw_G) (o : fw_O) : String → State → State → Prop := fun E st t => o.1 = .inr E ∧ fw_R G o.2.1 o.2.2 t.heap ∧ va_F (fw_A G) st t
abbrev fw_rm (d mc ms : Nat) : Room := { frames := d, cells := mc, slots := ms, locals := 64 * d }
/-- a method's contract at these arguments and this memory -/
def fw_M (l : Launch) (G : fw_G) (y : MethodName) (w : Cond) (d mc ms : Nat) (S : List fw_Sh) (M : fw_Mem) (vs : List Value) (o : fw_O) : Prop :=
  vx_Met l y (w :: wsU) (fw_rm d mc ms) (fw_Pc G S M vs) (fw_Qc G o) (fw_XC G o) mc ms (fw_A G)
theorem fw_blind (G : fw_G) (S : List fw_Sh) (M : fw_Mem) (vs : List Value) : FrameBlind (fw_Pc G S M vs) := by
  intro a U g mk h
  obtain ⟨h1, h2, h3⟩ := h
  exact ⟨h1, h2.step (State.WarmedH.refl U) (Nat.le_refl _) (fun _ _ _ => rfl), h3⟩
theorem fw_good (w w' : Cond) (hw : w ∈ wsU) : GoodIn (w' :: wsU) (w :: wsU) := by
  intro x hx
  rcases List.mem_cons.mp hx with rfl | h
  · exact ⟨List.mem_cons_of_mem _ hw, good_of_word (wsU_good _ hw)⟩
  · exact ⟨List.mem_cons_of_mem _ h, good_of_word (wsU_good _ h)⟩
theorem fw_goodU (w : Cond) (hw : w ∈ wsU) : GoodIn wsU (w :: wsU) := by
  intro x hx
  rcases List.mem_cons.mp hx with rfl | h
  · exact ⟨hw, good_of_word (wsU_good _ hw)⟩
  · exact ⟨h, good_of_word (wsU_good _ h)⟩
/-- what is said of a method once for all its callers -/
def fw_cal (y : MethodName) (w : Cond) (n : Nat) : Prop := w ∈ wsU ∧ Cond.initialized y.cls ∈ wsU ∧ y.cls ≠ "java/lang/invoke/MethodHandle" ∧ y.cls ≠ "java/lang/invoke/VarHandle" ∧ (parseMethodDescriptor y.desc).map (fun d => d.parameters.length) = some n
section FWR
variable {G : fw_G} {own : String} {cc : ByteArray} {nL : Nat} {p : Program} {l : Launch} {e : Env} {R : Room} {s : State} {m : MethodId} {args : Array Value} {below : List Frame} {meth : Method} {c : Code} {Q : State → Prop} {cb sb pc : Nat} {lv lv' : List (Nat × Value)} {st : List Value} {S S' : List fw_Sh} {M M' : fw_Mem}
theorem fw_iconst (C : fw_C G own cc nL p s m args c) {n : Int} (v : Int32) (d : decode cc pc = .ok (.iconst n, 1)) (hv : Int32.ofInt n = v) (k : fw_W G p l e R s m args below meth c nL Q cb sb (pc + 1) lv (.int v :: st) S M) : fw_W G p l e R s m args below meth c nL Q cb sb pc lv st S M :=
  fun H locs ls hl hR hS => lv_iconst C.1.1 C.1.2.1 d hv (k H locs ls hl hR hS)
theorem fw_bipush (C : fw_C G own cc nL p s m args c) {n : Int} (v : Int32) (d : decode cc pc = .ok (.bipush n, 2)) (hv : (Int8.ofInt n).toInt32 = v) (k : fw_W G p l e R s m args below meth c nL Q cb sb (pc + 2) lv (.int v :: st) S M) : fw_W G p l e R s m args below meth c nL Q cb sb pc lv st S M :=
  fun H locs ls hl hR hS => lv_bipush C.1.1 C.1.2.1 d hv (k H locs ls hl hR hS)
theorem fw_sipush (C : fw_C G own cc nL p s m args c) {n : Int} (v : Int32) (d : decode cc pc = .ok (.sipush n, 3)) (hv : (Int16.ofInt n).toInt32 = v) (k : fw_W G p l e R s m args below meth c nL Q cb sb (pc + 3) lv (.int v :: st) S M) : fw_W G p l e R s m args below meth c nL Q cb sb pc lv st S M :=
  fun H locs ls hl hR hS => lv_sipush C.1.1 C.1.2.1 d hv (k H locs ls hl hR hS)
theorem fw_lconst (C : fw_C G own cc nL p s m args c) {n : Fin 2} (v : Int64) (d : decode cc pc = .ok (.lconst n, 1)) (hv : Int64.ofNat (n : Nat) = v) (k : fw_W G p l e R s m args below meth c nL Q cb sb (pc + 1) lv (.long v :: st) S M) : fw_W G p l e R s m args below meth c nL Q cb sb pc lv st S M :=
  fun H locs ls hl hR hS => lv_lconst C.1.1 C.1.2.1 d hv (k H locs ls hl hR hS)
theorem fw_ldc (C : fw_C G own cc nL p s m args c) {ix : Nat} {v : Int32} (w : Cond.constant own ix v ∈ wsU) (d : decode cc pc = .ok (.ldc ix, 2)) (k : fw_W G p l e R s m args below meth c nL Q cb sb (pc + 2) lv (.int v :: st) S M) : fw_W G p l e R s m args below meth c nL Q cb sb pc lv st S M :=
  fun H locs ls hl hR hS => lv_ldc C.1.1 C.1.2.1 C.1.2.2.2.1 (C.1.2.2.2.2 _ w) d (k H locs ls hl hR hS)
theorem fw_ldcw (C : fw_C G own cc nL p s m args c) {ix : Nat} {v : Int32} (w : Cond.constant own ix v ∈ wsU) (d : decode cc pc = .ok (.ldc_w ix, 3)) (k : fw_W G p l e R s m args below meth c nL Q cb sb (pc + 3) lv (.int v :: st) S M) : fw_W G p l e R s m args below meth c nL Q cb sb pc lv st S M :=
  fun H locs ls hl hR hS => lv_ldcw C.1.1 C.1.2.1 C.1.2.2.2.1 (C.1.2.2.2.2 _ w) d (k H locs ls hl hR hS)
theorem fw_adS (G : fw_G) (i : Nat) : fw_ad G (1000001 + i) = fw_adK G i := by
  have h : 1000001 + i - 1000001 = i := by omega
  simp only [fw_ad]
  rw [if_neg (by omega), if_neg (by omega), if_neg (by omega), h]
theorem fw_ldcS (C : fw_C G own cc nL p s m args c) {ix i : Nat} {tx : String} (w : (own, ix, tx, i) ∈ fw_str) (d : decode cc pc = .ok (.ldc ix, 2)) (k : fw_W G p l e R s m args below meth c nL Q cb sb (pc + 2) lv (.ref (1000001 + i) :: st) S M) : fw_W G p l e R s m args below meth c nL Q cb sb pc lv st S M := by
  intro H locs ls hl hR hS
  have hk := k H locs ls hl hR hS
  simp only [List.map_cons, fw_cv, fw_adS] at hk
  exact va_ldcS C.1.1 C.1.2.1 C.1.2.2.2.1 (C.2.2.2.1 _ w) d hk
theorem fw_ldcSw (C : fw_C G own cc nL p s m args c) {ix i : Nat} {tx : String} (w : (own, ix, tx, i) ∈ fw_str) (d : decode cc pc = .ok (.ldc_w ix, 3)) (k : fw_W G p l e R s m args below meth c nL Q cb sb (pc + 3) lv (.ref (1000001 + i) :: st) S M) : fw_W G p l e R s m args below meth c nL Q cb sb pc lv st S M := by
  intro H locs ls hl hR hS
  have hk := k H locs ls hl hR hS
  simp only [List.map_cons, fw_cv, fw_adS] at hk
  intro T hT X
  obtain ⟨t, a1, b1⟩ := hk T hT X
  have hZ := C.2.2.2.1 _ w
  exact ⟨t, X.ldcStringW C.1.1 C.1.2.2.2.1 (text := tx) hZ.1 hZ.2 (g := F0 m pc ls (st.map (fw_cv G))) rfl (by rw [C.1.2.1]; exact d) t a1, b1⟩
theorem fw_null (C : fw_C G own cc nL p s m args c) (d : decode cc pc = .ok (.aconst_null, 1)) (k : fw_W G p l e R s m args below meth c nL Q cb sb (pc + 1) lv (.null :: st) S M) : fw_W G p l e R s m args below meth c nL Q cb sb pc lv st S M :=
  fun H locs ls hl hR hS => lv_null C.1.1 C.1.2.1 d (k H locs ls hl hR hS)
theorem fw_at {ls : Array Slot} (h : lv_has ls nL (lv.map (fw_cl G))) (k : Nat) {i : Nat} {v : Value} (hk : lv[k]? = some (i, v)) : ls[i]? = some (.val (fw_cv G v)) := by
  refine lv_at h k ?_
  rw [List.getElem?_map, hk]
  rfl
theorem fw_iload_n (C : fw_C G own cc nL p s m args c) {k : Fin 4} {i : Nat} {x : Int32} (j : Nat) (d : decode cc pc = .ok (.iload_n k, 1)) (hi : (k : Nat) = i) (hj : lv[j]? = some (i, .int x)) (kk : fw_W G p l e R s m args below meth c nL Q cb sb (pc + 1) lv (.int x :: st) S M) : fw_W G p l e R s m args below meth c nL Q cb sb pc lv st S M :=
  fun H locs ls hl hR hS => lv_iload_n C.1.1 C.1.2.1 d hi (fw_at hl j hj) (kk H locs ls hl hR hS)
theorem fw_iload (C : fw_C G own cc nL p s m args c) {i : Nat} {x : Int32} (j : Nat) (d : decode cc pc = .ok (.iload i, 2)) (hj : lv[j]? = some (i, .int x)) (kk : fw_W G p l e R s m args below meth c nL Q cb sb (pc + 2) lv (.int x :: st) S M) : fw_W G p l e R s m args below meth c nL Q cb sb pc lv st S M :=
  fun H locs ls hl hR hS => lv_iload C.1.1 C.1.2.1 d (fw_at hl j hj) (kk H locs ls hl hR hS)
theorem fw_aload_n (C : fw_C G own cc nL p s m args c) {k : Fin 4} {i : Nat} {x : Nat} (j : Nat) (d : decode cc pc = .ok (.aload_n k, 1)) (hi : (k : Nat) = i) (hj : lv[j]? = some (i, .ref x)) (kk : fw_W G p l e R s m args below meth c nL Q cb sb (pc + 1) lv (.ref x :: st) S M) : fw_W G p l e R s m args below meth c nL Q cb sb pc lv st S M :=
  fun H locs ls hl hR hS => lv_aload_n C.1.1 C.1.2.1 d hi (fw_at hl j hj) (kk H locs ls hl hR hS)
theorem fw_aload (C : fw_C G own cc nL p s m args c) {i : Nat} {x : Nat} (j : Nat) (d : decode cc pc = .ok (.aload i, 2)) (hj : lv[j]? = some (i, .ref x)) (kk : fw_W G p l e R s m args below meth c nL Q cb sb (pc + 2) lv (.ref x :: st) S M) : fw_W G p l e R s m args below meth c nL Q cb sb pc lv st S M :=
  fun H locs ls hl hR hS => lv_aload C.1.1 C.1.2.1 d (fw_at hl j hj) (kk H locs ls hl hR hS)
theorem fw_aload_nN (C : fw_C G own cc nL p s m args c) {k : Fin 4} {i : Nat} (j : Nat) (d : decode cc pc = .ok (.aload_n k, 1)) (hi : (k : Nat) = i) (hj : lv[j]? = some (i, .null)) (kk : fw_W G p l e R s m args below meth c nL Q cb sb (pc + 1) lv (.null :: st) S M) : fw_W G p l e R s m args below meth c nL Q cb sb pc lv st S M :=
  fun H locs ls hl hR hS => lv_aload_nN C.1.1 C.1.2.1 d hi (fw_at hl j hj) (kk H locs ls hl hR hS)
/-- the locals behind a store -/
def fw_up (i : Nat) (v : Value) (lv : List (Nat × Value)) : List (Nat × Value) := (i, v) :: lv.filter (fun q => decide (q.1 ≠ i))
theorem fw_up_has {ls : Array Slot} {i : Nat} {v : Value} (h : lv_has ls nL (((i, v) :: lv).map (fw_cl G))) : lv_has ls nL ((fw_up i v lv).map (fw_cl G)) := by
  refine ⟨h.1, h.2.1, fun q hq => h.2.2 q ?_⟩
  obtain ⟨x, hx, rfl⟩ := List.mem_map.mp hq
  rcases List.mem_cons.mp hx with rfl | hx
  · exact List.mem_map.mpr ⟨_, List.mem_cons_self, rfl⟩
  · exact List.mem_map.mpr ⟨x, List.mem_cons_of_mem _ (List.mem_filter.mp hx).1, rfl⟩
end FWR
