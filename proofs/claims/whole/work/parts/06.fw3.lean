/-! ===== rules: locals, stack, arithmetic, branches ===== -/
section FWS
variable {G : fw_G} {own : String} {cc : ByteArray} {nL : Nat} {p : Program} {l : Launch} {e : Env} {R : Room} {s : State} {m : MethodId} {args : Array Value} {below : List Frame} {meth : Method} {c : Code} {Q : State → Prop} {cb sb pc : Nat} {lv lv' : List (Nat × Value)} {st : List Value} {S S' : List fw_Sh} {M M' : fw_Mem}
def fw_sto (i : Nat) (v : Value) (lv : List (Nat × Value)) : List (Nat × Value) := (i, v) :: lv.filter (fun q => !(q.1 == i) && !(q.1 + 1 == i && q.2.category == 2))
theorem fw_sto_map (i : Nat) (v : Value) (lv : List (Nat × Value)) : (i, fw_cv G v) :: (lv.map (fw_cl G)).filter (fun q => !(q.1 == i) && !(q.1 + 1 == i && q.2.category == 2)) = (fw_sto i v lv).map (fw_cl G) := by
  rw [fw_sto, List.map_cons, List.filter_map]
  congr 2
  apply List.filter_congr
  intro q _
  simp only [Function.comp, fw_cl, fw_cv_cat]
theorem fw_istore_n (C : fw_C G own cc nL p s m args c) {k : Fin 4} {i : Nat} {x : Int32} (lv' : List (Nat × Value)) (d : decode cc pc = .ok (.istore_n k, 1)) (hi : (k : Nat) = i) (hn : i < nL) (hl : fw_sto i (.int x) lv = lv') (kk : fw_W G p l e R s m args below meth c nL Q cb sb (pc + 1) lv' st S M) : fw_W G p l e R s m args below meth c nL Q cb sb pc lv (.int x :: st) S M := by
  subst hl
  exact fun H locs ls h hR hS => lv_istore_n C.1.1 C.1.2.1 d hi h hn (fw_sto_map (G := G) i (.int x) lv) (fun ls' h' => kk H locs ls' h' hR hS)
theorem fw_istore (C : fw_C G own cc nL p s m args c) {i : Nat} {x : Int32} (lv' : List (Nat × Value)) (d : decode cc pc = .ok (.istore i, 2)) (hn : i < nL) (hl : fw_sto i (.int x) lv = lv') (kk : fw_W G p l e R s m args below meth c nL Q cb sb (pc + 2) lv' st S M) : fw_W G p l e R s m args below meth c nL Q cb sb pc lv (.int x :: st) S M := by
  subst hl
  exact fun H locs ls h hR hS => lv_istore C.1.1 C.1.2.1 d h hn (fw_sto_map (G := G) i (.int x) lv) (fun ls' h' => kk H locs ls' h' hR hS)
theorem fw_astore_n (C : fw_C G own cc nL p s m args c) {k : Fin 4} {i : Nat} {x : Nat} (lv' : List (Nat × Value)) (d : decode cc pc = .ok (.astore_n k, 1)) (hi : (k : Nat) = i) (hn : i < nL) (hl : fw_sto i (.ref x) lv = lv') (kk : fw_W G p l e R s m args below meth c nL Q cb sb (pc + 1) lv' st S M) : fw_W G p l e R s m args below meth c nL Q cb sb pc lv (.ref x :: st) S M := by
  subst hl
  exact fun H locs ls h hR hS => lv_astore_n C.1.1 C.1.2.1 d hi h hn (fw_sto_map (G := G) i (.ref x) lv) (fun ls' h' => kk H locs ls' h' hR hS)
theorem fw_astore (C : fw_C G own cc nL p s m args c) {i : Nat} {x : Nat} (lv' : List (Nat × Value)) (d : decode cc pc = .ok (.astore i, 2)) (hn : i < nL) (hl : fw_sto i (.ref x) lv = lv') (kk : fw_W G p l e R s m args below meth c nL Q cb sb (pc + 2) lv' st S M) : fw_W G p l e R s m args below meth c nL Q cb sb pc lv (.ref x :: st) S M := by
  subst hl
  exact fun H locs ls h hR hS => lv_astore C.1.1 C.1.2.1 d h hn (fw_sto_map (G := G) i (.ref x) lv) (fun ls' h' => kk H locs ls' h' hR hS)
theorem fw_astore_nN (C : fw_C G own cc nL p s m args c) {k : Fin 4} {i : Nat} (lv' : List (Nat × Value)) (d : decode cc pc = .ok (.astore_n k, 1)) (hi : (k : Nat) = i) (hn : i < nL) (hl : fw_sto i .null lv = lv') (kk : fw_W G p l e R s m args below meth c nL Q cb sb (pc + 1) lv' st S M) : fw_W G p l e R s m args below meth c nL Q cb sb pc lv (.null :: st) S M := by
  subst hl
  exact fun H locs ls h hR hS => lv_astore_nN C.1.1 C.1.2.1 d hi h hn (fw_sto_map (G := G) i .null lv) (fun ls' h' => kk H locs ls' h' hR hS)
theorem fw_iinc (C : fw_C G own cc nL p s m args c) {i : Nat} {n : Int} {x : Int32} (v : Int32) (j : Nat) (lv' : List (Nat × Value)) (d : decode cc pc = .ok (.iinc i n, 3)) (hj : lv[j]? = some (i, .int x)) (hv : x + Int32.ofInt n = v) (hn : i < nL) (hl : fw_sto i (.int v) lv = lv') (kk : fw_W G p l e R s m args below meth c nL Q cb sb (pc + 3) lv' st S M) : fw_W G p l e R s m args below meth c nL Q cb sb pc lv st S M := by
  subst hl
  intro H locs ls h hR hS
  refine lv_iinc (k := j) (x := x) C.1.1 C.1.2.1 d h ?_ hv hn (fw_sto_map (G := G) i (.int v) lv) (fun ls' h' => kk H locs ls' h' hR hS)
  rw [List.getElem?_map, hj]
  rfl
theorem fw_iadd (C : fw_C G own cc nL p s m args c) {x y : Int32} (d : decode cc pc = .ok (.iadd, 1)) (k : fw_W G p l e R s m args below meth c nL Q cb sb (pc + 1) lv (.int (x + y) :: st) S M) : fw_W G p l e R s m args below meth c nL Q cb sb pc lv (.int y :: .int x :: st) S M :=
  fun H locs ls hl hR hS => lv_iadd C.1.1 C.1.2.1 d (k H locs ls hl hR hS)
theorem fw_isub (C : fw_C G own cc nL p s m args c) {x y : Int32} (d : decode cc pc = .ok (.isub, 1)) (k : fw_W G p l e R s m args below meth c nL Q cb sb (pc + 1) lv (.int (x - y) :: st) S M) : fw_W G p l e R s m args below meth c nL Q cb sb pc lv (.int y :: .int x :: st) S M :=
  fun H locs ls hl hR hS => lv_isub C.1.1 C.1.2.1 d (k H locs ls hl hR hS)
theorem fw_imul (C : fw_C G own cc nL p s m args c) {x y : Int32} (d : decode cc pc = .ok (.imul, 1)) (k : fw_W G p l e R s m args below meth c nL Q cb sb (pc + 1) lv (.int (x * y) :: st) S M) : fw_W G p l e R s m args below meth c nL Q cb sb pc lv (.int y :: .int x :: st) S M :=
  fun H locs ls hl hR hS => lv_imul C.1.1 C.1.2.1 d (k H locs ls hl hR hS)
theorem fw_iand (C : fw_C G own cc nL p s m args c) {x y : Int32} (d : decode cc pc = .ok (.iand, 1)) (k : fw_W G p l e R s m args below meth c nL Q cb sb (pc + 1) lv (.int (x &&& y) :: st) S M) : fw_W G p l e R s m args below meth c nL Q cb sb pc lv (.int y :: .int x :: st) S M :=
  fun H locs ls hl hR hS => lv_iand C.1.1 C.1.2.1 d (k H locs ls hl hR hS)
theorem fw_ior (C : fw_C G own cc nL p s m args c) {x y : Int32} (d : decode cc pc = .ok (.ior, 1)) (k : fw_W G p l e R s m args below meth c nL Q cb sb (pc + 1) lv (.int (x ||| y) :: st) S M) : fw_W G p l e R s m args below meth c nL Q cb sb pc lv (.int y :: .int x :: st) S M :=
  fun H locs ls hl hR hS => lv_ior C.1.1 C.1.2.1 d (k H locs ls hl hR hS)
theorem fw_ixor (C : fw_C G own cc nL p s m args c) {x y : Int32} (d : decode cc pc = .ok (.ixor, 1)) (k : fw_W G p l e R s m args below meth c nL Q cb sb (pc + 1) lv (.int (x ^^^ y) :: st) S M) : fw_W G p l e R s m args below meth c nL Q cb sb pc lv (.int y :: .int x :: st) S M :=
  fun H locs ls hl hR hS => lv_ixor C.1.1 C.1.2.1 d (k H locs ls hl hR hS)
theorem fw_ishl (C : fw_C G own cc nL p s m args c) {x y : Int32} (d : decode cc pc = .ok (.ishl, 1)) (k : fw_W G p l e R s m args below meth c nL Q cb sb (pc + 1) lv (.int (x <<< (y &&& 31)) :: st) S M) : fw_W G p l e R s m args below meth c nL Q cb sb pc lv (.int y :: .int x :: st) S M :=
  fun H locs ls hl hR hS => lv_ishl C.1.1 C.1.2.1 d (k H locs ls hl hR hS)
theorem fw_ishr (C : fw_C G own cc nL p s m args c) {x y : Int32} (d : decode cc pc = .ok (.ishr, 1)) (k : fw_W G p l e R s m args below meth c nL Q cb sb (pc + 1) lv (.int (x >>> (y &&& 31)) :: st) S M) : fw_W G p l e R s m args below meth c nL Q cb sb pc lv (.int y :: .int x :: st) S M :=
  fun H locs ls hl hR hS => lv_ishr C.1.1 C.1.2.1 d (k H locs ls hl hR hS)
theorem fw_idiv (C : fw_C G own cc nL p s m args c) {x y : Int32} (d : decode cc pc = .ok (.idiv, 1)) (hy : ¬ y = 0) (k : fw_W G p l e R s m args below meth c nL Q cb sb (pc + 1) lv (.int (x / y) :: st) S M) : fw_W G p l e R s m args below meth c nL Q cb sb pc lv (.int y :: .int x :: st) S M :=
  fun H locs ls hl hR hS => lv_idiv C.1.1 C.1.2.1 d hy (k H locs ls hl hR hS)
theorem fw_irem (C : fw_C G own cc nL p s m args c) {x y : Int32} (d : decode cc pc = .ok (.irem, 1)) (hy : ¬ y = 0) (k : fw_W G p l e R s m args below meth c nL Q cb sb (pc + 1) lv (.int (x - x / y * y) :: st) S M) : fw_W G p l e R s m args below meth c nL Q cb sb pc lv (.int y :: .int x :: st) S M :=
  fun H locs ls hl hR hS => lv_irem C.1.1 C.1.2.1 d hy (k H locs ls hl hR hS)
theorem fw_i2l (C : fw_C G own cc nL p s m args c) {x : Int32} (d : decode cc pc = .ok (.i2l, 1)) (k : fw_W G p l e R s m args below meth c nL Q cb sb (pc + 1) lv (.long x.toInt64 :: st) S M) : fw_W G p l e R s m args below meth c nL Q cb sb pc lv (.int x :: st) S M :=
  fun H locs ls hl hR hS => lv_i2l C.1.1 C.1.2.1 d rfl (k H locs ls hl hR hS)
theorem fw_i2b (C : fw_C G own cc nL p s m args c) {x : Int32} (d : decode cc pc = .ok (.i2b, 1)) (k : fw_W G p l e R s m args below meth c nL Q cb sb (pc + 1) lv (.int x.toInt8.toInt32 :: st) S M) : fw_W G p l e R s m args below meth c nL Q cb sb pc lv (.int x :: st) S M :=
  fun H locs ls hl hR hS => lv_i2b C.1.1 C.1.2.1 d rfl (k H locs ls hl hR hS)
theorem fw_i2c (C : fw_C G own cc nL p s m args c) {x : Int32} (d : decode cc pc = .ok (.i2c, 1)) (k : fw_W G p l e R s m args below meth c nL Q cb sb (pc + 1) lv (.int (x.toUInt32 % 65536).toInt32 :: st) S M) : fw_W G p l e R s m args below meth c nL Q cb sb pc lv (.int x :: st) S M :=
  fun H locs ls hl hR hS => lv_i2c C.1.1 C.1.2.1 d rfl (k H locs ls hl hR hS)
theorem fw_dup (C : fw_C G own cc nL p s m args c) {v : Value} (d : decode cc pc = .ok (.dup, 1)) (hv : v.category = 1) (k : fw_W G p l e R s m args below meth c nL Q cb sb (pc + 1) lv (v :: v :: st) S M) : fw_W G p l e R s m args below meth c nL Q cb sb pc lv (v :: st) S M :=
  fun H locs ls hl hR hS => lv_dup C.1.1 C.1.2.1 d (by rw [fw_cv_cat]; exact hv) (k H locs ls hl hR hS)
theorem fw_dup2 (C : fw_C G own cc nL p s m args c) {v w : Value} (d : decode cc pc = .ok (.dup2, 1)) (hv : v.category = 1) (hw : w.category = 1) (k : fw_W G p l e R s m args below meth c nL Q cb sb (pc + 1) lv (v :: w :: v :: w :: st) S M) : fw_W G p l e R s m args below meth c nL Q cb sb pc lv (v :: w :: st) S M :=
  fun H locs ls hl hR hS => lv_dup2_11 C.1.1 C.1.2.1 d (by rw [fw_cv_cat]; exact hv) (by rw [fw_cv_cat]; exact hw) (k H locs ls hl hR hS)
theorem fw_pop (C : fw_C G own cc nL p s m args c) {v : Value} (d : decode cc pc = .ok (.pop, 1)) (hv : v.category = 1) (k : fw_W G p l e R s m args below meth c nL Q cb sb (pc + 1) lv st S M) : fw_W G p l e R s m args below meth c nL Q cb sb pc lv (v :: st) S M :=
  fun H locs ls hl hR hS => lv_pop C.1.1 C.1.2.1 d (by rw [fw_cv_cat]; exact hv) (k H locs ls hl hR hS)
theorem fw_goto (C : fw_C G own cc nL p s m args c) {off : Int} (tgt : Nat) (d : decode cc pc = .ok (.goto off, 3)) (ht : (pc : Int) + off = (tgt : Int)) (k : fw_W G p l e R s m args below meth c nL Q cb sb tgt lv st S M) : fw_W G p l e R s m args below meth c nL Q cb sb pc lv st S M :=
  fun H locs ls hl hR hS => lv_goto C.1.1 C.1.2.1 d ht (k H locs ls hl hR hS)
theorem fw_ifnull (C : fw_C G own cc nL p s m args c) {x : Nat} {off : Int} (d : decode cc pc = .ok (.ifnull off, 3)) (k : fw_W G p l e R s m args below meth c nL Q cb sb (pc + 3) lv st S M) : fw_W G p l e R s m args below meth c nL Q cb sb pc lv (.ref x :: st) S M :=
  fun H locs ls hl hR hS => lv_ifnull C.1.1 C.1.2.1 d (k H locs ls hl hR hS)
theorem fw_ifnullN (C : fw_C G own cc nL p s m args c) {off : Int} (tgt : Nat) (d : decode cc pc = .ok (.ifnull off, 3)) (ht : (pc : Int) + off = (tgt : Int)) (k : fw_W G p l e R s m args below meth c nL Q cb sb tgt lv st S M) : fw_W G p l e R s m args below meth c nL Q cb sb pc lv (.null :: st) S M :=
  fun H locs ls hl hR hS => lv_ifnullN C.1.1 C.1.2.1 d ht (k H locs ls hl hR hS)
theorem fw_ifnonnull (C : fw_C G own cc nL p s m args c) {x : Nat} {off : Int} (tgt : Nat) (d : decode cc pc = .ok (.ifnonnull off, 3)) (ht : (pc : Int) + off = (tgt : Int)) (k : fw_W G p l e R s m args below meth c nL Q cb sb tgt lv st S M) : fw_W G p l e R s m args below meth c nL Q cb sb pc lv (.ref x :: st) S M :=
  fun H locs ls hl hR hS => lv_ifnonnull C.1.1 C.1.2.1 d ht (k H locs ls hl hR hS)
theorem fw_ifnonnullN (C : fw_C G own cc nL p s m args c) {off : Int} (d : decode cc pc = .ok (.ifnonnull off, 3)) (k : fw_W G p l e R s m args below meth c nL Q cb sb (pc + 3) lv st S M) : fw_W G p l e R s m args below meth c nL Q cb sb pc lv (.null :: st) S M :=
  fun H locs ls hl hR hS => lv_ifnonnullN C.1.1 C.1.2.1 d (k H locs ls hl hR hS)
theorem fw_lcmp (C : fw_C G own cc nL p s m args c) {x y : Int64} (d : decode cc pc = .ok (.lcmp, 1)) (k : fw_W G p l e R s m args below meth c nL Q cb sb (pc + 1) lv (.int (lg_cmp x y) :: st) S M) : fw_W G p l e R s m args below meth c nL Q cb sb pc lv (.long y :: .long x :: st) S M :=
  fun H locs ls hl hR hS => W.lcmp C.1.1 C.1.2.1 d (k H locs ls hl hR hS)
theorem fw_if_eq (C : fw_C G own cc nL p s m args c) {x : Int32} {off : Int} (tgt : Nat) (d : decode cc pc = .ok (.ifCond .eq off, 3)) (ht : (pc : Int) + off = (tgt : Int)) (k1 : x = 0 → fw_W G p l e R s m args below meth c nL Q cb sb tgt lv st S M) (k2 : ¬ (x = 0) → fw_W G p l e R s m args below meth c nL Q cb sb (pc + 3) lv st S M) : fw_W G p l e R s m args below meth c nL Q cb sb pc lv (.int x :: st) S M :=
  fun H locs ls hl hR hS => lv_if_eq C.1.1 C.1.2.1 d ht (fun h => k1 h H locs ls hl hR hS) (fun h => k2 h H locs ls hl hR hS)
theorem fw_icmp_eq (C : fw_C G own cc nL p s m args c) {x y : Int32} {off : Int} (tgt : Nat) (d : decode cc pc = .ok (.if_icmp .eq off, 3)) (ht : (pc : Int) + off = (tgt : Int)) (k1 : x = y → fw_W G p l e R s m args below meth c nL Q cb sb tgt lv st S M) (k2 : ¬ (x = y) → fw_W G p l e R s m args below meth c nL Q cb sb (pc + 3) lv st S M) : fw_W G p l e R s m args below meth c nL Q cb sb pc lv (.int y :: .int x :: st) S M :=
  fun H locs ls hl hR hS => lv_icmp_eq C.1.1 C.1.2.1 d ht (fun h => k1 h H locs ls hl hR hS) (fun h => k2 h H locs ls hl hR hS)
theorem fw_if_ne (C : fw_C G own cc nL p s m args c) {x : Int32} {off : Int} (tgt : Nat) (d : decode cc pc = .ok (.ifCond .ne off, 3)) (ht : (pc : Int) + off = (tgt : Int)) (k1 : ¬ x = 0 → fw_W G p l e R s m args below meth c nL Q cb sb tgt lv st S M) (k2 : x = 0 → fw_W G p l e R s m args below meth c nL Q cb sb (pc + 3) lv st S M) : fw_W G p l e R s m args below meth c nL Q cb sb pc lv (.int x :: st) S M :=
  fun H locs ls hl hR hS => lv_if_ne C.1.1 C.1.2.1 d ht (fun h => k1 h H locs ls hl hR hS) (fun h => k2 h H locs ls hl hR hS)
theorem fw_icmp_ne (C : fw_C G own cc nL p s m args c) {x y : Int32} {off : Int} (tgt : Nat) (d : decode cc pc = .ok (.if_icmp .ne off, 3)) (ht : (pc : Int) + off = (tgt : Int)) (k1 : ¬ x = y → fw_W G p l e R s m args below meth c nL Q cb sb tgt lv st S M) (k2 : x = y → fw_W G p l e R s m args below meth c nL Q cb sb (pc + 3) lv st S M) : fw_W G p l e R s m args below meth c nL Q cb sb pc lv (.int y :: .int x :: st) S M :=
  fun H locs ls hl hR hS => lv_icmp_ne C.1.1 C.1.2.1 d ht (fun h => k1 h H locs ls hl hR hS) (fun h => k2 h H locs ls hl hR hS)
theorem fw_if_lt (C : fw_C G own cc nL p s m args c) {x : Int32} {off : Int} (tgt : Nat) (d : decode cc pc = .ok (.ifCond .lt off, 3)) (ht : (pc : Int) + off = (tgt : Int)) (k1 : x < 0 → fw_W G p l e R s m args below meth c nL Q cb sb tgt lv st S M) (k2 : ¬ (x < 0) → fw_W G p l e R s m args below meth c nL Q cb sb (pc + 3) lv st S M) : fw_W G p l e R s m args below meth c nL Q cb sb pc lv (.int x :: st) S M :=
  fun H locs ls hl hR hS => lv_if_lt C.1.1 C.1.2.1 d ht (fun h => k1 h H locs ls hl hR hS) (fun h => k2 h H locs ls hl hR hS)
theorem fw_icmp_lt (C : fw_C G own cc nL p s m args c) {x y : Int32} {off : Int} (tgt : Nat) (d : decode cc pc = .ok (.if_icmp .lt off, 3)) (ht : (pc : Int) + off = (tgt : Int)) (k1 : x < y → fw_W G p l e R s m args below meth c nL Q cb sb tgt lv st S M) (k2 : ¬ (x < y) → fw_W G p l e R s m args below meth c nL Q cb sb (pc + 3) lv st S M) : fw_W G p l e R s m args below meth c nL Q cb sb pc lv (.int y :: .int x :: st) S M :=
  fun H locs ls hl hR hS => lv_icmp_lt C.1.1 C.1.2.1 d ht (fun h => k1 h H locs ls hl hR hS) (fun h => k2 h H locs ls hl hR hS)
theorem fw_if_ge (C : fw_C G own cc nL p s m args c) {x : Int32} {off : Int} (tgt : Nat) (d : decode cc pc = .ok (.ifCond .ge off, 3)) (ht : (pc : Int) + off = (tgt : Int)) (k1 : 0 ≤ x → fw_W G p l e R s m args below meth c nL Q cb sb tgt lv st S M) (k2 : ¬ (0 ≤ x) → fw_W G p l e R s m args below meth c nL Q cb sb (pc + 3) lv st S M) : fw_W G p l e R s m args below meth c nL Q cb sb pc lv (.int x :: st) S M :=
  fun H locs ls hl hR hS => lv_if_ge C.1.1 C.1.2.1 d ht (fun h => k1 h H locs ls hl hR hS) (fun h => k2 h H locs ls hl hR hS)
theorem fw_icmp_ge (C : fw_C G own cc nL p s m args c) {x y : Int32} {off : Int} (tgt : Nat) (d : decode cc pc = .ok (.if_icmp .ge off, 3)) (ht : (pc : Int) + off = (tgt : Int)) (k1 : y ≤ x → fw_W G p l e R s m args below meth c nL Q cb sb tgt lv st S M) (k2 : ¬ (y ≤ x) → fw_W G p l e R s m args below meth c nL Q cb sb (pc + 3) lv st S M) : fw_W G p l e R s m args below meth c nL Q cb sb pc lv (.int y :: .int x :: st) S M :=
  fun H locs ls hl hR hS => lv_icmp_ge C.1.1 C.1.2.1 d ht (fun h => k1 h H locs ls hl hR hS) (fun h => k2 h H locs ls hl hR hS)
theorem fw_if_gt (C : fw_C G own cc nL p s m args c) {x : Int32} {off : Int} (tgt : Nat) (d : decode cc pc = .ok (.ifCond .gt off, 3)) (ht : (pc : Int) + off = (tgt : Int)) (k1 : 0 < x → fw_W G p l e R s m args below meth c nL Q cb sb tgt lv st S M) (k2 : ¬ (0 < x) → fw_W G p l e R s m args below meth c nL Q cb sb (pc + 3) lv st S M) : fw_W G p l e R s m args below meth c nL Q cb sb pc lv (.int x :: st) S M :=
  fun H locs ls hl hR hS => lv_if_gt C.1.1 C.1.2.1 d ht (fun h => k1 h H locs ls hl hR hS) (fun h => k2 h H locs ls hl hR hS)
theorem fw_icmp_gt (C : fw_C G own cc nL p s m args c) {x y : Int32} {off : Int} (tgt : Nat) (d : decode cc pc = .ok (.if_icmp .gt off, 3)) (ht : (pc : Int) + off = (tgt : Int)) (k1 : y < x → fw_W G p l e R s m args below meth c nL Q cb sb tgt lv st S M) (k2 : ¬ (y < x) → fw_W G p l e R s m args below meth c nL Q cb sb (pc + 3) lv st S M) : fw_W G p l e R s m args below meth c nL Q cb sb pc lv (.int y :: .int x :: st) S M :=
  fun H locs ls hl hR hS => lv_icmp_gt C.1.1 C.1.2.1 d ht (fun h => k1 h H locs ls hl hR hS) (fun h => k2 h H locs ls hl hR hS)
theorem fw_if_le (C : fw_C G own cc nL p s m args c) {x : Int32} {off : Int} (tgt : Nat) (d : decode cc pc = .ok (.ifCond .le off, 3)) (ht : (pc : Int) + off = (tgt : Int)) (k1 : x ≤ 0 → fw_W G p l e R s m args below meth c nL Q cb sb tgt lv st S M) (k2 : ¬ (x ≤ 0) → fw_W G p l e R s m args below meth c nL Q cb sb (pc + 3) lv st S M) : fw_W G p l e R s m args below meth c nL Q cb sb pc lv (.int x :: st) S M :=
  fun H locs ls hl hR hS => lv_if_le C.1.1 C.1.2.1 d ht (fun h => k1 h H locs ls hl hR hS) (fun h => k2 h H locs ls hl hR hS)
theorem fw_icmp_le (C : fw_C G own cc nL p s m args c) {x y : Int32} {off : Int} (tgt : Nat) (d : decode cc pc = .ok (.if_icmp .le off, 3)) (ht : (pc : Int) + off = (tgt : Int)) (k1 : x ≤ y → fw_W G p l e R s m args below meth c nL Q cb sb tgt lv st S M) (k2 : ¬ (x ≤ y) → fw_W G p l e R s m args below meth c nL Q cb sb (pc + 3) lv st S M) : fw_W G p l e R s m args below meth c nL Q cb sb pc lv (.int y :: .int x :: st) S M :=
  fun H locs ls hl hR hS => lv_icmp_le C.1.1 C.1.2.1 d ht (fun h => k1 h H locs ls hl hR hS) (fun h => k2 h H locs ls hl hR hS)
end FWS
