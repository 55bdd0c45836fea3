def gX (L : Nat) (i : Int32) : Bool := decide (0 ≤ i) && decide (i.toNatClampNeg < L)
theorem gX_of {L : Nat} {i : Int32} (h : gX L i = true) : vp_in i L := by
  simp only [gX, Bool.and_eq_true, decide_eq_true_eq] at h
  intro q
  rcases q with q | q
  · exact Int32.not_lt.mpr h.1 q
  · omega
section FWL
variable {G : fw_G} {own : String} {cc : ByteArray} {nL : Nat} {p : Program} {l : Launch} {e : Env} {R : Room} {s : State} {m : MethodId} {args : Array Value} {below : List Frame} {meth : Method} {c : Code} {Q : State → Prop} {cb sb pc : Nat} {lv : List (Nat × Value)} {st : List Value} {S S' : List fw_Sh} {M M' : fw_Mem}
theorem fw_callVL {y : MethodName} {bytes : ByteArray} {maxL ix n d a ci : Nat} {ret : Option FieldType} (As : List Value) {v : Option Value} (C : fw_C G own cc nL p s m args c) (hM : fw_M l G y (.code y bytes maxL ret) d 0 0 S M (.ref a :: As) (.inl v, S', M')) (hc : fw_cal y (.code y bytes maxL ret) n) (w1 : Cond.methodLink own ix y ∈ wsU) (w2 : Cond.instanceMethod y ∈ wsU) (w3 : Cond.selects (fw_RR ci) y y ∈ wsU) (hci : ci < 11) (hy : y.cls = fw_RR ci) (hS : fw_isO S ci a) (hn : As.length = n) (hst : (st.map fun v => v.category).sum ≤ 8) (hr : d + 1 ≤ R.frames ∧ 8 + (maxL + 11) + 64 * d ≤ R.locals) (hf : cb ≤ R.cells ∧ sb ≤ R.slots) (dd : decode cc pc = .ok (.invokevirtual ix, 3)) (kk : fw_W G p l e R s m args below meth c nL Q cb sb (pc + 3) lv (v.toList ++ st) S' M') :
    fw_W G p l e R s m args below meth c nL Q cb sb pc lv (As.reverse ++ .ref a :: st) S M :=
  fw_callV As C hM hc w1 w2 w3 hci hy hS hn hst hr hf dd kk
end FWL
set_option maxRecDepth 100000 in
def lf_law (S : List fw_Sh) (L : Nat) (xs : Nat → Int32) : Nat → Int32 → fw_Mem → Option Int32
  | 0, _, _ => none
  | n + 1, x4, M => if ((nI L) - 7) < x4 then (some 1) else (gd (gX L x4) (if ((xs x4.toNatClampNeg) &&& 31) = 0 then (gd (gX L (x4 + 1)) (gd (gX L (x4 + 2)) (gd (gX L (x4 + 3)) (gd (gX L (x4 + 4)) (gd (gX L (x4 + 5)) (gd (gO S 9 0) (b2 (f_X9_feed S M 0 (xs (x4 + 1).toNatClampNeg) (xs (x4 + 2).toNatClampNeg) (xs (x4 + 3).toNatClampNeg) (xs (x4 + 4).toNatClampNeg) (xs (x4 + 5).toNatClampNeg)) (fun v9 M9 => gd (gO S 10 136) (b2 (f_X10_feed S M9 136 (xs (x4 + 1).toNatClampNeg) (xs (x4 + 2).toNatClampNeg) (xs (x4 + 3).toNatClampNeg) (xs (x4 + 4).toNatClampNeg) (xs (x4 + 5).toNatClampNeg)) (fun v11 M11 => if v9 = v11 then (lf_law S L xs n (x4 + 7) M11) else (some 0))))))))))) else (if ((xs x4.toNatClampNeg) &&& 31) = 1 then (gd (gX L (x4 + 1)) (b2 (f_L_desk S M 0 (xs (x4 + 1).toNatClampNeg) 148) (fun v16 M16 => gd (gO S 10 136) (b2 (f_X10_desk S M16 136 (xs (x4 + 1).toNatClampNeg)) (fun v17 M17 => b1 (f_X10_thrown S M17 136) (fun v19 => if v19 = v16 then (if v16 = 0 then (gd (gA S 2 148 0) (if (lg_cmp ((M17 148 0)).toInt64 (v17).toInt64) = 0 then (lf_law S L xs n (x4 + 7) M17) else (some 0))) else (lf_law S L xs n (x4 + 7) M17)) else (some 0))))))) else (if ((xs x4.toNatClampNeg) &&& 31) = 2 then (gd (gO S 9 0) (b1 (f_X9_fault S M 0) (fun v25 => gd (gO S 10 136) (b2 (f_X10_fault S M 136) (fun v27 M27 => if v25 = v27 then (lf_law S L xs n (x4 + 7) M27) else (some 0)))))) else (if ((xs x4.toNatClampNeg) &&& 31) = 3 then (gd (gX L (x4 + 1)) (b2 (f_L_count S M 0 (xs (x4 + 1).toNatClampNeg) 148) (fun v32 M32 => gd (gO S 10 136) (b2 (f_X10_count S M32 136 (xs (x4 + 1).toNatClampNeg)) (fun v33 M33 => b1 (f_X10_thrown S M33 136) (fun v35 => if v35 = v32 then (if v32 = 0 then (gd (gA S 2 148 0) (if (lg_cmp ((M33 148 0)).toInt64 (v33).toInt64) = 0 then (lf_law S L xs n (x4 + 7) M33) else (some 0))) else (lf_law S L xs n (x4 + 7) M33)) else (some 0))))))) else (if ((xs x4.toNatClampNeg) &&& 31) = 4 then (gd (gX L (x4 + 1)) (gd (gX L (x4 + 2)) (b2 (f_L_letter S M 0 (xs (x4 + 1).toNatClampNeg) (xs (x4 + 2).toNatClampNeg) 148) (fun v43 M43 => gd (gO S 10 136) (b2 (f_X10_letter S M43 136 (xs (x4 + 1).toNatClampNeg) (xs (x4 + 2).toNatClampNeg)) (fun v44 M44 => b1 (f_X10_thrown S M44 136) (fun v46 => if v46 = v43 then (if v43 = 0 then (gd (gA S 2 148 0) (if (lg_cmp ((M44 148 0)).toInt64 (v44).toInt64) = 0 then (lf_law S L xs n (x4 + 7) M44) else (some 0))) else (lf_law S L xs n (x4 + 7) M44)) else (some 0)))))))) else (if ((xs x4.toNatClampNeg) &&& 31) = 5 then (gd (gX L (x4 + 1)) (gd (gX L (x4 + 2)) (b2 (f_L_link S M 0 (xs (x4 + 1).toNatClampNeg) (xs (x4 + 2).toNatClampNeg) 148) (fun v54 M54 => gd (gO S 10 136) (b2 (f_X10_link S M54 136 (xs (x4 + 1).toNatClampNeg) (xs (x4 + 2).toNatClampNeg)) (fun v55 M55 => b1 (f_X10_thrown S M55 136) (fun v57 => if v57 = v54 then (if v54 = 0 then (gd (gA S 2 148 0) (if (lg_cmp ((M55 148 0)).toInt64 (v55).toInt64) = 0 then (lf_law S L xs n (x4 + 7) M55) else (some 0))) else (lf_law S L xs n (x4 + 7) M55)) else (some 0)))))))) else (if ((xs x4.toNatClampNeg) &&& 31) = 6 then (gd (gX L (x4 + 1)) (gd (gX L (x4 + 2)) (b2 (f_L_suit S M 0 (xs (x4 + 1).toNatClampNeg) (xs (x4 + 2).toNatClampNeg) 148) (fun v65 M65 => gd (gO S 10 136) (b2 (f_X10_suit S M65 136 (xs (x4 + 1).toNatClampNeg) (xs (x4 + 2).toNatClampNeg)) (fun v66 M66 => b1 (f_X10_thrown S M66 136) (fun v68 => if v68 = v65 then (if v65 = 0 then (gd (gA S 2 148 0) (if (lg_cmp ((M66 148 0)).toInt64 (v66).toInt64) = 0 then (lf_law S L xs n (x4 + 7) M66) else (some 0))) else (lf_law S L xs n (x4 + 7) M66)) else (some 0)))))))) else (if ((xs x4.toNatClampNeg) &&& 31) = 7 then (gd (gX L (x4 + 1)) (gd (gX L (x4 + 2)) (gd (gX L (x4 + 3)) (b2 (f_L_isBound S M 0 (xs (x4 + 1).toNatClampNeg) (xs (x4 + 2).toNatClampNeg) (xs (x4 + 3).toNatClampNeg) 148) (fun v77 M77 => gd (gO S 10 136) (b2 (f_X10_isBound S M77 136 (xs (x4 + 1).toNatClampNeg) (xs (x4 + 2).toNatClampNeg) (xs (x4 + 3).toNatClampNeg)) (fun v78 M78 => b1 (f_X10_thrown S M78 136) (fun v80 => if v80 = v77 then (if v77 = 0 then (gd (gA S 2 148 0) (if v78 = 0 then (if (lg_cmp ((M78 148 0)).toInt64 ((0 : Int32)).toInt64) = 0 then (lf_law S L xs n (x4 + 7) M78) else (some 0)) else (if (lg_cmp ((M78 148 0)).toInt64 ((1 : Int32)).toInt64) = 0 then (lf_law S L xs n (x4 + 7) M78) else (some 0)))) else (lf_law S L xs n (x4 + 7) M78)) else (some 0))))))))) else (if ((xs x4.toNatClampNeg) &&& 31) = 8 then (gd (gX L (x4 + 1)) (gd (gX L (x4 + 2)) (gd (gX L (x4 + 3)) (gd (gX L (x4 + 4)) (b2 (f_L_chain S M 0 (xs (x4 + 1).toNatClampNeg) (xs (x4 + 2).toNatClampNeg) (xs (x4 + 3).toNatClampNeg) (xs (x4 + 4).toNatClampNeg) 148) (fun v92 M92 => gd (gO S 10 136) (b2 (f_X10_chain S M92 136 (xs (x4 + 1).toNatClampNeg) (xs (x4 + 2).toNatClampNeg) (xs (x4 + 3).toNatClampNeg) (xs (x4 + 4).toNatClampNeg)) (fun v93 M93 => b1 (f_X10_thrown S M93 136) (fun v95 => if v95 = v92 then (if v92 = 0 then (gd (gA S 2 148 0) (if (lg_cmp ((M93 148 0)).toInt64 (v93).toInt64) = 0 then (lf_law S L xs n (x4 + 7) M93) else (some 0))) else (lf_law S L xs n (x4 + 7) M93)) else (some 0)))))))))) else (if ((xs x4.toNatClampNeg) &&& 31) = 9 then (gd (gX L (x4 + 1)) (gd (gX L (x4 + 2)) (gd (gX L (x4 + 3)) (b2 (f_L_two S M 0 (xs (x4 + 1).toNatClampNeg) (xs (x4 + 2).toNatClampNeg) (xs (x4 + 3).toNatClampNeg) 148) (fun v104 M104 => gd (gO S 10 136) (b2 (f_X10_two S M104 136 (xs (x4 + 1).toNatClampNeg) (xs (x4 + 2).toNatClampNeg) (xs (x4 + 3).toNatClampNeg)) (fun v105 M105 => b1 (f_X10_thrown S M105 136) (fun v107 => if v107 = v104 then (if v104 = 0 then (gd (gA S 2 148 0) (if (lg_cmp ((M105 148 0)).toInt64 (v105).toInt64) = 0 then (lf_law S L xs n (x4 + 7) M105) else (some 0))) else (lf_law S L xs n (x4 + 7) M105)) else (some 0))))))))) else (if ((xs x4.toNatClampNeg) &&& 31) = 10 then (gd (gX L (x4 + 1)) (b2 (f_L_barred S M 0 (xs (x4 + 1).toNatClampNeg) 148) (fun v114 M114 => gd (gO S 10 136) (b2 (f_X10_barred S M114 136 (xs (x4 + 1).toNatClampNeg)) (fun v115 M115 => b1 (f_X10_thrown S M115 136) (fun v117 => if v117 = v114 then (if v114 = 0 then (gd (gA S 2 148 0) (if (lg_cmp ((M115 148 0)).toInt64 (v115).toInt64) = 0 then (lf_law S L xs n (x4 + 7) M115) else (some 0))) else (lf_law S L xs n (x4 + 7) M115)) else (some 0))))))) else (if ((xs x4.toNatClampNeg) &&& 31) = 11 then (gd (gX L (x4 + 1)) (gd (gX L (x4 + 2)) (gd (gX L (x4 + 3)) (b2 (f_L_held S M 0 (xs (x4 + 1).toNatClampNeg) (xs (x4 + 2).toNatClampNeg) (xs (x4 + 3).toNatClampNeg) 148) (fun v126 M126 => gd (gO S 10 136) (b2 (f_X10_held S M126 136 (xs (x4 + 1).toNatClampNeg) (xs (x4 + 2).toNatClampNeg) (xs (x4 + 3).toNatClampNeg)) (fun v127 M127 => b1 (f_X10_thrown S M127 136) (fun v129 => if v129 = v126 then (if v126 = 0 then (gd (gA S 2 148 0) (if (lg_cmp ((M127 148 0)).toInt64 (v127).toInt64) = 0 then (lf_law S L xs n (x4 + 7) M127) else (some 0))) else (lf_law S L xs n (x4 + 7) M127)) else (some 0))))))))) else (if ((xs x4.toNatClampNeg) &&& 31) = 12 then (gd (gX L (x4 + 1)) (gd (gX L (x4 + 2)) (b2 (f_L_issues S M 0 (xs (x4 + 1).toNatClampNeg) (xs (x4 + 2).toNatClampNeg) 148) (fun v137 M137 => gd (gO S 10 136) (b2 (f_X10_issues S M137 136 (xs (x4 + 1).toNatClampNeg) (xs (x4 + 2).toNatClampNeg)) (fun v138 M138 => b1 (f_X10_thrown S M138 136) (fun v140 => if v140 = v137 then (if v137 = 0 then (gd (gA S 2 148 0) (if (lg_cmp ((M138 148 0)).toInt64 (v138).toInt64) = 0 then (lf_law S L xs n (x4 + 7) M138) else (some 0))) else (lf_law S L xs n (x4 + 7) M138)) else (some 0)))))))) else (if ((xs x4.toNatClampNeg) &&& 31) = 13 then (gd (gX L (x4 + 1)) (b2 (f_L_forced S M 0 (xs (x4 + 1).toNatClampNeg) 148) (fun v147 M147 => gd (gO S 10 136) (b2 (f_X10_forced S M147 136 (xs (x4 + 1).toNatClampNeg)) (fun v148 M148 => b1 (f_X10_thrown S M148 136) (fun v150 => if v150 = v147 then (if v147 = 0 then (gd (gA S 2 148 0) (if (lg_cmp ((M148 148 0)).toInt64 (v148).toInt64) = 0 then (lf_law S L xs n (x4 + 7) M148) else (some 0))) else (lf_law S L xs n (x4 + 7) M148)) else (some 0))))))) else (if ((xs x4.toNatClampNeg) &&& 31) = 14 then (gd (gX L (x4 + 1)) (b2 (f_L_say S M 0 (xs (x4 + 1).toNatClampNeg) 148) (fun v157 M157 => gd (gO S 10 136) (b2 (f_X10_say S M157 136 (xs (x4 + 1).toNatClampNeg)) (fun v158 M158 => b1 (f_X10_thrown S M158 136) (fun v160 => if v160 = v157 then (if v157 = 0 then (gd (gA S 2 148 0) (if (lg_cmp ((M158 148 0)).toInt64 (v158).toInt64) = 0 then (lf_law S L xs n (x4 + 7) M158) else (some 0))) else (lf_law S L xs n (x4 + 7) M158)) else (some 0))))))) else (if ((xs x4.toNatClampNeg) &&& 31) = 15 then (gd (gX L (x4 + 1)) (gd (gO S 9 0) (b1 (f_X9_said S M 0 (xs (x4 + 1).toNatClampNeg)) (fun v167 => gd (gO S 10 136) (b2 (f_X10_said S M 136 (xs (x4 + 1).toNatClampNeg)) (fun v169 M169 => if v167 = v169 then (lf_law S L xs n (x4 + 7) M169) else (some 0))))))) else (if ((xs x4.toNatClampNeg) &&& 31) = 16 then (gd (gX L (x4 + 1)) (b2 (f_L_latest S M 0 (xs (x4 + 1).toNatClampNeg) 148) (fun v174 M174 => gd (gO S 10 136) (b2 (f_X10_latest S M174 136 (xs (x4 + 1).toNatClampNeg)) (fun v175 M175 => b1 (f_X10_thrown S M175 136) (fun v177 => if v177 = v174 then (if v174 = 0 then (gd (gA S 2 148 0) (if (lg_cmp ((M175 148 0)).toInt64 (v175).toInt64) = 0 then (lf_law S L xs n (x4 + 7) M175) else (some 0))) else (lf_law S L xs n (x4 + 7) M175)) else (some 0))))))) else (if ((xs x4.toNatClampNeg) &&& 31) = 17 then (gd (gX L (x4 + 1)) (gd (gX L (x4 + 2)) (b2 (f_L_goes S M 0 (xs (x4 + 1).toNatClampNeg) (xs (x4 + 2).toNatClampNeg) 148) (fun v185 M185 => gd (gO S 10 136) (b2 (f_X10_goes S M185 136 (xs (x4 + 1).toNatClampNeg) (xs (x4 + 2).toNatClampNeg)) (fun v186 M186 => b1 (f_X10_thrown S M186 136) (fun v188 => if v188 = v185 then (if v185 = 0 then (gd (gA S 2 148 0) (if (lg_cmp ((M186 148 0)).toInt64 (v186).toInt64) = 0 then (lf_law S L xs n (x4 + 7) M186) else (some 0))) else (lf_law S L xs n (x4 + 7) M186)) else (some 0)))))))) else (if ((xs x4.toNatClampNeg) &&& 31) = 18 then (gd (gX L (x4 + 1)) (gd (gX L (x4 + 2)) (gd (gX L (x4 + 3)) (gd (gX L (x4 + 4)) (gd (gX L (x4 + 5)) (gd (gX L (x4 + 6)) (b2 (f_L_would S M 0 (xs (x4 + 1).toNatClampNeg) (xs (x4 + 2).toNatClampNeg) (xs (x4 + 3).toNatClampNeg) (xs (x4 + 4).toNatClampNeg) (xs (x4 + 5).toNatClampNeg) (xs (x4 + 6).toNatClampNeg) 148) (fun v200 M200 => gd (gO S 10 136) (b2 (f_X10_would S M200 136 (xs (x4 + 1).toNatClampNeg) (xs (x4 + 2).toNatClampNeg) (xs (x4 + 3).toNatClampNeg) (xs (x4 + 4).toNatClampNeg) (xs (x4 + 5).toNatClampNeg) (xs (x4 + 6).toNatClampNeg)) (fun v201 M201 => b1 (f_X10_thrown S M201 136) (fun v203 => if v203 = v200 then (if v200 = 0 then (gd (gA S 2 148 0) (if (lg_cmp ((M201 148 0)).toInt64 (v201).toInt64) = 0 then (lf_law S L xs n (x4 + 7) M201) else (some 0))) else (lf_law S L xs n (x4 + 7) M201)) else (some 0)))))))))))) else (if ((xs x4.toNatClampNeg) &&& 31) = 19 then (gd (gX L (x4 + 1)) (b2 (f_L_freeTill S M 0 (xs (x4 + 1).toNatClampNeg) 148) (fun v210 M210 => gd (gO S 10 136) (b2 (f_X10_freeTill S M210 136 (xs (x4 + 1).toNatClampNeg)) (fun v211 M211 => b1 (f_X10_thrown S M211 136) (fun v213 => if v213 = v210 then (if v210 = 0 then (gd (gA S 2 148 0) (if (lg_cmp ((M211 148 0)).toInt64 (v211).toInt64) = 0 then (lf_law S L xs n (x4 + 7) M211) else (some 0))) else (lf_law S L xs n (x4 + 7) M211)) else (some 0))))))) else (if ((xs x4.toNatClampNeg) &&& 31) = 20 then (gd (gX L (x4 + 1)) (b2 (f_L_against S M 0 (xs (x4 + 1).toNatClampNeg) 148) (fun v220 M220 => gd (gO S 10 136) (b2 (f_X10_against S M220 136 (xs (x4 + 1).toNatClampNeg)) (fun v221 M221 => b1 (f_X10_thrown S M221 136) (fun v223 => if v223 = v220 then (if v220 = 0 then (gd (gA S 2 148 0) (if (lg_cmp ((M221 148 0)).toInt64 (v221).toInt64) = 0 then (lf_law S L xs n (x4 + 7) M221) else (some 0))) else (lf_law S L xs n (x4 + 7) M221)) else (some 0))))))) else (if ((xs x4.toNatClampNeg) &&& 31) = 21 then (gd (gX L (x4 + 1)) (gd (gX L (x4 + 2)) (gd (gX L (x4 + 3)) (if (xs (x4 + 3).toNatClampNeg) = 0 then (b2 (f_L_judge S M 0 (xs (x4 + 1).toNatClampNeg) (xs (x4 + 2).toNatClampNeg) 0 148) (fun v233 M233 => if (xs (x4 + 3).toNatClampNeg) = 0 then (gd (gO S 10 136) (b2 (f_X10_judge S M233 136 (xs (x4 + 1).toNatClampNeg) (xs (x4 + 2).toNatClampNeg) 0) (fun v235 M235 => b1 (f_X10_thrown S M235 136) (fun v237 => if v237 = v233 then (if v233 = 0 then (gd (gA S 2 148 0) (if v235 = 0 then (if (lg_cmp ((M235 148 0)).toInt64 ((0 : Int32)).toInt64) = 0 then (lf_law S L xs n (x4 + 7) M235) else (some 0)) else (if (lg_cmp ((M235 148 0)).toInt64 ((1 : Int32)).toInt64) = 0 then (lf_law S L xs n (x4 + 7) M235) else (some 0)))) else (lf_law S L xs n (x4 + 7) M235)) else (some 0))))) else (gd (gO S 10 136) (b2 (f_X10_judge S M233 136 (xs (x4 + 1).toNatClampNeg) (xs (x4 + 2).toNatClampNeg) 1) (fun v244 M244 => b1 (f_X10_thrown S M244 136) (fun v246 => if v246 = v233 then (if v233 = 0 then (gd (gA S 2 148 0) (if v244 = 0 then (if (lg_cmp ((M244 148 0)).toInt64 ((0 : Int32)).toInt64) = 0 then (lf_law S L xs n (x4 + 7) M244) else (some 0)) else (if (lg_cmp ((M244 148 0)).toInt64 ((1 : Int32)).toInt64) = 0 then (lf_law S L xs n (x4 + 7) M244) else (some 0)))) else (lf_law S L xs n (x4 + 7) M244)) else (some 0))))))) else (b2 (f_L_judge S M 0 (xs (x4 + 1).toNatClampNeg) (xs (x4 + 2).toNatClampNeg) 1 148) (fun v253 M253 => if (xs (x4 + 3).toNatClampNeg) = 0 then (gd (gO S 10 136) (b2 (f_X10_judge S M253 136 (xs (x4 + 1).toNatClampNeg) (xs (x4 + 2).toNatClampNeg) 0) (fun v255 M255 => b1 (f_X10_thrown S M255 136) (fun v257 => if v257 = v253 then (if v253 = 0 then (gd (gA S 2 148 0) (if v255 = 0 then (if (lg_cmp ((M255 148 0)).toInt64 ((0 : Int32)).toInt64) = 0 then (lf_law S L xs n (x4 + 7) M255) else (some 0)) else (if (lg_cmp ((M255 148 0)).toInt64 ((1 : Int32)).toInt64) = 0 then (lf_law S L xs n (x4 + 7) M255) else (some 0)))) else (lf_law S L xs n (x4 + 7) M255)) else (some 0))))) else (gd (gO S 10 136) (b2 (f_X10_judge S M253 136 (xs (x4 + 1).toNatClampNeg) (xs (x4 + 2).toNatClampNeg) 1) (fun v264 M264 => b1 (f_X10_thrown S M264 136) (fun v266 => if v266 = v253 then (if v253 = 0 then (gd (gA S 2 148 0) (if v264 = 0 then (if (lg_cmp ((M264 148 0)).toInt64 ((0 : Int32)).toInt64) = 0 then (lf_law S L xs n (x4 + 7) M264) else (some 0)) else (if (lg_cmp ((M264 148 0)).toInt64 ((1 : Int32)).toInt64) = 0 then (lf_law S L xs n (x4 + 7) M264) else (some 0)))) else (lf_law S L xs n (x4 + 7) M264)) else (some 0))))))))))) else (if ((xs x4.toNatClampNeg) &&& 31) = 22 then (gd (gX L (x4 + 1)) (gd (gX L (x4 + 2)) (gd (gX L (x4 + 3)) (gd (gX L (x4 + 4)) (if (xs (x4 + 4).toNatClampNeg) = 0 then (b2 (f_L_find S M 0 (xs (x4 + 1).toNatClampNeg) (xs (x4 + 2).toNatClampNeg) (xs (x4 + 3).toNatClampNeg) 0 148) (fun v279 M279 => if (xs (x4 + 4).toNatClampNeg) = 0 then (gd (gO S 10 136) (b2 (f_X10_find S M279 136 (xs (x4 + 1).toNatClampNeg) (xs (x4 + 2).toNatClampNeg) (xs (x4 + 3).toNatClampNeg) 0) (fun v281 M281 => b1 (f_X10_thrown S M281 136) (fun v283 => if v283 = v279 then (if v279 = 0 then (gd (gA S 2 148 0) (if (lg_cmp ((M281 148 0)).toInt64 (v281).toInt64) = 0 then (lf_law S L xs n (x4 + 7) M281) else (some 0))) else (lf_law S L xs n (x4 + 7) M281)) else (some 0))))) else (gd (gO S 10 136) (b2 (f_X10_find S M279 136 (xs (x4 + 1).toNatClampNeg) (xs (x4 + 2).toNatClampNeg) (xs (x4 + 3).toNatClampNeg) 1) (fun v288 M288 => b1 (f_X10_thrown S M288 136) (fun v290 => if v290 = v279 then (if v279 = 0 then (gd (gA S 2 148 0) (if (lg_cmp ((M288 148 0)).toInt64 (v288).toInt64) = 0 then (lf_law S L xs n (x4 + 7) M288) else (some 0))) else (lf_law S L xs n (x4 + 7) M288)) else (some 0))))))) else (b2 (f_L_find S M 0 (xs (x4 + 1).toNatClampNeg) (xs (x4 + 2).toNatClampNeg) (xs (x4 + 3).toNatClampNeg) 1 148) (fun v295 M295 => if (xs (x4 + 4).toNatClampNeg) = 0 then (gd (gO S 10 136) (b2 (f_X10_find S M295 136 (xs (x4 + 1).toNatClampNeg) (xs (x4 + 2).toNatClampNeg) (xs (x4 + 3).toNatClampNeg) 0) (fun v297 M297 => b1 (f_X10_thrown S M297 136) (fun v299 => if v299 = v295 then (if v295 = 0 then (gd (gA S 2 148 0) (if (lg_cmp ((M297 148 0)).toInt64 (v297).toInt64) = 0 then (lf_law S L xs n (x4 + 7) M297) else (some 0))) else (lf_law S L xs n (x4 + 7) M297)) else (some 0))))) else (gd (gO S 10 136) (b2 (f_X10_find S M295 136 (xs (x4 + 1).toNatClampNeg) (xs (x4 + 2).toNatClampNeg) (xs (x4 + 3).toNatClampNeg) 1) (fun v304 M304 => b1 (f_X10_thrown S M304 136) (fun v306 => if v306 = v295 then (if v295 = 0 then (gd (gA S 2 148 0) (if (lg_cmp ((M304 148 0)).toInt64 (v304).toInt64) = 0 then (lf_law S L xs n (x4 + 7) M304) else (some 0))) else (lf_law S L xs n (x4 + 7) M304)) else (some 0)))))))))))) else (if ((xs x4.toNatClampNeg) &&& 31) = 23 then (gd (gX L (x4 + 1)) (b2 (f_L_reverse S M 0 (xs (x4 + 1).toNatClampNeg) 148) (fun v313 M313 => gd (gO S 10 136) (b2 (f_X10_reverse S M313 136 (xs (x4 + 1).toNatClampNeg)) (fun v314 M314 => b1 (f_X10_thrown S M314 136) (fun v316 => if v316 = v313 then (if v313 = 0 then (gd (gA S 2 148 0) (if v314 = 0 then (if (lg_cmp ((M314 148 0)).toInt64 ((0 : Int32)).toInt64) = 0 then (lf_law S L xs n (x4 + 7) M314) else (some 0)) else (if (lg_cmp ((M314 148 0)).toInt64 ((1 : Int32)).toInt64) = 0 then (lf_law S L xs n (x4 + 7) M314) else (some 0)))) else (lf_law S L xs n (x4 + 7) M314)) else (some 0))))))) else (if ((xs x4.toNatClampNeg) &&& 31) = 24 then (gd (gX L (x4 + 1)) (gd (gX L (x4 + 2)) (gd (gX L (x4 + 3)) (gd (gX L (x4 + 4)) (b2 (f_L_tie S M 0 (xs (x4 + 1).toNatClampNeg) (xs (x4 + 2).toNatClampNeg) (xs (x4 + 3).toNatClampNeg) (xs (x4 + 4).toNatClampNeg) 148) (fun v328 M328 => gd (gO S 10 136) (b2 (f_X10_tie S M328 136 (xs (x4 + 1).toNatClampNeg) (xs (x4 + 2).toNatClampNeg) (xs (x4 + 3).toNatClampNeg) (xs (x4 + 4).toNatClampNeg)) (fun v329 M329 => b1 (f_X10_thrown S M329 136) (fun v331 => if v331 = v328 then (if v328 = 0 then (gd (gA S 2 148 0) (if (lg_cmp ((M329 148 0)).toInt64 (v329).toInt64) = 0 then (lf_law S L xs n (x4 + 7) M329) else (some 0))) else (lf_law S L xs n (x4 + 7) M329)) else (some 0)))))))))) else (if ((xs x4.toNatClampNeg) &&& 31) = 25 then (gd (gX L (x4 + 1)) (b2 (f_L_cut S M 0 (xs (x4 + 1).toNatClampNeg) 148) (fun v338 M338 => gd (gO S 10 136) (b2 (f_X10_cut S M338 136 (xs (x4 + 1).toNatClampNeg)) (fun v339 M339 => b1 (f_X10_thrown S M339 136) (fun v341 => if v341 = v338 then (if v338 = 0 then (gd (gA S 2 148 0) (if (lg_cmp ((M339 148 0)).toInt64 (v339).toInt64) = 0 then (lf_law S L xs n (x4 + 7) M339) else (some 0))) else (lf_law S L xs n (x4 + 7) M339)) else (some 0))))))) else (if ((xs x4.toNatClampNeg) &&& 31) = 26 then (gd (gX L (x4 + 1)) (gd (gX L (x4 + 2)) (b2 (f_L_rule S M 0 (xs (x4 + 1).toNatClampNeg) (xs (x4 + 2).toNatClampNeg) 148) (fun v349 M349 => gd (gO S 10 136) (b2 (f_X10_rule S M349 136 (xs (x4 + 1).toNatClampNeg) (xs (x4 + 2).toNatClampNeg)) (fun v350 M350 => b1 (f_X10_thrown S M350 136) (fun v352 => if v352 = v349 then (if v349 = 0 then (gd (gA S 2 148 0) (if (lg_cmp ((M350 148 0)).toInt64 (v350).toInt64) = 0 then (lf_law S L xs n (x4 + 7) M350) else (some 0))) else (lf_law S L xs n (x4 + 7) M350)) else (some 0)))))))) else (if ((xs x4.toNatClampNeg) &&& 31) = 27 then (gd (gO S 9 0) (b2 (f_X9_undo S M 0) (fun v358 M358 => gd (gO S 10 136) (b2 (f_X10_undo S M358 136) (fun v360 M360 => if v358 = v360 then (lf_law S L xs n (x4 + 7) M360) else (some 0)))))) else (if ((xs x4.toNatClampNeg) &&& 31) = 28 then (gd (gX L (x4 + 1)) (b2 (f_L_ask S M 0 (xs (x4 + 1).toNatClampNeg) 148) (fun v365 M365 => gd (gO S 10 136) (b2 (f_X10_ask S M365 136 (xs (x4 + 1).toNatClampNeg)) (fun v366 M366 => b1 (f_X10_thrown S M366 136) (fun v368 => if v368 = v365 then (if v365 = 0 then (gd (gA S 2 148 0) (if (lg_cmp ((M366 148 0)).toInt64 (v366).toInt64) = 0 then (lf_law S L xs n (x4 + 7) M366) else (some 0))) else (lf_law S L xs n (x4 + 7) M366)) else (some 0))))))) else (if ((xs x4.toNatClampNeg) &&& 31) = 29 then (gd (gO S 9 0) (b1 (f_X9_image S M 0) (fun M374 => gd (gO S 10 136) (b1 (f_X10_image S M374 136) (fun M376 => lf_law S L xs n (x4 + 7) M376))))) else (if ((xs x4.toNatClampNeg) &&& 31) = 30 then (gd (gO S 9 0) (b2 (f_X9_back S M 0) (fun v379 M379 => gd (gO S 10 136) (b2 (f_X10_back S M379 136) (fun v381 M381 => if v379 = v381 then (lf_law S L xs n (x4 + 7) M381) else (some 0)))))) else (lf_law S L xs n (x4 + 7) M)))))))))))))))))))))))))))))))))
set_option maxHeartbeats 40000000 in
set_option maxRecDepth 100000 in
theorem law_loop {G : fw_G} {p : Program} {l : Launch} {e : Env} {s : State} {m : MethodId} {args : Array Value} {below : List Frame} {meth : Method} {c : Code} {Q : State → Prop} {S : List fw_Sh} (C : fw_C G RL cL_law 7 p s m args c) (hl : l.stackTraces = false)
    (kx : ∀ (x4 : Int32) (M : fw_Mem), fw_W G p l e room_1 s m args below meth c 7 Q (149 + 20001) (8268 + 6 * 20001) 2125 [(0, .ref 1000000), (1, .ref 0), (2, .ref 136), (3, .ref 148), (4, .int x4)] [] S M) :
    ∀ (n j : Nat) (x4 : Int32) (M : fw_Mem), j + n ≤ 20000 → lf_law S (fw_L G) (fw_xs G) n x4 M = some 1 → fw_W G p l e room_1 s m args below meth c 7 Q (149 + j) (8268 + 6 * j) 23 [(0, .ref 1000000), (1, .ref 0), (2, .ref 136), (3, .ref 148), (4, .int x4)] [] S M := by
  intro n
  induction n with
  | zero =>
    intro j x4 M hj h
    exact nomatch (show (none : Option Int32) = some 1 from h)
  | succ n ih =>
    intro j x4 M hj h
    rw [lf_law.eq_2] at h
    refine fw_iload C 4 dL_law_23 rfl ?_
    refine fw_aload_n C 0 dL_law_25 rfl rfl ?_
    refine fw_slen C dL_law_26 ?_
    refine fw_bipush C 7 dL_law_27 rfl ?_
    refine fw_isub C dL_law_29 ?_
    refine fw_icmp_gt C 2125 dL_law_30 (by decide) (fun c1 => ?_) (fun c1 => ?_)
    · replace h := (if_pos c1).symm.trans h
      refine fw_sub [0, 1, 2, 3, 4] rfl ?_
      refine fw_widen (k := 149 + 20001) (n := 8268 + 6 * 20001) (by show 149 + j ≤ _; omega) (by show 8268 + 6 * j ≤ _; omega) ?_
      exact kx _ _
    · replace h := (if_neg c1).symm.trans h
      refine fw_aload_n C 0 dL_law_33 rfl rfl ?_
      refine fw_iload C 4 dL_law_34 rfl ?_
      obtain ⟨g2, h⟩ := gd_some h
      refine fw_sld C (gX_of g2) dL_law_36 ?_
      refine fw_bipush C 31 dL_law_37 rfl ?_
      refine fw_iand C dL_law_39 ?_
      by_cases c3 : ((fw_xs G x4.toNatClampNeg) &&& 31) = 0
      · replace h := (if_pos c3).symm.trans h
        refine fw_tableIn C 0 180 dL_law_40 c3 (by decide) (by decide) rfl (by decide) ?_
        refine fw_aload_n C 1 dL_law_180 rfl rfl ?_
        refine fw_aload_n C 0 dL_law_181 rfl rfl ?_
        refine fw_iload C 4 dL_law_182 rfl ?_
        refine fw_iconst C 1 dL_law_184 rfl ?_
        refine fw_iadd C dL_law_185 ?_
        obtain ⟨g4, h⟩ := gd_some h
        refine fw_sld C (gX_of g4) dL_law_186 ?_
        refine fw_aload_n C 0 dL_law_187 rfl rfl ?_
        refine fw_iload C 4 dL_law_188 rfl ?_
        refine fw_iconst C 2 dL_law_190 rfl ?_
        refine fw_iadd C dL_law_191 ?_
        obtain ⟨g5, h⟩ := gd_some h
        refine fw_sld C (gX_of g5) dL_law_192 ?_
        refine fw_aload_n C 0 dL_law_193 rfl rfl ?_
        refine fw_iload C 4 dL_law_194 rfl ?_
        refine fw_iconst C 3 dL_law_196 rfl ?_
        refine fw_iadd C dL_law_197 ?_
        obtain ⟨g6, h⟩ := gd_some h
        refine fw_sld C (gX_of g6) dL_law_198 ?_
        refine fw_aload_n C 0 dL_law_199 rfl rfl ?_
        refine fw_iload C 4 dL_law_200 rfl ?_
        refine fw_iconst C 4 dL_law_202 rfl ?_
        refine fw_iadd C dL_law_203 ?_
        obtain ⟨g7, h⟩ := gd_some h
        refine fw_sld C (gX_of g7) dL_law_204 ?_
        refine fw_aload_n C 0 dL_law_205 rfl rfl ?_
        refine fw_iload C 4 dL_law_206 rfl ?_
        refine fw_iconst C 5 dL_law_208 rfl ?_
        refine fw_iadd C dL_law_209 ?_
        obtain ⟨g8, h⟩ := gd_some h
        refine fw_sld C (gX_of g8) dL_law_210 ?_
        obtain ⟨g10, h⟩ := gd_some h
        obtain ⟨v9, M9, e9, h⟩ := b2_some h
        refine fw_callVL (ci := 9) [_, _, _, _, _] C (c_X9_feed hl e9) cal_X9_feed wm_L_101 wi_yX9_feed wsl_yX9_feed (Nat.le_of_ble_eq_true rfl) rfl (gO_of g10) rfl (Nat.le_of_ble_eq_true rfl) ⟨Nat.le_of_ble_eq_true rfl, Nat.le_of_ble_eq_true rfl⟩ ⟨by show 149 + j ≤ 601024; omega, by show 8268 + 6 * j ≤ 7293034; omega⟩ dL_law_211 ?_
        refine fw_aload_n C 2 dL_law_214 rfl rfl ?_
        refine fw_aload_n C 0 dL_law_215 rfl rfl ?_
        refine fw_iload C 4 dL_law_216 rfl ?_
        refine fw_iconst C 1 dL_law_218 rfl ?_
        refine fw_iadd C dL_law_219 ?_
        refine fw_sld C (gX_of g4) dL_law_220 ?_
        refine fw_aload_n C 0 dL_law_221 rfl rfl ?_
        refine fw_iload C 4 dL_law_222 rfl ?_
        refine fw_iconst C 2 dL_law_224 rfl ?_
        refine fw_iadd C dL_law_225 ?_
        refine fw_sld C (gX_of g5) dL_law_226 ?_
        refine fw_aload_n C 0 dL_law_227 rfl rfl ?_
        refine fw_iload C 4 dL_law_228 rfl ?_
        refine fw_iconst C 3 dL_law_230 rfl ?_
        refine fw_iadd C dL_law_231 ?_
        refine fw_sld C (gX_of g6) dL_law_232 ?_
        refine fw_aload_n C 0 dL_law_233 rfl rfl ?_
        refine fw_iload C 4 dL_law_234 rfl ?_
        refine fw_iconst C 4 dL_law_236 rfl ?_
        refine fw_iadd C dL_law_237 ?_
        refine fw_sld C (gX_of g7) dL_law_238 ?_
        refine fw_aload_n C 0 dL_law_239 rfl rfl ?_
        refine fw_iload C 4 dL_law_240 rfl ?_
        refine fw_iconst C 5 dL_law_242 rfl ?_
        refine fw_iadd C dL_law_243 ?_
        refine fw_sld C (gX_of g8) dL_law_244 ?_
        obtain ⟨g12, h⟩ := gd_some h
        obtain ⟨v11, M11, e11, h⟩ := b2_some h
        refine fw_callVL (ci := 10) [_, _, _, _, _] C (c_X10_feed hl e11) cal_X10_feed wm_L_105 wi_yX10_feed wsl_yX10_feed (Nat.le_of_ble_eq_true rfl) rfl (gO_of g12) rfl (Nat.le_of_ble_eq_true rfl) ⟨Nat.le_of_ble_eq_true rfl, Nat.le_of_ble_eq_true rfl⟩ ⟨by show 149 + j ≤ 601024; omega, by show 8268 + 6 * j ≤ 7293034; omega⟩ dL_law_245 ?_
        refine fw_icmp_eq C 2119 dL_law_248 (by decide) (fun c13 => ?_) (fun c13 => ?_)
        · replace h := (if_pos c13).symm.trans h
          refine fw_iinc C _ 4 [(4, _), (0, _), (1, _), (2, _), (3, _)] dL_law_2119 rfl rfl (Nat.le_of_ble_eq_true rfl) rfl ?_
          refine fw_goto C 23 dL_law_2122 (by decide) ?_
          refine fw_sub [1, 2, 3, 4, 0] rfl ?_
          refine fw_widen (k := 149 + (j + 1)) (n := 8268 + 6 * (j + 1)) (by show 149 + j ≤ _; omega) (by show 8268 + 6 * j ≤ _; omega) ?_
          exact ih (j + 1) _ _ (by omega) h
        · replace h := (if_neg c13).symm.trans h
          refine fw_iconst C 0 dL_law_251 rfl ?_
          exact absurd h (by decide)
      replace h := (if_neg c3).symm.trans h
      by_cases c14 : ((fw_xs G x4.toNatClampNeg) &&& 31) = 1
      · replace h := (if_pos c14).symm.trans h
        refine fw_tableIn C 1 253 dL_law_40 c14 (by decide) (by decide) rfl (by decide) ?_
        refine fw_aload_n C 1 dL_law_253 rfl rfl ?_
        refine fw_aload_n C 0 dL_law_254 rfl rfl ?_
        refine fw_iload C 4 dL_law_255 rfl ?_
        refine fw_iconst C 1 dL_law_257 rfl ?_
        refine fw_iadd C dL_law_258 ?_
        obtain ⟨g15, h⟩ := gd_some h
        refine fw_sld C (gX_of g15) dL_law_259 ?_
        refine fw_aload_n C 3 dL_law_260 rfl rfl ?_
        obtain ⟨v16, M16, e16, h⟩ := b2_some h
        refine fw_callW [_, _, _] C (c_L_desk hl e16) cal_L_desk wm_L_106 wt_yL_desk rfl (Nat.le_of_ble_eq_true rfl) ⟨Nat.le_of_ble_eq_true rfl, Nat.le_of_ble_eq_true rfl⟩ ⟨by show 149 + j + 1 ≤ 601024; omega, by show 8268 + 6 * j + 6 ≤ 7293034; omega⟩ dL_law_261 ?_
        refine fw_istore C [(5, _), (0, _), (1, _), (2, _), (3, _), (4, _)] dL_law_264 (Nat.le_of_ble_eq_true rfl) rfl ?_
        refine fw_aload_n C 3 dL_law_266 rfl rfl ?_
        refine fw_aload_n C 1 dL_law_267 rfl rfl ?_
        refine fw_iload C 5 dL_law_268 rfl ?_
        refine fw_iconst C 1 dL_law_270 rfl ?_
        refine fw_iadd C dL_law_271 ?_
        refine fw_sld C (gX_of g15) dL_law_272 ?_
        obtain ⟨g18, h⟩ := gd_some h
        obtain ⟨v17, M17, e17, h⟩ := b2_some h
        refine fw_callVL (ci := 10) [_] C (c_X10_desk hl e17) cal_X10_desk wm_L_111 wi_yX10_desk wsl_yX10_desk (Nat.le_of_ble_eq_true rfl) rfl (gO_of g18) rfl (Nat.le_of_ble_eq_true rfl) ⟨Nat.le_of_ble_eq_true rfl, Nat.le_of_ble_eq_true rfl⟩ ⟨by show 149 + j + 1 ≤ 601024; omega, by show 8268 + 6 * j + 6 ≤ 7293034; omega⟩ dL_law_273 ?_
        refine fw_istore C [(6, _), (5, _), (0, _), (1, _), (2, _), (3, _), (4, _)] dL_law_276 (Nat.le_of_ble_eq_true rfl) rfl ?_
        refine fw_aload_n C 4 dL_law_278 rfl rfl ?_
        obtain ⟨v19, e19, h⟩ := b1_some h
        refine fw_callVL (ci := 10) [] C (c_X10_thrown hl e19) cal_X10_thrown wm_L_112 wi_yX10_thrown wsl_yX10_thrown (Nat.le_of_ble_eq_true rfl) rfl (gO_of g18) rfl (Nat.le_of_ble_eq_true rfl) ⟨Nat.le_of_ble_eq_true rfl, Nat.le_of_ble_eq_true rfl⟩ ⟨by show 149 + j + 1 ≤ 601024; omega, by show 8268 + 6 * j + 6 ≤ 7293034; omega⟩ dL_law_279 ?_
        refine fw_iload C 1 dL_law_282 rfl ?_
        refine fw_icmp_eq C 289 dL_law_284 (by decide) (fun c20 => ?_) (fun c20 => ?_)
        · replace h := (if_pos c20).symm.trans h
          refine fw_iload C 1 dL_law_289 rfl ?_
          refine fw_if_ne C 306 dL_law_291 (by decide) (fun c21 => ?_) (fun c21 => ?_)
          · replace h := (if_neg c21).symm.trans h
            refine fw_goto C 2119 dL_law_306 (by decide) ?_
            refine fw_iinc C _ 6 [(4, _), (6, _), (5, _), (0, _), (1, _), (2, _), (3, _)] dL_law_2119 rfl rfl (Nat.le_of_ble_eq_true rfl) rfl ?_
            refine fw_goto C 23 dL_law_2122 (by decide) ?_
            refine fw_sub [3, 4, 5, 6, 0] rfl ?_
            refine fw_widen (k := 149 + (j + 1)) (n := 8268 + 6 * (j + 1)) (by show 149 + j + 1 ≤ _; omega) (by show 8268 + 6 * j + 6 ≤ _; omega) ?_
            exact ih (j + 1) _ _ (by omega) h
          · replace h := (if_pos c21).symm.trans h
            refine fw_aload_n C 5 dL_law_294 rfl rfl ?_
            refine fw_iconst C 0 dL_law_295 rfl ?_
            obtain ⟨g22, h⟩ := gd_some h
            refine fw_lald C (gA_of g22) dL_law_296 ?_
            refine fw_iload C 0 dL_law_297 rfl ?_
            refine fw_i2l C dL_law_299 ?_
            refine fw_lcmp C dL_law_300 ?_
            refine fw_if_eq C 306 dL_law_301 (by decide) (fun c23 => ?_) (fun c23 => ?_)
            · replace h := (if_pos c23).symm.trans h
              refine fw_goto C 2119 dL_law_306 (by decide) ?_
              refine fw_iinc C _ 6 [(4, _), (6, _), (5, _), (0, _), (1, _), (2, _), (3, _)] dL_law_2119 rfl rfl (Nat.le_of_ble_eq_true rfl) rfl ?_
              refine fw_goto C 23 dL_law_2122 (by decide) ?_
              refine fw_sub [3, 4, 5, 6, 0] rfl ?_
              refine fw_widen (k := 149 + (j + 1)) (n := 8268 + 6 * (j + 1)) (by show 149 + j + 1 ≤ _; omega) (by show 8268 + 6 * j + 6 ≤ _; omega) ?_
              exact ih (j + 1) _ _ (by omega) h
            · replace h := (if_neg c23).symm.trans h
              refine fw_iconst C 0 dL_law_304 rfl ?_
              exact absurd h (by decide)
        · replace h := (if_neg c20).symm.trans h
          refine fw_iconst C 0 dL_law_287 rfl ?_
          exact absurd h (by decide)
      replace h := (if_neg c14).symm.trans h
      by_cases c24 : ((fw_xs G x4.toNatClampNeg) &&& 31) = 2
      · replace h := (if_pos c24).symm.trans h
        refine fw_tableIn C 2 309 dL_law_40 c24 (by decide) (by decide) rfl (by decide) ?_
        refine fw_aload_n C 1 dL_law_309 rfl rfl ?_
        obtain ⟨g26, h⟩ := gd_some h
        obtain ⟨v25, e25, h⟩ := b1_some h
        refine fw_callVL (ci := 9) [] C (c_X9_fault hl e25) cal_X9_fault wm_L_116 wi_yX9_fault wsl_yX9_fault (Nat.le_of_ble_eq_true rfl) rfl (gO_of g26) rfl (Nat.le_of_ble_eq_true rfl) ⟨Nat.le_of_ble_eq_true rfl, Nat.le_of_ble_eq_true rfl⟩ ⟨by show 149 + j ≤ 601024; omega, by show 8268 + 6 * j ≤ 7293034; omega⟩ dL_law_310 ?_
        refine fw_aload_n C 2 dL_law_313 rfl rfl ?_
        obtain ⟨g28, h⟩ := gd_some h
        obtain ⟨v27, M27, e27, h⟩ := b2_some h
        refine fw_callVL (ci := 10) [] C (c_X10_fault hl e27) cal_X10_fault wm_L_119 wi_yX10_fault wsl_yX10_fault (Nat.le_of_ble_eq_true rfl) rfl (gO_of g28) rfl (Nat.le_of_ble_eq_true rfl) ⟨Nat.le_of_ble_eq_true rfl, Nat.le_of_ble_eq_true rfl⟩ ⟨by show 149 + j ≤ 601024; omega, by show 8268 + 6 * j ≤ 7293034; omega⟩ dL_law_314 ?_
        refine fw_icmp_eq C 2119 dL_law_317 (by decide) (fun c29 => ?_) (fun c29 => ?_)
        · replace h := (if_pos c29).symm.trans h
          refine fw_iinc C _ 4 [(4, _), (0, _), (1, _), (2, _), (3, _)] dL_law_2119 rfl rfl (Nat.le_of_ble_eq_true rfl) rfl ?_
          refine fw_goto C 23 dL_law_2122 (by decide) ?_
          refine fw_sub [1, 2, 3, 4, 0] rfl ?_
          refine fw_widen (k := 149 + (j + 1)) (n := 8268 + 6 * (j + 1)) (by show 149 + j ≤ _; omega) (by show 8268 + 6 * j ≤ _; omega) ?_
          exact ih (j + 1) _ _ (by omega) h
        · replace h := (if_neg c29).symm.trans h
          refine fw_iconst C 0 dL_law_320 rfl ?_
          exact absurd h (by decide)
      replace h := (if_neg c24).symm.trans h
      by_cases c30 : ((fw_xs G x4.toNatClampNeg) &&& 31) = 3
      · replace h := (if_pos c30).symm.trans h
        refine fw_tableIn C 3 322 dL_law_40 c30 (by decide) (by decide) rfl (by decide) ?_
        refine fw_aload_n C 1 dL_law_322 rfl rfl ?_
        refine fw_aload_n C 0 dL_law_323 rfl rfl ?_
        refine fw_iload C 4 dL_law_324 rfl ?_
        refine fw_iconst C 1 dL_law_326 rfl ?_
        refine fw_iadd C dL_law_327 ?_
        obtain ⟨g31, h⟩ := gd_some h
        refine fw_sld C (gX_of g31) dL_law_328 ?_
        refine fw_aload_n C 3 dL_law_329 rfl rfl ?_
        obtain ⟨v32, M32, e32, h⟩ := b2_some h
        refine fw_callW [_, _, _] C (c_L_count hl e32) cal_L_count wm_L_120 wt_yL_count rfl (Nat.le_of_ble_eq_true rfl) ⟨Nat.le_of_ble_eq_true rfl, Nat.le_of_ble_eq_true rfl⟩ ⟨by show 149 + j + 1 ≤ 601024; omega, by show 8268 + 6 * j + 6 ≤ 7293034; omega⟩ dL_law_330 ?_
        refine fw_istore C [(5, _), (0, _), (1, _), (2, _), (3, _), (4, _)] dL_law_333 (Nat.le_of_ble_eq_true rfl) rfl ?_
        refine fw_aload_n C 3 dL_law_335 rfl rfl ?_
        refine fw_aload_n C 1 dL_law_336 rfl rfl ?_
        refine fw_iload C 5 dL_law_337 rfl ?_
        refine fw_iconst C 1 dL_law_339 rfl ?_
        refine fw_iadd C dL_law_340 ?_
        refine fw_sld C (gX_of g31) dL_law_341 ?_
        obtain ⟨g34, h⟩ := gd_some h
        obtain ⟨v33, M33, e33, h⟩ := b2_some h
        refine fw_callVL (ci := 10) [_] C (c_X10_count hl e33) cal_X10_count wm_L_122 wi_yX10_count wsl_yX10_count (Nat.le_of_ble_eq_true rfl) rfl (gO_of g34) rfl (Nat.le_of_ble_eq_true rfl) ⟨Nat.le_of_ble_eq_true rfl, Nat.le_of_ble_eq_true rfl⟩ ⟨by show 149 + j + 1 ≤ 601024; omega, by show 8268 + 6 * j + 6 ≤ 7293034; omega⟩ dL_law_342 ?_
        refine fw_istore C [(6, _), (5, _), (0, _), (1, _), (2, _), (3, _), (4, _)] dL_law_345 (Nat.le_of_ble_eq_true rfl) rfl ?_
        refine fw_aload_n C 4 dL_law_347 rfl rfl ?_
        obtain ⟨v35, e35, h⟩ := b1_some h
        refine fw_callVL (ci := 10) [] C (c_X10_thrown hl e35) cal_X10_thrown wm_L_112 wi_yX10_thrown wsl_yX10_thrown (Nat.le_of_ble_eq_true rfl) rfl (gO_of g34) rfl (Nat.le_of_ble_eq_true rfl) ⟨Nat.le_of_ble_eq_true rfl, Nat.le_of_ble_eq_true rfl⟩ ⟨by show 149 + j + 1 ≤ 601024; omega, by show 8268 + 6 * j + 6 ≤ 7293034; omega⟩ dL_law_348 ?_
        refine fw_iload C 1 dL_law_351 rfl ?_
        refine fw_icmp_eq C 358 dL_law_353 (by decide) (fun c36 => ?_) (fun c36 => ?_)
        · replace h := (if_pos c36).symm.trans h
          refine fw_iload C 1 dL_law_358 rfl ?_
          refine fw_if_ne C 375 dL_law_360 (by decide) (fun c37 => ?_) (fun c37 => ?_)
          · replace h := (if_neg c37).symm.trans h
            refine fw_goto C 2119 dL_law_375 (by decide) ?_
            refine fw_iinc C _ 6 [(4, _), (6, _), (5, _), (0, _), (1, _), (2, _), (3, _)] dL_law_2119 rfl rfl (Nat.le_of_ble_eq_true rfl) rfl ?_
            refine fw_goto C 23 dL_law_2122 (by decide) ?_
            refine fw_sub [3, 4, 5, 6, 0] rfl ?_
            refine fw_widen (k := 149 + (j + 1)) (n := 8268 + 6 * (j + 1)) (by show 149 + j + 1 ≤ _; omega) (by show 8268 + 6 * j + 6 ≤ _; omega) ?_
            exact ih (j + 1) _ _ (by omega) h
          · replace h := (if_pos c37).symm.trans h
            refine fw_aload_n C 5 dL_law_363 rfl rfl ?_
            refine fw_iconst C 0 dL_law_364 rfl ?_
            obtain ⟨g38, h⟩ := gd_some h
            refine fw_lald C (gA_of g38) dL_law_365 ?_
            refine fw_iload C 0 dL_law_366 rfl ?_
            refine fw_i2l C dL_law_368 ?_
            refine fw_lcmp C dL_law_369 ?_
            refine fw_if_eq C 375 dL_law_370 (by decide) (fun c39 => ?_) (fun c39 => ?_)
            · replace h := (if_pos c39).symm.trans h
              refine fw_goto C 2119 dL_law_375 (by decide) ?_
              refine fw_iinc C _ 6 [(4, _), (6, _), (5, _), (0, _), (1, _), (2, _), (3, _)] dL_law_2119 rfl rfl (Nat.le_of_ble_eq_true rfl) rfl ?_
              refine fw_goto C 23 dL_law_2122 (by decide) ?_
              refine fw_sub [3, 4, 5, 6, 0] rfl ?_
              refine fw_widen (k := 149 + (j + 1)) (n := 8268 + 6 * (j + 1)) (by show 149 + j + 1 ≤ _; omega) (by show 8268 + 6 * j + 6 ≤ _; omega) ?_
              exact ih (j + 1) _ _ (by omega) h
            · replace h := (if_neg c39).symm.trans h
              refine fw_iconst C 0 dL_law_373 rfl ?_
              exact absurd h (by decide)
        · replace h := (if_neg c36).symm.trans h
          refine fw_iconst C 0 dL_law_356 rfl ?_
          exact absurd h (by decide)
      replace h := (if_neg c30).symm.trans h
      by_cases c40 : ((fw_xs G x4.toNatClampNeg) &&& 31) = 4
      · replace h := (if_pos c40).symm.trans h
        refine fw_tableIn C 4 378 dL_law_40 c40 (by decide) (by decide) rfl (by decide) ?_
        refine fw_aload_n C 1 dL_law_378 rfl rfl ?_
        refine fw_aload_n C 0 dL_law_379 rfl rfl ?_
        refine fw_iload C 4 dL_law_380 rfl ?_
        refine fw_iconst C 1 dL_law_382 rfl ?_
        refine fw_iadd C dL_law_383 ?_
        obtain ⟨g41, h⟩ := gd_some h
        refine fw_sld C (gX_of g41) dL_law_384 ?_
        refine fw_aload_n C 0 dL_law_385 rfl rfl ?_
        refine fw_iload C 4 dL_law_386 rfl ?_
        refine fw_iconst C 2 dL_law_388 rfl ?_
        refine fw_iadd C dL_law_389 ?_
        obtain ⟨g42, h⟩ := gd_some h
        refine fw_sld C (gX_of g42) dL_law_390 ?_
        refine fw_aload_n C 3 dL_law_391 rfl rfl ?_
        obtain ⟨v43, M43, e43, h⟩ := b2_some h
        refine fw_callW [_, _, _, _] C (c_L_letter hl e43) cal_L_letter wm_L_123 wt_yL_letter rfl (Nat.le_of_ble_eq_true rfl) ⟨Nat.le_of_ble_eq_true rfl, Nat.le_of_ble_eq_true rfl⟩ ⟨by show 149 + j + 1 ≤ 601024; omega, by show 8268 + 6 * j + 6 ≤ 7293034; omega⟩ dL_law_392 ?_
        refine fw_istore C [(5, _), (0, _), (1, _), (2, _), (3, _), (4, _)] dL_law_395 (Nat.le_of_ble_eq_true rfl) rfl ?_
        refine fw_aload_n C 3 dL_law_397 rfl rfl ?_
        refine fw_aload_n C 1 dL_law_398 rfl rfl ?_
        refine fw_iload C 5 dL_law_399 rfl ?_
        refine fw_iconst C 1 dL_law_401 rfl ?_
        refine fw_iadd C dL_law_402 ?_
        refine fw_sld C (gX_of g41) dL_law_403 ?_
        refine fw_aload_n C 1 dL_law_404 rfl rfl ?_
        refine fw_iload C 5 dL_law_405 rfl ?_
        refine fw_iconst C 2 dL_law_407 rfl ?_
        refine fw_iadd C dL_law_408 ?_
        refine fw_sld C (gX_of g42) dL_law_409 ?_
        obtain ⟨g45, h⟩ := gd_some h
        obtain ⟨v44, M44, e44, h⟩ := b2_some h
        refine fw_callVL (ci := 10) [_, _] C (c_X10_letter hl e44) cal_X10_letter wm_L_126 wi_yX10_letter wsl_yX10_letter (Nat.le_of_ble_eq_true rfl) rfl (gO_of g45) rfl (Nat.le_of_ble_eq_true rfl) ⟨Nat.le_of_ble_eq_true rfl, Nat.le_of_ble_eq_true rfl⟩ ⟨by show 149 + j + 1 ≤ 601024; omega, by show 8268 + 6 * j + 6 ≤ 7293034; omega⟩ dL_law_410 ?_
        refine fw_istore C [(6, _), (5, _), (0, _), (1, _), (2, _), (3, _), (4, _)] dL_law_413 (Nat.le_of_ble_eq_true rfl) rfl ?_
        refine fw_aload_n C 4 dL_law_415 rfl rfl ?_
        obtain ⟨v46, e46, h⟩ := b1_some h
        refine fw_callVL (ci := 10) [] C (c_X10_thrown hl e46) cal_X10_thrown wm_L_112 wi_yX10_thrown wsl_yX10_thrown (Nat.le_of_ble_eq_true rfl) rfl (gO_of g45) rfl (Nat.le_of_ble_eq_true rfl) ⟨Nat.le_of_ble_eq_true rfl, Nat.le_of_ble_eq_true rfl⟩ ⟨by show 149 + j + 1 ≤ 601024; omega, by show 8268 + 6 * j + 6 ≤ 7293034; omega⟩ dL_law_416 ?_
        refine fw_iload C 1 dL_law_419 rfl ?_
        refine fw_icmp_eq C 426 dL_law_421 (by decide) (fun c47 => ?_) (fun c47 => ?_)
        · replace h := (if_pos c47).symm.trans h
          refine fw_iload C 1 dL_law_426 rfl ?_
          refine fw_if_ne C 443 dL_law_428 (by decide) (fun c48 => ?_) (fun c48 => ?_)
          · replace h := (if_neg c48).symm.trans h
            refine fw_goto C 2119 dL_law_443 (by decide) ?_
            refine fw_iinc C _ 6 [(4, _), (6, _), (5, _), (0, _), (1, _), (2, _), (3, _)] dL_law_2119 rfl rfl (Nat.le_of_ble_eq_true rfl) rfl ?_
            refine fw_goto C 23 dL_law_2122 (by decide) ?_
            refine fw_sub [3, 4, 5, 6, 0] rfl ?_
            refine fw_widen (k := 149 + (j + 1)) (n := 8268 + 6 * (j + 1)) (by show 149 + j + 1 ≤ _; omega) (by show 8268 + 6 * j + 6 ≤ _; omega) ?_
            exact ih (j + 1) _ _ (by omega) h
          · replace h := (if_pos c48).symm.trans h
            refine fw_aload_n C 5 dL_law_431 rfl rfl ?_
            refine fw_iconst C 0 dL_law_432 rfl ?_
            obtain ⟨g49, h⟩ := gd_some h
            refine fw_lald C (gA_of g49) dL_law_433 ?_
            refine fw_iload C 0 dL_law_434 rfl ?_
            refine fw_i2l C dL_law_436 ?_
            refine fw_lcmp C dL_law_437 ?_
            refine fw_if_eq C 443 dL_law_438 (by decide) (fun c50 => ?_) (fun c50 => ?_)
            · replace h := (if_pos c50).symm.trans h
              refine fw_goto C 2119 dL_law_443 (by decide) ?_
              refine fw_iinc C _ 6 [(4, _), (6, _), (5, _), (0, _), (1, _), (2, _), (3, _)] dL_law_2119 rfl rfl (Nat.le_of_ble_eq_true rfl) rfl ?_
              refine fw_goto C 23 dL_law_2122 (by decide) ?_
              refine fw_sub [3, 4, 5, 6, 0] rfl ?_
              refine fw_widen (k := 149 + (j + 1)) (n := 8268 + 6 * (j + 1)) (by show 149 + j + 1 ≤ _; omega) (by show 8268 + 6 * j + 6 ≤ _; omega) ?_
              exact ih (j + 1) _ _ (by omega) h
            · replace h := (if_neg c50).symm.trans h
              refine fw_iconst C 0 dL_law_441 rfl ?_
              exact absurd h (by decide)
        · replace h := (if_neg c47).symm.trans h
          refine fw_iconst C 0 dL_law_424 rfl ?_
          exact absurd h (by decide)
      replace h := (if_neg c40).symm.trans h
      by_cases c51 : ((fw_xs G x4.toNatClampNeg) &&& 31) = 5
      · replace h := (if_pos c51).symm.trans h
        refine fw_tableIn C 5 446 dL_law_40 c51 (by decide) (by decide) rfl (by decide) ?_
        refine fw_aload_n C 1 dL_law_446 rfl rfl ?_
        refine fw_aload_n C 0 dL_law_447 rfl rfl ?_
        refine fw_iload C 4 dL_law_448 rfl ?_
        refine fw_iconst C 1 dL_law_450 rfl ?_
        refine fw_iadd C dL_law_451 ?_
        obtain ⟨g52, h⟩ := gd_some h
        refine fw_sld C (gX_of g52) dL_law_452 ?_
        refine fw_aload_n C 0 dL_law_453 rfl rfl ?_
        refine fw_iload C 4 dL_law_454 rfl ?_
        refine fw_iconst C 2 dL_law_456 rfl ?_
        refine fw_iadd C dL_law_457 ?_
        obtain ⟨g53, h⟩ := gd_some h
        refine fw_sld C (gX_of g53) dL_law_458 ?_
        refine fw_aload_n C 3 dL_law_459 rfl rfl ?_
        obtain ⟨v54, M54, e54, h⟩ := b2_some h
        refine fw_callW [_, _, _, _] C (c_L_link hl e54) cal_L_link wm_L_127 wt_yL_link rfl (Nat.le_of_ble_eq_true rfl) ⟨Nat.le_of_ble_eq_true rfl, Nat.le_of_ble_eq_true rfl⟩ ⟨by show 149 + j + 1 ≤ 601024; omega, by show 8268 + 6 * j + 6 ≤ 7293034; omega⟩ dL_law_460 ?_
        refine fw_istore C [(5, _), (0, _), (1, _), (2, _), (3, _), (4, _)] dL_law_463 (Nat.le_of_ble_eq_true rfl) rfl ?_
        refine fw_aload_n C 3 dL_law_465 rfl rfl ?_
        refine fw_aload_n C 1 dL_law_466 rfl rfl ?_
        refine fw_iload C 5 dL_law_467 rfl ?_
        refine fw_iconst C 1 dL_law_469 rfl ?_
        refine fw_iadd C dL_law_470 ?_
        refine fw_sld C (gX_of g52) dL_law_471 ?_
        refine fw_aload_n C 1 dL_law_472 rfl rfl ?_
        refine fw_iload C 5 dL_law_473 rfl ?_
        refine fw_iconst C 2 dL_law_475 rfl ?_
        refine fw_iadd C dL_law_476 ?_
        refine fw_sld C (gX_of g53) dL_law_477 ?_
        obtain ⟨g56, h⟩ := gd_some h
        obtain ⟨v55, M55, e55, h⟩ := b2_some h
        refine fw_callVL (ci := 10) [_, _] C (c_X10_link hl e55) cal_X10_link wm_L_129 wi_yX10_link wsl_yX10_link (Nat.le_of_ble_eq_true rfl) rfl (gO_of g56) rfl (Nat.le_of_ble_eq_true rfl) ⟨Nat.le_of_ble_eq_true rfl, Nat.le_of_ble_eq_true rfl⟩ ⟨by show 149 + j + 1 ≤ 601024; omega, by show 8268 + 6 * j + 6 ≤ 7293034; omega⟩ dL_law_478 ?_
        refine fw_istore C [(6, _), (5, _), (0, _), (1, _), (2, _), (3, _), (4, _)] dL_law_481 (Nat.le_of_ble_eq_true rfl) rfl ?_
        refine fw_aload_n C 4 dL_law_483 rfl rfl ?_
        obtain ⟨v57, e57, h⟩ := b1_some h
        refine fw_callVL (ci := 10) [] C (c_X10_thrown hl e57) cal_X10_thrown wm_L_112 wi_yX10_thrown wsl_yX10_thrown (Nat.le_of_ble_eq_true rfl) rfl (gO_of g56) rfl (Nat.le_of_ble_eq_true rfl) ⟨Nat.le_of_ble_eq_true rfl, Nat.le_of_ble_eq_true rfl⟩ ⟨by show 149 + j + 1 ≤ 601024; omega, by show 8268 + 6 * j + 6 ≤ 7293034; omega⟩ dL_law_484 ?_
        refine fw_iload C 1 dL_law_487 rfl ?_
        refine fw_icmp_eq C 494 dL_law_489 (by decide) (fun c58 => ?_) (fun c58 => ?_)
        · replace h := (if_pos c58).symm.trans h
          refine fw_iload C 1 dL_law_494 rfl ?_
          refine fw_if_ne C 511 dL_law_496 (by decide) (fun c59 => ?_) (fun c59 => ?_)
          · replace h := (if_neg c59).symm.trans h
            refine fw_goto C 2119 dL_law_511 (by decide) ?_
            refine fw_iinc C _ 6 [(4, _), (6, _), (5, _), (0, _), (1, _), (2, _), (3, _)] dL_law_2119 rfl rfl (Nat.le_of_ble_eq_true rfl) rfl ?_
            refine fw_goto C 23 dL_law_2122 (by decide) ?_
            refine fw_sub [3, 4, 5, 6, 0] rfl ?_
            refine fw_widen (k := 149 + (j + 1)) (n := 8268 + 6 * (j + 1)) (by show 149 + j + 1 ≤ _; omega) (by show 8268 + 6 * j + 6 ≤ _; omega) ?_
            exact ih (j + 1) _ _ (by omega) h
          · replace h := (if_pos c59).symm.trans h
            refine fw_aload_n C 5 dL_law_499 rfl rfl ?_
            refine fw_iconst C 0 dL_law_500 rfl ?_
            obtain ⟨g60, h⟩ := gd_some h
            refine fw_lald C (gA_of g60) dL_law_501 ?_
            refine fw_iload C 0 dL_law_502 rfl ?_
            refine fw_i2l C dL_law_504 ?_
            refine fw_lcmp C dL_law_505 ?_
            refine fw_if_eq C 511 dL_law_506 (by decide) (fun c61 => ?_) (fun c61 => ?_)
            · replace h := (if_pos c61).symm.trans h
              refine fw_goto C 2119 dL_law_511 (by decide) ?_
              refine fw_iinc C _ 6 [(4, _), (6, _), (5, _), (0, _), (1, _), (2, _), (3, _)] dL_law_2119 rfl rfl (Nat.le_of_ble_eq_true rfl) rfl ?_
              refine fw_goto C 23 dL_law_2122 (by decide) ?_
              refine fw_sub [3, 4, 5, 6, 0] rfl ?_
              refine fw_widen (k := 149 + (j + 1)) (n := 8268 + 6 * (j + 1)) (by show 149 + j + 1 ≤ _; omega) (by show 8268 + 6 * j + 6 ≤ _; omega) ?_
              exact ih (j + 1) _ _ (by omega) h
            · replace h := (if_neg c61).symm.trans h
              refine fw_iconst C 0 dL_law_509 rfl ?_
              exact absurd h (by decide)
        · replace h := (if_neg c58).symm.trans h
          refine fw_iconst C 0 dL_law_492 rfl ?_
          exact absurd h (by decide)
      replace h := (if_neg c51).symm.trans h
      by_cases c62 : ((fw_xs G x4.toNatClampNeg) &&& 31) = 6
      · replace h := (if_pos c62).symm.trans h
        refine fw_tableIn C 6 514 dL_law_40 c62 (by decide) (by decide) rfl (by decide) ?_
        refine fw_aload_n C 1 dL_law_514 rfl rfl ?_
        refine fw_aload_n C 0 dL_law_515 rfl rfl ?_
        refine fw_iload C 4 dL_law_516 rfl ?_
        refine fw_iconst C 1 dL_law_518 rfl ?_
        refine fw_iadd C dL_law_519 ?_
        obtain ⟨g63, h⟩ := gd_some h
        refine fw_sld C (gX_of g63) dL_law_520 ?_
        refine fw_aload_n C 0 dL_law_521 rfl rfl ?_
        refine fw_iload C 4 dL_law_522 rfl ?_
        refine fw_iconst C 2 dL_law_524 rfl ?_
        refine fw_iadd C dL_law_525 ?_
        obtain ⟨g64, h⟩ := gd_some h
        refine fw_sld C (gX_of g64) dL_law_526 ?_
        refine fw_aload_n C 3 dL_law_527 rfl rfl ?_
        obtain ⟨v65, M65, e65, h⟩ := b2_some h
        refine fw_callW [_, _, _, _] C (c_L_suit hl e65) cal_L_suit wm_L_130 wt_yL_suit rfl (Nat.le_of_ble_eq_true rfl) ⟨Nat.le_of_ble_eq_true rfl, Nat.le_of_ble_eq_true rfl⟩ ⟨by show 149 + j + 1 ≤ 601024; omega, by show 8268 + 6 * j + 6 ≤ 7293034; omega⟩ dL_law_528 ?_
        refine fw_istore C [(5, _), (0, _), (1, _), (2, _), (3, _), (4, _)] dL_law_531 (Nat.le_of_ble_eq_true rfl) rfl ?_
        refine fw_aload_n C 3 dL_law_533 rfl rfl ?_
        refine fw_aload_n C 1 dL_law_534 rfl rfl ?_
        refine fw_iload C 5 dL_law_535 rfl ?_
        refine fw_iconst C 1 dL_law_537 rfl ?_
        refine fw_iadd C dL_law_538 ?_
        refine fw_sld C (gX_of g63) dL_law_539 ?_
        refine fw_aload_n C 1 dL_law_540 rfl rfl ?_
        refine fw_iload C 5 dL_law_541 rfl ?_
        refine fw_iconst C 2 dL_law_543 rfl ?_
        refine fw_iadd C dL_law_544 ?_
        refine fw_sld C (gX_of g64) dL_law_545 ?_
        obtain ⟨g67, h⟩ := gd_some h
        obtain ⟨v66, M66, e66, h⟩ := b2_some h
        refine fw_callVL (ci := 10) [_, _] C (c_X10_suit hl e66) cal_X10_suit wm_L_132 wi_yX10_suit wsl_yX10_suit (Nat.le_of_ble_eq_true rfl) rfl (gO_of g67) rfl (Nat.le_of_ble_eq_true rfl) ⟨Nat.le_of_ble_eq_true rfl, Nat.le_of_ble_eq_true rfl⟩ ⟨by show 149 + j + 1 ≤ 601024; omega, by show 8268 + 6 * j + 6 ≤ 7293034; omega⟩ dL_law_546 ?_
        refine fw_istore C [(6, _), (5, _), (0, _), (1, _), (2, _), (3, _), (4, _)] dL_law_549 (Nat.le_of_ble_eq_true rfl) rfl ?_
        refine fw_aload_n C 4 dL_law_551 rfl rfl ?_
        obtain ⟨v68, e68, h⟩ := b1_some h
        refine fw_callVL (ci := 10) [] C (c_X10_thrown hl e68) cal_X10_thrown wm_L_112 wi_yX10_thrown wsl_yX10_thrown (Nat.le_of_ble_eq_true rfl) rfl (gO_of g67) rfl (Nat.le_of_ble_eq_true rfl) ⟨Nat.le_of_ble_eq_true rfl, Nat.le_of_ble_eq_true rfl⟩ ⟨by show 149 + j + 1 ≤ 601024; omega, by show 8268 + 6 * j + 6 ≤ 7293034; omega⟩ dL_law_552 ?_
        refine fw_iload C 1 dL_law_555 rfl ?_
        refine fw_icmp_eq C 562 dL_law_557 (by decide) (fun c69 => ?_) (fun c69 => ?_)
        · replace h := (if_pos c69).symm.trans h
          refine fw_iload C 1 dL_law_562 rfl ?_
          refine fw_if_ne C 579 dL_law_564 (by decide) (fun c70 => ?_) (fun c70 => ?_)
          · replace h := (if_neg c70).symm.trans h
            refine fw_goto C 2119 dL_law_579 (by decide) ?_
            refine fw_iinc C _ 6 [(4, _), (6, _), (5, _), (0, _), (1, _), (2, _), (3, _)] dL_law_2119 rfl rfl (Nat.le_of_ble_eq_true rfl) rfl ?_
            refine fw_goto C 23 dL_law_2122 (by decide) ?_
            refine fw_sub [3, 4, 5, 6, 0] rfl ?_
            refine fw_widen (k := 149 + (j + 1)) (n := 8268 + 6 * (j + 1)) (by show 149 + j + 1 ≤ _; omega) (by show 8268 + 6 * j + 6 ≤ _; omega) ?_
            exact ih (j + 1) _ _ (by omega) h
          · replace h := (if_pos c70).symm.trans h
            refine fw_aload_n C 5 dL_law_567 rfl rfl ?_
            refine fw_iconst C 0 dL_law_568 rfl ?_
            obtain ⟨g71, h⟩ := gd_some h
            refine fw_lald C (gA_of g71) dL_law_569 ?_
            refine fw_iload C 0 dL_law_570 rfl ?_
            refine fw_i2l C dL_law_572 ?_
            refine fw_lcmp C dL_law_573 ?_
            refine fw_if_eq C 579 dL_law_574 (by decide) (fun c72 => ?_) (fun c72 => ?_)
            · replace h := (if_pos c72).symm.trans h
              refine fw_goto C 2119 dL_law_579 (by decide) ?_
              refine fw_iinc C _ 6 [(4, _), (6, _), (5, _), (0, _), (1, _), (2, _), (3, _)] dL_law_2119 rfl rfl (Nat.le_of_ble_eq_true rfl) rfl ?_
              refine fw_goto C 23 dL_law_2122 (by decide) ?_
              refine fw_sub [3, 4, 5, 6, 0] rfl ?_
              refine fw_widen (k := 149 + (j + 1)) (n := 8268 + 6 * (j + 1)) (by show 149 + j + 1 ≤ _; omega) (by show 8268 + 6 * j + 6 ≤ _; omega) ?_
              exact ih (j + 1) _ _ (by omega) h
            · replace h := (if_neg c72).symm.trans h
              refine fw_iconst C 0 dL_law_577 rfl ?_
              exact absurd h (by decide)
        · replace h := (if_neg c69).symm.trans h
          refine fw_iconst C 0 dL_law_560 rfl ?_
          exact absurd h (by decide)
      replace h := (if_neg c62).symm.trans h
      by_cases c73 : ((fw_xs G x4.toNatClampNeg) &&& 31) = 7
      · replace h := (if_pos c73).symm.trans h
        refine fw_tableIn C 7 582 dL_law_40 c73 (by decide) (by decide) rfl (by decide) ?_
        refine fw_aload_n C 1 dL_law_582 rfl rfl ?_
        refine fw_aload_n C 0 dL_law_583 rfl rfl ?_
        refine fw_iload C 4 dL_law_584 rfl ?_
        refine fw_iconst C 1 dL_law_586 rfl ?_
        refine fw_iadd C dL_law_587 ?_
        obtain ⟨g74, h⟩ := gd_some h
        refine fw_sld C (gX_of g74) dL_law_588 ?_
        refine fw_aload_n C 0 dL_law_589 rfl rfl ?_
        refine fw_iload C 4 dL_law_590 rfl ?_
        refine fw_iconst C 2 dL_law_592 rfl ?_
        refine fw_iadd C dL_law_593 ?_
        obtain ⟨g75, h⟩ := gd_some h
        refine fw_sld C (gX_of g75) dL_law_594 ?_
        refine fw_aload_n C 0 dL_law_595 rfl rfl ?_
        refine fw_iload C 4 dL_law_596 rfl ?_
        refine fw_iconst C 3 dL_law_598 rfl ?_
        refine fw_iadd C dL_law_599 ?_
        obtain ⟨g76, h⟩ := gd_some h
        refine fw_sld C (gX_of g76) dL_law_600 ?_
        refine fw_aload_n C 3 dL_law_601 rfl rfl ?_
        obtain ⟨v77, M77, e77, h⟩ := b2_some h
        refine fw_callW [_, _, _, _, _] C (c_L_isBound hl e77) cal_L_isBound wm_L_133 wt_yL_isBound rfl (Nat.le_of_ble_eq_true rfl) ⟨Nat.le_of_ble_eq_true rfl, Nat.le_of_ble_eq_true rfl⟩ ⟨by show 149 + j + 1 ≤ 601024; omega, by show 8268 + 6 * j + 6 ≤ 7293034; omega⟩ dL_law_602 ?_
        refine fw_istore C [(5, _), (0, _), (1, _), (2, _), (3, _), (4, _)] dL_law_605 (Nat.le_of_ble_eq_true rfl) rfl ?_
        refine fw_aload_n C 3 dL_law_607 rfl rfl ?_
        refine fw_aload_n C 1 dL_law_608 rfl rfl ?_
        refine fw_iload C 5 dL_law_609 rfl ?_
        refine fw_iconst C 1 dL_law_611 rfl ?_
        refine fw_iadd C dL_law_612 ?_
        refine fw_sld C (gX_of g74) dL_law_613 ?_
        refine fw_aload_n C 1 dL_law_614 rfl rfl ?_
        refine fw_iload C 5 dL_law_615 rfl ?_
        refine fw_iconst C 2 dL_law_617 rfl ?_
        refine fw_iadd C dL_law_618 ?_
        refine fw_sld C (gX_of g75) dL_law_619 ?_
        refine fw_aload_n C 1 dL_law_620 rfl rfl ?_
        refine fw_iload C 5 dL_law_621 rfl ?_
        refine fw_iconst C 3 dL_law_623 rfl ?_
        refine fw_iadd C dL_law_624 ?_
        refine fw_sld C (gX_of g76) dL_law_625 ?_
        obtain ⟨g79, h⟩ := gd_some h
        obtain ⟨v78, M78, e78, h⟩ := b2_some h
        refine fw_callVL (ci := 10) [_, _, _] C (c_X10_isBound hl e78) cal_X10_isBound wm_L_136 wi_yX10_isBound wsl_yX10_isBound (Nat.le_of_ble_eq_true rfl) rfl (gO_of g79) rfl (Nat.le_of_ble_eq_true rfl) ⟨Nat.le_of_ble_eq_true rfl, Nat.le_of_ble_eq_true rfl⟩ ⟨by show 149 + j + 1 ≤ 601024; omega, by show 8268 + 6 * j + 6 ≤ 7293034; omega⟩ dL_law_626 ?_
        refine fw_istore C [(6, _), (5, _), (0, _), (1, _), (2, _), (3, _), (4, _)] dL_law_629 (Nat.le_of_ble_eq_true rfl) rfl ?_
        refine fw_aload_n C 4 dL_law_631 rfl rfl ?_
        obtain ⟨v80, e80, h⟩ := b1_some h
        refine fw_callVL (ci := 10) [] C (c_X10_thrown hl e80) cal_X10_thrown wm_L_112 wi_yX10_thrown wsl_yX10_thrown (Nat.le_of_ble_eq_true rfl) rfl (gO_of g79) rfl (Nat.le_of_ble_eq_true rfl) ⟨Nat.le_of_ble_eq_true rfl, Nat.le_of_ble_eq_true rfl⟩ ⟨by show 149 + j + 1 ≤ 601024; omega, by show 8268 + 6 * j + 6 ≤ 7293034; omega⟩ dL_law_632 ?_
        refine fw_iload C 1 dL_law_635 rfl ?_
        refine fw_icmp_eq C 642 dL_law_637 (by decide) (fun c81 => ?_) (fun c81 => ?_)
        · replace h := (if_pos c81).symm.trans h
          refine fw_iload C 1 dL_law_642 rfl ?_
          refine fw_if_ne C 666 dL_law_644 (by decide) (fun c82 => ?_) (fun c82 => ?_)
          · replace h := (if_neg c82).symm.trans h
            refine fw_goto C 2119 dL_law_666 (by decide) ?_
            refine fw_iinc C _ 6 [(4, _), (6, _), (5, _), (0, _), (1, _), (2, _), (3, _)] dL_law_2119 rfl rfl (Nat.le_of_ble_eq_true rfl) rfl ?_
            refine fw_goto C 23 dL_law_2122 (by decide) ?_
            refine fw_sub [3, 4, 5, 6, 0] rfl ?_
            refine fw_widen (k := 149 + (j + 1)) (n := 8268 + 6 * (j + 1)) (by show 149 + j + 1 ≤ _; omega) (by show 8268 + 6 * j + 6 ≤ _; omega) ?_
            exact ih (j + 1) _ _ (by omega) h
          · replace h := (if_pos c82).symm.trans h
            refine fw_aload_n C 5 dL_law_647 rfl rfl ?_
            refine fw_iconst C 0 dL_law_648 rfl ?_
            obtain ⟨g83, h⟩ := gd_some h
            refine fw_lald C (gA_of g83) dL_law_649 ?_
            refine fw_iload C 0 dL_law_650 rfl ?_
            refine fw_if_eq C 659 dL_law_652 (by decide) (fun c84 => ?_) (fun c84 => ?_)
            · replace h := (if_pos c84).symm.trans h
              refine fw_lconst C ((0 : Int32).toInt64) dL_law_659 rfl ?_
              refine fw_lcmp C dL_law_660 ?_
              refine fw_if_eq C 666 dL_law_661 (by decide) (fun c85 => ?_) (fun c85 => ?_)
              · replace h := (if_pos c85).symm.trans h
                refine fw_goto C 2119 dL_law_666 (by decide) ?_
                refine fw_iinc C _ 6 [(4, _), (6, _), (5, _), (0, _), (1, _), (2, _), (3, _)] dL_law_2119 rfl rfl (Nat.le_of_ble_eq_true rfl) rfl ?_
                refine fw_goto C 23 dL_law_2122 (by decide) ?_
                refine fw_sub [3, 4, 5, 6, 0] rfl ?_
                refine fw_widen (k := 149 + (j + 1)) (n := 8268 + 6 * (j + 1)) (by show 149 + j + 1 ≤ _; omega) (by show 8268 + 6 * j + 6 ≤ _; omega) ?_
                exact ih (j + 1) _ _ (by omega) h
              · replace h := (if_neg c85).symm.trans h
                refine fw_iconst C 0 dL_law_664 rfl ?_
                exact absurd h (by decide)
            · replace h := (if_neg c84).symm.trans h
              refine fw_lconst C ((1 : Int32).toInt64) dL_law_655 rfl ?_
              refine fw_goto C 660 dL_law_656 (by decide) ?_
              refine fw_lcmp C dL_law_660 ?_
              refine fw_if_eq C 666 dL_law_661 (by decide) (fun c86 => ?_) (fun c86 => ?_)
              · replace h := (if_pos c86).symm.trans h
                refine fw_goto C 2119 dL_law_666 (by decide) ?_
                refine fw_iinc C _ 6 [(4, _), (6, _), (5, _), (0, _), (1, _), (2, _), (3, _)] dL_law_2119 rfl rfl (Nat.le_of_ble_eq_true rfl) rfl ?_
                refine fw_goto C 23 dL_law_2122 (by decide) ?_
                refine fw_sub [3, 4, 5, 6, 0] rfl ?_
                refine fw_widen (k := 149 + (j + 1)) (n := 8268 + 6 * (j + 1)) (by show 149 + j + 1 ≤ _; omega) (by show 8268 + 6 * j + 6 ≤ _; omega) ?_
                exact ih (j + 1) _ _ (by omega) h
              · replace h := (if_neg c86).symm.trans h
                refine fw_iconst C 0 dL_law_664 rfl ?_
                exact absurd h (by decide)
        · replace h := (if_neg c81).symm.trans h
          refine fw_iconst C 0 dL_law_640 rfl ?_
          exact absurd h (by decide)
      replace h := (if_neg c73).symm.trans h
      by_cases c87 : ((fw_xs G x4.toNatClampNeg) &&& 31) = 8
      · replace h := (if_pos c87).symm.trans h
        refine fw_tableIn C 8 669 dL_law_40 c87 (by decide) (by decide) rfl (by decide) ?_
        refine fw_aload_n C 1 dL_law_669 rfl rfl ?_
        refine fw_aload_n C 0 dL_law_670 rfl rfl ?_
        refine fw_iload C 4 dL_law_671 rfl ?_
        refine fw_iconst C 1 dL_law_673 rfl ?_
        refine fw_iadd C dL_law_674 ?_
        obtain ⟨g88, h⟩ := gd_some h
        refine fw_sld C (gX_of g88) dL_law_675 ?_
        refine fw_aload_n C 0 dL_law_676 rfl rfl ?_
        refine fw_iload C 4 dL_law_677 rfl ?_
        refine fw_iconst C 2 dL_law_679 rfl ?_
        refine fw_iadd C dL_law_680 ?_
        obtain ⟨g89, h⟩ := gd_some h
        refine fw_sld C (gX_of g89) dL_law_681 ?_
        refine fw_aload_n C 0 dL_law_682 rfl rfl ?_
        refine fw_iload C 4 dL_law_683 rfl ?_
        refine fw_iconst C 3 dL_law_685 rfl ?_
        refine fw_iadd C dL_law_686 ?_
        obtain ⟨g90, h⟩ := gd_some h
        refine fw_sld C (gX_of g90) dL_law_687 ?_
        refine fw_aload_n C 0 dL_law_688 rfl rfl ?_
        refine fw_iload C 4 dL_law_689 rfl ?_
        refine fw_iconst C 4 dL_law_691 rfl ?_
        refine fw_iadd C dL_law_692 ?_
        obtain ⟨g91, h⟩ := gd_some h
        refine fw_sld C (gX_of g91) dL_law_693 ?_
        refine fw_aload_n C 3 dL_law_694 rfl rfl ?_
        obtain ⟨v92, M92, e92, h⟩ := b2_some h
        refine fw_callW [_, _, _, _, _, _] C (c_L_chain hl e92) cal_L_chain wm_L_137 wt_yL_chain rfl (Nat.le_of_ble_eq_true rfl) ⟨Nat.le_of_ble_eq_true rfl, Nat.le_of_ble_eq_true rfl⟩ ⟨by show 149 + j + 1 ≤ 601024; omega, by show 8268 + 6 * j + 6 ≤ 7293034; omega⟩ dL_law_695 ?_
        refine fw_istore C [(5, _), (0, _), (1, _), (2, _), (3, _), (4, _)] dL_law_698 (Nat.le_of_ble_eq_true rfl) rfl ?_
        refine fw_aload_n C 3 dL_law_700 rfl rfl ?_
        refine fw_aload_n C 1 dL_law_701 rfl rfl ?_
        refine fw_iload C 5 dL_law_702 rfl ?_
        refine fw_iconst C 1 dL_law_704 rfl ?_
        refine fw_iadd C dL_law_705 ?_
        refine fw_sld C (gX_of g88) dL_law_706 ?_
        refine fw_aload_n C 1 dL_law_707 rfl rfl ?_
        refine fw_iload C 5 dL_law_708 rfl ?_
        refine fw_iconst C 2 dL_law_710 rfl ?_
        refine fw_iadd C dL_law_711 ?_
        refine fw_sld C (gX_of g89) dL_law_712 ?_
        refine fw_aload_n C 1 dL_law_713 rfl rfl ?_
        refine fw_iload C 5 dL_law_714 rfl ?_
        refine fw_iconst C 3 dL_law_716 rfl ?_
        refine fw_iadd C dL_law_717 ?_
        refine fw_sld C (gX_of g90) dL_law_718 ?_
        refine fw_aload_n C 1 dL_law_719 rfl rfl ?_
        refine fw_iload C 5 dL_law_720 rfl ?_
        refine fw_iconst C 4 dL_law_722 rfl ?_
        refine fw_iadd C dL_law_723 ?_
        refine fw_sld C (gX_of g91) dL_law_724 ?_
        obtain ⟨g94, h⟩ := gd_some h
        obtain ⟨v93, M93, e93, h⟩ := b2_some h
        refine fw_callVL (ci := 10) [_, _, _, _] C (c_X10_chain hl e93) cal_X10_chain wm_L_140 wi_yX10_chain wsl_yX10_chain (Nat.le_of_ble_eq_true rfl) rfl (gO_of g94) rfl (Nat.le_of_ble_eq_true rfl) ⟨Nat.le_of_ble_eq_true rfl, Nat.le_of_ble_eq_true rfl⟩ ⟨by show 149 + j + 1 ≤ 601024; omega, by show 8268 + 6 * j + 6 ≤ 7293034; omega⟩ dL_law_725 ?_
        refine fw_istore C [(6, _), (5, _), (0, _), (1, _), (2, _), (3, _), (4, _)] dL_law_728 (Nat.le_of_ble_eq_true rfl) rfl ?_
        refine fw_aload_n C 4 dL_law_730 rfl rfl ?_
        obtain ⟨v95, e95, h⟩ := b1_some h
        refine fw_callVL (ci := 10) [] C (c_X10_thrown hl e95) cal_X10_thrown wm_L_112 wi_yX10_thrown wsl_yX10_thrown (Nat.le_of_ble_eq_true rfl) rfl (gO_of g94) rfl (Nat.le_of_ble_eq_true rfl) ⟨Nat.le_of_ble_eq_true rfl, Nat.le_of_ble_eq_true rfl⟩ ⟨by show 149 + j + 1 ≤ 601024; omega, by show 8268 + 6 * j + 6 ≤ 7293034; omega⟩ dL_law_731 ?_
        refine fw_iload C 1 dL_law_734 rfl ?_
        refine fw_icmp_eq C 741 dL_law_736 (by decide) (fun c96 => ?_) (fun c96 => ?_)
        · replace h := (if_pos c96).symm.trans h
          refine fw_iload C 1 dL_law_741 rfl ?_
          refine fw_if_ne C 758 dL_law_743 (by decide) (fun c97 => ?_) (fun c97 => ?_)
          · replace h := (if_neg c97).symm.trans h
            refine fw_goto C 2119 dL_law_758 (by decide) ?_
            refine fw_iinc C _ 6 [(4, _), (6, _), (5, _), (0, _), (1, _), (2, _), (3, _)] dL_law_2119 rfl rfl (Nat.le_of_ble_eq_true rfl) rfl ?_
            refine fw_goto C 23 dL_law_2122 (by decide) ?_
            refine fw_sub [3, 4, 5, 6, 0] rfl ?_
            refine fw_widen (k := 149 + (j + 1)) (n := 8268 + 6 * (j + 1)) (by show 149 + j + 1 ≤ _; omega) (by show 8268 + 6 * j + 6 ≤ _; omega) ?_
            exact ih (j + 1) _ _ (by omega) h
          · replace h := (if_pos c97).symm.trans h
            refine fw_aload_n C 5 dL_law_746 rfl rfl ?_
            refine fw_iconst C 0 dL_law_747 rfl ?_
            obtain ⟨g98, h⟩ := gd_some h
            refine fw_lald C (gA_of g98) dL_law_748 ?_
            refine fw_iload C 0 dL_law_749 rfl ?_
            refine fw_i2l C dL_law_751 ?_
            refine fw_lcmp C dL_law_752 ?_
            refine fw_if_eq C 758 dL_law_753 (by decide) (fun c99 => ?_) (fun c99 => ?_)
            · replace h := (if_pos c99).symm.trans h
              refine fw_goto C 2119 dL_law_758 (by decide) ?_
              refine fw_iinc C _ 6 [(4, _), (6, _), (5, _), (0, _), (1, _), (2, _), (3, _)] dL_law_2119 rfl rfl (Nat.le_of_ble_eq_true rfl) rfl ?_
              refine fw_goto C 23 dL_law_2122 (by decide) ?_
              refine fw_sub [3, 4, 5, 6, 0] rfl ?_
              refine fw_widen (k := 149 + (j + 1)) (n := 8268 + 6 * (j + 1)) (by show 149 + j + 1 ≤ _; omega) (by show 8268 + 6 * j + 6 ≤ _; omega) ?_
              exact ih (j + 1) _ _ (by omega) h
            · replace h := (if_neg c99).symm.trans h
              refine fw_iconst C 0 dL_law_756 rfl ?_
              exact absurd h (by decide)
        · replace h := (if_neg c96).symm.trans h
          refine fw_iconst C 0 dL_law_739 rfl ?_
          exact absurd h (by decide)
      replace h := (if_neg c87).symm.trans h
      by_cases c100 : ((fw_xs G x4.toNatClampNeg) &&& 31) = 9
      · replace h := (if_pos c100).symm.trans h
        refine fw_tableIn C 9 761 dL_law_40 c100 (by decide) (by decide) rfl (by decide) ?_
        refine fw_aload_n C 1 dL_law_761 rfl rfl ?_
        refine fw_aload_n C 0 dL_law_762 rfl rfl ?_
        refine fw_iload C 4 dL_law_763 rfl ?_
        refine fw_iconst C 1 dL_law_765 rfl ?_
        refine fw_iadd C dL_law_766 ?_
        obtain ⟨g101, h⟩ := gd_some h
        refine fw_sld C (gX_of g101) dL_law_767 ?_
        refine fw_aload_n C 0 dL_law_768 rfl rfl ?_
        refine fw_iload C 4 dL_law_769 rfl ?_
        refine fw_iconst C 2 dL_law_771 rfl ?_
        refine fw_iadd C dL_law_772 ?_
        obtain ⟨g102, h⟩ := gd_some h
        refine fw_sld C (gX_of g102) dL_law_773 ?_
        refine fw_aload_n C 0 dL_law_774 rfl rfl ?_
        refine fw_iload C 4 dL_law_775 rfl ?_
        refine fw_iconst C 3 dL_law_777 rfl ?_
        refine fw_iadd C dL_law_778 ?_
        obtain ⟨g103, h⟩ := gd_some h
        refine fw_sld C (gX_of g103) dL_law_779 ?_
        refine fw_aload_n C 3 dL_law_780 rfl rfl ?_
        obtain ⟨v104, M104, e104, h⟩ := b2_some h
        refine fw_callW [_, _, _, _, _] C (c_L_two hl e104) cal_L_two wm_L_141 wt_yL_two rfl (Nat.le_of_ble_eq_true rfl) ⟨Nat.le_of_ble_eq_true rfl, Nat.le_of_ble_eq_true rfl⟩ ⟨by show 149 + j + 1 ≤ 601024; omega, by show 8268 + 6 * j + 6 ≤ 7293034; omega⟩ dL_law_781 ?_
        refine fw_istore C [(5, _), (0, _), (1, _), (2, _), (3, _), (4, _)] dL_law_784 (Nat.le_of_ble_eq_true rfl) rfl ?_
        refine fw_aload_n C 3 dL_law_786 rfl rfl ?_
        refine fw_aload_n C 1 dL_law_787 rfl rfl ?_
        refine fw_iload C 5 dL_law_788 rfl ?_
        refine fw_iconst C 1 dL_law_790 rfl ?_
        refine fw_iadd C dL_law_791 ?_
        refine fw_sld C (gX_of g101) dL_law_792 ?_
        refine fw_aload_n C 1 dL_law_793 rfl rfl ?_
        refine fw_iload C 5 dL_law_794 rfl ?_
        refine fw_iconst C 2 dL_law_796 rfl ?_
        refine fw_iadd C dL_law_797 ?_
        refine fw_sld C (gX_of g102) dL_law_798 ?_
        refine fw_aload_n C 1 dL_law_799 rfl rfl ?_
        refine fw_iload C 5 dL_law_800 rfl ?_
        refine fw_iconst C 3 dL_law_802 rfl ?_
        refine fw_iadd C dL_law_803 ?_
        refine fw_sld C (gX_of g103) dL_law_804 ?_
        obtain ⟨g106, h⟩ := gd_some h
        obtain ⟨v105, M105, e105, h⟩ := b2_some h
        refine fw_callVL (ci := 10) [_, _, _] C (c_X10_two hl e105) cal_X10_two wm_L_143 wi_yX10_two wsl_yX10_two (Nat.le_of_ble_eq_true rfl) rfl (gO_of g106) rfl (Nat.le_of_ble_eq_true rfl) ⟨Nat.le_of_ble_eq_true rfl, Nat.le_of_ble_eq_true rfl⟩ ⟨by show 149 + j + 1 ≤ 601024; omega, by show 8268 + 6 * j + 6 ≤ 7293034; omega⟩ dL_law_805 ?_
        refine fw_istore C [(6, _), (5, _), (0, _), (1, _), (2, _), (3, _), (4, _)] dL_law_808 (Nat.le_of_ble_eq_true rfl) rfl ?_
        refine fw_aload_n C 4 dL_law_810 rfl rfl ?_
        obtain ⟨v107, e107, h⟩ := b1_some h
        refine fw_callVL (ci := 10) [] C (c_X10_thrown hl e107) cal_X10_thrown wm_L_112 wi_yX10_thrown wsl_yX10_thrown (Nat.le_of_ble_eq_true rfl) rfl (gO_of g106) rfl (Nat.le_of_ble_eq_true rfl) ⟨Nat.le_of_ble_eq_true rfl, Nat.le_of_ble_eq_true rfl⟩ ⟨by show 149 + j + 1 ≤ 601024; omega, by show 8268 + 6 * j + 6 ≤ 7293034; omega⟩ dL_law_811 ?_
        refine fw_iload C 1 dL_law_814 rfl ?_
        refine fw_icmp_eq C 821 dL_law_816 (by decide) (fun c108 => ?_) (fun c108 => ?_)
        · replace h := (if_pos c108).symm.trans h
          refine fw_iload C 1 dL_law_821 rfl ?_
          refine fw_if_ne C 838 dL_law_823 (by decide) (fun c109 => ?_) (fun c109 => ?_)
          · replace h := (if_neg c109).symm.trans h
            refine fw_goto C 2119 dL_law_838 (by decide) ?_
            refine fw_iinc C _ 6 [(4, _), (6, _), (5, _), (0, _), (1, _), (2, _), (3, _)] dL_law_2119 rfl rfl (Nat.le_of_ble_eq_true rfl) rfl ?_
            refine fw_goto C 23 dL_law_2122 (by decide) ?_
            refine fw_sub [3, 4, 5, 6, 0] rfl ?_
            refine fw_widen (k := 149 + (j + 1)) (n := 8268 + 6 * (j + 1)) (by show 149 + j + 1 ≤ _; omega) (by show 8268 + 6 * j + 6 ≤ _; omega) ?_
            exact ih (j + 1) _ _ (by omega) h
          · replace h := (if_pos c109).symm.trans h
            refine fw_aload_n C 5 dL_law_826 rfl rfl ?_
            refine fw_iconst C 0 dL_law_827 rfl ?_
            obtain ⟨g110, h⟩ := gd_some h
            refine fw_lald C (gA_of g110) dL_law_828 ?_
            refine fw_iload C 0 dL_law_829 rfl ?_
            refine fw_i2l C dL_law_831 ?_
            refine fw_lcmp C dL_law_832 ?_
            refine fw_if_eq C 838 dL_law_833 (by decide) (fun c111 => ?_) (fun c111 => ?_)
            · replace h := (if_pos c111).symm.trans h
              refine fw_goto C 2119 dL_law_838 (by decide) ?_
              refine fw_iinc C _ 6 [(4, _), (6, _), (5, _), (0, _), (1, _), (2, _), (3, _)] dL_law_2119 rfl rfl (Nat.le_of_ble_eq_true rfl) rfl ?_
              refine fw_goto C 23 dL_law_2122 (by decide) ?_
              refine fw_sub [3, 4, 5, 6, 0] rfl ?_
              refine fw_widen (k := 149 + (j + 1)) (n := 8268 + 6 * (j + 1)) (by show 149 + j + 1 ≤ _; omega) (by show 8268 + 6 * j + 6 ≤ _; omega) ?_
              exact ih (j + 1) _ _ (by omega) h
            · replace h := (if_neg c111).symm.trans h
              refine fw_iconst C 0 dL_law_836 rfl ?_
              exact absurd h (by decide)
        · replace h := (if_neg c108).symm.trans h
          refine fw_iconst C 0 dL_law_819 rfl ?_
          exact absurd h (by decide)
      replace h := (if_neg c100).symm.trans h
      by_cases c112 : ((fw_xs G x4.toNatClampNeg) &&& 31) = 10
      · replace h := (if_pos c112).symm.trans h
        refine fw_tableIn C 10 841 dL_law_40 c112 (by decide) (by decide) rfl (by decide) ?_
        refine fw_aload_n C 1 dL_law_841 rfl rfl ?_
        refine fw_aload_n C 0 dL_law_842 rfl rfl ?_
        refine fw_iload C 4 dL_law_843 rfl ?_
        refine fw_iconst C 1 dL_law_845 rfl ?_
        refine fw_iadd C dL_law_846 ?_
        obtain ⟨g113, h⟩ := gd_some h
        refine fw_sld C (gX_of g113) dL_law_847 ?_
        refine fw_aload_n C 3 dL_law_848 rfl rfl ?_
        obtain ⟨v114, M114, e114, h⟩ := b2_some h
        refine fw_callW [_, _, _] C (c_L_barred hl e114) cal_L_barred wm_L_144 wt_yL_barred rfl (Nat.le_of_ble_eq_true rfl) ⟨Nat.le_of_ble_eq_true rfl, Nat.le_of_ble_eq_true rfl⟩ ⟨by show 149 + j + 1 ≤ 601024; omega, by show 8268 + 6 * j + 6 ≤ 7293034; omega⟩ dL_law_849 ?_
        refine fw_istore C [(5, _), (0, _), (1, _), (2, _), (3, _), (4, _)] dL_law_852 (Nat.le_of_ble_eq_true rfl) rfl ?_
        refine fw_aload_n C 3 dL_law_854 rfl rfl ?_
        refine fw_aload_n C 1 dL_law_855 rfl rfl ?_
        refine fw_iload C 5 dL_law_856 rfl ?_
        refine fw_iconst C 1 dL_law_858 rfl ?_
        refine fw_iadd C dL_law_859 ?_
        refine fw_sld C (gX_of g113) dL_law_860 ?_
        obtain ⟨g116, h⟩ := gd_some h
        obtain ⟨v115, M115, e115, h⟩ := b2_some h
        refine fw_callVL (ci := 10) [_] C (c_X10_barred hl e115) cal_X10_barred wm_L_146 wi_yX10_barred wsl_yX10_barred (Nat.le_of_ble_eq_true rfl) rfl (gO_of g116) rfl (Nat.le_of_ble_eq_true rfl) ⟨Nat.le_of_ble_eq_true rfl, Nat.le_of_ble_eq_true rfl⟩ ⟨by show 149 + j + 1 ≤ 601024; omega, by show 8268 + 6 * j + 6 ≤ 7293034; omega⟩ dL_law_861 ?_
        refine fw_istore C [(6, _), (5, _), (0, _), (1, _), (2, _), (3, _), (4, _)] dL_law_864 (Nat.le_of_ble_eq_true rfl) rfl ?_
        refine fw_aload_n C 4 dL_law_866 rfl rfl ?_
        obtain ⟨v117, e117, h⟩ := b1_some h
        refine fw_callVL (ci := 10) [] C (c_X10_thrown hl e117) cal_X10_thrown wm_L_112 wi_yX10_thrown wsl_yX10_thrown (Nat.le_of_ble_eq_true rfl) rfl (gO_of g116) rfl (Nat.le_of_ble_eq_true rfl) ⟨Nat.le_of_ble_eq_true rfl, Nat.le_of_ble_eq_true rfl⟩ ⟨by show 149 + j + 1 ≤ 601024; omega, by show 8268 + 6 * j + 6 ≤ 7293034; omega⟩ dL_law_867 ?_
        refine fw_iload C 1 dL_law_870 rfl ?_
        refine fw_icmp_eq C 877 dL_law_872 (by decide) (fun c118 => ?_) (fun c118 => ?_)
        · replace h := (if_pos c118).symm.trans h
          refine fw_iload C 1 dL_law_877 rfl ?_
          refine fw_if_ne C 894 dL_law_879 (by decide) (fun c119 => ?_) (fun c119 => ?_)
          · replace h := (if_neg c119).symm.trans h
            refine fw_goto C 2119 dL_law_894 (by decide) ?_
            refine fw_iinc C _ 6 [(4, _), (6, _), (5, _), (0, _), (1, _), (2, _), (3, _)] dL_law_2119 rfl rfl (Nat.le_of_ble_eq_true rfl) rfl ?_
            refine fw_goto C 23 dL_law_2122 (by decide) ?_
            refine fw_sub [3, 4, 5, 6, 0] rfl ?_
            refine fw_widen (k := 149 + (j + 1)) (n := 8268 + 6 * (j + 1)) (by show 149 + j + 1 ≤ _; omega) (by show 8268 + 6 * j + 6 ≤ _; omega) ?_
            exact ih (j + 1) _ _ (by omega) h
          · replace h := (if_pos c119).symm.trans h
            refine fw_aload_n C 5 dL_law_882 rfl rfl ?_
            refine fw_iconst C 0 dL_law_883 rfl ?_
            obtain ⟨g120, h⟩ := gd_some h
            refine fw_lald C (gA_of g120) dL_law_884 ?_
            refine fw_iload C 0 dL_law_885 rfl ?_
            refine fw_i2l C dL_law_887 ?_
            refine fw_lcmp C dL_law_888 ?_
            refine fw_if_eq C 894 dL_law_889 (by decide) (fun c121 => ?_) (fun c121 => ?_)
            · replace h := (if_pos c121).symm.trans h
              refine fw_goto C 2119 dL_law_894 (by decide) ?_
              refine fw_iinc C _ 6 [(4, _), (6, _), (5, _), (0, _), (1, _), (2, _), (3, _)] dL_law_2119 rfl rfl (Nat.le_of_ble_eq_true rfl) rfl ?_
              refine fw_goto C 23 dL_law_2122 (by decide) ?_
              refine fw_sub [3, 4, 5, 6, 0] rfl ?_
              refine fw_widen (k := 149 + (j + 1)) (n := 8268 + 6 * (j + 1)) (by show 149 + j + 1 ≤ _; omega) (by show 8268 + 6 * j + 6 ≤ _; omega) ?_
              exact ih (j + 1) _ _ (by omega) h
            · replace h := (if_neg c121).symm.trans h
              refine fw_iconst C 0 dL_law_892 rfl ?_
              exact absurd h (by decide)
        · replace h := (if_neg c118).symm.trans h
          refine fw_iconst C 0 dL_law_875 rfl ?_
          exact absurd h (by decide)
      replace h := (if_neg c112).symm.trans h
      by_cases c122 : ((fw_xs G x4.toNatClampNeg) &&& 31) = 11
      · replace h := (if_pos c122).symm.trans h
        refine fw_tableIn C 11 897 dL_law_40 c122 (by decide) (by decide) rfl (by decide) ?_
        refine fw_aload_n C 1 dL_law_897 rfl rfl ?_
        refine fw_aload_n C 0 dL_law_898 rfl rfl ?_
        refine fw_iload C 4 dL_law_899 rfl ?_
        refine fw_iconst C 1 dL_law_901 rfl ?_
        refine fw_iadd C dL_law_902 ?_
        obtain ⟨g123, h⟩ := gd_some h
        refine fw_sld C (gX_of g123) dL_law_903 ?_
        refine fw_aload_n C 0 dL_law_904 rfl rfl ?_
        refine fw_iload C 4 dL_law_905 rfl ?_
        refine fw_iconst C 2 dL_law_907 rfl ?_
        refine fw_iadd C dL_law_908 ?_
        obtain ⟨g124, h⟩ := gd_some h
        refine fw_sld C (gX_of g124) dL_law_909 ?_
        refine fw_aload_n C 0 dL_law_910 rfl rfl ?_
        refine fw_iload C 4 dL_law_911 rfl ?_
        refine fw_iconst C 3 dL_law_913 rfl ?_
        refine fw_iadd C dL_law_914 ?_
        obtain ⟨g125, h⟩ := gd_some h
        refine fw_sld C (gX_of g125) dL_law_915 ?_
        refine fw_aload_n C 3 dL_law_916 rfl rfl ?_
        obtain ⟨v126, M126, e126, h⟩ := b2_some h
        refine fw_callW [_, _, _, _, _] C (c_L_held hl e126) cal_L_held wm_L_147 wt_yL_held rfl (Nat.le_of_ble_eq_true rfl) ⟨Nat.le_of_ble_eq_true rfl, Nat.le_of_ble_eq_true rfl⟩ ⟨by show 149 + j + 1 ≤ 601024; omega, by show 8268 + 6 * j + 6 ≤ 7293034; omega⟩ dL_law_917 ?_
        refine fw_istore C [(5, _), (0, _), (1, _), (2, _), (3, _), (4, _)] dL_law_920 (Nat.le_of_ble_eq_true rfl) rfl ?_
        refine fw_aload_n C 3 dL_law_922 rfl rfl ?_
        refine fw_aload_n C 1 dL_law_923 rfl rfl ?_
        refine fw_iload C 5 dL_law_924 rfl ?_
        refine fw_iconst C 1 dL_law_926 rfl ?_
        refine fw_iadd C dL_law_927 ?_
        refine fw_sld C (gX_of g123) dL_law_928 ?_
        refine fw_aload_n C 1 dL_law_929 rfl rfl ?_
        refine fw_iload C 5 dL_law_930 rfl ?_
        refine fw_iconst C 2 dL_law_932 rfl ?_
        refine fw_iadd C dL_law_933 ?_
        refine fw_sld C (gX_of g124) dL_law_934 ?_
        refine fw_aload_n C 1 dL_law_935 rfl rfl ?_
        refine fw_iload C 5 dL_law_936 rfl ?_
        refine fw_iconst C 3 dL_law_938 rfl ?_
        refine fw_iadd C dL_law_939 ?_
        refine fw_sld C (gX_of g125) dL_law_940 ?_
        obtain ⟨g128, h⟩ := gd_some h
        obtain ⟨v127, M127, e127, h⟩ := b2_some h
        refine fw_callVL (ci := 10) [_, _, _] C (c_X10_held hl e127) cal_X10_held wm_L_149 wi_yX10_held wsl_yX10_held (Nat.le_of_ble_eq_true rfl) rfl (gO_of g128) rfl (Nat.le_of_ble_eq_true rfl) ⟨Nat.le_of_ble_eq_true rfl, Nat.le_of_ble_eq_true rfl⟩ ⟨by show 149 + j + 1 ≤ 601024; omega, by show 8268 + 6 * j + 6 ≤ 7293034; omega⟩ dL_law_941 ?_
        refine fw_istore C [(6, _), (5, _), (0, _), (1, _), (2, _), (3, _), (4, _)] dL_law_944 (Nat.le_of_ble_eq_true rfl) rfl ?_
        refine fw_aload_n C 4 dL_law_946 rfl rfl ?_
        obtain ⟨v129, e129, h⟩ := b1_some h
        refine fw_callVL (ci := 10) [] C (c_X10_thrown hl e129) cal_X10_thrown wm_L_112 wi_yX10_thrown wsl_yX10_thrown (Nat.le_of_ble_eq_true rfl) rfl (gO_of g128) rfl (Nat.le_of_ble_eq_true rfl) ⟨Nat.le_of_ble_eq_true rfl, Nat.le_of_ble_eq_true rfl⟩ ⟨by show 149 + j + 1 ≤ 601024; omega, by show 8268 + 6 * j + 6 ≤ 7293034; omega⟩ dL_law_947 ?_
        refine fw_iload C 1 dL_law_950 rfl ?_
        refine fw_icmp_eq C 957 dL_law_952 (by decide) (fun c130 => ?_) (fun c130 => ?_)
        · replace h := (if_pos c130).symm.trans h
          refine fw_iload C 1 dL_law_957 rfl ?_
          refine fw_if_ne C 974 dL_law_959 (by decide) (fun c131 => ?_) (fun c131 => ?_)
          · replace h := (if_neg c131).symm.trans h
            refine fw_goto C 2119 dL_law_974 (by decide) ?_
            refine fw_iinc C _ 6 [(4, _), (6, _), (5, _), (0, _), (1, _), (2, _), (3, _)] dL_law_2119 rfl rfl (Nat.le_of_ble_eq_true rfl) rfl ?_
            refine fw_goto C 23 dL_law_2122 (by decide) ?_
            refine fw_sub [3, 4, 5, 6, 0] rfl ?_
            refine fw_widen (k := 149 + (j + 1)) (n := 8268 + 6 * (j + 1)) (by show 149 + j + 1 ≤ _; omega) (by show 8268 + 6 * j + 6 ≤ _; omega) ?_
            exact ih (j + 1) _ _ (by omega) h
          · replace h := (if_pos c131).symm.trans h
            refine fw_aload_n C 5 dL_law_962 rfl rfl ?_
            refine fw_iconst C 0 dL_law_963 rfl ?_
            obtain ⟨g132, h⟩ := gd_some h
            refine fw_lald C (gA_of g132) dL_law_964 ?_
            refine fw_iload C 0 dL_law_965 rfl ?_
            refine fw_i2l C dL_law_967 ?_
            refine fw_lcmp C dL_law_968 ?_
            refine fw_if_eq C 974 dL_law_969 (by decide) (fun c133 => ?_) (fun c133 => ?_)
            · replace h := (if_pos c133).symm.trans h
              refine fw_goto C 2119 dL_law_974 (by decide) ?_
              refine fw_iinc C _ 6 [(4, _), (6, _), (5, _), (0, _), (1, _), (2, _), (3, _)] dL_law_2119 rfl rfl (Nat.le_of_ble_eq_true rfl) rfl ?_
              refine fw_goto C 23 dL_law_2122 (by decide) ?_
              refine fw_sub [3, 4, 5, 6, 0] rfl ?_
              refine fw_widen (k := 149 + (j + 1)) (n := 8268 + 6 * (j + 1)) (by show 149 + j + 1 ≤ _; omega) (by show 8268 + 6 * j + 6 ≤ _; omega) ?_
              exact ih (j + 1) _ _ (by omega) h
            · replace h := (if_neg c133).symm.trans h
              refine fw_iconst C 0 dL_law_972 rfl ?_
              exact absurd h (by decide)
        · replace h := (if_neg c130).symm.trans h
          refine fw_iconst C 0 dL_law_955 rfl ?_
          exact absurd h (by decide)
      replace h := (if_neg c122).symm.trans h
      by_cases c134 : ((fw_xs G x4.toNatClampNeg) &&& 31) = 12
      · replace h := (if_pos c134).symm.trans h
        refine fw_tableIn C 12 977 dL_law_40 c134 (by decide) (by decide) rfl (by decide) ?_
        refine fw_aload_n C 1 dL_law_977 rfl rfl ?_
        refine fw_aload_n C 0 dL_law_978 rfl rfl ?_
        refine fw_iload C 4 dL_law_979 rfl ?_
        refine fw_iconst C 1 dL_law_981 rfl ?_
        refine fw_iadd C dL_law_982 ?_
        obtain ⟨g135, h⟩ := gd_some h
        refine fw_sld C (gX_of g135) dL_law_983 ?_
        refine fw_aload_n C 0 dL_law_984 rfl rfl ?_
        refine fw_iload C 4 dL_law_985 rfl ?_
        refine fw_iconst C 2 dL_law_987 rfl ?_
        refine fw_iadd C dL_law_988 ?_
        obtain ⟨g136, h⟩ := gd_some h
        refine fw_sld C (gX_of g136) dL_law_989 ?_
        refine fw_aload_n C 3 dL_law_990 rfl rfl ?_
        obtain ⟨v137, M137, e137, h⟩ := b2_some h
        refine fw_callW [_, _, _, _] C (c_L_issues hl e137) cal_L_issues wm_L_150 wt_yL_issues rfl (Nat.le_of_ble_eq_true rfl) ⟨Nat.le_of_ble_eq_true rfl, Nat.le_of_ble_eq_true rfl⟩ ⟨by show 149 + j + 1 ≤ 601024; omega, by show 8268 + 6 * j + 6 ≤ 7293034; omega⟩ dL_law_991 ?_
        refine fw_istore C [(5, _), (0, _), (1, _), (2, _), (3, _), (4, _)] dL_law_994 (Nat.le_of_ble_eq_true rfl) rfl ?_
        refine fw_aload_n C 3 dL_law_996 rfl rfl ?_
        refine fw_aload_n C 1 dL_law_997 rfl rfl ?_
        refine fw_iload C 5 dL_law_998 rfl ?_
        refine fw_iconst C 1 dL_law_1000 rfl ?_
        refine fw_iadd C dL_law_1001 ?_
        refine fw_sld C (gX_of g135) dL_law_1002 ?_
        refine fw_aload_n C 1 dL_law_1003 rfl rfl ?_
        refine fw_iload C 5 dL_law_1004 rfl ?_
        refine fw_iconst C 2 dL_law_1006 rfl ?_
        refine fw_iadd C dL_law_1007 ?_
        refine fw_sld C (gX_of g136) dL_law_1008 ?_
        obtain ⟨g139, h⟩ := gd_some h
        obtain ⟨v138, M138, e138, h⟩ := b2_some h
        refine fw_callVL (ci := 10) [_, _] C (c_X10_issues hl e138) cal_X10_issues wm_L_152 wi_yX10_issues wsl_yX10_issues (Nat.le_of_ble_eq_true rfl) rfl (gO_of g139) rfl (Nat.le_of_ble_eq_true rfl) ⟨Nat.le_of_ble_eq_true rfl, Nat.le_of_ble_eq_true rfl⟩ ⟨by show 149 + j + 1 ≤ 601024; omega, by show 8268 + 6 * j + 6 ≤ 7293034; omega⟩ dL_law_1009 ?_
        refine fw_istore C [(6, _), (5, _), (0, _), (1, _), (2, _), (3, _), (4, _)] dL_law_1012 (Nat.le_of_ble_eq_true rfl) rfl ?_
        refine fw_aload_n C 4 dL_law_1014 rfl rfl ?_
        obtain ⟨v140, e140, h⟩ := b1_some h
        refine fw_callVL (ci := 10) [] C (c_X10_thrown hl e140) cal_X10_thrown wm_L_112 wi_yX10_thrown wsl_yX10_thrown (Nat.le_of_ble_eq_true rfl) rfl (gO_of g139) rfl (Nat.le_of_ble_eq_true rfl) ⟨Nat.le_of_ble_eq_true rfl, Nat.le_of_ble_eq_true rfl⟩ ⟨by show 149 + j + 1 ≤ 601024; omega, by show 8268 + 6 * j + 6 ≤ 7293034; omega⟩ dL_law_1015 ?_
        refine fw_iload C 1 dL_law_1018 rfl ?_
        refine fw_icmp_eq C 1025 dL_law_1020 (by decide) (fun c141 => ?_) (fun c141 => ?_)
        · replace h := (if_pos c141).symm.trans h
          refine fw_iload C 1 dL_law_1025 rfl ?_
          refine fw_if_ne C 1042 dL_law_1027 (by decide) (fun c142 => ?_) (fun c142 => ?_)
          · replace h := (if_neg c142).symm.trans h
            refine fw_goto C 2119 dL_law_1042 (by decide) ?_
            refine fw_iinc C _ 6 [(4, _), (6, _), (5, _), (0, _), (1, _), (2, _), (3, _)] dL_law_2119 rfl rfl (Nat.le_of_ble_eq_true rfl) rfl ?_
            refine fw_goto C 23 dL_law_2122 (by decide) ?_
            refine fw_sub [3, 4, 5, 6, 0] rfl ?_
            refine fw_widen (k := 149 + (j + 1)) (n := 8268 + 6 * (j + 1)) (by show 149 + j + 1 ≤ _; omega) (by show 8268 + 6 * j + 6 ≤ _; omega) ?_
            exact ih (j + 1) _ _ (by omega) h
          · replace h := (if_pos c142).symm.trans h
            refine fw_aload_n C 5 dL_law_1030 rfl rfl ?_
            refine fw_iconst C 0 dL_law_1031 rfl ?_
            obtain ⟨g143, h⟩ := gd_some h
            refine fw_lald C (gA_of g143) dL_law_1032 ?_
            refine fw_iload C 0 dL_law_1033 rfl ?_
            refine fw_i2l C dL_law_1035 ?_
            refine fw_lcmp C dL_law_1036 ?_
            refine fw_if_eq C 1042 dL_law_1037 (by decide) (fun c144 => ?_) (fun c144 => ?_)
            · replace h := (if_pos c144).symm.trans h
              refine fw_goto C 2119 dL_law_1042 (by decide) ?_
              refine fw_iinc C _ 6 [(4, _), (6, _), (5, _), (0, _), (1, _), (2, _), (3, _)] dL_law_2119 rfl rfl (Nat.le_of_ble_eq_true rfl) rfl ?_
              refine fw_goto C 23 dL_law_2122 (by decide) ?_
              refine fw_sub [3, 4, 5, 6, 0] rfl ?_
              refine fw_widen (k := 149 + (j + 1)) (n := 8268 + 6 * (j + 1)) (by show 149 + j + 1 ≤ _; omega) (by show 8268 + 6 * j + 6 ≤ _; omega) ?_
              exact ih (j + 1) _ _ (by omega) h
            · replace h := (if_neg c144).symm.trans h
              refine fw_iconst C 0 dL_law_1040 rfl ?_
              exact absurd h (by decide)
        · replace h := (if_neg c141).symm.trans h
          refine fw_iconst C 0 dL_law_1023 rfl ?_
          exact absurd h (by decide)
      replace h := (if_neg c134).symm.trans h
      by_cases c145 : ((fw_xs G x4.toNatClampNeg) &&& 31) = 13
      · replace h := (if_pos c145).symm.trans h
        refine fw_tableIn C 13 1045 dL_law_40 c145 (by decide) (by decide) rfl (by decide) ?_
        refine fw_aload_n C 1 dL_law_1045 rfl rfl ?_
        refine fw_aload_n C 0 dL_law_1046 rfl rfl ?_
        refine fw_iload C 4 dL_law_1047 rfl ?_
        refine fw_iconst C 1 dL_law_1049 rfl ?_
        refine fw_iadd C dL_law_1050 ?_
        obtain ⟨g146, h⟩ := gd_some h
        refine fw_sld C (gX_of g146) dL_law_1051 ?_
        refine fw_aload_n C 3 dL_law_1052 rfl rfl ?_
        obtain ⟨v147, M147, e147, h⟩ := b2_some h
        refine fw_callW [_, _, _] C (c_L_forced hl e147) cal_L_forced wm_L_153 wt_yL_forced rfl (Nat.le_of_ble_eq_true rfl) ⟨Nat.le_of_ble_eq_true rfl, Nat.le_of_ble_eq_true rfl⟩ ⟨by show 149 + j + 1 ≤ 601024; omega, by show 8268 + 6 * j + 6 ≤ 7293034; omega⟩ dL_law_1053 ?_
        refine fw_istore C [(5, _), (0, _), (1, _), (2, _), (3, _), (4, _)] dL_law_1056 (Nat.le_of_ble_eq_true rfl) rfl ?_
        refine fw_aload_n C 3 dL_law_1058 rfl rfl ?_
        refine fw_aload_n C 1 dL_law_1059 rfl rfl ?_
        refine fw_iload C 5 dL_law_1060 rfl ?_
        refine fw_iconst C 1 dL_law_1062 rfl ?_
        refine fw_iadd C dL_law_1063 ?_
        refine fw_sld C (gX_of g146) dL_law_1064 ?_
        obtain ⟨g149, h⟩ := gd_some h
        obtain ⟨v148, M148, e148, h⟩ := b2_some h
        refine fw_callVL (ci := 10) [_] C (c_X10_forced hl e148) cal_X10_forced wm_L_155 wi_yX10_forced wsl_yX10_forced (Nat.le_of_ble_eq_true rfl) rfl (gO_of g149) rfl (Nat.le_of_ble_eq_true rfl) ⟨Nat.le_of_ble_eq_true rfl, Nat.le_of_ble_eq_true rfl⟩ ⟨by show 149 + j + 1 ≤ 601024; omega, by show 8268 + 6 * j + 6 ≤ 7293034; omega⟩ dL_law_1065 ?_
        refine fw_istore C [(6, _), (5, _), (0, _), (1, _), (2, _), (3, _), (4, _)] dL_law_1068 (Nat.le_of_ble_eq_true rfl) rfl ?_
        refine fw_aload_n C 4 dL_law_1070 rfl rfl ?_
        obtain ⟨v150, e150, h⟩ := b1_some h
        refine fw_callVL (ci := 10) [] C (c_X10_thrown hl e150) cal_X10_thrown wm_L_112 wi_yX10_thrown wsl_yX10_thrown (Nat.le_of_ble_eq_true rfl) rfl (gO_of g149) rfl (Nat.le_of_ble_eq_true rfl) ⟨Nat.le_of_ble_eq_true rfl, Nat.le_of_ble_eq_true rfl⟩ ⟨by show 149 + j + 1 ≤ 601024; omega, by show 8268 + 6 * j + 6 ≤ 7293034; omega⟩ dL_law_1071 ?_
        refine fw_iload C 1 dL_law_1074 rfl ?_
        refine fw_icmp_eq C 1081 dL_law_1076 (by decide) (fun c151 => ?_) (fun c151 => ?_)
        · replace h := (if_pos c151).symm.trans h
          refine fw_iload C 1 dL_law_1081 rfl ?_
          refine fw_if_ne C 1098 dL_law_1083 (by decide) (fun c152 => ?_) (fun c152 => ?_)
          · replace h := (if_neg c152).symm.trans h
            refine fw_goto C 2119 dL_law_1098 (by decide) ?_
            refine fw_iinc C _ 6 [(4, _), (6, _), (5, _), (0, _), (1, _), (2, _), (3, _)] dL_law_2119 rfl rfl (Nat.le_of_ble_eq_true rfl) rfl ?_
            refine fw_goto C 23 dL_law_2122 (by decide) ?_
            refine fw_sub [3, 4, 5, 6, 0] rfl ?_
            refine fw_widen (k := 149 + (j + 1)) (n := 8268 + 6 * (j + 1)) (by show 149 + j + 1 ≤ _; omega) (by show 8268 + 6 * j + 6 ≤ _; omega) ?_
            exact ih (j + 1) _ _ (by omega) h
          · replace h := (if_pos c152).symm.trans h
            refine fw_aload_n C 5 dL_law_1086 rfl rfl ?_
            refine fw_iconst C 0 dL_law_1087 rfl ?_
            obtain ⟨g153, h⟩ := gd_some h
            refine fw_lald C (gA_of g153) dL_law_1088 ?_
            refine fw_iload C 0 dL_law_1089 rfl ?_
            refine fw_i2l C dL_law_1091 ?_
            refine fw_lcmp C dL_law_1092 ?_
            refine fw_if_eq C 1098 dL_law_1093 (by decide) (fun c154 => ?_) (fun c154 => ?_)
            · replace h := (if_pos c154).symm.trans h
              refine fw_goto C 2119 dL_law_1098 (by decide) ?_
              refine fw_iinc C _ 6 [(4, _), (6, _), (5, _), (0, _), (1, _), (2, _), (3, _)] dL_law_2119 rfl rfl (Nat.le_of_ble_eq_true rfl) rfl ?_
              refine fw_goto C 23 dL_law_2122 (by decide) ?_
              refine fw_sub [3, 4, 5, 6, 0] rfl ?_
              refine fw_widen (k := 149 + (j + 1)) (n := 8268 + 6 * (j + 1)) (by show 149 + j + 1 ≤ _; omega) (by show 8268 + 6 * j + 6 ≤ _; omega) ?_
              exact ih (j + 1) _ _ (by omega) h
            · replace h := (if_neg c154).symm.trans h
              refine fw_iconst C 0 dL_law_1096 rfl ?_
              exact absurd h (by decide)
        · replace h := (if_neg c151).symm.trans h
          refine fw_iconst C 0 dL_law_1079 rfl ?_
          exact absurd h (by decide)
      replace h := (if_neg c145).symm.trans h
      by_cases c155 : ((fw_xs G x4.toNatClampNeg) &&& 31) = 14
      · replace h := (if_pos c155).symm.trans h
        refine fw_tableIn C 14 1101 dL_law_40 c155 (by decide) (by decide) rfl (by decide) ?_
        refine fw_aload_n C 1 dL_law_1101 rfl rfl ?_
        refine fw_aload_n C 0 dL_law_1102 rfl rfl ?_
        refine fw_iload C 4 dL_law_1103 rfl ?_
        refine fw_iconst C 1 dL_law_1105 rfl ?_
        refine fw_iadd C dL_law_1106 ?_
        obtain ⟨g156, h⟩ := gd_some h
        refine fw_sld C (gX_of g156) dL_law_1107 ?_
        refine fw_aload_n C 3 dL_law_1108 rfl rfl ?_
        obtain ⟨v157, M157, e157, h⟩ := b2_some h
        refine fw_callW [_, _, _] C (c_L_say hl e157) cal_L_say wm_L_156 wt_yL_say rfl (Nat.le_of_ble_eq_true rfl) ⟨Nat.le_of_ble_eq_true rfl, Nat.le_of_ble_eq_true rfl⟩ ⟨by show 149 + j + 1 ≤ 601024; omega, by show 8268 + 6 * j + 6 ≤ 7293034; omega⟩ dL_law_1109 ?_
        refine fw_istore C [(5, _), (0, _), (1, _), (2, _), (3, _), (4, _)] dL_law_1112 (Nat.le_of_ble_eq_true rfl) rfl ?_
        refine fw_aload_n C 3 dL_law_1114 rfl rfl ?_
        refine fw_aload_n C 1 dL_law_1115 rfl rfl ?_
        refine fw_iload C 5 dL_law_1116 rfl ?_
        refine fw_iconst C 1 dL_law_1118 rfl ?_
        refine fw_iadd C dL_law_1119 ?_
        refine fw_sld C (gX_of g156) dL_law_1120 ?_
        obtain ⟨g159, h⟩ := gd_some h
        obtain ⟨v158, M158, e158, h⟩ := b2_some h
        refine fw_callVL (ci := 10) [_] C (c_X10_say hl e158) cal_X10_say wm_L_158 wi_yX10_say wsl_yX10_say (Nat.le_of_ble_eq_true rfl) rfl (gO_of g159) rfl (Nat.le_of_ble_eq_true rfl) ⟨Nat.le_of_ble_eq_true rfl, Nat.le_of_ble_eq_true rfl⟩ ⟨by show 149 + j + 1 ≤ 601024; omega, by show 8268 + 6 * j + 6 ≤ 7293034; omega⟩ dL_law_1121 ?_
        refine fw_istore C [(6, _), (5, _), (0, _), (1, _), (2, _), (3, _), (4, _)] dL_law_1124 (Nat.le_of_ble_eq_true rfl) rfl ?_
        refine fw_aload_n C 4 dL_law_1126 rfl rfl ?_
        obtain ⟨v160, e160, h⟩ := b1_some h
        refine fw_callVL (ci := 10) [] C (c_X10_thrown hl e160) cal_X10_thrown wm_L_112 wi_yX10_thrown wsl_yX10_thrown (Nat.le_of_ble_eq_true rfl) rfl (gO_of g159) rfl (Nat.le_of_ble_eq_true rfl) ⟨Nat.le_of_ble_eq_true rfl, Nat.le_of_ble_eq_true rfl⟩ ⟨by show 149 + j + 1 ≤ 601024; omega, by show 8268 + 6 * j + 6 ≤ 7293034; omega⟩ dL_law_1127 ?_
        refine fw_iload C 1 dL_law_1130 rfl ?_
        refine fw_icmp_eq C 1137 dL_law_1132 (by decide) (fun c161 => ?_) (fun c161 => ?_)
        · replace h := (if_pos c161).symm.trans h
          refine fw_iload C 1 dL_law_1137 rfl ?_
          refine fw_if_ne C 1154 dL_law_1139 (by decide) (fun c162 => ?_) (fun c162 => ?_)
          · replace h := (if_neg c162).symm.trans h
            refine fw_goto C 2119 dL_law_1154 (by decide) ?_
            refine fw_iinc C _ 6 [(4, _), (6, _), (5, _), (0, _), (1, _), (2, _), (3, _)] dL_law_2119 rfl rfl (Nat.le_of_ble_eq_true rfl) rfl ?_
            refine fw_goto C 23 dL_law_2122 (by decide) ?_
            refine fw_sub [3, 4, 5, 6, 0] rfl ?_
            refine fw_widen (k := 149 + (j + 1)) (n := 8268 + 6 * (j + 1)) (by show 149 + j + 1 ≤ _; omega) (by show 8268 + 6 * j + 6 ≤ _; omega) ?_
            exact ih (j + 1) _ _ (by omega) h
          · replace h := (if_pos c162).symm.trans h
            refine fw_aload_n C 5 dL_law_1142 rfl rfl ?_
            refine fw_iconst C 0 dL_law_1143 rfl ?_
            obtain ⟨g163, h⟩ := gd_some h
            refine fw_lald C (gA_of g163) dL_law_1144 ?_
            refine fw_iload C 0 dL_law_1145 rfl ?_
            refine fw_i2l C dL_law_1147 ?_
            refine fw_lcmp C dL_law_1148 ?_
            refine fw_if_eq C 1154 dL_law_1149 (by decide) (fun c164 => ?_) (fun c164 => ?_)
            · replace h := (if_pos c164).symm.trans h
              refine fw_goto C 2119 dL_law_1154 (by decide) ?_
              refine fw_iinc C _ 6 [(4, _), (6, _), (5, _), (0, _), (1, _), (2, _), (3, _)] dL_law_2119 rfl rfl (Nat.le_of_ble_eq_true rfl) rfl ?_
              refine fw_goto C 23 dL_law_2122 (by decide) ?_
              refine fw_sub [3, 4, 5, 6, 0] rfl ?_
              refine fw_widen (k := 149 + (j + 1)) (n := 8268 + 6 * (j + 1)) (by show 149 + j + 1 ≤ _; omega) (by show 8268 + 6 * j + 6 ≤ _; omega) ?_
              exact ih (j + 1) _ _ (by omega) h
            · replace h := (if_neg c164).symm.trans h
              refine fw_iconst C 0 dL_law_1152 rfl ?_
              exact absurd h (by decide)
        · replace h := (if_neg c161).symm.trans h
          refine fw_iconst C 0 dL_law_1135 rfl ?_
          exact absurd h (by decide)
      replace h := (if_neg c155).symm.trans h
      by_cases c165 : ((fw_xs G x4.toNatClampNeg) &&& 31) = 15
      · replace h := (if_pos c165).symm.trans h
        refine fw_tableIn C 15 1157 dL_law_40 c165 (by decide) (by decide) rfl (by decide) ?_
        refine fw_aload_n C 1 dL_law_1157 rfl rfl ?_
        refine fw_aload_n C 0 dL_law_1158 rfl rfl ?_
        refine fw_iload C 4 dL_law_1159 rfl ?_
        refine fw_iconst C 1 dL_law_1161 rfl ?_
        refine fw_iadd C dL_law_1162 ?_
        obtain ⟨g166, h⟩ := gd_some h
        refine fw_sld C (gX_of g166) dL_law_1163 ?_
        obtain ⟨g168, h⟩ := gd_some h
        obtain ⟨v167, e167, h⟩ := b1_some h
        refine fw_callVL (ci := 9) [_] C (c_X9_said hl e167) cal_X9_said wm_L_159 wi_yX9_said wsl_yX9_said (Nat.le_of_ble_eq_true rfl) rfl (gO_of g168) rfl (Nat.le_of_ble_eq_true rfl) ⟨Nat.le_of_ble_eq_true rfl, Nat.le_of_ble_eq_true rfl⟩ ⟨by show 149 + j ≤ 601024; omega, by show 8268 + 6 * j ≤ 7293034; omega⟩ dL_law_1164 ?_
        refine fw_aload_n C 2 dL_law_1167 rfl rfl ?_
        refine fw_aload_n C 0 dL_law_1168 rfl rfl ?_
        refine fw_iload C 4 dL_law_1169 rfl ?_
        refine fw_iconst C 1 dL_law_1171 rfl ?_
        refine fw_iadd C dL_law_1172 ?_
        refine fw_sld C (gX_of g166) dL_law_1173 ?_
        obtain ⟨g170, h⟩ := gd_some h
        obtain ⟨v169, M169, e169, h⟩ := b2_some h
        refine fw_callVL (ci := 10) [_] C (c_X10_said hl e169) cal_X10_said wm_L_162 wi_yX10_said wsl_yX10_said (Nat.le_of_ble_eq_true rfl) rfl (gO_of g170) rfl (Nat.le_of_ble_eq_true rfl) ⟨Nat.le_of_ble_eq_true rfl, Nat.le_of_ble_eq_true rfl⟩ ⟨by show 149 + j ≤ 601024; omega, by show 8268 + 6 * j ≤ 7293034; omega⟩ dL_law_1174 ?_
        refine fw_icmp_eq C 2119 dL_law_1177 (by decide) (fun c171 => ?_) (fun c171 => ?_)
        · replace h := (if_pos c171).symm.trans h
          refine fw_iinc C _ 4 [(4, _), (0, _), (1, _), (2, _), (3, _)] dL_law_2119 rfl rfl (Nat.le_of_ble_eq_true rfl) rfl ?_
          refine fw_goto C 23 dL_law_2122 (by decide) ?_
          refine fw_sub [1, 2, 3, 4, 0] rfl ?_
          refine fw_widen (k := 149 + (j + 1)) (n := 8268 + 6 * (j + 1)) (by show 149 + j ≤ _; omega) (by show 8268 + 6 * j ≤ _; omega) ?_
          exact ih (j + 1) _ _ (by omega) h
        · replace h := (if_neg c171).symm.trans h
          refine fw_iconst C 0 dL_law_1180 rfl ?_
          exact absurd h (by decide)
      replace h := (if_neg c165).symm.trans h
      by_cases c172 : ((fw_xs G x4.toNatClampNeg) &&& 31) = 16
      · replace h := (if_pos c172).symm.trans h
        refine fw_tableIn C 16 1182 dL_law_40 c172 (by decide) (by decide) rfl (by decide) ?_
        refine fw_aload_n C 1 dL_law_1182 rfl rfl ?_
        refine fw_aload_n C 0 dL_law_1183 rfl rfl ?_
        refine fw_iload C 4 dL_law_1184 rfl ?_
        refine fw_iconst C 1 dL_law_1186 rfl ?_
        refine fw_iadd C dL_law_1187 ?_
        obtain ⟨g173, h⟩ := gd_some h
        refine fw_sld C (gX_of g173) dL_law_1188 ?_
        refine fw_aload_n C 3 dL_law_1189 rfl rfl ?_
        obtain ⟨v174, M174, e174, h⟩ := b2_some h
        refine fw_callW [_, _, _] C (c_L_latest hl e174) cal_L_latest wm_L_163 wt_yL_latest rfl (Nat.le_of_ble_eq_true rfl) ⟨Nat.le_of_ble_eq_true rfl, Nat.le_of_ble_eq_true rfl⟩ ⟨by show 149 + j + 1 ≤ 601024; omega, by show 8268 + 6 * j + 6 ≤ 7293034; omega⟩ dL_law_1190 ?_
        refine fw_istore C [(5, _), (0, _), (1, _), (2, _), (3, _), (4, _)] dL_law_1193 (Nat.le_of_ble_eq_true rfl) rfl ?_
        refine fw_aload_n C 3 dL_law_1195 rfl rfl ?_
        refine fw_aload_n C 1 dL_law_1196 rfl rfl ?_
        refine fw_iload C 5 dL_law_1197 rfl ?_
        refine fw_iconst C 1 dL_law_1199 rfl ?_
        refine fw_iadd C dL_law_1200 ?_
        refine fw_sld C (gX_of g173) dL_law_1201 ?_
        obtain ⟨g176, h⟩ := gd_some h
        obtain ⟨v175, M175, e175, h⟩ := b2_some h
        refine fw_callVL (ci := 10) [_] C (c_X10_latest hl e175) cal_X10_latest wm_L_165 wi_yX10_latest wsl_yX10_latest (Nat.le_of_ble_eq_true rfl) rfl (gO_of g176) rfl (Nat.le_of_ble_eq_true rfl) ⟨Nat.le_of_ble_eq_true rfl, Nat.le_of_ble_eq_true rfl⟩ ⟨by show 149 + j + 1 ≤ 601024; omega, by show 8268 + 6 * j + 6 ≤ 7293034; omega⟩ dL_law_1202 ?_
        refine fw_istore C [(6, _), (5, _), (0, _), (1, _), (2, _), (3, _), (4, _)] dL_law_1205 (Nat.le_of_ble_eq_true rfl) rfl ?_
        refine fw_aload_n C 4 dL_law_1207 rfl rfl ?_
        obtain ⟨v177, e177, h⟩ := b1_some h
        refine fw_callVL (ci := 10) [] C (c_X10_thrown hl e177) cal_X10_thrown wm_L_112 wi_yX10_thrown wsl_yX10_thrown (Nat.le_of_ble_eq_true rfl) rfl (gO_of g176) rfl (Nat.le_of_ble_eq_true rfl) ⟨Nat.le_of_ble_eq_true rfl, Nat.le_of_ble_eq_true rfl⟩ ⟨by show 149 + j + 1 ≤ 601024; omega, by show 8268 + 6 * j + 6 ≤ 7293034; omega⟩ dL_law_1208 ?_
        refine fw_iload C 1 dL_law_1211 rfl ?_
        refine fw_icmp_eq C 1218 dL_law_1213 (by decide) (fun c178 => ?_) (fun c178 => ?_)
        · replace h := (if_pos c178).symm.trans h
          refine fw_iload C 1 dL_law_1218 rfl ?_
          refine fw_if_ne C 1235 dL_law_1220 (by decide) (fun c179 => ?_) (fun c179 => ?_)
          · replace h := (if_neg c179).symm.trans h
            refine fw_goto C 2119 dL_law_1235 (by decide) ?_
            refine fw_iinc C _ 6 [(4, _), (6, _), (5, _), (0, _), (1, _), (2, _), (3, _)] dL_law_2119 rfl rfl (Nat.le_of_ble_eq_true rfl) rfl ?_
            refine fw_goto C 23 dL_law_2122 (by decide) ?_
            refine fw_sub [3, 4, 5, 6, 0] rfl ?_
            refine fw_widen (k := 149 + (j + 1)) (n := 8268 + 6 * (j + 1)) (by show 149 + j + 1 ≤ _; omega) (by show 8268 + 6 * j + 6 ≤ _; omega) ?_
            exact ih (j + 1) _ _ (by omega) h
          · replace h := (if_pos c179).symm.trans h
            refine fw_aload_n C 5 dL_law_1223 rfl rfl ?_
            refine fw_iconst C 0 dL_law_1224 rfl ?_
            obtain ⟨g180, h⟩ := gd_some h
            refine fw_lald C (gA_of g180) dL_law_1225 ?_
            refine fw_iload C 0 dL_law_1226 rfl ?_
            refine fw_i2l C dL_law_1228 ?_
            refine fw_lcmp C dL_law_1229 ?_
            refine fw_if_eq C 1235 dL_law_1230 (by decide) (fun c181 => ?_) (fun c181 => ?_)
            · replace h := (if_pos c181).symm.trans h
              refine fw_goto C 2119 dL_law_1235 (by decide) ?_
              refine fw_iinc C _ 6 [(4, _), (6, _), (5, _), (0, _), (1, _), (2, _), (3, _)] dL_law_2119 rfl rfl (Nat.le_of_ble_eq_true rfl) rfl ?_
              refine fw_goto C 23 dL_law_2122 (by decide) ?_
              refine fw_sub [3, 4, 5, 6, 0] rfl ?_
              refine fw_widen (k := 149 + (j + 1)) (n := 8268 + 6 * (j + 1)) (by show 149 + j + 1 ≤ _; omega) (by show 8268 + 6 * j + 6 ≤ _; omega) ?_
              exact ih (j + 1) _ _ (by omega) h
            · replace h := (if_neg c181).symm.trans h
              refine fw_iconst C 0 dL_law_1233 rfl ?_
              exact absurd h (by decide)
        · replace h := (if_neg c178).symm.trans h
          refine fw_iconst C 0 dL_law_1216 rfl ?_
          exact absurd h (by decide)
      replace h := (if_neg c172).symm.trans h
      by_cases c182 : ((fw_xs G x4.toNatClampNeg) &&& 31) = 17
      · replace h := (if_pos c182).symm.trans h
        refine fw_tableIn C 17 1238 dL_law_40 c182 (by decide) (by decide) rfl (by decide) ?_
        refine fw_aload_n C 1 dL_law_1238 rfl rfl ?_
        refine fw_aload_n C 0 dL_law_1239 rfl rfl ?_
        refine fw_iload C 4 dL_law_1240 rfl ?_
        refine fw_iconst C 1 dL_law_1242 rfl ?_
        refine fw_iadd C dL_law_1243 ?_
        obtain ⟨g183, h⟩ := gd_some h
        refine fw_sld C (gX_of g183) dL_law_1244 ?_
        refine fw_aload_n C 0 dL_law_1245 rfl rfl ?_
        refine fw_iload C 4 dL_law_1246 rfl ?_
        refine fw_iconst C 2 dL_law_1248 rfl ?_
        refine fw_iadd C dL_law_1249 ?_
        obtain ⟨g184, h⟩ := gd_some h
        refine fw_sld C (gX_of g184) dL_law_1250 ?_
        refine fw_aload_n C 3 dL_law_1251 rfl rfl ?_
        obtain ⟨v185, M185, e185, h⟩ := b2_some h
        refine fw_callW [_, _, _, _] C (c_L_goes hl e185) cal_L_goes wm_L_166 wt_yL_goes rfl (Nat.le_of_ble_eq_true rfl) ⟨Nat.le_of_ble_eq_true rfl, Nat.le_of_ble_eq_true rfl⟩ ⟨by show 149 + j + 1 ≤ 601024; omega, by show 8268 + 6 * j + 6 ≤ 7293034; omega⟩ dL_law_1252 ?_
        refine fw_istore C [(5, _), (0, _), (1, _), (2, _), (3, _), (4, _)] dL_law_1255 (Nat.le_of_ble_eq_true rfl) rfl ?_
        refine fw_aload_n C 3 dL_law_1257 rfl rfl ?_
        refine fw_aload_n C 1 dL_law_1258 rfl rfl ?_
        refine fw_iload C 5 dL_law_1259 rfl ?_
        refine fw_iconst C 1 dL_law_1261 rfl ?_
        refine fw_iadd C dL_law_1262 ?_
        refine fw_sld C (gX_of g183) dL_law_1263 ?_
        refine fw_aload_n C 1 dL_law_1264 rfl rfl ?_
        refine fw_iload C 5 dL_law_1265 rfl ?_
        refine fw_iconst C 2 dL_law_1267 rfl ?_
        refine fw_iadd C dL_law_1268 ?_
        refine fw_sld C (gX_of g184) dL_law_1269 ?_
        obtain ⟨g187, h⟩ := gd_some h
        obtain ⟨v186, M186, e186, h⟩ := b2_some h
        refine fw_callVL (ci := 10) [_, _] C (c_X10_goes hl e186) cal_X10_goes wm_L_168 wi_yX10_goes wsl_yX10_goes (Nat.le_of_ble_eq_true rfl) rfl (gO_of g187) rfl (Nat.le_of_ble_eq_true rfl) ⟨Nat.le_of_ble_eq_true rfl, Nat.le_of_ble_eq_true rfl⟩ ⟨by show 149 + j + 1 ≤ 601024; omega, by show 8268 + 6 * j + 6 ≤ 7293034; omega⟩ dL_law_1270 ?_
        refine fw_istore C [(6, _), (5, _), (0, _), (1, _), (2, _), (3, _), (4, _)] dL_law_1273 (Nat.le_of_ble_eq_true rfl) rfl ?_
        refine fw_aload_n C 4 dL_law_1275 rfl rfl ?_
        obtain ⟨v188, e188, h⟩ := b1_some h
        refine fw_callVL (ci := 10) [] C (c_X10_thrown hl e188) cal_X10_thrown wm_L_112 wi_yX10_thrown wsl_yX10_thrown (Nat.le_of_ble_eq_true rfl) rfl (gO_of g187) rfl (Nat.le_of_ble_eq_true rfl) ⟨Nat.le_of_ble_eq_true rfl, Nat.le_of_ble_eq_true rfl⟩ ⟨by show 149 + j + 1 ≤ 601024; omega, by show 8268 + 6 * j + 6 ≤ 7293034; omega⟩ dL_law_1276 ?_
        refine fw_iload C 1 dL_law_1279 rfl ?_
        refine fw_icmp_eq C 1286 dL_law_1281 (by decide) (fun c189 => ?_) (fun c189 => ?_)
        · replace h := (if_pos c189).symm.trans h
          refine fw_iload C 1 dL_law_1286 rfl ?_
          refine fw_if_ne C 1303 dL_law_1288 (by decide) (fun c190 => ?_) (fun c190 => ?_)
          · replace h := (if_neg c190).symm.trans h
            refine fw_goto C 2119 dL_law_1303 (by decide) ?_
            refine fw_iinc C _ 6 [(4, _), (6, _), (5, _), (0, _), (1, _), (2, _), (3, _)] dL_law_2119 rfl rfl (Nat.le_of_ble_eq_true rfl) rfl ?_
            refine fw_goto C 23 dL_law_2122 (by decide) ?_
            refine fw_sub [3, 4, 5, 6, 0] rfl ?_
            refine fw_widen (k := 149 + (j + 1)) (n := 8268 + 6 * (j + 1)) (by show 149 + j + 1 ≤ _; omega) (by show 8268 + 6 * j + 6 ≤ _; omega) ?_
            exact ih (j + 1) _ _ (by omega) h
          · replace h := (if_pos c190).symm.trans h
            refine fw_aload_n C 5 dL_law_1291 rfl rfl ?_
            refine fw_iconst C 0 dL_law_1292 rfl ?_
            obtain ⟨g191, h⟩ := gd_some h
            refine fw_lald C (gA_of g191) dL_law_1293 ?_
            refine fw_iload C 0 dL_law_1294 rfl ?_
            refine fw_i2l C dL_law_1296 ?_
            refine fw_lcmp C dL_law_1297 ?_
            refine fw_if_eq C 1303 dL_law_1298 (by decide) (fun c192 => ?_) (fun c192 => ?_)
            · replace h := (if_pos c192).symm.trans h
              refine fw_goto C 2119 dL_law_1303 (by decide) ?_
              refine fw_iinc C _ 6 [(4, _), (6, _), (5, _), (0, _), (1, _), (2, _), (3, _)] dL_law_2119 rfl rfl (Nat.le_of_ble_eq_true rfl) rfl ?_
              refine fw_goto C 23 dL_law_2122 (by decide) ?_
              refine fw_sub [3, 4, 5, 6, 0] rfl ?_
              refine fw_widen (k := 149 + (j + 1)) (n := 8268 + 6 * (j + 1)) (by show 149 + j + 1 ≤ _; omega) (by show 8268 + 6 * j + 6 ≤ _; omega) ?_
              exact ih (j + 1) _ _ (by omega) h
            · replace h := (if_neg c192).symm.trans h
              refine fw_iconst C 0 dL_law_1301 rfl ?_
              exact absurd h (by decide)
        · replace h := (if_neg c189).symm.trans h
          refine fw_iconst C 0 dL_law_1284 rfl ?_
          exact absurd h (by decide)
      replace h := (if_neg c182).symm.trans h
      by_cases c193 : ((fw_xs G x4.toNatClampNeg) &&& 31) = 18
      · replace h := (if_pos c193).symm.trans h
        refine fw_tableIn C 18 1306 dL_law_40 c193 (by decide) (by decide) rfl (by decide) ?_
        refine fw_aload_n C 1 dL_law_1306 rfl rfl ?_
        refine fw_aload_n C 0 dL_law_1307 rfl rfl ?_
        refine fw_iload C 4 dL_law_1308 rfl ?_
        refine fw_iconst C 1 dL_law_1310 rfl ?_
        refine fw_iadd C dL_law_1311 ?_
        obtain ⟨g194, h⟩ := gd_some h
        refine fw_sld C (gX_of g194) dL_law_1312 ?_
        refine fw_aload_n C 0 dL_law_1313 rfl rfl ?_
        refine fw_iload C 4 dL_law_1314 rfl ?_
        refine fw_iconst C 2 dL_law_1316 rfl ?_
        refine fw_iadd C dL_law_1317 ?_
        obtain ⟨g195, h⟩ := gd_some h
        refine fw_sld C (gX_of g195) dL_law_1318 ?_
        refine fw_aload_n C 0 dL_law_1319 rfl rfl ?_
        refine fw_iload C 4 dL_law_1320 rfl ?_
        refine fw_iconst C 3 dL_law_1322 rfl ?_
        refine fw_iadd C dL_law_1323 ?_
        obtain ⟨g196, h⟩ := gd_some h
        refine fw_sld C (gX_of g196) dL_law_1324 ?_
        refine fw_aload_n C 0 dL_law_1325 rfl rfl ?_
        refine fw_iload C 4 dL_law_1326 rfl ?_
        refine fw_iconst C 4 dL_law_1328 rfl ?_
        refine fw_iadd C dL_law_1329 ?_
        obtain ⟨g197, h⟩ := gd_some h
        refine fw_sld C (gX_of g197) dL_law_1330 ?_
        refine fw_aload_n C 0 dL_law_1331 rfl rfl ?_
        refine fw_iload C 4 dL_law_1332 rfl ?_
        refine fw_iconst C 5 dL_law_1334 rfl ?_
        refine fw_iadd C dL_law_1335 ?_
        obtain ⟨g198, h⟩ := gd_some h
        refine fw_sld C (gX_of g198) dL_law_1336 ?_
        refine fw_aload_n C 0 dL_law_1337 rfl rfl ?_
        refine fw_iload C 4 dL_law_1338 rfl ?_
        refine fw_bipush C 6 dL_law_1340 rfl ?_
        refine fw_iadd C dL_law_1342 ?_
        obtain ⟨g199, h⟩ := gd_some h
        refine fw_sld C (gX_of g199) dL_law_1343 ?_
        refine fw_aload_n C 3 dL_law_1344 rfl rfl ?_
        obtain ⟨v200, M200, e200, h⟩ := b2_some h
        refine fw_callW [_, _, _, _, _, _, _, _] C (c_L_would hl e200) cal_L_would wm_L_169 wt_yL_would rfl (Nat.le_of_ble_eq_true rfl) ⟨Nat.le_of_ble_eq_true rfl, Nat.le_of_ble_eq_true rfl⟩ ⟨by show 149 + j + 1 ≤ 601024; omega, by show 8268 + 6 * j + 6 ≤ 7293034; omega⟩ dL_law_1345 ?_
        refine fw_istore C [(5, _), (0, _), (1, _), (2, _), (3, _), (4, _)] dL_law_1348 (Nat.le_of_ble_eq_true rfl) rfl ?_
        refine fw_aload_n C 3 dL_law_1350 rfl rfl ?_
        refine fw_aload_n C 1 dL_law_1351 rfl rfl ?_
        refine fw_iload C 5 dL_law_1352 rfl ?_
        refine fw_iconst C 1 dL_law_1354 rfl ?_
        refine fw_iadd C dL_law_1355 ?_
        refine fw_sld C (gX_of g194) dL_law_1356 ?_
        refine fw_aload_n C 1 dL_law_1357 rfl rfl ?_
        refine fw_iload C 5 dL_law_1358 rfl ?_
        refine fw_iconst C 2 dL_law_1360 rfl ?_
        refine fw_iadd C dL_law_1361 ?_
        refine fw_sld C (gX_of g195) dL_law_1362 ?_
        refine fw_aload_n C 1 dL_law_1363 rfl rfl ?_
        refine fw_iload C 5 dL_law_1364 rfl ?_
        refine fw_iconst C 3 dL_law_1366 rfl ?_
        refine fw_iadd C dL_law_1367 ?_
        refine fw_sld C (gX_of g196) dL_law_1368 ?_
        refine fw_aload_n C 1 dL_law_1369 rfl rfl ?_
        refine fw_iload C 5 dL_law_1370 rfl ?_
        refine fw_iconst C 4 dL_law_1372 rfl ?_
        refine fw_iadd C dL_law_1373 ?_
        refine fw_sld C (gX_of g197) dL_law_1374 ?_
        refine fw_aload_n C 1 dL_law_1375 rfl rfl ?_
        refine fw_iload C 5 dL_law_1376 rfl ?_
        refine fw_iconst C 5 dL_law_1378 rfl ?_
        refine fw_iadd C dL_law_1379 ?_
        refine fw_sld C (gX_of g198) dL_law_1380 ?_
        refine fw_aload_n C 1 dL_law_1381 rfl rfl ?_
        refine fw_iload C 5 dL_law_1382 rfl ?_
        refine fw_bipush C 6 dL_law_1384 rfl ?_
        refine fw_iadd C dL_law_1386 ?_
        refine fw_sld C (gX_of g199) dL_law_1387 ?_
        obtain ⟨g202, h⟩ := gd_some h
        obtain ⟨v201, M201, e201, h⟩ := b2_some h
        refine fw_callVL (ci := 10) [_, _, _, _, _, _] C (c_X10_would hl e201) cal_X10_would wm_L_172 wi_yX10_would wsl_yX10_would (Nat.le_of_ble_eq_true rfl) rfl (gO_of g202) rfl (Nat.le_of_ble_eq_true rfl) ⟨Nat.le_of_ble_eq_true rfl, Nat.le_of_ble_eq_true rfl⟩ ⟨by show 149 + j + 1 ≤ 601024; omega, by show 8268 + 6 * j + 6 ≤ 7293034; omega⟩ dL_law_1388 ?_
        refine fw_istore C [(6, _), (5, _), (0, _), (1, _), (2, _), (3, _), (4, _)] dL_law_1391 (Nat.le_of_ble_eq_true rfl) rfl ?_
        refine fw_aload_n C 4 dL_law_1393 rfl rfl ?_
        obtain ⟨v203, e203, h⟩ := b1_some h
        refine fw_callVL (ci := 10) [] C (c_X10_thrown hl e203) cal_X10_thrown wm_L_112 wi_yX10_thrown wsl_yX10_thrown (Nat.le_of_ble_eq_true rfl) rfl (gO_of g202) rfl (Nat.le_of_ble_eq_true rfl) ⟨Nat.le_of_ble_eq_true rfl, Nat.le_of_ble_eq_true rfl⟩ ⟨by show 149 + j + 1 ≤ 601024; omega, by show 8268 + 6 * j + 6 ≤ 7293034; omega⟩ dL_law_1394 ?_
        refine fw_iload C 1 dL_law_1397 rfl ?_
        refine fw_icmp_eq C 1404 dL_law_1399 (by decide) (fun c204 => ?_) (fun c204 => ?_)
        · replace h := (if_pos c204).symm.trans h
          refine fw_iload C 1 dL_law_1404 rfl ?_
          refine fw_if_ne C 1421 dL_law_1406 (by decide) (fun c205 => ?_) (fun c205 => ?_)
          · replace h := (if_neg c205).symm.trans h
            refine fw_goto C 2119 dL_law_1421 (by decide) ?_
            refine fw_iinc C _ 6 [(4, _), (6, _), (5, _), (0, _), (1, _), (2, _), (3, _)] dL_law_2119 rfl rfl (Nat.le_of_ble_eq_true rfl) rfl ?_
            refine fw_goto C 23 dL_law_2122 (by decide) ?_
            refine fw_sub [3, 4, 5, 6, 0] rfl ?_
            refine fw_widen (k := 149 + (j + 1)) (n := 8268 + 6 * (j + 1)) (by show 149 + j + 1 ≤ _; omega) (by show 8268 + 6 * j + 6 ≤ _; omega) ?_
            exact ih (j + 1) _ _ (by omega) h
          · replace h := (if_pos c205).symm.trans h
            refine fw_aload_n C 5 dL_law_1409 rfl rfl ?_
            refine fw_iconst C 0 dL_law_1410 rfl ?_
            obtain ⟨g206, h⟩ := gd_some h
            refine fw_lald C (gA_of g206) dL_law_1411 ?_
            refine fw_iload C 0 dL_law_1412 rfl ?_
            refine fw_i2l C dL_law_1414 ?_
            refine fw_lcmp C dL_law_1415 ?_
            refine fw_if_eq C 1421 dL_law_1416 (by decide) (fun c207 => ?_) (fun c207 => ?_)
            · replace h := (if_pos c207).symm.trans h
              refine fw_goto C 2119 dL_law_1421 (by decide) ?_
              refine fw_iinc C _ 6 [(4, _), (6, _), (5, _), (0, _), (1, _), (2, _), (3, _)] dL_law_2119 rfl rfl (Nat.le_of_ble_eq_true rfl) rfl ?_
              refine fw_goto C 23 dL_law_2122 (by decide) ?_
              refine fw_sub [3, 4, 5, 6, 0] rfl ?_
              refine fw_widen (k := 149 + (j + 1)) (n := 8268 + 6 * (j + 1)) (by show 149 + j + 1 ≤ _; omega) (by show 8268 + 6 * j + 6 ≤ _; omega) ?_
              exact ih (j + 1) _ _ (by omega) h
            · replace h := (if_neg c207).symm.trans h
              refine fw_iconst C 0 dL_law_1419 rfl ?_
              exact absurd h (by decide)
        · replace h := (if_neg c204).symm.trans h
          refine fw_iconst C 0 dL_law_1402 rfl ?_
          exact absurd h (by decide)
      replace h := (if_neg c193).symm.trans h
      by_cases c208 : ((fw_xs G x4.toNatClampNeg) &&& 31) = 19
      · replace h := (if_pos c208).symm.trans h
        refine fw_tableIn C 19 1424 dL_law_40 c208 (by decide) (by decide) rfl (by decide) ?_
        refine fw_aload_n C 1 dL_law_1424 rfl rfl ?_
        refine fw_aload_n C 0 dL_law_1425 rfl rfl ?_
        refine fw_iload C 4 dL_law_1426 rfl ?_
        refine fw_iconst C 1 dL_law_1428 rfl ?_
        refine fw_iadd C dL_law_1429 ?_
        obtain ⟨g209, h⟩ := gd_some h
        refine fw_sld C (gX_of g209) dL_law_1430 ?_
        refine fw_aload_n C 3 dL_law_1431 rfl rfl ?_
        obtain ⟨v210, M210, e210, h⟩ := b2_some h
        refine fw_callW [_, _, _] C (c_L_freeTill hl e210) cal_L_freeTill wm_L_173 wt_yL_freeTill rfl (Nat.le_of_ble_eq_true rfl) ⟨Nat.le_of_ble_eq_true rfl, Nat.le_of_ble_eq_true rfl⟩ ⟨by show 149 + j + 1 ≤ 601024; omega, by show 8268 + 6 * j + 6 ≤ 7293034; omega⟩ dL_law_1432 ?_
        refine fw_istore C [(5, _), (0, _), (1, _), (2, _), (3, _), (4, _)] dL_law_1435 (Nat.le_of_ble_eq_true rfl) rfl ?_
        refine fw_aload_n C 3 dL_law_1437 rfl rfl ?_
        refine fw_aload_n C 1 dL_law_1438 rfl rfl ?_
        refine fw_iload C 5 dL_law_1439 rfl ?_
        refine fw_iconst C 1 dL_law_1441 rfl ?_
        refine fw_iadd C dL_law_1442 ?_
        refine fw_sld C (gX_of g209) dL_law_1443 ?_
        obtain ⟨g212, h⟩ := gd_some h
        obtain ⟨v211, M211, e211, h⟩ := b2_some h
        refine fw_callVL (ci := 10) [_] C (c_X10_freeTill hl e211) cal_X10_freeTill wm_L_175 wi_yX10_freeTill wsl_yX10_freeTill (Nat.le_of_ble_eq_true rfl) rfl (gO_of g212) rfl (Nat.le_of_ble_eq_true rfl) ⟨Nat.le_of_ble_eq_true rfl, Nat.le_of_ble_eq_true rfl⟩ ⟨by show 149 + j + 1 ≤ 601024; omega, by show 8268 + 6 * j + 6 ≤ 7293034; omega⟩ dL_law_1444 ?_
        refine fw_istore C [(6, _), (5, _), (0, _), (1, _), (2, _), (3, _), (4, _)] dL_law_1447 (Nat.le_of_ble_eq_true rfl) rfl ?_
        refine fw_aload_n C 4 dL_law_1449 rfl rfl ?_
        obtain ⟨v213, e213, h⟩ := b1_some h
        refine fw_callVL (ci := 10) [] C (c_X10_thrown hl e213) cal_X10_thrown wm_L_112 wi_yX10_thrown wsl_yX10_thrown (Nat.le_of_ble_eq_true rfl) rfl (gO_of g212) rfl (Nat.le_of_ble_eq_true rfl) ⟨Nat.le_of_ble_eq_true rfl, Nat.le_of_ble_eq_true rfl⟩ ⟨by show 149 + j + 1 ≤ 601024; omega, by show 8268 + 6 * j + 6 ≤ 7293034; omega⟩ dL_law_1450 ?_
        refine fw_iload C 1 dL_law_1453 rfl ?_
        refine fw_icmp_eq C 1460 dL_law_1455 (by decide) (fun c214 => ?_) (fun c214 => ?_)
        · replace h := (if_pos c214).symm.trans h
          refine fw_iload C 1 dL_law_1460 rfl ?_
          refine fw_if_ne C 1477 dL_law_1462 (by decide) (fun c215 => ?_) (fun c215 => ?_)
          · replace h := (if_neg c215).symm.trans h
            refine fw_goto C 2119 dL_law_1477 (by decide) ?_
            refine fw_iinc C _ 6 [(4, _), (6, _), (5, _), (0, _), (1, _), (2, _), (3, _)] dL_law_2119 rfl rfl (Nat.le_of_ble_eq_true rfl) rfl ?_
            refine fw_goto C 23 dL_law_2122 (by decide) ?_
            refine fw_sub [3, 4, 5, 6, 0] rfl ?_
            refine fw_widen (k := 149 + (j + 1)) (n := 8268 + 6 * (j + 1)) (by show 149 + j + 1 ≤ _; omega) (by show 8268 + 6 * j + 6 ≤ _; omega) ?_
            exact ih (j + 1) _ _ (by omega) h
          · replace h := (if_pos c215).symm.trans h
            refine fw_aload_n C 5 dL_law_1465 rfl rfl ?_
            refine fw_iconst C 0 dL_law_1466 rfl ?_
            obtain ⟨g216, h⟩ := gd_some h
            refine fw_lald C (gA_of g216) dL_law_1467 ?_
            refine fw_iload C 0 dL_law_1468 rfl ?_
            refine fw_i2l C dL_law_1470 ?_
            refine fw_lcmp C dL_law_1471 ?_
            refine fw_if_eq C 1477 dL_law_1472 (by decide) (fun c217 => ?_) (fun c217 => ?_)
            · replace h := (if_pos c217).symm.trans h
              refine fw_goto C 2119 dL_law_1477 (by decide) ?_
              refine fw_iinc C _ 6 [(4, _), (6, _), (5, _), (0, _), (1, _), (2, _), (3, _)] dL_law_2119 rfl rfl (Nat.le_of_ble_eq_true rfl) rfl ?_
              refine fw_goto C 23 dL_law_2122 (by decide) ?_
              refine fw_sub [3, 4, 5, 6, 0] rfl ?_
              refine fw_widen (k := 149 + (j + 1)) (n := 8268 + 6 * (j + 1)) (by show 149 + j + 1 ≤ _; omega) (by show 8268 + 6 * j + 6 ≤ _; omega) ?_
              exact ih (j + 1) _ _ (by omega) h
            · replace h := (if_neg c217).symm.trans h
              refine fw_iconst C 0 dL_law_1475 rfl ?_
              exact absurd h (by decide)
        · replace h := (if_neg c214).symm.trans h
          refine fw_iconst C 0 dL_law_1458 rfl ?_
          exact absurd h (by decide)
      replace h := (if_neg c208).symm.trans h
      by_cases c218 : ((fw_xs G x4.toNatClampNeg) &&& 31) = 20
      · replace h := (if_pos c218).symm.trans h
        refine fw_tableIn C 20 1480 dL_law_40 c218 (by decide) (by decide) rfl (by decide) ?_
        refine fw_aload_n C 1 dL_law_1480 rfl rfl ?_
        refine fw_aload_n C 0 dL_law_1481 rfl rfl ?_
        refine fw_iload C 4 dL_law_1482 rfl ?_
        refine fw_iconst C 1 dL_law_1484 rfl ?_
        refine fw_iadd C dL_law_1485 ?_
        obtain ⟨g219, h⟩ := gd_some h
        refine fw_sld C (gX_of g219) dL_law_1486 ?_
        refine fw_aload_n C 3 dL_law_1487 rfl rfl ?_
        obtain ⟨v220, M220, e220, h⟩ := b2_some h
        refine fw_callW [_, _, _] C (c_L_against hl e220) cal_L_against wm_L_176 wt_yL_against rfl (Nat.le_of_ble_eq_true rfl) ⟨Nat.le_of_ble_eq_true rfl, Nat.le_of_ble_eq_true rfl⟩ ⟨by show 149 + j + 1 ≤ 601024; omega, by show 8268 + 6 * j + 6 ≤ 7293034; omega⟩ dL_law_1488 ?_
        refine fw_istore C [(5, _), (0, _), (1, _), (2, _), (3, _), (4, _)] dL_law_1491 (Nat.le_of_ble_eq_true rfl) rfl ?_
        refine fw_aload_n C 3 dL_law_1493 rfl rfl ?_
        refine fw_aload_n C 1 dL_law_1494 rfl rfl ?_
        refine fw_iload C 5 dL_law_1495 rfl ?_
        refine fw_iconst C 1 dL_law_1497 rfl ?_
        refine fw_iadd C dL_law_1498 ?_
        refine fw_sld C (gX_of g219) dL_law_1499 ?_
        obtain ⟨g222, h⟩ := gd_some h
        obtain ⟨v221, M221, e221, h⟩ := b2_some h
        refine fw_callVL (ci := 10) [_] C (c_X10_against hl e221) cal_X10_against wm_L_178 wi_yX10_against wsl_yX10_against (Nat.le_of_ble_eq_true rfl) rfl (gO_of g222) rfl (Nat.le_of_ble_eq_true rfl) ⟨Nat.le_of_ble_eq_true rfl, Nat.le_of_ble_eq_true rfl⟩ ⟨by show 149 + j + 1 ≤ 601024; omega, by show 8268 + 6 * j + 6 ≤ 7293034; omega⟩ dL_law_1500 ?_
        refine fw_istore C [(6, _), (5, _), (0, _), (1, _), (2, _), (3, _), (4, _)] dL_law_1503 (Nat.le_of_ble_eq_true rfl) rfl ?_
        refine fw_aload_n C 4 dL_law_1505 rfl rfl ?_
        obtain ⟨v223, e223, h⟩ := b1_some h
        refine fw_callVL (ci := 10) [] C (c_X10_thrown hl e223) cal_X10_thrown wm_L_112 wi_yX10_thrown wsl_yX10_thrown (Nat.le_of_ble_eq_true rfl) rfl (gO_of g222) rfl (Nat.le_of_ble_eq_true rfl) ⟨Nat.le_of_ble_eq_true rfl, Nat.le_of_ble_eq_true rfl⟩ ⟨by show 149 + j + 1 ≤ 601024; omega, by show 8268 + 6 * j + 6 ≤ 7293034; omega⟩ dL_law_1506 ?_
        refine fw_iload C 1 dL_law_1509 rfl ?_
        refine fw_icmp_eq C 1516 dL_law_1511 (by decide) (fun c224 => ?_) (fun c224 => ?_)
        · replace h := (if_pos c224).symm.trans h
          refine fw_iload C 1 dL_law_1516 rfl ?_
          refine fw_if_ne C 1533 dL_law_1518 (by decide) (fun c225 => ?_) (fun c225 => ?_)
          · replace h := (if_neg c225).symm.trans h
            refine fw_goto C 2119 dL_law_1533 (by decide) ?_
            refine fw_iinc C _ 6 [(4, _), (6, _), (5, _), (0, _), (1, _), (2, _), (3, _)] dL_law_2119 rfl rfl (Nat.le_of_ble_eq_true rfl) rfl ?_
            refine fw_goto C 23 dL_law_2122 (by decide) ?_
            refine fw_sub [3, 4, 5, 6, 0] rfl ?_
            refine fw_widen (k := 149 + (j + 1)) (n := 8268 + 6 * (j + 1)) (by show 149 + j + 1 ≤ _; omega) (by show 8268 + 6 * j + 6 ≤ _; omega) ?_
            exact ih (j + 1) _ _ (by omega) h
          · replace h := (if_pos c225).symm.trans h
            refine fw_aload_n C 5 dL_law_1521 rfl rfl ?_
            refine fw_iconst C 0 dL_law_1522 rfl ?_
            obtain ⟨g226, h⟩ := gd_some h
            refine fw_lald C (gA_of g226) dL_law_1523 ?_
            refine fw_iload C 0 dL_law_1524 rfl ?_
            refine fw_i2l C dL_law_1526 ?_
            refine fw_lcmp C dL_law_1527 ?_
            refine fw_if_eq C 1533 dL_law_1528 (by decide) (fun c227 => ?_) (fun c227 => ?_)
            · replace h := (if_pos c227).symm.trans h
              refine fw_goto C 2119 dL_law_1533 (by decide) ?_
              refine fw_iinc C _ 6 [(4, _), (6, _), (5, _), (0, _), (1, _), (2, _), (3, _)] dL_law_2119 rfl rfl (Nat.le_of_ble_eq_true rfl) rfl ?_
              refine fw_goto C 23 dL_law_2122 (by decide) ?_
              refine fw_sub [3, 4, 5, 6, 0] rfl ?_
              refine fw_widen (k := 149 + (j + 1)) (n := 8268 + 6 * (j + 1)) (by show 149 + j + 1 ≤ _; omega) (by show 8268 + 6 * j + 6 ≤ _; omega) ?_
              exact ih (j + 1) _ _ (by omega) h
            · replace h := (if_neg c227).symm.trans h
              refine fw_iconst C 0 dL_law_1531 rfl ?_
              exact absurd h (by decide)
        · replace h := (if_neg c224).symm.trans h
          refine fw_iconst C 0 dL_law_1514 rfl ?_
          exact absurd h (by decide)
      replace h := (if_neg c218).symm.trans h
      by_cases c228 : ((fw_xs G x4.toNatClampNeg) &&& 31) = 21
      · replace h := (if_pos c228).symm.trans h
        refine fw_tableIn C 21 1536 dL_law_40 c228 (by decide) (by decide) rfl (by decide) ?_
        refine fw_aload_n C 1 dL_law_1536 rfl rfl ?_
        refine fw_aload_n C 0 dL_law_1537 rfl rfl ?_
        refine fw_iload C 4 dL_law_1538 rfl ?_
        refine fw_iconst C 1 dL_law_1540 rfl ?_
        refine fw_iadd C dL_law_1541 ?_
        obtain ⟨g229, h⟩ := gd_some h
        refine fw_sld C (gX_of g229) dL_law_1542 ?_
        refine fw_aload_n C 0 dL_law_1543 rfl rfl ?_
        refine fw_iload C 4 dL_law_1544 rfl ?_
        refine fw_iconst C 2 dL_law_1546 rfl ?_
        refine fw_iadd C dL_law_1547 ?_
        obtain ⟨g230, h⟩ := gd_some h
        refine fw_sld C (gX_of g230) dL_law_1548 ?_
        refine fw_aload_n C 0 dL_law_1549 rfl rfl ?_
        refine fw_iload C 4 dL_law_1550 rfl ?_
        refine fw_iconst C 3 dL_law_1552 rfl ?_
        refine fw_iadd C dL_law_1553 ?_
        obtain ⟨g231, h⟩ := gd_some h
        refine fw_sld C (gX_of g231) dL_law_1554 ?_
        refine fw_if_eq C 1562 dL_law_1555 (by decide) (fun c232 => ?_) (fun c232 => ?_)
        · replace h := (if_pos c232).symm.trans h
          refine fw_iconst C 0 dL_law_1562 rfl ?_
          refine fw_aload_n C 3 dL_law_1563 rfl rfl ?_
          obtain ⟨v233, M233, e233, h⟩ := b2_some h
          refine fw_callW [_, _, _, _, _] C (c_L_judge hl e233) cal_L_judge wm_L_179 wt_yL_judge rfl (Nat.le_of_ble_eq_true rfl) ⟨Nat.le_of_ble_eq_true rfl, Nat.le_of_ble_eq_true rfl⟩ ⟨by show 149 + j + 1 ≤ 601024; omega, by show 8268 + 6 * j + 6 ≤ 7293034; omega⟩ dL_law_1564 ?_
          refine fw_istore C [(5, _), (0, _), (1, _), (2, _), (3, _), (4, _)] dL_law_1567 (Nat.le_of_ble_eq_true rfl) rfl ?_
          refine fw_aload_n C 3 dL_law_1569 rfl rfl ?_
          refine fw_aload_n C 1 dL_law_1570 rfl rfl ?_
          refine fw_iload C 5 dL_law_1571 rfl ?_
          refine fw_iconst C 1 dL_law_1573 rfl ?_
          refine fw_iadd C dL_law_1574 ?_
          refine fw_sld C (gX_of g229) dL_law_1575 ?_
          refine fw_aload_n C 1 dL_law_1576 rfl rfl ?_
          refine fw_iload C 5 dL_law_1577 rfl ?_
          refine fw_iconst C 2 dL_law_1579 rfl ?_
          refine fw_iadd C dL_law_1580 ?_
          refine fw_sld C (gX_of g230) dL_law_1581 ?_
          refine fw_aload_n C 1 dL_law_1582 rfl rfl ?_
          refine fw_iload C 5 dL_law_1583 rfl ?_
          refine fw_iconst C 3 dL_law_1585 rfl ?_
          refine fw_iadd C dL_law_1586 ?_
          refine fw_sld C (gX_of g231) dL_law_1587 ?_
          refine fw_if_eq C 1595 dL_law_1588 (by decide) (fun c234 => ?_) (fun c234 => ?_)
          · replace h := (if_pos c234).symm.trans h
            refine fw_iconst C 0 dL_law_1595 rfl ?_
            obtain ⟨g236, h⟩ := gd_some h
            obtain ⟨v235, M235, e235, h⟩ := b2_some h
            refine fw_callVL (ci := 10) [_, _, _] C (c_X10_judge hl e235) cal_X10_judge wm_L_182 wi_yX10_judge wsl_yX10_judge (Nat.le_of_ble_eq_true rfl) rfl (gO_of g236) rfl (Nat.le_of_ble_eq_true rfl) ⟨Nat.le_of_ble_eq_true rfl, Nat.le_of_ble_eq_true rfl⟩ ⟨by show 149 + j + 1 ≤ 601024; omega, by show 8268 + 6 * j + 6 ≤ 7293034; omega⟩ dL_law_1596 ?_
            refine fw_istore C [(6, _), (5, _), (0, _), (1, _), (2, _), (3, _), (4, _)] dL_law_1599 (Nat.le_of_ble_eq_true rfl) rfl ?_
            refine fw_aload_n C 4 dL_law_1601 rfl rfl ?_
            obtain ⟨v237, e237, h⟩ := b1_some h
            refine fw_callVL (ci := 10) [] C (c_X10_thrown hl e237) cal_X10_thrown wm_L_112 wi_yX10_thrown wsl_yX10_thrown (Nat.le_of_ble_eq_true rfl) rfl (gO_of g236) rfl (Nat.le_of_ble_eq_true rfl) ⟨Nat.le_of_ble_eq_true rfl, Nat.le_of_ble_eq_true rfl⟩ ⟨by show 149 + j + 1 ≤ 601024; omega, by show 8268 + 6 * j + 6 ≤ 7293034; omega⟩ dL_law_1602 ?_
            refine fw_iload C 1 dL_law_1605 rfl ?_
            refine fw_icmp_eq C 1612 dL_law_1607 (by decide) (fun c238 => ?_) (fun c238 => ?_)
            · replace h := (if_pos c238).symm.trans h
              refine fw_iload C 1 dL_law_1612 rfl ?_
              refine fw_if_ne C 1636 dL_law_1614 (by decide) (fun c239 => ?_) (fun c239 => ?_)
              · replace h := (if_neg c239).symm.trans h
                refine fw_goto C 2119 dL_law_1636 (by decide) ?_
                refine fw_iinc C _ 6 [(4, _), (6, _), (5, _), (0, _), (1, _), (2, _), (3, _)] dL_law_2119 rfl rfl (Nat.le_of_ble_eq_true rfl) rfl ?_
                refine fw_goto C 23 dL_law_2122 (by decide) ?_
                refine fw_sub [3, 4, 5, 6, 0] rfl ?_
                refine fw_widen (k := 149 + (j + 1)) (n := 8268 + 6 * (j + 1)) (by show 149 + j + 1 ≤ _; omega) (by show 8268 + 6 * j + 6 ≤ _; omega) ?_
                exact ih (j + 1) _ _ (by omega) h
              · replace h := (if_pos c239).symm.trans h
                refine fw_aload_n C 5 dL_law_1617 rfl rfl ?_
                refine fw_iconst C 0 dL_law_1618 rfl ?_
                obtain ⟨g240, h⟩ := gd_some h
                refine fw_lald C (gA_of g240) dL_law_1619 ?_
                refine fw_iload C 0 dL_law_1620 rfl ?_
                refine fw_if_eq C 1629 dL_law_1622 (by decide) (fun c241 => ?_) (fun c241 => ?_)
                · replace h := (if_pos c241).symm.trans h
                  refine fw_lconst C ((0 : Int32).toInt64) dL_law_1629 rfl ?_
                  refine fw_lcmp C dL_law_1630 ?_
                  refine fw_if_eq C 1636 dL_law_1631 (by decide) (fun c242 => ?_) (fun c242 => ?_)
                  · replace h := (if_pos c242).symm.trans h
                    refine fw_goto C 2119 dL_law_1636 (by decide) ?_
                    refine fw_iinc C _ 6 [(4, _), (6, _), (5, _), (0, _), (1, _), (2, _), (3, _)] dL_law_2119 rfl rfl (Nat.le_of_ble_eq_true rfl) rfl ?_
                    refine fw_goto C 23 dL_law_2122 (by decide) ?_
                    refine fw_sub [3, 4, 5, 6, 0] rfl ?_
                    refine fw_widen (k := 149 + (j + 1)) (n := 8268 + 6 * (j + 1)) (by show 149 + j + 1 ≤ _; omega) (by show 8268 + 6 * j + 6 ≤ _; omega) ?_
                    exact ih (j + 1) _ _ (by omega) h
                  · replace h := (if_neg c242).symm.trans h
                    refine fw_iconst C 0 dL_law_1634 rfl ?_
                    exact absurd h (by decide)
                · replace h := (if_neg c241).symm.trans h
                  refine fw_lconst C ((1 : Int32).toInt64) dL_law_1625 rfl ?_
                  refine fw_goto C 1630 dL_law_1626 (by decide) ?_
                  refine fw_lcmp C dL_law_1630 ?_
                  refine fw_if_eq C 1636 dL_law_1631 (by decide) (fun c243 => ?_) (fun c243 => ?_)
                  · replace h := (if_pos c243).symm.trans h
                    refine fw_goto C 2119 dL_law_1636 (by decide) ?_
                    refine fw_iinc C _ 6 [(4, _), (6, _), (5, _), (0, _), (1, _), (2, _), (3, _)] dL_law_2119 rfl rfl (Nat.le_of_ble_eq_true rfl) rfl ?_
                    refine fw_goto C 23 dL_law_2122 (by decide) ?_
                    refine fw_sub [3, 4, 5, 6, 0] rfl ?_
                    refine fw_widen (k := 149 + (j + 1)) (n := 8268 + 6 * (j + 1)) (by show 149 + j + 1 ≤ _; omega) (by show 8268 + 6 * j + 6 ≤ _; omega) ?_
                    exact ih (j + 1) _ _ (by omega) h
                  · replace h := (if_neg c243).symm.trans h
                    refine fw_iconst C 0 dL_law_1634 rfl ?_
                    exact absurd h (by decide)
            · replace h := (if_neg c238).symm.trans h
              refine fw_iconst C 0 dL_law_1610 rfl ?_
              exact absurd h (by decide)
          · replace h := (if_neg c234).symm.trans h
            refine fw_iconst C 1 dL_law_1591 rfl ?_
            refine fw_goto C 1596 dL_law_1592 (by decide) ?_
            obtain ⟨g245, h⟩ := gd_some h
            obtain ⟨v244, M244, e244, h⟩ := b2_some h
            refine fw_callVL (ci := 10) [_, _, _] C (c_X10_judge hl e244) cal_X10_judge wm_L_182 wi_yX10_judge wsl_yX10_judge (Nat.le_of_ble_eq_true rfl) rfl (gO_of g245) rfl (Nat.le_of_ble_eq_true rfl) ⟨Nat.le_of_ble_eq_true rfl, Nat.le_of_ble_eq_true rfl⟩ ⟨by show 149 + j + 1 ≤ 601024; omega, by show 8268 + 6 * j + 6 ≤ 7293034; omega⟩ dL_law_1596 ?_
            refine fw_istore C [(6, _), (5, _), (0, _), (1, _), (2, _), (3, _), (4, _)] dL_law_1599 (Nat.le_of_ble_eq_true rfl) rfl ?_
            refine fw_aload_n C 4 dL_law_1601 rfl rfl ?_
            obtain ⟨v246, e246, h⟩ := b1_some h
            refine fw_callVL (ci := 10) [] C (c_X10_thrown hl e246) cal_X10_thrown wm_L_112 wi_yX10_thrown wsl_yX10_thrown (Nat.le_of_ble_eq_true rfl) rfl (gO_of g245) rfl (Nat.le_of_ble_eq_true rfl) ⟨Nat.le_of_ble_eq_true rfl, Nat.le_of_ble_eq_true rfl⟩ ⟨by show 149 + j + 1 ≤ 601024; omega, by show 8268 + 6 * j + 6 ≤ 7293034; omega⟩ dL_law_1602 ?_
            refine fw_iload C 1 dL_law_1605 rfl ?_
            refine fw_icmp_eq C 1612 dL_law_1607 (by decide) (fun c247 => ?_) (fun c247 => ?_)
            · replace h := (if_pos c247).symm.trans h
              refine fw_iload C 1 dL_law_1612 rfl ?_
              refine fw_if_ne C 1636 dL_law_1614 (by decide) (fun c248 => ?_) (fun c248 => ?_)
              · replace h := (if_neg c248).symm.trans h
                refine fw_goto C 2119 dL_law_1636 (by decide) ?_
                refine fw_iinc C _ 6 [(4, _), (6, _), (5, _), (0, _), (1, _), (2, _), (3, _)] dL_law_2119 rfl rfl (Nat.le_of_ble_eq_true rfl) rfl ?_
                refine fw_goto C 23 dL_law_2122 (by decide) ?_
                refine fw_sub [3, 4, 5, 6, 0] rfl ?_
                refine fw_widen (k := 149 + (j + 1)) (n := 8268 + 6 * (j + 1)) (by show 149 + j + 1 ≤ _; omega) (by show 8268 + 6 * j + 6 ≤ _; omega) ?_
                exact ih (j + 1) _ _ (by omega) h
              · replace h := (if_pos c248).symm.trans h
                refine fw_aload_n C 5 dL_law_1617 rfl rfl ?_
                refine fw_iconst C 0 dL_law_1618 rfl ?_
                obtain ⟨g249, h⟩ := gd_some h
                refine fw_lald C (gA_of g249) dL_law_1619 ?_
                refine fw_iload C 0 dL_law_1620 rfl ?_
                refine fw_if_eq C 1629 dL_law_1622 (by decide) (fun c250 => ?_) (fun c250 => ?_)
                · replace h := (if_pos c250).symm.trans h
                  refine fw_lconst C ((0 : Int32).toInt64) dL_law_1629 rfl ?_
                  refine fw_lcmp C dL_law_1630 ?_
                  refine fw_if_eq C 1636 dL_law_1631 (by decide) (fun c251 => ?_) (fun c251 => ?_)
                  · replace h := (if_pos c251).symm.trans h
                    refine fw_goto C 2119 dL_law_1636 (by decide) ?_
                    refine fw_iinc C _ 6 [(4, _), (6, _), (5, _), (0, _), (1, _), (2, _), (3, _)] dL_law_2119 rfl rfl (Nat.le_of_ble_eq_true rfl) rfl ?_
                    refine fw_goto C 23 dL_law_2122 (by decide) ?_
                    refine fw_sub [3, 4, 5, 6, 0] rfl ?_
                    refine fw_widen (k := 149 + (j + 1)) (n := 8268 + 6 * (j + 1)) (by show 149 + j + 1 ≤ _; omega) (by show 8268 + 6 * j + 6 ≤ _; omega) ?_
                    exact ih (j + 1) _ _ (by omega) h
                  · replace h := (if_neg c251).symm.trans h
                    refine fw_iconst C 0 dL_law_1634 rfl ?_
                    exact absurd h (by decide)
                · replace h := (if_neg c250).symm.trans h
                  refine fw_lconst C ((1 : Int32).toInt64) dL_law_1625 rfl ?_
                  refine fw_goto C 1630 dL_law_1626 (by decide) ?_
                  refine fw_lcmp C dL_law_1630 ?_
                  refine fw_if_eq C 1636 dL_law_1631 (by decide) (fun c252 => ?_) (fun c252 => ?_)
                  · replace h := (if_pos c252).symm.trans h
                    refine fw_goto C 2119 dL_law_1636 (by decide) ?_
                    refine fw_iinc C _ 6 [(4, _), (6, _), (5, _), (0, _), (1, _), (2, _), (3, _)] dL_law_2119 rfl rfl (Nat.le_of_ble_eq_true rfl) rfl ?_
                    refine fw_goto C 23 dL_law_2122 (by decide) ?_
                    refine fw_sub [3, 4, 5, 6, 0] rfl ?_
                    refine fw_widen (k := 149 + (j + 1)) (n := 8268 + 6 * (j + 1)) (by show 149 + j + 1 ≤ _; omega) (by show 8268 + 6 * j + 6 ≤ _; omega) ?_
                    exact ih (j + 1) _ _ (by omega) h
                  · replace h := (if_neg c252).symm.trans h
                    refine fw_iconst C 0 dL_law_1634 rfl ?_
                    exact absurd h (by decide)
            · replace h := (if_neg c247).symm.trans h
              refine fw_iconst C 0 dL_law_1610 rfl ?_
              exact absurd h (by decide)
        · replace h := (if_neg c232).symm.trans h
          refine fw_iconst C 1 dL_law_1558 rfl ?_
          refine fw_goto C 1563 dL_law_1559 (by decide) ?_
          refine fw_aload_n C 3 dL_law_1563 rfl rfl ?_
          obtain ⟨v253, M253, e253, h⟩ := b2_some h
          refine fw_callW [_, _, _, _, _] C (c_L_judge hl e253) cal_L_judge wm_L_179 wt_yL_judge rfl (Nat.le_of_ble_eq_true rfl) ⟨Nat.le_of_ble_eq_true rfl, Nat.le_of_ble_eq_true rfl⟩ ⟨by show 149 + j + 1 ≤ 601024; omega, by show 8268 + 6 * j + 6 ≤ 7293034; omega⟩ dL_law_1564 ?_
          refine fw_istore C [(5, _), (0, _), (1, _), (2, _), (3, _), (4, _)] dL_law_1567 (Nat.le_of_ble_eq_true rfl) rfl ?_
          refine fw_aload_n C 3 dL_law_1569 rfl rfl ?_
          refine fw_aload_n C 1 dL_law_1570 rfl rfl ?_
          refine fw_iload C 5 dL_law_1571 rfl ?_
          refine fw_iconst C 1 dL_law_1573 rfl ?_
          refine fw_iadd C dL_law_1574 ?_
          refine fw_sld C (gX_of g229) dL_law_1575 ?_
          refine fw_aload_n C 1 dL_law_1576 rfl rfl ?_
          refine fw_iload C 5 dL_law_1577 rfl ?_
          refine fw_iconst C 2 dL_law_1579 rfl ?_
          refine fw_iadd C dL_law_1580 ?_
          refine fw_sld C (gX_of g230) dL_law_1581 ?_
          refine fw_aload_n C 1 dL_law_1582 rfl rfl ?_
          refine fw_iload C 5 dL_law_1583 rfl ?_
          refine fw_iconst C 3 dL_law_1585 rfl ?_
          refine fw_iadd C dL_law_1586 ?_
          refine fw_sld C (gX_of g231) dL_law_1587 ?_
          refine fw_if_eq C 1595 dL_law_1588 (by decide) (fun c254 => ?_) (fun c254 => ?_)
          · replace h := (if_pos c254).symm.trans h
            refine fw_iconst C 0 dL_law_1595 rfl ?_
            obtain ⟨g256, h⟩ := gd_some h
            obtain ⟨v255, M255, e255, h⟩ := b2_some h
            refine fw_callVL (ci := 10) [_, _, _] C (c_X10_judge hl e255) cal_X10_judge wm_L_182 wi_yX10_judge wsl_yX10_judge (Nat.le_of_ble_eq_true rfl) rfl (gO_of g256) rfl (Nat.le_of_ble_eq_true rfl) ⟨Nat.le_of_ble_eq_true rfl, Nat.le_of_ble_eq_true rfl⟩ ⟨by show 149 + j + 1 ≤ 601024; omega, by show 8268 + 6 * j + 6 ≤ 7293034; omega⟩ dL_law_1596 ?_
            refine fw_istore C [(6, _), (5, _), (0, _), (1, _), (2, _), (3, _), (4, _)] dL_law_1599 (Nat.le_of_ble_eq_true rfl) rfl ?_
            refine fw_aload_n C 4 dL_law_1601 rfl rfl ?_
            obtain ⟨v257, e257, h⟩ := b1_some h
            refine fw_callVL (ci := 10) [] C (c_X10_thrown hl e257) cal_X10_thrown wm_L_112 wi_yX10_thrown wsl_yX10_thrown (Nat.le_of_ble_eq_true rfl) rfl (gO_of g256) rfl (Nat.le_of_ble_eq_true rfl) ⟨Nat.le_of_ble_eq_true rfl, Nat.le_of_ble_eq_true rfl⟩ ⟨by show 149 + j + 1 ≤ 601024; omega, by show 8268 + 6 * j + 6 ≤ 7293034; omega⟩ dL_law_1602 ?_
            refine fw_iload C 1 dL_law_1605 rfl ?_
            refine fw_icmp_eq C 1612 dL_law_1607 (by decide) (fun c258 => ?_) (fun c258 => ?_)
            · replace h := (if_pos c258).symm.trans h
              refine fw_iload C 1 dL_law_1612 rfl ?_
              refine fw_if_ne C 1636 dL_law_1614 (by decide) (fun c259 => ?_) (fun c259 => ?_)
              · replace h := (if_neg c259).symm.trans h
                refine fw_goto C 2119 dL_law_1636 (by decide) ?_
                refine fw_iinc C _ 6 [(4, _), (6, _), (5, _), (0, _), (1, _), (2, _), (3, _)] dL_law_2119 rfl rfl (Nat.le_of_ble_eq_true rfl) rfl ?_
                refine fw_goto C 23 dL_law_2122 (by decide) ?_
                refine fw_sub [3, 4, 5, 6, 0] rfl ?_
                refine fw_widen (k := 149 + (j + 1)) (n := 8268 + 6 * (j + 1)) (by show 149 + j + 1 ≤ _; omega) (by show 8268 + 6 * j + 6 ≤ _; omega) ?_
                exact ih (j + 1) _ _ (by omega) h
              · replace h := (if_pos c259).symm.trans h
                refine fw_aload_n C 5 dL_law_1617 rfl rfl ?_
                refine fw_iconst C 0 dL_law_1618 rfl ?_
                obtain ⟨g260, h⟩ := gd_some h
                refine fw_lald C (gA_of g260) dL_law_1619 ?_
                refine fw_iload C 0 dL_law_1620 rfl ?_
                refine fw_if_eq C 1629 dL_law_1622 (by decide) (fun c261 => ?_) (fun c261 => ?_)
                · replace h := (if_pos c261).symm.trans h
                  refine fw_lconst C ((0 : Int32).toInt64) dL_law_1629 rfl ?_
                  refine fw_lcmp C dL_law_1630 ?_
                  refine fw_if_eq C 1636 dL_law_1631 (by decide) (fun c262 => ?_) (fun c262 => ?_)
                  · replace h := (if_pos c262).symm.trans h
                    refine fw_goto C 2119 dL_law_1636 (by decide) ?_
                    refine fw_iinc C _ 6 [(4, _), (6, _), (5, _), (0, _), (1, _), (2, _), (3, _)] dL_law_2119 rfl rfl (Nat.le_of_ble_eq_true rfl) rfl ?_
                    refine fw_goto C 23 dL_law_2122 (by decide) ?_
                    refine fw_sub [3, 4, 5, 6, 0] rfl ?_
                    refine fw_widen (k := 149 + (j + 1)) (n := 8268 + 6 * (j + 1)) (by show 149 + j + 1 ≤ _; omega) (by show 8268 + 6 * j + 6 ≤ _; omega) ?_
                    exact ih (j + 1) _ _ (by omega) h
                  · replace h := (if_neg c262).symm.trans h
                    refine fw_iconst C 0 dL_law_1634 rfl ?_
                    exact absurd h (by decide)
                · replace h := (if_neg c261).symm.trans h
                  refine fw_lconst C ((1 : Int32).toInt64) dL_law_1625 rfl ?_
                  refine fw_goto C 1630 dL_law_1626 (by decide) ?_
                  refine fw_lcmp C dL_law_1630 ?_
                  refine fw_if_eq C 1636 dL_law_1631 (by decide) (fun c263 => ?_) (fun c263 => ?_)
                  · replace h := (if_pos c263).symm.trans h
                    refine fw_goto C 2119 dL_law_1636 (by decide) ?_
                    refine fw_iinc C _ 6 [(4, _), (6, _), (5, _), (0, _), (1, _), (2, _), (3, _)] dL_law_2119 rfl rfl (Nat.le_of_ble_eq_true rfl) rfl ?_
                    refine fw_goto C 23 dL_law_2122 (by decide) ?_
                    refine fw_sub [3, 4, 5, 6, 0] rfl ?_
                    refine fw_widen (k := 149 + (j + 1)) (n := 8268 + 6 * (j + 1)) (by show 149 + j + 1 ≤ _; omega) (by show 8268 + 6 * j + 6 ≤ _; omega) ?_
                    exact ih (j + 1) _ _ (by omega) h
                  · replace h := (if_neg c263).symm.trans h
                    refine fw_iconst C 0 dL_law_1634 rfl ?_
                    exact absurd h (by decide)
            · replace h := (if_neg c258).symm.trans h
              refine fw_iconst C 0 dL_law_1610 rfl ?_
              exact absurd h (by decide)
          · replace h := (if_neg c254).symm.trans h
            refine fw_iconst C 1 dL_law_1591 rfl ?_
            refine fw_goto C 1596 dL_law_1592 (by decide) ?_
            obtain ⟨g265, h⟩ := gd_some h
            obtain ⟨v264, M264, e264, h⟩ := b2_some h
            refine fw_callVL (ci := 10) [_, _, _] C (c_X10_judge hl e264) cal_X10_judge wm_L_182 wi_yX10_judge wsl_yX10_judge (Nat.le_of_ble_eq_true rfl) rfl (gO_of g265) rfl (Nat.le_of_ble_eq_true rfl) ⟨Nat.le_of_ble_eq_true rfl, Nat.le_of_ble_eq_true rfl⟩ ⟨by show 149 + j + 1 ≤ 601024; omega, by show 8268 + 6 * j + 6 ≤ 7293034; omega⟩ dL_law_1596 ?_
            refine fw_istore C [(6, _), (5, _), (0, _), (1, _), (2, _), (3, _), (4, _)] dL_law_1599 (Nat.le_of_ble_eq_true rfl) rfl ?_
            refine fw_aload_n C 4 dL_law_1601 rfl rfl ?_
            obtain ⟨v266, e266, h⟩ := b1_some h
            refine fw_callVL (ci := 10) [] C (c_X10_thrown hl e266) cal_X10_thrown wm_L_112 wi_yX10_thrown wsl_yX10_thrown (Nat.le_of_ble_eq_true rfl) rfl (gO_of g265) rfl (Nat.le_of_ble_eq_true rfl) ⟨Nat.le_of_ble_eq_true rfl, Nat.le_of_ble_eq_true rfl⟩ ⟨by show 149 + j + 1 ≤ 601024; omega, by show 8268 + 6 * j + 6 ≤ 7293034; omega⟩ dL_law_1602 ?_
            refine fw_iload C 1 dL_law_1605 rfl ?_
            refine fw_icmp_eq C 1612 dL_law_1607 (by decide) (fun c267 => ?_) (fun c267 => ?_)
            · replace h := (if_pos c267).symm.trans h
              refine fw_iload C 1 dL_law_1612 rfl ?_
              refine fw_if_ne C 1636 dL_law_1614 (by decide) (fun c268 => ?_) (fun c268 => ?_)
              · replace h := (if_neg c268).symm.trans h
                refine fw_goto C 2119 dL_law_1636 (by decide) ?_
                refine fw_iinc C _ 6 [(4, _), (6, _), (5, _), (0, _), (1, _), (2, _), (3, _)] dL_law_2119 rfl rfl (Nat.le_of_ble_eq_true rfl) rfl ?_
                refine fw_goto C 23 dL_law_2122 (by decide) ?_
                refine fw_sub [3, 4, 5, 6, 0] rfl ?_
                refine fw_widen (k := 149 + (j + 1)) (n := 8268 + 6 * (j + 1)) (by show 149 + j + 1 ≤ _; omega) (by show 8268 + 6 * j + 6 ≤ _; omega) ?_
                exact ih (j + 1) _ _ (by omega) h
              · replace h := (if_pos c268).symm.trans h
                refine fw_aload_n C 5 dL_law_1617 rfl rfl ?_
                refine fw_iconst C 0 dL_law_1618 rfl ?_
                obtain ⟨g269, h⟩ := gd_some h
                refine fw_lald C (gA_of g269) dL_law_1619 ?_
                refine fw_iload C 0 dL_law_1620 rfl ?_
                refine fw_if_eq C 1629 dL_law_1622 (by decide) (fun c270 => ?_) (fun c270 => ?_)
                · replace h := (if_pos c270).symm.trans h
                  refine fw_lconst C ((0 : Int32).toInt64) dL_law_1629 rfl ?_
                  refine fw_lcmp C dL_law_1630 ?_
                  refine fw_if_eq C 1636 dL_law_1631 (by decide) (fun c271 => ?_) (fun c271 => ?_)
                  · replace h := (if_pos c271).symm.trans h
                    refine fw_goto C 2119 dL_law_1636 (by decide) ?_
                    refine fw_iinc C _ 6 [(4, _), (6, _), (5, _), (0, _), (1, _), (2, _), (3, _)] dL_law_2119 rfl rfl (Nat.le_of_ble_eq_true rfl) rfl ?_
                    refine fw_goto C 23 dL_law_2122 (by decide) ?_
                    refine fw_sub [3, 4, 5, 6, 0] rfl ?_
                    refine fw_widen (k := 149 + (j + 1)) (n := 8268 + 6 * (j + 1)) (by show 149 + j + 1 ≤ _; omega) (by show 8268 + 6 * j + 6 ≤ _; omega) ?_
                    exact ih (j + 1) _ _ (by omega) h
                  · replace h := (if_neg c271).symm.trans h
                    refine fw_iconst C 0 dL_law_1634 rfl ?_
                    exact absurd h (by decide)
                · replace h := (if_neg c270).symm.trans h
                  refine fw_lconst C ((1 : Int32).toInt64) dL_law_1625 rfl ?_
                  refine fw_goto C 1630 dL_law_1626 (by decide) ?_
                  refine fw_lcmp C dL_law_1630 ?_
                  refine fw_if_eq C 1636 dL_law_1631 (by decide) (fun c272 => ?_) (fun c272 => ?_)
                  · replace h := (if_pos c272).symm.trans h
                    refine fw_goto C 2119 dL_law_1636 (by decide) ?_
                    refine fw_iinc C _ 6 [(4, _), (6, _), (5, _), (0, _), (1, _), (2, _), (3, _)] dL_law_2119 rfl rfl (Nat.le_of_ble_eq_true rfl) rfl ?_
                    refine fw_goto C 23 dL_law_2122 (by decide) ?_
                    refine fw_sub [3, 4, 5, 6, 0] rfl ?_
                    refine fw_widen (k := 149 + (j + 1)) (n := 8268 + 6 * (j + 1)) (by show 149 + j + 1 ≤ _; omega) (by show 8268 + 6 * j + 6 ≤ _; omega) ?_
                    exact ih (j + 1) _ _ (by omega) h
                  · replace h := (if_neg c272).symm.trans h
                    refine fw_iconst C 0 dL_law_1634 rfl ?_
                    exact absurd h (by decide)
            · replace h := (if_neg c267).symm.trans h
              refine fw_iconst C 0 dL_law_1610 rfl ?_
              exact absurd h (by decide)
      replace h := (if_neg c228).symm.trans h
      by_cases c273 : ((fw_xs G x4.toNatClampNeg) &&& 31) = 22
      · replace h := (if_pos c273).symm.trans h
        refine fw_tableIn C 22 1639 dL_law_40 c273 (by decide) (by decide) rfl (by decide) ?_
        refine fw_aload_n C 1 dL_law_1639 rfl rfl ?_
        refine fw_aload_n C 0 dL_law_1640 rfl rfl ?_
        refine fw_iload C 4 dL_law_1641 rfl ?_
        refine fw_iconst C 1 dL_law_1643 rfl ?_
        refine fw_iadd C dL_law_1644 ?_
        obtain ⟨g274, h⟩ := gd_some h
        refine fw_sld C (gX_of g274) dL_law_1645 ?_
        refine fw_aload_n C 0 dL_law_1646 rfl rfl ?_
        refine fw_iload C 4 dL_law_1647 rfl ?_
        refine fw_iconst C 2 dL_law_1649 rfl ?_
        refine fw_iadd C dL_law_1650 ?_
        obtain ⟨g275, h⟩ := gd_some h
        refine fw_sld C (gX_of g275) dL_law_1651 ?_
        refine fw_aload_n C 0 dL_law_1652 rfl rfl ?_
        refine fw_iload C 4 dL_law_1653 rfl ?_
        refine fw_iconst C 3 dL_law_1655 rfl ?_
        refine fw_iadd C dL_law_1656 ?_
        obtain ⟨g276, h⟩ := gd_some h
        refine fw_sld C (gX_of g276) dL_law_1657 ?_
        refine fw_aload_n C 0 dL_law_1658 rfl rfl ?_
        refine fw_iload C 4 dL_law_1659 rfl ?_
        refine fw_iconst C 4 dL_law_1661 rfl ?_
        refine fw_iadd C dL_law_1662 ?_
        obtain ⟨g277, h⟩ := gd_some h
        refine fw_sld C (gX_of g277) dL_law_1663 ?_
        refine fw_if_eq C 1671 dL_law_1664 (by decide) (fun c278 => ?_) (fun c278 => ?_)
        · replace h := (if_pos c278).symm.trans h
          refine fw_iconst C 0 dL_law_1671 rfl ?_
          refine fw_aload_n C 3 dL_law_1672 rfl rfl ?_
          obtain ⟨v279, M279, e279, h⟩ := b2_some h
          refine fw_callW [_, _, _, _, _, _] C (c_L_find hl e279) cal_L_find wm_L_183 wt_yL_find rfl (Nat.le_of_ble_eq_true rfl) ⟨Nat.le_of_ble_eq_true rfl, Nat.le_of_ble_eq_true rfl⟩ ⟨by show 149 + j + 1 ≤ 601024; omega, by show 8268 + 6 * j + 6 ≤ 7293034; omega⟩ dL_law_1673 ?_
          refine fw_istore C [(5, _), (0, _), (1, _), (2, _), (3, _), (4, _)] dL_law_1676 (Nat.le_of_ble_eq_true rfl) rfl ?_
          refine fw_aload_n C 3 dL_law_1678 rfl rfl ?_
          refine fw_aload_n C 1 dL_law_1679 rfl rfl ?_
          refine fw_iload C 5 dL_law_1680 rfl ?_
          refine fw_iconst C 1 dL_law_1682 rfl ?_
          refine fw_iadd C dL_law_1683 ?_
          refine fw_sld C (gX_of g274) dL_law_1684 ?_
          refine fw_aload_n C 1 dL_law_1685 rfl rfl ?_
          refine fw_iload C 5 dL_law_1686 rfl ?_
          refine fw_iconst C 2 dL_law_1688 rfl ?_
          refine fw_iadd C dL_law_1689 ?_
          refine fw_sld C (gX_of g275) dL_law_1690 ?_
          refine fw_aload_n C 1 dL_law_1691 rfl rfl ?_
          refine fw_iload C 5 dL_law_1692 rfl ?_
          refine fw_iconst C 3 dL_law_1694 rfl ?_
          refine fw_iadd C dL_law_1695 ?_
          refine fw_sld C (gX_of g276) dL_law_1696 ?_
          refine fw_aload_n C 1 dL_law_1697 rfl rfl ?_
          refine fw_iload C 5 dL_law_1698 rfl ?_
          refine fw_iconst C 4 dL_law_1700 rfl ?_
          refine fw_iadd C dL_law_1701 ?_
          refine fw_sld C (gX_of g277) dL_law_1702 ?_
          refine fw_if_eq C 1710 dL_law_1703 (by decide) (fun c280 => ?_) (fun c280 => ?_)
          · replace h := (if_pos c280).symm.trans h
            refine fw_iconst C 0 dL_law_1710 rfl ?_
            obtain ⟨g282, h⟩ := gd_some h
            obtain ⟨v281, M281, e281, h⟩ := b2_some h
            refine fw_callVL (ci := 10) [_, _, _, _] C (c_X10_find hl e281) cal_X10_find wm_L_186 wi_yX10_find wsl_yX10_find (Nat.le_of_ble_eq_true rfl) rfl (gO_of g282) rfl (Nat.le_of_ble_eq_true rfl) ⟨Nat.le_of_ble_eq_true rfl, Nat.le_of_ble_eq_true rfl⟩ ⟨by show 149 + j + 1 ≤ 601024; omega, by show 8268 + 6 * j + 6 ≤ 7293034; omega⟩ dL_law_1711 ?_
            refine fw_istore C [(6, _), (5, _), (0, _), (1, _), (2, _), (3, _), (4, _)] dL_law_1714 (Nat.le_of_ble_eq_true rfl) rfl ?_
            refine fw_aload_n C 4 dL_law_1716 rfl rfl ?_
            obtain ⟨v283, e283, h⟩ := b1_some h
            refine fw_callVL (ci := 10) [] C (c_X10_thrown hl e283) cal_X10_thrown wm_L_112 wi_yX10_thrown wsl_yX10_thrown (Nat.le_of_ble_eq_true rfl) rfl (gO_of g282) rfl (Nat.le_of_ble_eq_true rfl) ⟨Nat.le_of_ble_eq_true rfl, Nat.le_of_ble_eq_true rfl⟩ ⟨by show 149 + j + 1 ≤ 601024; omega, by show 8268 + 6 * j + 6 ≤ 7293034; omega⟩ dL_law_1717 ?_
            refine fw_iload C 1 dL_law_1720 rfl ?_
            refine fw_icmp_eq C 1727 dL_law_1722 (by decide) (fun c284 => ?_) (fun c284 => ?_)
            · replace h := (if_pos c284).symm.trans h
              refine fw_iload C 1 dL_law_1727 rfl ?_
              refine fw_if_ne C 1744 dL_law_1729 (by decide) (fun c285 => ?_) (fun c285 => ?_)
              · replace h := (if_neg c285).symm.trans h
                refine fw_goto C 2119 dL_law_1744 (by decide) ?_
                refine fw_iinc C _ 6 [(4, _), (6, _), (5, _), (0, _), (1, _), (2, _), (3, _)] dL_law_2119 rfl rfl (Nat.le_of_ble_eq_true rfl) rfl ?_
                refine fw_goto C 23 dL_law_2122 (by decide) ?_
                refine fw_sub [3, 4, 5, 6, 0] rfl ?_
                refine fw_widen (k := 149 + (j + 1)) (n := 8268 + 6 * (j + 1)) (by show 149 + j + 1 ≤ _; omega) (by show 8268 + 6 * j + 6 ≤ _; omega) ?_
                exact ih (j + 1) _ _ (by omega) h
              · replace h := (if_pos c285).symm.trans h
                refine fw_aload_n C 5 dL_law_1732 rfl rfl ?_
                refine fw_iconst C 0 dL_law_1733 rfl ?_
                obtain ⟨g286, h⟩ := gd_some h
                refine fw_lald C (gA_of g286) dL_law_1734 ?_
                refine fw_iload C 0 dL_law_1735 rfl ?_
                refine fw_i2l C dL_law_1737 ?_
                refine fw_lcmp C dL_law_1738 ?_
                refine fw_if_eq C 1744 dL_law_1739 (by decide) (fun c287 => ?_) (fun c287 => ?_)
                · replace h := (if_pos c287).symm.trans h
                  refine fw_goto C 2119 dL_law_1744 (by decide) ?_
                  refine fw_iinc C _ 6 [(4, _), (6, _), (5, _), (0, _), (1, _), (2, _), (3, _)] dL_law_2119 rfl rfl (Nat.le_of_ble_eq_true rfl) rfl ?_
                  refine fw_goto C 23 dL_law_2122 (by decide) ?_
                  refine fw_sub [3, 4, 5, 6, 0] rfl ?_
                  refine fw_widen (k := 149 + (j + 1)) (n := 8268 + 6 * (j + 1)) (by show 149 + j + 1 ≤ _; omega) (by show 8268 + 6 * j + 6 ≤ _; omega) ?_
                  exact ih (j + 1) _ _ (by omega) h
                · replace h := (if_neg c287).symm.trans h
                  refine fw_iconst C 0 dL_law_1742 rfl ?_
                  exact absurd h (by decide)
            · replace h := (if_neg c284).symm.trans h
              refine fw_iconst C 0 dL_law_1725 rfl ?_
              exact absurd h (by decide)
          · replace h := (if_neg c280).symm.trans h
            refine fw_iconst C 1 dL_law_1706 rfl ?_
            refine fw_goto C 1711 dL_law_1707 (by decide) ?_
            obtain ⟨g289, h⟩ := gd_some h
            obtain ⟨v288, M288, e288, h⟩ := b2_some h
            refine fw_callVL (ci := 10) [_, _, _, _] C (c_X10_find hl e288) cal_X10_find wm_L_186 wi_yX10_find wsl_yX10_find (Nat.le_of_ble_eq_true rfl) rfl (gO_of g289) rfl (Nat.le_of_ble_eq_true rfl) ⟨Nat.le_of_ble_eq_true rfl, Nat.le_of_ble_eq_true rfl⟩ ⟨by show 149 + j + 1 ≤ 601024; omega, by show 8268 + 6 * j + 6 ≤ 7293034; omega⟩ dL_law_1711 ?_
            refine fw_istore C [(6, _), (5, _), (0, _), (1, _), (2, _), (3, _), (4, _)] dL_law_1714 (Nat.le_of_ble_eq_true rfl) rfl ?_
            refine fw_aload_n C 4 dL_law_1716 rfl rfl ?_
            obtain ⟨v290, e290, h⟩ := b1_some h
            refine fw_callVL (ci := 10) [] C (c_X10_thrown hl e290) cal_X10_thrown wm_L_112 wi_yX10_thrown wsl_yX10_thrown (Nat.le_of_ble_eq_true rfl) rfl (gO_of g289) rfl (Nat.le_of_ble_eq_true rfl) ⟨Nat.le_of_ble_eq_true rfl, Nat.le_of_ble_eq_true rfl⟩ ⟨by show 149 + j + 1 ≤ 601024; omega, by show 8268 + 6 * j + 6 ≤ 7293034; omega⟩ dL_law_1717 ?_
            refine fw_iload C 1 dL_law_1720 rfl ?_
            refine fw_icmp_eq C 1727 dL_law_1722 (by decide) (fun c291 => ?_) (fun c291 => ?_)
            · replace h := (if_pos c291).symm.trans h
              refine fw_iload C 1 dL_law_1727 rfl ?_
              refine fw_if_ne C 1744 dL_law_1729 (by decide) (fun c292 => ?_) (fun c292 => ?_)
              · replace h := (if_neg c292).symm.trans h
                refine fw_goto C 2119 dL_law_1744 (by decide) ?_
                refine fw_iinc C _ 6 [(4, _), (6, _), (5, _), (0, _), (1, _), (2, _), (3, _)] dL_law_2119 rfl rfl (Nat.le_of_ble_eq_true rfl) rfl ?_
                refine fw_goto C 23 dL_law_2122 (by decide) ?_
                refine fw_sub [3, 4, 5, 6, 0] rfl ?_
                refine fw_widen (k := 149 + (j + 1)) (n := 8268 + 6 * (j + 1)) (by show 149 + j + 1 ≤ _; omega) (by show 8268 + 6 * j + 6 ≤ _; omega) ?_
                exact ih (j + 1) _ _ (by omega) h
              · replace h := (if_pos c292).symm.trans h
                refine fw_aload_n C 5 dL_law_1732 rfl rfl ?_
                refine fw_iconst C 0 dL_law_1733 rfl ?_
                obtain ⟨g293, h⟩ := gd_some h
                refine fw_lald C (gA_of g293) dL_law_1734 ?_
                refine fw_iload C 0 dL_law_1735 rfl ?_
                refine fw_i2l C dL_law_1737 ?_
                refine fw_lcmp C dL_law_1738 ?_
                refine fw_if_eq C 1744 dL_law_1739 (by decide) (fun c294 => ?_) (fun c294 => ?_)
                · replace h := (if_pos c294).symm.trans h
                  refine fw_goto C 2119 dL_law_1744 (by decide) ?_
                  refine fw_iinc C _ 6 [(4, _), (6, _), (5, _), (0, _), (1, _), (2, _), (3, _)] dL_law_2119 rfl rfl (Nat.le_of_ble_eq_true rfl) rfl ?_
                  refine fw_goto C 23 dL_law_2122 (by decide) ?_
                  refine fw_sub [3, 4, 5, 6, 0] rfl ?_
                  refine fw_widen (k := 149 + (j + 1)) (n := 8268 + 6 * (j + 1)) (by show 149 + j + 1 ≤ _; omega) (by show 8268 + 6 * j + 6 ≤ _; omega) ?_
                  exact ih (j + 1) _ _ (by omega) h
                · replace h := (if_neg c294).symm.trans h
                  refine fw_iconst C 0 dL_law_1742 rfl ?_
                  exact absurd h (by decide)
            · replace h := (if_neg c291).symm.trans h
              refine fw_iconst C 0 dL_law_1725 rfl ?_
              exact absurd h (by decide)
        · replace h := (if_neg c278).symm.trans h
          refine fw_iconst C 1 dL_law_1667 rfl ?_
          refine fw_goto C 1672 dL_law_1668 (by decide) ?_
          refine fw_aload_n C 3 dL_law_1672 rfl rfl ?_
          obtain ⟨v295, M295, e295, h⟩ := b2_some h
          refine fw_callW [_, _, _, _, _, _] C (c_L_find hl e295) cal_L_find wm_L_183 wt_yL_find rfl (Nat.le_of_ble_eq_true rfl) ⟨Nat.le_of_ble_eq_true rfl, Nat.le_of_ble_eq_true rfl⟩ ⟨by show 149 + j + 1 ≤ 601024; omega, by show 8268 + 6 * j + 6 ≤ 7293034; omega⟩ dL_law_1673 ?_
          refine fw_istore C [(5, _), (0, _), (1, _), (2, _), (3, _), (4, _)] dL_law_1676 (Nat.le_of_ble_eq_true rfl) rfl ?_
          refine fw_aload_n C 3 dL_law_1678 rfl rfl ?_
          refine fw_aload_n C 1 dL_law_1679 rfl rfl ?_
          refine fw_iload C 5 dL_law_1680 rfl ?_
          refine fw_iconst C 1 dL_law_1682 rfl ?_
          refine fw_iadd C dL_law_1683 ?_
          refine fw_sld C (gX_of g274) dL_law_1684 ?_
          refine fw_aload_n C 1 dL_law_1685 rfl rfl ?_
          refine fw_iload C 5 dL_law_1686 rfl ?_
          refine fw_iconst C 2 dL_law_1688 rfl ?_
          refine fw_iadd C dL_law_1689 ?_
          refine fw_sld C (gX_of g275) dL_law_1690 ?_
          refine fw_aload_n C 1 dL_law_1691 rfl rfl ?_
          refine fw_iload C 5 dL_law_1692 rfl ?_
          refine fw_iconst C 3 dL_law_1694 rfl ?_
          refine fw_iadd C dL_law_1695 ?_
          refine fw_sld C (gX_of g276) dL_law_1696 ?_
          refine fw_aload_n C 1 dL_law_1697 rfl rfl ?_
          refine fw_iload C 5 dL_law_1698 rfl ?_
          refine fw_iconst C 4 dL_law_1700 rfl ?_
          refine fw_iadd C dL_law_1701 ?_
          refine fw_sld C (gX_of g277) dL_law_1702 ?_
          refine fw_if_eq C 1710 dL_law_1703 (by decide) (fun c296 => ?_) (fun c296 => ?_)
          · replace h := (if_pos c296).symm.trans h
            refine fw_iconst C 0 dL_law_1710 rfl ?_
            obtain ⟨g298, h⟩ := gd_some h
            obtain ⟨v297, M297, e297, h⟩ := b2_some h
            refine fw_callVL (ci := 10) [_, _, _, _] C (c_X10_find hl e297) cal_X10_find wm_L_186 wi_yX10_find wsl_yX10_find (Nat.le_of_ble_eq_true rfl) rfl (gO_of g298) rfl (Nat.le_of_ble_eq_true rfl) ⟨Nat.le_of_ble_eq_true rfl, Nat.le_of_ble_eq_true rfl⟩ ⟨by show 149 + j + 1 ≤ 601024; omega, by show 8268 + 6 * j + 6 ≤ 7293034; omega⟩ dL_law_1711 ?_
            refine fw_istore C [(6, _), (5, _), (0, _), (1, _), (2, _), (3, _), (4, _)] dL_law_1714 (Nat.le_of_ble_eq_true rfl) rfl ?_
            refine fw_aload_n C 4 dL_law_1716 rfl rfl ?_
            obtain ⟨v299, e299, h⟩ := b1_some h
            refine fw_callVL (ci := 10) [] C (c_X10_thrown hl e299) cal_X10_thrown wm_L_112 wi_yX10_thrown wsl_yX10_thrown (Nat.le_of_ble_eq_true rfl) rfl (gO_of g298) rfl (Nat.le_of_ble_eq_true rfl) ⟨Nat.le_of_ble_eq_true rfl, Nat.le_of_ble_eq_true rfl⟩ ⟨by show 149 + j + 1 ≤ 601024; omega, by show 8268 + 6 * j + 6 ≤ 7293034; omega⟩ dL_law_1717 ?_
            refine fw_iload C 1 dL_law_1720 rfl ?_
            refine fw_icmp_eq C 1727 dL_law_1722 (by decide) (fun c300 => ?_) (fun c300 => ?_)
            · replace h := (if_pos c300).symm.trans h
              refine fw_iload C 1 dL_law_1727 rfl ?_
              refine fw_if_ne C 1744 dL_law_1729 (by decide) (fun c301 => ?_) (fun c301 => ?_)
              · replace h := (if_neg c301).symm.trans h
                refine fw_goto C 2119 dL_law_1744 (by decide) ?_
                refine fw_iinc C _ 6 [(4, _), (6, _), (5, _), (0, _), (1, _), (2, _), (3, _)] dL_law_2119 rfl rfl (Nat.le_of_ble_eq_true rfl) rfl ?_
                refine fw_goto C 23 dL_law_2122 (by decide) ?_
                refine fw_sub [3, 4, 5, 6, 0] rfl ?_
                refine fw_widen (k := 149 + (j + 1)) (n := 8268 + 6 * (j + 1)) (by show 149 + j + 1 ≤ _; omega) (by show 8268 + 6 * j + 6 ≤ _; omega) ?_
                exact ih (j + 1) _ _ (by omega) h
              · replace h := (if_pos c301).symm.trans h
                refine fw_aload_n C 5 dL_law_1732 rfl rfl ?_
                refine fw_iconst C 0 dL_law_1733 rfl ?_
                obtain ⟨g302, h⟩ := gd_some h
                refine fw_lald C (gA_of g302) dL_law_1734 ?_
                refine fw_iload C 0 dL_law_1735 rfl ?_
                refine fw_i2l C dL_law_1737 ?_
                refine fw_lcmp C dL_law_1738 ?_
                refine fw_if_eq C 1744 dL_law_1739 (by decide) (fun c303 => ?_) (fun c303 => ?_)
                · replace h := (if_pos c303).symm.trans h
                  refine fw_goto C 2119 dL_law_1744 (by decide) ?_
                  refine fw_iinc C _ 6 [(4, _), (6, _), (5, _), (0, _), (1, _), (2, _), (3, _)] dL_law_2119 rfl rfl (Nat.le_of_ble_eq_true rfl) rfl ?_
                  refine fw_goto C 23 dL_law_2122 (by decide) ?_
                  refine fw_sub [3, 4, 5, 6, 0] rfl ?_
                  refine fw_widen (k := 149 + (j + 1)) (n := 8268 + 6 * (j + 1)) (by show 149 + j + 1 ≤ _; omega) (by show 8268 + 6 * j + 6 ≤ _; omega) ?_
                  exact ih (j + 1) _ _ (by omega) h
                · replace h := (if_neg c303).symm.trans h
                  refine fw_iconst C 0 dL_law_1742 rfl ?_
                  exact absurd h (by decide)
            · replace h := (if_neg c300).symm.trans h
              refine fw_iconst C 0 dL_law_1725 rfl ?_
              exact absurd h (by decide)
          · replace h := (if_neg c296).symm.trans h
            refine fw_iconst C 1 dL_law_1706 rfl ?_
            refine fw_goto C 1711 dL_law_1707 (by decide) ?_
            obtain ⟨g305, h⟩ := gd_some h
            obtain ⟨v304, M304, e304, h⟩ := b2_some h
            refine fw_callVL (ci := 10) [_, _, _, _] C (c_X10_find hl e304) cal_X10_find wm_L_186 wi_yX10_find wsl_yX10_find (Nat.le_of_ble_eq_true rfl) rfl (gO_of g305) rfl (Nat.le_of_ble_eq_true rfl) ⟨Nat.le_of_ble_eq_true rfl, Nat.le_of_ble_eq_true rfl⟩ ⟨by show 149 + j + 1 ≤ 601024; omega, by show 8268 + 6 * j + 6 ≤ 7293034; omega⟩ dL_law_1711 ?_
            refine fw_istore C [(6, _), (5, _), (0, _), (1, _), (2, _), (3, _), (4, _)] dL_law_1714 (Nat.le_of_ble_eq_true rfl) rfl ?_
            refine fw_aload_n C 4 dL_law_1716 rfl rfl ?_
            obtain ⟨v306, e306, h⟩ := b1_some h
            refine fw_callVL (ci := 10) [] C (c_X10_thrown hl e306) cal_X10_thrown wm_L_112 wi_yX10_thrown wsl_yX10_thrown (Nat.le_of_ble_eq_true rfl) rfl (gO_of g305) rfl (Nat.le_of_ble_eq_true rfl) ⟨Nat.le_of_ble_eq_true rfl, Nat.le_of_ble_eq_true rfl⟩ ⟨by show 149 + j + 1 ≤ 601024; omega, by show 8268 + 6 * j + 6 ≤ 7293034; omega⟩ dL_law_1717 ?_
            refine fw_iload C 1 dL_law_1720 rfl ?_
            refine fw_icmp_eq C 1727 dL_law_1722 (by decide) (fun c307 => ?_) (fun c307 => ?_)
            · replace h := (if_pos c307).symm.trans h
              refine fw_iload C 1 dL_law_1727 rfl ?_
              refine fw_if_ne C 1744 dL_law_1729 (by decide) (fun c308 => ?_) (fun c308 => ?_)
              · replace h := (if_neg c308).symm.trans h
                refine fw_goto C 2119 dL_law_1744 (by decide) ?_
                refine fw_iinc C _ 6 [(4, _), (6, _), (5, _), (0, _), (1, _), (2, _), (3, _)] dL_law_2119 rfl rfl (Nat.le_of_ble_eq_true rfl) rfl ?_
                refine fw_goto C 23 dL_law_2122 (by decide) ?_
                refine fw_sub [3, 4, 5, 6, 0] rfl ?_
                refine fw_widen (k := 149 + (j + 1)) (n := 8268 + 6 * (j + 1)) (by show 149 + j + 1 ≤ _; omega) (by show 8268 + 6 * j + 6 ≤ _; omega) ?_
                exact ih (j + 1) _ _ (by omega) h
              · replace h := (if_pos c308).symm.trans h
                refine fw_aload_n C 5 dL_law_1732 rfl rfl ?_
                refine fw_iconst C 0 dL_law_1733 rfl ?_
                obtain ⟨g309, h⟩ := gd_some h
                refine fw_lald C (gA_of g309) dL_law_1734 ?_
                refine fw_iload C 0 dL_law_1735 rfl ?_
                refine fw_i2l C dL_law_1737 ?_
                refine fw_lcmp C dL_law_1738 ?_
                refine fw_if_eq C 1744 dL_law_1739 (by decide) (fun c310 => ?_) (fun c310 => ?_)
                · replace h := (if_pos c310).symm.trans h
                  refine fw_goto C 2119 dL_law_1744 (by decide) ?_
                  refine fw_iinc C _ 6 [(4, _), (6, _), (5, _), (0, _), (1, _), (2, _), (3, _)] dL_law_2119 rfl rfl (Nat.le_of_ble_eq_true rfl) rfl ?_
                  refine fw_goto C 23 dL_law_2122 (by decide) ?_
                  refine fw_sub [3, 4, 5, 6, 0] rfl ?_
                  refine fw_widen (k := 149 + (j + 1)) (n := 8268 + 6 * (j + 1)) (by show 149 + j + 1 ≤ _; omega) (by show 8268 + 6 * j + 6 ≤ _; omega) ?_
                  exact ih (j + 1) _ _ (by omega) h
                · replace h := (if_neg c310).symm.trans h
                  refine fw_iconst C 0 dL_law_1742 rfl ?_
                  exact absurd h (by decide)
            · replace h := (if_neg c307).symm.trans h
              refine fw_iconst C 0 dL_law_1725 rfl ?_
              exact absurd h (by decide)
      replace h := (if_neg c273).symm.trans h
      by_cases c311 : ((fw_xs G x4.toNatClampNeg) &&& 31) = 23
      · replace h := (if_pos c311).symm.trans h
        refine fw_tableIn C 23 1747 dL_law_40 c311 (by decide) (by decide) rfl (by decide) ?_
        refine fw_aload_n C 1 dL_law_1747 rfl rfl ?_
        refine fw_aload_n C 0 dL_law_1748 rfl rfl ?_
        refine fw_iload C 4 dL_law_1749 rfl ?_
        refine fw_iconst C 1 dL_law_1751 rfl ?_
        refine fw_iadd C dL_law_1752 ?_
        obtain ⟨g312, h⟩ := gd_some h
        refine fw_sld C (gX_of g312) dL_law_1753 ?_
        refine fw_aload_n C 3 dL_law_1754 rfl rfl ?_
        obtain ⟨v313, M313, e313, h⟩ := b2_some h
        refine fw_callW [_, _, _] C (c_L_reverse hl e313) cal_L_reverse wm_L_187 wt_yL_reverse rfl (Nat.le_of_ble_eq_true rfl) ⟨Nat.le_of_ble_eq_true rfl, Nat.le_of_ble_eq_true rfl⟩ ⟨by show 149 + j + 1 ≤ 601024; omega, by show 8268 + 6 * j + 6 ≤ 7293034; omega⟩ dL_law_1755 ?_
        refine fw_istore C [(5, _), (0, _), (1, _), (2, _), (3, _), (4, _)] dL_law_1758 (Nat.le_of_ble_eq_true rfl) rfl ?_
        refine fw_aload_n C 3 dL_law_1760 rfl rfl ?_
        refine fw_aload_n C 1 dL_law_1761 rfl rfl ?_
        refine fw_iload C 5 dL_law_1762 rfl ?_
        refine fw_iconst C 1 dL_law_1764 rfl ?_
        refine fw_iadd C dL_law_1765 ?_
        refine fw_sld C (gX_of g312) dL_law_1766 ?_
        obtain ⟨g315, h⟩ := gd_some h
        obtain ⟨v314, M314, e314, h⟩ := b2_some h
        refine fw_callVL (ci := 10) [_] C (c_X10_reverse hl e314) cal_X10_reverse wm_L_189 wi_yX10_reverse wsl_yX10_reverse (Nat.le_of_ble_eq_true rfl) rfl (gO_of g315) rfl (Nat.le_of_ble_eq_true rfl) ⟨Nat.le_of_ble_eq_true rfl, Nat.le_of_ble_eq_true rfl⟩ ⟨by show 149 + j + 1 ≤ 601024; omega, by show 8268 + 6 * j + 6 ≤ 7293034; omega⟩ dL_law_1767 ?_
        refine fw_istore C [(6, _), (5, _), (0, _), (1, _), (2, _), (3, _), (4, _)] dL_law_1770 (Nat.le_of_ble_eq_true rfl) rfl ?_
        refine fw_aload_n C 4 dL_law_1772 rfl rfl ?_
        obtain ⟨v316, e316, h⟩ := b1_some h
        refine fw_callVL (ci := 10) [] C (c_X10_thrown hl e316) cal_X10_thrown wm_L_112 wi_yX10_thrown wsl_yX10_thrown (Nat.le_of_ble_eq_true rfl) rfl (gO_of g315) rfl (Nat.le_of_ble_eq_true rfl) ⟨Nat.le_of_ble_eq_true rfl, Nat.le_of_ble_eq_true rfl⟩ ⟨by show 149 + j + 1 ≤ 601024; omega, by show 8268 + 6 * j + 6 ≤ 7293034; omega⟩ dL_law_1773 ?_
        refine fw_iload C 1 dL_law_1776 rfl ?_
        refine fw_icmp_eq C 1783 dL_law_1778 (by decide) (fun c317 => ?_) (fun c317 => ?_)
        · replace h := (if_pos c317).symm.trans h
          refine fw_iload C 1 dL_law_1783 rfl ?_
          refine fw_if_ne C 1807 dL_law_1785 (by decide) (fun c318 => ?_) (fun c318 => ?_)
          · replace h := (if_neg c318).symm.trans h
            refine fw_goto C 2119 dL_law_1807 (by decide) ?_
            refine fw_iinc C _ 6 [(4, _), (6, _), (5, _), (0, _), (1, _), (2, _), (3, _)] dL_law_2119 rfl rfl (Nat.le_of_ble_eq_true rfl) rfl ?_
            refine fw_goto C 23 dL_law_2122 (by decide) ?_
            refine fw_sub [3, 4, 5, 6, 0] rfl ?_
            refine fw_widen (k := 149 + (j + 1)) (n := 8268 + 6 * (j + 1)) (by show 149 + j + 1 ≤ _; omega) (by show 8268 + 6 * j + 6 ≤ _; omega) ?_
            exact ih (j + 1) _ _ (by omega) h
          · replace h := (if_pos c318).symm.trans h
            refine fw_aload_n C 5 dL_law_1788 rfl rfl ?_
            refine fw_iconst C 0 dL_law_1789 rfl ?_
            obtain ⟨g319, h⟩ := gd_some h
            refine fw_lald C (gA_of g319) dL_law_1790 ?_
            refine fw_iload C 0 dL_law_1791 rfl ?_
            refine fw_if_eq C 1800 dL_law_1793 (by decide) (fun c320 => ?_) (fun c320 => ?_)
            · replace h := (if_pos c320).symm.trans h
              refine fw_lconst C ((0 : Int32).toInt64) dL_law_1800 rfl ?_
              refine fw_lcmp C dL_law_1801 ?_
              refine fw_if_eq C 1807 dL_law_1802 (by decide) (fun c321 => ?_) (fun c321 => ?_)
              · replace h := (if_pos c321).symm.trans h
                refine fw_goto C 2119 dL_law_1807 (by decide) ?_
                refine fw_iinc C _ 6 [(4, _), (6, _), (5, _), (0, _), (1, _), (2, _), (3, _)] dL_law_2119 rfl rfl (Nat.le_of_ble_eq_true rfl) rfl ?_
                refine fw_goto C 23 dL_law_2122 (by decide) ?_
                refine fw_sub [3, 4, 5, 6, 0] rfl ?_
                refine fw_widen (k := 149 + (j + 1)) (n := 8268 + 6 * (j + 1)) (by show 149 + j + 1 ≤ _; omega) (by show 8268 + 6 * j + 6 ≤ _; omega) ?_
                exact ih (j + 1) _ _ (by omega) h
              · replace h := (if_neg c321).symm.trans h
                refine fw_iconst C 0 dL_law_1805 rfl ?_
                exact absurd h (by decide)
            · replace h := (if_neg c320).symm.trans h
              refine fw_lconst C ((1 : Int32).toInt64) dL_law_1796 rfl ?_
              refine fw_goto C 1801 dL_law_1797 (by decide) ?_
              refine fw_lcmp C dL_law_1801 ?_
              refine fw_if_eq C 1807 dL_law_1802 (by decide) (fun c322 => ?_) (fun c322 => ?_)
              · replace h := (if_pos c322).symm.trans h
                refine fw_goto C 2119 dL_law_1807 (by decide) ?_
                refine fw_iinc C _ 6 [(4, _), (6, _), (5, _), (0, _), (1, _), (2, _), (3, _)] dL_law_2119 rfl rfl (Nat.le_of_ble_eq_true rfl) rfl ?_
                refine fw_goto C 23 dL_law_2122 (by decide) ?_
                refine fw_sub [3, 4, 5, 6, 0] rfl ?_
                refine fw_widen (k := 149 + (j + 1)) (n := 8268 + 6 * (j + 1)) (by show 149 + j + 1 ≤ _; omega) (by show 8268 + 6 * j + 6 ≤ _; omega) ?_
                exact ih (j + 1) _ _ (by omega) h
              · replace h := (if_neg c322).symm.trans h
                refine fw_iconst C 0 dL_law_1805 rfl ?_
                exact absurd h (by decide)
        · replace h := (if_neg c317).symm.trans h
          refine fw_iconst C 0 dL_law_1781 rfl ?_
          exact absurd h (by decide)
      replace h := (if_neg c311).symm.trans h
      by_cases c323 : ((fw_xs G x4.toNatClampNeg) &&& 31) = 24
      · replace h := (if_pos c323).symm.trans h
        refine fw_tableIn C 24 1810 dL_law_40 c323 (by decide) (by decide) rfl (by decide) ?_
        refine fw_aload_n C 1 dL_law_1810 rfl rfl ?_
        refine fw_aload_n C 0 dL_law_1811 rfl rfl ?_
        refine fw_iload C 4 dL_law_1812 rfl ?_
        refine fw_iconst C 1 dL_law_1814 rfl ?_
        refine fw_iadd C dL_law_1815 ?_
        obtain ⟨g324, h⟩ := gd_some h
        refine fw_sld C (gX_of g324) dL_law_1816 ?_
        refine fw_aload_n C 0 dL_law_1817 rfl rfl ?_
        refine fw_iload C 4 dL_law_1818 rfl ?_
        refine fw_iconst C 2 dL_law_1820 rfl ?_
        refine fw_iadd C dL_law_1821 ?_
        obtain ⟨g325, h⟩ := gd_some h
        refine fw_sld C (gX_of g325) dL_law_1822 ?_
        refine fw_aload_n C 0 dL_law_1823 rfl rfl ?_
        refine fw_iload C 4 dL_law_1824 rfl ?_
        refine fw_iconst C 3 dL_law_1826 rfl ?_
        refine fw_iadd C dL_law_1827 ?_
        obtain ⟨g326, h⟩ := gd_some h
        refine fw_sld C (gX_of g326) dL_law_1828 ?_
        refine fw_aload_n C 0 dL_law_1829 rfl rfl ?_
        refine fw_iload C 4 dL_law_1830 rfl ?_
        refine fw_iconst C 4 dL_law_1832 rfl ?_
        refine fw_iadd C dL_law_1833 ?_
        obtain ⟨g327, h⟩ := gd_some h
        refine fw_sld C (gX_of g327) dL_law_1834 ?_
        refine fw_aload_n C 3 dL_law_1835 rfl rfl ?_
        obtain ⟨v328, M328, e328, h⟩ := b2_some h
        refine fw_callW [_, _, _, _, _, _] C (c_L_tie hl e328) cal_L_tie wm_L_190 wt_yL_tie rfl (Nat.le_of_ble_eq_true rfl) ⟨Nat.le_of_ble_eq_true rfl, Nat.le_of_ble_eq_true rfl⟩ ⟨by show 149 + j + 1 ≤ 601024; omega, by show 8268 + 6 * j + 6 ≤ 7293034; omega⟩ dL_law_1836 ?_
        refine fw_istore C [(5, _), (0, _), (1, _), (2, _), (3, _), (4, _)] dL_law_1839 (Nat.le_of_ble_eq_true rfl) rfl ?_
        refine fw_aload_n C 3 dL_law_1841 rfl rfl ?_
        refine fw_aload_n C 1 dL_law_1842 rfl rfl ?_
        refine fw_iload C 5 dL_law_1843 rfl ?_
        refine fw_iconst C 1 dL_law_1845 rfl ?_
        refine fw_iadd C dL_law_1846 ?_
        refine fw_sld C (gX_of g324) dL_law_1847 ?_
        refine fw_aload_n C 1 dL_law_1848 rfl rfl ?_
        refine fw_iload C 5 dL_law_1849 rfl ?_
        refine fw_iconst C 2 dL_law_1851 rfl ?_
        refine fw_iadd C dL_law_1852 ?_
        refine fw_sld C (gX_of g325) dL_law_1853 ?_
        refine fw_aload_n C 1 dL_law_1854 rfl rfl ?_
        refine fw_iload C 5 dL_law_1855 rfl ?_
        refine fw_iconst C 3 dL_law_1857 rfl ?_
        refine fw_iadd C dL_law_1858 ?_
        refine fw_sld C (gX_of g326) dL_law_1859 ?_
        refine fw_aload_n C 1 dL_law_1860 rfl rfl ?_
        refine fw_iload C 5 dL_law_1861 rfl ?_
        refine fw_iconst C 4 dL_law_1863 rfl ?_
        refine fw_iadd C dL_law_1864 ?_
        refine fw_sld C (gX_of g327) dL_law_1865 ?_
        obtain ⟨g330, h⟩ := gd_some h
        obtain ⟨v329, M329, e329, h⟩ := b2_some h
        refine fw_callVL (ci := 10) [_, _, _, _] C (c_X10_tie hl e329) cal_X10_tie wm_L_192 wi_yX10_tie wsl_yX10_tie (Nat.le_of_ble_eq_true rfl) rfl (gO_of g330) rfl (Nat.le_of_ble_eq_true rfl) ⟨Nat.le_of_ble_eq_true rfl, Nat.le_of_ble_eq_true rfl⟩ ⟨by show 149 + j + 1 ≤ 601024; omega, by show 8268 + 6 * j + 6 ≤ 7293034; omega⟩ dL_law_1866 ?_
        refine fw_istore C [(6, _), (5, _), (0, _), (1, _), (2, _), (3, _), (4, _)] dL_law_1869 (Nat.le_of_ble_eq_true rfl) rfl ?_
        refine fw_aload_n C 4 dL_law_1871 rfl rfl ?_
        obtain ⟨v331, e331, h⟩ := b1_some h
        refine fw_callVL (ci := 10) [] C (c_X10_thrown hl e331) cal_X10_thrown wm_L_112 wi_yX10_thrown wsl_yX10_thrown (Nat.le_of_ble_eq_true rfl) rfl (gO_of g330) rfl (Nat.le_of_ble_eq_true rfl) ⟨Nat.le_of_ble_eq_true rfl, Nat.le_of_ble_eq_true rfl⟩ ⟨by show 149 + j + 1 ≤ 601024; omega, by show 8268 + 6 * j + 6 ≤ 7293034; omega⟩ dL_law_1872 ?_
        refine fw_iload C 1 dL_law_1875 rfl ?_
        refine fw_icmp_eq C 1882 dL_law_1877 (by decide) (fun c332 => ?_) (fun c332 => ?_)
        · replace h := (if_pos c332).symm.trans h
          refine fw_iload C 1 dL_law_1882 rfl ?_
          refine fw_if_ne C 1899 dL_law_1884 (by decide) (fun c333 => ?_) (fun c333 => ?_)
          · replace h := (if_neg c333).symm.trans h
            refine fw_goto C 2119 dL_law_1899 (by decide) ?_
            refine fw_iinc C _ 6 [(4, _), (6, _), (5, _), (0, _), (1, _), (2, _), (3, _)] dL_law_2119 rfl rfl (Nat.le_of_ble_eq_true rfl) rfl ?_
            refine fw_goto C 23 dL_law_2122 (by decide) ?_
            refine fw_sub [3, 4, 5, 6, 0] rfl ?_
            refine fw_widen (k := 149 + (j + 1)) (n := 8268 + 6 * (j + 1)) (by show 149 + j + 1 ≤ _; omega) (by show 8268 + 6 * j + 6 ≤ _; omega) ?_
            exact ih (j + 1) _ _ (by omega) h
          · replace h := (if_pos c333).symm.trans h
            refine fw_aload_n C 5 dL_law_1887 rfl rfl ?_
            refine fw_iconst C 0 dL_law_1888 rfl ?_
            obtain ⟨g334, h⟩ := gd_some h
            refine fw_lald C (gA_of g334) dL_law_1889 ?_
            refine fw_iload C 0 dL_law_1890 rfl ?_
            refine fw_i2l C dL_law_1892 ?_
            refine fw_lcmp C dL_law_1893 ?_
            refine fw_if_eq C 1899 dL_law_1894 (by decide) (fun c335 => ?_) (fun c335 => ?_)
            · replace h := (if_pos c335).symm.trans h
              refine fw_goto C 2119 dL_law_1899 (by decide) ?_
              refine fw_iinc C _ 6 [(4, _), (6, _), (5, _), (0, _), (1, _), (2, _), (3, _)] dL_law_2119 rfl rfl (Nat.le_of_ble_eq_true rfl) rfl ?_
              refine fw_goto C 23 dL_law_2122 (by decide) ?_
              refine fw_sub [3, 4, 5, 6, 0] rfl ?_
              refine fw_widen (k := 149 + (j + 1)) (n := 8268 + 6 * (j + 1)) (by show 149 + j + 1 ≤ _; omega) (by show 8268 + 6 * j + 6 ≤ _; omega) ?_
              exact ih (j + 1) _ _ (by omega) h
            · replace h := (if_neg c335).symm.trans h
              refine fw_iconst C 0 dL_law_1897 rfl ?_
              exact absurd h (by decide)
        · replace h := (if_neg c332).symm.trans h
          refine fw_iconst C 0 dL_law_1880 rfl ?_
          exact absurd h (by decide)
      replace h := (if_neg c323).symm.trans h
      by_cases c336 : ((fw_xs G x4.toNatClampNeg) &&& 31) = 25
      · replace h := (if_pos c336).symm.trans h
        refine fw_tableIn C 25 1902 dL_law_40 c336 (by decide) (by decide) rfl (by decide) ?_
        refine fw_aload_n C 1 dL_law_1902 rfl rfl ?_
        refine fw_aload_n C 0 dL_law_1903 rfl rfl ?_
        refine fw_iload C 4 dL_law_1904 rfl ?_
        refine fw_iconst C 1 dL_law_1906 rfl ?_
        refine fw_iadd C dL_law_1907 ?_
        obtain ⟨g337, h⟩ := gd_some h
        refine fw_sld C (gX_of g337) dL_law_1908 ?_
        refine fw_aload_n C 3 dL_law_1909 rfl rfl ?_
        obtain ⟨v338, M338, e338, h⟩ := b2_some h
        refine fw_callW [_, _, _] C (c_L_cut hl e338) cal_L_cut wm_L_193 wt_yL_cut rfl (Nat.le_of_ble_eq_true rfl) ⟨Nat.le_of_ble_eq_true rfl, Nat.le_of_ble_eq_true rfl⟩ ⟨by show 149 + j + 1 ≤ 601024; omega, by show 8268 + 6 * j + 6 ≤ 7293034; omega⟩ dL_law_1910 ?_
        refine fw_istore C [(5, _), (0, _), (1, _), (2, _), (3, _), (4, _)] dL_law_1913 (Nat.le_of_ble_eq_true rfl) rfl ?_
        refine fw_aload_n C 3 dL_law_1915 rfl rfl ?_
        refine fw_aload_n C 1 dL_law_1916 rfl rfl ?_
        refine fw_iload C 5 dL_law_1917 rfl ?_
        refine fw_iconst C 1 dL_law_1919 rfl ?_
        refine fw_iadd C dL_law_1920 ?_
        refine fw_sld C (gX_of g337) dL_law_1921 ?_
        obtain ⟨g340, h⟩ := gd_some h
        obtain ⟨v339, M339, e339, h⟩ := b2_some h
        refine fw_callVL (ci := 10) [_] C (c_X10_cut hl e339) cal_X10_cut wm_L_195 wi_yX10_cut wsl_yX10_cut (Nat.le_of_ble_eq_true rfl) rfl (gO_of g340) rfl (Nat.le_of_ble_eq_true rfl) ⟨Nat.le_of_ble_eq_true rfl, Nat.le_of_ble_eq_true rfl⟩ ⟨by show 149 + j + 1 ≤ 601024; omega, by show 8268 + 6 * j + 6 ≤ 7293034; omega⟩ dL_law_1922 ?_
        refine fw_istore C [(6, _), (5, _), (0, _), (1, _), (2, _), (3, _), (4, _)] dL_law_1925 (Nat.le_of_ble_eq_true rfl) rfl ?_
        refine fw_aload_n C 4 dL_law_1927 rfl rfl ?_
        obtain ⟨v341, e341, h⟩ := b1_some h
        refine fw_callVL (ci := 10) [] C (c_X10_thrown hl e341) cal_X10_thrown wm_L_112 wi_yX10_thrown wsl_yX10_thrown (Nat.le_of_ble_eq_true rfl) rfl (gO_of g340) rfl (Nat.le_of_ble_eq_true rfl) ⟨Nat.le_of_ble_eq_true rfl, Nat.le_of_ble_eq_true rfl⟩ ⟨by show 149 + j + 1 ≤ 601024; omega, by show 8268 + 6 * j + 6 ≤ 7293034; omega⟩ dL_law_1928 ?_
        refine fw_iload C 1 dL_law_1931 rfl ?_
        refine fw_icmp_eq C 1938 dL_law_1933 (by decide) (fun c342 => ?_) (fun c342 => ?_)
        · replace h := (if_pos c342).symm.trans h
          refine fw_iload C 1 dL_law_1938 rfl ?_
          refine fw_if_ne C 1955 dL_law_1940 (by decide) (fun c343 => ?_) (fun c343 => ?_)
          · replace h := (if_neg c343).symm.trans h
            refine fw_goto C 2119 dL_law_1955 (by decide) ?_
            refine fw_iinc C _ 6 [(4, _), (6, _), (5, _), (0, _), (1, _), (2, _), (3, _)] dL_law_2119 rfl rfl (Nat.le_of_ble_eq_true rfl) rfl ?_
            refine fw_goto C 23 dL_law_2122 (by decide) ?_
            refine fw_sub [3, 4, 5, 6, 0] rfl ?_
            refine fw_widen (k := 149 + (j + 1)) (n := 8268 + 6 * (j + 1)) (by show 149 + j + 1 ≤ _; omega) (by show 8268 + 6 * j + 6 ≤ _; omega) ?_
            exact ih (j + 1) _ _ (by omega) h
          · replace h := (if_pos c343).symm.trans h
            refine fw_aload_n C 5 dL_law_1943 rfl rfl ?_
            refine fw_iconst C 0 dL_law_1944 rfl ?_
            obtain ⟨g344, h⟩ := gd_some h
            refine fw_lald C (gA_of g344) dL_law_1945 ?_
            refine fw_iload C 0 dL_law_1946 rfl ?_
            refine fw_i2l C dL_law_1948 ?_
            refine fw_lcmp C dL_law_1949 ?_
            refine fw_if_eq C 1955 dL_law_1950 (by decide) (fun c345 => ?_) (fun c345 => ?_)
            · replace h := (if_pos c345).symm.trans h
              refine fw_goto C 2119 dL_law_1955 (by decide) ?_
              refine fw_iinc C _ 6 [(4, _), (6, _), (5, _), (0, _), (1, _), (2, _), (3, _)] dL_law_2119 rfl rfl (Nat.le_of_ble_eq_true rfl) rfl ?_
              refine fw_goto C 23 dL_law_2122 (by decide) ?_
              refine fw_sub [3, 4, 5, 6, 0] rfl ?_
              refine fw_widen (k := 149 + (j + 1)) (n := 8268 + 6 * (j + 1)) (by show 149 + j + 1 ≤ _; omega) (by show 8268 + 6 * j + 6 ≤ _; omega) ?_
              exact ih (j + 1) _ _ (by omega) h
            · replace h := (if_neg c345).symm.trans h
              refine fw_iconst C 0 dL_law_1953 rfl ?_
              exact absurd h (by decide)
        · replace h := (if_neg c342).symm.trans h
          refine fw_iconst C 0 dL_law_1936 rfl ?_
          exact absurd h (by decide)
      replace h := (if_neg c336).symm.trans h
      by_cases c346 : ((fw_xs G x4.toNatClampNeg) &&& 31) = 26
      · replace h := (if_pos c346).symm.trans h
        refine fw_tableIn C 26 1958 dL_law_40 c346 (by decide) (by decide) rfl (by decide) ?_
        refine fw_aload_n C 1 dL_law_1958 rfl rfl ?_
        refine fw_aload_n C 0 dL_law_1959 rfl rfl ?_
        refine fw_iload C 4 dL_law_1960 rfl ?_
        refine fw_iconst C 1 dL_law_1962 rfl ?_
        refine fw_iadd C dL_law_1963 ?_
        obtain ⟨g347, h⟩ := gd_some h
        refine fw_sld C (gX_of g347) dL_law_1964 ?_
        refine fw_aload_n C 0 dL_law_1965 rfl rfl ?_
        refine fw_iload C 4 dL_law_1966 rfl ?_
        refine fw_iconst C 2 dL_law_1968 rfl ?_
        refine fw_iadd C dL_law_1969 ?_
        obtain ⟨g348, h⟩ := gd_some h
        refine fw_sld C (gX_of g348) dL_law_1970 ?_
        refine fw_aload_n C 3 dL_law_1971 rfl rfl ?_
        obtain ⟨v349, M349, e349, h⟩ := b2_some h
        refine fw_callW [_, _, _, _] C (c_L_rule hl e349) cal_L_rule wm_L_196 wt_yL_rule rfl (Nat.le_of_ble_eq_true rfl) ⟨Nat.le_of_ble_eq_true rfl, Nat.le_of_ble_eq_true rfl⟩ ⟨by show 149 + j + 1 ≤ 601024; omega, by show 8268 + 6 * j + 6 ≤ 7293034; omega⟩ dL_law_1972 ?_
        refine fw_istore C [(5, _), (0, _), (1, _), (2, _), (3, _), (4, _)] dL_law_1975 (Nat.le_of_ble_eq_true rfl) rfl ?_
        refine fw_aload_n C 3 dL_law_1977 rfl rfl ?_
        refine fw_aload_n C 1 dL_law_1978 rfl rfl ?_
        refine fw_iload C 5 dL_law_1979 rfl ?_
        refine fw_iconst C 1 dL_law_1981 rfl ?_
        refine fw_iadd C dL_law_1982 ?_
        refine fw_sld C (gX_of g347) dL_law_1983 ?_
        refine fw_aload_n C 1 dL_law_1984 rfl rfl ?_
        refine fw_iload C 5 dL_law_1985 rfl ?_
        refine fw_iconst C 2 dL_law_1987 rfl ?_
        refine fw_iadd C dL_law_1988 ?_
        refine fw_sld C (gX_of g348) dL_law_1989 ?_
        obtain ⟨g351, h⟩ := gd_some h
        obtain ⟨v350, M350, e350, h⟩ := b2_some h
        refine fw_callVL (ci := 10) [_, _] C (c_X10_rule hl e350) cal_X10_rule wm_L_198 wi_yX10_rule wsl_yX10_rule (Nat.le_of_ble_eq_true rfl) rfl (gO_of g351) rfl (Nat.le_of_ble_eq_true rfl) ⟨Nat.le_of_ble_eq_true rfl, Nat.le_of_ble_eq_true rfl⟩ ⟨by show 149 + j + 1 ≤ 601024; omega, by show 8268 + 6 * j + 6 ≤ 7293034; omega⟩ dL_law_1990 ?_
        refine fw_istore C [(6, _), (5, _), (0, _), (1, _), (2, _), (3, _), (4, _)] dL_law_1993 (Nat.le_of_ble_eq_true rfl) rfl ?_
        refine fw_aload_n C 4 dL_law_1995 rfl rfl ?_
        obtain ⟨v352, e352, h⟩ := b1_some h
        refine fw_callVL (ci := 10) [] C (c_X10_thrown hl e352) cal_X10_thrown wm_L_112 wi_yX10_thrown wsl_yX10_thrown (Nat.le_of_ble_eq_true rfl) rfl (gO_of g351) rfl (Nat.le_of_ble_eq_true rfl) ⟨Nat.le_of_ble_eq_true rfl, Nat.le_of_ble_eq_true rfl⟩ ⟨by show 149 + j + 1 ≤ 601024; omega, by show 8268 + 6 * j + 6 ≤ 7293034; omega⟩ dL_law_1996 ?_
        refine fw_iload C 1 dL_law_1999 rfl ?_
        refine fw_icmp_eq C 2006 dL_law_2001 (by decide) (fun c353 => ?_) (fun c353 => ?_)
        · replace h := (if_pos c353).symm.trans h
          refine fw_iload C 1 dL_law_2006 rfl ?_
          refine fw_if_ne C 2023 dL_law_2008 (by decide) (fun c354 => ?_) (fun c354 => ?_)
          · replace h := (if_neg c354).symm.trans h
            refine fw_goto C 2119 dL_law_2023 (by decide) ?_
            refine fw_iinc C _ 6 [(4, _), (6, _), (5, _), (0, _), (1, _), (2, _), (3, _)] dL_law_2119 rfl rfl (Nat.le_of_ble_eq_true rfl) rfl ?_
            refine fw_goto C 23 dL_law_2122 (by decide) ?_
            refine fw_sub [3, 4, 5, 6, 0] rfl ?_
            refine fw_widen (k := 149 + (j + 1)) (n := 8268 + 6 * (j + 1)) (by show 149 + j + 1 ≤ _; omega) (by show 8268 + 6 * j + 6 ≤ _; omega) ?_
            exact ih (j + 1) _ _ (by omega) h
          · replace h := (if_pos c354).symm.trans h
            refine fw_aload_n C 5 dL_law_2011 rfl rfl ?_
            refine fw_iconst C 0 dL_law_2012 rfl ?_
            obtain ⟨g355, h⟩ := gd_some h
            refine fw_lald C (gA_of g355) dL_law_2013 ?_
            refine fw_iload C 0 dL_law_2014 rfl ?_
            refine fw_i2l C dL_law_2016 ?_
            refine fw_lcmp C dL_law_2017 ?_
            refine fw_if_eq C 2023 dL_law_2018 (by decide) (fun c356 => ?_) (fun c356 => ?_)
            · replace h := (if_pos c356).symm.trans h
              refine fw_goto C 2119 dL_law_2023 (by decide) ?_
              refine fw_iinc C _ 6 [(4, _), (6, _), (5, _), (0, _), (1, _), (2, _), (3, _)] dL_law_2119 rfl rfl (Nat.le_of_ble_eq_true rfl) rfl ?_
              refine fw_goto C 23 dL_law_2122 (by decide) ?_
              refine fw_sub [3, 4, 5, 6, 0] rfl ?_
              refine fw_widen (k := 149 + (j + 1)) (n := 8268 + 6 * (j + 1)) (by show 149 + j + 1 ≤ _; omega) (by show 8268 + 6 * j + 6 ≤ _; omega) ?_
              exact ih (j + 1) _ _ (by omega) h
            · replace h := (if_neg c356).symm.trans h
              refine fw_iconst C 0 dL_law_2021 rfl ?_
              exact absurd h (by decide)
        · replace h := (if_neg c353).symm.trans h
          refine fw_iconst C 0 dL_law_2004 rfl ?_
          exact absurd h (by decide)
      replace h := (if_neg c346).symm.trans h
      by_cases c357 : ((fw_xs G x4.toNatClampNeg) &&& 31) = 27
      · replace h := (if_pos c357).symm.trans h
        refine fw_tableIn C 27 2026 dL_law_40 c357 (by decide) (by decide) rfl (by decide) ?_
        refine fw_aload_n C 1 dL_law_2026 rfl rfl ?_
        obtain ⟨g359, h⟩ := gd_some h
        obtain ⟨v358, M358, e358, h⟩ := b2_some h
        refine fw_callVL (ci := 9) [] C (c_X9_undo hl e358) cal_X9_undo wm_L_199 wi_yX9_undo wsl_yX9_undo (Nat.le_of_ble_eq_true rfl) rfl (gO_of g359) rfl (Nat.le_of_ble_eq_true rfl) ⟨Nat.le_of_ble_eq_true rfl, Nat.le_of_ble_eq_true rfl⟩ ⟨by show 149 + j ≤ 601024; omega, by show 8268 + 6 * j ≤ 7293034; omega⟩ dL_law_2027 ?_
        refine fw_aload_n C 2 dL_law_2030 rfl rfl ?_
        obtain ⟨g361, h⟩ := gd_some h
        obtain ⟨v360, M360, e360, h⟩ := b2_some h
        refine fw_callVL (ci := 10) [] C (c_X10_undo hl e360) cal_X10_undo wm_L_202 wi_yX10_undo wsl_yX10_undo (Nat.le_of_ble_eq_true rfl) rfl (gO_of g361) rfl (Nat.le_of_ble_eq_true rfl) ⟨Nat.le_of_ble_eq_true rfl, Nat.le_of_ble_eq_true rfl⟩ ⟨by show 149 + j ≤ 601024; omega, by show 8268 + 6 * j ≤ 7293034; omega⟩ dL_law_2031 ?_
        refine fw_icmp_eq C 2119 dL_law_2034 (by decide) (fun c362 => ?_) (fun c362 => ?_)
        · replace h := (if_pos c362).symm.trans h
          refine fw_iinc C _ 4 [(4, _), (0, _), (1, _), (2, _), (3, _)] dL_law_2119 rfl rfl (Nat.le_of_ble_eq_true rfl) rfl ?_
          refine fw_goto C 23 dL_law_2122 (by decide) ?_
          refine fw_sub [1, 2, 3, 4, 0] rfl ?_
          refine fw_widen (k := 149 + (j + 1)) (n := 8268 + 6 * (j + 1)) (by show 149 + j ≤ _; omega) (by show 8268 + 6 * j ≤ _; omega) ?_
          exact ih (j + 1) _ _ (by omega) h
        · replace h := (if_neg c362).symm.trans h
          refine fw_iconst C 0 dL_law_2037 rfl ?_
          exact absurd h (by decide)
      replace h := (if_neg c357).symm.trans h
      by_cases c363 : ((fw_xs G x4.toNatClampNeg) &&& 31) = 28
      · replace h := (if_pos c363).symm.trans h
        refine fw_tableIn C 28 2039 dL_law_40 c363 (by decide) (by decide) rfl (by decide) ?_
        refine fw_aload_n C 1 dL_law_2039 rfl rfl ?_
        refine fw_aload_n C 0 dL_law_2040 rfl rfl ?_
        refine fw_iload C 4 dL_law_2041 rfl ?_
        refine fw_iconst C 1 dL_law_2043 rfl ?_
        refine fw_iadd C dL_law_2044 ?_
        obtain ⟨g364, h⟩ := gd_some h
        refine fw_sld C (gX_of g364) dL_law_2045 ?_
        refine fw_aload_n C 3 dL_law_2046 rfl rfl ?_
        obtain ⟨v365, M365, e365, h⟩ := b2_some h
        refine fw_callW [_, _, _] C (c_L_ask hl e365) cal_L_ask wm_L_203 wt_yL_ask rfl (Nat.le_of_ble_eq_true rfl) ⟨Nat.le_of_ble_eq_true rfl, Nat.le_of_ble_eq_true rfl⟩ ⟨by show 149 + j + 1 ≤ 601024; omega, by show 8268 + 6 * j + 6 ≤ 7293034; omega⟩ dL_law_2047 ?_
        refine fw_istore C [(5, _), (0, _), (1, _), (2, _), (3, _), (4, _)] dL_law_2050 (Nat.le_of_ble_eq_true rfl) rfl ?_
        refine fw_aload_n C 3 dL_law_2052 rfl rfl ?_
        refine fw_aload_n C 1 dL_law_2053 rfl rfl ?_
        refine fw_iload C 5 dL_law_2054 rfl ?_
        refine fw_iconst C 1 dL_law_2056 rfl ?_
        refine fw_iadd C dL_law_2057 ?_
        refine fw_sld C (gX_of g364) dL_law_2058 ?_
        obtain ⟨g367, h⟩ := gd_some h
        obtain ⟨v366, M366, e366, h⟩ := b2_some h
        refine fw_callVL (ci := 10) [_] C (c_X10_ask hl e366) cal_X10_ask wm_L_205 wi_yX10_ask wsl_yX10_ask (Nat.le_of_ble_eq_true rfl) rfl (gO_of g367) rfl (Nat.le_of_ble_eq_true rfl) ⟨Nat.le_of_ble_eq_true rfl, Nat.le_of_ble_eq_true rfl⟩ ⟨by show 149 + j + 1 ≤ 601024; omega, by show 8268 + 6 * j + 6 ≤ 7293034; omega⟩ dL_law_2059 ?_
        refine fw_istore C [(6, _), (5, _), (0, _), (1, _), (2, _), (3, _), (4, _)] dL_law_2062 (Nat.le_of_ble_eq_true rfl) rfl ?_
        refine fw_aload_n C 4 dL_law_2064 rfl rfl ?_
        obtain ⟨v368, e368, h⟩ := b1_some h
        refine fw_callVL (ci := 10) [] C (c_X10_thrown hl e368) cal_X10_thrown wm_L_112 wi_yX10_thrown wsl_yX10_thrown (Nat.le_of_ble_eq_true rfl) rfl (gO_of g367) rfl (Nat.le_of_ble_eq_true rfl) ⟨Nat.le_of_ble_eq_true rfl, Nat.le_of_ble_eq_true rfl⟩ ⟨by show 149 + j + 1 ≤ 601024; omega, by show 8268 + 6 * j + 6 ≤ 7293034; omega⟩ dL_law_2065 ?_
        refine fw_iload C 1 dL_law_2068 rfl ?_
        refine fw_icmp_eq C 2075 dL_law_2070 (by decide) (fun c369 => ?_) (fun c369 => ?_)
        · replace h := (if_pos c369).symm.trans h
          refine fw_iload C 1 dL_law_2075 rfl ?_
          refine fw_if_ne C 2092 dL_law_2077 (by decide) (fun c370 => ?_) (fun c370 => ?_)
          · replace h := (if_neg c370).symm.trans h
            refine fw_goto C 2119 dL_law_2092 (by decide) ?_
            refine fw_iinc C _ 6 [(4, _), (6, _), (5, _), (0, _), (1, _), (2, _), (3, _)] dL_law_2119 rfl rfl (Nat.le_of_ble_eq_true rfl) rfl ?_
            refine fw_goto C 23 dL_law_2122 (by decide) ?_
            refine fw_sub [3, 4, 5, 6, 0] rfl ?_
            refine fw_widen (k := 149 + (j + 1)) (n := 8268 + 6 * (j + 1)) (by show 149 + j + 1 ≤ _; omega) (by show 8268 + 6 * j + 6 ≤ _; omega) ?_
            exact ih (j + 1) _ _ (by omega) h
          · replace h := (if_pos c370).symm.trans h
            refine fw_aload_n C 5 dL_law_2080 rfl rfl ?_
            refine fw_iconst C 0 dL_law_2081 rfl ?_
            obtain ⟨g371, h⟩ := gd_some h
            refine fw_lald C (gA_of g371) dL_law_2082 ?_
            refine fw_iload C 0 dL_law_2083 rfl ?_
            refine fw_i2l C dL_law_2085 ?_
            refine fw_lcmp C dL_law_2086 ?_
            refine fw_if_eq C 2092 dL_law_2087 (by decide) (fun c372 => ?_) (fun c372 => ?_)
            · replace h := (if_pos c372).symm.trans h
              refine fw_goto C 2119 dL_law_2092 (by decide) ?_
              refine fw_iinc C _ 6 [(4, _), (6, _), (5, _), (0, _), (1, _), (2, _), (3, _)] dL_law_2119 rfl rfl (Nat.le_of_ble_eq_true rfl) rfl ?_
              refine fw_goto C 23 dL_law_2122 (by decide) ?_
              refine fw_sub [3, 4, 5, 6, 0] rfl ?_
              refine fw_widen (k := 149 + (j + 1)) (n := 8268 + 6 * (j + 1)) (by show 149 + j + 1 ≤ _; omega) (by show 8268 + 6 * j + 6 ≤ _; omega) ?_
              exact ih (j + 1) _ _ (by omega) h
            · replace h := (if_neg c372).symm.trans h
              refine fw_iconst C 0 dL_law_2090 rfl ?_
              exact absurd h (by decide)
        · replace h := (if_neg c369).symm.trans h
          refine fw_iconst C 0 dL_law_2073 rfl ?_
          exact absurd h (by decide)
      replace h := (if_neg c363).symm.trans h
      by_cases c373 : ((fw_xs G x4.toNatClampNeg) &&& 31) = 29
      · replace h := (if_pos c373).symm.trans h
        refine fw_tableIn C 29 2095 dL_law_40 c373 (by decide) (by decide) rfl (by decide) ?_
        refine fw_aload_n C 1 dL_law_2095 rfl rfl ?_
        obtain ⟨g375, h⟩ := gd_some h
        obtain ⟨M374, e374, h⟩ := b1_some h
        refine fw_callVL (ci := 9) [] C (c_X9_image hl e374) cal_X9_image wm_L_206 wi_yX9_image wsl_yX9_image (Nat.le_of_ble_eq_true rfl) rfl (gO_of g375) rfl (Nat.le_of_ble_eq_true rfl) ⟨Nat.le_of_ble_eq_true rfl, Nat.le_of_ble_eq_true rfl⟩ ⟨by show 149 + j ≤ 601024; omega, by show 8268 + 6 * j ≤ 7293034; omega⟩ dL_law_2096 ?_
        refine fw_aload_n C 2 dL_law_2099 rfl rfl ?_
        obtain ⟨g377, h⟩ := gd_some h
        obtain ⟨M376, e376, h⟩ := b1_some h
        refine fw_callVL (ci := 10) [] C (c_X10_image hl e376) cal_X10_image wm_L_209 wi_yX10_image wsl_yX10_image (Nat.le_of_ble_eq_true rfl) rfl (gO_of g377) rfl (Nat.le_of_ble_eq_true rfl) ⟨Nat.le_of_ble_eq_true rfl, Nat.le_of_ble_eq_true rfl⟩ ⟨by show 149 + j ≤ 601024; omega, by show 8268 + 6 * j ≤ 7293034; omega⟩ dL_law_2100 ?_
        refine fw_goto C 2119 dL_law_2103 (by decide) ?_
        refine fw_iinc C _ 4 [(4, _), (0, _), (1, _), (2, _), (3, _)] dL_law_2119 rfl rfl (Nat.le_of_ble_eq_true rfl) rfl ?_
        refine fw_goto C 23 dL_law_2122 (by decide) ?_
        refine fw_sub [1, 2, 3, 4, 0] rfl ?_
        refine fw_widen (k := 149 + (j + 1)) (n := 8268 + 6 * (j + 1)) (by show 149 + j ≤ _; omega) (by show 8268 + 6 * j ≤ _; omega) ?_
        exact ih (j + 1) _ _ (by omega) h
      replace h := (if_neg c373).symm.trans h
      by_cases c378 : ((fw_xs G x4.toNatClampNeg) &&& 31) = 30
      · replace h := (if_pos c378).symm.trans h
        refine fw_tableIn C 30 2106 dL_law_40 c378 (by decide) (by decide) rfl (by decide) ?_
        refine fw_aload_n C 1 dL_law_2106 rfl rfl ?_
        obtain ⟨g380, h⟩ := gd_some h
        obtain ⟨v379, M379, e379, h⟩ := b2_some h
        refine fw_callVL (ci := 9) [] C (c_X9_back hl e379) cal_X9_back wm_L_210 wi_yX9_back wsl_yX9_back (Nat.le_of_ble_eq_true rfl) rfl (gO_of g380) rfl (Nat.le_of_ble_eq_true rfl) ⟨Nat.le_of_ble_eq_true rfl, Nat.le_of_ble_eq_true rfl⟩ ⟨by show 149 + j ≤ 601024; omega, by show 8268 + 6 * j ≤ 7293034; omega⟩ dL_law_2107 ?_
        refine fw_aload_n C 2 dL_law_2110 rfl rfl ?_
        obtain ⟨g382, h⟩ := gd_some h
        obtain ⟨v381, M381, e381, h⟩ := b2_some h
        refine fw_callVL (ci := 10) [] C (c_X10_back hl e381) cal_X10_back wm_L_214 wi_yX10_back wsl_yX10_back (Nat.le_of_ble_eq_true rfl) rfl (gO_of g382) rfl (Nat.le_of_ble_eq_true rfl) ⟨Nat.le_of_ble_eq_true rfl, Nat.le_of_ble_eq_true rfl⟩ ⟨by show 149 + j ≤ 601024; omega, by show 8268 + 6 * j ≤ 7293034; omega⟩ dL_law_2111 ?_
        refine fw_icmp_eq C 2119 dL_law_2114 (by decide) (fun c383 => ?_) (fun c383 => ?_)
        · replace h := (if_pos c383).symm.trans h
          refine fw_iinc C _ 4 [(4, _), (0, _), (1, _), (2, _), (3, _)] dL_law_2119 rfl rfl (Nat.le_of_ble_eq_true rfl) rfl ?_
          refine fw_goto C 23 dL_law_2122 (by decide) ?_
          refine fw_sub [1, 2, 3, 4, 0] rfl ?_
          refine fw_widen (k := 149 + (j + 1)) (n := 8268 + 6 * (j + 1)) (by show 149 + j ≤ _; omega) (by show 8268 + 6 * j ≤ _; omega) ?_
          exact ih (j + 1) _ _ (by omega) h
        · replace h := (if_neg c383).symm.trans h
          refine fw_iconst C 0 dL_law_2117 rfl ?_
          exact absurd h (by decide)
      replace h := (if_neg c378).symm.trans h
      have qc3 := lv_neT c3 (a := 0) rfl
      have qc14 := lv_neT c14 (a := 1) rfl
      have qc24 := lv_neT c24 (a := 2) rfl
      have qc30 := lv_neT c30 (a := 3) rfl
      have qc40 := lv_neT c40 (a := 4) rfl
      have qc51 := lv_neT c51 (a := 5) rfl
      have qc62 := lv_neT c62 (a := 6) rfl
      have qc73 := lv_neT c73 (a := 7) rfl
      have qc87 := lv_neT c87 (a := 8) rfl
      have qc100 := lv_neT c100 (a := 9) rfl
      have qc112 := lv_neT c112 (a := 10) rfl
      have qc122 := lv_neT c122 (a := 11) rfl
      have qc134 := lv_neT c134 (a := 12) rfl
      have qc145 := lv_neT c145 (a := 13) rfl
      have qc155 := lv_neT c155 (a := 14) rfl
      have qc165 := lv_neT c165 (a := 15) rfl
      have qc172 := lv_neT c172 (a := 16) rfl
      have qc182 := lv_neT c182 (a := 17) rfl
      have qc193 := lv_neT c193 (a := 18) rfl
      have qc208 := lv_neT c208 (a := 19) rfl
      have qc218 := lv_neT c218 (a := 20) rfl
      have qc228 := lv_neT c228 (a := 21) rfl
      have qc273 := lv_neT c273 (a := 22) rfl
      have qc311 := lv_neT c311 (a := 23) rfl
      have qc323 := lv_neT c323 (a := 24) rfl
      have qc336 := lv_neT c336 (a := 25) rfl
      have qc346 := lv_neT c346 (a := 26) rfl
      have qc357 := lv_neT c357 (a := 27) rfl
      have qc363 := lv_neT c363 (a := 28) rfl
      have qc373 := lv_neT c373 (a := 29) rfl
      have qc378 := lv_neT c378 (a := 30) rfl
      refine fw_tableOut C 2119 dL_law_40 (by omega) (by decide) ?_
      refine fw_iinc C _ 4 [(4, _), (0, _), (1, _), (2, _), (3, _)] dL_law_2119 rfl rfl (Nat.le_of_ble_eq_true rfl) rfl ?_
      refine fw_goto C 23 dL_law_2122 (by decide) ?_
      refine fw_sub [1, 2, 3, 4, 0] rfl ?_
      refine fw_widen (k := 149 + (j + 1)) (n := 8268 + 6 * (j + 1)) (by show 149 + j ≤ _; omega) (by show 8268 + 6 * j ≤ _; omega) ?_
      exact ih (j + 1) _ _ (by omega) h
