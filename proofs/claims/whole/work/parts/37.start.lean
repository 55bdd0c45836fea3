/-! ===== the start: what the Statement gives, as the world fw_Wd ===== -/
theorem im_t1 {w : Cond} {i : Nat} (h : tables_1_1[i]? = some w) : w ∈ lw_tbl := List.mem_append_right _ (List.mem_append_left _ (List.mem_of_getElem? h))
theorem im_t2 {w : Cond} {i : Nat} (h : tables_1_2[i]? = some w) : w ∈ lw_tbl := List.mem_append_right _ (List.mem_append_right _ (List.mem_append_left _ (List.mem_of_getElem? h)))
theorem im_t3 {w : Cond} {i : Nat} (h : tables_1_3[i]? = some w) : w ∈ lw_tbl := List.mem_append_right _ (List.mem_append_right _ (List.mem_append_right _ (List.mem_append_left _ (List.mem_of_getElem? h))))
theorem im_t4 {w : Cond} {i : Nat} (h : tables_1_4[i]? = some w) : w ∈ lw_tbl := List.mem_append_right _ (List.mem_append_right _ (List.mem_append_right _ (List.mem_append_right _ (List.mem_append_left _ (List.mem_of_getElem? h)))))
theorem im_t5 {w : Cond} {i : Nat} (h : tables_1_5[i]? = some w) : w ∈ lw_tbl := List.mem_append_right _ (List.mem_append_right _ (List.mem_append_right _ (List.mem_append_right _ (List.mem_append_right _ (List.mem_append_left _ (List.mem_of_getElem? h))))))
theorem im_t6 {w : Cond} {i : Nat} (h : tables_1_6[i]? = some w) : w ∈ lw_tbl := List.mem_append_right _ (List.mem_append_right _ (List.mem_append_right _ (List.mem_append_right _ (List.mem_append_right _ (List.mem_append_right _ (List.mem_append_left _ (List.mem_of_getElem? h)))))))
theorem im_t7 {w : Cond} {i : Nat} (h : tables_1_7[i]? = some w) : w ∈ lw_tbl := List.mem_append_right _ (List.mem_append_right _ (List.mem_append_right _ (List.mem_append_right _ (List.mem_append_right _ (List.mem_append_right _ (List.mem_append_right _ (List.mem_append_left _ (List.mem_of_getElem? h))))))))
theorem im_t8 {w : Cond} {i : Nat} (h : tables_1_8[i]? = some w) : w ∈ lw_tbl := List.mem_append_right _ (List.mem_append_right _ (List.mem_append_right _ (List.mem_append_right _ (List.mem_append_right _ (List.mem_append_right _ (List.mem_append_right _ (List.mem_append_right _ (List.mem_of_getElem? h))))))))
def st_fl : List Cond := flatC narrow_1
theorem st_cons {α : Type} {p : α → Prop} {a : α} {l : List α} (h : p a) (t : ∀ x ∈ l, p x) : ∀ x ∈ a :: l, p x := List.forall_mem_cons.mpr ⟨h, t⟩
theorem st_nil {α : Type} {p : α → Prop} : ∀ x ∈ ([] : List α), p x := fun x h => by cases h
def st_V (t : Term) : Term := .field t "java/lang/String" "value" "[B"
def st_list (t : Term) (n : Nat) (bs : List Int32) : List Cond := .exactly t "java/lang/String" :: .eq (.field t "java/lang/String" "coder" "B") (.int 0) :: .arrayOf (st_V t) .byte :: .eq (.length (st_V t)) (.int (Int32.ofNat n)) :: (List.range n).map (fun j => .eq (.elem (st_V t) (.int (Int32.ofNat j))) (.int (bs.getD j 0)))
def st_rep : List (String × Nat) := [(RX1, 82), (RX1, 120), (RX8, 159), (RX1, 116), (RX1, 112), (RX8, 83), (RX8, 146), (RX1, 114), (RX1, 47), (RX1, 125), (RX8, 169), (RX8, 53), (RX1, 122), (RX8, 66), (RX1, 41), (RX8, 167), (RX8, 81), (RX8, 155), (RX8, 178), (RX1, 84), (RX1, 124), (RX1, 77), (RX8, 44), (RX1, 110), (RX8, 71), (RX8, 59), (RX8, 76), (RX8, 61), (RX8, 182), (RX1, 118), (RX8, 171), (RX9, 355), (RX9, 371), (RX9, 425), (RX9, 402), (RX9, 139), (RX9, 380), (RX9, 350), (RX9, 291), (RX9, 145), (RX9, 429), (RX9, 242), (RX9, 423), (RX9, 335), (RX9, 389), (RX9, 427), (RX9, 417), (RX9, 175), (RX9, 230), (RX9, 275), (RX9, 269), (RX9, 321), (RX9, 345), (RX9, 397), (RX9, 431), (RX9, 94)]
def st_t (i : Nat) : Term := .string (st_rep.getD i ("", 0)).1 (st_rep.getD i ("", 0)).2
def st_off : List Nat := [980, 944, 159, 929, 907, 250, 141, 920, 869, 970, 187, 116, 954, 167, 861, 177, 240, 150, 202, 878, 962, 987, 95, 894, 219, 124, 231, 133, 208, 936, 195, 685, 736, 615, 829, 258, 773, 668, 532, 293, 311, 413, 275, 577, 789, 397, 354, 327, 370, 503, 442, 550, 639, 805, 472, 61]
theorem st_w : ∀ i, i < fw_nS → (st_fl.drop (st_off.getD i 0)).take (4 + fw_len.getD i 0) = st_list (st_t i) (fw_len.getD i 0) (fw_byt.getD i []) := by
  intro i hi
  match i, hi with
  | 0, _ => decide +kernel
  | 1, _ => decide +kernel
  | 2, _ => decide +kernel
  | 3, _ => decide +kernel
  | 4, _ => decide +kernel
  | 5, _ => decide +kernel
  | 6, _ => decide +kernel
  | 7, _ => decide +kernel
  | 8, _ => decide +kernel
  | 9, _ => decide +kernel
  | 10, _ => decide +kernel
  | 11, _ => decide +kernel
  | 12, _ => decide +kernel
  | 13, _ => decide +kernel
  | 14, _ => decide +kernel
  | 15, _ => decide +kernel
  | 16, _ => decide +kernel
  | 17, _ => decide +kernel
  | 18, _ => decide +kernel
  | 19, _ => decide +kernel
  | 20, _ => decide +kernel
  | 21, _ => decide +kernel
  | 22, _ => decide +kernel
  | 23, _ => decide +kernel
  | 24, _ => decide +kernel
  | 25, _ => decide +kernel
  | 26, _ => decide +kernel
  | 27, _ => decide +kernel
  | 28, _ => decide +kernel
  | 29, _ => decide +kernel
  | 30, _ => decide +kernel
  | i + 31, hi => exact absurd hi (by show ¬ (_ < 31); omega)
theorem st_x : ∀ i, i < 56 → st_fl[st_off.getD i 0]? = some (.exactly (st_t i) "java/lang/String") := by
  intro i hi
  match i, hi with
  | 0, _ => decide +kernel
  | 1, _ => decide +kernel
  | 2, _ => decide +kernel
  | 3, _ => decide +kernel
  | 4, _ => decide +kernel
  | 5, _ => decide +kernel
  | 6, _ => decide +kernel
  | 7, _ => decide +kernel
  | 8, _ => decide +kernel
  | 9, _ => decide +kernel
  | 10, _ => decide +kernel
  | 11, _ => decide +kernel
  | 12, _ => decide +kernel
  | 13, _ => decide +kernel
  | 14, _ => decide +kernel
  | 15, _ => decide +kernel
  | 16, _ => decide +kernel
  | 17, _ => decide +kernel
  | 18, _ => decide +kernel
  | 19, _ => decide +kernel
  | 20, _ => decide +kernel
  | 21, _ => decide +kernel
  | 22, _ => decide +kernel
  | 23, _ => decide +kernel
  | 24, _ => decide +kernel
  | 25, _ => decide +kernel
  | 26, _ => decide +kernel
  | 27, _ => decide +kernel
  | 28, _ => decide +kernel
  | 29, _ => decide +kernel
  | 30, _ => decide +kernel
  | 31, _ => decide +kernel
  | 32, _ => decide +kernel
  | 33, _ => decide +kernel
  | 34, _ => decide +kernel
  | 35, _ => decide +kernel
  | 36, _ => decide +kernel
  | 37, _ => decide +kernel
  | 38, _ => decide +kernel
  | 39, _ => decide +kernel
  | 40, _ => decide +kernel
  | 41, _ => decide +kernel
  | 42, _ => decide +kernel
  | 43, _ => decide +kernel
  | 44, _ => decide +kernel
  | 45, _ => decide +kernel
  | 46, _ => decide +kernel
  | 47, _ => decide +kernel
  | 48, _ => decide +kernel
  | 49, _ => decide +kernel
  | 50, _ => decide +kernel
  | 51, _ => decide +kernel
  | 52, _ => decide +kernel
  | 53, _ => decide +kernel
  | 54, _ => decide +kernel
  | 55, _ => decide +kernel
  | i + 56, hi => exact absurd hi (by omega)
theorem st_sub {l : List Cond} {a n : Nat} {l' : List Cond} (h : (l.drop a).take n = l') : ∀ w ∈ l', w ∈ l := by
  intro w hw
  rw [← h] at hw
  exact List.mem_of_mem_drop (List.mem_of_mem_take hw)
theorem st_strs {args : Array Value} {s : State} {A : Nat → Prop} (hf : ∀ w ∈ st_fl, w.before args s = true) (hA : ∀ a : Nat, a < s.heap.size → ¬ A a) : ∃ adK adV : Nat → Nat, (∀ i : Nat, i < fw_nS → va_O "java/lang/String" (adK i) A s s.heap ∧ va_OF "java/lang/String" "coder" "B" (.int 0) (adK i) A s s.heap ∧ va_OF "java/lang/String" "value" "[B" (.ref (adV i)) (adK i) A s s.heap ∧ va_T .byte (adV i) (fw_len.getD i 0) (fun j => .int ((fw_byt.getD i []).getD j 0)) A s s.heap) ∧ ∀ i : Nat, i < 56 → (st_t i).eval args s none [] s = some (.ref (adK i)) := by
  have h0 : ∀ i : Nat, ∃ q : Nat × Nat, (i < 56 → (st_t i).eval args s none [] s = some (.ref q.1)) ∧ (i < fw_nS → va_O "java/lang/String" q.1 A s s.heap ∧ va_OF "java/lang/String" "coder" "B" (.int 0) q.1 A s s.heap ∧ va_OF "java/lang/String" "value" "[B" (.ref q.2) q.1 A s s.heap ∧ va_T .byte q.2 (fw_len.getD i 0) (fun j => .int ((fw_byt.getD i []).getD j 0)) A s s.heap) := by
    intro i
    by_cases hT : i < 56
    · obtain ⟨a, c, cA, kA, q1, q2, q3, q4, q5, q6, -⟩ := Cond.exactly_spec (args := args) (first := s) (o := none) (s := s) (idx := []) (t := st_t i) (cls := "java/lang/String") (hf _ (List.mem_of_getElem? (st_x i hT)))
      by_cases hi : i < fw_nS
      · have hl := st_sub (st_w i hi)
        have hel : ∀ j : Nat, j < fw_len.getD i 0 → (Cond.eq (.elem (st_V (st_t i)) (.int (Int32.ofNat j))) (.int ((fw_byt.getD i []).getD j 0))).before args s = true := fun j hj => hf _ (hl _ (List.mem_cons_of_mem _ (List.mem_cons_of_mem _ (List.mem_cons_of_mem _ (List.mem_cons_of_mem _ (List.mem_map.mpr ⟨j, List.mem_range.mpr hj, rfl⟩))))))
        have hco := hf _ (hl _ (List.mem_cons_of_mem _ List.mem_cons_self))
        have har := hf _ (hl _ (List.mem_cons_of_mem _ (List.mem_cons_of_mem _ List.mem_cons_self)))
        have hle := hf _ (hl _ (List.mem_cons_of_mem _ (List.mem_cons_of_mem _ (List.mem_cons_of_mem _ List.mem_cons_self))))
        have hN : fw_len.getD i 0 < 2 ^ 31 := by
          have hz : ∀ n ∈ fw_len, n < 2 ^ 31 := by decide +kernel
          have hlen : i < fw_len.length := hi
          rw [List.getD_eq_getElem?_getD, List.getElem?_eq_getElem hlen]
          exact hz _ (List.getElem_mem hlen)
        obtain ⟨t, ht, hT'⟩ := va_Tof (f := fun j => .int ((fw_byt.getD i []).getD j 0)) (A := A) hN har (va_eqt hle) (fun j hj => va_eqt (hel j hj)) hA
        exact ⟨(a, t), fun _ => q1, fun _ => ⟨⟨cA, q3, q5, by rw [q6]; exact q2, hA a (Array.getElem?_eq_some_iff.mp q3).1⟩, vk_OFof q1 (va_eqt hco) hA, vk_OFof q1 ht hA, hT'⟩⟩
      · exact ⟨(a, 0), fun _ => q1, fun h => absurd h hi⟩
    · exact ⟨(0, 0), fun h => absurd h hT, fun h => absurd (Nat.lt_of_lt_of_le h (by decide : fw_nS ≤ 56)) hT⟩
  obtain ⟨ad, had⟩ := Classical.axiomOfChoice h0
  exact ⟨fun i => (ad i).1, fun i => (ad i).2, fun i hi => (had i).2 hi, fun i hi => (had i).1 hi⟩
theorem st_R {args : Array Value} {s : State} {adK : Nat → Nat} (hts : ∀ w ∈ lw_tbl, w.before args s = true) (hf : ∀ w ∈ st_fl, w.before args s = true) (he : ∀ i : Nat, i < 56 → (st_t i).eval args s none [] s = some (.ref (adK i))) : ∀ q ∈ fw_str, vk_R q.1 q.2.1 q.2.2.1 (adK q.2.2.2) s := by
  have hm : ∀ i : Nat, ∀ w : Cond, st_fl[i]? = some w → w.before args s = true := fun i w h => hf w (List.mem_of_getElem? h)
  refine st_cons (vk_R.of (own := RX9) (tx := "the tape has not so many bytes") (k := 94) (hts _ (im_t3 (i := 71) rfl)) (he 55 (Nat.le_of_ble_eq_true rfl))) ?_
  refine st_cons (vk_R.of (own := RX8) (tx := "person") (k := 44) (hts _ (im_t3 (i := 124) rfl)) (he 22 (Nat.le_of_ble_eq_true rfl))) ?_
  refine st_cons (vk_R.of (own := RX7) (tx := "person") (k := 65) (hts _ (im_t3 (i := 190) rfl)) (va_eqR (hm 115 (.eq (st_t 22) (.string RX7 65)) (by decide +kernel)) (he 22 (Nat.le_of_ble_eq_true rfl)))) ?_
  refine st_cons (vk_R.of (own := RX8) (tx := "heir") (k := 53) (hts _ (im_t3 (i := 200) rfl)) (he 11 (Nat.le_of_ble_eq_true rfl))) ?_
  refine st_cons (vk_R.of (own := RX8) (tx := "ruler") (k := 59) (hts _ (im_t3 (i := 214) rfl)) (he 25 (Nat.le_of_ble_eq_true rfl))) ?_
  refine st_cons (vk_R.of (own := RX8) (tx := "suit") (k := 61) (hts _ (im_t3 (i := 215) rfl)) (he 27 (Nat.le_of_ble_eq_true rfl))) ?_
  refine st_cons (vk_R.of (own := RX8) (tx := "facts") (k := 146) (hts _ (im_t3 (i := 221) rfl)) (he 6 (Nat.le_of_ble_eq_true rfl))) ?_
  refine st_cons (vk_R.of (own := RX8) (tx := "needs") (k := 155) (hts _ (im_t3 (i := 227) rfl)) (he 17 (Nat.le_of_ble_eq_true rfl))) ?_
  refine st_cons (vk_R.of (own := RX8) (tx := "buts") (k := 159) (hts _ (im_t3 (i := 228) rfl)) (he 2 (Nat.le_of_ble_eq_true rfl))) ?_
  refine st_cons (vk_R.of (own := RX8) (tx := "judged") (k := 66) (hts _ (im_t3 (i := 229) rfl)) (he 13 (Nat.le_of_ble_eq_true rfl))) ?_
  refine st_cons (vk_R.of (own := RX8) (tx := "merits") (k := 167) (hts _ (im_t4 (i := 3) rfl)) (he 15 (Nat.le_of_ble_eq_true rfl))) ?_
  refine st_cons (vk_R.of (own := RX8) (tx := "form") (k := 169) (hts _ (im_t4 (i := 4) rfl)) (he 10 (Nat.le_of_ble_eq_true rfl))) ?_
  refine st_cons (vk_R.of (own := RX8) (tx := "yes") (k := 171) (hts _ (im_t4 (i := 5) rfl)) (he 30 (Nat.le_of_ble_eq_true rfl))) ?_
  refine st_cons (vk_R.of (own := RX8) (tx := "no") (k := 178) (hts _ (im_t4 (i := 10) rfl)) (he 18 (Nat.le_of_ble_eq_true rfl))) ?_
  refine st_cons (vk_R.of (own := RX8) (tx := "untried") (k := 182) (hts _ (im_t4 (i := 11) rfl)) (he 28 (Nat.le_of_ble_eq_true rfl))) ?_
  refine st_cons (vk_R.of (own := RX8) (tx := "reversed") (k := 71) (hts _ (im_t4 (i := 12) rfl)) (he 24 (Nat.le_of_ble_eq_true rfl))) ?_
  refine st_cons (vk_R.of (own := RX8) (tx := "share") (k := 76) (hts _ (im_t4 (i := 17) rfl)) (he 26 (Nat.le_of_ble_eq_true rfl))) ?_
  refine st_cons (vk_R.of (own := RX8) (tx := "mutual") (k := 81) (hts _ (im_t4 (i := 28) rfl)) (he 16 (Nat.le_of_ble_eq_true rfl))) ?_
  refine st_cons (vk_R.of (own := RX8) (tx := "each") (k := 83) (hts _ (im_t4 (i := 29) rfl)) (he 5 (Nat.le_of_ble_eq_true rfl))) ?_
  refine st_cons (vk_R.of (own := RX9) (tx := "no such count") (k := 139) (hts _ (im_t4 (i := 77) rfl)) (he 35 (Nat.le_of_ble_eq_true rfl))) ?_
  refine st_cons (vk_R.of (own := RX9) (tx := "no such person") (k := 423) (hts _ (im_t4 (i := 95) rfl)) (he 42 (Nat.le_of_ble_eq_true rfl))) ?_
  refine st_cons (vk_R.of (own := RX9) (tx := "no such letter") (k := 145) (hts _ (im_t4 (i := 96) rfl)) (he 39 (Nat.le_of_ble_eq_true rfl))) ?_
  refine st_cons (vk_R.of (own := RX9) (tx := "no such link") (k := 429) (hts _ (im_t4 (i := 108) rfl)) (he 40 (Nat.le_of_ble_eq_true rfl))) ?_
  refine st_cons (vk_R.of (own := RX9) (tx := "no such thing of a link") (k := 175) (hts _ (im_t4 (i := 110) rfl)) (he 47 (Nat.le_of_ble_eq_true rfl))) ?_
  refine st_cons (vk_R.of (own := RX9) (tx := "no such suit") (k := 417) (hts _ (im_t4 (i := 122) rfl)) (he 46 (Nat.le_of_ble_eq_true rfl))) ?_
  refine st_cons (vk_R.of (own := RX9) (tx := "no such thing of a suit") (k := 230) (hts _ (im_t4 (i := 125) rfl)) (he 48 (Nat.le_of_ble_eq_true rfl))) ?_
  refine st_cons (vk_R.of (own := RX9) (tx := "no such side") (k := 427) (hts _ (im_t4 (i := 137) rfl)) (he 45 (Nat.le_of_ble_eq_true rfl))) ?_
  refine st_cons (vk_R.of (own := RX9) (tx := "no such link of the chain") (k := 242) (hts _ (im_t4 (i := 171) rfl)) (he 41 (Nat.le_of_ble_eq_true rfl))) ?_
  refine st_cons (vk_R.of (own := RX9) (tx := "no such thing of two suits") (k := 269) (hts _ (im_t4 (i := 232) rfl)) (he 50 (Nat.le_of_ble_eq_true rfl))) ?_
  refine st_cons (vk_R.of (own := RX9) (tx := "the suit has not that issue") (k := 431) (hts _ (im_t5 (i := 12) rfl)) (he 54 (Nat.le_of_ble_eq_true rfl))) ?_
  refine st_cons (vk_R.of (own := RX9) (tx := "no such thing of an issue") (k := 275) (hts _ (im_t5 (i := 13) rfl)) (he 49 (Nat.le_of_ble_eq_true rfl))) ?_
  refine st_cons (vk_R.of (own := RX9) (tx := "no such issues") (k := 291) (hts _ (im_t5 (i := 26) rfl)) (he 38 (Nat.le_of_ble_eq_true rfl))) ?_
  refine st_cons (vk_R.of (own := RX9) (tx := "no such thing that goes") (k := 321) (hts _ (im_t5 (i := 82) rfl)) (he 51 (Nat.le_of_ble_eq_true rfl))) ?_
  refine st_cons (vk_R.of (own := RX9) (tx := "no such persons, or no such answer") (k := 335) (hts _ (im_t5 (i := 111) rfl)) (he 43 (Nat.le_of_ble_eq_true rfl))) ?_
  refine st_cons (vk_R.of (own := RX9) (tx := "both persons are one") (k := 425) (hts _ (im_t5 (i := 116) rfl)) (he 33 (Nat.le_of_ble_eq_true rfl))) ?_
  refine st_cons (vk_R.of (own := RX9) (tx := "sets or day out of bounds") (k := 345) (hts _ (im_t5 (i := 120) rfl)) (he 52 (Nat.le_of_ble_eq_true rfl))) ?_
  refine st_cons (vk_R.of (own := RX9) (tx := "no such issue") (k := 350) (hts _ (im_t5 (i := 139) rfl)) (he 37 (Nat.le_of_ble_eq_true rfl))) ?_
  refine st_cons (vk_R.of (own := RX9) (tx := "a judgment's day is that of the filing or later") (k := 355) (hts _ (im_t5 (i := 151) rfl)) (he 31 (Nat.le_of_ble_eq_true rfl))) ?_
  refine st_cons (vk_R.of (own := RX9) (tx := "an issue is found yes, no, or not") (k := 371) (hts _ (im_t5 (i := 166) rfl)) (he 32 (Nat.le_of_ble_eq_true rfl))) ?_
  refine st_cons (vk_R.of (own := RX9) (tx := "no such days") (k := 380) (hts _ (im_t5 (i := 189) rfl)) (he 36 (Nat.le_of_ble_eq_true rfl))) ?_
  refine st_cons (vk_R.of (own := RX9) (tx := "no such rule") (k := 389) (hts _ (im_t5 (i := 206) rfl)) (he 44 (Nat.le_of_ble_eq_true rfl))) ?_
  refine st_cons (vk_R.of (own := RX9) (tx := "the rule can't be so") (k := 397) (hts _ (im_t5 (i := 209) rfl)) (he 53 (Nat.le_of_ble_eq_true rfl))) ?_
  refine st_cons (vk_R.of (own := RX9) (tx := "no question of so many bytes") (k := 402) (hts _ (im_t5 (i := 217) rfl)) (he 34 (Nat.le_of_ble_eq_true rfl))) ?_
  refine st_cons (vk_R.of (own := RX1) (tx := "many") (k := 41) (hts _ (im_t5 (i := 230) rfl)) (he 14 (Nat.le_of_ble_eq_true rfl))) ?_
  refine st_cons (vk_R.of (own := RX1) (tx := "first") (k := 47) (hts _ (im_t5 (i := 232) rfl)) (he 8 (Nat.le_of_ble_eq_true rfl))) ?_
  refine st_cons (vk_R.of (own := RX1) (tx := "not") (k := 84) (hts _ (im_t6 (i := 7) rfl)) (he 19 (Nat.le_of_ble_eq_true rfl))) ?_
  refine st_cons (vk_R.of (own := RX1) (tx := "suit") (k := 108) (hts _ (im_t6 (i := 21) rfl)) (va_eqR (hm 893 (.eq (st_t 27) (.string RX1 108)) (by decide +kernel)) (he 27 (Nat.le_of_ble_eq_true rfl)))) ?_
  refine st_cons (vk_R.of (own := RX1) (tx := "plaintiff") (k := 110) (hts _ (im_t6 (i := 22) rfl)) (he 23 (Nat.le_of_ble_eq_true rfl))) ?_
  refine st_cons (vk_R.of (own := RX1) (tx := "defendant") (k := 112) (hts _ (im_t6 (i := 23) rfl)) (he 4 (Nat.le_of_ble_eq_true rfl))) ?_
  refine st_cons (vk_R.of (own := RX1) (tx := "filed") (k := 114) (hts _ (im_t6 (i := 24) rfl)) (he 7 (Nat.le_of_ble_eq_true rfl))) ?_
  refine st_cons (vk_R.of (own := RX1) (tx := "day") (k := 116) (hts _ (im_t6 (i := 25) rfl)) (he 3 (Nat.le_of_ble_eq_true rfl))) ?_
  refine st_cons (vk_R.of (own := RX1) (tx := "wins") (k := 118) (hts _ (im_t6 (i := 26) rfl)) (he 29 (Nat.le_of_ble_eq_true rfl))) ?_
  refine st_cons (vk_R.of (own := RX1) (tx := "barred") (k := 120) (hts _ (im_t6 (i := 27) rfl)) (he 1 (Nat.le_of_ble_eq_true rfl))) ?_
  refine st_cons (vk_R.of (own := RX1) (tx := "held") (k := 122) (hts _ (im_t6 (i := 28) rfl)) (he 12 (Nat.le_of_ble_eq_true rfl))) ?_
  refine st_cons (vk_R.of (own := RX1) (tx := "open") (k := 124) (hts _ (im_t6 (i := 29) rfl)) (he 20 (Nat.le_of_ble_eq_true rfl))) ?_
  refine st_cons (vk_R.of (own := RX1) (tx := "forced") (k := 125) (hts _ (im_t6 (i := 30) rfl)) (he 9 (Nat.le_of_ble_eq_true rfl))) ?_
  refine st_cons (vk_R.of (own := RX1) (tx := "and") (k := 82) (hts _ (im_t6 (i := 32) rfl)) (he 0 (Nat.le_of_ble_eq_true rfl))) ?_
  refine st_cons (vk_R.of (own := RX1) (tx := "or") (k := 77) (hts _ (im_t6 (i := 33) rfl)) (he 21 (Nat.le_of_ble_eq_true rfl))) ?_
  refine st_cons (vk_R.of (own := RX10) (tx := "person") (k := 306) (hts _ (im_t8 (i := 2) rfl)) (va_eqR (hm 1003 (.eq (st_t 22) (.string RX10 306)) (by decide +kernel)) (he 22 (Nat.le_of_ble_eq_true rfl)))) ?_
  refine st_cons (vk_R.of (own := RX10) (tx := "heir") (k := 357) (hts _ (im_t8 (i := 33) rfl)) (va_eqR (hm 1013 (.eq (st_t 11) (.string RX10 357)) (by decide +kernel)) (he 11 (Nat.le_of_ble_eq_true rfl)))) ?_
  refine st_cons (vk_R.of (own := RX10) (tx := "ruler") (k := 363) (hts _ (im_t8 (i := 51) rfl)) (va_eqR (hm 1023 (.eq (st_t 25) (.string RX10 363)) (by decide +kernel)) (he 25 (Nat.le_of_ble_eq_true rfl)))) ?_
  refine st_cons (vk_R.of (own := RX10) (tx := "suit") (k := 365) (hts _ (im_t8 (i := 52) rfl)) (va_eqR (hm 1032 (.eq (st_t 27) (.string RX10 365)) (by decide +kernel)) (he 27 (Nat.le_of_ble_eq_true rfl)))) ?_
  refine st_cons (vk_R.of (own := RX10) (tx := "facts") (k := 331) (hts _ (im_t8 (i := 58) rfl)) (va_eqR (hm 1043 (.eq (st_t 6) (.string RX10 331)) (by decide +kernel)) (he 6 (Nat.le_of_ble_eq_true rfl)))) ?_
  refine st_cons (vk_R.of (own := RX10) (tx := "needs") (k := 337) (hts _ (im_t8 (i := 63) rfl)) (va_eqR (hm 1053 (.eq (st_t 17) (.string RX10 337)) (by decide +kernel)) (he 17 (Nat.le_of_ble_eq_true rfl)))) ?_
  refine st_cons (vk_R.of (own := RX10) (tx := "buts") (k := 339) (hts _ (im_t8 (i := 64) rfl)) (va_eqR (hm 1062 (.eq (st_t 2) (.string RX10 339)) (by decide +kernel)) (he 2 (Nat.le_of_ble_eq_true rfl)))) ?_
  refine st_cons (vk_R.of (own := RX10) (tx := "judged") (k := 370) (hts _ (im_t8 (i := 65) rfl)) (va_eqR (hm 1073 (.eq (st_t 13) (.string RX10 370)) (by decide +kernel)) (he 13 (Nat.le_of_ble_eq_true rfl)))) ?_
  refine st_cons (vk_R.of (own := RX10) (tx := "merits") (k := 344) (hts _ (im_t8 (i := 74) rfl)) (va_eqR (hm 1084 (.eq (st_t 15) (.string RX10 344)) (by decide +kernel)) (he 15 (Nat.le_of_ble_eq_true rfl)))) ?_
  refine st_cons (vk_R.of (own := RX10) (tx := "form") (k := 346) (hts _ (im_t8 (i := 75) rfl)) (va_eqR (hm 1093 (.eq (st_t 10) (.string RX10 346)) (by decide +kernel)) (he 10 (Nat.le_of_ble_eq_true rfl)))) ?_
  refine st_cons (vk_R.of (own := RX10) (tx := "yes") (k := 348) (hts _ (im_t8 (i := 76) rfl)) (va_eqR (hm 1101 (.eq (st_t 30) (.string RX10 348)) (by decide +kernel)) (he 30 (Nat.le_of_ble_eq_true rfl)))) ?_
  refine st_cons (vk_R.of (own := RX10) (tx := "no") (k := 350) (hts _ (im_t8 (i := 77) rfl)) (va_eqR (hm 1108 (.eq (st_t 18) (.string RX10 350)) (by decide +kernel)) (he 18 (Nat.le_of_ble_eq_true rfl)))) ?_
  refine st_cons (vk_R.of (own := RX10) (tx := "untried") (k := 352) (hts _ (im_t8 (i := 78) rfl)) (va_eqR (hm 1120 (.eq (st_t 28) (.string RX10 352)) (by decide +kernel)) (he 28 (Nat.le_of_ble_eq_true rfl)))) ?_
  refine st_cons (vk_R.of (own := RX10) (tx := "reversed") (k := 375) (hts _ (im_t8 (i := 79) rfl)) (va_eqR (hm 1133 (.eq (st_t 24) (.string RX10 375)) (by decide +kernel)) (he 24 (Nat.le_of_ble_eq_true rfl)))) ?_
  refine st_cons (vk_R.of (own := RX10) (tx := "share") (k := 380) (hts _ (im_t8 (i := 84) rfl)) (va_eqR (hm 1143 (.eq (st_t 26) (.string RX10 380)) (by decide +kernel)) (he 26 (Nat.le_of_ble_eq_true rfl)))) ?_
  refine st_cons (vk_R.of (own := RX10) (tx := "mutual") (k := 385) (hts _ (im_t8 (i := 89) rfl)) (va_eqR (hm 1154 (.eq (st_t 16) (.string RX10 385)) (by decide +kernel)) (he 16 (Nat.le_of_ble_eq_true rfl)))) ?_
  refine st_cons (vk_R.of (own := RX10) (tx := "each") (k := 387) (hts _ (im_t8 (i := 90) rfl)) (va_eqR (hm 1163 (.eq (st_t 5) (.string RX10 387)) (by decide +kernel)) (he 5 (Nat.le_of_ble_eq_true rfl)))) ?_
  refine st_cons (vk_R.of (own := RX10) (tx := "first") (k := 450) (hts _ (im_t8 (i := 107) rfl)) (va_eqR (hm 1173 (.eq (st_t 8) (.string RX10 450)) (by decide +kernel)) (he 8 (Nat.le_of_ble_eq_true rfl)))) ?_
  refine st_cons (vk_R.of (own := RX10) (tx := "many") (k := 448) (hts _ (im_t8 (i := 112) rfl)) (va_eqR (hm 1182 (.eq (st_t 14) (.string RX10 448)) (by decide +kernel)) (he 14 (Nat.le_of_ble_eq_true rfl)))) ?_
  refine st_cons (vk_R.of (own := RX10) (tx := "not") (k := 427) (hts _ (im_t8 (i := 125) rfl)) (va_eqR (hm 1190 (.eq (st_t 19) (.string RX10 427)) (by decide +kernel)) (he 19 (Nat.le_of_ble_eq_true rfl)))) ?_
  refine st_cons (vk_R.of (own := RX10) (tx := "plaintiff") (k := 410) (hts _ (im_t8 (i := 138) rfl)) (va_eqR (hm 1204 (.eq (st_t 23) (.string RX10 410)) (by decide +kernel)) (he 23 (Nat.le_of_ble_eq_true rfl)))) ?_
  refine st_cons (vk_R.of (own := RX10) (tx := "defendant") (k := 412) (hts _ (im_t8 (i := 139) rfl)) (va_eqR (hm 1218 (.eq (st_t 4) (.string RX10 412)) (by decide +kernel)) (he 4 (Nat.le_of_ble_eq_true rfl)))) ?_
  refine st_cons (vk_R.of (own := RX10) (tx := "filed") (k := 414) (hts _ (im_t8 (i := 140) rfl)) (va_eqR (hm 1228 (.eq (st_t 7) (.string RX10 414)) (by decide +kernel)) (he 7 (Nat.le_of_ble_eq_true rfl)))) ?_
  refine st_cons (vk_R.of (own := RX10) (tx := "day") (k := 416) (hts _ (im_t8 (i := 141) rfl)) (va_eqR (hm 1236 (.eq (st_t 3) (.string RX10 416)) (by decide +kernel)) (he 3 (Nat.le_of_ble_eq_true rfl)))) ?_
  refine st_cons (vk_R.of (own := RX10) (tx := "wins") (k := 418) (hts _ (im_t8 (i := 142) rfl)) (va_eqR (hm 1245 (.eq (st_t 29) (.string RX10 418)) (by decide +kernel)) (he 29 (Nat.le_of_ble_eq_true rfl)))) ?_
  refine st_cons (vk_R.of (own := RX10) (tx := "barred") (k := 420) (hts _ (im_t8 (i := 143) rfl)) (va_eqR (hm 1256 (.eq (st_t 1) (.string RX10 420)) (by decide +kernel)) (he 1 (Nat.le_of_ble_eq_true rfl)))) ?_
  refine st_cons (vk_R.of (own := RX10) (tx := "held") (k := 422) (hts _ (im_t8 (i := 144) rfl)) (va_eqR (hm 1265 (.eq (st_t 12) (.string RX10 422)) (by decide +kernel)) (he 12 (Nat.le_of_ble_eq_true rfl)))) ?_
  refine st_cons (vk_R.of (own := RX10) (tx := "open") (k := 424) (hts _ (im_t8 (i := 145) rfl)) (va_eqR (hm 1274 (.eq (st_t 20) (.string RX10 424)) (by decide +kernel)) (he 20 (Nat.le_of_ble_eq_true rfl)))) ?_
  refine st_cons (vk_R.of (own := RX10) (tx := "forced") (k := 425) (hts _ (im_t8 (i := 146) rfl)) (va_eqR (hm 1285 (.eq (st_t 9) (.string RX10 425)) (by decide +kernel)) (he 9 (Nat.le_of_ble_eq_true rfl)))) ?_
  refine st_cons (vk_R.of (own := RX10) (tx := "and") (k := 441) (hts _ (im_t8 (i := 151) rfl)) (va_eqR (hm 1293 (.eq (st_t 0) (.string RX10 441)) (by decide +kernel)) (he 0 (Nat.le_of_ble_eq_true rfl)))) ?_
  refine st_cons (vk_R.of (own := RX10) (tx := "or") (k := 446) (hts _ (im_t8 (i := 152) rfl)) (va_eqR (hm 1300 (.eq (st_t 21) (.string RX10 446)) (by decide +kernel)) (he 21 (Nat.le_of_ble_eq_true rfl)))) ?_
  exact st_nil
theorem st_wd {p : Program} {s : State} {m : MethodId} {meth : Method} {c : Code} {b L : Nat} {xs : Nat → Int32} (C0 : lw_At p s m meth c b L xs) : ∃ G : fw_G, fw_base G = s.heap.size ∧ fw_b G = b ∧ fw_L G = L ∧ fw_xs G = xs ∧ fw_Wd G s := by
  obtain ⟨-, -, -, -, -, hts, hX, hbl, -, hgv⟩ := C0
  have hn : narrow_1.before #[Value.ref b] s = true := by rw [Cond.before_and, Bool.and_eq_true] at hgv; exact hgv.2
  have hf : ∀ w ∈ st_fl, w.before #[Value.ref b] s = true := flat_of_before _ hn
  have hm : ∀ i : Nat, ∀ w : Cond, st_fl[i]? = some w → w.before #[Value.ref b] s = true := fun i w h => hf w (List.mem_of_getElem? h)
  have hU : ∀ w ∈ wsU, w.before #[Value.ref b] s = true := fun w h => hts w (wsU_tbl w h)
  have hA : ∀ a : Nat, a < s.heap.size → ¬ (fun q : Nat => s.heap.size ≤ q) a := fun a h => Nat.not_le.mpr h
  obtain ⟨c0, i0, k0⟩ := u_known (C := RX0) (T := TX0) (N := 2) (n := 2) hU inU0 (hU _ wins_X0)
  obtain ⟨c1, i1, k1⟩ := u_known (C := RX1) (T := TX1) (N := 5) (n := 5) hU inU1 (hU _ wins_X1)
  obtain ⟨c2, i2, k2⟩ := u_known (C := RX2) (T := TX2) (N := 8) (n := 8) hU inU2 (hU _ wins_X2)
  obtain ⟨c3, i3, k3⟩ := u_known (C := RX3) (T := TX3) (N := 4) (n := 4) hU inU3 (hU _ wins_X3)
  obtain ⟨c4, i4, k4⟩ := u_known (C := RX4) (T := TX4) (N := 7) (n := 7) hU inU4 (hU _ wins_X4)
  obtain ⟨c5, i5, k5⟩ := u_known (C := RX5) (T := TX5) (N := 2) (n := 2) hU inU5 (hU _ wins_X5)
  obtain ⟨c6, i6, k6⟩ := u_known (C := RX6) (T := TX6) (N := 17) (n := 17) hU inU6 (hU _ wins_X6)
  obtain ⟨c7, i7, k7⟩ := u_known (C := RX7) (T := TX7) (N := 9) (n := 9) hU inU7 (hU _ wins_X7)
  obtain ⟨c8, i8, k8⟩ := u_known (C := RX8) (T := TX8) (N := 2) (n := 2) hU inU8 (hU _ wins_X8)
  obtain ⟨c9, i9, k9⟩ := u_known (C := RX9) (T := TX9) (N := 11) (n := 11) hU inU9 (hU _ wins_X9)
  obtain ⟨c10, i10, k10⟩ := u_known (C := RX10) (T := TX10) (N := 26) (n := 26) hU inU10 (hU _ wins_X10)
  obtain ⟨a0, ka0, kc0, ha0, hb0, hc0⟩ := Cond.arrayClass_spec (hU _ warr_int)
  obtain ⟨a1, ka1, kc1, ha1, hb1, hc1⟩ := Cond.arrayClass_spec (hU _ warr_byte)
  obtain ⟨a2, ka2, kc2, ha2, hb2, hc2⟩ := Cond.arrayClass_spec (hU _ warr_long)
  have hO3 := hts _ (im_t1 (w := .arrayOver (.object RX3)) (i := 84) rfl)
  have hO4 := hts _ (im_t1 (w := .arrayOver (.object RX6)) (i := 86) rfl)
  obtain ⟨kc3, a3, ka3, hd3, he3, hb3, hc3, ha3⟩ := Cond.arrayOver_spec hO3
  obtain ⟨kc4, a4, ka4, hd4, he4, hb4, hc4, ha4⟩ := Cond.arrayOver_spec hO4
  obtain ⟨adK, adV, hSt, hev⟩ := st_strs (A := fun q : Nat => s.heap.size ≤ q) hf hA
  refine ⟨(s.heap.size, fun k => if k = 0 then c0 else if k = 1 then c1 else if k = 2 then c2 else if k = 3 then c3 else if k = 4 then c4 else if k = 5 then c5 else if k = 6 then c6 else if k = 7 then c7 else if k = 8 then c8 else if k = 9 then c9 else c10, fun k => if k = 0 then i0 else if k = 1 then i1 else if k = 2 then i2 else if k = 3 then i3 else if k = 4 then i4 else if k = 5 then i5 else if k = 6 then i6 else if k = 7 then i7 else if k = 8 then i8 else if k = 9 then i9 else i10, fun k => if k = 0 then a0 else if k = 1 then a1 else if k = 2 then a2 else if k = 3 then a3 else a4, adK, adV, b, L, xs), rfl, rfl, rfl, rfl, ?_⟩
  refine ⟨⟨fun k q hq => ?_, fun k q hq => ?_⟩, ?_, st_R hts hf hev, ⟨va_AO.of hO3, va_AO.of hO4⟩, ⟨va_Nc.of (hm 32 (.not (.castable "java/lang/IllegalArgumentException" "java/util/NoSuchElementException")) rfl), ?_⟩, hSt, vx_Zqof (hts _ (im_t3 (i := 58) rfl)) (hU _ wini_java_lang_Throwable) (hm 2 (.isRef (.static Bundle.tN "UNASSIGNED_STACK" Bundle.steD)) rfl) hA, vx_Zqof (hts _ (im_t3 (i := 60) rfl)) (hU _ wini_java_lang_Throwable) (hm 3 (.isRef (.static Bundle.tN "SUPPRESSED_SENTINEL" Bundle.listD)) rfl) hA, va_Zof (hts _ (im_t3 (i := 138) rfl)) (hts _ (im_t1 (i := 17) rfl)) (va_eqt (hm 4 (.eq (.static "java/lang/String" "COMPACT_STRINGS" "Z") (.int 1)) rfl)) hA, va_Zqof (hts _ (im_t3 (i := 154) rfl)) (hts _ (im_t1 (i := 19) rfl)) (hm 5 (.isRef (.static "jdk/internal/util/Preconditions" "SIOOBE_FORMATTER" "Ljava/util/function/BiFunction;")) rfl) hA, hX, hbl, Nat.le_refl _⟩
  · match k, hq with
    | 0, hq => cases hq; exact k0
    | 1, hq => cases hq; exact k1
    | 2, hq => cases hq; exact k2
    | 3, hq => cases hq; exact k3
    | 4, hq => cases hq; exact k4
    | 5, hq => cases hq; exact k5
    | 6, hq => cases hq; exact k6
    | 7, hq => cases hq; exact k7
    | 8, hq => cases hq; exact k8
    | 9, hq => cases hq; exact k9
    | 10, hq => cases hq; exact k10
  · match k, hq with
    | 0, hq => cases hq; exact ⟨fun N z => ⟨(fun k h => by cases h), ka0, hb0, kc0, hc0⟩, ha0⟩
    | 1, hq => cases hq; exact ⟨fun N z => ⟨(fun k h => by cases h), ka1, hb1, kc1, hc1⟩, ha1⟩
    | 2, hq => cases hq; exact ⟨fun N z => ⟨(fun k h => by cases h), ka2, hb2, kc2, hc2⟩, ha2⟩
    | 3, hq => cases hq; exact ⟨fun N z => ⟨(fun k h => by cases h), ka3, hb3, kc3, hc3⟩, ka3, kc3, hb3, hc3, hd3, ha3⟩
    | 4, hq => cases hq; exact ⟨fun N z => ⟨(fun k h => by cases h), ka4, hb4, kc4, hc4⟩, ka4, kc4, hb4, hc4, hd4, ha4⟩
  · refine st_cons (va_Nw.of rfl (hts _ (im_t1 (i := 35) rfl))) ?_
    refine st_cons (va_Nw.of rfl (hts _ (im_t1 (i := 92) rfl))) ?_
    refine st_cons (va_Nw.of rfl (hts _ (im_t2 (i := 94) rfl))) ?_
    refine st_cons (va_Nw.of rfl (hts _ (im_t2 (i := 108) rfl))) ?_
    refine st_cons (va_Nw.of rfl (hts _ (im_t6 (i := 36) rfl))) ?_
    exact st_nil
  · refine st_cons (va_Nw.of rfl (hts _ (im_t3 (i := 33) rfl))) ?_
    refine st_cons (va_Nw.of rfl (hts _ (im_t4 (i := 70) rfl))) ?_
    refine st_cons (va_Nw.of rfl (hts _ (im_t3 (i := 35) rfl))) ?_
    refine st_cons (va_Nw.of rfl (hts _ (im_t3 (i := 37) rfl))) ?_
    refine st_cons (va_Nw.of rfl (hts _ (im_t3 (i := 39) rfl))) ?_
    exact st_nil
/-- the memory behind the constructors -/
def st_S : List fw_Sh := xs_123 ++ [.inl (2, 1)]
def st_M : fw_Mem := fw_nA xb_M 148 0
theorem st_len31 : xs_31.length = 136 := by decide +kernel
theorem st_len123 : xs_123.length = 148 := by decide +kernel
set_option maxHeartbeats 2000000 in
theorem st_walk {p : Program} {e : Env} {s : State} {m : MethodId} {below : List Frame} {meth : Method} {c : Code} (l : Launch) (hflags : l.flags = flags0) {b L : Nat} {xs : Nat → Int32} (hp : lf_law st_S L xs 20000 0 st_M = some 1) (C0 : lw_At p s m meth c b L xs) : W p l e room_1 s m #[Value.ref b] below meth c s.heap [] 0 0 (lw_Z below #[Value.ref b] s) (entryFrame m ([Value.ref b] : List Value).toArray 7) := by
  have hl0 : l.stackTraces = false := by rw [Launch.stackTraces, hflags]; decide
  obtain ⟨G, g1, g2, g3, g4, hWd⟩ := st_wd C0
  obtain ⟨hx, hb, hr, hml, hown, hts, hX, hbl, hlocks, hgv⟩ := C0
  have C : fw_C G RL cL_law 7 p s m #[Value.ref b] c := ⟨⟨hx, hb, hml, hown, fun w h => hts w (wsU_tbl w h)⟩, hWd⟩
  have hl := lv_entry ([.ref b]) (n := 7) (Nat.le_of_ble_eq_true rfl)
  rw [lg_entry_eq]
  generalize (lg_sl ([.ref b]) ++ List.replicate (7 - (lg_sl ([.ref b])).length) Slot.unset).toArray = ls at hl ⊢
  have hl : lv_has ls 7 [(0, .ref b)] := hl
  have hl : lv_has ls 7 ([(0, Value.ref 1000000)].map (fw_cl G)) := by
    have q : [(0, Value.ref 1000000)].map (fw_cl G) = [(0, .ref b)] := by
      simp only [List.map_cons, List.map_nil, fw_cl, fw_cv, fw_ad, g2]
      rfl
    rw [q]; exact hl
  refine (show fw_W G p l e room_1 s m #[Value.ref b] below meth c 7 (lw_Z below #[Value.ref b] s) 0 0 0 [(0, .ref 1000000)] [] [] xz_M from ?_) s.heap [] ls hl ⟨Nat.zero_le _, fun k q h => by simp [fw_ws] at h⟩ va_S.rf
  refine fw_newO C 9 (Nat.le_of_ble_eq_true rfl) wcl_L_8 wins_X9 wini_X9 (by rw [g1]; rfl) (by decide) (Nat.le_of_ble_eq_true rfl) (Nat.le_of_ble_eq_true rfl) dL_law_0 ?_
  refine fw_eqm (S' := xs_0) (M' := xm_0) rfl rfl ?_
  refine fw_dup C dL_law_3 rfl ?_
  refine fw_callI [] C (cI_X9_init hl0) cal_X9_init rfl wm_L_97 wi_yX9_init rfl (Nat.le_of_ble_eq_true rfl) ⟨Nat.le_of_ble_eq_true rfl, Nat.le_of_ble_eq_true rfl⟩ ⟨Nat.le_of_ble_eq_true rfl, Nat.le_of_ble_eq_true rfl⟩ (by rw [g1]; rfl) dL_law_4 ?_
  refine fw_astore_n C [(1, _), (0, _)] dL_law_7 rfl (Nat.le_of_ble_eq_true rfl) rfl ?_
  refine fw_newO C 10 (Nat.le_of_ble_eq_true rfl) wcl_L_98 wins_X10 wini_X10 (by rw [g1, st_len31]) (by rw [st_len31]; decide) (Nat.le_of_ble_eq_true rfl) (Nat.le_of_ble_eq_true rfl) dL_law_8 ?_
  rw [st_len31]
  refine fw_eqm (S' := xs_100) (M' := xm_100) rfl rfl ?_
  refine fw_dup C dL_law_11 rfl ?_
  refine fw_callI [] C (cI_X10_init hl0) cal_X10_init rfl wm_L_100 wi_yX10_init rfl (Nat.le_of_ble_eq_true rfl) ⟨Nat.le_of_ble_eq_true rfl, Nat.le_of_ble_eq_true rfl⟩ ⟨Nat.le_of_ble_eq_true rfl, Nat.le_of_ble_eq_true rfl⟩ (by rw [g1, show xs_100.length = 137 by decide +kernel]) dL_law_12 ?_
  refine fw_astore_n C [(2, _), (1, _), (0, _)] dL_law_15 rfl (Nat.le_of_ble_eq_true rfl) rfl ?_
  refine fw_iconst C 1 dL_law_16 rfl ?_
  refine fw_newP C 2 .long 1 (Or.inr (Or.inr ⟨rfl, rfl⟩)) warr_long (by decide) rfl (Nat.le_of_ble_eq_true rfl) (by rw [g1, st_len123]) (by rw [st_len123]; decide) (Nat.le_of_ble_eq_true rfl) (Nat.le_of_ble_eq_true rfl) dL_law_17 ?_
  rw [st_len123]
  refine fw_eqm (S' := st_S) (M' := st_M) rfl rfl ?_
  refine fw_astore_n C [(3, _), (2, _), (1, _), (0, _)] dL_law_19 rfl (Nat.le_of_ble_eq_true rfl) rfl ?_
  refine fw_iconst C 0 dL_law_20 rfl ?_
  refine fw_istore C [(4, _), (3, _), (2, _), (1, _), (0, _)] dL_law_21 (Nat.le_of_ble_eq_true rfl) rfl ?_
  refine fw_sub [4, 3, 2, 1, 0] rfl ?_
  refine fw_widen (k := 149 + 0) (n := 8268 + 6 * 0) (Nat.le_of_ble_eq_true rfl) (Nat.le_of_ble_eq_true rfl) ?_
  refine law_loop C hl0 (fun x4 M => ?_) 20000 0 0 st_M (Nat.le_refl _) (by rw [g3, g4]; exact hp)
  refine fw_iconst C 1 dL_law_2125 rfl ?_
  intro H locs ls hl hR hS
  refine va_forget (fun q hq => ?_) ?_
  · have h := hS.2.2 q hq
    rw [← g1]
    exact h
  · refine W.widen (k := 601024) (n := 7293034) (by omega) (by omega) ?_
    exact lw_ret hx hb hr hlocks dL_law_2126
