/-! ===== records become others: image, back ===== -/
def RB (M : fw_Mem) (n : Nat) : Prop := LO M n ∧ (M n 0 = nI (n + 1) ∧ M n 2 = nI (n + 3) ∧ M n 3 = nI (n + 4)) ∧ (gL st_S 0 (n + 1) = true ∧ fw_len2 st_S 0 (n + 1) = 72 ∧ gL st_S 0 (n + 4) = true ∧ fw_len2 st_S 0 (n + 4) = 3 ∧ fw_len2 st_S 4 (n + 3) = 10) ∧ (∀ s, s < 10 → M (n + 3) s = nI (n + 29 + s)) ∧ ∀ s, s < 10 → gO st_S 6 (n + 29 + s) = true
theorem lo_81 {M : fw_Mem} (h : KC M) : LO M 81 := ⟨by omega, gO_81, kc_81_1 h, len_83, gO_l81⟩
theorem rb_3 {M : fw_Mem} (h : KC M) : RB M 3 := ⟨lo_3 h, ⟨kc_3_0 h, kc_3_2 h, kc_3_3 h⟩, ⟨by decide +kernel, len_4, by decide +kernel, len_7, len_6⟩, fun s hs => kc_s3 h hs, gO_s3⟩
theorem rb_42 {M : fw_Mem} (h : KC M) : RB M 42 := ⟨lo_42 h, ⟨kc_42_0 h, kc_42_2 h, kc_42_3 h⟩, ⟨by decide +kernel, len_43, by decide +kernel, len_46, len_45⟩, fun s hs => kc_s42 h hs, gO_s42⟩
theorem rb_81 {M : fw_Mem} (h : KC M) : RB M 81 := ⟨lo_81 h, ⟨kc_81_0 h, kc_81_2 h, kc_81_3 h⟩, ⟨by decide +kernel, len_82, by decide +kernel, len_85, len_84⟩, fun s hs => kc_s81 h hs, gO_s81⟩
section BE
variable {M : fw_Mem} {n0 n1 P L N : Nat} {r : Nat → Int32}
/-- the cells of the records at n0 that a text tells may have changed, its pointers not -/
def BX (M m : fw_Mem) (n0 : Nat) : Prop := (∀ b, ¬ (n0 ≤ b ∧ b < n0 + 39) → m b = M b) ∧ (∀ j, j < 4 → m n0 j = M n0 j) ∧ m (n0 + 2) = M (n0 + 2) ∧ m (n0 + 3) = M (n0 + 3) ∧ ∀ s, s < 10 → m (n0 + 29 + s) 0 = M (n0 + 29 + s) 0
theorem BX.rf (M : fw_Mem) (n0 : Nat) : BX M M n0 := ⟨fun _ _ => rfl, fun _ _ => rfl, rfl, rfl, fun _ _ => rfl⟩
theorem BX.tr {a b c : fw_Mem} (h : BX a b n0) (h2 : BX b c n0) : BX a c n0 := ⟨fun x hx => (h2.1 x hx).trans (h.1 x hx), fun j hj => (h2.2.1 j hj).trans (h.2.1 j hj), h2.2.2.1.trans h.2.2.1, h2.2.2.2.1.trans h.2.2.2.1, fun s hs => (h2.2.2.2.2 s hs).trans (h.2.2.2.2 s hs)⟩
theorem BX.kc {m : fw_Mem} (f : BX M m n0) (hn : n0 = 3 ∨ n0 = 42 ∨ n0 = 81) (h : KC M) : KC m := by
  refine kc_cong h fun q hq => ?_
  have z := List.all_eq_true.mp (by decide +kernel : (kcl.all fun q => [3, 42, 81].all fun n => (decide (q.1 < n) || decide (n + 39 ≤ q.1)) || ((q.1 == n && decide (q.2.1 < 4)) || (q.1 == n + 3 || (decide (n + 29 ≤ q.1) && q.2.1 == 0)))) = true) q hq
  have z2 := List.all_eq_true.mp z n0 (by rcases hn with rfl | rfl | rfl <;> simp)
  simp only [Bool.or_eq_true, decide_eq_true_eq, Bool.and_eq_true, beq_iff_eq] at z2
  rcases z2 with y | y | y | y
  · rw [f.1 _ (by omega)]
  · rw [y.1]; exact f.2.1 _ y.2
  · rw [y, f.2.2.2.1]
  · by_cases e : q.1 < n0 + 39
    · obtain ⟨s, hs⟩ : ∃ s, q.1 = n0 + 29 + s := ⟨q.1 - (n0 + 29), by omega⟩
      rw [hs, y.2]; exact f.2.2.2.2 s (by omega)
    · rw [f.1 _ (by omega)]
theorem cl_become {m : fw_Mem} {a b : Nat} (ha : gO st_S 3 a = true) (hb : gO st_S 3 b = true) (hab : b ≠ a) : ∃ m', f_X3_become st_S m a b = some m' ∧ (∀ x, x ≠ a → m' x = m x) ∧ cl m' a = cl m b := by
  refine ⟨fw_set (fw_set (fw_set (fw_set m a 0 (m b 0)) a 1 (m b 1)) a 2 (m b 2)) a 3 (m b 3), ?_, fun x hx => by rw [set_nr _ _ _ hx, set_nr _ _ _ hx, set_nr _ _ _ hx, set_nr _ _ _ hx], ?_⟩
  · simp only [f_X3_become, ha, hb, gd_tt, bm_s, set_na _ _ _ _ hab]
  · rw [cl_clk, cl_clk]
    simp [fw_set]
theorem cq_become {m : fw_Mem} {a b : Nat} (ha : gO st_S 6 a = true) (hb : gO st_S 6 b = true) (hab : b ≠ a) (h8 : m b 8 = 0 ∨ m b 8 = 1) (h9 : m b 9 = 0 ∨ m b 9 = 1) : ∃ m', f_X6_become st_S m a b = some m' ∧ (∀ x, x ≠ a → m' x = m x) ∧ m' a 0 = m a 0 ∧ cq m' a = cq m b := by
  have g8 : gB (m b 8) = true := by rcases h8 with e | e <;> (rw [e]; decide)
  have g9 : gB (m b 9) = true := by rcases h9 with e | e <;> (rw [e]; decide)
  refine ⟨fw_set (fw_set (fw_set (fw_set (fw_set (fw_set (fw_set (fw_set (fw_set (fw_set (fw_set (fw_set m a 1 (m b 1)) a 2 (m b 2)) a 3 (m b 3)) a 4 (m b 4)) a 5 (m b 5)) a 6 (m b 6)) a 7 (m b 7)) a 8 (m b 8)) a 9 (m b 9)) a 10 (m b 10)) a 11 (m b 11)) a 12 (m b 12), ?_, fun x hx => by simp only [set_nr _ _ _ hx], by simp [fw_set], ?_⟩
  · simp only [f_X6_become, ha, hb, gd_tt, bm_s, set_na _ _ _ _ hab, g8, g9]
  · funext j
    unfold cq
    by_cases hj : j < 12
    · rw [if_pos hj, if_pos hj]
      rcases (by omega : j = 0 ∨ j = 1 ∨ j = 2 ∨ j = 3 ∨ j = 4 ∨ j = 5 ∨ j = 6 ∨ j = 7 ∨ j = 8 ∨ j = 9 ∨ j = 10 ∨ j = 11) with rfl | rfl | rfl | rfl | rfl | rfl | rfl | rfl | rfl | rfl | rfl | rfl <;> simp [fw_set]
    · rw [if_neg hj, if_neg hj]
theorem c_become (h : KC M) (h0 : n0 = 3 ∨ n0 = 42 ∨ n0 = 81) (h1 : n1 = 3 ∨ n1 = 42 ∨ n1 = 81) (hne : n0 ≠ n1) (b0 : RB M n0) (b1 : RB M n1) (p0 : cLP M n0) (p1 : cLP M n1) (gc1 : gC st_S (n1 + 1) 0 (n0 + 1) 0 (nI 72) = true) (gc2 : gC st_S (n1 + 4) 0 (n0 + 4) 0 (nI 3) = true) (w : WF r P L N) (rw1 : RW M n1 r P L N) : ∃ M', f_X4_become st_S M n0 n1 = some M' ∧ BX M M' n0 ∧ RW M' n0 r P L N := by
  obtain ⟨s1, s2, s3, s4, s5⟩ := rw1
  have n10 := w.n
  have p12 := w.1.1
  have l24 := w.1.2.1
  have apart : ∀ b, n1 ≤ b → b < n1 + 39 → ¬ (n0 ≤ b ∧ b < n0 + 39) := fun b x1 x2 => by omega
  obtain ⟨M5, hM5⟩ : ∃ m, m = fw_set (fw_set (fw_set M n0 4 (nI P)) n0 5 (nI L)) n0 6 (nI N) := ⟨_, rfl⟩
  obtain ⟨M10, hM10⟩ : ∃ m, m = fw_cpy M5 (n1 + 1) (n0 + 1) 0 0 72 := ⟨_, rfl⟩
  obtain ⟨M15, hM15⟩ : ∃ m, m = fw_cpy M10 (n1 + 4) (n0 + 4) 0 0 3 := ⟨_, rfl⟩
  have f5 : ∀ b, b ≠ n0 → M5 b = M b := fun b hb => by rw [hM5, set_nr _ _ _ hb, set_nr _ _ _ hb, set_nr _ _ _ hb]
  have f10 : ∀ b, b ≠ n0 + 1 → M10 b = M5 b := fun b hb => by rw [hM10]; funext j; simp [fw_cpy, hb]
  have f15 : ∀ b, b ≠ n0 + 4 → M15 b = M10 b := fun b hb => by rw [hM15]; funext j; simp [fw_cpy, hb]
  have n5 : ∀ j, j < 4 → M5 n0 j = M n0 j := fun j hj => by rw [hM5, set_nk _ _ _ _ (by omega), set_nk _ _ _ _ (by omega), set_nk _ _ _ _ (by omega)]
  have bx15 : BX M M15 n0 := ⟨fun b hb => by rw [f15 b (by omega), f10 b (by omega), f5 b (by omega)], fun j hj => by rw [f15 n0 (by omega), f10 n0 (by omega), n5 j hj], by rw [f15 _ (by omega), f10 _ (by omega), f5 _ (by omega)], by rw [f15 _ (by omega), f10 _ (by omega), f5 _ (by omega)], fun s hs => by rw [f15 _ (by omega), f10 _ (by omega), f5 _ (by omega)]⟩
  have c15 : M15 n0 4 = nI P ∧ M15 n0 5 = nI L ∧ M15 n0 6 = nI N := by
    rw [f15 n0 (by omega), f10 n0 (by omega), hM5]
    exact ⟨by rw [set_nk _ _ _ _ (by omega), set_nk _ _ _ _ (by omega), set_eq], by rw [set_nk _ _ _ _ (by omega), set_eq], set_eq _ _ _ _⟩
  have e15a : ∀ i, i < 72 → M15 (n0 + 1) i = M (n1 + 1) i := fun i hi => by
    rw [f15 _ (by omega), hM10]
    simp only [fw_cpy, if_true]
    rw [if_pos (by omega), f5 _ (by omega)]
    congr 1
    omega
  have e15b : ∀ i, i < 3 → M15 (n0 + 4) i = M (n1 + 4) i := fun i hi => by
    rw [hM15]
    simp only [fw_cpy, if_true]
    rw [if_pos (by omega), f10 _ (by omega), f5 _ (by omega)]
    congr 1
    omega
  -- links
  obtain ⟨m1, l1, l2, l3, l4, l5⟩ := lp_up (fun k (m : fw_Mem) i => lf_X4_become_62 st_S n0 n1 k (nI i) m) L (fun i m => BX M m n0 ∧ (∀ b, ¬ (n0 + 5 ≤ b ∧ b < n0 + 29) → m b = M15 b) ∧ ∀ l, l < i → cl m (M (n0 + 2) l).toNatClampNeg = lq r l) (fun m => BX M m n0 ∧ (∀ b, ¬ (n0 + 5 ≤ b ∧ b < n0 + 29) → m b = M15 b) ∧ (∀ l, l < L → cl m (M (n0 + 2) l).toNatClampNeg = lq r l) ∧ True)
    (by
      rintro k i m hi ⟨x1, x2, x3⟩
      have hi24 : i < 24 := by omega
      have hn : ¬ nI L ≤ nI i := nI_ge hi (by omega)
      have hn2 : ¬ (24 : Int32) ≤ nI i := nI_ge (b := 24) hi24 (by omega)
      obtain ⟨j0, a1, a2, a3, a4, a5⟩ := b0.1.at' p0 hi24
      obtain ⟨j1, d1, d2, d3, d4, d5⟩ := b1.1.at' p1 hi24
      obtain ⟨m', y1, y2, y3⟩ := cl_become (m := m) (a := n0 + 5 + j0) (b := n1 + 5 + j1) a5 d5 (by omega)
      have e1 : m n0 1 = nI (n0 + 2) := by rw [x1.2.1 1 (by omega)]; exact b0.1.2.2.1
      have e2 : m n1 1 = nI (n1 + 2) := by rw [x1.1 n1 (by omega)]; exact b1.1.2.2.1
      have e5 : m n0 5 = nI L := by rw [x2 n0 (by omega)]; exact c15.2.1
      have r0 : m (n0 + 2) i = M (n0 + 2) i := by rw [x1.2.2.1]
      have r1 : m (n1 + 2) i = M (n1 + 2) i := by rw [x1.1 _ (by omega)]
      have hb0 := b0.1.1
      have hb1 := b1.1.1
      refine ⟨m', ⟨⟨fun b hb => by rw [y2 b (by omega), x1.1 b hb], fun j hj => by rw [y2 n0 (by omega), x1.2.1 j hj], by rw [y2 _ (by omega), x1.2.2.1], by rw [y2 _ (by omega), x1.2.2.2.1], fun s hs => by rw [y2 _ (by omega), x1.2.2.2.2 s hs]⟩, fun b hb => by rw [y2 b (by omega), x2 b hb], fun l hl => ?_⟩, ?_⟩
      · by_cases e : l = i
        · subst e
          rw [a3, y3, cl_fr (x1.1 _ (by omega)), ← s4 l hi, d3]
        · obtain ⟨jl, g1, g2, g3, -, -⟩ := b0.1.at' p0 (l := l) (by omega)
          have hjj : jl ≠ j0 := fun q => e (p0.2 l i (by omega) hi24 (by rw [g2, a2, q]))
          have := x3 l (by omega)
          rw [g3] at this ⊢
          rw [cl_fr (y2 _ (by omega))]; exact this
      · simp only [lf_X4_become_62, b0.1.2.1, b1.1.2.1, gd_tt, e5, if_neg hn, if_neg hn2, e1, e2, nI_gN (show n0 + 2 < 2147483648 by omega), nI_cl (show n0 + 2 < 2147483648 by omega), nI_gN (show n1 + 2 < 2147483648 by omega), nI_cl (show n1 + 2 < 2147483648 by omega), b0.1.gA hi24, b1.1.gA hi24, nI_cl (show i < 2147483648 by omega), r0, r1, a4, d4, a3, d3, a5, y1, b1_s, nI_1])
    (by
      rintro k m ⟨x1, x2, x3⟩
      have e5 : m n0 5 = nI L := by rw [x2 n0 (by omega)]; exact c15.2.1
      exact ⟨m, by simp only [lf_X4_become_62, b0.1.2.1, gd_tt, e5, if_pos (nI_le (Nat.le_refl L) (show L < 2 ^ 31 by omega))], x1, x2, x3, trivial⟩) _ 0 20000 M15 rfl (by omega) (by omega) ⟨bx15, fun _ _ => rfl, fun l hl => absurd hl (by omega)⟩
  have l1' : lf_X4_become_62 st_S n0 n1 20000 0 M15 = some m1 := l1
  -- suits
  obtain ⟨m2, q1, q2, q3, q4⟩ := lp_up (fun k (m : fw_Mem) i => lf_X4_become_99 st_S n0 n1 k (nI i) m) N (fun i m => BX M m n0 ∧ (∀ b, ¬ (n0 + 29 ≤ b ∧ b < n0 + 39) → m b = m1 b) ∧ ∀ s, s < i → cq m (n0 + 29 + s) = sq r s) (fun m => BX M m n0 ∧ (∀ b, ¬ (n0 + 29 ≤ b ∧ b < n0 + 39) → m b = m1 b) ∧ ∀ s, s < N → cq m (n0 + 29 + s) = sq r s)
    (by
      rintro k i m hi ⟨x1, x2, x3⟩
      have hi10 : i < 10 := by omega
      have hn : ¬ nI N ≤ nI i := nI_ge hi (by omega)
      have hn2 : ¬ (10 : Int32) ≤ nI i := nI_ge (b := 10) hi10 (by omega)
      have hb0 := b0.1.1
      have hb1 := b1.1.1
      have em : m (n1 + 29 + i) = M (n1 + 29 + i) := x1.1 _ (by omega)
      have eqs := s5 i hi
      have hq := w.q hi
      have h8 : m (n1 + 29 + i) 8 = 0 ∨ m (n1 + 29 + i) 8 = 1 := by have := hq.2.2.2.2.2.1; rw [← eqs] at this; rw [em]; exact this
      have h9 : m (n1 + 29 + i) 9 = 0 ∨ m (n1 + 29 + i) 9 = 1 := by have := hq.2.2.2.2.2.2.1; rw [← eqs] at this; rw [em]; exact this
      obtain ⟨m', y1, y2, y3, y4⟩ := cq_become (m := m) (b0.2.2.2.2 i hi10) (b1.2.2.2.2 i hi10) (show n1 + 29 + i ≠ n0 + 29 + i by omega) h8 h9
      have e1 : m n0 2 = nI (n0 + 3) := by rw [x1.2.1 2 (by omega)]; exact b0.2.1.2.1
      have e2 : m n1 2 = nI (n1 + 3) := by rw [x1.1 n1 (by omega)]; exact b1.2.1.2.1
      have e6 : m n0 6 = nI N := by rw [x2 n0 (by omega), l3 n0 (by omega)]; exact c15.2.2
      have r0 : m (n0 + 3) i = nI (n0 + 29 + i) := by rw [x1.2.2.2.1]; exact b0.2.2.2.1 i hi10
      have r1 : m (n1 + 3) i = nI (n1 + 29 + i) := by rw [x1.1 _ (by omega)]; exact b1.2.2.2.1 i hi10
      have g0 : gA st_S 4 (n0 + 3) (nI i) = true := gA_at 10 b0.2.2.1.2.2.2.2 hi10 (by omega) rfl
      have g1 : gA st_S 4 (n1 + 3) (nI i) = true := gA_at 10 b1.2.2.1.2.2.2.2 hi10 (by omega) rfl
      refine ⟨m', ⟨⟨fun b hb => by rw [y2 b (by omega), x1.1 b hb], fun j hj => by rw [y2 n0 (by omega), x1.2.1 j hj], by rw [y2 _ (by omega), x1.2.2.1], by rw [y2 _ (by omega), x1.2.2.2.1], fun s hs => ?_⟩, fun b hb => by rw [y2 b (by omega), x2 b hb], fun s hs => ?_⟩, ?_⟩
      · by_cases e : s = i
        · subst e; rw [y3, x1.2.2.2.2 s hs]
        · rw [y2 _ (by omega), x1.2.2.2.2 s hs]
      · by_cases e : s = i
        · subst e; rw [y4, cq_fr em]; exact eqs
        · rw [cq_fr (y2 _ (by omega))]; exact x3 s (by omega)
      · simp only [lf_X4_become_99, b0.1.2.1, b1.1.2.1, gd_tt, e6, if_neg hn, if_neg hn2, e1, e2, nI_gN (show n0 + 3 < 2147483648 by omega), nI_cl (show n0 + 3 < 2147483648 by omega), nI_gN (show n1 + 3 < 2147483648 by omega), nI_cl (show n1 + 3 < 2147483648 by omega), g0, g1, nI_cl (show i < 2147483648 by omega), r0, r1, nI_gN (show n0 + 29 + i < 2147483648 by omega), nI_cl (show n0 + 29 + i < 2147483648 by omega), nI_gN (show n1 + 29 + i < 2147483648 by omega), nI_cl (show n1 + 29 + i < 2147483648 by omega), b0.2.2.2.2 i hi10, y1, b1_s, nI_1])
    (by
      rintro k m ⟨x1, x2, x3⟩
      have e6 : m n0 6 = nI N := by rw [x2 n0 (by omega), l3 n0 (by omega)]; exact c15.2.2
      exact ⟨m, by simp only [lf_X4_become_99, b0.1.2.1, gd_tt, e6, if_pos (nI_le (Nat.le_refl N) (show N < 2 ^ 31 by omega))], x1, x2, x3⟩) _ 0 20000 m1 rfl (by omega) (by omega) ⟨l2, fun _ _ => rfl, fun l hl => absurd hl (by omega)⟩
  have q1' : lf_X4_become_99 st_S n0 n1 20000 0 m1 = some m2 := q1
  refine ⟨m2, ?_, q2, ⟨?_, fun i hi => ?_, fun i hi => ?_, fun l hl => ?_, fun s hs => q4 s hs⟩⟩
  · have hb0 := b0.1.1
    have hb1 := b1.1.1
    have e1 : M n1 4 = nI P := s1.1
    have e2 : fw_set M n0 4 (nI P) n1 5 = nI L := by rw [set_na _ _ _ _ (by omega)]; exact s1.2.1
    have e3 : fw_set (fw_set M n0 4 (nI P)) n0 5 (nI L) n1 6 = nI N := by rw [set_na _ _ _ _ (by omega), set_na _ _ _ _ (by omega)]; exact s1.2.2
    have g1 : M5 n1 0 = nI (n1 + 1) := by rw [f5 n1 (by omega)]; exact b1.2.1.1
    have g0 : M5 n0 0 = nI (n0 + 1) := by rw [n5 0 (by omega)]; exact b0.2.1.1
    have g3 : M10 n1 3 = nI (n1 + 4) := by rw [f10 n1 (by omega), f5 n1 (by omega)]; exact b1.2.1.2.2
    have g4 : M10 n0 3 = nI (n0 + 4) := by rw [f10 n0 (by omega), n5 3 (by omega)]; exact b0.2.1.2.2
    have t72 : (nI 72).toNatClampNeg = 72 := nI_cl (by omega)
    have t3 : (nI 3).toNatClampNeg = 3 := nI_cl (by omega)
    simp only [f_X4_become, b0.1.2.1, b1.1.2.1, gd_tt, bm_s, e1, e2, e3]
    rw [← hM5]
    simp only [g1, g0, nI_gN (show n1 + 1 < 2147483648 by omega), nI_gN (show n0 + 1 < 2147483648 by omega), nI_cl (show n1 + 1 < 2147483648 by omega), nI_cl (show n0 + 1 < 2147483648 by omega), gd_tt, b0.2.2.1.1, b0.2.2.1.2.1, gc1, t72]
    rw [← hM10]
    simp only [g3, g4, nI_gN (show n1 + 4 < 2147483648 by omega), nI_gN (show n0 + 4 < 2147483648 by omega), nI_cl (show n1 + 4 < 2147483648 by omega), nI_cl (show n0 + 4 < 2147483648 by omega), gd_tt, b0.2.2.1.2.2.1, b0.2.2.1.2.2.2.1, gc2, t3]
    rw [← hM15]
    simp only [l1', q1', b1_s]
  · rw [q3 n0 (by omega), l3 n0 (by omega)]; exact c15
  · rw [q3 _ (by omega), l3 _ (by omega), e15a i (by omega)]; exact s2 i hi
  · rw [q3 _ (by omega), l3 _ (by omega), e15b i hi]; exact s3 i hi
  · obtain ⟨j, j1, j2, j3⟩ := p0.at (l := l) (by rcases h0 with rfl | rfl | rfl <;> omega) (by omega)
    have := l4 l hl
    rw [q2.2.2.1]
    rw [j3] at this ⊢
    rw [cl_fr (q3 _ (by omega))]; exact this
end BE
/-! the model copies a row -/
theorem m_copy {M : fw_Mem} {a b : Nat} (hab : b ≠ a) (ha : fw_len2 st_S 0 a = 330) (hb : fw_len2 st_S 0 b = 330) : ∃ m', f_X10_copy st_S M a b = some m' ∧ (∀ x, x ≠ a → m' x = M x) ∧ ∀ k, k < 330 → m' a k = M b k := by
  obtain ⟨R, h1, h2⟩ := lp_up (fun n (x : fw_Mem) k => lf_X10_copy_2 st_S a b n (nI k) x) 330 (fun i m => (∀ x, x ≠ a → m x = M x) ∧ ∀ k, k < i → m a k = M b k) (fun m => (∀ x, x ≠ a → m x = M x) ∧ ∀ k, k < 330 → m a k = M b k)
    (by
      rintro n i m hi ⟨x1, x2⟩
      have hn : ¬ (330 : Int32) ≤ nI i := nI_ge (b := 330) hi (by omega)
      refine ⟨fw_set m a i (M b i), ⟨fun x hx => by rw [set_nr _ _ _ hx, x1 x hx], fun k hk => ?_⟩, ?_⟩
      · by_cases e : k = i
        · subst e; rw [set_eq]
        · rw [set_nk _ _ _ _ e]; exact x2 k (by omega)
      · simp only [lf_X10_copy_2, if_neg hn, gA_at 330 ha (i := i) (n := i) hi (by omega) rfl, gA_at 330 hb (i := i) (n := i) hi (by omega) rfl, gd_tt, bm_s, nI_cl (show i < 2147483648 by omega), x1 b hab, nI_1])
    (by
      rintro n m hm
      exact ⟨m, by simp only [lf_X10_copy_2, if_pos (show (330 : Int32) ≤ nI 330 by decide)], hm⟩) _ 0 20000 M rfl (by omega) (by omega) ⟨fun _ _ => rfl, fun k hk => absurd hk (by omega)⟩
  have h1' : lf_X10_copy_2 st_S a b 20000 0 M = some R := h1
  exact ⟨R, by rw [f_X10_copy, h1', b1_s], h2.1, h2.2⟩
