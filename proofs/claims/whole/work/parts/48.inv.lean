/-! ===== what holds between calls ===== -/
def clk (g t f u : Int32) : Nat → Int32 := fun j => if j = 0 then g else if j = 1 then t else if j = 2 then (if u = -1 then 0 else 1) else if j = 3 then f else if j = 4 then (if u = -1 then 9999 else u) else 0
theorem cl_clk (M : fw_Mem) (a : Nat) : cl M a = clk (M a 0) (M a 1) (M a 2) (M a 3) := rfl
theorem cl_fr {M M' : fw_Mem} {a : Nat} (h : M' a = M a) : cl M' a = cl M a := by rw [cl_clk, cl_clk, h]
/-- the records at n are a row's -/
def RW (M : fw_Mem) (n : Nat) (r : Nat → Int32) (P L N : Nat) : Prop := (M n 4 = nI P ∧ M n 5 = nI L ∧ M n 6 = nI N) ∧ (∀ i, i < 6 * P → M (n + 1) i = r (6 + i)) ∧ (∀ k, k < 3 → M (n + 4) k = r (3 + k)) ∧ (∀ l, l < L → cl M (M (n + 2) l).toNatClampNeg = lq r l) ∧ ∀ s, s < N → cq M (n + 29 + s) = sq r s
theorem cLP.at {M : fw_Mem} {n l : Nat} (hp : cLP M n) (hn : n ≤ 1000) (hl : l < 24) : ∃ j, j < 24 ∧ M (n + 2) l = nI (n + 5 + j) ∧ (M (n + 2) l).toNatClampNeg = n + 5 + j := by
  obtain ⟨j, j1, j2⟩ := hp.1 l hl
  exact ⟨j, j1, j2, by rw [j2, nI_cl (by omega)]⟩
theorem RW.fr {M M' : fw_Mem} {n : Nat} {r : Nat → Int32} {P L N : Nat} (hp : cLP M n) (hn : n ≤ 1000) (hL : L ≤ 24) (hN : N ≤ 10) (hf : ∀ b, n ≤ b → b < n + 39 → M' b = M b) (w : RW M n r P L N) : RW M' n r P L N := by
  obtain ⟨h1, h2, h3, h4, h5⟩ := w
  refine ⟨?_, ?_, ?_, fun l hl => ?_, fun s hs => ?_⟩
  · rw [hf n (by omega) (by omega)]; exact h1
  · rw [hf (n + 1) (by omega) (by omega)]; exact h2
  · rw [hf (n + 4) (by omega) (by omega)]; exact h3
  · obtain ⟨j, j1, j2, j3⟩ := hp.at (l := l) hn (by omega)
    have := h4 l hl
    rw [hf (n + 2) (by omega) (by omega)]
    rw [j3] at this ⊢
    rw [cl_fr (hf _ (by omega) (by omega))]; exact this
  · rw [cq_fr (hf _ (by omega) (by omega))]; exact h5 s hs
/-- undoing the act f leads from the row r to r0 -/
def UD (f r : Nat → Int32) (L : Nat) (r0 : Nat → Int32) (L0 P N : Nat) : Prop := (∀ i, i < 6 * P → r0 (6 + i) = r (6 + i)) ∧
  ((f 0 = 3 ∧ (∀ k, k < 3 → r0 (3 + k) = r (3 + k)) ∧ (∀ s, s < N → sq r0 s = sq r s) ∧ L = L0 + 1 ∧ f 1 = nI L0 ∧ ∀ l, l < L0 → lq r0 l = lq r l) ∨
   (f 0 = 4 ∧ (∀ k, k < 3 → r0 (3 + k) = r (3 + k)) ∧ (∀ s, s < N → sq r0 s = sq r s) ∧ L0 = L + 1 ∧ ∃ c, c ≤ L ∧ f 1 = nI c ∧ (∀ l, l < c → lq r0 l = lq r l) ∧ (∀ l, c ≤ l → l < L → lq r0 (l + 1) = lq r l) ∧ lq r0 c = clk (f 2) (f 3) (f 4) (f 5)) ∨
   (f 0 = 5 ∧ L0 = L ∧ (∀ l, l < L → lq r0 l = lq r l) ∧ (∀ s, s < N → sq r0 s = sq r s) ∧ ∃ c, c < 3 ∧ f 1 = nI c ∧ r0 (3 + c) = f 2 ∧ ∀ k, k < 3 → k ≠ c → r0 (3 + k) = r (3 + k)) ∨
   (L0 = L ∧ (∀ l, l < L → lq r0 l = lq r l) ∧ (∀ k, k < 3 → r0 (3 + k) = r (3 + k)) ∧ ∃ s, s < N ∧ f 1 = nI s ∧ (∀ t, t < N → t ≠ s → sq r0 t = sq r t) ∧ (∀ j, j < 6 → sq r0 s j = sq r s j) ∧
     ((f 0 = 0 ∧ sq r0 s 6 = -1 ∧ sq r0 s 7 = 0 ∧ sq r0 s 8 = 0 ∧ sq r0 s 9 = 0 ∧ sq r0 s 10 = 0 ∧ sq r0 s 11 = 0) ∨
      (f 0 = 2 ∧ (∀ j, 6 ≤ j → j < 12 → j ≠ 8 → sq r0 s j = sq r s j) ∧ sq r0 s 8 = if sq r s 8 = 0 then 1 else 0) ∨
      (f 0 = 1 ∧ (∀ j, 6 ≤ j → j < 9 → sq r0 s j = sq r s j) ∧ sq r0 s 9 = f 2 ∧ sq r0 s 10 = f 3 ∧ sq r0 s 11 = f 4))))
def arow (cr : Nat → Int32) (j : Nat) : Nat → Int32 := fun k => if k < 6 then cr (6 * j + k) else 0
def prow (pr : Nat → Int32) (j : Nat) : Nat → Int32 := fun k => if k < 330 then pr (330 * j + k) else 0
/-- the acts that are kept: cr the class's rows, pr the model's past, r the row now -/
def ACT (cr pr r : Nat → Int32) (P L N A : Nat) : Prop := A ≤ 12 ∧ ∃ Ls : Nat → Nat, Ls A = L ∧ ∀ j, j < A → WF (prow pr j) P (Ls j) N ∧ UD (arow cr j) (if j + 1 = A then r else prow pr (j + 1)) (Ls (j + 1)) (prow pr j) (Ls j) P N
/-- a byte as the class has it -/
def sx (b : Nat) : Int32 := vp_nar .byte ((nI b).toInt8.toInt32)
def TP (cb mb : Nat → Int32) (T : Nat) : Prop := ∀ i, i < T → ∃ b, b < 256 ∧ mb i = nI b ∧ cb i = sx b
def IMG (M : fw_Mem) (h : Bool) : Prop := M 0 10 = bI h ∧ M 136 4 = bI h ∧ (h = true → ∃ P L N, WF (M 139) P L N ∧ RW M 81 (M 139) P L N)
def IV (M : fw_Mem) (P L N A T U : Nat) (h : Bool) : Prop :=
  KC M ∧ WF (M 137) P L N ∧ (cLP M 3 ∧ cLP M 42 ∧ cLP M 81) ∧ RW M 3 (M 137) P L N ∧ CR M (M 137) L N ∧ IMG M h ∧
  (M 131 1 = nI A ∧ M 136 5 = nI A ∧ ACT (M 132) (M 140) (M 137) P L N A) ∧
  (M 1 1 = nI T ∧ M 136 15 = nI T ∧ T ≤ 600 ∧ TP (M 2) (M 147) T ∧ M 1 8 = M 136 23) ∧
  (M 133 1 = nI U ∧ M 136 13 = nI U ∧ U ≤ 256 ∧ ∀ i, i < U → M 134 i = M 146 i)
def INV (M : fw_Mem) : Prop := ∃ P L N A T U h, IV M P L N A T U h
/-- cells that no later call reads before it has written them -/
def dd (b j : Nat) : Bool := (b == 1 && decide (2 ≤ j) && decide (j ≤ 7)) || (b == 42 && decide (4 ≤ j)) || b == 43 || b == 46 || (decide (47 ≤ b) && decide (b ≤ 70)) || (decide (71 ≤ b) && decide (b ≤ 80) && !(j == 0)) || (b == 121 && decide (6 ≤ j)) || (decide (122 ≤ b) && decide (b ≤ 126)) || (b == 127 && decide (4 ≤ j)) || (decide (128 ≤ b) && decide (b ≤ 130)) || (b == 135 && !(j == 0)) || (b == 136 && (j == 6 || (decide (16 ≤ j) && decide (j ≤ 22)) || decide (24 ≤ j))) || b == 138 || (decide (141 ≤ b) && decide (b ≤ 145)) || b == 148
def AG (M M' : fw_Mem) : Prop := ∀ b j, dd b j = false → M' b j = M b j
theorem AG.rf (M : fw_Mem) : AG M M := fun _ _ _ => rfl
theorem AG.tr {M M' M'' : fw_Mem} (h : AG M M') (h2 : AG M' M'') : AG M M'' := fun b j hd => (h2 b j hd).trans (h b j hd)
theorem AG.st {M M' : fw_Mem} (h : AG M M') (b j : Nat) (v : Int32) (hd : dd b j = true) : AG M (fw_set M' b j v) := fun b' j' hd' => by
  simp only [fw_set]
  by_cases e : b' = b
  · by_cases e2 : j' = j
    · subst e; subst e2; rw [hd] at hd'; cases hd'
    · simp [e2]; exact h b' j' hd'
  · simp [e]; exact h b' j' hd'
def dr (b : Nat) : Bool := decide (b < 42) || b == 44 || b == 45 || (decide (81 ≤ b) && decide (b < 121)) || (decide (131 ≤ b) && decide (b < 135)) || b == 137 || b == 139 || b == 140 || b == 146 || b == 147
theorem dd_row {b : Nat} (h : (dr b && !(b == 1)) = true) (j : Nat) : dd b j = false := by
  simp only [dr, dd, Bool.and_eq_true, Bool.or_eq_true, decide_eq_true_eq, beq_iff_eq, Bool.not_eq_true', beq_eq_false_iff_ne, Bool.or_eq_false_iff, Bool.and_eq_false_iff, decide_eq_false_iff_not, Bool.not_eq_false'] at h ⊢
  omega
theorem AG.row {M M' : fw_Mem} (g : AG M M') {b : Nat} (h : (dr b && !(b == 1)) = true) : M' b = M b := funext fun j => g b j (dd_row h j)
theorem AG.kc {M M' : fw_Mem} (g : AG M M') (h : KC M) : KC M' := kc_cong h fun q hq => g _ _ (by
  have h2 := List.all_eq_true.mp (by decide +kernel : (kcl.all fun q => !dd q.1 q.2.1) = true) q hq
  simpa using h2)
theorem AG.iv {M M' : fw_Mem} {P L N A T U : Nat} {h : Bool} (g : AG M M') (I : IV M P L N A T U h) : IV M' P L N A T U h := by
  obtain ⟨k, w, ⟨p1, p2, p3⟩, r3, c, im, ac, tp, sp⟩ := I
  have n10 := w.1.2.2
  have l24 := w.1.2.1
  have e : ∀ b, (dr b && !(b == 1)) = true → M' b = M b := fun b hb => g.row hb
  have e137 := e 137 rfl
  refine ⟨g.kc k, by rw [e137]; exact w, ⟨?_, ?_, ?_⟩, ?_, ?_, ?_, ?_, ?_, ?_⟩
  · unfold cLP; rw [e (3 + 2) rfl]; exact p1
  · unfold cLP; rw [e (42 + 2) rfl]; exact p2
  · unfold cLP; rw [e (81 + 2) rfl]; exact p3
  · rw [e137]
    exact RW.fr p1 (by omega) l24 n10 (fun b h1 h2 => e b (by simp [dr]; omega)) r3
  · rw [e137]
    refine ⟨by rw [e 3 rfl, e 7 rfl]; exact c.1, fun i hi => ?_⟩
    have ei := e (32 + i) (by simp [dr]; omega)
    rw [cq_fr ei, ei]; exact c.2 i hi
  · refine ⟨by rw [e 0 rfl]; exact im.1, by rw [g 136 4 rfl]; exact im.2.1, fun hh => ?_⟩
    obtain ⟨P', L', N', w', r'⟩ := im.2.2 hh
    refine ⟨P', L', N', by rw [e 139 rfl]; exact w', ?_⟩
    rw [e 139 rfl]
    exact RW.fr p3 (by omega) w'.1.2.1 w'.1.2.2 (fun b h1 h2 => e b (by simp [dr]; omega)) r'
  · rw [e 131 rfl, e 132 rfl, e 140 rfl, e137, g 136 5 rfl]; exact ac
  · rw [g 1 1 rfl, g 136 15 rfl, e 2 rfl, e 147 rfl, g 1 8 rfl, g 136 23 rfl]; exact tp
  · rw [e 133 rfl, e 134 rfl, e 146 rfl, g 136 13 rfl]; exact sp
theorem AG.inv {M M' : fw_Mem} (g : AG M M') (I : INV M) : INV M' := by
  obtain ⟨P, L, N, A, T, U, h, i⟩ := I
  exact ⟨P, L, N, A, T, U, h, g.iv i⟩
theorem BF.ag {M M' : fw_Mem} (f : BF M M') : AG M M' := fun b j hd => by
  by_cases h : b < 121 ∨ 126 < b
  · rw [f.1 b h]
  · by_cases e : b = 121
    · subst e
      by_cases hj : j < 6
      · exact f.2 j hj
      · exact absurd hd (by simp [dd]; omega)
    · exact absurd hd (by simp [dd]; omega)
/-- nothing but the model's notes and its code have changed -/
def MF (M M' : fw_Mem) : Prop := (∀ b, b ≠ 136 → b < 141 ∨ 145 < b → M' b = M b) ∧ ∀ j, j ≠ 6 → M' 136 j = M 136 j
def MC (M M' : fw_Mem) (k : Int32) : Prop := MF M M' ∧ M' 136 6 = k
theorem MF.rf (M : fw_Mem) : MF M M := ⟨fun _ _ _ => rfl, fun _ _ => rfl⟩
theorem MF.tr {M M' M'' : fw_Mem} (h : MF M M') (h2 : MF M' M'') : MF M M'' := ⟨fun b h0 hb => (h2.1 b h0 hb).trans (h.1 b h0 hb), fun j hj => (h2.2 j hj).trans (h.2 j hj)⟩
theorem MF.ag {M M' : fw_Mem} (f : MF M M') : AG M M' := fun b j hd => by
  by_cases e : b = 136
  · subst e
    by_cases hj : j = 6
    · subst hj; exact absurd hd (by decide)
    · exact f.2 j hj
  · by_cases h : b < 141 ∨ 145 < b
    · rw [f.1 b e h]
    · exact absurd hd (by simp [dd]; omega)
/-- both sides answer alike, and all that holds between calls holds again -/
def QOK (o : Option (Int32 × fw_Mem)) (F : fw_Mem → Option (Int32 × fw_Mem)) : Prop := ∃ v M1 b M2, o = some (v, M1) ∧ F M1 = some (b, M2) ∧ M2 136 6 = v ∧ (v = 0 → M2 148 0 = b) ∧ INV M2
theorem qok0 {M M1 : fw_Mem} {o : Option (Int32 × fw_Mem)} {F : fw_Mem → Option (Int32 × fw_Mem)} {u : Int32} (I : INV M) (ho : o = some (0, M1)) (g : AG M M1) (hu : M1 148 0 = u) (hm : KC M1 → M1 137 = M 137 → ∃ M2, F M1 = some (u, M2) ∧ MC M1 M2 0) : QOK o F := by
  have I1 := g.inv I
  obtain ⟨P, L, N, A, T, U, h, i⟩ := id I1
  obtain ⟨M2, h1, h2, h3⟩ := hm i.1 (g.row rfl)
  exact ⟨0, M1, u, M2, ho, h1, h3, fun _ => by rw [h2.1 148 (by decide) (by omega)]; exact hu, h2.ag.inv I1⟩
theorem qok1 {M M1 : fw_Mem} {o : Option (Int32 × fw_Mem)} {F : fw_Mem → Option (Int32 × fw_Mem)} {k : Int32} (I : INV M) (hk : k ≠ 0) (ho : o = some (k, M1)) (g : AG M M1) (hm : KC M1 → M1 137 = M 137 → ∃ b M2, F M1 = some (b, M2) ∧ MC M1 M2 k) : QOK o F := by
  have I1 := g.inv I
  obtain ⟨P, L, N, A, T, U, h, i⟩ := id I1
  obtain ⟨b, M2, h1, h2, h3⟩ := hm i.1 (g.row rfl)
  exact ⟨k, M1, b, M2, ho, h1, h3, fun e => absurd e hk, h2.ag.inv I1⟩
/-! ranges -/
theorem rg {x : Int32} {N : Nat} (hN : N < 2147483648) : (¬ x < 0 ∧ ¬ nI N - 1 < x) ↔ ∃ s, s < N ∧ x = nI s := by
  constructor
  · rintro ⟨h1, h2⟩
    obtain ⟨j, hj, rfl⟩ := nI_of h1
    refine ⟨j, ?_, rfl⟩
    by_cases h0 : N = 0
    · subst h0
      exact absurd (show nI 0 - 1 < nI j by
        rw [show nI 0 - 1 = -1 by decide, fa_lt, nI_toInt hj]
        have : (-1 : Int32).toInt = -1 := by decide
        omega) h2
    · obtain ⟨n, rfl⟩ : ∃ n, N = n + 1 := ⟨N - 1, by omega⟩
      rw [nI_pred, nI_ltI (by omega) hj] at h2
      omega
  · rintro ⟨s, hs, rfl⟩
    obtain ⟨n, rfl⟩ : ∃ n, N = n + 1 := ⟨N - 1, by omega⟩
    rw [nI_pred, nI_ltI (by omega) (by omega)]
    exact ⟨nI_pos (by omega), by omega⟩
theorem rgc {x : Int32} {N : Nat} (hN : N < 2147483648) : (¬ x < 0 ∧ x < nI N) ↔ ∃ s, s < N ∧ x = nI s := by
  constructor
  · rintro ⟨h1, h2⟩
    obtain ⟨j, hj, rfl⟩ := nI_of h1
    rw [nI_ltI hj hN] at h2
    exact ⟨j, h2, rfl⟩
  · rintro ⟨s, hs, rfl⟩
    exact ⟨nI_pos (by omega), nI_lt hs hN⟩
theorem kc_136 {M : fw_Mem} (h : KC M) (v : Int32) : KC (fw_set M 136 6 v) := kc_set h (by decide +kernel)
theorem kc_148 {M : fw_Mem} (h : KC M) (v : Int32) : KC (fw_set M 148 0 v) := kc_set h (by decide +kernel)
theorem mf_set (M : fw_Mem) (v : Int32) : MC M (fw_set M 136 6 v) v := ⟨⟨fun b h _ => set_nr _ _ _ h, fun j h => set_nk _ _ _ _ h⟩, set_eq _ _ _ _⟩
theorem s137 (M : fw_Mem) (v : Int32) : fw_set M 136 6 v 137 = M 137 := set_nr _ _ _ (by decide)
theorem m_fail (M : fw_Mem) (k : Int32) : f_X10_fail st_S M 136 k = some (0, fw_set M 136 6 k) := by simp only [f_X10_fail, gO_136, gd_tt, bm_s]
theorem bxl {α β : Type} (a : α) (k : α → β) (kx : String → β) : bx (.inl a) k kx = k a := rfl
theorem bxr {α β : Type} (e : String) (k : α → β) (kx : String → β) : bx (.inr e) k kx = kx e := rfl
theorem bn_s {β : Type} (n : Nat) (kn : β) (k : Nat → β) : bn (some n) kn k = k n := rfl
section AC
variable {M : fw_Mem} {P L N : Nat} {r : Nat → Int32}
theorem c_suitAt (h : KC M) (hN : M 3 6 = nI N) (hN2 : N ≤ 10) {s : Nat} (hs : s < N) : f_X9_suitAt st_S M 0 (nI s) = some (.inl (some (32 + s))) := by
  have hi : s < 10 := by omega
  simp only [f_X9_suitAt, if_neg (nI_pos (show s < 2 ^ 31 by omega)), gO_0, gd_tt, kc_0_1 h, gN_3, tn_3, gO_3, hN, if_pos (nI_lt hs (show N < 2 ^ 31 by omega)), kc_3_2 h, gN_6, tn_6, gA_6 hi, nI_cl (show s < 2147483648 by omega), kc_s3 h hi, nI_gN (show 32 + s < 2147483648 by omega), nI_cl (show 32 + s < 2147483648 by omega)]
theorem c_suitNo (h : KC M) (hN : M 3 6 = nI N) (hN2 : N ≤ 10) {x : Int32} (hx : ¬ ∃ s, s < N ∧ x = nI s) : f_X9_suitAt st_S M 0 x = some (.inr exN) := by
  rw [← rgc (by omega)] at hx
  by_cases h1 : x < 0
  · simp only [f_X9_suitAt, if_pos h1]
  · have h2 : ¬ x < nI N := fun e => hx ⟨h1, e⟩
    simp only [f_X9_suitAt, if_neg h1, gO_0, gd_tt, kc_0_1 h, gN_3, tn_3, gO_3, hN, if_neg h2]
theorem c_person (h : KC M) (hP : M 3 4 = nI P) (hP2 : P ≤ 12) {s : Nat} (hs : s < P) : f_X9_needPerson st_S M 0 (nI s) = some (.inl ()) := by
  simp only [f_X9_needPerson, if_neg (nI_pos (show s < 2 ^ 31 by omega)), gO_0, gd_tt, kc_0_1 h, gN_3, tn_3, gO_3, hP, if_pos (nI_lt hs (show P < 2 ^ 31 by omega))]
theorem c_personNo (h : KC M) (hP : M 3 4 = nI P) (hP2 : P ≤ 12) {x : Int32} (hx : ¬ ∃ s, s < P ∧ x = nI s) : f_X9_needPerson st_S M 0 x = some (.inr exN) := by
  rw [← rgc (by omega)] at hx
  by_cases h1 : x < 0
  · simp only [f_X9_needPerson, if_pos h1]
  · have h2 : ¬ x < nI P := fun e => hx ⟨h1, e⟩
    simp only [f_X9_needPerson, if_neg h1, gO_0, gd_tt, kc_0_1 h, gN_3, tn_3, gO_3, hP, if_neg h2]
theorem c_link (h : KC M) (hL : M 3 5 = nI L) (hL2 : L ≤ 24) {s : Nat} (hs : s < L) : f_X9_needLink st_S M 0 (nI s) = some (.inl ()) := by
  simp only [f_X9_needLink, if_neg (nI_pos (show s < 2 ^ 31 by omega)), gO_0, gd_tt, kc_0_1 h, gN_3, tn_3, gO_3, hL, if_pos (nI_lt hs (show L < 2 ^ 31 by omega))]
theorem c_linkNo (h : KC M) (hL : M 3 5 = nI L) (hL2 : L ≤ 24) {x : Int32} (hx : ¬ ∃ s, s < L ∧ x = nI s) : f_X9_needLink st_S M 0 x = some (.inr exN) := by
  rw [← rgc (by omega)] at hx
  by_cases h1 : x < 0
  · simp only [f_X9_needLink, if_pos h1]
  · have h2 : ¬ x < nI L := fun e => hx ⟨h1, e⟩
    simp only [f_X9_needLink, if_neg h1, gO_0, gd_tt, kc_0_1 h, gN_3, tn_3, gO_3, hL, if_neg h2]
theorem m_isSuit (h : KC M) (w : WF (M 137) P L N) {s : Nat} (hs : s < N) : f_X10_isSuit st_S M 136 (nI s) = some 1 := by
  rw [e_isSuit h, w.2.1.2.2, decide_eq_true ((rg (by have := w.n; omega)).mpr ⟨s, hs, rfl⟩)]; rfl
theorem m_suitNo (h : KC M) (w : WF (M 137) P L N) {x : Int32} (hx : ¬ ∃ s, s < N ∧ x = nI s) : f_X10_isSuit st_S M 136 x = some 0 := by
  rw [← rg (by have := w.n; omega)] at hx
  rw [e_isSuit h, w.2.1.2.2, decide_eq_false hx]; rfl
theorem m_isPerson (h : KC M) (w : WF (M 137) P L N) {s : Nat} (hs : s < P) : f_X10_isPerson st_S M 136 (nI s) = some 1 := by
  rw [e_isPerson h, w.2.1.1, decide_eq_true ((rg (by have := w.1.1; omega)).mpr ⟨s, hs, rfl⟩)]; rfl
theorem m_personNo (h : KC M) (w : WF (M 137) P L N) {x : Int32} (hx : ¬ ∃ s, s < P ∧ x = nI s) : f_X10_isPerson st_S M 136 x = some 0 := by
  rw [← rg (by have := w.1.1; omega)] at hx
  rw [e_isPerson h, w.2.1.1, decide_eq_false hx]; rfl
/-- who is bound, laid -/
theorem m_lay (h : KC M) (w : WF (M 137) P L N) : ∃ M', f_X10_layBound st_S M 136 = some M' ∧ MF M M' ∧ M' 137 = M 137 ∧ M' 136 = M 136 ∧ KC M' ∧ ∀ k, k < 2 * N → M' 141 k = BDr (M 137) L k := by
  obtain ⟨M', h1, h2, h3⟩ := e_layBound h w.2.1.2.2 (by have := w.n; omega) w.2.1.2.1 w.1.2.1 (fun l hl => by
    obtain ⟨-, ⟨p, hp, e⟩, -⟩ := w.2.2.2.2.1 l hl
    exact ⟨p, by have := w.1.1; omega, e⟩) (fun s hs _ => by
    obtain ⟨⟨p, hp, e⟩, ⟨p', hp', e'⟩, -⟩ := w.q hs
    exact ⟨⟨p, by have := w.1.1; omega, e⟩, ⟨p', by have := w.1.1; omega, e'⟩⟩)
  exact ⟨M', h1, ⟨fun b h0 hb => h2 b (by omega), fun j _ => by rw [h2 136 (by decide)]⟩, h2 137 (by decide), h2 136 (by decide), kc_ne h 141 kcn_141 h2, h3⟩
theorem m_bars_eq {B : Nat → Int32} (hN : N ≤ 10) (hB : ∀ k, k < 2 * N → B k = BDr r L k) (sh mu num : Int32) (q : Nat → Int32) : z_bars sh mu num q (sq r) B (min 10 N) = z_bars sh mu num q (sq r) (BDr r L) N := by
  rw [Nat.min_eq_right hN]
  refine mk_cong fun i hi => ?_
  simp only [hB (2 * i) (by omega), hB (2 * i + 1) (by omega)]
theorem m_hof_eq {B : Nat → Int32} (hB : ∀ k, k < 2 * N → B k = BDr r L k) (num : Int32) (q : Nat → Int32) : z_hof (r 5) (r 4) num q (sq r) B N = z_h r L N num q := by
  funext t
  exact z_ho_cong (fun i hi => by simp only [hB (2 * i) (by omega), hB (2 * i + 1) (by omega)]) (fun _ _ => rfl)
end AC
