/-! ===== acts: noted, kept; the bench made fresh ===== -/
section UDs
variable {f r r0 r0' : Nat → Int32} {L L0 P N : Nat}
theorem lve_ud0 (h : Lve r0 r0' N) (hP : P ≤ 12) (hL : L0 ≤ 24) (u : UD f r L r0 L0 P N) : UD f r L r0' L0 P N := by
  obtain ⟨u1, u2⟩ := u
  refine ⟨fun i hi => by rw [h _ (by omega)]; exact u1 i hi, ?_⟩
  have hr : ∀ k, k < 3 → r0' (3 + k) = r0 (3 + k) := fun k hk => h _ (by omega)
  rcases u2 with ⟨a1, a2, a3, a4, a5, a6⟩ | ⟨a1, a2, a3, a4, c, b1, b2, b3, b4, b5⟩ | ⟨a1, a2, a3, a4, c, b1, b2, b3, b4⟩ | ⟨a1, a2, a3, s, b1, b2, b3, b4, b5⟩
  · exact Or.inl ⟨a1, fun k hk => by rw [hr k hk]; exact a2 k hk, fun s hs => by rw [lve_sq h hs]; exact a3 s hs, a4, a5, fun l hl => by rw [lve_lq h (by omega)]; exact a6 l hl⟩
  · exact Or.inr (Or.inl ⟨a1, fun k hk => by rw [hr k hk]; exact a2 k hk, fun s hs => by rw [lve_sq h hs]; exact a3 s hs, a4, c, b1, b2, fun l hl => by rw [lve_lq h (by omega)]; exact b3 l hl, fun l h1 h2 => by rw [lve_lq h (by omega)]; exact b4 l h1 h2, by rw [lve_lq h (by omega)]; exact b5⟩)
  · exact Or.inr (Or.inr (Or.inl ⟨a1, a2, fun l hl => by rw [lve_lq h (by omega)]; exact a3 l hl, fun s hs => by rw [lve_sq h hs]; exact a4 s hs, c, b1, b2, by rw [hr c b1]; exact b3, fun k hk hc => by rw [hr k hk]; exact b4 k hk hc⟩))
  · refine Or.inr (Or.inr (Or.inr ⟨a1, fun l hl => by rw [lve_lq h (by omega)]; exact a2 l hl, fun k hk => by rw [hr k hk]; exact a3 k hk, s, b1, b2, fun t ht hts => by rw [lve_sq h ht]; exact b3 t ht hts, ?_⟩))
    rw [lve_sq h b1]
    exact ⟨b4, b5⟩
/-- a row as it is kept -/
def nrm (r : Nat → Int32) : Nat → Int32 := fun k => if k < 330 then r k else 0
theorem lve_nrm (hN : N ≤ 10) : Lve r (nrm r) N := fun j hj => by simp [nrm, show j < 330 by omega]
theorem act_push {cr pr cr' pr' r' : Nat → Int32} {L' A : Nat} (a : ACT cr pr r P L N A) (w : WF r P L N) (hc : ∀ j, j < min A 11 → arow cr' j = arow cr (j + (A - min A 11))) (hp : ∀ j, j < min A 11 → prow pr' j = prow pr (j + (A - min A 11))) (hf : arow cr' (min A 11) = f) (hn : prow pr' (min A 11) = nrm r) (u : UD f r' L' r L P N) : ACT cr' pr' r' P L' N (min A 11 + 1) := by
  obtain ⟨a1, Ls, a2, a3⟩ := a
  have n10 := w.n
  have p12 := w.1.1
  have l24 := w.1.2.1
  refine ⟨by omega, fun j => if j = min A 11 + 1 then L' else Ls (j + (A - min A 11)), by simp, fun j hj => ?_⟩
  have ej : (if j = min A 11 + 1 then L' else Ls (j + (A - min A 11))) = Ls (j + (A - min A 11)) := if_neg (by omega)
  dsimp only
  rw [ej]
  by_cases e : j = min A 11
  · subst e
    rw [hf, hn, if_pos rfl, if_pos rfl]
    have eL : Ls (min A 11 + (A - min A 11)) = L := by rw [show min A 11 + (A - min A 11) = A by omega]; exact a2
    rw [eL]
    exact ⟨lve_wf (lve_nrm n10) w, lve_ud0 (lve_nrm n10) p12 l24 u⟩
  · obtain ⟨b1, b2⟩ := a3 (j + (A - min A 11)) (by omega)
    rw [hc j (by omega), hp j (by omega)]
    refine ⟨b1, ?_⟩
    rw [if_neg (by omega), if_neg (show ¬ j + 1 = min A 11 + 1 by omega)]
    rw [show j + 1 + (A - min A 11) = j + (A - min A 11) + 1 by omega]
    by_cases e2 : j + 1 = min A 11
    · rw [e2, hn]
      rw [if_pos (show j + (A - min A 11) + 1 = A by omega)] at b2
      exact lve_ud (lve_nrm n10) p12 (by rw [show j + (A - min A 11) + 1 = A by omega, a2]; exact l24) b2
    · rw [hp (j + 1) (by omega), show j + 1 + (A - min A 11) = j + (A - min A 11) + 1 by omega]
      rw [if_neg (show ¬ j + (A - min A 11) + 1 = A by omega)] at b2
      exact b2
end UDs
def f6 (x1 x2 x3 x4 x5 x6 : Int32) : Nat → Int32 := fun k => if k = 0 then x1 else if k = 1 then x2 else if k = 2 then x3 else if k = 3 then x4 else if k = 4 then x5 else if k = 5 then x6 else 0
section NT
variable {M : fw_Mem} {A : Nat}
theorem note6 {m : fw_Mem} {B : Nat} (h : KC m) (hB : m 131 1 = nI B) (hB2 : B < 12) (x1 x2 x3 x4 x5 x6 : Int32) : ∃ m', fj_X0_note_37 st_S m 131 x1 x2 x3 x4 x5 x6 = some m' ∧ (∀ b, b ≠ 131 → b ≠ 132 → m' b = m b) ∧ m' 131 0 = m 131 0 ∧ m' 131 1 = nI (B + 1) ∧ (∀ j, j < 6 * B → m' 132 j = m 132 j) ∧ arow (m' 132) B = f6 x1 x2 x3 x4 x5 x6 := by
  refine ⟨fw_set (fw_set (fw_set (fw_set (fw_set (fw_set (fw_set m 132 (B * 6) x1) 132 (B * 6 + 1) x2) 132 (B * 6 + 2) x3) 132 (B * 6 + 3) x4) 132 (B * 6 + 4) x5) 132 (B * 6 + 5) x6) 131 1 (nI (B + 1)), ?_, fun b b1 b2 => by rw [set_nr _ _ _ b1, set_nr _ _ _ b2, set_nr _ _ _ b2, set_nr _ _ _ b2, set_nr _ _ _ b2, set_nr _ _ _ b2, set_nr _ _ _ b2], ?_, set_eq _ _ _ _, fun j hj => ?_, ?_⟩
  · simp only [fj_X0_note_37, gO_131, gd_tt, kc_131_0 h, gN_132, tn_132, hB, l_6, show (1 : Int32) = nI 1 from rfl, show (2 : Int32) = nI 2 from rfl, show (3 : Int32) = nI 3 from rfl, show (4 : Int32) = nI 4 from rfl, show (5 : Int32) = nI 5 from rfl, nI_mul, nI_add, gA_132 (show B * 6 < 72 by omega), gA_132 (show B * 6 + 1 < 72 by omega), gA_132 (show B * 6 + 2 < 72 by omega), gA_132 (show B * 6 + 3 < 72 by omega), gA_132 (show B * 6 + 4 < 72 by omega), gA_132 (show B * 6 + 5 < 72 by omega), nI_cl (show B * 6 < 2147483648 by omega), nI_cl (show B * 6 + 1 < 2147483648 by omega), nI_cl (show B * 6 + 2 < 2147483648 by omega), nI_cl (show B * 6 + 3 < 2147483648 by omega), nI_cl (show B * 6 + 4 < 2147483648 by omega), nI_cl (show B * 6 + 5 < 2147483648 by omega), bm_s, set_na _ _ _ _ (show (131 : Nat) ≠ 132 by decide)]
  · rw [set_nk _ _ _ _ (by decide), set_na _ _ _ _ (by decide), set_na _ _ _ _ (by decide), set_na _ _ _ _ (by decide), set_na _ _ _ _ (by decide), set_na _ _ _ _ (by decide), set_na _ _ _ _ (by decide)]
  · rw [set_na _ _ _ _ (by decide), set_nk _ _ _ _ (by omega), set_nk _ _ _ _ (by omega), set_nk _ _ _ _ (by omega), set_nk _ _ _ _ (by omega), set_nk _ _ _ _ (by omega), set_nk _ _ _ _ (by omega)]
  · funext k
    unfold arow f6
    by_cases hk : k < 6
    · rw [if_pos hk, set_na _ _ _ _ (by decide)]
      rcases (by omega : k = 0 ∨ k = 1 ∨ k = 2 ∨ k = 3 ∨ k = 4 ∨ k = 5) with rfl | rfl | rfl | rfl | rfl | rfl
      · rw [set_nk _ _ _ _ (by omega), set_nk _ _ _ _ (by omega), set_nk _ _ _ _ (by omega), set_nk _ _ _ _ (by omega), set_nk _ _ _ _ (by omega), show 6 * B + 0 = B * 6 by omega, set_eq]; rfl
      · rw [set_nk _ _ _ _ (by omega), set_nk _ _ _ _ (by omega), set_nk _ _ _ _ (by omega), set_nk _ _ _ _ (by omega), show 6 * B + 1 = B * 6 + 1 by omega, set_eq]; rfl
      · rw [set_nk _ _ _ _ (by omega), set_nk _ _ _ _ (by omega), set_nk _ _ _ _ (by omega), show 6 * B + 2 = B * 6 + 2 by omega, set_eq]; rfl
      · rw [set_nk _ _ _ _ (by omega), set_nk _ _ _ _ (by omega), show 6 * B + 3 = B * 6 + 3 by omega, set_eq]; rfl
      · rw [set_nk _ _ _ _ (by omega), show 6 * B + 4 = B * 6 + 4 by omega, set_eq]; rfl
      · rw [show 6 * B + 5 = B * 6 + 5 by omega, set_eq]; rfl
    · rw [if_neg hk, if_neg (by omega), if_neg (by omega), if_neg (by omega), if_neg (by omega), if_neg (by omega), if_neg (by omega)]
theorem gL_132 : gL st_S 0 132 = true := by decide +kernel
theorem gC_132 : gC st_S 132 6 132 0 (nI 72 - 6) = true := by decide +kernel
theorem t66 : (nI 72 - 6).toNatClampNeg = 66 := by decide +kernel
theorem kc_ac {M M' : fw_Mem} (h : KC M) (hf : ∀ b, b ≠ 131 → b ≠ 132 → M' b = M b) (h0 : M' 131 0 = M 131 0) : KC M' := by
  refine kc_cong h fun q hq => ?_
  have h2 := List.all_eq_true.mp (by decide +kernel : (kcl.all fun q => !(q.1 == 132) && (!(q.1 == 131) || q.2.1 == 0)) = true) q hq
  simp at h2
  by_cases e : q.1 = 131
  · rcases h2.2 with z | z
    · exact absurd e z
    · rw [e, z]; exact h0
  · rw [hf _ e h2.1]
theorem c_note (h : KC M) (hA : M 131 1 = nI A) (hA2 : A ≤ 12) (x1 x2 x3 x4 x5 x6 : Int32) : ∃ M', f_X0_note st_S M 131 x1 x2 x3 x4 x5 x6 = some M' ∧ (∀ b, b ≠ 131 → b ≠ 132 → M' b = M b) ∧ M' 131 0 = M 131 0 ∧ M' 131 1 = nI (min A 11 + 1) ∧ (∀ j, j < min A 11 → arow (M' 132) j = arow (M 132) (j + (A - min A 11))) ∧ arow (M' 132) (min A 11) = f6 x1 x2 x3 x4 x5 x6 := by
  by_cases h12 : A < 12
  · obtain ⟨m', a1, a2, a3, a4, a5, a6⟩ := note6 h hA h12 x1 x2 x3 x4 x5 x6
    have e : min A 11 = A := by omega
    have hl : nI A < (12 : Int32) := nI_lt (b := 12) h12 (by omega)
    refine ⟨m', ?_, a2, a3, by rw [e]; exact a4, fun j hj => ?_, by rw [e]; exact a6⟩
    · have : f_X0_note st_S M 131 x1 x2 x3 x4 x5 x6 = fj_X0_note_37 st_S M 131 x1 x2 x3 x4 x5 x6 := by
        simp only [f_X0_note, fj_X0_note_37, gO_131, gd_tt, hA, if_pos hl]
      rw [this]; exact a1
    · rw [e] at hj ⊢
      funext k
      unfold arow
      by_cases hk : k < 6
      · rw [if_pos hk, if_pos hk, a5 _ (by omega)]; congr 1; omega
      · rw [if_neg hk, if_neg hk]
  · have eA : A = 12 := by omega
    subst eA
    have k25 : KC (fw_cpy M 132 132 6 0 66) := kc_ne h 132 (by decide +kernel) fun b hb => by funext j; simp [fw_cpy, hb]
    have k26 : KC (fw_set (fw_cpy M 132 132 6 0 66) 131 1 11) := kc_set k25 (by decide +kernel)
    obtain ⟨m', a1, a2, a3, a4, a5, a6⟩ := note6 (B := 11) k26 (set_eq _ _ _ _) (by omega) x1 x2 x3 x4 x5 x6
    have hl : ¬ nI 12 < (12 : Int32) := by decide
    refine ⟨m', ?_, fun b b1 b2 => ?_, ?_, a4, fun j hj => ?_, a6⟩
    · simp only [f_X0_note, gO_131, gd_tt, hA, if_neg hl, kc_131_0 h, gN_132, tn_132, gL_132, len_132, gC_132, t66, bm_s]
      exact a1
    · rw [a2 b b1 b2, set_nr _ _ _ b1]; funext j; simp [fw_cpy, b2]
    · rw [a3, set_nk _ _ _ _ (by decide)]; simp [fw_cpy]
    · funext k
      unfold arow
      by_cases hk : k < 6
      · rw [if_pos hk, if_pos hk, a5 _ (by omega), set_na _ _ _ _ (by decide)]
        simp only [fw_cpy, if_true]
        rw [if_pos (by omega)]
        congr 1
        omega
      · rw [if_neg hk, if_neg hk]
/-! the model keeps -/
theorem keep54 {m : fw_Mem} {B : Nat} (h : KC m) (hB : m 136 5 = nI B) (hB2 : B < 12) : ∃ m', lf_X10_keep_54 st_S 136 20000 0 m = some m' ∧ (∀ b, b ≠ 140 → m' b = m b) ∧ (∀ j, j < 330 * B ∨ 330 * B + 330 ≤ j → m' 140 j = m 140 j) ∧ ∀ k, k < 330 → m' 140 (330 * B + k) = m 137 k := by
  obtain ⟨R, h1, h2⟩ := lp_up (fun n (x : fw_Mem) k => lf_X10_keep_54 st_S 136 n (nI k) x) 330 (fun i x => (∀ b, b ≠ 140 → x b = m b) ∧ (∀ j, j < 330 * B ∨ 330 * B + 330 ≤ j → x 140 j = m 140 j) ∧ ∀ k, k < i → x 140 (330 * B + k) = m 137 k) (fun x => (∀ b, b ≠ 140 → x b = m b) ∧ (∀ j, j < 330 * B ∨ 330 * B + 330 ≤ j → x 140 j = m 140 j) ∧ ∀ k, k < 330 → x 140 (330 * B + k) = m 137 k)
    (by
      rintro n i x hi ⟨b1, b2, b3⟩
      have hn : ¬ nI 330 ≤ nI i := nI_ge (b := 330) hi (by omega)
      have kx : KC x := kc_ne h 140 (by decide +kernel) b1
      have e5 : x 136 5 = nI B := by rw [b1 136 (by decide)]; exact hB
      refine ⟨fw_set x 140 (330 * B + i) (m 137 i), ⟨fun b hb => by rw [set_nr _ _ _ hb, b1 b hb], fun j hj => by rw [set_nk _ _ _ _ (by omega), b2 j hj], fun k hk => ?_⟩, ?_⟩
      · by_cases e : k = i
        · subst e; rw [set_eq]
        · rw [set_nk _ _ _ _ (by omega)]; exact b3 k (by omega)
      · simp only [lf_X10_keep_54, if_neg hn, gO_136, gd_tt, kc_136_3 kx, gN_140, tn_140, kc_136_0 kx, gN_137, tn_137, gA_137 hi, e5, show (330 : Int32) = nI 330 from rfl, nI_mul, nI_add, gA_140 (show 330 * B + i < 3960 by omega), nI_cl (show 330 * B + i < 2147483648 by omega), nI_cl (show i < 2147483648 by omega), b1 137 (by decide), bm_s, nI_1])
    (by
      rintro n x hx
      exact ⟨x, by simp only [lf_X10_keep_54, if_pos (show (330 : Int32) ≤ nI 330 by decide)], hx⟩) _ 0 20000 m rfl (by omega) (by omega) ⟨fun _ _ => rfl, fun _ _ => rfl, fun k hk => absurd hk (by omega)⟩
  exact ⟨R, h1, h2⟩
theorem keep13 {m : fw_Mem} (h : KC m) : ∃ m', lf_X10_keep_13 st_S 136 20000 330 m = some m' ∧ (∀ b, b ≠ 140 → m' b = m b) ∧ ∀ t, t < 3630 → m' 140 t = m 140 (t + 330) := by
  obtain ⟨R, h1, h2⟩ := lp_up (fun n (x : fw_Mem) k => lf_X10_keep_13 st_S 136 n (nI (k + 330)) x) 3630 (fun i x => (∀ b, b ≠ 140 → x b = m b) ∧ (∀ t, t < i → x 140 t = m 140 (t + 330)) ∧ ∀ t, i ≤ t → x 140 t = m 140 t) (fun x => (∀ b, b ≠ 140 → x b = m b) ∧ ∀ t, t < 3630 → x 140 t = m 140 (t + 330))
    (by
      rintro n i x hi ⟨b1, b2, b3⟩
      have hn : ¬ nI 3960 ≤ nI (i + 330) := nI_ge (b := 3960) (by omega) (by omega)
      have kx : KC x := kc_ne h 140 (by decide +kernel) b1
      have es : nI (i + 330) - nI 330 = nI i := by rw [← nI_add, Int32.add_sub_cancel]
      refine ⟨fw_set x 140 i (x 140 (i + 330)), ⟨fun b hb => by rw [set_nr _ _ _ hb, b1 b hb], fun t ht => ?_, fun t ht => ?_⟩, ?_⟩
      · by_cases e : t = i
        · rw [e, set_eq, b3 (i + 330) (by omega)]
        · rw [set_nk _ _ _ _ e]; exact b2 t (by omega)
      · rw [set_nk _ _ _ _ (show t ≠ i by omega)]; exact b3 t (by omega)
      · have e1 : nI (i + 330) + 1 = nI (i + 1 + 330) := by rw [nI_1, Nat.add_right_comm]
        simp only [lf_X10_keep_13, show (3960 : Int32) = nI 3960 from rfl, show (330 : Int32) = nI 330 from rfl, if_neg hn, gO_136, gd_tt, kc_136_3 kx, gN_140, tn_140, gA_140 (show i + 330 < 3960 by omega), es, gA_140 (show i < 3960 by omega), nI_cl (show i + 330 < 2147483648 by omega), nI_cl (show i < 2147483648 by omega), bm_s, e1])
    (by
      rintro n x ⟨b1, b2, -⟩
      exact ⟨x, by simp only [lf_X10_keep_13, if_pos (show (3960 : Int32) ≤ nI (3630 + 330) by decide)], b1, b2⟩) _ 0 20000 m rfl (by omega) (by omega) ⟨fun _ _ => rfl, fun t ht => absurd ht (by omega), fun _ _ => rfl⟩
  exact ⟨R, h1, h2⟩
theorem m_keep (h : KC M) (hA : M 136 5 = nI A) (hA2 : A ≤ 12) : ∃ M', f_X10_keep st_S M 136 = some M' ∧ (∀ b, b ≠ 136 → b ≠ 140 → M' b = M b) ∧ (∀ j, j ≠ 5 → M' 136 j = M 136 j) ∧ M' 136 5 = nI (min A 11 + 1) ∧ (∀ j, j < min A 11 → prow (M' 140) j = prow (M 140) (j + (A - min A 11))) ∧ prow (M' 140) (min A 11) = nrm (M 137) ∧ KC M' := by
  by_cases h12 : A < 12
  · obtain ⟨m', a1, a2, a3, a4⟩ := keep54 h hA h12
    have e : min A 11 = A := by omega
    have hl : ¬ nI A = (12 : Int32) := fun q => by have := (nI_eq (b := 12) (by omega) (by omega)).mp q; omega
    have e5 : m' 136 5 = nI A := by rw [a2 136 (by decide)]; exact hA
    rw [e]
    refine ⟨fw_set m' 136 5 (nI (A + 1)), ?_, fun b b1 b2 => by rw [set_nr _ _ _ b1, a2 b b2], fun j hj => by rw [set_nk _ _ _ _ hj, a2 136 (by decide)], set_eq _ _ _ _, fun j hj => ?_, ?_, ?_⟩
    · simp only [f_X10_keep, gO_136, gd_tt, hA, if_neg hl, a1, b1_s, e5, nI_1, bm_s]
    · funext k
      unfold prow
      by_cases hk : k < 330
      · rw [if_pos hk, if_pos hk, set_na _ _ _ _ (by decide), a3 _ (by omega)]; congr 1; omega
      · rw [if_neg hk, if_neg hk]
    · funext k
      unfold prow nrm
      by_cases hk : k < 330
      · rw [if_pos hk, if_pos hk, set_na _ _ _ _ (by decide), a4 k hk]
      · rw [if_neg hk, if_neg hk]
    · exact kc_set (kc_ne h 140 (by decide +kernel) a2) (by decide +kernel)
  · have eA : A = 12 := by omega
    subst eA
    obtain ⟨m1, c1, c2, c3⟩ := keep13 h
    have k1 : KC m1 := kc_ne h 140 (by decide +kernel) c2
    have k19 : KC (fw_set m1 136 5 (nI 11)) := kc_set k1 (by decide +kernel)
    obtain ⟨m', a1, a2, a3, a4⟩ := keep54 (B := 11) k19 (set_eq _ _ _ _) (by omega)
    have e5 : m' 136 5 = nI 11 := by rw [a2 136 (by decide), set_eq]
    have e51 : m1 136 5 = nI 12 := by rw [c2 136 (by decide)]; exact hA
    refine ⟨fw_set m' 136 5 (nI 12), ?_, fun b b1 b2 => by rw [set_nr _ _ _ b1, a2 b b2, set_nr _ _ _ b1, c2 b b2], fun j hj => by rw [set_nk _ _ _ _ hj, a2 136 (by decide), set_nk _ _ _ _ hj, c2 136 (by decide)], set_eq _ _ _ _, fun j hj => ?_, ?_, ?_⟩
    · simp only [f_X10_keep, fj_X10_keep_52, gO_136, gd_tt, hA, show (12 : Int32) = nI 12 from rfl, if_true, c1, b1_s, e51, show nI 12 - 1 = nI 11 from rfl, bm_s, a1, e5, nI_1]
    · funext k
      unfold prow
      by_cases hk : k < 330
      · rw [if_pos hk, if_pos hk, set_na _ _ _ _ (by decide), a3 _ (by omega), set_na _ _ _ _ (by decide), c3 _ (by omega)]; congr 1; omega
      · rw [if_neg hk, if_neg hk]
    · funext k
      unfold prow nrm
      by_cases hk : k < 330
      · rw [if_pos hk, if_pos hk, set_na _ _ _ _ (by decide), show (330 * min 12 11 + k) = 330 * 11 + k from rfl, a4 k hk, set_na _ _ _ _ (by decide), c2 137 (by decide)]
      · rw [if_neg hk, if_neg hk]
    · exact kc_set (kc_ne k19 140 (by decide +kernel) a2) (by decide +kernel)
end NT
/-! the bench made fresh -/
section RF
variable {M : fw_Mem} {r : Nat → Int32} {P L N : Nat}
theorem e_c_settled {a : Nat} (ha : gO st_S 6 a = true) (hm : M a 8 = 0 ∨ M a 8 = 1) (hv : M a 9 = 0 ∨ M a 9 = 1) (e : Int32) : f_X6_settledIssues st_S M a e = some (q_st e (cq M a)) := by
  simp only [f_X6_settledIssues, ha, gd_tt, e_c_nec ha hm, b1_s, q_st, qc12 M a]
  have hv' : M a 9 = cq M a 8 := qc9 M a
  rcases hv with q | q
  · have : q_rv (cq M a) = false := by simp [q_rv, ← hv', q]
    simp [q, this]
  · have : q_rv (cq M a) = true := by simp [q_rv, ← hv', q]
    simp [q, this]
def RFr (M M' : fw_Mem) : Prop := (∀ b, b < 32 ∨ 41 < b → M' b = M b) ∧ ∀ s, s < 10 → ∀ j, j < 13 → M' (32 + s) j = M (32 + s) j
theorem RFr.kc {M' : fw_Mem} (f : RFr M M') (h : KC M) : KC M' := by
  refine kc_cong h fun q hq => ?_
  have h2 := List.all_eq_true.mp (by decide +kernel : (kcl.all fun q => (decide (q.1 < 32) || decide (41 < q.1)) || q.2.1 == 0) = true) q hq
  simp only [Bool.or_eq_true, decide_eq_true_eq, beq_iff_eq] at h2
  rcases h2 with h2 | h2
  · rw [f.1 _ h2]
  · by_cases e : q.1 < 32 ∨ 41 < q.1
    · rw [f.1 _ e]
    · obtain ⟨s, hs⟩ : ∃ s, q.1 = 32 + s := ⟨q.1 - 32, by omega⟩
      rw [hs, h2]; exact f.2 s (by omega) 0 (by omega)
theorem rfr_cq {M' : fw_Mem} (f : RFr M M') {s : Nat} (hs : s < 10) : cq M' (32 + s) = cq M (32 + s) := by
  funext j
  unfold cq
  split
  · exact f.2 s hs _ (by omega)
  · rfl
end RF
