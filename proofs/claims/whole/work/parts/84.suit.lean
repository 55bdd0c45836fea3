/-! ===== a line of a suit ===== -/
def sF (M : fw_Mem) : Option fw_Mem := gd (gN (M 120 0)) (gd (gO st_S 7 ((M 120 0).toNatClampNeg)) (if (M ((M 120 0).toNatClampNeg) 7) = 0 then (gd (gN (M 120 1)) (gd (gO st_S 4 ((M 120 1).toNatClampNeg)) (bm (fw_set M ((M 120 1).toNatClampNeg) 6 ((M ((M 120 1).toNatClampNeg) 6) + 1)) (fun M32 => some M32)))) else (some M)))
def sT6 (a : Nat) (M : fw_Mem) : Option fw_Mem := b2 (f_X8_passSet st_S M 120 1000003 ((2147483647 : Int32) &&& ((M a 5) ^^^ (-1)))) (fun v M' => sF (fw_set M' a 6 v))
def sT5 (a : Nat) (M : fw_Mem) : Option fw_Mem := b2 (f_X8_passSet st_S M 120 1000018 2147483647) (fun v M' => sT6 a (fw_set M' a 5 v))
def sT4 (a : Nat) (M : fw_Mem) : Option fw_Mem := b2 (f_X8_passSet st_S M 120 1000007 2147483647) (fun v M' => sT5 a (fw_set M' a 4 v))
def sT3 (a : Nat) (M : fw_Mem) : Option fw_Mem := b2 (f_X8_passNumber st_S M 120 0 9999) (fun v M' => sT4 a (fw_set M' a 3 v))
def sT2 (a : Nat) (M : fw_Mem) : Option fw_Mem := b2 (f_X8_passName st_S M 120 (M a 1)) (fun v M' => sT3 a (fw_set M' a 2 v))
def sT1 (a : Nat) (M : fw_Mem) : Option fw_Mem := b2 (f_X8_passName st_S M 120 (-1)) (fun v M' => sT2 a (fw_set M' a 1 v))
/-- only the suit's own cells have changed -/
def SX (a : Nat) (M M' : fw_Mem) : Prop := (∀ b, b ≠ a → M' b = M b) ∧ M' a 0 = M a 0
theorem SX.rf (a : Nat) (M : fw_Mem) : SX a M M := ⟨fun _ _ => rfl, rfl⟩
theorem SX.tr {a : Nat} {x y z : fw_Mem} (h : SX a x y) (h2 : SX a y z) : SX a x z := ⟨fun b hb => (h2.1 b hb).trans (h.1 b hb), h2.2.trans h.2⟩
theorem SX.st {a : Nat} (M : fw_Mem) {j : Nat} (hj : j ≠ 0) (v : Int32) : SX a M (fw_set M a j v) := ⟨fun b hb => set_nr _ _ _ hb, set_nk _ _ _ _ (by omega)⟩
theorem SX.cf {N : Nat} {M M' : fw_Mem} (hN : N < 10) (h : SX (71 + N) M M') : CF M M' := ⟨fun b _ b2 => h.1 b (by omega), fun j _ => by rw [h.1 1 (by omega)], fun j _ => by rw [h.1 42 (by omega)], h.1 45 (by omega), fun s hs => by
  by_cases e : s = N
  · subst e; exact h.2
  · rw [h.1 _ (by omega)]⟩
section SB
variable {M Mm : fw_Mem} {B : Nat → Nat} {n s e k P L N : Nat}
theorem SX.tb {M' : fw_Mem} (hN : N < 10) (h : SX (71 + N) M M') (t : TB M Mm) : TB M' Mm := t.fr (h.1 1 (by omega)) (h.1 2 (by omega)) rfl rfl
theorem SX.gd {M' : fw_Mem} {N' : Nat} (hN : N < 10) (hN' : N' ≤ N) (h : SX (71 + N) M M') (g : GD M Mm B n s e k P L N') : GD M' Mm B n s e k P L N' := by
  obtain ⟨tg, p, w, wf⟩ := g
  refine ⟨tg.fr (h.1 1 (by omega)) (h.1 2 (by omega)) rfl rfl, ?_, ?_, wf⟩
  · unfold cLP; rw [h.1 (42 + 2) (by omega)]; exact p
  · obtain ⟨r1, r2, r3, r4, r5⟩ := w
    have l24 := wf.1.2.1
    refine ⟨by rw [h.1 42 (by omega)]; exact r1, by rw [h.1 (42 + 1) (by omega)]; exact r2, by rw [h.1 (42 + 4) (by omega)]; exact r3, fun l hl => ?_, fun t ht => by rw [cq_fr (h.1 _ (by omega))]; exact r5 t ht⟩
    obtain ⟨j, j1, j2, j3⟩ := p.at (l := l) (by omega) (by omega)
    have := r4 l hl
    rw [h.1 (42 + 2) (by omega)]
    rw [j3] at this ⊢
    rw [cl_fr (h.1 _ (by omega))]; exact this
theorem sF_bad (h : KC M) (t : TB M Mm) : sF M = some M := by simp only [sF, gO_120, gd_tt, kc_120_0 h, gN_1, tn_1, gO_1, if_neg t.c]
theorem sT6_bad (hN : N < 10) (h : KC M) (t : TB M Mm) : ∃ M', sT6 (71 + N) M = some M' ∧ SX (71 + N) M M' := by
  have x := SX.st (a := 71 + N) M (j := 6) (by decide) 0
  exact ⟨_, by rw [sT6, b_passSet h t _ _, b2_s]; exact sF_bad ((x.cf hN).kc h) (x.tb hN t), x⟩
theorem sT5_bad (hN : N < 10) (h : KC M) (t : TB M Mm) : ∃ M', sT5 (71 + N) M = some M' ∧ SX (71 + N) M M' := by
  have x := SX.st (a := 71 + N) M (j := 5) (by decide) 0
  obtain ⟨M', y1, y2⟩ := sT6_bad hN ((x.cf hN).kc h) (x.tb hN t)
  exact ⟨M', by rw [sT5, b_passSet h t _ _, b2_s]; exact y1, x.tr y2⟩
theorem sT4_bad (hN : N < 10) (h : KC M) (t : TB M Mm) : ∃ M', sT4 (71 + N) M = some M' ∧ SX (71 + N) M M' := by
  have x := SX.st (a := 71 + N) M (j := 4) (by decide) 0
  obtain ⟨M', y1, y2⟩ := sT5_bad hN ((x.cf hN).kc h) (x.tb hN t)
  exact ⟨M', by rw [sT4, b_passSet h t _ _, b2_s]; exact y1, x.tr y2⟩
theorem sT3_bad (hN : N < 10) (h : KC M) (t : TB M Mm) : ∃ M', sT3 (71 + N) M = some M' ∧ SX (71 + N) M M' := by
  have x := SX.st (a := 71 + N) M (j := 3) (by decide) (-1)
  obtain ⟨M', y1, y2⟩ := sT4_bad hN ((x.cf hN).kc h) (x.tb hN t)
  exact ⟨M', by rw [sT3, b_passNumber h t _ _, b2_s]; exact y1, x.tr y2⟩
theorem sT2_bad (hN : N < 10) (h : KC M) (t : TB M Mm) : ∃ M', sT2 (71 + N) M = some M' ∧ SX (71 + N) M M' := by
  have x := SX.st (a := 71 + N) M (j := 2) (by decide) (-1)
  obtain ⟨M', y1, y2⟩ := sT3_bad hN ((x.cf hN).kc h) (x.tb hN t)
  exact ⟨M', by rw [sT2, b_passName h t _, b2_s]; exact y1, x.tr y2⟩
theorem sT1_bad (hN : N < 10) (h : KC M) (t : TB M Mm) : ∃ M', sT1 (71 + N) M = some M' ∧ SX (71 + N) M M' := by
  have x := SX.st (a := 71 + N) M (j := 1) (by decide) (-1)
  obtain ⟨M', y1, y2⟩ := sT2_bad hN ((x.cf hN).kc h) (x.tb hN t)
  exact ⟨M', by rw [sT1, b_passName h t _, b2_s]; exact y1, x.tr y2⟩
theorem l_bad {M0 Mm0 M' : fw_Mem} {o : Option fw_Mem} {a s0 : Nat} (hN : N < 10) (f : CF M0 M) (u : MG Mm0 Mm) (p : cLP M 42) (t : TB M Mm) (hb : o = some M' ∧ SX (71 + N) M M') : LR M0 Mm0 B n s0 o (some Mm) := by
  refine ⟨M', Mm, hb.1, rfl, f.tr (hb.2.cf hN), u, ?_, Or.inr (hb.2.tb hN t)⟩
  unfold cLP; rw [hb.2.1 (42 + 2) (by omega)]; exact p
def mS4 (Mm : fw_Mem) (v6 v7 v8 v9 v10 v11 : Int32) : Option fw_Mem := if (Mm 136 21) = 0 then (gd (gN (Mm 136 1)) (gd (gA st_S 0 ((Mm 136 1).toNatClampNeg) 2) (bm (Mm ((Mm 136 1).toNatClampNeg) 2) (fun y15 => b1 (f_X10_lay st_S Mm 136 ((Mm 136 1).toNatClampNeg) y15 v6 v7 v8) (fun M16 => bm ((198 : Int32) + ((12 : Int32) * y15)) (fun y17 => gd (gN (M16 136 1)) (gd (gA st_S 0 ((M16 136 1).toNatClampNeg) (y17 + 3)) (bm (fw_set M16 ((M16 136 1).toNatClampNeg) (y17 + 3).toNatClampNeg v9) (fun M20 => gd (gN (M20 136 1)) (gd (gA st_S 0 ((M20 136 1).toNatClampNeg) (y17 + 4)) (bm (fw_set M20 ((M20 136 1).toNatClampNeg) (y17 + 4).toNatClampNeg v10) (fun M23 => gd (gN (M23 136 1)) (gd (gA st_S 0 ((M23 136 1).toNatClampNeg) (y17 + 5)) (bm (fw_set M23 ((M23 136 1).toNatClampNeg) (y17 + 5).toNatClampNeg v11) (fun M26 => gd (gN (M26 136 1)) (gd (gA st_S 0 ((M26 136 1).toNatClampNeg) 2) (bm (fw_set M26 ((M26 136 1).toNatClampNeg) 2 ((M26 ((M26 136 1).toNatClampNeg) 2) + 1)) (fun M29 => some M29)))))))))))))))))) else (some Mm)
theorem sub_bt {v x : Int32} (h : v &&& (x ^^^ (-1)) = 0) {i : Nat} (hi : i < 32) (hb : bt v i = true) : bt x i = true := by
  have := bt_0iff.mp h i hi
  rw [b_and, b_not x hi, hb] at this
  simpa using this
theorem b_max : ∀ i, i < 32 → bt 2147483647 i = decide (i < 31) := by decide +kernel
/-- the suit is laid -/
theorem l_put (h : KC M) (hm : KC Mm) (g : GD M Mm B n s e k P L N) (hN : N < 10) {a b d : Nat} (ha : a < P) (hb : b < P) (hd : d ≤ 9999) {v9 v10 v11 : Int32} (w10 : v10 &&& ((2147483647 : Int32) ^^^ (-1)) = 0) (w11 : v11 &&& (((2147483647 : Int32) &&& (v10 ^^^ (-1))) ^^^ (-1)) = 0) (hr : ∀ j, j < 12 → M (71 + N) (1 + j) = if j = 0 then nI a else if j = 1 then nI b else if j = 2 then nI d else if j = 3 then v9 else if j = 4 then v10 else if j = 5 then v11 else if j = 6 then -1 else 0) : LR M Mm B n s (sF M) (mS4 Mm (nI a) (nI b) (nI d) v9 v10 v11) := by
  obtain ⟨tg, p, w, wf⟩ := id g
  have h7 := tg.1.2.2.2.2.2.2.1
  have g21 := tg.2.1.2.2.2.2.2.2.2
  have h6 : M 42 6 = nI N := w.1.2.2
  have m2 : Mm 138 2 = nI N := wf.2.1.2.2
  have l24 := wf.1.2.1
  have hP := wf.1.1
  obtain ⟨m1, a1, a2, a3, a4⟩ := e_lay len_138 Mm (show N ≤ 10 by omega) (nI a) (nI b) (nI d) 136
  have um1 : MG Mm m1 := ⟨fun b _ hb => a2 b hb, fun j _ => by rw [a2 136 (by decide)]⟩
  obtain ⟨D, hD⟩ : ∃ D, D = fw_set (fw_set (fw_set (fw_set m1 138 (198 + 12 * N + 3) v9) 138 (198 + 12 * N + 4) v10) 138 (198 + 12 * N + 5) v11) 138 2 (nI (N + 1)) := ⟨_, rfl⟩
  have k1 := um1.kc hm
  have k2 := (um1.st (198 + 12 * N + 3) v9).kc hm
  have k3 := ((um1.st (198 + 12 * N + 3) v9).st (198 + 12 * N + 4) v10).kc hm
  have k4 := (((um1.st (198 + 12 * N + 3) v9).st (198 + 12 * N + 4) v10).st (198 + 12 * N + 5) v11).kc hm
  have uD : MG Mm D := by rw [hD]; exact (((um1.st _ _).st _ _).st _ _).st _ _
  have rD : ∀ j, j ≠ 2 → (j < 198 + 12 * N ∨ 210 + 12 * N ≤ j) → D 138 j = Mm 138 j := fun j j1 j2 => by
    rw [hD, set_nk _ _ _ _ j1, set_nk _ _ _ _ (by omega), set_nk _ _ _ _ (by omega), set_nk _ _ _ _ (by omega)]; exact a3 j j2
  have fD : ∀ b, b ≠ 138 → D b = Mm b := fun b hb => by rw [hD, set_nr _ _ _ hb, set_nr _ _ _ hb, set_nr _ _ _ hb, set_nr _ _ _ hb]; exact a2 b hb
  have qD : ∀ j, j < 12 → D 138 (198 + 12 * N + j) = if j = 0 then nI a else if j = 1 then nI b else if j = 2 then nI d else if j = 3 then v9 else if j = 4 then v10 else if j = 5 then v11 else if j = 6 then -1 else 0 := fun j hj => by
    rw [hD, set_nk _ _ _ _ (by omega)]
    by_cases j5 : j = 5
    · subst j5; rw [set_eq]; rfl
    · rw [set_nk _ _ _ _ (by omega)]
      by_cases j4 : j = 4
      · subst j4; rw [set_eq]; rfl
      · rw [set_nk _ _ _ _ (by omega)]
        by_cases j3 : j = 3
        · subst j3; rw [set_eq]; rfl
        · rw [set_nk _ _ _ _ (by omega), a4 j hj]
          simp [j3, j4, j5]
  have sD : ∀ t, t < N → sq (D 138) t = sq (Mm 138) t := fun t ht => by
    funext j
    unfold sq
    split
    · exact rD _ (by omega) (by omega)
    · rfl
  have lD : ∀ l, l < 24 → lq (D 138) l = lq (Mm 138) l := fun l hl => by
    funext j
    unfold lq
    split
    · exact rD _ (by omega) (by omega)
    · rfl
  have cN : cq (fw_set M 42 6 (nI (N + 1))) (71 + N) = sq (D 138) N := by
    funext j
    unfold cq sq
    by_cases hj : j < 12
    · rw [if_pos hj, if_pos hj, qD j hj, set_nr _ _ _ (by omega)]; exact hr j hj
    · rw [if_neg hj, if_neg hj]
  have fC : CF M (fw_set M 42 6 (nI (N + 1))) := ⟨fun b _ _ => set_nr _ _ _ (by omega), fun j _ => by rw [set_nr _ _ _ (by decide)], fun j hj => set_nk _ _ _ _ (by omega), set_nr _ _ _ (by decide), fun s _ => by rw [set_nr _ _ _ (by omega)]⟩
  have pC : cLP (fw_set M 42 6 (nI (N + 1))) 42 := by unfold cLP; rw [set_nr _ _ _ (by decide)]; exact p
  refine ⟨fw_set M 42 6 (nI (N + 1)), D, ?_, ?_, fC, uD, pC, Or.inl ⟨s, e, k, P, L, N + 1, ⟨tg.fr (set_nr _ _ _ (by decide)) (set_nr _ _ _ (by decide)) (fD 136 (by decide)) (fD 147 (by decide)), pC, ?_, ?_⟩, Nat.le_refl _⟩⟩
  · simp only [sF, gO_120, gd_tt, kc_120_0 h, gN_1, tn_1, gO_1, h7, if_true, kc_120_1 h, gN_42, tn_42, gO_42, h6, nI_1, bm_s]
  · have e2 : fw_set (fw_set (fw_set m1 138 (198 + 12 * N + 3) v9) 138 (198 + 12 * N + 4) v10) 138 (198 + 12 * N + 5) v11 138 2 = nI N := by
      rw [set_nk _ _ _ _ (by omega), set_nk _ _ _ _ (by omega), set_nk _ _ _ _ (by omega), a3 2 (by omega)]; exact m2
    rw [hD]
    simp only [mS4, g21, if_true, kc_136_1 hm, gN_138, tn_138, gA_138_2, gd_tt, m2, bm_s, a1, b1_s, kc_136_1 k1, l_198, l_12, nI_mul, nI_add, show (3 : Int32) = nI 3 from rfl, show (4 : Int32) = nI 4 from rfl, show (5 : Int32) = nI 5 from rfl, gA_138 (show 198 + 12 * N + 3 < 330 by omega), gA_138 (show 198 + 12 * N + 4 < 330 by omega), gA_138 (show 198 + 12 * N + 5 < 330 by omega), nI_cl (show 198 + 12 * N + 3 < 2147483648 by omega), nI_cl (show 198 + 12 * N + 4 < 2147483648 by omega), nI_cl (show 198 + 12 * N + 5 < 2147483648 by omega), kc_136_1 k2, kc_136_1 k3, kc_136_1 k4, e2, nI_1]
  · obtain ⟨r1, r2, r3, r4, r5⟩ := w
    refine ⟨⟨by rw [set_nk _ _ _ _ (by decide)]; exact r1.1, by rw [set_nk _ _ _ _ (by decide)]; exact r1.2.1, set_eq _ _ _ _⟩, fun i hi => ?_, fun i hi => ?_, fun l hl => ?_, fun t ht => ?_⟩
    · rw [set_nr _ _ _ (by decide), rD _ (by omega) (by omega)]; exact r2 i hi
    · rw [set_nr _ _ _ (by decide), rD _ (by omega) (by omega)]; exact r3 i hi
    · obtain ⟨j, j1, j2, j3⟩ := p.at (l := l) (by omega) (by omega)
      have := r4 l hl
      rw [set_nr _ _ _ (by decide), lD l (by omega)]
      rw [j3] at this ⊢
      rw [cl_fr (set_nr _ _ _ (by omega))]; exact this
    · by_cases et : t = N
      · subst et; exact cN
      · rw [cq_fr (set_nr _ _ _ (by omega)), sD t (by omega)]; exact r5 t (by omega)
  · obtain ⟨z1, z2, z3, z4, z5, z6⟩ := wf
    refine ⟨⟨z1.1, z1.2.1, by omega⟩, ⟨by rw [rD _ (by omega) (by omega)]; exact z2.1, by rw [rD _ (by omega) (by omega)]; exact z2.2.1, by rw [hD, set_eq]⟩, by rw [rD _ (by omega) (by omega)]; exact z3, by rw [rD _ (by omega) (by omega), rD _ (by omega) (by omega)]; exact z4, fun l hl => by rw [lD l (by omega)]; exact z5 l hl, fun t ht => ?_⟩
    by_cases et : t = N
    · subst et
      have q : ∀ j, j < 12 → sq (D 138) t j = if j = 0 then nI a else if j = 1 then nI b else if j = 2 then nI d else if j = 3 then v9 else if j = 4 then v10 else if j = 5 then v11 else if j = 6 then -1 else 0 := fun j hj => by unfold sq; rw [if_pos hj]; exact qD j hj
      unfold WQ
      rw [q 0 (by omega), q 1 (by omega), q 2 (by omega), q 4 (by omega), q 5 (by omega), q 6 (by omega), q 7 (by omega), q 8 (by omega), q 9 (by omega), q 10 (by omega), q 11 (by omega)]
      refine ⟨⟨a, ha, rfl⟩, ⟨b, hb, rfl⟩, ⟨d, hd, rfl⟩, ?_, Or.inl rfl, Or.inl rfl, Or.inl rfl, (by decide : (0 : Int32) &&& 0 = 0), ?_, fun _ => ⟨rfl, rfl, rfl, rfl, rfl⟩, ?_, ?_⟩
      · show v10 &&& v11 = 0
        rw [bt_0iff]
        intro i hi
        rw [b_and]
        cases q5 : bt v11 i
        · simp
        · have := sub_bt w11 hi q5
          rw [b_and, b_not _ hi] at this
          simp only [Bool.and_eq_true, Bool.not_eq_true'] at this
          rw [this.2]; rfl
      · show ((0 : Int32) ||| 0) &&& ((v10 ||| v11) ^^^ (-1)) = 0
        rw [bt_0iff]
        intro i hi
        rw [b_and, b_or, b_0]; rfl
      · show bt v10 31 = false
        cases q4 : bt v10 31
        · rfl
        · have := sub_bt w10 (by omega) q4
          rw [b_max 31 (by omega)] at this; exact absurd this (by decide)
      · show bt v11 31 = false
        cases q5 : bt v11 31
        · rfl
        · have := sub_bt w11 (by omega) q5
          rw [b_and, b_max 31 (by omega)] at this; exact absurd this (by simp)
    · rw [sD t (by omega)]; exact z6 t (by omega)
end SB
