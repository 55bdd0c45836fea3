/-! ===== the lines of a text, both sides ===== -/
def CF (M M' : fw_Mem) : Prop := (∀ b, b ≠ 1 → ¬ (42 ≤ b ∧ b < 81) → M' b = M b) ∧ (∀ j, (j < 2 ∨ 8 < j) → M' 1 j = M 1 j) ∧ (∀ j, j < 4 → M' 42 j = M 42 j) ∧ M' 45 = M 45 ∧ ∀ s, s < 10 → M' (71 + s) 0 = M (71 + s) 0
def MG (M M' : fw_Mem) : Prop := (∀ b, b ≠ 136 → b ≠ 138 → M' b = M b) ∧ ∀ j, (j < 17 ∨ 22 < j) → M' 136 j = M 136 j
theorem CF.rf (M : fw_Mem) : CF M M := ⟨fun _ _ _ => rfl, fun _ _ => rfl, fun _ _ => rfl, rfl, fun _ _ => rfl⟩
theorem CF.tr {a b c : fw_Mem} (h : CF a b) (h2 : CF b c) : CF a c := ⟨fun x hx hy => (h2.1 x hx hy).trans (h.1 x hx hy), fun j hj => (h2.2.1 j hj).trans (h.2.1 j hj), fun j hj => (h2.2.2.1 j hj).trans (h.2.2.1 j hj), h2.2.2.2.1.trans h.2.2.2.1, fun s hs => (h2.2.2.2.2 s hs).trans (h.2.2.2.2 s hs)⟩
theorem MG.rf (M : fw_Mem) : MG M M := ⟨fun _ _ _ => rfl, fun _ _ => rfl⟩
theorem MG.tr {a b c : fw_Mem} (h : MG a b) (h2 : MG b c) : MG a c := ⟨fun x hx hy => (h2.1 x hx hy).trans (h.1 x hx hy), fun j hj => (h2.2 j hj).trans (h.2 j hj)⟩
theorem F8.cf {M M' : fw_Mem} (h : F8 M M') : CF M M' := ⟨fun b hb _ => h.1 b hb, fun j hj => h.2 j (by omega), fun j _ => by rw [h.1 42 (by omega)], h.1 45 (by omega), fun s _ => by rw [h.1 (71 + s) (by omega)]⟩
theorem TF.cf {M M' : fw_Mem} (h : TF M M') : CF M M' := h.f8.cf
theorem U8.mg {M M' : fw_Mem} (h : U8 M M') : MG M M' := ⟨fun b hb _ => h.1 b hb, h.2⟩
theorem MU.mg {M M' : fw_Mem} (h : MU M M') : MG M M' := h.u8.mg
theorem MG.st {M M' : fw_Mem} (h : MG M M') (j : Nat) (v : Int32) : MG M (fw_set M' 138 j v) := ⟨fun b h1 h2 => by rw [set_nr _ _ _ h2]; exact h.1 b h1 h2, fun i hi => by rw [set_nr _ _ _ (by decide)]; exact h.2 i hi⟩
theorem CF.kc {M M' : fw_Mem} (f : CF M M') (h : KC M) : KC M' := by
  refine kc_cong h fun q hq => ?_
  have hz : (kcl.all fun q => (!(q.1 == 1) || decide (q.2.1 < 2)) && (!(decide (42 ≤ q.1) && decide (q.1 < 81)) || (q.1 == 42 && decide (q.2.1 < 4)) || q.1 == 45 || (decide (71 ≤ q.1) && decide (q.2.1 = 0)))) = true := by decide +kernel
  have := List.all_eq_true.mp hz q hq
  simp only [Bool.and_eq_true, Bool.or_eq_true, Bool.not_eq_true', beq_eq_false_iff_ne, ne_eq, decide_eq_true_eq, beq_iff_eq, Bool.and_eq_false_iff, decide_eq_false_iff_not] at this
  by_cases h1 : q.1 = 1
  · rw [h1]; exact f.2.1 _ (by omega)
  · by_cases h2 : 42 ≤ q.1 ∧ q.1 < 81
    · by_cases h3 : q.1 = 42
      · rw [h3]; exact f.2.2.1 _ (by omega)
      · by_cases h4 : q.1 = 45
        · rw [h4, f.2.2.2.1]
        · obtain ⟨s, hs⟩ : ∃ s, q.1 = 71 + s := ⟨q.1 - 71, by omega⟩
          have h5 : q.2.1 = 0 := by omega
          rw [hs, h5]; exact f.2.2.2.2 s (by omega)
    · rw [f.1 _ h1 h2]
theorem MG.kc {M M' : fw_Mem} (f : MG M M') (h : KC M) : KC M' := kc_mo h f.1 fun j hj => f.2 j (by omega)
/-- both stand at the same token over the same records, and nothing is wrong -/
def GD (M Mm : fw_Mem) (B : Nat → Nat) (n s e k P L N : Nat) : Prop := TG M Mm B n s e k ∧ cLP M 42 ∧ RW M 42 (Mm 138) P L N ∧ WF (Mm 138) P L N
def LR (M Mm : fw_Mem) (B : Nat → Nat) (n s : Nat) (o om : Option fw_Mem) : Prop := ∃ M' Mm', o = some M' ∧ om = some Mm' ∧ CF M M' ∧ MG Mm Mm' ∧ cLP M' 42 ∧ ((∃ s' e' k' P' L' N', GD M' Mm' B n s' e' k' P' L' N' ∧ s ≤ s') ∨ TB M' Mm')
section LA
variable {M Mm : fw_Mem} {B : Nat → Nat} {n s e k P L N : Nat}
theorem GD.mv {M' Mm' : fw_Mem} {s' e' k' : Nat} (g : GD M Mm B n s e k P L N) (f : TF M M') (u : MU Mm Mm') (t : TG M' Mm' B n s' e' k') : GD M' Mm' B n s' e' k' P L N := by
  obtain ⟨_, p, w, wf⟩ := g
  have e138 := u.1 138 (by decide)
  refine ⟨t, ?_, ?_, by rw [e138]; exact wf⟩
  · unfold cLP; rw [f.1 (42 + 2) (by decide)]; exact p
  · rw [e138]; exact RW.fr p (by omega) wf.1.2.1 wf.1.2.2 (fun b b1 b2 => f.1 b (by omega)) w
theorem l_rule (h : KC M) (hm : KC Mm) (g : GD M Mm B n s e k P L N) {c : Nat} (hc : c < 3) : LR M Mm B n e (f_X8_readRule st_S M 120 (nI c)) (f_X10_readRule st_S Mm 136 (nI c) (rLo c) (rHi c)) := by
  obtain ⟨M1, Mm1, s1, e1, k1, x1, x2, x3, x4, x5, x6⟩ := t_adv h hm g.1
  have g1 := g.mv x3 x4 x5
  have h1 := x3.kc h
  have hm1 := x4.kc hm
  obtain ⟨lo, hi, q1, q2, q3, q4, q5⟩ : ∃ lo hi, rLo c = nI lo ∧ rHi c = nI hi ∧ lo ≤ 9999 ∧ hi ≤ 9999 ∧ ∀ v, lo ≤ v → v ≤ hi → (c = 0 → ∃ S, 1 ≤ S ∧ S ≤ 100 ∧ nI v = nI S) ∧ (c = 1 → nI v = 0 ∨ nI v = 1 ∨ nI v = 2) ∧ (c = 2 → nI v = 0 ∨ nI v = 1) := by
    rcases (by omega : c = 0 ∨ c = 1 ∨ c = 2) with rfl | rfl | rfl
    · exact ⟨1, 100, rfl, rfl, by omega, by omega, fun v v1 v2 => ⟨fun _ => ⟨v, v1, v2, rfl⟩, by omega, by omega⟩⟩
    · refine ⟨0, 2, rfl, rfl, by omega, by omega, fun v v1 v2 => ⟨by omega, fun _ => ?_, by omega⟩⟩
      rcases (by omega : v = 0 ∨ v = 1 ∨ v = 2) with rfl | rfl | rfl
      · exact Or.inl rfl
      · exact Or.inr (Or.inl rfl)
      · exact Or.inr (Or.inr rfl)
    · refine ⟨0, 1, rfl, rfl, by omega, by omega, fun v v1 v2 => ⟨by omega, by omega, fun _ => ?_⟩⟩
      rcases (by omega : v = 0 ∨ v = 1) with rfl | rfl
      · exact Or.inl rfl
      · exact Or.inr rfl
  rw [q1, q2]
  have gc : gA st_S 0 138 (nI (3 + c)) = true := gA_138 (by omega)
  rcases t_number h1 hm1 x5 q3 q4 with ⟨v, M2, Mm2, s2, e2, k2, v1, v2, y1, y2, y3, y4, y5, y6⟩ | ⟨u, M2, Mm2, y1, y2, y3, y4, y5⟩
  · have h2 := y3.kc h1
    have hm2 := y4.kc hm1
    have h7 := y5.1.2.2.2.2.2.2.1
    obtain ⟨tg2, p2, w2, wf2⟩ := g1.mv y3 y4 y5
    refine ⟨fw_set M2 46 c (nI v), fw_set Mm2 138 (3 + c) (nI v), ?_, ?_, ?_, (x4.mg.tr y4.mg).st _ _, ?_, Or.inl ⟨s2, e2, k2, P, L, N, ⟨?_, ?_, ?_, ?_⟩, by have := x5.2.2.1; omega⟩⟩
    · simp only [f_X8_readRule, gO_120, gd_tt, kc_120_0 h, gN_1, tn_1, gO_1, x1, b1_s, c_least hc, c_most hc, q1, q2, y1, b2_s, kc_120_0 h2, h7, if_true, kc_120_1 h2, gN_42, tn_42, gO_42, kc_42_3 h2, gN_46, tn_46, gA_46 hc, bm_s, nI_cl (show c < 2147483648 by omega)]
    · simp only [f_X10_readRule, gO_136, gd_tt, x2, b1_s, kc_136_1 hm1, gN_138, y2, b2_s, tn_138, show (3 : Int32) = nI 3 from rfl, nI_add, gc, bm_s, nI_cl (show 3 + c < 2147483648 by omega)]
    · refine (x3.cf.tr y3.cf).tr ⟨fun b _ hb => set_nr _ _ _ (by omega), fun j _ => by rw [set_nr _ _ _ (by decide)], fun j _ => by rw [set_nr _ _ _ (by decide)], set_nr _ _ _ (by decide), fun s hs => by rw [set_nr _ _ _ (by omega)]⟩
    · unfold cLP; rw [set_nr _ _ _ (by decide)]; exact p2
    · exact tg2.fr (set_nr _ _ _ (by decide)) (set_nr _ _ _ (by decide)) (set_nr _ _ _ (by decide)) (set_nr _ _ _ (by decide))
    · unfold cLP; rw [set_nr _ _ _ (by decide)]; exact p2
    · rw [fw_set_row]
      obtain ⟨r1, r2, r3, r4, r5⟩ := w2
      have n10 := wf2.n
      have l24 := wf2.1.2.1
      refine ⟨?_, fun i hi => ?_, fun j hj => ?_, fun l hl => ?_, fun t ht => ?_⟩
      · rw [set_nr _ _ _ (by decide)]; exact r1
      · rw [set_nr _ _ _ (by decide), upd_ne _ _ (by omega)]; exact r2 i hi
      · by_cases ec : j = c
        · subst ec; rw [upd_eq]; exact set_eq _ _ _ _
        · rw [upd_ne _ _ (by omega), set_nk _ _ _ _ ec]; exact r3 j hj
      · obtain ⟨j, j1, j2, j3⟩ := p2.at (l := l) (by omega) (by omega)
        have := r4 l hl
        rw [set_nr _ _ _ (by decide), lq_lo (by omega)]
        rw [j3] at this ⊢
        rw [cl_fr (set_nr _ _ _ (by omega))]; exact this
      · rw [cq_fr (set_nr _ _ _ (by omega)), sq_lo (by omega)]; exact r5 t ht
    · rw [fw_set_row]
      obtain ⟨z1, z2, z3, z4, z5, z6⟩ := wf2
      obtain ⟨c0, c1, c2⟩ := q5 v v1 v2
      refine ⟨z1, ⟨by rw [upd_ne _ _ (by omega)]; exact z2.1, by rw [upd_ne _ _ (by omega)]; exact z2.2.1, by rw [upd_ne _ _ (by omega)]; exact z2.2.2⟩, ?_, ⟨?_, ?_⟩, fun l hl => by rw [lq_lo (by omega)]; exact z5 l hl, fun t ht => by rw [sq_lo (by omega)]; exact z6 t ht⟩
      · by_cases ec : c = 0
        · subst ec; rw [upd_eq]; exact c0 rfl
        · rw [upd_ne _ _ (by omega)]; exact z3
      · by_cases ec : c = 1
        · subst ec; rw [upd_eq]; exact c1 rfl
        · rw [upd_ne _ _ (by omega)]; exact z4.1
      · by_cases ec : c = 2
        · subst ec; rw [upd_eq]; exact c2 rfl
        · rw [upd_ne _ _ (by omega)]; exact z4.2
  · have h2 := y3.kc h1
    refine ⟨M2, fw_set Mm2 138 (3 + c) u, ?_, ?_, x3.cf.tr y3.cf, (x4.mg.tr y4.mg).st _ _, ?_, Or.inr (y5.fr rfl rfl (by rw [set_nr _ _ _ (by decide)]) (by rw [set_nr _ _ _ (by decide)]))⟩
    · simp only [f_X8_readRule, gO_120, gd_tt, kc_120_0 h, gN_1, tn_1, gO_1, x1, b1_s, c_least hc, c_most hc, q1, q2, y1, b2_s, kc_120_0 h2, if_neg y5.c]
    · simp only [f_X10_readRule, gO_136, gd_tt, x2, b1_s, kc_136_1 hm1, gN_138, y2, b2_s, tn_138, show (3 : Int32) = nI 3 from rfl, nI_add, gc, bm_s, nI_cl (show 3 + c < 2147483648 by omega)]
    · unfold cLP; rw [y3.1 (42 + 2) (by decide)]; exact g1.2.1
end LA
