/-! ===== the start ===== -/
set_option maxRecDepth 1000000 in
theorem st_kcb : (kcl.all fun q => decide (st_M q.1 q.2.1 = q.2.2)) = true := by decide +kernel
theorem st_kc : KC st_M := fun q hq => of_decide_eq_true (List.all_eq_true.mp st_kcb q hq)
set_option maxRecDepth 1000000 in
theorem st_lp3 : ∀ l, l < 24 → st_M (3 + 2) l = nI (3 + 5 + l) := by decide +kernel
set_option maxRecDepth 1000000 in
theorem st_lp42 : ∀ l, l < 24 → st_M (42 + 2) l = nI (42 + 5 + l) := by decide +kernel
set_option maxRecDepth 1000000 in
theorem st_lp81 : ∀ l, l < 24 → st_M (81 + 2) l = nI (81 + 5 + l) := by decide +kernel
theorem st_clp {n : Nat} (hn : n < 1000) (h : ∀ l, l < 24 → st_M (n + 2) l = nI (n + 5 + l)) : cLP st_M n := ⟨fun l hl => ⟨l, hl, h l hl⟩, fun l l' hl hl' e => by
  rw [h l hl, h l' hl'] at e
  have := (nI_eq (by omega) (by omega)).mp e
  omega⟩
set_option maxRecDepth 1000000 in
theorem st_row : st_M 137 0 = 0 ∧ st_M 137 1 = 0 ∧ st_M 137 2 = 0 ∧ st_M 137 3 = 50 ∧ st_M 137 4 = 0 ∧ st_M 137 5 = 0 := by decide +kernel
set_option maxRecDepth 1000000 in
theorem st_cel : (st_M 3 4 = 0 ∧ st_M 3 5 = 0 ∧ st_M 3 6 = 0) ∧ (st_M 7 0 = 50 ∧ st_M 7 1 = 0 ∧ st_M 7 2 = 0) ∧ (st_M 0 10 = 0 ∧ st_M 136 4 = 0) ∧ (st_M 131 1 = 0 ∧ st_M 136 5 = 0) ∧ (st_M 1 1 = 0 ∧ st_M 136 15 = 0 ∧ st_M 1 8 = -1 ∧ st_M 136 23 = -1) ∧ (st_M 133 1 = 0 ∧ st_M 136 13 = 0) := by decide +kernel
theorem st_inv : INV st_M := by
  obtain ⟨r0, r1, r2, r3, r4, r5⟩ := st_row
  obtain ⟨⟨a1, a2, a3⟩, ⟨b1', b2', b3⟩, ⟨c1, c2⟩, ⟨d1, d2⟩, ⟨e1, e2, e3, e4⟩, ⟨f1, f2⟩⟩ := st_cel
  have w : WF (st_M 137) 0 0 0 := ⟨by omega, ⟨r0, r1, r2⟩, ⟨50, by omega, by omega, r3⟩, ⟨Or.inl r4, Or.inl r5⟩, fun l hl => absurd hl (by omega), fun s hs => absurd hs (by omega)⟩
  refine ⟨0, 0, 0, 0, 0, 0, false, st_kc, w, ⟨st_clp (by omega) st_lp3, st_clp (by omega) st_lp42, st_clp (by omega) st_lp81⟩, ⟨⟨a1, a2, a3⟩, fun i hi => absurd hi (by omega), fun j hj => ?_, fun l hl => absurd hl (by omega), fun s hs => absurd hs (by omega)⟩, ⟨⟨a3, b1'.trans r3.symm, b2'.trans r4.symm, b3.trans r5.symm⟩, fun i hi => absurd hi (by omega)⟩, ⟨c1, c2, fun q => by cases q⟩, ⟨d1, d2, act_0 _ _ _ _ _ _⟩, ⟨e1, e2, by omega, fun i hi => absurd hi (by omega), e3.trans e4.symm⟩, ⟨f1, f2, by omega, fun i hi => absurd hi (by omega)⟩⟩
  rcases (by omega : j = 0 ∨ j = 1 ∨ j = 2) with rfl | rfl | rfl
  · exact b1'.trans r3.symm
  · exact b2'.trans r4.symm
  · exact b3.trans r5.symm
