/-! ===== desk ===== -/
/-- as iv_new, but a text has been read: the tape is empty, and the records of the text have changed -/
theorem iv_text {M M' : fw_Mem} {P L N A T U P' L' N' A' : Nat} {h : Bool} (I : IV M P L N A T U h) (g : ∀ b, (b == 0 || (decide (81 ≤ b) && decide (b < 121)) || b == 133 || b == 134 || b == 139 || b == 146) = true → M' b = M b) (g4 : M' 136 4 = M 136 4) (g13 : M' 136 13 = M 136 13) (k : KC M') (w : WF (M' 137) P' L' N') (p3 : cLP M' 3) (p42 : cLP M' 42) (r3 : RW M' 3 (M' 137) P' L' N') (c : CR M' (M' 137) L' N') (ac : M' 131 1 = nI A' ∧ M' 136 5 = nI A' ∧ ACT (M' 132) (M' 140) (M' 137) P' L' N' A') (t1 : M' 1 1 = 0) (t2 : M' 136 15 = 0) (t3 : M' 1 8 = M' 136 23) : IV M' P' L' N' A' 0 U h := by
  obtain ⟨k0, w0, ⟨q1, q2, q3⟩, -, -, im, -, tp, sp⟩ := I
  refine ⟨k, w, ⟨p3, p42, ?_⟩, r3, c, ?_, ac, ⟨t1, t2, by omega, fun i hi => absurd hi (by omega), t3⟩, ?_⟩
  · unfold cLP; rw [g (81 + 2) rfl]; exact q3
  · refine ⟨by rw [g 0 rfl]; exact im.1, by rw [g4]; exact im.2.1, fun hh => ?_⟩
    obtain ⟨P1, L1, N1, w1, r1⟩ := im.2.2 hh
    refine ⟨P1, L1, N1, by rw [g 139 rfl]; exact w1, ?_⟩
    rw [g 139 rfl]
    exact RW.fr q3 (by omega) w1.1.2.1 w1.1.2.2 (fun b h1 h2 => g b (by simp; omega)) r1
  · rw [g 133 rfl, g 134 rfl, g 146 rfl, g13]; exact sp
