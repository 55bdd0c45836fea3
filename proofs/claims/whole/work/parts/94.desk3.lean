section QE
variable {M : fw_Mem}
theorem tp_by {cb mb : Nat → Int32} {T : Nat} (h : TP cb mb T) : ∃ B : Nat → Nat, ∀ i, i < T → B i < 256 ∧ cb i = sx (B i) ∧ mb i = nI (B i) := by
  refine ⟨fun i => if hi : i < T then (h i hi).choose else 0, fun i hi => ?_⟩
  have := (h i hi).choose_spec
  simp only [dif_pos hi]
  exact ⟨this.1, this.2.2, this.2.1⟩
/-- what the model does when the text is read -/
theorem m_desk {M1 Ma Mb Mm' : fw_Mem} {n : Nat} (h : KC (fw_set M1 136 6 0)) (hx : ¬ nI n < 0) (hT : nI n ≤ M1 136 15) (b1' : f_X10_bare st_S (fw_set M1 136 6 0) 138 = some Ma) (b2' : f_X10_opens st_S Ma 136 (nI n) = some Mb) (b3 : lf_X10_desk_35 st_S 136 20000 Mb = some Mm') : f_X10_desk st_S M1 136 (nI n) = b2 (f_X10_ends st_S Mm' 136) (fun v14 M14 => if v14 = 0 then (gd (gN (M14 136 0)) (gd (gN (M14 136 1)) (b1 (f_X10_copy st_S M14 ((M14 136 0).toNatClampNeg) ((M14 136 1).toNatClampNeg)) (fun M18 => bm (fw_set M18 136 5 0) (fun M19 => b1 (f_X10_suits st_S M19 136) (fun v20 => some (v20, M19))))))) else (some ((((-10) : Int32) - v14), M14))) := by
  have e15 : fw_set M1 136 6 0 136 15 = M1 136 15 := set_nk _ _ _ _ (by decide)
  simp only [f_X10_desk, gO_136, gd_tt, bm_s, if_neg hx, e15, if_pos hT, kc_136_1 h, gN_138, tn_138, b1', b1_s, b2', b3]
end QE
