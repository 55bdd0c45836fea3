/-! ===== the readers of one token or a row of them, both sides ===== -/
def F8 (M M' : fw_Mem) : Prop := (∀ b, b ≠ 1 → M' b = M b) ∧ ∀ j, (j < 3 ∨ 8 < j) → M' 1 j = M 1 j
def U8 (M M' : fw_Mem) : Prop := (∀ b, b ≠ 136 → M' b = M b) ∧ ∀ j, (j < 17 ∨ 22 < j) → M' 136 j = M 136 j
theorem F8.rf (M : fw_Mem) : F8 M M := ⟨fun _ _ => rfl, fun _ _ => rfl⟩
theorem F8.tr {a b c : fw_Mem} (h : F8 a b) (h2 : F8 b c) : F8 a c := ⟨fun x hx => (h2.1 x hx).trans (h.1 x hx), fun j hj => (h2.2 j hj).trans (h.2 j hj)⟩
theorem U8.rf (M : fw_Mem) : U8 M M := ⟨fun _ _ => rfl, fun _ _ => rfl⟩
theorem U8.tr {a b c : fw_Mem} (h : U8 a b) (h2 : U8 b c) : U8 a c := ⟨fun x hx => (h2.1 x hx).trans (h.1 x hx), fun j hj => (h2.2 j hj).trans (h.2 j hj)⟩
theorem TF.f8 {M M' : fw_Mem} (h : TF M M') : F8 M M' := ⟨h.1, fun j hj => h.2 j (by omega)⟩
theorem MU.u8 {M M' : fw_Mem} (h : MU M M') : U8 M M' := ⟨h.1, fun j hj => h.2 j (by omega)⟩
theorem F8.kc {M M' : fw_Mem} (f : F8 M M') (h : KC M) : KC M' := kc_tape h (fun b b1 _ => f.1 b b1) (f.2 0 (by omega))
theorem U8.kc {M M' : fw_Mem} (f : U8 M M') (h : KC M) : KC M' := kc_mo h (fun b b1 _ => f.1 b b1) fun j hj => f.2 j (by omega)
/-- both stand at the same token, and nothing is wrong -/
def TG (M Mm : fw_Mem) (B : Nat → Nat) (n s e k : Nat) : Prop := CT M B n s e k 0 ∧ MT Mm B n s e k ∧ TK B n s e k
/-- both have the same fault at the same place -/
def TB (M Mm : fw_Mem) : Prop := ∃ B n s e k f, CT M B n s e k (nI f) ∧ TK B n s e k ∧ (1 ≤ f ∧ f ≤ 4) ∧ Mm 136 21 = nI f ∧ M 1 8 = Mm 136 22
theorem TB.c {M Mm : fw_Mem} (t : TB M Mm) : ¬ M 1 7 = 0 := by
  obtain ⟨B, n, s, e, k, f, c, _, hf, _⟩ := t
  rw [c.2.2.2.2.2.2.1]
  exact fun q => absurd ((nI_eq (b := 0) (by omega) (by omega)).mp q) (by omega)
theorem TB.m {M Mm : fw_Mem} (t : TB M Mm) : ¬ Mm 136 21 = 0 := by
  obtain ⟨B, n, s, e, k, f, c, _, hf, hm, _⟩ := t
  rw [hm]
  exact fun q => absurd ((nI_eq (b := 0) (by omega) (by omega)).mp q) (by omega)
theorem TB.fr {M Mm M' Mm' : fw_Mem} (t : TB M Mm) (h1 : M' 1 = M 1) (h2 : M' 2 = M 2) (h3 : Mm' 136 21 = Mm 136 21) (h4 : Mm' 136 22 = Mm 136 22) : TB M' Mm' := by
  obtain ⟨B, n, s, e, k, f, c, tk, hf, hm, hp⟩ := t
  refine ⟨B, n, s, e, k, f, ?_, tk, hf, h3.trans hm, ?_⟩
  · unfold CT; rw [h1, h2]; exact c
  · rw [h1, h4]; exact hp
theorem TG.fr {M Mm M' Mm' : fw_Mem} {B : Nat → Nat} {n s e k : Nat} (t : TG M Mm B n s e k) (h1 : M' 1 = M 1) (h2 : M' 2 = M 2) (h3 : Mm' 136 = Mm 136) (h4 : Mm' 147 = Mm 147) : TG M' Mm' B n s e k := by
  obtain ⟨c, m, tk⟩ := t
  refine ⟨?_, ?_, tk⟩
  · unfold CT; rw [h1, h2]; exact c
  · unfold MT; rw [h3, h4]; exact m
section SA
variable {M Mm : fw_Mem} {B : Nat → Nat} {n s e k : Nat}
/-- both go on by a token -/
theorem t_adv (h : KC M) (hm : KC Mm) (t : TG M Mm B n s e k) : ∃ M' Mm' s' e' k', f_X7_advance st_S M 1 = some M' ∧ f_X10_pass st_S Mm 136 = some Mm' ∧ TF M M' ∧ MU Mm Mm' ∧ TG M' Mm' B n s' e' k' ∧ e ≤ s' := by
  obtain ⟨c, m, tk⟩ := t
  obtain ⟨M', x1, x2, x3⟩ := c_adv h c tk.2.1
  obtain ⟨Mm', y1, y2, y3⟩ := m_pass hm m tk.2.1
  obtain ⟨z1, z2, _⟩ := nx_tk (B := B) (n := n) (e := e) tk.2.1
  exact ⟨M', Mm', _, _, _, x1, y1, x2, y2, ⟨x3, y3, z1⟩, z2⟩
/-- both find the same fault -/
theorem t_fail (t : TG M Mm B n s e k) {f : Nat} (hf : 1 ≤ f ∧ f ≤ 4) : ∃ M' Mm', f_X7_fail st_S M 1 (nI f) = some M' ∧ f_X10_wrong st_S Mm 136 (nI f) = some Mm' ∧ F8 M M' ∧ U8 Mm Mm' ∧ TB M' Mm' := by
  obtain ⟨c, m, tk⟩ := t
  obtain ⟨hn, hb, h2, h4, h5, h3, h7, h6⟩ := id c
  obtain ⟨_, _, g2, g17, g19, g20, g18, g21⟩ := id m
  refine ⟨fw_set (fw_set M 1 7 (nI f)) 1 8 (nI s), fw_set (fw_set Mm 136 21 (nI f)) 136 22 (nI s), ?_, ?_, ?_, ?_, ?_⟩
  · simp only [f_X7_fail, gO_1, gd_tt, h7, if_true, bm_s, set_nk _ _ _ _ (show (4 : Nat) ≠ 7 by decide), h4]
  · simp only [f_X10_wrong, gO_136, gd_tt, g21, if_true, bm_s, set_nk _ _ _ _ (show (19 : Nat) ≠ 21 by decide), g19]
  · exact ⟨fun b hb => by rw [set_nr _ _ _ hb, set_nr _ _ _ hb], fun j hj => by rw [set_nk _ _ _ _ (by omega), set_nk _ _ _ _ (by omega)]⟩
  · exact ⟨fun b hb => by rw [set_nr _ _ _ hb, set_nr _ _ _ hb], fun j hj => by rw [set_nk _ _ _ _ (by omega), set_nk _ _ _ _ (by omega)]⟩
  · refine ⟨B, n, s, e, k, f, ⟨hn, fun i hi => ?_, ?_, ?_, ?_, ?_, ?_, fun q => ?_, fun q => absurd ((nI_eq (b := 0) (by omega) (by omega)).mp q) (by omega)⟩, tk, hf, ?_, ?_⟩
    · rw [set_nr _ _ _ (by decide), set_nr _ _ _ (by decide)]; exact hb i hi
    · rw [set_nk _ _ _ _ (by decide), set_nk _ _ _ _ (by decide)]; exact h2
    · rw [set_nk _ _ _ _ (by decide), set_nk _ _ _ _ (by decide)]; exact h4
    · rw [set_nk _ _ _ _ (by decide), set_nk _ _ _ _ (by decide)]; exact h5
    · rw [set_nk _ _ _ _ (by decide), set_nk _ _ _ _ (by decide)]; exact h3
    · rw [set_nk _ _ _ _ (by decide), set_eq]
    · rw [set_nk _ _ _ _ (by decide), set_nk _ _ _ _ (by decide)]; exact h6.1 q
    · rw [set_nk _ _ _ _ (by decide), set_eq]
    · rw [set_eq, set_eq]
/-! when something is wrong, nothing moves -/
theorem b_fail (t : TB M Mm) (x : Int32) : f_X7_fail st_S M 1 x = some M := by simp only [f_X7_fail, gO_1, gd_tt, if_neg t.c]
theorem b_adv (t : TB M Mm) : f_X7_advance st_S M 1 = some M := by simp only [f_X7_advance, gO_1, gd_tt, if_neg t.c]
theorem b_wrong (t : TB M Mm) (x : Int32) : f_X10_wrong st_S Mm 136 x = some Mm := by simp only [f_X10_wrong, gO_136, gd_tt, if_neg t.m]
theorem b_pass (t : TB M Mm) : f_X10_pass st_S Mm 136 = some Mm := by simp only [f_X10_pass, gO_136, gd_tt, if_neg t.m]
theorem b_sign (t : TB M Mm) (x : Int32) : f_X10_isSign st_S Mm 136 x = some 0 := by simp only [f_X10_isSign, gO_136, gd_tt, if_neg t.m]
theorem b_word (t : TB M Mm) (a : Nat) : f_X10_isWord st_S Mm 136 a = some 0 := by
  unfold f_X10_isWord
  rw [gd_h gO_136, if_neg t.m]
  exact m_fj a (Or.inl rfl) (mw_0 a (by omega) _)
theorem b_name (t : TB M Mm) : f_X10_isName st_S Mm 136 = some 0 := by simp only [f_X10_isName, gO_136, gd_tt, if_neg t.m]
theorem b_cword (h : KC M) (t : TB M Mm) {a : Nat} (w : WD a) : ∃ v, f_X7_isWord st_S M 1 a = some v := by
  obtain ⟨B, n, s, e, k, f, c, tk, _⟩ := t
  exact ⟨_, c_word h c tk w⟩
theorem b_csign (h : KC M) (t : TB M Mm) {x : Int32} (hx : ∀ b, b < 256 → (sx b = x ↔ nI b = x)) : ∃ v, f_X7_isSign st_S M 1 x = some v := by
  obtain ⟨B, n, s, e, k, f, c, tk, _⟩ := t
  exact ⟨_, c_sign h c tk hx⟩
theorem b_passName (h : KC M) (t : TB M Mm) (x : Int32) : f_X8_passName st_S M 120 x = some (-1, M) := by
  simp only [f_X8_passName, gO_120, gd_tt, kc_120_0 h, gN_1, tn_1, gO_1, if_neg t.c]
theorem b_known (t : TB M Mm) (x : Int32) : f_X10_readKnown st_S Mm 136 x = some (-1, Mm) := by
  simp only [f_X10_readKnown, gO_136, gd_tt, b_name t, b1_s, if_true, b_wrong t, fj_X10_readKnown_12, if_neg t.m, fj_X10_readKnown_27, b_pass t]
theorem b_passNumber (h : KC M) (t : TB M Mm) (x y : Int32) : f_X8_passNumber st_S M 120 x y = some (-1, M) := by
  simp only [f_X8_passNumber, gO_120, gd_tt, kc_120_0 h, gN_1, tn_1, gO_1, if_neg t.c]
theorem b_numLoop (t : TB M Mm) (x y : Int32) {q : Nat} (hq : 0 < q) (v w : Int32) : lf_X10_numberHere_28 st_S Mm 136 x y q v w = some v := by
  obtain ⟨q, rfl⟩ : ∃ j, q = j + 1 := ⟨q - 1, by omega⟩
  simp only [lf_X10_numberHere_28, gO_136, gd_tt, if_neg t.m]
theorem b_numberHere (t : TB M Mm) (x y : Int32) : f_X10_numberHere st_S Mm 136 x y = some (0, Mm) := by
  simp only [f_X10_numberHere, gO_136, gd_tt, if_neg t.m, b_numLoop t x y (show 0 < 20000 by omega), b1_s]
theorem b_number (t : TB M Mm) (x y : Int32) : f_X10_number st_S Mm 136 x y = some (0, Mm) := by
  simp only [f_X10_number, gO_136, gd_tt, b_numberHere t, b2_s, b_pass t, b1_s]
theorem b_passSet (h : KC M) (t : TB M Mm) (a : Nat) (x : Int32) : f_X8_passSet st_S M 120 a x = some (0, M) := by
  simp only [f_X8_passSet, gO_120, gd_tt, kc_120_0 h, gN_1, tn_1, gO_1, if_neg t.c]
theorem b_readSet (t : TB M Mm) (a : Nat) (x : Int32) : f_X10_readSet st_S Mm 136 a x = some (0, Mm) := by
  simp only [f_X10_readSet, gO_136, gd_tt, b_word t, b1_s, if_true]
end SA
