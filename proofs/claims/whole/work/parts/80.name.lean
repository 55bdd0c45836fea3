/-! ===== names, both sides ===== -/
def mtc (r : Nat → Int32) (B : Nat → Nat) (s e p : Nat) : Nat → Nat → Int32
  | 0, _ => 1
  | d + 1, i => if r (6 + 6 * p + i) = ltr B s e i then mtc r B s e p d (i + 1) else 0
def fnd (r : Nat → Int32) (B : Nat → Nat) (s e : Nat) : Nat → Nat → Int32
  | 0, _ => -1
  | d + 1, p => if mtc r B s e p 6 0 = 0 then fnd r B s e d (p + 1) else nI p
theorem fnd_or (r : Nat → Int32) (B : Nat → Nat) (s e : Nat) : ∀ d p, fnd r B s e d p = -1 ∨ ∃ j, j < p + d ∧ fnd r B s e d p = nI j
  | 0, _ => Or.inl rfl
  | d + 1, p => by
    rw [fnd]
    split
    · rcases fnd_or r B s e d (p + 1) with q | ⟨j, j1, j2⟩
      · exact Or.inl q
      · exact Or.inr ⟨j, by omega, j2⟩
    · exact Or.inr ⟨p, by omega, rfl⟩
section NB
variable {M Mm : fw_Mem} {B : Nat → Nat} {n s e k P : Nat} {r : Nat → Int32} {fa : Int32}
theorem c_nm0 (p : Int32) {q : Nat} (hq : 0 < q) (i : Int32) : lf_X8_personNamed_17 st_S M 120 p q 0 i = some 0 := by
  obtain ⟨q, rfl⟩ : ∃ j, q = j + 1 := ⟨q - 1, by omega⟩
  simp only [lf_X8_personNamed_17, if_true]
  split <;> rfl
theorem c_nm (h : KC M) (c : CT M B n s e k fa) (t : TK B n s e k) (hk : k = 2) (hr : ∀ i, i < 6 * P → M 43 i = r (6 + i)) (hP : P ≤ 12) {p : Nat} (hp : p < P) : ∀ d i q, i + d = 6 → d + 1 < q → lf_X8_personNamed_17 st_S M 120 (nI p) q 1 (nI i) = some (mtc r B s e p d i) := by
  intro d
  induction d with
  | zero =>
    intro i q hi hq
    obtain ⟨q, rfl⟩ : ∃ j, q = j + 1 := ⟨q - 1, by omega⟩
    have hle : (6 : Int32) ≤ nI i := nI_le (a := 6) (by omega) (by omega)
    simp only [lf_X8_personNamed_17, if_pos hle, mtc]
  | succ d ih =>
    intro i q hi hq
    obtain ⟨q, rfl⟩ : ∃ j, q = j + 1 := ⟨q - 1, by omega⟩
    have hle : ¬ nI 6 ≤ nI i := nI_ge (by omega) (by omega)
    have n10 : ¬ (1 : Int32) = 0 := by decide
    have ihh := ih (i + 1) q (by omega) (by omega)
    have e1 : M 43 (p * 6 + i) = r (6 + 6 * p + i) := by rw [hr _ (by omega)]; congr 1; omega
    rw [lf_X8_personNamed_17]
    simp only [if_neg hle, if_neg n10, gO_120, gd_tt, kc_120_1 h, gN_42, tn_42, gO_42, kc_42_0 h, gN_43, tn_43, show (6 : Int32) = nI 6 from rfl, nI_mul, nI_add, gA_43 (show p * 6 + i < 72 by omega), kc_120_0 h, gN_1, tn_1, gO_1, c_letter h c t hk (show i < 6 by omega), b1_s, nI_cl (show p * 6 + i < 2147483648 by omega), e1, nI_1, ihh, mtc, c_nm0 (nI p) (show 0 < q by omega)]
    split <;> rfl
theorem c_named (h : KC M) (c : CT M B n s e k fa) (t : TK B n s e k) (hk : k = 2) (hr : ∀ i, i < 6 * P → M 43 i = r (6 + i)) (hP : P ≤ 12) (h4 : M 42 4 = nI P) : ∀ d p q, p + d = P → d < q → b1 (lf_X8_personNamed_2 st_S M 120 q (nI p)) (fun l18 => bl l18 (fun t18 => some t18) (fun d18 => some (-1))) = some (fnd r B s e d p) := by
  intro d
  induction d with
  | zero =>
    intro p q hi hq
    obtain ⟨q, rfl⟩ : ∃ j, q = j + 1 := ⟨q - 1, by omega⟩
    have hle : nI P ≤ nI p := nI_le (by omega) (by omega)
    simp only [lf_X8_personNamed_2, gO_120, gd_tt, kc_120_1 h, gN_42, tn_42, gO_42, h4, if_pos hle, b1_s, fnd]
    rfl
  | succ d ih =>
    intro p q hi hq
    obtain ⟨q, rfl⟩ : ∃ j, q = j + 1 := ⟨q - 1, by omega⟩
    have hle : ¬ nI P ≤ nI p := nI_ge (by omega) (by omega)
    have ihh := ih (p + 1) q (by omega) (by omega)
    have e1 := c_nm (p := p) h c t hk hr hP (by omega) 6 0 20000 (by omega) (by omega)
    rw [show nI 0 = (0 : Int32) from rfl] at e1
    rw [lf_X8_personNamed_2]
    simp only [gO_120, gd_tt, kc_120_1 h, gN_42, tn_42, gO_42, h4, if_neg hle, e1, b1_s, fnd, nI_1]
    by_cases z : mtc r B s e p 6 0 = 0
    · rw [if_pos z, if_pos z]; exact ihh
    · rw [if_neg z, if_neg z]; rfl
theorem m_nm0 (hm : KC Mm) (p : Int32) : ∀ d i q, i + d = 6 → d < q → lf_X10_named_16 st_S Mm 136 p q 0 (nI i) = some 0 := by
  intro d
  induction d with
  | zero =>
    intro i q hi hq
    obtain ⟨q, rfl⟩ : ∃ j, q = j + 1 := ⟨q - 1, by omega⟩
    have hle : (6 : Int32) ≤ nI i := nI_le (a := 6) (by omega) (by omega)
    simp only [lf_X10_named_16, if_pos hle]
  | succ d ih =>
    intro i q hi hq
    obtain ⟨q, rfl⟩ : ∃ j, q = j + 1 := ⟨q - 1, by omega⟩
    have hle : ¬ (6 : Int32) ≤ nI i := nI_ge (b := 6) (by omega) (by omega)
    have ihh := ih (i + 1) q (by omega) (by omega)
    simp only [lf_X10_named_16, if_neg hle, if_true, nI_1, ihh]
theorem m_nm (hm : KC Mm) (c : MT Mm B n s e k) (t : TK B n s e k) (hk : k = 2) {p : Nat} (hp : p < 12) : ∀ d i q, i + d = 6 → d + 1 < q → lf_X10_named_16 st_S Mm 136 (nI p) q 1 (nI i) = some (mtc (Mm 138) B s e p d i) := by
  intro d
  induction d with
  | zero =>
    intro i q hi hq
    obtain ⟨q, rfl⟩ : ∃ j, q = j + 1 := ⟨q - 1, by omega⟩
    have hle : (6 : Int32) ≤ nI i := nI_le (a := 6) (by omega) (by omega)
    simp only [lf_X10_named_16, if_pos hle, mtc]
  | succ d ih =>
    intro i q hi hq
    obtain ⟨q, rfl⟩ : ∃ j, q = j + 1 := ⟨q - 1, by omega⟩
    have hle : ¬ nI 6 ≤ nI i := nI_ge (by omega) (by omega)
    have n10 : ¬ (1 : Int32) = 0 := by decide
    have ihh := ih (i + 1) q (by omega) (by omega)
    rw [lf_X10_named_16]
    simp only [if_neg hle, if_neg n10, gO_136, gd_tt, kc_136_1 hm, gN_138, tn_138, show (6 : Int32) = nI 6 from rfl, nI_mul, nI_add, gA_138 (show 6 + 6 * p + i < 330 by omega), m_letter hm c t hk (show i < 6 by omega), b1_s, nI_cl (show 6 + 6 * p + i < 2147483648 by omega), nI_1, ihh, mtc, m_nm0 hm (nI p) d (i + 1) q (by omega) (by omega)]
    split <;> rfl
theorem m_named (hm : KC Mm) (c : MT Mm B n s e k) (t : TK B n s e k) (hk : k = 2) (hP : P ≤ 12) (h4 : Mm 138 0 = nI P) : ∀ d p q, p + d = P → d < q → b1 (lf_X10_named_2 st_S Mm 136 q (nI p)) (fun l18 => bl l18 (fun t18 => some t18) (fun d18 => some (-1))) = some (fnd (Mm 138) B s e d p) := by
  intro d
  induction d with
  | zero =>
    intro p q hi hq
    obtain ⟨q, rfl⟩ : ∃ j, q = j + 1 := ⟨q - 1, by omega⟩
    have hle : nI P ≤ nI p := nI_le (by omega) (by omega)
    simp only [lf_X10_named_2, gO_136, gd_tt, kc_136_1 hm, gN_138, tn_138, gA_138_0, h4, if_pos hle, b1_s, fnd]
    rfl
  | succ d ih =>
    intro p q hi hq
    obtain ⟨q, rfl⟩ : ∃ j, q = j + 1 := ⟨q - 1, by omega⟩
    have hle : ¬ nI P ≤ nI p := nI_ge (by omega) (by omega)
    have ihh := ih (p + 1) q (by omega) (by omega)
    have e1 := m_nm (p := p) hm c t hk (by omega) 6 0 20000 (by omega) (by omega)
    rw [show nI 0 = (0 : Int32) from rfl] at e1
    rw [lf_X10_named_2]
    simp only [gO_136, gd_tt, kc_136_1 hm, gN_138, tn_138, gA_138_0, h4, if_neg hle, e1, b1_s, fnd, nI_1]
    by_cases z : mtc (Mm 138) B s e p 6 0 = 0
    · rw [if_pos z, if_pos z]; exact ihh
    · rw [if_neg z, if_neg z]; rfl
/-- the two find the same person, or none -/
theorem t_named (h : KC M) (hm : KC Mm) (t : TG M Mm B n s e k) (hk : k = 2) {L N : Nat} (w : RW M 42 (Mm 138) P L N) (hP : P ≤ 12) (h0 : Mm 138 0 = nI P) : ∃ v, f_X8_personNamed st_S M 120 = some v ∧ f_X10_named st_S Mm 136 = some v ∧ (v = -1 ∨ ∃ p, p < P ∧ v = nI p) := by
  obtain ⟨c, m, tk⟩ := t
  refine ⟨fnd (Mm 138) B s e P 0, c_named h c tk hk w.2.1 hP w.1.1 P 0 20000 (by omega) (by omega), m_named hm m tk hk hP h0 P 0 20000 (by omega) (by omega), ?_⟩
  rcases fnd_or (Mm 138) B s e P 0 with q | ⟨j, j1, j2⟩
  · exact Or.inl q
  · exact Or.inr ⟨j, by omega, j2⟩
theorem nIs_2 (q : ¬ nIs B s e k = 0) : k = 2 := by
  unfold nIs at q
  split at q
  · assumption
  · exact absurd rfl q
/-- a known name is read -/
theorem t_name (h : KC M) (hm : KC Mm) (t : TG M Mm B n s e k) {L N : Nat} (w : RW M 42 (Mm 138) P L N) (hP : P ≤ 12) (h0 : Mm 138 0 = nI P) (x : Int32) :
    (∃ v M' Mm' s' e' k', v < P ∧ nI v ≠ x ∧ f_X8_passName st_S M 120 x = some (nI v, M') ∧ f_X10_readKnown st_S Mm 136 x = some (nI v, Mm') ∧ TF M M' ∧ MU Mm Mm' ∧ TG M' Mm' B n s' e' k' ∧ e ≤ s') ∨
    (∃ u M' Mm', f_X8_passName st_S M 120 x = some (-1, M') ∧ f_X10_readKnown st_S Mm 136 x = some (u, Mm') ∧ F8 M M' ∧ U8 Mm Mm' ∧ TB M' Mm') := by
  obtain ⟨c, m, tk⟩ := id t
  have h7 := c.2.2.2.2.2.2.1
  have g21 := m.2.2.2.2.2.2.2
  by_cases hn : nIs B s e k = 0
  · obtain ⟨M', Mm', x1, x2, x3, x4, x5⟩ := t_fail t (f := 1) (by omega)
    rw [show nI 1 = (1 : Int32) from rfl] at x1 x2
    refine Or.inr ⟨-1, M', Mm', ?_, ?_, x3, x4, x5⟩
    · simp only [f_X8_passName, gO_120, gd_tt, kc_120_0 h, gN_1, tn_1, gO_1, h7, if_true, c_isName h c tk, b1_s, hn, x1, fj_X8_passName_28, kc_120_0 (x3.kc h), if_neg x5.c]
    · simp only [f_X10_readKnown, gO_136, gd_tt, m_isName hm m tk, b1_s, hn, if_true, x2, fj_X10_readKnown_12, if_neg x5.m, fj_X10_readKnown_27, b_pass x5]
  · obtain ⟨v, y1, y2, y3⟩ := t_named h hm t (nIs_2 hn) w hP h0
    by_cases hv : v = -1 ∨ v = x
    · obtain ⟨M', Mm', x1, x2, x3, x4, x5⟩ := t_fail t (f := 3) (by omega)
      rw [show nI 3 = (3 : Int32) from rfl] at x1 x2
      refine Or.inr ⟨v, M', Mm', ?_, ?_, x3, x4, x5⟩
      · simp only [f_X8_passName, gO_120, gd_tt, kc_120_0 h, gN_1, tn_1, gO_1, h7, if_true, c_isName h c tk, b1_s, if_neg hn, y1, x1]
        by_cases z : v = -1
        · rw [if_pos z]
        · rw [if_neg z, if_pos (hv.resolve_left z)]
      · simp only [f_X10_readKnown, gO_136, gd_tt, m_isName hm m tk, b1_s, if_neg hn, g21, if_true, y2, fj_X10_readKnown_27, x2, b_pass x5]
        by_cases z : v = -1
        · rw [if_pos z]
        · rw [if_neg z, if_pos (hv.resolve_left z)]
    · have hv1 : ¬ v = -1 := fun z => hv (Or.inl z)
      have hv2 : ¬ v = x := fun z => hv (Or.inr z)
      obtain ⟨p, hp, rfl⟩ := y3.resolve_left hv1
      obtain ⟨M', Mm', s', e', k', x1, x2, x3, x4, x5, x6⟩ := t_adv h hm t
      refine Or.inl ⟨p, M', Mm', s', e', k', hp, hv2, ?_, ?_, x3, x4, x5, x6⟩
      · simp only [f_X8_passName, gO_120, gd_tt, kc_120_0 h, gN_1, tn_1, gO_1, h7, if_true, c_isName h c tk, b1_s, if_neg hn, y1, if_neg hv1, if_neg hv2, x1]
      · simp only [f_X10_readKnown, gO_136, gd_tt, m_isName hm m tk, b1_s, if_neg hn, g21, if_true, y2, fj_X10_readKnown_27, if_neg hv1, if_neg hv2, x2]
end NB
