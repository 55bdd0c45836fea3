/-! ===== words, signs and names, both sides ===== -/
def WD (a : Nat) : Prop := gS a = true ∧ sLen a < 100
theorem wd_1 : WD 1000001 := ⟨by decide +kernel, by decide +kernel⟩
theorem wd_2 : WD 1000002 := ⟨by decide +kernel, by decide +kernel⟩
theorem wd_3 : WD 1000003 := ⟨by decide +kernel, by decide +kernel⟩
theorem wd_4 : WD 1000004 := ⟨by decide +kernel, by decide +kernel⟩
theorem wd_5 : WD 1000005 := ⟨by decide +kernel, by decide +kernel⟩
theorem wd_6 : WD 1000006 := ⟨by decide +kernel, by decide +kernel⟩
theorem wd_7 : WD 1000007 := ⟨by decide +kernel, by decide +kernel⟩
theorem wd_8 : WD 1000008 := ⟨by decide +kernel, by decide +kernel⟩
theorem wd_9 : WD 1000009 := ⟨by decide +kernel, by decide +kernel⟩
theorem wd_10 : WD 1000010 := ⟨by decide +kernel, by decide +kernel⟩
theorem wd_11 : WD 1000011 := ⟨by decide +kernel, by decide +kernel⟩
theorem wd_12 : WD 1000012 := ⟨by decide +kernel, by decide +kernel⟩
theorem wd_13 : WD 1000013 := ⟨by decide +kernel, by decide +kernel⟩
theorem wd_14 : WD 1000014 := ⟨by decide +kernel, by decide +kernel⟩
theorem wd_15 : WD 1000015 := ⟨by decide +kernel, by decide +kernel⟩
theorem wd_16 : WD 1000016 := ⟨by decide +kernel, by decide +kernel⟩
theorem wd_17 : WD 1000017 := ⟨by decide +kernel, by decide +kernel⟩
theorem wd_18 : WD 1000018 := ⟨by decide +kernel, by decide +kernel⟩
theorem wd_19 : WD 1000019 := ⟨by decide +kernel, by decide +kernel⟩
theorem wd_20 : WD 1000020 := ⟨by decide +kernel, by decide +kernel⟩
theorem wd_21 : WD 1000021 := ⟨by decide +kernel, by decide +kernel⟩
theorem wd_22 : WD 1000022 := ⟨by decide +kernel, by decide +kernel⟩
theorem wd_23 : WD 1000023 := ⟨by decide +kernel, by decide +kernel⟩
theorem wd_24 : WD 1000024 := ⟨by decide +kernel, by decide +kernel⟩
theorem wd_25 : WD 1000025 := ⟨by decide +kernel, by decide +kernel⟩
theorem wd_26 : WD 1000026 := ⟨by decide +kernel, by decide +kernel⟩
theorem wd_27 : WD 1000027 := ⟨by decide +kernel, by decide +kernel⟩
theorem wd_28 : WD 1000028 := ⟨by decide +kernel, by decide +kernel⟩
theorem wd_29 : WD 1000029 := ⟨by decide +kernel, by decide +kernel⟩
theorem wd_30 : WD 1000030 := ⟨by decide +kernel, by decide +kernel⟩
theorem wd_31 : WD 1000031 := ⟨by decide +kernel, by decide +kernel⟩
def wsm (B : Nat → Nat) (s a : Nat) : Nat → Nat → Int32
  | 0, _ => 1
  | d + 1, i => if nI (B (s + i)) = sChr a i then wsm B s a d (i + 1) else 0
def wIl (B : Nat → Nat) (s e k a len : Nat) : Int32 := if k = 2 then (if e - s = len then wsm B s a len 0 else 0) else 0
def wIs (B : Nat → Nat) (s e k a : Nat) : Int32 := wIl B s e k a (sLen a)
def sIs (B : Nat → Nat) (s k : Nat) (c : Int32) : Int32 := if k = 4 then (if nI (B s) = c then 1 else 0) else 0
def nIs (B : Nat → Nat) (s e k : Nat) : Int32 := if k = 2 then (if 6 < e - s then 0 else if wIs B s e k 1000023 = 0 then 1 else 0) else 0
theorem wsm_01 (B : Nat → Nat) (s a : Nat) : ∀ d i, wsm B s a d i = 0 ∨ wsm B s a d i = 1
  | 0, _ => Or.inr rfl
  | d + 1, i => by
    rw [wsm]
    split
    · exact wsm_01 B s a d (i + 1)
    · exact Or.inl rfl
theorem wIs_01 (B : Nat → Nat) (s e k a : Nat) : wIs B s e k a = 0 ∨ wIs B s e k a = 1 := by
  unfold wIs wIl
  split
  · split
    · exact wsm_01 ..
    · exact Or.inl rfl
  · exact Or.inl rfl
theorem gT_at {a i len : Nat} (hlen : sLen a = len) (h : i < len) (ha : len < 100) : gT a (nI i) = true := by
  simp only [gT, Bool.and_eq_true, decide_eq_true_eq, hlen]
  refine ⟨?_, by rw [nI_cl (by omega)]; exact h⟩
  exact nI_le (a := 0) (by omega) (by omega)
theorem bk_2 {b : Nat} (h : bk b = 2) : 97 ≤ b ∧ b ≤ 122 := by
  unfold bk at h
  split at h
  · omega
  · split at h
    · assumption
    · split at h <;> omega
theorem bk_3 {b : Nat} (h : bk b = 3) : 48 ≤ b ∧ b ≤ 57 := by
  unfold bk at h
  split at h
  · omega
  · split at h
    · omega
    · split at h
      · assumption
      · omega
theorem gd_h {α : Type} {b : Bool} (h : b = true) (x : Option α) : gd b x = x := by subst h; rfl
section WA
variable {M : fw_Mem} {B : Nat → Nat} {n s e k : Nat} {fa : Int32}
theorem c_wl (h : KC M) (c : CT M B n s e k fa) (t : TK B n s e k) (hk : k = 2) {a len : Nat} (hlen : sLen a = len) (hg : gS a = true) (h100 : len < 100) (hl : e - s = len) : ∀ d i q, i + d = len → d < q → lf_X7_isWord_28 st_S M 1 a q (nI i) = some (if wsm B s a d i = 0 then .inl 0 else .inr ()) := by
  obtain ⟨hn, hb, h2, h4, h5, h3, h7, h6⟩ := c
  intro d
  induction d with
  | zero =>
    intro i q hi hq
    obtain ⟨q, rfl⟩ : ∃ j, q = j + 1 := ⟨q - 1, by omega⟩
    have hle : nI len ≤ nI i := nI_le (by omega) (by omega)
    simp only [lf_X7_isWord_28, gd_h hg, hlen, if_pos hle, wsm]
    rfl
  | succ d ih =>
    intro i q hi hq
    obtain ⟨q, rfl⟩ : ∃ j, q = j + 1 := ⟨q - 1, by omega⟩
    have hle : ¬ nI len ≤ nI i := nI_ge (by omega) (by omega)
    have ht := t.2.1
    have hse := t.1
    have b2 := (t.2.2.2.2.2 (Or.inl hk)).2 (s + i) (by omega) (by omega)
    have b3 := bk_2 (b2.trans hk)
    have eb : M 2 (s + i) = nI (B (s + i)) := by rw [(hb (s + i) (by omega)).2, sx_lo _ (by omega)]
    have ihh := ih (i + 1) q (by omega) (by omega)
    simp only [lf_X7_isWord_28, gd_h hg, hlen, if_neg hle, gd_h gO_1, kc_1_0 h, gd_h gN_2, tn_2, h4, nI_add, gd_h (gA_2 (show s + i < 600 by omega)), nI_cl (show s + i < 2147483648 by omega), nI_cl (show i < 2147483648 by omega), gd_h (gT_at hlen (show i < len by omega) h100), eb, nI_1, ihh, wsm]
    split
    · rfl
    · rfl
theorem c_word (h : KC M) (c : CT M B n s e k fa) (t : TK B n s e k) {a : Nat} (w : WD a) : f_X7_isWord st_S M 1 a = some (wIs B s e k a) := by
  obtain ⟨hn, hb, h2, h4, h5, h3, h7, h6⟩ := id c
  have hk4 : k ≤ 4 := by rcases t.2.2.1 with q | q | q | q <;> omega
  have n2 : nI k = 2 ↔ k = 2 := nI_eq (b := 2) (by omega) (by omega)
  have hte := t.2.1
  obtain ⟨hg, h100⟩ := w
  unfold wIs
  generalize hlen : sLen a = len at h100 ⊢
  simp only [f_X7_isWord, gd_h gO_1, h3, gd_h hg, hlen, h4, h5]
  unfold wIl
  by_cases hk : k = 2
  · rw [if_pos (n2.mpr hk), if_pos hk, nI_sub t.1]
    have n3 : nI (e - s) = nI (len) ↔ e - s = len := nI_eq (by omega) (by omega)
    by_cases hl : e - s = len
    · rw [if_pos (n3.mpr hl), if_pos hl, show (0 : Int32) = nI 0 from rfl, c_wl h c t hk hlen hg h100 hl (len) 0 20000 (by omega) (by omega), b1_s]
      rcases wsm_01 B s a (len) 0 with q | q
      · rw [q]; rfl
      · rw [q]; rfl
    · rw [if_neg fun q => hl (n3.mp q), if_neg hl]
  · rw [if_neg fun q => hk (n2.mp q), if_neg hk]
theorem c_sign (h : KC M) (c : CT M B n s e k fa) (t : TK B n s e k) {x : Int32} (hx : ∀ b, b < 256 → (sx b = x ↔ nI b = x)) : f_X7_isSign st_S M 1 x = some (sIs B s k x) := by
  obtain ⟨hn, hb, h2, h4, h5, h3, h7, h6⟩ := id c
  have hk4 : k ≤ 4 := by rcases t.2.2.1 with q | q | q | q <;> omega
  have n2 : nI k = 4 ↔ k = 4 := nI_eq (b := 4) (by omega) (by omega)
  have hte := t.2.1
  simp only [f_X7_isSign, gO_1, gd_tt, h3, h4]
  unfold sIs
  by_cases hk : k = 4
  · have := t.2.2.2.2.1 hk
    have hs := hb s (by omega)
    rw [if_pos (n2.mpr hk), if_pos hk]
    simp only [kc_1_0 h, gN_2, tn_2, gd_tt, gA_2 (show s < 600 by omega), nI_cl (show s < 2147483648 by omega), hs.2]
    by_cases q : nI (B s) = x
    · rw [if_pos q, if_pos ((hx _ hs.1).mpr q)]
    · rw [if_neg q, if_neg fun z => q ((hx _ hs.1).mp z)]
  · rw [if_neg fun q => hk (n2.mp q), if_neg hk]
theorem c_isName (h : KC M) (c : CT M B n s e k fa) (t : TK B n s e k) : f_X7_isName st_S M 1 = some (nIs B s e k) := by
  obtain ⟨hn, hb, h2, h4, h5, h3, h7, h6⟩ := id c
  have hk4 : k ≤ 4 := by rcases t.2.2.1 with q | q | q | q <;> omega
  have n2 : nI k = 2 ↔ k = 2 := nI_eq (b := 2) (by omega) (by omega)
  have hte := t.2.1
  have n6 : (6 : Int32) < nI (e - s) ↔ 6 < e - s := nI_ltI (a := 6) (by omega) (by omega)
  simp only [f_X7_isName, gO_1, gd_tt, h3, h4, h5, nI_sub t.1, c_word h c t wd_23, b1_s]
  unfold nIs
  by_cases hk : k = 2
  · rw [if_pos (n2.mpr hk), if_pos hk]
    by_cases q : 6 < e - s
    · rw [if_pos q, if_pos (n6.mpr q)]
    · rw [if_neg q, if_neg fun z => q (n6.mp z)]
      rcases wIs_01 B s e k 1000023 with w | w
      · rw [w]; rfl
      · rw [w]; rfl
  · rw [if_neg fun q => hk (n2.mp q), if_neg hk]
/-! the same, of the model -/
theorem mw_0 (a : Nat) {q : Nat} (hq : 0 < q) (x : Int32) : lf_X10_isWord_39 st_S M 136 a q 0 x = some 0 := by
  obtain ⟨q, rfl⟩ : ∃ j, q = j + 1 := ⟨q - 1, by omega⟩
  simp only [lf_X10_isWord_39, if_true]
theorem m_wl (h : KC M) (c : MT M B n s e k) (t : TK B n s e k) (hk : k = 2) {a len : Nat} (hlen : sLen a = len) (hg : gS a = true) (h100 : len < 100) (hl : e - s = len) : ∀ d i q, i + d = len → d + 1 < q → lf_X10_isWord_39 st_S M 136 a q 1 (nI i) = some (wsm B s a d i) := by
  obtain ⟨hn, hb, h2, h17, h19, h20, h18, h21⟩ := c
  have n10 : ¬ (1 : Int32) = 0 := by decide
  intro d
  induction d with
  | zero =>
    intro i q hi hq
    obtain ⟨q, rfl⟩ : ∃ j, q = j + 1 := ⟨q - 1, by omega⟩
    have hle : nI len ≤ nI i := nI_le (by omega) (by omega)
    simp only [lf_X10_isWord_39, if_neg n10, gd_h hg, hlen, if_pos hle, wsm]
  | succ d ih =>
    intro i q hi hq
    obtain ⟨q, rfl⟩ : ∃ j, q = j + 2 := ⟨q - 2, by omega⟩
    have hle : ¬ nI len ≤ nI i := nI_ge (by omega) (by omega)
    have ht := t.2.1
    have hse := t.1
    have eb : M 147 (s + i) = nI (B (s + i)) := (hb (s + i) (by omega)).2
    have ihh := ih (i + 1) (q + 1) (by omega) (by omega)
    rw [lf_X10_isWord_39]
    simp only [if_neg n10, gd_h hg, hlen, if_neg hle, gd_h gO_136, kc_136_14 h, gd_h gN_147, tn_147, h19, nI_add, gd_h (gA_147 (show s + i < 600 by omega)), nI_cl (show s + i < 2147483648 by omega), nI_cl (show i < 2147483648 by omega), gd_h (gT_at hlen (show i < len by omega) h100), eb, nI_1, ihh, wsm, mw_0 a (show 0 < q + 1 by omega)]
    by_cases z : nI (B (s + i)) = sChr a i
    · rw [if_pos z, if_pos z.symm]
    · rw [if_neg z, if_neg fun y => z y.symm]
theorem m_fj (a : Nat) {x v : Int32} (hv : v = 0 ∨ v = 1) (hl : lf_X10_isWord_39 st_S M 136 a 20000 x 0 = some v) : fj_X10_isWord_36 st_S M 136 a x = some v := by
  unfold fj_X10_isWord_36
  rw [hl, b1_s]
  exact gd_h (by rcases hv with q | q <;> rw [q] <;> rfl) _
theorem m_word' (h : KC M) (c : MT M B n s e k) (t : TK B n s e k) {a : Nat} (w : WD a) : f_X10_isWord st_S M 136 a = some (wIs B s e k a) := by
  obtain ⟨hn, hb, h2, h17, h19, h20, h18, h21⟩ := id c
  have hk4 : k ≤ 4 := by rcases t.2.2.1 with q | q | q | q <;> omega
  have hk1 : k ≠ 1 := by rcases t.2.2.1 with q | q | q | q <;> omega
  have n2 : nI (k - 1) = 1 ↔ k = 2 := (nI_eq (b := 1) (by omega) (by omega)).trans (by omega)
  have hte := t.2.1
  obtain ⟨hg, h100⟩ := w
  unfold wIs
  generalize hlen : sLen a = len at h100 ⊢
  have f0 : fj_X10_isWord_36 st_S M 136 a 0 = some 0 := m_fj a (Or.inl rfl) (mw_0 a (by omega) _)
  unfold f_X10_isWord wIl
  rw [gd_h gO_136, if_pos h21, h18]
  by_cases hk : k = 2
  · rw [if_pos (n2.mpr hk), if_pos hk, gd_h hg, hlen, h19, h20, nI_sub t.1]
    have n3 : nI (len) = nI (e - s) ↔ e - s = len := (nI_eq (by omega) (by omega)).trans ⟨Eq.symm, Eq.symm⟩
    by_cases hl : e - s = len
    · rw [if_pos (n3.mpr hl), if_pos hl]
      exact m_fj a (wsm_01 B s a len 0) (m_wl h c t hk hlen hg h100 hl (len) 0 20000 (by omega) (by omega))
    · rw [if_neg fun q => hl (n3.mp q), if_neg hl, f0]
  · rw [if_neg fun q => hk (n2.mp q), if_neg hk, f0]
theorem m_sign (h : KC M) (c : MT M B n s e k) (t : TK B n s e k) (x : Int32) : f_X10_isSign st_S M 136 x = some (sIs B s k x) := by
  obtain ⟨hn, hb, h2, h17, h19, h20, h18, h21⟩ := id c
  have hk4 : k ≤ 4 := by rcases t.2.2.1 with q | q | q | q <;> omega
  have n2 : nI (k - 1) = 3 ↔ k = 4 := (nI_eq (b := 3) (by omega) (by omega)).trans (by omega)
  have hte := t.2.1
  simp only [f_X10_isSign, gO_136, gd_tt, h21, if_true, h18, h19]
  unfold sIs
  by_cases hk : k = 4
  · have := t.2.2.2.2.1 hk
    have hs := hb s (by omega)
    rw [if_pos (n2.mpr hk), if_pos hk]
    simp only [kc_136_14 h, gN_147, tn_147, gd_tt, gA_147 (show s < 600 by omega), nI_cl (show s < 2147483648 by omega), hs.2]
    by_cases q : nI (B s) = x
    · rw [if_pos q, if_pos q]
    · rw [if_neg q, if_neg q]
  · rw [if_neg fun q => hk (n2.mp q), if_neg hk]
theorem m_isName (h : KC M) (c : MT M B n s e k) (t : TK B n s e k) : f_X10_isName st_S M 136 = some (nIs B s e k) := by
  obtain ⟨hn, hb, h2, h17, h19, h20, h18, h21⟩ := id c
  have hk4 : k ≤ 4 := by rcases t.2.2.1 with q | q | q | q <;> omega
  have hk1 : k ≠ 1 := by rcases t.2.2.1 with q | q | q | q <;> omega
  have n2 : nI (k - 1) = 1 ↔ k = 2 := (nI_eq (b := 1) (by omega) (by omega)).trans (by omega)
  have hte := t.2.1
  have n6 : (6 : Int32) < nI (e - s) ↔ 6 < e - s := nI_ltI (a := 6) (by omega) (by omega)
  simp only [f_X10_isName, gO_136, gd_tt, h18, h19, h20, h21, if_true, nI_sub t.1, m_word' h c t wd_23, b1_s]
  unfold nIs
  by_cases hk : k = 2
  · rw [if_pos (n2.mpr hk), if_pos hk]
    by_cases q : 6 < e - s
    · rw [if_pos q, if_pos (n6.mpr q)]
    · rw [if_neg q, if_neg fun z => q (n6.mp z)]
      rcases wIs_01 B s e k 1000023 with w | w
      · rw [w]; rfl
      · rw [w]; rfl
  · rw [if_neg fun q => hk (n2.mp q), if_neg hk]
/-! letters -/
def ltr (B : Nat → Nat) (s e i : Nat) : Int32 := if e - s ≤ i then 0 else nI (B (s + i) - 96)
theorem c_letter (h : KC M) (c : CT M B n s e k fa) (t : TK B n s e k) (hk : k = 2) {i : Nat} (hi : i < 6) : f_X7_letterOf st_S M 1 (nI i) = some (ltr B s e i) := by
  obtain ⟨hn, hb, h2, h4, h5, h3, h7, h6⟩ := id c
  have n2 : nI k = 2 := by rw [hk]; rfl
  have hte := t.2.1
  have hse := t.1
  have n0 : ¬ nI i < 0 := by rw [show (0 : Int32) = nI 0 from rfl, nI_ltI (by omega) (by omega)]; omega
  simp only [f_X7_letterOf, gO_1, gd_tt, h3, if_pos n2, if_neg n0, h4, h5, nI_sub t.1, kc_1_0 h, gN_2, tn_2, nI_add]
  unfold ltr
  by_cases q : e - s ≤ i
  · rw [if_pos q, if_pos (nI_le q (by omega))]
  · have b2 := (t.2.2.2.2.2 (Or.inl hk)).2 (s + i) (by omega) (by omega)
    have b3 := bk_2 (b2.trans hk)
    have eb : M 2 (s + i) = nI (B (s + i)) := by rw [(hb (s + i) (by omega)).2, sx_lo _ (by omega)]
    rw [if_neg q, if_neg (nI_ge (by omega) (by omega)), gA_2 (show s + i < 600 by omega), gd_tt, nI_cl (show s + i < 2147483648 by omega), eb, show (97 : Int32) = nI 97 from rfl, nI_sub b3.1, nI_1]
    congr 2
    omega
theorem m_letter (h : KC M) (c : MT M B n s e k) (t : TK B n s e k) (hk : k = 2) {i : Nat} (hi : i < 6) : f_X10_letterHere st_S M 136 (nI i) = some (ltr B s e i) := by
  obtain ⟨hn, hb, h2, h17, h19, h20, h18, h21⟩ := id c
  have hte := t.2.1
  have hse := t.1
  simp only [f_X10_letterHere, gO_136, gd_tt, h19, h20, kc_136_14 h, gN_147, tn_147, nI_add]
  unfold ltr
  by_cases q : e - s ≤ i
  · rw [if_pos q, if_pos (nI_le (by omega) (by omega))]
  · have b2 := (t.2.2.2.2.2 (Or.inl hk)).2 (s + i) (by omega) (by omega)
    have b3 := bk_2 (b2.trans hk)
    have eb : M 147 (s + i) = nI (B (s + i)) := (hb (s + i) (by omega)).2
    rw [if_neg q, if_neg (nI_ge (by omega) (by omega)), gA_147 (show s + i < 600 by omega), gd_tt, nI_cl (show s + i < 2147483648 by omega), eb, show (96 : Int32) = nI 96 from rfl, nI_sub (by omega)]
end WA
