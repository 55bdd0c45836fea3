/-! ===== ask: a value, a comparison ===== -/
def AF (M M' : fw_Mem) : Prop := (∀ b, b ≠ 1 → b ≠ 129 → b ≠ 130 → M' b = M b) ∧ ∀ j, (j < 3 ∨ 8 < j) → M' 1 j = M 1 j
theorem AF.rf (M : fw_Mem) : AF M M := ⟨fun _ _ _ _ => rfl, fun _ _ => rfl⟩
theorem AF.tr {a b c : fw_Mem} (h : AF a b) (h2 : AF b c) : AF a c := ⟨fun x x1 x2 x3 => (h2.1 x x1 x2 x3).trans (h.1 x x1 x2 x3), fun j hj => (h2.2 j hj).trans (h.2 j hj)⟩
theorem F8.af {M M' : fw_Mem} (f : F8 M M') : AF M M' := ⟨fun b b1 _ _ => f.1 b b1, f.2⟩
theorem AF.kc {M M' : fw_Mem} (f : AF M M') (h : KC M) : KC M' := by
  refine kc_cong h fun q hq => ?_
  have z := List.all_eq_true.mp (by decide +kernel : (kcl.all fun q => (!(q.1 == 129) && !(q.1 == 130)) && (!(q.1 == 1) || decide (q.2.1 < 3))) = true) q hq
  simp only [Bool.or_eq_true, decide_eq_true_eq, Bool.and_eq_true, Bool.not_eq_true', beq_eq_false_iff_ne] at z
  by_cases e : q.1 = 1
  · rw [e]; exact f.2 _ (Or.inl (z.2.resolve_left fun y => y e))
  · rw [f.1 _ e z.1.1 z.1.2]
def MW (M M' : fw_Mem) : Prop := (∀ b, b ≠ 136 → M' b = M b) ∧ ∀ j, (j < 17 ∨ j = 23 ∨ 24 < j) → M' 136 j = M 136 j
theorem MW.rf (M : fw_Mem) : MW M M := ⟨fun _ _ => rfl, fun _ _ => rfl⟩
theorem MW.tr {a b c : fw_Mem} (h : MW a b) (h2 : MW b c) : MW a c := ⟨fun x x1 => (h2.1 x x1).trans (h.1 x x1), fun j hj => (h2.2 j hj).trans (h.2 j hj)⟩
theorem U8.mw {M M' : fw_Mem} (f : U8 M M') : MW M M' := ⟨f.1, fun j hj => f.2 j (by omega)⟩
theorem MW.kc {M M' : fw_Mem} (f : MW M M') (h : KC M) : KC M' := kc_mo h (fun b b1 _ => f.1 b b1) fun j hj => f.2 j (by omega)
theorem MW.st {M M' : fw_Mem} (f : MW M M') (v : Int32) : MW M (fw_set M' 136 24 v) := ⟨fun b hb => by rw [set_nr _ _ _ hb, f.1 b hb], fun j hj => by rw [set_nk _ _ _ _ (by omega), f.2 j hj]⟩
def CE (M : fw_Mem) (N : Nat) (T : Nat → Nat → Int32) : Prop := M 127 4 = nI N ∧ ∀ i, i < N → ∀ k, k < 10 → M 128 (10 * i + k) = T i k
theorem CE.fr {M M' : fw_Mem} {N : Nat} {T : Nat → Nat → Int32} (c : CE M N T) (f : AF M M') : CE M' N T := by
  unfold CE; rw [f.1 127 (by decide) (by decide) (by decide), f.1 128 (by decide) (by decide) (by decide)]; exact c
def ME (Mm : fw_Mem) (N : Nat) (T : Nat → Nat → Int32) (a : Int32) : Prop := Mm 136 25 = a ∧ (a = -1 ∨ ∃ i, i < N ∧ a = nI i) ∧ ∀ Mm', MW Mm Mm' → KC Mm' → ∀ i, i < N → ∀ k, k < 10 → f_X10_valueOf st_S Mm' 136 (nI i) (nI k) = some (T i k)
theorem ME.fr {M M' : fw_Mem} {N : Nat} {T : Nat → Nat → Int32} {a : Int32} (c : ME M N T a) (f : MW M M') : ME M' N T a := ⟨by rw [f.2 25 (by omega)]; exact c.1, c.2.1, fun m g k => c.2.2 m (f.tr g) k⟩
def wn (B : Nat → Nat) (s e k : Nat) : Int32 := if wIs B s e k 1000028 = 0 then (if wIs B s e k 1000024 = 0 then (if wIs B s e k 1000005 = 0 then (if wIs B s e k 1000008 = 0 then (if wIs B s e k 1000004 = 0 then (if wIs B s e k 1000030 = 0 then (if wIs B s e k 1000002 = 0 then (if wIs B s e k 1000013 = 0 then (if wIs B s e k 1000021 = 0 then (if wIs B s e k 1000010 = 0 then -1 else 9) else 8) else 7) else 6) else 5) else 4) else 3) else 2) else 1) else 0
theorem wn_or (B : Nat → Nat) (s e k : Nat) : wn B s e k = -1 ∨ ∃ j, j < 10 ∧ wn B s e k = nI j := by
  unfold wn
  repeat' split
  · exact Or.inl rfl
  · exact Or.inr ⟨9, by omega, rfl⟩
  · exact Or.inr ⟨8, by omega, rfl⟩
  · exact Or.inr ⟨7, by omega, rfl⟩
  · exact Or.inr ⟨6, by omega, rfl⟩
  · exact Or.inr ⟨5, by omega, rfl⟩
  · exact Or.inr ⟨4, by omega, rfl⟩
  · exact Or.inr ⟨3, by omega, rfl⟩
  · exact Or.inr ⟨2, by omega, rfl⟩
  · exact Or.inr ⟨1, by omega, rfl⟩
  · exact Or.inr ⟨0, by omega, rfl⟩
theorem wIs_k {B : Nat → Nat} {s e k : Nat} (hk : k ≠ 2) (a : Nat) : wIs B s e k a = 0 := by
  unfold wIs wIl; rw [if_neg hk]
theorem wn_k {B : Nat → Nat} {s e k : Nat} (hk : k ≠ 2) : wn B s e k = -1 := by
  unfold wn
  simp only [wIs_k hk, if_true]
section VA
variable {M Mm : fw_Mem} {B : Nat → Nat} {n s e k N : Nat} {T : Nat → Nat → Int32} {a fa : Int32}
theorem c_wn (h : KC M) (c : CT M B n s e k fa) (t : TK B n s e k) : f_X1_wordNumber st_S M 127 = some (wn B s e k) := by
  unfold f_X1_wordNumber
  rw [gd_h gO_127, kc_127_0 h, gd_h gN_1, tn_1, gd_h gO_1]
  rw [c_word h c t wd_28, b1_s]; unfold wn
  by_cases h1 : wIs B s e k 1000028 = 0
  rotate_left
  · rw [if_neg h1, if_neg h1]
  rw [if_pos h1, if_pos h1, c_word h c t wd_24, b1_s]
  by_cases h1 : wIs B s e k 1000024 = 0
  rotate_left
  · rw [if_neg h1, if_neg h1]
  rw [if_pos h1, if_pos h1, c_word h c t wd_5, b1_s]
  by_cases h1 : wIs B s e k 1000005 = 0
  rotate_left
  · rw [if_neg h1, if_neg h1]
  rw [if_pos h1, if_pos h1, c_word h c t wd_8, b1_s]
  by_cases h1 : wIs B s e k 1000008 = 0
  rotate_left
  · rw [if_neg h1, if_neg h1]
  rw [if_pos h1, if_pos h1, c_word h c t wd_4, b1_s]
  by_cases h1 : wIs B s e k 1000004 = 0
  rotate_left
  · rw [if_neg h1, if_neg h1]
  rw [if_pos h1, if_pos h1, c_word h c t wd_30, b1_s]
  by_cases h1 : wIs B s e k 1000030 = 0
  rotate_left
  · rw [if_neg h1, if_neg h1]
  rw [if_pos h1, if_pos h1, c_word h c t wd_2, b1_s]
  by_cases h1 : wIs B s e k 1000002 = 0
  rotate_left
  · rw [if_neg h1, if_neg h1]
  rw [if_pos h1, if_pos h1, c_word h c t wd_13, b1_s]
  by_cases h1 : wIs B s e k 1000013 = 0
  rotate_left
  · rw [if_neg h1, if_neg h1]
  rw [if_pos h1, if_pos h1, c_word h c t wd_21, b1_s]
  by_cases h1 : wIs B s e k 1000021 = 0
  rotate_left
  · rw [if_neg h1, if_neg h1]
  rw [if_pos h1, if_pos h1, c_word h c t wd_10, b1_s]
  by_cases h1 : wIs B s e k 1000010 = 0
  · rw [if_pos h1, if_pos h1]
  · rw [if_neg h1, if_neg h1]
theorem m_wn (h : KC Mm) (c : MT Mm B n s e k) (t : TK B n s e k) : f_X10_wordHere st_S Mm 136 = some (wn B s e k) := by
  unfold f_X10_wordHere
  rw [gd_h gO_136]
  rw [m_word' h c t wd_28, b1_s]; unfold wn
  by_cases h1 : wIs B s e k 1000028 = 0
  rotate_left
  · rw [if_neg h1, if_neg h1]
  rw [if_pos h1, if_pos h1, m_word' h c t wd_24, b1_s]
  by_cases h1 : wIs B s e k 1000024 = 0
  rotate_left
  · rw [if_neg h1, if_neg h1]
  rw [if_pos h1, if_pos h1, m_word' h c t wd_5, b1_s]
  by_cases h1 : wIs B s e k 1000005 = 0
  rotate_left
  · rw [if_neg h1, if_neg h1]
  rw [if_pos h1, if_pos h1, m_word' h c t wd_8, b1_s]
  by_cases h1 : wIs B s e k 1000008 = 0
  rotate_left
  · rw [if_neg h1, if_neg h1]
  rw [if_pos h1, if_pos h1, m_word' h c t wd_4, b1_s]
  by_cases h1 : wIs B s e k 1000004 = 0
  rotate_left
  · rw [if_neg h1, if_neg h1]
  rw [if_pos h1, if_pos h1, m_word' h c t wd_30, b1_s]
  by_cases h1 : wIs B s e k 1000030 = 0
  rotate_left
  · rw [if_neg h1, if_neg h1]
  rw [if_pos h1, if_pos h1, m_word' h c t wd_2, b1_s]
  by_cases h1 : wIs B s e k 1000002 = 0
  rotate_left
  · rw [if_neg h1, if_neg h1]
  rw [if_pos h1, if_pos h1, m_word' h c t wd_13, b1_s]
  by_cases h1 : wIs B s e k 1000013 = 0
  rotate_left
  · rw [if_neg h1, if_neg h1]
  rw [if_pos h1, if_pos h1, m_word' h c t wd_21, b1_s]
  by_cases h1 : wIs B s e k 1000021 = 0
  rotate_left
  · rw [if_neg h1, if_neg h1]
  rw [if_pos h1, if_pos h1, m_word' h c t wd_10, b1_s]
  by_cases h1 : wIs B s e k 1000010 = 0
  · rw [if_pos h1, if_pos h1]
  · rw [if_neg h1, if_neg h1]
/-- a row of values is laid -/
theorem c_fill (h : KC M) (ce : CE M N T) (hN : N ≤ 10) {row : Nat} (hr : row = 129 ∨ row = 130) {x : Int32} (hx : x = -1 ∨ ∃ j, j < 10 ∧ x = nI j) : ∃ M', lf_X1_readValue_60 st_S 127 row x 20000 0 M = some M' ∧ (∀ b, b ≠ row → M' b = M b) ∧ (x = -1 → ∀ i, i < N → M' row i = M 1 6) ∧ ∀ j, j < 10 → x = nI j → ∀ i, i < N → M' row i = T i j := by
  have hlen : fw_len2 st_S 0 row = 10 := by rcases hr with rfl | rfl; exact len_129; exact len_130
  have hgL : gL st_S 0 row = true := by rcases hr with rfl | rfl <;> decide +kernel
  have kcn : (kcl.all fun q => !(q.1 == row)) = true := by rcases hr with rfl | rfl <;> decide +kernel
  obtain ⟨R, z1, z2, z3, z4⟩ := lp_up (fun f (m : fw_Mem) i => lf_X1_readValue_60 st_S 127 row x f (nI i) m) N (fun i m => (∀ b, b ≠ row → m b = M b) ∧ (x = -1 → ∀ i', i' < i → m row i' = M 1 6) ∧ ∀ j, j < 10 → x = nI j → ∀ i', i' < i → m row i' = T i' j) (fun m => (∀ b, b ≠ row → m b = M b) ∧ (x = -1 → ∀ i', i' < N → m row i' = M 1 6) ∧ ∀ j, j < 10 → x = nI j → ∀ i', i' < N → m row i' = T i' j)
    (by
      rintro f i m hi ⟨x1, x2, x3⟩
      have km : KC m := kc_ne h row kcn x1
      have r1 : (1 : Nat) ≠ row := by rcases hr with rfl | rfl <;> decide
      have r127 : (127 : Nat) ≠ row := by rcases hr with rfl | rfl <;> decide
      have r128 : (128 : Nat) ≠ row := by rcases hr with rfl | rfl <;> decide
      have e4 : m 127 4 = nI N := by rw [x1 127 r127]; exact ce.1
      have hn : ¬ nI N ≤ nI i := nI_ge hi (by omega)
      have hn2 : ¬ nI 10 ≤ nI i := nI_ge (by omega) (by omega)
      have gA : gA st_S 0 row (nI i) = true := gA_at 10 hlen (show i < 10 by omega) (by omega) rfl
      rcases hx with rfl | ⟨j, hj, rfl⟩
      · refine ⟨fw_set m row i (M 1 6), ⟨fun b hb => by rw [set_nr _ _ _ hb, x1 b hb], fun _ i' hi' => ?_, fun j hj q => absurd q.symm (by rw [nI_m1 (by omega)]; exact id)⟩, ?_⟩
        · by_cases q : i' = i
          · rw [q, set_eq]
          · rw [set_nk _ _ _ _ q]; exact x2 rfl i' (by omega)
        · simp only [lf_X1_readValue_60, gO_127, gd_tt, e4, if_neg hn, hgL, hlen, if_neg hn2, if_true, kc_127_0 km, gN_1, tn_1, gO_1, gA, nI_cl (show i < 2147483648 by omega), bm_s, nI_1, x1 1 r1]
      · have nm : ¬ nI j = (-1 : Int32) := by rw [nI_m1 (by omega)]; exact id
        refine ⟨fw_set m row i (T i j), ⟨fun b hb => by rw [set_nr _ _ _ hb, x1 b hb], fun q => absurd q nm, fun j' hj' q i' hi' => ?_⟩, ?_⟩
        · obtain rfl : j = j' := (nI_eq (by omega) (by omega)).mp q
          by_cases q : i' = i
          · rw [q, set_eq]
          · rw [set_nk _ _ _ _ q]; exact x3 j hj rfl i' (by omega)
        · have t : nI i * 10 + nI j = nI (10 * i + j) := by rw [show (10 : Int32) = nI 10 from rfl, nI_mul, Nat.mul_comm, nI_add]
          have e128 : m 128 (10 * i + j) = T i j := by rw [x1 128 r128]; exact ce.2 i hi j hj
          simp only [lf_X1_readValue_60, gO_127, gd_tt, e4, if_neg hn, hgL, hlen, if_neg hn2, if_neg nm, kc_127_1 km, gN_128, tn_128, t, gA_128 (show 10 * i + j < 100 by omega), nI_cl (show 10 * i + j < 2147483648 by omega), e128, gA, nI_cl (show i < 2147483648 by omega), bm_s, nI_1])
    (by
      rintro f m hm
      have r127 : (127 : Nat) ≠ row := by rcases hr with rfl | rfl <;> decide
      have e4 : m 127 4 = nI N := by rw [hm.1 127 r127]; exact ce.1
      exact ⟨m, by simp only [lf_X1_readValue_60, gO_127, gd_tt, e4, if_pos (nI_le (Nat.le_refl N) (show N < 2 ^ 31 by omega))], hm⟩) _ 0 20000 M rfl (by omega) (by omega) ⟨fun _ _ => rfl, fun _ i' hi' => absurd hi' (by omega), fun j hj _ i' hi' => absurd hi' (by omega)⟩
  exact ⟨R, z1, z2, z3, z4⟩
/-- the class's row and tape alone have changed -/
def VF (M M' : fw_Mem) (row : Nat) : Prop := (∀ b, b ≠ 1 → b ≠ row → M' b = M b) ∧ ∀ j, (j < 3 ∨ 8 < j) → M' 1 j = M 1 j
theorem VF.af {M M' : fw_Mem} {row : Nat} (hr : row = 129 ∨ row = 130) (f : VF M M' row) : AF M M' := ⟨fun b b1 b2 b3 => f.1 b b1 (by omega), f.2⟩
theorem t_value (h : KC M) (hm : KC Mm) (ce : CE M N T) (hN : N ≤ 10) (me : ME Mm N T a) (t : TG M Mm B n s e k) {row : Nat} (hr : row = 129 ∨ row = 130) :
    ∃ M' u Mm', f_X1_readValue st_S M 127 row = some M' ∧ f_X10_readValue st_S Mm 136 = some (u, Mm') ∧ VF M M' row ∧ U8 Mm Mm' ∧ ((∃ s' e' k', TG M' Mm' B n s' e' k' ∧ e ≤ s' ∧ ∀ i, i < N → a = nI i → M' row i = u) ∨ TB M' Mm') := by
  have r1 : (1 : Nat) ≠ row := by rcases hr with rfl | rfl <;> decide
  have r2 : (2 : Nat) ≠ row := by rcases hr with rfl | rfl <;> decide
  have hraf : ∀ {m m' : fw_Mem}, (∀ b, b ≠ row → m' b = m b) → AF m m' := fun {m m'} x => ⟨fun b _ b2 b3 => x b (by omega), fun j _ => by rw [x 1 r1]⟩
  obtain ⟨c, mt, tk⟩ := id t
  obtain ⟨hn, hb, h2, h4, h5, h3, h7, h6⟩ := id c
  obtain ⟨_, _, g2, g17, g19, g20, g18, g21⟩ := id mt
  have hw := c_wn h c tk
  have hk4 : k ≤ 4 := by rcases tk.2.2.1 with q | q | q | q <;> omega
  -- both go on
  have go : ∀ {x : Int32} (hx : x = -1 ∨ ∃ j, j < 10 ∧ x = nI j), ∃ m M' Mm' s' e' k', lf_X1_readValue_60 st_S 127 row x 20000 0 M = some m ∧ KC m ∧ f_X7_advance st_S m 1 = some M' ∧ f_X10_pass st_S Mm 136 = some Mm' ∧ VF M M' row ∧ MU Mm Mm' ∧ TG M' Mm' B n s' e' k' ∧ e ≤ s' ∧ (x = -1 → ∀ i, i < N → M' row i = M 1 6) ∧ ∀ j, j < 10 → x = nI j → ∀ i, i < N → M' row i = T i j := fun {x} hx => by
    obtain ⟨m, a1, a2, a3, a4⟩ := c_fill h ce hN hr hx
    have km := (hraf a2).kc h
    obtain ⟨M', Mm', s', e', k', x1, x2, x3, x4, x5, x6⟩ := t_adv km hm (t.fr (a2 1 r1) (a2 2 r2) rfl rfl)
    exact ⟨m, M', Mm', s', e', k', a1, km, x1, x2, ⟨fun b b1 b2 => by rw [x3.1 b b1, a2 b b2], fun j hj => by rw [x3.2 j (by omega), a2 1 r1]⟩, x4, x5, x6, fun q i hi => by rw [x3.1 row r1.symm]; exact a3 q i hi, fun j hj q i hi => by rw [x3.1 row r1.symm]; exact a4 j hj q i hi⟩
  -- both fail
  have no : ∀ {f : Nat} (hf : 1 ≤ f ∧ f ≤ 4), ∃ M1 M' Mm', f_X7_fail st_S M 1 (nI f) = some M1 ∧ fj_X1_readValue_58 st_S M1 127 row (-1) = some M' ∧ f_X10_wrong st_S Mm 136 (nI f) = some Mm' ∧ VF M M' row ∧ U8 Mm Mm' ∧ TB M' Mm' := fun {f} hf => by
    obtain ⟨M1, Mm', x1, x2, x3, x4, x5⟩ := t_fail t hf
    obtain ⟨m, a1, a2, a3, a4⟩ := c_fill (x3.kc h) (ce.fr x3.af) hN hr (Or.inl rfl)
    have tb : TB m Mm' := x5.fr (a2 1 r1) (a2 2 r2) rfl rfl
    have km := (hraf a2).kc (x3.kc h)
    refine ⟨M1, m, Mm', x1, ?_, x2, ⟨fun b b1 b2 => by rw [a2 b b2, x3.1 b b1], fun j hj => by rw [a2 1 r1, x3.2 j hj]⟩, x4, tb⟩
    simp only [fj_X1_readValue_58, a1, b1_s, gO_127, gd_tt, kc_127_0 km, gN_1, tn_1, gO_1, b_adv tb]
  by_cases hk : k = 3
  · have h33 : M 1 3 = 3 := by rw [h3, hk]; rfl
    have h66 := h6.1 hk
    have m18 : Mm 136 18 = 2 := by rw [g18, hk]; rfl
    obtain ⟨vr, v1, v2⟩ := v_at tk hk
    have hwn : wn B s e k = -1 := wn_k (by omega)
    rw [hwn] at hw
    by_cases hr9 : vC B s (e - s) ≤ 9999
    · obtain ⟨m, M', Mm', s', e', k', y1, y2, y3, y4, y5, y6, y7, y8, y9, y10⟩ := go (Or.inl rfl)
      have ev : vM B s (e - s) = vC B s (e - s) := by omega
      refine ⟨M', nI (vC B s (e - s)), Mm', ?_, ?_, y5, y6.u8, Or.inl ⟨s', e', k', y7, y8, fun i hi _ => by rw [y9 rfl i hi, h66]⟩⟩
      · have q2 : nI (vC B s (e - s)) ≤ 9999 := nI_le (b := 9999) (by omega) (by omega)
        simp only [f_X1_readValue, gO_127, gd_tt, hw, b1_s, kc_127_0 h, gN_1, tn_1, gO_1, h33, h66, if_true, if_pos q2, y1, kc_127_0 y2, y3]
      · have q1 : ¬ nI (vC B s (e - s)) < 0 := nI_pos (by omega)
        have q2 : ¬ (9999 : Int32) < nI (vC B s (e - s)) := by rw [show (9999 : Int32) = nI 9999 from rfl, nI_ltI (by omega) (by omega)]; omega
        have hnum : f_X10_number st_S Mm 136 0 9999 = some (nI (vC B s (e - s)), Mm') := by
          unfold f_X10_number
          rw [m_nh3 hm mt tk hk, ev, if_pos ⟨q1, q2⟩, gO_136, gd_tt, b2_s, y4, b1_s]
        simp only [f_X10_readValue, gO_136, gd_tt, g21, if_true, m18, hnum, b2_s]
    · obtain ⟨M1, M', Mm', y1, y2, y3, y4, y5, y6⟩ := no (f := 2) (by omega)
      rw [show nI 2 = (2 : Int32) from rfl] at y1 y3
      refine ⟨M', nI (vM B s (e - s)), Mm', ?_, ?_, y4, y5, Or.inr y6⟩
      · have q2 : ¬ nI (vC B s (e - s)) ≤ 9999 := nI_ge (a := 9999) (by omega) (by omega)
        simp only [f_X1_readValue, gO_127, gd_tt, hw, b1_s, kc_127_0 h, gN_1, tn_1, gO_1, h33, h66, if_true, if_neg q2, y1, y2]
      · have hnum : f_X10_number st_S Mm 136 0 9999 = some (nI (vM B s (e - s)), Mm') := by
          unfold f_X10_number
          rw [m_nh3 hm mt tk hk, if_neg, gO_136, gd_tt, y3, b1_s, b2_s, b_pass y6, b1_s]
          rintro ⟨q1, q2⟩
          rw [show (9999 : Int32) = nI 9999 from rfl, nI_ltI (by omega) (by omega)] at q2
          omega
        simp only [f_X10_readValue, gO_136, gd_tt, g21, if_true, m18, hnum, b2_s]
  · have h33 : ¬ M 1 3 = 3 := by
      rw [h3]
      exact fun q => hk ((nI_eq (b := 3) (by omega) (by omega)).mp q)
    have m18 : ¬ Mm 136 18 = 2 := by
      rw [g18]
      exact fun q => absurd ((nI_eq (b := 2) (by omega) (by omega)).mp q) (by omega)
    have hwm := m_wn hm mt tk
    rcases wn_or B s e k with hwn | ⟨j, hj, hwn⟩
    · rw [hwn] at hw hwm
      obtain ⟨M1, M', Mm', y1, y2, y3, y4, y5, y6⟩ := no (f := 1) (by omega)
      rw [show nI 1 = (1 : Int32) from rfl] at y1 y3
      refine ⟨M', 0, Mm', ?_, ?_, y4, y5, Or.inr y6⟩
      · simp only [f_X1_readValue, gO_127, gd_tt, hw, b1_s, kc_127_0 h, gN_1, tn_1, gO_1, if_neg h33, if_true, y1, y2]
      · simp only [f_X10_readValue, gO_136, gd_tt, g21, if_true, if_neg m18, hwm, b1_s, y3, fj_X10_readValue_39, b_pass y6, if_neg y6.m]
    · have nm : ¬ nI j = (-1 : Int32) := by rw [nI_m1 (by omega)]; exact id
      obtain ⟨m, M', Mm', s', e', k', y1, y2, y3, y4, y5, y6, y7, y8, y9, y10⟩ := go (x := nI j) (Or.inr ⟨j, hj, rfl⟩)
      rw [hwn] at hw hwm
      have hcl : f_X1_readValue st_S M 127 row = some M' := by
        simp only [f_X1_readValue, gO_127, gd_tt, hw, b1_s, kc_127_0 h, gN_1, tn_1, gO_1, if_neg h33, if_neg nm, y1, kc_127_0 y2, y3]
      have e25 : Mm' 136 25 = a := by rw [y6.2 25 (by omega)]; exact me.1
      have e21 : Mm' 136 21 = 0 := y7.2.1.2.2.2.2.2.2.2
      have base : f_X10_readValue st_S Mm 136 = if a = -1 then some (0, Mm') else b1 (f_X10_valueOf st_S Mm' 136 a (nI j)) (fun v => some (v, Mm')) := by
        simp only [f_X10_readValue, gO_136, gd_tt, g21, if_true, if_neg m18, hwm, b1_s, if_neg nm, y4, e21, e25]
      rcases me.2.1 with ha | ⟨i, hi, ha⟩
      · refine ⟨M', 0, Mm', hcl, ?_, y5, y6.u8, Or.inl ⟨s', e', k', y7, y8, fun i hi q => ?_⟩⟩
        · rw [base, if_pos ha]
        · rw [ha] at q
          exact absurd q.symm (by rw [nI_m1 (by omega)]; exact id)
      · refine ⟨M', T i j, Mm', hcl, ?_, y5, y6.u8, Or.inl ⟨s', e', k', y7, y8, fun i' hi' q => ?_⟩⟩
        · rw [base, if_neg (by rw [ha, nI_m1 (by omega)]; exact id), ha, me.2.2 Mm' y6.u8.mw (y6.kc hm) i hi j hj, b1_s]
        · rw [ha] at q
          obtain rfl : i = i' := (nI_eq (by omega) (by omega)).mp q
          exact y10 j hj rfl i hi
/-- the same when something is wrong -/
theorem b_value (h : KC M) (ce : CE M N T) (hN : N ≤ 10) (t : TB M Mm) {row : Nat} (hr : row = 129 ∨ row = 130) : ∃ M', f_X1_readValue st_S M 127 row = some M' ∧ VF M M' row ∧ TB M' Mm := by
  have r1 : (1 : Nat) ≠ row := by rcases hr with rfl | rfl <;> decide
  have r2 : (2 : Nat) ≠ row := by rcases hr with rfl | rfl <;> decide
  have hraf : ∀ {m m' : fw_Mem}, (∀ b, b ≠ row → m' b = m b) → AF m m' := fun {m m'} x => ⟨fun b _ b2 b3 => x b (by omega), fun j _ => by rw [x 1 r1]⟩
  have hw : ∃ x, f_X1_wordNumber st_S M 127 = some x ∧ (x = -1 ∨ ∃ j, j < 10 ∧ x = nI j) := by
    obtain ⟨B, n, s, e, k, f, c, tk, -⟩ := id t
    exact ⟨_, c_wn h c tk, wn_or B s e k⟩
  obtain ⟨x, hw, hx⟩ := hw
  obtain ⟨m, a1, a2, a3, a4⟩ := c_fill h ce hN hr hx
  have tb : TB m Mm := t.fr (a2 1 r1) (a2 2 r2) rfl rfl
  have km := (hraf a2).kc h
  refine ⟨m, ?_, ⟨fun b _ b2 => a2 b b2, fun j _ => by rw [a2 1 r1]⟩, tb⟩
  by_cases c1 : M 1 3 = 3 <;> by_cases c2 : x = -1 <;> by_cases c3 : M 1 6 ≤ 9999 <;> simp only [f_X1_readValue, fj_X1_readValue_58, gO_127, gd_tt, hw, b1_s, kc_127_0 h, gN_1, tn_1, gO_1, c1, c2, c3, if_true, if_false, b_fail t] <;> (try rw [← c2]) <;> simp only [a1, b1_s, gO_127, gd_tt, kc_127_0 km, gN_1, tn_1, gO_1, b_adv tb]
theorem bm_value (t : TB M Mm) : f_X10_readValue st_S Mm 136 = some (0, Mm) := by
  simp only [f_X10_readValue, gO_136, gd_tt, if_neg t.m, b_number t, b2_s]
def cnd (x1 x2 l r : Int32) : Bool := if x1 = 0 then (if x2 = 0 then decide (l = r) else decide (¬ l ≤ r)) else (if l < r then true else (if x2 = 0 then false else decide (¬ l ≤ r)))
theorem c_cmp (h : KC M) (ce : CE M N T) (hN : N ≤ 10) (x1 x2 : Int32) : lf_X1_compare_76 st_S M 127 x1 x2 20000 0 0 = some (mk (fun i => cnd x1 x2 (M 129 i) (M 130 i)) N) := by
  obtain ⟨R, z1, z2⟩ := lp_up (fun f (x : Int32) i => lf_X1_compare_76 st_S M 127 x1 x2 f x (nI i)) N (fun i x => x = mk (fun i => cnd x1 x2 (M 129 i) (M 130 i)) i) (fun x => x = mk (fun i => cnd x1 x2 (M 129 i) (M 130 i)) N)
    (by
      rintro f i x hi rfl
      refine ⟨_, rfl, ?_⟩
      have hn : ¬ nI N ≤ nI i := nI_ge hi (by omega)
      have eb : (1 : Int32) <<< (nI i &&& 31) = bit i := rfl
      simp only [lf_X1_compare_76, gO_127, gd_tt, ce.1, if_neg hn, kc_127_2 h, gN_129, tn_129, gA_129 (show i < 10 by omega), kc_127_3 h, gN_130, tn_130, gA_130 (show i < 10 by omega), nI_cl (show i < 2147483648 by omega), bm_s, nI_1, eb, mk, cnd]
      by_cases c1 : x1 = 0 <;> by_cases c2 : x2 = 0 <;> by_cases c3 : M 129 i = M 130 i <;> by_cases c4 : M 129 i < M 130 i <;> by_cases c5 : M 129 i ≤ M 130 i <;> simp [c1, c2, c3, c4, c5])
    (by
      rintro f x rfl
      exact ⟨_, by simp only [lf_X1_compare_76, gO_127, gd_tt, ce.1, if_pos (nI_le (Nat.le_refl N) (show N < 2 ^ 31 by omega))], rfl⟩) _ 0 20000 0 rfl (by omega) (by omega) rfl
  rw [← z2]; exact z1
end VA
