/-! ===== who is bound: both sides iterate one pass over the links ===== -/
def stp (k : Nat → Int32) (day x : Int32) : Int32 := if hv x (k 0) then (if bnd k day then x ||| ((1 : Int32) <<< (k 1 &&& 31)) else x) else x
def pss (lk : Nat → Nat → Int32) (day : Int32) : Nat → Int32 → Int32
  | 0, x => x
  | n + 1, x => stp (lk n) day (pss lk day n x)
def itp (lk : Nat → Nat → Int32) (day : Int32) (L : Nat) : Nat → Int32 → Int32
  | 0, x => x
  | k + 1, x => pss lk day L (itp lk day L k x)
/-- the bits of x lie below 12 -/
def lo12 (x : Int32) : Prop := ∀ i, 12 ≤ i → bt x i = false
theorem pc_12 {x : Int32} (h : lo12 x) : pc x ≤ 12 := by
  have h1 : fb_ct (bt x) 32 = fb_ct (bt x) 12 + fb_ct (fun k => bt x (12 + k)) 20 := fb_ct_split (bt x) 12 20
  have h2 : fb_ct (fun k => bt x (12 + k)) 20 = 0 := fb_ct_zero.mpr fun k _ => h _ (by omega)
  have h3 := fb_ct_le (bt x) 12
  show fb_ct (bt x) 32 ≤ 12
  omega
theorem lo12_bit {p : Nat} (h : p < 12) : lo12 (bit p) := fun i hi => by rw [bt_bit (by omega)]; simp; omega
section BND
variable {lk : Nat → Nat → Int32} {day : Int32} {L : Nat}
theorem stp_sup (k : Nat → Int32) (x : Int32) (i : Nat) (h : bt x i = true) : bt (stp k day x) i = true := by
  unfold stp
  split
  · split
    · rw [b_or, h]; rfl
    · exact h
  · exact h
theorem pss_sup : ∀ n x i, bt x i = true → bt (pss lk day n x) i = true
  | 0, _, _, h => h
  | n + 1, x, i, h => stp_sup _ _ _ (pss_sup n x i h)
theorem stp_lo {k : Nat → Int32} {x : Int32} (hk : ∃ p, p < 12 ∧ k 1 = nI p) (h : lo12 x) : lo12 (stp k day x) := by
  obtain ⟨p, hp, e⟩ := hk
  unfold stp
  split
  · split
    · intro i hi
      have := lo12_bit hp i hi
      rw [b_or, h i hi, e]
      exact this
    · exact h
  · exact h
theorem pss_lo : ∀ n, (∀ l, l < n → ∃ p, p < 12 ∧ lk l 1 = nI p) → ∀ x, lo12 x → lo12 (pss lk day n x)
  | 0, _, _, h => h
  | n + 1, hk, x, h => stp_lo (hk n (by omega)) (pss_lo n (fun l hl => hk l (by omega)) x h)
theorem itp_lo (hk : ∀ l, l < L → ∃ p, p < 12 ∧ lk l 1 = nI p) : ∀ k x, lo12 x → lo12 (itp lk day L k x)
  | 0, _, h => h
  | k + 1, x, h => pss_lo L hk _ (itp_lo hk k x h)
theorem itp_grow : ∀ k x, 1 ≤ pc x → itp lk day L (k + 1) x = itp lk day L k x ∨ k + 2 ≤ pc (itp lk day L (k + 1) x) := by
  intro k
  induction k with
  | zero =>
    intro x hx
    by_cases e : itp lk day L 1 x = itp lk day L 0 x
    · exact Or.inl e
    · right
      have h1 := pc_sub (x := x) (y := pss lk day L x) fun i _ => pss_sup L x i
      have h2 : pc x ≠ pc (pss lk day L x) := fun q => e (pc_eq_sub (fun i _ => pss_sup L x i) q).symm
      show 2 ≤ pc (pss lk day L x)
      omega
  | succ k ih =>
    intro x hx
    by_cases e : itp lk day L (k + 1 + 1) x = itp lk day L (k + 1) x
    · exact Or.inl e
    · right
      have h1 := pc_sub (x := itp lk day L (k + 1) x) (y := pss lk day L (itp lk day L (k + 1) x)) fun i _ => pss_sup L _ i
      have h2 : pc (itp lk day L (k + 1) x) ≠ pc (pss lk day L (itp lk day L (k + 1) x)) := fun q => e (pc_eq_sub (fun i _ => pss_sup L _ i) q).symm
      rcases ih x hx with q | q
      · refine absurd ?_ e
        show pss lk day L (itp lk day L (k + 1) x) = itp lk day L (k + 1) x
        conv => lhs; rw [q]
        rfl
      · show k + 1 + 2 ≤ pc (pss lk day L (itp lk day L (k + 1) x))
        omega
theorem itp_fix {k : Nat} {x : Int32} (h : itp lk day L (k + 1) x = itp lk day L k x) : ∀ m, itp lk day L (k + m) x = itp lk day L k x
  | 0 => rfl
  | m + 1 => by
    show pss lk day L (itp lk day L (k + m) x) = _
    rw [itp_fix h m]
    exact h
theorem itp_12 (hk : ∀ l, l < L → ∃ p, p < 12 ∧ lk l 1 = nI p) {x : Int32} (hx : lo12 x) (h1 : 1 ≤ pc x) : itp lk day L 12 x = itp lk day L 11 x := by
  rcases itp_grow (lk := lk) (day := day) (L := L) 11 x h1 with h | h
  · exact h
  · have h12 : pc (itp lk day L (11 + 1) x) ≤ 12 := pc_12 (itp_lo (day := day) hk 12 x hx)
    omega
/-- stable from k on: the twelfth is the k-th -/
theorem itp_to12 (hk : ∀ l, l < L → ∃ p, p < 12 ∧ lk l 1 = nI p) {x : Int32} (hx : lo12 x) (h1 : 1 ≤ pc x) {k : Nat} (h : itp lk day L (k + 1) x = itp lk day L k x) : itp lk day L k x = itp lk day L 12 x := by
  by_cases hk12 : k ≤ 12
  · have := itp_fix h (12 - k)
    rw [show k + (12 - k) = 12 by omega] at this
    exact this.symm
  · have e := itp_12 (day := day) hk hx h1
    have := itp_fix (k := 11) e (k - 11)
    rw [show 11 + (k - 11) = k by omega] at this
    rw [this, e]
theorem pc_bit {p : Nat} (h : p < 32) : 1 ≤ pc (bit p) := fb_ct_pos.mpr ⟨p, h, by rw [bt_bit h]; simp⟩
theorem bit_ne {p : Nat} (h : p < 32) : bit p ≠ 0 := fun e => by
  have := pc_bit h
  rw [e, pc_0] at this
  omega
end BND
/-! the model -/
section BM
variable {M : fw_Mem} {L s : Nat}
theorem e_bb_in (h : KC M) (hL : M 137 1 = nI L) (hL2 : L ≤ 24) (hs : s ≤ 10) (x0 w : Int32) : lf_X10_boundBy_26 st_S M 136 (nI s) w 20000 x0 0 = some (pss (lq (M 137)) (sq (M 137) s 6) L x0) := by
  obtain ⟨r, h1, h2⟩ := lp_up (fun n x i => lf_X10_boundBy_26 st_S M 136 (nI s) w n x (nI i)) L (fun i x => x = pss (lq (M 137)) (sq (M 137) s 6) i x0) (fun r => r = pss (lq (M 137)) (sq (M 137) s 6) L x0)
    (by
      rintro n i x hi rfl
      refine ⟨_, rfl, ?_⟩
      have hn : ¬ nI L ≤ nI i := nI_ge hi (by omega)
      simp only [lf_X10_boundBy_26, gO_136, gd_tt, b1_s, b2_s, bm_s, kc_136_0 h, gN_137, tn_137, bI_0, bI_1, bI_gB, e_links h, hL, if_neg hn, e_lk0 h (show i < 24 by omega), e_lk1 h (show i < 24 by omega), e_has, e_of6 h hs, e_binds h (show i < 24 by omega), nI_1, pss, stp]
      cases hv (pss (lq (M 137)) (sq (M 137) s 6) i x0) (lq (M 137) i 0) <;> cases bnd (lq (M 137) i) (sq (M 137) s 6) <;> rfl)
    (by
      rintro n x rfl
      exact ⟨_, by simp only [lf_X10_boundBy_26, gO_136, gd_tt, b1_s, b2_s, bm_s, kc_136_0 h, gN_137, tn_137, bI_0, bI_1, bI_gB, e_links h, hL, if_pos (nI_le (Nat.le_refl L) (show L < 2 ^ 31 by omega))], rfl⟩) L 0 20000 x0 (by omega) (by omega) (by omega) rfl
  rw [← h2]
  exact h1
theorem e_boundBy (h : KC M) (hL : M 137 1 = nI L) (hL2 : L ≤ 24) (hk : ∀ l, l < L → ∃ p, p < 12 ∧ lq (M 137) l 1 = nI p) (hs : s ≤ 10) {side : Nat} (hsd : side < 2) {p : Nat} (hp : p < 12) (hq : sq (M 137) s side = nI p) : f_X10_boundBy st_S M 136 (nI s) (nI side) = some (itp (lq (M 137)) (sq (M 137) s 6) L 12 (bit p)) := by
  have hlo := lo12_bit hp
  have hpc := pc_bit (p := p) (by omega)
  have key : ∀ d j n, 12 - j = d → j ≤ 12 → d < n → lf_X10_boundBy_14 st_S M 136 (nI s) n (itp (lq (M 137)) (sq (M 137) s 6) L (j + 1) (bit p)) (itp (lq (M 137)) (sq (M 137) s 6) L j (bit p)) = some (itp (lq (M 137)) (sq (M 137) s 6) L 12 (bit p)) := by
    intro d
    induction d with
    | zero =>
      intro j n hd hj hn
      obtain ⟨m, rfl⟩ : ∃ m, n = m + 1 := ⟨n - 1, by omega⟩
      have ej : j = 12 := by omega
      subst ej
      have e12 := itp_12 (day := sq (M 137) s 6) hk hlo hpc
      have e := itp_fix (k := 11) e12 2
      rw [lf_X10_boundBy_14, if_pos (by rw [e12]; exact e.symm), show (12 + 1) = 11 + 2 from rfl, e, e12]
    | succ d ih =>
      intro j n hd hj hn
      obtain ⟨m, rfl⟩ : ∃ m, n = m + 1 := ⟨n - 1, by omega⟩
      rw [lf_X10_boundBy_14]
      split
      · rename_i e
        rw [itp_to12 (day := sq (M 137) s 6) hk hlo hpc (k := j) e.symm] at e
        rw [← e]
      · rw [e_bb_in h hL hL2 hs, b1_s]
        exact ih (j + 1) m (by omega) (by omega) (by omega)
  rw [f_X10_boundBy]
  simp only [gO_136, gd_tt, show (0 : Int32) + nI side = nI side from by rw [show (0 : Int32) = nI 0 from rfl, nI_add, Nat.zero_add], e_of h hs (show side < 12 by omega) rfl, b1_s, bm_s, hq]
  show b1 (lf_X10_boundBy_14 st_S M 136 (nI s) (19999 + 1) (bit p) 0) _ = _
  rw [lf_X10_boundBy_14, if_neg (fun e => bit_ne (p := p) (by omega) e.symm), e_bb_in h hL hL2 hs, b1_s]
  exact congrArg (fun o => b1 o (fun l17 => some l17)) (key 12 0 19999 rfl (by omega) (by omega))
end BM
/-! the class: links are reached through the row of pointers -/
def cl (M : fw_Mem) (a : Nat) : Nat → Int32 := fun j => if j = 0 then M a 0 else if j = 1 then M a 1 else if j = 2 then (if M a 3 = -1 then 0 else 1) else if j = 3 then M a 2 else if j = 4 then (if M a 3 = -1 then 9999 else M a 3) else 0
def cq (M : fw_Mem) (a : Nat) : Nat → Int32 := fun j => if j < 12 then M a (1 + j) else 0
/-- the pointers of a row of links: to its own links, each once -/
def cLP (M : fw_Mem) (n : Nat) : Prop := (∀ l, l < 24 → ∃ j, j < 24 ∧ M (n + 2) l = nI (n + 5 + j)) ∧ ∀ l l', l < 24 → l' < 24 → M (n + 2) l = M (n + 2) l' → l = l'
def cl3 (M : fw_Mem) (l : Nat) : Nat := (M 5 l).toNatClampNeg
theorem lp_gN {M : fw_Mem} (h : cLP M 3) {l : Nat} (hl : l < 24) : gN (M 5 l) = true := by
  obtain ⟨j, h1, h2⟩ := h.1 l hl
  rw [show M 5 l = nI (3 + 5 + j) from h2]
  exact nI_gN (by omega)
theorem lp_gO {M : fw_Mem} (h : cLP M 3) {l : Nat} (hl : l < 24) : gO st_S 3 (M 5 l).toNatClampNeg = true := by
  obtain ⟨j, h1, h2⟩ := h.1 l hl
  rw [show M 5 l = nI (3 + 5 + j) from h2, nI_cl (by omega)]
  exact gO_l3 j h1
theorem e_carries {M : fw_Mem} {a : Nat} (hg : gO st_S 3 a = true) (day : Int32) : f_X3_carries st_S M a day = some (bI (bnd (cl M a) day)) := by
  simp only [f_X3_carries, f_X3_isRuler, hg, gd_tt, b1_s, bnd, cl]
  by_cases h : M a 3 = -1
  · simp only [h, if_pos]
    by_cases h2 : M a 2 < day <;> simp [h2, bI, b1_s]
  · simp only [h, if_neg, not_false_eq_true]
    by_cases h2 : day < M a 2 <;> by_cases h3 : M a 3 < day <;> simp [h2, h3, bI, b1_s]
section BC
variable {M : fw_Mem} {L a p : Nat}
theorem e_ro_in (h : KC M) (hP : cLP M 3) (hL : M 3 5 = nI L) (hL2 : L ≤ 24) (ha : gO st_S 6 a = true) (x0 u v : Int32) : lf_X2_reachOf_29 st_S M 121 a u v 20000 x0 0 = some (pss (fun l => cl M (cl3 M l)) (M a 7) L x0) := by
  obtain ⟨r, h1, h2⟩ := lp_up (fun n x i => lf_X2_reachOf_29 st_S M 121 a u v n x (nI i)) L (fun i x => x = pss (fun l => cl M (cl3 M l)) (M a 7) i x0) (fun r => r = pss (fun l => cl M (cl3 M l)) (M a 7) L x0)
    (by
      rintro n i x hi rfl
      refine ⟨_, rfl, ?_⟩
      have hn : ¬ nI L ≤ nI i := nI_ge hi (by omega)
      have h24 : i < 24 := by omega
      have hc := e_carries (M := M) (lp_gO hP h24) (M a 7)
      simp only [lf_X2_reachOf_29, gO_121, gd_tt, kc_121_0 h, gN_3, tn_3, gO_3, hL, if_neg hn, kc_3_1 h, gN_5, tn_5, gA_5 h24, nI_cl (show i < 2147483648 by omega), lp_gN hP h24, lp_gO hP h24, ha, hc, b1_s, bI_0, bm_s, nI_1, pss, stp]
      have e0 : ((pss (fun l => cl M (cl3 M l)) (M a 7) i x0 >>> (M (M 5 i).toNatClampNeg 0 &&& 31) &&& 1) = 1) = (hv (pss (fun l => cl M (cl3 M l)) (M a 7) i x0) (cl M (cl3 M i) 0) = true) := by simp [hv, cl, cl3]
      simp only [e0, show cl M (M 5 i).toNatClampNeg = cl M (cl3 M i) from rfl, show M (M 5 i).toNatClampNeg 1 = cl M (cl3 M i) 1 from rfl]
      cases hv (pss (fun l => cl M (cl3 M l)) (M a 7) i x0) (cl M (cl3 M i) 0) <;> cases bnd (cl M (cl3 M i)) (M a 7) <;> rfl)
    (by
      rintro n x rfl
      exact ⟨_, by simp only [lf_X2_reachOf_29, gO_121, gd_tt, kc_121_0 h, gN_3, tn_3, gO_3, hL, if_pos (nI_le (Nat.le_refl L) (show L < 2 ^ 31 by omega))], rfl⟩) L 0 20000 x0 (by omega) (by omega) (by omega) rfl
  rw [← h2]
  exact h1
theorem e_reachOf (h : KC M) (hP : cLP M 3) (hL : M 3 5 = nI L) (hL2 : L ≤ 24) (hk : ∀ l, l < L → ∃ p, p < 12 ∧ cl M (cl3 M l) 1 = nI p) (ha : gO st_S 6 a = true) (hp : p < 12) : f_X2_reachOf st_S M 121 a (nI p) = some (if q_jd (cq M a) then itp (fun l => cl M (cl3 M l)) (M a 7) L 12 (bit p) else 0) := by
  have hlo := lo12_bit hp
  have hpc := pc_bit (p := p) (by omega)
  have key : ∀ d j n, 12 - j = d → j ≤ 12 → d < n → ∃ z, (z = .inl (itp (fun l => cl M (cl3 M l)) (M a 7) L 12 (bit p)) ∨ z = .inr (itp (fun l => cl M (cl3 M l)) (M a 7) L 12 (bit p))) ∧ lf_X2_reachOf_16 st_S M 121 a n (itp (fun l => cl M (cl3 M l)) (M a 7) L j (bit p)) (nI j) = some z := by
    intro d
    induction d with
    | zero =>
      intro j n hd hj hn
      obtain ⟨m, rfl⟩ : ∃ m, n = m + 1 := ⟨n - 1, by omega⟩
      have ej : j = 12 := by omega
      subst ej
      exact ⟨_, Or.inr rfl, by rw [lf_X2_reachOf_16, if_pos (by decide)]⟩
    | succ d ih =>
      intro j n hd hj hn
      obtain ⟨m, rfl⟩ : ∃ m, n = m + 1 := ⟨n - 1, by omega⟩
      rw [lf_X2_reachOf_16, if_neg (show ¬ (12 : Int32) ≤ nI j from nI_ge (b := 12) (by omega) (by omega)), e_ro_in h hP hL hL2 ha, b1_s]
      split
      · rename_i e
        refine ⟨_, Or.inl rfl, ?_⟩
        rw [← itp_to12 (day := M a 7) hk hlo hpc (k := j) e]
        rw [e]
      · rw [nI_1]
        exact ih (j + 1) m (by omega) (by omega) (by omega)
  rw [f_X2_reachOf]
  simp only [ha, gd_tt, f_X6_isJudged, bm_s]
  by_cases hj : M a 7 = -1
  · have : q_jd (cq M a) = false := by simp [q_jd, cq, hj]
    simp [hj, this, b1_s]
  · have : q_jd (cq M a) = true := by simp [q_jd, cq, hj]
    obtain ⟨z, hz, e⟩ := key 12 0 20000 rfl (by omega) (by omega)
    simp only [if_neg hj, b1_s, this, if_pos, if_neg (show ¬ (1 : Int32) = 0 by decide)]
    refine (congrArg (fun o => b1 o (fun l21 => bl l21 (fun t21 => some t21) (fun d21 => some d21))) e).trans ?_
    rcases hz with rfl | rfl <;> rfl
end BC
