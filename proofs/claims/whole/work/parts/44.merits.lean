/-! ===== the model: barred, held, forced, standing ===== -/
theorem bcas (x : Bool) : x = true ∨ x = false := by cases x <;> simp
def z_comes (num : Int32) (q : Nat → Int32) (a : Int32) (qa : Nat → Int32) : Bool := !decide (a = num) && (q_jd qa && (!q_rv qa && !decide (q 2 < qa 6)))
def z_few (q qa : Nat → Int32) : Int32 := if nI (pc (q 3)) < nI (pc (qa 3)) then nI (pc (q 3)) else nI (pc (qa 3))
def z_same (sh : Int32) (q qa : Nat → Int32) : Bool := !decide (z_few q qa ≤ 0) && !decide ((100 : Int32) * nI (pc (qa 3 &&& q 3)) < sh * z_few q qa)
def z_bd (mu : Int32) (q : Nat → Int32) (bl br : Int32) : Bool := (hv bl (q 0) && hv br (q 1)) || (decide (mu = 2) && (hv br (q 0) && hv bl (q 1)))
def z_bar (sh mu num : Int32) (q : Nat → Int32) (a : Int32) (qa : Nat → Int32) (bl br : Int32) : Bool := z_comes num q a qa && (q_om qa && (z_same sh q qa && z_bd mu q bl br))
/-- whether an issue that counts against 'ag' holds -/
def z_ag (mu : Int32) (ad : Bool) (ag ot bl br : Int32) : Bool := (hv bl ag || hv br ag) && (decide (mu = 2) || ((decide (mu = 1) && !ad) || ((hv bl ag && hv br ot) || (hv br ag && hv bl ot))))
def z_hold (e mu num : Int32) (q : Nat → Int32) (a : Int32) (qa : Nat → Int32) (bl br : Int32) (i : Int32) : Bool :=
  z_comes num q a qa && (hv (q_st e qa) i && (if hv (qa 9) i = hv (q 4) i then z_ag mu true (q 1) (q 0) bl br else z_ag mu false (q 0) (q 1) bl br))
def z_ho (h : Nat → Bool) (d : Nat → Int32) : Nat → Option Nat
  | 0 => none
  | n + 1 => if h n then (match z_ho h d n with
    | none => some n
    | some b => if d n < d b then some b else some n) else z_ho h d n
def oI : Option Nat → Int32
  | none => -1
  | some k => nI k
theorem z_ho_lt {h : Nat → Bool} {d : Nat → Int32} : ∀ {n k}, z_ho h d n = some k → k < n
  | 0, _, e => by cases e
  | n + 1, k, e => by
    rw [z_ho] at e
    split at e
    · split at e
      · cases e; omega
      · rename_i b hb
        have := z_ho_lt hb
        split at e <;> (cases e; omega)
    · have := z_ho_lt e; omega
theorem z_ho_cong {h h' : Nat → Bool} {d d' : Nat → Int32} : ∀ {n}, (∀ a, a < n → h a = h' a) → (∀ a, a < n → d a = d' a) → z_ho h d n = z_ho h' d' n
  | 0, _, _ => rfl
  | n + 1, e1, e2 => by
    have ih := z_ho_cong (n := n) (fun a ha => e1 a (by omega)) (fun a ha => e2 a (by omega))
    rw [z_ho, z_ho, ih, e1 n (by omega)]
    split
    · split
      · rfl
      · rename_i b hb
        rw [e2 n (by omega), e2 b (by have := z_ho_lt hb; omega)]
    · rfl
theorem oI_m1 {o : Option Nat} (h : ∀ k, o = some k → k < 100) : (oI o = -1) = (o = none) := by
  cases o with
  | none => simp [oI]
  | some k => simp [oI, nI_m1 (show k < 2147483648 by have := h k rfl; omega)]
def z_first (p : Nat → Bool) : Nat → Option Nat
  | 0 => none
  | n + 1 => match z_first p n with
    | some k => some k
    | none => if p n then some n else none
theorem z_first_none {p : Nat → Bool} : ∀ {n}, z_first p n = none ↔ ∀ i, i < n → p i = false
  | 0 => by simp [z_first]
  | n + 1 => by
    have ih := z_first_none (p := p) (n := n)
    rw [z_first]
    cases hz : z_first p n with
    | some k =>
      constructor
      · intro e; cases e
      · intro e
        have := ih.mpr fun i hi => e i (by omega)
        rw [hz] at this
        cases this
    | none =>
      have h0 := ih.mp hz
      cases hp : p n
      · simp
        intro i hi
        by_cases e : i = n
        · rw [e]; exact hp
        · exact h0 i (by omega)
      · simp
        exact ⟨n, by omega, hp⟩
theorem z_first_some {p : Nat → Bool} : ∀ {n k}, z_first p n = some k ↔ k < n ∧ p k = true ∧ ∀ i, i < k → p i = false
  | 0, k => by simp [z_first]
  | n + 1, k => by
    have ih := z_first_some (p := p) (n := n) (k := k)
    rw [z_first]
    cases hz : z_first p n with
    | some j =>
      rw [hz] at ih
      simp only [Option.some.injEq] at ih ⊢
      constructor
      · rintro rfl
        obtain ⟨h1, h2⟩ := ih.mp rfl
        exact ⟨by omega, h2⟩
      · rintro ⟨h1, h2, h3⟩
        have hj := z_first_some.mp hz
        by_cases e : k < n
        · exact ih.mpr ⟨e, h2, h3⟩
        · have := h3 j (by omega)
          rw [hj.2.1] at this
          cases this
    | none =>
      have h0 := z_first_none.mp hz
      cases hp : p n
      · simp
        intro h1 h2
        by_cases e : k = n
        · subst e; rw [hp] at h2; cases h2
        · have := h0 k (by omega)
          rw [h2] at this; cases this
      · simp
        constructor
        · rintro rfl; exact ⟨by omega, hp, h0⟩
        · rintro ⟨h1, h2, h3⟩
          by_cases e : k = n
          · exact e.symm
          · have := h0 k (by omega)
            rw [h2] at this; cases this
def z_low (x : Int32) : Int32 := oI (z_first (hs x) 31)
def exB (p : Nat → Bool) : Nat → Bool
  | 0 => false
  | n + 1 => exB p n || p n
theorem exB_iff {p : Nat → Bool} : ∀ {n}, exB p n = true ↔ ∃ i, i < n ∧ p i = true
  | 0 => by simp [exB]
  | n + 1 => by
    rw [exB, Bool.or_eq_true, exB_iff]
    constructor
    · rintro (⟨i, h1, h2⟩ | h)
      · exact ⟨i, by omega, h2⟩
      · exact ⟨n, by omega, h⟩
    · rintro ⟨i, h1, h2⟩
      by_cases e : i = n
      · subst e; exact Or.inr h2
      · exact Or.inl ⟨i, by omega, h2⟩
def z_heldP (q : Nat → Int32) (ho : Nat → Option Nat) (i : Nat) : Bool := hs (q_is q) i && (ho i).isSome
def z_yesP (q : Nat → Int32) (ho : Nat → Option Nat) (y : Nat → Int32) (i : Nat) : Bool := hs (q_is q) i && (match ho i with
  | none => false
  | some a => hs (y a) i)
def z_held (q : Nat → Int32) (ho : Nat → Option Nat) : Int32 := mk (z_heldP q ho) 31
def z_yes (q : Nat → Int32) (ho : Nat → Option Nat) (y : Nat → Int32) : Int32 := mk (z_yesP q ho y) 31
def z_fc (q : Nat → Int32) (bars held yes : Int32) : Int32 := if bars = 0 then (if (q 4 &&& (held &&& (yes ^^^ (-1)))) = 0 then (if (q 5 &&& yes) = 0 then (if held = q_is q then 0 else -1) else 1) else 1) else 2
def z_stP (q : Nat → Int32) (ho : Nat → Option Nat) (y : Nat → Int32) (a : Nat) (i : Nat) : Bool := hs (q 9 ||| q 10) i && (decide (ho i = some a) && decide (hs (y a) i = hs (q 9) i))
section ME
variable {M : fw_Mem} {N a b : Nat}
theorem e_isBoundBy (h : KC M) (ha : a ≤ 10) {sd : Nat} (hsd : sd < 2) (x v : Int32) (hx : x = nI sd) : f_X10_isBoundBy st_S M 136 (nI a) x v = some (bI (hv (M 141 (2 * a + sd)) v)) := by
  subst hx
  simp only [f_X10_isBoundBy, gO_136, gd_tt, b1_s, b2_s, bm_s, kc_136_0 h, gN_137, tn_137, bI_0, bI_1, bI_gB, kc_136_7 h, gN_141, tn_141, l_2, nI_mul, nI_add, gA_141 (show 2 * a + sd < 22 by omega), nI_cl (show 2 * a + sd < 2147483648 by omega), e_has]
theorem e_ib0 (h : KC M) (ha : a ≤ 10) (v : Int32) : f_X10_isBoundBy st_S M 136 (nI a) 0 v = some (bI (hv (M 141 (2 * a)) v)) := e_isBoundBy h ha (sd := 0) (by omega) 0 v rfl
theorem e_ib1 (h : KC M) (ha : a ≤ 10) (v : Int32) : f_X10_isBoundBy st_S M 136 (nI a) 1 v = some (bI (hv (M 141 (2 * a + 1)) v)) := e_isBoundBy h ha (sd := 1) (by omega) 1 v rfl
theorem e_ibAll (h : KC M) (ha : a ≤ 10) (v : Int32) : f_X10_isBoundAtAll st_S M 136 (nI a) v = some (bI (hv (M 141 (2 * a)) v || hv (M 141 (2 * a + 1)) v)) := by
  simp only [f_X10_isBoundAtAll, gO_136, gd_tt, b1_s, b2_s, bm_s, kc_136_0 h, gN_137, tn_137, bI_0, bI_1, bI_gB, e_ib0 h ha, e_ib1 h ha]
  cases hv (M 141 (2 * a)) v <;> cases hv (M 141 (2 * a + 1)) v <;> rfl
theorem e_comes (h : KC M) (hb : b ≤ 10) (ha : a ≤ 10) : f_X10_comesBehind st_S M 136 (nI b) (nI a) = some (bI (z_comes (nI b) (sq (M 137) b) (nI a) (sq (M 137) a))) := by
  simp only [f_X10_comesBehind, gO_136, gd_tt, b1_s, b2_s, bm_s, kc_136_0 h, gN_137, tn_137, bI_0, bI_1, bI_gB, e_isJudged h ha, e_isReversed h ha, e_of2 h hb, e_of6 h ha, z_comes]
  by_cases e : nI a = nI b
  · simp [e, bI]
  · simp only [if_neg e, decide_eq_false e]
    cases q_jd (sq (M 137) a) <;> cases q_rv (sq (M 137) a) <;> by_cases e2 : sq (M 137) b 2 < sq (M 137) a 6 <;> simp [bI, e2]
theorem e_areSame (h : KC M) (hb : b ≤ 10) (ha : a ≤ 10) : f_X10_areSame st_S M 136 (nI b) (nI a) = some (bI (z_same (M 137 3) (sq (M 137) b) (sq (M 137) a))) := by
  simp only [f_X10_areSame, gO_136, gd_tt, b1_s, b2_s, bm_s, kc_136_0 h, gN_137, tn_137, bI_0, bI_1, bI_gB, e_of3 h ha, e_of3 h hb, e_bits, gA_137_3, z_same]
  rw [show (if nI (pc (sq (M 137) b 3)) < nI (pc (sq (M 137) a 3)) then nI (pc (sq (M 137) b 3)) else nI (pc (sq (M 137) a 3))) = z_few (sq (M 137) b) (sq (M 137) a) from rfl]
  by_cases e : z_few (sq (M 137) b) (sq (M 137) a) ≤ 0
  · simp [e, bI]
  · by_cases e2 : (100 : Int32) * nI (pc (sq (M 137) a 3 &&& sq (M 137) b 3)) < M 137 3 * z_few (sq (M 137) b) (sq (M 137) a) <;> simp [e, e2, bI]
theorem e_isBarredBy (h : KC M) (hb : b ≤ 10) (ha : a ≤ 10) : f_X10_isBarredBy st_S M 136 (nI b) (nI a) = some (bI (z_bar (M 137 3) (M 137 4) (nI b) (sq (M 137) b) (nI a) (sq (M 137) a) (M 141 (2 * a)) (M 141 (2 * a + 1)))) := by
  simp only [f_X10_isBarredBy, gO_136, gd_tt, b1_s, b2_s, bm_s, kc_136_0 h, gN_137, tn_137, bI_0, bI_1, bI_gB, e_comes h hb ha, e_isOnMerits h ha, e_areSame h hb ha, e_of0 h hb, e_of1 h hb, e_ib0 h ha, e_ib1 h ha, gA_137_4, z_bar, z_bd]
  cases z_comes (nI b) (sq (M 137) b) (nI a) (sq (M 137) a) <;> cases q_om (sq (M 137) a) <;> cases z_same (M 137 3) (sq (M 137) b) (sq (M 137) a) <;> cases hv (M 141 (2 * a)) (sq (M 137) b 0) <;> cases hv (M 141 (2 * a + 1)) (sq (M 137) b 1) <;> by_cases e : M 137 4 = 2 <;> cases hv (M 141 (2 * a + 1)) (sq (M 137) b 0) <;> cases hv (M 141 (2 * a)) (sq (M 137) b 1) <;> simp [e, bI]
/-- the suits that bar one, of n -/
def z_bars (sh mu num : Int32) (q : Nat → Int32) (s : Nat → Nat → Int32) (B : Nat → Int32) (n : Nat) : Int32 := mk (fun a => z_bar sh mu num q (nI a) (s a) (B (2 * a)) (B (2 * a + 1))) n
theorem e_barsOf (h : KC M) (hN : M 137 2 = nI N) (hN2 : N ≤ 11) (hb : b ≤ 10) : f_X10_barsOf st_S M 136 (nI b) = some (z_bars (M 137 3) (M 137 4) (nI b) (sq (M 137) b) (sq (M 137)) (M 141) (min 10 N)) := by
  obtain ⟨r, h1, h2⟩ := lp_up (fun n x i => lf_X10_barsOf_4 st_S M 136 (nI b) n x (nI i)) (min 10 N) (fun i x => x = z_bars (M 137 3) (M 137 4) (nI b) (sq (M 137) b) (sq (M 137)) (M 141) i) (fun r => r = z_bars (M 137 3) (M 137 4) (nI b) (sq (M 137) b) (sq (M 137)) (M 141) (min 10 N))
    (by
      rintro n i x hi rfl
      refine ⟨_, rfl, ?_⟩
      have hn : ¬ nI N ≤ nI i := nI_ge (by omega) (by omega)
      have hn2 : ¬ (10 : Int32) ≤ nI i := nI_ge (b := 10) (by omega) (by omega)
      simp only [lf_X10_barsOf_4, gO_136, gd_tt, b1_s, b2_s, bm_s, kc_136_0 h, gN_137, tn_137, bI_0, bI_1, bI_gB, e_suits h, hN, if_neg hn, if_neg hn2, e_isBarredBy h hb (show i ≤ 10 by omega), nI_1, z_bars, mk, bit]
      rcases bcas (z_bar (M 137 3) (M 137 4) (nI b) (sq (M 137) b) (nI i) (sq (M 137) i) (M 141 (2 * i)) (M 141 (2 * i + 1))) with hz | hz <;> simp [hz])
    (by
      rintro n x rfl
      refine ⟨_, ?_, rfl⟩
      by_cases e : 10 ≤ N
      · have q1 : min 10 N = 10 := by omega
        have q : (10 : Int32) ≤ nI (min 10 N) := by rw [q1]; decide
        simp only [lf_X10_barsOf_4, if_pos q]
      · have q1 : min 10 N = N := by omega
        have hn2 : ¬ (10 : Int32) ≤ nI (min 10 N) := by rw [q1]; exact nI_ge (b := 10) (by omega) (by omega)
        simp only [lf_X10_barsOf_4, gO_136, gd_tt, b1_s, b2_s, bm_s, kc_136_0 h, gN_137, tn_137, bI_0, bI_1, bI_gB, if_neg hn2, e_suits h, hN, show nI N ≤ nI (min 10 N) by rw [q1]; exact nI_le (Nat.le_refl N) (by omega), if_pos]) _ 0 20000 0 rfl (by omega) (by omega) rfl
  rw [f_X10_barsOf, show (0 : Int32) = nI 0 from rfl]
  have h1' : lf_X10_barsOf_4 st_S M 136 (nI b) 20000 (nI 0) (nI 0) = some r := h1
  rw [h1', b1_s, h2]
theorem e_holds (h : KC M) (hb : b ≤ 10) (ha : a ≤ 10) (x : Int32) : f_X10_holds st_S M 136 (nI b) x (nI a) = some (bI (z_hold (M 137 5) (M 137 4) (nI b) (sq (M 137) b) (nI a) (sq (M 137) a) (M 141 (2 * a)) (M 141 (2 * a + 1)) x)) := by
  simp only [f_X10_holds, fj_X10_holds_47, fj_X10_holds_61, fj_X10_holds_78, gO_136, gd_tt, b1_s, b2_s, bm_s, kc_136_0 h, gN_137, tn_137, bI_0, bI_1, bI_gB, e_comes h hb ha, e_settledOf h ha, e_has, e_foundYes h ha, e_of4 h hb, e_of0 h hb, e_of1 h hb, e_ibAll h ha, e_ib0 h ha, e_ib1 h ha, gA_137_4, z_hold, bI_inj]
  cases z_comes (nI b) (sq (M 137) b) (nI a) (sq (M 137) a)
  · simp [bI]
  cases hv (q_st (M 137 5) (sq (M 137) a)) x
  · simp [bI]
  by_cases e1 : hv (sq (M 137) a 9) x = hv (sq (M 137) b 4) x
  · simp only [e1, if_pos, z_ag]
    cases hv (M 141 (2 * a)) (sq (M 137) b 1) <;> cases hv (M 141 (2 * a + 1)) (sq (M 137) b 1) <;> by_cases e : M 137 4 = 2 <;> by_cases e' : M 137 4 = 1 <;> cases hv (M 141 (2 * a + 1)) (sq (M 137) b 0) <;> cases hv (M 141 (2 * a)) (sq (M 137) b 0) <;> simp [e, e', bI]
  · simp only [e1, if_neg, not_false_eq_true, z_ag]
    cases hv (M 141 (2 * a)) (sq (M 137) b 1) <;> cases hv (M 141 (2 * a + 1)) (sq (M 137) b 1) <;> by_cases e : M 137 4 = 2 <;> by_cases e' : M 137 4 = 1 <;> cases hv (M 141 (2 * a + 1)) (sq (M 137) b 0) <;> cases hv (M 141 (2 * a)) (sq (M 137) b 0) <;> simp [e, e', bI]
/-- who holds issue i of a suit, of n -/
def z_hof (e mu num : Int32) (q : Nat → Int32) (s : Nat → Nat → Int32) (B : Nat → Int32) (n i : Nat) : Option Nat := z_ho (fun a => z_hold e mu num q (nI a) (s a) (B (2 * a)) (B (2 * a + 1)) (nI i)) (fun a => s a 6) n
theorem e_holderOf (h : KC M) (hN : M 137 2 = nI N) (hN2 : N ≤ 11) (hb : b ≤ 10) (i : Nat) : f_X10_holderOf st_S M 136 (nI b) (nI i) = some (oI (z_hof (M 137 5) (M 137 4) (nI b) (sq (M 137) b) (sq (M 137)) (M 141) N i)) := by
  obtain ⟨r, h1, h2⟩ := lp_up (fun n x k => lf_X10_holderOf_5 st_S M 136 (nI b) (nI i) n x (nI k)) N (fun k x => x = oI (z_hof (M 137 5) (M 137 4) (nI b) (sq (M 137) b) (sq (M 137)) (M 141) k i)) (fun r => r = oI (z_hof (M 137 5) (M 137 4) (nI b) (sq (M 137) b) (sq (M 137)) (M 141) N i))
    (by
      rintro n k x hk rfl
      refine ⟨_, rfl, ?_⟩
      have hn : ¬ nI N ≤ nI k := nI_ge hk (by omega)
      simp only [lf_X10_holderOf_5, gO_136, gd_tt, b1_s, b2_s, bm_s, kc_136_0 h, gN_137, tn_137, bI_0, bI_1, bI_gB, e_suits h, hN, if_neg hn, e_holds h hb (show k ≤ 10 by omega), nI_1, z_hof, z_ho]
      cases hz : z_hold (M 137 5) (M 137 4) (nI b) (sq (M 137) b) (nI k) (sq (M 137) k) (M 141 (2 * k)) (M 141 (2 * k + 1)) (nI i)
      · simp
      · simp only [if_neg (show ¬ (true = false) by decide), if_pos]
        cases ho : z_ho (fun a => z_hold (M 137 5) (M 137 4) (nI b) (sq (M 137) b) (nI a) (sq (M 137) a) (M 141 (2 * a)) (M 141 (2 * a + 1)) (nI i)) (fun a => sq (M 137) a 6) k with
        | none => simp [oI]
        | some c =>
          have hc := z_ho_lt ho
          simp only [oI, nI_m1 (show c < 2147483648 by omega), if_neg (show ¬ False from id), e_of6 h (show k ≤ 10 by omega), e_of6 h (show c ≤ 10 by omega), b1_s]
          split <;> rfl)
    (by
      rintro n x rfl
      exact ⟨_, by simp only [lf_X10_holderOf_5, gO_136, gd_tt, b1_s, b2_s, bm_s, kc_136_0 h, gN_137, tn_137, bI_0, bI_1, bI_gB, e_suits h, hN, if_pos (nI_le (Nat.le_refl N) (show N < 2 ^ 31 by omega))], rfl⟩) _ 0 20000 (-1) rfl (by omega) (by omega) rfl
  rw [f_X10_holderOf, show (0 : Int32) = nI 0 from rfl]
  have h1' : lf_X10_holderOf_5 st_S M 136 (nI b) (nI i) 20000 (-1) (nI 0) = some r := h1
  rw [h1', b1_s, h2]
theorem z_hof_lt {e mu num : Int32} {q : Nat → Int32} {s : Nat → Nat → Int32} {B : Nat → Int32} {n i k : Nat} (h : z_hof e mu num q s B n i = some k) : k < n := z_ho_lt h
theorem e_heldOf (h : KC M) (hN : M 137 2 = nI N) (hN2 : N ≤ 11) (hb : b ≤ 10) : f_X10_heldOf st_S M 136 (nI b) = some (z_held (sq (M 137) b) (z_hof (M 137 5) (M 137 4) (nI b) (sq (M 137) b) (sq (M 137)) (M 141) N)) := by
  obtain ⟨r, h1, h2⟩ := lp_up (fun n x i => lf_X10_heldOf_4 st_S M 136 (nI b) n x (nI i)) 31 (fun i x => x = mk (z_heldP (sq (M 137) b) (z_hof (M 137 5) (M 137 4) (nI b) (sq (M 137) b) (sq (M 137)) (M 141) N)) i) (fun r => r = z_held (sq (M 137) b) (z_hof (M 137 5) (M 137 4) (nI b) (sq (M 137) b) (sq (M 137)) (M 141) N))
    (by
      rintro n i x hi rfl
      refine ⟨_, rfl, ?_⟩
      have hn : ¬ (31 : Int32) ≤ nI i := nI_ge (b := 31) hi (by omega)
      simp only [lf_X10_heldOf_4, gO_136, gd_tt, b1_s, b2_s, bm_s, kc_136_0 h, gN_137, tn_137, bI_0, bI_1, bI_gB, if_neg hn, e_issuesOf h hb, e_has, e_holderOf h hN hN2 hb, nI_1, mk, z_heldP, hv_n, bit]
      have hk := oI_m1 (o := z_hof (M 137 5) (M 137 4) (nI b) (sq (M 137) b) (sq (M 137)) (M 141) N i) (fun k hk => by have := z_hof_lt hk; omega)
      rcases bcas (hs (q_is (sq (M 137) b)) i) with hz | hz
      · simp only [hk, hz]
        cases z_hof (M 137 5) (M 137 4) (nI b) (sq (M 137) b) (sq (M 137)) (M 141) N i <;> simp
      · simp [hz])
    (by
      rintro n x rfl
      exact ⟨_, by simp only [lf_X10_heldOf_4, if_pos (show (31 : Int32) ≤ nI 31 by decide)]; rfl, rfl⟩) _ 0 20000 0 rfl (by omega) (by omega) rfl
  rw [f_X10_heldOf, show (0 : Int32) = nI 0 from rfl]
  have h1' : lf_X10_heldOf_4 st_S M 136 (nI b) 20000 (nI 0) (nI 0) = some r := h1
  rw [h1', b1_s, h2]
theorem e_heldYesOf (h : KC M) (hN : M 137 2 = nI N) (hN2 : N ≤ 11) (hb : b ≤ 10) : f_X10_heldYesOf st_S M 136 (nI b) = some (z_yes (sq (M 137) b) (z_hof (M 137 5) (M 137 4) (nI b) (sq (M 137) b) (sq (M 137)) (M 141) N) (fun a => sq (M 137) a 9)) := by
  obtain ⟨r, h1, h2⟩ := lp_up (fun n x i => lf_X10_heldYesOf_4 st_S M 136 (nI b) n x (nI i)) 31 (fun i x => x = mk (z_yesP (sq (M 137) b) (z_hof (M 137 5) (M 137 4) (nI b) (sq (M 137) b) (sq (M 137)) (M 141) N) (fun a => sq (M 137) a 9)) i) (fun r => r = z_yes (sq (M 137) b) (z_hof (M 137 5) (M 137 4) (nI b) (sq (M 137) b) (sq (M 137)) (M 141) N) (fun a => sq (M 137) a 9))
    (by
      rintro n i x hi rfl
      refine ⟨_, rfl, ?_⟩
      have hn : ¬ (31 : Int32) ≤ nI i := nI_ge (b := 31) hi (by omega)
      simp only [lf_X10_heldYesOf_4, gO_136, gd_tt, b1_s, b2_s, bm_s, kc_136_0 h, gN_137, tn_137, bI_0, bI_1, bI_gB, if_neg hn, e_issuesOf h hb, e_has, e_holderOf h hN hN2 hb, nI_1, mk, z_yesP, hv_n, bit]
      have hk := oI_m1 (o := z_hof (M 137 5) (M 137 4) (nI b) (sq (M 137) b) (sq (M 137)) (M 141) N i) (fun k hk => by have := z_hof_lt hk; omega)
      rcases bcas (hs (q_is (sq (M 137) b)) i) with hz | hz
      rotate_left
      · simp [hz]
      · simp only [hk, hz]
        cases ho : z_hof (M 137 5) (M 137 4) (nI b) (sq (M 137) b) (sq (M 137)) (M 141) N i with
        | none => simp
        | some c =>
          have hc := z_hof_lt ho
          simp only [oI, e_foundYes h (show c ≤ 10 by omega), b1_s, bI_0, hv_n]
          rcases bcas (hs (sq (M 137) c 9) i) with hy | hy <;> simp [hy])
    (by
      rintro n x rfl
      exact ⟨_, by simp only [lf_X10_heldYesOf_4, if_pos (show (31 : Int32) ≤ nI 31 by decide)]; rfl, rfl⟩) _ 0 20000 0 rfl (by omega) (by omega) rfl
  rw [f_X10_heldYesOf, show (0 : Int32) = nI 0 from rfl]
  have h1' : lf_X10_heldYesOf_4 st_S M 136 (nI b) 20000 (nI 0) (nI 0) = some r := h1
  rw [h1', b1_s, h2]
theorem e_forcedOf (h : KC M) (hN : M 137 2 = nI N) (hN2 : N ≤ 11) (hb : b ≤ 10) : f_X10_forcedOf st_S M 136 (nI b) = some (z_fc (sq (M 137) b) (z_bars (M 137 3) (M 137 4) (nI b) (sq (M 137) b) (sq (M 137)) (M 141) (min 10 N)) (z_held (sq (M 137) b) (z_hof (M 137 5) (M 137 4) (nI b) (sq (M 137) b) (sq (M 137)) (M 141) N)) (z_yes (sq (M 137) b) (z_hof (M 137 5) (M 137 4) (nI b) (sq (M 137) b) (sq (M 137)) (M 141) N) (fun a => sq (M 137) a 9))) := by
  simp only [f_X10_forcedOf, gO_136, gd_tt, b1_s, b2_s, bm_s, kc_136_0 h, gN_137, tn_137, bI_0, bI_1, bI_gB, e_barsOf h hN hN2 hb, e_heldOf h hN hN2 hb, e_heldYesOf h hN hN2 hb, e_of4 h hb, e_of5 h hb, e_issuesOf h hb, z_fc]
  split
  · split
    · split
      · split <;> rfl
      · rfl
    · rfl
  · rfl
theorem e_standsOn (h : KC M) (hN : M 137 2 = nI N) (hN2 : N ≤ 11) (hb : b ≤ 10) (ha : a ≤ 10) : f_X10_standsOn st_S M 136 (nI b) (nI a) = some (bI (!decide (a = b) && (q_jd (sq (M 137) b) && (!q_rv (sq (M 137) b) && exB (z_stP (sq (M 137) b) (z_hof (M 137 5) (M 137 4) (nI b) (sq (M 137) b) (sq (M 137)) (M 141) N) (fun a => sq (M 137) a 9) a) 31)))) := by
  have hab : (nI a = nI b) = (a = b) := propext (nI_eq (by omega) (by omega))
  have hlp : ∃ r, lf_X10_standsOn_42 st_S M 136 (nI b) (nI a) (sq (M 137) b 9 ||| sq (M 137) b 10) 20000 (nI 0) = some r ∧ bl r (fun t18 => (some t18 : Option Int32)) (fun d18 => some 0) = some (bI (exB (z_stP (sq (M 137) b) (z_hof (M 137 5) (M 137 4) (nI b) (sq (M 137) b) (sq (M 137)) (M 141) N) (fun a => sq (M 137) a 9) a) 31)) := by
    refine lp_out (fun n (_ : Unit) i => lf_X10_standsOn_42 st_S M 136 (nI b) (nI a) (sq (M 137) b 9 ||| sq (M 137) b 10) n (nI i)) 31 (fun i _ => exB (z_stP (sq (M 137) b) (z_hof (M 137 5) (M 137 4) (nI b) (sq (M 137) b) (sq (M 137)) (M 141) N) (fun a => sq (M 137) a 9) a) i = false) _ ?_ ?_ 31 0 20000 () rfl (by omega) (by omega) rfl
    · intro n i _ hi hI
      have hn : ¬ (31 : Int32) ≤ nI i := nI_ge (b := 31) hi (by omega)
      have ho1 : (oI (z_hof (M 137 5) (M 137 4) (nI b) (sq (M 137) b) (sq (M 137)) (M 141) N i) = nI a) = (z_hof (M 137 5) (M 137 4) (nI b) (sq (M 137) b) (sq (M 137)) (M 141) N i = some a) := by
        cases ho : z_hof (M 137 5) (M 137 4) (nI b) (sq (M 137) b) (sq (M 137)) (M 141) N i with
        | none => simp [oI]; intro e; have := nI_m1 (n := a) (by omega); rw [← e] at this; simp at this
        | some c =>
          have hc := z_hof_lt ho
          simp [oI, nI_eq (show c < 2 ^ 31 by omega) (show a < 2 ^ 31 by omega)]
      simp only [lf_X10_standsOn_42, gO_136, gd_tt, b1_s, b2_s, bm_s, kc_136_0 h, gN_137, tn_137, bI_0, bI_1, bI_gB, if_neg hn, e_has, e_holderOf h hN hN2 hb, e_foundYes h ha, e_foundYes h hb, nI_1, hv_n, ho1, bI_inj]
      by_cases hp : z_stP (sq (M 137) b) (z_hof (M 137 5) (M 137 4) (nI b) (sq (M 137) b) (sq (M 137)) (M 141) N) (fun a => sq (M 137) a 9) a i = true
      · right
        have hp' := hp
        simp only [z_stP, Bool.and_eq_true, decide_eq_true_eq] at hp'
        obtain ⟨p1, p2, p3⟩ := hp'
        refine ⟨.inl 1, by simp [p1, p2, p3], ?_⟩
        rw [exB_iff.mpr ⟨i, hi, hp⟩]
        rfl
      · left
        refine ⟨(), by rw [exB, hI]; simpa using hp, ?_⟩
        simp only [z_stP, Bool.and_eq_true, decide_eq_true_eq] at hp
        cases p1 : hs (sq (M 137) b 9 ||| sq (M 137) b 10) i
        · simp
        · simp only [p1, true_and] at hp
          by_cases p2 : z_hof (M 137 5) (M 137 4) (nI b) (sq (M 137) b) (sq (M 137)) (M 141) N i = some a
          · have p3 : ¬ hs (sq (M 137) a 9) i = hs (sq (M 137) b 9) i := fun e => hp ⟨p2, e⟩
            simp [p2, p3]
          · simp [p2]
    · intro n _ hI
      refine ⟨.inr (), by simp only [lf_X10_standsOn_42, if_pos (show (31 : Int32) ≤ nI 31 by decide)], ?_⟩
      rw [hI]
      rfl
  obtain ⟨r, hr1, hr2⟩ := hlp
  rw [show nI 0 = (0 : Int32) from rfl] at hr1
  simp only [f_X10_standsOn, gO_136, gd_tt, b1_s, b2_s, bm_s, kc_136_0 h, gN_137, tn_137, bI_0, bI_1, bI_gB, e_isJudged h hb, e_isReversed h hb, e_of9 h hb, e_of10 h hb, hr1, hr2, hab]
  by_cases e : a = b
  · simp [e, bI]
  · cases q_jd (sq (M 137) b) <;> cases q_rv (sq (M 137) b) <;> simp [e, bI]
theorem e_low_lp (S : List fw_Sh) (M : fw_Mem) (x : Int32) : ∃ r, lf_X10_clashOf_83 S M x 20000 (nI 0) = some r ∧ bl r (fun t => (some t : Option Int32)) (fun _ => some (-1)) = some (z_low x) := by
  refine lp_out (fun n (_ : Unit) i => lf_X10_clashOf_83 S M x n (nI i)) 31 (fun i _ => z_first (hs x) i = none) _ ?_ ?_ 31 0 20000 () rfl (by omega) (by omega) rfl
  · intro n i _ hi hI
    have hn : ¬ (31 : Int32) ≤ nI i := nI_ge (b := 31) hi (by omega)
    simp only [lf_X10_clashOf_83, if_neg hn, e_has, b1_s, bI_0, nI_1, hv_n]
    cases hp : hs x i
    · left
      exact ⟨(), by rw [z_first, hI]; simp [hp], by simp⟩
    · right
      refine ⟨.inl (nI i), by simp, ?_⟩
      have : z_first (hs x) 31 = some i := z_first_some.mpr ⟨hi, hp, z_first_none.mp hI⟩
      rw [z_low, this]
      rfl
  · intro n _ hI
    exact ⟨.inr (), by simp only [lf_X10_clashOf_83, if_pos (show (31 : Int32) ≤ nI 31 by decide)], by rw [z_low, hI]; rfl⟩
def z_clash (e : Int32) (qa qb : Nat → Int32) (ba bb : Int32) : Int32 := if (ba &&& bb) = 0 then -1 else z_low ((q_st e qa &&& q_st e qb) &&& (qa 9 ^^^ qb 9))
theorem e_clashOf (h : KC M) (ha : a ≤ 10) (hb : b ≤ 10) : f_X10_clashOf st_S M 136 (nI a) (nI b) = some (if a = b then -1 else z_clash (M 137 5) (sq (M 137) a) (sq (M 137) b) (M 141 (2 * a) ||| M 141 (2 * a + 1)) (M 141 (2 * b) ||| M 141 (2 * b + 1))) := by
  have hab : (nI a = nI b) = (a = b) := propext (nI_eq (by omega) (by omega))
  obtain ⟨r, hr1, hr2⟩ := e_low_lp st_S M ((q_st (M 137 5) (sq (M 137) a) &&& q_st (M 137 5) (sq (M 137) b)) &&& (sq (M 137) a 9 ^^^ sq (M 137) b 9))
  rw [show nI 0 = (0 : Int32) from rfl] at hr1
  simp only [f_X10_clashOf, gO_136, gd_tt, b1_s, b2_s, bm_s, kc_136_0 h, gN_137, tn_137, bI_0, bI_1, bI_gB, kc_136_7 h, gN_141, tn_141, l_2, nI_mul, nI_1, gA_141 (show 2 * a < 22 by omega), gA_141 (show 2 * a + 1 < 22 by omega), gA_141 (show 2 * b < 22 by omega), gA_141 (show 2 * b + 1 < 22 by omega), nI_cl (show 2 * a < 2147483648 by omega), nI_cl (show 2 * a + 1 < 2147483648 by omega), nI_cl (show 2 * b < 2147483648 by omega), nI_cl (show 2 * b + 1 < 2147483648 by omega), e_settledOf h ha, e_settledOf h hb, e_of9 h ha, e_of9 h hb, hr1, hr2, hab, z_clash]
  split
  · split <;> rfl
  · split <;> rfl
end ME
