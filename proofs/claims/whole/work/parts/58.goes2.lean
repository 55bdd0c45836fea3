/-! ===== goes: what stands on it, in the end ===== -/
section CLO
variable (st : Nat → Nat → Bool) (N : Nat)
def z_cl (X : Int32) : Prop := ∀ b a, b < N → a < 32 → st b a = true → bt X a = true → bt X b = true
def z_sub (x y : Int32) : Prop := ∀ i, i < 32 → bt x i = true → bt y i = true
/-- one pass of the class: R the rows of what each stands on -/
def psC (R : Nat → Int32) : Nat → Int32 → Int32
  | 0, x => x
  | n + 1, x => if (R n &&& psC R n x) = 0 then psC R n x else psC R n x ||| bit n
def itC (R : Nat → Int32) : Nat → Int32 → Int32
  | 0, x => x
  | k + 1, x => psC R N (itC R k x)
/-- one pass of the model -/
def psM (S : Nat → Int32) (x : Int32) : Nat → Int32
  | 0 => x
  | n + 1 => if bt x n = true then psM S x n ||| S n else psM S x n
end CLO
section CL2
variable {st : Nat → Nat → Bool} {N : Nat} {R S : Nat → Int32}
theorem sub_tr {x y z : Int32} (h : z_sub x y) (h2 : z_sub y z) : z_sub x z := fun i hi q => h2 i hi (h i hi q)
theorem sub_eq {x y : Int32} (h : z_sub x y) (h2 : z_sub y x) : x = y := b_ext fun i hi => by
  have a := h i hi
  have b := h2 i hi
  cases e1 : bt x i <;> cases e2 : bt y i <;> simp [e1, e2] at a b ⊢
theorem psC_ext : ∀ n x, z_sub x (psC R n x)
  | 0, _ => fun _ _ q => q
  | n + 1, x => fun i hi q => by
    have := psC_ext n x i hi q
    rw [psC]
    split
    · exact this
    · rw [b_or, this]; rfl
theorem and_0 {x y : Int32} : (x &&& y = 0) ↔ ∀ j, j < 32 → ¬ (bt x j = true ∧ bt y j = true) := by
  constructor
  · rintro e j hj ⟨h1, h2⟩
    have := congrArg (fun z => bt z j) e
    simp only [b_and, b_0, h1, h2] at this
    cases this
  · intro h
    refine b_ext fun j hj => ?_
    have := h j hj
    rw [b_and, b_0]
    cases e1 : bt x j <;> cases e2 : bt y j <;> simp [e1, e2] at this ⊢
theorem psC_in (hN : N ≤ 32) (hR : ∀ b, b < N → ∀ j, j < 32 → bt (R b) j = st b j) {X : Int32} (hX : z_cl st N X) : ∀ n, n ≤ N → ∀ x, z_sub x X → z_sub (psC R n x) X
  | 0, _, _, h => h
  | n + 1, hn, x, h => fun i hi q => by
    have ih := psC_in hN hR hX n (by omega) x h
    rw [psC] at q
    split at q
    · exact ih i hi q
    · rename_i hne
      rw [b_or, bt_bit (by omega)] at q
      by_cases e : i = n
      · subst e
        by_cases hb : bt X i = true
        · exact hb
        · exfalso
          refine hne (and_0.mpr fun j hj => ?_)
          rintro ⟨h1, h2⟩
          rw [hR i (by omega) j hj] at h1
          exact hb (hX i j (by omega) hj h1 (ih j hj h2))
      · simp [e] at q
        exact ih i hi q
theorem psC_mono : ∀ m n x, z_sub (psC R m x) (psC R (m + n) x)
  | _, 0, _ => fun _ _ q => q
  | m, n + 1, x => fun i hi q => by
    have := psC_mono m n x i hi q
    show bt (psC R (m + n + 1) x) i = true
    rw [psC]
    split
    · exact this
    · rw [b_or, this]; rfl
theorem psC_fix (hN : N ≤ 32) (hR : ∀ b, b < N → ∀ j, j < 32 → bt (R b) j = st b j) {x : Int32} (h : psC R N x = x) : z_cl st N x := by
  intro b a hb ha hs hx
  have h1 : psC R b x = x := sub_eq (by
    have := psC_mono (R := R) b (N - b) x
    rw [show b + (N - b) = N by omega, h] at this
    exact this) (psC_ext b x)
  have h2 : z_sub (psC R (b + 1) x) x := by
    have := psC_mono (R := R) (b + 1) (N - (b + 1)) x
    rw [show b + 1 + (N - (b + 1)) = N by omega, h] at this
    exact this
  refine h2 b (by omega) ?_
  rw [psC, h1, if_neg, b_or, bt_bit (by omega)]
  · simp
  · intro q
    exact and_0.mp q a ha ⟨by rw [hR b hb a ha]; exact hs, hx⟩
/-- bits below N alone -/
def loN (N : Nat) (x : Int32) : Prop := ∀ i, N ≤ i → bt x i = false
theorem pc_loN {x : Int32} (hN : N ≤ 32) (h : loN N x) : pc x ≤ N := by
  have h1 : fb_ct (bt x) (N + (32 - N)) = fb_ct (bt x) N + fb_ct (fun k => bt x (N + k)) (32 - N) := fb_ct_split (bt x) N (32 - N)
  have h2 : fb_ct (fun k => bt x (N + k)) (32 - N) = 0 := fb_ct_zero.mpr fun k _ => h _ (by omega)
  have h3 := fb_ct_le (bt x) N
  rw [show N + (32 - N) = 32 by omega] at h1
  show fb_ct (bt x) 32 ≤ N
  omega
theorem psC_lo (hN : N ≤ 32) : ∀ n, n ≤ N → ∀ x, loN N x → loN N (psC R n x)
  | 0, _, _, h => h
  | n + 1, hn, x, h => fun i hi => by
    have ih := psC_lo hN n (by omega) x h
    rw [psC]
    split
    · exact ih i hi
    · rw [b_or, ih i hi, bt_bit (by omega)]; simp; omega
theorem itC_lo (hN : N ≤ 32) : ∀ k x, loN N x → loN N (itC N R k x)
  | 0, _, h => h
  | k + 1, x, h => psC_lo hN N (Nat.le_refl N) _ (itC_lo hN k x h)
theorem itC_grow : ∀ k x, itC N R (k + 1) x = itC N R k x ∨ k + 1 ≤ pc (itC N R (k + 1) x) := by
  intro k
  induction k with
  | zero =>
    intro x
    by_cases e : itC N R 1 x = itC N R 0 x
    · exact Or.inl e
    · right
      have h1 := pc_sub (x := x) (y := psC R N x) (psC_ext N x)
      have h2 : pc x ≠ pc (psC R N x) := fun q => e (pc_eq_sub (psC_ext N x) q).symm
      show 1 ≤ pc (psC R N x)
      omega
  | succ k ih =>
    intro x
    by_cases e : itC N R (k + 1 + 1) x = itC N R (k + 1) x
    · exact Or.inl e
    · right
      have h1 := pc_sub (x := itC N R (k + 1) x) (y := psC R N (itC N R (k + 1) x)) (psC_ext N _)
      have h2 : pc (itC N R (k + 1) x) ≠ pc (psC R N (itC N R (k + 1) x)) := fun q => e (pc_eq_sub (psC_ext N _) q).symm
      rcases ih x with q | q
      · refine absurd ?_ e
        show psC R N (itC N R (k + 1) x) = itC N R (k + 1) x
        conv => lhs; rw [q]
        rfl
      · show k + 1 + 1 ≤ pc (psC R N (itC N R (k + 1) x))
        omega
theorem itC_10 (hN : N ≤ 10) (hR : ∀ b, b < N → ∀ j, j < 32 → bt (R b) j = st b j) {x : Int32} (hx : loN N x) : z_cl st N (itC N R 10 x) := by
  refine psC_fix (by omega) hR ?_
  rcases itC_grow (N := N) (R := R) 10 x with h | h
  · exact h
  · have : pc (itC N R (10 + 1) x) ≤ N := pc_loN (by omega) (itC_lo (R := R) (N := N) (by omega) 11 x hx)
    omega
theorem itC_ext : ∀ k x, z_sub x (itC N R k x)
  | 0, _ => fun _ _ q => q
  | k + 1, x => sub_tr (itC_ext k x) (psC_ext N _)
theorem itC_in (hN : N ≤ 32) (hR : ∀ b, b < N → ∀ j, j < 32 → bt (R b) j = st b j) {X : Int32} (hX : z_cl st N X) : ∀ k x, z_sub x X → z_sub (itC N R k x) X
  | 0, _, h => h
  | k + 1, x, h => psC_in hN hR hX N (Nat.le_refl N) _ (itC_in hN hR hX k x h)
theorem psM_ext : ∀ n x, z_sub x (psM S x n)
  | 0, _ => fun _ _ q => q
  | n + 1, x => fun i hi q => by
    have := psM_ext n x i hi q
    rw [psM]
    split
    · rw [b_or, this]; rfl
    · exact this
theorem psM_in (hN : N ≤ 32) (hS : ∀ a, a < N → ∀ j, bt (S a) j = (decide (j < N) && st j a)) {X : Int32} (hX : z_cl st N X) : ∀ n, n ≤ N → ∀ x, z_sub x X → z_sub (psM S x n) X
  | 0, _, _, h => h
  | n + 1, hn, x, h => fun i hi q => by
    have ih := psM_in hN hS hX n (by omega) x h
    rw [psM] at q
    split at q
    · rename_i hx
      rw [b_or, hS n (by omega)] at q
      cases e : bt (psM S x n) i
      · simp [e] at q
        exact hX i n q.1 (by omega) q.2 (h n (by omega) hx)
      · exact ih i hi e
    · exact ih i hi q
theorem psM_has : ∀ n (x : Int32) a j, a < n → bt x a = true → bt (S a) j = true → bt (psM S x n) j = true
  | 0, _, _, _, h, _, _ => absurd h (by omega)
  | n + 1, x, a, j, h, hx, hs => by
    rw [psM]
    by_cases e : a = n
    · subst e
      rw [if_pos hx, b_or, hs, Bool.or_true]
    · have := psM_has n x a j (by omega) hx hs
      split
      · rw [b_or, this]; rfl
      · exact this
theorem psM_fix (hN : N ≤ 32) (hS : ∀ a, a < N → ∀ j, bt (S a) j = (decide (j < N) && st j a)) (hst : ∀ b a, st b a = true → a < N) {x : Int32} (h : psM S x N = x) : z_cl st N x := by
  intro b a hb ha hs hx
  have haN := hst b a hs
  have := psM_has (S := S) N x a b haN hx (by rw [hS a haN]; simp [hb, hs])
  rwa [h] at this
theorem psM_lo (hS : ∀ a, a < N → ∀ j, bt (S a) j = (decide (j < N) && st j a)) : ∀ n, n ≤ N → ∀ x, loN N x → loN N (psM S x n)
  | 0, _, _, h => h
  | n + 1, hn, x, h => fun i hi => by
    have ih := psM_lo hS n (by omega) x h
    rw [psM]
    split
    · rw [b_or, ih i hi, hS n (by omega)]; simp; omega
    · exact ih i hi
end CL2
section GO2
variable {M : fw_Mem} {r : Nat → Int32} {P L N s : Nat}
theorem sto_lt (w : WF r P L N) {b a : Nat} (h : stO r L N b a = true) : a < N := by
  simp only [stO, Bool.and_eq_true] at h
  obtain ⟨t, -, ht⟩ := exB_iff.mp h.2.2
  simp only [z_stP, Bool.and_eq_true, decide_eq_true_eq] at ht
  exact z_ho_lt ht.2.1
def z_std (r : Nat → Int32) (L N s : Nat) : Int32 := mk (fun b => stO r L N b s) N
theorem c_resting (h : KC M) (w : WF r P L N) (c : CR M r L N) (hs : s < N) : ∃ M', f_X2_restingOn st_S M 121 (bit s) = some (z_std r L N s, M') ∧ BF M M' ∧ ∀ i, i < N → ∀ j, j < 32 → bt (M' 123 i) j = stO r L N i j := by
  have n10 := w.n
  obtain ⟨R, h1, h2⟩ := lp_up (fun n (x : Int32 × fw_Mem) i => lf_X2_restingOn_4 st_S 121 (bit s) n x.1 (nI i) x.2) N (fun i x => x.1 = mk (fun b => stO r L N b s) i ∧ BF M x.2 ∧ ∀ k, k < i → ∀ j, j < 32 → bt (x.2 123 k) j = stO r L N k j) (fun x => x.1 = mk (fun b => stO r L N b s) N ∧ BF M x.2 ∧ ∀ k, k < N → ∀ j, j < 32 → bt (x.2 123 k) j = stO r L N k j)
    (by
      rintro n i ⟨x, m⟩ hiN ⟨hx, hf, hr⟩
      simp only at hx hf hr
      subst hx
      have hi : i < 10 := by omega
      have hn : ¬ nI N ≤ nI i := nI_ge hiN (by omega)
      have hg := gO_s3 i hi
      have hm := hf.kc h
      have cm : CR m r L N := CR.bf hf n10 c
      obtain ⟨v, M9, q1, f1, q2, q3⟩ := c_rests hm w cm hiN
      have h9 := f1.kc hm
      have f11 : BF M9 (fw_set M9 123 i v) := ⟨fun b hb => set_nr _ _ _ (by omega), fun j _ => by rw [set_nr _ _ _ (by decide)]⟩
      have h11 := f11.kc h9
      refine ⟨(mk (fun b => stO r L N b s) (i + 1), fw_set M9 123 i v), ⟨rfl, (hf.trans' f1).trans' f11, fun k hk j hj => ?_⟩, ?_⟩
      · show bt (fw_set M9 123 i v 123 k) j = stO r L N k j
        by_cases e : k = i
        · subst e; rw [set_eq]; exact q2 j hj
        · rw [set_nk _ _ _ _ e, q3]; exact hr k (by omega) j hj
      · have h3N : m 3 6 = nI N := cm.1.1
        have hand : ((v &&& bit s) = 0) = (stO r L N i s = false) := by
          rw [← q2 s (by omega)]
          apply propext
          rw [and_0]
          constructor
          · intro q
            cases e : bt v s
            · rfl
            · exact absurd ⟨e, by rw [bt_bit (by omega)]; simp⟩ (q s (by omega))
          · rintro q j hj ⟨a1, a2⟩
            rw [bt_bit (by omega)] at a2
            have : j = s := by simpa using a2
            rw [this, q] at a1; cases a1
        have h := hm
        simp only [lf_X2_restingOn_4, gO_121, gd_tt, b1_s, b2_s, bm_s, kc_121_0 h, gN_3, tn_3, gO_3, kc_3_2 h, gN_6, tn_6, gA_6 hi, nI_cl (show i < 2147483648 by omega), kc_s3 h hi, nI_gN (show 32 + i < 2147483648 by omega), nI_cl (show 32 + i < 2147483648 by omega), hg, h3N, if_neg hn, kc_121_2 h, kc_121_2 h11, gN_123, tn_123, q1, gA_123 hi, set_eq, hand, nI_1, mk]
        rcases bcas (stO r L N i s) with q | q <;> simp [q, bit])
    (by
      rintro n ⟨x, m⟩ ⟨hx, hf, hr⟩
      simp only at hx hf hr
      have hm := hf.kc h
      have h3N : m 3 6 = nI N := (CR.bf hf n10 c).1.1
      exact ⟨(x, m), by simp only [lf_X2_restingOn_4, gO_121, gd_tt, kc_121_0 hm, gN_3, tn_3, gO_3, h3N, if_pos (nI_le (Nat.le_refl N) (show N < 2 ^ 31 by omega))], hx, hf, hr⟩) _ 0 20000 (0, M) rfl (by omega) (by omega) ⟨rfl, BF.rfl' M, fun k hk => absurd hk (by omega)⟩
  have h1' : lf_X2_restingOn_4 st_S 121 (bit s) 20000 0 0 M = some R := h1
  refine ⟨R.2, ?_, h2.2.1, h2.2.2⟩
  rw [f_X2_restingOn, h1', b1_s, h2.1]
  rfl
theorem c_end (h : KC M) (w : WF r P L N) (c : CR M r L N) (hs : s < N) : ∃ y M', f_X2_restingInTheEnd st_S M 121 (nI s) = some (y, M') ∧ BF M M' ∧ z_sub (z_std r L N s) y ∧ z_cl (stO r L N) N y ∧ ∀ X, z_cl (stO r L N) N X → z_sub (z_std r L N s) X → z_sub y X := by
  have n10 := w.n
  obtain ⟨M', q1, hf, hr⟩ := c_resting h w c hs
  have hm := hf.kc h
  have h3N : M' 3 6 = nI N := (CR.bf hf n10 c).1.1
  have hp : ∀ x x3, lf_X2_restingInTheEnd_19 st_S M' 121 x3 20000 x 0 = some (psC (M' 123) N x) := by
    intro x x3
    obtain ⟨R, h1, h2⟩ := lp_up (fun n y i => lf_X2_restingInTheEnd_19 st_S M' 121 x3 n y (nI i)) N (fun i y => y = psC (M' 123) i x) (fun y => y = psC (M' 123) N x)
      (by
        rintro n i y hiN rfl
        refine ⟨_, rfl, ?_⟩
        have hi : i < 10 := by omega
        have hn : ¬ nI N ≤ nI i := nI_ge hiN (by omega)
        simp only [lf_X2_restingInTheEnd_19, gO_121, gd_tt, kc_121_0 hm, gN_3, tn_3, gO_3, h3N, if_neg hn, kc_121_2 hm, gN_123, tn_123, gA_123 hi, nI_cl (show i < 2147483648 by omega), bm_s, nI_1, psC, bit]
        split <;> rfl)
      (by
        rintro n y rfl
        exact ⟨_, by simp only [lf_X2_restingInTheEnd_19, gO_121, gd_tt, kc_121_0 hm, gN_3, tn_3, gO_3, h3N, if_pos (nI_le (Nat.le_refl N) (show N < 2 ^ 31 by omega))], rfl⟩) _ 0 20000 x rfl (by omega) (by omega) rfl
    rw [← h2]; exact h1
  have hro : lf_X2_restingInTheEnd_10 st_S M' 121 20000 (z_std r L N s) 0 = some (itC N (M' 123) 10 (z_std r L N s)) := by
    obtain ⟨R, h1, h2⟩ := lp_up (fun n y i => lf_X2_restingInTheEnd_10 st_S M' 121 n y (nI i)) 10 (fun i y => y = itC N (M' 123) i (z_std r L N s)) (fun y => y = itC N (M' 123) 10 (z_std r L N s))
      (by
        rintro n i y hi rfl
        refine ⟨_, rfl, ?_⟩
        have hn : ¬ (10 : Int32) ≤ nI i := nI_ge (b := 10) hi (by omega)
        simp only [lf_X2_restingInTheEnd_10, if_neg hn, hp, b1_s, nI_1, itC])
      (by
        rintro n y rfl
        exact ⟨_, by simp only [lf_X2_restingInTheEnd_10, if_pos (show (10 : Int32) ≤ nI 10 by decide)], rfl⟩) _ 0 20000 (z_std r L N s) rfl (by omega) (by omega) rfl
    rw [← h2]; exact h1
  have hlo : loN N (z_std r L N s) := fun i hi => by rw [z_std, bt_mk _ N (by omega)]; simp; omega
  refine ⟨itC N (M' 123) 10 (z_std r L N s), M', ?_, hf, itC_ext 10 _, itC_10 n10 hr hlo, fun X hX hsub => itC_in (by omega) hr hX 10 _ hsub⟩
  have q1' : f_X2_restingOn st_S M 121 ((1 : Int32) <<< (nI s &&& 31)) = some (z_std r L N s, M') := q1
  simp only [f_X2_restingInTheEnd, gO_121, gd_tt, q1', b2_s, hro, b1_s]
theorem mb_standing {B : fw_Mem} (h : KC B) (e : B 137 = r) (w : WF r P L N) (hB : ∀ k, k < 2 * N → B 141 k = BDr r L k) (hs : s < N) : f_X10_standing st_S B 136 (nI s) = some (z_std r L N s) := by
  have n10 := w.n
  obtain ⟨R, h1, h2⟩ := lp_up (fun n x i => lf_X10_standing_4 st_S B 136 (nI s) n x (nI i)) N (fun i x => x = mk (fun b => stO r L N b s) i) (fun x => x = mk (fun b => stO r L N b s) N)
    (by
      rintro n i x hiN rfl
      refine ⟨_, rfl, ?_⟩
      have hn : ¬ nI N ≤ nI i := nI_ge hiN (by omega)
      simp only [lf_X10_standing_4, gO_136, gd_tt, b1_s, b2_s, bm_s, kc_136_0 h, gN_137, tn_137, bI_0, bI_1, bI_gB, e_suits h, e, w.2.1.2.2, if_neg hn, mb_stands h e w hB hiN hs, nI_1, mk]
      rcases bcas (stO r L N i s) with q | q <;> simp [q, bit])
    (by
      rintro n x rfl
      exact ⟨_, by simp only [lf_X10_standing_4, gO_136, gd_tt, b1_s, b2_s, bm_s, kc_136_0 h, gN_137, tn_137, bI_0, bI_1, bI_gB, e_suits h, e, w.2.1.2.2, if_pos (nI_le (Nat.le_refl N) (show N < 2 ^ 31 by omega))], rfl⟩) _ 0 20000 0 rfl (by omega) (by omega) rfl
  have h1' : lf_X10_standing_4 st_S B 136 (nI s) 20000 0 0 = some R := h1
  rw [f_X10_standing, h1', b1_s, h2]
  rfl
theorem mb_all {B : fw_Mem} (h : KC B) (e : B 137 = r) (w : WF r P L N) (hB : ∀ k, k < 2 * N → B 141 k = BDr r L k) (hs : s < N) : ∃ y, f_X10_allStanding st_S B 136 (nI s) = some y ∧ z_sub (z_std r L N s) y ∧ z_cl (stO r L N) N y ∧ ∀ X, z_cl (stO r L N) N X → z_sub (z_std r L N s) X → z_sub y X := by
  have n10 := w.n
  have hS : ∀ a, a < N → ∀ j, bt (z_std r L N a) j = (decide (j < N) && stO r L N j a) := fun a _ j => by rw [z_std, bt_mk _ N (by omega)]
  have hp : ∀ x, lf_X10_allStanding_18 st_S B 136 x 20000 x 0 = some (psM (z_std r L N) x N) := by
    intro x
    obtain ⟨R, h1, h2⟩ := lp_up (fun n y i => lf_X10_allStanding_18 st_S B 136 x n y (nI i)) N (fun i y => y = psM (z_std r L N) x i) (fun y => y = psM (z_std r L N) x N)
      (by
        rintro n i y hiN rfl
        refine ⟨_, rfl, ?_⟩
        have hn : ¬ nI N ≤ nI i := nI_ge hiN (by omega)
        simp only [lf_X10_allStanding_18, gO_136, gd_tt, b1_s, b2_s, bm_s, kc_136_0 h, gN_137, tn_137, bI_0, bI_1, bI_gB, e_suits h, e, w.2.1.2.2, if_neg hn, e_has, hv_bt (show i < 32 by omega), mb_standing h e w hB hiN, nI_1, psM]
        cases bt x i <;> simp)
      (by
        rintro n y rfl
        exact ⟨_, by simp only [lf_X10_allStanding_18, gO_136, gd_tt, b1_s, b2_s, bm_s, kc_136_0 h, gN_137, tn_137, bI_0, bI_1, bI_gB, e_suits h, e, w.2.1.2.2, if_pos (nI_le (Nat.le_refl N) (show N < 2 ^ 31 by omega))], rfl⟩) _ 0 20000 x rfl (by omega) (by omega) rfl
    rw [← h2]; exact h1
  have key : ∀ d x n, 11 ≤ pc x + d → d < n → loN N x → ∃ y, lf_X10_allStanding_8 st_S B 136 n (psM (z_std r L N) x N) x = some y ∧ z_sub x y ∧ z_cl (stO r L N) N y ∧ ∀ X, z_cl (stO r L N) N X → z_sub x X → z_sub y X := by
    intro d
    induction d with
    | zero =>
      intro x n h1 _ hlo
      have := pc_loN (by omega) hlo
      omega
    | succ d ih =>
      intro x n h1 hn hlo
      obtain ⟨m, rfl⟩ : ∃ m, n = m + 1 := ⟨n - 1, by omega⟩
      rw [lf_X10_allStanding_8]
      by_cases q : x = psM (z_std r L N) x N
      · rw [if_pos q]
        refine ⟨_, rfl, psM_ext N x, ?_, fun X hX hx => psM_in (by omega) hS hX N (Nat.le_refl N) x hx⟩
        rw [← q]
        exact psM_fix (by omega) hS (fun b a => sto_lt w) q.symm
      · rw [if_neg q, hp, b1_s]
        have g1 := pc_sub (psM_ext (S := z_std r L N) N x)
        have g2 : pc x ≠ pc (psM (z_std r L N) x N) := fun z => q (pc_eq_sub (psM_ext N x) z)
        obtain ⟨y, a1, a2, a3, a4⟩ := ih (psM (z_std r L N) x N) m (by omega) (by omega) (psM_lo hS N (Nat.le_refl N) x hlo)
        exact ⟨y, a1, sub_tr (psM_ext N x) a2, a3, fun X hX hx => a4 X hX (psM_in (by omega) hS hX N (Nat.le_refl N) x hx)⟩
  have hlo : loN N (z_std r L N s) := fun i hi => by rw [z_std, bt_mk _ N (by omega)]; simp; omega
  have hfin : ∃ y, lf_X10_allStanding_8 st_S B 136 20000 (z_std r L N s) 0 = some y ∧ z_sub (z_std r L N s) y ∧ z_cl (stO r L N) N y ∧ ∀ X, z_cl (stO r L N) N X → z_sub (z_std r L N s) X → z_sub y X := by
    show ∃ y, lf_X10_allStanding_8 st_S B 136 (19999 + 1) (z_std r L N s) 0 = some y ∧ _
    rw [lf_X10_allStanding_8]
    by_cases q : 0 = z_std r L N s
    · rw [if_pos q]
      refine ⟨_, rfl, fun _ _ z => z, ?_, fun X _ z => z⟩
      rw [← q]
      intro b a _ _ _ z
      rw [b_0] at z; cases z
    · rw [if_neg q, hp, b1_s]
      exact key 11 (z_std r L N s) 19999 (by omega) (by omega) hlo
  obtain ⟨y, a1, a2⟩ := hfin
  exact ⟨y, by simp only [f_X10_allStanding, gO_136, gd_tt, mb_standing h e w hB hs, b1_s, a1], a2⟩
theorem q_goes (I : INV M) (x y : Int32) : QOK (f_L_goes st_S M 0 x y 148) (fun M1 => f_X10_goes st_S M1 136 x y) := by
  obtain ⟨P, L, N, A, T, U, hh, h, w, pp, r3, c, -⟩ := id I
  have n10 := w.n
  have l24 := w.1.2.1
  by_cases hx : ∃ s, s < N ∧ x = nI s
  rotate_left
  · exact qok1 I (M1 := M) (k := 1) (by decide) (by simp only [f_L_goes, f_X9_goes, gO_0, gd_tt, kc_0_5 h, gN_121, tn_121, gO_121, b1_s, b2_s, bxl, bxr, bn_s, gA_148_0, bm_s, if_true, if_false, i10, i00, c_suitNo h c.1.1 w.n hx]) (AG.rf M) (fun k1 e => ⟨0, _, by simp only [f_X10_goes, gO_136, gd_tt, bm_s, ms_no (kc_136 k1 0) ((s137 _ _).trans e) w hx, b1_s, i00, if_true, m_fail, b2_s], mc_ff M 0 1⟩)
  obtain ⟨s, hs, rfl⟩ := hx
  obtain ⟨hg, e0, eq⟩ := c.at' h w.n hs
  have ca := c_suitAt h c.1.1 w.n hs
  by_cases hy : y = 0 ∨ y = 1 ∨ y = 2 ∨ y = 3 ∨ y = 4
  rotate_left
  · exact qok1 I (M1 := M) (k := 1) (by decide) (by simp only [f_L_goes, f_X9_goes, gO_0, gd_tt, kc_0_5 h, gN_121, tn_121, gO_121, b1_s, b2_s, bxl, bxr, bn_s, gA_148_0, bm_s, if_true, if_false, i10, i00, ca, wc4 hy]) (AG.rf M) (fun k1 e => ⟨0, _, by simp only [f_X10_goes, gO_136, gd_tt, bm_s, ms_ok (kc_136 k1 0) ((s137 _ _).trans e) w hs, b1_s, i10, if_false, wi4 hy, i00, if_true, m_fail, b2_s], mc_ff M 0 1⟩)
  have hin : ∀ B : fw_Mem, f_X10_isIn st_S B y 0 4 = some 1 := fun B => by
    rw [e_isIn]
    rcases hy with rfl | rfl | rfl | rfl | rfl <;> rfl
  have hyc : ¬ y < 0 ∧ y ≤ 4 := by rcases hy with rfl | rfl | rfl | rfl | rfl <;> decide
  have hc := e_c_counts (M := M) hg (c.bo w s hs).2
  rw [eq] at hc
  have pj : ∀ {B : fw_Mem}, KC B → B 137 = M 137 → f_X10_isJudged st_S (fw_set B 136 6 0) 136 (nI s) = some (bI (q_jd (sq (M 137) s))) ∧ f_X10_isReversed st_S (fw_set B 136 6 0) 136 (nI s) = some (bI (q_rv (sq (M 137) s))) := fun {B} k e => by
    have a1 := e_isJudged (kc_136 k 0) (s := s) (by omega)
    have a2 := e_isReversed (kc_136 k 0) (s := s) (by omega)
    rw [s137, e] at a1 a2
    exact ⟨a1, a2⟩
  cases hcv : (q_jd (sq (M 137) s) && !q_rv (sq (M 137) s))
  · rw [hcv] at hc
    refine qok0 I (u := 0) (M1 := fw_set M 148 0 0) ?_ ((AG.rf M).st 148 0 _ rfl) (set_eq _ _ _ _) (fun k1 e => ⟨_, ?_, mf_set _ 0⟩)
    · simp only [f_L_goes, f_X9_goes, gO_0, gd_tt, kc_0_5 h, gN_121, tn_121, gO_121, b1_s, b2_s, bxl, bxr, bn_s, gA_148_0, bm_s, if_true, if_false, i10, i00, ca, if_neg hyc.1, if_pos hyc.2, hg, hc, bI_f]
    · obtain ⟨a1, a2⟩ := pj k1 e
      simp only [f_X10_goes, gO_136, gd_tt, bm_s, ms_ok (kc_136 k1 0) ((s137 _ _).trans e) w hs, b1_s, i10, if_false, hin, a1, a2, bI_0]
      cases e1 : q_jd (sq (M 137) s)
      · simp
      · cases e2 : q_rv (sq (M 137) s)
        · rw [e1, e2] at hcv; cases hcv
        · simp
  rw [hcv] at hc
  have hj : q_jd (sq (M 137) s) = true := by simp at hcv; exact hcv.1
  have hv : q_rv (sq (M 137) s) = false := by simp at hcv; exact hcv.2
  have r8 : M 137 (198 + 12 * s + 8) = 0 := by
    rcases (w.q hs).2.2.2.2.2.2.1 with q | q
    · simpa [sq] using q
    · simp [q_rv, q] at hv
  by_cases h2 : y = 0 ∨ y = 1 ∨ y = 2
  · have w' := wf_rev w hj
    obtain ⟨M', hb, hf⟩ := c_changed h w c hs hj hv h2
    refine qok0 I (M1 := fw_set M' 148 0 (mk (fun i => !decide (z_ms (M 137) L N y i = z_ms (rvr (M 137) s) L N y i)) N)) ?_ (hf.ag.st 148 0 _ rfl) (set_eq _ _ _ _) (fun k1 e => ?_)
    · have y3 : ¬ y = 3 := by rcases h2 with rfl | rfl | rfl <;> decide
      have y4 : ¬ y = 4 := by rcases h2 with rfl | rfl | rfl <;> decide
      simp only [f_L_goes, f_X9_goes, gO_0, gd_tt, kc_0_5 h, gN_121, tn_121, gO_121, b1_s, b2_s, bxl, bxr, bn_s, gA_148_0, bm_s, if_true, if_false, i10, i00, ca, if_neg hyc.1, if_pos hyc.2, hg, hc, bI_t, if_neg y3, if_neg y4, hb]
    · obtain ⟨a1, a2⟩ := pj k1 e
      obtain ⟨B, h1, hm, h3, h4, h5, h6, h7⟩ := m_lay0 k1 e w
      obtain ⟨C, t1, t2, t3⟩ := mb_then h4 h3 w h5
      have kC := kcn_345 h4 t2
      have p1 := e_put kC (show s ≤ 10 by omega) (show 8 < 12 by omega) (x := 8) rfl 1
      have kD := kc_137 kC (198 + 12 * s + 8) 1
      have eD : fw_set C 137 (198 + 12 * s + 8) 1 137 = rvr (M 137) s := by rw [fw_set_row, t2 137 (by decide) (by decide) (by decide), h3]
      have chg := mb_changed kD eD w w' (fun k hk => by rw [set_na _ _ _ _ (by decide), t2 141 (by decide) (by decide) (by decide)]; exact h5 k hk) (fun j hj => by rw [set_na _ _ _ _ (by decide), set_na _ _ _ _ (by decide), set_na _ _ _ _ (by decide)]; exact t3 j hj) h2
      have p2 := e_put kD (show s ≤ 10 by omega) (show 8 < 12 by omega) (x := 8) rfl 0
      have hback : fw_set (fw_set C 137 (198 + 12 * s + 8) 1) 137 (198 + 12 * s + 8) 0 = C := by
        rw [set_set]
        funext b j
        simp only [fw_set]
        by_cases q1 : b = 137
        · subst q1
          by_cases q2 : j = 198 + 12 * s + 8
          · subst q2
            rw [t2 137 (by decide) (by decide) (by decide), h3]
            simp [r8]
          · simp [q2]
        · simp [q1]
      rw [hback] at p2
      have y2 : y ≤ 2 := by rcases h2 with rfl | rfl | rfl <;> decide
      refine ⟨C, ?_, ⟨hm.1.tr ⟨fun b b1 b2 => t2 b (by omega) (by omega) (by omega), fun j _ => by rw [t2 136 (by decide) (by decide) (by decide)]⟩, by rw [t2 136 (by decide) (by decide) (by decide)]; exact hm.2⟩⟩
      simp only [f_X10_goes, gO_136, gd_tt, bm_s, ms_ok h6 h7 w hs, b1_s, i10, if_false, hin, a1, a2, hj, hv, bI_t, bI_f, i00, if_true, h1, if_pos y2, t1, p1, chg, p2]
  · have h34 : y = 3 ∨ y = 4 := by
      rcases hy with q | q | q | q | q
      · exact absurd (Or.inl q) h2
      · exact absurd (Or.inr (Or.inl q)) h2
      · exact absurd (Or.inr (Or.inr q)) h2
      · exact Or.inl q
      · exact Or.inr q
    rcases h34 with rfl | rfl
    · obtain ⟨M', hb, hf, -⟩ := c_resting h w c hs
      have hb' : f_X2_restingOn st_S M 121 ((1 : Int32) <<< (nI s &&& 31)) = some (z_std (M 137) L N s, M') := hb
      refine qok0 I (M1 := fw_set M' 148 0 (z_std (M 137) L N s)) ?_ (hf.ag.st 148 0 _ rfl) (set_eq _ _ _ _) (fun k1 e => ?_)
      · simp [f_L_goes, f_X9_goes, gO_0, gd_tt, kc_0_5 h, gN_121, tn_121, gO_121, b1_s, b2_s, bxl, bxr, bn_s, gA_148_0, bm_s, if_true, if_false, i10, i00, ca, hg, hc, bI_t, hb']
      · obtain ⟨a1, a2⟩ := pj k1 e
        obtain ⟨B, h1, hm, h3, h4, h5, h6, h7⟩ := m_lay0 k1 e w
        exact ⟨B, by simp [f_X10_goes, gO_136, gd_tt, bm_s, ms_ok h6 h7 w hs, b1_s, e_isIn, a1, a2, hj, hv, bI_t, bI_f, h1, mb_standing h4 h3 w h5 hs], hm⟩
    · obtain ⟨yc, M', hb, hf, s1, s2, s3⟩ := c_end h w c hs
      refine qok0 I (M1 := fw_set M' 148 0 yc) ?_ (hf.ag.st 148 0 _ rfl) (set_eq _ _ _ _) (fun k1 e => ?_)
      · simp [f_L_goes, f_X9_goes, gO_0, gd_tt, kc_0_5 h, gN_121, tn_121, gO_121, b1_s, b2_s, bxl, bxr, bn_s, gA_148_0, bm_s, if_true, if_false, i10, i00, ca, hg, hc, bI_t, hb]
      · obtain ⟨a1, a2⟩ := pj k1 e
        obtain ⟨B, h1, hm, h3, h4, h5, h6, h7⟩ := m_lay0 k1 e w
        obtain ⟨ym, m1, m2, m3, m4⟩ := mb_all h4 h3 w h5 hs
        have ey : ym = yc := sub_eq (m4 yc s2 s1) (s3 ym m3 m2)
        rw [ey] at m1
        exact ⟨B, by simp [f_X10_goes, gO_136, gd_tt, bm_s, ms_ok h6 h7 w hs, b1_s, e_isIn, a1, a2, hj, hv, bI_t, bI_f, h1, m1], hm⟩
end GO2
