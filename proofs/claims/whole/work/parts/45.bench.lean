/-! ===== the class's bench: comes behind, same, bars, held ===== -/
theorem and1b (y : Int32) : (y &&& 1) = bI (bt y 0) := by
  have h1 : ∀ j, j < 32 → bt (y &&& 1) j = (decide (j = 0) && bt y 0) := by
    intro j hj
    rw [b_and, b_1]
    by_cases h0 : j = 0
    · subst h0; simp
    · simp [h0]
  cases hb : bt y 0
  · exact b_ext fun j hj => by rw [h1 j hj, hb, bI_f, b_0]; simp
  · exact b_ext fun j hj => by rw [h1 j hj, hb, bI_t, b_1]; simp
theorem and1 (y : Int32) : ((y &&& 1) = 1) = (bt y 0 = true) := by rw [and1b, bI_1]
theorem and1z (y : Int32) : ((y &&& 1) = 0) = (bt y 0 = false) := by rw [and1b, bI_0]
theorem hv_lo (x v : Int32) : bt (x >>> (v &&& 31)) 0 = hv x v := by
  unfold hv
  simp only [and1]
  cases bt (x >>> (v &&& 31)) 0 <;> rfl
theorem hv_or {x y : Int32} {p : Nat} (h : p < 32) : hv (x ||| y) (nI p) = (hv x (nI p) || hv y (nI p)) := by rw [hv_bt h, hv_bt h, hv_bt h, b_or]
section CQ
variable (M : fw_Mem) (a : Nat)
theorem cq0 : cq M a 0 = M a 1 := rfl
theorem cq1 : cq M a 1 = M a 2 := rfl
theorem cq2 : cq M a 2 = M a 3 := rfl
theorem cq3 : cq M a 3 = M a 4 := rfl
theorem cq4 : cq M a 4 = M a 5 := rfl
theorem cq5 : cq M a 5 = M a 6 := rfl
theorem cq6 : cq M a 6 = M a 7 := rfl
theorem cq7 : cq M a 7 = M a 8 := rfl
theorem cq8 : cq M a 8 = M a 9 := rfl
theorem cq9 : cq M a 9 = M a 10 := rfl
theorem cq10 : cq M a 10 = M a 11 := rfl
theorem cq11 : cq M a 11 = M a 12 := rfl
end CQ
theorem z_few_min (q qa : Nat → Int32) : z_few q qa = nI (min (pc (q 3)) (pc (qa 3))) := by
  have h1 := pc_le (q 3)
  have h2 := pc_le (qa 3)
  unfold z_few
  simp only [nI_ltI (show pc (q 3) < 2 ^ 31 by omega) (show pc (qa 3) < 2 ^ 31 by omega)]
  split
  · rw [Nat.min_eq_left (by omega)]
  · rw [Nat.min_eq_right (by omega)]
theorem same_eq {S c f : Nat} (h1 : 1 ≤ S) (h2 : S ≤ 100) (hc : c ≤ 32) (hf : f ≤ 32) (hcf : c ≤ f) : (!decide (nI c ≤ 0) && !decide (nI c * 100 < nI S * nI f)) = (!decide (nI f ≤ 0) && !decide ((100 : Int32) * nI c < nI S * nI f)) := by
  have m1 : S * f ≤ 100 * 32 := Nat.mul_le_mul h2 hf
  have m2 : 1 * f ≤ S * f := Nat.mul_le_mul h1 (Nat.le_refl f)
  rw [show (100 : Int32) = nI 100 from rfl, show (0 : Int32) = nI 0 from rfl, nI_mul, nI_mul, nI_mul]
  simp only [nI_leI (show c < 2 ^ 31 by omega) (show 0 < 2 ^ 31 by omega), nI_leI (show f < 2 ^ 31 by omega) (show 0 < 2 ^ 31 by omega), nI_ltI (show c * 100 < 2 ^ 31 by omega) (show S * f < 2 ^ 31 by omega), nI_ltI (show 100 * c < 2 ^ 31 by omega) (show S * f < 2 ^ 31 by omega)]
  by_cases e1 : c ≤ 0
  · have e3 : f ≤ 0 ∨ 100 * c < S * f := by omega
    rcases e3 with e3 | e3 <;> simp [e1, e3]
  · have e2 : ¬ f ≤ 0 := by omega
    simp [e1, e2, Nat.mul_comm c 100]
theorem pc_and_l (x y : Int32) : pc (x &&& y) ≤ pc x := pc_sub fun i _ h => by rw [b_and] at h; simp at h; exact h.1
theorem pc_and_r (x y : Int32) : pc (x &&& y) ≤ pc y := pc_sub fun i _ h => by rw [b_and] at h; simp at h; exact h.2
theorem and_comm32 (x y : Int32) : x &&& y = y &&& x := b_ext fun i _ => by rw [b_and, b_and, Bool.and_comm]
theorem z_same_comm (sh : Int32) (q qa : Nat → Int32) : z_same sh q qa = z_same sh qa q := by
  unfold z_same
  rw [z_few_min, z_few_min, Nat.min_comm, and_comm32]
theorem z_bar_c (sh mu num : Int32) (q : Nat → Int32) (a : Int32) (qa : Nat → Int32) (bl br : Int32) : z_bar sh mu num q a qa bl br = (z_comes num q a qa && (decide (qa 7 = 1) && (z_same sh q qa && z_bd mu q bl br))) := by
  unfold z_bar q_om z_comes
  cases q_jd qa <;> simp
/-- what the class finds held of a suit q by a judgment -/
def z_hb (mu num : Int32) (q : Nat → Int32) (a : Int32) (qa : Nat → Int32) (bl br sy sn : Int32) : Int32 :=
  if z_comes num q a qa then ((if z_ag mu true (q 1) (q 0) bl br then (q 4 &&& sy) ||| (q 5 &&& sn) else 0) ||| (if z_ag mu false (q 0) (q 1) bl br then (q 4 &&& sn) ||| (q 5 &&& sy) else 0)) else 0
theorem b_if (c : Bool) (x y : Int32) (i : Nat) : bt (if c = true then x else y) i = (if c = true then bt x i else bt y i) := by cases c <;> rfl
theorem z_hb_bt {e mu num : Int32} {q : Nat → Int32} {a : Int32} {qa : Nat → Int32} {bl br : Int32} {i : Nat} (hi : i < 32) (hd : q 4 &&& q 5 = 0) (hs : bt (q_st e qa) i = true → (bt (qa 9) i || bt (qa 10) i) = true) (hn : qa 9 &&& qa 10 = 0) :
    bt (z_hb mu num q a qa bl br (q_st e qa &&& qa 9) (q_st e qa &&& qa 10)) i = (bt (q_is q) i && z_hold e mu num q a qa bl br (nI i)) := by
  have h1 : bt (q 4 &&& q 5) i = false := by rw [hd, b_0]
  have h2 : bt (qa 9 &&& qa 10) i = false := by rw [hn, b_0]
  rw [b_and] at h1 h2
  unfold z_hb z_hold q_is
  simp only [b_if, b_or, b_and, b_0, hv_bt hi]
  cases z_comes num q a qa
  · simp
  · cases c1 : bt (q 4) i <;> cases c2 : bt (q 5) i <;> cases c3 : bt (q_st e qa) i <;> cases c4 : bt (qa 9) i <;> cases c5 : bt (qa 10) i <;> simp [c1, c2, c3, c4, c5] at h1 h2 hs ⊢
section CB
variable {M : fw_Mem} {a b N : Nat}
theorem e_c_counts (ha : gO st_S 6 a = true) (hb : M a 9 = 0 ∨ M a 9 = 1) : f_X6_counts st_S M a = some (bI (q_jd (cq M a) && !q_rv (cq M a))) := by
  simp only [f_X6_counts, ha, gd_tt, q_jd, q_rv, cq6, cq8]
  rcases hb with e | e <;> by_cases e2 : M a 7 = -1 <;> simp [e, e2, bI]
theorem e_c_isJudged (ha : gO st_S 6 a = true) : f_X6_isJudged st_S M a = some (bI (q_jd (cq M a))) := by
  simp only [f_X6_isJudged, ha, gd_tt, q_jd, cq6]
  by_cases e : M a 7 = -1 <;> simp [e, bI]
theorem e_c_comes (ha : gO st_S 6 a = true) (hb : gO st_S 6 b = true) (hbb : M b 9 = 0 ∨ M b 9 = 1) : f_X2_comesBehind st_S M 121 a b = some (bI (z_comes (M a 0) (cq M a) (M b 0) (cq M b))) := by
  simp only [f_X2_comesBehind, ha, hb, gd_tt, e_c_counts hb hbb, b1_s, bI_0, z_comes, cq2, cq6]
  by_cases e : M a 0 = M b 0
  · simp [e, bI]
  · have e' : ¬ M b 0 = M a 0 := fun h => e h.symm
    simp only [if_neg e, decide_eq_false e']
    cases q_jd (cq M b) <;> cases q_rv (cq M b) <;> by_cases e2 : M a 3 < M b 7 <;> simp [bI, e2]
/-- the rules as they must be -/
def RU (M : fw_Mem) : Prop := ∃ S : Nat, 1 ≤ S ∧ S ≤ 100 ∧ M 7 0 = nI S
theorem e_c_same (h : KC M) (hr : RU M) (ha : gO st_S 6 a = true) (hb : gO st_S 6 b = true) : f_X2_areSame st_S M 121 a b = some (bI (z_same (M 7 0) (cq M b) (cq M a))) := by
  obtain ⟨S, h1, h2, e⟩ := hr
  have p1 := pc_le (M a 4)
  have p2 := pc_le (M b 4)
  have q1 := pc_and_l (M a 4) (M b 4)
  have q2 := pc_and_r (M a 4) (M b 4)
  have hf : (if nI (pc (M b 4)) < nI (pc (M a 4)) then nI (pc (M b 4)) else nI (pc (M a 4))) = nI (min (pc (M b 4)) (pc (M a 4))) := z_few_min (cq M b) (cq M a)
  simp only [f_X2_areSame, ha, hb, gd_tt, e_bc, b1_s, bm_s, gO_121, kc_121_0 h, gN_3, tn_3, gO_3, kc_3_3 h, gN_7, tn_7, gA_7_0, hf, z_same, z_few_min, cq3, e]
  rw [← same_eq h1 h2 (by omega) (by omega) (show pc (M a 4 &&& M b 4) ≤ min (pc (M b 4)) (pc (M a 4)) by omega)]
  by_cases c1 : nI (pc (M a 4 &&& M b 4)) ≤ 0
  · simp [c1, bI]
  · by_cases c2 : nI (pc (M a 4 &&& M b 4)) * 100 < nI S * nI (min (pc (M b 4)) (pc (M a 4))) <;> simp [c1, c2, bI]
theorem e_c_what (h : KC M) (hr : RU M) (ha : gO st_S 6 a = true) (hb : gO st_S 6 b = true) (hm : M a 8 = 0 ∨ M a 8 = 1) : f_X2_barsWhatComes st_S M 121 a b = some (bI (decide (cq M a 7 = 1) && (z_same (M 7 0) (cq M b) (cq M a) && z_bd (M 7 1) (cq M b) (M a 13) (M a 14)))) := by
  simp only [f_X2_barsWhatComes, fj_X2_barsWhatComes_45, fj_X2_barsWhatComes_72, ha, hb, gd_tt, and1, b_and, hv_lo, e_c_same h hr ha hb, b1_s, bI_0, gO_121, kc_121_0 h, gN_3, tn_3, gO_3, kc_3_3 h, gN_7, tn_7, gA_7_1, z_bd, cq0, cq1, cq7]
  rcases hm with e | e
  · simp [e, bI]
  · cases hv (M a 13) (M b 1) <;> cases hv (M a 14) (M b 2) <;> cases hv (M a 14) (M b 1) <;> cases hv (M a 13) (M b 2) <;> cases z_same (M 7 0) (cq M b) (cq M a) <;> by_cases e2 : M 7 1 = 2 <;> simp [e, e2, bI]
/-- the bonds of the class's suits, as the model's row has them -/
def cB (M : fw_Mem) : Nat → Int32 := fun k => M (32 + k / 2) (13 + k % 2)
theorem cB_0 (M : fw_Mem) (i : Nat) : cB M (2 * i) = M (32 + i) 13 := by
  unfold cB
  rw [show 2 * i / 2 = i by omega, show 2 * i % 2 = 0 by omega]
theorem cB_1 (M : fw_Mem) (i : Nat) : cB M (2 * i + 1) = M (32 + i) 14 := by
  unfold cB
  rw [show (2 * i + 1) / 2 = i by omega, show (2 * i + 1) % 2 = 1 by omega]
def BO (M : fw_Mem) (N : Nat) : Prop := ∀ i, i < N → (M (32 + i) 8 = 0 ∨ M (32 + i) 8 = 1) ∧ (M (32 + i) 9 = 0 ∨ M (32 + i) 9 = 1)
theorem e_c_bars (h : KC M) (hr : RU M) (hN : M 3 6 = nI N) (hN2 : N ≤ 10) (hB : BO M N) (ha : gO st_S 6 a = true) : f_X2_barringSuits st_S M 121 a = some (z_bars (M 7 0) (M 7 1) (M a 0) (cq M a) (fun i => cq M (32 + i)) (cB M) N) := by
  obtain ⟨r, h1, h2⟩ := lp_up (fun n x i => lf_X2_barringSuits_4 st_S M 121 a n x (nI i)) N (fun i x => x = z_bars (M 7 0) (M 7 1) (M a 0) (cq M a) (fun i => cq M (32 + i)) (cB M) i) (fun r => r = z_bars (M 7 0) (M 7 1) (M a 0) (cq M a) (fun i => cq M (32 + i)) (cB M) N)
    (by
      rintro n i x hi rfl
      refine ⟨_, rfl, ?_⟩
      have hn : ¬ nI N ≤ nI i := nI_ge hi (by omega)
      have hi : i < 10 := by omega
      have hg := gO_s3 i hi
      have hB' := hB i (by omega)
      simp only [lf_X2_barringSuits_4, gO_121, gd_tt, b1_s, b2_s, bm_s, kc_121_0 h, gN_3, tn_3, gO_3, kc_3_2 h, gN_6, tn_6, gA_6 hi, nI_cl (show i < 2147483648 by omega), kc_s3 h hi, nI_gN (show 32 + i < 2147483648 by omega), nI_cl (show 32 + i < 2147483648 by omega), hg, hN, if_neg hn, e_c_comes ha hg hB'.2, e_c_what h hr hg ha hB'.1, bI_0, nI_1, z_bars, mk, bit, z_bar_c, cB_0, cB_1, kc_n3 h hi]
      rcases bcas (z_comes (M a 0) (cq M a) (nI i) (cq M (32 + i))) with hz | hz
      · rcases bcas (decide (cq M (32 + i) 7 = 1) && (z_same (M 7 0) (cq M a) (cq M (32 + i)) && z_bd (M 7 1) (cq M a) (M (32 + i) 13) (M (32 + i) 14))) with hy | hy <;> simp [hz, hy]
      · simp [hz])
    (by
      rintro n x rfl
      exact ⟨_, by simp only [lf_X2_barringSuits_4, gO_121, gd_tt, kc_121_0 h, gN_3, tn_3, gO_3, hN, if_pos (nI_le (Nat.le_refl N) (show N < 2 ^ 31 by omega))], rfl⟩) _ 0 20000 0 rfl (by omega) (by omega) rfl
  rw [f_X2_barringSuits, show (0 : Int32) = nI 0 from rfl]
  have h1' : lf_X2_barringSuits_4 st_S M 121 a 20000 (nI 0) (nI 0) = some r := h1
  rw [h1', b1_s, h2]
theorem e_c_ha (h : KC M) (ha : gO st_S 6 a = true) {p : Nat} (hp : p < 32) (v : Int32) (x : Int32) : f_X2_holdsAgainst st_S M 121 a (nI p) v x = some (bI (z_ag (M 7 1) (decide (x = 0)) (nI p) v (M a 13) (M a 14))) := by
  simp only [f_X2_holdsAgainst, ha, gd_tt, and1, and1z, b_and, b_or, hv_lo, hv_or hp, bm_s, gO_121, kc_121_0 h, gN_3, tn_3, gO_3, kc_3_3 h, gN_7, tn_7, gA_7_1, z_ag]
  cases hv (M a 13) (nI p) <;> cases hv (M a 14) (nI p) <;> cases hv (M a 14) v <;> cases hv (M a 13) v <;> by_cases e2 : M 7 1 = 2 <;> by_cases e1 : M 7 1 = 1 <;> by_cases e0 : x = 0 <;> simp [e0, e1, e2, bI]
theorem e_c_ha0 (h : KC M) (ha : gO st_S 6 a = true) {p : Nat} (hp : p < 32) (v : Int32) : f_X2_holdsAgainst st_S M 121 a (nI p) v 0 = some (bI (z_ag (M 7 1) true (nI p) v (M a 13) (M a 14))) := e_c_ha h ha hp v 0
theorem e_c_ha1 (h : KC M) (ha : gO st_S 6 a = true) {p : Nat} (hp : p < 32) (v : Int32) : f_X2_holdsAgainst st_S M 121 a (nI p) v 1 = some (bI (z_ag (M 7 1) false (nI p) v (M a 13) (M a 14))) := by
  have := e_c_ha h ha hp v 1
  rwa [show decide ((1 : Int32) = 0) = false by decide] at this
theorem e_c_hb (h : KC M) (ha : gO st_S 6 a = true) (hb : gO st_S 6 b = true) (hv : M a 9 = 0 ∨ M a 9 = 1) {p q : Nat} (hp : p < 32) (hq : q < 32) (ep : M b 1 = nI p) (eq : M b 2 = nI q) : f_X2_heldBy st_S M 121 a b = some (z_hb (M 7 1) (M b 0) (cq M b) (M a 0) (cq M a) (M a 13) (M a 14) (M a 15) (M a 16)) := by
  simp only [f_X2_heldBy, fj_X2_heldBy_61, ha, hb, gd_tt, gO_121, e_c_comes hb ha hv, b1_s, bI_0, bm_s, ep, eq, e_c_ha0 h ha hq, e_c_ha1 h ha hp, z_hb, cq0, cq1, cq4, cq5]
  cases z_comes (M b 0) (cq M b) (M a 0) (cq M a) <;> cases z_ag (M 7 1) true (nI q) (nI p) (M a 13) (M a 14) <;> cases z_ag (M 7 1) false (nI p) (nI q) (M a 13) (M a 14) <;> simp
end CB
