/-! ===== the class's weighing: who holds which issue ===== -/
theorem kc_bf {M M' : fw_Mem} (h : KC M) (hf : ∀ b, b < 121 ∨ 126 < b → M' b = M b) (h1 : ∀ j, j < 6 → M' 121 j = M 121 j) : KC M' := by
  refine kc_cong h fun q hq => ?_
  have h2 := List.all_eq_true.mp (by decide +kernel : (kcl.all fun q => (decide (q.1 < 121) || decide (126 < q.1)) || (q.1 == 121 && decide (q.2.1 < 6))) = true) q hq
  simp only [Bool.or_eq_true, decide_eq_true_eq, Bool.and_eq_true, beq_iff_eq] at h2
  rcases h2 with h2 | ⟨h2, h3⟩
  · rw [hf _ h2]
  · rw [h2]; exact h1 _ h3
theorem cq_fr {M M' : fw_Mem} {a : Nat} (h : M' a = M a) : cq M' a = cq M a := by unfold cq; rw [h]
/-- what the class finds held of the suit at a by its i-th suit -/
def hbv (M : fw_Mem) (a i : Nat) : Int32 := z_hb (M 7 1) (M a 0) (cq M a) (nI i) (cq M (32 + i)) (M (32 + i) 13) (M (32 + i) 14) (M (32 + i) 15) (M (32 + i) 16)
def hoC (M : fw_Mem) (a n t : Nat) : Option Nat := z_ho (fun i => bt (hbv M a i) t) (fun i => M (32 + i) 7) n
def ybC (M : fw_Mem) (f : Nat) (o : Option Nat) (t : Nat) : Bool := match o with
  | none => false
  | some c => bt (M (32 + c) f) t
def WS (M : fw_Mem) (a : Nat) (n : Nat → Nat) (M' : fw_Mem) : Prop := (∀ b, b ≠ 121 → b ≠ 122 → M' b = M b) ∧ (∀ j, j ≠ 6 → j ≠ 7 → M' 121 j = M 121 j) ∧ (∀ t, t < 31 → M' 122 t = oI (hoC M a (n t) t)) ∧ (∀ t, t < 32 → bt (M' 121 6) t = (decide (t < 31) && ybC M 10 (hoC M a (n t) t) t)) ∧ (∀ t, t < 32 → bt (M' 121 7) t = (decide (t < 31) && ybC M 11 (hoC M a (n t) t) t))
theorem ws_kc {M M' : fw_Mem} {a : Nat} {n : Nat → Nat} (h : KC M) (w : WS M a n M') : KC M' := kc_bf h (fun b hb => w.1 b (by omega) (by omega)) (fun j hj => w.2.1 j (by omega) (by omega))
theorem ws_cong {M M' : fw_Mem} {a : Nat} {n n' : Nat → Nat} (w : WS M a n M') (e : ∀ t, t < 31 → hoC M a (n t) t = hoC M a (n' t) t) : WS M a n' M' := by
  refine ⟨w.1, w.2.1, fun t ht => by rw [← e t ht]; exact w.2.2.1 t ht, fun t ht => ?_, fun t ht => ?_⟩
  · rw [w.2.2.2.1 t ht]
    by_cases h : t < 31
    · rw [e t h]
    · simp [h]
  · rw [w.2.2.2.2 t ht]
    by_cases h : t < 31
    · rw [e t h]
    · simp [h]
theorem gL_122 : gL st_S 0 122 = true := by decide +kernel
theorem gL_125 : gL st_S 0 125 = true := by decide +kernel
theorem e_fill {b n : Nat} (hg : gL st_S 0 b = true) (hl : fw_len2 st_S 0 b = n) (hn : n < 20000) (M : fw_Mem) (v : Int32) : ∃ M', f_J7_fill_53178 st_S M b v = some M' ∧ (∀ c, c ≠ b → M' c = M c) ∧ ∀ j, j < n → M' b j = v := by
  obtain ⟨r, h1, h2⟩ := lp_up (fun m (M' : fw_Mem) i => lf_J7_fill_53178_5 st_S b v (nI n) m (nI i) M') n (fun i M' => (∀ c, c ≠ b → M' c = M c) ∧ ∀ j, j < i → M' b j = v) (fun M' => (∀ c, c ≠ b → M' c = M c) ∧ ∀ j, j < n → M' b j = v)
    (by
      rintro m i M' hi ⟨h1, h2⟩
      refine ⟨fw_set M' b i v, ⟨fun c hc => ?_, fun j hj => ?_⟩, ?_⟩
      · rw [set_nr M' i v hc, h1 c hc]
      · by_cases e : j = i
        · subst e; rw [set_eq]
        · rw [set_nk M' b b v e]; exact h2 j (by omega)
      · simp only [lf_J7_fill_53178_5, if_neg (nI_ge hi (by omega) : ¬ nI n ≤ nI i), gA_at n hl hi (by omega) rfl, gd_tt, bm_s, nI_cl (show i < 2147483648 by omega), nI_1])
    (by
      rintro m M' h
      exact ⟨M', by simp only [lf_J7_fill_53178_5, if_pos (nI_le (Nat.le_refl n) (show n < 2 ^ 31 by omega))], h⟩) _ 0 20000 M rfl (by omega) (by omega) ⟨fun _ _ => rfl, fun j hj => absurd hj (by omega)⟩
  refine ⟨r, ?_, h2⟩
  have h1' : lf_J7_fill_53178_5 st_S b v (nI n) 20000 0 M = some r := h1
  simp only [f_J7_fill_53178, hg, gd_tt, hl, h1', b1_s]
section WG
variable {M M' : fw_Mem} {a b N k i : Nat}
theorem e_c_over0 (h : KC M') (hk : k < 31) (ho : M' 122 k = oI none) : f_X2_countsOverHolder st_S M' 121 b (nI k) = some 1 := by
  simp only [f_X2_countsOverHolder, gO_121, gd_tt, kc_121_1 h, gN_122, tn_122, gA_122 hk, nI_cl (show k < 2147483648 by omega), bm_s, ho, if_pos (show oI none < 0 by decide), fj_X2_countsOverHolder_27, if_neg (show ¬ (1 : Int32) = 0 by decide)]
theorem e_c_over1 (h : KC M') (hk : k < 31) {c : Nat} (hi : c < 10) (hN : M' 3 6 = nI N) (hcN : c < N) (hN2 : N ≤ 10) (ho : M' 122 k = oI (some c)) (hg : gO st_S 6 b = true) : f_X2_countsOverHolder st_S M' 121 b (nI k) = some (bI (!decide (M' b 7 < M' (32 + c) 7))) := by
  simp only [f_X2_countsOverHolder, gO_121, gd_tt, kc_121_1 h, gN_122, tn_122, gA_122 hk, nI_cl (show k < 2147483648 by omega), bm_s, ho]
  have hg' := gO_s3 c hi
  have h0 : ¬ nI c < 0 := Int32.not_lt.mpr (nI_le (a := 0) (Nat.zero_le c) (by omega))
  have h1 : nI c < nI N := Int32.not_le.mp (nI_ge hcN (by omega))
  simp only [oI, if_neg h0, hN, if_pos h1, fj_X2_countsOverHolder_27, if_true, gO_121, hg, gd_tt, kc_121_0 h, gN_3, tn_3, gO_3, kc_3_2 h, gN_6, tn_6, gA_6 hi, nI_cl (show c < 2147483648 by omega), kc_s3 h hi, nI_gN (show 32 + c < 2147483648 by omega), nI_cl (show 32 + c < 2147483648 by omega), hg']
  by_cases e : M' b 7 < M' (32 + c) 7 <;> simp [e, bI]
theorem e_c_seth (h : KC M') (hk : k < 31) (hg : gO st_S 6 b = true) (hb : b ≠ 121) (hb2 : b ≠ 122) : f_X2_setHolder st_S M' 121 b (nI k) = some (fw_set (fw_set (fw_set M' 122 k (M' b 0)) 121 6 ((M' 121 6 &&& (bit k ^^^ (-1))) ||| (M' b 10 &&& bit k))) 121 7 ((M' 121 7 &&& (bit k ^^^ (-1))) ||| (M' b 11 &&& bit k))) := by
  simp only [f_X2_setHolder, bm_s, gO_121, gd_tt, kc_121_1 h, gN_122, tn_122, hg, gA_122 hk, nI_cl (show k < 2147483648 by omega), set_na _ _ _ _ (show (121 : Nat) ≠ 122 by decide), set_na _ _ _ _ hb2, set_na _ _ _ _ hb, set_nk _ _ _ _ (show (7 : Nat) ≠ 6 by decide), bit]
theorem b_put {x y : Int32} {k t : Nat} (hk : k < 32) (ht : t < 32) : bt ((x &&& (bit k ^^^ (-1))) ||| (y &&& bit k)) t = if t = k then bt y t else bt x t := by
  rw [b_or, b_and, b_and, b_not _ ht, bt_bit hk]
  by_cases e : t = k <;> simp [e]
theorem ws_step (h : KC M) (hi : i < 10) (hN : M 3 6 = nI N) (hiN : i < N) (hN2 : N ≤ 10) (hk : k < 31) (w : WS M a (fun t => if t < k then i + 1 else i) M') : ∃ M'', WS M a (fun t => if t < k + 1 then i + 1 else i) M'' ∧ ((bt (hbv M a i) k = false ∧ M'' = M') ∨ (bt (hbv M a i) k = true ∧ ∃ v, f_X2_countsOverHolder st_S M' 121 (32 + i) (nI k) = some v ∧ ((v = 0 ∧ M'' = M') ∨ (v ≠ 0 ∧ f_X2_setHolder st_S M' 121 (32 + i) (nI k) = some M'')))) := by
  have hkc := ws_kc h w
  have hg := gO_s3 i hi
  have hrow : M' (32 + i) = M (32 + i) := w.1 _ (by omega) (by omega)
  have ho : M' 122 k = oI (hoC M a i k) := by have := w.2.2.1 k hk; simpa using this
  have hlt : ∀ c, hoC M a i k = some c → c < i := fun c hc => z_ho_lt hc
  have hz : hoC M a (i + 1) k = if bt (hbv M a i) k then (match hoC M a i k with
    | none => some i
    | some b => if M (32 + i) 7 < M (32 + b) 7 then some b else some i) else hoC M a i k := rfl
  have hsame : hoC M a (i + 1) k = hoC M a i k → WS M a (fun t => if t < k + 1 then i + 1 else i) M' := fun e => ws_cong w fun t ht => by
    by_cases e1 : t = k
    · subst e1; simp [e]
    · by_cases e2 : t < k
      · simp [e2, show t < k + 1 by omega]
      · simp [e2, show ¬ t < k + 1 by omega]
  have hnew : hoC M a (i + 1) k = some i → WS M a (fun t => if t < k + 1 then i + 1 else i) (fw_set (fw_set (fw_set M' 122 k (M' (32 + i) 0)) 121 6 ((M' 121 6 &&& (bit k ^^^ (-1))) ||| (M' (32 + i) 10 &&& bit k))) 121 7 ((M' 121 7 &&& (bit k ^^^ (-1))) ||| (M' (32 + i) 11 &&& bit k))) := by
    intro e
    have e3 : ∀ t, t ≠ k → (if t < k + 1 then i + 1 else i) = (if t < k then i + 1 else i) := fun t ht => by
      by_cases e2 : t < k
      · simp [e2, show t < k + 1 by omega]
      · simp [e2, show ¬ t < k + 1 by omega]
    refine ⟨fun b h1 h2 => ?_, fun j h1 h2 => ?_, fun t ht => ?_, fun t ht => ?_, fun t ht => ?_⟩
    · rw [set_nr _ _ _ h1, set_nr _ _ _ h1, set_nr _ _ _ h2, w.1 b h1 h2]
    · rw [set_nk _ _ _ _ h2, set_nk _ _ _ _ h1, set_na _ _ _ _ (by decide), w.2.1 j h1 h2]
    · rw [set_na _ _ _ _ (by decide), set_na _ _ _ _ (by decide)]
      by_cases e1 : t = k
      · subst e1
        rw [set_eq]
        simp only [show t < t + 1 by omega, if_pos, e, oI, hrow]
        exact kc_n3 h hi
      · rw [set_nk _ _ _ _ e1, w.2.2.1 t ht]
        simp only [e3 t e1]
    · rw [set_nk _ _ _ _ (show (6 : Nat) ≠ 7 by decide), set_eq, b_put (by omega) ht]
      by_cases e1 : t = k
      · subst e1
        simp only [show t < t + 1 by omega, if_pos, e, ybC, hrow, hk, decide_true, Bool.true_and]
      · rw [if_neg e1, w.2.2.2.1 t ht]
        simp only [e3 t e1]
    · rw [set_eq, b_put (by omega) ht]
      by_cases e1 : t = k
      · subst e1
        simp only [show t < t + 1 by omega, if_pos, e, ybC, hrow, hk, decide_true, Bool.true_and]
      · rw [if_neg e1, w.2.2.2.2 t ht]
        simp only [e3 t e1]
  rcases bcas (bt (hbv M a i) k) with hb | hb
  · rw [hb] at hz
    simp only [if_pos] at hz
    cases ho' : hoC M a i k with
    | none =>
      rw [ho'] at hz ho
      have hov := e_c_over0 (b := 32 + i) hkc hk ho
      exact ⟨_, hnew hz, Or.inr ⟨hb, _, hov, Or.inr ⟨by decide, e_c_seth hkc hk hg (by omega) (by omega)⟩⟩⟩
    | some c =>
      have hc := hlt c ho'
      rw [ho'] at hz ho
      have hov := e_c_over1 hkc hk (by omega) (by rw [w.1 3 (by decide) (by decide)]; exact hN) (show c < N by omega) hN2 ho hg
      simp only [hrow, w.1 (32 + c) (by omega) (by omega)] at hov
      simp only [] at hz
      by_cases e : M (32 + i) 7 < M (32 + c) 7
      · rw [if_pos e] at hz
        exact ⟨M', hsame (by rw [hz, ho']), Or.inr ⟨hb, _, hov, Or.inl ⟨by simp [e, bI], rfl⟩⟩⟩
      · rw [if_neg e] at hz
        exact ⟨_, hnew hz, Or.inr ⟨hb, _, hov, Or.inr ⟨by simp [e, bI], e_c_seth hkc hk hg (by omega) (by omega)⟩⟩⟩
  · rw [hb] at hz
    exact ⟨M', hsame (by rw [hz]; simp), Or.inl ⟨hb, rfl⟩⟩
theorem ws_in (h : KC M) (hi : i < 10) (hN : M 3 6 = nI N) (hiN : i < N) (hN2 : N ≤ 10) (x2 : Int32) (w : WS M a (fun _ => i) M') : ∃ M'', lf_X2_weigh_52 st_S 121 a x2 (32 + i) (hbv M a i) 20000 0 M' = some M'' ∧ WS M a (fun _ => i + 1) M'' := by
  by_cases h0 : hbv M a i = 0
  · refine ⟨M', ?_, ws_cong w fun t _ => ?_⟩
    · show lf_X2_weigh_52 st_S 121 a x2 (32 + i) (hbv M a i) (19999 + 1) 0 M' = _
      rw [lf_X2_weigh_52, if_neg (by decide), if_pos h0]
    · show hoC M a i t = hoC M a (i + 1) t
      unfold hoC
      rw [z_ho, h0, b_0]
      simp
  · obtain ⟨r, h1, h2⟩ := lp_up (fun n (m : fw_Mem) k => lf_X2_weigh_52 st_S 121 a x2 (32 + i) (hbv M a i) n (nI k) m) 31 (fun k m => WS M a (fun t => if t < k then i + 1 else i) m) (fun m => WS M a (fun _ => i + 1) m)
      (by
        rintro n k m hk w
        obtain ⟨M'', w2, hc⟩ := ws_step h hi hN hiN hN2 hk w
        refine ⟨M'', w2, ?_⟩
        have hn : ¬ (31 : Int32) ≤ nI k := nI_ge (b := 31) hk (by omega)
        simp only [lf_X2_weigh_52, if_neg hn, if_neg h0, and1, hv_lo, hv_bt (show k < 32 by omega), gO_121, gd_tt]
        rcases hc with ⟨c1, rfl⟩ | ⟨c1, v, c2, c3⟩
        · simp [c1, nI_1]
        · rw [if_pos c1, c2, b1_s]
          rcases c3 with ⟨rfl, rfl⟩ | ⟨c3, c4⟩
          · simp [nI_1]
          · rw [if_neg c3, c4, b1_s, nI_1])
      (by
        rintro n m w
        refine ⟨m, by simp only [lf_X2_weigh_52, if_pos (show (31 : Int32) ≤ nI 31 by decide)], ws_cong w fun t ht => by simp [ht]⟩) _ 0 20000 M' rfl (by omega) (by omega) (ws_cong w fun t _ => by simp)
    exact ⟨r, h1, h2⟩
theorem e_weigh (h : KC M) (hN : M 3 6 = nI N) (hN2 : N ≤ 10) (hB : BO M N) (ha : gO st_S 6 a = true) (ha1 : a ≠ 121) (ha2 : a ≠ 122) {p q : Nat} (hp : p < 32) (hq : q < 32) (ep : M a 1 = nI p) (eq : M a 2 = nI q) : ∃ M', f_X2_weigh st_S M 121 a = some M' ∧ WS M a (fun _ => N) M' := by
  obtain ⟨M3, f1, f2, f3⟩ := e_fill gL_122 len_122 (by omega) M (-1)
  have h3 : KC M3 := kc_bf h (fun b hb => f2 b (by omega)) (fun j _ => by rw [f2 121 (by decide)])
  have w0 : WS M a (fun _ => 0) (fw_set (fw_set M3 121 6 0) 121 7 0) := by
    refine ⟨fun b h1 h2 => ?_, fun j h1 h2 => ?_, fun t ht => ?_, fun t ht => ?_, fun t ht => ?_⟩
    · rw [set_nr _ _ _ h1, set_nr _ _ _ h1, f2 b h2]
    · rw [set_nk _ _ _ _ h2, set_nk _ _ _ _ h1, f2 121 (by decide)]
    · rw [set_na _ _ _ _ (by decide), set_na _ _ _ _ (by decide), f3 t ht]
      rfl
    · rw [set_nk _ _ _ _ (show (6 : Nat) ≠ 7 by decide), set_eq, b_0]
      simp [hoC, z_ho, ybC]
    · rw [set_eq, b_0]
      simp [hoC, z_ho, ybC]
  obtain ⟨r, h1, h2⟩ := lp_up (fun n (m : fw_Mem) i => lf_X2_weigh_20 st_S 121 a n (nI i) m) N (fun i m => WS M a (fun _ => i) m) (fun m => WS M a (fun _ => N) m)
    (by
      rintro n i m hiN w
      have hi : i < 10 := by omega
      have hn : ¬ nI N ≤ nI i := nI_ge hiN (by omega)
      have hm := ws_kc h w
      have hg := gO_s3 i hi
      obtain ⟨M'', w1, w2⟩ := ws_in h hi hN hiN hN2 (nI i) w
      refine ⟨M'', w2, ?_⟩
      have ea : m a = M a := w.1 a ha1 ha2
      have ei : m (32 + i) = M (32 + i) := w.1 _ (by omega) (by omega)
      have hb := e_c_hb hm hg ha (by rw [ei]; exact (hB i hiN).2) hp hq (by rw [ea]; exact ep) (by rw [ea]; exact eq)
      rw [ea, ei, cq_fr ea, cq_fr ei, w.1 7 (by decide) (by decide), kc_n3 h hi] at hb
      have hb : f_X2_heldBy st_S m 121 (32 + i) a = some (hbv M a i) := hb
      have h3N : m 3 6 = nI N := by rw [w.1 3 (by decide) (by decide)]; exact hN
      have h := hm
      simp only [lf_X2_weigh_20, gO_121, gd_tt, b1_s, b2_s, bm_s, kc_121_0 h, gN_3, tn_3, gO_3, kc_3_2 h, gN_6, tn_6, gA_6 hi, nI_cl (show i < 2147483648 by omega), kc_s3 h hi, nI_gN (show 32 + i < 2147483648 by omega), nI_cl (show 32 + i < 2147483648 by omega), hg, h3N, if_neg hn, hb, w1, nI_1])
    (by
      rintro n m w
      have hm := ws_kc h w
      have h3N : m 3 6 = nI N := by rw [w.1 3 (by decide) (by decide)]; exact hN
      exact ⟨m, by simp only [lf_X2_weigh_20, gO_121, gd_tt, kc_121_0 hm, gN_3, tn_3, gO_3, h3N, if_pos (nI_le (Nat.le_refl N) (show N < 2 ^ 31 by omega))], w⟩) _ 0 20000 _ rfl (by omega) (by omega) w0
  refine ⟨r, ?_, h2⟩
  have h1' : lf_X2_weigh_20 st_S 121 a 20000 0 (fw_set (fw_set M3 121 6 0) 121 7 0) = some r := h1
  simp only [f_X2_weigh, gO_121, gd_tt, kc_121_1 h, gN_122, tn_122, f1, b1_s, bm_s, h1']
end WG
