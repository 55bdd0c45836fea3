/-! ===== the model's readers, over its row r = M 137 ===== -/
/-- a suit of a row; a link of a row -/
def sq (r : Nat → Int32) (s : Nat) : Nat → Int32 := fun j => if j < 12 then r (198 + 12 * s + j) else 0
def lq (r : Nat → Int32) (l : Nat) : Nat → Int32 := fun j => if j < 5 then r (78 + 5 * l + j) else 0
def hv (x v : Int32) : Bool := decide (((x >>> (v &&& 31)) &&& 1) = 1)
theorem hv_n (x : Int32) (i : Nat) : hv x (nI i) = hs x i := rfl
theorem hv_bt {x : Int32} {i : Nat} (h : i < 32) : hv x (nI i) = bt x i := hs_bt h
theorem e_has (S : List fw_Sh) (M : fw_Mem) (x v : Int32) : f_X10_has S M x v = some (bI (hv x v)) := by
  unfold f_X10_has hv
  rw [bI_d]
theorem e_isIn (S : List fw_Sh) (M : fw_Mem) (v a b : Int32) : f_X10_isIn S M v a b = some (bI (decide (¬ v < a ∧ ¬ b < v))) := by
  unfold f_X10_isIn
  by_cases h1 : v < a <;> by_cases h2 : b < v <;> simp [h1, h2, bI]
theorem e_of {M : fw_Mem} (h : KC M) {s w : Nat} (hs : s ≤ 10) (hw : w < 12) {x : Int32} (hx : x = nI w) : f_X10_of st_S M 136 (nI s) x = some (sq (M 137) s w) := by
  subst hx
  simp only [f_X10_of, gO_136, gd_tt, b1_s, b2_s, bm_s, kc_136_0 h, gN_137, tn_137, bI_0, bI_1, bI_gB, l_198, l_12, nI_mul, nI_add, gA_137 (show 198 + 12 * s + w < 330 by omega), nI_cl (show 198 + 12 * s + w < 2147483648 by omega), sq, if_pos hw]
theorem e_of0 {M : fw_Mem} (h : KC M) {s : Nat} (hs : s ≤ 10) : f_X10_of st_S M 136 (nI s) 0 = some (sq (M 137) s 0) := e_of h hs (by omega) rfl
theorem e_of1 {M : fw_Mem} (h : KC M) {s : Nat} (hs : s ≤ 10) : f_X10_of st_S M 136 (nI s) 1 = some (sq (M 137) s 1) := e_of h hs (by omega) rfl
theorem e_of2 {M : fw_Mem} (h : KC M) {s : Nat} (hs : s ≤ 10) : f_X10_of st_S M 136 (nI s) 2 = some (sq (M 137) s 2) := e_of h hs (by omega) rfl
theorem e_of3 {M : fw_Mem} (h : KC M) {s : Nat} (hs : s ≤ 10) : f_X10_of st_S M 136 (nI s) 3 = some (sq (M 137) s 3) := e_of h hs (by omega) rfl
theorem e_of4 {M : fw_Mem} (h : KC M) {s : Nat} (hs : s ≤ 10) : f_X10_of st_S M 136 (nI s) 4 = some (sq (M 137) s 4) := e_of h hs (by omega) rfl
theorem e_of5 {M : fw_Mem} (h : KC M) {s : Nat} (hs : s ≤ 10) : f_X10_of st_S M 136 (nI s) 5 = some (sq (M 137) s 5) := e_of h hs (by omega) rfl
theorem e_of6 {M : fw_Mem} (h : KC M) {s : Nat} (hs : s ≤ 10) : f_X10_of st_S M 136 (nI s) 6 = some (sq (M 137) s 6) := e_of h hs (by omega) rfl
theorem e_of7 {M : fw_Mem} (h : KC M) {s : Nat} (hs : s ≤ 10) : f_X10_of st_S M 136 (nI s) 7 = some (sq (M 137) s 7) := e_of h hs (by omega) rfl
theorem e_of8 {M : fw_Mem} (h : KC M) {s : Nat} (hs : s ≤ 10) : f_X10_of st_S M 136 (nI s) 8 = some (sq (M 137) s 8) := e_of h hs (by omega) rfl
theorem e_of9 {M : fw_Mem} (h : KC M) {s : Nat} (hs : s ≤ 10) : f_X10_of st_S M 136 (nI s) 9 = some (sq (M 137) s 9) := e_of h hs (by omega) rfl
theorem e_of10 {M : fw_Mem} (h : KC M) {s : Nat} (hs : s ≤ 10) : f_X10_of st_S M 136 (nI s) 10 = some (sq (M 137) s 10) := e_of h hs (by omega) rfl
theorem e_of11 {M : fw_Mem} (h : KC M) {s : Nat} (hs : s ≤ 10) : f_X10_of st_S M 136 (nI s) 11 = some (sq (M 137) s 11) := e_of h hs (by omega) rfl
theorem e_lk {M : fw_Mem} (h : KC M) {s w : Nat} (hs : s < 24) (hw : w < 5) {x : Int32} (hx : x = nI w) : f_X10_linkOf st_S M 136 (nI s) x = some (lq (M 137) s w) := by
  subst hx
  simp only [f_X10_linkOf, gO_136, gd_tt, b1_s, b2_s, bm_s, kc_136_0 h, gN_137, tn_137, bI_0, bI_1, bI_gB, l_78, l_5, nI_mul, nI_add, gA_137 (show 78 + 5 * s + w < 330 by omega), nI_cl (show 78 + 5 * s + w < 2147483648 by omega), lq, if_pos hw]
theorem e_lk0 {M : fw_Mem} (h : KC M) {s : Nat} (hs : s < 24) : f_X10_linkOf st_S M 136 (nI s) 0 = some (lq (M 137) s 0) := e_lk h hs (by omega) rfl
theorem e_lk1 {M : fw_Mem} (h : KC M) {s : Nat} (hs : s < 24) : f_X10_linkOf st_S M 136 (nI s) 1 = some (lq (M 137) s 1) := e_lk h hs (by omega) rfl
theorem e_lk2 {M : fw_Mem} (h : KC M) {s : Nat} (hs : s < 24) : f_X10_linkOf st_S M 136 (nI s) 2 = some (lq (M 137) s 2) := e_lk h hs (by omega) rfl
theorem e_lk3 {M : fw_Mem} (h : KC M) {s : Nat} (hs : s < 24) : f_X10_linkOf st_S M 136 (nI s) 3 = some (lq (M 137) s 3) := e_lk h hs (by omega) rfl
theorem e_lk4 {M : fw_Mem} (h : KC M) {s : Nat} (hs : s < 24) : f_X10_linkOf st_S M 136 (nI s) 4 = some (lq (M 137) s 4) := e_lk h hs (by omega) rfl
theorem e_persons {M : fw_Mem} (h : KC M) : f_X10_persons st_S M 136 = some (M 137 0) := by simp only [f_X10_persons, gO_136, gd_tt, b1_s, b2_s, bm_s, kc_136_0 h, gN_137, tn_137, bI_0, bI_1, bI_gB, gA_137_0]
theorem e_links {M : fw_Mem} (h : KC M) : f_X10_links st_S M 136 = some (M 137 1) := by simp only [f_X10_links, gO_136, gd_tt, b1_s, b2_s, bm_s, kc_136_0 h, gN_137, tn_137, bI_0, bI_1, bI_gB, gA_137_1]
theorem e_suits {M : fw_Mem} (h : KC M) : f_X10_suits st_S M 136 = some (M 137 2) := by simp only [f_X10_suits, gO_136, gd_tt, b1_s, b2_s, bm_s, kc_136_0 h, gN_137, tn_137, bI_0, bI_1, bI_gB, gA_137_2]
theorem e_isPerson {M : fw_Mem} (h : KC M) (x : Int32) : f_X10_isPerson st_S M 136 x = some (bI (decide (¬ x < 0 ∧ ¬ M 137 0 - 1 < x))) := by simp only [f_X10_isPerson, gO_136, gd_tt, b1_s, b2_s, bm_s, kc_136_0 h, gN_137, tn_137, bI_0, bI_1, bI_gB, e_persons h, e_isIn]
theorem e_isSuit {M : fw_Mem} (h : KC M) (x : Int32) : f_X10_isSuit st_S M 136 x = some (bI (decide (¬ x < 0 ∧ ¬ M 137 2 - 1 < x))) := by simp only [f_X10_isSuit, gO_136, gd_tt, b1_s, b2_s, bm_s, kc_136_0 h, gN_137, tn_137, bI_0, bI_1, bI_gB, e_suits h, e_isIn]
/-! a suit by itself: q is its view -/
def q_jd (q : Nat → Int32) : Bool := decide (¬ q 6 = -1)
def q_rv (q : Nat → Int32) : Bool := decide (q 8 = 1)
def q_om (q : Nat → Int32) : Bool := q_jd q && decide (q 7 = 1)
def q_is (q : Nat → Int32) : Int32 := q 4 ||| q 5
def q_wn (q : Nat → Int32) : Int32 := if q_om q then (if (q 4 &&& (q 9 ^^^ (-1))) = 0 then (if (q 5 &&& q 9) = 0 then 0 else 1) else 1) else -1
def q_gr (q : Nat → Int32) : Int32 := (q 4 &&& q 10) ||| (q 5 &&& q 9)
def q_nc (e : Int32) (q : Nat → Int32) : Int32 := if q_wn q = -1 then 0 else if q_wn q = 0 then q 4 ||| (q 5 &&& q 10) else if nI (pc (q_gr q)) = 1 then q_gr q else if e = 1 then q_gr q else 0
def q_st (e : Int32) (q : Nat → Int32) : Int32 := if q_rv q = false then q_nc e q &&& (q 11 ^^^ (-1)) else 0
section PM
variable {M : fw_Mem} {s : Nat}
theorem e_isJudged (h : KC M) (hs : s ≤ 10) : f_X10_isJudged st_S M 136 (nI s) = some (bI (q_jd (sq (M 137) s))) := by simp only [f_X10_isJudged, gO_136, gd_tt, b1_s, b2_s, bm_s, kc_136_0 h, gN_137, tn_137, bI_0, bI_1, bI_gB, e_of6 h hs, bI_dn, q_jd]
theorem e_isReversed (h : KC M) (hs : s ≤ 10) : f_X10_isReversed st_S M 136 (nI s) = some (bI (q_rv (sq (M 137) s))) := by simp only [f_X10_isReversed, gO_136, gd_tt, b1_s, b2_s, bm_s, kc_136_0 h, gN_137, tn_137, bI_0, bI_1, bI_gB, e_of8 h hs, bI_d, q_rv]
theorem e_isOnMerits (h : KC M) (hs : s ≤ 10) : f_X10_isOnMerits st_S M 136 (nI s) = some (bI (q_om (sq (M 137) s))) := by
  simp only [f_X10_isOnMerits, gO_136, gd_tt, b1_s, b2_s, bm_s, kc_136_0 h, gN_137, tn_137, bI_0, bI_1, bI_gB, e_isJudged h hs, e_of7 h hs, bI_d, q_om]
  cases q_jd (sq (M 137) s) <;> simp [bI]
theorem e_issuesOf (h : KC M) (hs : s ≤ 10) : f_X10_issuesOf st_S M 136 (nI s) = some (q_is (sq (M 137) s)) := by simp only [f_X10_issuesOf, gO_136, gd_tt, b1_s, b2_s, bm_s, kc_136_0 h, gN_137, tn_137, bI_0, bI_1, bI_gB, e_of4 h hs, e_of5 h hs, q_is]
theorem e_winsOf (h : KC M) (hs : s ≤ 10) : f_X10_winsOf st_S M 136 (nI s) = some (q_wn (sq (M 137) s)) := by
  simp only [f_X10_winsOf, gO_136, gd_tt, b1_s, b2_s, bm_s, kc_136_0 h, gN_137, tn_137, bI_0, bI_1, bI_gB, e_isOnMerits h hs, e_of4 h hs, e_of5 h hs, e_of9 h hs, q_wn]
  cases q_om (sq (M 137) s)
  · rfl
  · simp only [if_neg (show ¬ (true = false) by decide), if_pos]
    split
    · split <;> rfl
    · rfl
theorem e_groundsOf (h : KC M) (hs : s ≤ 10) : f_X10_groundsOf st_S M 136 (nI s) = some (q_gr (sq (M 137) s)) := by simp only [f_X10_groundsOf, gO_136, gd_tt, b1_s, b2_s, bm_s, kc_136_0 h, gN_137, tn_137, bI_0, bI_1, bI_gB, e_of4 h hs, e_of5 h hs, e_of9 h hs, e_of10 h hs, q_gr]
theorem e_necessaryOf (h : KC M) (hs : s ≤ 10) : f_X10_necessaryOf st_S M 136 (nI s) = some (q_nc (M 137 5) (sq (M 137) s)) := by
  simp only [f_X10_necessaryOf, gO_136, gd_tt, b1_s, b2_s, bm_s, kc_136_0 h, gN_137, tn_137, bI_0, bI_1, bI_gB, e_winsOf h hs, e_groundsOf h hs, e_of4 h hs, e_of5 h hs, e_of10 h hs, e_bits, gA_137_5, q_nc]
  split
  · rfl
  · split
    · rfl
    · split
      · rfl
      · split <;> rfl
theorem e_settledOf (h : KC M) (hs : s ≤ 10) : f_X10_settledOf st_S M 136 (nI s) = some (q_st (M 137 5) (sq (M 137) s)) := by
  simp only [f_X10_settledOf, gO_136, gd_tt, b1_s, b2_s, bm_s, kc_136_0 h, gN_137, tn_137, bI_0, bI_1, bI_gB, e_isReversed h hs, e_necessaryOf h hs, e_of11 h hs, q_st]
  split <;> rfl
theorem e_foundYes (h : KC M) (hs : s ≤ 10) (x : Int32) : f_X10_foundYes st_S M 136 (nI s) x = some (bI (hv (sq (M 137) s 9) x)) := by simp only [f_X10_foundYes, gO_136, gd_tt, b1_s, b2_s, bm_s, kc_136_0 h, gN_137, tn_137, bI_0, bI_1, bI_gB, e_of9 h hs, e_has]
/-! links -/
def bnd (k : Nat → Int32) (day : Int32) : Bool := if k 2 = 1 then decide (¬ day < k 3 ∧ ¬ k 4 < day) else decide (¬ k 3 < day)
theorem e_binds (h : KC M) (hs : s < 24) (day : Int32) : f_X10_binds st_S M 136 (nI s) day = some (bI (bnd (lq (M 137) s) day)) := by
  simp only [f_X10_binds, gO_136, gd_tt, b1_s, b2_s, bm_s, kc_136_0 h, gN_137, tn_137, bI_0, bI_1, bI_gB, e_lk2 h hs, e_lk3 h hs, e_lk4 h hs, e_isIn, bI_dn, bnd]
  split <;> rfl
end PM
