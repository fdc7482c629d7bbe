/-! basins and doors: what an hour asks -/
theorem k_turnW {q : Nat} {i : ab_I} (w : Int32) (hq : ab_gt GF q = (0, 0)) : ab_K 1 17 [.ref q, .int w] i (ab_N (if i q 5 = nI 0 then ab_up i q 2 (ab_mx (nI 0) (ab_mn (nI 99) (i q 2 + cmpI w (nI 0) * i q 3))) else i)) := by
  refine k_of rfl ?_
  refine r_go 2 rfl ?_ ?_
  · (first | exact trivial | assumption | (simp (disch := omega) [ab_all, ab_nz, *]; done))
  refine r_br rfl (fun h4 => ?_) (fun h4 => ?_)
  · skip
    refine r_ret rfl trivial ?_
    first | (rw [if_pos (Classical.not_not.mp h4)]; exact ⟨rfl, rfl⟩) | (rw [if_neg h4]; exact ⟨rfl, rfl⟩)
  · skip
    refine r_go 7 rfl ?_ ?_
    · (first | exact trivial | assumption | (simp (disch := omega) [ab_all, ab_nz, *]; done))
    refine r_cv rfl trivial ((k_compare _ _)) (by decide) ?_
    refine r_go 7 rfl ?_ ?_
    · (first | exact trivial | assumption | (simp (disch := omega) [ab_all, ab_nz, *]; done))
    refine r_ret rfl trivial ?_
    first | (rw [if_pos (Classical.not_not.mp h4)]; exact ⟨rfl, rfl⟩) | (rw [if_neg h4]; exact ⟨rfl, rfl⟩)
theorem k_gain {q : Nat} {i : ab_I} (x : Int32) (hq : ab_gt GF q = (0, 0)) : ab_K 0 18 [.ref q, .int x] i (ab_N (ab_up i q 1 (ab_mn (nI 99999) (i q 1 + x)))) := by
  refine k_of rfl ?_
  refine r_go 8 rfl ?_ ?_
  · (first | exact trivial | assumption | (simp (disch := omega) [ab_all, ab_nz, *]; done))
  refine r_ret rfl trivial ?_
  exact ⟨rfl, rfl⟩
theorem k_spill {q : Nat} {i : ab_I} (hq : ab_gt GF q = (0, 0)) : ab_K 0 19 [.ref q] i (ab_V (.int (ab_mx (nI 0) (ab_mn (i q 4) (i q 1 - i q 2 * i q 0)))) (ab_up i q 1 (i q 1 - ab_mx (nI 0) (ab_mn (i q 4) (i q 1 - i q 2 * i q 0))))) := by
  refine k_of rfl ?_
  refine r_go 21 rfl ?_ ?_
  · (first | exact trivial | assumption | (simp (disch := omega) [ab_all, ab_nz, *]; done))
  refine r_ret rfl trivial ?_
  exact ⟨rfl, rfl⟩
theorem k_isDry {q : Nat} {i : ab_I} (x : Int32) (hq : ab_gt GF q = (1, 0)) : ab_K 0 29 [.ref q, .int x] i (ab_V (.int (bI (x < i q 3 - nI 10 - i q 1))) i) := by
  refine k_of rfl ?_
  refine r_go 8 rfl ?_ ?_
  · (first | exact trivial | assumption | (simp (disch := omega) [ab_all, ab_nz, *]; done))
  refine r_br rfl (fun h13 => ?_) (fun h13 => ?_)
  · skip
    refine r_go 1 rfl ?_ ?_
    · (first | exact trivial | assumption | (simp (disch := omega) [ab_all, ab_nz, *]; done))
    refine r_ret rfl (by (first | exact Or.inl rfl | exact Or.inr rfl | exact bI_or)) ?_
    first | exact lf_t (by (simp (disch := omega) only [Int32.le_iff_toInt_le, Int32.lt_iff_toInt_lt, c_i, m1_i, m5_i, m33_i] at * <;> omega)) | exact lf_f (by (simp (disch := omega) only [Int32.le_iff_toInt_le, Int32.lt_iff_toInt_lt, c_i, m1_i, m5_i, m33_i] at * <;> omega))
  · skip
    refine r_go 2 rfl ?_ ?_
    · (first | exact trivial | assumption | (simp (disch := omega) [ab_all, ab_nz, *]; done))
    refine r_ret rfl (by (first | exact Or.inl rfl | exact Or.inr rfl | exact bI_or)) ?_
    first | exact lf_t (by (simp (disch := omega) only [Int32.le_iff_toInt_le, Int32.lt_iff_toInt_lt, c_i, m1_i, m5_i, m33_i] at * <;> omega)) | exact lf_f (by (simp (disch := omega) only [Int32.le_iff_toInt_le, Int32.lt_iff_toInt_lt, c_i, m1_i, m5_i, m33_i] at * <;> omega))
def cnt6 (q : Nat) (x : Int32) (i : ab_I) : ab_I := if i q 3 < x then ab_up i q 6 (ab_mn (nI 99999) (i q 6 + nI 1)) else i
def cnt7 (q : Nat) (x : Int32) (i : ab_I) : ab_I := if x < i q 3 - nI 10 - i q 1 then ab_up i q 7 (ab_mn (nI 99999) (i q 7 + nI 1)) else i
theorem k_count {q : Nat} {i : ab_I} (x : Int32) (hq : ab_gt GF q = (1, 0)) : ab_K 1 30 [.ref q, .int x] i (ab_N (cnt7 q x (cnt6 q x i))) := by
  unfold cnt6
  refine k_of rfl ?_
  refine r_go 3 rfl ?_ ?_
  · (first | exact trivial | assumption | (simp (disch := omega) [ab_all, ab_nz, *]; done))
  refine r_br rfl (fun h5 => ?_) (fun h5 => ?_)
  · skip
    refine r_go 2 rfl ?_ ?_
    · (first | exact trivial | assumption | (simp (disch := omega) [ab_all, ab_nz, *]; done))
    refine r_cv rfl hq ((k_isDry _ hq)) (by decide) ?_
    refine r_bE rfl (fun h28 => ?_) (fun h28 => ?_)
    · skip
      refine r_ret rfl trivial ?_
      unfold cnt7
      by_cases hx : i q 3 < x
      · first | (exfalso; clear h28; (simp (disch := omega) only [Int32.le_iff_toInt_le, Int32.lt_iff_toInt_lt, c_i, m1_i, m5_i, m33_i] at * <;> omega)) | (rw [if_pos hx]; first | (rw [if_neg h28]; exact ⟨rfl, rfl⟩) | (rw [if_pos h28]; exact ⟨rfl, rfl⟩))
      · first | (exfalso; clear h28; (simp (disch := omega) only [Int32.le_iff_toInt_le, Int32.lt_iff_toInt_lt, c_i, m1_i, m5_i, m33_i] at * <;> omega)) | (rw [if_neg hx]; first | (rw [if_neg h28]; exact ⟨rfl, rfl⟩) | (rw [if_pos h28]; exact ⟨rfl, rfl⟩))
    · skip
      refine r_go 8 rfl ?_ ?_
      · (first | exact trivial | assumption | (simp (disch := omega) [ab_all, ab_nz, *]; done))
      refine r_ret rfl trivial ?_
      unfold cnt7
      by_cases hx : i q 3 < x
      · first | (exfalso; clear h28; (simp (disch := omega) only [Int32.le_iff_toInt_le, Int32.lt_iff_toInt_lt, c_i, m1_i, m5_i, m33_i] at * <;> omega)) | (rw [if_pos hx]; first | (rw [if_neg h28]; exact ⟨rfl, rfl⟩) | (rw [if_pos h28]; exact ⟨rfl, rfl⟩))
      · first | (exfalso; clear h28; (simp (disch := omega) only [Int32.le_iff_toInt_le, Int32.lt_iff_toInt_lt, c_i, m1_i, m5_i, m33_i] at * <;> omega)) | (rw [if_neg hx]; first | (rw [if_neg h28]; exact ⟨rfl, rfl⟩) | (rw [if_pos h28]; exact ⟨rfl, rfl⟩))
  · skip
    refine r_go 10 rfl ?_ ?_
    · (first | exact trivial | assumption | (simp (disch := omega) [ab_all, ab_nz, *]; done))
    refine r_cv rfl hq ((k_isDry _ hq)) (by decide) ?_
    refine r_bE rfl (fun h28 => ?_) (fun h28 => ?_)
    · skip
      refine r_ret rfl trivial ?_
      unfold cnt7
      by_cases hx : i q 3 < x
      · first | (exfalso; clear h28; (simp (disch := omega) only [Int32.le_iff_toInt_le, Int32.lt_iff_toInt_lt, c_i, m1_i, m5_i, m33_i] at * <;> omega)) | (rw [if_pos hx]; first | (rw [if_neg h28]; exact ⟨rfl, rfl⟩) | (rw [if_pos h28]; exact ⟨rfl, rfl⟩))
      · first | (exfalso; clear h28; (simp (disch := omega) only [Int32.le_iff_toInt_le, Int32.lt_iff_toInt_lt, c_i, m1_i, m5_i, m33_i] at * <;> omega)) | (rw [if_neg hx]; first | (rw [if_neg h28]; exact ⟨rfl, rfl⟩) | (rw [if_pos h28]; exact ⟨rfl, rfl⟩))
    · skip
      refine r_go 8 rfl ?_ ?_
      · (first | exact trivial | assumption | (simp (disch := omega) [ab_all, ab_nz, *]; done))
      refine r_ret rfl trivial ?_
      unfold cnt7
      by_cases hx : i q 3 < x
      · first | (exfalso; clear h28; (simp (disch := omega) only [Int32.le_iff_toInt_le, Int32.lt_iff_toInt_lt, c_i, m1_i, m5_i, m33_i] at * <;> omega)) | (rw [if_pos hx]; first | (rw [if_neg h28]; exact ⟨rfl, rfl⟩) | (rw [if_pos h28]; exact ⟨rfl, rfl⟩))
      · first | (exfalso; clear h28; (simp (disch := omega) only [Int32.le_iff_toInt_le, Int32.lt_iff_toInt_lt, c_i, m1_i, m5_i, m33_i] at * <;> omega)) | (rw [if_neg hx]; first | (rw [if_neg h28]; exact ⟨rfl, rfl⟩) | (rw [if_pos h28]; exact ⟨rfl, rfl⟩))
/-- a law's cells -/
def isL (c : Nat) : Prop := ab_gt GF c = (2, 0) ∧ isR (c + 1) 60 ∧ ab_gt GF (c + 3) = (100, 65)
theorem gr_l0 {c : Nat} (h : isL c) : ab_gr GF c 0 = c + 1 := gr_of h.1
theorem gr_l1 {c : Nat} (h : isL c) : ab_gr GF c 1 = c + 3 := gr_of h.1
theorem k_isTold {c : Nat} {i : ab_I} (hc : isL c) : ab_K 0 34 [.ref c] i (ab_V (.int (bI (nI 0 < i (c + 1) 1))) i) := by
  have hr := gr_l0 hc
  have h5 := hc.2.1.1
  have h2 := hc.1
  refine k_of rfl ?_
  refine r_go 3 rfl ?_ ?_
  · (simp only [ab_all, hr, h5, h2]; simp)
  refine r_br rfl (fun h7 => ?_) (fun h7 => ?_)
  · skip
    refine r_go 1 rfl ?_ ?_
    · (first | exact trivial | assumption | (simp (disch := omega) [ab_all, ab_nz, *]; done))
    refine r_ret rfl (by (first | exact Or.inl rfl | exact Or.inr rfl | exact bI_or)) ?_
    (rw [hr] at h7; first | exact lf_t (by (simp (disch := omega) only [Int32.le_iff_toInt_le, Int32.lt_iff_toInt_lt, c_i, m1_i, m5_i, m33_i] at * <;> omega)) | exact lf_f (by (simp (disch := omega) only [Int32.le_iff_toInt_le, Int32.lt_iff_toInt_lt, c_i, m1_i, m5_i, m33_i] at * <;> omega)))
  · skip
    refine r_go 2 rfl ?_ ?_
    · (first | exact trivial | assumption | (simp (disch := omega) [ab_all, ab_nz, *]; done))
    refine r_ret rfl (by (first | exact Or.inl rfl | exact Or.inr rfl | exact bI_or)) ?_
    (rw [hr] at h7; first | exact lf_t (by (simp (disch := omega) only [Int32.le_iff_toInt_le, Int32.lt_iff_toInt_lt, c_i, m1_i, m5_i, m33_i] at * <;> omega)) | exact lf_f (by (simp (disch := omega) only [Int32.le_iff_toInt_le, Int32.lt_iff_toInt_lt, c_i, m1_i, m5_i, m33_i] at * <;> omega)))
theorem k_forget {c : Nat} {i : ab_I} (hc : isL c) : ab_K 1 37 [.ref c] i (ab_V (.int (bI (nI 0 < i (c + 1) 1))) (ab_up i (c + 1) 1 (nI 0))) := by
  have hr := gr_l0 hc
  have h2 := hc.1
  have h5 := hc.2.1.1
  refine k_of rfl ?_
  refine r_go 1 rfl ?_ ?_
  · (first | exact trivial | assumption | (simp (disch := omega) [ab_all, ab_nz, *]; done))
  refine r_cv rfl (by assumption) ((k_isTold hc)) (by decide) ?_
  refine r_go 3 rfl ?_ ?_
  · (simp only [ab_all, hr, h2]; simp)
  rw [hr]
  refine r_cn rfl (by assumption) ((k_empty hc.2.1)) (by decide) ?_
  refine r_go 1 rfl ?_ ?_
  · (first | exact trivial | assumption | (simp (disch := omega) [ab_all, ab_nz, *]; done))
  refine r_ret rfl (by (first | exact Or.inl rfl | exact Or.inr rfl | exact bI_or)) ?_
  exact ⟨rfl, rfl⟩
theorem k_lawBe {c q n : Nat} {i : ab_I} (hc : isL c) (hq : isR q 60) (hn : i q 1 = nI n) (h60 : n ≤ 60) (hne : c + 1 ≠ q) (hne2 : c + 1 ≠ q + 1) : ab_K 3 36 [.ref c, .ref q] i (ab_N (ab_row (ab_up i (c + 1) 1 (nI n)) (c + 2) (va_cpy (i (q + 1)) (i (c + 2)) 0 0 n))) := by
  have hr := gr_l0 hc
  have h2 := hc.1
  have h5 := hc.2.1.1
  refine k_of rfl ?_
  refine r_go 3 rfl ?_ ?_
  · (simp only [ab_all, hr, h2]; simp)
  rw [hr]
  refine r_cn rfl (by assumption) ((k_rowLike hc.2.1 hq hn h60 h60 hne hne2)) (by decide) ?_
  refine r_ret rfl trivial ?_
  exact ⟨rfl, rfl⟩
theorem k_lawLike {c c' n : Nat} {i : ab_I} (hc : isL c) (hc' : isL c') (hn : i (c' + 1) 1 = nI n) (h60 : n ≤ 60) (hne : c + 1 ≠ c' + 1) (hne2 : c + 1 ≠ c' + 2) : ab_K 3 35 [.ref c, .ref c'] i (ab_N (ab_row (ab_up i (c + 1) 1 (nI n)) (c + 2) (va_cpy (i (c' + 2)) (i (c + 2)) 0 0 n))) := by
  have hr := gr_l0 hc
  have hr' := gr_l0 hc'
  have h2 := hc.1
  have h5 := hc.2.1.1
  have h2' := hc'.1
  refine k_of rfl ?_
  refine r_go 4 rfl ?_ ?_
  · (simp only [ab_all, hr, hr', h2, h2']; simp)
  rw [hr, hr']
  refine r_cn rfl (by assumption) ((k_rowLike hc.2.1 hc'.2.1 hn h60 h60 hne hne2)) (by decide) ?_
  refine r_ret rfl trivial ?_
  exact ⟨rfl, rfl⟩
/-! a town's basins and doors -/
theorem k_basinAt {t : Nat} {i : ab_I} (b : Nat) (ht : isT t) (hb : b < 6) : ab_K 0 89 [.ref t, .int (nI b)] i (ab_V (.ref (t + 2 + b)) i) := by
  have g0 := gr_t0 ht
  have g1 := tg_t ht
  have g2 := tg_a ht
  have g3 : ab_gr GF (t + 1) b = t + 2 + b := gr_b ht hb
  refine k_of rfl ?_
  refine r_go 3 rfl ?_ ?_
  · (first | exact trivial | assumption | (simp (disch := omega) [ab_all, ab_nz, *]; done))
  refine r_brF rfl (fun h => absurd h (by (simp (disch := omega) only [Int32.le_iff_toInt_le, Int32.lt_iff_toInt_lt, c_i, m1_i, m5_i, m33_i] at * <;> omega))) ?_
  refine r_go 4 rfl ?_ ?_
  · (simp only [ab_all, g0, g1, g2]; simp)
  refine r_brF rfl (fun h => by rw [g0, g2] at h; dsimp only at h; clear g0 g1 g2 g3; (simp (disch := omega) only [Int32.le_iff_toInt_le, Int32.lt_iff_toInt_lt, c_i, m1_i, m5_i, m33_i] at * <;> omega)) ?_
  refine r_go 3 rfl ?_ ?_
  · (simp only [ab_all, g0, g2, nI_cl (show b < 2147483648 by omega), g3]; exact ⟨⟨6, rfl, in_nI hb (by omega)⟩, by omega⟩)
  refine r_ret rfl trivial ?_
  (rw [g0, nI_cl (by omega), g3]; exact ⟨rfl, rfl⟩)
theorem k_doorAt {t : Nat} {i : ab_I} (b : Nat) (ht : isT t) (hb : b < 12) : ab_K 0 90 [.ref t, .int (nI b)] i (ab_V (.ref (t + 9 + b)) i) := by
  have g0 := gr_t1 ht
  have g1 := tg_t ht
  have g2 := tg_e ht
  have g3 : ab_gr GF (t + 8) b = t + 9 + b := gr_d ht hb
  refine k_of rfl ?_
  refine r_go 3 rfl ?_ ?_
  · (first | exact trivial | assumption | (simp (disch := omega) [ab_all, ab_nz, *]; done))
  refine r_brF rfl (fun h => absurd h (by (simp (disch := omega) only [Int32.le_iff_toInt_le, Int32.lt_iff_toInt_lt, c_i, m1_i, m5_i, m33_i] at * <;> omega))) ?_
  refine r_go 4 rfl ?_ ?_
  · (simp only [ab_all, g0, g1, g2]; simp)
  refine r_brF rfl (fun h => by rw [g0, g2] at h; dsimp only at h; clear g0 g1 g2 g3; (simp (disch := omega) only [Int32.le_iff_toInt_le, Int32.lt_iff_toInt_lt, c_i, m1_i, m5_i, m33_i] at * <;> omega)) ?_
  refine r_go 3 rfl ?_ ?_
  · (simp only [ab_all, g0, g2, nI_cl (show b < 2147483648 by omega), g3]; exact ⟨⟨12, rfl, in_nI hb (by omega)⟩, by omega⟩)
  refine r_ret rfl trivial ?_
  (rw [g0, nI_cl (by omega), g3]; exact ⟨rfl, rfl⟩)
theorem k_hasBasin {t : Nat} {i : ab_I} (x : Int32) (ht : isT t) : ab_K 1 87 [.ref t, .int x] i (ab_V (.int (bI (nI 0 ≤ x ∧ x ≤ i t 2 - nI 1))) i) := by
  have g1 := tg_t ht
  refine k_of rfl ?_
  refine r_go 6 rfl ?_ ?_
  · (first | exact trivial | assumption | (simp (disch := omega) [ab_all, ab_nz, *]; done))
  refine r_cv rfl trivial ((k_within _ _ _)) (by decide) ?_
  refine r_ret rfl (by (first | exact Or.inl rfl | exact Or.inr rfl | exact bI_or)) ?_
  exact ⟨rfl, rfl⟩
theorem k_hasDoor {t : Nat} {i : ab_I} (x : Int32) (ht : isT t) : ab_K 1 88 [.ref t, .int x] i (ab_V (.int (bI (nI 0 ≤ x ∧ x ≤ i t 3 - nI 1))) i) := by
  have g1 := tg_t ht
  refine k_of rfl ?_
  refine r_go 6 rfl ?_ ?_
  · (first | exact trivial | assumption | (simp (disch := omega) [ab_all, ab_nz, *]; done))
  refine r_cv rfl trivial ((k_within _ _ _)) (by decide) ?_
  refine r_ret rfl (by (first | exact Or.inl rfl | exact Or.inr rfl | exact bI_or)) ?_
  exact ⟨rfl, rfl⟩
theorem bI_cg {p q : Prop} [Decidable p] [Decidable q] (h : p ↔ q) : bI p = bI q := by
  by_cases z : p
  · rw [bI_t z, bI_t (h.mp z)]
  · rw [bI_f z, bI_f (fun y => z (h.mpr y))]
theorem in_cg {x : Int32} {n : Nat} (hn : n ≤ 1000) : (nI 0 ≤ x ∧ x ≤ nI n - nI 1) ↔ (0 ≤ x.toInt ∧ x.toInt < n) := by
  rw [Int32.le_iff_toInt_le, Int32.le_iff_toInt_le, su_i (by (simp (disch := omega) only [Int32.le_iff_toInt_le, Int32.lt_iff_toInt_lt, c_i, m1_i, m5_i, m33_i] at * <;> omega)) (by (simp (disch := omega) only [Int32.le_iff_toInt_le, Int32.lt_iff_toInt_lt, c_i, m1_i, m5_i, m33_i] at * <;> omega)), c_i (by omega), c_i (by omega), c_i (by omega)]
  omega
theorem k_hasB {t n : Nat} {i : ab_I} (x : Int32) (ht : isT t) (h : i t 2 = nI n) (hn : n ≤ 1000) : ab_K 1 87 [.ref t, .int x] i (ab_V (.int (bI (0 ≤ x.toInt ∧ x.toInt < n))) i) := by
  rw [← bI_cg (in_cg hn), ← h]
  exact k_hasBasin x ht
theorem k_hasD {t n : Nat} {i : ab_I} (x : Int32) (ht : isT t) (h : i t 3 = nI n) (hn : n ≤ 1000) : ab_K 1 88 [.ref t, .int x] i (ab_V (.int (bI (0 ≤ x.toInt ∧ x.toInt < n))) i) := by
  rw [← bI_cg (in_cg hn), ← h]
  exact k_hasDoor x ht
theorem k_hasBN {t n : Nat} {i : ab_I} (c : Nat) (ht : isT t) (h : i t 2 = nI n) (hn : n ≤ 1000) (hc : c < 2147483648) : ab_K 1 87 [.ref t, .int (nI c)] i (ab_V (.int (bI (c < n))) i) := by
  have e : bI (0 ≤ (nI c).toInt ∧ (nI c).toInt < n) = bI (c < n) := bI_cg (by rw [c_i hc]; omega)
  rw [← e]
  exact k_hasB _ ht h hn
theorem k_hasDN {t n : Nat} {i : ab_I} (c : Nat) (ht : isT t) (h : i t 3 = nI n) (hn : n ≤ 1000) (hc : c < 2147483648) : ab_K 1 88 [.ref t, .int (nI c)] i (ab_V (.int (bI (c < n))) i) := by
  have e : bI (0 ≤ (nI c).toInt ∧ (nI c).toInt < n) = bI (c < n) := bI_cg (by rw [c_i hc]; omega)
  rw [← e]
  exact k_hasD _ ht h hn
