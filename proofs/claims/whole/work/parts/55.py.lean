/-! where a sign stands in one of the program's own texts -/
theorem txL_le {t : Nat} (h : t < 8) : ab_txL t ≤ 5 := (by decide : ∀ t, t < 8 → ab_txL t ≤ 5) t h
/-- of the last f signs of text t the first that is b -/
def ixF (t : Nat) (b : Int32) : Nat → Int32
  | 0 => (-1)
  | f + 1 => if ab_txB t (ab_txL t - (f + 1)) = b then nI (ab_txL t - (f + 1)) else ixF t b f
theorem ixF_s {t f : Nat} {b : Int32} : ixF t b (f + 1) = if ab_txB t (ab_txL t - (f + 1)) = b then nI (ab_txL t - (f + 1)) else ixF t b f := rfl
theorem ixF_k {t k : Nat} {b : Int32} (h : k < ab_txL t) : ixF t b (ab_txL t - k) = if ab_txB t k = b then nI k else ixF t b (ab_txL t - (k + 1)) := by
  rw [show ab_txL t - k = (ab_txL t - (k + 1)) + 1 by omega, ixF_s, show ab_txL t - (ab_txL t - (k + 1) + 1) = k by omega]
theorem xc_loop {t : Nat} {b : Int32} {i : ab_I} (ht : t < 8) (mm k : Nat) (hmm : ab_txL t - k < mm) (hk : k ≤ ab_txL t) : ab_R 0 tb_J1_indexOfChar_4cfef 7 [some (.ref (1100 + t)), none, none, some (.int (nI (ab_txL t))), some (.int b), some (.int (nI k))] [] i (ab_V (.int (ixF t b (ab_txL t - k))) i) := by
  induction mm generalizing k with
  | zero => exact absurd hmm (by omega)
  | succ mm ih =>
    have h5 := txL_le ht
    refine r_go 2 rfl ?_ ?_
    · (first | exact trivial | assumption | (simp (disch := omega) [ab_all, ab_nz, *]; done))
    refine r_le rfl (fun h10 => ?_) (fun h10 => ?_)
    · skip
      refine r_go 1 rfl ?_ ?_
      · (first | exact trivial | assumption | (simp (disch := omega) [ab_all, ab_nz, *]; done))
      refine r_ret rfl trivial ?_
      have e : ab_txL t - k = 0 := by (simp (disch := omega) only [Int32.le_iff_toInt_le, Int32.lt_iff_toInt_lt, c_i, m1_i, m5_i, m33_i] at * <;> omega)
      rw [e]
      exact ⟨rfl, rfl⟩
    · skip
      have hkl : k < ab_txL t := by (simp (disch := omega) only [Int32.le_iff_toInt_le, Int32.lt_iff_toInt_lt, c_i, m1_i, m5_i, m33_i] at * <;> omega)
      have e1 : 1100 + t - 1100 = t := by omega
      refine r_go 4 rfl ?_ ?_
      · (simp only [ab_all, e1]; exact ⟨Nat.le_add_right _ _, Nat.add_lt_add_left ht _, by first | exact in_nI hkl (by omega) | trivial⟩)
      rw [e1, nI_cl (by omega)]
      refine r_ne rfl (fun h19 => ?_) (fun h19 => ?_)
      · skip
        refine r_go 2 rfl ?_ ?_
        · (first | exact trivial | assumption | (simp (disch := omega) [ab_all, ab_nz, *]; done))
        rw [nI_add]
        have K := ih (k + 1) (by omega) (by omega)
        rw [ixF_k hkl, if_neg h19]
        exact r_lk K rfl
      · skip
        refine r_go 1 rfl ?_ ?_
        · (first | exact trivial | assumption | (simp (disch := omega) [ab_all, ab_nz, *]; done))
        refine r_ret rfl trivial ?_
        rw [ixF_k hkl]
        exact lv_t h19
theorem k_xC {t : Nat} {i : ab_I} (x : Int32) (ht : t < 8) : ab_K 0 8 [.ref (1100 + t), .int x, .int (nI 0), .int (nI (ab_txL t))] i (ab_V (.int (ixF t x.toInt8.toInt32 (ab_txL t))) i) := by
  refine k_of rfl ?_
  refine r_go 5 rfl ?_ ?_
  · (first | exact trivial | assumption | (simp (disch := omega) [ab_all, ab_nz, *]; done))
  exact r_lk (xc_loop (b := x.toInt8.toInt32) ht (ab_txL t + 1) 0 (by omega) (by omega)) rfl
theorem mx0 : ab_mx (nI 0) (nI 0) = nI 0 := by decide
theorem mnL {n : Nat} : ab_mn (nI n) (nI n) = nI n := by
  unfold ab_mn
  split <;> rfl
theorem tx_lt {t : Nat} (h : t < 8) (h0 : ¬ ab_txL t = 0) : nI 0 < nI (ab_txL t) := nI_lt (by omega) (by have := txL_le h; omega)
theorem k_canE {i : ab_I} (x : Int32) : ab_K 0 6 [.int x] i (ab_V (.int (bI (nI 0 ≤ x ∧ x ≤ nI 255))) i) := by
  refine k_of rfl ?_
  refine r_go 1 rfl ?_ ?_
  · (first | exact trivial | assumption | (simp (disch := omega) [ab_all, ab_nz, *]; done))
  refine r_br rfl (fun h1 => ?_) (fun h1 => ?_)
  · skip
    refine r_go 1 rfl ?_ ?_
    · (first | exact trivial | assumption | (simp (disch := omega) [ab_all, ab_nz, *]; done))
    refine r_ret rfl (by (first | exact Or.inl rfl | exact Or.inr rfl | exact bI_or)) ?_
    first | exact lf_t (by (simp (disch := omega) only [Int32.le_iff_toInt_le, Int32.lt_iff_toInt_lt, c_i, m1_i, m5_i, m33_i] at * <;> omega)) | exact lf_f (by (simp (disch := omega) only [Int32.le_iff_toInt_le, Int32.lt_iff_toInt_lt, c_i, m1_i, m5_i, m33_i] at * <;> omega))
  · skip
    refine r_go 2 rfl ?_ ?_
    · (first | exact trivial | assumption | (simp (disch := omega) [ab_all, ab_nz, *]; done))
    refine r_br rfl (fun h8 => ?_) (fun h8 => ?_)
    · skip
      refine r_go 1 rfl ?_ ?_
      · (first | exact trivial | assumption | (simp (disch := omega) [ab_all, ab_nz, *]; done))
      refine r_ret rfl (by (first | exact Or.inl rfl | exact Or.inr rfl | exact bI_or)) ?_
      first | exact lf_t (by (simp (disch := omega) only [Int32.le_iff_toInt_le, Int32.lt_iff_toInt_lt, c_i, m1_i, m5_i, m33_i] at * <;> omega)) | exact lf_f (by (simp (disch := omega) only [Int32.le_iff_toInt_le, Int32.lt_iff_toInt_lt, c_i, m1_i, m5_i, m33_i] at * <;> omega))
    · skip
      refine r_go 2 rfl ?_ ?_
      · (first | exact trivial | assumption | (simp (disch := omega) [ab_all, ab_nz, *]; done))
      refine r_ret rfl (by (first | exact Or.inl rfl | exact Or.inr rfl | exact bI_or)) ?_
      first | exact lf_t (by (simp (disch := omega) only [Int32.le_iff_toInt_le, Int32.lt_iff_toInt_lt, c_i, m1_i, m5_i, m33_i] at * <;> omega)) | exact lf_f (by (simp (disch := omega) only [Int32.le_iff_toInt_le, Int32.lt_iff_toInt_lt, c_i, m1_i, m5_i, m33_i] at * <;> omega))
theorem k_x1 {t : Nat} {i : ab_I} (x : Int32) (ht : t < 8) (hx : nI 0 ≤ x ∧ x ≤ nI 255) : ab_K 1 7 [.ref (1100 + t), .int x, .int (nI 0), .int (nI (ab_txL t))] i (ab_V (.int (ixF t x.toInt8.toInt32 (ab_txL t))) i) := by
  have e1 : 1100 + t - 1100 = t := by omega
  have h5 := txL_le ht
  refine k_of rfl ?_
  refine r_go 1 rfl ?_ ?_
  · (first | exact trivial | assumption | (simp (disch := omega) [ab_all, ab_nz, *]; done))
  refine r_cv rfl trivial ((k_canE x)) (by decide) ?_
  refine r_brT rfl (bF hx) ?_
  refine r_go 11 rfl ?_ ?_
  · (simp only [ab_all]; exact ⟨Nat.le_add_right _ _, Nat.add_lt_add_left ht _⟩)
  rw [e1, mx0, mnL]
  refine r_br rfl (fun h24 => ?_) (fun h24 => ?_)
  · skip
    refine r_go 4 rfl ?_ ?_
    · (first | exact trivial | assumption | (simp (disch := omega) [ab_all, ab_nz, *]; done))
    refine r_cv rfl trivial ((k_xC x ht)) (by decide) ?_
    refine r_ret rfl trivial ?_
    first | exact lv_e rfl | exact lv_e (by rw [show ab_txL t = 0 by (simp (disch := omega) only [Int32.le_iff_toInt_le, Int32.lt_iff_toInt_lt, c_i, m1_i, m5_i, m33_i] at * <;> omega)]; rfl)
  · skip
    refine r_go 1 rfl ?_ ?_
    · (first | exact trivial | assumption | (simp (disch := omega) [ab_all, ab_nz, *]; done))
    refine r_ret rfl trivial ?_
    first | exact lv_e rfl | exact lv_e (by rw [show ab_txL t = 0 by (simp (disch := omega) only [Int32.le_iff_toInt_le, Int32.lt_iff_toInt_lt, c_i, m1_i, m5_i, m33_i] at * <;> omega)]; rfl)
theorem k_coder {t : Nat} {i : ab_I} (ht : t < 8) : ab_K 0 4 [.ref (1000 + t)] i (ab_V (.int (nI 0)) i) := by
  refine k_of rfl ?_
  refine r_go 1 rfl ?_ ?_
  · ((try simp only [ab_all]) <;> exact ⟨Nat.le_add_right _ _, Nat.add_lt_add_left ht _⟩)
  refine r_brF rfl (by decide) ?_
  refine r_go 3 rfl ?_ ?_
  · ((try simp only [ab_all]) <;> exact ⟨Nat.le_add_right _ _, Nat.add_lt_add_left ht _⟩)
  refine r_ret rfl (by (first | exact Or.inl rfl | exact Or.inr rfl | exact bI_or | decide)) ?_
  exact ⟨rfl, rfl⟩
theorem k_latin {t : Nat} {i : ab_I} (ht : t < 8) : ab_K 0 5 [.ref (1000 + t)] i (ab_V (.int (nI 1)) i) := by
  refine k_of rfl ?_
  refine r_go 1 rfl ?_ ?_
  · ((try simp only [ab_all]) <;> exact ⟨Nat.le_add_right _ _, Nat.add_lt_add_left ht _⟩)
  refine r_brF rfl (by decide) ?_
  refine r_go 2 rfl ?_ ?_
  · ((try simp only [ab_all]) <;> exact ⟨Nat.le_add_right _ _, Nat.add_lt_add_left ht _⟩)
  refine r_brF rfl (fun z => z rfl) ?_
  refine r_go 2 rfl ?_ ?_
  · ((try simp only [ab_all]) <;> exact ⟨Nat.le_add_right _ _, Nat.add_lt_add_left ht _⟩)
  refine r_ret rfl (by (first | exact Or.inl rfl | exact Or.inr rfl | exact bI_or | decide)) ?_
  exact ⟨rfl, rfl⟩
theorem k_len {t : Nat} {i : ab_I} (ht : t < 8) : ab_K 1 1 [.ref (1000 + t)] i (ab_V (.int (nI (ab_txL t))) i) := by
  have e1 : 1000 + t + 100 - 1100 = t := by omega
  refine k_of rfl ?_
  refine r_go 4 rfl ?_ ?_
  · ((try simp only [ab_all]) <;> repeat' (first | exact Nat.le_add_right _ _ | exact Nat.add_lt_add_left ht _ | exact (show 1100 ≤ 1000 + t + 100 by omega) | exact (show 1000 + t + 100 < 1108 by omega) | refine And.intro ?_ ?_))
  refine r_cv rfl (by first | rfl | exact ⟨Nat.le_add_right _ _, Nat.add_lt_add_left ht _⟩) ((k_coder ht)) (by decide) ?_
  refine r_go 1 rfl ?_ ?_
  · ((try simp only [ab_all]) <;> repeat' (first | exact Nat.le_add_right _ _ | exact Nat.add_lt_add_left ht _ | exact (show 1100 ≤ 1000 + t + 100 by omega) | exact (show 1000 + t + 100 < 1108 by omega) | refine And.intro ?_ ?_))
  refine r_ret rfl trivial ?_
  (rw [e1]; exact lv_e ((by decide : ∀ t, t < 8 → nI (ab_txL t) = nI (ab_txL t) >>> (nI 0 &&& 31)) t ht))
theorem k_ix7 {t : Nat} {i : ab_I} (x : Int32) (ht : t < 8) (hx : nI 0 ≤ x ∧ x ≤ nI 255) : ab_K 2 3 [.ref (1000 + t), .int x, .int (nI 0)] i (ab_V (.int (ixF t x.toInt8.toInt32 (ab_txL t))) i) := by
  have e1 : 1000 + t + 100 = 1100 + t := by omega
  refine k_of rfl ?_
  refine r_go 1 rfl ?_ ?_
  · ((try simp only [ab_all]) <;> exact ⟨Nat.le_add_right _ _, Nat.add_lt_add_left ht _⟩)
  refine r_cv rfl (by first | rfl | trivial | exact ⟨Nat.le_add_right _ _, Nat.add_lt_add_left ht _⟩) ((k_latin ht)) (by decide) ?_
  refine r_brF rfl (by decide) ?_
  refine r_go 5 rfl ?_ ?_
  · ((try simp only [ab_all]) <;> exact ⟨Nat.le_add_right _ _, Nat.add_lt_add_left ht _⟩)
  refine r_cv rfl (by first | rfl | trivial | exact ⟨Nat.le_add_right _ _, Nat.add_lt_add_left ht _⟩) ((k_len ht)) (by decide) ?_
  rw [e1]
  refine r_cv rfl trivial ((k_x1 x ht hx)) (by decide) ?_
  refine r_go 1 rfl ?_ ?_
  · ((try simp only [ab_all]) <;> exact ⟨Nat.le_add_right _ _, Nat.add_lt_add_left ht _⟩)
  refine r_ret rfl trivial ?_
  exact ⟨rfl, rfl⟩
theorem k_ix {t : Nat} {i : ab_I} (x : Int32) (ht : t < 8) (hx : nI 0 ≤ x ∧ x ≤ nI 255) : ab_K 3 2 [.ref (1000 + t), .int x] i (ab_V (.int (ixF t x.toInt8.toInt32 (ab_txL t))) i) := by
  refine k_of rfl ?_
  refine r_go 3 rfl ?_ ?_
  · (first | exact trivial | assumption | (simp (disch := omega) [ab_all, ab_nz, *]; done))
  refine r_cv rfl (by first | rfl | trivial | exact ⟨Nat.le_add_right _ _, Nat.add_lt_add_left ht _⟩) ((k_ix7 x ht hx)) (by decide) ?_
  refine r_ret rfl trivial ?_
  exact ⟨rfl, rfl⟩
/-- what a byte stands for -/
def dgt (x : Int32) : Bool := decide (nI 48 ≤ x ∧ x ≤ nI 57)
def sgT (t : Nat) (x : Int32) : Bool :=
  if t = 0 then decide (x = nI 124) else if t = 1 then decide (x = nI 38) else if t = 2 then decide (x = nI 60 ∨ x = nI 61 ∨ x = nI 62)
  else if t = 3 then decide (x = nI 43 ∨ x = nI 45) else decide (x = nI 42 ∨ x = nI 47 ∨ x = nI 37)
def nmB (u : Nat) (x : Int32) : Bool := if u = 0 then decide (x = nI 108 ∨ x = nI 115 ∨ x = nI 114 ∨ x = nI 104 ∨ x = nI 119) else decide (x = nI 102 ∨ x = nI 100 ∨ x = nI 109)
theorem nmB_i {u : Nat} {x : Int32} (hu : u < 2) (h : nmB u x = true) : isNm u x := by
  unfold nmB at h
  unfold isNm
  by_cases h0 : u = 0
  · rw [if_pos h0] at h
    exact Or.inl ⟨h0, of_decide_eq_true h⟩
  · rw [if_neg h0] at h
    exact Or.inr ⟨by omega, of_decide_eq_true h⟩
theorem sgT_i {t : Nat} {x : Int32} (h : sgT t x = true) : isSg x := by
  unfold sgT at h
  unfold isSg
  repeat' split at h
  all_goals (have q := of_decide_eq_true h; clear h; first | (rcases q with h | h | h <;> simp only [h, true_or, or_true]; done) | (rcases q with h | h <;> simp only [h, true_or, or_true]; done) | (simp only [q, true_or, or_true]; done))
theorem ix_sg : ∀ t, t < 5 → ∀ c, c < 256 → sgT t (nI c) = decide (¬ ixF (3 + t) (nI c).toInt8.toInt32 (ab_txL (3 + t)) < nI 0) := by decide +kernel
theorem ix_nm : ∀ u, u < 2 → ∀ c, c < 256 → nmB u (nI c) = decide (¬ ixF (1 + u) (nI c).toInt8.toInt32 (ab_txL (1 + u)) < nI 0) := by decide +kernel
theorem ix_id : ∀ u, u < 2 → ∀ c, c < 256 → nmB u (nI c) = true → ixF (1 + u) (nI c).toInt8.toInt32 (ab_txL (1 + u)) = nI (idN u (nI c)) := by decide +kernel
