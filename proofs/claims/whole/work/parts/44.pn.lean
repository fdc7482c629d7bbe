/-! the engine -/
def bup (M b : Nat) : Nat := M / 2 ^ b % 2 * 2 ^ (b + 1)
def bdn (M b : Nat) : Nat := M / 2 ^ (b + 1) % 2 * 2 ^ b
set_option maxRecDepth 100000 in
theorem bt_all : ∀ M, M < 64 → ∀ b, b < 5 → ((nI M &&& (nI 1 <<< (nI b &&& 31))) <<< (nI 1 &&& 31) = nI (bup M b) ∧ ((nI M &&& (nI 1 <<< (nI (b + 1) &&& 31))).toUInt32 >>> ((nI 1).toUInt32 &&& Int32.toUInt32 31)).toInt32 = nI (bdn M b)) ∧ (((nI M >>> (nI b &&& 31)) &&& nI 1) <<< (nI (b + 1) &&& 31) = nI (bup M b) ∧ ((nI M >>> (nI (b + 1) &&& 31)) &&& nI 1) <<< (nI b &&& 31) = nI (bdn M b)) ∧ bup M b < 64 ∧ bdn M b < 64 := by decide +kernel
set_option maxRecDepth 100000 in
theorem bo_all : ∀ A, A < 64 → ∀ B, B < 64 → nI A ||| nI B = nI (A ||| B) ∧ A ||| B < 64 := by decide +kernel
set_option maxRecDepth 100000 in
theorem bh_all : ∀ M, M < 64 → ∀ t, t < 6 → (nI M &&& (nI 1 <<< (nI t &&& 31)) = nI 0 ↔ ¬ M / 2 ^ t % 2 = 1) ∧ (nI M >>> (nI t &&& 31)) &&& nI 1 = nI (M / 2 ^ t % 2) := by decide +kernel
theorem b1_all : ∀ t, t < 6 → nI 1 <<< (nI t &&& 31) = nI (2 ^ t) ∧ 2 ^ t < 64 := by decide +kernel
abbrev flt (z : Vc) (b : Nat) : Prop := (-3 ≤ (lev z b).toInt - (lev z (b + 1)).toInt ∧ (lev z b).toInt - (lev z (b + 1)).toInt ≤ 3) ∧ (lev z b).toInt + 2 ≤ (bs z b 6).toInt ∧ (lev z (b + 1)).toInt + 2 ≤ (bs z b 6).toInt
theorem lev_rg {z : Vc} {b : Nat} (hI : InT z) (hb : b < nB z) : 0 ≤ (lev z b).toInt ∧ (lev z b).toInt ≤ 99999 := by
  have h0 : rg (bs z b 0) 0 99999 := hI.2.2.2.2.1 b hb 0 (by decide)
  have h1 : rg (bs z b 1) 1 20 := hI.2.2.2.2.1 b hb 1 (by decide)
  unfold rg at h0 h1
  unfold lev
  rw [dv_i h0.1 (by omega)]
  exact ⟨Int.ediv_nonneg h0.1 (by omega), Int.le_trans (Int.ediv_le_self _ h0.1) h0.2⟩
theorem as_i {x : Int32} (h : -2147483648 < x.toInt) : (ab_as x).toInt = if 0 ≤ x.toInt then x.toInt else -x.toInt := by
  have hb := Int32.toInt_lt x
  have e0 : (0 : Int32).toInt = 0 := by decide
  unfold ab_as
  by_cases h0 : 0 ≤ x
  · rw [if_pos h0, if_pos (by rw [Int32.le_iff_toInt_le, e0] at h0; exact h0)]
  · rw [if_neg h0, if_neg (by rw [Int32.le_iff_toInt_le, e0] at h0; exact h0), su_i (by rw [e0]; omega) (by rw [e0]; omega), e0, Int.zero_sub]
theorem mx_i {x y : Int32} : (ab_mx x y).toInt = if x.toInt < y.toInt then y.toInt else x.toInt := by
  unfold ab_mx
  by_cases h : x < y
  · rw [if_pos h, if_pos (Int32.lt_iff_toInt_lt.mp h)]
  · rw [if_neg h, if_neg (fun z => h (Int32.lt_iff_toInt_lt.mpr z))]
theorem k_floats {t : Nat} {z : Vc} {i : ab_I} (b : Nat) (ht : isT t) (hI : InT z) (hR : TwR t z i) (hb : b + 1 < nB z) : ab_K 2 107 [.ref t, .int (nI b)] i (ab_V (.int (bI (flt z b))) i) := by
  have g0 := tg_t ht
  have b6 := hI.1.2
  have t2 : i t 2 = nI (nB z) := hR.1.1.trans hI.1.1
  have ga := tg_b ht (show b < 6 by omega)
  have gb := tg_b ht (show b + 1 < 6 by omega)
  have w1 : i (t + 2 + b) 1 / i (t + 2 + b) 0 = lev z b := by
      rw [show i (t + 2 + b) 1 = bs z b 0 from hR.2.1 b (by omega) 0 (by decide), show i (t + 2 + b) 0 = bs z b 1 from hR.2.1 b (by omega) 1 (by decide)]
      rfl
  have w2 : i (t + 2 + (b + 1)) 1 / i (t + 2 + (b + 1)) 0 = lev z (b + 1) := by
      rw [show i (t + 2 + (b + 1)) 1 = bs z (b + 1) 0 from hR.2.1 (b + 1) hb 0 (by decide), show i (t + 2 + (b + 1)) 0 = bs z (b + 1) 1 from hR.2.1 (b + 1) hb 1 (by decide)]
      rfl
  have a1 : 0 < (i (t + 2 + b) 0).toInt := by
      rw [show i (t + 2 + b) 0 = bs z b 1 from hR.2.1 b (by omega) 1 (by decide)]
      exact Int.lt_of_lt_of_le (by decide) (hI.2.2.2.2.1 b (by omega) 1 (by decide)).1
  have a2 : 0 < (i (t + 2 + (b + 1)) 0).toInt := by
      rw [show i (t + 2 + (b + 1)) 0 = bs z (b + 1) 1 from hR.2.1 (b + 1) hb 1 (by decide)]
      exact Int.lt_of_lt_of_le (by decide) (hI.2.2.2.2.1 (b + 1) hb 1 (by decide)).1
  have l1 := lev_rg hI (show b < nB z by omega)
  have l2 := lev_rg hI hb
  have r6 : rg (bs z b 6) 0 99 := hI.2.2.2.2.1 b (by omega) 6 (by decide)
  have e6 : i (t + 2 + b) 6 = bs z b 6 := hR.2.1 b (by omega) 6 (by decide)
  have eS : (lev z b - lev z (b + 1)).toInt = (lev z b).toInt - (lev z (b + 1)).toInt := su_i (by omega) (by omega)
  have eA : (ab_as (lev z b - lev z (b + 1))).toInt = if 0 ≤ (lev z b).toInt - (lev z (b + 1)).toInt then (lev z b).toInt - (lev z (b + 1)).toInt else -((lev z b).toInt - (lev z (b + 1)).toInt) := by rw [as_i (by rw [eS]; omega), eS]
  have eM : (ab_mx (lev z b) (lev z (b + 1)) + nI 2).toInt = (if (lev z b).toInt < (lev z (b + 1)).toInt then (lev z (b + 1)).toInt else (lev z b).toInt) + 2 := by
      have c2 : (nI 2).toInt = 2 := by decide
      rw [ad_i (by rw [mx_i, c2]; split <;> omega) (by rw [mx_i, c2]; split <;> omega), mx_i, c2]
  unfold rg at r6
  refine k_of rfl ?_
  refine r_go 2 rfl ?_ ?_
  · (first | exact trivial | assumption | (simp (disch := omega) [ab_all, ab_nz, *]; done))
  refine r_cv rfl (by first | exact g0 | exact ga | exact gb) ((k_hasBN b ht t2 (by omega) (by omega))) (by decide) ?_
  refine r_brF rfl (bF (by omega)) ?_
  refine r_go 4 rfl ?_ ?_
  · (first | exact trivial | assumption | (simp (disch := omega) [ab_all, ab_nz, *]; done))
  rw [nI_add]
  refine r_cv rfl (by first | exact g0 | exact ga | exact gb) ((k_hasBN (b + 1) ht t2 (by omega) (by omega))) (by decide) ?_
  refine r_brT rfl (bF (by omega)) ?_
  refine r_go 2 rfl ?_ ?_
  · (first | exact trivial | assumption | (simp (disch := omega) [ab_all, ab_nz, *]; done))
  refine r_cv rfl (by first | exact g0 | exact ga | exact gb) ((k_basinAt b ht (by omega))) (by decide) ?_
  refine r_cv rfl (by first | exact g0 | exact ga | exact gb) ((k_level ga a1)) (by decide) ?_
  refine r_go 5 rfl ?_ ?_
  · (first | exact trivial | assumption | (simp (disch := omega) [ab_all, ab_nz, *]; done))
  rw [nI_add]
  refine r_cv rfl (by first | exact g0 | exact ga | exact gb) ((k_basinAt (b + 1) ht (by omega))) (by decide) ?_
  refine r_cv rfl (by first | exact g0 | exact ga | exact gb) ((k_level gb a2)) (by decide) ?_
  refine r_go 1 rfl ?_ ?_
  · (first | exact trivial | assumption | (simp (disch := omega) [ab_all, ab_nz, *]; done))
  rw [w1, w2]
  refine r_go 5 rfl ?_ ?_
  · (first | exact trivial | assumption | (simp (disch := omega) [ab_all, ab_nz, *]; done))
  refine r_br rfl (fun h47 => ?_) (fun h47 => ?_)
  · skip
    refine r_go 1 rfl ?_ ?_
    · (first | exact trivial | assumption | (simp (disch := omega) [ab_all, ab_nz, *]; done))
    refine r_ret rfl (by (first | exact Or.inl rfl | exact Or.inr rfl | exact bI_or)) ?_
    first | (refine lf_f (fun hh => ?_); unfold flt at hh; first | (rw [Int32.lt_iff_toInt_lt, eA, c_i (by decide)] at h47; split at h47 <;> omega) | (rw [Int32.lt_iff_toInt_lt, eM] at h65; split at h65 <;> omega)) | (refine lf_t ?_; unfold flt; rw [Int32.lt_iff_toInt_lt, eA, c_i (by decide)] at h47; rw [Int32.lt_iff_toInt_lt, eM] at h65; split at h47 <;> split at h65 <;> omega)
  · skip
    refine r_go 2 rfl ?_ ?_
    · (first | exact trivial | assumption | (simp (disch := omega) [ab_all, ab_nz, *]; done))
    refine r_cv rfl (by first | exact g0 | exact ga | exact gb) ((k_basinAt b ht (by omega))) (by decide) ?_
    refine r_go 6 rfl ?_ ?_
    · exact ga
    rw [e6]
    refine r_br rfl (fun h65 => ?_) (fun h65 => ?_)
    · skip
      refine r_go 1 rfl ?_ ?_
      · (first | exact trivial | assumption | (simp (disch := omega) [ab_all, ab_nz, *]; done))
      refine r_ret rfl (by (first | exact Or.inl rfl | exact Or.inr rfl | exact bI_or)) ?_
      first | (refine lf_f (fun hh => ?_); unfold flt at hh; first | (rw [Int32.lt_iff_toInt_lt, eA, c_i (by decide)] at h47; split at h47 <;> omega) | (rw [Int32.lt_iff_toInt_lt, eM] at h65; split at h65 <;> omega)) | (refine lf_t ?_; unfold flt; rw [Int32.lt_iff_toInt_lt, eA, c_i (by decide)] at h47; rw [Int32.lt_iff_toInt_lt, eM] at h65; split at h47 <;> split at h65 <;> omega)
    · skip
      refine r_go 2 rfl ?_ ?_
      · (first | exact trivial | assumption | (simp (disch := omega) [ab_all, ab_nz, *]; done))
      refine r_ret rfl (by (first | exact Or.inl rfl | exact Or.inr rfl | exact bI_or)) ?_
      first | (refine lf_f (fun hh => ?_); unfold flt at hh; first | (rw [Int32.lt_iff_toInt_lt, eA, c_i (by decide)] at h47; split at h47 <;> omega) | (rw [Int32.lt_iff_toInt_lt, eM] at h65; split at h65 <;> omega)) | (refine lf_t ?_; unfold flt; rw [Int32.lt_iff_toInt_lt, eA, c_i (by decide)] at h47; rw [Int32.lt_iff_toInt_lt, eM] at h65; split at h47 <;> split at h65 <;> omega)
theorem m_floats {z : Vc} {i : ab_I} (b : Nat) (hs : i 219 = z) (hI : InT z) (hb : b + 1 < nB z) : ab_K 2 222 [.ref 218, .int (nI b)] i (ab_V (.int (bI (flt z b))) i) := by
  have b6 := hI.1.2
  have l1 := lev_rg hI (show b < nB z by omega)
  have l2 := lev_rg hI hb
  have r6 : rg (bs z b 6) 0 99 := hI.2.2.2.2.1 b (by omega) 6 (by decide)
  have eS : (lev z b - lev z (b + 1)).toInt = (lev z b).toInt - (lev z (b + 1)).toInt := su_i (by omega) (by omega)
  have c2 : (nI 2).toInt = 2 := by decide
  have c3 : ((-3) : Int32).toInt = -3 := by decide
  have eM1 : (lev z b + nI 2).toInt = (lev z b).toInt + 2 := by rw [ad_i (by rw [c2]; omega) (by rw [c2]; omega), c2]
  have eM2 : (lev z (b + 1) + nI 2).toInt = (lev z (b + 1)).toInt + 2 := by rw [ad_i (by rw [c2]; omega) (by rw [c2]; omega), c2]
  unfold rg at r6
  refine k_of rfl ?_
  refine r_go 2 rfl ?_ ?_
  · (first | exact trivial | assumption | (simp (disch := omega) [ab_all, ab_nz, *]; done))
  refine r_cv rfl rfl ((m_level b hs hI (by omega))) (by decide) ?_
  refine r_go 5 rfl ?_ ?_
  · (first | exact trivial | assumption | (simp (disch := omega) [ab_all, ab_nz, *]; done))
  rw [nI_add]
  refine r_cv rfl rfl ((m_level (b + 1) hs hI hb)) (by decide) ?_
  refine r_go 7 rfl ?_ ?_
  · (first | exact trivial | assumption | (simp (disch := omega) [ab_all, ab_nz, *]; done))
  refine r_le rfl (fun h21 => ?_) (fun h21 => ?_)
  · skip
    refine r_go 5 rfl ?_ ?_
    · (first | exact trivial | assumption | (simp (disch := omega) [ab_all, ab_nz, *]; done))
    refine r_cv rfl trivial ((m_in _ _ _)) (by decide) ?_
    refine r_bE rfl (fun h39 => ?_) (fun h39 => ?_)
    · skip
      refine r_go 1 rfl ?_ ?_
      · (first | exact trivial | assumption | (simp (disch := omega) [ab_all, ab_nz, *]; done))
      refine r_ret rfl (by (first | exact Or.inl rfl | exact Or.inr rfl | exact bI_or)) ?_
      first | (refine lf_f (fun hh => ?_); unfold flt at hh; first | (rw [Int32.le_iff_toInt_le, Int32.le_iff_toInt_le, eS, c3, c_i (by decide)] at h39; omega) | (rw [Int32.lt_iff_toInt_lt] at h21 h53; first | (rw [eM1] at h53; omega) | (rw [eM2] at h53; omega))) | (refine lf_t ?_; unfold flt; rw [Int32.le_iff_toInt_le, Int32.le_iff_toInt_le, eS, c3, c_i (by decide)] at h39; rw [Int32.lt_iff_toInt_lt] at h21 h53; first | (rw [eM1] at h53; omega) | (rw [eM2] at h53; omega))
    · skip
      refine r_go 3 rfl ?_ ?_
      · (first | exact trivial | assumption | (simp (disch := omega) [ab_all, ab_nz, *]; done))
      refine r_cv rfl rfl ((m_of b 6 hs (by omega))) (by decide) ?_
      refine r_go 3 rfl ?_ ?_
      · (first | exact trivial | assumption | (simp (disch := omega) [ab_all, ab_nz, *]; done))
      refine r_br rfl (fun h53 => ?_) (fun h53 => ?_)
      · skip
        refine r_go 1 rfl ?_ ?_
        · (first | exact trivial | assumption | (simp (disch := omega) [ab_all, ab_nz, *]; done))
        refine r_ret rfl (by (first | exact Or.inl rfl | exact Or.inr rfl | exact bI_or)) ?_
        first | (refine lf_f (fun hh => ?_); unfold flt at hh; first | (rw [Int32.le_iff_toInt_le, Int32.le_iff_toInt_le, eS, c3, c_i (by decide)] at h39; omega) | (rw [Int32.lt_iff_toInt_lt] at h21 h53; first | (rw [eM1] at h53; omega) | (rw [eM2] at h53; omega))) | (refine lf_t ?_; unfold flt; rw [Int32.le_iff_toInt_le, Int32.le_iff_toInt_le, eS, c3, c_i (by decide)] at h39; rw [Int32.lt_iff_toInt_lt] at h21 h53; first | (rw [eM1] at h53; omega) | (rw [eM2] at h53; omega))
      · skip
        refine r_go 2 rfl ?_ ?_
        · (first | exact trivial | assumption | (simp (disch := omega) [ab_all, ab_nz, *]; done))
        refine r_ret rfl (by (first | exact Or.inl rfl | exact Or.inr rfl | exact bI_or)) ?_
        first | (refine lf_f (fun hh => ?_); unfold flt at hh; first | (rw [Int32.le_iff_toInt_le, Int32.le_iff_toInt_le, eS, c3, c_i (by decide)] at h39; omega) | (rw [Int32.lt_iff_toInt_lt] at h21 h53; first | (rw [eM1] at h53; omega) | (rw [eM2] at h53; omega))) | (refine lf_t ?_; unfold flt; rw [Int32.le_iff_toInt_le, Int32.le_iff_toInt_le, eS, c3, c_i (by decide)] at h39; rw [Int32.lt_iff_toInt_lt] at h21 h53; first | (rw [eM1] at h53; omega) | (rw [eM2] at h53; omega))
  · skip
    refine r_go 6 rfl ?_ ?_
    · (first | exact trivial | assumption | (simp (disch := omega) [ab_all, ab_nz, *]; done))
    refine r_cv rfl trivial ((m_in _ _ _)) (by decide) ?_
    refine r_bE rfl (fun h39 => ?_) (fun h39 => ?_)
    · skip
      refine r_go 1 rfl ?_ ?_
      · (first | exact trivial | assumption | (simp (disch := omega) [ab_all, ab_nz, *]; done))
      refine r_ret rfl (by (first | exact Or.inl rfl | exact Or.inr rfl | exact bI_or)) ?_
      first | (refine lf_f (fun hh => ?_); unfold flt at hh; first | (rw [Int32.le_iff_toInt_le, Int32.le_iff_toInt_le, eS, c3, c_i (by decide)] at h39; omega) | (rw [Int32.lt_iff_toInt_lt] at h21 h53; first | (rw [eM1] at h53; omega) | (rw [eM2] at h53; omega))) | (refine lf_t ?_; unfold flt; rw [Int32.le_iff_toInt_le, Int32.le_iff_toInt_le, eS, c3, c_i (by decide)] at h39; rw [Int32.lt_iff_toInt_lt] at h21 h53; first | (rw [eM1] at h53; omega) | (rw [eM2] at h53; omega))
    · skip
      refine r_go 3 rfl ?_ ?_
      · (first | exact trivial | assumption | (simp (disch := omega) [ab_all, ab_nz, *]; done))
      refine r_cv rfl rfl ((m_of b 6 hs (by omega))) (by decide) ?_
      refine r_go 3 rfl ?_ ?_
      · (first | exact trivial | assumption | (simp (disch := omega) [ab_all, ab_nz, *]; done))
      refine r_br rfl (fun h53 => ?_) (fun h53 => ?_)
      · skip
        refine r_go 1 rfl ?_ ?_
        · (first | exact trivial | assumption | (simp (disch := omega) [ab_all, ab_nz, *]; done))
        refine r_ret rfl (by (first | exact Or.inl rfl | exact Or.inr rfl | exact bI_or)) ?_
        first | (refine lf_f (fun hh => ?_); unfold flt at hh; first | (rw [Int32.le_iff_toInt_le, Int32.le_iff_toInt_le, eS, c3, c_i (by decide)] at h39; omega) | (rw [Int32.lt_iff_toInt_lt] at h21 h53; first | (rw [eM1] at h53; omega) | (rw [eM2] at h53; omega))) | (refine lf_t ?_; unfold flt; rw [Int32.le_iff_toInt_le, Int32.le_iff_toInt_le, eS, c3, c_i (by decide)] at h39; rw [Int32.lt_iff_toInt_lt] at h21 h53; first | (rw [eM1] at h53; omega) | (rw [eM2] at h53; omega))
      · skip
        refine r_go 2 rfl ?_ ?_
        · (first | exact trivial | assumption | (simp (disch := omega) [ab_all, ab_nz, *]; done))
        refine r_ret rfl (by (first | exact Or.inl rfl | exact Or.inr rfl | exact bI_or)) ?_
        first | (refine lf_f (fun hh => ?_); unfold flt at hh; first | (rw [Int32.le_iff_toInt_le, Int32.le_iff_toInt_le, eS, c3, c_i (by decide)] at h39; omega) | (rw [Int32.lt_iff_toInt_lt] at h21 h53; first | (rw [eM1] at h53; omega) | (rw [eM2] at h53; omega))) | (refine lf_t ?_; unfold flt; rw [Int32.le_iff_toInt_le, Int32.le_iff_toInt_le, eS, c3, c_i (by decide)] at h39; rw [Int32.lt_iff_toInt_lt] at h21 h53; first | (rw [eM1] at h53; omega) | (rw [eM2] at h53; omega))
def rb (M : Nat) (z : Vc) : Nat → Nat
  | 0 => M
  | b + 1 => if flt z b then (rb M z b ||| bup M b) ||| bdn M b else rb M z b
theorem rb_lt {M : Nat} {z : Vc} (hM : M < 64) : ∀ {b : Nat}, b ≤ 5 → rb M z b < 64
  | 0, _ => hM
  | b + 1, h => by
    have h1 := rb_lt (M := M) (z := z) hM (b := b) (by omega)
    have h2 := (bt_all M hM b (by omega)).2.2
    show (if flt z b then (rb M z b ||| bup M b) ||| bdn M b else rb M z b) < 64
    split
    · exact (bo_all _ (bo_all _ h1 _ h2.1).2 _ h2.2).2
    · exact h1
theorem rb_loop {t M : Nat} {z : Vc} {i : ab_I} (ht : isT t) (hI : InT z) (hR : TwR t z i) (hM : M < 64) (h1 : 1 ≤ nB z) (mm b : Nat) (hmm : nB z - b < mm) (hb : b + 1 ≤ nB z) : ab_R 3 tb_X3_reachedBehind 4 [some (.ref t), some (.int (nI M)), some (.int (nI (rb M z b))), some (.int (nI b))] [] i (ab_V (.int (nI (rb M z (nB z - 1)))) i) := by
  induction mm generalizing b with
  | zero => exact absurd hmm (by omega)
  | succ mm ih =>
    have g0 := tg_t ht
    have b6 := hI.1.2
    have t2 : i t 2 = nI (nB z) := hR.1.1.trans hI.1.1
    have hl := rb_lt (M := M) (z := z) hM (b := b) (by omega)
    refine r_go 5 rfl ?_ ?_
    · exact g0
    rw [nI_add, t2]
    refine r_le rfl (fun h11 => ?_) (fun h11 => ?_)
    · skip
      refine r_go 1 rfl ?_ ?_
      · (first | exact trivial | assumption | (simp (disch := omega) [ab_all, ab_nz, *]; done))
      refine r_ret rfl trivial ?_
      have e : b = nB z - 1 := by clear hI hR; (simp (disch := omega) only [Int32.le_iff_toInt_le, Int32.lt_iff_toInt_lt, c_i, m1_i, m5_i, m33_i] at * <;> omega)
      rw [e]
      exact ⟨rfl, rfl⟩
    · skip
      have hbl : b + 1 < nB z := by clear hI hR; (simp (disch := omega) only [Int32.le_iff_toInt_le, Int32.lt_iff_toInt_lt, c_i, m1_i, m5_i, m33_i] at * <;> omega)
      have hB := bt_all M hM b (by omega)
      refine r_go 2 rfl ?_ ?_
      · (first | exact trivial | assumption | (simp (disch := omega) [ab_all, ab_nz, *]; done))
      refine r_cv rfl g0 ((k_floats b ht hI hR hbl)) (by decide) ?_
      refine r_bE rfl (fun h19 => ?_) (fun h19 => ?_)
      · skip
        refine r_go 2 rfl ?_ ?_
        · (first | exact trivial | assumption | (simp (disch := omega) [ab_all, ab_nz, *]; done))
        have es : rb M z (b + 1) = if flt z b then (rb M z b ||| bup M b) ||| bdn M b else rb M z b := rfl
        have K := ih (b + 1) (by omega) (by omega)
        rw [es] at K
        simp only [nI_add]
        first | (rw [if_pos h19] at K; rw [hB.1.1, hB.1.2, (bo_all _ hl _ hB.2.2.1).1, (bo_all _ (bo_all _ hl _ hB.2.2.1).2 _ hB.2.2.2).1]; exact r_lk K rfl) | (rw [if_neg h19] at K; exact r_lk K rfl)
      · skip
        refine r_go 24 rfl ?_ ?_
        · (first | exact trivial | assumption | (simp (disch := omega) [ab_all, ab_nz, *]; done))
        have es : rb M z (b + 1) = if flt z b then (rb M z b ||| bup M b) ||| bdn M b else rb M z b := rfl
        have K := ih (b + 1) (by omega) (by omega)
        rw [es] at K
        simp only [nI_add]
        first | (rw [if_pos h19] at K; rw [hB.1.1, hB.1.2, (bo_all _ hl _ hB.2.2.1).1, (bo_all _ (bo_all _ hl _ hB.2.2.1).2 _ hB.2.2.2).1]; exact r_lk K rfl) | (rw [if_neg h19] at K; exact r_lk K rfl)
theorem k_reach {t : Nat} {z : Vc} {i : ab_I} (M : Nat) (ht : isT t) (hI : InT z) (hR : TwR t z i) (hM : M < 64) (h1 : 1 ≤ nB z) : ab_K 3 54 [.ref t, .int (nI M)] i (ab_V (.int (nI (rb M z (nB z - 1)))) i) := by
  refine k_of rfl ?_
  refine r_go 4 rfl ?_ ?_
  · (first | exact trivial | assumption | (simp (disch := omega) [ab_all, ab_nz, *]; done))
  exact rb_loop ht hI hR hM h1 (nB z + 1) 0 (by omega) (by omega)
def Mk (f : Nat) (s : Vc) : Nat → Nat
  | 0 => 2 ^ f
  | k + 1 => rb (Mk f s k) (pN 0 (k + 1) s) (nB s - 1)
theorem Mk_lt {f : Nat} {s : Vc} (hf : f < 6) (hI : InT s) : ∀ k, Mk f s k < 64
  | 0 => (b1_all f hf).2
  | k + 1 => rb_lt (Mk_lt hf hI k) (by have := hI.1.2; omega)
abbrev hit (f t : Nat) (s : Vc) (k : Nat) : Prop := Mk f s k / 2 ^ t % 2 = 1
def fhN (f t : Nat) (s : Vc) : Nat → Nat → Nat
  | 0, k => k
  | g + 1, k => if hit f t s k then k else fhN f t s g (k + 1)
theorem fhN_eq {f t d : Nat} {s : Vc} : ∀ {g k : Nat}, k ≤ d → (∀ j, k ≤ j → j < d → ¬ hit f t s j) → d ≤ k + g → (hit f t s d ∨ d = k + g) → fhN f t s g k = d
  | 0, k, h1, _, h3, _ => by
    show k = d
    omega
  | g + 1, k, h1, h2, h3, h4 => by
    show (if hit f t s k then k else fhN f t s g (k + 1)) = d
    by_cases e : k = d
    · subst e
      rw [if_pos (h4.resolve_right (by omega))]
    · rw [if_neg (h2 k (Nat.le_refl _) (by omega))]
      exact fhN_eq (by omega) (fun j a b => h2 j (by omega) b) (by omega) (h4.imp id (by omega))
def fst (f t n : Nat) (s : Vc) : Nat := fhN f t s (n + 1) 0
def S_comes (f t n : Int32) (m : ab_I) : Int32 × ab_I := if okB (m 219) f ∧ okB (m 219) t ∧ nI 0 ≤ n ∧ n ≤ nI 48 then (if fst f.toNatClampNeg t.toNatClampNeg n.toNatClampNeg (m 219) ≤ n.toNatClampNeg then (nI (fst f.toNatClampNeg t.toNatClampNeg n.toNatClampNeg (m 219)), m) else er m 2) else er m 1
def cmV (f t n : Nat) (s : Vc) : Int32 := if fst f t n s ≤ n then nI (fst f t n s) else (-1)
theorem hc_loop {f t n : Nat} {s : Vc} {i0 : ab_I} (hI : InT s) (hX : InXs s) (hL0 : LwsR s i0) (hf : f < nB s) (ht : t < nB s) (hn : n ≤ 48) (mm k : Nat) (i : ab_I) (hmm : n + 1 - k < mm) (hk : k ≤ n + 1) (hR : TwR (tr 0) (pN 0 k s) i) (hno : ∀ j, j < k → ¬ hit f t s j) (hi : ol i0 i) : ab_R 5 tb_X3_hoursToCome 20 [some (.ref 72), none, none, some (.int (nI n)), some (.ref (tr 0)), some (.int (nI (Mk f s k))), some (.int (nI 1 <<< (nI t &&& 31))), some (.int (nI k))] [] i (fun v i' => v = some (.int (cmV f t n s)) ∧ ol i0 i') := by
  induction mm generalizing k i with
  | zero => exact absurd hmm (by omega)
  | succ mm ih =>
    have b6 := hI.1.2
    have hP := In_pN (w := 0) (n := k) hI
    have hX1 := InXs_rt hX hP.2.2
    have hM := Mk_lt (f := f) (by omega) hI k
    have hh := (bh_all _ hM t (by omega)).1
    refine r_go 2 rfl ?_ ?_
    · (first | exact trivial | assumption | (simp (disch := omega) [ab_all, ab_nz, *]; done))
    refine r_br rfl (fun h23 => ?_) (fun h23 => ?_)
    · skip
      refine r_go 1 rfl ?_ ?_
      · (first | exact trivial | assumption | (simp (disch := omega) [ab_all, ab_nz, *]; done))
      refine r_ret rfl trivial ?_
      have e : k = n + 1 := by clear hI hX hL0 hR hno hi hP hX1 hh; (simp (disch := omega) only [Int32.le_iff_toInt_le, Int32.lt_iff_toInt_lt, c_i, m1_i, m5_i, m33_i] at * <;> omega)
      have e2 : fst f t n s = n + 1 := fhN_eq (Nat.zero_le _) (fun j _ b => hno j (by omega)) (by omega) (Or.inr (by omega))
      exact ⟨by unfold cmV; rw [e2, if_neg (by omega)], hi⟩
    · skip
      have hkl : k ≤ n := by clear hI hX hL0 hR hno hi hP hX1 hh; (simp (disch := omega) only [Int32.le_iff_toInt_le, Int32.lt_iff_toInt_lt, c_i, m1_i, m5_i, m33_i] at * <;> omega)
      refine r_go 3 rfl ?_ ?_
      · (first | exact trivial | assumption | (simp (disch := omega) [ab_all, ab_nz, *]; done))
      skip
      refine r_br rfl (fun h31 => ?_) (fun h31 => ?_)
      · skip
        refine r_go 5 rfl ?_ ?_
        · exact ⟨rfl, by decide⟩
        have hk1 : ¬ hit f t s k := hh.mp h31
        rw [gr_72_1]
        refine r_c rfl (tg_t (isT_tr (by decide))) ((k_hr (nI 2) (isT_tr (by decide)) hP.1 hX1 hR (LwsR_rt (ol_L hL0 hX hi) hX hP.2.2 (fun _ _ => rfl)))) (by decide) ?_
        rintro v i2 ⟨rfl, R2, f2⟩
        have R2' : TwR (tr 0) (pN 0 (k + 1) s) i2 := R2
        have hP2 := In_pN (w := 0) (n := k + 1) hI
        refine r_go 2 rfl ?_ ?_
        · (first | exact trivial | assumption | (simp (disch := omega) [ab_all, ab_nz, *]; done))
        refine r_cv rfl trivial ((k_reach (Mk f s k) (isT_tr (by decide)) hP2.1 R2' hM (by rw [hP2.2.1.1]; omega))) (by decide) ?_
        refine r_go 3 rfl ?_ ?_
        · (first | exact trivial | assumption | (simp (disch := omega) [ab_all, ab_nz, *]; done))
        rw [nI_add, hP2.2.1.1, show rb (Mk f s k) (pN 0 (k + 1) s) (nB s - 1) = Mk f s (k + 1) from rfl]
        refine r_lk (ih (k + 1) i2 (by omega) (by omega) R2' (fun j hj => ?_) (ol_tr hi (ol_frT f2 (tr_rg (by decide))))) rfl
        by_cases e : j = k
        · rw [e]
          exact hk1
        · exact hno j (by omega)
      · skip
        refine r_go 1 rfl ?_ ?_
        · (first | exact trivial | assumption | (simp (disch := omega) [ab_all, ab_nz, *]; done))
        refine r_ret rfl trivial ?_
        have hk1 : hit f t s k := Classical.byContradiction (fun z => h31 (hh.mpr z))
        have e : fst f t n s = k := fhN_eq (Nat.zero_le _) (fun j _ b => hno j b) (by omega) (Or.inl hk1)
        exact ⟨by unfold cmV; rw [e, if_pos hkl], hi⟩
theorem k_come {s : Vc} {i : ab_I} (hI : InT s) (hX : InXs s) (hT : TwR 2 s i) (hL : LwsR s i) (f t n : Nat) (hf : f < nB s) (ht : t < nB s) (hn : n ≤ 48) : ab_K 5 53 [.ref 72, .int (nI f), .int (nI t), .int (nI n)] i (fun v i' => v = some (.int (cmV f t n s)) ∧ ol i i') := by
  have b6 := hI.1.2
  refine k_of rfl ?_
  refine r_go 2 rfl ?_ ?_
  · (first | exact trivial | assumption | (simp (disch := omega) [ab_all, ab_nz, *]; done))
  refine r_c rfl rfl ((k_fresh 0 (by decide) hI hT)) (by decide) ?_
  rintro v i1 ⟨rfl, R1, f1⟩
  refine r_go 11 rfl ?_ ?_
  · (first | exact trivial | assumption | (simp (disch := omega) [ab_all, ab_nz, *]; done))
  rw [(b1_all f (by omega)).1]
  have f2 := ol_frX f1 (tr_rg (by decide))
  refine r_mono (r_lk (hc_loop (i0 := i1) hI hX (ol_L hL hX f2) hf ht hn (n + 2) 0 i1 (by omega) (by omega) R1 (fun j hj => absurd hj (by omega)) ol_rf) rfl) ?_
  rintro v j ⟨rfl, h⟩
  exact ⟨rfl, ol_tr f2 h⟩
theorem c_comes {i m : ab_I} (hC : ClsR i m) (hJ : InM m) (x y n : Int32) : ab_K 6 132 [.ref 0, .int x, .int y, .int n] i (clQ i (S_comes x y n m)) := by
  (have hI := hJ.1.1; have hX := InS_X hJ.1; have hT := hC.1.1; have hLw : LwsR (m 219) i := ⟨hC.1.2.1, hC.1.2.2.1⟩; have hE := hC.2.2.2.2.1.1)
  have t2 : i 2 2 = nI (nB (m 219)) := hT.1.1.trans hI.1.1
  have b6 := hI.1.2
  refine k_of rfl ?_
  refine r_go 4 rfl ?_ ?_
  · (first | exact trivial | (simp only [ab_all] <;> decide))
  simp only [gr_0_0, gr_0_1, gr_0_3, gr_0_4, gr_0_5, gr_0_6, gr_0_7, gr_1_0, gr_1_1, gr_1_2, gr_1_3, gr_1_4, gr_35_0, gr_35_1, gr_35_2, gr_35_3, gr_35_4]
  refine r_cv rfl rfl ((k_hasB x isT_2 t2 (Nat.le_trans hI.1.2 (by decide)))) (by decide) ?_
  refine r_bE rfl (fun h11 => ?_) (fun h11 => ?_)
  · skip
    refine r_go 2 rfl ?_ ?_
    · (first | exact trivial | (simp only [ab_all] <;> decide))
    refine r_cv rfl rfl ((k_error 1 (by decide) (by decide) hE)) (by decide) ?_
    refine r_ret rfl trivial ?_
    exact cl_to (if_neg (by simp only [h11, if_true, if_false, not_true, not_false_eq_true, and_true, true_and, and_false, false_and, or_true, true_or, or_false, false_or, and_self, or_self, not_false_eq_true])) (cl_er (by decide) (by decide) hJ hC)
  · skip
    refine r_go 4 rfl ?_ ?_
    · (first | exact trivial | (simp only [ab_all] <;> decide))
    simp only [gr_0_0, gr_0_1, gr_0_3, gr_0_4, gr_0_5, gr_0_6, gr_0_7, gr_1_0, gr_1_1, gr_1_2, gr_1_3, gr_1_4, gr_35_0, gr_35_1, gr_35_2, gr_35_3, gr_35_4]
    refine r_cv rfl rfl ((k_hasB y isT_2 t2 (Nat.le_trans hI.1.2 (by decide)))) (by decide) ?_
    refine r_bE rfl (fun h25 => ?_) (fun h25 => ?_)
    · skip
      refine r_go 2 rfl ?_ ?_
      · (first | exact trivial | (simp only [ab_all] <;> decide))
      refine r_cv rfl rfl ((k_error 1 (by decide) (by decide) hE)) (by decide) ?_
      refine r_ret rfl trivial ?_
      exact cl_to (if_neg (by simp only [h11, h25, if_true, if_false, not_true, not_false_eq_true, and_true, true_and, and_false, false_and, or_true, true_or, or_false, false_or, and_self, or_self, not_false_eq_true])) (cl_er (by decide) (by decide) hJ hC)
    · skip
      refine r_go 3 rfl ?_ ?_
      · (first | exact trivial | (simp only [ab_all] <;> decide))
      refine r_cv rfl trivial ((k_within _ _ _)) (by decide) ?_
      refine r_bN rfl (fun h35 => ?_) (fun h35 => ?_)
      · skip
        refine r_go 5 rfl ?_ ?_
        · (first | exact trivial | (simp only [ab_all] <;> decide))
        have hP : S_comes x y n m = (if fst x.toNatClampNeg y.toNatClampNeg n.toNatClampNeg (m 219) ≤ n.toNatClampNeg then (nI (fst x.toNatClampNeg y.toNatClampNeg n.toNatClampNeg (m 219)), m) else er m 2) := if_pos ⟨h11, h25, h35⟩
        obtain ⟨f, hf, rfl⟩ := of_rg h11
        obtain ⟨t, ht, rfl⟩ := of_rg h25
        obtain ⟨N, hN, rfl⟩ := of_bt (by decide) h35
        simp (disch := omega) only [nI_cl] at hP
        simp only [gr_0_0, gr_0_1, gr_0_3, gr_0_4, gr_0_5, gr_0_6, gr_0_7, gr_1_0, gr_1_1, gr_1_2, gr_1_3, gr_1_4, gr_35_0, gr_35_1, gr_35_2, gr_35_3, gr_35_4]
        refine r_c rfl rfl ((k_come hI hX hT hLw f t N hf ht hN)) (by decide) ?_
        rintro v i1 ⟨rfl, f1⟩
        have hC1 : ClsR i1 m := (cl_ol (v := nI 0) hJ hC f1).2.1
        refine r_go 3 rfl ?_ ?_
        · (first | exact trivial | (simp only [ab_all] <;> decide))
        unfold cmV
        refine r_ne rfl (fun h59 => ?_) (fun h59 => ?_)
        · skip
          refine r_go 1 rfl ?_ ?_
          · (first | exact trivial | (simp only [ab_all] <;> decide))
          refine r_ret rfl trivial ?_
          by_cases e : fst f t N (m 219) ≤ N
          · rw [if_pos e] at hP
            first | (exfalso; rw [if_pos e, eq_i, c_i (by omega), m1_i] at h59; omega) | (rw [if_pos e]; exact cl_to hP (cl_ol hJ hC f1))
          · rw [if_neg e] at hP
            first | (exfalso; rw [if_neg e] at h59; exact h59 rfl) | (refine cl_to hP ?_; have q := cl_er (k := 2) (by decide) (by decide) hJ hC1; exact ⟨q.1, q.2.1, fun p hp => (q.2.2 p hp).trans (f1 p (by omega) (by omega) (by omega))⟩)
        · skip
          refine r_go 2 rfl ?_ ?_
          · (first | exact trivial | (simp only [ab_all] <;> decide))
          refine r_cv rfl rfl ((k_error 2 (by decide) (by decide) (by rw [f1 216 (by omega) (by decide) (by decide)]; exact hE))) (by decide) ?_
          refine r_go 1 rfl ?_ ?_
          · (first | exact trivial | (simp only [ab_all] <;> decide))
          refine r_ret rfl trivial ?_
          by_cases e : fst f t N (m 219) ≤ N
          · rw [if_pos e] at hP
            first | (exfalso; rw [if_pos e, eq_i, c_i (by omega), m1_i] at h59; omega) | (rw [if_pos e]; exact cl_to hP (cl_ol hJ hC f1))
          · rw [if_neg e] at hP
            first | (exfalso; rw [if_neg e] at h59; exact h59 rfl) | (refine cl_to hP ?_; have q := cl_er (k := 2) (by decide) (by decide) hJ hC1; exact ⟨q.1, q.2.1, fun p hp => (q.2.2 p hp).trans (f1 p (by omega) (by omega) (by omega))⟩)
      · skip
        refine r_go 2 rfl ?_ ?_
        · (first | exact trivial | (simp only [ab_all] <;> decide))
        refine r_cv rfl rfl ((k_error 1 (by decide) (by decide) hE)) (by decide) ?_
        refine r_ret rfl trivial ?_
        exact cl_to (if_neg (by simp only [h11, h25, h35, if_true, if_false, not_true, not_false_eq_true, and_true, true_and, and_false, false_and, or_true, true_or, or_false, false_or, and_self, or_self, not_false_eq_true])) (cl_er (by decide) (by decide) hJ hC)
theorem n_comes {m : ab_I} (hJ : InM m) (f t n : Int32) : InM (S_comes f t n m).2 := by
  unfold S_comes
  split
  · split
    · exact hJ
    · exact InM_er hJ
  · exact InM_er hJ
theorem mr_loop {M t n k : Nat} {z : Vc} {i : ab_I} {Q : Option Value → ab_I → Prop} (hs : i 219 = z) (hI : InT z) (hM : M < 64) (h1 : 1 ≤ nB z) (K : ab_R 8 tb_X11_comes 48 [some (.ref 218), none, some (.int (nI t)), some (.int (nI n)), some (.int (nI (rb M z (nB z - 1)))), some (.int (nI (k + 1))), none, none] [] i Q) (mm b : Nat) (hmm : nB z - b < mm) (hb : b + 1 ≤ nB z) : ab_R 8 tb_X11_comes 74 [some (.ref 218), none, some (.int (nI t)), some (.int (nI n)), some (.int (nI M)), some (.int (nI k)), some (.int (nI (rb M z b))), some (.int (nI b))] [] i Q := by
  induction mm generalizing b with
  | zero => exact absurd hmm (by omega)
  | succ mm ih =>
    have b6 := hI.1.2
    have hl := rb_lt (M := M) (z := z) hM (b := b) (by omega)
    refine r_go 7 rfl ?_ ?_
    · (simp only [ab_all, gr_218_0, nI_add]; repeat' (first | exact ix_219 (by omega) | rfl | decide | (unfold ab_nz; decide) | refine And.intro ?_ ?_))
    rw [nI_add, rowI hs, nI_cl (by decide), hI.1.1]
    refine r_le rfl (fun h84 => ?_) (fun h84 => ?_)
    · skip
      refine r_go 4 rfl ?_ ?_
      · (first | exact trivial | assumption | (simp (disch := omega) [ab_all, ab_nz, *]; done))
      have e : b = nB z - 1 := by clear K hI hs; (simp (disch := omega) only [Int32.le_iff_toInt_le, Int32.lt_iff_toInt_lt, c_i, m1_i, m5_i, m33_i] at * <;> omega)
      rw [nI_add, e]
      exact r_lk K rfl
    · skip
      have hbl : b + 1 < nB z := by clear K hI hs; (simp (disch := omega) only [Int32.le_iff_toInt_le, Int32.lt_iff_toInt_lt, c_i, m1_i, m5_i, m33_i] at * <;> omega)
      have hB := bt_all M hM b (by omega)
      refine r_go 2 rfl ?_ ?_
      · (first | exact trivial | assumption | (simp (disch := omega) [ab_all, ab_nz, *]; done))
      refine r_cv rfl rfl ((m_floats b hs hI hbl)) (by decide) ?_
      refine r_bE rfl (fun h93 => ?_) (fun h93 => ?_)
      · skip
        refine r_go 2 rfl ?_ ?_
        · (first | exact trivial | assumption | (simp (disch := omega) [ab_all, ab_nz, *]; done))
        have es : rb M z (b + 1) = if flt z b then (rb M z b ||| bup M b) ||| bdn M b else rb M z b := rfl
        have k := ih (b + 1) (by omega) (by omega)
        rw [es] at k
        simp only [nI_add]
        first | (rw [if_pos h93] at k; rw [hB.2.1.1, hB.2.1.2, (bo_all _ hB.2.2.1 _ hB.2.2.2).1, (bo_all _ hl _ (bo_all _ hB.2.2.1 _ hB.2.2.2).2).1, ← Nat.or_assoc]; exact r_lk k rfl) | (rw [if_neg h93] at k; exact r_lk k rfl)
      · skip
        refine r_go 24 rfl ?_ ?_
        · (first | exact trivial | assumption | (simp (disch := omega) [ab_all, ab_nz, *]; done))
        have es : rb M z (b + 1) = if flt z b then (rb M z b ||| bup M b) ||| bdn M b else rb M z b := rfl
        have k := ih (b + 1) (by omega) (by omega)
        rw [es] at k
        simp only [nI_add]
        first | (rw [if_pos h93] at k; rw [hB.2.1.1, hB.2.1.2, (bo_all _ hB.2.2.1 _ hB.2.2.2).1, (bo_all _ hl _ (bo_all _ hB.2.2.1 _ hB.2.2.2).2).1, ← Nat.or_assoc]; exact r_lk k rfl) | (rw [if_neg h93] at k; exact r_lk k rfl)
theorem mcm_loop {i m : ab_I} (hm : mo i m) (hJ : InM m) (h13 : i 218 13 = (-1)) {f t n : Nat} {p : Int32 × ab_I} (hf : f < nB (m 219)) (ht : t < nB (m 219)) (hn : n ≤ 48) (hP : p = (if fst f t n (m 219) ≤ n then (nI (fst f t n (m 219)), m) else er m 2)) (o : Vc) (mm k : Nat) (j : ab_I) (hmm : n + 1 - k < mm) (hk : k ≤ n) (hs : j 219 = pN 0 k (m 219)) (hj13 : j 218 13 = (-1)) (hp : j 221 = cy (m 219) o) (hno : ∀ a, a < k → ¬ hit f t (m 219) a) (hi : fo i j) : ab_R 8 tb_X11_comes 48 [some (.ref 218), none, some (.int (nI t)), some (.int (nI n)), some (.int (nI (Mk f (m 219) k))), some (.int (nI k)), none, none] [] j (rfQ i p) := by
  induction mm generalizing k j with
  | zero => exact absurd hmm (by omega)
  | succ mm ih =>
    have hI := hJ.1.1
    have hX := InS_X hJ.1
    have b6 := hI.1.2
    have hPN := In_pN (w := 0) (n := k) hI
    have hX1 := InXs_rt hX hPN.2.2
    have hM := Mk_lt (f := f) (by omega) hI k
    have hh := (bh_all _ hM t (by omega)).2
    refine r_go 2 rfl ?_ ?_
    · (first | exact trivial | assumption | (simp (disch := omega) [ab_all, ab_nz, *]; done))
    refine r_le rfl (fun h51 => ?_) (fun h51 => ?_)
    · skip
      refine r_go 4 rfl ?_ ?_
      · (simp only [ab_all, gr_218_0, gr_218_2] <;> decide)
      rw [gr_218_0, gr_218_2]
      refine r_cn rfl trivial ((m_carry gt_221 gt_219 (by decide))) (by decide) ?_
      refine r_go 6 rfl ?_ ?_
      · (first | exact trivial | assumption | (simp (disch := omega) [ab_all, ab_nz, *]; done))
      rw [hh]
      have e9 : ab_row j 219 (cy (j 221) (j 219)) 219 = m 219 := by rw [row_s, hs, hp]; exact cy_back (rt_480 hPN.2.2)
      have e13 : ab_row j 219 (cy (j 221) (j 219)) 218 13 = (-1) := (ab_row_ne (by decide)).trans hj13
      have ef : fo i (ab_row j 219 (cy (j 221) (j 219))) := fo_tr hi fo_r9
      refine r_ne rfl (fun h160 => ?_) (fun h160 => ?_)
      · skip
        refine r_go 2 rfl ?_ ?_
        · (first | exact trivial | assumption | (simp (disch := omega) [ab_all, ab_nz, *]; done))
        refine r_cv rfl rfl ((m_error 2 (by decide))) (by decide) ?_
        refine r_ret rfl trivial ?_
        first | (have hk1 : hit f t (m 219) k := (by unfold hit; exact (nI_eq (by omega) (by decide)).mp h160); have e : fst f t n (m 219) = k := fhN_eq (Nat.zero_le _) (fun a _ b => hno a b) (by omega) (Or.inl hk1); rw [e, if_pos hk] at hP; exact rf_to hP (rf_fo hm ef e9 e13)) | (have hk1 : ¬ hit f t (m 219) k := (fun z => h160 (by unfold hit at z; rw [z])); have e0 : k = n := (by first | (clear hm hJ h13 hI hX hs hp hno hi hPN hX1 hh hP hj13 e9 e13 ef hk1; (simp (disch := omega) only [Int32.le_iff_toInt_le, Int32.lt_iff_toInt_lt, c_i, m1_i, m5_i, m33_i] at * <;> omega)) | (exfalso; exact hk1 (by have := Nat.mod_lt (Mk f (m 219) k / 2 ^ t) (show 0 < 2 by decide); unfold hit; by_cases z : Mk f (m 219) k / 2 ^ t % 2 = 0; exact absurd (by rw [z]) h60; omega))); subst e0; have e : fst f t k (m 219) = k + 1 := fhN_eq (Nat.zero_le _) (fun a _ b => by rcases Nat.lt_or_ge a k with z | z; exact hno a z; rw [show a = k by omega]; exact hk1) (by omega) (Or.inr (by omega)); rw [e, if_neg (by omega)] at hP; refine rf_to hP ?_; have q0 := rf_fo (v := nI 0) hm ef e9 e13; have q := rf_er (k := 2) q0.2.1 e13; exact ⟨q.1, q.2.1, q.2.2.1, fun y hy => (q.2.2.2 y hy).trans (q0.2.2.2 y hy)⟩)
      · skip
        refine r_go 2 rfl ?_ ?_
        · (first | exact trivial | assumption | (simp (disch := omega) [ab_all, ab_nz, *]; done))
        refine r_ret rfl trivial ?_
        first | (have hk1 : hit f t (m 219) k := (by unfold hit; exact (nI_eq (by omega) (by decide)).mp h160); have e : fst f t n (m 219) = k := fhN_eq (Nat.zero_le _) (fun a _ b => hno a b) (by omega) (Or.inl hk1); rw [e, if_pos hk] at hP; exact rf_to hP (rf_fo hm ef e9 e13)) | (have hk1 : ¬ hit f t (m 219) k := (fun z => h160 (by unfold hit at z; rw [z])); have e0 : k = n := (by first | (clear hm hJ h13 hI hX hs hp hno hi hPN hX1 hh hP hj13 e9 e13 ef hk1; (simp (disch := omega) only [Int32.le_iff_toInt_le, Int32.lt_iff_toInt_lt, c_i, m1_i, m5_i, m33_i] at * <;> omega)) | (exfalso; exact hk1 (by have := Nat.mod_lt (Mk f (m 219) k / 2 ^ t) (show 0 < 2 by decide); unfold hit; by_cases z : Mk f (m 219) k / 2 ^ t % 2 = 0; exact absurd (by rw [z]) h60; omega))); subst e0; have e : fst f t k (m 219) = k + 1 := fhN_eq (Nat.zero_le _) (fun a _ b => by rcases Nat.lt_or_ge a k with z | z; exact hno a z; rw [show a = k by omega]; exact hk1) (by omega) (Or.inr (by omega)); rw [e, if_neg (by omega)] at hP; refine rf_to hP ?_; have q0 := rf_fo (v := nI 0) hm ef e9 e13; have q := rf_er (k := 2) q0.2.1 e13; exact ⟨q.1, q.2.1, q.2.2.1, fun y hy => (q.2.2.2 y hy).trans (q0.2.2.2 y hy)⟩)
    · skip
      have hkl : k < n := by clear hm hJ h13 hI hX hs hp hno hi hPN hX1 hh hP hj13; (simp (disch := omega) only [Int32.le_iff_toInt_le, Int32.lt_iff_toInt_lt, c_i, m1_i, m5_i, m33_i] at * <;> omega)
      refine r_go 5 rfl ?_ ?_
      · (first | exact trivial | assumption | (simp (disch := omega) [ab_all, ab_nz, *]; done))
      rw [hh]
      refine r_ne rfl (fun h60 => ?_) (fun h60 => ?_)
      · skip
        refine r_go 4 rfl ?_ ?_
        · (simp only [ab_all, gr_218_0, gr_218_2] <;> decide)
        rw [gr_218_0, gr_218_2]
        refine r_cn rfl trivial ((m_carry gt_221 gt_219 (by decide))) (by decide) ?_
        refine r_go 6 rfl ?_ ?_
        · (first | exact trivial | assumption | (simp (disch := omega) [ab_all, ab_nz, *]; done))
        rw [hh]
        have e9 : ab_row j 219 (cy (j 221) (j 219)) 219 = m 219 := by rw [row_s, hs, hp]; exact cy_back (rt_480 hPN.2.2)
        have e13 : ab_row j 219 (cy (j 221) (j 219)) 218 13 = (-1) := (ab_row_ne (by decide)).trans hj13
        have ef : fo i (ab_row j 219 (cy (j 221) (j 219))) := fo_tr hi fo_r9
        refine r_ne rfl (fun h160 => ?_) (fun h160 => ?_)
        · skip
          refine r_go 2 rfl ?_ ?_
          · (first | exact trivial | assumption | (simp (disch := omega) [ab_all, ab_nz, *]; done))
          refine r_cv rfl rfl ((m_error 2 (by decide))) (by decide) ?_
          refine r_ret rfl trivial ?_
          first | (have hk1 : hit f t (m 219) k := (by unfold hit; exact (nI_eq (by omega) (by decide)).mp h160); have e : fst f t n (m 219) = k := fhN_eq (Nat.zero_le _) (fun a _ b => hno a b) (by omega) (Or.inl hk1); rw [e, if_pos hk] at hP; exact rf_to hP (rf_fo hm ef e9 e13)) | (have hk1 : ¬ hit f t (m 219) k := (fun z => h160 (by unfold hit at z; rw [z])); have e0 : k = n := (by first | (clear hm hJ h13 hI hX hs hp hno hi hPN hX1 hh hP hj13 e9 e13 ef hk1; (simp (disch := omega) only [Int32.le_iff_toInt_le, Int32.lt_iff_toInt_lt, c_i, m1_i, m5_i, m33_i] at * <;> omega)) | (exfalso; exact hk1 (by have := Nat.mod_lt (Mk f (m 219) k / 2 ^ t) (show 0 < 2 by decide); unfold hit; by_cases z : Mk f (m 219) k / 2 ^ t % 2 = 0; exact absurd (by rw [z]) h60; omega))); subst e0; have e : fst f t k (m 219) = k + 1 := fhN_eq (Nat.zero_le _) (fun a _ b => by rcases Nat.lt_or_ge a k with z | z; exact hno a z; rw [show a = k by omega]; exact hk1) (by omega) (Or.inr (by omega)); rw [e, if_neg (by omega)] at hP; refine rf_to hP ?_; have q0 := rf_fo (v := nI 0) hm ef e9 e13; have q := rf_er (k := 2) q0.2.1 e13; exact ⟨q.1, q.2.1, q.2.2.1, fun y hy => (q.2.2.2 y hy).trans (q0.2.2.2 y hy)⟩)
        · skip
          refine r_go 2 rfl ?_ ?_
          · (first | exact trivial | assumption | (simp (disch := omega) [ab_all, ab_nz, *]; done))
          refine r_ret rfl trivial ?_
          first | (have hk1 : hit f t (m 219) k := (by unfold hit; exact (nI_eq (by omega) (by decide)).mp h160); have e : fst f t n (m 219) = k := fhN_eq (Nat.zero_le _) (fun a _ b => hno a b) (by omega) (Or.inl hk1); rw [e, if_pos hk] at hP; exact rf_to hP (rf_fo hm ef e9 e13)) | (have hk1 : ¬ hit f t (m 219) k := (fun z => h160 (by unfold hit at z; rw [z])); have e0 : k = n := (by first | (clear hm hJ h13 hI hX hs hp hno hi hPN hX1 hh hP hj13 e9 e13 ef hk1; (simp (disch := omega) only [Int32.le_iff_toInt_le, Int32.lt_iff_toInt_lt, c_i, m1_i, m5_i, m33_i] at * <;> omega)) | (exfalso; exact hk1 (by have := Nat.mod_lt (Mk f (m 219) k / 2 ^ t) (show 0 < 2 by decide); unfold hit; by_cases z : Mk f (m 219) k / 2 ^ t % 2 = 0; exact absurd (by rw [z]) h60; omega))); subst e0; have e : fst f t k (m 219) = k + 1 := fhN_eq (Nat.zero_le _) (fun a _ b => by rcases Nat.lt_or_ge a k with z | z; exact hno a z; rw [show a = k by omega]; exact hk1) (by omega) (Or.inr (by omega)); rw [e, if_neg (by omega)] at hP; refine rf_to hP ?_; have q0 := rf_fo (v := nI 0) hm ef e9 e13; have q := rf_er (k := 2) q0.2.1 e13; exact ⟨q.1, q.2.1, q.2.2.1, fun y hy => (q.2.2.2 y hy).trans (q0.2.2.2 y hy)⟩)
      · skip
        have hk1 : ¬ hit f t (m 219) k := fun z => by unfold hit at z; rw [z] at h60; exact absurd h60 (by decide)
        refine r_go 1 rfl ?_ ?_
        · (first | exact trivial | assumption | (simp (disch := omega) [ab_all, ab_nz, *]; done))
        refine r_c rfl rfl ((m_hr hs hPN.1 hX1 hj13)) (by decide) ?_
        rintro v i2 ⟨rfl, s2, f2⟩
        have s2' : i2 219 = pN 0 (k + 1) (m 219) := s2
        have hP2 := In_pN (w := 0) (n := k + 1) hI
        refine r_go 4 rfl ?_ ?_
        · (first | exact trivial | assumption | (simp (disch := omega) [ab_all, ab_nz, *]; done))
        refine r_lk (mr_loop s2' hP2.1 hM (by rw [hP2.2.1.1]; omega) ?_ (nB (pN 0 (k + 1) (m 219)) + 1) 0 (by omega) (by rw [hP2.2.1.1]; omega)) rfl
        rw [hP2.2.1.1, show rb (Mk f (m 219) k) (pN 0 (k + 1) (m 219)) (nB (m 219) - 1) = Mk f (m 219) (k + 1) from rfl]
        refine ih (k + 1) i2 (by omega) (by omega) s2' (by rw [f2 218 (by decide) (by decide) (by decide) (by decide)]; exact hj13) (by rw [f2 221 (by decide) (by decide) (by decide) (by decide)]; exact hp) (fun a ha => ?_) (fo_tr hi (fo_fh f2))
        by_cases e : a = k
        · rw [e]
          exact hk1
        · exact hno a (by omega)
theorem m_comes {i m : ab_I} (hm : mo i m) (hJ : InM m) (h13 : i 218 13 = (-1)) (x y n : Int32) : ab_K 8 223 [.ref 218, .int x, .int y, .int n] i (rfQ i (S_comes x y n m)) := by
  (have hI := hJ.1.1; have hX := InS_X hJ.1; have hs := hm.1)
  have h13z := h13
  have b6 := hI.1.2
  refine k_of rfl ?_
  refine r_go 2 rfl ?_ ?_
  · (first | exact trivial | assumption | (simp (disch := omega) [ab_all, ab_nz, *]; done))
  refine r_cv rfl rfl ((m_isB x hs hI)) (by decide) ?_
  refine r_bE rfl (fun h5 => ?_) (fun h5 => ?_)
  · skip
    refine r_go 2 rfl ?_ ?_
    · (first | exact trivial | assumption | (simp (disch := omega) [ab_all, ab_nz, *]; done))
    refine r_cv rfl rfl ((m_error 1 (by decide))) (by decide) ?_
    refine r_ret rfl trivial ?_
    exact rf_to (if_neg (by simp only [h5, if_true, if_false, not_true, not_false_eq_true, and_true, true_and, and_false, false_and, or_true, true_or, or_false, false_or, and_self, or_self, not_false_eq_true])) (rf_er hm h13z)
  · skip
    refine r_go 2 rfl ?_ ?_
    · (first | exact trivial | assumption | (simp (disch := omega) [ab_all, ab_nz, *]; done))
    refine r_cv rfl rfl ((m_isB y hs hI)) (by decide) ?_
    refine r_bE rfl (fun h13 => ?_) (fun h13 => ?_)
    · skip
      refine r_go 2 rfl ?_ ?_
      · (first | exact trivial | assumption | (simp (disch := omega) [ab_all, ab_nz, *]; done))
      refine r_cv rfl rfl ((m_error 1 (by decide))) (by decide) ?_
      refine r_ret rfl trivial ?_
      exact rf_to (if_neg (by simp only [h5, h13, if_true, if_false, not_true, not_false_eq_true, and_true, true_and, and_false, false_and, or_true, true_or, or_false, false_or, and_self, or_self, not_false_eq_true])) (rf_er hm h13z)
    · skip
      refine r_go 1 rfl ?_ ?_
      · (first | exact trivial | assumption | (simp (disch := omega) [ab_all, ab_nz, *]; done))
      refine r_cv rfl trivial ((m_isA n)) (by decide) ?_
      refine r_bN rfl (fun h20 => ?_) (fun h20 => ?_)
      · skip
        have hP : S_comes x y n m = (if fst x.toNatClampNeg y.toNatClampNeg n.toNatClampNeg (m 219) ≤ n.toNatClampNeg then (nI (fst x.toNatClampNeg y.toNatClampNeg n.toNatClampNeg (m 219)), m) else er m 2) := if_pos ⟨h5, h13, h20⟩
        obtain ⟨f, hf, rfl⟩ := of_rg h5
        obtain ⟨t, ht, rfl⟩ := of_rg h13
        obtain ⟨N, hN, rfl⟩ := of_bt (by decide) h20
        simp (disch := omega) only [nI_cl] at hP
        refine r_go 4 rfl ?_ ?_
        · (simp only [ab_all, gr_218_0, gr_218_2] <;> decide)
        rw [gr_218_0, gr_218_2]
        refine r_cn rfl trivial ((m_carry gt_219 gt_221 (by decide))) (by decide) ?_
        refine r_go 6 rfl ?_ ?_
        · (first | exact trivial | assumption | (simp (disch := omega) [ab_all, ab_nz, *]; done))
        rw [(b1_all f (by omega)).1]
        exact r_lk (mcm_loop (i := i) hm hJ h13z hf ht hN hP (i 221) (N + 2) 0 _ (by omega) (by omega) ((funext (fun b => ab_row_ne (by decide))).trans hs) ((ab_row_ne (by decide)).trans h13z) (by rw [row_s, hs]) (fun a ha => absurd ha (by omega)) fo_r1) rfl
      · skip
        refine r_go 2 rfl ?_ ?_
        · (first | exact trivial | assumption | (simp (disch := omega) [ab_all, ab_nz, *]; done))
        refine r_cv rfl rfl ((m_error 1 (by decide))) (by decide) ?_
        refine r_ret rfl trivial ?_
        exact rf_to (if_neg (by simp only [h5, h13, h20, if_true, if_false, not_true, not_false_eq_true, and_true, true_and, and_false, false_and, or_true, true_or, or_false, false_or, and_self, or_self, not_false_eq_true])) (rf_er hm h13z)
