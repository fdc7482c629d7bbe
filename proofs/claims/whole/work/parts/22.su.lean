/-! pains and sums, the class's side -/
theorem mxmn {v m : Int32} (hm : 0 ≤ m.toInt) : ab_mx (nI 0) (ab_mn m v) = hl v (nI 0) m := by
  unfold ab_mx ab_mn hl
  by_cases h1 : v < m
  · rw [if_pos h1]
    by_cases h2 : nI 0 < v
    · rw [if_pos h2, if_neg (by (simp (disch := omega) only [Int32.le_iff_toInt_le, Int32.lt_iff_toInt_lt, c_i, m1_i, m5_i, m33_i] at * <;> omega)), if_neg (by (simp (disch := omega) only [Int32.le_iff_toInt_le, Int32.lt_iff_toInt_lt, c_i, m1_i, m5_i, m33_i] at * <;> omega))]
    · rw [if_neg h2]
      by_cases h3 : v < nI 0
      · rw [if_pos h3]
      · rw [if_neg h3, if_neg (by (simp (disch := omega) only [Int32.le_iff_toInt_le, Int32.lt_iff_toInt_lt, c_i, m1_i, m5_i, m33_i] at * <;> omega)), eq_i]
        (simp (disch := omega) only [Int32.le_iff_toInt_le, Int32.lt_iff_toInt_lt, c_i, m1_i, m5_i, m33_i] at * <;> omega)
  · rw [if_neg h1]
    by_cases h2 : nI 0 < m
    · rw [if_pos h2, if_neg (by (simp (disch := omega) only [Int32.le_iff_toInt_le, Int32.lt_iff_toInt_lt, c_i, m1_i, m5_i, m33_i] at * <;> omega))]
      by_cases h3 : m < v
      · rw [if_pos h3]
      · rw [if_neg h3, eq_i]
        (simp (disch := omega) only [Int32.le_iff_toInt_le, Int32.lt_iff_toInt_lt, c_i, m1_i, m5_i, m33_i] at * <;> omega)
    · rw [if_neg h2, if_neg (by (simp (disch := omega) only [Int32.le_iff_toInt_le, Int32.lt_iff_toInt_lt, c_i, m1_i, m5_i, m33_i] at * <;> omega))]
      by_cases h3 : m < v
      · rw [if_pos h3, eq_i]
        (simp (disch := omega) only [Int32.le_iff_toInt_le, Int32.lt_iff_toInt_lt, c_i, m1_i, m5_i, m33_i] at * <;> omega)
      · rw [if_neg h3, eq_i]
        (simp (disch := omega) only [Int32.le_iff_toInt_le, Int32.lt_iff_toInt_lt, c_i, m1_i, m5_i, m33_i] at * <;> omega)
theorem mn_hl {v m : Int32} (hm : 0 ≤ m.toInt) (hv : 0 ≤ v.toInt) : ab_mn m v = hl v (nI 0) m := by
  unfold ab_mn hl
  rw [if_neg (show ¬ v < nI 0 by (simp (disch := omega) only [Int32.le_iff_toInt_le, Int32.lt_iff_toInt_lt, c_i, m1_i, m5_i, m33_i] at * <;> omega))]
  by_cases h1 : v < m
  · rw [if_pos h1, if_neg (by (simp (disch := omega) only [Int32.le_iff_toInt_le, Int32.lt_iff_toInt_lt, c_i, m1_i, m5_i, m33_i] at * <;> omega))]
  · rw [if_neg h1]
    by_cases h3 : m < v
    · rw [if_pos h3]
    · rw [if_neg h3, eq_i]
      (simp (disch := omega) only [Int32.le_iff_toInt_le, Int32.lt_iff_toInt_lt, c_i, m1_i, m5_i, m33_i] at * <;> omega)
/-- all but the laws' stacks is as it was -/
def sl (i i' : ab_I) : Prop := ∀ q, q ≠ 26 → q ≠ 30 → i' q = i q
theorem sl_rf {i : ab_I} : sl i i := fun _ _ _ => rfl
theorem sl_tr {i j k : ab_I} (h1 : sl i j) (h2 : sl j k) : sl i k := fun q a b => (h2 q a b).trans (h1 q a b)
theorem TwR_sl {t : Nat} {s : Vc} {i i' : ab_I} (ht : isT t) (hI : InT s) (h : TwR t s i) (e : sl i i') : TwR t s i' := by
  have := isT_le ht
  exact TwR_far h hI.1.2 hI.2.1.2 (fun q h1 h2 => e q (by omega) (by omega))
def LwsR (s : Vc) (i : ab_I) : Prop := LwR 23 0 s i ∧ LwR 27 1 s i
def InXs (s : Vc) : Prop := InX s 0 ∧ InX s 1
theorem LwsR_far {s : Vc} {i i' : ab_I} (h : LwsR s i) (e : ∀ q, (q = 24 ∨ q = 25 ∨ q = 28 ∨ q = 29) → i' q = i q) : LwsR s i' :=
  ⟨RoR_far h.1 (e 24 (by omega)) (e 25 (by omega)), RoR_far h.2 (e 28 (by omega)) (e 29 (by omega))⟩
theorem LwsR_sl {s : Vc} {i i' : ab_I} (h : LwsR s i) (e : sl i i') : LwsR s i' := LwsR_far h (fun q hq => e q (by omega) (by omega))
theorem k_pain {t d : Nat} {s : Vc} {i : ab_I} (ht : isT t) (hR : TwR t s i) (hI : InT s) (hd : d < nD s) (hL : LwsR s i) (hX : InXs s) : ab_K 2 31 [.ref (t + 9 + d), .ref 27] i (fun v i' => v = some (.int (pain s d)) ∧ ∀ q, q ≠ 30 → i' q = i q) := by
  have d12 : d < 12 := by have := hI.2.1.2; omega
  have gd := tg_d ht d12
  have hD := hR.2.2 d hd
  have d1 : i (t + 9 + d) 1 = dr s d 1 := hD 1 (by decide)
  have d6 : i (t + 9 + d) 6 = dr s d 6 := hD 6 (by decide)
  have d7 : i (t + 9 + d) 7 = dr s d 7 := hD 7 (by decide)
  have e0 : (nI 0 < i 28 1) = (nI 0 < s 271) := by rw [hL.2.1, ← hX.2.1]
  refine k_of rfl ?_
  refine r_go 1 rfl ?_ ?_
  · (first | exact trivial | assumption | (simp (disch := omega) [ab_all, ab_nz, *]; done))
  refine r_cv rfl (by first | assumption | rfl) ((k_isTold isL_27)) (by decide) ?_
  refine r_bE rfl (fun h4 => ?_) (fun h4 => ?_)
  · skip
    refine r_go 13 rfl ?_ ?_
    · (first | exact trivial | assumption | (simp (disch := omega) [ab_all, ab_nz, *]; done))
    refine r_ret rfl trivial ?_
    rw [e0] at h4
    refine ⟨?_, fun q hq => ?_⟩
    · rw [mxmn (by decide)]
      unfold pain
      first | rw [if_neg h4, d6, d7, Int32.mul_comm] | rw [if_pos h4]
    · first | rfl | exact hf q hq
  · skip
    refine r_go 9 rfl ?_ ?_
    · (first | exact trivial | assumption | (simp (disch := omega) [ab_all, ab_nz, *]; done))
    rw [d1, d6, d7]
    refine r_c rfl (by first | assumption | rfl) ((k_workT (c := 27) (u := 1) (nm := nm1 s d) _ _ _ _ _ isL_27 hL.2 hX.2 (by rw [← e0]; exact h4) nm1_ok)) (by decide) ?_
    rintro v i' ⟨rfl, hf⟩
    refine r_go 7 rfl ?_ ?_
    · (first | exact trivial | assumption | (simp (disch := omega) [ab_all, ab_nz, *]; done))
    refine r_ret rfl trivial ?_
    rw [e0] at h4
    refine ⟨?_, fun q hq => ?_⟩
    · rw [mxmn (by decide)]
      unfold pain
      first | rw [if_neg h4, d6, d7, Int32.mul_comm] | rw [if_pos h4]
    · first | rfl | exact hf q hq
theorem add_0 {x : Int32} : x + nI 0 = x := by rw [nI_0]; exact Int32.add_zero x
theorem sm_s {f : Nat → Int32} {n : Nat} : sm f (n + 1) = sm f n + f n := rfl
theorem von_t {s : Vc} {b d : Nat} (h : dr s d 2 = nI b) : von s b d = vote s d := if_pos h
theorem von_f {s : Vc} {b d : Nat} (h : ¬ dr s d 2 = nI b) : von s b d = nI 0 := if_neg h
theorem su_loop {t b : Nat} {s : Vc} {i0 : ab_I} (ht : isT t) (hI : InT s) (hb : b < 6) (hX : InXs s) (m d : Nat) (i : ab_I) (hm : nD s - d < m) (hd : d ≤ nD s) (hR : TwR t s i) (hL : LwsR s i) (hi : sl i0 i) : ab_R 3 tb_X8_sumOfVotes 5 [some (.ref t), some (.int (nI b)), some (.ref 23), some (.int (sm (von s b) d)), some (.int (nI d)), none] [] i (fun v i' => v = some (.int (votesOn s b)) ∧ sl i0 i') := by
  induction m generalizing d i with
  | zero => exact absurd hm (by omega)
  | succ m ih =>
    have g0 := tg_t ht
    have t3 : i t 3 = nI (nD s) := hR.1.2.1.trans hI.2.1.1
    have d12 := hI.2.1.2
    refine r_go 3 rfl ?_ ?_
    · (first | exact trivial | assumption | (simp (disch := omega) [ab_all, ab_nz, *]; done))
    rw [t3]
    refine r_le rfl (fun h11 => ?_) (fun h11 => ?_)
    · skip
      refine r_go 1 rfl ?_ ?_
      · (first | exact trivial | assumption | (simp (disch := omega) [ab_all, ab_nz, *]; done))
      refine r_ret rfl trivial ?_
      (have e : d = nD s := by (simp (disch := omega) only [Int32.le_iff_toInt_le, Int32.lt_iff_toInt_lt, c_i, m1_i, m5_i, m33_i] at * <;> omega)); subst e; exact ⟨rfl, hi⟩
    · skip
      have hdl : d < nD s := by (simp (disch := omega) only [Int32.le_iff_toInt_le, Int32.lt_iff_toInt_lt, c_i, m1_i, m5_i, m33_i] at * <;> omega)
      have gd := tg_d ht (show d < 12 by omega)
      have d2 : i (t + 9 + d) 2 = dr s d 2 := hR.2.2 d hdl 2 (by decide)
      refine r_go 2 rfl ?_ ?_
      · (first | exact trivial | assumption | (simp (disch := omega) [ab_all, ab_nz, *]; done))
      refine r_cv rfl (by first | assumption | rfl) ((k_doorAt _ ht (by omega))) (by decide) ?_
      refine r_go 4 rfl ?_ ?_
      · (first | exact trivial | assumption | (simp (disch := omega) [ab_all, ab_nz, *]; done))
      rw [d2]
      refine r_ne rfl (fun h28 => ?_) (fun h28 => ?_)
      · skip
        refine r_go 2 rfl ?_ ?_
        · (first | exact trivial | assumption | (simp (disch := omega) [ab_all, ab_nz, *]; done))
        rw [nI_add]
        first | (have K := ih (d + 1) i' (by omega) (by omega) (TwR_sl ht hI hR hf2) (LwsR_sl hL hf2) (sl_tr hi hf2); rw [sm_s, von_t h28] at K; exact r_lk K rfl) | (have K := ih (d + 1) i (by omega) (by omega) hR hL hi; rw [sm_s, von_f h28, add_0] at K; exact r_lk K rfl)
      · skip
        refine r_go 4 rfl ?_ ?_
        · (first | exact trivial | assumption | (simp (disch := omega) [ab_all, ab_nz, *]; done))
        refine r_c rfl (by first | assumption | rfl) ((k_voteOf ht hR hI hdl hL.1 hX.1)) (by decide) ?_
        rintro v i' ⟨rfl, hf⟩
        have hf2 : sl i i' := fun q h _ => hf q h
        refine r_go 4 rfl ?_ ?_
        · (first | exact trivial | assumption | (simp (disch := omega) [ab_all, ab_nz, *]; done))
        rw [nI_add]
        first | (have K := ih (d + 1) i' (by omega) (by omega) (TwR_sl ht hI hR hf2) (LwsR_sl hL hf2) (sl_tr hi hf2); rw [sm_s, von_t h28] at K; exact r_lk K rfl) | (have K := ih (d + 1) i (by omega) (by omega) hR hL hi; rw [sm_s, von_f h28, add_0] at K; exact r_lk K rfl)
theorem k_sumV {t b : Nat} {s : Vc} {i : ab_I} (ht : isT t) (hI : InT s) (hb : b < 6) (hX : InXs s) (hR : TwR t s i) (hL : LwsR s i) : ab_K 3 95 [.ref t, .int (nI b), .ref 23] i (fun v i' => v = some (.int (votesOn s b)) ∧ sl i i') := by
  refine k_of rfl ?_
  refine r_go 4 rfl ?_ ?_
  · (first | exact trivial | assumption | (simp (disch := omega) [ab_all, ab_nz, *]; done))
  exact r_lk (su_loop (i0 := i) ht hI hb hX (nD s + 1) 0 i (by omega) (by omega) hR hL sl_rf) rfl
theorem pa_loop {t : Nat} {s : Vc} {i0 : ab_I} (ht : isT t) (hI : InT s) (hX : InXs s) (m d : Nat) (i : ab_I) (hm : nD s - d < m) (hd : d ≤ nD s) (hR : TwR t s i) (hL : LwsR s i) (hi : sl i0 i) : ab_R 3 tb_X8_pains 4 [some (.ref t), some (.ref 27), some (.int (sm (pain s) d)), some (.int (nI d))] [] i (fun v i' => v = some (.int (pains s)) ∧ sl i0 i') := by
  induction m generalizing d i with
  | zero => exact absurd hm (by omega)
  | succ m ih =>
    have g0 := tg_t ht
    have t3 : i t 3 = nI (nD s) := hR.1.2.1.trans hI.2.1.1
    have d12 := hI.2.1.2
    refine r_go 3 rfl ?_ ?_
    · (first | exact trivial | assumption | (simp (disch := omega) [ab_all, ab_nz, *]; done))
    rw [t3]
    refine r_le rfl (fun h9 => ?_) (fun h9 => ?_)
    · skip
      refine r_go 1 rfl ?_ ?_
      · (first | exact trivial | assumption | (simp (disch := omega) [ab_all, ab_nz, *]; done))
      refine r_ret rfl trivial ?_
      (have e : d = nD s := by (simp (disch := omega) only [Int32.le_iff_toInt_le, Int32.lt_iff_toInt_lt, c_i, m1_i, m5_i, m33_i] at * <;> omega)); subst e; exact ⟨rfl, hi⟩
    · skip
      have hdl : d < nD s := by (simp (disch := omega) only [Int32.le_iff_toInt_le, Int32.lt_iff_toInt_lt, c_i, m1_i, m5_i, m33_i] at * <;> omega)
      have gd := tg_d ht (show d < 12 by omega)
      refine r_go 3 rfl ?_ ?_
      · (first | exact trivial | assumption | (simp (disch := omega) [ab_all, ab_nz, *]; done))
      refine r_cv rfl (by first | assumption | rfl) ((k_doorAt _ ht (by omega))) (by decide) ?_
      refine r_go 1 rfl ?_ ?_
      · (first | exact trivial | assumption | (simp (disch := omega) [ab_all, ab_nz, *]; done))
      refine r_c rfl (by first | assumption | rfl) ((k_pain ht hR hI hdl hL hX)) (by decide) ?_
      rintro v i' ⟨rfl, hf⟩
      have hf2 : sl i i' := fun q _ h => hf q h
      refine r_go 4 rfl ?_ ?_
      · (first | exact trivial | assumption | (simp (disch := omega) [ab_all, ab_nz, *]; done))
      rw [nI_add]
      exact ih (d + 1) i' (by omega) (by omega) (TwR_sl ht hI hR hf2) (LwsR_sl hL hf2) (sl_tr hi hf2)
theorem k_pains {t : Nat} {s : Vc} {i : ab_I} (ht : isT t) (hI : InT s) (hX : InXs s) (hR : TwR t s i) (hL : LwsR s i) : ab_K 3 101 [.ref t, .ref 27] i (fun v i' => v = some (.int (pains s)) ∧ sl i i') := by
  refine k_of rfl ?_
  refine r_go 4 rfl ?_ ?_
  · (first | exact trivial | assumption | (simp (disch := omega) [ab_all, ab_nz, *]; done))
  exact pa_loop (i0 := i) ht hI hX (nD s + 1) 0 i (by omega) (by omega) hR hL sl_rf
