/-! filling a row -/
def zrow (f : Nat → Int32) (c : Nat) (x : Int32) : Nat → Int32 := fun k => if k < c then x else f k
theorem zrow_s {f : Nat → Int32} {c : Nat} {x : Int32} : upd (zrow f c x) c x = zrow f (c + 1) x := by
  funext k
  unfold upd zrow
  by_cases h : k = c
  · rw [if_pos h, if_pos (by omega)]
  · rw [if_neg h]
    by_cases h2 : k < c
    · rw [if_pos h2, if_pos (by omega)]
    · rw [if_neg h2, if_neg (by omega)]
theorem row_up {i : ab_I} {q k : Nat} {f : Nat → Int32} {x : Int32} : ab_up (ab_row i q f) q k x = ab_row i q (upd f k x) := by
  funext a b
  unfold ab_up ab_row upd
  by_cases h : a = q
  · subst h
    by_cases h2 : b = k <;> simp [h2]
  · simp [h]
theorem zrow_0 {f : Nat → Int32} {x : Int32} : zrow f 0 x = f := by
  funext k
  exact if_neg (by omega)
theorem row_id {i : ab_I} {q : Nat} : ab_row i q (i q) = i := by
  funext a b
  unfold ab_row
  by_cases h : a = q
  · rw [if_pos h, h]
  · rw [if_neg h]
theorem f_fill {N q : Nat} {i : ab_I} {x : Int32} (m c : Nat) (hm : N - c < m) (hc : c ≤ N) (ha : ab_gt GF q = (100, N)) (hN : N ≤ 1000) : ab_R 0 tb_J7_fill_53178 5 [some (.ref q), some (.int x), some (.int (nI c)), some (.int (nI N))] [] (ab_row i q (zrow (i q) c x)) (ab_N (ab_row i q (zrow (i q) N x))) := by
  induction m generalizing c with
  | zero => exact absurd hm (by omega)
  | succ m ih =>
    refine r_go 2 rfl ?_ ?_
    · (first | exact trivial | assumption | (simp (disch := omega) [ab_all, ab_nz, *]; done))
    refine r_br rfl (fun h7 => ?_) (fun h7 => ?_)
    · skip
      refine r_ret rfl trivial ?_
      (have e : c = N := by (simp (disch := omega) only [Int32.le_iff_toInt_le, Int32.lt_iff_toInt_lt, c_i, m1_i, m5_i, m33_i] at * <;> omega)); subst e; exact ⟨rfl, rfl⟩
    · skip
      refine r_go 6 rfl ?_ ?_
      · (simp only [ab_all, ix_eq ha]; (simp (disch := omega) only [Int32.le_iff_toInt_le, Int32.lt_iff_toInt_lt, c_i, m1_i, m5_i, m33_i] at * <;> omega))
      rw [nI_cl (by omega), row_up, zrow_s, nI_add]
      exact ih (c + 1) (by (simp (disch := omega) only [Int32.le_iff_toInt_le, Int32.lt_iff_toInt_lt, c_i, m1_i, m5_i, m33_i] at * <;> omega)) (by (simp (disch := omega) only [Int32.le_iff_toInt_le, Int32.lt_iff_toInt_lt, c_i, m1_i, m5_i, m33_i] at * <;> omega))
theorem k_fill {N q : Nat} {i : ab_I} {x : Int32} (ha : ab_gt GF q = (100, N)) (hN : N ≤ 1000) : ab_K 0 9 [.ref q, .int x] i (ab_N (ab_row i q (zrow (i q) N x))) := by
  refine k_of rfl ?_
  refine r_go 5 rfl ?_ ?_
  · (simp only [ab_all, ha])
  have h := f_fill (i := i) (x := x) (N + 1) 0 (by omega) (by omega) ha hN
  rw [zrow_0, row_id] at h
  rw [ha]
  exact h
theorem k_zeros {q N n : Nat} {i : ab_I} (hq : isR q N) (hn : n ≤ N) : ab_K 1 72 [.ref q, .int (nI n)] i (ab_N (ab_row (ab_up i q 1 (nI n)) (q + 1) (zrow (i (q + 1)) N (nI 0)))) := by
  have hr := gr_r hq
  have hq0 := hq
  obtain ⟨q1, q2, q3⟩ := hq
  have hm : ab_mx (nI 0) (ab_mn (nI n) (nI (ab_gt GF (ab_gr GF q 0)).snd)) = nI n := by
    rw [hr, q2, mn_eq hn (by omega)]
    unfold ab_mx
    split
    · rfl
    · refine eq_i.mpr ?_
      (simp (disch := omega) only [Int32.le_iff_toInt_le, Int32.lt_iff_toInt_lt, c_i, m1_i, m5_i, m33_i] at * <;> omega)
  have e2 : ab_up i q 1 (nI n) (q + 1) = i (q + 1) := up_row (by omega)
  refine k_of rfl ?_
  refine r_go 12 rfl ?_ ?_
  · (simp only [ab_all, hr, q1, q2]; simp)
  rw [hm, hr]
  refine r_cn rfl trivial ((k_fill q2 q3)) (by decide) ?_
  refine r_ret rfl trivial ?_
  (rw [e2]; exact ⟨rfl, rfl⟩)
