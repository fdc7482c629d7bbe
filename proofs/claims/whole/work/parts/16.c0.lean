/-! the class's small methods: rows -/
theorem lv_t {c : Prop} [Decidable c] {x y : Int32} {i : ab_I} (h : c) : ab_V (.int (if c then x else y)) i (some (.int x)) i := ⟨by rw [if_pos h], rfl⟩
theorem lv_f {c : Prop} [Decidable c] {x y : Int32} {i : ab_I} (h : ¬ c) : ab_V (.int (if c then x else y)) i (some (.int y)) i := ⟨by rw [if_neg h], rfl⟩
theorem lv_e {x y : Int32} {i : ab_I} (h : x = y) : ab_V (.int x) i (some (.int y)) i := ⟨by rw [h], rfl⟩
theorem bF {p : Prop} [Decidable p] (h : p) : ¬ bI p = nI 0 := fun e => absurd h (Eq.mp bI_0 e)
theorem bFF {p : Prop} [Decidable p] (h : ¬ p) : ¬ ¬ bI p = nI 0 := fun e => e (bI_f h)
def isR (q N : Nat) : Prop := ab_gt GF q = (5, 0) ∧ ab_gt GF (q + 1) = (100, N) ∧ N ≤ 1000
theorem gr_r {q N : Nat} (h : isR q N) : ab_gr GF q 0 = q + 1 := gr_of h.1
theorem ix_eq {q n : Nat} {x : Int32} (h : ab_gt GF q = (100, n)) : ab_ixI GF q x = (0 ≤ x.toInt ∧ x.toInt < n) := by
  refine propext ⟨fun z => ?_, fun z => ⟨n, h, z⟩⟩
  obtain ⟨m, h1, h2⟩ := z
  rw [h] at h1
  cases h1
  exact h2
def rowAt (i : ab_I) (q n : Nat) (x : Int32) : Int32 := if 0 ≤ x.toInt ∧ x.toInt < n then i (q + 1) x.toNatClampNeg else nI 0
theorem k_at {q N n : Nat} {i : ab_I} (x : Int32) (hq : isR q N) (hn : i q 1 = nI n) (hN : n ≤ N) : ab_K 0 68 [.ref q, .int x] i (ab_V (.int (rowAt i q n x)) i) := by
  have hr := gr_r hq
  obtain ⟨q1, q2, q3⟩ := hq
  have hx := fun x => ix_eq (x := x) q2
  refine k_of rfl ?_
  refine r_go 1 rfl ?_ ?_
  · (first | exact trivial | assumption | (simp (disch := omega) [ab_all, ab_nz, *]; done))
  refine r_br rfl (fun h1 => ?_) (fun h1 => ?_)
  · skip
    refine r_go 1 rfl ?_ ?_
    · (first | exact trivial | assumption | (simp (disch := omega) [ab_all, ab_nz, *]; done))
    refine r_ret rfl trivial ?_
    first | exact lv_f (by clear hx; (try rw [hn] at h9); (try rw [hr, q2] at h18); (try dsimp only at h18); (simp (disch := omega) only [Int32.le_iff_toInt_le, Int32.lt_iff_toInt_lt, c_i, m1_i, m5_i, m33_i] at * <;> omega)) | (rw [hr]; exact lv_t (by clear hx; rw [hn] at h9; rw [hr, q2] at h18; dsimp only at h18; (simp (disch := omega) only [Int32.le_iff_toInt_le, Int32.lt_iff_toInt_lt, c_i, m1_i, m5_i, m33_i] at * <;> omega)))
  · skip
    refine r_go 3 rfl ?_ ?_
    · (first | exact trivial | assumption | (simp (disch := omega) [ab_all, ab_nz, *]; done))
    refine r_br rfl (fun h9 => ?_) (fun h9 => ?_)
    · skip
      refine r_go 1 rfl ?_ ?_
      · (first | exact trivial | assumption | (simp (disch := omega) [ab_all, ab_nz, *]; done))
      refine r_ret rfl trivial ?_
      first | exact lv_f (by clear hx; (try rw [hn] at h9); (try rw [hr, q2] at h18); (try dsimp only at h18); (simp (disch := omega) only [Int32.le_iff_toInt_le, Int32.lt_iff_toInt_lt, c_i, m1_i, m5_i, m33_i] at * <;> omega)) | (rw [hr]; exact lv_t (by clear hx; rw [hn] at h9; rw [hr, q2] at h18; dsimp only at h18; (simp (disch := omega) only [Int32.le_iff_toInt_le, Int32.lt_iff_toInt_lt, c_i, m1_i, m5_i, m33_i] at * <;> omega)))
    · skip
      refine r_go 4 rfl ?_ ?_
      · (first | exact trivial | assumption | (simp (disch := omega) [ab_all, ab_nz, *]; done))
      refine r_br rfl (fun h18 => ?_) (fun h18 => ?_)
      · skip
        refine r_go 1 rfl ?_ ?_
        · (first | exact trivial | assumption | (simp (disch := omega) [ab_all, ab_nz, *]; done))
        refine r_ret rfl trivial ?_
        first | exact lv_f (by clear hx; (try rw [hn] at h9); (try rw [hr, q2] at h18); (try dsimp only at h18); (simp (disch := omega) only [Int32.le_iff_toInt_le, Int32.lt_iff_toInt_lt, c_i, m1_i, m5_i, m33_i] at * <;> omega)) | (rw [hr]; exact lv_t (by clear hx; rw [hn] at h9; rw [hr, q2] at h18; dsimp only at h18; (simp (disch := omega) only [Int32.le_iff_toInt_le, Int32.lt_iff_toInt_lt, c_i, m1_i, m5_i, m33_i] at * <;> omega)))
      · skip
        refine r_go 5 rfl ?_ ?_
        · (simp only [ab_all, hr, hx, q1]; refine ⟨?_, ?_, ?_⟩; (clear hx; rw [hn] at h9; rw [hr, q2] at h18; dsimp only at h18; (simp (disch := omega) only [Int32.le_iff_toInt_le, Int32.lt_iff_toInt_lt, c_i, m1_i, m5_i, m33_i] at * <;> omega)); trivial; omega)
        refine r_ret rfl trivial ?_
        first | exact lv_f (by clear hx; (try rw [hn] at h9); (try rw [hr, q2] at h18); (try dsimp only at h18); (simp (disch := omega) only [Int32.le_iff_toInt_le, Int32.lt_iff_toInt_lt, c_i, m1_i, m5_i, m33_i] at * <;> omega)) | (rw [hr]; exact lv_t (by clear hx; rw [hn] at h9; rw [hr, q2] at h18; dsimp only at h18; (simp (disch := omega) only [Int32.le_iff_toInt_le, Int32.lt_iff_toInt_lt, c_i, m1_i, m5_i, m33_i] at * <;> omega)))
theorem k_has {q N n : Nat} {i : ab_I} (x : Int32) (hq : isR q N) (hn : i q 1 = nI n) (hN : n ≤ N) : ab_K 0 66 [.ref q, .int x] i (ab_V (.int (bI (0 ≤ x.toInt ∧ x.toInt < n))) i) := by
  have hr := gr_r hq
  obtain ⟨q1, q2, q3⟩ := hq
  refine k_of rfl ?_
  refine r_go 1 rfl ?_ ?_
  · (first | exact trivial | assumption | (simp (disch := omega) [ab_all, ab_nz, *]; done))
  refine r_br rfl (fun h1 => ?_) (fun h1 => ?_)
  · skip
    refine r_go 1 rfl ?_ ?_
    · (first | exact trivial | assumption | (simp (disch := omega) [ab_all, ab_nz, *]; done))
    refine r_ret rfl (by (first | exact Or.inl rfl | exact Or.inr rfl | exact bI_or)) ?_
    first | exact lf_f (by (try rw [hn] at h9); (try rw [hr, q2] at h18); (try dsimp only at h18); (simp (disch := omega) only [Int32.le_iff_toInt_le, Int32.lt_iff_toInt_lt, c_i, m1_i, m5_i, m33_i] at * <;> omega)) | exact lf_t (by (try rw [hn] at h9); (try rw [hr, q2] at h18); (try dsimp only at h18); (simp (disch := omega) only [Int32.le_iff_toInt_le, Int32.lt_iff_toInt_lt, c_i, m1_i, m5_i, m33_i] at * <;> omega))
  · skip
    refine r_go 3 rfl ?_ ?_
    · (first | exact trivial | assumption | (simp (disch := omega) [ab_all, ab_nz, *]; done))
    refine r_br rfl (fun h9 => ?_) (fun h9 => ?_)
    · skip
      refine r_go 1 rfl ?_ ?_
      · (first | exact trivial | assumption | (simp (disch := omega) [ab_all, ab_nz, *]; done))
      refine r_ret rfl (by (first | exact Or.inl rfl | exact Or.inr rfl | exact bI_or)) ?_
      first | exact lf_f (by (try rw [hn] at h9); (try rw [hr, q2] at h18); (try dsimp only at h18); (simp (disch := omega) only [Int32.le_iff_toInt_le, Int32.lt_iff_toInt_lt, c_i, m1_i, m5_i, m33_i] at * <;> omega)) | exact lf_t (by (try rw [hn] at h9); (try rw [hr, q2] at h18); (try dsimp only at h18); (simp (disch := omega) only [Int32.le_iff_toInt_le, Int32.lt_iff_toInt_lt, c_i, m1_i, m5_i, m33_i] at * <;> omega))
    · skip
      refine r_go 4 rfl ?_ ?_
      · (first | exact trivial | assumption | (simp (disch := omega) [ab_all, ab_nz, *]; done))
      refine r_br rfl (fun h18 => ?_) (fun h18 => ?_)
      · skip
        refine r_go 1 rfl ?_ ?_
        · (first | exact trivial | assumption | (simp (disch := omega) [ab_all, ab_nz, *]; done))
        refine r_ret rfl (by (first | exact Or.inl rfl | exact Or.inr rfl | exact bI_or)) ?_
        first | exact lf_f (by (try rw [hn] at h9); (try rw [hr, q2] at h18); (try dsimp only at h18); (simp (disch := omega) only [Int32.le_iff_toInt_le, Int32.lt_iff_toInt_lt, c_i, m1_i, m5_i, m33_i] at * <;> omega)) | exact lf_t (by (try rw [hn] at h9); (try rw [hr, q2] at h18); (try dsimp only at h18); (simp (disch := omega) only [Int32.le_iff_toInt_le, Int32.lt_iff_toInt_lt, c_i, m1_i, m5_i, m33_i] at * <;> omega))
      · skip
        refine r_go 2 rfl ?_ ?_
        · (first | exact trivial | assumption | (simp (disch := omega) [ab_all, ab_nz, *]; done))
        refine r_ret rfl (by (first | exact Or.inl rfl | exact Or.inr rfl | exact bI_or)) ?_
        first | exact lf_f (by (try rw [hn] at h9); (try rw [hr, q2] at h18); (try dsimp only at h18); (simp (disch := omega) only [Int32.le_iff_toInt_le, Int32.lt_iff_toInt_lt, c_i, m1_i, m5_i, m33_i] at * <;> omega)) | exact lf_t (by (try rw [hn] at h9); (try rw [hr, q2] at h18); (try dsimp only at h18); (simp (disch := omega) only [Int32.le_iff_toInt_le, Int32.lt_iff_toInt_lt, c_i, m1_i, m5_i, m33_i] at * <;> omega))
theorem mn_eq {n N : Nat} (h : n ≤ N) (hN : N < 2147483648) : ab_mn (nI n) (nI N) = nI n := by
  unfold ab_mn
  split
  · refine eq_i.mpr ?_
    (simp (disch := omega) only [Int32.le_iff_toInt_le, Int32.lt_iff_toInt_lt, c_i, m1_i, m5_i, m33_i] at * <;> omega)
  · rfl
theorem k_hasStr {q N n : Nat} {i : ab_I} (x y : Int32) (hq : isR q N) (hn : i q 1 = nI n) (hN : n ≤ N) : ab_K 0 67 [.ref q, .int x, .int y] i (ab_V (.int (bI (0 ≤ y.toInt ∧ 0 ≤ x.toInt ∧ x.toInt + y.toInt ≤ n))) i) := by
  have hr := gr_r hq
  obtain ⟨q1, q2, q3⟩ := hq
  have hm : ab_mn (i q 1) (nI (ab_gt GF (ab_gr GF q 0)).snd) = nI n := by rw [hn, hr, q2]; exact mn_eq (by omega) (by omega)
  refine k_of rfl ?_
  refine r_go 1 rfl ?_ ?_
  · (first | exact trivial | assumption | (simp (disch := omega) [ab_all, ab_nz, *]; done))
  refine r_br rfl (fun h1 => ?_) (fun h1 => ?_)
  · skip
    refine r_go 1 rfl ?_ ?_
    · (first | exact trivial | assumption | (simp (disch := omega) [ab_all, ab_nz, *]; done))
    refine r_ret rfl (by (first | exact Or.inl rfl | exact Or.inr rfl | exact bI_or)) ?_
    (have hx := Int32.toInt_lt y; (try rw [hm, Int32.lt_iff_toInt_lt, su_i (by clear h23; (simp (disch := omega) only [Int32.le_iff_toInt_le, Int32.lt_iff_toInt_lt, c_i, m1_i, m5_i, m33_i] at * <;> omega)) (by clear h23; (simp (disch := omega) only [Int32.le_iff_toInt_le, Int32.lt_iff_toInt_lt, c_i, m1_i, m5_i, m33_i] at * <;> omega))] at h23); clear hm; first | exact lf_f (by (simp (disch := omega) only [Int32.le_iff_toInt_le, Int32.lt_iff_toInt_lt, c_i, m1_i, m5_i, m33_i] at * <;> omega)) | exact lf_t (by (simp (disch := omega) only [Int32.le_iff_toInt_le, Int32.lt_iff_toInt_lt, c_i, m1_i, m5_i, m33_i] at * <;> omega)))
  · skip
    refine r_go 1 rfl ?_ ?_
    · (first | exact trivial | assumption | (simp (disch := omega) [ab_all, ab_nz, *]; done))
    refine r_br rfl (fun h5 => ?_) (fun h5 => ?_)
    · skip
      refine r_go 1 rfl ?_ ?_
      · (first | exact trivial | assumption | (simp (disch := omega) [ab_all, ab_nz, *]; done))
      refine r_ret rfl (by (first | exact Or.inl rfl | exact Or.inr rfl | exact bI_or)) ?_
      (have hx := Int32.toInt_lt y; (try rw [hm, Int32.lt_iff_toInt_lt, su_i (by clear h23; (simp (disch := omega) only [Int32.le_iff_toInt_le, Int32.lt_iff_toInt_lt, c_i, m1_i, m5_i, m33_i] at * <;> omega)) (by clear h23; (simp (disch := omega) only [Int32.le_iff_toInt_le, Int32.lt_iff_toInt_lt, c_i, m1_i, m5_i, m33_i] at * <;> omega))] at h23); clear hm; first | exact lf_f (by (simp (disch := omega) only [Int32.le_iff_toInt_le, Int32.lt_iff_toInt_lt, c_i, m1_i, m5_i, m33_i] at * <;> omega)) | exact lf_t (by (simp (disch := omega) only [Int32.le_iff_toInt_le, Int32.lt_iff_toInt_lt, c_i, m1_i, m5_i, m33_i] at * <;> omega)))
    · skip
      refine r_go 9 rfl ?_ ?_
      · (first | exact trivial | assumption | (simp (disch := omega) [ab_all, ab_nz, *]; done))
      refine r_br rfl (fun h23 => ?_) (fun h23 => ?_)
      · skip
        refine r_go 1 rfl ?_ ?_
        · (first | exact trivial | assumption | (simp (disch := omega) [ab_all, ab_nz, *]; done))
        refine r_ret rfl (by (first | exact Or.inl rfl | exact Or.inr rfl | exact bI_or)) ?_
        (have hx := Int32.toInt_lt y; (try rw [hm, Int32.lt_iff_toInt_lt, su_i (by clear h23; (simp (disch := omega) only [Int32.le_iff_toInt_le, Int32.lt_iff_toInt_lt, c_i, m1_i, m5_i, m33_i] at * <;> omega)) (by clear h23; (simp (disch := omega) only [Int32.le_iff_toInt_le, Int32.lt_iff_toInt_lt, c_i, m1_i, m5_i, m33_i] at * <;> omega))] at h23); clear hm; first | exact lf_f (by (simp (disch := omega) only [Int32.le_iff_toInt_le, Int32.lt_iff_toInt_lt, c_i, m1_i, m5_i, m33_i] at * <;> omega)) | exact lf_t (by (simp (disch := omega) only [Int32.le_iff_toInt_le, Int32.lt_iff_toInt_lt, c_i, m1_i, m5_i, m33_i] at * <;> omega)))
      · skip
        refine r_go 2 rfl ?_ ?_
        · (first | exact trivial | assumption | (simp (disch := omega) [ab_all, ab_nz, *]; done))
        refine r_ret rfl (by (first | exact Or.inl rfl | exact Or.inr rfl | exact bI_or)) ?_
        (have hx := Int32.toInt_lt y; (try rw [hm, Int32.lt_iff_toInt_lt, su_i (by clear h23; (simp (disch := omega) only [Int32.le_iff_toInt_le, Int32.lt_iff_toInt_lt, c_i, m1_i, m5_i, m33_i] at * <;> omega)) (by clear h23; (simp (disch := omega) only [Int32.le_iff_toInt_le, Int32.lt_iff_toInt_lt, c_i, m1_i, m5_i, m33_i] at * <;> omega))] at h23); clear hm; first | exact lf_f (by (simp (disch := omega) only [Int32.le_iff_toInt_le, Int32.lt_iff_toInt_lt, c_i, m1_i, m5_i, m33_i] at * <;> omega)) | exact lf_t (by (simp (disch := omega) only [Int32.le_iff_toInt_le, Int32.lt_iff_toInt_lt, c_i, m1_i, m5_i, m33_i] at * <;> omega)))
theorem k_write {q N n : Nat} {i : ab_I} (x y : Int32) (hq : isR q N) (hn : i q 1 = nI n) (hN : n ≤ N) : ab_K 1 69 [.ref q, .int x, .int y] i (ab_N (if 0 ≤ x.toInt ∧ x.toInt < n then ab_up i (q + 1) x.toNatClampNeg y else i)) := by
  have hr := gr_r hq
  have hq0 := hq
  obtain ⟨q1, q2, q3⟩ := hq
  refine k_of rfl ?_
  refine r_go 2 rfl ?_ ?_
  · (first | exact trivial | assumption | (simp (disch := omega) [ab_all, ab_nz, *]; done))
  refine r_cv rfl (by (first | exact trivial | assumption | (simp (disch := omega) [ab_all, ab_nz, *]; done))) ((k_has x hq0 hn hN)) (by decide) ?_
  refine r_bE rfl (fun h5 => ?_) (fun h5 => ?_)
  · skip
    refine r_ret rfl trivial ?_
    first | exact ⟨rfl, (if_neg h5).symm⟩ | (rw [if_pos h5, hr]; exact ⟨rfl, rfl⟩)
  · skip
    refine r_go 5 rfl ?_ ?_
    · (simp only [ab_all, hr, ix_eq q2, q1]; exact ⟨by omega, trivial, by omega⟩)
    refine r_ret rfl trivial ?_
    first | exact ⟨rfl, (if_neg h5).symm⟩ | (rw [if_pos h5, hr]; exact ⟨rfl, rfl⟩)
theorem k_add {q N n : Nat} {i : ab_I} (y : Int32) (hq : isR q N) (hn : i q 1 = nI n) (hN : n ≤ N) : ab_K 0 70 [.ref q, .int y] i (ab_N (if n < N then ab_up (ab_up i (q + 1) n y) q 1 (nI (n + 1)) else i)) := by
  have hr := gr_r hq
  obtain ⟨q1, q2, q3⟩ := hq
  refine k_of rfl ?_
  refine r_go 2 rfl ?_ ?_
  · (first | exact trivial | assumption | (simp (disch := omega) [ab_all, ab_nz, *]; done))
  refine r_brF rfl (fun h => by rw [hn] at h; (simp (disch := omega) only [Int32.le_iff_toInt_le, Int32.lt_iff_toInt_lt, c_i, m1_i, m5_i, m33_i] at * <;> omega)) ?_
  refine r_go 5 rfl ?_ ?_
  · (simp only [ab_all, hr, q2, q1]; simp)
  refine r_br rfl (fun h16 => ?_) (fun h16 => ?_)
  · skip
    refine r_ret rfl trivial ?_
    (rw [hn, hr, q2] at h16; dsimp only at h16; first | exact ⟨rfl, (if_neg (by (simp (disch := omega) only [Int32.le_iff_toInt_le, Int32.lt_iff_toInt_lt, c_i, m1_i, m5_i, m33_i] at * <;> omega))).symm⟩ | (rw [if_pos (by (simp (disch := omega) only [Int32.le_iff_toInt_le, Int32.lt_iff_toInt_lt, c_i, m1_i, m5_i, m33_i] at * <;> omega)), hr, hn, nI_cl (by omega), up_ne (by omega), hn, nI_add]; exact ⟨rfl, rfl⟩))
  · skip
    refine r_go 12 rfl ?_ ?_
    · (rw [hn, hr, q2] at h16; dsimp only at h16; simp only [ab_all, hr, hn, q1, ix_eq q2]; rw [c_i (by omega)]; simp; (simp (disch := omega) only [Int32.le_iff_toInt_le, Int32.lt_iff_toInt_lt, c_i, m1_i, m5_i, m33_i] at * <;> omega))
    refine r_ret rfl trivial ?_
    (rw [hn, hr, q2] at h16; dsimp only at h16; first | exact ⟨rfl, (if_neg (by (simp (disch := omega) only [Int32.le_iff_toInt_le, Int32.lt_iff_toInt_lt, c_i, m1_i, m5_i, m33_i] at * <;> omega))).symm⟩ | (rw [if_pos (by (simp (disch := omega) only [Int32.le_iff_toInt_le, Int32.lt_iff_toInt_lt, c_i, m1_i, m5_i, m33_i] at * <;> omega)), hr, hn, nI_cl (by omega), up_ne (by omega), hn, nI_add]; exact ⟨rfl, rfl⟩))
theorem k_empty {q N : Nat} {i : ab_I} (hq : isR q N) : ab_K 0 71 [.ref q] i (ab_N (ab_up i q 1 (nI 0))) := by
  obtain ⟨q1, q2, q3⟩ := hq
  refine k_of rfl ?_
  refine r_go 3 rfl ?_ ?_
  · (first | exact trivial | assumption | (simp (disch := omega) [ab_all, ab_nz, *]; done))
  refine r_ret rfl trivial ?_
  exact ⟨rfl, rfl⟩
theorem k_take {q N n q' N' n' : Nat} {i : ab_I} (a b m : Nat) (hq : isR q N) (hn : i q 1 = nI n) (hN : n ≤ N) (hq' : isR q' N') (hn' : i q' 1 = nI n') (hN' : n' ≤ N') (h1 : a + m ≤ n') (h2 : b + m ≤ n) : ab_K 1 74 [.ref q, .ref q', .int (nI a), .int (nI b), .int (nI m)] i (ab_N (ab_row i (q + 1) (va_cpy (i (q' + 1)) (i (q + 1)) a b m))) := by
  have hr := gr_r hq
  have hr' := gr_r hq'
  have hq0 := hq
  have hq0' := hq'
  obtain ⟨q1, q2, q3⟩ := hq
  obtain ⟨q1', q2', q3'⟩ := hq'
  refine k_of rfl ?_
  refine r_go 3 rfl ?_ ?_
  · exact trivial
  refine r_cv rfl (by assumption) ((k_hasStr _ _ hq0' hn' hN')) (by decide) ?_
  refine r_brF rfl (bF ⟨by (simp (disch := omega) only [Int32.le_iff_toInt_le, Int32.lt_iff_toInt_lt, c_i, m1_i, m5_i, m33_i] at * <;> omega), by (simp (disch := omega) only [Int32.le_iff_toInt_le, Int32.lt_iff_toInt_lt, c_i, m1_i, m5_i, m33_i] at * <;> omega), by (simp (disch := omega) only [Int32.le_iff_toInt_le, Int32.lt_iff_toInt_lt, c_i, m1_i, m5_i, m33_i] at * <;> omega)⟩) ?_
  refine r_go 3 rfl ?_ ?_
  · (first | exact trivial | assumption | (simp (disch := omega) [ab_all, ab_nz, *]; done))
  refine r_cv rfl (by assumption) ((k_hasStr _ _ hq0 hn hN)) (by decide) ?_
  refine r_brF rfl (bF ⟨by (simp (disch := omega) only [Int32.le_iff_toInt_le, Int32.lt_iff_toInt_lt, c_i, m1_i, m5_i, m33_i] at * <;> omega), by (simp (disch := omega) only [Int32.le_iff_toInt_le, Int32.lt_iff_toInt_lt, c_i, m1_i, m5_i, m33_i] at * <;> omega), by (simp (disch := omega) only [Int32.le_iff_toInt_le, Int32.lt_iff_toInt_lt, c_i, m1_i, m5_i, m33_i] at * <;> omega)⟩) ?_
  refine r_go 8 rfl ?_ ?_
  · (simp only [ab_all, hr, hr', q1, q1']; refine ⟨⟨N', N, q2', q2, ?_⟩, by simp, by simp⟩; rw [c_i (by omega), c_i (by omega), c_i (by omega)]; omega)
  refine r_ret rfl trivial ?_
  (rw [hr, hr', nI_cl (by omega), nI_cl (by omega), nI_cl (by omega)]; exact ⟨rfl, rfl⟩)
theorem k_rowLike {q N q' N' n' : Nat} {i : ab_I} (hq : isR q N) (hq' : isR q' N') (hn' : i q' 1 = nI n') (hN' : n' ≤ N') (h2 : n' ≤ N) (hne : q ≠ q') (hne2 : q ≠ q' + 1) : ab_K 2 73 [.ref q, .ref q'] i (ab_N (ab_row (ab_up i q 1 (nI n')) (q + 1) (va_cpy (i (q' + 1)) (i (q + 1)) 0 0 n'))) := by
  have hr := gr_r hq
  have hq0 := hq
  have hq0' := hq'
  obtain ⟨q1, q2, q3⟩ := hq
  obtain ⟨q1', q2', q3'⟩ := hq'
  have hm : ab_mn (i q' 1) (nI (ab_gt GF (ab_gr GF q 0)).snd) = nI n' := by rw [hn', hr, q2]; exact mn_eq h2 (by omega)
  have e1 : ab_up i q 1 (nI n') (q' + 1) = i (q' + 1) := up_row (Ne.symm hne2)
  have e2 : ab_up i q 1 (nI n') (q + 1) = i (q + 1) := up_row (by omega)
  refine k_of rfl ?_
  refine r_go 14 rfl ?_ ?_
  · (simp only [ab_all, hr, q1, q1', q2]; simp)
  rw [hm, up_us]
  refine r_cn rfl (by assumption) ((k_take 0 0 n' hq0 up_us h2 hq0' (by rw [up_ne (fun z => hne z.1.symm)]; exact hn') hN' (by omega) (by omega))) (by decide) ?_
  refine r_ret rfl trivial ?_
  (rw [e1, e2]; exact ⟨rfl, rfl⟩)
