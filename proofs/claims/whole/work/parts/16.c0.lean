/-! the class's small methods: rows -/
theorem lv_t {c : Prop} [Decidable c] {x y : Int32} {i : ab_I} (h : c) : ab_V (.int (if c then x else y)) i (some (.int x)) i := ⟨by rw [if_pos h], rfl⟩
theorem lv_f {c : Prop} [Decidable c] {x y : Int32} {i : ab_I} (h : ¬ c) : ab_V (.int (if c then x else y)) i (some (.int y)) i := ⟨by rw [if_neg h], rfl⟩
theorem lv_e {x y : Int32} {i : ab_I} (h : x = y) : ab_V (.int x) i (some (.int y)) i := ⟨by rw [h], rfl⟩
def isR (q N : Nat) : Prop := ab_gt GF q = (5, 0) ∧ ab_gt GF (q + 1) = (100, N) ∧ N ≤ 1000
theorem gr_r {q N : Nat} (h : isR q N) : ab_gr GF q 0 = q + 1 := gr_of h.1
theorem ix_eq {q n : Nat} {x : Int32} (h : ab_gt GF q = (100, n)) : ab_ixI GF q x = (0 ≤ x.toInt ∧ x.toInt < n) := by
  refine propext ⟨fun z => ?_, fun z => ⟨n, h, z⟩⟩
  obtain ⟨m, h1, h2⟩ := z
  rw [h] at h1
  cases h1
  exact h2
def rowAt (i : ab_I) (q n : Nat) (x : Int32) : Int32 := if 0 ≤ x.toInt ∧ x.toInt < n then i (q + 1) x.toNatClampNeg else nI 0
theorem k_at {q N n : Nat} {i : ab_I} (x : Int32) (hq : isR q N) (hn : i q 1 = nI n) (hN : n ≤ N) : ab_K 0 68 [.ref q, .int x] i (ab_V (.int (rowAt i q n x)) i) := by
  have hr := gr_r hq
  obtain ⟨q1, q2, q3⟩ := hq
  have hx := fun x => ix_eq (x := x) q2
  refine k_of rfl ?_
  refine r_go 1 rfl ?_ ?_
  · (first | exact trivial | assumption | (simp (disch := omega) [ab_all, ab_nz, *]; done))
  refine r_br rfl (fun h1 => ?_) (fun h1 => ?_)
  · skip
    refine r_go 1 rfl ?_ ?_
    · (first | exact trivial | assumption | (simp (disch := omega) [ab_all, ab_nz, *]; done))
    refine r_ret rfl trivial ?_
    first | exact lv_f (by clear hx; (try rw [hn] at h9); (try rw [hr, q2] at h18); (try dsimp only at h18); (simp (disch := omega) only [Int32.le_iff_toInt_le, Int32.lt_iff_toInt_lt, c_i, m1_i] at * <;> omega)) | (rw [hr]; exact lv_t (by clear hx; rw [hn] at h9; rw [hr, q2] at h18; dsimp only at h18; (simp (disch := omega) only [Int32.le_iff_toInt_le, Int32.lt_iff_toInt_lt, c_i, m1_i] at * <;> omega)))
  · skip
    refine r_go 3 rfl ?_ ?_
    · (first | exact trivial | assumption | (simp (disch := omega) [ab_all, ab_nz, *]; done))
    refine r_br rfl (fun h9 => ?_) (fun h9 => ?_)
    · skip
      refine r_go 1 rfl ?_ ?_
      · (first | exact trivial | assumption | (simp (disch := omega) [ab_all, ab_nz, *]; done))
      refine r_ret rfl trivial ?_
      first | exact lv_f (by clear hx; (try rw [hn] at h9); (try rw [hr, q2] at h18); (try dsimp only at h18); (simp (disch := omega) only [Int32.le_iff_toInt_le, Int32.lt_iff_toInt_lt, c_i, m1_i] at * <;> omega)) | (rw [hr]; exact lv_t (by clear hx; rw [hn] at h9; rw [hr, q2] at h18; dsimp only at h18; (simp (disch := omega) only [Int32.le_iff_toInt_le, Int32.lt_iff_toInt_lt, c_i, m1_i] at * <;> omega)))
    · skip
      refine r_go 4 rfl ?_ ?_
      · (first | exact trivial | assumption | (simp (disch := omega) [ab_all, ab_nz, *]; done))
      refine r_br rfl (fun h18 => ?_) (fun h18 => ?_)
      · skip
        refine r_go 1 rfl ?_ ?_
        · (first | exact trivial | assumption | (simp (disch := omega) [ab_all, ab_nz, *]; done))
        refine r_ret rfl trivial ?_
        first | exact lv_f (by clear hx; (try rw [hn] at h9); (try rw [hr, q2] at h18); (try dsimp only at h18); (simp (disch := omega) only [Int32.le_iff_toInt_le, Int32.lt_iff_toInt_lt, c_i, m1_i] at * <;> omega)) | (rw [hr]; exact lv_t (by clear hx; rw [hn] at h9; rw [hr, q2] at h18; dsimp only at h18; (simp (disch := omega) only [Int32.le_iff_toInt_le, Int32.lt_iff_toInt_lt, c_i, m1_i] at * <;> omega)))
      · skip
        refine r_go 5 rfl ?_ ?_
        · (simp only [ab_all, hr, hx, q1]; refine ⟨?_, ?_, ?_⟩; (clear hx; rw [hn] at h9; rw [hr, q2] at h18; dsimp only at h18; (simp (disch := omega) only [Int32.le_iff_toInt_le, Int32.lt_iff_toInt_lt, c_i, m1_i] at * <;> omega)); trivial; omega)
        refine r_ret rfl trivial ?_
        first | exact lv_f (by clear hx; (try rw [hn] at h9); (try rw [hr, q2] at h18); (try dsimp only at h18); (simp (disch := omega) only [Int32.le_iff_toInt_le, Int32.lt_iff_toInt_lt, c_i, m1_i] at * <;> omega)) | (rw [hr]; exact lv_t (by clear hx; rw [hn] at h9; rw [hr, q2] at h18; dsimp only at h18; (simp (disch := omega) only [Int32.le_iff_toInt_le, Int32.lt_iff_toInt_lt, c_i, m1_i] at * <;> omega)))
theorem k_has {q N n : Nat} {i : ab_I} (x : Int32) (hq : isR q N) (hn : i q 1 = nI n) (hN : n ≤ N) : ab_K 0 66 [.ref q, .int x] i (ab_V (.int (bI (0 ≤ x.toInt ∧ x.toInt < n))) i) := by
  have hr := gr_r hq
  obtain ⟨q1, q2, q3⟩ := hq
  refine k_of rfl ?_
  refine r_go 1 rfl ?_ ?_
  · (first | exact trivial | assumption | (simp (disch := omega) [ab_all, ab_nz, *]; done))
  refine r_br rfl (fun h1 => ?_) (fun h1 => ?_)
  · skip
    refine r_go 1 rfl ?_ ?_
    · (first | exact trivial | assumption | (simp (disch := omega) [ab_all, ab_nz, *]; done))
    refine r_ret rfl (by (first | exact Or.inl rfl | exact Or.inr rfl)) ?_
    first | exact lf_f (by (try rw [hn] at h9); (try rw [hr, q2] at h18); (try dsimp only at h18); (simp (disch := omega) only [Int32.le_iff_toInt_le, Int32.lt_iff_toInt_lt, c_i, m1_i] at * <;> omega)) | exact lf_t (by (try rw [hn] at h9); (try rw [hr, q2] at h18); (try dsimp only at h18); (simp (disch := omega) only [Int32.le_iff_toInt_le, Int32.lt_iff_toInt_lt, c_i, m1_i] at * <;> omega))
  · skip
    refine r_go 3 rfl ?_ ?_
    · (first | exact trivial | assumption | (simp (disch := omega) [ab_all, ab_nz, *]; done))
    refine r_br rfl (fun h9 => ?_) (fun h9 => ?_)
    · skip
      refine r_go 1 rfl ?_ ?_
      · (first | exact trivial | assumption | (simp (disch := omega) [ab_all, ab_nz, *]; done))
      refine r_ret rfl (by (first | exact Or.inl rfl | exact Or.inr rfl)) ?_
      first | exact lf_f (by (try rw [hn] at h9); (try rw [hr, q2] at h18); (try dsimp only at h18); (simp (disch := omega) only [Int32.le_iff_toInt_le, Int32.lt_iff_toInt_lt, c_i, m1_i] at * <;> omega)) | exact lf_t (by (try rw [hn] at h9); (try rw [hr, q2] at h18); (try dsimp only at h18); (simp (disch := omega) only [Int32.le_iff_toInt_le, Int32.lt_iff_toInt_lt, c_i, m1_i] at * <;> omega))
    · skip
      refine r_go 4 rfl ?_ ?_
      · (first | exact trivial | assumption | (simp (disch := omega) [ab_all, ab_nz, *]; done))
      refine r_br rfl (fun h18 => ?_) (fun h18 => ?_)
      · skip
        refine r_go 1 rfl ?_ ?_
        · (first | exact trivial | assumption | (simp (disch := omega) [ab_all, ab_nz, *]; done))
        refine r_ret rfl (by (first | exact Or.inl rfl | exact Or.inr rfl)) ?_
        first | exact lf_f (by (try rw [hn] at h9); (try rw [hr, q2] at h18); (try dsimp only at h18); (simp (disch := omega) only [Int32.le_iff_toInt_le, Int32.lt_iff_toInt_lt, c_i, m1_i] at * <;> omega)) | exact lf_t (by (try rw [hn] at h9); (try rw [hr, q2] at h18); (try dsimp only at h18); (simp (disch := omega) only [Int32.le_iff_toInt_le, Int32.lt_iff_toInt_lt, c_i, m1_i] at * <;> omega))
      · skip
        refine r_go 2 rfl ?_ ?_
        · (first | exact trivial | assumption | (simp (disch := omega) [ab_all, ab_nz, *]; done))
        refine r_ret rfl (by (first | exact Or.inl rfl | exact Or.inr rfl)) ?_
        first | exact lf_f (by (try rw [hn] at h9); (try rw [hr, q2] at h18); (try dsimp only at h18); (simp (disch := omega) only [Int32.le_iff_toInt_le, Int32.lt_iff_toInt_lt, c_i, m1_i] at * <;> omega)) | exact lf_t (by (try rw [hn] at h9); (try rw [hr, q2] at h18); (try dsimp only at h18); (simp (disch := omega) only [Int32.le_iff_toInt_le, Int32.lt_iff_toInt_lt, c_i, m1_i] at * <;> omega))
