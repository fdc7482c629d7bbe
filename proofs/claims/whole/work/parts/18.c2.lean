/-! the class's small methods: basins and doors -/
def cmpI (x y : Int32) : Int32 := if y ≤ x then (if x = y then nI 0 else nI 1) else (-1)
theorem k_compare {i : ab_I} (x y : Int32) : ab_K 0 0 [.int x, .int y] i (ab_V (.int (cmpI x y)) i) := by
  refine k_of rfl ?_
  refine r_go 2 rfl ?_ ?_
  · (first | exact trivial | assumption | (simp (disch := omega) [ab_all, ab_nz, *]; done))
  refine r_br rfl (fun h2 => ?_) (fun h2 => ?_)
  · skip
    refine r_go 2 rfl ?_ ?_
    · (first | exact trivial | assumption | (simp (disch := omega) [ab_all, ab_nz, *]; done))
    refine r_br rfl (fun h11 => ?_) (fun h11 => ?_)
    · skip
      refine r_go 1 rfl ?_ ?_
      · (first | exact trivial | assumption | (simp (disch := omega) [ab_all, ab_nz, *]; done))
      refine r_ret rfl trivial ?_
      (unfold cmpI; first | exact lv_f h2 | exact ⟨by rw [if_pos h2, if_neg h11], rfl⟩ | exact ⟨by rw [if_pos h2, if_pos (Classical.not_not.mp h11)], rfl⟩)
    · skip
      refine r_go 2 rfl ?_ ?_
      · (first | exact trivial | assumption | (simp (disch := omega) [ab_all, ab_nz, *]; done))
      refine r_ret rfl trivial ?_
      (unfold cmpI; first | exact lv_f h2 | exact ⟨by rw [if_pos h2, if_neg h11], rfl⟩ | exact ⟨by rw [if_pos h2, if_pos (Classical.not_not.mp h11)], rfl⟩)
  · skip
    refine r_go 2 rfl ?_ ?_
    · (first | exact trivial | assumption | (simp (disch := omega) [ab_all, ab_nz, *]; done))
    refine r_ret rfl trivial ?_
    (unfold cmpI; first | exact lv_f h2 | exact ⟨by rw [if_pos h2, if_neg h11], rfl⟩ | exact ⟨by rw [if_pos h2, if_pos (Classical.not_not.mp h11)], rfl⟩)
def bbegF (q : Nat) (x : Int32) (i : ab_I) : ab_I := ab_up (ab_up (ab_up (ab_up (ab_up (ab_up (ab_up i q 0 x) q 1 (nI 10 * x)) q 2 (nI 20)) q 3 (nI 2)) q 4 (nI 100)) q 5 (nI 0)) q 6 (nI 50)
theorem k_bbeg {q : Nat} {i : ab_I} (x : Int32) (hq : ab_gt GF q = (0, 0)) : ab_K 0 11 [.ref q, .int x] i (ab_N (bbegF q x i)) := by
  refine k_of rfl ?_
  refine r_go 23 rfl ?_ ?_
  · (simp only [ab_all, hq, and_self])
  refine r_ret rfl trivial ?_
  exact ⟨rfl, rfl⟩
def dbegF (q : Nat) (k m b l : Int32) (i : ab_I) : ab_I := ab_up (ab_up (ab_up (ab_up (ab_up (ab_up (ab_up (ab_up i q 0 k) q 1 m) q 2 b) q 3 l) q 4 (nI 2)) q 5 (nI 0)) q 6 (nI 0)) q 7 (nI 0)
theorem k_dbeg {q : Nat} {i : ab_I} (k m b l : Int32) (hq : ab_gt GF q = (1, 0)) : ab_K 0 21 [.ref q, .int k, .int m, .int b, .int l] i (ab_N (dbegF q k m b l i)) := by
  refine k_of rfl ?_
  refine r_go 24 rfl ?_ ?_
  · (simp only [ab_all, hq, and_self])
  refine r_ret rfl trivial ?_
  exact ⟨rfl, rfl⟩
/-- the first n numbers of a cell become those of another -/
def cpy (n q p : Nat) (i : ab_I) : ab_I := ab_row i q (fun k => if k < n then i p k else i q k)
theorem k_blike {q p : Nat} {i : ab_I} (hq : ab_gt GF q = (0, 0)) (hp : ab_gt GF p = (0, 0)) : ab_K 0 12 [.ref q, .ref p] i (ab_N (cpy 7 q p i)) := by
  refine k_of rfl ?_
  refine r_go 28 rfl ?_ ?_
  · (simp only [ab_all, hq, hp, and_self])
  refine r_ret rfl trivial ?_
  refine ⟨rfl, ?_⟩
  funext a b
  unfold cpy ab_row ab_up
  by_cases h : a = q
  · subst h
    by_cases h2 : b < 7
    · have h3 : b = 0 ∨ b = 1 ∨ b = 2 ∨ b = 3 ∨ b = 4 ∨ b = 5 ∨ b = 6 := by omega
      by_cases h4 : p = a <;> rcases h3 with rfl | rfl | rfl | rfl | rfl | rfl | rfl <;> simp [h4]
    · simp [h2, show b ≠ 0 by omega, show b ≠ 1 by omega, show b ≠ 2 by omega, show b ≠ 3 by omega, show b ≠ 4 by omega, show b ≠ 5 by omega, show b ≠ 6 by omega]
  · simp [h]
theorem k_dlike {q p : Nat} {i : ab_I} (hq : ab_gt GF q = (1, 0)) (hp : ab_gt GF p = (1, 0)) : ab_K 0 22 [.ref q, .ref p] i (ab_N (cpy 8 q p i)) := by
  refine k_of rfl ?_
  refine r_go 32 rfl ?_ ?_
  · (simp only [ab_all, hq, hp, and_self])
  refine r_ret rfl trivial ?_
  refine ⟨rfl, ?_⟩
  funext a b
  unfold cpy ab_row ab_up
  by_cases h : a = q
  · subst h
    by_cases h2 : b < 8
    · have h3 : b = 0 ∨ b = 1 ∨ b = 2 ∨ b = 3 ∨ b = 4 ∨ b = 5 ∨ b = 6 ∨ b = 7 := by omega
      by_cases h4 : p = a <;> rcases h3 with rfl | rfl | rfl | rfl | rfl | rfl | rfl | rfl <;> simp [h4]
    · simp [h2, show b ≠ 0 by omega, show b ≠ 1 by omega, show b ≠ 2 by omega, show b ≠ 3 by omega, show b ≠ 4 by omega, show b ≠ 5 by omega, show b ≠ 6 by omega, show b ≠ 7 by omega]
  · simp [h]
/-- what a basin, a door tells: k a number of the document's -/
def bTell (i : ab_I) (q k : Nat) : Int32 := if k = 0 then i q 1 / i q 0 else i q (fB (k - 1))
theorem k_btells {q : Nat} {i : ab_I} (k : Nat) (hk : k < 8) (hq : ab_gt GF q = (0, 0)) (ha : 0 < (i q 0).toInt) : ab_K 1 14 [.ref q, .int (nI k)] i (ab_V (.int (bTell i q k)) i) := by
  have hj : k = 0 ∨ k = 1 ∨ k = 2 ∨ k = 3 ∨ k = 4 ∨ k = 5 ∨ k = 6 ∨ k = 7 := by omega
  refine k_of rfl ?_
  refine r_go 1 rfl ?_ ?_
  · (first | exact trivial | assumption | (simp (disch := omega) [ab_all, ab_nz, *]; done))
  refine r_sw rfl ?_
  refine r_swk (fun h1 => ?_) (fun h1 => ?_)
  · skip
    refine r_go 1 rfl ?_ ?_
    · (first | exact trivial | assumption | (simp (disch := omega) [ab_all, ab_nz, *]; done))
    refine r_cv rfl hq ((k_level hq ha)) (by decide) ?_
    refine r_ret rfl trivial ?_
    (have e := (nI_eq (by omega) (by omega)).mp h1; subst e; exact ⟨rfl, rfl⟩)
  refine r_swk (fun h1 => ?_) (fun h1 => ?_)
  · skip
    refine r_go 2 rfl ?_ ?_
    · (first | exact trivial | assumption | (simp (disch := omega) [ab_all, ab_nz, *]; done))
    refine r_ret rfl trivial ?_
    (have e := (nI_eq (by omega) (by omega)).mp h1; subst e; exact ⟨rfl, rfl⟩)
  refine r_swk (fun h1 => ?_) (fun h1 => ?_)
  · skip
    refine r_go 2 rfl ?_ ?_
    · (first | exact trivial | assumption | (simp (disch := omega) [ab_all, ab_nz, *]; done))
    refine r_ret rfl trivial ?_
    (have e := (nI_eq (by omega) (by omega)).mp h1; subst e; exact ⟨rfl, rfl⟩)
  refine r_swk (fun h1 => ?_) (fun h1 => ?_)
  · skip
    refine r_go 2 rfl ?_ ?_
    · (first | exact trivial | assumption | (simp (disch := omega) [ab_all, ab_nz, *]; done))
    refine r_ret rfl trivial ?_
    (have e := (nI_eq (by omega) (by omega)).mp h1; subst e; exact ⟨rfl, rfl⟩)
  refine r_swk (fun h1 => ?_) (fun h1 => ?_)
  · skip
    refine r_go 2 rfl ?_ ?_
    · (first | exact trivial | assumption | (simp (disch := omega) [ab_all, ab_nz, *]; done))
    refine r_ret rfl trivial ?_
    (have e := (nI_eq (by omega) (by omega)).mp h1; subst e; exact ⟨rfl, rfl⟩)
  refine r_swk (fun h1 => ?_) (fun h1 => ?_)
  · skip
    refine r_go 2 rfl ?_ ?_
    · (first | exact trivial | assumption | (simp (disch := omega) [ab_all, ab_nz, *]; done))
    refine r_ret rfl trivial ?_
    (have e := (nI_eq (by omega) (by omega)).mp h1; subst e; exact ⟨rfl, rfl⟩)
  refine r_swk (fun h1 => ?_) (fun h1 => ?_)
  · skip
    refine r_go 2 rfl ?_ ?_
    · (first | exact trivial | assumption | (simp (disch := omega) [ab_all, ab_nz, *]; done))
    refine r_ret rfl trivial ?_
    (have e := (nI_eq (by omega) (by omega)).mp h1; subst e; exact ⟨rfl, rfl⟩)
  refine r_swk (fun h1 => ?_) (fun h1 => ?_)
  · skip
    refine r_go 2 rfl ?_ ?_
    · (first | exact trivial | assumption | (simp (disch := omega) [ab_all, ab_nz, *]; done))
    refine r_ret rfl trivial ?_
    (have e := (nI_eq (by omega) (by omega)).mp h1; subst e; exact ⟨rfl, rfl⟩)
  refine r_go 1 rfl ?_ ?_
  · (first | exact trivial | assumption | (simp (disch := omega) [ab_all, ab_nz, *]; done))
  refine r_ret rfl trivial ?_
  exfalso
  rcases hj with rfl | rfl | rfl | rfl | rfl | rfl | rfl | rfl <;> contradiction
theorem k_dtells {q : Nat} {i : ab_I} (k : Nat) (hk : k < 8) (hq : ab_gt GF q = (1, 0)) : ab_K 0 23 [.ref q, .int (nI k)] i (ab_V (.int (i q k)) i) := by
  have hj : k = 0 ∨ k = 1 ∨ k = 2 ∨ k = 3 ∨ k = 4 ∨ k = 5 ∨ k = 6 ∨ k = 7 := by omega
  refine k_of rfl ?_
  refine r_go 1 rfl ?_ ?_
  · (first | exact trivial | assumption | (simp (disch := omega) [ab_all, ab_nz, *]; done))
  refine r_sw rfl ?_
  refine r_swk (fun h1 => ?_) (fun h1 => ?_)
  · skip
    refine r_go 2 rfl ?_ ?_
    · (first | exact trivial | assumption | (simp (disch := omega) [ab_all, ab_nz, *]; done))
    refine r_ret rfl trivial ?_
    (have e := (nI_eq (by omega) (by omega)).mp h1; subst e; exact ⟨rfl, rfl⟩)
  refine r_swk (fun h1 => ?_) (fun h1 => ?_)
  · skip
    refine r_go 2 rfl ?_ ?_
    · (first | exact trivial | assumption | (simp (disch := omega) [ab_all, ab_nz, *]; done))
    refine r_ret rfl trivial ?_
    (have e := (nI_eq (by omega) (by omega)).mp h1; subst e; exact ⟨rfl, rfl⟩)
  refine r_swk (fun h1 => ?_) (fun h1 => ?_)
  · skip
    refine r_go 2 rfl ?_ ?_
    · (first | exact trivial | assumption | (simp (disch := omega) [ab_all, ab_nz, *]; done))
    refine r_ret rfl trivial ?_
    (have e := (nI_eq (by omega) (by omega)).mp h1; subst e; exact ⟨rfl, rfl⟩)
  refine r_swk (fun h1 => ?_) (fun h1 => ?_)
  · skip
    refine r_go 2 rfl ?_ ?_
    · (first | exact trivial | assumption | (simp (disch := omega) [ab_all, ab_nz, *]; done))
    refine r_ret rfl trivial ?_
    (have e := (nI_eq (by omega) (by omega)).mp h1; subst e; exact ⟨rfl, rfl⟩)
  refine r_swk (fun h1 => ?_) (fun h1 => ?_)
  · skip
    refine r_go 2 rfl ?_ ?_
    · (first | exact trivial | assumption | (simp (disch := omega) [ab_all, ab_nz, *]; done))
    refine r_ret rfl trivial ?_
    (have e := (nI_eq (by omega) (by omega)).mp h1; subst e; exact ⟨rfl, rfl⟩)
  refine r_swk (fun h1 => ?_) (fun h1 => ?_)
  · skip
    refine r_go 2 rfl ?_ ?_
    · (first | exact trivial | assumption | (simp (disch := omega) [ab_all, ab_nz, *]; done))
    refine r_ret rfl trivial ?_
    (have e := (nI_eq (by omega) (by omega)).mp h1; subst e; exact ⟨rfl, rfl⟩)
  refine r_swk (fun h1 => ?_) (fun h1 => ?_)
  · skip
    refine r_go 2 rfl ?_ ?_
    · (first | exact trivial | assumption | (simp (disch := omega) [ab_all, ab_nz, *]; done))
    refine r_ret rfl trivial ?_
    (have e := (nI_eq (by omega) (by omega)).mp h1; subst e; exact ⟨rfl, rfl⟩)
  refine r_swk (fun h1 => ?_) (fun h1 => ?_)
  · skip
    refine r_go 2 rfl ?_ ?_
    · (first | exact trivial | assumption | (simp (disch := omega) [ab_all, ab_nz, *]; done))
    refine r_ret rfl trivial ?_
    (have e := (nI_eq (by omega) (by omega)).mp h1; subst e; exact ⟨rfl, rfl⟩)
  refine r_go 1 rfl ?_ ?_
  · (first | exact trivial | assumption | (simp (disch := omega) [ab_all, ab_nz, *]; done))
  refine r_ret rfl trivial ?_
  exfalso
  rcases hj with rfl | rfl | rfl | rfl | rfl | rfl | rfl | rfl <;> contradiction
theorem k_balter {q : Nat} {i : ab_I} (k : Nat) (x : Int32) (hk : k < 8) (h0 : k ≠ 0) (h2 : k ≠ 2) (hq : ab_gt GF q = (0, 0)) : ab_K 0 16 [.ref q, .int (nI k), .int x] i (ab_N (ab_up i q (fB (k - 1)) x)) := by
  have hj : k = 1 ∨ k = 3 ∨ k = 4 ∨ k = 5 ∨ k = 6 ∨ k = 7 := by omega
  refine k_of rfl ?_
  refine r_go 1 rfl ?_ ?_
  · (first | exact trivial | assumption | (simp (disch := omega) [ab_all, ab_nz, *]; done))
  refine r_sw rfl ?_
  refine r_swk (fun h1 => ?_) (fun h1 => ?_)
  · skip
    refine r_go 4 rfl ?_ ?_
    · (first | exact trivial | assumption | (simp (disch := omega) [ab_all, ab_nz, *]; done))
    refine r_ret rfl trivial ?_
    first | (have e := (nI_eq (by omega) (by omega)).mp h1; subst e; first | exact ⟨rfl, rfl⟩ | exact absurd rfl h2) | (exfalso; rcases hj with rfl | rfl | rfl | rfl | rfl | rfl <;> contradiction)
  refine r_swk (fun h1 => ?_) (fun h1 => ?_)
  · skip
    refine r_ret rfl trivial ?_
    first | (have e := (nI_eq (by omega) (by omega)).mp h1; subst e; first | exact ⟨rfl, rfl⟩ | exact absurd rfl h2) | (exfalso; rcases hj with rfl | rfl | rfl | rfl | rfl | rfl <;> contradiction)
  refine r_swk (fun h1 => ?_) (fun h1 => ?_)
  · skip
    refine r_go 4 rfl ?_ ?_
    · (first | exact trivial | assumption | (simp (disch := omega) [ab_all, ab_nz, *]; done))
    refine r_ret rfl trivial ?_
    first | (have e := (nI_eq (by omega) (by omega)).mp h1; subst e; first | exact ⟨rfl, rfl⟩ | exact absurd rfl h2) | (exfalso; rcases hj with rfl | rfl | rfl | rfl | rfl | rfl <;> contradiction)
  refine r_swk (fun h1 => ?_) (fun h1 => ?_)
  · skip
    refine r_go 4 rfl ?_ ?_
    · (first | exact trivial | assumption | (simp (disch := omega) [ab_all, ab_nz, *]; done))
    refine r_ret rfl trivial ?_
    first | (have e := (nI_eq (by omega) (by omega)).mp h1; subst e; first | exact ⟨rfl, rfl⟩ | exact absurd rfl h2) | (exfalso; rcases hj with rfl | rfl | rfl | rfl | rfl | rfl <;> contradiction)
  refine r_swk (fun h1 => ?_) (fun h1 => ?_)
  · skip
    refine r_go 4 rfl ?_ ?_
    · (first | exact trivial | assumption | (simp (disch := omega) [ab_all, ab_nz, *]; done))
    refine r_ret rfl trivial ?_
    first | (have e := (nI_eq (by omega) (by omega)).mp h1; subst e; first | exact ⟨rfl, rfl⟩ | exact absurd rfl h2) | (exfalso; rcases hj with rfl | rfl | rfl | rfl | rfl | rfl <;> contradiction)
  refine r_swk (fun h1 => ?_) (fun h1 => ?_)
  · skip
    refine r_go 4 rfl ?_ ?_
    · (first | exact trivial | assumption | (simp (disch := omega) [ab_all, ab_nz, *]; done))
    refine r_ret rfl trivial ?_
    first | (have e := (nI_eq (by omega) (by omega)).mp h1; subst e; first | exact ⟨rfl, rfl⟩ | exact absurd rfl h2) | (exfalso; rcases hj with rfl | rfl | rfl | rfl | rfl | rfl <;> contradiction)
  refine r_swk (fun h1 => ?_) (fun h1 => ?_)
  · skip
    refine r_go 4 rfl ?_ ?_
    · (first | exact trivial | assumption | (simp (disch := omega) [ab_all, ab_nz, *]; done))
    refine r_ret rfl trivial ?_
    first | (have e := (nI_eq (by omega) (by omega)).mp h1; subst e; first | exact ⟨rfl, rfl⟩ | exact absurd rfl h2) | (exfalso; rcases hj with rfl | rfl | rfl | rfl | rfl | rfl <;> contradiction)
  refine r_ret rfl trivial ?_
  first | (have e := (nI_eq (by omega) (by omega)).mp h1; subst e; first | exact ⟨rfl, rfl⟩ | exact absurd rfl h2) | (exfalso; rcases hj with rfl | rfl | rfl | rfl | rfl | rfl <;> contradiction)
theorem k_dalter {q : Nat} {i : ab_I} (k : Nat) (x : Int32) (hk : k < 6) (h2 : k ≠ 2) (hq : ab_gt GF q = (1, 0)) : ab_K 0 26 [.ref q, .int (nI k), .int x] i (ab_N (ab_up i q k x)) := by
  have hj : k = 0 ∨ k = 1 ∨ k = 3 ∨ k = 4 ∨ k = 5 := by omega
  refine k_of rfl ?_
  refine r_go 1 rfl ?_ ?_
  · (first | exact trivial | assumption | (simp (disch := omega) [ab_all, ab_nz, *]; done))
  refine r_sw rfl ?_
  refine r_swk (fun h1 => ?_) (fun h1 => ?_)
  · skip
    refine r_go 4 rfl ?_ ?_
    · (first | exact trivial | assumption | (simp (disch := omega) [ab_all, ab_nz, *]; done))
    refine r_ret rfl trivial ?_
    first | (have e := (nI_eq (by omega) (by omega)).mp h1; subst e; first | exact ⟨rfl, rfl⟩ | exact absurd rfl h2) | (exfalso; rcases hj with rfl | rfl | rfl | rfl | rfl <;> contradiction)
  refine r_swk (fun h1 => ?_) (fun h1 => ?_)
  · skip
    refine r_go 4 rfl ?_ ?_
    · (first | exact trivial | assumption | (simp (disch := omega) [ab_all, ab_nz, *]; done))
    refine r_ret rfl trivial ?_
    first | (have e := (nI_eq (by omega) (by omega)).mp h1; subst e; first | exact ⟨rfl, rfl⟩ | exact absurd rfl h2) | (exfalso; rcases hj with rfl | rfl | rfl | rfl | rfl <;> contradiction)
  refine r_swk (fun h1 => ?_) (fun h1 => ?_)
  · skip
    refine r_ret rfl trivial ?_
    first | (have e := (nI_eq (by omega) (by omega)).mp h1; subst e; first | exact ⟨rfl, rfl⟩ | exact absurd rfl h2) | (exfalso; rcases hj with rfl | rfl | rfl | rfl | rfl <;> contradiction)
  refine r_swk (fun h1 => ?_) (fun h1 => ?_)
  · skip
    refine r_go 4 rfl ?_ ?_
    · (first | exact trivial | assumption | (simp (disch := omega) [ab_all, ab_nz, *]; done))
    refine r_ret rfl trivial ?_
    first | (have e := (nI_eq (by omega) (by omega)).mp h1; subst e; first | exact ⟨rfl, rfl⟩ | exact absurd rfl h2) | (exfalso; rcases hj with rfl | rfl | rfl | rfl | rfl <;> contradiction)
  refine r_swk (fun h1 => ?_) (fun h1 => ?_)
  · skip
    refine r_go 4 rfl ?_ ?_
    · (first | exact trivial | assumption | (simp (disch := omega) [ab_all, ab_nz, *]; done))
    refine r_ret rfl trivial ?_
    first | (have e := (nI_eq (by omega) (by omega)).mp h1; subst e; first | exact ⟨rfl, rfl⟩ | exact absurd rfl h2) | (exfalso; rcases hj with rfl | rfl | rfl | rfl | rfl <;> contradiction)
  refine r_swk (fun h1 => ?_) (fun h1 => ?_)
  · skip
    refine r_go 4 rfl ?_ ?_
    · (first | exact trivial | assumption | (simp (disch := omega) [ab_all, ab_nz, *]; done))
    refine r_ret rfl trivial ?_
    first | (have e := (nI_eq (by omega) (by omega)).mp h1; subst e; first | exact ⟨rfl, rfl⟩ | exact absurd rfl h2) | (exfalso; rcases hj with rfl | rfl | rfl | rfl | rfl <;> contradiction)
  refine r_ret rfl trivial ?_
  first | (have e := (nI_eq (by omega) (by omega)).mp h1; subst e; first | exact ⟨rfl, rfl⟩ | exact absurd rfl h2) | (exfalso; rcases hj with rfl | rfl | rfl | rfl | rfl <;> contradiction)
