/-! the class's reader: rows of every tightness -/
def rK (n : Nat) (a : Nat → Int32) (u hh mi : Nat) (as : List Value) (f : PF) : Prop := ∀ p l i, p ≤ n → l.length ≤ p → cS n a u p l i → ab_K hh mi as i (cQ u p l i (f (p, l)))
theorem k_row5 {n u o hh : Nat} {a : Nat → Int32} {f : PF} (hf : rK n a u hh 60 [.ref 69, .int (nI o)] f) (p : Nat) (l : List (Int32 × Int32)) (i : ab_I) (hp : p ≤ n) (hl : l.length ≤ p) (hS : cS n a u p l i) : ab_K (hh + 1) 59 [.ref 69, .int (nI 5), .int (nI o)] i (cQ u p l i (f (p, l))) := by
  refine k_of rfl ?_
  refine r_go 2 rfl ?_ ?_
  · (first | exact trivial | assumption | (simp (disch := omega) [ab_all, ab_nz, *]; done))
  refine r_brF rfl (by decide) ?_
  refine r_go 2 rfl ?_ ?_
  · (first | exact trivial | assumption | (simp (disch := omega) [ab_all, ab_nz, *]; done))
  refine r_c rfl rfl ((hf p l i hp hl hS)) (by omega) ?_
  rintro v i2 ⟨rfl, E⟩
  refine r_ret rfl trivial ?_
  exact ⟨rfl, E⟩
theorem k_rowS {n t o u hh : Nat} {a : Nat → Int32} {f : PF} (h : tpA n a) (h7 : 7 ≤ hh) (ht : t < 5) (hg : gd u n f) (hf : rK n a u hh 59 [.ref 69, .int (nI (t + 1)), .int (nI o)] f) (p : Nat) (l : List (Int32 × Int32)) (i : ab_I) (hp : p ≤ n) (hl : l.length ≤ p) (hS : cS n a u p l i) : ab_K (hh + 1) 59 [.ref 69, .int (nI t), .int (nI o)] i (cQ u p l i (rwW a t f (p, l))) := by
  refine k_of rfl ?_
  refine r_go 2 rfl ?_ ?_
  · (first | exact trivial | assumption | (simp (disch := omega) [ab_all, ab_nz, *]; done))
  refine r_brT rfl ((by clear hS hf hg; (simp (disch := omega) only [Int32.le_iff_toInt_le, Int32.lt_iff_toInt_lt, c_i, m1_i, m5_i, m33_i] at * <;> omega))) ?_
  refine r_go 5 rfl ?_ ?_
  · (first | exact trivial | assumption | (simp (disch := omega) [ab_all, ab_nz, *]; done))
  rw [nI_add]
  refine r_c rfl rfl ((hf p l i hp hl hS)) (by omega) ?_
  rintro v i2 ⟨rfl, E⟩
  obtain ⟨g1, g2, g3, g4⟩ := hg p l hp
  refine r_go 2 rfl ?_ ?_
  · (first | exact trivial | assumption | (simp (disch := omega) [ab_all, ab_nz, *]; done))
  refine r_ne rfl (fun h21 => ?_) (fun h21 => ?_)
  · skip
    refine r_go 4 rfl ?_ ?_
    · (first | exact trivial | assumption | (simp (disch := omega) [ab_all, ab_nz, *]; done))
    have em : nI (mst t) = nI (if t = 2 then 1 else 60) := rfl
    rw [nI_eq (by omega) (by decide)] at h21
    first | rw [if_pos h21] at em | rw [if_neg h21] at em
    rw [← em]
    have ew : rwW a t f (p, l) = if (f (p, l)).1 = true then rwL a t f (mst t) (f (p, l)).2 else f (p, l) := rfl
    rw [ew]
    by_cases hr : (f (p, l)).1 = true
    · rw [if_pos hr]
      have K := rr_loop h h7 ht hg hf (mst t + 1) 0 (f (p, l)).2.1 (f (p, l)).2.2 i2 (by omega) (by omega) g2 (by omega) (cS_of hS.1 E hr)
      refine r_lk (r_mono K ?_) rfl
      rintro v j ⟨rfl, E2⟩
      exact ⟨rfl, cE_b E2 E.1 (by omega)⟩
    · rw [if_neg hr]
      refine r_lk (r_mono (rr_out (E.2.2.2.2 hr).1) ?_) rfl
      rintro v j ⟨rfl, rfl⟩
      exact ⟨rfl, E⟩
  · skip
    refine r_go 5 rfl ?_ ?_
    · (first | exact trivial | assumption | (simp (disch := omega) [ab_all, ab_nz, *]; done))
    have em : nI (mst t) = nI (if t = 2 then 1 else 60) := rfl
    rw [nI_eq (by omega) (by decide)] at h21
    first | rw [if_pos h21] at em | rw [if_neg h21] at em
    rw [← em]
    have ew : rwW a t f (p, l) = if (f (p, l)).1 = true then rwL a t f (mst t) (f (p, l)).2 else f (p, l) := rfl
    rw [ew]
    by_cases hr : (f (p, l)).1 = true
    · rw [if_pos hr]
      have K := rr_loop h h7 ht hg hf (mst t + 1) 0 (f (p, l)).2.1 (f (p, l)).2.2 i2 (by omega) (by omega) g2 (by omega) (cS_of hS.1 E hr)
      refine r_lk (r_mono K ?_) rfl
      rintro v j ⟨rfl, E2⟩
      exact ⟨rfl, cE_b E2 E.1 (by omega)⟩
    · rw [if_neg hr]
      refine r_lk (r_mono (rr_out (E.2.2.2.2 hr).1) ?_) rfl
      rintro v j ⟨rfl, rfl⟩
      exact ⟨rfl, E⟩
theorem k_lvl {n o u hh : Nat} {a : Nat → Int32} {f : PF} (h : tpA n a) (h7 : 7 ≤ hh) (hg : gd u n f) (hf : rK n a u hh 60 [.ref 69, .int (nI o)] f) : ∀ k, k ≤ 5 → rK n a u (hh + 1 + k) 59 [.ref 69, .int (nI (5 - k)), .int (nI o)] (lvl a f k)
  | 0, _ => fun p l i hp hl hS => k_row5 hf p l i hp hl hS
  | k + 1, hk => fun p l i hp hl hS => by
    have K := k_lvl h h7 hg hf k (by omega)
    rw [show 5 - k = (4 - k) + 1 by omega] at K
    rw [show 5 - (k + 1) = 4 - k by omega]
    exact k_rowS (t := 4 - k) (hh := hh + 1 + k) h (by omega) (by omega) (gd_lvl h hg k) K p l i hp hl hS
