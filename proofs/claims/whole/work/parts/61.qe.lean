/-! the class's reader: the tape -/
theorem k_sgl {n u : Nat} {a : Nat → Int32} (hu : u < 2) (h : tpA n a) : ∀ d, d ≤ 5 → rK n a u (8 + 7 * d) 60 [.ref 69, .int (nI (5 - d))] (sgl a u d)
  | 0, _ => fun p l i hp hl hS => k_single (o := 5) (hh := 7) (b := false) hu h (Nat.le_refl _) (Nat.le_refl _) ⟨fun z => absurd z (by decide), fun z => absurd z (by decide)⟩ gd_f gd_f (fun z => absurd z (by decide)) (fun z => absurd z (by decide)) p l i hp hl hS
  | d + 1, hd => fun p l i hp hl hS => by
    have K := k_sgl hu h d (by omega)
    have KG := k_lvl h (show 7 ≤ 8 + 7 * d by omega) (gd_sgl hu h d) K 5 (by decide)
    rw [show 5 - d = 5 - (d + 1) + 1 by omega] at K KG
    rw [show 8 + 7 * (d + 1) = 8 + 7 * d + 1 + 5 + 1 by omega]
    exact k_single (o := 5 - (d + 1)) (hh := 8 + 7 * d + 1 + 5) (b := true) hu h (by omega) (by omega) ⟨fun _ => by omega, fun _ => rfl⟩ (gd_sgl hu h d) (gd_lvl h (gd_sgl hu h d) 5) (fun _ p l i a b c => k_deep (K p l i a b c) (by omega)) (fun _ => KG) p l i hp hl hS
def txR (a : Nat → Int32) (u : Nat) : Bool × PS := lvl a (sgl a u 5) 5 (0, [])
theorem txR_g {n u : Nat} {a : Nat → Int32} (hu : u < 2) (h : tpA n a) : gdR u n 1 0 [] (txR a u) := gd_lvl h (gd_sgl hu h 5) 5 0 [] (Nat.zero_le _)
theorem k_rdT {n u : Nat} {a : Nat → Int32} {i : ab_I} (hu : u < 2) (h : tpA n a) (hT : CT n a i) : ab_K 61 58 [.ref 69, .int (nI u)] i (fun v j => v = some (.int (if (txR a u).1 = true ∧ (txR a u).2.1 = n then (-1) else nI (txR a u).2.1)) ∧ rd i j ∧ ((txR a u).1 = true → CodeR u (txR a u).2.2 j)) := by
  have g := txR_g hu h
  obtain ⟨g1, g2, g3, g4⟩ := g
  have h60 := h.1
  refine k_of rfl ?_
  refine r_go 2 rfl ?_ ?_
  · ((try simp only [ab_all]) <;> repeat' (first | exact (show 1000 ≤ 1000 + (1 + u) by omega) | exact (show 1000 + (1 + u) < 1008 by omega) | exact Or.inl rfl | refine And.intro ?_ ?_ | decide))
  rw [gr_69_1]
  refine r_cn rfl rfl ((k_empty isR_70)) (by decide) ?_
  refine r_go 2 rfl ?_ ?_
  · ((try simp only [ab_all]) <;> repeat' (first | exact (show 1000 ≤ 1000 + (1 + u) by omega) | exact (show 1000 + (1 + u) < 1008 by omega) | exact Or.inl rfl | refine And.intro ?_ ?_ | decide))
  refine r_cv rfl trivial ((k_names u hu)) (by decide) ?_
  refine r_go 10 rfl ?_ ?_
  · ((try simp only [ab_all]) <;> repeat' (first | exact (show 1000 ≤ 1000 + (1 + u) by omega) | exact (show 1000 + (1 + u) < 1008 by omega) | exact Or.inl rfl | refine And.intro ?_ ?_ | decide))
  have R0 : rd i (ab_up (ab_up (ab_up (ab_up i 70 1 (nI 0)) 69 2 (nI (u + 2))) 69 3 (nI 0)) 69 4 (nI 0)) := rd_tr (rd_tr (rd_tr (rd_up (Or.inr (Or.inl rfl))) (rd_up (Or.inl rfl))) (rd_up (Or.inl rfl))) (rd_up (Or.inl rfl))
  have S0 : cS n a u 0 [] (ab_up (ab_up (ab_up (ab_up i 70 1 (nI 0)) 69 2 (nI (u + 2))) 69 3 (nI 0)) 69 4 (nI 0)) := by
      refine ⟨CT_rd hT R0, ?_, ?_, up_us, ?_, trivial⟩
      · rw [up_ne (by omega), up_ne (by omega), up_us]
      · rw [up_ne (by omega), up_us]
      · rw [up_ne (by omega), up_ne (by omega), up_ne (by omega), up_us]; rfl
  rw [show 1000 + (1 + u) - 999 = u + 2 by omega]
  refine r_c rfl rfl ((k_lvl (o := 0) h (show 7 ≤ 8 + 7 * 5 by decide) (gd_sgl hu h 5) (k_sgl hu h 5 (by decide)) 5 (by decide) 0 [] _ (by omega) (by decide) S0)) (by decide) ?_
  rintro v j ⟨rfl, E⟩
  have E : cE u 0 [] _ (txR a u) j := E
  have R1 := rd_tr R0 E.1
  have T1 := CT_rd hT R1
  refine r_go 2 rfl ?_ ?_
  · ((try simp only [ab_all]) <;> repeat' (first | exact (show 1000 ≤ 1000 + (1 + u) by omega) | exact (show 1000 + (1 + u) < 1008 by omega) | exact Or.inl rfl | refine And.intro ?_ ?_ | decide))
  refine r_ne rfl (fun h35 => ?_) (fun h35 => ?_)
  · skip
    have ef : ¬ ((txR a u).1 = true ∧ (txR a u).2.1 = n) := by
        first | (intro z; exact h35 (E.2.2.2.1 z.1).1) | (intro z; rw [E.2.2.1, gr_69_0, T1.1, z.2] at h49; clear E S0; (simp (disch := omega) only [Int32.le_iff_toInt_le, Int32.lt_iff_toInt_lt, c_i, m1_i, m5_i, m33_i] at * <;> omega))
    rw [if_neg ef]
    refine r_go 3 rfl ?_ ?_
    · ((try simp only [ab_all]) <;> repeat' (first | exact (show 1000 ≤ 1000 + (1 + u) by omega) | exact (show 1000 + (1 + u) < 1008 by omega) | exact Or.inl rfl | refine And.intro ?_ ?_ | decide))
    refine r_ret rfl trivial ?_
    first | exact ⟨rfl, R1, fun z => (E.2.2.2.1 z).2⟩ | exact ⟨congrArg (fun x => some (Value.int x)) E.2.2.1, R1, fun z => (E.2.2.2.1 z).2⟩
  · skip
    refine r_go 5 rfl ?_ ?_
    · ((try simp only [ab_all]) <;> repeat' (first | exact (show 1000 ≤ 1000 + (1 + u) by omega) | exact (show 1000 + (1 + u) < 1008 by omega) | exact Or.inl rfl | refine And.intro ?_ ?_ | decide))
    refine r_le rfl (fun h49 => ?_) (fun h49 => ?_)
    · skip
      have ef : (txR a u).1 = true ∧ (txR a u).2.1 = n := by
          refine ⟨?_, ?_⟩
          · by_cases z : (txR a u).1 = true
            · exact z
            · have := (E.2.2.2.2 z).1
              rw [this] at h35
              exact absurd h35 (by decide)
          · rw [E.2.2.1, gr_69_0, T1.1] at h49
            clear E S0
            (simp (disch := omega) only [Int32.le_iff_toInt_le, Int32.lt_iff_toInt_lt, c_i, m1_i, m5_i, m33_i] at * <;> omega)
      rw [if_pos ef]
      refine r_go 1 rfl ?_ ?_
      · ((try simp only [ab_all]) <;> repeat' (first | exact (show 1000 ≤ 1000 + (1 + u) by omega) | exact (show 1000 + (1 + u) < 1008 by omega) | exact Or.inl rfl | refine And.intro ?_ ?_ | decide))
      refine r_ret rfl trivial ?_
      first | exact ⟨rfl, R1, fun z => (E.2.2.2.1 z).2⟩ | exact ⟨congrArg (fun x => some (Value.int x)) E.2.2.1, R1, fun z => (E.2.2.2.1 z).2⟩
    · skip
      have ef : ¬ ((txR a u).1 = true ∧ (txR a u).2.1 = n) := by
          first | (intro z; exact h35 (E.2.2.2.1 z.1).1) | (intro z; rw [E.2.2.1, gr_69_0, T1.1, z.2] at h49; clear E S0; (simp (disch := omega) only [Int32.le_iff_toInt_le, Int32.lt_iff_toInt_lt, c_i, m1_i, m5_i, m33_i] at * <;> omega))
      rw [if_neg ef]
      refine r_go 3 rfl ?_ ?_
      · ((try simp only [ab_all]) <;> repeat' (first | exact (show 1000 ≤ 1000 + (1 + u) by omega) | exact (show 1000 + (1 + u) < 1008 by omega) | exact Or.inl rfl | refine And.intro ?_ ?_ | decide))
      refine r_ret rfl trivial ?_
      first | exact ⟨rfl, R1, fun z => (E.2.2.2.1 z).2⟩ | exact ⟨congrArg (fun x => some (Value.int x)) E.2.2.1, R1, fun z => (E.2.2.2.1 z).2⟩
