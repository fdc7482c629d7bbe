/-! the class's reader: a sign, a number -/
def CT (n : Nat) (a : Nat → Int32) (i : ab_I) : Prop := i 31 1 = nI n ∧ ∀ k, k < n → i 32 k = a k
def hcr (n : Nat) (a : Nat → Int32) (p : Nat) : Int32 := if p < n then a p else nI 0
theorem i2c_b : ∀ c, c < 256 → ((nI c).toUInt32 % 65536).toInt32 = nI c := by decide +kernel
theorem hcr_c {n : Nat} {a : Nat → Int32} (h : tpA n a) (p : Nat) : ∃ c, c < 256 ∧ hcr n a p = nI c := by
  unfold hcr
  by_cases e : p < n
  · rw [if_pos e]
    exact h.2.1 p e
  · rw [if_neg e]
    exact ⟨0, by decide, rfl⟩
theorem hcr_d {n : Nat} {a : Nat → Int32} (h : tpA n a) (p : Nat) : dgt (hcr n a p) = dgt (a p) := by
  unfold hcr
  by_cases e : p < n
  · rw [if_pos e]
  · rw [if_neg e, h.2.2 p (by omega)]
    decide
theorem hcr_s {n : Nat} {a : Nat → Int32} (h : tpA n a) (t p : Nat) : sgT t (hcr n a p) = sgT t (a p) := by
  unfold hcr
  by_cases e : p < n
  · rw [if_pos e]
  · rw [if_neg e, h.2.2 p (by omega), sgT_n]
    unfold sgT
    repeat' split
    all_goals decide
theorem hcr_n {n : Nat} {a : Nat → Int32} (h : tpA n a) (u p : Nat) : nmB u (hcr n a p) = nmB u (a p) := by
  unfold hcr
  by_cases e : p < n
  · rw [if_pos e]
  · rw [if_neg e, h.2.2 p (by omega), nmB_n]
    unfold nmB
    split
    all_goals decide
theorem hcr_k {n k : Nat} {a : Nat → Int32} (h : tpA n a) (p : Nat) (hk : k < 1000) (h0 : 0 < k) : (hcr n a p = nI k) = (a p = nI k) := by
  unfold hcr
  by_cases e : p < n
  · rw [if_pos e]
  · rw [if_neg e, h.2.2 p (by omega)]
    refine propext ⟨fun q => ?_, fun q => ?_⟩
    · rw [nI_eq (by omega) (by omega)] at q
      omega
    · rw [eq_i, m1_i, c_i (by omega)] at q
      omega
theorem hcr_p {n p : Nat} {a : Nat → Int32} (h : p < n) : hcr n a p = a p := if_pos h
theorem k_here {n p : Nat} {a : Nat → Int32} {i : ab_I} (h : tpA n a) (hT : CT n a i) (hp : i 69 3 = nI p) (hpn : p ≤ n) : ab_K 1 64 [.ref 69] i (ab_V (.int (hcr n a p)) i) := by
  have h60 := h.1
  have er : ((hcr n a p).toUInt32 % 65536).toInt32 = hcr n a p := by
      obtain ⟨c, q, z⟩ := hcr_c h p
      rw [z]
      exact i2c_b c q
  have e : (rowAt i 31 n (nI p)).toUInt32 % 65536 = (hcr n a p).toUInt32 := by
      unfold hcr
      by_cases q : p < n
      · rw [rowAt_nI q (by omega), if_pos q, hT.2 p q]
        obtain ⟨c, hq', e⟩ := h.2.1 p q
        rw [e]
        have := congrArg Int32.toUInt32 (i2c_b c hq')
        exact this
      · rw [if_neg q]
        unfold rowAt
        rw [if_neg (by rw [c_i (by omega)]; omega)]
        rfl
  refine k_of rfl ?_
  refine r_go 4 rfl ?_ ?_
  · (simp only [ab_all] <;> decide)
  rw [gr_69_0, hp]
  refine r_cv rfl rfl ((k_at _ isR_31 hT.1 (by omega))) (by decide) ?_
  refine r_go 1 rfl ?_ ?_
  · (simp only [ab_all] <;> decide)
  refine r_ret rfl (by (first | exact Or.inl rfl | exact Or.inr rfl | exact bI_or | (rw [e]; exact er))) ?_
  rw [e]
  exact ⟨rfl, rfl⟩
theorem k_isDg {i : ab_I} (x : Int32) : ab_K 0 63 [.int x] i (ab_V (.int (bI (dgt x = true))) i) := by
  refine k_of rfl ?_
  refine r_go 2 rfl ?_ ?_
  · (first | exact trivial | assumption | (simp (disch := omega) [ab_all, ab_nz, *]; done))
  refine r_br rfl (fun h3 => ?_) (fun h3 => ?_)
  · skip
    refine r_go 1 rfl ?_ ?_
    · (first | exact trivial | assumption | (simp (disch := omega) [ab_all, ab_nz, *]; done))
    refine r_ret rfl (by (first | exact Or.inl rfl | exact Or.inr rfl | exact bI_or | (rw [e]; exact er))) ?_
    first | exact lf_t (decide_eq_true (by (simp (disch := omega) only [Int32.le_iff_toInt_le, Int32.lt_iff_toInt_lt, c_i, m1_i, m5_i, m33_i] at * <;> omega))) | exact lf_f (fun z => by have q := of_decide_eq_true z; clear z; (simp (disch := omega) only [Int32.le_iff_toInt_le, Int32.lt_iff_toInt_lt, c_i, m1_i, m5_i, m33_i] at * <;> omega))
  · skip
    refine r_go 2 rfl ?_ ?_
    · (first | exact trivial | assumption | (simp (disch := omega) [ab_all, ab_nz, *]; done))
    refine r_br rfl (fun h9 => ?_) (fun h9 => ?_)
    · skip
      refine r_go 1 rfl ?_ ?_
      · (first | exact trivial | assumption | (simp (disch := omega) [ab_all, ab_nz, *]; done))
      refine r_ret rfl (by (first | exact Or.inl rfl | exact Or.inr rfl | exact bI_or | (rw [e]; exact er))) ?_
      first | exact lf_t (decide_eq_true (by (simp (disch := omega) only [Int32.le_iff_toInt_le, Int32.lt_iff_toInt_lt, c_i, m1_i, m5_i, m33_i] at * <;> omega))) | exact lf_f (fun z => by have q := of_decide_eq_true z; clear z; (simp (disch := omega) only [Int32.le_iff_toInt_le, Int32.lt_iff_toInt_lt, c_i, m1_i, m5_i, m33_i] at * <;> omega))
    · skip
      refine r_go 2 rfl ?_ ?_
      · (first | exact trivial | assumption | (simp (disch := omega) [ab_all, ab_nz, *]; done))
      refine r_ret rfl (by (first | exact Or.inl rfl | exact Or.inr rfl | exact bI_or | (rw [e]; exact er))) ?_
      first | exact lf_t (decide_eq_true (by (simp (disch := omega) only [Int32.le_iff_toInt_le, Int32.lt_iff_toInt_lt, c_i, m1_i, m5_i, m33_i] at * <;> omega))) | exact lf_f (fun z => by have q := of_decide_eq_true z; clear z; (simp (disch := omega) only [Int32.le_iff_toInt_le, Int32.lt_iff_toInt_lt, c_i, m1_i, m5_i, m33_i] at * <;> omega))
theorem k_sg0 {i : ab_I} : ab_K 0 62 [.int (nI 0)] i (ab_V (.ref 1003) i) := by
  refine k_of rfl ?_
  refine r_go 1 rfl ?_ ?_
  · (first | exact trivial | assumption | (simp (disch := omega) [ab_all, ab_nz, *]; done))
  refine r_sw rfl ?_
  refine r_swT (rfl) ?_
  refine r_go 1 rfl ?_ ?_
  · (first | exact trivial | assumption | (simp (disch := omega) [ab_all, ab_nz, *]; done))
  refine r_ret rfl trivial ?_
  exact ⟨rfl, rfl⟩
theorem k_sg1 {i : ab_I} : ab_K 0 62 [.int (nI 1)] i (ab_V (.ref 1004) i) := by
  refine k_of rfl ?_
  refine r_go 1 rfl ?_ ?_
  · (first | exact trivial | assumption | (simp (disch := omega) [ab_all, ab_nz, *]; done))
  refine r_sw rfl ?_
  refine r_swk (fun hz => absurd hz (by first | assumption | decide)) (fun _ => ?_)
  refine r_swT (rfl) ?_
  refine r_go 1 rfl ?_ ?_
  · (first | exact trivial | assumption | (simp (disch := omega) [ab_all, ab_nz, *]; done))
  refine r_ret rfl trivial ?_
  exact ⟨rfl, rfl⟩
theorem k_sg2 {i : ab_I} : ab_K 0 62 [.int (nI 2)] i (ab_V (.ref 1005) i) := by
  refine k_of rfl ?_
  refine r_go 1 rfl ?_ ?_
  · (first | exact trivial | assumption | (simp (disch := omega) [ab_all, ab_nz, *]; done))
  refine r_sw rfl ?_
  refine r_swk (fun hz => absurd hz (by first | assumption | decide)) (fun _ => ?_)
  refine r_swk (fun hz => absurd hz (by first | assumption | decide)) (fun _ => ?_)
  refine r_swT (rfl) ?_
  refine r_go 1 rfl ?_ ?_
  · (first | exact trivial | assumption | (simp (disch := omega) [ab_all, ab_nz, *]; done))
  refine r_ret rfl trivial ?_
  exact ⟨rfl, rfl⟩
theorem k_sg3 {i : ab_I} : ab_K 0 62 [.int (nI 3)] i (ab_V (.ref 1006) i) := by
  refine k_of rfl ?_
  refine r_go 1 rfl ?_ ?_
  · (first | exact trivial | assumption | (simp (disch := omega) [ab_all, ab_nz, *]; done))
  refine r_sw rfl ?_
  refine r_swk (fun hz => absurd hz (by first | assumption | decide)) (fun _ => ?_)
  refine r_swk (fun hz => absurd hz (by first | assumption | decide)) (fun _ => ?_)
  refine r_swk (fun hz => absurd hz (by first | assumption | decide)) (fun _ => ?_)
  refine r_swT (rfl) ?_
  refine r_go 1 rfl ?_ ?_
  · (first | exact trivial | assumption | (simp (disch := omega) [ab_all, ab_nz, *]; done))
  refine r_ret rfl trivial ?_
  exact ⟨rfl, rfl⟩
theorem k_sg4 {i : ab_I} : ab_K 0 62 [.int (nI 4)] i (ab_V (.ref 1007) i) := by
  refine k_of rfl ?_
  refine r_go 1 rfl ?_ ?_
  · (first | exact trivial | assumption | (simp (disch := omega) [ab_all, ab_nz, *]; done))
  refine r_sw rfl ?_
  refine r_swk (fun hz => absurd hz (by first | assumption | decide)) (fun _ => ?_)
  refine r_swk (fun hz => absurd hz (by first | assumption | decide)) (fun _ => ?_)
  refine r_swk (fun hz => absurd hz (by first | assumption | decide)) (fun _ => ?_)
  refine r_swk (fun hz => absurd hz (by first | assumption | decide)) (fun _ => ?_)
  refine r_go 1 rfl ?_ ?_
  · (first | exact trivial | assumption | (simp (disch := omega) [ab_all, ab_nz, *]; done))
  refine r_ret rfl trivial ?_
  exact ⟨rfl, rfl⟩
theorem k_sgs {i : ab_I} (t : Nat) (ht : t < 5) : ab_K 0 62 [.int (nI t)] i (ab_V (.ref (1000 + (3 + t))) i) := by
  have hU : t = 0 ∨ t = 1 ∨ t = 2 ∨ t = 3 ∨ t = 4 := by omega
  rcases hU with rfl | rfl | rfl | rfl | rfl
  · exact k_sg0
  · exact k_sg1
  · exact k_sg2
  · exact k_sg3
  · exact k_sg4
theorem k_names {i : ab_I} (u : Nat) (hu : u < 2) : ab_K 0 33 [.int (nI u)] i (ab_V (.ref (1000 + (1 + u))) i) := by
  have hU : u = 0 ∨ u = 1 := by omega
  refine k_of rfl ?_
  refine r_go 1 rfl ?_ ?_
  · (first | exact trivial | assumption | (simp (disch := omega) [ab_all, ab_nz, *]; done))
  refine r_ne rfl (fun h1 => ?_) (fun h1 => ?_)
  · skip
    refine r_go 1 rfl ?_ ?_
    · (first | exact trivial | assumption | (simp (disch := omega) [ab_all, ab_nz, *]; done))
    refine r_ret rfl trivial ?_
    (rcases hU with rfl | rfl <;> first | exact ⟨rfl, rfl⟩ | exact absurd rfl h1 | exact absurd h1 (by decide))
  · skip
    refine r_go 2 rfl ?_ ?_
    · (first | exact trivial | assumption | (simp (disch := omega) [ab_all, ab_nz, *]; done))
    refine r_ret rfl trivial ?_
    (rcases hU with rfl | rfl <;> first | exact ⟨rfl, rfl⟩ | exact absurd rfl h1 | exact absurd h1 (by decide))
