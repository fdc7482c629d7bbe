/-! the class's reader: a sign, a number -/
def CT (n : Nat) (a : Nat → Int32) (i : ab_I) : Prop := i 31 1 = nI n ∧ ∀ k, k < n → i 32 k = a k
def hcr (n : Nat) (a : Nat → Int32) (p : Nat) : Int32 := if p < n then a p else nI 0
theorem i2c_b : ∀ c, c < 256 → ((nI c).toUInt32 % 65536).toInt32 = nI c := by decide +kernel
theorem hcr_c {n : Nat} {a : Nat → Int32} (h : tpA n a) (p : Nat) : ∃ c, c < 256 ∧ hcr n a p = nI c := by
  unfold hcr
  by_cases e : p < n
  · rw [if_pos e]
    exact h.2.1 p e
  · rw [if_neg e]
    exact ⟨0, by decide, rfl⟩
theorem hcr_d {n : Nat} {a : Nat → Int32} (h : tpA n a) (p : Nat) : dgt (hcr n a p) = dgt (a p) := by
  unfold hcr
  by_cases e : p < n
  · rw [if_pos e]
  · rw [if_neg e, h.2.2 p (by omega)]
    decide
theorem hcr_s {n : Nat} {a : Nat → Int32} (h : tpA n a) (t p : Nat) : sgT t (hcr n a p) = sgT t (a p) := by
  unfold hcr
  by_cases e : p < n
  · rw [if_pos e]
  · rw [if_neg e, h.2.2 p (by omega), sgT_n]
    unfold sgT
    repeat' split
    all_goals decide
theorem hcr_n {n : Nat} {a : Nat → Int32} (h : tpA n a) (u p : Nat) : nmB u (hcr n a p) = nmB u (a p) := by
  unfold hcr
  by_cases e : p < n
  · rw [if_pos e]
  · rw [if_neg e, h.2.2 p (by omega), nmB_n]
    unfold nmB
    split
    all_goals decide
theorem hcr_k {n k : Nat} {a : Nat → Int32} (h : tpA n a) (p : Nat) (hk : k < 1000) (h0 : 0 < k) : (hcr n a p = nI k) = (a p = nI k) := by
  unfold hcr
  by_cases e : p < n
  · rw [if_pos e]
  · rw [if_neg e, h.2.2 p (by omega)]
    refine propext ⟨fun q => ?_, fun q => ?_⟩
    · rw [nI_eq (by omega) (by omega)] at q
      omega
    · rw [eq_i, m1_i, c_i (by omega)] at q
      omega
theorem hcr_p {n p : Nat} {a : Nat → Int32} (h : p < n) : hcr n a p = a p := if_pos h
theorem k_here {n p : Nat} {a : Nat → Int32} {i : ab_I} (h : tpA n a) (hT : CT n a i) (hp : i 69 3 = nI p) (hpn : p ≤ n) : ab_K 1 64 [.ref 69] i (ab_V (.int (hcr n a p)) i) := by
  have h60 := h.1
  have er : ((hcr n a p).toUInt32 % 65536).toInt32 = hcr n a p := by
      obtain ⟨c, q, z⟩ := hcr_c h p
      rw [z]
      exact i2c_b c q
  have e : (rowAt i 31 n (nI p)).toUInt32 % 65536 = (hcr n a p).toUInt32 := by
      unfold hcr
      by_cases q : p < n
      · rw [rowAt_nI q (by omega), if_pos q, hT.2 p q]
        obtain ⟨c, hq', e⟩ := h.2.1 p q
        rw [e]
        have := congrArg Int32.toUInt32 (i2c_b c hq')
        exact this
      · rw [if_neg q]
        unfold rowAt
        rw [if_neg (by rw [c_i (by omega)]; omega)]
        rfl
  refine k_of rfl ?_
  refine r_go 4 rfl ?_ ?_
  · (simp only [ab_all] <;> decide)
  rw [gr_69_0, hp]
  refine r_cv rfl rfl ((k_at _ isR_31 hT.1 (by omega))) (by decide) ?_
  refine r_go 1 rfl ?_ ?_
  · (simp only [ab_all] <;> decide)
  refine r_ret rfl (by (first | exact Or.inl rfl | exact Or.inr rfl | exact bI_or | (rw [e]; exact er))) ?_
  rw [e]
  exact ⟨rfl, rfl⟩
theorem k_isDg {i : ab_I} (x : Int32) : ab_K 0 63 [.int x] i (ab_V (.int (bI (dgt x = true))) i) := by
  refine k_of rfl ?_
  refine r_go 2 rfl ?_ ?_
  · (first | exact trivial | assumption | (simp (disch := omega) [ab_all, ab_nz, *]; done))
  refine r_br rfl (fun h3 => ?_) (fun h3 => ?_)
  · skip
    refine r_go 1 rfl ?_ ?_
    · (first | exact trivial | assumption | (simp (disch := omega) [ab_all, ab_nz, *]; done))
    refine r_ret rfl (by (first | exact Or.inl rfl | exact Or.inr rfl | exact bI_or | (rw [e]; exact er))) ?_
    first | exact lf_t (decide_eq_true (by (simp (disch := omega) only [Int32.le_iff_toInt_le, Int32.lt_iff_toInt_lt, c_i, m1_i, m5_i, m33_i] at * <;> omega))) | exact lf_f (fun z => by have q := of_decide_eq_true z; clear z; (simp (disch := omega) only [Int32.le_iff_toInt_le, Int32.lt_iff_toInt_lt, c_i, m1_i, m5_i, m33_i] at * <;> omega))
  · skip
    refine r_go 2 rfl ?_ ?_
    · (first | exact trivial | assumption | (simp (disch := omega) [ab_all, ab_nz, *]; done))
    refine r_br rfl (fun h9 => ?_) (fun h9 => ?_)
    · skip
      refine r_go 1 rfl ?_ ?_
      · (first | exact trivial | assumption | (simp (disch := omega) [ab_all, ab_nz, *]; done))
      refine r_ret rfl (by (first | exact Or.inl rfl | exact Or.inr rfl | exact bI_or | (rw [e]; exact er))) ?_
      first | exact lf_t (decide_eq_true (by (simp (disch := omega) only [Int32.le_iff_toInt_le, Int32.lt_iff_toInt_lt, c_i, m1_i, m5_i, m33_i] at * <;> omega))) | exact lf_f (fun z => by have q := of_decide_eq_true z; clear z; (simp (disch := omega) only [Int32.le_iff_toInt_le, Int32.lt_iff_toInt_lt, c_i, m1_i, m5_i, m33_i] at * <;> omega))
    · skip
      refine r_go 2 rfl ?_ ?_
      · (first | exact trivial | assumption | (simp (disch := omega) [ab_all, ab_nz, *]; done))
      refine r_ret rfl (by (first | exact Or.inl rfl | exact Or.inr rfl | exact bI_or | (rw [e]; exact er))) ?_
      first | exact lf_t (decide_eq_true (by (simp (disch := omega) only [Int32.le_iff_toInt_le, Int32.lt_iff_toInt_lt, c_i, m1_i, m5_i, m33_i] at * <;> omega))) | exact lf_f (fun z => by have q := of_decide_eq_true z; clear z; (simp (disch := omega) only [Int32.le_iff_toInt_le, Int32.lt_iff_toInt_lt, c_i, m1_i, m5_i, m33_i] at * <;> omega))
theorem k_sg0 {i : ab_I} : ab_K 0 62 [.int (nI 0)] i (ab_V (.ref 1003) i) := by
  refine k_of rfl ?_
  refine r_go 1 rfl ?_ ?_
  · (first | exact trivial | assumption | (simp (disch := omega) [ab_all, ab_nz, *]; done))
  refine r_sw rfl ?_
  refine r_swT (rfl) ?_
  refine r_go 1 rfl ?_ ?_
  · (first | exact trivial | assumption | (simp (disch := omega) [ab_all, ab_nz, *]; done))
  refine r_ret rfl trivial ?_
  exact ⟨rfl, rfl⟩
theorem k_sg1 {i : ab_I} : ab_K 0 62 [.int (nI 1)] i (ab_V (.ref 1004) i) := by
  refine k_of rfl ?_
  refine r_go 1 rfl ?_ ?_
  · (first | exact trivial | assumption | (simp (disch := omega) [ab_all, ab_nz, *]; done))
  refine r_sw rfl ?_
  refine r_swk (fun hz => absurd hz (by first | assumption | decide)) (fun _ => ?_)
  refine r_swT (rfl) ?_
  refine r_go 1 rfl ?_ ?_
  · (first | exact trivial | assumption | (simp (disch := omega) [ab_all, ab_nz, *]; done))
  refine r_ret rfl trivial ?_
  exact ⟨rfl, rfl⟩
theorem k_sg2 {i : ab_I} : ab_K 0 62 [.int (nI 2)] i (ab_V (.ref 1005) i) := by
  refine k_of rfl ?_
  refine r_go 1 rfl ?_ ?_
  · (first | exact trivial | assumption | (simp (disch := omega) [ab_all, ab_nz, *]; done))
  refine r_sw rfl ?_
  refine r_swk (fun hz => absurd hz (by first | assumption | decide)) (fun _ => ?_)
  refine r_swk (fun hz => absurd hz (by first | assumption | decide)) (fun _ => ?_)
  refine r_swT (rfl) ?_
  refine r_go 1 rfl ?_ ?_
  · (first | exact trivial | assumption | (simp (disch := omega) [ab_all, ab_nz, *]; done))
  refine r_ret rfl trivial ?_
  exact ⟨rfl, rfl⟩
theorem k_sg3 {i : ab_I} : ab_K 0 62 [.int (nI 3)] i (ab_V (.ref 1006) i) := by
  refine k_of rfl ?_
  refine r_go 1 rfl ?_ ?_
  · (first | exact trivial | assumption | (simp (disch := omega) [ab_all, ab_nz, *]; done))
  refine r_sw rfl ?_
  refine r_swk (fun hz => absurd hz (by first | assumption | decide)) (fun _ => ?_)
  refine r_swk (fun hz => absurd hz (by first | assumption | decide)) (fun _ => ?_)
  refine r_swk (fun hz => absurd hz (by first | assumption | decide)) (fun _ => ?_)
  refine r_swT (rfl) ?_
  refine r_go 1 rfl ?_ ?_
  · (first | exact trivial | assumption | (simp (disch := omega) [ab_all, ab_nz, *]; done))
  refine r_ret rfl trivial ?_
  exact ⟨rfl, rfl⟩
theorem k_sg4 {i : ab_I} : ab_K 0 62 [.int (nI 4)] i (ab_V (.ref 1007) i) := by
  refine k_of rfl ?_
  refine r_go 1 rfl ?_ ?_
  · (first | exact trivial | assumption | (simp (disch := omega) [ab_all, ab_nz, *]; done))
  refine r_sw rfl ?_
  refine r_swk (fun hz => absurd hz (by first | assumption | decide)) (fun _ => ?_)
  refine r_swk (fun hz => absurd hz (by first | assumption | decide)) (fun _ => ?_)
  refine r_swk (fun hz => absurd hz (by first | assumption | decide)) (fun _ => ?_)
  refine r_swk (fun hz => absurd hz (by first | assumption | decide)) (fun _ => ?_)
  refine r_go 1 rfl ?_ ?_
  · (first | exact trivial | assumption | (simp (disch := omega) [ab_all, ab_nz, *]; done))
  refine r_ret rfl trivial ?_
  exact ⟨rfl, rfl⟩
theorem k_sgs {i : ab_I} (t : Nat) (ht : t < 5) : ab_K 0 62 [.int (nI t)] i (ab_V (.ref (1000 + (3 + t))) i) := by
  have hU : t = 0 ∨ t = 1 ∨ t = 2 ∨ t = 3 ∨ t = 4 := by omega
  rcases hU with rfl | rfl | rfl | rfl | rfl
  · exact k_sg0
  · exact k_sg1
  · exact k_sg2
  · exact k_sg3
  · exact k_sg4
theorem k_names {i : ab_I} (u : Nat) (hu : u < 2) : ab_K 0 33 [.int (nI u)] i (ab_V (.ref (1000 + (1 + u))) i) := by
  have hU : u = 0 ∨ u = 1 := by omega
  refine k_of rfl ?_
  refine r_go 1 rfl ?_ ?_
  · (first | exact trivial | assumption | (simp (disch := omega) [ab_all, ab_nz, *]; done))
  refine r_ne rfl (fun h1 => ?_) (fun h1 => ?_)
  · skip
    refine r_go 1 rfl ?_ ?_
    · (first | exact trivial | assumption | (simp (disch := omega) [ab_all, ab_nz, *]; done))
    refine r_ret rfl trivial ?_
    (rcases hU with rfl | rfl <;> first | exact ⟨rfl, rfl⟩ | exact absurd rfl h1 | exact absurd h1 (by decide))
  · skip
    refine r_go 2 rfl ?_ ?_
    · (first | exact trivial | assumption | (simp (disch := omega) [ab_all, ab_nz, *]; done))
    refine r_ret rfl trivial ?_
    (rcases hU with rfl | rfl <;> first | exact ⟨rfl, rfl⟩ | exact absurd rfl h1 | exact absurd h1 (by decide))
theorem CT_e {n : Nat} {a : Nat → Int32} {i j : ab_I} (h : CT n a i) (e1 : j 31 = i 31) (e2 : j 32 = i 32) : CT n a j := by
  unfold CT
  rw [e1, e2]
  exact h
def rnE (i : ab_I) (len : Nat) (r : Nat × Nat) : ab_I := ab_up (ab_up (ab_up i 69 3 (nI r.2)) 71 len (nI r.1)) 70 1 (nI (len + 1))
theorem isR_70 : isR 70 60 := ⟨rfl, rfl, by decide⟩
theorem up_tw {i : ab_I} {q k : Nat} {x y : Int32} : ab_up (ab_up i q k x) q k y = ab_up i q k y := by
  funext b c
  unfold ab_up
  by_cases e : b = q ∧ c = k
  · rw [if_pos e, if_pos e]
  · rw [if_neg e, if_neg e, if_neg e]
theorem up_id {i : ab_I} {q k : Nat} {x : Int32} (h : i q k = x) : ab_up i q k x = i := by
  funext b c
  unfold ab_up
  by_cases e : b = q ∧ c = k
  · rw [if_pos e, e.1, e.2, h]
  · rw [if_neg e]
theorem rn_loop {n len : Nat} {a : Nat → Int32} {i : ab_I} (h : tpA n a) (hT : CT n a i) (hl : i 70 1 = nI len) (h60 : len < 60) (mm c v p : Nat) (hmm : 4 - c < mm) (hc : c ≤ 4) (hp : p ≤ n) : ab_R 2 tb_X4_readNumber 4 [some (.ref 69), some (.int (nI v)), some (.int (nI c))] [] (ab_up i 69 3 (nI p)) (ab_N (rnE i len (nbL a (4 - c) v p))) := by
  induction mm generalizing c v p with
  | zero => exact absurd hmm (by omega)
  | succ mm ih =>
    have hT1 : CT n a (ab_up i 69 3 (nI p)) := CT_e hT (up_row (by decide)) (up_row (by decide))
    have hp1 : ab_up i 69 3 (nI p) 69 3 = nI p := up_us
    have hl1 : ab_up i 69 3 (nI p) 70 1 = nI len := by rw [up_ne (by omega)]; exact hl
    refine r_go 2 rfl ?_ ?_
    · (simp only [ab_all] <;> decide)
    refine r_le rfl (fun h6 => ?_) (fun h6 => ?_)
    · skip
      have e3 : nbL a (4 - c) v p = (v, p) := by
          first | (rw [hcr_d h] at h16; by_cases z : 4 - c = 0; (rw [z]; rfl); (rw [show 4 - c = (4 - (c + 1)) + 1 by omega]; exact if_neg h16)) | (rw [show 4 - c = 0 by (simp (disch := omega) only [Int32.le_iff_toInt_le, Int32.lt_iff_toInt_lt, c_i, m1_i, m5_i, m33_i] at * <;> omega)]; rfl)
      rw [e3]
      refine r_go 3 rfl ?_ ?_
      · (simp only [ab_all] <;> decide)
      refine r_cn rfl rfl ((k_add _ isR_70 hl1 (by omega))) (by decide) ?_
      refine r_ret rfl trivial ?_
      rw [if_pos h60]
      exact ⟨rfl, rfl⟩
    · skip
      refine r_go 1 rfl ?_ ?_
      · (simp only [ab_all] <;> decide)
      refine r_cv rfl rfl ((k_here h hT1 hp1 hp)) (by decide) ?_
      refine r_cv rfl trivial ((k_isDg _)) (by decide) ?_
      refine r_bE rfl (fun h16 => ?_) (fun h16 => ?_)
      · skip
        have e3 : nbL a (4 - c) v p = (v, p) := by
            first | (rw [hcr_d h] at h16; by_cases z : 4 - c = 0; (rw [z]; rfl); (rw [show 4 - c = (4 - (c + 1)) + 1 by omega]; exact if_neg h16)) | (rw [show 4 - c = 0 by (simp (disch := omega) only [Int32.le_iff_toInt_le, Int32.lt_iff_toInt_lt, c_i, m1_i, m5_i, m33_i] at * <;> omega)]; rfl)
        rw [e3]
        refine r_go 3 rfl ?_ ?_
        · (simp only [ab_all] <;> decide)
        refine r_cn rfl rfl ((k_add _ isR_70 hl1 (by omega))) (by decide) ?_
        refine r_ret rfl trivial ?_
        rw [if_pos h60]
        exact ⟨rfl, rfl⟩
      · skip
        rw [hcr_d h] at h16
        obtain ⟨d, hd, e1, e2⟩ := nb_1 h h16
        have hpn := tp_d h h16
        refine r_go 4 rfl ?_ ?_
        · (simp only [ab_all] <;> decide)
        refine r_cv rfl rfl ((k_here h hT1 hp1 hp)) (by decide) ?_
        refine r_go 12 rfl ?_ ?_
        · (simp only [ab_all] <;> decide)
        rw [hcr_p hpn, e1, pk_mul, nI_add, pk_sub (by omega), up_us, nI_add, nI_add, up_tw, show v * 10 + (d + 48) - 48 = 10 * v + d by omega]
        have hcl : c < 4 := by (simp (disch := omega) only [Int32.le_iff_toInt_le, Int32.lt_iff_toInt_lt, c_i, m1_i, m5_i, m33_i] at * <;> omega)
        have K := ih (c + 1) (10 * v + d) (p + 1) (by omega) (by omega) (by omega)
        have e3 : nbL a (4 - c) v p = nbL a (4 - (c + 1)) (10 * v + d) (p + 1) := by
            rw [show 4 - c = (4 - (c + 1)) + 1 by omega]
            refine (if_pos h16).trans ?_
            rw [e2 v]
        rw [e3]
        exact r_lk K rfl
theorem k_rdN {n len p : Nat} {a : Nat → Int32} {i : ab_I} (h : tpA n a) (hT : CT n a i) (hl : i 70 1 = nI len) (h60 : len < 60) (hp : i 69 3 = nI p) (hpn : p ≤ n) : ab_K 2 61 [.ref 69] i (ab_N (rnE i len (nbL a 4 0 p))) := by
  refine k_of rfl ?_
  refine r_go 4 rfl ?_ ?_
  · (first | exact trivial | assumption | (simp (disch := omega) [ab_all, ab_nz, *]; done))
  have K := rn_loop h hT hl h60 5 0 0 p (by decide) (by decide) hpn
  rw [up_id hp] at K
  exact r_lk K rfl
