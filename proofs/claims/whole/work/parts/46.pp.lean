/-! sheets -/
theorem tg_sh : ∀ j, j < 4 → ab_gt GF (204 + 3 * j) = (6, 0) ∧ isR (205 + 3 * j) 24 := by
  intro j hj
  have : j = 0 ∨ j = 1 ∨ j = 2 ∨ j = 3 := by omega
  rcases this with rfl | rfl | rfl | rfl <;> exact ⟨rfl, rfl, rfl, by decide⟩
theorem gr_203 {j : Nat} (h : j < 4) : ab_gr GF 203 j = 204 + 3 * j := (gr_of gt_203).trans (by show (if j < 4 then 203 + 1 + 3 * j else 0) = 204 + 3 * j; rw [if_pos h])
theorem gr_sh {j : Nat} (h : j < 4) : ab_gr GF (204 + 3 * j) 1 = 205 + 3 * j := (gr_of (tg_sh j h).1).trans (by show 204 + 3 * j + 1 = _; omega)
theorem k_hasSh {i : ab_I} (x : Int32) : ab_K 1 150 [.ref 0, .int x] i (ab_V (.int (bI (nI 0 ≤ x ∧ x ≤ nI 3))) i) := by
  refine k_of rfl ?_
  refine r_go 7 rfl ?_ ?_
  · (first | exact trivial | (simp only [ab_all] <;> decide))
  refine r_cv rfl trivial ((k_within _ _ _)) (by decide) ?_
  refine r_ret rfl (by (first | exact Or.inl rfl | exact Or.inr rfl | exact bI_or)) ?_
  exact ⟨rfl, rfl⟩
theorem k_shAt {i : ab_I} (j : Nat) (hj : j < 4) : ab_K 2 151 [.ref 0, .int (nI j)] i (ab_V (.ref (204 + 3 * j)) i) := by
  have g := gr_203 hj
  refine k_of rfl ?_
  refine r_go 4 rfl ?_ ?_
  · (first | exact trivial | (simp only [ab_all] <;> decide))
  refine r_cv rfl rfl ((k_hasSh (nI j))) (by decide) ?_
  refine r_brF rfl (bF ⟨nI_le (Nat.zero_le _) (by omega), nI_le (by omega) (by decide)⟩) ?_
  refine r_go 3 rfl ?_ ?_
  · (simp only [ab_all, gr_0_6, nI_cl (show j < 2147483648 by omega), g]; exact ⟨⟨4, gt_203, in_nI hj (by omega)⟩, by omega⟩)
  refine r_ret rfl trivial ?_
  (rw [gr_0_6, nI_cl (by omega), g]; exact ⟨rfl, rfl⟩)
theorem k_miss {j : Nat} {i : ab_I} (hj : j < 4) : ab_K 0 76 [.ref (204 + 3 * j)] i (ab_V (.int (bI (i (204 + 3 * j) 0 = nI 0))) i) := by
  refine k_of rfl ?_
  refine r_go 2 rfl ?_ ?_
  · exact (tg_sh j hj).1
  refine r_ne rfl (fun h4 => ?_) (fun h4 => ?_)
  · skip
    refine r_go 1 rfl ?_ ?_
    · (first | exact trivial | assumption | (simp (disch := omega) [ab_all, ab_nz, *]; done))
    refine r_ret rfl (by (first | exact Or.inl rfl | exact Or.inr rfl | exact bI_or)) ?_
    first | exact lf_t h4 | exact lf_f h4
  · skip
    refine r_go 2 rfl ?_ ?_
    · (first | exact trivial | assumption | (simp (disch := omega) [ab_all, ab_nz, *]; done))
    refine r_ret rfl (by (first | exact Or.inl rfl | exact Or.inr rfl | exact bI_or)) ?_
    first | exact lf_t h4 | exact lf_f h4
theorem of_s {x : Int32} (h : nI 0 ≤ x ∧ x ≤ nI 3) : ∃ j, j < 4 ∧ x = nI j := by
  obtain ⟨j, hj, e⟩ := of_bt (by decide) h
  exact ⟨j, by omega, e⟩
def clN (c j : Nat) (f : Vc) : Vc := fun k => if 24 * j ≤ k ∧ k < 24 * j + c then nI 0 else f k
theorem clN_s {c j : Nat} {f : Vc} : upd (clN c j f) (24 * j + c) (nI 0) = clN (c + 1) j f := by
  funext k
  unfold upd clN
  by_cases h : k = 24 * j + c
  · rw [if_pos h, if_pos (by omega)]
  · rw [if_neg h]
    by_cases h2 : 24 * j ≤ k ∧ k < 24 * j + c
    · rw [if_pos h2, if_pos (by omega)]
    · rw [if_neg h2, if_neg (by omega)]
def wS (m : ab_I) (j : Nat) (b n : Int32) : ab_I := ab_row (ab_row (ab_row m 228 (upd (m 228) j b)) 229 (upd (m 229) j n)) 230 (clN 24 j (m 230))
theorem cl_sh {i k m m' : ab_I} {v : Int32} (hJ : InM m) (hC : ClsR i m) (hm : ∀ q, q ≠ 228 → q ≠ 229 → q ≠ 230 → m' q = m q) (e : ∀ q, ¬ (204 ≤ q ∧ q ≤ 215) → k q = i q) (h : ShR k m') : clQ i (v, m') (some (.int v)) k := by
  obtain ⟨h1, h2, h3, h4, h5, h6⟩ := hC
  refine ⟨rfl, ?_, fun q hq => e q (by omega)⟩
  unfold ClsR ErR TrR
  dsimp only
  rw [hm 219 (by decide) (by decide) (by decide), hm 220 (by decide) (by decide) (by decide), hm 218 (by decide) (by decide) (by decide), hm 222 (by decide) (by decide) (by decide), hm 227 (by decide) (by decide) (by decide)]
  refine ⟨WhR_e hJ.1.1 h1 (fun q a b c d => e q (by omega)), fun z => WhR_e hJ.2.1.1 (h2 z) (fun q a b c d => e q (by omega)), (congrFun (e 0 (by omega)) 2).trans h3, h, ⟨(congrFun (e 216 (by omega)) 1).trans h5.1, fun k hk => (congrFun (e 217 (by omega)) k).trans (h5.2 k hk)⟩, RoR_far h6 (e _ (by omega)) (e _ (by omega))⟩
theorem rf_sh {i k m m' : ab_I} {v : Int32} (hm : mo i m) (h13 : i 218 13 = (-1)) (h : ∀ q, q ≠ 228 → q ≠ 229 → q ≠ 230 → m' q = m q) (e : ∀ q, q ≠ 228 → q ≠ 229 → q ≠ 230 → q ≠ 231 → k q = i q) (a : k 228 = m' 228) (b : k 229 = m' 229) (c : k 230 = m' 230) : rfQ i (v, m') (some (.int v)) k := by
  obtain ⟨m1, m2, m3, m4, m5, m6, m7, m8, m9⟩ := hm
  refine ⟨rfl, ⟨?_, ?_, ?_, ?_, a, b, c, ?_, ?_⟩, ?_, fun q hq => e q (by omega) (by omega) (by omega) (by omega)⟩
  · show k 219 = m' 219; rw [e 219 (by decide) (by decide) (by decide) (by decide), h 219 (by decide) (by decide) (by decide)]; exact m1
  · show k 220 = m' 220; rw [e 220 (by decide) (by decide) (by decide) (by decide), h 220 (by decide) (by decide) (by decide)]; exact m2
  · show k 222 = m' 222; rw [e 222 (by decide) (by decide) (by decide) (by decide), h 222 (by decide) (by decide) (by decide)]; exact m3
  · show k 227 = m' 227; rw [e 227 (by decide) (by decide) (by decide) (by decide), h 227 (by decide) (by decide) (by decide)]; exact m4
  · show k 218 3 = m' 218 3; rw [e 218 (by decide) (by decide) (by decide) (by decide), h 218 (by decide) (by decide) (by decide)]; exact m8
  · show k 218 16 = m' 218 16; rw [e 218 (by decide) (by decide) (by decide) (by decide), h 218 (by decide) (by decide) (by decide)]; exact m9
  · rw [e 218 (by decide) (by decide) (by decide) (by decide)]; exact h13
theorem wS_ne {m : ab_I} {j : Nat} {b n : Int32} : ∀ q, q ≠ 228 → q ≠ 229 → q ≠ 230 → wS m j b n q = m q := fun q h1 h2 h3 => by
  unfold wS
  exact (funext (fun _ => ab_row_ne h3)).trans ((funext (fun _ => ab_row_ne h2)).trans (funext (fun _ => ab_row_ne h1)))
theorem wS_8 {m : ab_I} {j : Nat} {b n : Int32} : wS m j b n 228 = upd (m 228) j b := by
  unfold wS
  exact (funext (fun _ => ab_row_ne (by decide))).trans ((funext (fun _ => ab_row_ne (by decide))).trans row_s)
theorem wS_9 {m : ab_I} {j : Nat} {b n : Int32} : wS m j b n 229 = upd (m 229) j n := by
  unfold wS
  exact (funext (fun _ => ab_row_ne (by decide))).trans row_s
theorem wS_0 {m : ab_I} {j : Nat} {b n : Int32} : wS m j b n 230 = clN 24 j (m 230) := row_s
def S_sheet (x b n : Int32) (m : ab_I) : Int32 × ab_I := if (nI 0 ≤ x ∧ x ≤ nI 3) ∧ (b = nI 0 ∨ b = nI 8 ∨ b = nI 16 ∨ b = nI 32) then (if ¬ b = nI 0 ∧ n < nI 0 then er m 3 else if ¬ b = nI 0 ∧ nI 24 < n then er m 1 else (nI 1, wS m x.toNatClampNeg b (if b = nI 0 then nI 0 else n))) else er m 1
theorem k_begin {j n : Nat} {i : ab_I} (b : Int32) (hj : j < 4) (hn : n ≤ 24) : ab_K 2 77 [.ref (204 + 3 * j), .int b, .int (nI n)] i (ab_N (ab_row (ab_up (ab_up i (204 + 3 * j) 0 b) (205 + 3 * j) 1 (nI n)) (206 + 3 * j) (zrow (i (206 + 3 * j)) 24 (nI 0)))) := by
  obtain ⟨g1, g2⟩ := tg_sh j hj
  have g3 := gr_sh hj
  refine k_of rfl ?_
  refine r_go 6 rfl ?_ ?_
  · (simp only [ab_all, g1, g3]; simp)
  rw [g3]
  refine r_cn rfl g2.1 ((k_zeros g2 hn)) (by decide) ?_
  refine r_ret rfl trivial ?_
  rw [show 205 + 3 * j + 1 = 206 + 3 * j by omega, up_row (by omega)]
  exact ⟨rfl, rfl⟩
theorem sh_new {j n : Nat} {b : Int32} {i m : ab_I} (hj : j < 4) (hn : n ≤ 24) (hJ : InM m) (h : ShR i m) : ShR (ab_row (ab_up (ab_up i (204 + 3 * j) 0 b) (205 + 3 * j) 1 (nI n)) (206 + 3 * j) (zrow (i (206 + 3 * j)) 24 (nI 0))) (wS m j b (nI n)) := by
  intro a ha
  rw [wS_8, wS_9, wS_0]
  obtain ⟨h1, h2⟩ := h a ha
  obtain ⟨_, n', hn', en⟩ := hJ.2.2.1 a ha
  by_cases e : a = j
  · subst e
    refine ⟨?_, ?_, fun k hk => ?_⟩
    · rw [ab_row_ne (by omega), up_ne (by omega), up_us, pk_us]
    · rw [ab_row_ne (by omega), up_us, pk_us, nI_cl (by omega)]
    · rw [pk_us, nI_cl (by omega)] at hk
      rw [show 205 + 3 * a + 1 = 206 + 3 * a by omega, ab_row_self]
      show zrow _ 24 (nI 0) k = clN 24 a (m 230) (24 * a + k)
      unfold zrow clN
      rw [if_pos (by omega), if_pos (by omega)]
  · refine ⟨?_, ?_, fun k hk => ?_⟩
    · rw [ab_row_ne (by omega), up_ne (by omega), up_ne (by omega), pk_un e]
      exact h1
    · rw [ab_row_ne (by omega), up_ne (by omega), up_ne (by omega), pk_un e]
      exact h2.1
    · rw [pk_un e] at hk
      rw [ab_row_ne (by omega), up_ne (by omega), up_ne (by omega)]
      show _ = clN 24 j (m 230) (24 * a + k)
      rw [en, nI_cl (by omega)] at hk
      unfold clN
      rw [if_neg (by omega)]
      exact h2.2 k (by rw [en, nI_cl (by omega)]; exact hk)
theorem cs_rest {i m : ab_I} (hC : ClsR i m) (hJ : InM m) {j : Nat} {b n : Int32} (hj : j < 4) (hb : b = nI 0 ∨ b = nI 8 ∨ b = nI 16 ∨ b = nI 32) (h1 : ¬ (¬ b = nI 0 ∧ n < nI 0)) (h2 : ¬ (¬ b = nI 0 ∧ nI 24 < n)) : ab_R 3 tb_X10_sheet 66 [some (.ref 0), some (.int (nI j)), some (.int b), some (.int n)] [] i (clQ i (S_sheet (nI j) b n m)) := by
  have hP : S_sheet (nI j) b n m = (nI 1, wS m j b (if b = nI 0 then nI 0 else n)) := by
      unfold S_sheet
      rw [if_pos ⟨⟨nI_le (Nat.zero_le _) (by omega), nI_le (by omega) (by decide)⟩, hb⟩, if_neg h1, if_neg h2, nI_cl (by omega)]
  have hSh := hC.2.2.2.1
  refine r_go 2 rfl ?_ ?_
  · (first | exact trivial | assumption | (simp (disch := omega) [ab_all, ab_nz, *]; done))
  refine r_cv rfl (by first | rfl | exact (tg_sh j hj).1) ((k_shAt j hj)) (by decide) ?_
  refine r_go 2 rfl ?_ ?_
  · (first | exact trivial | assumption | (simp (disch := omega) [ab_all, ab_nz, *]; done))
  refine r_ne rfl (fun h73 => ?_) (fun h73 => ?_)
  · skip
    refine r_go 1 rfl ?_ ?_
    · (first | exact trivial | assumption | (simp (disch := omega) [ab_all, ab_nz, *]; done))
    obtain ⟨c, hc, ec⟩ : ∃ c, c ≤ 24 ∧ (if b = nI 0 then nI 0 else n) = nI c := by
        by_cases h0 : b = nI 0
        · rw [if_pos h0]
          exact ⟨0, by decide, rfl⟩
        · rw [if_neg h0]
          have q1 : ¬ n < nI 0 := fun z => h1 ⟨h0, z⟩
          have q2 : ¬ nI 24 < n := fun z => h2 ⟨h0, z⟩
          have q3 : 0 ≤ n.toInt ∧ n.toInt ≤ 24 := by clear hC hJ hSh hP h1 h2 h73 hb h0; (simp (disch := omega) only [Int32.le_iff_toInt_le, Int32.lt_iff_toInt_lt, c_i, m1_i, m5_i, m33_i] at * <;> omega)
          exact ⟨n.toNatClampNeg, by rw [tn_i]; omega, tn_of q3.1⟩
    rw [ec] at hP
    first | (rw [if_pos h73] at ec; rw [ec]) | (rw [if_neg h73] at ec; subst ec)
    refine r_cn rfl (by first | rfl | exact (tg_sh j hj).1) ((k_begin b hj hc)) (by decide) ?_
    refine r_go 1 rfl ?_ ?_
    · (first | exact trivial | assumption | (simp (disch := omega) [ab_all, ab_nz, *]; done))
    refine r_ret rfl trivial ?_
    exact cl_to hP (cl_sh hJ hC wS_ne (fun q hq => (funext (fun _ => ab_row_ne (by omega))).trans ((up_row (by omega)).trans (up_row (by omega)))) (sh_new hj hc hJ hSh))
  · skip
    refine r_go 2 rfl ?_ ?_
    · (first | exact trivial | assumption | (simp (disch := omega) [ab_all, ab_nz, *]; done))
    obtain ⟨c, hc, ec⟩ : ∃ c, c ≤ 24 ∧ (if b = nI 0 then nI 0 else n) = nI c := by
        by_cases h0 : b = nI 0
        · rw [if_pos h0]
          exact ⟨0, by decide, rfl⟩
        · rw [if_neg h0]
          have q1 : ¬ n < nI 0 := fun z => h1 ⟨h0, z⟩
          have q2 : ¬ nI 24 < n := fun z => h2 ⟨h0, z⟩
          have q3 : 0 ≤ n.toInt ∧ n.toInt ≤ 24 := by clear hC hJ hSh hP h1 h2 h73 hb h0; (simp (disch := omega) only [Int32.le_iff_toInt_le, Int32.lt_iff_toInt_lt, c_i, m1_i, m5_i, m33_i] at * <;> omega)
          exact ⟨n.toNatClampNeg, by rw [tn_i]; omega, tn_of q3.1⟩
    rw [ec] at hP
    first | (rw [if_pos h73] at ec; rw [ec]) | (rw [if_neg h73] at ec; subst ec)
    refine r_cn rfl (by first | rfl | exact (tg_sh j hj).1) ((k_begin b hj hc)) (by decide) ?_
    refine r_go 1 rfl ?_ ?_
    · (first | exact trivial | assumption | (simp (disch := omega) [ab_all, ab_nz, *]; done))
    refine r_ret rfl trivial ?_
    exact cl_to hP (cl_sh hJ hC wS_ne (fun q hq => (funext (fun _ => ab_row_ne (by omega))).trans ((up_row (by omega)).trans (up_row (by omega)))) (sh_new hj hc hJ hSh))
theorem cs_mid {i m : ab_I} (hC : ClsR i m) (hJ : InM m) {x b n : Int32} (hx : nI 0 ≤ x ∧ x ≤ nI 3) (hb : b = nI 0 ∨ b = nI 8 ∨ b = nI 16 ∨ b = nI 32) : ab_R 3 tb_X10_sheet 36 [some (.ref 0), some (.int x), some (.int b), some (.int n)] [] i (clQ i (S_sheet x b n m)) := by
  (have hI := hJ.1.1; have hX := InS_X hJ.1; have hT := hC.1.1; have hLw : LwsR (m 219) i := ⟨hC.1.2.1, hC.1.2.2.1⟩; have hE := hC.2.2.2.2.1.1)
  obtain ⟨j, hj, rfl⟩ := of_s hx
  refine r_go 1 rfl ?_ ?_
  · (first | exact trivial | assumption | (simp (disch := omega) [ab_all, ab_nz, *]; done))
  refine r_br rfl (fun h37 => ?_) (fun h37 => ?_)
  · skip
    refine r_go 1 rfl ?_ ?_
    · (first | exact trivial | assumption | (simp (disch := omega) [ab_all, ab_nz, *]; done))
    refine r_br rfl (fun h51 => ?_) (fun h51 => ?_)
    · skip
      exact cs_rest hC hJ hj hb (fun z => by first | exact absurd h37 z.1 | exact h41 z.2) (fun z => by first | exact absurd h51 z.1 | exact h57 z.2)
    · skip
      refine r_go 2 rfl ?_ ?_
      · (first | exact trivial | assumption | (simp (disch := omega) [ab_all, ab_nz, *]; done))
      refine r_le rfl (fun h57 => ?_) (fun h57 => ?_)
      · skip
        exact cs_rest hC hJ hj hb (fun z => by first | exact absurd h37 z.1 | exact h41 z.2) (fun z => by first | exact absurd h51 z.1 | exact h57 z.2)
      · skip
        refine r_go 2 rfl ?_ ?_
        · (first | exact trivial | assumption | (simp (disch := omega) [ab_all, ab_nz, *]; done))
        refine r_cv rfl rfl ((k_error 1 (by decide) (by decide) hE)) (by decide) ?_
        refine r_ret rfl trivial ?_
        exact cl_to ((if_pos ⟨hx, hb⟩).trans ((if_neg (fun z => by first | exact absurd h37 z.1 | exact h41 z.2)).trans (if_pos ⟨h51, h57⟩))) (cl_er (by decide) (by decide) hJ hC)
  · skip
    refine r_go 1 rfl ?_ ?_
    · (first | exact trivial | assumption | (simp (disch := omega) [ab_all, ab_nz, *]; done))
    refine r_le rfl (fun h41 => ?_) (fun h41 => ?_)
    · skip
      refine r_go 1 rfl ?_ ?_
      · (first | exact trivial | assumption | (simp (disch := omega) [ab_all, ab_nz, *]; done))
      refine r_br rfl (fun h51 => ?_) (fun h51 => ?_)
      · skip
        exact cs_rest hC hJ hj hb (fun z => by first | exact absurd h37 z.1 | exact h41 z.2) (fun z => by first | exact absurd h51 z.1 | exact h57 z.2)
      · skip
        refine r_go 2 rfl ?_ ?_
        · (first | exact trivial | assumption | (simp (disch := omega) [ab_all, ab_nz, *]; done))
        refine r_le rfl (fun h57 => ?_) (fun h57 => ?_)
        · skip
          exact cs_rest hC hJ hj hb (fun z => by first | exact absurd h37 z.1 | exact h41 z.2) (fun z => by first | exact absurd h51 z.1 | exact h57 z.2)
        · skip
          refine r_go 2 rfl ?_ ?_
          · (first | exact trivial | assumption | (simp (disch := omega) [ab_all, ab_nz, *]; done))
          refine r_cv rfl rfl ((k_error 1 (by decide) (by decide) hE)) (by decide) ?_
          refine r_ret rfl trivial ?_
          exact cl_to ((if_pos ⟨hx, hb⟩).trans ((if_neg (fun z => by first | exact absurd h37 z.1 | exact h41 z.2)).trans (if_pos ⟨h51, h57⟩))) (cl_er (by decide) (by decide) hJ hC)
    · skip
      refine r_go 2 rfl ?_ ?_
      · (first | exact trivial | assumption | (simp (disch := omega) [ab_all, ab_nz, *]; done))
      refine r_cv rfl rfl ((k_error 3 (by decide) (by decide) hE)) (by decide) ?_
      refine r_ret rfl trivial ?_
      exact cl_to ((if_pos ⟨hx, hb⟩).trans (if_pos ⟨h37, h41⟩)) (cl_er (by decide) (by decide) hJ hC)
theorem c_sheet {i m : ab_I} (hC : ClsR i m) (hJ : InM m) (x b n : Int32) : ab_K 3 135 [.ref 0, .int x, .int b, .int n] i (clQ i (S_sheet x b n m)) := by
  (have hI := hJ.1.1; have hX := InS_X hJ.1; have hT := hC.1.1; have hLw : LwsR (m 219) i := ⟨hC.1.2.1, hC.1.2.2.1⟩; have hE := hC.2.2.2.2.1.1)
  refine k_of rfl ?_
  refine r_go 2 rfl ?_ ?_
  · (first | exact trivial | assumption | (simp (disch := omega) [ab_all, ab_nz, *]; done))
  refine r_cv rfl rfl ((k_hasSh x)) (by decide) ?_
  refine r_bE rfl (fun h5 => ?_) (fun h5 => ?_)
  · skip
    refine r_go 2 rfl ?_ ?_
    · (first | exact trivial | assumption | (simp (disch := omega) [ab_all, ab_nz, *]; done))
    refine r_cv rfl rfl ((k_error 1 (by decide) (by decide) hE)) (by decide) ?_
    refine r_ret rfl trivial ?_
    exact cl_to (if_neg (by first | exact fun z => h5 z.1 | (intro z; rcases z.2 with q | q | q | q; exact h9 q; exact h15 q; exact h21 q; exact h27 q))) (cl_er (by decide) (by decide) hJ hC)
  · skip
    refine r_go 1 rfl ?_ ?_
    · (first | exact trivial | assumption | (simp (disch := omega) [ab_all, ab_nz, *]; done))
    refine r_br rfl (fun h9 => ?_) (fun h9 => ?_)
    · skip
      first | exact cs_mid hC hJ h5 (Or.inl h9) | exact cs_mid hC hJ h5 (Or.inr (Or.inl h15)) | exact cs_mid hC hJ h5 (Or.inr (Or.inr (Or.inl h21))) | exact cs_mid hC hJ h5 (Or.inr (Or.inr (Or.inr h27)))
    · skip
      refine r_go 2 rfl ?_ ?_
      · (first | exact trivial | assumption | (simp (disch := omega) [ab_all, ab_nz, *]; done))
      refine r_br rfl (fun h15 => ?_) (fun h15 => ?_)
      · skip
        first | exact cs_mid hC hJ h5 (Or.inl h9) | exact cs_mid hC hJ h5 (Or.inr (Or.inl h15)) | exact cs_mid hC hJ h5 (Or.inr (Or.inr (Or.inl h21))) | exact cs_mid hC hJ h5 (Or.inr (Or.inr (Or.inr h27)))
      · skip
        refine r_go 2 rfl ?_ ?_
        · (first | exact trivial | assumption | (simp (disch := omega) [ab_all, ab_nz, *]; done))
        refine r_br rfl (fun h21 => ?_) (fun h21 => ?_)
        · skip
          first | exact cs_mid hC hJ h5 (Or.inl h9) | exact cs_mid hC hJ h5 (Or.inr (Or.inl h15)) | exact cs_mid hC hJ h5 (Or.inr (Or.inr (Or.inl h21))) | exact cs_mid hC hJ h5 (Or.inr (Or.inr (Or.inr h27)))
        · skip
          refine r_go 2 rfl ?_ ?_
          · (first | exact trivial | assumption | (simp (disch := omega) [ab_all, ab_nz, *]; done))
          refine r_br rfl (fun h27 => ?_) (fun h27 => ?_)
          · skip
            first | exact cs_mid hC hJ h5 (Or.inl h9) | exact cs_mid hC hJ h5 (Or.inr (Or.inl h15)) | exact cs_mid hC hJ h5 (Or.inr (Or.inr (Or.inl h21))) | exact cs_mid hC hJ h5 (Or.inr (Or.inr (Or.inr h27)))
          · skip
            refine r_go 2 rfl ?_ ?_
            · (first | exact trivial | assumption | (simp (disch := omega) [ab_all, ab_nz, *]; done))
            refine r_cv rfl rfl ((k_error 1 (by decide) (by decide) hE)) (by decide) ?_
            refine r_ret rfl trivial ?_
            exact cl_to (if_neg (by first | exact fun z => h5 z.1 | (intro z; rcases z.2 with q | q | q | q; exact h9 q; exact h15 q; exact h21 q; exact h27 q))) (cl_er (by decide) (by decide) hJ hC)
theorem m_isS {i : ab_I} (x : Int32) : ab_K 1 234 [.int x] i (ab_V (.int (bI (nI 0 ≤ x ∧ x ≤ nI 3))) i) := by
  refine k_of rfl ?_
  refine r_go 3 rfl ?_ ?_
  · (first | exact trivial | assumption | (simp (disch := omega) [ab_all, ab_nz, *]; done))
  refine r_cv rfl trivial ((m_in _ _ _)) (by decide) ?_
  refine r_ret rfl (by (first | exact Or.inl rfl | exact Or.inr rfl | exact bI_or)) ?_
  exact ⟨rfl, rfl⟩
theorem ms_loop {j : Nat} {i : ab_I} (hj : j < 4) (mm c : Nat) (hmm : 24 - c < mm) (hc : c ≤ 24) : ab_R 2 tb_X11_sheet 90 [some (.ref 218), some (.int (nI j)), none, none, some (.int (nI c))] [] (ab_row i 230 (clN c j (i 230))) (ab_V (.int (nI 1)) (ab_row i 230 (clN 24 j (i 230)))) := by
  induction mm generalizing c with
  | zero => exact absurd hmm (by omega)
  | succ mm ih =>
    refine r_go 2 rfl ?_ ?_
    · (first | exact trivial | assumption | (simp (disch := omega) [ab_all, ab_nz, *]; done))
    refine r_le rfl (fun h94 => ?_) (fun h94 => ?_)
    · skip
      refine r_go 1 rfl ?_ ?_
      · (first | exact trivial | assumption | (simp (disch := omega) [ab_all, ab_nz, *]; done))
      refine r_ret rfl trivial ?_
      have e : c = 24 := by (simp (disch := omega) only [Int32.le_iff_toInt_le, Int32.lt_iff_toInt_lt, c_i, m1_i, m5_i, m33_i] at * <;> omega)
      subst e
      exact ⟨rfl, rfl⟩
    · skip
      have hcl : c < 24 := by (simp (disch := omega) only [Int32.le_iff_toInt_le, Int32.lt_iff_toInt_lt, c_i, m1_i, m5_i, m33_i] at * <;> omega)
      refine r_go 11 rfl ?_ ?_
      · (simp only [ab_all, gr_218_21, pk_mul, nI_add]; exact ⟨ix_of gt_230 (by omega) (by omega), rfl, by decide⟩)
      rw [gr_218_21, pk_mul, nI_add, nI_add, nI_cl (by omega), row_up, clN_s]
      exact r_lk (ih (c + 1) (by omega) (by omega)) rfl
theorem ms_rest {i m : ab_I} (hm : mo i m) (hJ : InM m) (h13 : i 218 13 = (-1)) {j : Nat} {b n : Int32} (hj : j < 4) (hb : b = nI 0 ∨ b = nI 8 ∨ b = nI 16 ∨ b = nI 32) (h1 : ¬ (¬ b = nI 0 ∧ n < nI 0)) (h2 : ¬ (¬ b = nI 0 ∧ nI 24 < n)) : ab_R 2 tb_X11_sheet 65 [some (.ref 218), some (.int (nI j)), some (.int b), some (.int n), none] [] i (rfQ i (S_sheet (nI j) b n m)) := by
  have hP : S_sheet (nI j) b n m = (nI 1, wS m j b (if b = nI 0 then nI 0 else n)) := by
      unfold S_sheet
      rw [if_pos ⟨⟨nI_le (Nat.zero_le _) (by omega), nI_le (by omega) (by decide)⟩, hb⟩, if_neg h1, if_neg h2, nI_cl (by omega)]
  refine r_go 9 rfl ?_ ?_
  · (simp only [ab_all, gr_218_19]; exact ⟨⟨rfl, by decide⟩, ix_of gt_228 (by omega) (by omega), rfl, by decide⟩)
  refine r_ne rfl (fun h78 => ?_) (fun h78 => ?_)
  · skip
    refine r_go 4 rfl ?_ ?_
    · (simp only [ab_all, gr_218_20]; exact ix_of gt_229 (by omega) (by omega))
    rw [gr_218_19, gr_218_20, nI_cl (by omega)]
    first | rw [if_pos h78] at hP | rw [if_neg h78] at hP
    have K := ms_loop (i := ab_up (ab_up i 228 j b) 229 j (if b = nI 0 then nI 0 else n)) hj 25 0 (by decide) (by decide)
    first | rw [if_pos h78] at K | rw [if_neg h78] at K
    have e0 : ∀ {f : Vc}, clN 0 j f = f := fun {f} => funext (fun k => if_neg (by omega))
    rw [e0, row_id] at K
    refine r_lk (r_mono K ?_) rfl
    rintro v k ⟨rfl, rfl⟩
    refine rf_to hP (rf_sh hm h13 wS_ne (fun q a c d _ => (funext (fun _ => ab_row_ne d)).trans ((up_row c).trans (up_row a))) ?_ ?_ ?_)
    · rw [wS_8]
      refine (funext (fun _ => ab_row_ne (by decide))).trans ((up_row (by decide)).trans ?_)
      rw [ab_up_row, hm.2.2.2.2.1]
    · rw [wS_9]
      refine (funext (fun _ => ab_row_ne (by decide))).trans ?_
      rw [ab_up_row, up_row (by decide), hm.2.2.2.2.2.1]
    · rw [wS_0, row_s, up_row (by decide), up_row (by decide), hm.2.2.2.2.2.2.1]
  · skip
    refine r_go 5 rfl ?_ ?_
    · (simp only [ab_all, gr_218_20]; exact ix_of gt_229 (by omega) (by omega))
    rw [gr_218_19, gr_218_20, nI_cl (by omega)]
    first | rw [if_pos h78] at hP | rw [if_neg h78] at hP
    have K := ms_loop (i := ab_up (ab_up i 228 j b) 229 j (if b = nI 0 then nI 0 else n)) hj 25 0 (by decide) (by decide)
    first | rw [if_pos h78] at K | rw [if_neg h78] at K
    have e0 : ∀ {f : Vc}, clN 0 j f = f := fun {f} => funext (fun k => if_neg (by omega))
    rw [e0, row_id] at K
    refine r_lk (r_mono K ?_) rfl
    rintro v k ⟨rfl, rfl⟩
    refine rf_to hP (rf_sh hm h13 wS_ne (fun q a c d _ => (funext (fun _ => ab_row_ne d)).trans ((up_row c).trans (up_row a))) ?_ ?_ ?_)
    · rw [wS_8]
      refine (funext (fun _ => ab_row_ne (by decide))).trans ((up_row (by decide)).trans ?_)
      rw [ab_up_row, hm.2.2.2.2.1]
    · rw [wS_9]
      refine (funext (fun _ => ab_row_ne (by decide))).trans ?_
      rw [ab_up_row, up_row (by decide), hm.2.2.2.2.2.1]
    · rw [wS_0, row_s, up_row (by decide), up_row (by decide), hm.2.2.2.2.2.2.1]
theorem ms_mid {i m : ab_I} (hm : mo i m) (hJ : InM m) (h13 : i 218 13 = (-1)) {x b n : Int32} (hx : nI 0 ≤ x ∧ x ≤ nI 3) (hb : b = nI 0 ∨ b = nI 8 ∨ b = nI 16 ∨ b = nI 32) : ab_R 2 tb_X11_sheet 35 [some (.ref 218), some (.int x), some (.int b), some (.int n), none] [] i (rfQ i (S_sheet x b n m)) := by
  obtain ⟨j, hj, rfl⟩ := of_s hx
  refine r_go 1 rfl ?_ ?_
  · (first | exact trivial | assumption | (simp (disch := omega) [ab_all, ab_nz, *]; done))
  refine r_br rfl (fun h36 => ?_) (fun h36 => ?_)
  · skip
    refine r_go 1 rfl ?_ ?_
    · (first | exact trivial | assumption | (simp (disch := omega) [ab_all, ab_nz, *]; done))
    refine r_br rfl (fun h50 => ?_) (fun h50 => ?_)
    · skip
      exact ms_rest hm hJ h13 hj hb (fun z => by first | exact absurd h36 z.1 | exact h40 z.2) (fun z => by first | exact absurd h50 z.1 | exact h56 z.2)
    · skip
      refine r_go 2 rfl ?_ ?_
      · (first | exact trivial | assumption | (simp (disch := omega) [ab_all, ab_nz, *]; done))
      refine r_le rfl (fun h56 => ?_) (fun h56 => ?_)
      · skip
        exact ms_rest hm hJ h13 hj hb (fun z => by first | exact absurd h36 z.1 | exact h40 z.2) (fun z => by first | exact absurd h50 z.1 | exact h56 z.2)
      · skip
        refine r_go 2 rfl ?_ ?_
        · (first | exact trivial | assumption | (simp (disch := omega) [ab_all, ab_nz, *]; done))
        refine r_cv rfl rfl ((m_error 1 (by decide))) (by decide) ?_
        refine r_ret rfl trivial ?_
        exact rf_to ((if_pos ⟨hx, hb⟩).trans ((if_neg (fun z => by first | exact absurd h36 z.1 | exact h40 z.2)).trans (if_pos ⟨h50, h56⟩))) (rf_er hm h13)
  · skip
    refine r_go 1 rfl ?_ ?_
    · (first | exact trivial | assumption | (simp (disch := omega) [ab_all, ab_nz, *]; done))
    refine r_le rfl (fun h40 => ?_) (fun h40 => ?_)
    · skip
      refine r_go 1 rfl ?_ ?_
      · (first | exact trivial | assumption | (simp (disch := omega) [ab_all, ab_nz, *]; done))
      refine r_br rfl (fun h50 => ?_) (fun h50 => ?_)
      · skip
        exact ms_rest hm hJ h13 hj hb (fun z => by first | exact absurd h36 z.1 | exact h40 z.2) (fun z => by first | exact absurd h50 z.1 | exact h56 z.2)
      · skip
        refine r_go 2 rfl ?_ ?_
        · (first | exact trivial | assumption | (simp (disch := omega) [ab_all, ab_nz, *]; done))
        refine r_le rfl (fun h56 => ?_) (fun h56 => ?_)
        · skip
          exact ms_rest hm hJ h13 hj hb (fun z => by first | exact absurd h36 z.1 | exact h40 z.2) (fun z => by first | exact absurd h50 z.1 | exact h56 z.2)
        · skip
          refine r_go 2 rfl ?_ ?_
          · (first | exact trivial | assumption | (simp (disch := omega) [ab_all, ab_nz, *]; done))
          refine r_cv rfl rfl ((m_error 1 (by decide))) (by decide) ?_
          refine r_ret rfl trivial ?_
          exact rf_to ((if_pos ⟨hx, hb⟩).trans ((if_neg (fun z => by first | exact absurd h36 z.1 | exact h40 z.2)).trans (if_pos ⟨h50, h56⟩))) (rf_er hm h13)
    · skip
      refine r_go 2 rfl ?_ ?_
      · (first | exact trivial | assumption | (simp (disch := omega) [ab_all, ab_nz, *]; done))
      refine r_cv rfl rfl ((m_error 3 (by decide))) (by decide) ?_
      refine r_ret rfl trivial ?_
      exact rf_to ((if_pos ⟨hx, hb⟩).trans (if_pos ⟨h36, h40⟩)) (rf_er hm h13)
theorem m_sheet {i m : ab_I} (hm : mo i m) (hJ : InM m) (h13 : i 218 13 = (-1)) (x b n : Int32) : ab_K 2 235 [.ref 218, .int x, .int b, .int n] i (rfQ i (S_sheet x b n m)) := by
  refine k_of rfl ?_
  refine r_go 1 rfl ?_ ?_
  · (first | exact trivial | assumption | (simp (disch := omega) [ab_all, ab_nz, *]; done))
  refine r_cv rfl trivial ((m_isS x)) (by decide) ?_
  refine r_bE rfl (fun h4 => ?_) (fun h4 => ?_)
  · skip
    refine r_go 2 rfl ?_ ?_
    · (first | exact trivial | assumption | (simp (disch := omega) [ab_all, ab_nz, *]; done))
    refine r_cv rfl rfl ((m_error 1 (by decide))) (by decide) ?_
    refine r_ret rfl trivial ?_
    exact rf_to (if_neg (by first | exact fun z => h4 z.1 | (intro z; rcases z.2 with q | q | q | q; exact h8 q; exact h14 q; exact h20 q; exact h26 q))) (rf_er hm h13)
  · skip
    refine r_go 1 rfl ?_ ?_
    · (first | exact trivial | assumption | (simp (disch := omega) [ab_all, ab_nz, *]; done))
    refine r_br rfl (fun h8 => ?_) (fun h8 => ?_)
    · skip
      first | exact ms_mid hm hJ h13 h4 (Or.inl h8) | exact ms_mid hm hJ h13 h4 (Or.inr (Or.inl h14)) | exact ms_mid hm hJ h13 h4 (Or.inr (Or.inr (Or.inl h20))) | exact ms_mid hm hJ h13 h4 (Or.inr (Or.inr (Or.inr h26)))
    · skip
      refine r_go 2 rfl ?_ ?_
      · (first | exact trivial | assumption | (simp (disch := omega) [ab_all, ab_nz, *]; done))
      refine r_br rfl (fun h14 => ?_) (fun h14 => ?_)
      · skip
        first | exact ms_mid hm hJ h13 h4 (Or.inl h8) | exact ms_mid hm hJ h13 h4 (Or.inr (Or.inl h14)) | exact ms_mid hm hJ h13 h4 (Or.inr (Or.inr (Or.inl h20))) | exact ms_mid hm hJ h13 h4 (Or.inr (Or.inr (Or.inr h26)))
      · skip
        refine r_go 2 rfl ?_ ?_
        · (first | exact trivial | assumption | (simp (disch := omega) [ab_all, ab_nz, *]; done))
        refine r_br rfl (fun h20 => ?_) (fun h20 => ?_)
        · skip
          first | exact ms_mid hm hJ h13 h4 (Or.inl h8) | exact ms_mid hm hJ h13 h4 (Or.inr (Or.inl h14)) | exact ms_mid hm hJ h13 h4 (Or.inr (Or.inr (Or.inl h20))) | exact ms_mid hm hJ h13 h4 (Or.inr (Or.inr (Or.inr h26)))
        · skip
          refine r_go 2 rfl ?_ ?_
          · (first | exact trivial | assumption | (simp (disch := omega) [ab_all, ab_nz, *]; done))
          refine r_br rfl (fun h26 => ?_) (fun h26 => ?_)
          · skip
            first | exact ms_mid hm hJ h13 h4 (Or.inl h8) | exact ms_mid hm hJ h13 h4 (Or.inr (Or.inl h14)) | exact ms_mid hm hJ h13 h4 (Or.inr (Or.inr (Or.inl h20))) | exact ms_mid hm hJ h13 h4 (Or.inr (Or.inr (Or.inr h26)))
          · skip
            refine r_go 2 rfl ?_ ?_
            · (first | exact trivial | assumption | (simp (disch := omega) [ab_all, ab_nz, *]; done))
            refine r_cv rfl rfl ((m_error 1 (by decide))) (by decide) ?_
            refine r_ret rfl trivial ?_
            exact rf_to (if_neg (by first | exact fun z => h4 z.1 | (intro z; rcases z.2 with q | q | q | q; exact h8 q; exact h14 q; exact h20 q; exact h26 q))) (rf_er hm h13)
theorem InM_sh {m m' : ab_I} (hJ : InM m) (hm : ∀ q, q ≠ 228 → q ≠ 229 → q ≠ 230 → m' q = m q) (h : ∀ j, j < 4 → (m' 228 j = nI 0 ∨ m' 228 j = nI 8 ∨ m' 228 j = nI 16 ∨ m' 228 j = nI 32) ∧ ∃ n, n ≤ 24 ∧ m' 229 j = nI n) : InM m' := by
  unfold InM
  rw [hm 219 (by decide) (by decide) (by decide), hm 220 (by decide) (by decide) (by decide), hm 218 (by decide) (by decide) (by decide)]
  exact ⟨hJ.1, hJ.2.1, h, hJ.2.2.2⟩
theorem n_sheet {m : ab_I} (hJ : InM m) (x b n : Int32) : InM (S_sheet x b n m).2 := by
  unfold S_sheet
  split
  · rename_i h
    split
    · exact InM_er hJ
    · rename_i h1
      split
      · exact InM_er hJ
      · rename_i h2
        obtain ⟨⟨hx, hb⟩⟩ : _ ∧ True := ⟨h, trivial⟩
        obtain ⟨j, hj, rfl⟩ := of_s hx
        rw [nI_cl (by omega)]
        refine InM_sh hJ wS_ne (fun a ha => ?_)
        dsimp only
        rw [wS_8, wS_9]
        by_cases e : a = j
        · subst e
          rw [pk_us, pk_us]
          refine ⟨hb, ?_⟩
          by_cases h0 : b = nI 0
          · rw [if_pos h0]
            exact ⟨0, by decide, rfl⟩
          · rw [if_neg h0]
            have q1 : ¬ n < nI 0 := fun z => h1 ⟨h0, z⟩
            have q2 : ¬ nI 24 < n := fun z => h2 ⟨h0, z⟩
            have q3 : 0 ≤ n.toInt ∧ n.toInt ≤ 24 := by clear hJ h hb h1 h2 h0 hx; (simp (disch := omega) only [Int32.le_iff_toInt_le, Int32.lt_iff_toInt_lt, c_i, m1_i, m5_i, m33_i] at * <;> omega)
            exact ⟨n.toNatClampNeg, by rw [tn_i]; omega, tn_of q3.1⟩
        · rw [pk_un e, pk_un e]
          exact hJ.2.2.1 a ha
  · exact InM_er hJ
/-! put -/
def cv (b v : Int32) : Int32 := if b = nI 8 then v.toInt8.toInt32 else if b = nI 16 then v.toInt16.toInt32 else v
theorem sx8 (v : Int32) : (v <<< (nI 24 &&& 31)) >>> (nI 24 &&& 31) = v.toInt8.toInt32 := by
  have h1 := pk_shl v (nI 24 &&& 31) 24 (by decide)
  have h2 := pk_shr (v <<< (nI 24 &&& 31)) (nI 24 &&& 31) 24 (by decide)
  have hb : v.toBitVec.toNat < 4294967296 := v.toBitVec.isLt
  have ev : v.toInt = if 2 * v.toBitVec.toNat < 4294967296 then (v.toBitVec.toNat : Int) else (v.toBitVec.toNat : Int) - 4294967296 := BitVec.toInt_eq_toNat_cond v.toBitVec
  have e1 : (v <<< (nI 24 &&& 31)).toBitVec.toNat = v.toBitVec.toNat % 256 * 16777216 := by rw [h1]; exact Nat.mul_mod_mul_right 16777216 v.toBitVec.toNat 256
  have e2 : (v <<< (nI 24 &&& 31)).toInt = if 2 * (v <<< (nI 24 &&& 31)).toBitVec.toNat < 4294967296 then ((v <<< (nI 24 &&& 31)).toBitVec.toNat : Int) else ((v <<< (nI 24 &&& 31)).toBitVec.toNat : Int) - 4294967296 := BitVec.toInt_eq_toNat_cond _
  have e3 : v.toInt % 256 = (v.toBitVec.toNat % 256 : Nat) := by
    rw [ev]
    split <;> omega
  have p1 : ((2 ^ 24 : Nat) : Int) = 16777216 := by decide
  have p2 : ((2 ^ 8 : Nat) : Int) = 256 := by decide
  rw [e1] at e2
  rw [eq_i, h2, Int.shiftRight_eq_div_pow, Int8.toInt_toInt32, Int32.toInt_toInt8, Int.bmod_def, p1, p2, e3, e2]
  have hr : v.toBitVec.toNat % 256 < 256 := Nat.mod_lt _ (by decide)
  generalize v.toBitVec.toNat % 256 = r at hr
  clear h1 h2 e1 e2 e3 ev hb p1 p2
  split <;> split <;> omega
theorem sx16 (v : Int32) : (v <<< (nI 16 &&& 31)) >>> (nI 16 &&& 31) = v.toInt16.toInt32 := by
  have h1 := pk_shl v (nI 16 &&& 31) 16 (by decide)
  have h2 := pk_shr (v <<< (nI 16 &&& 31)) (nI 16 &&& 31) 16 (by decide)
  have hb : v.toBitVec.toNat < 4294967296 := v.toBitVec.isLt
  have ev : v.toInt = if 2 * v.toBitVec.toNat < 4294967296 then (v.toBitVec.toNat : Int) else (v.toBitVec.toNat : Int) - 4294967296 := BitVec.toInt_eq_toNat_cond v.toBitVec
  have e1 : (v <<< (nI 16 &&& 31)).toBitVec.toNat = v.toBitVec.toNat % 65536 * 65536 := by rw [h1]; exact Nat.mul_mod_mul_right 65536 v.toBitVec.toNat 65536
  have e2 : (v <<< (nI 16 &&& 31)).toInt = if 2 * (v <<< (nI 16 &&& 31)).toBitVec.toNat < 4294967296 then ((v <<< (nI 16 &&& 31)).toBitVec.toNat : Int) else ((v <<< (nI 16 &&& 31)).toBitVec.toNat : Int) - 4294967296 := BitVec.toInt_eq_toNat_cond _
  have e3 : v.toInt % 65536 = (v.toBitVec.toNat % 65536 : Nat) := by
    rw [ev]
    split <;> omega
  have p1 : ((2 ^ 16 : Nat) : Int) = 65536 := by decide
  have p2 : ((2 ^ 16 : Nat) : Int) = 65536 := by decide
  rw [e1] at e2
  rw [eq_i, h2, Int.shiftRight_eq_div_pow, Int16.toInt_toInt32, Int32.toInt_toInt16, Int.bmod_def, p1, e3, e2]
  have hr : v.toBitVec.toNat % 65536 < 65536 := Nat.mod_lt _ (by decide)
  generalize v.toBitVec.toNat % 65536 = r at hr
  clear h1 h2 e1 e2 e3 ev hb p1 p2
  split <;> split <;> omega
theorem sx0 (v : Int32) : (v <<< (nI 0 &&& 31)) >>> (nI 0 &&& 31) = v := by
  have e : nI 0 &&& 31 = 0 := by decide
  rw [e, Int32.shiftLeft_zero, Int32.shiftRight_zero]
theorem shl_shr (v : Int32) (c : Nat) (hc : c = 24 ∨ c = 16 ∨ c = 0) : (v <<< (nI c &&& 31)) >>> (nI c &&& 31) = cv (nI (32 - c)) v := by
  rcases hc with rfl | rfl | rfl
  · exact (sx8 v).trans (if_pos rfl).symm
  · exact (sx16 v).trans ((if_neg (by decide)).trans (if_pos rfl)).symm
  · exact (sx0 v).trans ((if_neg (by decide)).trans (if_neg (by decide))).symm
def S_put (x a v : Int32) (m : ab_I) : Int32 × ab_I := if nI 0 ≤ x ∧ x ≤ nI 3 then (if m 228 x.toNatClampNeg = nI 0 then er m 2 else if 0 ≤ a.toInt ∧ a.toInt < (m 229 x.toNatClampNeg).toNatClampNeg then (nI 1, ab_row m 230 (upd (m 230) (24 * x.toNatClampNeg + a.toNatClampNeg) (cv (m 228 x.toNatClampNeg) v))) else er m 1) else er m 1
theorem k_shW {j n : Nat} {i : ab_I} (c : Nat) (v : Int32) (hj : j < 4) (hn : i (205 + 3 * j) 1 = nI n) (hN : n ≤ 24) (hc : c < n) : ab_K 2 78 [.ref (204 + 3 * j), .int (nI c), .int v] i (ab_N (ab_up i (206 + 3 * j) c (cv (i (204 + 3 * j) 0) v))) := by
  obtain ⟨g1, g2⟩ := tg_sh j hj
  have g3 := gr_sh hj
  refine k_of rfl ?_
  refine r_go 6 rfl ?_ ?_
  · (simp only [ab_all, g1, g3]; simp)
  refine r_ne rfl (fun h11 => ?_) (fun h11 => ?_)
  · skip
    refine r_go 3 rfl ?_ ?_
    · exact g1
    refine r_ne rfl (fun h25 => ?_) (fun h25 => ?_)
    · skip
      refine r_go 1 rfl ?_ ?_
      · (first | exact trivial | assumption | (simp (disch := omega) [ab_all, ab_nz, *]; done))
      rw [g3]
      refine r_cn rfl g2.1 ((k_write _ _ g2 hn hN)) (by decide) ?_
      refine r_ret rfl trivial ?_
      rw [if_pos (by rw [c_i (by omega)]; omega), nI_cl (by omega), show 205 + 3 * j + 1 = 206 + 3 * j by omega]
      refine ⟨rfl, ?_⟩
      unfold cv
      first | rw [if_pos h11] | rw [if_neg h11, if_pos h25] | rw [if_neg h11, if_neg h25]
    · skip
      refine r_go 3 rfl ?_ ?_
      · (first | exact trivial | assumption | (simp (disch := omega) [ab_all, ab_nz, *]; done))
      rw [g3]
      refine r_cn rfl g2.1 ((k_write _ _ g2 hn hN)) (by decide) ?_
      refine r_ret rfl trivial ?_
      rw [if_pos (by rw [c_i (by omega)]; omega), nI_cl (by omega), show 205 + 3 * j + 1 = 206 + 3 * j by omega]
      refine ⟨rfl, ?_⟩
      unfold cv
      first | rw [if_pos h11] | rw [if_neg h11, if_pos h25] | rw [if_neg h11, if_neg h25]
  · skip
    refine r_go 3 rfl ?_ ?_
    · (first | exact trivial | assumption | (simp (disch := omega) [ab_all, ab_nz, *]; done))
    rw [g3]
    refine r_cn rfl g2.1 ((k_write _ _ g2 hn hN)) (by decide) ?_
    refine r_ret rfl trivial ?_
    rw [if_pos (by rw [c_i (by omega)]; omega), nI_cl (by omega), show 205 + 3 * j + 1 = 206 + 3 * j by omega]
    refine ⟨rfl, ?_⟩
    unfold cv
    first | rw [if_pos h11] | rw [if_neg h11, if_pos h25] | rw [if_neg h11, if_neg h25]
theorem sh_put {j n c : Nat} {w : Int32} {i m : ab_I} (hj : j < 4) (en : m 229 j = nI n) (hn : n ≤ 24) (hc : c < n) (hJ : InM m) (h : ShR i m) : ShR (ab_up i (206 + 3 * j) c w) (ab_row m 230 (upd (m 230) (24 * j + c) w)) := by
  intro a ha
  have eM : ∀ q : Nat, q ≠ 230 → ab_row m 230 (upd (m 230) (24 * j + c) w) q = m q := fun q hq => funext (fun b => ab_row_ne hq)
  rw [eM 228 (by decide), eM 229 (by decide), row_s]
  obtain ⟨h1, h2⟩ := h a ha
  obtain ⟨_, n', hn', en'⟩ := hJ.2.2.1 a ha
  refine ⟨by rw [up_ne (by omega)]; exact h1, by rw [up_ne (by omega)]; exact h2.1, fun k hk => ?_⟩
  show _ = upd (m 230) (24 * j + c) w (24 * a + k)
  have hk' := hk
  rw [en', nI_cl (by omega)] at hk'
  by_cases e : a = j ∧ k = c
  · obtain ⟨rfl, rfl⟩ := e
    rw [show 205 + 3 * a + 1 = 206 + 3 * a by omega, up_us, pk_us]
  · rw [up_ne (by omega), pk_un (by omega)]
    exact h2.2 k hk
theorem c_put {i m : ab_I} (hC : ClsR i m) (hJ : InM m) (x a v : Int32) : ab_K 3 136 [.ref 0, .int x, .int a, .int v] i (clQ i (S_put x a v m)) := by
  (have hI := hJ.1.1; have hX := InS_X hJ.1; have hT := hC.1.1; have hLw : LwsR (m 219) i := ⟨hC.1.2.1, hC.1.2.2.1⟩; have hE := hC.2.2.2.2.1.1)
  have hSh := hC.2.2.2.1
  refine k_of rfl ?_
  refine r_go 2 rfl ?_ ?_
  · (first | exact trivial | assumption | (simp (disch := omega) [ab_all, ab_nz, *]; done))
  refine r_cv rfl (by first | rfl | exact g1 | exact g2.1) ((k_hasSh x)) (by decide) ?_
  refine r_bN rfl (fun h5 => ?_) (fun h5 => ?_)
  · skip
    refine r_go 2 rfl ?_ ?_
    · (first | exact trivial | assumption | (simp (disch := omega) [ab_all, ab_nz, *]; done))
    have hP : S_put x a v m = (if m 228 x.toNatClampNeg = nI 0 then er m 2 else if 0 ≤ a.toInt ∧ a.toInt < (m 229 x.toNatClampNeg).toNatClampNeg then (nI 1, ab_row m 230 (upd (m 230) (24 * x.toNatClampNeg + a.toNatClampNeg) (cv (m 228 x.toNatClampNeg) v))) else er m 1) := if_pos h5
    obtain ⟨j, hj, rfl⟩ := of_s h5
    rw [nI_cl (by omega)] at hP
    obtain ⟨g1, g2⟩ := tg_sh j hj
    have g3 := gr_sh hj
    obtain ⟨q1, q2⟩ := hSh j hj
    obtain ⟨_, n, hn, en⟩ := hJ.2.2.1 j hj
    rw [en, nI_cl (by omega)] at hP
    rw [en, nI_cl (by omega)] at q2
    refine r_cv rfl (by first | rfl | exact g1 | exact g2.1) ((k_shAt j hj)) (by decide) ?_
    refine r_go 2 rfl ?_ ?_
    · (first | exact trivial | assumption | (simp (disch := omega) [ab_all, ab_nz, *]; done))
    refine r_cv rfl (by first | rfl | exact g1 | exact g2.1) ((k_miss hj)) (by decide) ?_
    refine r_bE rfl (fun h26 => ?_) (fun h26 => ?_)
    · skip
      refine r_go 3 rfl ?_ ?_
      · (simp only [ab_all, g1, g3]; simp)
      rw [g3]
      rw [q1] at h26
      refine r_cv rfl (by first | rfl | exact g1 | exact g2.1) ((k_has a g2 q2.1 hn)) (by decide) ?_
      refine r_bN rfl (fun h44 => ?_) (fun h44 => ?_)
      · skip
        refine r_go 3 rfl ?_ ?_
        · (first | exact trivial | assumption | (simp (disch := omega) [ab_all, ab_nz, *]; done))
        obtain ⟨c, hc, rfl⟩ := of_rg h44
        refine r_cn rfl (by first | rfl | exact g1 | exact g2.1) ((k_shW c v hj q2.1 hn hc)) (by decide) ?_
        refine r_go 1 rfl ?_ ?_
        · (first | exact trivial | assumption | (simp (disch := omega) [ab_all, ab_nz, *]; done))
        refine r_ret rfl trivial ?_
        rw [nI_cl (by omega)] at hP
        rw [q1]
        exact cl_to (hP.trans ((if_neg h26).trans (if_pos h44))) (cl_sh hJ hC (fun q _ _ d => funext (fun _ => ab_row_ne d)) (fun q hq => up_row (by omega)) (sh_put hj en hn hc hJ hSh))
      · skip
        refine r_go 2 rfl ?_ ?_
        · (first | exact trivial | assumption | (simp (disch := omega) [ab_all, ab_nz, *]; done))
        refine r_cv rfl (by first | rfl | exact g1 | exact g2.1) ((k_error 1 (by decide) (by decide) hE)) (by decide) ?_
        refine r_ret rfl trivial ?_
        exact cl_to (hP.trans ((if_neg h26).trans (if_neg h44))) (cl_er (by decide) (by decide) hJ hC)
    · skip
      rw [q1] at h26
      refine r_go 2 rfl ?_ ?_
      · (first | exact trivial | assumption | (simp (disch := omega) [ab_all, ab_nz, *]; done))
      refine r_cv rfl (by first | rfl | exact g1 | exact g2.1) ((k_error 2 (by decide) (by decide) hE)) (by decide) ?_
      refine r_ret rfl trivial ?_
      exact cl_to (hP.trans (if_pos h26)) (cl_er (by decide) (by decide) hJ hC)
  · skip
    refine r_go 2 rfl ?_ ?_
    · (first | exact trivial | assumption | (simp (disch := omega) [ab_all, ab_nz, *]; done))
    refine r_cv rfl (by first | rfl | exact g1 | exact g2.1) ((k_error 1 (by decide) (by decide) hE)) (by decide) ?_
    refine r_ret rfl trivial ?_
    exact cl_to (if_neg h5) (cl_er (by decide) (by decide) hJ hC)
theorem m_put {i m : ab_I} (hm : mo i m) (hJ : InM m) (h13 : i 218 13 = (-1)) (x a v : Int32) : ab_K 2 236 [.ref 218, .int x, .int a, .int v] i (rfQ i (S_put x a v m)) := by
  refine k_of rfl ?_
  refine r_go 1 rfl ?_ ?_
  · (first | exact trivial | assumption | (simp (disch := omega) [ab_all, ab_nz, *]; done))
  refine r_cv rfl trivial ((m_isS x)) (by decide) ?_
  refine r_bN rfl (fun h4 => ?_) (fun h4 => ?_)
  · skip
    have hP : S_put x a v m = (if m 228 x.toNatClampNeg = nI 0 then er m 2 else if 0 ≤ a.toInt ∧ a.toInt < (m 229 x.toNatClampNeg).toNatClampNeg then (nI 1, ab_row m 230 (upd (m 230) (24 * x.toNatClampNeg + a.toNatClampNeg) (cv (m 228 x.toNatClampNeg) v))) else er m 1) := if_pos h4
    obtain ⟨j, hj, rfl⟩ := of_s h4
    rw [nI_cl (by omega)] at hP
    obtain ⟨hb, n, hn, en⟩ := hJ.2.2.1 j hj
    rw [en, nI_cl (by omega)] at hP
    have e8 := hm.2.2.2.2.1
    have e9 := hm.2.2.2.2.2.1
    have e0 := hm.2.2.2.2.2.2.1
    refine r_go 4 rfl ?_ ?_
    · (simp only [ab_all, gr_218_19]; exact ⟨ix_of gt_228 (by omega) (by omega), rfl, by decide⟩)
    rw [gr_218_19, nI_cl (by omega), e8]
    refine r_ne rfl (fun h19 => ?_) (fun h19 => ?_)
    · skip
      refine r_go 8 rfl ?_ ?_
      · (simp only [ab_all, gr_218_20]; exact ⟨ix_of gt_229 (by omega) (by omega), rfl, by decide⟩)
      rw [gr_218_20, nI_cl (by omega), e9, en]
      refine r_cv rfl trivial ((m_inN a (show n ≤ 1000 by omega))) (by decide) ?_
      refine r_bN rfl (fun h41 => ?_) (fun h41 => ?_)
      · skip
        obtain ⟨c, hc, rfl⟩ := of_rg h41
        rw [nI_cl (by omega)] at hP
        refine r_go 21 rfl ?_ ?_
        · (simp only [ab_all, gr_218_19, gr_218_21, pk_mul, nI_add]; exact ⟨ix_of gt_230 (by omega) (by omega), ⟨rfl, by decide⟩, ix_of gt_228 (by omega) (by omega), rfl, by decide⟩)
        refine r_ret rfl trivial ?_
        simp (disch := omega) only [gr_218_19, gr_218_21, pk_mul, nI_add, nI_cl, e8]
        have ec : (v <<< ((nI 32 - m 228 j) &&& 31)) >>> ((nI 32 - m 228 j) &&& 31) = cv (m 228 j) v := by
            rcases hb with z | z | z | z
            · exact absurd z h19
            · rw [z, pk_sub (by decide)]; exact shl_shr v 24 (by decide)
            · rw [z, pk_sub (by decide)]; exact shl_shr v 16 (by decide)
            · rw [z, pk_sub (by decide)]; exact shl_shr v 0 (by decide)
        rw [ec]
        refine rf_to (hP.trans ((if_neg h19).trans (if_pos h41))) (rf_sh hm h13 (fun q _ _ d => funext (fun _ => ab_row_ne d)) (fun q _ _ d _ => up_row d) ?_ ?_ ?_)
        · rw [up_row (by decide), show ab_row m 230 (upd (m 230) (24 * j + c) (cv (m 228 j) v)) 228 = m 228 from funext (fun _ => ab_row_ne (by decide))]; exact e8
        · rw [up_row (by decide), show ab_row m 230 (upd (m 230) (24 * j + c) (cv (m 228 j) v)) 229 = m 229 from funext (fun _ => ab_row_ne (by decide))]; exact e9
        · rw [row_s, ab_up_row, e0]
      · skip
        refine r_go 2 rfl ?_ ?_
        · (first | exact trivial | assumption | (simp (disch := omega) [ab_all, ab_nz, *]; done))
        refine r_cv rfl rfl ((m_error 1 (by decide))) (by decide) ?_
        refine r_ret rfl trivial ?_
        exact rf_to (hP.trans ((if_neg h19).trans (if_neg h41))) (rf_er hm h13)
    · skip
      refine r_go 2 rfl ?_ ?_
      · (first | exact trivial | assumption | (simp (disch := omega) [ab_all, ab_nz, *]; done))
      refine r_cv rfl rfl ((m_error 2 (by decide))) (by decide) ?_
      refine r_ret rfl trivial ?_
      exact rf_to (hP.trans (if_pos h19)) (rf_er hm h13)
  · skip
    refine r_go 2 rfl ?_ ?_
    · (first | exact trivial | assumption | (simp (disch := omega) [ab_all, ab_nz, *]; done))
    refine r_cv rfl rfl ((m_error 1 (by decide))) (by decide) ?_
    refine r_ret rfl trivial ?_
    exact rf_to (if_neg h4) (rf_er hm h13)
theorem n_put {m : ab_I} (hJ : InM m) (x a v : Int32) : InM (S_put x a v m).2 := by
  unfold S_put
  split
  · split
    · exact InM_er hJ
    · split
      · refine InM_sh hJ (fun q _ _ d => funext (fun _ => ab_row_ne d)) (fun j hj => ?_)
        dsimp only
        rw [ab_row_ne (by decide), ab_row_ne (by decide)]
        exact hJ.2.2.1 j hj
      · exact InM_er hJ
  · exact InM_er hJ
