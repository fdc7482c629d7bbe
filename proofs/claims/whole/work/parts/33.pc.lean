/-! a basin more, a door more -/
def newB (s : Vc) (n : Nat) (x : Int32) : Vc :=
  upd (upd (upd (upd (upd (upd (upd (upd s (8 + 7 * n + 0) (nI 10 * x)) (8 + 7 * n + 1) x) (8 + 7 * n + 2) (nI 20)) (8 + 7 * n + 3) (nI 2)) (8 + 7 * n + 4) (nI 100)) (8 + 7 * n + 5) (nI 0)) (8 + 7 * n + 6) (nI 50)) 0 (nI (n + 1))
def newD (s : Vc) (n : Nat) (k a b l : Int32) : Vc :=
  upd (upd (upd (upd (upd (upd (upd (upd (upd s (50 + 8 * n + 0) k) (50 + 8 * n + 1) a) (50 + 8 * n + 2) b) (50 + 8 * n + 3) l) (50 + 8 * n + 4) (nI 2)) (50 + 8 * n + 5) (nI 0)) (50 + 8 * n + 6) (nI 0)) (50 + 8 * n + 7) (nI 0)) 1 (nI (n + 1))
theorem newB_N {s : Vc} {n : Nat} {x : Int32} (h : n < 6) : nB (newB s n x) = n + 1 := by
  unfold nB newB
  rw [pk_us, nI_cl (by omega)]
theorem newB_o {s : Vc} {n k : Nat} {x : Int32} (h : k < 8 + 7 * n ∨ 8 + 7 * n + 7 ≤ k) (h0 : k ≠ 0) : newB s n x k = s k := by
  unfold newB
  simp (disch := omega) only [pk_un]
theorem newD_N {s : Vc} {n : Nat} {k a b l : Int32} (h : n < 12) : nD (newD s n k a b l) = n + 1 := by
  unfold nD newD
  rw [pk_us, nI_cl (by omega)]
theorem newD_o {s : Vc} {n j : Nat} {k a b l : Int32} (h : j < 50 + 8 * n ∨ 50 + 8 * n + 8 ≤ j) (h0 : j ≠ 1) : newD s n k a b l j = s j := by
  unfold newD
  simp (disch := omega) only [pk_un]
theorem newB_b {s : Vc} {n w : Nat} {x : Int32} (hw : w < 7) : bs (newB s n x) n w = if w = 0 then nI 10 * x else if w = 1 then x else if w = 2 then nI 20 else if w = 3 then nI 2 else if w = 4 then nI 100 else if w = 5 then nI 0 else nI 50 := by
  have hj : w = 0 ∨ w = 1 ∨ w = 2 ∨ w = 3 ∨ w = 4 ∨ w = 5 ∨ w = 6 := by omega
  unfold newB
  rcases hj with rfl | rfl | rfl | rfl | rfl | rfl | rfl <;> simp (disch := omega) only [bs_us, bs_up] <;> rfl
theorem newD_d {s : Vc} {n w : Nat} {k a b l : Int32} (hw : w < 8) : dr (newD s n k a b l) n w = if w = 0 then k else if w = 1 then a else if w = 2 then b else if w = 3 then l else if w = 4 then nI 2 else nI 0 := by
  have hj : w = 0 ∨ w = 1 ∨ w = 2 ∨ w = 3 ∨ w = 4 ∨ w = 5 ∨ w = 6 ∨ w = 7 := by omega
  unfold newD
  rcases hj with rfl | rfl | rfl | rfl | rfl | rfl | rfl | rfl <;> simp (disch := omega) only [dr_us, dr_up] <;> rfl
theorem TwR_newB {t n : Nat} {x : Int32} {s : Vc} {i : ab_I} (h : TwR t s i) (hn : nB s = n) (h6 : n < 6) (h12 : nD s ≤ 12) : TwR t (newB s n x) (ab_up (bbegF (t + 2 + n) x i) t 2 (nI (n + 1))) := by
  have e1 : ∀ q k, q ≠ t + 2 + n → ¬ (q = t ∧ k = 2) → ab_up (bbegF (t + 2 + n) x i) t 2 (nI (n + 1)) q k = i q k := by
    intro q k h1 h2
    unfold bbegF
    rw [up_ne h2, up_ne (by omega), up_ne (by omega), up_ne (by omega), up_ne (by omega), up_ne (by omega), up_ne (by omega), up_ne (by omega)]
  have eD : nD (newB s n x) = nD s := by unfold nD; rw [newB_o (by omega) (by omega)]
  obtain ⟨⟨h1, h2, h3, h4, h5, h7⟩, hB, hD⟩ := h
  unfold TwR
  rw [newB_N h6, eD]
  refine ⟨⟨?_, ?_, ?_, ?_, ?_, ?_⟩, fun b hb w hw => ?_, fun d hd k hk => ?_⟩
  · rw [up_us]
    unfold newB
    rw [pk_us]
  · rw [e1 _ _ (by omega) (by omega), newB_o (by omega) (by omega)]
    exact h2
  · rw [e1 _ _ (by omega) (by omega), newB_o (by omega) (by omega)]
    exact h3
  · rw [e1 _ _ (by omega) (by omega), newB_o (by omega) (by omega)]
    exact h4
  · rw [e1 _ _ (by omega) (by omega), newB_o (by omega) (by omega)]
    exact h5
  · rw [e1 _ _ (by omega) (by omega), newB_o (by omega) (by omega)]
    exact h7
  · by_cases e : b = n
    · subst e
      rw [newB_b hw, up_ne (by omega)]
      have hj : w = 0 ∨ w = 1 ∨ w = 2 ∨ w = 3 ∨ w = 4 ∨ w = 5 ∨ w = 6 := by omega
      rcases hj with rfl | rfl | rfl | rfl | rfl | rfl | rfl <;> simp [fB, bbegF, ab_up]
    · rw [e1 _ _ (by omega) (by omega)]
      unfold bs
      rw [newB_o (by omega) (by omega)]
      exact hB b (by omega) w hw
  · rw [e1 _ _ (by omega) (by omega)]
    unfold dr
    rw [newB_o (by omega) (by omega)]
    exact hD d hd k hk
theorem TwR_newD {t n : Nat} {k a b l : Int32} {s : Vc} {i : ab_I} (h : TwR t s i) (hn : nD s = n) (h6 : nB s ≤ 6) (h12 : n < 12) : TwR t (newD s n k a b l) (ab_up (dbegF (t + 9 + n) k a b l i) t 3 (nI (n + 1))) := by
  have e1 : ∀ q j, q ≠ t + 9 + n → ¬ (q = t ∧ j = 3) → ab_up (dbegF (t + 9 + n) k a b l i) t 3 (nI (n + 1)) q j = i q j := by
    intro q j h1 h2
    unfold dbegF
    rw [up_ne h2, up_ne (by omega), up_ne (by omega), up_ne (by omega), up_ne (by omega), up_ne (by omega), up_ne (by omega), up_ne (by omega), up_ne (by omega)]
  have eB : nB (newD s n k a b l) = nB s := by unfold nB; rw [newD_o (by omega) (by omega)]
  obtain ⟨⟨h1, h2, h3, h4, h5, h7⟩, hB, hD⟩ := h
  unfold TwR
  rw [newD_N h12, eB]
  refine ⟨⟨?_, ?_, ?_, ?_, ?_, ?_⟩, fun b hb w hw => ?_, fun d hd j hk => ?_⟩
  · rw [e1 _ _ (by omega) (by omega), newD_o (by omega) (by omega)]
    exact h1
  · rw [up_us]
    unfold newD
    rw [pk_us]
  · rw [e1 _ _ (by omega) (by omega), newD_o (by omega) (by omega)]
    exact h3
  · rw [e1 _ _ (by omega) (by omega), newD_o (by omega) (by omega)]
    exact h4
  · rw [e1 _ _ (by omega) (by omega), newD_o (by omega) (by omega)]
    exact h5
  · rw [e1 _ _ (by omega) (by omega), newD_o (by omega) (by omega)]
    exact h7
  · rw [e1 _ _ (by omega) (by omega)]
    unfold bs
    rw [newD_o (by omega) (by omega)]
    exact hB b hb w hw
  · by_cases e : d = n
    · subst e
      rw [newD_d hk, up_ne (by omega)]
      have hj : j = 0 ∨ j = 1 ∨ j = 2 ∨ j = 3 ∨ j = 4 ∨ j = 5 ∨ j = 6 ∨ j = 7 := by omega
      rcases hj with rfl | rfl | rfl | rfl | rfl | rfl | rfl | rfl <;> simp [dbegF, ab_up]
    · rw [e1 _ _ (by omega) (by omega)]
      unfold dr
      rw [newD_o (by omega) (by omega)]
      exact hD d (by omega) j hk
theorem rt_newB {s : Vc} {n : Nat} {x : Int32} (h6 : n < 6) : rt s (newB s n x) := fun k hk => newB_o (by omega) (by omega)
theorem rt_newD {s : Vc} {n : Nat} {k a b l : Int32} (h6 : n < 12) : rt s (newD s n k a b l) := fun k hk => newD_o (by omega) (by omega)
theorem InT_newB {s : Vc} {n : Nat} {x : Int32} (h : InT s) (hn : nB s = n) (h6 : n < 6) (hx : rg x 1 20) : InT (newB s n x) := by
  obtain ⟨⟨h0, hb6⟩, ⟨h1, h12⟩, h3, h4, hB, hD⟩ := h
  have eD : nD (newB s n x) = nD s := by unfold nD; rw [newB_o (by omega) (by omega)]
  unfold InT
  rw [newB_N h6, eD, newB_o (k := 1) (by omega) (by omega), newB_o (k := 3) (by omega) (by omega), newB_o (k := 4) (by omega) (by omega)]
  refine ⟨⟨?_, by omega⟩, ⟨h1, h12⟩, h3, h4, fun b hb w hw => ?_, fun d hd => ⟨?_, fun k hk hk2 => ?_⟩⟩
  · unfold newB
    rw [pk_us]
  · by_cases e : b = n
    · subst e
      rw [newB_b hw]
      unfold rg at hx
      have hj : w = 0 ∨ w = 1 ∨ w = 2 ∨ w = 3 ∨ w = 4 ∨ w = 5 ∨ w = 6 := by omega
      rcases hj with rfl | rfl | rfl | rfl | rfl | rfl | rfl
      · show 0 ≤ (nI 10 * x).toInt ∧ (nI 10 * x).toInt ≤ 99999
        rw [mu_i (by rw [c_i (by decide)]; omega) (by rw [c_i (by decide)]; omega), c_i (by decide)]
        omega
      · exact hx
      · show 0 ≤ (nI 20).toInt ∧ (nI 20).toInt ≤ 99
        decide
      · show 0 ≤ (nI 2).toInt ∧ (nI 2).toInt ≤ 9
        decide
      · show 0 ≤ (nI 100).toInt ∧ (nI 100).toInt ≤ 999
        decide
      · show 0 ≤ (nI 0).toInt ∧ (nI 0).toInt ≤ 1
        decide
      · show 0 ≤ (nI 50).toInt ∧ (nI 50).toInt ≤ 99
        decide
    · unfold bs
      rw [newB_o (by omega) (by omega)]
      exact hB b (by omega) w hw
  · obtain ⟨b, hb, e⟩ := (hD d hd).1
    refine ⟨b, by rw [newB_N h6]; omega, ?_⟩
    unfold dr
    rw [newB_o (by omega) (by omega)]
    exact e
  · unfold dr
    rw [newB_o (by omega) (by omega)]
    exact (hD d hd).2 k hk hk2
theorem InT_newD {s : Vc} {n c : Nat} {k a l : Int32} (h : InT s) (hn : nD s = n) (h12 : n < 12) (hk : rg k 0 6) (ha : rg a 0 9) (hl : rg l 0 99) (hc : c < nB s) : InT (newD s n k a (nI c) l) := by
  obtain ⟨⟨h0, hb6⟩, ⟨h1, h12'⟩, h3, h4, hB, hD⟩ := h
  have eB : nB (newD s n k a (nI c) l) = nB s := by unfold nB; rw [newD_o (by omega) (by omega)]
  unfold InT
  rw [newD_N h12, eB, newD_o (j := 0) (by omega) (by omega), newD_o (j := 3) (by omega) (by omega), newD_o (j := 4) (by omega) (by omega)]
  refine ⟨⟨h0, hb6⟩, ⟨?_, by omega⟩, h3, h4, fun b hb w hw => ?_, fun d hd => ⟨?_, fun j hj hj2 => ?_⟩⟩
  · unfold newD
    rw [pk_us]
  · unfold bs
    rw [newD_o (by omega) (by omega)]
    exact hB b hb w hw
  · rw [eB]
    by_cases e : d = n
    · subst e
      exact ⟨c, hc, by rw [newD_d (by decide)]; rfl⟩
    · obtain ⟨b, hb, e2⟩ := (hD d (by omega)).1
      refine ⟨b, hb, ?_⟩
      unfold dr
      rw [newD_o (by omega) (by omega)]
      exact e2
  · by_cases e : d = n
    · subst e
      rw [newD_d hj]
      have hj' : j = 0 ∨ j = 1 ∨ j = 3 ∨ j = 4 ∨ j = 5 ∨ j = 6 ∨ j = 7 := by omega
      rcases hj' with rfl | rfl | rfl | rfl | rfl | rfl | rfl
      · exact hk
      · exact ha
      · exact hl
      · show -1 ≤ (nI 2).toInt ∧ (nI 2).toInt ≤ 2
        decide
      · show 0 ≤ (nI 0).toInt ∧ (nI 0).toInt ≤ 1
        decide
      · show 0 ≤ (nI 0).toInt ∧ (nI 0).toInt ≤ 99999
        decide
      · show 0 ≤ (nI 0).toInt ∧ (nI 0).toInt ≤ 99999
        decide
    · unfold dr
      rw [newD_o (by omega) (by omega)]
      exact (hD d (by omega)).2 j hj hj2
def S_basin (x : Int32) (m : ab_I) : Int32 × ab_I := if nI 1 ≤ x ∧ x ≤ nI 20 then (if nB (m 219) < 6 then (nI (nB (m 219)), ab_row m 219 (newB (m 219) (nB (m 219)) x)) else er m 4) else er m 1
theorem k_addB {t n : Nat} {i : ab_I} (x : Int32) (ht : isT t) (hn : i t 2 = nI n) (h6 : n < 6) : ab_K 1 91 [.ref t, .int x] i (ab_V (.int (nI n)) (ab_up (bbegF (t + 2 + n) x i) t 2 (nI (n + 1)))) := by
  have g1 := tg_t ht
  have gb := tg_b ht h6
  have ne : bbegF (t + 2 + n) x i t 2 = i t 2 := by
      unfold bbegF
      rw [up_ne (by omega), up_ne (by omega), up_ne (by omega), up_ne (by omega), up_ne (by omega), up_ne (by omega), up_ne (by omega)]
  refine k_of rfl ?_
  refine r_go 3 rfl ?_ ?_
  · exact g1
  rw [hn]
  refine r_cv rfl (by first | exact g1 | exact gb) ((k_basinAt n ht h6)) (by decide) ?_
  refine r_go 1 rfl ?_ ?_
  · (first | exact trivial | assumption | (simp (disch := omega) [ab_all, ab_nz, *]; done))
  refine r_cn rfl (by first | exact g1 | exact gb) ((k_bbeg x gb)) (by decide) ?_
  refine r_go 10 rfl ?_ ?_
  · (simp only [ab_all, g1, and_self])
  refine r_ret rfl trivial ?_
  rw [up_us, ne, hn, nI_add, pk_sub (by omega)]
  exact ⟨rfl, rfl⟩
theorem c_basin {i m : ab_I} (hC : ClsR i m) (hJ : InM m) (x : Int32) : ab_K 3 111 [.ref 0, .int x] i (clQ i (S_basin x m)) := by
  (have hI := hJ.1.1; have hX := InS_X hJ.1; have hT := hC.1.1; have hLw : LwsR (m 219) i := ⟨hC.1.2.1, hC.1.2.2.1⟩; have hE := hC.2.2.2.2.1.1)
  have t2 : i 2 2 = nI (nB (m 219)) := hT.1.1.trans hI.1.1
  have b6 := hI.1.2
  refine k_of rfl ?_
  refine r_go 3 rfl ?_ ?_
  · (first | exact trivial | (simp only [ab_all] <;> decide))
  refine r_cv rfl trivial ((k_within _ _ _)) (by decide) ?_
  refine r_bN rfl (fun h7 => ?_) (fun h7 => ?_)
  · skip
    refine r_go 5 rfl ?_ ?_
    · (first | exact trivial | (simp only [ab_all] <;> decide))
    simp only [gr_0_0, gr_0_1, gr_0_3, gr_0_4, gr_0_5, gr_0_6, gr_0_7, gr_1_0, gr_1_1, gr_1_2, gr_1_3, gr_1_4, gr_35_0, gr_35_1, gr_35_2, gr_35_3, gr_35_4]
    rw [t2]
    refine r_br rfl (fun h28 => ?_) (fun h28 => ?_)
    · skip
      refine r_go 4 rfl ?_ ?_
      · (first | exact trivial | (simp only [ab_all] <;> decide))
      simp only [gr_0_0, gr_0_1, gr_0_3, gr_0_4, gr_0_5, gr_0_6, gr_0_7, gr_1_0, gr_1_1, gr_1_2, gr_1_3, gr_1_4, gr_35_0, gr_35_1, gr_35_2, gr_35_3, gr_35_4]
      have hl : nB (m 219) < 6 := by clear hC hJ hI hX hT hLw hE; (simp (disch := omega) only [Int32.le_iff_toInt_le, Int32.lt_iff_toInt_lt, c_i, m1_i, m5_i, m33_i] at * <;> omega)
      refine r_cv rfl rfl ((k_addB x isT_2 t2 hl)) (by decide) ?_
      refine r_ret rfl trivial ?_
      exact cl_to ((if_pos h7).trans (if_pos hl)) (cl_T hJ hC (TwR_newB hT rfl hl hI.2.1.2) (rt_newB hl) (frT_up (by unfold bbegF; repeat' (first | exact frT_rf | refine frT_up ?_ (by omega))) (by omega)))
    · skip
      refine r_go 2 rfl ?_ ?_
      · (first | exact trivial | (simp only [ab_all] <;> decide))
      refine r_cv rfl rfl ((k_error 4 (by decide) (by decide) hE)) (by decide) ?_
      refine r_ret rfl trivial ?_
      exact cl_to ((if_pos h7).trans (if_neg (by clear hC hJ hI hX hT hLw hE; (simp (disch := omega) only [Int32.le_iff_toInt_le, Int32.lt_iff_toInt_lt, c_i, m1_i, m5_i, m33_i] at * <;> omega)))) (cl_er (by decide) (by decide) hJ hC)
  · skip
    refine r_go 2 rfl ?_ ?_
    · (first | exact trivial | (simp only [ab_all] <;> decide))
    refine r_cv rfl rfl ((k_error 1 (by decide) (by decide) hE)) (by decide) ?_
    refine r_ret rfl trivial ?_
    exact cl_to (if_neg h7) (cl_er (by decide) (by decide) hJ hC)
theorem m_basin {i m : ab_I} (hm : mo i m) (hJ : InM m) (h13 : i 218 13 = (-1)) (x : Int32) : ab_K 1 164 [.ref 218, .int x] i (rfQ i (S_basin x m)) := by
  (have hI := hJ.1.1; have hX := InS_X hJ.1; have hs := hm.1)
  have b6 := hI.1.2
  refine k_of rfl ?_
  refine r_go 3 rfl ?_ ?_
  · (first | exact trivial | assumption | (simp (disch := omega) [ab_all, ab_nz, *]; done))
  refine r_cv rfl trivial ((m_in _ _ _)) (by decide) ?_
  refine r_bN rfl (fun h7 => ?_) (fun h7 => ?_)
  · skip
    refine r_go 5 rfl ?_ ?_
    · (simp only [ab_all, gr_218_0, nI_add]; repeat' (first | exact ix_219 (by omega) | rfl | decide | (unfold ab_nz; decide) | refine And.intro ?_ ?_))
    rw [rowI hs, nI_cl (by decide), hI.1.1]
    refine r_ne rfl (fun h24 => ?_) (fun h24 => ?_)
    · skip
      rw [nI_eq (by omega) (by omega)] at h24
      refine r_go 9 rfl ?_ ?_
      · (simp only [ab_all, gr_218_0, nI_add]; repeat' (first | exact ix_219 (by omega) | rfl | decide | (unfold ab_nz; decide) | refine And.intro ?_ ?_))
      rw [rowI hs, nI_cl (by decide), hI.1.1, pk_mul, nI_add]
      refine r_go 65 rfl ?_ ?_
      · (simp only [ab_all, gr_218_0, nI_add]; repeat' (first | exact ix_219 (by omega) | rfl | decide | (unfold ab_nz; decide) | refine And.intro ?_ ?_))
      refine r_ret rfl trivial ?_
      simp (disch := omega) only [gr_218_0, nI_add, nI_cl]
      rw [up_rowI hs]
      simp only [row_up, row_s]
      simp (disch := omega) only [pk_us, pk_un]
      rw [hI.1.1, nI_add, pk_sub (by omega)]
      exact rf_to ((if_pos h7).trans (if_pos (by omega))) (rf_w hm h13)
    · skip
      rw [nI_eq (by omega) (by omega)] at h24
      refine r_go 2 rfl ?_ ?_
      · (first | exact trivial | assumption | (simp (disch := omega) [ab_all, ab_nz, *]; done))
      refine r_cv rfl rfl ((m_error 4 (by decide))) (by decide) ?_
      refine r_ret rfl trivial ?_
      exact rf_to ((if_pos h7).trans (if_neg (by omega))) (rf_er hm h13)
  · skip
    refine r_go 2 rfl ?_ ?_
    · (first | exact trivial | assumption | (simp (disch := omega) [ab_all, ab_nz, *]; done))
    refine r_cv rfl rfl ((m_error 1 (by decide))) (by decide) ?_
    refine r_ret rfl trivial ?_
    exact rf_to (if_neg h7) (rf_er hm h13)
theorem n_basin {m : ab_I} (hJ : InM m) (x : Int32) : InM (S_basin x m).2 := by
  unfold S_basin
  split
  · rename_i h
    split
    · rename_i h2
      exact InM_T hJ (InT_newB hJ.1.1 rfl h2 (by unfold rg; clear hJ h2; (simp (disch := omega) only [Int32.le_iff_toInt_le, Int32.lt_iff_toInt_lt, c_i, m1_i, m5_i, m33_i] at * <;> omega))) (rt_newB h2)
    · exact InM_er hJ
  · exact InM_er hJ
def S_door (k b l : Int32) (m : ab_I) : Int32 × ab_I := if (nI 0 ≤ k ∧ k ≤ nI 69) ∧ okB (m 219) b ∧ nI 0 ≤ l ∧ l ≤ nI 99 then (if nD (m 219) < 12 then (nI (nD (m 219)), ab_row m 219 (newD (m 219) (nD (m 219)) (k / nI 10) (k - k / nI 10 * nI 10) b l)) else er m 4) else er m 1
theorem k_addD {t n : Nat} {i : ab_I} (k a b l : Int32) (ht : isT t) (hn : i t 3 = nI n) (h6 : n < 12) : ab_K 1 92 [.ref t, .int k, .int a, .int b, .int l] i (ab_V (.int (nI n)) (ab_up (dbegF (t + 9 + n) k a b l i) t 3 (nI (n + 1)))) := by
  have g1 := tg_t ht
  have gb := tg_d ht h6
  have ne : dbegF (t + 9 + n) k a b l i t 3 = i t 3 := by
      unfold dbegF
      rw [up_ne (by omega), up_ne (by omega), up_ne (by omega), up_ne (by omega), up_ne (by omega), up_ne (by omega), up_ne (by omega), up_ne (by omega)]
  refine k_of rfl ?_
  refine r_go 3 rfl ?_ ?_
  · exact g1
  rw [hn]
  refine r_cv rfl (by first | exact g1 | exact gb) ((k_doorAt n ht h6)) (by decide) ?_
  refine r_go 4 rfl ?_ ?_
  · (first | exact trivial | assumption | (simp (disch := omega) [ab_all, ab_nz, *]; done))
  refine r_cn rfl (by first | exact g1 | exact gb) ((k_dbeg k a b l gb)) (by decide) ?_
  refine r_go 10 rfl ?_ ?_
  · (simp only [ab_all, g1, and_self])
  refine r_ret rfl trivial ?_
  rw [up_us, ne, hn, nI_add, pk_sub (by omega)]
  exact ⟨rfl, rfl⟩
theorem c_door {i m : ab_I} (hC : ClsR i m) (hJ : InM m) (k x l : Int32) : ab_K 3 114 [.ref 0, .int k, .int x, .int l] i (clQ i (S_door k x l m)) := by
  (have hI := hJ.1.1; have hX := InS_X hJ.1; have hT := hC.1.1; have hLw : LwsR (m 219) i := ⟨hC.1.2.1, hC.1.2.2.1⟩; have hE := hC.2.2.2.2.1.1)
  have t2 : i 2 2 = nI (nB (m 219)) := hT.1.1.trans hI.1.1
  have t3 : i 2 3 = nI (nD (m 219)) := hT.1.2.1.trans hI.2.1.1
  have d12 := hI.2.1.2
  refine k_of rfl ?_
  refine r_go 3 rfl ?_ ?_
  · (first | exact trivial | (simp only [ab_all] <;> decide))
  refine r_cv rfl trivial ((k_within _ _ _)) (by decide) ?_
  refine r_bE rfl (fun h7 => ?_) (fun h7 => ?_)
  · skip
    refine r_go 2 rfl ?_ ?_
    · (first | exact trivial | (simp only [ab_all] <;> decide))
    refine r_cv rfl rfl ((k_error 1 (by decide) (by decide) hE)) (by decide) ?_
    refine r_ret rfl trivial ?_
    exact cl_to (if_neg (by simp only [h7, if_true, if_false, not_true, not_false_eq_true, and_true, true_and, and_false, false_and, or_true, true_or, or_false, false_or, and_self, or_self, not_false_eq_true])) (cl_er (by decide) (by decide) hJ hC)
  · skip
    refine r_go 4 rfl ?_ ?_
    · (first | exact trivial | (simp only [ab_all] <;> decide))
    simp only [gr_0_0, gr_0_1, gr_0_3, gr_0_4, gr_0_5, gr_0_6, gr_0_7, gr_1_0, gr_1_1, gr_1_2, gr_1_3, gr_1_4, gr_35_0, gr_35_1, gr_35_2, gr_35_3, gr_35_4]
    refine r_cv rfl rfl ((k_hasB x isT_2 t2 (Nat.le_trans hI.1.2 (by decide)))) (by decide) ?_
    refine r_bE rfl (fun h21 => ?_) (fun h21 => ?_)
    · skip
      refine r_go 2 rfl ?_ ?_
      · (first | exact trivial | (simp only [ab_all] <;> decide))
      refine r_cv rfl rfl ((k_error 1 (by decide) (by decide) hE)) (by decide) ?_
      refine r_ret rfl trivial ?_
      exact cl_to (if_neg (by simp only [h7, h21, if_true, if_false, not_true, not_false_eq_true, and_true, true_and, and_false, false_and, or_true, true_or, or_false, false_or, and_self, or_self, not_false_eq_true])) (cl_er (by decide) (by decide) hJ hC)
    · skip
      refine r_go 3 rfl ?_ ?_
      · (first | exact trivial | (simp only [ab_all] <;> decide))
      refine r_cv rfl trivial ((k_within _ _ _)) (by decide) ?_
      refine r_bN rfl (fun h31 => ?_) (fun h31 => ?_)
      · skip
        refine r_go 5 rfl ?_ ?_
        · (first | exact trivial | (simp only [ab_all] <;> decide))
        simp only [gr_0_0, gr_0_1, gr_0_3, gr_0_4, gr_0_5, gr_0_6, gr_0_7, gr_1_0, gr_1_1, gr_1_2, gr_1_3, gr_1_4, gr_35_0, gr_35_1, gr_35_2, gr_35_3, gr_35_4]
        rw [t3]
        refine r_br rfl (fun h52 => ?_) (fun h52 => ?_)
        · skip
          refine r_go 11 rfl ?_ ?_
          · (simp only [ab_all, ab_nz] <;> decide)
          simp only [gr_0_0, gr_0_1, gr_0_3, gr_0_4, gr_0_5, gr_0_6, gr_0_7, gr_1_0, gr_1_1, gr_1_2, gr_1_3, gr_1_4, gr_35_0, gr_35_1, gr_35_2, gr_35_3, gr_35_4]
          have hl : nD (m 219) < 12 := by clear hC hJ hI hX hT hLw hE; (simp (disch := omega) only [Int32.le_iff_toInt_le, Int32.lt_iff_toInt_lt, c_i, m1_i, m5_i, m33_i] at * <;> omega)
          refine r_cv rfl rfl ((k_addD _ _ x l isT_2 t3 hl)) (by decide) ?_
          refine r_ret rfl trivial ?_
          exact cl_to ((if_pos ⟨h7, h21, h31⟩).trans (if_pos hl)) (cl_T hJ hC (TwR_newD hT rfl hI.1.2 hl) (rt_newD hl) (frT_up (by unfold dbegF; repeat' (first | exact frT_rf | refine frT_up ?_ (by omega))) (by omega)))
        · skip
          refine r_go 2 rfl ?_ ?_
          · (first | exact trivial | (simp only [ab_all] <;> decide))
          refine r_cv rfl rfl ((k_error 4 (by decide) (by decide) hE)) (by decide) ?_
          refine r_ret rfl trivial ?_
          exact cl_to ((if_pos ⟨h7, h21, h31⟩).trans (if_neg (by clear hC hJ hI hX hT hLw hE; (simp (disch := omega) only [Int32.le_iff_toInt_le, Int32.lt_iff_toInt_lt, c_i, m1_i, m5_i, m33_i] at * <;> omega)))) (cl_er (by decide) (by decide) hJ hC)
      · skip
        refine r_go 2 rfl ?_ ?_
        · (first | exact trivial | (simp only [ab_all] <;> decide))
        refine r_cv rfl rfl ((k_error 1 (by decide) (by decide) hE)) (by decide) ?_
        refine r_ret rfl trivial ?_
        exact cl_to (if_neg (by simp only [h7, h21, h31, if_true, if_false, not_true, not_false_eq_true, and_true, true_and, and_false, false_and, or_true, true_or, or_false, false_or, and_self, or_self, not_false_eq_true])) (cl_er (by decide) (by decide) hJ hC)
theorem m_door {i m : ab_I} (hm : mo i m) (hJ : InM m) (h13 : i 218 13 = (-1)) (k x l : Int32) : ab_K 2 169 [.ref 218, .int k, .int x, .int l] i (rfQ i (S_door k x l m)) := by
  (have hI := hJ.1.1; have hX := InS_X hJ.1; have hs := hm.1)
  have d12 := hI.2.1.2
  refine k_of rfl ?_
  refine r_go 3 rfl ?_ ?_
  · (first | exact trivial | assumption | (simp (disch := omega) [ab_all, ab_nz, *]; done))
  refine r_cv rfl trivial ((m_in _ _ _)) (by decide) ?_
  refine r_bE rfl (fun h7 => ?_) (fun h7 => ?_)
  · skip
    refine r_go 2 rfl ?_ ?_
    · (first | exact trivial | assumption | (simp (disch := omega) [ab_all, ab_nz, *]; done))
    refine r_cv rfl rfl ((m_error 1 (by decide))) (by decide) ?_
    refine r_ret rfl trivial ?_
    exact rf_to (if_neg (by simp only [h7, if_true, if_false, not_true, not_false_eq_true, and_true, true_and, and_false, false_and, or_true, true_or, or_false, false_or, and_self, or_self, not_false_eq_true])) (rf_er hm h13)
  · skip
    refine r_go 2 rfl ?_ ?_
    · (first | exact trivial | assumption | (simp (disch := omega) [ab_all, ab_nz, *]; done))
    refine r_cv rfl rfl ((m_isB x hs hI)) (by decide) ?_
    refine r_bE rfl (fun h15 => ?_) (fun h15 => ?_)
    · skip
      refine r_go 2 rfl ?_ ?_
      · (first | exact trivial | assumption | (simp (disch := omega) [ab_all, ab_nz, *]; done))
      refine r_cv rfl rfl ((m_error 1 (by decide))) (by decide) ?_
      refine r_ret rfl trivial ?_
      exact rf_to (if_neg (by simp only [h7, h15, if_true, if_false, not_true, not_false_eq_true, and_true, true_and, and_false, false_and, or_true, true_or, or_false, false_or, and_self, or_self, not_false_eq_true])) (rf_er hm h13)
    · skip
      refine r_go 3 rfl ?_ ?_
      · (first | exact trivial | assumption | (simp (disch := omega) [ab_all, ab_nz, *]; done))
      refine r_cv rfl trivial ((m_in _ _ _)) (by decide) ?_
      refine r_bN rfl (fun h25 => ?_) (fun h25 => ?_)
      · skip
        refine r_go 5 rfl ?_ ?_
        · (simp only [ab_all, gr_218_0, nI_add]; repeat' (first | exact ix_219 (by omega) | rfl | decide | (unfold ab_nz; decide) | refine And.intro ?_ ?_))
        rw [rowI hs, nI_cl (by decide), hI.2.1.1]
        refine r_ne rfl (fun h42 => ?_) (fun h42 => ?_)
        · skip
          rw [nI_eq (by omega) (by omega)] at h42
          refine r_go 9 rfl ?_ ?_
          · (simp only [ab_all, gr_218_0, nI_add]; repeat' (first | exact ix_219 (by omega) | rfl | decide | (unfold ab_nz; decide) | refine And.intro ?_ ?_))
          rw [rowI hs, nI_cl (by decide), hI.2.1.1, pk_mul, nI_add]
          refine r_go 74 rfl ?_ ?_
          · (simp only [ab_all, gr_218_0, nI_add]; repeat' (first | exact ix_219 (by omega) | rfl | decide | (unfold ab_nz; decide) | refine And.intro ?_ ?_))
          refine r_ret rfl trivial ?_
          simp (disch := omega) only [gr_218_0, nI_add, nI_cl]
          rw [up_rowI hs]
          simp only [row_up, row_s]
          simp (disch := omega) only [pk_us, pk_un]
          rw [hI.2.1.1, nI_add, pk_sub (by omega)]
          exact rf_to ((if_pos ⟨h7, h15, h25⟩).trans (if_pos (by omega))) (rf_w hm h13)
        · skip
          rw [nI_eq (by omega) (by omega)] at h42
          refine r_go 2 rfl ?_ ?_
          · (first | exact trivial | assumption | (simp (disch := omega) [ab_all, ab_nz, *]; done))
          refine r_cv rfl rfl ((m_error 4 (by decide))) (by decide) ?_
          refine r_ret rfl trivial ?_
          exact rf_to ((if_pos ⟨h7, h15, h25⟩).trans (if_neg (by omega))) (rf_er hm h13)
      · skip
        refine r_go 2 rfl ?_ ?_
        · (first | exact trivial | assumption | (simp (disch := omega) [ab_all, ab_nz, *]; done))
        refine r_cv rfl rfl ((m_error 1 (by decide))) (by decide) ?_
        refine r_ret rfl trivial ?_
        exact rf_to (if_neg (by simp only [h7, h15, h25, if_true, if_false, not_true, not_false_eq_true, and_true, true_and, and_false, false_and, or_true, true_or, or_false, false_or, and_self, or_self, not_false_eq_true])) (rf_er hm h13)
theorem n_door {m : ab_I} (hJ : InM m) (k x l : Int32) : InM (S_door k x l m).2 := by
  unfold S_door
  split
  · rename_i h
    split
    · rename_i h2
      obtain ⟨h1, h3, h4⟩ := h
      obtain ⟨b, hb, rfl⟩ := of_rg h3
      have hk : 0 ≤ k.toInt ∧ k.toInt ≤ 69 := by clear hJ h2 h3 h4 hb; (simp (disch := omega) only [Int32.le_iff_toInt_le, Int32.lt_iff_toInt_lt, c_i, m1_i, m5_i, m33_i] at * <;> omega)
      have e1 : (k / nI 10).toInt = k.toInt / 10 := dv_i hk.1 (by decide)
      have e2 : (k / nI 10 * nI 10).toInt = k.toInt / 10 * 10 := by rw [mu_i (by rw [e1, c_i (by decide)]; omega) (by rw [e1, c_i (by decide)]; omega), e1, c_i (by decide)]; rfl
      have e3 : (k - k / nI 10 * nI 10).toInt = k.toInt - k.toInt / 10 * 10 := by rw [su_i (by omega) (by omega), e2]
      exact InM_T hJ (InT_newD hJ.1.1 rfl h2 (by unfold rg; omega) (by unfold rg; omega) (by unfold rg; clear hJ h2 h1 h3 hk e1 e2 e3; (simp (disch := omega) only [Int32.le_iff_toInt_le, Int32.lt_iff_toInt_lt, c_i, m1_i, m5_i, m33_i] at * <;> omega)) hb) (rt_newD h2)
    · exact InM_er hJ
  · exact InM_er hJ
