/-! what is told, what waits -/
theorem In5 {s : Vc} (h : InS s) : nI (s 5).toNatClampNeg = s 5 ∧ (s 5).toNatClampNeg ≤ 60 := by
  obtain ⟨n, hn, e, _⟩ := h.2.2.2.1
  rw [e, nI_cl (by omega)]
  exact ⟨rfl, hn⟩
theorem In6 {s : Vc} (h : InS s) : nI (s 6).toNatClampNeg = s 6 ∧ (s 6).toNatClampNeg ≤ 24 := by
  obtain ⟨n, hn, e⟩ := h.2.2.2.2
  rw [e, nI_cl (by omega)]
  exact ⟨rfl, hn⟩
theorem isR_31 : isR 31 60 := ⟨rfl, rfl, by decide⟩
theorem isR_33 : isR 33 24 := ⟨rfl, rfl, by decide⟩
theorem isR_201 : isR 201 30 := ⟨rfl, rfl, by decide⟩
def allW (s : Vc) : Int32 := sm (fun b => bs s b 0) (nB s)
theorem aw_loop {t : Nat} {s : Vc} {i : ab_I} (ht : isT t) (hI : InT s) (hR : TwR t s i) (m k : Nat) (hm : nB s - k < m) (hk : k ≤ nB s) : ab_R 1 tb_X8_allWater 4 [some (.ref t), some (.int (sm (fun b => bs s b 0) k)), some (.int (nI k))] [] i (ab_V (.int (allW s)) i) := by
  induction m generalizing k with
  | zero => exact absurd hm (by omega)
  | succ m ih =>
    have g0 := tg_t ht
    have b6 := hI.1.2
    have t2 : i t 2 = nI (nB s) := hR.1.1.trans hI.1.1
    refine r_go 3 rfl ?_ ?_
    · (first | exact trivial | assumption | (simp (disch := omega) [ab_all, ab_nz, *]; done))
    rw [t2]
    refine r_le rfl (fun h9 => ?_) (fun h9 => ?_)
    · skip
      refine r_go 1 rfl ?_ ?_
      · (first | exact trivial | assumption | (simp (disch := omega) [ab_all, ab_nz, *]; done))
      refine r_ret rfl trivial ?_
      have e : k = nB s := by clear hI hR; (simp (disch := omega) only [Int32.le_iff_toInt_le, Int32.lt_iff_toInt_lt, c_i, m1_i, m5_i, m33_i] at * <;> omega)
      subst e
      exact ⟨rfl, rfl⟩
    · skip
      have hkl : k < nB s := by clear hI hR; (simp (disch := omega) only [Int32.le_iff_toInt_le, Int32.lt_iff_toInt_lt, c_i, m1_i, m5_i, m33_i] at * <;> omega)
      have gb := tg_b ht (show k < 6 by omega)
      refine r_go 3 rfl ?_ ?_
      · (first | exact trivial | assumption | (simp (disch := omega) [ab_all, ab_nz, *]; done))
      refine r_cv rfl g0 ((k_basinAt k ht (by omega))) (by decide) ?_
      refine r_go 5 rfl ?_ ?_
      · exact gb
      rw [nI_add, show i (t + 2 + k) 1 = bs s k 0 from hR.2.1 k hkl 0 (by decide)]
      exact ih (k + 1) (by omega) (by omega)
theorem k_allW {t : Nat} {s : Vc} {i : ab_I} (ht : isT t) (hI : InT s) (hR : TwR t s i) : ab_K 1 102 [.ref t] i (ab_V (.int (allW s)) i) := by
  refine k_of rfl ?_
  refine r_go 4 rfl ?_ ?_
  · (first | exact trivial | assumption | (simp (disch := omega) [ab_all, ab_nz, *]; done))
  exact aw_loop ht hI hR (nB s + 1) 0 (by omega) (by omega)
def S_count (w : Int32) (m : ab_I) : Int32 × ab_I :=
  if w = nI 0 then (m 219 0, m) else if w = nI 1 then (m 219 1, m) else if w = nI 2 then (m 219 2, m) else if w = nI 3 then (m 219 3, m) else if w = nI 4 then (allW (m 219), m)
  else if w = nI 5 then (m 219 4, m) else if w = nI 6 then (m 219 5, m) else if w = nI 7 then (m 219 6, m) else if w = nI 8 then (m 218 16, m) else if w = nI 9 then (m 219 7, m) else er m 1
theorem c_count {i m : ab_I} (hC : ClsR i m) (hJ : InM m) (w : Int32) : ab_K 3 145 [.ref 0, .int w] i (clQ i (S_count w m)) := by
  (have hI := hJ.1.1; have hX := InS_X hJ.1; have hT := hC.1.1; have hLw : LwsR (m 219) i := ⟨hC.1.2.1, hC.1.2.2.1⟩; have hE := hC.2.2.2.2.1.1)
  have e5 := (In5 hJ.1).1
  have e6 := (In6 hJ.1).1
  have hTr := hC.2.2.2.2.2.1
  obtain ⟨n, hn, en⟩ := hJ.2.2.2
  refine k_of rfl ?_
  refine r_go 1 rfl ?_ ?_
  · (first | exact trivial | (simp only [ab_all] <;> decide))
  refine r_sw rfl ?_
  refine r_swk (fun h1_0 => ?_) (fun h1_0 => ?_)
  · skip
    refine r_go 4 rfl ?_ ?_
    · (first | exact trivial | (simp only [ab_all] <;> decide))
    refine r_ret rfl trivial ?_
    exact cl_to (p := (m 219 0, m)) (by unfold S_count; simp (decide := true) only [h1_0, if_true, if_false]) (by rw [← hT.1.1]; exact cl_0 hC)
  refine r_swk (fun h1_1 => ?_) (fun h1_1 => ?_)
  · skip
    refine r_go 4 rfl ?_ ?_
    · (first | exact trivial | (simp only [ab_all] <;> decide))
    refine r_ret rfl trivial ?_
    exact cl_to (p := (m 219 1, m)) (by unfold S_count; simp (decide := true) only [h1_0, h1_1, if_true, if_false]) (by rw [← hT.1.2.1]; exact cl_0 hC)
  refine r_swk (fun h1_2 => ?_) (fun h1_2 => ?_)
  · skip
    refine r_go 4 rfl ?_ ?_
    · (first | exact trivial | (simp only [ab_all] <;> decide))
    refine r_ret rfl trivial ?_
    exact cl_to (p := (m 219 2, m)) (by unfold S_count; simp (decide := true) only [h1_0, h1_1, h1_2, if_true, if_false]) (by rw [← hT.1.2.2.2.1]; exact cl_0 hC)
  refine r_swk (fun h1_3 => ?_) (fun h1_3 => ?_)
  · skip
    refine r_go 4 rfl ?_ ?_
    · (first | exact trivial | (simp only [ab_all] <;> decide))
    refine r_ret rfl trivial ?_
    exact cl_to (p := (m 219 3, m)) (by unfold S_count; simp (decide := true) only [h1_0, h1_1, h1_2, h1_3, if_true, if_false]) (by rw [← hT.1.2.2.1]; exact cl_0 hC)
  refine r_swk (fun h1_4 => ?_) (fun h1_4 => ?_)
  · skip
    refine r_go 3 rfl ?_ ?_
    · (first | exact trivial | (simp only [ab_all] <;> decide))
    simp only [gr_0_0, gr_0_1, gr_0_3, gr_0_4, gr_0_5, gr_0_6, gr_0_7, gr_1_0, gr_1_1, gr_1_2, gr_1_3, gr_1_4, gr_35_0, gr_35_1, gr_35_2, gr_35_3, gr_35_4]
    refine r_cv rfl rfl ((k_allW isT_2 hI hT)) (by decide) ?_
    refine r_ret rfl trivial ?_
    exact cl_to (p := (allW (m 219), m)) (by unfold S_count; simp (decide := true) only [h1_0, h1_1, h1_2, h1_3, h1_4, if_true, if_false]) (cl_0 hC)
  refine r_swk (fun h1_5 => ?_) (fun h1_5 => ?_)
  · skip
    refine r_go 4 rfl ?_ ?_
    · (first | exact trivial | (simp only [ab_all] <;> decide))
    refine r_ret rfl trivial ?_
    exact cl_to (p := (m 219 4, m)) (by unfold S_count; simp (decide := true) only [h1_0, h1_1, h1_2, h1_3, h1_4, h1_5, if_true, if_false]) (by rw [← hT.1.2.2.2.2.1]; exact cl_0 hC)
  refine r_swk (fun h1_6 => ?_) (fun h1_6 => ?_)
  · skip
    refine r_go 4 rfl ?_ ?_
    · (first | exact trivial | (simp only [ab_all] <;> decide))
    refine r_ret rfl trivial ?_
    exact cl_to (p := (m 219 5, m)) (by unfold S_count; simp (decide := true) only [h1_0, h1_1, h1_2, h1_3, h1_4, h1_5, h1_6, if_true, if_false]) (by rw [← e5, ← hC.1.2.2.2.1.1]; exact cl_0 hC)
  refine r_swk (fun h1_7 => ?_) (fun h1_7 => ?_)
  · skip
    refine r_go 4 rfl ?_ ?_
    · (first | exact trivial | (simp only [ab_all] <;> decide))
    refine r_ret rfl trivial ?_
    exact cl_to (p := (m 219 6, m)) (by unfold S_count; simp (decide := true) only [h1_0, h1_1, h1_2, h1_3, h1_4, h1_5, h1_6, h1_7, if_true, if_false]) (by rw [← e6, ← hC.1.2.2.2.2.1]; exact cl_0 hC)
  refine r_swk (fun h1_8 => ?_) (fun h1_8 => ?_)
  · skip
    refine r_go 4 rfl ?_ ?_
    · (first | exact trivial | (simp only [ab_all] <;> decide))
    refine r_ret rfl trivial ?_
    exact cl_to (p := (m 218 16, m)) (by unfold S_count; simp (decide := true) only [h1_0, h1_1, h1_2, h1_3, h1_4, h1_5, h1_6, h1_7, h1_8, if_true, if_false]) (by rw [en, ← nI_cl (show n < 2147483648 by omega), ← en, ← hTr]; exact cl_0 hC)
  refine r_swk (fun h1_9 => ?_) (fun h1_9 => ?_)
  · skip
    refine r_go 4 rfl ?_ ?_
    · (first | exact trivial | (simp only [ab_all] <;> decide))
    refine r_ret rfl trivial ?_
    exact cl_to (p := (m 219 7, m)) (by unfold S_count; simp (decide := true) only [h1_0, h1_1, h1_2, h1_3, h1_4, h1_5, h1_6, h1_7, h1_8, h1_9, if_true, if_false]) (by rw [← hT.1.2.2.2.2.2]; exact cl_0 hC)
  refine r_go 2 rfl ?_ ?_
  · (first | exact trivial | (simp only [ab_all] <;> decide))
  refine r_cv rfl rfl ((k_error 1 (by decide) (by decide) hE)) (by decide) ?_
  refine r_ret rfl trivial ?_
  exact cl_to (p := er m 1) (by unfold S_count; simp (decide := true) only [h1_0, h1_1, h1_2, h1_3, h1_4, h1_5, h1_6, h1_7, h1_8, h1_9, if_true, if_false]) (cl_er (by decide) (by decide) hJ hC)
theorem mc_loop {i : ab_I} {s : Vc} (hs : i 219 = s) (hI : InT s) (m k : Nat) (hm : nB s - k < m) (hk : k ≤ nB s) : ab_R 1 tb_X11_count 88 [some (.ref 218), none, some (.int (sm (fun b => bs s b 0) k)), some (.int (nI k))] [] i (ab_V (.int (allW s)) i) := by
  induction m generalizing k with
  | zero => exact absurd hm (by omega)
  | succ m ih =>
    have b6 := hI.1.2
    refine r_go 5 rfl ?_ ?_
    · (simp only [ab_all, gr_218_0, nI_add]; repeat' (first | exact ix_219 (by omega) | rfl | decide | (unfold ab_nz; decide) | refine And.intro ?_ ?_))
    rw [rowI hs, nI_cl (by decide), hI.1.1]
    refine r_le rfl (fun h95 => ?_) (fun h95 => ?_)
    · skip
      refine r_go 1 rfl ?_ ?_
      · (first | exact trivial | assumption | (simp (disch := omega) [ab_all, ab_nz, *]; done))
      refine r_ret rfl trivial ?_
      have e : k = nB s := by clear hI hs; (simp (disch := omega) only [Int32.le_iff_toInt_le, Int32.lt_iff_toInt_lt, c_i, m1_i, m5_i, m33_i] at * <;> omega)
      subst e
      exact ⟨rfl, rfl⟩
    · skip
      have hkl : k < nB s := by clear hI hs; (simp (disch := omega) only [Int32.le_iff_toInt_le, Int32.lt_iff_toInt_lt, c_i, m1_i, m5_i, m33_i] at * <;> omega)
      refine r_go 4 rfl ?_ ?_
      · (first | exact trivial | assumption | (simp (disch := omega) [ab_all, ab_nz, *]; done))
      refine r_cv rfl rfl ((m_of k 0 hs (by omega))) (by decide) ?_
      refine r_go 4 rfl ?_ ?_
      · (first | exact trivial | assumption | (simp (disch := omega) [ab_all, ab_nz, *]; done))
      rw [nI_add]
      exact ih (k + 1) (by omega) (by omega)
theorem m_count {i m : ab_I} (hm : mo i m) (hJ : InM m) (h13 : i 218 13 = (-1)) (w : Int32) : ab_K 1 247 [.ref 218, .int w] i (rfQ i (S_count w m)) := by
  (have hI := hJ.1.1; have hX := InS_X hJ.1; have hs := hm.1)
  refine k_of rfl ?_
  refine r_go 1 rfl ?_ ?_
  · (simp only [ab_all, gr_218_0, nI_add]; repeat' (first | exact ix_219 (by omega) | rfl | decide | (unfold ab_nz; decide) | refine And.intro ?_ ?_))
  refine r_sw rfl ?_
  refine r_swk (fun h1_0 => ?_) (fun h1_0 => ?_)
  · skip
    refine r_go 4 rfl ?_ ?_
    · (simp only [ab_all, gr_218_0, nI_add]; repeat' (first | exact ix_219 (by omega) | rfl | decide | (unfold ab_nz; decide) | refine And.intro ?_ ?_))
    refine r_ret rfl trivial ?_
    simp (disch := decide) only [gr_218_0, nI_cl, hs]
    exact rf_to (by unfold S_count; simp (decide := true) only [h1_0, if_true, if_false]) (rf_0 hm h13)
  refine r_swk (fun h1_1 => ?_) (fun h1_1 => ?_)
  · skip
    refine r_go 4 rfl ?_ ?_
    · (simp only [ab_all, gr_218_0, nI_add]; repeat' (first | exact ix_219 (by omega) | rfl | decide | (unfold ab_nz; decide) | refine And.intro ?_ ?_))
    refine r_ret rfl trivial ?_
    simp (disch := decide) only [gr_218_0, nI_cl, hs]
    exact rf_to (by unfold S_count; simp (decide := true) only [h1_0, h1_1, if_true, if_false]) (rf_0 hm h13)
  refine r_swk (fun h1_2 => ?_) (fun h1_2 => ?_)
  · skip
    refine r_go 4 rfl ?_ ?_
    · (simp only [ab_all, gr_218_0, nI_add]; repeat' (first | exact ix_219 (by omega) | rfl | decide | (unfold ab_nz; decide) | refine And.intro ?_ ?_))
    refine r_ret rfl trivial ?_
    simp (disch := decide) only [gr_218_0, nI_cl, hs]
    exact rf_to (by unfold S_count; simp (decide := true) only [h1_0, h1_1, h1_2, if_true, if_false]) (rf_0 hm h13)
  refine r_swk (fun h1_3 => ?_) (fun h1_3 => ?_)
  · skip
    refine r_go 4 rfl ?_ ?_
    · (simp only [ab_all, gr_218_0, nI_add]; repeat' (first | exact ix_219 (by omega) | rfl | decide | (unfold ab_nz; decide) | refine And.intro ?_ ?_))
    refine r_ret rfl trivial ?_
    simp (disch := decide) only [gr_218_0, nI_cl, hs]
    exact rf_to (by unfold S_count; simp (decide := true) only [h1_0, h1_1, h1_2, h1_3, if_true, if_false]) (rf_0 hm h13)
  refine r_swk (fun h1_4 => ?_) (fun h1_4 => ?_)
  · skip
    refine r_go 4 rfl ?_ ?_
    · (simp only [ab_all, gr_218_0, nI_add]; repeat' (first | exact ix_219 (by omega) | rfl | decide | (unfold ab_nz; decide) | refine And.intro ?_ ?_))
    exact r_lk (r_mono (mc_loop hs hI (nB (m 219) + 1) 0 (by omega) (by omega)) (by rintro v j ⟨rfl, rfl⟩; exact rf_to (p := (allW (m 219), m)) (by unfold S_count; simp (decide := true) only [h1_0, h1_1, h1_2, h1_3, h1_4, if_true, if_false]) (rf_0 hm h13))) rfl
  refine r_swk (fun h1_5 => ?_) (fun h1_5 => ?_)
  · skip
    refine r_go 4 rfl ?_ ?_
    · (simp only [ab_all, gr_218_0, nI_add]; repeat' (first | exact ix_219 (by omega) | rfl | decide | (unfold ab_nz; decide) | refine And.intro ?_ ?_))
    refine r_ret rfl trivial ?_
    simp (disch := decide) only [gr_218_0, nI_cl, hs]
    exact rf_to (by unfold S_count; simp (decide := true) only [h1_0, h1_1, h1_2, h1_3, h1_4, h1_5, if_true, if_false]) (rf_0 hm h13)
  refine r_swk (fun h1_6 => ?_) (fun h1_6 => ?_)
  · skip
    refine r_go 4 rfl ?_ ?_
    · (simp only [ab_all, gr_218_0, nI_add]; repeat' (first | exact ix_219 (by omega) | rfl | decide | (unfold ab_nz; decide) | refine And.intro ?_ ?_))
    refine r_ret rfl trivial ?_
    simp (disch := decide) only [gr_218_0, nI_cl, hs]
    exact rf_to (by unfold S_count; simp (decide := true) only [h1_0, h1_1, h1_2, h1_3, h1_4, h1_5, h1_6, if_true, if_false]) (rf_0 hm h13)
  refine r_swk (fun h1_7 => ?_) (fun h1_7 => ?_)
  · skip
    refine r_go 4 rfl ?_ ?_
    · (simp only [ab_all, gr_218_0, nI_add]; repeat' (first | exact ix_219 (by omega) | rfl | decide | (unfold ab_nz; decide) | refine And.intro ?_ ?_))
    refine r_ret rfl trivial ?_
    simp (disch := decide) only [gr_218_0, nI_cl, hs]
    exact rf_to (by unfold S_count; simp (decide := true) only [h1_0, h1_1, h1_2, h1_3, h1_4, h1_5, h1_6, h1_7, if_true, if_false]) (rf_0 hm h13)
  refine r_swk (fun h1_8 => ?_) (fun h1_8 => ?_)
  · skip
    refine r_go 2 rfl ?_ ?_
    · exact rfl
    refine r_ret rfl trivial ?_
    rw [show i 218 16 = m 218 16 from hm.2.2.2.2.2.2.2.2]
    exact rf_to (by unfold S_count; simp (decide := true) only [h1_0, h1_1, h1_2, h1_3, h1_4, h1_5, h1_6, h1_7, h1_8, if_true, if_false]) (rf_0 hm h13)
  refine r_swk (fun h1_9 => ?_) (fun h1_9 => ?_)
  · skip
    refine r_go 4 rfl ?_ ?_
    · (simp only [ab_all, gr_218_0, nI_add]; repeat' (first | exact ix_219 (by omega) | rfl | decide | (unfold ab_nz; decide) | refine And.intro ?_ ?_))
    refine r_ret rfl trivial ?_
    simp (disch := decide) only [gr_218_0, nI_cl, hs]
    exact rf_to (by unfold S_count; simp (decide := true) only [h1_0, h1_1, h1_2, h1_3, h1_4, h1_5, h1_6, h1_7, h1_8, h1_9, if_true, if_false]) (rf_0 hm h13)
  refine r_go 2 rfl ?_ ?_
  · (simp only [ab_all, gr_218_0, nI_add]; repeat' (first | exact ix_219 (by omega) | rfl | decide | (unfold ab_nz; decide) | refine And.intro ?_ ?_))
  refine r_cv rfl rfl ((m_error 1 (by decide))) (by decide) ?_
  refine r_ret rfl trivial ?_
  exact rf_to (p := er m 1) (by unfold S_count; simp (decide := true) only [h1_0, h1_1, h1_2, h1_3, h1_4, h1_5, h1_6, h1_7, h1_8, h1_9, if_true, if_false]) (rf_er hm h13)
theorem n_count {m : ab_I} (hJ : InM m) (w : Int32) : InM (S_count w m).2 := by
  unfold S_count
  repeat' split
  all_goals first | exact hJ | exact InM_er hJ
def S_told (k : Int32) (m : ab_I) : Int32 × ab_I := if nI 1 ≤ k ∧ k ≤ nI 6 then (m 222 k.toNatClampNeg, m) else er m 1
theorem of_16 {k : Int32} (h : nI 1 ≤ k ∧ k ≤ nI 6) : ∃ c, 1 ≤ c ∧ c ≤ 6 ∧ k = nI c := by
  have h1 : 1 ≤ k.toInt ∧ k.toInt ≤ 6 := by (simp (disch := omega) only [Int32.le_iff_toInt_le, Int32.lt_iff_toInt_lt, c_i, m1_i, m5_i, m33_i] at * <;> omega)
  exact ⟨k.toNatClampNeg, by rw [tn_i]; omega, by rw [tn_i]; omega, tn_of (by omega)⟩
theorem c_told {i m : ab_I} (hC : ClsR i m) (hJ : InM m) (k : Int32) : ab_K 3 146 [.ref 0, .int k] i (clQ i (S_told k m)) := by
  (have hI := hJ.1.1; have hX := InS_X hJ.1; have hT := hC.1.1; have hLw : LwsR (m 219) i := ⟨hC.1.2.1, hC.1.2.2.1⟩; have hE := hC.2.2.2.2.1.1)
  refine k_of rfl ?_
  refine r_go 3 rfl ?_ ?_
  · (first | exact trivial | (simp only [ab_all] <;> decide))
  refine r_cv rfl trivial ((k_within _ _ _)) (by decide) ?_
  refine r_bN rfl (fun h7 => ?_) (fun h7 => ?_)
  · skip
    refine r_go 5 rfl ?_ ?_
    · (first | exact trivial | (simp only [ab_all] <;> decide))
    have hP : S_told k m = (m 222 k.toNatClampNeg, m) := if_pos h7
    obtain ⟨c, hc1, hc6, rfl⟩ := of_16 h7
    rw [nI_cl (by omega)] at hP
    simp only [gr_0_0, gr_0_1, gr_0_3, gr_0_4, gr_0_5, gr_0_6, gr_0_7, gr_1_0, gr_1_1, gr_1_2, gr_1_3, gr_1_4, gr_35_0, gr_35_1, gr_35_2, gr_35_3, gr_35_4]
    rw [pk_sub hc1]
    refine r_cv rfl rfl ((k_at _ isR_216 hE (by decide))) (by decide) ?_
    refine r_ret rfl trivial ?_
    rw [rowAt_nI (by omega) (by decide), hC.2.2.2.2.1.2 _ (by omega), show c - 1 + 1 = c by omega]
    exact cl_to hP (cl_0 hC)
  · skip
    refine r_go 2 rfl ?_ ?_
    · (first | exact trivial | (simp only [ab_all] <;> decide))
    refine r_cv rfl rfl ((k_error 1 (by decide) (by decide) hE)) (by decide) ?_
    refine r_ret rfl trivial ?_
    exact cl_to (if_neg h7) (cl_er (by decide) (by decide) hJ hC)
theorem m_told {i m : ab_I} (hm : mo i m) (hJ : InM m) (h13 : i 218 13 = (-1)) (k : Int32) : ab_K 1 248 [.ref 218, .int k] i (rfQ i (S_told k m)) := by
  (have hI := hJ.1.1; have hX := InS_X hJ.1; have hs := hm.1)
  refine k_of rfl ?_
  refine r_go 3 rfl ?_ ?_
  · (first | exact trivial | assumption | (simp (disch := omega) [ab_all, ab_nz, *]; done))
  refine r_cv rfl trivial ((m_in _ _ _)) (by decide) ?_
  refine r_bE rfl (fun h7 => ?_) (fun h7 => ?_)
  · skip
    refine r_go 2 rfl ?_ ?_
    · (first | exact trivial | assumption | (simp (disch := omega) [ab_all, ab_nz, *]; done))
    refine r_cv rfl rfl ((m_error 1 (by decide))) (by decide) ?_
    refine r_ret rfl trivial ?_
    first | (simp (disch := omega) only [gr_218_4, nI_cl, hm.2.2.1]; exact rf_to hP (rf_0 hm h13)) | exact rf_to (if_neg h7) (rf_er hm h13)
  · skip
    have hP : S_told k m = (m 222 k.toNatClampNeg, m) := if_pos h7
    obtain ⟨c, hc1, hc6, rfl⟩ := of_16 h7
    rw [nI_cl (by omega)] at hP
    refine r_go 5 rfl ?_ ?_
    · (simp only [ab_all, gr_218_4]; exact ⟨ix_of gt_222 (by omega) (by omega), rfl, by decide⟩)
    refine r_ret rfl trivial ?_
    first | (simp (disch := omega) only [gr_218_4, nI_cl, hm.2.2.1]; exact rf_to hP (rf_0 hm h13)) | exact rf_to (if_neg h7) (rf_er hm h13)
theorem n_told {m : ab_I} (hJ : InM m) (w : Int32) : InM (S_told w m).2 := by
  unfold S_told
  split
  · exact hJ
  · exact InM_er hJ
theorem m_inN {i : ab_I} {n : Nat} (x : Int32) (hn : n ≤ 1000) : ab_K 0 155 [.int x, .int (nI 0), .int (nI n - nI 1)] i (ab_V (.int (bI (0 ≤ x.toInt ∧ x.toInt < n))) i) := by
  rw [← bI_cg (in_cg hn)]
  exact m_in _ _ _
def S_body (x : Int32) (m : ab_I) : Int32 × ab_I := if 0 ≤ x.toInt ∧ x.toInt < (m 218 16).toNatClampNeg then (m 227 x.toNatClampNeg, m) else er m 2
theorem c_body {i m : ab_I} (hC : ClsR i m) (hJ : InM m) (x : Int32) : ab_K 3 134 [.ref 0, .int x] i (clQ i (S_body x m)) := by
  (have hI := hJ.1.1; have hX := InS_X hJ.1; have hT := hC.1.1; have hLw : LwsR (m 219) i := ⟨hC.1.2.1, hC.1.2.2.1⟩; have hE := hC.2.2.2.2.1.1)
  obtain ⟨n, hn, en⟩ := hJ.2.2.2
  have hTr : i 201 1 = nI n := by
      have := hC.2.2.2.2.2.1
      rw [en, nI_cl (by omega)] at this
      exact this
  refine k_of rfl ?_
  refine r_go 4 rfl ?_ ?_
  · (first | exact trivial | (simp only [ab_all] <;> decide))
  simp only [gr_0_0, gr_0_1, gr_0_3, gr_0_4, gr_0_5, gr_0_6, gr_0_7, gr_1_0, gr_1_1, gr_1_2, gr_1_3, gr_1_4, gr_35_0, gr_35_1, gr_35_2, gr_35_3, gr_35_4, gr_200_0]
  refine r_cv rfl rfl ((k_has x isR_201 hTr hn)) (by decide) ?_
  refine r_bE rfl (fun h11 => ?_) (fun h11 => ?_)
  · skip
    refine r_go 2 rfl ?_ ?_
    · (first | exact trivial | (simp only [ab_all] <;> decide))
    refine r_cv rfl rfl ((k_error 2 (by decide) (by decide) hE)) (by decide) ?_
    refine r_ret rfl trivial ?_
    first | (rw [rowAt_nI hc (by omega), hC.2.2.2.2.2.2 c (by rw [en, nI_cl (by omega)]; exact hc)]; exact cl_to hP (cl_0 hC)) | exact cl_to (if_neg (by rw [en, nI_cl (by omega)]; exact h11)) (cl_er (by decide) (by decide) hJ hC)
  · skip
    have hP : S_body x m = (m 227 x.toNatClampNeg, m) := if_pos (by rw [en, nI_cl (by omega)]; exact h11)
    obtain ⟨c, hc, rfl⟩ := of_rg h11
    rw [nI_cl (by omega)] at hP
    refine r_go 4 rfl ?_ ?_
    · (first | exact trivial | (simp only [ab_all] <;> decide))
    simp only [gr_0_0, gr_0_1, gr_0_3, gr_0_4, gr_0_5, gr_0_6, gr_0_7, gr_1_0, gr_1_1, gr_1_2, gr_1_3, gr_1_4, gr_35_0, gr_35_1, gr_35_2, gr_35_3, gr_35_4, gr_200_0]
    refine r_cv rfl rfl ((k_at _ isR_201 hTr hn)) (by decide) ?_
    refine r_go 1 rfl ?_ ?_
    · (first | exact trivial | (simp only [ab_all] <;> decide))
    refine r_ret rfl trivial ?_
    first | (rw [rowAt_nI hc (by omega), hC.2.2.2.2.2.2 c (by rw [en, nI_cl (by omega)]; exact hc)]; exact cl_to hP (cl_0 hC)) | exact cl_to (if_neg (by rw [en, nI_cl (by omega)]; exact h11)) (cl_er (by decide) (by decide) hJ hC)
theorem m_body {i m : ab_I} (hm : mo i m) (hJ : InM m) (h13 : i 218 13 = (-1)) (x : Int32) : ab_K 1 233 [.ref 218, .int x] i (rfQ i (S_body x m)) := by
  (have hI := hJ.1.1; have hX := InS_X hJ.1; have hs := hm.1)
  obtain ⟨n, hn, en⟩ := hJ.2.2.2
  have e16 : i 218 16 = nI n := hm.2.2.2.2.2.2.2.2.trans en
  refine k_of rfl ?_
  refine r_go 6 rfl ?_ ?_
  · exact rfl
  rw [e16]
  refine r_cv rfl trivial ((m_inN x (show n ≤ 1000 by omega))) (by decide) ?_
  refine r_bE rfl (fun h11 => ?_) (fun h11 => ?_)
  · skip
    refine r_go 2 rfl ?_ ?_
    · (first | exact trivial | assumption | (simp (disch := omega) [ab_all, ab_nz, *]; done))
    refine r_cv rfl rfl ((m_error 2 (by decide))) (by decide) ?_
    refine r_ret rfl trivial ?_
    first | (simp (disch := omega) only [gr_218_15, nI_cl, hm.2.2.2.1]; exact rf_to hP (rf_0 hm h13)) | exact rf_to (if_neg (by rw [en, nI_cl (by omega)]; exact h11)) (rf_er hm h13)
  · skip
    have hP : S_body x m = (m 227 x.toNatClampNeg, m) := if_pos (by rw [en, nI_cl (by omega)]; exact h11)
    obtain ⟨c, hc, rfl⟩ := of_rg h11
    rw [nI_cl (by omega)] at hP
    refine r_go 5 rfl ?_ ?_
    · (simp only [ab_all, gr_218_15]; exact ⟨ix_of gt_227 (by omega) (by omega), rfl, by decide⟩)
    refine r_ret rfl trivial ?_
    first | (simp (disch := omega) only [gr_218_15, nI_cl, hm.2.2.2.1]; exact rf_to hP (rf_0 hm h13)) | exact rf_to (if_neg (by rw [en, nI_cl (by omega)]; exact h11)) (rf_er hm h13)
theorem n_body {m : ab_I} (hJ : InM m) (w : Int32) : InM (S_body w m).2 := by
  unfold S_body
  split
  · exact hJ
  · exact InM_er hJ
theorem WhR_k {w : Nat} {s z : Vc} {i j : ab_I} (hI : InS s) (h : WhR w s i) (hz : ∀ k, k ≠ 5 → k ≠ 6 → k < 396 → z k = s k) (e : ∀ q, w ≤ q → q ≤ w + 28 → q ≠ w + 25 → q ≠ w + 29 → j q = i q) (h5 : RoR (w + 30) (z 5).toNatClampNeg (fun k => z (396 + k)) j) (h6 : RoR (w + 32) (z 6).toNatClampNeg (fun k => z (456 + k)) j) : WhR w z j := by
  obtain ⟨h1, h2, h3, _, _⟩ := h
  have t0 : LwR (w + 22) 0 s j := RoR_far h2 (e _ (by omega) (by omega) (by omega) (by omega)) (e _ (by omega) (by omega) (by omega) (by omega))
  have t1 : LwR (w + 26) 1 s j := RoR_far h3 (e _ (by omega) (by omega) (by omega) (by omega)) (e _ (by omega) (by omega) (by omega) (by omega))
  refine ⟨TwR_s (TwR_far h1 hI.1.1.2 hI.1.2.1.2 (fun q a b => e q (by omega) (by omega) (by omega) (by omega))) hI.1.1.2 hI.1.2.1.2 (fun k a b c => hz k a b (by omega)), LwR_s t0 (by decide) (fun k a b => hz k (by omega) (by omega) (by omega)) hI.2.1.2.1, LwR_s t1 (by decide) (fun k a b => hz k (by omega) (by omega) (by omega)) hI.2.2.1.2.1, h5, h6⟩
theorem InT_s {s z : Vc} (h : InT s) (hz : ∀ k, k ≠ 2 → k ≠ 5 → k ≠ 6 → k ≠ 7 → k < 146 → z k = s k) : InT z := by
  obtain ⟨⟨h0, h6⟩, ⟨h1, h12⟩, h3, h4, hB, hD⟩ := h
  have eB : nB z = nB s := by unfold nB; rw [hz 0 (by decide) (by decide) (by decide) (by decide) (by decide)]
  have eD : nD z = nD s := by unfold nD; rw [hz 1 (by decide) (by decide) (by decide) (by decide) (by decide)]
  unfold InT
  rw [eB, eD, hz 0 (by decide) (by decide) (by decide) (by decide) (by decide), hz 1 (by decide) (by decide) (by decide) (by decide) (by decide), hz 3 (by decide) (by decide) (by decide) (by decide) (by decide), hz 4 (by decide) (by decide) (by decide) (by decide) (by decide)]
  refine ⟨⟨h0, h6⟩, ⟨h1, h12⟩, h3, h4, fun b hb w hw => ?_, fun d hd => ?_⟩
  · unfold bs
    rw [hz _ (by omega) (by omega) (by omega) (by omega) (by omega)]
    exact hB b hb w hw
  · unfold InD
    rw [eB]
    unfold dr
    rw [hz _ (by omega) (by omega) (by omega) (by omega) (by omega)]
    refine ⟨(hD d hd).1, fun k hk hk2 => ?_⟩
    rw [hz _ (by omega) (by omega) (by omega) (by omega) (by omega)]
    exact (hD d hd).2 k hk hk2
/-- all but the tape and what waits is as it was -/
theorem InS_k {s z : Vc} (h : InS s) (hz : ∀ k, k ≠ 5 → k ≠ 6 → k < 396 → z k = s k) (h5 : ∃ n, n ≤ 60 ∧ z 5 = nI n ∧ ∀ k, k < n → rg (z (396 + k)) 0 255) (h6 : ∃ n, n ≤ 24 ∧ z 6 = nI n) : InS z :=
  ⟨InT_s h.1 (fun k _ a b _ c => hz k a b (by omega)), InX_e (by decide) h.2.1 (fun k a b => hz k (by omega) (by omega) (by omega)), InX_e (by decide) h.2.2.1 (fun k a b => hz k (by omega) (by omega) (by omega)), h5, h6⟩
def S_tell (v : Int32) (m : ab_I) : Int32 × ab_I := if (m 219 6).toNatClampNeg < 24 then (nI ((m 219 6).toNatClampNeg + 1), ab_row m 219 (upd (upd (m 219) (456 + (m 219 6).toNatClampNeg) v) 6 (nI ((m 219 6).toNatClampNeg + 1)))) else er m 4
theorem c_tell {i m : ab_I} (hC : ClsR i m) (hJ : InM m) (v : Int32) : ab_K 3 143 [.ref 0, .int v] i (clQ i (S_tell v m)) := by
  (have hI := hJ.1.1; have hX := InS_X hJ.1; have hT := hC.1.1; have hLw : LwsR (m 219) i := ⟨hC.1.2.1, hC.1.2.2.1⟩; have hE := hC.2.2.2.2.1.1)
  obtain ⟨e6, l6⟩ := In6 hJ.1
  have h6 := hC.1.2.2.2.2
  have h5 := hC.1.2.2.2.1
  generalize hn : (m 219 6).toNatClampNeg = n at e6 l6 h6
  have t1 : i 33 1 = nI n := h6.1
  refine k_of rfl ?_
  refine r_go 5 rfl ?_ ?_
  · (first | exact trivial | (simp only [ab_all] <;> decide))
  simp only [gr_0_0, gr_0_1, gr_0_3, gr_0_4, gr_0_5, gr_0_6, gr_0_7, gr_1_0, gr_1_1, gr_1_2, gr_1_3, gr_1_4, gr_35_0, gr_35_1, gr_35_2, gr_35_3, gr_35_4]
  rw [t1]
  refine r_br rfl (fun h12 => ?_) (fun h12 => ?_)
  · skip
    refine r_go 4 rfl ?_ ?_
    · (first | exact trivial | (simp only [ab_all] <;> decide))
    simp only [gr_0_0, gr_0_1, gr_0_3, gr_0_4, gr_0_5, gr_0_6, gr_0_7, gr_1_0, gr_1_1, gr_1_2, gr_1_3, gr_1_4, gr_35_0, gr_35_1, gr_35_2, gr_35_3, gr_35_4]
    have hl : n < 24 := by clear hC hJ hI hX hT hLw hE h6 h5; (simp (disch := omega) only [Int32.le_iff_toInt_le, Int32.lt_iff_toInt_lt, c_i, m1_i, m5_i, m33_i] at * <;> omega)
    refine r_cn rfl rfl ((k_add v isR_33 t1 l6)) (by decide) ?_
    rw [if_pos hl]
    refine r_go 4 rfl ?_ ?_
    · (first | exact trivial | (simp only [ab_all] <;> decide))
    refine r_ret rfl trivial ?_
    simp only [gr_0_0, gr_0_1, gr_0_3, gr_0_4, gr_0_5, gr_0_6, gr_0_7, gr_1_0, gr_1_1, gr_1_2, gr_1_3, gr_1_4, gr_35_0, gr_35_1, gr_35_2, gr_35_3, gr_35_4]
    rw [up_us]
    have hP : S_tell v m = (nI (n + 1), ab_row m 219 (upd (upd (m 219) (456 + n) v) 6 (nI (n + 1)))) := by
        unfold S_tell
        rw [hn]
        exact if_pos hl
    refine cl_to hP (cl_w hJ hC (WhR_k hJ.1 hC.1 (fun k a b c => by rw [pk_un b, pk_un (by omega)]) (fun q a b c d => by rw [up_row (by omega), up_row (by omega)]) ?_ ?_) (fun q hq => by unfold irr at hq; rw [up_row (by omega), up_row (by omega)]) (fun q hq => by rw [up_row (by omega), up_row (by omega)]))
    · rw [pk_un (by decide), pk_un (by omega)]
      refine ⟨by rw [up_ne (by omega), up_ne (by omega)]; exact h5.1, fun k hk => ?_⟩
      have := (In5 hJ.1).2
      show _ = upd (upd (m 219) (456 + n) v) 6 (nI (n + 1)) (396 + k)
      rw [up_ne (by omega), up_ne (by omega), pk_un (by omega), pk_un (by omega)]
      exact h5.2 k hk
    · rw [pk_us, nI_cl (by omega)]
      refine ⟨up_us, fun k hk => ?_⟩
      show _ = upd (upd (m 219) (456 + n) v) 6 (nI (n + 1)) (456 + k)
      rw [up_ne (by omega), pk_un (by omega)]
      by_cases e : k = n
      · subst e
        rw [up_us, pk_us]
      · rw [up_ne (by omega), pk_un (by omega)]
        exact h6.2 k (by omega)
  · skip
    refine r_go 2 rfl ?_ ?_
    · (first | exact trivial | (simp only [ab_all] <;> decide))
    refine r_cv rfl rfl ((k_error 4 (by decide) (by decide) hE)) (by decide) ?_
    refine r_ret rfl trivial ?_
    exact cl_to (if_neg (by rw [hn]; clear hC hJ hI hX hT hLw hE h6 h5; (simp (disch := omega) only [Int32.le_iff_toInt_le, Int32.lt_iff_toInt_lt, c_i, m1_i, m5_i, m33_i] at * <;> omega))) (cl_er (by decide) (by decide) hJ hC)
theorem m_tell {i m : ab_I} (hm : mo i m) (hJ : InM m) (h13 : i 218 13 = (-1)) (v : Int32) : ab_K 1 245 [.ref 218, .int v] i (rfQ i (S_tell v m)) := by
  (have hI := hJ.1.1; have hX := InS_X hJ.1; have hs := hm.1)
  obtain ⟨e6, l6⟩ := In6 hJ.1
  generalize hn : (m 219 6).toNatClampNeg = n at e6 l6
  refine k_of rfl ?_
  refine r_go 5 rfl ?_ ?_
  · (simp only [ab_all, gr_218_0, nI_add]; repeat' (first | exact ix_219 (by omega) | rfl | decide | (unfold ab_nz; decide) | refine And.intro ?_ ?_))
  rw [rowI hs, nI_cl (by decide), ← e6]
  refine r_ne rfl (fun h9 => ?_) (fun h9 => ?_)
  · skip
    rw [nI_eq (by omega) (by omega)] at h9
    refine r_go 22 rfl ?_ ?_
    · (simp (disch := decide) only [ab_all, gr_218_0, nI_cl, hs, ← e6]; (simp only [ab_all, gr_218_0, nI_add]; repeat' (first | exact ix_219 (by omega) | rfl | decide | (unfold ab_nz; decide) | refine And.intro ?_ ?_)))
    refine r_ret rfl trivial ?_
    simp (disch := omega) only [gr_218_0, nI_add, nI_cl, hs, ← e6]
    rw [up_rowI hs]
    simp only [row_up, row_s]
    simp (disch := omega) only [pk_us, pk_un]
    rw [← e6, nI_add]
    have hP : S_tell v m = (nI (n + 1), ab_row m 219 (upd (upd (m 219) (456 + n) v) 6 (nI (n + 1)))) := by
        unfold S_tell
        rw [hn]
        exact if_pos (by omega)
    exact rf_to hP (rf_w hm h13)
  · skip
    rw [nI_eq (by omega) (by omega)] at h9
    refine r_go 2 rfl ?_ ?_
    · (first | exact trivial | assumption | (simp (disch := omega) [ab_all, ab_nz, *]; done))
    refine r_cv rfl rfl ((m_error 4 (by decide))) (by decide) ?_
    refine r_ret rfl trivial ?_
    exact rf_to (if_neg (by rw [hn]; omega)) (rf_er hm h13)
theorem n_tell {m : ab_I} (hJ : InM m) (v : Int32) : InM (S_tell v m).2 := by
  unfold S_tell
  obtain ⟨e6, l6⟩ := In6 hJ.1
  split
  · rename_i h
    refine InM_w hJ (InS_k hJ.1 (fun k a b c => by rw [pk_un b, pk_un (by omega)]) ?_ ⟨_, h, pk_us⟩)
    obtain ⟨n, hn, h4, h5⟩ := hJ.1.2.2.2.1
    exact ⟨n, hn, by rw [pk_un (by decide), pk_un (by omega)]; exact h4, fun k hk => by rw [pk_un (by omega), pk_un (by omega)]; exact h5 k hk⟩
  · exact InM_er hJ
