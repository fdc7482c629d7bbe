/-! a text worked out by the class -/
theorem k_cjoin {i : ab_I} (c x y : Int32) (hc : isSg c) : ab_K 0 39 [.int c, .int x, .int y] i (ab_V (.int (jn c x y)) i) := by
  refine k_of rfl ?_
  refine r_go 1 rfl ?_ ?_
  · (first | exact trivial | assumption | (simp (disch := omega) [ab_all, ab_nz, *]; done))
  refine r_sw rfl ?_
  refine r_swk (fun h1 => ?_) (fun h1 => ?_)
  · skip
    refine r_go 1 rfl ?_ ?_
    · (first | exact trivial | assumption | (simp (disch := omega) [ab_all, ab_nz, *]; done))
    refine r_br rfl (fun h178 => ?_) (fun h178 => ?_)
    · skip
      refine r_go 3 rfl ?_ ?_
      · (first | exact trivial | assumption | (simp (disch := omega) [ab_all, ab_nz, *]; done))
      refine r_ret rfl trivial ?_
      (subst h1; refine lv_e ?_; simp (decide := true) only [jn, if_true, if_false] <;> simp [*, bI] <;> (intro z; exfalso; (simp (disch := omega) only [Int32.le_iff_toInt_le, Int32.lt_iff_toInt_lt, c_i, m1_i, m5_i, m33_i] at * <;> omega)))
    · skip
      refine r_go 2 rfl ?_ ?_
      · (first | exact trivial | assumption | (simp (disch := omega) [ab_all, ab_nz, *]; done))
      refine r_ret rfl trivial ?_
      (subst h1; refine lv_e ?_; simp (decide := true) only [jn, if_true, if_false] <;> simp [*, bI] <;> (intro z; exfalso; (simp (disch := omega) only [Int32.le_iff_toInt_le, Int32.lt_iff_toInt_lt, c_i, m1_i, m5_i, m33_i] at * <;> omega)))
  refine r_swk (fun h1 => ?_) (fun h1 => ?_)
  · skip
    refine r_go 1 rfl ?_ ?_
    · (first | exact trivial | assumption | (simp (disch := omega) [ab_all, ab_nz, *]; done))
    refine r_br rfl (fun h107 => ?_) (fun h107 => ?_)
    · skip
      refine r_go 1 rfl ?_ ?_
      · (first | exact trivial | assumption | (simp (disch := omega) [ab_all, ab_nz, *]; done))
      refine r_ret rfl trivial ?_
      (subst h1; refine lv_e ?_; simp (decide := true) only [jn, if_true, if_false] <;> simp [*, bI] <;> (intro z; exfalso; (simp (disch := omega) only [Int32.le_iff_toInt_le, Int32.lt_iff_toInt_lt, c_i, m1_i, m5_i, m33_i] at * <;> omega)))
    · skip
      refine r_go 1 rfl ?_ ?_
      · (first | exact trivial | assumption | (simp (disch := omega) [ab_all, ab_nz, *]; done))
      refine r_br rfl (fun h111 => ?_) (fun h111 => ?_)
      · skip
        refine r_go 1 rfl ?_ ?_
        · (first | exact trivial | assumption | (simp (disch := omega) [ab_all, ab_nz, *]; done))
        refine r_ret rfl trivial ?_
        (subst h1; refine lv_e ?_; simp (decide := true) only [jn, if_true, if_false] <;> simp [*, bI] <;> (intro z; exfalso; (simp (disch := omega) only [Int32.le_iff_toInt_le, Int32.lt_iff_toInt_lt, c_i, m1_i, m5_i, m33_i] at * <;> omega)))
      · skip
        refine r_go 2 rfl ?_ ?_
        · (first | exact trivial | assumption | (simp (disch := omega) [ab_all, ab_nz, *]; done))
        refine r_ret rfl trivial ?_
        (subst h1; refine lv_e ?_; simp (decide := true) only [jn, if_true, if_false] <;> simp [*, bI] <;> (intro z; exfalso; (simp (disch := omega) only [Int32.le_iff_toInt_le, Int32.lt_iff_toInt_lt, c_i, m1_i, m5_i, m33_i] at * <;> omega)))
  refine r_swk (fun h1 => ?_) (fun h1 => ?_)
  · skip
    refine r_go 3 rfl ?_ ?_
    · (first | exact trivial | assumption | (simp (disch := omega) [ab_all, ab_nz, *]; done))
    refine r_ret rfl trivial ?_
    (subst h1; refine lv_e ?_; simp (decide := true) only [jn, if_true, if_false] <;> simp [*, bI] <;> (intro z; exfalso; (simp (disch := omega) only [Int32.le_iff_toInt_le, Int32.lt_iff_toInt_lt, c_i, m1_i, m5_i, m33_i] at * <;> omega)))
  refine r_swk (fun h1 => ?_) (fun h1 => ?_)
  · skip
    refine r_go 3 rfl ?_ ?_
    · (first | exact trivial | assumption | (simp (disch := omega) [ab_all, ab_nz, *]; done))
    refine r_ret rfl trivial ?_
    (subst h1; refine lv_e ?_; simp (decide := true) only [jn, if_true, if_false] <;> simp [*, bI] <;> (intro z; exfalso; (simp (disch := omega) only [Int32.le_iff_toInt_le, Int32.lt_iff_toInt_lt, c_i, m1_i, m5_i, m33_i] at * <;> omega)))
  refine r_swk (fun h1 => ?_) (fun h1 => ?_)
  · skip
    refine r_go 3 rfl ?_ ?_
    · (first | exact trivial | assumption | (simp (disch := omega) [ab_all, ab_nz, *]; done))
    refine r_ret rfl trivial ?_
    (subst h1; refine lv_e ?_; simp (decide := true) only [jn, if_true, if_false] <;> simp [*, bI] <;> (intro z; exfalso; (simp (disch := omega) only [Int32.le_iff_toInt_le, Int32.lt_iff_toInt_lt, c_i, m1_i, m5_i, m33_i] at * <;> omega)))
  refine r_swk (fun h1 => ?_) (fun h1 => ?_)
  · skip
    refine r_go 1 rfl ?_ ?_
    · (first | exact trivial | assumption | (simp (disch := omega) [ab_all, ab_nz, *]; done))
    refine r_br rfl (fun h166 => ?_) (fun h166 => ?_)
    · skip
      refine r_go 3 rfl ?_ ?_
      · (first | exact trivial | assumption | (simp (disch := omega) [ab_all, ab_nz, *]; done))
      refine r_ret rfl trivial ?_
      (subst h1; refine lv_e ?_; simp (decide := true) only [jn, if_true, if_false] <;> simp [*, bI] <;> (intro z; exfalso; (simp (disch := omega) only [Int32.le_iff_toInt_le, Int32.lt_iff_toInt_lt, c_i, m1_i, m5_i, m33_i] at * <;> omega)))
    · skip
      refine r_go 2 rfl ?_ ?_
      · (first | exact trivial | assumption | (simp (disch := omega) [ab_all, ab_nz, *]; done))
      refine r_ret rfl trivial ?_
      (subst h1; refine lv_e ?_; simp (decide := true) only [jn, if_true, if_false] <;> simp [*, bI] <;> (intro z; exfalso; (simp (disch := omega) only [Int32.le_iff_toInt_le, Int32.lt_iff_toInt_lt, c_i, m1_i, m5_i, m33_i] at * <;> omega)))
  refine r_swk (fun h1 => ?_) (fun h1 => ?_)
  · skip
    refine r_go 2 rfl ?_ ?_
    · (first | exact trivial | assumption | (simp (disch := omega) [ab_all, ab_nz, *]; done))
    refine r_br rfl (fun h122 => ?_) (fun h122 => ?_)
    · skip
      refine r_go 1 rfl ?_ ?_
      · (first | exact trivial | assumption | (simp (disch := omega) [ab_all, ab_nz, *]; done))
      refine r_ret rfl trivial ?_
      (subst h1; refine lv_e ?_; simp (decide := true) only [jn, if_true, if_false] <;> simp [*, bI] <;> (intro z; exfalso; (simp (disch := omega) only [Int32.le_iff_toInt_le, Int32.lt_iff_toInt_lt, c_i, m1_i, m5_i, m33_i] at * <;> omega)))
    · skip
      refine r_go 2 rfl ?_ ?_
      · (first | exact trivial | assumption | (simp (disch := omega) [ab_all, ab_nz, *]; done))
      refine r_ret rfl trivial ?_
      (subst h1; refine lv_e ?_; simp (decide := true) only [jn, if_true, if_false] <;> simp [*, bI] <;> (intro z; exfalso; (simp (disch := omega) only [Int32.le_iff_toInt_le, Int32.lt_iff_toInt_lt, c_i, m1_i, m5_i, m33_i] at * <;> omega)))
  refine r_swk (fun h1 => ?_) (fun h1 => ?_)
  · skip
    refine r_go 2 rfl ?_ ?_
    · (first | exact trivial | assumption | (simp (disch := omega) [ab_all, ab_nz, *]; done))
    refine r_br rfl (fun h133 => ?_) (fun h133 => ?_)
    · skip
      refine r_go 1 rfl ?_ ?_
      · (first | exact trivial | assumption | (simp (disch := omega) [ab_all, ab_nz, *]; done))
      refine r_ret rfl trivial ?_
      (subst h1; refine lv_e ?_; simp (decide := true) only [jn, if_true, if_false] <;> simp [*, bI] <;> (intro z; exfalso; (simp (disch := omega) only [Int32.le_iff_toInt_le, Int32.lt_iff_toInt_lt, c_i, m1_i, m5_i, m33_i] at * <;> omega)))
    · skip
      refine r_go 2 rfl ?_ ?_
      · (first | exact trivial | assumption | (simp (disch := omega) [ab_all, ab_nz, *]; done))
      refine r_ret rfl trivial ?_
      (subst h1; refine lv_e ?_; simp (decide := true) only [jn, if_true, if_false] <;> simp [*, bI] <;> (intro z; exfalso; (simp (disch := omega) only [Int32.le_iff_toInt_le, Int32.lt_iff_toInt_lt, c_i, m1_i, m5_i, m33_i] at * <;> omega)))
  refine r_swk (fun h1 => ?_) (fun h1 => ?_)
  · skip
    refine r_go 2 rfl ?_ ?_
    · (first | exact trivial | assumption | (simp (disch := omega) [ab_all, ab_nz, *]; done))
    refine r_br rfl (fun h144 => ?_) (fun h144 => ?_)
    · skip
      refine r_go 1 rfl ?_ ?_
      · (first | exact trivial | assumption | (simp (disch := omega) [ab_all, ab_nz, *]; done))
      refine r_ret rfl trivial ?_
      (subst h1; refine lv_e ?_; simp (decide := true) only [jn, if_true, if_false] <;> simp [*, bI] <;> (intro z; exfalso; (simp (disch := omega) only [Int32.le_iff_toInt_le, Int32.lt_iff_toInt_lt, c_i, m1_i, m5_i, m33_i] at * <;> omega)))
    · skip
      refine r_go 2 rfl ?_ ?_
      · (first | exact trivial | assumption | (simp (disch := omega) [ab_all, ab_nz, *]; done))
      refine r_ret rfl trivial ?_
      (subst h1; refine lv_e ?_; simp (decide := true) only [jn, if_true, if_false] <;> simp [*, bI] <;> (intro z; exfalso; (simp (disch := omega) only [Int32.le_iff_toInt_le, Int32.lt_iff_toInt_lt, c_i, m1_i, m5_i, m33_i] at * <;> omega)))
  refine r_swk (fun h1 => ?_) (fun h1 => ?_)
  · skip
    refine r_go 1 rfl ?_ ?_
    · (first | exact trivial | assumption | (simp (disch := omega) [ab_all, ab_nz, *]; done))
    refine r_br rfl (fun h93 => ?_) (fun h93 => ?_)
    · skip
      refine r_go 2 rfl ?_ ?_
      · (first | exact trivial | assumption | (simp (disch := omega) [ab_all, ab_nz, *]; done))
      refine r_ret rfl trivial ?_
      (subst h1; refine lv_e ?_; simp (decide := true) only [jn, if_true, if_false] <;> simp [*, bI] <;> (intro z; exfalso; (simp (disch := omega) only [Int32.le_iff_toInt_le, Int32.lt_iff_toInt_lt, c_i, m1_i, m5_i, m33_i] at * <;> omega)))
    · skip
      refine r_go 1 rfl ?_ ?_
      · (first | exact trivial | assumption | (simp (disch := omega) [ab_all, ab_nz, *]; done))
      refine r_br rfl (fun h97 => ?_) (fun h97 => ?_)
      · skip
        refine r_go 1 rfl ?_ ?_
        · (first | exact trivial | assumption | (simp (disch := omega) [ab_all, ab_nz, *]; done))
        refine r_ret rfl trivial ?_
        (subst h1; refine lv_e ?_; simp (decide := true) only [jn, if_true, if_false] <;> simp [*, bI] <;> (intro z; exfalso; (simp (disch := omega) only [Int32.le_iff_toInt_le, Int32.lt_iff_toInt_lt, c_i, m1_i, m5_i, m33_i] at * <;> omega)))
      · skip
        refine r_go 2 rfl ?_ ?_
        · (first | exact trivial | assumption | (simp (disch := omega) [ab_all, ab_nz, *]; done))
        refine r_ret rfl trivial ?_
        (subst h1; refine lv_e ?_; simp (decide := true) only [jn, if_true, if_false] <;> simp [*, bI] <;> (intro z; exfalso; (simp (disch := omega) only [Int32.le_iff_toInt_le, Int32.lt_iff_toInt_lt, c_i, m1_i, m5_i, m33_i] at * <;> omega)))
  refine r_go 1 rfl ?_ ?_
  · (first | exact trivial | assumption | (simp (disch := omega) [ab_all, ab_nz, *]; done))
  refine r_ret rfl trivial ?_
  (exfalso; unfold isSg at hc; simp_all)
theorem rowAt_nI {i : ab_I} {q N k : Nat} (h : k < N) (hN : N ≤ 1000) : rowAt i q N (nI k) = i (q + 1) k := by
  unfold rowAt
  rw [c_i (by omega), nI_cl (by omega), if_pos (by omega)]
def lo38 (c n k : Nat) : ab_L := [some (.ref c), none, none, none, none, none, some (.int (nI (n + 4))), some (.int (nI k)), none]
theorem wo_num {c n k N : Nat} {i : ab_I} {x : Int32} {Q : Option Value → ab_I → Prop}  (hL : isL c) (hs : i (c + 1) 1 = nI N) (hk : k < N) (hN : N ≤ 60) (hx : i (c + 2) k = x) (hn : n ≤ k) (h0 : 0 ≤ x.toInt) (K : ab_R 1 tb_X2_workOut 43 (lo38 c (n + 1) (k + 1)) [] (ab_up i (c + 3) (n + 5) x) Q) : ab_R 1 tb_X2_workOut 43 (lo38 c n k) [] i Q := by
  (have hr := gr_l0 hL; have hr1 := gr_l1 hL; have h2 := hL.1; have h3 := hL.2.2; have h5 := hL.2.1.1)
  refine r_go 4 rfl ?_ ?_
  · (simp [ab_all, hr, hr1, h2, h5])
  refine r_brF rfl (fun h => by rw [hr, hs] at h; clear hr hr1 h2 h3 h5 hL hs K; (simp (disch := omega) only [Int32.le_iff_toInt_le, Int32.lt_iff_toInt_lt, c_i, m1_i, m5_i, m33_i] at * <;> omega)) ?_
  refine r_go 3 rfl ?_ ?_
  · (simp [ab_all, hr, hr1, h2, h5])
  rw [hr]
  refine r_cv rfl (by assumption) ((k_at (nI k) hL.2.1 hs (by omega))) (by decide) ?_
  rw [rowAt_nI hk (by omega), hx]
  refine r_go 3 rfl ?_ ?_
  · (simp [ab_all, hr, hr1, h2, h5])
  refine r_brF rfl (fun h => by clear hr hr1 h2 h3 h5 hL hs K; (simp (disch := omega) only [Int32.le_iff_toInt_le, Int32.lt_iff_toInt_lt, c_i, m1_i, m5_i, m33_i] at * <;> omega)) ?_
  refine r_go 6 rfl ?_ ?_
  · (simp [ab_all, hr1, h2, h3])
  refine r_brF rfl (fun h => by rw [hr1, h3] at h; dsimp only at h; rw [nI_add] at h; clear hr hr1 h2 h3 h5 hL hs K; (simp (disch := omega) only [Int32.le_iff_toInt_le, Int32.lt_iff_toInt_lt, c_i, m1_i, m5_i, m33_i] at * <;> omega)) ?_
  refine r_go 5 rfl ?_ ?_
  · (simp [ab_all, hr, hr1, h2, h5])
  refine r_brF rfl (fun h => by clear hr hr1 h2 h3 h5 hL hs K; (simp (disch := omega) only [Int32.le_iff_toInt_le, Int32.lt_iff_toInt_lt, c_i, m1_i, m5_i, m33_i] at * <;> omega)) ?_
  refine r_go 6 rfl ?_ ?_
  · (simp only [ab_all, hr1, nI_add]; exact ix_of h3 (by omega) (by omega))
  rw [hr1, nI_add, nI_cl (by omega)]
  rw [nI_add]
  exact r_lk K rfl
theorem wo_name {c n k N j : Nat} {i : ab_I} {x : Int32} {Q : Option Value → ab_I → Prop}  (hL : isL c) (hs : i (c + 1) 1 = nI N) (hk : k < N) (hN : N ≤ 60) (hx : i (c + 2) k = x) (hn : n ≤ k) (hj : j < 5) (h0 : x = (-1) - nI j) (K : ab_R 1 tb_X2_workOut 43 (lo38 c (n + 1) (k + 1)) [] (ab_up i (c + 3) (n + 5) (i (c + 3) j)) Q) : ab_R 1 tb_X2_workOut 43 (lo38 c n k) [] i Q := by
  (have hr := gr_l0 hL; have hr1 := gr_l1 hL; have h2 := hL.1; have h3 := hL.2.2; have h5 := hL.2.1.1)
  have hxi : x.toInt = -1 - j := by rw [h0, su_i (by (simp (disch := omega) only [Int32.le_iff_toInt_le, Int32.lt_iff_toInt_lt, c_i, m1_i, m5_i, m33_i] at * <;> omega)) (by (simp (disch := omega) only [Int32.le_iff_toInt_le, Int32.lt_iff_toInt_lt, c_i, m1_i, m5_i, m33_i] at * <;> omega))]; (simp (disch := omega) only [Int32.le_iff_toInt_le, Int32.lt_iff_toInt_lt, c_i, m1_i, m5_i, m33_i] at * <;> omega)
  have hxj : (-1) - x = nI j := by
    refine eq_i.mpr ?_
    rw [su_i (by rw [hxi]; (simp (disch := omega) only [Int32.le_iff_toInt_le, Int32.lt_iff_toInt_lt, c_i, m1_i, m5_i, m33_i] at * <;> omega)) (by rw [hxi]; (simp (disch := omega) only [Int32.le_iff_toInt_le, Int32.lt_iff_toInt_lt, c_i, m1_i, m5_i, m33_i] at * <;> omega)), hxi, c_i (by omega), m1_i]
    omega
  refine r_go 4 rfl ?_ ?_
  · (simp [ab_all, hr, hr1, h2, h5])
  refine r_brF rfl (fun h => by rw [hr, hs] at h; clear hr hr1 h2 h3 h5 hL hs K hxj h0; (simp (disch := omega) only [Int32.le_iff_toInt_le, Int32.lt_iff_toInt_lt, c_i, m1_i, m5_i, m33_i] at * <;> omega)) ?_
  refine r_go 3 rfl ?_ ?_
  · (simp [ab_all, hr, hr1, h2, h5])
  rw [hr]
  refine r_cv rfl (by assumption) ((k_at (nI k) hL.2.1 hs (by omega))) (by decide) ?_
  rw [rowAt_nI hk (by omega), hx]
  refine r_go 3 rfl ?_ ?_
  · (simp [ab_all, hr, hr1, h2, h5])
  refine r_brF rfl (fun h => by clear hr hr1 h2 h3 h5 hL hs K hxj h0; (simp (disch := omega) only [Int32.le_iff_toInt_le, Int32.lt_iff_toInt_lt, c_i, m1_i, m5_i, m33_i] at * <;> omega)) ?_
  refine r_go 6 rfl ?_ ?_
  · (simp [ab_all, hr1, h2, h3])
  refine r_brF rfl (fun h => by rw [hr1, h3] at h; dsimp only at h; rw [nI_add] at h; clear hr hr1 h2 h3 h5 hL hs K hxj h0; (simp (disch := omega) only [Int32.le_iff_toInt_le, Int32.lt_iff_toInt_lt, c_i, m1_i, m5_i, m33_i] at * <;> omega)) ?_
  refine r_go 5 rfl ?_ ?_
  · (simp [ab_all, hr, hr1, h2, h5])
  refine r_brT rfl (by clear hr hr1 h2 h3 h5 hL hs K hxj h0; (simp (disch := omega) only [Int32.le_iff_toInt_le, Int32.lt_iff_toInt_lt, c_i, m1_i, m5_i, m33_i] at * <;> omega)) ?_
  refine r_go 5 rfl ?_ ?_
  · (simp [ab_all, hr1, h2])
  rw [hxj]
  refine r_go 5 rfl ?_ ?_
  · (simp only [ab_all, hr1, nI_add]; exact ⟨ix_of h3 (by omega) (by omega), ix_of h3 (by omega) (by omega)⟩)
  rw [hr1, nI_add, nI_cl (by omega), nI_cl (by omega)]
  rw [nI_add]
  exact r_lk K rfl
theorem wo_not {c n k N : Nat} {i : ab_I} {x : Int32} {Q : Option Value → ab_I → Prop}  (hL : isL c) (hs : i (c + 1) 1 = nI N) (hk : k < N) (hN : N ≤ 60) (hx : i (c + 2) k = x) (hn : n ≤ k) (h0 : x = (-33)) (h1 : 1 ≤ n) (K : ab_R 1 tb_X2_workOut 43 (lo38 c n (k + 1)) [] (ab_up i (c + 3) (n + 4) (bI (i (c + 3) (n + 4) = nI 0))) Q) : ab_R 1 tb_X2_workOut 43 (lo38 c n k) [] i Q := by
  (have hr := gr_l0 hL; have hr1 := gr_l1 hL; have h2 := hL.1; have h3 := hL.2.2; have h5 := hL.2.1.1)
  subst h0
  refine r_go 4 rfl ?_ ?_
  · (simp [ab_all, hr, hr1, h2, h5])
  refine r_brF rfl (fun h => by rw [hr, hs] at h; clear hr hr1 h2 h3 h5 hL hs K hx; (simp (disch := omega) only [Int32.le_iff_toInt_le, Int32.lt_iff_toInt_lt, c_i, m1_i, m5_i, m33_i] at * <;> omega)) ?_
  refine r_go 3 rfl ?_ ?_
  · (simp [ab_all, hr, hr1, h2, h5])
  rw [hr]
  refine r_cv rfl (by assumption) ((k_at (nI k) hL.2.1 hs (by omega))) (by decide) ?_
  rw [rowAt_nI hk (by omega), hx]
  refine r_go 3 rfl ?_ ?_
  · (simp [ab_all, hr, hr1, h2, h5])
  refine r_brT rfl (by clear hr hr1 h2 h3 h5 hL hs K hx; (simp (disch := omega) only [Int32.le_iff_toInt_le, Int32.lt_iff_toInt_lt, c_i, m1_i, m5_i, m33_i] at * <;> omega)) ?_
  refine r_go 2 rfl ?_ ?_
  · (simp [ab_all, hr, hr1, h2, h5])
  refine r_brF rfl (fun h => h rfl) ?_
  refine r_go 7 rfl ?_ ?_
  · (simp only [ab_all, hr1, h2]; exact ⟨ix_of h3 (by omega) (by omega), by simp⟩)
  refine r_br rfl (fun h137 => ?_) (fun h137 => ?_)
  · skip
    refine r_go 5 rfl ?_ ?_
    · (simp only [ab_all, hr1]; exact ix_of h3 (by omega) (by omega))
    rw [hr1, nI_cl (by omega)] at *
    first | rw [bI_t (Classical.not_not.mp h137)] at K | rw [bI_f h137] at K
    rw [nI_add]
    exact r_lk K rfl
  · skip
    refine r_go 6 rfl ?_ ?_
    · (simp only [ab_all, hr1]; exact ix_of h3 (by omega) (by omega))
    rw [hr1, nI_cl (by omega)] at *
    first | rw [bI_t (Classical.not_not.mp h137)] at K | rw [bI_f h137] at K
    rw [nI_add]
    exact r_lk K rfl
theorem wo_sign {c n k N : Nat} {i : ab_I} {x v : Int32} {Q : Option Value → ab_I → Prop}  (hL : isL c) (hs : i (c + 1) 1 = nI N) (hk : k < N) (hN : N ≤ 60) (hx : i (c + 2) k = x) (hn : n ≤ k) (h0 : x = -v) (h1 : 2 ≤ n) (hv : isSg v) (K : ab_R 1 tb_X2_workOut 43 (lo38 c (n - 1) (k + 1)) [] (ab_up i (c + 3) (n + 3) (jn v (i (c + 3) (n + 3)) (i (c + 3) (n + 4)))) Q) : ab_R 1 tb_X2_workOut 43 (lo38 c n k) [] i Q := by
  (have hr := gr_l0 hL; have hr1 := gr_l1 hL; have h2 := hL.1; have h3 := hL.2.2; have h5 := hL.2.1.1)
  have hxv : -x = v := by rw [h0, Int32.neg_neg]
  have hxi : x.toInt < -5 ∧ ¬ x = (-33) := by
    subst h0
    unfold isSg at hv
    rcases hv with rfl | rfl | rfl | rfl | rfl | rfl | rfl | rfl | rfl | rfl <;> decide
  refine r_go 4 rfl ?_ ?_
  · (simp [ab_all, hr, hr1, h2, h5])
  refine r_brF rfl (fun h => by rw [hr, hs] at h; clear hr hr1 h2 h3 h5 hL hs K hx h0 hxv hv; (simp (disch := omega) only [Int32.le_iff_toInt_le, Int32.lt_iff_toInt_lt, c_i, m1_i, m5_i, m33_i] at * <;> omega)) ?_
  refine r_go 3 rfl ?_ ?_
  · (simp [ab_all, hr, hr1, h2, h5])
  rw [hr]
  refine r_cv rfl (by assumption) ((k_at (nI k) hL.2.1 hs (by omega))) (by decide) ?_
  rw [rowAt_nI hk (by omega), hx]
  refine r_go 3 rfl ?_ ?_
  · (simp [ab_all, hr, hr1, h2, h5])
  refine r_brT rfl (by clear hr hr1 h2 h3 h5 hL hs K hx h0 hxv hv; (simp (disch := omega) only [Int32.le_iff_toInt_le, Int32.lt_iff_toInt_lt, c_i, m1_i, m5_i, m33_i] at * <;> omega)) ?_
  refine r_go 2 rfl ?_ ?_
  · (simp [ab_all, hr, hr1, h2, h5])
  refine r_brT rfl (hxi.2) ?_
  refine r_go 2 rfl ?_ ?_
  · (simp [ab_all, hr, hr1, h2, h5])
  refine r_brF rfl (fun h => by clear hr hr1 h2 h3 h5 hL hs K hx h0 hxv hv; (simp (disch := omega) only [Int32.le_iff_toInt_le, Int32.lt_iff_toInt_lt, c_i, m1_i, m5_i, m33_i] at * <;> omega)) ?_
  refine r_go 1 rfl ?_ ?_
  · (simp [ab_all, hr, hr1, h2, h5])
  rw [show nI (n + 4) + (-1) = nI (n + 3) from pk_m1 (n + 3)]
  refine r_go 15 rfl ?_ ?_
  · (simp only [ab_all, hr1, h2, nI_add]; exact ⟨ix_of h3 (by omega) (by omega), by simp, ix_of h3 (by omega) (by omega), by simp⟩)
  rw [hxv]
  refine r_cv rfl trivial ((k_cjoin _ _ _ hv)) (by decide) ?_
  refine r_go 3 rfl ?_ ?_
  · (simp only [ab_all, hr1]; exact ix_of h3 (by omega) (by omega))
  rw [hr1, nI_add, nI_cl (by omega), nI_add, nI_cl (by omega)]
  unfold lo38 at K
  rw [show n - 1 + 4 = n + 3 by omega] at K
  exact r_lk K rfl
theorem enc_num {u : Nat} {e : Int32 × Int32} (h : e.1 = nI 0) : enc u e = e.2 := if_pos h
theorem enc_name {u : Nat} {e : Int32 × Int32} (h : e.1 = nI 1) : enc u e = (-1) - nI (idN u e.2) := by unfold enc; rw [h, if_neg (by decide), if_pos rfl]
theorem enc_not {u : Nat} {e : Int32 × Int32} (h : e.1 = nI 2) : enc u e = (-33) := by unfold enc; rw [h, if_neg (by decide), if_neg (by decide), if_pos rfl]
theorem enc_sign {u : Nat} {e : Int32 × Int32} (h : e.1 = nI 3) : enc u e = -e.2 := by unfold enc; rw [h, if_neg (by decide), if_neg (by decide), if_neg (by decide)]
theorem idN_lt {u : Nat} {v : Int32} : idN u v < 5 := by
  unfold idN
  repeat' split
  all_goals omega
theorem ev_num {nm : Nat → Int32} {e : Int32 × Int32} {p : Vc × Nat} (h : e.1 = nI 0) : ev1 nm e p = (upd p.1 p.2 e.2, p.2 + 1) := if_pos h
theorem ev_name {nm : Nat → Int32} {e : Int32 × Int32} {p : Vc × Nat} (h : e.1 = nI 1) : ev1 nm e p = (upd p.1 p.2 (nm e.2.toNatClampNeg), p.2 + 1) := by unfold ev1; rw [h, if_neg (by decide), if_pos rfl]
theorem ev_not {nm : Nat → Int32} {e : Int32 × Int32} {p : Vc × Nat} (h : e.1 = nI 2) : ev1 nm e p = (upd p.1 (p.2 - 1) (bI (p.1 (p.2 - 1) = nI 0)), p.2) := by unfold ev1; rw [h, if_neg (by decide), if_neg (by decide), if_pos rfl]
theorem ev_sign {nm : Nat → Int32} {e : Int32 × Int32} {p : Vc × Nat} (h : e.1 = nI 3) : ev1 nm e p = (upd p.1 (p.2 - 2) (jn e.2 (p.1 (p.2 - 2)) (p.1 (p.2 - 1))), p.2 - 1) := by unfold ev1; rw [h, if_neg (by decide), if_neg (by decide), if_neg (by decide)]
theorem nx_num {e : Int32 × Int32} {n : Nat} (h : e.1 = nI 0) : nxE e n = n + 1 := if_pos h
theorem nx_name {e : Int32 × Int32} {n : Nat} (h : e.1 = nI 1) : nxE e n = n + 1 := by unfold nxE; rw [h, if_neg (by decide), if_pos rfl]
theorem nx_not {e : Int32 × Int32} {n : Nat} (h : e.1 = nI 2) : nxE e n = n := by unfold nxE; rw [h, if_neg (by decide), if_neg (by decide), if_pos rfl]
theorem nx_sign {e : Int32 × Int32} {n : Nat} (h : e.1 = nI 3) : nxE e n = n - 1 := by unfold nxE; rw [h, if_neg (by decide), if_neg (by decide), if_neg (by decide)]
/-- the class's stack holds the pile, its names at its foot -/
def stk (q u : Nat) (nm : Nat → Int32) (f : Vc) (n : Nat) (i : ab_I) : Prop := (∀ v, isNm u v → i q (idN u v) = nm v.toNatClampNeg) ∧ ∀ j, j < n → i q (j + 5) = f j
theorem stk_up {q u n n' k : Nat} {nm : Nat → Int32} {f : Vc} {i : ab_I} {x : Int32} (h : stk q u nm f n i) (h1 : ∀ j, j < n' → j ≠ k → j < n) : stk q u nm (upd f k x) n' (ab_up i q (k + 5) x) := by
  refine ⟨fun v hv => ?_, fun j hj => ?_⟩
  · have := @idN_lt u v
    rw [up_ne (by omega)]
    exact h.1 v hv
  · by_cases e : j = k
    · subst e
      rw [up_us, pk_us]
    · rw [up_ne (by omega), pk_un e]
      exact h.2 j (h1 j hj e)
theorem wo_loop {c u : Nat} {nm : Nat → Int32} {L : List (Int32 × Int32)} {i0 : ab_I} (hL : isL c) (hs : i0 (c + 1) 1 = nI L.length) (hN : L.length ≤ 60) (hT : ∀ k (h : k < L.length), i0 (c + 2) k = enc u L[k]) (m k n : Nat) (f : Vc) (i : ab_I) (hm : L.length - k < m) (hk : k ≤ L.length) (hn : n ≤ k) (hw : wf u (L.drop k) n 1) (hst : stk (c + 3) u nm f n i) (hi : ∀ q, q ≠ c + 3 → i q = i0 q) : ab_R 1 tb_X2_workOut 43 (lo38 c n k) [] i (fun v i' => v = some (.int ((evs nm (L.drop k) (f, n)).1 0)) ∧ ∀ q, q ≠ c + 3 → i' q = i0 q) := by
  induction m generalizing k n f i with
  | zero => exact absurd hm (by omega)
  | succ m ih =>
    have hs' : i (c + 1) 1 = nI L.length := by rw [hi _ (by omega)]; exact hs
    by_cases hkN : k < L.length
    · have hd : L.drop k = L[k] :: L.drop (k + 1) := List.drop_eq_getElem_cons hkN
      have hx : i (c + 2) k = enc u L[k] := by rw [hi _ (by omega)]; exact hT k hkN
      rw [hd] at hw ⊢
      obtain ⟨ho, hw⟩ := hw
      have hf : ∀ {z : Nat} {y : Int32} (q : Nat), q ≠ c + 3 → ab_up i (c + 3) z y q = i0 q := fun q hq => by rw [up_row hq]; exact hi q hq
      show ab_R 1 tb_X2_workOut 43 (lo38 c n k) [] i (fun v i' => v = some (.int ((evs nm (L.drop (k + 1)) (ev1 nm L[k] (f, n))).1 0)) ∧ ∀ q, q ≠ c + 3 → i' q = i0 q)
      rcases ho with ⟨e1, hr⟩ | ⟨e1, hr⟩ | ⟨e1, hr⟩ | ⟨e1, hv, hr⟩
      · rw [ev_num e1]
        rw [nx_num e1] at hw
        rw [enc_num e1] at hx
        exact wo_num hL hs' hkN hN hx hn hr.1 (ih (k + 1) (n + 1) _ _ (by omega) hkN (by omega) hw (stk_up hst (fun j _ _ => by omega)) hf)
      · rw [ev_name e1]
        rw [nx_name e1] at hw
        rw [enc_name e1] at hx
        refine wo_name hL hs' hkN hN hx hn idN_lt rfl ?_
        rw [hst.1 _ hr]
        exact ih (k + 1) (n + 1) _ _ (by omega) hkN (by omega) hw (stk_up hst (fun j _ _ => by omega)) hf
      · rw [ev_not e1]
        rw [nx_not e1] at hw
        rw [enc_not e1] at hx
        have e5 : n + 4 = n - 1 + 5 := by omega
        refine wo_not hL hs' hkN hN hx hn rfl hr ?_
        rw [e5, hst.2 (n - 1) (by omega)]
        exact ih (k + 1) n _ _ (by omega) hkN (by omega) hw (stk_up hst (fun j _ _ => by omega)) hf
      · rw [ev_sign e1]
        rw [nx_sign e1] at hw
        rw [enc_sign e1] at hx
        have e5 : n + 4 = n - 1 + 5 := by omega
        have e6 : n + 3 = n - 2 + 5 := by omega
        refine wo_sign hL hs' hkN hN hx hn rfl hr hv ?_
        rw [e5, e6, hst.2 (n - 1) (by omega), hst.2 (n - 2) (by omega)]
        exact ih (k + 1) (n - 1) _ _ (by omega) hkN (by omega) hw (stk_up hst (fun j _ _ => by omega)) hf
    have hkN' : k = L.length := by omega
    subst hkN'
    rw [List.drop_length] at hw ⊢
    have hn1 : n = 1 := hw
    subst hn1
    have hr := gr_l0 hL
    have hr1 := gr_l1 hL
    have h2 := hL.1
    have h3 := hL.2.2
    have h5 := hL.2.1.1
    refine r_go 4 rfl ?_ ?_
    · (simp [ab_all, hr, hr1, h2, h5])
    refine r_brT rfl (by rw [hr, hs']; exact nI_le (Nat.le_refl _) (by omega)) ?_
    refine r_go 4 rfl ?_ ?_
    · (simp only [ab_all, hr1, h2]; exact ⟨ix_of h3 (by omega) (by omega), trivial, by omega⟩)
    refine r_ret rfl trivial ?_
    rw [hr1, nI_cl (by omega), show 1 + 4 = 0 + 5 from rfl, hst.2 0 (by omega)]
    exact ⟨rfl, hi⟩
theorem k_work {c u : Nat} {nm : Nat → Int32} {L : List (Int32 × Int32)} {i : ab_I} (x0 x1 x2 x3 x4 : Int32) (hL : isL c) (hs : i (c + 1) 1 = nI L.length) (hN : L.length ≤ 60) (hT : ∀ k (h : k < L.length), i (c + 2) k = enc u L[k]) (hw : wf u L 0 1) (hnm : ∀ v, isNm u v → (if idN u v = 0 then x0 else if idN u v = 1 then x1 else if idN u v = 2 then x2 else if idN u v = 3 then x3 else x4) = nm v.toNatClampNeg) : ab_K 1 38 [.ref c, .int x0, .int x1, .int x2, .int x3, .int x4] i (fun v i' => v = some (.int (wk nm L)) ∧ ∀ q, q ≠ c + 3 → i' q = i q) := by
  have hr1 := gr_l1 hL
  have h2 := hL.1
  have h3 := hL.2.2
  refine k_of rfl ?_
  refine r_go 29 rfl ?_ ?_
  · (simp only [ab_all, hr1, h2]; refine ⟨ix_of h3 (by omega) (by omega), ⟨trivial, by omega⟩, ix_of h3 (by omega) (by omega), ⟨trivial, by omega⟩, ix_of h3 (by omega) (by omega), ⟨trivial, by omega⟩, ix_of h3 (by omega) (by omega), ⟨trivial, by omega⟩, ix_of h3 (by omega) (by omega), trivial, by omega⟩)
  rw [hr1]
  refine r_lk (ls' := lo38 c 0 0) (wo_loop (i0 := i) (u := u) hL hs hN hT (L.length + 1) 0 0 (fun _ => nI 0) _ (by omega) (by omega) (by omega) hw ⟨fun v hv => ?_, fun j hj => absurd hj (by omega)⟩ (fun q hq => ?_)) rfl
  · rw [← hnm v hv]
    have hj := @idN_lt u v
    have hj2 : idN u v = 0 ∨ idN u v = 1 ∨ idN u v = 2 ∨ idN u v = 3 ∨ idN u v = 4 := by omega
    rw [nI_cl (by omega), nI_cl (by omega), nI_cl (by omega), nI_cl (by omega), nI_cl (by omega)]
    rcases hj2 with e | e | e | e | e <;> rw [e] <;> simp [ab_up]
  · rw [up_row hq, up_row hq, up_row hq, up_row hq, up_row hq]
