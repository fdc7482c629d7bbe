/-! the reference's numbers -/
theorem ix_219 {k : Nat} (h : k < 480) : ab_ixI GF 219 (nI k) := ix_of gt_219 h (by omega)
theorem m_in {i : ab_I} (v l m : Int32) : ab_K 0 155 [.int v, .int l, .int m] i (ab_V (.int (bI (l ≤ v ∧ v ≤ m))) i) := by
  refine k_of rfl ?_
  refine r_go 2 rfl ?_ ?_
  · (first | exact trivial | assumption | (simp (disch := omega) [ab_all, ab_nz, *]; done))
  refine r_br rfl (fun h2 => ?_) (fun h2 => ?_)
  · skip
    refine r_go 1 rfl ?_ ?_
    · (first | exact trivial | assumption | (simp (disch := omega) [ab_all, ab_nz, *]; done))
    refine r_ret rfl (by (first | exact Or.inl rfl | exact Or.inr rfl | exact bI_or)) ?_
    first | exact lf_t (by (simp (disch := omega) only [Int32.le_iff_toInt_le, Int32.lt_iff_toInt_lt, c_i, m1_i, m5_i, m33_i] at * <;> omega)) | exact lf_f (by (simp (disch := omega) only [Int32.le_iff_toInt_le, Int32.lt_iff_toInt_lt, c_i, m1_i, m5_i, m33_i] at * <;> omega))
  · skip
    refine r_go 2 rfl ?_ ?_
    · (first | exact trivial | assumption | (simp (disch := omega) [ab_all, ab_nz, *]; done))
    refine r_br rfl (fun h7 => ?_) (fun h7 => ?_)
    · skip
      refine r_go 1 rfl ?_ ?_
      · (first | exact trivial | assumption | (simp (disch := omega) [ab_all, ab_nz, *]; done))
      refine r_ret rfl (by (first | exact Or.inl rfl | exact Or.inr rfl | exact bI_or)) ?_
      first | exact lf_t (by (simp (disch := omega) only [Int32.le_iff_toInt_le, Int32.lt_iff_toInt_lt, c_i, m1_i, m5_i, m33_i] at * <;> omega)) | exact lf_f (by (simp (disch := omega) only [Int32.le_iff_toInt_le, Int32.lt_iff_toInt_lt, c_i, m1_i, m5_i, m33_i] at * <;> omega))
    · skip
      refine r_go 2 rfl ?_ ?_
      · (first | exact trivial | assumption | (simp (disch := omega) [ab_all, ab_nz, *]; done))
      refine r_ret rfl (by (first | exact Or.inl rfl | exact Or.inr rfl | exact bI_or)) ?_
      first | exact lf_t (by (simp (disch := omega) only [Int32.le_iff_toInt_le, Int32.lt_iff_toInt_lt, c_i, m1_i, m5_i, m33_i] at * <;> omega)) | exact lf_f (by (simp (disch := omega) only [Int32.le_iff_toInt_le, Int32.lt_iff_toInt_lt, c_i, m1_i, m5_i, m33_i] at * <;> omega))
theorem m_held {i : ab_I} (v l m : Int32) : ab_K 0 156 [.int v, .int l, .int m] i (ab_V (.int (hl v l m)) i) := by
  refine k_of rfl ?_
  refine r_go 2 rfl ?_ ?_
  · (first | exact trivial | assumption | (simp (disch := omega) [ab_all, ab_nz, *]; done))
  refine r_le rfl (fun h2 => ?_) (fun h2 => ?_)
  · skip
    refine r_go 2 rfl ?_ ?_
    · (first | exact trivial | assumption | (simp (disch := omega) [ab_all, ab_nz, *]; done))
    refine r_le rfl (fun h11 => ?_) (fun h11 => ?_)
    · skip
      refine r_go 1 rfl ?_ ?_
      · (first | exact trivial | assumption | (simp (disch := omega) [ab_all, ab_nz, *]; done))
      refine r_ret rfl trivial ?_
      unfold hl
      first | exact lv_t h2 | (rw [if_neg h2]; first | exact lv_t h11 | exact lv_f h11)
    · skip
      refine r_go 2 rfl ?_ ?_
      · (first | exact trivial | assumption | (simp (disch := omega) [ab_all, ab_nz, *]; done))
      refine r_ret rfl trivial ?_
      unfold hl
      first | exact lv_t h2 | (rw [if_neg h2]; first | exact lv_t h11 | exact lv_f h11)
  · skip
    refine r_go 2 rfl ?_ ?_
    · (first | exact trivial | assumption | (simp (disch := omega) [ab_all, ab_nz, *]; done))
    refine r_ret rfl trivial ?_
    unfold hl
    first | exact lv_t h2 | (rw [if_neg h2]; first | exact lv_t h11 | exact lv_f h11)
theorem m_of {i : ab_I} {s : Vc} (b w : Nat) (hs : i 219 = s) (hb : 8 + 7 * b + w < 480) : ab_K 0 160 [.ref 218, .int (nI b), .int (nI w)] i (ab_V (.int (bs s b w)) i) := by
  subst hs
  refine k_of rfl ?_
  refine r_go 10 rfl ?_ ?_
  · (simp only [ab_all, gr_218_0, pk_mul, nI_add]; exact ⟨ix_219 hb, rfl, by decide⟩)
  refine r_ret rfl trivial ?_
  (rw [gr_218_0, pk_mul, nI_add, nI_add, nI_cl (by omega)]; exact ⟨rfl, rfl⟩)
theorem m_its {i : ab_I} {s : Vc} (d w : Nat) (hs : i 219 = s) (hb : 50 + 8 * d + w < 480) : ab_K 0 161 [.ref 218, .int (nI d), .int (nI w)] i (ab_V (.int (dr s d w)) i) := by
  subst hs
  refine k_of rfl ?_
  refine r_go 10 rfl ?_ ?_
  · (simp only [ab_all, gr_218_0, pk_mul, nI_add]; exact ⟨ix_219 hb, rfl, by decide⟩)
  refine r_ret rfl trivial ?_
  (rw [gr_218_0, pk_mul, nI_add, nI_add, nI_cl (by omega)]; exact ⟨rfl, rfl⟩)
theorem ar_nz {s : Vc} {b : Nat} (hI : InT s) (hb : b < nB s) : ¬ bs s b 1 = 0 := by
  have h : rg (bs s b 1) 1 20 := hI.2.2.2.2.1 b hb 1 (by decide)
  intro z
  rw [z] at h
  exact absurd h.1 (by decide)
theorem m_level {i : ab_I} {s : Vc} (b : Nat) (hs : i 219 = s) (hI : InT s) (hb : b < nB s) : ab_K 1 162 [.ref 218, .int (nI b)] i (ab_V (.int (lev s b)) i) := by
  have b6 := hI.1.2
  refine k_of rfl ?_
  refine r_go 3 rfl ?_ ?_
  · (first | exact trivial | assumption | (simp (disch := omega) [ab_all, ab_nz, *]; done))
  refine r_cv rfl rfl ((m_of b 0 hs (by omega))) (by decide) ?_
  refine r_go 3 rfl ?_ ?_
  · (first | exact trivial | assumption | (simp (disch := omega) [ab_all, ab_nz, *]; done))
  refine r_cv rfl rfl ((m_of b 1 hs (by omega))) (by decide) ?_
  refine r_go 1 rfl ?_ ?_
  · exact ar_nz hI hb
  refine r_ret rfl trivial ?_
  exact ⟨rfl, rfl⟩
theorem m_levelAt {i : ab_I} {s : Vc} (d : Nat) (hs : i 219 = s) (hI : InT s) (hd : d < nD s) : ab_K 2 163 [.ref 218, .int (nI d)] i (ab_V (.int (levAt s d)) i) := by
  have d12 := hI.2.1.2
  refine k_of rfl ?_
  refine r_go 4 rfl ?_ ?_
  · (first | exact trivial | assumption | (simp (disch := omega) [ab_all, ab_nz, *]; done))
  refine r_cv rfl rfl ((m_its d 2 hs (by omega))) (by decide) ?_
  rw [(on_lt hI hd).2.2]
  refine r_cv rfl rfl ((m_level _ hs hI (on_lt hI hd).1)) (by decide) ?_
  refine r_ret rfl trivial ?_
  exact ⟨rfl, rfl⟩
theorem m_hasText {i : ab_I} {s : Vc} (u : Nat) (hs : i 219 = s) (hu : u < 2) : ab_K 0 187 [.ref 218, .int (nI u)] i (ab_V (.int (bI (nI 0 < s (146 + 125 * u)))) i) := by
  subst hs
  refine k_of rfl ?_
  refine r_go 8 rfl ?_ ?_
  · (simp only [ab_all, gr_218_0, pk_mul, nI_add]; exact ⟨ix_219 (by omega), rfl, by decide⟩)
  rw [gr_218_0, pk_mul, nI_add, nI_cl (by omega)]
  refine r_le rfl (fun h13 => ?_) (fun h13 => ?_)
  · skip
    refine r_go 1 rfl ?_ ?_
    · (first | exact trivial | assumption | (simp (disch := omega) [ab_all, ab_nz, *]; done))
    refine r_ret rfl (by (first | exact Or.inl rfl | exact Or.inr rfl | exact bI_or)) ?_
    first | exact lf_t h13 | exact lf_f h13
  · skip
    refine r_go 2 rfl ?_ ?_
    · (first | exact trivial | assumption | (simp (disch := omega) [ab_all, ab_nz, *]; done))
    refine r_ret rfl (by (first | exact Or.inl rfl | exact Or.inr rfl | exact bI_or)) ?_
    first | exact lf_t h13 | exact lf_f h13
theorem m_sign {i : ab_I} (v : Int32) : ab_K 0 192 [.int v] i (ab_V (.int (sg v)) i) := by
  refine k_of rfl ?_
  refine r_go 1 rfl ?_ ?_
  · (first | exact trivial | assumption | (simp (disch := omega) [ab_all, ab_nz, *]; done))
  refine r_le rfl (fun h1 => ?_) (fun h1 => ?_)
  · skip
    refine r_go 1 rfl ?_ ?_
    · (first | exact trivial | assumption | (simp (disch := omega) [ab_all, ab_nz, *]; done))
    refine r_le rfl (fun h9 => ?_) (fun h9 => ?_)
    · skip
      refine r_go 1 rfl ?_ ?_
      · (first | exact trivial | assumption | (simp (disch := omega) [ab_all, ab_nz, *]; done))
      refine r_ret rfl trivial ?_
      unfold sg
      first | exact lv_t h1 | (rw [if_neg h1]; first | exact lv_t h9 | exact lv_f h9)
    · skip
      refine r_go 2 rfl ?_ ?_
      · (first | exact trivial | assumption | (simp (disch := omega) [ab_all, ab_nz, *]; done))
      refine r_ret rfl trivial ?_
      unfold sg
      first | exact lv_t h1 | (rw [if_neg h1]; first | exact lv_t h9 | exact lv_f h9)
  · skip
    refine r_go 2 rfl ?_ ?_
    · (first | exact trivial | assumption | (simp (disch := omega) [ab_all, ab_nz, *]; done))
    refine r_ret rfl trivial ?_
    unfold sg
    first | exact lv_t h1 | (rw [if_neg h1]; first | exact lv_t h9 | exact lv_f h9)
theorem dv_m1 {x : Int32} : x / (-1) = -x := by
  refine eq_i.mpr ?_
  rw [Int32.toInt_div, m1_i, Int.tdiv_neg, Int.tdiv_one, Int32.toInt_neg]
theorem rm_m1 {x : Int32} : x - x / (-1) * (-1) = nI 0 := by
  rw [dv_m1, Int32.mul_neg, Int32.mul_one, Int32.neg_neg, Int32.sub_self]
  rfl
theorem m_joined {i : ab_I} (c x y : Int32) (hc : isSg c) : ab_K 0 190 [.int c, .int x, .int y] i (ab_V (.int (jn c x y)) i) := by
  refine k_of rfl ?_
  refine r_go 1 rfl ?_ ?_
  · (first | exact trivial | assumption | (simp (disch := omega) [ab_all, ab_nz, *]; done))
  refine r_sw rfl ?_
  refine r_swk (fun h1 => ?_) (fun h1 => ?_)
  · skip
    refine r_go 1 rfl ?_ ?_
    · (first | exact trivial | assumption | (simp (disch := omega) [ab_all, ab_nz, *]; done))
    refine r_br rfl (fun h155 => ?_) (fun h155 => ?_)
    · skip
      refine r_go 2 rfl ?_ ?_
      · (first | exact trivial | assumption | (simp (disch := omega) [ab_all, ab_nz, *]; done))
      refine r_ret rfl trivial ?_
      (subst h1; refine lv_e ?_; (try subst h160); (try subst h142); simp (decide := true) only [jn, if_true, if_false, rm_m1] <;> simp [*, bI, dv_m1])
    · skip
      refine r_go 2 rfl ?_ ?_
      · (first | exact trivial | assumption | (simp (disch := omega) [ab_all, ab_nz, *]; done))
      refine r_ne rfl (fun h160 => ?_) (fun h160 => ?_)
      · skip
        refine r_go 3 rfl ?_ ?_
        · assumption
        refine r_ret rfl trivial ?_
        (subst h1; refine lv_e ?_; (try subst h160); (try subst h142); simp (decide := true) only [jn, if_true, if_false, rm_m1] <;> simp [*, bI, dv_m1])
      · skip
        refine r_go 2 rfl ?_ ?_
        · (first | exact trivial | assumption | (simp (disch := omega) [ab_all, ab_nz, *]; done))
        refine r_ret rfl trivial ?_
        (subst h1; refine lv_e ?_; (try subst h160); (try subst h142); simp (decide := true) only [jn, if_true, if_false, rm_m1] <;> simp [*, bI, dv_m1])
  refine r_swk (fun h1 => ?_) (fun h1 => ?_)
  · skip
    refine r_go 1 rfl ?_ ?_
    · (first | exact trivial | assumption | (simp (disch := omega) [ab_all, ab_nz, *]; done))
    refine r_br rfl (fun h205 => ?_) (fun h205 => ?_)
    · skip
      refine r_go 1 rfl ?_ ?_
      · (first | exact trivial | assumption | (simp (disch := omega) [ab_all, ab_nz, *]; done))
      refine r_ret rfl trivial ?_
      (subst h1; refine lv_e ?_; (try subst h160); (try subst h142); simp (decide := true) only [jn, if_true, if_false, rm_m1] <;> simp [*, bI, dv_m1])
    · skip
      refine r_go 1 rfl ?_ ?_
      · (first | exact trivial | assumption | (simp (disch := omega) [ab_all, ab_nz, *]; done))
      refine r_br rfl (fun h209 => ?_) (fun h209 => ?_)
      · skip
        refine r_go 1 rfl ?_ ?_
        · (first | exact trivial | assumption | (simp (disch := omega) [ab_all, ab_nz, *]; done))
        refine r_ret rfl trivial ?_
        (subst h1; refine lv_e ?_; (try subst h160); (try subst h142); simp (decide := true) only [jn, if_true, if_false, rm_m1] <;> simp [*, bI, dv_m1])
      · skip
        refine r_go 2 rfl ?_ ?_
        · (first | exact trivial | assumption | (simp (disch := omega) [ab_all, ab_nz, *]; done))
        refine r_ret rfl trivial ?_
        (subst h1; refine lv_e ?_; (try subst h160); (try subst h142); simp (decide := true) only [jn, if_true, if_false, rm_m1] <;> simp [*, bI, dv_m1])
  refine r_swk (fun h1 => ?_) (fun h1 => ?_)
  · skip
    refine r_go 1 rfl ?_ ?_
    · (first | exact trivial | assumption | (simp (disch := omega) [ab_all, ab_nz, *]; done))
    refine r_ne rfl (fun h219 => ?_) (fun h219 => ?_)
    · skip
      refine r_go 2 rfl ?_ ?_
      · (first | exact trivial | assumption | (simp (disch := omega) [ab_all, ab_nz, *]; done))
      refine r_ret rfl trivial ?_
      first | (subst h1; exfalso; unfold isSg at hc; revert hc; decide) | (have hc' : c = nI 124 := (by unfold isSg at hc; simp_all); subst hc'; refine lv_e ?_; simp (decide := true) only [jn, if_true, if_false] <;> simp [*, bI])
    · skip
      refine r_go 1 rfl ?_ ?_
      · (first | exact trivial | assumption | (simp (disch := omega) [ab_all, ab_nz, *]; done))
      refine r_br rfl (fun h223 => ?_) (fun h223 => ?_)
      · skip
        refine r_go 1 rfl ?_ ?_
        · (first | exact trivial | assumption | (simp (disch := omega) [ab_all, ab_nz, *]; done))
        refine r_ret rfl trivial ?_
        first | (subst h1; exfalso; unfold isSg at hc; revert hc; decide) | (have hc' : c = nI 124 := (by unfold isSg at hc; simp_all); subst hc'; refine lv_e ?_; simp (decide := true) only [jn, if_true, if_false] <;> simp [*, bI])
      · skip
        refine r_go 2 rfl ?_ ?_
        · (first | exact trivial | assumption | (simp (disch := omega) [ab_all, ab_nz, *]; done))
        refine r_ret rfl trivial ?_
        first | (subst h1; exfalso; unfold isSg at hc; revert hc; decide) | (have hc' : c = nI 124 := (by unfold isSg at hc; simp_all); subst hc'; refine lv_e ?_; simp (decide := true) only [jn, if_true, if_false] <;> simp [*, bI])
  refine r_swk (fun h1 => ?_) (fun h1 => ?_)
  · skip
    refine r_go 1 rfl ?_ ?_
    · (first | exact trivial | assumption | (simp (disch := omega) [ab_all, ab_nz, *]; done))
    refine r_ne rfl (fun h219 => ?_) (fun h219 => ?_)
    · skip
      refine r_go 2 rfl ?_ ?_
      · (first | exact trivial | assumption | (simp (disch := omega) [ab_all, ab_nz, *]; done))
      refine r_ret rfl trivial ?_
      first | (subst h1; exfalso; unfold isSg at hc; revert hc; decide) | (have hc' : c = nI 124 := (by unfold isSg at hc; simp_all); subst hc'; refine lv_e ?_; simp (decide := true) only [jn, if_true, if_false] <;> simp [*, bI])
    · skip
      refine r_go 1 rfl ?_ ?_
      · (first | exact trivial | assumption | (simp (disch := omega) [ab_all, ab_nz, *]; done))
      refine r_br rfl (fun h223 => ?_) (fun h223 => ?_)
      · skip
        refine r_go 1 rfl ?_ ?_
        · (first | exact trivial | assumption | (simp (disch := omega) [ab_all, ab_nz, *]; done))
        refine r_ret rfl trivial ?_
        first | (subst h1; exfalso; unfold isSg at hc; revert hc; decide) | (have hc' : c = nI 124 := (by unfold isSg at hc; simp_all); subst hc'; refine lv_e ?_; simp (decide := true) only [jn, if_true, if_false] <;> simp [*, bI])
      · skip
        refine r_go 2 rfl ?_ ?_
        · (first | exact trivial | assumption | (simp (disch := omega) [ab_all, ab_nz, *]; done))
        refine r_ret rfl trivial ?_
        first | (subst h1; exfalso; unfold isSg at hc; revert hc; decide) | (have hc' : c = nI 124 := (by unfold isSg at hc; simp_all); subst hc'; refine lv_e ?_; simp (decide := true) only [jn, if_true, if_false] <;> simp [*, bI])
  refine r_swk (fun h1 => ?_) (fun h1 => ?_)
  · skip
    refine r_go 1 rfl ?_ ?_
    · (first | exact trivial | assumption | (simp (disch := omega) [ab_all, ab_nz, *]; done))
    refine r_ne rfl (fun h219 => ?_) (fun h219 => ?_)
    · skip
      refine r_go 2 rfl ?_ ?_
      · (first | exact trivial | assumption | (simp (disch := omega) [ab_all, ab_nz, *]; done))
      refine r_ret rfl trivial ?_
      first | (subst h1; exfalso; unfold isSg at hc; revert hc; decide) | (have hc' : c = nI 124 := (by unfold isSg at hc; simp_all); subst hc'; refine lv_e ?_; simp (decide := true) only [jn, if_true, if_false] <;> simp [*, bI])
    · skip
      refine r_go 1 rfl ?_ ?_
      · (first | exact trivial | assumption | (simp (disch := omega) [ab_all, ab_nz, *]; done))
      refine r_br rfl (fun h223 => ?_) (fun h223 => ?_)
      · skip
        refine r_go 1 rfl ?_ ?_
        · (first | exact trivial | assumption | (simp (disch := omega) [ab_all, ab_nz, *]; done))
        refine r_ret rfl trivial ?_
        first | (subst h1; exfalso; unfold isSg at hc; revert hc; decide) | (have hc' : c = nI 124 := (by unfold isSg at hc; simp_all); subst hc'; refine lv_e ?_; simp (decide := true) only [jn, if_true, if_false] <;> simp [*, bI])
      · skip
        refine r_go 2 rfl ?_ ?_
        · (first | exact trivial | assumption | (simp (disch := omega) [ab_all, ab_nz, *]; done))
        refine r_ret rfl trivial ?_
        first | (subst h1; exfalso; unfold isSg at hc; revert hc; decide) | (have hc' : c = nI 124 := (by unfold isSg at hc; simp_all); subst hc'; refine lv_e ?_; simp (decide := true) only [jn, if_true, if_false] <;> simp [*, bI])
  refine r_swk (fun h1 => ?_) (fun h1 => ?_)
  · skip
    refine r_go 3 rfl ?_ ?_
    · (first | exact trivial | assumption | (simp (disch := omega) [ab_all, ab_nz, *]; done))
    refine r_ret rfl trivial ?_
    (subst h1; refine lv_e ?_; (try subst h160); (try subst h142); simp (decide := true) only [jn, if_true, if_false, rm_m1] <;> simp [*, bI, dv_m1])
  refine r_swk (fun h1 => ?_) (fun h1 => ?_)
  · skip
    refine r_go 3 rfl ?_ ?_
    · (first | exact trivial | assumption | (simp (disch := omega) [ab_all, ab_nz, *]; done))
    refine r_ret rfl trivial ?_
    (subst h1; refine lv_e ?_; (try subst h160); (try subst h142); simp (decide := true) only [jn, if_true, if_false, rm_m1] <;> simp [*, bI, dv_m1])
  refine r_swk (fun h1 => ?_) (fun h1 => ?_)
  · skip
    refine r_go 1 rfl ?_ ?_
    · (first | exact trivial | assumption | (simp (disch := omega) [ab_all, ab_nz, *]; done))
    refine r_ne rfl (fun h219 => ?_) (fun h219 => ?_)
    · skip
      refine r_go 2 rfl ?_ ?_
      · (first | exact trivial | assumption | (simp (disch := omega) [ab_all, ab_nz, *]; done))
      refine r_ret rfl trivial ?_
      first | (subst h1; exfalso; unfold isSg at hc; revert hc; decide) | (have hc' : c = nI 124 := (by unfold isSg at hc; simp_all); subst hc'; refine lv_e ?_; simp (decide := true) only [jn, if_true, if_false] <;> simp [*, bI])
    · skip
      refine r_go 1 rfl ?_ ?_
      · (first | exact trivial | assumption | (simp (disch := omega) [ab_all, ab_nz, *]; done))
      refine r_br rfl (fun h223 => ?_) (fun h223 => ?_)
      · skip
        refine r_go 1 rfl ?_ ?_
        · (first | exact trivial | assumption | (simp (disch := omega) [ab_all, ab_nz, *]; done))
        refine r_ret rfl trivial ?_
        first | (subst h1; exfalso; unfold isSg at hc; revert hc; decide) | (have hc' : c = nI 124 := (by unfold isSg at hc; simp_all); subst hc'; refine lv_e ?_; simp (decide := true) only [jn, if_true, if_false] <;> simp [*, bI])
      · skip
        refine r_go 2 rfl ?_ ?_
        · (first | exact trivial | assumption | (simp (disch := omega) [ab_all, ab_nz, *]; done))
        refine r_ret rfl trivial ?_
        first | (subst h1; exfalso; unfold isSg at hc; revert hc; decide) | (have hc' : c = nI 124 := (by unfold isSg at hc; simp_all); subst hc'; refine lv_e ?_; simp (decide := true) only [jn, if_true, if_false] <;> simp [*, bI])
  refine r_swk (fun h1 => ?_) (fun h1 => ?_)
  · skip
    refine r_go 3 rfl ?_ ?_
    · (first | exact trivial | assumption | (simp (disch := omega) [ab_all, ab_nz, *]; done))
    refine r_ret rfl trivial ?_
    (subst h1; refine lv_e ?_; (try subst h160); (try subst h142); simp (decide := true) only [jn, if_true, if_false, rm_m1] <;> simp [*, bI, dv_m1])
  refine r_swk (fun h1 => ?_) (fun h1 => ?_)
  · skip
    refine r_go 1 rfl ?_ ?_
    · (first | exact trivial | assumption | (simp (disch := omega) [ab_all, ab_nz, *]; done))
    refine r_ne rfl (fun h219 => ?_) (fun h219 => ?_)
    · skip
      refine r_go 2 rfl ?_ ?_
      · (first | exact trivial | assumption | (simp (disch := omega) [ab_all, ab_nz, *]; done))
      refine r_ret rfl trivial ?_
      first | (subst h1; exfalso; unfold isSg at hc; revert hc; decide) | (have hc' : c = nI 124 := (by unfold isSg at hc; simp_all); subst hc'; refine lv_e ?_; simp (decide := true) only [jn, if_true, if_false] <;> simp [*, bI])
    · skip
      refine r_go 1 rfl ?_ ?_
      · (first | exact trivial | assumption | (simp (disch := omega) [ab_all, ab_nz, *]; done))
      refine r_br rfl (fun h223 => ?_) (fun h223 => ?_)
      · skip
        refine r_go 1 rfl ?_ ?_
        · (first | exact trivial | assumption | (simp (disch := omega) [ab_all, ab_nz, *]; done))
        refine r_ret rfl trivial ?_
        first | (subst h1; exfalso; unfold isSg at hc; revert hc; decide) | (have hc' : c = nI 124 := (by unfold isSg at hc; simp_all); subst hc'; refine lv_e ?_; simp (decide := true) only [jn, if_true, if_false] <;> simp [*, bI])
      · skip
        refine r_go 2 rfl ?_ ?_
        · (first | exact trivial | assumption | (simp (disch := omega) [ab_all, ab_nz, *]; done))
        refine r_ret rfl trivial ?_
        first | (subst h1; exfalso; unfold isSg at hc; revert hc; decide) | (have hc' : c = nI 124 := (by unfold isSg at hc; simp_all); subst hc'; refine lv_e ?_; simp (decide := true) only [jn, if_true, if_false] <;> simp [*, bI])
  refine r_swk (fun h1 => ?_) (fun h1 => ?_)
  · skip
    refine r_go 1 rfl ?_ ?_
    · (first | exact trivial | assumption | (simp (disch := omega) [ab_all, ab_nz, *]; done))
    refine r_ne rfl (fun h133 => ?_) (fun h133 => ?_)
    · skip
      refine r_go 2 rfl ?_ ?_
      · (first | exact trivial | assumption | (simp (disch := omega) [ab_all, ab_nz, *]; done))
      refine r_ne rfl (fun h142 => ?_) (fun h142 => ?_)
      · skip
        refine r_go 3 rfl ?_ ?_
        · assumption
        refine r_ret rfl trivial ?_
        (subst h1; refine lv_e ?_; (try subst h160); (try subst h142); simp (decide := true) only [jn, if_true, if_false, rm_m1] <;> simp [*, bI, dv_m1])
      · skip
        refine r_go 3 rfl ?_ ?_
        · (first | exact trivial | assumption | (simp (disch := omega) [ab_all, ab_nz, *]; done))
        refine r_ret rfl trivial ?_
        (subst h1; refine lv_e ?_; (try subst h160); (try subst h142); simp (decide := true) only [jn, if_true, if_false, rm_m1] <;> simp [*, bI, dv_m1])
    · skip
      refine r_go 2 rfl ?_ ?_
      · (first | exact trivial | assumption | (simp (disch := omega) [ab_all, ab_nz, *]; done))
      refine r_ret rfl trivial ?_
      (subst h1; refine lv_e ?_; (try subst h160); (try subst h142); simp (decide := true) only [jn, if_true, if_false, rm_m1] <;> simp [*, bI, dv_m1])
  refine r_swk (fun h1 => ?_) (fun h1 => ?_)
  · skip
    refine r_go 1 rfl ?_ ?_
    · (first | exact trivial | assumption | (simp (disch := omega) [ab_all, ab_nz, *]; done))
    refine r_ne rfl (fun h219 => ?_) (fun h219 => ?_)
    · skip
      refine r_go 2 rfl ?_ ?_
      · (first | exact trivial | assumption | (simp (disch := omega) [ab_all, ab_nz, *]; done))
      refine r_ret rfl trivial ?_
      first | (subst h1; exfalso; unfold isSg at hc; revert hc; decide) | (have hc' : c = nI 124 := (by unfold isSg at hc; simp_all); subst hc'; refine lv_e ?_; simp (decide := true) only [jn, if_true, if_false] <;> simp [*, bI])
    · skip
      refine r_go 1 rfl ?_ ?_
      · (first | exact trivial | assumption | (simp (disch := omega) [ab_all, ab_nz, *]; done))
      refine r_br rfl (fun h223 => ?_) (fun h223 => ?_)
      · skip
        refine r_go 1 rfl ?_ ?_
        · (first | exact trivial | assumption | (simp (disch := omega) [ab_all, ab_nz, *]; done))
        refine r_ret rfl trivial ?_
        first | (subst h1; exfalso; unfold isSg at hc; revert hc; decide) | (have hc' : c = nI 124 := (by unfold isSg at hc; simp_all); subst hc'; refine lv_e ?_; simp (decide := true) only [jn, if_true, if_false] <;> simp [*, bI])
      · skip
        refine r_go 2 rfl ?_ ?_
        · (first | exact trivial | assumption | (simp (disch := omega) [ab_all, ab_nz, *]; done))
        refine r_ret rfl trivial ?_
        first | (subst h1; exfalso; unfold isSg at hc; revert hc; decide) | (have hc' : c = nI 124 := (by unfold isSg at hc; simp_all); subst hc'; refine lv_e ?_; simp (decide := true) only [jn, if_true, if_false] <;> simp [*, bI])
  refine r_swk (fun h1 => ?_) (fun h1 => ?_)
  · skip
    refine r_go 1 rfl ?_ ?_
    · (first | exact trivial | assumption | (simp (disch := omega) [ab_all, ab_nz, *]; done))
    refine r_ne rfl (fun h219 => ?_) (fun h219 => ?_)
    · skip
      refine r_go 2 rfl ?_ ?_
      · (first | exact trivial | assumption | (simp (disch := omega) [ab_all, ab_nz, *]; done))
      refine r_ret rfl trivial ?_
      first | (subst h1; exfalso; unfold isSg at hc; revert hc; decide) | (have hc' : c = nI 124 := (by unfold isSg at hc; simp_all); subst hc'; refine lv_e ?_; simp (decide := true) only [jn, if_true, if_false] <;> simp [*, bI])
    · skip
      refine r_go 1 rfl ?_ ?_
      · (first | exact trivial | assumption | (simp (disch := omega) [ab_all, ab_nz, *]; done))
      refine r_br rfl (fun h223 => ?_) (fun h223 => ?_)
      · skip
        refine r_go 1 rfl ?_ ?_
        · (first | exact trivial | assumption | (simp (disch := omega) [ab_all, ab_nz, *]; done))
        refine r_ret rfl trivial ?_
        first | (subst h1; exfalso; unfold isSg at hc; revert hc; decide) | (have hc' : c = nI 124 := (by unfold isSg at hc; simp_all); subst hc'; refine lv_e ?_; simp (decide := true) only [jn, if_true, if_false] <;> simp [*, bI])
      · skip
        refine r_go 2 rfl ?_ ?_
        · (first | exact trivial | assumption | (simp (disch := omega) [ab_all, ab_nz, *]; done))
        refine r_ret rfl trivial ?_
        first | (subst h1; exfalso; unfold isSg at hc; revert hc; decide) | (have hc' : c = nI 124 := (by unfold isSg at hc; simp_all); subst hc'; refine lv_e ?_; simp (decide := true) only [jn, if_true, if_false] <;> simp [*, bI])
  refine r_swk (fun h1 => ?_) (fun h1 => ?_)
  · skip
    refine r_go 1 rfl ?_ ?_
    · (first | exact trivial | assumption | (simp (disch := omega) [ab_all, ab_nz, *]; done))
    refine r_ne rfl (fun h219 => ?_) (fun h219 => ?_)
    · skip
      refine r_go 2 rfl ?_ ?_
      · (first | exact trivial | assumption | (simp (disch := omega) [ab_all, ab_nz, *]; done))
      refine r_ret rfl trivial ?_
      first | (subst h1; exfalso; unfold isSg at hc; revert hc; decide) | (have hc' : c = nI 124 := (by unfold isSg at hc; simp_all); subst hc'; refine lv_e ?_; simp (decide := true) only [jn, if_true, if_false] <;> simp [*, bI])
    · skip
      refine r_go 1 rfl ?_ ?_
      · (first | exact trivial | assumption | (simp (disch := omega) [ab_all, ab_nz, *]; done))
      refine r_br rfl (fun h223 => ?_) (fun h223 => ?_)
      · skip
        refine r_go 1 rfl ?_ ?_
        · (first | exact trivial | assumption | (simp (disch := omega) [ab_all, ab_nz, *]; done))
        refine r_ret rfl trivial ?_
        first | (subst h1; exfalso; unfold isSg at hc; revert hc; decide) | (have hc' : c = nI 124 := (by unfold isSg at hc; simp_all); subst hc'; refine lv_e ?_; simp (decide := true) only [jn, if_true, if_false] <;> simp [*, bI])
      · skip
        refine r_go 2 rfl ?_ ?_
        · (first | exact trivial | assumption | (simp (disch := omega) [ab_all, ab_nz, *]; done))
        refine r_ret rfl trivial ?_
        first | (subst h1; exfalso; unfold isSg at hc; revert hc; decide) | (have hc' : c = nI 124 := (by unfold isSg at hc; simp_all); subst hc'; refine lv_e ?_; simp (decide := true) only [jn, if_true, if_false] <;> simp [*, bI])
  refine r_swk (fun h1 => ?_) (fun h1 => ?_)
  · skip
    refine r_go 1 rfl ?_ ?_
    · (first | exact trivial | assumption | (simp (disch := omega) [ab_all, ab_nz, *]; done))
    refine r_ne rfl (fun h219 => ?_) (fun h219 => ?_)
    · skip
      refine r_go 2 rfl ?_ ?_
      · (first | exact trivial | assumption | (simp (disch := omega) [ab_all, ab_nz, *]; done))
      refine r_ret rfl trivial ?_
      first | (subst h1; exfalso; unfold isSg at hc; revert hc; decide) | (have hc' : c = nI 124 := (by unfold isSg at hc; simp_all); subst hc'; refine lv_e ?_; simp (decide := true) only [jn, if_true, if_false] <;> simp [*, bI])
    · skip
      refine r_go 1 rfl ?_ ?_
      · (first | exact trivial | assumption | (simp (disch := omega) [ab_all, ab_nz, *]; done))
      refine r_br rfl (fun h223 => ?_) (fun h223 => ?_)
      · skip
        refine r_go 1 rfl ?_ ?_
        · (first | exact trivial | assumption | (simp (disch := omega) [ab_all, ab_nz, *]; done))
        refine r_ret rfl trivial ?_
        first | (subst h1; exfalso; unfold isSg at hc; revert hc; decide) | (have hc' : c = nI 124 := (by unfold isSg at hc; simp_all); subst hc'; refine lv_e ?_; simp (decide := true) only [jn, if_true, if_false] <;> simp [*, bI])
      · skip
        refine r_go 2 rfl ?_ ?_
        · (first | exact trivial | assumption | (simp (disch := omega) [ab_all, ab_nz, *]; done))
        refine r_ret rfl trivial ?_
        first | (subst h1; exfalso; unfold isSg at hc; revert hc; decide) | (have hc' : c = nI 124 := (by unfold isSg at hc; simp_all); subst hc'; refine lv_e ?_; simp (decide := true) only [jn, if_true, if_false] <;> simp [*, bI])
  refine r_swk (fun h1 => ?_) (fun h1 => ?_)
  · skip
    refine r_go 1 rfl ?_ ?_
    · (first | exact trivial | assumption | (simp (disch := omega) [ab_all, ab_nz, *]; done))
    refine r_ne rfl (fun h219 => ?_) (fun h219 => ?_)
    · skip
      refine r_go 2 rfl ?_ ?_
      · (first | exact trivial | assumption | (simp (disch := omega) [ab_all, ab_nz, *]; done))
      refine r_ret rfl trivial ?_
      first | (subst h1; exfalso; unfold isSg at hc; revert hc; decide) | (have hc' : c = nI 124 := (by unfold isSg at hc; simp_all); subst hc'; refine lv_e ?_; simp (decide := true) only [jn, if_true, if_false] <;> simp [*, bI])
    · skip
      refine r_go 1 rfl ?_ ?_
      · (first | exact trivial | assumption | (simp (disch := omega) [ab_all, ab_nz, *]; done))
      refine r_br rfl (fun h223 => ?_) (fun h223 => ?_)
      · skip
        refine r_go 1 rfl ?_ ?_
        · (first | exact trivial | assumption | (simp (disch := omega) [ab_all, ab_nz, *]; done))
        refine r_ret rfl trivial ?_
        first | (subst h1; exfalso; unfold isSg at hc; revert hc; decide) | (have hc' : c = nI 124 := (by unfold isSg at hc; simp_all); subst hc'; refine lv_e ?_; simp (decide := true) only [jn, if_true, if_false] <;> simp [*, bI])
      · skip
        refine r_go 2 rfl ?_ ?_
        · (first | exact trivial | assumption | (simp (disch := omega) [ab_all, ab_nz, *]; done))
        refine r_ret rfl trivial ?_
        first | (subst h1; exfalso; unfold isSg at hc; revert hc; decide) | (have hc' : c = nI 124 := (by unfold isSg at hc; simp_all); subst hc'; refine lv_e ?_; simp (decide := true) only [jn, if_true, if_false] <;> simp [*, bI])
  refine r_swk (fun h1 => ?_) (fun h1 => ?_)
  · skip
    refine r_go 1 rfl ?_ ?_
    · (first | exact trivial | assumption | (simp (disch := omega) [ab_all, ab_nz, *]; done))
    refine r_ne rfl (fun h219 => ?_) (fun h219 => ?_)
    · skip
      refine r_go 2 rfl ?_ ?_
      · (first | exact trivial | assumption | (simp (disch := omega) [ab_all, ab_nz, *]; done))
      refine r_ret rfl trivial ?_
      first | (subst h1; exfalso; unfold isSg at hc; revert hc; decide) | (have hc' : c = nI 124 := (by unfold isSg at hc; simp_all); subst hc'; refine lv_e ?_; simp (decide := true) only [jn, if_true, if_false] <;> simp [*, bI])
    · skip
      refine r_go 1 rfl ?_ ?_
      · (first | exact trivial | assumption | (simp (disch := omega) [ab_all, ab_nz, *]; done))
      refine r_br rfl (fun h223 => ?_) (fun h223 => ?_)
      · skip
        refine r_go 1 rfl ?_ ?_
        · (first | exact trivial | assumption | (simp (disch := omega) [ab_all, ab_nz, *]; done))
        refine r_ret rfl trivial ?_
        first | (subst h1; exfalso; unfold isSg at hc; revert hc; decide) | (have hc' : c = nI 124 := (by unfold isSg at hc; simp_all); subst hc'; refine lv_e ?_; simp (decide := true) only [jn, if_true, if_false] <;> simp [*, bI])
      · skip
        refine r_go 2 rfl ?_ ?_
        · (first | exact trivial | assumption | (simp (disch := omega) [ab_all, ab_nz, *]; done))
        refine r_ret rfl trivial ?_
        first | (subst h1; exfalso; unfold isSg at hc; revert hc; decide) | (have hc' : c = nI 124 := (by unfold isSg at hc; simp_all); subst hc'; refine lv_e ?_; simp (decide := true) only [jn, if_true, if_false] <;> simp [*, bI])
  refine r_swk (fun h1 => ?_) (fun h1 => ?_)
  · skip
    refine r_go 1 rfl ?_ ?_
    · (first | exact trivial | assumption | (simp (disch := omega) [ab_all, ab_nz, *]; done))
    refine r_ne rfl (fun h219 => ?_) (fun h219 => ?_)
    · skip
      refine r_go 2 rfl ?_ ?_
      · (first | exact trivial | assumption | (simp (disch := omega) [ab_all, ab_nz, *]; done))
      refine r_ret rfl trivial ?_
      first | (subst h1; exfalso; unfold isSg at hc; revert hc; decide) | (have hc' : c = nI 124 := (by unfold isSg at hc; simp_all); subst hc'; refine lv_e ?_; simp (decide := true) only [jn, if_true, if_false] <;> simp [*, bI])
    · skip
      refine r_go 1 rfl ?_ ?_
      · (first | exact trivial | assumption | (simp (disch := omega) [ab_all, ab_nz, *]; done))
      refine r_br rfl (fun h223 => ?_) (fun h223 => ?_)
      · skip
        refine r_go 1 rfl ?_ ?_
        · (first | exact trivial | assumption | (simp (disch := omega) [ab_all, ab_nz, *]; done))
        refine r_ret rfl trivial ?_
        first | (subst h1; exfalso; unfold isSg at hc; revert hc; decide) | (have hc' : c = nI 124 := (by unfold isSg at hc; simp_all); subst hc'; refine lv_e ?_; simp (decide := true) only [jn, if_true, if_false] <;> simp [*, bI])
      · skip
        refine r_go 2 rfl ?_ ?_
        · (first | exact trivial | assumption | (simp (disch := omega) [ab_all, ab_nz, *]; done))
        refine r_ret rfl trivial ?_
        first | (subst h1; exfalso; unfold isSg at hc; revert hc; decide) | (have hc' : c = nI 124 := (by unfold isSg at hc; simp_all); subst hc'; refine lv_e ?_; simp (decide := true) only [jn, if_true, if_false] <;> simp [*, bI])
  refine r_swk (fun h1 => ?_) (fun h1 => ?_)
  · skip
    refine r_go 1 rfl ?_ ?_
    · (first | exact trivial | assumption | (simp (disch := omega) [ab_all, ab_nz, *]; done))
    refine r_ne rfl (fun h219 => ?_) (fun h219 => ?_)
    · skip
      refine r_go 2 rfl ?_ ?_
      · (first | exact trivial | assumption | (simp (disch := omega) [ab_all, ab_nz, *]; done))
      refine r_ret rfl trivial ?_
      first | (subst h1; exfalso; unfold isSg at hc; revert hc; decide) | (have hc' : c = nI 124 := (by unfold isSg at hc; simp_all); subst hc'; refine lv_e ?_; simp (decide := true) only [jn, if_true, if_false] <;> simp [*, bI])
    · skip
      refine r_go 1 rfl ?_ ?_
      · (first | exact trivial | assumption | (simp (disch := omega) [ab_all, ab_nz, *]; done))
      refine r_br rfl (fun h223 => ?_) (fun h223 => ?_)
      · skip
        refine r_go 1 rfl ?_ ?_
        · (first | exact trivial | assumption | (simp (disch := omega) [ab_all, ab_nz, *]; done))
        refine r_ret rfl trivial ?_
        first | (subst h1; exfalso; unfold isSg at hc; revert hc; decide) | (have hc' : c = nI 124 := (by unfold isSg at hc; simp_all); subst hc'; refine lv_e ?_; simp (decide := true) only [jn, if_true, if_false] <;> simp [*, bI])
      · skip
        refine r_go 2 rfl ?_ ?_
        · (first | exact trivial | assumption | (simp (disch := omega) [ab_all, ab_nz, *]; done))
        refine r_ret rfl trivial ?_
        first | (subst h1; exfalso; unfold isSg at hc; revert hc; decide) | (have hc' : c = nI 124 := (by unfold isSg at hc; simp_all); subst hc'; refine lv_e ?_; simp (decide := true) only [jn, if_true, if_false] <;> simp [*, bI])
  refine r_swk (fun h1 => ?_) (fun h1 => ?_)
  · skip
    refine r_go 1 rfl ?_ ?_
    · (first | exact trivial | assumption | (simp (disch := omega) [ab_all, ab_nz, *]; done))
    refine r_ne rfl (fun h219 => ?_) (fun h219 => ?_)
    · skip
      refine r_go 2 rfl ?_ ?_
      · (first | exact trivial | assumption | (simp (disch := omega) [ab_all, ab_nz, *]; done))
      refine r_ret rfl trivial ?_
      first | (subst h1; exfalso; unfold isSg at hc; revert hc; decide) | (have hc' : c = nI 124 := (by unfold isSg at hc; simp_all); subst hc'; refine lv_e ?_; simp (decide := true) only [jn, if_true, if_false] <;> simp [*, bI])
    · skip
      refine r_go 1 rfl ?_ ?_
      · (first | exact trivial | assumption | (simp (disch := omega) [ab_all, ab_nz, *]; done))
      refine r_br rfl (fun h223 => ?_) (fun h223 => ?_)
      · skip
        refine r_go 1 rfl ?_ ?_
        · (first | exact trivial | assumption | (simp (disch := omega) [ab_all, ab_nz, *]; done))
        refine r_ret rfl trivial ?_
        first | (subst h1; exfalso; unfold isSg at hc; revert hc; decide) | (have hc' : c = nI 124 := (by unfold isSg at hc; simp_all); subst hc'; refine lv_e ?_; simp (decide := true) only [jn, if_true, if_false] <;> simp [*, bI])
      · skip
        refine r_go 2 rfl ?_ ?_
        · (first | exact trivial | assumption | (simp (disch := omega) [ab_all, ab_nz, *]; done))
        refine r_ret rfl trivial ?_
        first | (subst h1; exfalso; unfold isSg at hc; revert hc; decide) | (have hc' : c = nI 124 := (by unfold isSg at hc; simp_all); subst hc'; refine lv_e ?_; simp (decide := true) only [jn, if_true, if_false] <;> simp [*, bI])
  refine r_swk (fun h1 => ?_) (fun h1 => ?_)
  · skip
    refine r_go 1 rfl ?_ ?_
    · (first | exact trivial | assumption | (simp (disch := omega) [ab_all, ab_nz, *]; done))
    refine r_ne rfl (fun h219 => ?_) (fun h219 => ?_)
    · skip
      refine r_go 2 rfl ?_ ?_
      · (first | exact trivial | assumption | (simp (disch := omega) [ab_all, ab_nz, *]; done))
      refine r_ret rfl trivial ?_
      first | (subst h1; exfalso; unfold isSg at hc; revert hc; decide) | (have hc' : c = nI 124 := (by unfold isSg at hc; simp_all); subst hc'; refine lv_e ?_; simp (decide := true) only [jn, if_true, if_false] <;> simp [*, bI])
    · skip
      refine r_go 1 rfl ?_ ?_
      · (first | exact trivial | assumption | (simp (disch := omega) [ab_all, ab_nz, *]; done))
      refine r_br rfl (fun h223 => ?_) (fun h223 => ?_)
      · skip
        refine r_go 1 rfl ?_ ?_
        · (first | exact trivial | assumption | (simp (disch := omega) [ab_all, ab_nz, *]; done))
        refine r_ret rfl trivial ?_
        first | (subst h1; exfalso; unfold isSg at hc; revert hc; decide) | (have hc' : c = nI 124 := (by unfold isSg at hc; simp_all); subst hc'; refine lv_e ?_; simp (decide := true) only [jn, if_true, if_false] <;> simp [*, bI])
      · skip
        refine r_go 2 rfl ?_ ?_
        · (first | exact trivial | assumption | (simp (disch := omega) [ab_all, ab_nz, *]; done))
        refine r_ret rfl trivial ?_
        first | (subst h1; exfalso; unfold isSg at hc; revert hc; decide) | (have hc' : c = nI 124 := (by unfold isSg at hc; simp_all); subst hc'; refine lv_e ?_; simp (decide := true) only [jn, if_true, if_false] <;> simp [*, bI])
  refine r_swk (fun h1 => ?_) (fun h1 => ?_)
  · skip
    refine r_go 1 rfl ?_ ?_
    · (first | exact trivial | assumption | (simp (disch := omega) [ab_all, ab_nz, *]; done))
    refine r_ne rfl (fun h219 => ?_) (fun h219 => ?_)
    · skip
      refine r_go 2 rfl ?_ ?_
      · (first | exact trivial | assumption | (simp (disch := omega) [ab_all, ab_nz, *]; done))
      refine r_ret rfl trivial ?_
      first | (subst h1; exfalso; unfold isSg at hc; revert hc; decide) | (have hc' : c = nI 124 := (by unfold isSg at hc; simp_all); subst hc'; refine lv_e ?_; simp (decide := true) only [jn, if_true, if_false] <;> simp [*, bI])
    · skip
      refine r_go 1 rfl ?_ ?_
      · (first | exact trivial | assumption | (simp (disch := omega) [ab_all, ab_nz, *]; done))
      refine r_br rfl (fun h223 => ?_) (fun h223 => ?_)
      · skip
        refine r_go 1 rfl ?_ ?_
        · (first | exact trivial | assumption | (simp (disch := omega) [ab_all, ab_nz, *]; done))
        refine r_ret rfl trivial ?_
        first | (subst h1; exfalso; unfold isSg at hc; revert hc; decide) | (have hc' : c = nI 124 := (by unfold isSg at hc; simp_all); subst hc'; refine lv_e ?_; simp (decide := true) only [jn, if_true, if_false] <;> simp [*, bI])
      · skip
        refine r_go 2 rfl ?_ ?_
        · (first | exact trivial | assumption | (simp (disch := omega) [ab_all, ab_nz, *]; done))
        refine r_ret rfl trivial ?_
        first | (subst h1; exfalso; unfold isSg at hc; revert hc; decide) | (have hc' : c = nI 124 := (by unfold isSg at hc; simp_all); subst hc'; refine lv_e ?_; simp (decide := true) only [jn, if_true, if_false] <;> simp [*, bI])
  refine r_swk (fun h1 => ?_) (fun h1 => ?_)
  · skip
    refine r_go 1 rfl ?_ ?_
    · (first | exact trivial | assumption | (simp (disch := omega) [ab_all, ab_nz, *]; done))
    refine r_ne rfl (fun h219 => ?_) (fun h219 => ?_)
    · skip
      refine r_go 2 rfl ?_ ?_
      · (first | exact trivial | assumption | (simp (disch := omega) [ab_all, ab_nz, *]; done))
      refine r_ret rfl trivial ?_
      first | (subst h1; exfalso; unfold isSg at hc; revert hc; decide) | (have hc' : c = nI 124 := (by unfold isSg at hc; simp_all); subst hc'; refine lv_e ?_; simp (decide := true) only [jn, if_true, if_false] <;> simp [*, bI])
    · skip
      refine r_go 1 rfl ?_ ?_
      · (first | exact trivial | assumption | (simp (disch := omega) [ab_all, ab_nz, *]; done))
      refine r_br rfl (fun h223 => ?_) (fun h223 => ?_)
      · skip
        refine r_go 1 rfl ?_ ?_
        · (first | exact trivial | assumption | (simp (disch := omega) [ab_all, ab_nz, *]; done))
        refine r_ret rfl trivial ?_
        first | (subst h1; exfalso; unfold isSg at hc; revert hc; decide) | (have hc' : c = nI 124 := (by unfold isSg at hc; simp_all); subst hc'; refine lv_e ?_; simp (decide := true) only [jn, if_true, if_false] <;> simp [*, bI])
      · skip
        refine r_go 2 rfl ?_ ?_
        · (first | exact trivial | assumption | (simp (disch := omega) [ab_all, ab_nz, *]; done))
        refine r_ret rfl trivial ?_
        first | (subst h1; exfalso; unfold isSg at hc; revert hc; decide) | (have hc' : c = nI 124 := (by unfold isSg at hc; simp_all); subst hc'; refine lv_e ?_; simp (decide := true) only [jn, if_true, if_false] <;> simp [*, bI])
  refine r_swk (fun h1 => ?_) (fun h1 => ?_)
  · skip
    refine r_go 2 rfl ?_ ?_
    · (first | exact trivial | assumption | (simp (disch := omega) [ab_all, ab_nz, *]; done))
    refine r_le rfl (fun h173 => ?_) (fun h173 => ?_)
    · skip
      refine r_go 1 rfl ?_ ?_
      · (first | exact trivial | assumption | (simp (disch := omega) [ab_all, ab_nz, *]; done))
      refine r_ret rfl trivial ?_
      (subst h1; refine lv_e ?_; (try subst h160); (try subst h142); simp (decide := true) only [jn, if_true, if_false, rm_m1] <;> simp [*, bI, dv_m1])
    · skip
      refine r_go 2 rfl ?_ ?_
      · (first | exact trivial | assumption | (simp (disch := omega) [ab_all, ab_nz, *]; done))
      refine r_ret rfl trivial ?_
      (subst h1; refine lv_e ?_; (try subst h160); (try subst h142); simp (decide := true) only [jn, if_true, if_false, rm_m1] <;> simp [*, bI, dv_m1])
  refine r_swk (fun h1 => ?_) (fun h1 => ?_)
  · skip
    refine r_go 2 rfl ?_ ?_
    · (first | exact trivial | assumption | (simp (disch := omega) [ab_all, ab_nz, *]; done))
    refine r_ne rfl (fun h195 => ?_) (fun h195 => ?_)
    · skip
      refine r_go 1 rfl ?_ ?_
      · (first | exact trivial | assumption | (simp (disch := omega) [ab_all, ab_nz, *]; done))
      refine r_ret rfl trivial ?_
      (subst h1; refine lv_e ?_; (try subst h160); (try subst h142); simp (decide := true) only [jn, if_true, if_false, rm_m1] <;> simp [*, bI, dv_m1])
    · skip
      refine r_go 2 rfl ?_ ?_
      · (first | exact trivial | assumption | (simp (disch := omega) [ab_all, ab_nz, *]; done))
      refine r_ret rfl trivial ?_
      (subst h1; refine lv_e ?_; (try subst h160); (try subst h142); simp (decide := true) only [jn, if_true, if_false, rm_m1] <;> simp [*, bI, dv_m1])
  refine r_swk (fun h1 => ?_) (fun h1 => ?_)
  · skip
    refine r_go 2 rfl ?_ ?_
    · (first | exact trivial | assumption | (simp (disch := omega) [ab_all, ab_nz, *]; done))
    refine r_le rfl (fun h184 => ?_) (fun h184 => ?_)
    · skip
      refine r_go 1 rfl ?_ ?_
      · (first | exact trivial | assumption | (simp (disch := omega) [ab_all, ab_nz, *]; done))
      refine r_ret rfl trivial ?_
      (subst h1; refine lv_e ?_; (try subst h160); (try subst h142); simp (decide := true) only [jn, if_true, if_false, rm_m1] <;> simp [*, bI, dv_m1])
    · skip
      refine r_go 2 rfl ?_ ?_
      · (first | exact trivial | assumption | (simp (disch := omega) [ab_all, ab_nz, *]; done))
      refine r_ret rfl trivial ?_
      (subst h1; refine lv_e ?_; (try subst h160); (try subst h142); simp (decide := true) only [jn, if_true, if_false, rm_m1] <;> simp [*, bI, dv_m1])
  refine r_go 1 rfl ?_ ?_
  · (first | exact trivial | assumption | (simp (disch := omega) [ab_all, ab_nz, *]; done))
  refine r_ne rfl (fun h219 => ?_) (fun h219 => ?_)
  · skip
    refine r_go 2 rfl ?_ ?_
    · (first | exact trivial | assumption | (simp (disch := omega) [ab_all, ab_nz, *]; done))
    refine r_ret rfl trivial ?_
    first | (subst h1; exfalso; unfold isSg at hc; revert hc; decide) | (have hc' : c = nI 124 := (by unfold isSg at hc; simp_all); subst hc'; refine lv_e ?_; simp (decide := true) only [jn, if_true, if_false] <;> simp [*, bI])
  · skip
    refine r_go 1 rfl ?_ ?_
    · (first | exact trivial | assumption | (simp (disch := omega) [ab_all, ab_nz, *]; done))
    refine r_br rfl (fun h223 => ?_) (fun h223 => ?_)
    · skip
      refine r_go 1 rfl ?_ ?_
      · (first | exact trivial | assumption | (simp (disch := omega) [ab_all, ab_nz, *]; done))
      refine r_ret rfl trivial ?_
      first | (subst h1; exfalso; unfold isSg at hc; revert hc; decide) | (have hc' : c = nI 124 := (by unfold isSg at hc; simp_all); subst hc'; refine lv_e ?_; simp (decide := true) only [jn, if_true, if_false] <;> simp [*, bI])
    · skip
      refine r_go 2 rfl ?_ ?_
      · (first | exact trivial | assumption | (simp (disch := omega) [ab_all, ab_nz, *]; done))
      refine r_ret rfl trivial ?_
      first | (subst h1; exfalso; unfold isSg at hc; revert hc; decide) | (have hc' : c = nI 124 := (by unfold isSg at hc; simp_all); subst hc'; refine lv_e ?_; simp (decide := true) only [jn, if_true, if_false] <;> simp [*, bI])
