/-! doors told -/
theorem k_ofDoor {t : Nat} {s : Vc} {i : ab_I} (d k : Nat) (hk : k ≤ 9) (ht : isT t) (hI : InT s) (hX : InXs s) (hR : TwR t s i) (hL : LwsR s i) (hd : d < nD s) : ab_K 3 94 [.ref t, .int (nI d), .int (nI k), .ref 23, .ref 27] i (fun v i' => v = some (.int (toldDoor s d (nI k))) ∧ sl i i') := by
  have d12 : d < 12 := by have := hI.2.1.2; omega
  refine k_of rfl ?_
  refine r_go 2 rfl ?_ ?_
  · (first | exact trivial | assumption | (simp (disch := omega) [ab_all, ab_nz, *]; done))
  refine r_ne rfl (fun h3 => ?_) (fun h3 => ?_)
  · skip
    refine r_go 2 rfl ?_ ?_
    · (first | exact trivial | assumption | (simp (disch := omega) [ab_all, ab_nz, *]; done))
    refine r_ne rfl (fun h20 => ?_) (fun h20 => ?_)
    · skip
      refine r_go 2 rfl ?_ ?_
      · (first | exact trivial | assumption | (simp (disch := omega) [ab_all, ab_nz, *]; done))
      refine r_cv rfl (by first | exact tg_t ht | exact tg_d ht d12) ((k_doorAt d ht d12)) (by decide) ?_
      refine r_go 1 rfl ?_ ?_
      · (first | exact trivial | assumption | (simp (disch := omega) [ab_all, ab_nz, *]; done))
      refine r_cv rfl (by first | exact tg_t ht | exact tg_d ht d12) ((k_dtells k (by rw [nI_eq (by omega) (by omega)] at h3 h20; omega) (tg_d ht d12))) (by decide) ?_
      refine r_ret rfl trivial ?_
      first | exact ⟨by unfold toldDoor; rw [if_neg h3, if_pos h20], fun q a b => hf q b⟩ | exact ⟨by unfold toldDoor; rw [if_neg h3, if_neg h20, nI_cl (by omega), hR.2.2 d hd k (by rw [nI_eq (by omega) (by omega)] at h3 h20; omega)], sl_rf⟩
    · skip
      refine r_go 2 rfl ?_ ?_
      · (first | exact trivial | assumption | (simp (disch := omega) [ab_all, ab_nz, *]; done))
      refine r_cv rfl (by first | exact tg_t ht | exact tg_d ht d12) ((k_doorAt d ht d12)) (by decide) ?_
      refine r_go 1 rfl ?_ ?_
      · (first | exact trivial | assumption | (simp (disch := omega) [ab_all, ab_nz, *]; done))
      refine r_c rfl (by first | exact tg_t ht | exact tg_d ht d12) ((k_pain ht hR hI hd hL hX)) (by decide) ?_
      rintro v i' ⟨rfl, hf⟩
      refine r_go 1 rfl ?_ ?_
      · (first | exact trivial | assumption | (simp (disch := omega) [ab_all, ab_nz, *]; done))
      refine r_ret rfl trivial ?_
      first | exact ⟨by unfold toldDoor; rw [if_neg h3, if_pos h20], fun q a b => hf q b⟩ | exact ⟨by unfold toldDoor; rw [if_neg h3, if_neg h20, nI_cl (by omega), hR.2.2 d hd k (by rw [nI_eq (by omega) (by omega)] at h3 h20; omega)], sl_rf⟩
  · skip
    refine r_go 3 rfl ?_ ?_
    · (first | exact trivial | assumption | (simp (disch := omega) [ab_all, ab_nz, *]; done))
    refine r_cv rfl (by first | exact tg_t ht | exact tg_d ht d12) ((k_doorAt d ht d12)) (by decide) ?_
    refine r_go 1 rfl ?_ ?_
    · (first | exact trivial | assumption | (simp (disch := omega) [ab_all, ab_nz, *]; done))
    refine r_c rfl (by first | exact tg_t ht | exact tg_d ht d12) ((k_voteOf ht hR hI hd hL.1 hX.1)) (by decide) ?_
    rintro v i' ⟨rfl, hf⟩
    refine r_ret rfl trivial ?_
    exact ⟨by unfold toldDoor; rw [if_pos h3], fun q a b => hf q a⟩
theorem m_toldD {i : ab_I} {s : Vc} (d k : Nat) (hk : k ≤ 9) (hs : i 219 = s) (hI : InT s) (hX : InXs s) (hd : d < nD s) : ab_K 5 170 [.ref 218, .int (nI d), .int (nI k)] i (fun v i' => v = some (.int (toldDoor s d (nI k))) ∧ sr i i') := by
  have d12 : d < 12 := by have := hI.2.1.2; omega
  refine k_of rfl ?_
  refine r_go 2 rfl ?_ ?_
  · (first | exact trivial | assumption | (simp (disch := omega) [ab_all, ab_nz, *]; done))
  refine r_ne rfl (fun h3 => ?_) (fun h3 => ?_)
  · skip
    refine r_go 2 rfl ?_ ?_
    · (first | exact trivial | assumption | (simp (disch := omega) [ab_all, ab_nz, *]; done))
    refine r_ne rfl (fun h17 => ?_) (fun h17 => ?_)
    · skip
      refine r_go 3 rfl ?_ ?_
      · (first | exact trivial | assumption | (simp (disch := omega) [ab_all, ab_nz, *]; done))
      refine r_cv rfl rfl ((m_its d k hs (by omega))) (by decide) ?_
      refine r_ret rfl trivial ?_
      first | exact ⟨by unfold toldDoor; rw [if_pos h3], hf⟩ | exact ⟨by unfold toldDoor; rw [if_neg h3, if_pos h17], hf⟩ | exact ⟨by unfold toldDoor; rw [if_neg h3, if_neg h17, nI_cl (by omega)], sr_rf⟩
    · skip
      refine r_go 2 rfl ?_ ?_
      · (first | exact trivial | assumption | (simp (disch := omega) [ab_all, ab_nz, *]; done))
      refine r_c rfl rfl ((m_pain d hs hI hX hd)) (by decide) ?_
      rintro v i' ⟨rfl, hf⟩
      refine r_go 1 rfl ?_ ?_
      · (first | exact trivial | assumption | (simp (disch := omega) [ab_all, ab_nz, *]; done))
      refine r_ret rfl trivial ?_
      first | exact ⟨by unfold toldDoor; rw [if_pos h3], hf⟩ | exact ⟨by unfold toldDoor; rw [if_neg h3, if_pos h17], hf⟩ | exact ⟨by unfold toldDoor; rw [if_neg h3, if_neg h17, nI_cl (by omega)], sr_rf⟩
  · skip
    refine r_go 2 rfl ?_ ?_
    · (first | exact trivial | assumption | (simp (disch := omega) [ab_all, ab_nz, *]; done))
    refine r_c rfl rfl ((m_vote d hs hI hX hd)) (by decide) ?_
    rintro v i' ⟨rfl, hf⟩
    refine r_go 1 rfl ?_ ?_
    · (first | exact trivial | assumption | (simp (disch := omega) [ab_all, ab_nz, *]; done))
    refine r_ret rfl trivial ?_
    first | exact ⟨by unfold toldDoor; rw [if_pos h3], hf⟩ | exact ⟨by unfold toldDoor; rw [if_neg h3, if_pos h17], hf⟩ | exact ⟨by unfold toldDoor; rw [if_neg h3, if_neg h17, nI_cl (by omega)], sr_rf⟩
def S_doorIs (d w : Int32) (m : ab_I) : Int32 × ab_I := if okD (m 219) d ∧ nI 0 ≤ w ∧ w ≤ nI 9 then (toldDoor (m 219) d.toNatClampNeg w, m) else er m 1
theorem c_doorIs {i m : ab_I} (hC : ClsR i m) (hJ : InM m) (x w : Int32) : ab_K 4 115 [.ref 0, .int x, .int w] i (clQ i (S_doorIs x w m)) := by
  (have hI := hJ.1.1; have hX := InS_X hJ.1; have hT := hC.1.1; have hLw : LwsR (m 219) i := ⟨hC.1.2.1, hC.1.2.2.1⟩; have hE := hC.2.2.2.2.1.1)
  have t3 : i 2 3 = nI (nD (m 219)) := hT.1.2.1.trans hI.2.1.1
  refine k_of rfl ?_
  refine r_go 4 rfl ?_ ?_
  · (first | exact trivial | (simp only [ab_all] <;> decide))
  simp only [gr_0_0, gr_0_1, gr_0_3, gr_0_4, gr_0_5, gr_0_6, gr_0_7, gr_1_0, gr_1_1, gr_1_2, gr_1_3, gr_1_4, gr_35_0, gr_35_1, gr_35_2, gr_35_3, gr_35_4]
  refine r_cv rfl rfl ((k_hasD x isT_2 t3 (Nat.le_trans hI.2.1.2 (by decide)))) (by decide) ?_
  refine r_bE rfl (fun h11 => ?_) (fun h11 => ?_)
  · skip
    refine r_go 2 rfl ?_ ?_
    · (first | exact trivial | (simp only [ab_all] <;> decide))
    refine r_cv rfl rfl ((k_error 1 (by decide) (by decide) hE)) (by decide) ?_
    refine r_ret rfl trivial ?_
    exact cl_to (if_neg (by simp only [h11, if_true, if_false, not_true, not_false_eq_true, and_true, true_and, and_false, false_and, or_true, true_or, or_false, false_or, and_self, or_self, not_false_eq_true])) (cl_er (by decide) (by decide) hJ hC)
  · skip
    refine r_go 3 rfl ?_ ?_
    · (first | exact trivial | (simp only [ab_all] <;> decide))
    refine r_cv rfl trivial ((k_within _ _ _)) (by decide) ?_
    refine r_bN rfl (fun h21 => ?_) (fun h21 => ?_)
    · skip
      refine r_go 11 rfl ?_ ?_
      · (first | exact trivial | (simp only [ab_all] <;> decide))
      have hP : S_doorIs x w m = (toldDoor (m 219) x.toNatClampNeg w, m) := if_pos ⟨h11, h21⟩
      obtain ⟨b, hb, rfl⟩ := of_rg h11
      obtain ⟨k, hk, rfl⟩ := of_bt (by decide) h21
      rw [nI_cl (by have := hI.2.1.2; omega)] at hP
      simp only [gr_0_0, gr_0_1, gr_0_3, gr_0_4, gr_0_5, gr_0_6, gr_0_7, gr_1_0, gr_1_1, gr_1_2, gr_1_3, gr_1_4, gr_35_0, gr_35_1, gr_35_2, gr_35_3, gr_35_4]
      refine r_c rfl rfl ((k_ofDoor b k hk isT_2 hI hX hT hLw hb)) (by decide) ?_
      rintro v i' ⟨rfl, hf⟩
      refine r_ret rfl trivial ?_
      exact cl_to hP (cl_sl hJ hC hf)
    · skip
      refine r_go 2 rfl ?_ ?_
      · (first | exact trivial | (simp only [ab_all] <;> decide))
      refine r_cv rfl rfl ((k_error 1 (by decide) (by decide) hE)) (by decide) ?_
      refine r_ret rfl trivial ?_
      exact cl_to (if_neg (by simp only [h11, h21, if_true, if_false, not_true, not_false_eq_true, and_true, true_and, and_false, false_and, or_true, true_or, or_false, false_or, and_self, or_self, not_false_eq_true])) (cl_er (by decide) (by decide) hJ hC)
theorem m_doorIs {i m : ab_I} (hm : mo i m) (hJ : InM m) (h13 : i 218 13 = (-1)) (x w : Int32) : ab_K 6 171 [.ref 218, .int x, .int w] i (rfQ i (S_doorIs x w m)) := by
  (have hI := hJ.1.1; have hX := InS_X hJ.1; have hs := hm.1)
  refine k_of rfl ?_
  refine r_go 2 rfl ?_ ?_
  · (first | exact trivial | assumption | (simp (disch := omega) [ab_all, ab_nz, *]; done))
  refine r_cv rfl rfl ((m_isD x hs hI)) (by decide) ?_
  refine r_bE rfl (fun h5 => ?_) (fun h5 => ?_)
  · skip
    refine r_go 2 rfl ?_ ?_
    · (first | exact trivial | assumption | (simp (disch := omega) [ab_all, ab_nz, *]; done))
    refine r_cv rfl rfl ((m_error 1 (by decide))) (by decide) ?_
    refine r_ret rfl trivial ?_
    first | exact rf_to hP (rf_sr hm h13 hf) | exact rf_to (if_neg (by simp only [h5, if_true, if_false, not_true, not_false_eq_true, and_true, true_and, and_false, false_and, or_true, true_or, or_false, false_or, and_self, or_self, not_false_eq_true])) (rf_er hm h13)
  · skip
    refine r_go 3 rfl ?_ ?_
    · (first | exact trivial | assumption | (simp (disch := omega) [ab_all, ab_nz, *]; done))
    refine r_cv rfl trivial ((m_in _ _ _)) (by decide) ?_
    refine r_bE rfl (fun h15 => ?_) (fun h15 => ?_)
    · skip
      refine r_go 2 rfl ?_ ?_
      · (first | exact trivial | assumption | (simp (disch := omega) [ab_all, ab_nz, *]; done))
      refine r_cv rfl rfl ((m_error 1 (by decide))) (by decide) ?_
      refine r_ret rfl trivial ?_
      first | exact rf_to hP (rf_sr hm h13 hf) | exact rf_to (if_neg (by simp only [h5, h15, if_true, if_false, not_true, not_false_eq_true, and_true, true_and, and_false, false_and, or_true, true_or, or_false, false_or, and_self, or_self, not_false_eq_true])) (rf_er hm h13)
    · skip
      have hP : S_doorIs x w m = (toldDoor (m 219) x.toNatClampNeg w, m) := if_pos ⟨h5, h15⟩
      obtain ⟨b, hb, rfl⟩ := of_rg h5
      obtain ⟨k, hk, rfl⟩ := of_bt (by decide) h15
      rw [nI_cl (by have := hI.2.1.2; omega)] at hP
      refine r_go 3 rfl ?_ ?_
      · (first | exact trivial | assumption | (simp (disch := omega) [ab_all, ab_nz, *]; done))
      refine r_c rfl rfl ((m_toldD b k hk hs hI hX hb)) (by decide) ?_
      rintro v i' ⟨rfl, hf⟩
      refine r_go 1 rfl ?_ ?_
      · (first | exact trivial | assumption | (simp (disch := omega) [ab_all, ab_nz, *]; done))
      refine r_ret rfl trivial ?_
      first | exact rf_to hP (rf_sr hm h13 hf) | exact rf_to (if_neg (by simp only [h5, h15, if_true, if_false, not_true, not_false_eq_true, and_true, true_and, and_false, false_and, or_true, true_or, or_false, false_or, and_self, or_self, not_false_eq_true])) (rf_er hm h13)
theorem n_doorIs {m : ab_I} (hJ : InM m) (x w : Int32) : InM (S_doorIs x w m).2 := by
  unfold S_doorIs
  split
  · exact hJ
  · exact InM_er hJ
/-! as -/
abbrev isUn (own k : Int32) : Prop := k = nI 0 ∨ own = k ∨ (k = nI 1 ∧ own = nI 5) ∨ (k = nI 2 ∧ own = nI 3)
theorem m_isUn {i : ab_I} (a b : Int32) : ab_K 0 172 [.int a, .int b] i (ab_V (.int (bI (isUn a b))) i) := by
  refine k_of rfl ?_
  refine r_go 1 rfl ?_ ?_
  · (first | exact trivial | assumption | (simp (disch := omega) [ab_all, ab_nz, *]; done))
  refine r_br rfl (fun h1 => ?_) (fun h1 => ?_)
  · skip
    refine r_go 2 rfl ?_ ?_
    · (first | exact trivial | assumption | (simp (disch := omega) [ab_all, ab_nz, *]; done))
    refine r_ret rfl (by (first | exact Or.inl rfl | exact Or.inr rfl | exact bI_or)) ?_
    first | exact lf_t (by unfold isUn; (simp (disch := omega) only [eq_i, Int32.le_iff_toInt_le, Int32.lt_iff_toInt_lt, c_i, m1_i, m5_i, m33_i] at * <;> omega)) | exact lf_f (by unfold isUn; (simp (disch := omega) only [eq_i, Int32.le_iff_toInt_le, Int32.lt_iff_toInt_lt, c_i, m1_i, m5_i, m33_i] at * <;> omega))
  · skip
    refine r_go 2 rfl ?_ ?_
    · (first | exact trivial | assumption | (simp (disch := omega) [ab_all, ab_nz, *]; done))
    refine r_br rfl (fun h6 => ?_) (fun h6 => ?_)
    · skip
      refine r_go 2 rfl ?_ ?_
      · (first | exact trivial | assumption | (simp (disch := omega) [ab_all, ab_nz, *]; done))
      refine r_ret rfl (by (first | exact Or.inl rfl | exact Or.inr rfl | exact bI_or)) ?_
      first | exact lf_t (by unfold isUn; (simp (disch := omega) only [eq_i, Int32.le_iff_toInt_le, Int32.lt_iff_toInt_lt, c_i, m1_i, m5_i, m33_i] at * <;> omega)) | exact lf_f (by unfold isUn; (simp (disch := omega) only [eq_i, Int32.le_iff_toInt_le, Int32.lt_iff_toInt_lt, c_i, m1_i, m5_i, m33_i] at * <;> omega))
    · skip
      refine r_go 2 rfl ?_ ?_
      · (first | exact trivial | assumption | (simp (disch := omega) [ab_all, ab_nz, *]; done))
      refine r_ne rfl (fun h11 => ?_) (fun h11 => ?_)
      · skip
        refine r_go 2 rfl ?_ ?_
        · (first | exact trivial | assumption | (simp (disch := omega) [ab_all, ab_nz, *]; done))
        refine r_ne rfl (fun h21 => ?_) (fun h21 => ?_)
        · skip
          refine r_go 1 rfl ?_ ?_
          · (first | exact trivial | assumption | (simp (disch := omega) [ab_all, ab_nz, *]; done))
          refine r_ret rfl (by (first | exact Or.inl rfl | exact Or.inr rfl | exact bI_or)) ?_
          first | exact lf_t (by unfold isUn; (simp (disch := omega) only [eq_i, Int32.le_iff_toInt_le, Int32.lt_iff_toInt_lt, c_i, m1_i, m5_i, m33_i] at * <;> omega)) | exact lf_f (by unfold isUn; (simp (disch := omega) only [eq_i, Int32.le_iff_toInt_le, Int32.lt_iff_toInt_lt, c_i, m1_i, m5_i, m33_i] at * <;> omega))
        · skip
          refine r_go 2 rfl ?_ ?_
          · (first | exact trivial | assumption | (simp (disch := omega) [ab_all, ab_nz, *]; done))
          refine r_ne rfl (fun h26 => ?_) (fun h26 => ?_)
          · skip
            refine r_go 1 rfl ?_ ?_
            · (first | exact trivial | assumption | (simp (disch := omega) [ab_all, ab_nz, *]; done))
            refine r_ret rfl (by (first | exact Or.inl rfl | exact Or.inr rfl | exact bI_or)) ?_
            first | exact lf_t (by unfold isUn; (simp (disch := omega) only [eq_i, Int32.le_iff_toInt_le, Int32.lt_iff_toInt_lt, c_i, m1_i, m5_i, m33_i] at * <;> omega)) | exact lf_f (by unfold isUn; (simp (disch := omega) only [eq_i, Int32.le_iff_toInt_le, Int32.lt_iff_toInt_lt, c_i, m1_i, m5_i, m33_i] at * <;> omega))
          · skip
            refine r_go 2 rfl ?_ ?_
            · (first | exact trivial | assumption | (simp (disch := omega) [ab_all, ab_nz, *]; done))
            refine r_ret rfl (by (first | exact Or.inl rfl | exact Or.inr rfl | exact bI_or)) ?_
            first | exact lf_t (by unfold isUn; (simp (disch := omega) only [eq_i, Int32.le_iff_toInt_le, Int32.lt_iff_toInt_lt, c_i, m1_i, m5_i, m33_i] at * <;> omega)) | exact lf_f (by unfold isUn; (simp (disch := omega) only [eq_i, Int32.le_iff_toInt_le, Int32.lt_iff_toInt_lt, c_i, m1_i, m5_i, m33_i] at * <;> omega))
      · skip
        refine r_go 2 rfl ?_ ?_
        · (first | exact trivial | assumption | (simp (disch := omega) [ab_all, ab_nz, *]; done))
        refine r_br rfl (fun h16 => ?_) (fun h16 => ?_)
        · skip
          refine r_go 2 rfl ?_ ?_
          · (first | exact trivial | assumption | (simp (disch := omega) [ab_all, ab_nz, *]; done))
          refine r_ret rfl (by (first | exact Or.inl rfl | exact Or.inr rfl | exact bI_or)) ?_
          first | exact lf_t (by unfold isUn; (simp (disch := omega) only [eq_i, Int32.le_iff_toInt_le, Int32.lt_iff_toInt_lt, c_i, m1_i, m5_i, m33_i] at * <;> omega)) | exact lf_f (by unfold isUn; (simp (disch := omega) only [eq_i, Int32.le_iff_toInt_le, Int32.lt_iff_toInt_lt, c_i, m1_i, m5_i, m33_i] at * <;> omega))
        · skip
          refine r_go 2 rfl ?_ ?_
          · (first | exact trivial | assumption | (simp (disch := omega) [ab_all, ab_nz, *]; done))
          refine r_ne rfl (fun h21 => ?_) (fun h21 => ?_)
          · skip
            refine r_go 1 rfl ?_ ?_
            · (first | exact trivial | assumption | (simp (disch := omega) [ab_all, ab_nz, *]; done))
            refine r_ret rfl (by (first | exact Or.inl rfl | exact Or.inr rfl | exact bI_or)) ?_
            first | exact lf_t (by unfold isUn; (simp (disch := omega) only [eq_i, Int32.le_iff_toInt_le, Int32.lt_iff_toInt_lt, c_i, m1_i, m5_i, m33_i] at * <;> omega)) | exact lf_f (by unfold isUn; (simp (disch := omega) only [eq_i, Int32.le_iff_toInt_le, Int32.lt_iff_toInt_lt, c_i, m1_i, m5_i, m33_i] at * <;> omega))
          · skip
            refine r_go 2 rfl ?_ ?_
            · (first | exact trivial | assumption | (simp (disch := omega) [ab_all, ab_nz, *]; done))
            refine r_ne rfl (fun h26 => ?_) (fun h26 => ?_)
            · skip
              refine r_go 1 rfl ?_ ?_
              · (first | exact trivial | assumption | (simp (disch := omega) [ab_all, ab_nz, *]; done))
              refine r_ret rfl (by (first | exact Or.inl rfl | exact Or.inr rfl | exact bI_or)) ?_
              first | exact lf_t (by unfold isUn; (simp (disch := omega) only [eq_i, Int32.le_iff_toInt_le, Int32.lt_iff_toInt_lt, c_i, m1_i, m5_i, m33_i] at * <;> omega)) | exact lf_f (by unfold isUn; (simp (disch := omega) only [eq_i, Int32.le_iff_toInt_le, Int32.lt_iff_toInt_lt, c_i, m1_i, m5_i, m33_i] at * <;> omega))
            · skip
              refine r_go 2 rfl ?_ ?_
              · (first | exact trivial | assumption | (simp (disch := omega) [ab_all, ab_nz, *]; done))
              refine r_ret rfl (by (first | exact Or.inl rfl | exact Or.inr rfl | exact bI_or)) ?_
              first | exact lf_t (by unfold isUn; (simp (disch := omega) only [eq_i, Int32.le_iff_toInt_le, Int32.lt_iff_toInt_lt, c_i, m1_i, m5_i, m33_i] at * <;> omega)) | exact lf_f (by unfold isUn; (simp (disch := omega) only [eq_i, Int32.le_iff_toInt_le, Int32.lt_iff_toInt_lt, c_i, m1_i, m5_i, m33_i] at * <;> omega))
def kab (x : Int32) : Int32 := if x = nI 3 then nI 2 else if x = nI 5 then nI 1 else if x = nI 1 ∨ x = nI 2 ∨ x = nI 4 ∨ x = nI 6 then nI 0 else (-1)
theorem k_kab {i : ab_I} (x : Int32) : ab_K 0 27 [.int x] i (ab_V (.int (kab x)) i) := by
  refine k_of rfl ?_
  refine r_go 1 rfl ?_ ?_
  · (first | exact trivial | assumption | (simp (disch := omega) [ab_all, ab_nz, *]; done))
  refine r_sw rfl ?_
  refine r_swk (fun h1_1 => ?_) (fun h1_1 => ?_)
  · skip
    refine r_go 1 rfl ?_ ?_
    · (first | exact trivial | assumption | (simp (disch := omega) [ab_all, ab_nz, *]; done))
    refine r_ret rfl trivial ?_
    exact lv_e (by unfold kab; simp (decide := true) only [h1_1, if_true, if_false])
  refine r_swk (fun h1_2 => ?_) (fun h1_2 => ?_)
  · skip
    refine r_go 1 rfl ?_ ?_
    · (first | exact trivial | assumption | (simp (disch := omega) [ab_all, ab_nz, *]; done))
    refine r_ret rfl trivial ?_
    exact lv_e (by unfold kab; simp (decide := true) only [h1_1, h1_2, if_true, if_false])
  refine r_swk (fun h1_3 => ?_) (fun h1_3 => ?_)
  · skip
    refine r_go 1 rfl ?_ ?_
    · (first | exact trivial | assumption | (simp (disch := omega) [ab_all, ab_nz, *]; done))
    refine r_ret rfl trivial ?_
    exact lv_e (by unfold kab; simp (decide := true) only [h1_1, h1_2, h1_3, if_true, if_false])
  refine r_swk (fun h1_4 => ?_) (fun h1_4 => ?_)
  · skip
    refine r_go 1 rfl ?_ ?_
    · (first | exact trivial | assumption | (simp (disch := omega) [ab_all, ab_nz, *]; done))
    refine r_ret rfl trivial ?_
    exact lv_e (by unfold kab; simp (decide := true) only [h1_1, h1_2, h1_3, h1_4, if_true, if_false])
  refine r_swk (fun h1_5 => ?_) (fun h1_5 => ?_)
  · skip
    refine r_go 1 rfl ?_ ?_
    · (first | exact trivial | assumption | (simp (disch := omega) [ab_all, ab_nz, *]; done))
    refine r_ret rfl trivial ?_
    exact lv_e (by unfold kab; simp (decide := true) only [h1_1, h1_2, h1_3, h1_4, h1_5, if_true, if_false])
  refine r_swk (fun h1_6 => ?_) (fun h1_6 => ?_)
  · skip
    refine r_go 1 rfl ?_ ?_
    · (first | exact trivial | assumption | (simp (disch := omega) [ab_all, ab_nz, *]; done))
    refine r_ret rfl trivial ?_
    exact lv_e (by unfold kab; simp (decide := true) only [h1_1, h1_2, h1_3, h1_4, h1_5, h1_6, if_true, if_false])
  refine r_go 1 rfl ?_ ?_
  · (first | exact trivial | assumption | (simp (disch := omega) [ab_all, ab_nz, *]; done))
  refine r_ret rfl trivial ?_
  exact lv_e (by unfold kab; simp (decide := true) only [h1_1, h1_2, h1_3, h1_4, h1_5, h1_6, if_true, if_false])
theorem un_loop {i : ab_I} {u : Int32} {Q : Option Value → ab_I → Prop} (c a : Nat) (hc : c ≤ 6) (ha : a ≤ 6) (K1 : nI a = u → Q (some (.int (nI 1))) i) (K : ¬ nI a = u → ab_R 1 tb_X1_isUnder 4 [none, some (.int u), some (.int (kab (nI a))), some (.int (nI (c + 1)))] [] i Q) : ab_R 1 tb_X1_isUnder 4 [none, some (.int u), some (.int (nI a)), some (.int (nI c))] [] i Q := by
  refine r_go 2 rfl ?_ ?_
  · (first | exact trivial | assumption | (simp (disch := omega) [ab_all, ab_nz, *]; done))
  refine r_brF rfl (fun h => by clear K K1; (simp (disch := omega) only [Int32.le_iff_toInt_le, Int32.lt_iff_toInt_lt, c_i, m1_i, m5_i, m33_i] at * <;> omega)) ?_
  refine r_go 1 rfl ?_ ?_
  · (first | exact trivial | assumption | (simp (disch := omega) [ab_all, ab_nz, *]; done))
  refine r_brF rfl (fun h => by clear K K1; (simp (disch := omega) only [Int32.le_iff_toInt_le, Int32.lt_iff_toInt_lt, c_i, m1_i, m5_i, m33_i] at * <;> omega)) ?_
  refine r_go 2 rfl ?_ ?_
  · (first | exact trivial | assumption | (simp (disch := omega) [ab_all, ab_nz, *]; done))
  refine r_ne rfl (fun h16 => ?_) (fun h16 => ?_)
  · skip
    refine r_go 1 rfl ?_ ?_
    · (first | exact trivial | assumption | (simp (disch := omega) [ab_all, ab_nz, *]; done))
    refine r_cv rfl trivial ((k_kab _)) (by decide) ?_
    refine r_go 3 rfl ?_ ?_
    · (first | exact trivial | assumption | (simp (disch := omega) [ab_all, ab_nz, *]; done))
    rw [nI_add]
    exact r_lk (K h16) rfl
  · skip
    refine r_go 1 rfl ?_ ?_
    · (first | exact trivial | assumption | (simp (disch := omega) [ab_all, ab_nz, *]; done))
    refine r_ret rfl (by (first | exact Or.inl rfl | exact Or.inr rfl | exact bI_or)) ?_
    exact K1 h16
theorem un_end {i : ab_I} {u : Int32} (c : Nat) (hc : c ≤ 6) : ab_R 1 tb_X1_isUnder 4 [none, some (.int u), some (.int (-1)), some (.int (nI c))] [] i (ab_V (.int (nI 0)) i) := by
  refine r_go 2 rfl ?_ ?_
  · (first | exact trivial | assumption | (simp (disch := omega) [ab_all, ab_nz, *]; done))
  refine r_brF rfl (fun h => by (simp (disch := omega) only [Int32.le_iff_toInt_le, Int32.lt_iff_toInt_lt, c_i, m1_i, m5_i, m33_i] at * <;> omega)) ?_
  refine r_go 1 rfl ?_ ?_
  · (first | exact trivial | assumption | (simp (disch := omega) [ab_all, ab_nz, *]; done))
  refine r_brT rfl (by decide) ?_
  refine r_go 1 rfl ?_ ?_
  · (first | exact trivial | assumption | (simp (disch := omega) [ab_all, ab_nz, *]; done))
  refine r_ret rfl (by (first | exact Or.inl rfl | exact Or.inr rfl | exact bI_or)) ?_
  exact ⟨rfl, rfl⟩
theorem un_ret {i : ab_I} {a u : Int32} (h : a = u) {o : Int32} (hq : isUn o u) : ab_V (.int (bI (isUn o u))) i (some (.int (nI 1))) i := lf_t hq
theorem k_isUn {i : ab_I} (a b : Nat) (ha : a ≤ 6) (hb : b ≤ 6) : ab_K 1 28 [.int (nI a), .int (nI b)] i (ab_V (.int (bI (isUn (nI a) (nI b)))) i) := by
  refine k_of rfl ?_
  refine r_go 4 rfl ?_ ?_
  · (first | exact trivial | assumption | (simp (disch := omega) [ab_all, ab_nz, *]; done))
  have hw : ∀ (o : Nat), isUn (nI a) (nI o) → nI o = nI b → ab_V (.int (bI (isUn (nI a) (nI b)))) i (some (.int (nI 1))) i := fun o h e => lf_t (by rw [← e]; exact h)
  have hz : (∀ o : Nat, isUn (nI a) (nI o) → o ≤ 6 → ¬ nI o = nI b) → ∀ v i', ab_V (.int (nI 0)) i v i' → ab_V (.int (bI (isUn (nI a) (nI b)))) i v i' := fun h v i' z => by
      rw [bI_f (fun y => h b y hb rfl)]
      exact z
  have A : a = 0 ∨ a = 1 ∨ a = 2 ∨ a = 3 ∨ a = 4 ∨ a = 5 ∨ a = 6 := by omega
  have B : b = 0 ∨ b = 1 ∨ b = 2 ∨ b = 3 ∨ b = 4 ∨ b = 5 ∨ b = 6 := by omega
  rcases A with rfl | rfl | rfl | rfl | rfl | rfl | rfl
  · exact r_lk (un_loop 0 0 (by decide) (by decide) (hw 0 (by decide)) (fun h1 => r_mono (un_end 1 (by decide)) (by rcases B with rfl | rfl | rfl | rfl | rfl | rfl | rfl <;> first | exact absurd rfl h1 | (intro v i' z; rw [bI_f (by decide)]; exact z)))) rfl
  · exact r_lk (un_loop 0 1 (by decide) (by decide) (hw 1 (by decide)) (fun h1 => un_loop 1 0 (by decide) (by decide) (hw 0 (by decide)) (fun h2 => r_mono (un_end 2 (by decide)) (by rcases B with rfl | rfl | rfl | rfl | rfl | rfl | rfl <;> first | exact absurd rfl h1 | exact absurd rfl h2 | (intro v i' z; rw [bI_f (by decide)]; exact z))))) rfl
  · exact r_lk (un_loop 0 2 (by decide) (by decide) (hw 2 (by decide)) (fun h1 => un_loop 1 0 (by decide) (by decide) (hw 0 (by decide)) (fun h2 => r_mono (un_end 2 (by decide)) (by rcases B with rfl | rfl | rfl | rfl | rfl | rfl | rfl <;> first | exact absurd rfl h1 | exact absurd rfl h2 | (intro v i' z; rw [bI_f (by decide)]; exact z))))) rfl
  · exact r_lk (un_loop 0 3 (by decide) (by decide) (hw 3 (by decide)) (fun h1 => un_loop 1 2 (by decide) (by decide) (hw 2 (by decide)) (fun h2 => un_loop 2 0 (by decide) (by decide) (hw 0 (by decide)) (fun h3 => r_mono (un_end 3 (by decide)) (by rcases B with rfl | rfl | rfl | rfl | rfl | rfl | rfl <;> first | exact absurd rfl h1 | exact absurd rfl h2 | exact absurd rfl h3 | (intro v i' z; rw [bI_f (by decide)]; exact z)))))) rfl
  · exact r_lk (un_loop 0 4 (by decide) (by decide) (hw 4 (by decide)) (fun h1 => un_loop 1 0 (by decide) (by decide) (hw 0 (by decide)) (fun h2 => r_mono (un_end 2 (by decide)) (by rcases B with rfl | rfl | rfl | rfl | rfl | rfl | rfl <;> first | exact absurd rfl h1 | exact absurd rfl h2 | (intro v i' z; rw [bI_f (by decide)]; exact z))))) rfl
  · exact r_lk (un_loop 0 5 (by decide) (by decide) (hw 5 (by decide)) (fun h1 => un_loop 1 1 (by decide) (by decide) (hw 1 (by decide)) (fun h2 => un_loop 2 0 (by decide) (by decide) (hw 0 (by decide)) (fun h3 => r_mono (un_end 3 (by decide)) (by rcases B with rfl | rfl | rfl | rfl | rfl | rfl | rfl <;> first | exact absurd rfl h1 | exact absurd rfl h2 | exact absurd rfl h3 | (intro v i' z; rw [bI_f (by decide)]; exact z)))))) rfl
  · exact r_lk (un_loop 0 6 (by decide) (by decide) (hw 6 (by decide)) (fun h1 => un_loop 1 0 (by decide) (by decide) (hw 0 (by decide)) (fun h2 => r_mono (un_end 2 (by decide)) (by rcases B with rfl | rfl | rfl | rfl | rfl | rfl | rfl <;> first | exact absurd rfl h1 | exact absurd rfl h2 | (intro v i' z; rw [bI_f (by decide)]; exact z))))) rfl
def S_as (d k : Int32) (m : ab_I) : Int32 × ab_I := if okD (m 219) d ∧ nI 0 ≤ k ∧ k ≤ nI 6 then (if isUn (dr (m 219) d.toNatClampNeg 0) k then (dr (m 219) d.toNatClampNeg 3, m) else er m 5) else er m 1
theorem c_as {i m : ab_I} (hC : ClsR i m) (hJ : InM m) (x w : Int32) : ab_K 3 116 [.ref 0, .int x, .int w] i (clQ i (S_as x w m)) := by
  (have hI := hJ.1.1; have hX := InS_X hJ.1; have hT := hC.1.1; have hLw : LwsR (m 219) i := ⟨hC.1.2.1, hC.1.2.2.1⟩; have hE := hC.2.2.2.2.1.1)
  have t3 : i 2 3 = nI (nD (m 219)) := hT.1.2.1.trans hI.2.1.1
  have d12 := hI.2.1.2
  refine k_of rfl ?_
  refine r_go 4 rfl ?_ ?_
  · (first | exact trivial | (simp only [ab_all] <;> decide))
  simp only [gr_0_0, gr_0_1, gr_0_3, gr_0_4, gr_0_5, gr_0_6, gr_0_7, gr_1_0, gr_1_1, gr_1_2, gr_1_3, gr_1_4, gr_35_0, gr_35_1, gr_35_2, gr_35_3, gr_35_4]
  refine r_cv rfl rfl ((k_hasD x isT_2 t3 (Nat.le_trans hI.2.1.2 (by decide)))) (by decide) ?_
  refine r_bE rfl (fun h11 => ?_) (fun h11 => ?_)
  · skip
    refine r_go 2 rfl ?_ ?_
    · (first | exact trivial | (simp only [ab_all] <;> decide))
    refine r_cv rfl rfl ((k_error 1 (by decide) (by decide) hE)) (by decide) ?_
    refine r_ret rfl trivial ?_
    exact cl_to (if_neg (by simp only [h11, if_true, if_false, not_true, not_false_eq_true, and_true, true_and, and_false, false_and, or_true, true_or, or_false, false_or, and_self, or_self, not_false_eq_true])) (cl_er (by decide) (by decide) hJ hC)
  · skip
    refine r_go 3 rfl ?_ ?_
    · (first | exact trivial | (simp only [ab_all] <;> decide))
    refine r_cv rfl trivial ((k_within _ _ _)) (by decide) ?_
    refine r_bN rfl (fun h21 => ?_) (fun h21 => ?_)
    · skip
      refine r_go 4 rfl ?_ ?_
      · (first | exact trivial | (simp only [ab_all] <;> decide))
      have hP : S_as x w m = (if isUn (dr (m 219) x.toNatClampNeg 0) w then (dr (m 219) x.toNatClampNeg 3, m) else er m 5) := if_pos ⟨h11, h21⟩
      obtain ⟨b, hb, rfl⟩ := of_rg h11
      obtain ⟨k, hk, rfl⟩ := of_bt (by decide) h21
      rw [nI_cl (by omega)] at hP
      simp only [gr_0_0, gr_0_1, gr_0_3, gr_0_4, gr_0_5, gr_0_6, gr_0_7, gr_1_0, gr_1_1, gr_1_2, gr_1_3, gr_1_4, gr_35_0, gr_35_1, gr_35_2, gr_35_3, gr_35_4]
      have e0 : i (2 + 9 + b) 0 = dr (m 219) b 0 := hT.2.2 b hb 0 (by decide)
      have e3 : i (2 + 9 + b) 3 = dr (m 219) b 3 := hT.2.2 b hb 3 (by decide)
      have gd := tg_d isT_2 (show b < 12 by omega)
      have r0 : rg (dr (m 219) b 0) 0 6 := (hI.2.2.2.2.2 b hb).2 0 (by decide) (by decide)
      obtain ⟨o, ho, eo⟩ : ∃ o : Nat, o ≤ 6 ∧ dr (m 219) b 0 = nI o := ⟨(dr (m 219) b 0).toNatClampNeg, by rw [tn_i]; unfold rg at r0; omega, tn_of r0.1⟩
      refine r_cv rfl rfl ((k_doorAt b isT_2 (by omega))) (by decide) ?_
      refine r_go 4 rfl ?_ ?_
      · exact gd
      rw [e0, eo]
      refine r_cv rfl trivial ((k_isUn o k ho hk)) (by decide) ?_
      refine r_bE rfl (fun h50 => ?_) (fun h50 => ?_)
      · skip
        refine r_go 2 rfl ?_ ?_
        · (first | exact trivial | (simp only [ab_all] <;> decide))
        refine r_cv rfl rfl ((k_error 5 (by decide) (by decide) hE)) (by decide) ?_
        refine r_ret rfl trivial ?_
        rw [eo] at hP
        first | exact cl_to (hP.trans (if_neg h50)) (cl_er (by decide) (by decide) hJ hC) | (rw [e3]; exact cl_to (hP.trans (if_pos h50)) (cl_0 hC))
      · skip
        refine r_go 3 rfl ?_ ?_
        · exact gd
        refine r_ret rfl trivial ?_
        rw [eo] at hP
        first | exact cl_to (hP.trans (if_neg h50)) (cl_er (by decide) (by decide) hJ hC) | (rw [e3]; exact cl_to (hP.trans (if_pos h50)) (cl_0 hC))
    · skip
      refine r_go 2 rfl ?_ ?_
      · (first | exact trivial | (simp only [ab_all] <;> decide))
      refine r_cv rfl rfl ((k_error 1 (by decide) (by decide) hE)) (by decide) ?_
      refine r_ret rfl trivial ?_
      exact cl_to (if_neg (by simp only [h11, h21, if_true, if_false, not_true, not_false_eq_true, and_true, true_and, and_false, false_and, or_true, true_or, or_false, false_or, and_self, or_self, not_false_eq_true])) (cl_er (by decide) (by decide) hJ hC)
theorem m_as {i m : ab_I} (hm : mo i m) (hJ : InM m) (h13 : i 218 13 = (-1)) (x w : Int32) : ab_K 2 173 [.ref 218, .int x, .int w] i (rfQ i (S_as x w m)) := by
  (have hI := hJ.1.1; have hX := InS_X hJ.1; have hs := hm.1)
  have d12 := hI.2.1.2
  refine k_of rfl ?_
  refine r_go 2 rfl ?_ ?_
  · (first | exact trivial | assumption | (simp (disch := omega) [ab_all, ab_nz, *]; done))
  refine r_cv rfl rfl ((m_isD x hs hI)) (by decide) ?_
  refine r_bE rfl (fun h5 => ?_) (fun h5 => ?_)
  · skip
    refine r_go 2 rfl ?_ ?_
    · (first | exact trivial | assumption | (simp (disch := omega) [ab_all, ab_nz, *]; done))
    refine r_cv rfl rfl ((m_error 1 (by decide))) (by decide) ?_
    refine r_ret rfl trivial ?_
    exact rf_to (if_neg (by simp only [h5, if_true, if_false, not_true, not_false_eq_true, and_true, true_and, and_false, false_and, or_true, true_or, or_false, false_or, and_self, or_self, not_false_eq_true])) (rf_er hm h13)
  · skip
    refine r_go 3 rfl ?_ ?_
    · (first | exact trivial | assumption | (simp (disch := omega) [ab_all, ab_nz, *]; done))
    refine r_cv rfl trivial ((m_in _ _ _)) (by decide) ?_
    refine r_bN rfl (fun h15 => ?_) (fun h15 => ?_)
    · skip
      have hP : S_as x w m = (if isUn (dr (m 219) x.toNatClampNeg 0) w then (dr (m 219) x.toNatClampNeg 3, m) else er m 5) := if_pos ⟨h5, h15⟩
      obtain ⟨b, hb, rfl⟩ := of_rg h5
      rw [nI_cl (by omega)] at hP
      refine r_go 3 rfl ?_ ?_
      · (first | exact trivial | assumption | (simp (disch := omega) [ab_all, ab_nz, *]; done))
      refine r_cv rfl rfl ((m_its b 0 hs (by omega))) (by decide) ?_
      refine r_go 1 rfl ?_ ?_
      · (first | exact trivial | assumption | (simp (disch := omega) [ab_all, ab_nz, *]; done))
      refine r_cv rfl trivial ((m_isUn _ _)) (by decide) ?_
      refine r_bE rfl (fun h34 => ?_) (fun h34 => ?_)
      · skip
        refine r_go 2 rfl ?_ ?_
        · (first | exact trivial | assumption | (simp (disch := omega) [ab_all, ab_nz, *]; done))
        refine r_cv rfl rfl ((m_error 5 (by decide))) (by decide) ?_
        refine r_ret rfl trivial ?_
        first | exact rf_to (hP.trans (if_pos h34)) (rf_0 hm h13) | exact rf_to (hP.trans (if_neg h34)) (rf_er hm h13)
      · skip
        refine r_go 3 rfl ?_ ?_
        · (first | exact trivial | assumption | (simp (disch := omega) [ab_all, ab_nz, *]; done))
        refine r_cv rfl rfl ((m_its b 3 hs (by omega))) (by decide) ?_
        refine r_go 1 rfl ?_ ?_
        · (first | exact trivial | assumption | (simp (disch := omega) [ab_all, ab_nz, *]; done))
        refine r_ret rfl trivial ?_
        first | exact rf_to (hP.trans (if_pos h34)) (rf_0 hm h13) | exact rf_to (hP.trans (if_neg h34)) (rf_er hm h13)
    · skip
      refine r_go 2 rfl ?_ ?_
      · (first | exact trivial | assumption | (simp (disch := omega) [ab_all, ab_nz, *]; done))
      refine r_cv rfl rfl ((m_error 1 (by decide))) (by decide) ?_
      refine r_ret rfl trivial ?_
      exact rf_to (if_neg (by simp only [h5, h15, if_true, if_false, not_true, not_false_eq_true, and_true, true_and, and_false, false_and, or_true, true_or, or_false, false_or, and_self, or_self, not_false_eq_true])) (rf_er hm h13)
theorem n_as {m : ab_I} (hJ : InM m) (x w : Int32) : InM (S_as x w m).2 := by
  unfold S_as
  split
  · split
    · exact hJ
    · exact InM_er hJ
  · exact InM_er hJ
/-! setBasin, setDoor -/
abbrev mayB (w v : Int32) : Prop := (w = nI 1 ∧ nI 0 ≤ v ∧ v ≤ nI 99999) ∨ (w = nI 3 ∧ nI 0 ≤ v ∧ v ≤ nI 99) ∨ (w = nI 4 ∧ nI 0 ≤ v ∧ v ≤ nI 9) ∨ (w = nI 5 ∧ nI 0 ≤ v ∧ v ≤ nI 999) ∨ (w = nI 6 ∧ nI 0 ≤ v ∧ v ≤ nI 1) ∨ (w = nI 7 ∧ nI 0 ≤ v ∧ v ≤ nI 99)
abbrev mayD (w v : Int32) : Prop := (w = nI 0 ∧ nI 0 ≤ v ∧ v ≤ nI 6) ∨ (w = nI 1 ∧ nI 0 ≤ v ∧ v ≤ nI 9) ∨ (w = nI 3 ∧ nI 0 ≤ v ∧ v ≤ nI 99) ∨ (w = nI 4 ∧ (-1) ≤ v ∧ v ≤ nI 2) ∨ (w = nI 5 ∧ nI 0 ≤ v ∧ v ≤ nI 1)
theorem mayB_k {w v : Int32} (h : mayB w v) : ∃ k, w = nI k ∧ k < 8 ∧ k ≠ 0 ∧ k ≠ 2 ∧ rg v (rB (k - 1)).1 (rB (k - 1)).2 := by
  rcases h with ⟨rfl, h⟩ | ⟨rfl, h⟩ | ⟨rfl, h⟩ | ⟨rfl, h⟩ | ⟨rfl, h⟩ | ⟨rfl, h⟩
  · exact ⟨1, rfl, by decide, by decide, by decide, by unfold rg; show 0 ≤ _ ∧ _ ≤ 99999; (simp (disch := omega) only [Int32.le_iff_toInt_le, Int32.lt_iff_toInt_lt, c_i, m1_i, m5_i, m33_i] at * <;> omega)⟩
  · exact ⟨3, rfl, by decide, by decide, by decide, by unfold rg; show 0 ≤ _ ∧ _ ≤ 99; (simp (disch := omega) only [Int32.le_iff_toInt_le, Int32.lt_iff_toInt_lt, c_i, m1_i, m5_i, m33_i] at * <;> omega)⟩
  · exact ⟨4, rfl, by decide, by decide, by decide, by unfold rg; show 0 ≤ _ ∧ _ ≤ 9; (simp (disch := omega) only [Int32.le_iff_toInt_le, Int32.lt_iff_toInt_lt, c_i, m1_i, m5_i, m33_i] at * <;> omega)⟩
  · exact ⟨5, rfl, by decide, by decide, by decide, by unfold rg; show 0 ≤ _ ∧ _ ≤ 999; (simp (disch := omega) only [Int32.le_iff_toInt_le, Int32.lt_iff_toInt_lt, c_i, m1_i, m5_i, m33_i] at * <;> omega)⟩
  · exact ⟨6, rfl, by decide, by decide, by decide, by unfold rg; show 0 ≤ _ ∧ _ ≤ 1; (simp (disch := omega) only [Int32.le_iff_toInt_le, Int32.lt_iff_toInt_lt, c_i, m1_i, m5_i, m33_i] at * <;> omega)⟩
  · exact ⟨7, rfl, by decide, by decide, by decide, by unfold rg; show 0 ≤ _ ∧ _ ≤ 99; (simp (disch := omega) only [Int32.le_iff_toInt_le, Int32.lt_iff_toInt_lt, c_i, m1_i, m5_i, m33_i] at * <;> omega)⟩
theorem mayD_k {w v : Int32} (h : mayD w v) : ∃ k, w = nI k ∧ k < 6 ∧ k ≠ 2 ∧ rg v (rD k).1 (rD k).2 := by
  rcases h with ⟨rfl, h⟩ | ⟨rfl, h⟩ | ⟨rfl, h⟩ | ⟨rfl, h⟩ | ⟨rfl, h⟩
  · exact ⟨0, rfl, by decide, by decide, by unfold rg; show 0 ≤ _ ∧ _ ≤ 6; (simp (disch := omega) only [Int32.le_iff_toInt_le, Int32.lt_iff_toInt_lt, c_i, m1_i, m5_i, m33_i] at * <;> omega)⟩
  · exact ⟨1, rfl, by decide, by decide, by unfold rg; show 0 ≤ _ ∧ _ ≤ 9; (simp (disch := omega) only [Int32.le_iff_toInt_le, Int32.lt_iff_toInt_lt, c_i, m1_i, m5_i, m33_i] at * <;> omega)⟩
  · exact ⟨3, rfl, by decide, by decide, by unfold rg; show 0 ≤ _ ∧ _ ≤ 99; (simp (disch := omega) only [Int32.le_iff_toInt_le, Int32.lt_iff_toInt_lt, c_i, m1_i, m5_i, m33_i] at * <;> omega)⟩
  · exact ⟨4, rfl, by decide, by decide, by unfold rg; show -1 ≤ _ ∧ _ ≤ 2; (simp (disch := omega) only [Int32.le_iff_toInt_le, Int32.lt_iff_toInt_lt, c_i, m1_i, m5_i, m33_i] at * <;> omega)⟩
  · exact ⟨5, rfl, by decide, by decide, by unfold rg; show 0 ≤ _ ∧ _ ≤ 1; (simp (disch := omega) only [Int32.le_iff_toInt_le, Int32.lt_iff_toInt_lt, c_i, m1_i, m5_i, m33_i] at * <;> omega)⟩
theorem k_mayB {i : ab_I} (w v : Int32) : ab_K 1 15 [.int w, .int v] i (ab_V (.int (bI (mayB w v))) i) := by
  refine k_of rfl ?_
  refine r_go 1 rfl ?_ ?_
  · (first | exact trivial | assumption | (simp (disch := omega) [ab_all, ab_nz, *]; done))
  refine r_sw rfl ?_
  refine r_swk (fun h1_1 => ?_) (fun h1_1 => ?_)
  · skip
    refine r_go 3 rfl ?_ ?_
    · (first | exact trivial | assumption | (simp (disch := omega) [ab_all, ab_nz, *]; done))
    refine r_cv rfl trivial ((k_within _ _ _)) (by decide) ?_
    refine r_ret rfl (by (first | exact Or.inl rfl | exact Or.inr rfl | exact bI_or)) ?_
    first | exact lv_e (bI_cg (by unfold mayB; (simp (disch := omega) only [eq_i, Int32.le_iff_toInt_le, Int32.lt_iff_toInt_lt, c_i, m1_i, m5_i, m33_i] at * <;> omega))) | exact lf_f (by unfold mayB; (simp (disch := omega) only [eq_i, Int32.le_iff_toInt_le, Int32.lt_iff_toInt_lt, c_i, m1_i, m5_i, m33_i] at * <;> omega))
  refine r_swk (fun h1_2 => ?_) (fun h1_2 => ?_)
  · skip
    refine r_go 1 rfl ?_ ?_
    · (first | exact trivial | assumption | (simp (disch := omega) [ab_all, ab_nz, *]; done))
    refine r_ret rfl (by (first | exact Or.inl rfl | exact Or.inr rfl | exact bI_or)) ?_
    first | exact lv_e (bI_cg (by unfold mayB; (simp (disch := omega) only [eq_i, Int32.le_iff_toInt_le, Int32.lt_iff_toInt_lt, c_i, m1_i, m5_i, m33_i] at * <;> omega))) | exact lf_f (by unfold mayB; (simp (disch := omega) only [eq_i, Int32.le_iff_toInt_le, Int32.lt_iff_toInt_lt, c_i, m1_i, m5_i, m33_i] at * <;> omega))
  refine r_swk (fun h1_3 => ?_) (fun h1_3 => ?_)
  · skip
    refine r_go 3 rfl ?_ ?_
    · (first | exact trivial | assumption | (simp (disch := omega) [ab_all, ab_nz, *]; done))
    refine r_cv rfl trivial ((k_within _ _ _)) (by decide) ?_
    refine r_ret rfl (by (first | exact Or.inl rfl | exact Or.inr rfl | exact bI_or)) ?_
    first | exact lv_e (bI_cg (by unfold mayB; (simp (disch := omega) only [eq_i, Int32.le_iff_toInt_le, Int32.lt_iff_toInt_lt, c_i, m1_i, m5_i, m33_i] at * <;> omega))) | exact lf_f (by unfold mayB; (simp (disch := omega) only [eq_i, Int32.le_iff_toInt_le, Int32.lt_iff_toInt_lt, c_i, m1_i, m5_i, m33_i] at * <;> omega))
  refine r_swk (fun h1_4 => ?_) (fun h1_4 => ?_)
  · skip
    refine r_go 3 rfl ?_ ?_
    · (first | exact trivial | assumption | (simp (disch := omega) [ab_all, ab_nz, *]; done))
    refine r_cv rfl trivial ((k_within _ _ _)) (by decide) ?_
    refine r_ret rfl (by (first | exact Or.inl rfl | exact Or.inr rfl | exact bI_or)) ?_
    first | exact lv_e (bI_cg (by unfold mayB; (simp (disch := omega) only [eq_i, Int32.le_iff_toInt_le, Int32.lt_iff_toInt_lt, c_i, m1_i, m5_i, m33_i] at * <;> omega))) | exact lf_f (by unfold mayB; (simp (disch := omega) only [eq_i, Int32.le_iff_toInt_le, Int32.lt_iff_toInt_lt, c_i, m1_i, m5_i, m33_i] at * <;> omega))
  refine r_swk (fun h1_5 => ?_) (fun h1_5 => ?_)
  · skip
    refine r_go 3 rfl ?_ ?_
    · (first | exact trivial | assumption | (simp (disch := omega) [ab_all, ab_nz, *]; done))
    refine r_cv rfl trivial ((k_within _ _ _)) (by decide) ?_
    refine r_ret rfl (by (first | exact Or.inl rfl | exact Or.inr rfl | exact bI_or)) ?_
    first | exact lv_e (bI_cg (by unfold mayB; (simp (disch := omega) only [eq_i, Int32.le_iff_toInt_le, Int32.lt_iff_toInt_lt, c_i, m1_i, m5_i, m33_i] at * <;> omega))) | exact lf_f (by unfold mayB; (simp (disch := omega) only [eq_i, Int32.le_iff_toInt_le, Int32.lt_iff_toInt_lt, c_i, m1_i, m5_i, m33_i] at * <;> omega))
  refine r_swk (fun h1_6 => ?_) (fun h1_6 => ?_)
  · skip
    refine r_go 3 rfl ?_ ?_
    · (first | exact trivial | assumption | (simp (disch := omega) [ab_all, ab_nz, *]; done))
    refine r_cv rfl trivial ((k_within _ _ _)) (by decide) ?_
    refine r_ret rfl (by (first | exact Or.inl rfl | exact Or.inr rfl | exact bI_or)) ?_
    first | exact lv_e (bI_cg (by unfold mayB; (simp (disch := omega) only [eq_i, Int32.le_iff_toInt_le, Int32.lt_iff_toInt_lt, c_i, m1_i, m5_i, m33_i] at * <;> omega))) | exact lf_f (by unfold mayB; (simp (disch := omega) only [eq_i, Int32.le_iff_toInt_le, Int32.lt_iff_toInt_lt, c_i, m1_i, m5_i, m33_i] at * <;> omega))
  refine r_swk (fun h1_7 => ?_) (fun h1_7 => ?_)
  · skip
    refine r_go 3 rfl ?_ ?_
    · (first | exact trivial | assumption | (simp (disch := omega) [ab_all, ab_nz, *]; done))
    refine r_cv rfl trivial ((k_within _ _ _)) (by decide) ?_
    refine r_ret rfl (by (first | exact Or.inl rfl | exact Or.inr rfl | exact bI_or)) ?_
    first | exact lv_e (bI_cg (by unfold mayB; (simp (disch := omega) only [eq_i, Int32.le_iff_toInt_le, Int32.lt_iff_toInt_lt, c_i, m1_i, m5_i, m33_i] at * <;> omega))) | exact lf_f (by unfold mayB; (simp (disch := omega) only [eq_i, Int32.le_iff_toInt_le, Int32.lt_iff_toInt_lt, c_i, m1_i, m5_i, m33_i] at * <;> omega))
  refine r_go 1 rfl ?_ ?_
  · (first | exact trivial | assumption | (simp (disch := omega) [ab_all, ab_nz, *]; done))
  refine r_ret rfl (by (first | exact Or.inl rfl | exact Or.inr rfl | exact bI_or)) ?_
  first | exact lv_e (bI_cg (by unfold mayB; (simp (disch := omega) only [eq_i, Int32.le_iff_toInt_le, Int32.lt_iff_toInt_lt, c_i, m1_i, m5_i, m33_i] at * <;> omega))) | exact lf_f (by unfold mayB; (simp (disch := omega) only [eq_i, Int32.le_iff_toInt_le, Int32.lt_iff_toInt_lt, c_i, m1_i, m5_i, m33_i] at * <;> omega))
theorem k_bought {i : ab_I} (v : Int32) : ab_K 1 25 [.int v] i (ab_V (.int (bI ((-1) ≤ v ∧ v ≤ nI 2))) i) := by
  refine k_of rfl ?_
  refine r_go 3 rfl ?_ ?_
  · (first | exact trivial | assumption | (simp (disch := omega) [ab_all, ab_nz, *]; done))
  refine r_cv rfl trivial ((k_within _ _ _)) (by decide) ?_
  refine r_ret rfl (by (first | exact Or.inl rfl | exact Or.inr rfl | exact bI_or)) ?_
  exact ⟨rfl, rfl⟩
theorem k_mayD {i : ab_I} (w v : Int32) : ab_K 2 24 [.int w, .int v] i (ab_V (.int (bI (mayD w v))) i) := by
  refine k_of rfl ?_
  refine r_go 1 rfl ?_ ?_
  · (first | exact trivial | assumption | (simp (disch := omega) [ab_all, ab_nz, *]; done))
  refine r_sw rfl ?_
  refine r_swk (fun h1_0 => ?_) (fun h1_0 => ?_)
  · skip
    refine r_go 3 rfl ?_ ?_
    · (first | exact trivial | assumption | (simp (disch := omega) [ab_all, ab_nz, *]; done))
    refine r_cv rfl trivial ((k_within _ _ _)) (by decide) ?_
    refine r_ret rfl (by (first | exact Or.inl rfl | exact Or.inr rfl | exact bI_or)) ?_
    first | exact lv_e (bI_cg (by unfold mayD; (simp (disch := omega) only [eq_i, Int32.le_iff_toInt_le, Int32.lt_iff_toInt_lt, c_i, m1_i, m5_i, m33_i] at * <;> omega))) | exact lf_f (by unfold mayD; (simp (disch := omega) only [eq_i, Int32.le_iff_toInt_le, Int32.lt_iff_toInt_lt, c_i, m1_i, m5_i, m33_i] at * <;> omega))
  refine r_swk (fun h1_1 => ?_) (fun h1_1 => ?_)
  · skip
    refine r_go 3 rfl ?_ ?_
    · (first | exact trivial | assumption | (simp (disch := omega) [ab_all, ab_nz, *]; done))
    refine r_cv rfl trivial ((k_within _ _ _)) (by decide) ?_
    refine r_ret rfl (by (first | exact Or.inl rfl | exact Or.inr rfl | exact bI_or)) ?_
    first | exact lv_e (bI_cg (by unfold mayD; (simp (disch := omega) only [eq_i, Int32.le_iff_toInt_le, Int32.lt_iff_toInt_lt, c_i, m1_i, m5_i, m33_i] at * <;> omega))) | exact lf_f (by unfold mayD; (simp (disch := omega) only [eq_i, Int32.le_iff_toInt_le, Int32.lt_iff_toInt_lt, c_i, m1_i, m5_i, m33_i] at * <;> omega))
  refine r_swk (fun h1_2 => ?_) (fun h1_2 => ?_)
  · skip
    refine r_go 1 rfl ?_ ?_
    · (first | exact trivial | assumption | (simp (disch := omega) [ab_all, ab_nz, *]; done))
    refine r_ret rfl (by (first | exact Or.inl rfl | exact Or.inr rfl | exact bI_or)) ?_
    first | exact lv_e (bI_cg (by unfold mayD; (simp (disch := omega) only [eq_i, Int32.le_iff_toInt_le, Int32.lt_iff_toInt_lt, c_i, m1_i, m5_i, m33_i] at * <;> omega))) | exact lf_f (by unfold mayD; (simp (disch := omega) only [eq_i, Int32.le_iff_toInt_le, Int32.lt_iff_toInt_lt, c_i, m1_i, m5_i, m33_i] at * <;> omega))
  refine r_swk (fun h1_3 => ?_) (fun h1_3 => ?_)
  · skip
    refine r_go 3 rfl ?_ ?_
    · (first | exact trivial | assumption | (simp (disch := omega) [ab_all, ab_nz, *]; done))
    refine r_cv rfl trivial ((k_within _ _ _)) (by decide) ?_
    refine r_ret rfl (by (first | exact Or.inl rfl | exact Or.inr rfl | exact bI_or)) ?_
    first | exact lv_e (bI_cg (by unfold mayD; (simp (disch := omega) only [eq_i, Int32.le_iff_toInt_le, Int32.lt_iff_toInt_lt, c_i, m1_i, m5_i, m33_i] at * <;> omega))) | exact lf_f (by unfold mayD; (simp (disch := omega) only [eq_i, Int32.le_iff_toInt_le, Int32.lt_iff_toInt_lt, c_i, m1_i, m5_i, m33_i] at * <;> omega))
  refine r_swk (fun h1_4 => ?_) (fun h1_4 => ?_)
  · skip
    refine r_go 1 rfl ?_ ?_
    · (first | exact trivial | assumption | (simp (disch := omega) [ab_all, ab_nz, *]; done))
    refine r_cv rfl trivial ((k_bought _)) (by decide) ?_
    refine r_ret rfl (by (first | exact Or.inl rfl | exact Or.inr rfl | exact bI_or)) ?_
    first | exact lv_e (bI_cg (by unfold mayD; (simp (disch := omega) only [eq_i, Int32.le_iff_toInt_le, Int32.lt_iff_toInt_lt, c_i, m1_i, m5_i, m33_i] at * <;> omega))) | exact lf_f (by unfold mayD; (simp (disch := omega) only [eq_i, Int32.le_iff_toInt_le, Int32.lt_iff_toInt_lt, c_i, m1_i, m5_i, m33_i] at * <;> omega))
  refine r_swk (fun h1_5 => ?_) (fun h1_5 => ?_)
  · skip
    refine r_go 3 rfl ?_ ?_
    · (first | exact trivial | assumption | (simp (disch := omega) [ab_all, ab_nz, *]; done))
    refine r_cv rfl trivial ((k_within _ _ _)) (by decide) ?_
    refine r_ret rfl (by (first | exact Or.inl rfl | exact Or.inr rfl | exact bI_or)) ?_
    first | exact lv_e (bI_cg (by unfold mayD; (simp (disch := omega) only [eq_i, Int32.le_iff_toInt_le, Int32.lt_iff_toInt_lt, c_i, m1_i, m5_i, m33_i] at * <;> omega))) | exact lf_f (by unfold mayD; (simp (disch := omega) only [eq_i, Int32.le_iff_toInt_le, Int32.lt_iff_toInt_lt, c_i, m1_i, m5_i, m33_i] at * <;> omega))
  refine r_go 1 rfl ?_ ?_
  · (first | exact trivial | assumption | (simp (disch := omega) [ab_all, ab_nz, *]; done))
  refine r_ret rfl (by (first | exact Or.inl rfl | exact Or.inr rfl | exact bI_or)) ?_
  first | exact lv_e (bI_cg (by unfold mayD; (simp (disch := omega) only [eq_i, Int32.le_iff_toInt_le, Int32.lt_iff_toInt_lt, c_i, m1_i, m5_i, m33_i] at * <;> omega))) | exact lf_f (by unfold mayD; (simp (disch := omega) only [eq_i, Int32.le_iff_toInt_le, Int32.lt_iff_toInt_lt, c_i, m1_i, m5_i, m33_i] at * <;> omega))
def S_setBasin (b w v : Int32) (m : ab_I) : Int32 × ab_I := if okB (m 219) b ∧ mayB w v then (toldBasin (m 219) b.toNatClampNeg w, ab_row m 219 (upd (m 219) (8 + 7 * b.toNatClampNeg + (w.toNatClampNeg - 1)) v)) else er m 1
theorem c_setBasin {i m : ab_I} (hC : ClsR i m) (hJ : InM m) (x w v : Int32) : ab_K 3 113 [.ref 0, .int x, .int w, .int v] i (clQ i (S_setBasin x w v m)) := by
  (have hI := hJ.1.1; have hX := InS_X hJ.1; have hT := hC.1.1; have hLw : LwsR (m 219) i := ⟨hC.1.2.1, hC.1.2.2.1⟩; have hE := hC.2.2.2.2.1.1)
  have t2 : i 2 2 = nI (nB (m 219)) := hT.1.1.trans hI.1.1
  have b6 := hI.1.2
  refine k_of rfl ?_
  refine r_go 4 rfl ?_ ?_
  · (first | exact trivial | (simp only [ab_all] <;> decide))
  simp only [gr_0_0, gr_0_1, gr_0_3, gr_0_4, gr_0_5, gr_0_6, gr_0_7, gr_1_0, gr_1_1, gr_1_2, gr_1_3, gr_1_4, gr_35_0, gr_35_1, gr_35_2, gr_35_3, gr_35_4]
  refine r_cv rfl (by first | rfl | exact gb) ((k_hasB x isT_2 t2 (Nat.le_trans hI.1.2 (by decide)))) (by decide) ?_
  refine r_bE rfl (fun h11 => ?_) (fun h11 => ?_)
  · skip
    refine r_go 2 rfl ?_ ?_
    · (first | exact trivial | (simp only [ab_all] <;> decide))
    refine r_cv rfl (by first | rfl | exact gb) ((k_error 1 (by decide) (by decide) hE)) (by decide) ?_
    refine r_ret rfl trivial ?_
    exact cl_to (if_neg (by simp only [h11, if_true, if_false, not_true, not_false_eq_true, and_true, true_and, and_false, false_and, or_true, true_or, or_false, false_or, and_self, or_self, not_false_eq_true])) (cl_er (by decide) (by decide) hJ hC)
  · skip
    refine r_go 2 rfl ?_ ?_
    · (first | exact trivial | (simp only [ab_all] <;> decide))
    refine r_cv rfl trivial ((k_mayB w v)) (by decide) ?_
    refine r_bN rfl (fun h19 => ?_) (fun h19 => ?_)
    · skip
      refine r_go 4 rfl ?_ ?_
      · (first | exact trivial | (simp only [ab_all] <;> decide))
      have hP : S_setBasin x w v m = (toldBasin (m 219) x.toNatClampNeg w, ab_row m 219 (upd (m 219) (8 + 7 * x.toNatClampNeg + (w.toNatClampNeg - 1)) v)) := if_pos ⟨h11, h19⟩
      obtain ⟨b, hb, rfl⟩ := of_rg h11
      obtain ⟨k, rfl, hk, hk0, hk2, hv⟩ := mayB_k h19
      rw [nI_cl (by omega), nI_cl (by omega)] at hP
      simp only [gr_0_0, gr_0_1, gr_0_3, gr_0_4, gr_0_5, gr_0_6, gr_0_7, gr_1_0, gr_1_1, gr_1_2, gr_1_3, gr_1_4, gr_35_0, gr_35_1, gr_35_2, gr_35_3, gr_35_4]
      have gb := tg_b isT_2 (show b < 6 by omega)
      refine r_cv rfl (by first | rfl | exact gb) ((k_basinAt b isT_2 (by omega))) (by decide) ?_
      refine r_go 3 rfl ?_ ?_
      · (first | exact trivial | (simp only [ab_all] <;> decide))
      refine r_cv rfl (by first | rfl | exact gb) ((k_btells k hk gb (by rw [show i (2 + 2 + b) 0 = bs (m 219) b 1 from hT.2.1 b hb 1 (by decide)]; exact Int.lt_of_lt_of_le (by decide) (hI.2.2.2.2.1 b hb 1 (by decide)).1))) (by decide) ?_
      refine r_go 4 rfl ?_ ?_
      · (first | exact trivial | (simp only [ab_all] <;> decide))
      refine r_cn rfl (by first | rfl | exact gb) ((k_balter k v hk hk0 hk2 gb)) (by decide) ?_
      refine r_go 1 rfl ?_ ?_
      · (first | exact trivial | (simp only [ab_all] <;> decide))
      refine r_ret rfl trivial ?_
      rw [bTell_eq hT hb hk]
      exact cl_to hP (cl_T hJ hC (TwR_B hT (by omega) (by omega)) (rt_up rt_rf (by omega)) (frT_up frT_rf (by omega)))
    · skip
      refine r_go 2 rfl ?_ ?_
      · (first | exact trivial | (simp only [ab_all] <;> decide))
      refine r_cv rfl (by first | rfl | exact gb) ((k_error 1 (by decide) (by decide) hE)) (by decide) ?_
      refine r_ret rfl trivial ?_
      exact cl_to (if_neg (by simp only [h11, h19, if_true, if_false, not_true, not_false_eq_true, and_true, true_and, and_false, false_and, or_true, true_or, or_false, false_or, and_self, or_self, not_false_eq_true])) (cl_er (by decide) (by decide) hJ hC)
theorem sb_rest {i m : ab_I} (hm : mo i m) (hJ : InM m) (h13 : i 218 13 = (-1)) (x w v mo : Int32) (hq : (w = nI 1 ∧ mo = nI 99999) ∨ (w = nI 4 ∧ mo = nI 9) ∨ (w = nI 5 ∧ mo = nI 999) ∨ (w = nI 6 ∧ mo = nI 1) ∨ (¬ w = nI 1 ∧ ¬ w = nI 4 ∧ ¬ w = nI 5 ∧ ¬ w = nI 6 ∧ mo = nI 99)) : ab_R 2 tb_X11_setBasin 45 [some (.ref 218), some (.int x), some (.int w), some (.int v), some (.int mo), none] [] i (rfQ i (S_setBasin x w v m)) := by
  (have hI := hJ.1.1; have hX := InS_X hJ.1; have hs := hm.1)
  have b6 := hI.1.2
  refine r_go 2 rfl ?_ ?_
  · (first | exact trivial | assumption | (simp (disch := omega) [ab_all, ab_nz, *]; done))
  refine r_cv rfl rfl ((m_isB x hs hI)) (by decide) ?_
  refine r_bE rfl (fun h50 => ?_) (fun h50 => ?_)
  · skip
    refine r_go 2 rfl ?_ ?_
    · (first | exact trivial | assumption | (simp (disch := omega) [ab_all, ab_nz, *]; done))
    refine r_cv rfl rfl ((m_error 1 (by decide))) (by decide) ?_
    refine r_ret rfl trivial ?_
    exact rf_to (if_neg (by unfold mayB; clear b6; (clear hm hJ hI hX hs h13; simp (disch := omega) only [okB, okD, eq_i, Int32.le_iff_toInt_le, Int32.lt_iff_toInt_lt, c_i, m1_i] at * <;> omega))) (rf_er hm h13)
  · skip
    refine r_go 3 rfl ?_ ?_
    · (first | exact trivial | assumption | (simp (disch := omega) [ab_all, ab_nz, *]; done))
    refine r_cv rfl trivial ((m_in _ _ _)) (by decide) ?_
    refine r_bE rfl (fun h60 => ?_) (fun h60 => ?_)
    · skip
      refine r_go 2 rfl ?_ ?_
      · (first | exact trivial | assumption | (simp (disch := omega) [ab_all, ab_nz, *]; done))
      refine r_cv rfl rfl ((m_error 1 (by decide))) (by decide) ?_
      refine r_ret rfl trivial ?_
      exact rf_to (if_neg (by unfold mayB; clear b6; (clear hm hJ hI hX hs h13; simp (disch := omega) only [okB, okD, eq_i, Int32.le_iff_toInt_le, Int32.lt_iff_toInt_lt, c_i, m1_i] at * <;> omega))) (rf_er hm h13)
    · skip
      refine r_go 2 rfl ?_ ?_
      · (first | exact trivial | assumption | (simp (disch := omega) [ab_all, ab_nz, *]; done))
      refine r_br rfl (fun h65 => ?_) (fun h65 => ?_)
      · skip
        refine r_go 2 rfl ?_ ?_
        · (first | exact trivial | assumption | (simp (disch := omega) [ab_all, ab_nz, *]; done))
        refine r_cv rfl rfl ((m_error 1 (by decide))) (by decide) ?_
        refine r_ret rfl trivial ?_
        exact rf_to (if_neg (by unfold mayB; clear b6; (clear hm hJ hI hX hs h13; simp (disch := omega) only [okB, okD, eq_i, Int32.le_iff_toInt_le, Int32.lt_iff_toInt_lt, c_i, m1_i] at * <;> omega))) (rf_er hm h13)
      · skip
        refine r_go 3 rfl ?_ ?_
        · (first | exact trivial | assumption | (simp (disch := omega) [ab_all, ab_nz, *]; done))
        refine r_cv rfl trivial ((m_in _ _ _)) (by decide) ?_
        refine r_bN rfl (fun h75 => ?_) (fun h75 => ?_)
        · skip
          have hm2 : mayB w v := by unfold mayB; clear b6; (clear hm hJ hI hX hs h13; simp (disch := omega) only [okB, okD, eq_i, Int32.le_iff_toInt_le, Int32.lt_iff_toInt_lt, c_i, m1_i] at * <;> omega)
          have hP : S_setBasin x w v m = (toldBasin (m 219) x.toNatClampNeg w, ab_row m 219 (upd (m 219) (8 + 7 * x.toNatClampNeg + (w.toNatClampNeg - 1)) v)) := if_pos ⟨h50, hm2⟩
          clear hq
          obtain ⟨b, hb, rfl⟩ := of_rg h50
          obtain ⟨k, rfl, hk, hk0, hk2, hv⟩ := mayB_k hm2
          rw [nI_cl (by omega), nI_cl (by omega)] at hP
          have e1 : nI k - nI 1 = nI (k - 1) := pk_sub (by omega)
          have e2 : nI 8 + nI 7 * nI b + nI k - nI 1 = nI (8 + 7 * b + (k - 1)) := by rw [pk_mul, nI_add, nI_add, pk_sub (by omega)]; congr 1; omega
          have e3 : bs (m 219) b (k - 1) = toldBasin (m 219) b (nI k) := by
              unfold toldBasin
              rw [if_neg (fun z => hk0 ((nI_eq (by omega) (by omega)).mp z)), if_neg (fun z => by have := (nI_eq (by omega) (by omega)).mp z; omega), pk_sub (by omega), nI_cl (by omega)]
          refine r_go 5 rfl ?_ ?_
          · (first | exact trivial | assumption | (simp (disch := omega) [ab_all, ab_nz, *]; done))
          rw [e1]
          refine r_cv rfl rfl ((m_of b (k - 1) hs (by omega))) (by decide) ?_
          refine r_go 15 rfl ?_ ?_
          · (simp only [ab_all, gr_218_0, e2]; exact ⟨ix_219 (by omega), rfl, by decide⟩)
          refine r_ret rfl trivial ?_
          rw [gr_218_0, e2, nI_cl (by omega), up_rowI hs, e3]
          exact rf_to hP (rf_w hm h13)
        · skip
          refine r_go 2 rfl ?_ ?_
          · (first | exact trivial | assumption | (simp (disch := omega) [ab_all, ab_nz, *]; done))
          refine r_cv rfl rfl ((m_error 1 (by decide))) (by decide) ?_
          refine r_ret rfl trivial ?_
          exact rf_to (if_neg (by unfold mayB; clear b6; (clear hm hJ hI hX hs h13; simp (disch := omega) only [okB, okD, eq_i, Int32.le_iff_toInt_le, Int32.lt_iff_toInt_lt, c_i, m1_i] at * <;> omega))) (rf_er hm h13)
theorem m_setBasin {i m : ab_I} (hm : mo i m) (hJ : InM m) (h13 : i 218 13 = (-1)) (x w v : Int32) : ab_K 2 168 [.ref 218, .int x, .int w, .int v] i (rfQ i (S_setBasin x w v m)) := by
  refine k_of rfl ?_
  refine r_go 2 rfl ?_ ?_
  · (first | exact trivial | assumption | (simp (disch := omega) [ab_all, ab_nz, *]; done))
  refine r_ne rfl (fun h2 => ?_) (fun h2 => ?_)
  · skip
    refine r_go 2 rfl ?_ ?_
    · (first | exact trivial | assumption | (simp (disch := omega) [ab_all, ab_nz, *]; done))
    refine r_ne rfl (fun h12 => ?_) (fun h12 => ?_)
    · skip
      refine r_go 2 rfl ?_ ?_
      · (first | exact trivial | assumption | (simp (disch := omega) [ab_all, ab_nz, *]; done))
      refine r_ne rfl (fun h22 => ?_) (fun h22 => ?_)
      · skip
        refine r_go 2 rfl ?_ ?_
        · (first | exact trivial | assumption | (simp (disch := omega) [ab_all, ab_nz, *]; done))
        refine r_ne rfl (fun h34 => ?_) (fun h34 => ?_)
        · skip
          refine r_go 2 rfl ?_ ?_
          · (first | exact trivial | assumption | (simp (disch := omega) [ab_all, ab_nz, *]; done))
          exact sb_rest hm hJ h13 x w v _ (by simp only [h2, h12, h22, h34, not_false_eq_true, true_and, and_true, and_self, or_true, true_or, false_or, or_false, false_and, and_false])
        · skip
          refine r_go 3 rfl ?_ ?_
          · (first | exact trivial | assumption | (simp (disch := omega) [ab_all, ab_nz, *]; done))
          exact sb_rest hm hJ h13 x w v _ (by simp only [h2, h12, h22, h34, not_false_eq_true, true_and, and_true, and_self, or_true, true_or, false_or, or_false, false_and, and_false])
      · skip
        refine r_go 3 rfl ?_ ?_
        · (first | exact trivial | assumption | (simp (disch := omega) [ab_all, ab_nz, *]; done))
        exact sb_rest hm hJ h13 x w v _ (by simp only [h2, h12, h22, not_false_eq_true, true_and, and_true, and_self, or_true, true_or, false_or, or_false, false_and, and_false])
    · skip
      refine r_go 3 rfl ?_ ?_
      · (first | exact trivial | assumption | (simp (disch := omega) [ab_all, ab_nz, *]; done))
      exact sb_rest hm hJ h13 x w v _ (by simp only [h2, h12, not_false_eq_true, true_and, and_true, and_self, or_true, true_or, false_or, or_false, false_and, and_false])
  · skip
    refine r_go 3 rfl ?_ ?_
    · (first | exact trivial | assumption | (simp (disch := omega) [ab_all, ab_nz, *]; done))
    exact sb_rest hm hJ h13 x w v _ (by simp only [h2, not_false_eq_true, true_and, and_true, and_self, or_true, true_or, false_or, or_false, false_and, and_false])
theorem n_setBasin {m : ab_I} (hJ : InM m) (x w v : Int32) : InM (S_setBasin x w v m).2 := by
  have b6 := hJ.1.1.1.2
  unfold S_setBasin
  split
  · rename_i h
    obtain ⟨b, hb, rfl⟩ := of_rg h.1
    obtain ⟨k, rfl, hk, hk0, hk2, hv⟩ := mayB_k h.2
    rw [nI_cl (by omega), nI_cl (by omega)]
    exact InM_T hJ (InT_B hJ.1.1 (by omega) (by omega) hv) (rt_up rt_rf (by omega))
  · exact InM_er hJ
def S_setDoor (d w v : Int32) (m : ab_I) : Int32 × ab_I := if okD (m 219) d ∧ mayD w v then (dr (m 219) d.toNatClampNeg w.toNatClampNeg, ab_row m 219 (upd (m 219) (50 + 8 * d.toNatClampNeg + w.toNatClampNeg) v)) else er m 1
theorem c_setDoor {i m : ab_I} (hC : ClsR i m) (hJ : InM m) (x w v : Int32) : ab_K 3 117 [.ref 0, .int x, .int w, .int v] i (clQ i (S_setDoor x w v m)) := by
  (have hI := hJ.1.1; have hX := InS_X hJ.1; have hT := hC.1.1; have hLw : LwsR (m 219) i := ⟨hC.1.2.1, hC.1.2.2.1⟩; have hE := hC.2.2.2.2.1.1)
  have t3 : i 2 3 = nI (nD (m 219)) := hT.1.2.1.trans hI.2.1.1
  have d12 := hI.2.1.2
  refine k_of rfl ?_
  refine r_go 4 rfl ?_ ?_
  · (first | exact trivial | (simp only [ab_all] <;> decide))
  simp only [gr_0_0, gr_0_1, gr_0_3, gr_0_4, gr_0_5, gr_0_6, gr_0_7, gr_1_0, gr_1_1, gr_1_2, gr_1_3, gr_1_4, gr_35_0, gr_35_1, gr_35_2, gr_35_3, gr_35_4]
  refine r_cv rfl (by first | rfl | exact gd) ((k_hasD x isT_2 t3 (Nat.le_trans hI.2.1.2 (by decide)))) (by decide) ?_
  refine r_bE rfl (fun h11 => ?_) (fun h11 => ?_)
  · skip
    refine r_go 2 rfl ?_ ?_
    · (first | exact trivial | (simp only [ab_all] <;> decide))
    refine r_cv rfl (by first | rfl | exact gd) ((k_error 1 (by decide) (by decide) hE)) (by decide) ?_
    refine r_ret rfl trivial ?_
    exact cl_to (if_neg (by simp only [h11, if_true, if_false, not_true, not_false_eq_true, and_true, true_and, and_false, false_and, or_true, true_or, or_false, false_or, and_self, or_self, not_false_eq_true])) (cl_er (by decide) (by decide) hJ hC)
  · skip
    refine r_go 2 rfl ?_ ?_
    · (first | exact trivial | (simp only [ab_all] <;> decide))
    refine r_cv rfl trivial ((k_mayD w v)) (by decide) ?_
    refine r_bN rfl (fun h19 => ?_) (fun h19 => ?_)
    · skip
      refine r_go 4 rfl ?_ ?_
      · (first | exact trivial | (simp only [ab_all] <;> decide))
      have hP : S_setDoor x w v m = (dr (m 219) x.toNatClampNeg w.toNatClampNeg, ab_row m 219 (upd (m 219) (50 + 8 * x.toNatClampNeg + w.toNatClampNeg) v)) := if_pos ⟨h11, h19⟩
      obtain ⟨b, hb, rfl⟩ := of_rg h11
      obtain ⟨k, rfl, hk, hk2, hv⟩ := mayD_k h19
      rw [nI_cl (by omega), nI_cl (by omega)] at hP
      simp only [gr_0_0, gr_0_1, gr_0_3, gr_0_4, gr_0_5, gr_0_6, gr_0_7, gr_1_0, gr_1_1, gr_1_2, gr_1_3, gr_1_4, gr_35_0, gr_35_1, gr_35_2, gr_35_3, gr_35_4]
      have gd := tg_d isT_2 (show b < 12 by omega)
      refine r_cv rfl (by first | rfl | exact gd) ((k_doorAt b isT_2 (by omega))) (by decide) ?_
      refine r_go 3 rfl ?_ ?_
      · (first | exact trivial | (simp only [ab_all] <;> decide))
      refine r_cv rfl (by first | rfl | exact gd) ((k_dtells k (by omega) gd)) (by decide) ?_
      refine r_go 4 rfl ?_ ?_
      · (first | exact trivial | (simp only [ab_all] <;> decide))
      refine r_cn rfl (by first | rfl | exact gd) ((k_dalter k v hk hk2 gd)) (by decide) ?_
      refine r_go 1 rfl ?_ ?_
      · (first | exact trivial | (simp only [ab_all] <;> decide))
      refine r_ret rfl trivial ?_
      rw [hT.2.2 b hb k (by omega)]
      exact cl_to hP (cl_T hJ hC (TwR_D hT hI.1.2 (by omega) (by omega)) (rt_up rt_rf (by omega)) (frT_up frT_rf (by omega)))
    · skip
      refine r_go 2 rfl ?_ ?_
      · (first | exact trivial | (simp only [ab_all] <;> decide))
      refine r_cv rfl (by first | rfl | exact gd) ((k_error 1 (by decide) (by decide) hE)) (by decide) ?_
      refine r_ret rfl trivial ?_
      exact cl_to (if_neg (by simp only [h11, h19, if_true, if_false, not_true, not_false_eq_true, and_true, true_and, and_false, false_and, or_true, true_or, or_false, false_or, and_self, or_self, not_false_eq_true])) (cl_er (by decide) (by decide) hJ hC)
theorem sd_r2 {i m : ab_I} (hm : mo i m) (hJ : InM m) (h13 : i 218 13 = (-1)) (x w v g mo : Int32) (hg : g = bI (okD (m 219) x ∧ (nI 0 ≤ w ∧ w ≤ nI 5) ∧ ¬ w = nI 2)) (hq : (w = nI 0 ∧ mo = nI 6) ∨ (w = nI 1 ∧ mo = nI 9) ∨ (w = nI 3 ∧ mo = nI 99) ∨ (w = nI 4 ∧ mo = nI 2) ∨ (¬ w = nI 0 ∧ ¬ w = nI 1 ∧ ¬ w = nI 3 ∧ ¬ w = nI 4 ∧ mo = nI 1)) : ab_R 2 tb_X11_setDoor 70 [some (.ref 218), some (.int x), some (.int w), some (.int v), some (.int g), some (.int mo), none] [] i (rfQ i (S_setDoor x w v m)) := by
  (have hI := hJ.1.1; have hX := InS_X hJ.1; have hs := hm.1)
  have d12 := hI.2.1.2
  refine r_go 1 rfl ?_ ?_
  · (first | exact trivial | assumption | (simp (disch := omega) [ab_all, ab_nz, *]; done))
  refine r_br rfl (fun h72 => ?_) (fun h72 => ?_)
  · skip
    refine r_go 2 rfl ?_ ?_
    · (first | exact trivial | assumption | (simp (disch := omega) [ab_all, ab_nz, *]; done))
    refine r_cv rfl rfl ((m_error 1 (by decide))) (by decide) ?_
    refine r_ret rfl trivial ?_
    first | (rw [hg, bI_0] at h72; exact rf_to (if_neg (by unfold mayD; clear d12 hg; (clear hm hJ hI hX hs h13; simp (disch := omega) only [okB, okD, eq_i, Int32.le_iff_toInt_le, Int32.lt_iff_toInt_lt, c_i, m1_i] at * <;> omega))) (rf_er hm h13)) | (have h72' := h72; rw [hg, bI_n0] at h72'; clear h72; exact rf_to (if_neg (by unfold mayD; clear d12 hg; (clear hm hJ hI hX hs h13; simp (disch := omega) only [okB, okD, eq_i, Int32.le_iff_toInt_le, Int32.lt_iff_toInt_lt, c_i, m1_i] at * <;> omega))) (rf_er hm h13))
  · skip
    refine r_go 3 rfl ?_ ?_
    · (first | exact trivial | assumption | (simp (disch := omega) [ab_all, ab_nz, *]; done))
    refine r_ne rfl (fun h78 => ?_) (fun h78 => ?_)
    · skip
      refine r_go 2 rfl ?_ ?_
      · (first | exact trivial | assumption | (simp (disch := omega) [ab_all, ab_nz, *]; done))
      refine r_cv rfl trivial ((m_in _ _ _)) (by decide) ?_
      refine r_bN rfl (fun h91 => ?_) (fun h91 => ?_)
      · skip
        have h72' := h72
        rw [hg, bI_n0] at h72'
        clear h72
        have hm2 : okD (m 219) x ∧ mayD w v := by unfold mayD; clear d12 hg; (clear hm hJ hI hX hs h13; simp (disch := omega) only [okB, okD, eq_i, Int32.le_iff_toInt_le, Int32.lt_iff_toInt_lt, c_i, m1_i] at * <;> omega)
        clear hq hg
        have hP : S_setDoor x w v m = (dr (m 219) x.toNatClampNeg w.toNatClampNeg, ab_row m 219 (upd (m 219) (50 + 8 * x.toNatClampNeg + w.toNatClampNeg) v)) := if_pos hm2
        obtain ⟨b, hb, rfl⟩ := of_rg hm2.1
        obtain ⟨k, rfl, hk, hk2, hv⟩ := mayD_k hm2.2
        rw [nI_cl (by omega), nI_cl (by omega)] at hP
        have e2 : nI 50 + nI 8 * nI b + nI k = nI (50 + 8 * b + k) := by rw [pk_mul, nI_add, nI_add]
        refine r_go 3 rfl ?_ ?_
        · (first | exact trivial | assumption | (simp (disch := omega) [ab_all, ab_nz, *]; done))
        refine r_cv rfl rfl ((m_its b k hs (by omega))) (by decide) ?_
        refine r_go 13 rfl ?_ ?_
        · (simp only [ab_all, gr_218_0, e2]; exact ⟨ix_219 (by omega), rfl, by decide⟩)
        refine r_ret rfl trivial ?_
        rw [gr_218_0, e2, nI_cl (by omega), up_rowI hs]
        exact rf_to hP (rf_w hm h13)
      · skip
        refine r_go 2 rfl ?_ ?_
        · (first | exact trivial | assumption | (simp (disch := omega) [ab_all, ab_nz, *]; done))
        refine r_cv rfl rfl ((m_error 1 (by decide))) (by decide) ?_
        refine r_ret rfl trivial ?_
        first | (rw [hg, bI_0] at h72; exact rf_to (if_neg (by unfold mayD; clear d12 hg; (clear hm hJ hI hX hs h13; simp (disch := omega) only [okB, okD, eq_i, Int32.le_iff_toInt_le, Int32.lt_iff_toInt_lt, c_i, m1_i] at * <;> omega))) (rf_er hm h13)) | (have h72' := h72; rw [hg, bI_n0] at h72'; clear h72; exact rf_to (if_neg (by unfold mayD; clear d12 hg; (clear hm hJ hI hX hs h13; simp (disch := omega) only [okB, okD, eq_i, Int32.le_iff_toInt_le, Int32.lt_iff_toInt_lt, c_i, m1_i] at * <;> omega))) (rf_er hm h13))
    · skip
      refine r_go 3 rfl ?_ ?_
      · (first | exact trivial | assumption | (simp (disch := omega) [ab_all, ab_nz, *]; done))
      refine r_cv rfl trivial ((m_in _ _ _)) (by decide) ?_
      refine r_bN rfl (fun h91 => ?_) (fun h91 => ?_)
      · skip
        have h72' := h72
        rw [hg, bI_n0] at h72'
        clear h72
        have hm2 : okD (m 219) x ∧ mayD w v := by unfold mayD; clear d12 hg; (clear hm hJ hI hX hs h13; simp (disch := omega) only [okB, okD, eq_i, Int32.le_iff_toInt_le, Int32.lt_iff_toInt_lt, c_i, m1_i] at * <;> omega)
        clear hq hg
        have hP : S_setDoor x w v m = (dr (m 219) x.toNatClampNeg w.toNatClampNeg, ab_row m 219 (upd (m 219) (50 + 8 * x.toNatClampNeg + w.toNatClampNeg) v)) := if_pos hm2
        obtain ⟨b, hb, rfl⟩ := of_rg hm2.1
        obtain ⟨k, rfl, hk, hk2, hv⟩ := mayD_k hm2.2
        rw [nI_cl (by omega), nI_cl (by omega)] at hP
        have e2 : nI 50 + nI 8 * nI b + nI k = nI (50 + 8 * b + k) := by rw [pk_mul, nI_add, nI_add]
        refine r_go 3 rfl ?_ ?_
        · (first | exact trivial | assumption | (simp (disch := omega) [ab_all, ab_nz, *]; done))
        refine r_cv rfl rfl ((m_its b k hs (by omega))) (by decide) ?_
        refine r_go 13 rfl ?_ ?_
        · (simp only [ab_all, gr_218_0, e2]; exact ⟨ix_219 (by omega), rfl, by decide⟩)
        refine r_ret rfl trivial ?_
        rw [gr_218_0, e2, nI_cl (by omega), up_rowI hs]
        exact rf_to hP (rf_w hm h13)
      · skip
        refine r_go 2 rfl ?_ ?_
        · (first | exact trivial | assumption | (simp (disch := omega) [ab_all, ab_nz, *]; done))
        refine r_cv rfl rfl ((m_error 1 (by decide))) (by decide) ?_
        refine r_ret rfl trivial ?_
        first | (rw [hg, bI_0] at h72; exact rf_to (if_neg (by unfold mayD; clear d12 hg; (clear hm hJ hI hX hs h13; simp (disch := omega) only [okB, okD, eq_i, Int32.le_iff_toInt_le, Int32.lt_iff_toInt_lt, c_i, m1_i] at * <;> omega))) (rf_er hm h13)) | (have h72' := h72; rw [hg, bI_n0] at h72'; clear h72; exact rf_to (if_neg (by unfold mayD; clear d12 hg; (clear hm hJ hI hX hs h13; simp (disch := omega) only [okB, okD, eq_i, Int32.le_iff_toInt_le, Int32.lt_iff_toInt_lt, c_i, m1_i] at * <;> omega))) (rf_er hm h13))
theorem sd_r1 {i m : ab_I} (hm : mo i m) (hJ : InM m) (h13 : i 218 13 = (-1)) (x w v g : Int32) (hg : g = bI (okD (m 219) x ∧ (nI 0 ≤ w ∧ w ≤ nI 5) ∧ ¬ w = nI 2)) : ab_R 2 tb_X11_setDoor 29 [some (.ref 218), some (.int x), some (.int w), some (.int v), some (.int g), none, none] [] i (rfQ i (S_setDoor x w v m)) := by
  refine r_go 1 rfl ?_ ?_
  · (first | exact trivial | assumption | (simp (disch := omega) [ab_all, ab_nz, *]; done))
  refine r_ne rfl (fun h30 => ?_) (fun h30 => ?_)
  · skip
    refine r_go 2 rfl ?_ ?_
    · (first | exact trivial | assumption | (simp (disch := omega) [ab_all, ab_nz, *]; done))
    refine r_ne rfl (fun h40 => ?_) (fun h40 => ?_)
    · skip
      refine r_go 2 rfl ?_ ?_
      · (first | exact trivial | assumption | (simp (disch := omega) [ab_all, ab_nz, *]; done))
      refine r_ne rfl (fun h50 => ?_) (fun h50 => ?_)
      · skip
        refine r_go 2 rfl ?_ ?_
        · (first | exact trivial | assumption | (simp (disch := omega) [ab_all, ab_nz, *]; done))
        refine r_ne rfl (fun h60 => ?_) (fun h60 => ?_)
        · skip
          refine r_go 2 rfl ?_ ?_
          · (first | exact trivial | assumption | (simp (disch := omega) [ab_all, ab_nz, *]; done))
          exact sd_r2 hm hJ h13 x w v _ _ hg (by simp only [h30, h40, h50, h60, not_false_eq_true, true_and, and_true, and_self, or_true, true_or, false_or, or_false, false_and, and_false])
        · skip
          refine r_go 3 rfl ?_ ?_
          · (first | exact trivial | assumption | (simp (disch := omega) [ab_all, ab_nz, *]; done))
          exact sd_r2 hm hJ h13 x w v _ _ hg (by simp only [h30, h40, h50, h60, not_false_eq_true, true_and, and_true, and_self, or_true, true_or, false_or, or_false, false_and, and_false])
      · skip
        refine r_go 3 rfl ?_ ?_
        · (first | exact trivial | assumption | (simp (disch := omega) [ab_all, ab_nz, *]; done))
        exact sd_r2 hm hJ h13 x w v _ _ hg (by simp only [h30, h40, h50, not_false_eq_true, true_and, and_true, and_self, or_true, true_or, false_or, or_false, false_and, and_false])
    · skip
      refine r_go 3 rfl ?_ ?_
      · (first | exact trivial | assumption | (simp (disch := omega) [ab_all, ab_nz, *]; done))
      exact sd_r2 hm hJ h13 x w v _ _ hg (by simp only [h30, h40, not_false_eq_true, true_and, and_true, and_self, or_true, true_or, false_or, or_false, false_and, and_false])
  · skip
    refine r_go 3 rfl ?_ ?_
    · (first | exact trivial | assumption | (simp (disch := omega) [ab_all, ab_nz, *]; done))
    exact sd_r2 hm hJ h13 x w v _ _ hg (by simp only [h30, not_false_eq_true, true_and, and_true, and_self, or_true, true_or, false_or, or_false, false_and, and_false])
theorem m_setDoor {i m : ab_I} (hm : mo i m) (hJ : InM m) (h13 : i 218 13 = (-1)) (x w v : Int32) : ab_K 2 174 [.ref 218, .int x, .int w, .int v] i (rfQ i (S_setDoor x w v m)) := by
  (have hI := hJ.1.1; have hX := InS_X hJ.1; have hs := hm.1)
  refine k_of rfl ?_
  refine r_go 2 rfl ?_ ?_
  · (first | exact trivial | assumption | (simp (disch := omega) [ab_all, ab_nz, *]; done))
  refine r_cv rfl rfl ((m_isD x hs hI)) (by decide) ?_
  refine r_bE rfl (fun h5 => ?_) (fun h5 => ?_)
  · skip
    refine r_go 2 rfl ?_ ?_
    · (first | exact trivial | assumption | (simp (disch := omega) [ab_all, ab_nz, *]; done))
    first | exact sd_r1 hm hJ h13 x w v _ (bI_t (by refine ⟨?_, ?_, ?_⟩ <;> assumption)).symm | exact sd_r1 hm hJ h13 x w v _ (bI_f (by simp only [okD, h5, if_true, if_false, not_true, not_false_eq_true, and_true, true_and, and_false, false_and, or_true, true_or, or_false, false_or, and_self, or_self, not_false_eq_true])).symm
  · skip
    refine r_go 3 rfl ?_ ?_
    · (first | exact trivial | assumption | (simp (disch := omega) [ab_all, ab_nz, *]; done))
    refine r_cv rfl trivial ((m_in _ _ _)) (by decide) ?_
    refine r_bE rfl (fun h14 => ?_) (fun h14 => ?_)
    · skip
      refine r_go 2 rfl ?_ ?_
      · (first | exact trivial | assumption | (simp (disch := omega) [ab_all, ab_nz, *]; done))
      first | exact sd_r1 hm hJ h13 x w v _ (bI_t (by refine ⟨?_, ?_, ?_⟩ <;> assumption)).symm | exact sd_r1 hm hJ h13 x w v _ (bI_f (by simp only [okD, h5, h14, if_true, if_false, not_true, not_false_eq_true, and_true, true_and, and_false, false_and, or_true, true_or, or_false, false_or, and_self, or_self, not_false_eq_true])).symm
    · skip
      refine r_go 2 rfl ?_ ?_
      · (first | exact trivial | assumption | (simp (disch := omega) [ab_all, ab_nz, *]; done))
      refine r_br rfl (fun h19 => ?_) (fun h19 => ?_)
      · skip
        refine r_go 2 rfl ?_ ?_
        · (first | exact trivial | assumption | (simp (disch := omega) [ab_all, ab_nz, *]; done))
        first | exact sd_r1 hm hJ h13 x w v _ (bI_t (by refine ⟨?_, ?_, ?_⟩ <;> assumption)).symm | exact sd_r1 hm hJ h13 x w v _ (bI_f (by simp only [okD, h5, h14, h19, if_true, if_false, not_true, not_false_eq_true, and_true, true_and, and_false, false_and, or_true, true_or, or_false, false_or, and_self, or_self, not_false_eq_true])).symm
      · skip
        refine r_go 3 rfl ?_ ?_
        · (first | exact trivial | assumption | (simp (disch := omega) [ab_all, ab_nz, *]; done))
        first | exact sd_r1 hm hJ h13 x w v _ (bI_t (by refine ⟨?_, ?_, ?_⟩ <;> assumption)).symm | exact sd_r1 hm hJ h13 x w v _ (bI_f (by simp only [okD, h5, h14, h19, if_true, if_false, not_true, not_false_eq_true, and_true, true_and, and_false, false_and, or_true, true_or, or_false, false_or, and_self, or_self, not_false_eq_true])).symm
theorem n_setDoor {m : ab_I} (hJ : InM m) (x w v : Int32) : InM (S_setDoor x w v m).2 := by
  have d12 := hJ.1.1.2.1.2
  unfold S_setDoor
  split
  · rename_i h
    obtain ⟨b, hb, rfl⟩ := of_rg h.1
    obtain ⟨k, rfl, hk, hk2, hv⟩ := mayD_k h.2
    rw [nI_cl (by omega), nI_cl (by omega)]
    exact InM_T hJ (InT_D hJ.1.1 (by omega) (by omega) hk2 hv) (rt_up rt_rf (by omega))
  · exact InM_er hJ
