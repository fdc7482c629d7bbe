theorem c_text {i m : ab_I} (hC : ClsR i m) (hJ : InM m) (x : Int32) : ab_K 62 120 [.ref 0, .int x] i (clQ i (S_text x m)) := by
  (have hI := hJ.1.1; have hX := InS_X hJ.1; have hT := hC.1.1; have hLw : LwsR (m 219) i := ⟨hC.1.2.1, hC.1.2.2.1⟩; have hE := hC.2.2.2.2.1.1)
  have hA := tpA_s hJ.1
  have h5 := hC.1.2.2.2.1
  have w6 := hC.1.2.2.2.2
  refine k_of rfl ?_
  refine r_go 3 rfl ?_ ?_
  · (first | exact trivial | (simp only [ab_all] <;> decide))
  refine r_cv rfl trivial ((k_within _ _ _)) (by decide) ?_
  refine r_bN rfl (fun h6 => ?_) (fun h6 => ?_)
  · skip
    obtain ⟨u, hu, rfl⟩ := of_u h6
    have hP : S_text (nI u) m = (if (txR (tpV (m 219)) u).1 = true ∧ (txR (tpV (m 219)) u).2.1 = (m 219 5).toNatClampNeg then (nI 1, ab_row m 219 (txZ u (txR (tpV (m 219)) u).2.2 (m 219))) else ((-10) - nI (txR (tpV (m 219)) u).2.1, ab_row m 219 (upd (m 219) 5 (nI 0)))) := by
        unfold S_text
        rw [if_pos h6, nI_cl (by omega)]
    obtain ⟨g1, g2, g3, g4⟩ := txR_g hu hA
    rw [List.length_nil] at g3
    have h60 := hA.1
    refine r_go 3 rfl ?_ ?_
    · (first | exact trivial | (simp only [ab_all] <;> decide))
    simp only [gr_0_0, gr_0_1, gr_0_3, gr_0_4, gr_0_5, gr_0_6, gr_0_7, gr_1_0, gr_1_1, gr_1_2, gr_1_3, gr_1_4, gr_35_0, gr_35_1, gr_35_2, gr_35_3, gr_35_4]
    refine r_c rfl (by first | rfl | exact (isL_u hu).1) ((k_rdT hu hA (CT_s h5))) (by decide) ?_
    rintro v j ⟨rfl, R0, R1⟩
    refine r_go 4 rfl ?_ ?_
    · (first | exact trivial | (simp only [ab_all] <;> decide))
    simp only [gr_0_0, gr_0_1, gr_0_3, gr_0_4, gr_0_5, gr_0_6, gr_0_7, gr_1_0, gr_1_1, gr_1_2, gr_1_3, gr_1_4, gr_35_0, gr_35_1, gr_35_2, gr_35_3, gr_35_4]
    refine r_cn rfl (by first | rfl | exact (isL_u hu).1) ((k_empty isR_31)) (by decide) ?_
    refine r_go 2 rfl ?_ ?_
    · (first | exact trivial | (simp only [ab_all] <;> decide))
    refine r_br rfl (fun h36 => ?_) (fun h36 => ?_)
    · skip
      have ef : (txR (tpV (m 219)) u).1 = true ∧ (txR (tpV (m 219)) u).2.1 = (m 219 5).toNatClampNeg := by
          by_cases z : (txR (tpV (m 219)) u).1 = true ∧ (txR (tpV (m 219)) u).2.1 = (m 219 5).toNatClampNeg
          · exact z
          · rw [if_neg z, eq_i, m1_i, c_i (by omega)] at h36
            omega
      have S := R1 ef.1
      have hl : (txR (tpV (m 219)) u).2.2.length ≤ 60 := by omega
      refine r_go 2 rfl ?_ ?_
      · (first | exact trivial | (simp only [ab_all] <;> decide))
      refine r_cv rfl (by first | rfl | exact (isL_u hu).1) ((k_lawOf u hu)) (by decide) ?_
      refine r_go 3 rfl ?_ ?_
      · (first | exact trivial | (simp only [ab_all] <;> decide))
      simp only [gr_0_0, gr_0_1, gr_0_3, gr_0_4, gr_0_5, gr_0_6, gr_0_7, gr_1_0, gr_1_1, gr_1_2, gr_1_3, gr_1_4, gr_35_0, gr_35_1, gr_35_2, gr_35_3, gr_35_4, gr_69_1]
      refine r_cn rfl (by first | rfl | exact (isL_u hu).1) ((k_lawBe (isL_u hu) isR_70 ((up_ne (by omega)).trans S.1) hl (by omega) (by omega))) (by decide) ?_
      refine r_go 1 rfl ?_ ?_
      · (first | exact trivial | (simp only [ab_all] <;> decide))
      refine r_ret rfl trivial ?_
      have Q : RoR 70 (txR (tpV (m 219)) u).2.2.length (fun k => enc u (txe (txZ u (txR (tpV (m 219)) u).2.2 (m 219)) u k)) (ab_up j 31 1 (nI 0)) := by
          refine ⟨(up_ne (by omega)).trans S.1, fun k hk => ?_⟩
          show ab_up j 31 1 (nI 0) 71 k = enc u (txe (txZ u (txR (tpV (m 219)) u).2.2 (m 219)) u k)
          rw [up_ne (by omega), txZ_e hk]
          exact cdR_flat S.2 k hk
      refine cl_to (hP.trans (if_pos ef)) (cl_w hJ hC (WhR_u hu hJ.1 hC.1 (fun k a b => txZ_o hl a b) (fun q a b c d e f g => ?_) ?_ ?_) (fun q hq => ?_) (fun q hq => ?_))
      · exact (funext (fun b => ab_row_ne (by omega))).trans ((up_row (by omega)).trans ((up_row (by omega)).trans (R0 q (by omega) (by omega) (by omega))))
      · unfold LwR
        rw [txZ_N hl]
        exact RoR_like Q
      · rw [txZ_5]
        refine ⟨?_, fun k hk => absurd hk (Nat.not_lt_zero _)⟩
        rw [ab_row_ne (by omega), up_ne (by omega)]
        exact up_us
      · unfold irr at hq
        exact (funext (fun b => ab_row_ne (by omega))).trans ((up_row (by omega)).trans ((up_row (by omega)).trans (R0 q (by omega) (by omega) (by omega))))
      · exact (funext (fun b => ab_row_ne (by omega))).trans ((up_row (by omega)).trans ((up_row (by omega)).trans (R0 q (by omega) (by omega) (by omega))))
    · skip
      have ef : ¬ ((txR (tpV (m 219)) u).1 = true ∧ (txR (tpV (m 219)) u).2.1 = (m 219 5).toNatClampNeg) := fun z => h36 (if_pos z)
      rw [if_neg ef]
      refine r_go 3 rfl ?_ ?_
      · (first | exact trivial | (simp only [ab_all] <;> decide))
      refine r_ret rfl trivial ?_
      refine cl_to (hP.trans (if_neg ef)) (cl_w hJ hC (WhR_k hJ.1 hC.1 (fun k a b c => pk_un a) (fun q a b c d => (up_row (by omega)).trans (R0 q (by omega) (by omega) (by omega))) ?_ ?_) (fun q hq => by unfold irr at hq; exact (up_row (by omega)).trans (R0 q (by omega) (by omega) (by omega))) (fun q hq => (up_row (by omega)).trans (R0 q (by omega) (by omega) (by omega))))
      · rw [pk_us]
        exact ⟨up_us, fun k hk => absurd hk (Nat.not_lt_zero _)⟩
      · rw [pk_un (by decide)]
        have l6 := (In6 hJ.1).2
        refine RoR_far ⟨w6.1, fun k hk => ?_⟩ ((up_row (by omega)).trans (R0 _ (by omega) (by omega) (by omega))) ((up_row (by omega)).trans (R0 _ (by omega) (by omega) (by omega)))
        show _ = upd (m 219) 5 (nI 0) (456 + k)
        rw [pk_un (by omega)]
        exact w6.2 k hk
  · skip
    refine r_go 2 rfl ?_ ?_
    · (first | exact trivial | (simp only [ab_all] <;> decide))
    refine r_cv rfl (by first | rfl | exact (isL_u hu).1) ((k_error 1 (by decide) (by decide) hE)) (by decide) ?_
    refine r_ret rfl trivial ?_
    exact cl_to (if_neg (by simp only [h6, if_true, if_false, not_true, not_false_eq_true, and_true, true_and, and_false, false_and, or_true, true_or, or_false, false_or, and_self, or_self, not_false_eq_true])) (cl_er (by decide) (by decide) hJ hC)
