/-! the outlook: trials; the reference's vector there and back -/
def tr (k : Nat) : Nat := 74 + 21 * k
theorem isT_tr {k : Nat} (h : k < 6) : isT (tr k) := by
  have := (by decide : ∀ k, k < 6 → (74 + 21 * k) ∈ Tws) k h
  exact this
theorem gr_73 {k : Nat} (h : k < 6) : ab_gr GF 73 k = tr k := (gr_of gt_73).trans (by show (if k < 6 then 73 + 1 + 21 * k else 0) = 74 + 21 * k; rw [if_pos h])
theorem k_trialAt {i : ab_I} (k : Nat) (hk : k < 6) : ab_K 0 41 [.ref 72, .int (nI k)] i (ab_V (.ref (tr k)) i) := by
  have g3 := gr_73 hk
  refine k_of rfl ?_
  refine r_go 3 rfl ?_ ?_
  · exact ⟨rfl, by decide⟩
  refine r_brF rfl (fun h => absurd h (by (simp (disch := omega) only [Int32.le_iff_toInt_le, Int32.lt_iff_toInt_lt, c_i, m1_i, m5_i, m33_i] at * <;> omega))) ?_
  refine r_go 4 rfl ?_ ?_
  · exact ⟨rfl, rfl, by decide⟩
  refine r_brF rfl (fun h => by rw [gr_72_3, gt_73] at h; dsimp only at h; clear g3; (simp (disch := omega) only [Int32.le_iff_toInt_le, Int32.lt_iff_toInt_lt, c_i, m1_i, m5_i, m33_i] at * <;> omega)) ?_
  refine r_go 3 rfl ?_ ?_
  · (simp only [ab_all, gr_72_3, nI_cl (show k < 2147483648 by omega), g3]; exact ⟨⟨6, gt_73, in_nI hk (by omega)⟩, by unfold tr; omega⟩)
  refine r_ret rfl trivial ?_
  (rw [gr_72_3, nI_cl (by omega), g3]; exact ⟨rfl, rfl⟩)
/-- the outlook's cells and the laws' stacks alone are touched -/
def ol (i j : ab_I) : Prop := ∀ q, ¬ (72 ≤ q ∧ q ≤ 199) → q ≠ 26 → q ≠ 30 → j q = i q
theorem ol_rf {i : ab_I} : ol i i := fun _ _ _ _ => rfl
theorem ol_tr {i j k : ab_I} (h1 : ol i j) (h2 : ol j k) : ol i k := fun q a b c => (h2 q a b c).trans (h1 q a b c)
theorem ol_sl {i j : ab_I} (h : sl i j) : ol i j := fun q _ b c => h q b c
theorem ol_frT {t : Nat} {i j : ab_I} (h : frT t i j) (ht : 74 ≤ t ∧ t ≤ 179) : ol i j := fun q a b c => h q (by omega) b c
theorem ol_frX {t : Nat} {i j : ab_I} (h : frX t i j) (ht : 74 ≤ t ∧ t ≤ 179) : ol i j := fun q a _ _ => h q (by omega)
theorem ol_up {q k : Nat} {i : ab_I} {x : Int32} (h : 72 ≤ q ∧ q ≤ 199) : ol i (ab_up i q k x) := fun p a _ _ => up_row (by omega)
theorem ol_T {s : Vc} {i j : ab_I} (h : TwR 2 s i) (hI : InT s) (e : ol i j) : TwR 2 s j := TwR_far h hI.1.2 hI.2.1.2 (fun q a b => e q (by omega) (by omega) (by omega))
theorem ol_L {s : Vc} {i j : ab_I} (h : LwsR s i) (hX : InXs s) (e : ol i j) : LwsR s j := LwsR_rt h hX rt_rf (fun q hq => e q (by omega) (by omega) (by omega))
theorem tr_rg {k : Nat} (h : k < 6) : 74 ≤ tr k ∧ tr k ≤ 179 := by unfold tr; omega
theorem cl_ol {i j m : ab_I} {v : Int32} (hJ : InM m) (h : ClsR i m) (e : ol i j) : clQ i (v, m) (some (.int v)) j :=
  ⟨rfl, ClsR_irr hJ h (fun q hq => by unfold irr at hq; exact e q (by omega) (by omega) (by omega)), fun q hq => e q (by omega) (by omega) (by omega)⟩
theorem k_fresh {s : Vc} {i : ab_I} (k : Nat) (hk : k < 6) (hI : InT s) (hT : TwR 2 s i) : ab_K 2 42 [.ref 72, .int (nI k)] i (fun v i' => v = some (.ref (tr k)) ∧ TwR (tr k) s i' ∧ frX (tr k) i i') := by
  have hr := tr_rg hk
  refine k_of rfl ?_
  refine r_go 2 rfl ?_ ?_
  · (first | exact trivial | assumption | (simp (disch := omega) [ab_all, ab_nz, *]; done))
  refine r_cv rfl (by first | rfl | exact tg_t (isT_tr hk)) ((k_trialAt k hk)) (by decide) ?_
  refine r_go 4 rfl ?_ ?_
  · exact ⟨rfl, by decide⟩
  rw [gr_72_0]
  refine r_c rfl (by first | rfl | exact tg_t (isT_tr hk)) ((k_twLike (isT_tr hk) isT_2 (by omega) hI hT)) (by decide) ?_
  rintro v i1 ⟨rfl, R1, f1⟩
  refine r_go 1 rfl ?_ ?_
  · (first | exact trivial | assumption | (simp (disch := omega) [ab_all, ab_nz, *]; done))
  refine r_ret rfl trivial ?_
  exact ⟨rfl, R1, f1⟩
theorem ah_loop {N : Nat} {s : Vc} {i0 : ab_I} (hN : N ≤ 48) (hI : InT s) (hX : InXs s) (hL0 : LwsR s i0) (mm c : Nat) (i : ab_I) (hmm : N - c < mm) (hc : c ≤ N) (hR : TwR (tr 0) (pN 0 c s) i) (hi : ol i0 i) : ab_R 5 tb_X3_ahead 8 [some (.ref 72), some (.int (nI N)), some (.ref (tr 0)), some (.int (nI c))] [] i (fun v i' => v = some (.ref (tr 0)) ∧ TwR (tr 0) (pN 0 N s) i' ∧ ol i0 i') := by
  induction mm generalizing c i with
  | zero => exact absurd hmm (by omega)
  | succ mm ih =>
    have hP := In_pN (w := 0) (n := c) hI
    have hX1 := InXs_rt hX hP.2.2
    have hL1 : LwsR (pN 0 c s) i := LwsR_rt (ol_L hL0 hX hi) hX hP.2.2 (fun _ _ => rfl)
    refine r_go 2 rfl ?_ ?_
    · (first | exact trivial | assumption | (simp (disch := omega) [ab_all, ab_nz, *]; done))
    refine r_le rfl (fun h10 => ?_) (fun h10 => ?_)
    · skip
      refine r_go 1 rfl ?_ ?_
      · (first | exact trivial | assumption | (simp (disch := omega) [ab_all, ab_nz, *]; done))
      refine r_ret rfl trivial ?_
      have e : c = N := by clear hI hX hL0 hR hi hP hX1 hL1; (simp (disch := omega) only [Int32.le_iff_toInt_le, Int32.lt_iff_toInt_lt, c_i, m1_i, m5_i, m33_i] at * <;> omega)
      subst e
      exact ⟨rfl, hR, hi⟩
    · skip
      have hcl : c < N := by clear hI hX hL0 hR hi hP hX1 hL1; (simp (disch := omega) only [Int32.le_iff_toInt_le, Int32.lt_iff_toInt_lt, c_i, m1_i, m5_i, m33_i] at * <;> omega)
      refine r_go 5 rfl ?_ ?_
      · exact ⟨rfl, by decide⟩
      rw [gr_72_1]
      refine r_c rfl (tg_t (isT_tr (by decide))) ((k_hr (nI 2) (isT_tr (by decide)) hP.1 hX1 hR hL1)) (by decide) ?_
      rintro v i2 ⟨rfl, R2, f2⟩
      refine r_go 2 rfl ?_ ?_
      · (first | exact trivial | assumption | (simp (disch := omega) [ab_all, ab_nz, *]; done))
      rw [nI_add]
      exact r_lk (ih (c + 1) i2 (by omega) (by omega) R2 (ol_tr hi (ol_frT f2 (tr_rg (by decide))))) rfl
theorem k_ahead {s : Vc} {i : ab_I} (hI : InT s) (hX : InXs s) (hT : TwR 2 s i) (hL : LwsR s i) (N : Nat) (hN : N ≤ 48) : ab_K 5 43 [.ref 72, .int (nI N)] i (fun v i' => v = some (.ref (tr 0)) ∧ TwR (tr 0) (pN 0 N s) i' ∧ ol i i') := by
  refine k_of rfl ?_
  refine r_go 2 rfl ?_ ?_
  · (first | exact trivial | assumption | (simp (disch := omega) [ab_all, ab_nz, *]; done))
  refine r_c rfl rfl ((k_fresh 0 (by decide) hI hT)) (by decide) ?_
  rintro v i1 ⟨rfl, R1, f1⟩
  refine r_go 3 rfl ?_ ?_
  · (first | exact trivial | assumption | (simp (disch := omega) [ab_all, ab_nz, *]; done))
  have f2 := ol_frX f1 (tr_rg (by decide))
  exact r_mono (ah_loop (i0 := i1) hN hI hX (ol_L hL hX f2) (N + 1) 0 i1 (by omega) (by omega) R1 ol_rf) (by rintro v j ⟨rfl, a, b⟩; exact ⟨rfl, a, ol_tr f2 b⟩)
def S_then (n b w : Int32) (m : ab_I) : Int32 × ab_I := if (nI 0 ≤ n ∧ n ≤ nI 48) ∧ okB (m 219) b ∧ nI 0 ≤ w ∧ w ≤ nI 8 then (toldBasin (pN 0 n.toNatClampNeg (m 219)) b.toNatClampNeg w, m) else er m 1
def S_thenD (n d w : Int32) (m : ab_I) : Int32 × ab_I := if (nI 0 ≤ n ∧ n ≤ nI 48) ∧ okD (m 219) d ∧ nI 0 ≤ w ∧ w ≤ nI 9 then (toldDoor (pN 0 n.toNatClampNeg (m 219)) d.toNatClampNeg w, m) else er m 1
theorem c_then {i m : ab_I} (hC : ClsR i m) (hJ : InM m) (n x w : Int32) : ab_K 6 125 [.ref 0, .int n, .int x, .int w] i (clQ i (S_then n x w m)) := by
  (have hI := hJ.1.1; have hX := InS_X hJ.1; have hT := hC.1.1; have hLw : LwsR (m 219) i := ⟨hC.1.2.1, hC.1.2.2.1⟩; have hE := hC.2.2.2.2.1.1)
  have t2 : i 2 2 = nI (nB (m 219)) := hT.1.1.trans hI.1.1
  refine k_of rfl ?_
  refine r_go 3 rfl ?_ ?_
  · (first | exact trivial | (simp only [ab_all] <;> decide))
  refine r_cv rfl trivial ((k_within _ _ _)) (by decide) ?_
  refine r_bE rfl (fun h7 => ?_) (fun h7 => ?_)
  · skip
    refine r_go 2 rfl ?_ ?_
    · (first | exact trivial | (simp only [ab_all] <;> decide))
    refine r_cv rfl rfl ((k_error 1 (by decide) (by decide) hE)) (by decide) ?_
    refine r_ret rfl trivial ?_
    exact cl_to (if_neg (by simp only [h7, if_true, if_false, not_true, not_false_eq_true, and_true, true_and, and_false, false_and, or_true, true_or, or_false, false_or, and_self, or_self, not_false_eq_true])) (cl_er (by decide) (by decide) hJ hC)
  · skip
    refine r_go 4 rfl ?_ ?_
    · (first | exact trivial | (simp only [ab_all] <;> decide))
    simp only [gr_0_0, gr_0_1, gr_0_3, gr_0_4, gr_0_5, gr_0_6, gr_0_7, gr_1_0, gr_1_1, gr_1_2, gr_1_3, gr_1_4, gr_35_0, gr_35_1, gr_35_2, gr_35_3, gr_35_4]
    refine r_cv rfl rfl ((k_hasB x isT_2 t2 (Nat.le_trans hI.1.2 (by decide)))) (by decide) ?_
    refine r_bE rfl (fun h21 => ?_) (fun h21 => ?_)
    · skip
      refine r_go 2 rfl ?_ ?_
      · (first | exact trivial | (simp only [ab_all] <;> decide))
      refine r_cv rfl rfl ((k_error 1 (by decide) (by decide) hE)) (by decide) ?_
      refine r_ret rfl trivial ?_
      exact cl_to (if_neg (by simp only [h7, h21, if_true, if_false, not_true, not_false_eq_true, and_true, true_and, and_false, false_and, or_true, true_or, or_false, false_or, and_self, or_self, not_false_eq_true])) (cl_er (by decide) (by decide) hJ hC)
    · skip
      refine r_go 3 rfl ?_ ?_
      · (first | exact trivial | (simp only [ab_all] <;> decide))
      refine r_cv rfl trivial ((k_within _ _ _)) (by decide) ?_
      refine r_bN rfl (fun h31 => ?_) (fun h31 => ?_)
      · skip
        refine r_go 3 rfl ?_ ?_
        · (first | exact trivial | (simp only [ab_all] <;> decide))
        have hP : S_then n x w m = (toldBasin (pN 0 n.toNatClampNeg (m 219)) x.toNatClampNeg w, m) := if_pos ⟨h7, h21, h31⟩
        obtain ⟨b, hb, rfl⟩ := of_rg h21
        obtain ⟨k, hk, rfl⟩ := of_bt (by decide) h31
        obtain ⟨N, hN, rfl⟩ := of_bt (by decide) h7
        rw [nI_cl (by have := hI.1.2; omega), nI_cl (by have := hI.1.2; omega)] at hP
        simp only [gr_0_0, gr_0_1, gr_0_3, gr_0_4, gr_0_5, gr_0_6, gr_0_7, gr_1_0, gr_1_1, gr_1_2, gr_1_3, gr_1_4, gr_35_0, gr_35_1, gr_35_2, gr_35_3, gr_35_4]
        refine r_c rfl rfl ((k_ahead hI hX hT hLw N hN)) (by decide) ?_
        rintro v i1 ⟨rfl, R1, f1⟩
        have hPN := In_pN (w := 0) (n := N) hI
        refine r_go 5 rfl ?_ ?_
        · (first | exact trivial | (simp only [ab_all] <;> decide))
        simp only [gr_0_0, gr_0_1, gr_0_3, gr_0_4, gr_0_5, gr_0_6, gr_0_7, gr_1_0, gr_1_1, gr_1_2, gr_1_3, gr_1_4, gr_35_0, gr_35_1, gr_35_2, gr_35_3, gr_35_4]
        refine r_c rfl rfl ((k_ofBasin b k hk (isT_tr (by decide)) hPN.1 (InXs_rt hX hPN.2.2) R1 (LwsR_rt (ol_L hLw hX f1) hX hPN.2.2 (fun _ _ => rfl)) (by rw [hPN.2.1.1]; exact hb))) (by decide) ?_
        rintro v i' ⟨rfl, hf⟩
        refine r_ret rfl trivial ?_
        exact cl_to hP (cl_ol hJ hC (ol_tr f1 (ol_sl hf)))
      · skip
        refine r_go 2 rfl ?_ ?_
        · (first | exact trivial | (simp only [ab_all] <;> decide))
        refine r_cv rfl rfl ((k_error 1 (by decide) (by decide) hE)) (by decide) ?_
        refine r_ret rfl trivial ?_
        exact cl_to (if_neg (by simp only [h7, h21, h31, if_true, if_false, not_true, not_false_eq_true, and_true, true_and, and_false, false_and, or_true, true_or, or_false, false_or, and_self, or_self, not_false_eq_true])) (cl_er (by decide) (by decide) hJ hC)
theorem c_thenD {i m : ab_I} (hC : ClsR i m) (hJ : InM m) (n x w : Int32) : ab_K 6 126 [.ref 0, .int n, .int x, .int w] i (clQ i (S_thenD n x w m)) := by
  (have hI := hJ.1.1; have hX := InS_X hJ.1; have hT := hC.1.1; have hLw : LwsR (m 219) i := ⟨hC.1.2.1, hC.1.2.2.1⟩; have hE := hC.2.2.2.2.1.1)
  have t3 : i 2 3 = nI (nD (m 219)) := hT.1.2.1.trans hI.2.1.1
  refine k_of rfl ?_
  refine r_go 3 rfl ?_ ?_
  · (first | exact trivial | (simp only [ab_all] <;> decide))
  refine r_cv rfl trivial ((k_within _ _ _)) (by decide) ?_
  refine r_bE rfl (fun h7 => ?_) (fun h7 => ?_)
  · skip
    refine r_go 2 rfl ?_ ?_
    · (first | exact trivial | (simp only [ab_all] <;> decide))
    refine r_cv rfl rfl ((k_error 1 (by decide) (by decide) hE)) (by decide) ?_
    refine r_ret rfl trivial ?_
    exact cl_to (if_neg (by simp only [h7, if_true, if_false, not_true, not_false_eq_true, and_true, true_and, and_false, false_and, or_true, true_or, or_false, false_or, and_self, or_self, not_false_eq_true])) (cl_er (by decide) (by decide) hJ hC)
  · skip
    refine r_go 4 rfl ?_ ?_
    · (first | exact trivial | (simp only [ab_all] <;> decide))
    simp only [gr_0_0, gr_0_1, gr_0_3, gr_0_4, gr_0_5, gr_0_6, gr_0_7, gr_1_0, gr_1_1, gr_1_2, gr_1_3, gr_1_4, gr_35_0, gr_35_1, gr_35_2, gr_35_3, gr_35_4]
    refine r_cv rfl rfl ((k_hasD x isT_2 t3 (Nat.le_trans hI.2.1.2 (by decide)))) (by decide) ?_
    refine r_bE rfl (fun h21 => ?_) (fun h21 => ?_)
    · skip
      refine r_go 2 rfl ?_ ?_
      · (first | exact trivial | (simp only [ab_all] <;> decide))
      refine r_cv rfl rfl ((k_error 1 (by decide) (by decide) hE)) (by decide) ?_
      refine r_ret rfl trivial ?_
      exact cl_to (if_neg (by simp only [h7, h21, if_true, if_false, not_true, not_false_eq_true, and_true, true_and, and_false, false_and, or_true, true_or, or_false, false_or, and_self, or_self, not_false_eq_true])) (cl_er (by decide) (by decide) hJ hC)
    · skip
      refine r_go 3 rfl ?_ ?_
      · (first | exact trivial | (simp only [ab_all] <;> decide))
      refine r_cv rfl trivial ((k_within _ _ _)) (by decide) ?_
      refine r_bN rfl (fun h31 => ?_) (fun h31 => ?_)
      · skip
        refine r_go 3 rfl ?_ ?_
        · (first | exact trivial | (simp only [ab_all] <;> decide))
        have hP : S_thenD n x w m = (toldDoor (pN 0 n.toNatClampNeg (m 219)) x.toNatClampNeg w, m) := if_pos ⟨h7, h21, h31⟩
        obtain ⟨b, hb, rfl⟩ := of_rg h21
        obtain ⟨k, hk, rfl⟩ := of_bt (by decide) h31
        obtain ⟨N, hN, rfl⟩ := of_bt (by decide) h7
        rw [nI_cl (by have := hI.2.1.2; omega), nI_cl (by have := hI.2.1.2; omega)] at hP
        simp only [gr_0_0, gr_0_1, gr_0_3, gr_0_4, gr_0_5, gr_0_6, gr_0_7, gr_1_0, gr_1_1, gr_1_2, gr_1_3, gr_1_4, gr_35_0, gr_35_1, gr_35_2, gr_35_3, gr_35_4]
        refine r_c rfl rfl ((k_ahead hI hX hT hLw N hN)) (by decide) ?_
        rintro v i1 ⟨rfl, R1, f1⟩
        have hPN := In_pN (w := 0) (n := N) hI
        refine r_go 8 rfl ?_ ?_
        · (first | exact trivial | (simp only [ab_all] <;> decide))
        simp only [gr_0_0, gr_0_1, gr_0_3, gr_0_4, gr_0_5, gr_0_6, gr_0_7, gr_1_0, gr_1_1, gr_1_2, gr_1_3, gr_1_4, gr_35_0, gr_35_1, gr_35_2, gr_35_3, gr_35_4]
        refine r_c rfl rfl ((k_ofDoor b k hk (isT_tr (by decide)) hPN.1 (InXs_rt hX hPN.2.2) R1 (LwsR_rt (ol_L hLw hX f1) hX hPN.2.2 (fun _ _ => rfl)) (by rw [hPN.2.1.2]; exact hb))) (by decide) ?_
        rintro v i' ⟨rfl, hf⟩
        refine r_ret rfl trivial ?_
        exact cl_to hP (cl_ol hJ hC (ol_tr f1 (ol_sl hf)))
      · skip
        refine r_go 2 rfl ?_ ?_
        · (first | exact trivial | (simp only [ab_all] <;> decide))
        refine r_cv rfl rfl ((k_error 1 (by decide) (by decide) hE)) (by decide) ?_
        refine r_ret rfl trivial ?_
        exact cl_to (if_neg (by simp only [h7, h21, h31, if_true, if_false, not_true, not_false_eq_true, and_true, true_and, and_false, false_and, or_true, true_or, or_false, false_or, and_self, or_self, not_false_eq_true])) (cl_er (by decide) (by decide) hJ hC)
/-- all of the reference but its scratch, its vector and what a told move writes -/
def fo (i j : ab_I) : Prop := (∀ q, q ≠ 218 → q ≠ 219 → q ≠ 221 → q ≠ 224 → q ≠ 225 → q ≠ 226 → j q = i q) ∧ ∀ k, k ≠ 13 → k ≠ 14 → j 218 k = i 218 k
theorem fo_rf {i : ab_I} : fo i i := ⟨fun _ _ _ _ _ _ _ => rfl, fun _ _ _ => rfl⟩
theorem fo_tr {i j k : ab_I} (h1 : fo i j) (h2 : fo j k) : fo i k := ⟨fun q a b c d e f => (h2.1 q a b c d e f).trans (h1.1 q a b c d e f), fun q a b => (h2.2 q a b).trans (h1.2 q a b)⟩
theorem fo_fh {i j : ab_I} (h : fh i j) : fo i j := ⟨fun q _ b _ d e f => h q b d e f, fun k _ _ => by rw [h 218 (by decide) (by decide) (by decide) (by decide)]⟩
theorem fo_sr {i j : ab_I} (h : sr i j) : fo i j := fo_fh (fh_sr h)
theorem fo_r9 {i : ab_I} {f : Vc} : fo i (ab_row i 219 f) := fo_fh fh_row
theorem fo_r1 {i : ab_I} {f : Vc} : fo i (ab_row i 221 f) := ⟨fun q _ _ c _ _ _ => funext (fun b => ab_row_ne c), fun k _ _ => ab_row_ne (by decide)⟩
theorem fo_u {i : ab_I} {k : Nat} {x : Int32} (h : k = 13 ∨ k = 14) : fo i (ab_up i 218 k x) := ⟨fun q a _ _ _ _ _ => up_row a, fun j a b => up_ne (by omega)⟩
theorem rf_fo {i j m : ab_I} {v : Int32} (hm : mo i m) (h : fo i j) (h9 : j 219 = m 219) (h13 : j 218 13 = (-1)) : rfQ i (v, m) (some (.int v)) j := by
  obtain ⟨h1, h2, h3, h4, h5, h6, h7, h8, h10⟩ := hm
  refine ⟨rfl, ⟨h9, ?_, ?_, ?_, ?_, ?_, ?_, ?_, ?_⟩, h13, fun q hq => h.1 q (by omega) (by omega) (by omega) (by omega) (by omega) (by omega)⟩
  · rw [h.1 220 (by decide) (by decide) (by decide) (by decide) (by decide) (by decide)]; exact h2
  · rw [h.1 222 (by decide) (by decide) (by decide) (by decide) (by decide) (by decide)]; exact h3
  · rw [h.1 227 (by decide) (by decide) (by decide) (by decide) (by decide) (by decide)]; exact h4
  · rw [h.1 228 (by decide) (by decide) (by decide) (by decide) (by decide) (by decide)]; exact h5
  · rw [h.1 229 (by decide) (by decide) (by decide) (by decide) (by decide) (by decide)]; exact h6
  · rw [h.1 230 (by decide) (by decide) (by decide) (by decide) (by decide) (by decide)]; exact h7
  · rw [h.2 3 (by decide) (by decide)]; exact h8
  · rw [h.2 16 (by decide) (by decide)]; exact h10
theorem rt_480 {s z : Vc} (h : rt s z) : ∀ k, 480 ≤ k → z k = s k := fun k hk => h k (by omega)
theorem m_isA {i : ab_I} (n : Int32) : ab_K 1 207 [.int n] i (ab_V (.int (bI (nI 0 ≤ n ∧ n ≤ nI 48))) i) := by
  refine k_of rfl ?_
  refine r_go 3 rfl ?_ ?_
  · (first | exact trivial | assumption | (simp (disch := omega) [ab_all, ab_nz, *]; done))
  refine r_cv rfl trivial ((m_in _ _ _)) (by decide) ?_
  refine r_ret rfl (by (first | exact Or.inl rfl | exact Or.inr rfl | exact bI_or)) ?_
  exact ⟨rfl, rfl⟩
theorem m_then {i m : ab_I} (hm : mo i m) (hJ : InM m) (h13 : i 218 13 = (-1)) (n x w : Int32) : ab_K 9 208 [.ref 218, .int n, .int x, .int w] i (rfQ i (S_then n x w m)) := by
  (have hI := hJ.1.1; have hX := InS_X hJ.1; have hs := hm.1)
  refine k_of rfl ?_
  refine r_go 1 rfl ?_ ?_
  · (first | exact trivial | assumption | (simp (disch := omega) [ab_all, ab_nz, *]; done))
  refine r_cv rfl trivial ((m_isA n)) (by decide) ?_
  refine r_bE rfl (fun h4 => ?_) (fun h4 => ?_)
  · skip
    refine r_go 2 rfl ?_ ?_
    · (first | exact trivial | assumption | (simp (disch := omega) [ab_all, ab_nz, *]; done))
    refine r_cv rfl rfl ((m_error 1 (by decide))) (by decide) ?_
    refine r_ret rfl trivial ?_
    exact rf_to (if_neg (by simp only [h4, if_true, if_false, not_true, not_false_eq_true, and_true, true_and, and_false, false_and, or_true, true_or, or_false, false_or, and_self, or_self, not_false_eq_true])) (rf_er hm h13)
  · skip
    refine r_go 2 rfl ?_ ?_
    · (first | exact trivial | assumption | (simp (disch := omega) [ab_all, ab_nz, *]; done))
    refine r_cv rfl rfl ((m_isB x hs hI)) (by decide) ?_
    refine r_bE rfl (fun h12 => ?_) (fun h12 => ?_)
    · skip
      refine r_go 2 rfl ?_ ?_
      · (first | exact trivial | assumption | (simp (disch := omega) [ab_all, ab_nz, *]; done))
      refine r_cv rfl rfl ((m_error 1 (by decide))) (by decide) ?_
      refine r_ret rfl trivial ?_
      exact rf_to (if_neg (by simp only [h4, h12, if_true, if_false, not_true, not_false_eq_true, and_true, true_and, and_false, false_and, or_true, true_or, or_false, false_or, and_self, or_self, not_false_eq_true])) (rf_er hm h13)
    · skip
      refine r_go 3 rfl ?_ ?_
      · (first | exact trivial | assumption | (simp (disch := omega) [ab_all, ab_nz, *]; done))
      refine r_cv rfl trivial ((m_in _ _ _)) (by decide) ?_
      refine r_bN rfl (fun h22 => ?_) (fun h22 => ?_)
      · skip
        have hP : S_then n x w m = (toldBasin (pN 0 n.toNatClampNeg (m 219)) x.toNatClampNeg w, m) := if_pos ⟨h4, h12, h22⟩
        obtain ⟨b, hb, rfl⟩ := of_rg h12
        obtain ⟨k, hk, rfl⟩ := of_bt (by decide) h22
        obtain ⟨N, hN, rfl⟩ := of_bt (by decide) h4
        rw [nI_cl (by have := hI.1.2; omega), nI_cl (by have := hI.1.2; omega)] at hP
        have hPN := In_pN (w := 0) (n := N) hI
        refine r_go 4 rfl ?_ ?_
        · (simp only [ab_all, gr_218_0, gr_218_2] <;> decide)
        rw [gr_218_0, gr_218_2]
        refine r_cn rfl trivial ((m_carry gt_219 gt_221 (by decide))) (by decide) ?_
        refine r_go 2 rfl ?_ ?_
        · (first | exact trivial | assumption | (simp (disch := omega) [ab_all, ab_nz, *]; done))
        have s1 : ab_row i 221 (cy (i 219) (i 221)) 219 = m 219 := (funext (fun b => ab_row_ne (by decide))).trans hs
        have t1 : ab_row i 221 (cy (i 219) (i 221)) 218 13 = (-1) := (ab_row_ne (by decide)).trans h13
        refine r_c rfl rfl ((m_go N (by omega) s1 hI hX t1)) (by decide) ?_
        rintro v i2 ⟨rfl, s2, f2⟩
        refine r_go 3 rfl ?_ ?_
        · (first | exact trivial | assumption | (simp (disch := omega) [ab_all, ab_nz, *]; done))
        refine r_c rfl rfl ((m_toldB b k hk s2 hPN.1 (InXs_rt hX hPN.2.2) (by rw [hPN.2.1.1]; exact hb))) (by decide) ?_
        rintro v i3 ⟨rfl, f3⟩
        refine r_go 5 rfl ?_ ?_
        · (simp only [ab_all, gr_218_0, gr_218_2] <;> decide)
        rw [gr_218_0, gr_218_2]
        refine r_cn rfl trivial ((m_carry gt_221 gt_219 (by decide))) (by decide) ?_
        refine r_go 1 rfl ?_ ?_
        · (first | exact trivial | assumption | (simp (disch := omega) [ab_all, ab_nz, *]; done))
        refine r_ret rfl trivial ?_
        have f4 : fo i i3 := fo_tr (fo_tr fo_r1 (fo_fh f2)) (fo_sr f3)
        refine rf_to hP (rf_fo hm (fo_tr f4 fo_r9) ?_ ?_)
        · rw [row_s, f3 219 (by decide) (by decide), f3 221 (by decide) (by decide), s2, f2 221 (by decide) (by decide) (by decide) (by decide), row_s, hs]
          exact cy_back (rt_480 hPN.2.2)
        · rw [ab_row_ne (by decide), f3 218 (by decide) (by decide), f2 218 (by decide) (by decide) (by decide) (by decide)]
          exact t1
      · skip
        refine r_go 2 rfl ?_ ?_
        · (first | exact trivial | assumption | (simp (disch := omega) [ab_all, ab_nz, *]; done))
        refine r_cv rfl rfl ((m_error 1 (by decide))) (by decide) ?_
        refine r_ret rfl trivial ?_
        exact rf_to (if_neg (by simp only [h4, h12, h22, if_true, if_false, not_true, not_false_eq_true, and_true, true_and, and_false, false_and, or_true, true_or, or_false, false_or, and_self, or_self, not_false_eq_true])) (rf_er hm h13)
theorem m_thenOf {i : ab_I} {s : Vc} (hs : i 219 = s) (hI : InT s) (hX : InXs s) (h13 : i 218 13 = (-1)) (N d k : Nat) (hN : N ≤ 1000) (hd : d < nD s) (hk : k ≤ 9) : ab_K 9 209 [.ref 218, .int (nI N), .int (nI d), .int (nI k)] i (fun v i' => v = some (.int (toldDoor (pN 0 N s) d (nI k))) ∧ i' 219 = s ∧ i' 218 13 = (-1) ∧ fo i i') := by
  have hPN := In_pN (w := 0) (n := N) hI
  refine k_of rfl ?_
  refine r_go 4 rfl ?_ ?_
  · (simp only [ab_all, gr_218_0, gr_218_2] <;> decide)
  rw [gr_218_0, gr_218_2]
  refine r_cn rfl trivial ((m_carry gt_219 gt_221 (by decide))) (by decide) ?_
  refine r_go 2 rfl ?_ ?_
  · (first | exact trivial | assumption | (simp (disch := omega) [ab_all, ab_nz, *]; done))
  have s1 : ab_row i 221 (cy (i 219) (i 221)) 219 = s := (funext (fun b => ab_row_ne (by decide))).trans hs
  have t1 : ab_row i 221 (cy (i 219) (i 221)) 218 13 = (-1) := (ab_row_ne (by decide)).trans h13
  refine r_c rfl rfl ((m_go N hN s1 hI hX t1)) (by decide) ?_
  rintro v i2 ⟨rfl, s2, f2⟩
  refine r_go 3 rfl ?_ ?_
  · (first | exact trivial | assumption | (simp (disch := omega) [ab_all, ab_nz, *]; done))
  refine r_c rfl rfl ((m_toldD d k hk s2 hPN.1 (InXs_rt hX hPN.2.2) (by rw [hPN.2.1.2]; exact hd))) (by decide) ?_
  rintro v i3 ⟨rfl, f3⟩
  refine r_go 5 rfl ?_ ?_
  · (simp only [ab_all, gr_218_0, gr_218_2] <;> decide)
  rw [gr_218_0, gr_218_2]
  refine r_cn rfl trivial ((m_carry gt_221 gt_219 (by decide))) (by decide) ?_
  refine r_go 1 rfl ?_ ?_
  · (first | exact trivial | assumption | (simp (disch := omega) [ab_all, ab_nz, *]; done))
  refine r_ret rfl trivial ?_
  have f4 : fo i i3 := fo_tr (fo_tr fo_r1 (fo_fh f2)) (fo_sr f3)
  refine ⟨rfl, ?_, ?_, fo_tr f4 fo_r9⟩
  · rw [row_s, f3 219 (by decide) (by decide), f3 221 (by decide) (by decide), s2, f2 221 (by decide) (by decide) (by decide) (by decide), row_s, hs]
    exact cy_back (rt_480 hPN.2.2)
  · rw [ab_row_ne (by decide), f3 218 (by decide) (by decide), f2 218 (by decide) (by decide) (by decide) (by decide)]
    exact t1
theorem m_thenD {i m : ab_I} (hm : mo i m) (hJ : InM m) (h13 : i 218 13 = (-1)) (n x w : Int32) : ab_K 10 210 [.ref 218, .int n, .int x, .int w] i (rfQ i (S_thenD n x w m)) := by
  (have hI := hJ.1.1; have hX := InS_X hJ.1; have hs := hm.1)
  refine k_of rfl ?_
  refine r_go 1 rfl ?_ ?_
  · (first | exact trivial | assumption | (simp (disch := omega) [ab_all, ab_nz, *]; done))
  refine r_cv rfl trivial ((m_isA n)) (by decide) ?_
  refine r_bE rfl (fun h4 => ?_) (fun h4 => ?_)
  · skip
    refine r_go 2 rfl ?_ ?_
    · (first | exact trivial | assumption | (simp (disch := omega) [ab_all, ab_nz, *]; done))
    refine r_cv rfl rfl ((m_error 1 (by decide))) (by decide) ?_
    refine r_ret rfl trivial ?_
    first | exact rf_to hP (rf_fo hm f1 s1 t1) | exact rf_to (if_neg (by simp only [h4, if_true, if_false, not_true, not_false_eq_true, and_true, true_and, and_false, false_and, or_true, true_or, or_false, false_or, and_self, or_self, not_false_eq_true])) (rf_er hm h13)
  · skip
    refine r_go 2 rfl ?_ ?_
    · (first | exact trivial | assumption | (simp (disch := omega) [ab_all, ab_nz, *]; done))
    refine r_cv rfl rfl ((m_isD x hs hI)) (by decide) ?_
    refine r_bE rfl (fun h12 => ?_) (fun h12 => ?_)
    · skip
      refine r_go 2 rfl ?_ ?_
      · (first | exact trivial | assumption | (simp (disch := omega) [ab_all, ab_nz, *]; done))
      refine r_cv rfl rfl ((m_error 1 (by decide))) (by decide) ?_
      refine r_ret rfl trivial ?_
      first | exact rf_to hP (rf_fo hm f1 s1 t1) | exact rf_to (if_neg (by simp only [h4, h12, if_true, if_false, not_true, not_false_eq_true, and_true, true_and, and_false, false_and, or_true, true_or, or_false, false_or, and_self, or_self, not_false_eq_true])) (rf_er hm h13)
    · skip
      refine r_go 3 rfl ?_ ?_
      · (first | exact trivial | assumption | (simp (disch := omega) [ab_all, ab_nz, *]; done))
      refine r_cv rfl trivial ((m_in _ _ _)) (by decide) ?_
      refine r_bE rfl (fun h22 => ?_) (fun h22 => ?_)
      · skip
        refine r_go 2 rfl ?_ ?_
        · (first | exact trivial | assumption | (simp (disch := omega) [ab_all, ab_nz, *]; done))
        refine r_cv rfl rfl ((m_error 1 (by decide))) (by decide) ?_
        refine r_ret rfl trivial ?_
        first | exact rf_to hP (rf_fo hm f1 s1 t1) | exact rf_to (if_neg (by simp only [h4, h12, h22, if_true, if_false, not_true, not_false_eq_true, and_true, true_and, and_false, false_and, or_true, true_or, or_false, false_or, and_self, or_self, not_false_eq_true])) (rf_er hm h13)
      · skip
        have hP : S_thenD n x w m = (toldDoor (pN 0 n.toNatClampNeg (m 219)) x.toNatClampNeg w, m) := if_pos ⟨h4, h12, h22⟩
        obtain ⟨b, hb, rfl⟩ := of_rg h12
        obtain ⟨k, hk, rfl⟩ := of_bt (by decide) h22
        obtain ⟨N, hN, rfl⟩ := of_bt (by decide) h4
        rw [nI_cl (by have := hI.2.1.2; omega), nI_cl (by have := hI.2.1.2; omega)] at hP
        refine r_go 4 rfl ?_ ?_
        · (first | exact trivial | assumption | (simp (disch := omega) [ab_all, ab_nz, *]; done))
        refine r_c rfl rfl ((m_thenOf hs hI hX h13 N b k (by omega) hb hk)) (by decide) ?_
        rintro v i1 ⟨rfl, s1, t1, f1⟩
        refine r_go 1 rfl ?_ ?_
        · (first | exact trivial | assumption | (simp (disch := omega) [ab_all, ab_nz, *]; done))
        refine r_ret rfl trivial ?_
        first | exact rf_to hP (rf_fo hm f1 s1 t1) | exact rf_to (if_neg (by simp only [h4, h12, h22, if_true, if_false, not_true, not_false_eq_true, and_true, true_and, and_false, false_and, or_true, true_or, or_false, false_or, and_self, or_self, not_false_eq_true])) (rf_er hm h13)
theorem n_then {m : ab_I} (hJ : InM m) (n b w : Int32) : InM (S_then n b w m).2 := by
  unfold S_then
  split
  · exact hJ
  · exact InM_er hJ
theorem n_thenD {m : ab_I} (hJ : InM m) (n b w : Int32) : InM (S_thenD n b w m).2 := by
  unfold S_thenD
  split
  · exact hJ
  · exact InM_er hJ
