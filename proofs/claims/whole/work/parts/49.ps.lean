/-! how far a record is off, and by which rain least -/
def od (x y : Int32) : Int32 := nI (min 1000 (x.toInt - y.toInt).natAbs)
theorem od_c (x y : Int32) : od x y = od y x := by
  unfold od
  congr 2
  omega
theorem df_i (x y : Int32) : (x.toInt64 - y.toInt64).toInt = x.toInt - y.toInt := by
  have h1 := Int32.toInt_lt x
  have h2 := Int32.le_toInt x
  have h3 := Int32.toInt_lt y
  have h4 := Int32.le_toInt y
  rw [Int64.toInt_sub, Int32.toInt_toInt64, Int32.toInt_toInt64]
  exact Int.bmod_eq_of_le (by omega) (by omega)
theorem od_k (x y : Int32) : (ab_mnL (lN 1000) (ab_asL (x.toInt64 - y.toInt64))).toInt32 = od x y := by
  have h1 := Int32.toInt_lt x
  have h2 := Int32.le_toInt x
  have h3 := Int32.toInt_lt y
  have h4 := Int32.le_toInt y
  have hd := df_i x y
  have c0 : (0 : Int64).toInt = 0 := by decide
  have c1 : (lN 1000).toInt = 1000 := by decide
  have ea : (ab_asL (x.toInt64 - y.toInt64)).toInt = ((x.toInt - y.toInt).natAbs : Int) := by
    unfold ab_asL
    by_cases h : 0 < x.toInt64 - y.toInt64
    · rw [if_pos h]
      rw [Int64.lt_iff_toInt_lt, hd, c0] at h
      rw [hd]
      omega
    · rw [if_neg h]
      rw [Int64.lt_iff_toInt_lt, hd, c0] at h
      rw [Int64.toInt_neg, hd, Int.bmod_eq_of_le (by omega) (by omega)]
      omega
  rw [eq_i, Int64.toInt_toInt32]
  unfold od ab_mnL
  rw [c_i (by omega)]
  by_cases h : ab_asL (x.toInt64 - y.toInt64) < lN 1000
  · rw [if_pos h]
    rw [Int64.lt_iff_toInt_lt, ea, c1] at h
    rw [ea, Int.bmod_eq_of_le (by omega) (by omega)]
    omega
  · rw [if_neg h]
    rw [Int64.lt_iff_toInt_lt, ea, c1] at h
    rw [c1, Int.bmod_eq_of_le (by omega) (by omega)]
    omega
def ofN (f : Vc) (b : Nat) (z : Vc) : Nat → Int32
  | 0 => nI 0
  | k + 1 => ofN f b z k + od (f k) (lev (pN 0 (k + 1) z) b)
theorem of_rg2 {f : Vc} {b : Nat} {z : Vc} : ∀ {k : Nat}, k ≤ 24 → 0 ≤ (ofN f b z k).toInt ∧ (ofN f b z k).toInt ≤ 1000 * (k : Int)
  | 0, _ => by
    have : (ofN f b z 0).toInt = 0 := by show (nI 0).toInt = 0; decide
    omega
  | k + 1, h => by
    have h1 := of_rg2 (f := f) (b := b) (z := z) (k := k) (by omega)
    have h2 : 0 ≤ (od (f k) (lev (pN 0 (k + 1) z) b)).toInt ∧ (od (f k) (lev (pN 0 (k + 1) z) b)).toInt ≤ 1000 := by
      unfold od
      rw [c_i (by omega)]
      omega
    show 0 ≤ (ofN f b z k + od (f k) (lev (pN 0 (k + 1) z) b)).toInt ∧ (ofN f b z k + od (f k) (lev (pN 0 (k + 1) z) b)).toInt ≤ 1000 * ((k + 1 : Nat) : Int)
    rw [ad_i (by omega) (by omega)]
    omega
theorem of_loop {b q n : Nat} {f z : Vc} {i0 : ab_I} (hz : InT z) (hX : InXs z) (hL0 : LwsR z i0) (hb : b < nB z) (hq : isR q 24) (hq2 : 200 ≤ q) (hn : n ≤ 24) (hW0 : RoR q n f i0) (mm k : Nat) (i : ab_I) (hmm : n - k < mm) (hk : k ≤ n) (hR : TwR (tr 0) (pN 0 k z) i) (hi : ol2 i0 i) : ab_R 5 tb_X3_offBy 19 [some (.ref 72), some (.int (nI b)), some (.ref q), none, some (.ref (tr 0)), some (.int (ofN f b z k)), some (.int (nI k)), none, none] [] i (fun v i' => v = some (.int (ofN f b z n)) ∧ ol2 i0 i') := by
  induction mm generalizing k i with
  | zero => exact absurd hmm (by omega)
  | succ mm ih =>
    have b6 := hz.1.2
    have hP := In_pN (w := 0) (n := k) hz
    have hX1 := InXs_rt hX hP.2.2
    have hW : RoR q n f i := RoR_far hW0 (hi _ (by omega) (by omega) (by omega)) (hi _ (by omega) (by omega) (by omega))
    refine r_go 3 rfl ?_ ?_
    · exact hq.1
    rw [hW.1]
    refine r_le rfl (fun h25 => ?_) (fun h25 => ?_)
    · skip
      refine r_go 1 rfl ?_ ?_
      · (first | exact trivial | assumption | (simp (disch := omega) [ab_all, ab_nz, *]; done))
      refine r_ret rfl trivial ?_
      have e : k = n := by clear hz hX hL0 hR hi hP hX1 hW hW0 hq; (simp (disch := omega) only [Int32.le_iff_toInt_le, Int32.lt_iff_toInt_lt, c_i, m1_i, m5_i, m33_i] at * <;> omega)
      subst e
      exact ⟨rfl, hi⟩
    · skip
      have hkl : k < n := by clear hz hX hL0 hR hi hP hX1 hW hW0 hq; (simp (disch := omega) only [Int32.le_iff_toInt_le, Int32.lt_iff_toInt_lt, c_i, m1_i, m5_i, m33_i] at * <;> omega)
      refine r_go 5 rfl ?_ ?_
      · exact ⟨rfl, by decide⟩
      rw [gr_72_1]
      refine r_c rfl (by first | exact tg_t (isT_tr (by decide)) | exact hq.1 | exact gb) ((k_hr (nI 2) (isT_tr (by decide)) hP.1 hX1 hR (LwsR_rt (ol_L hL0 hX (ol_2 hi)) hX hP.2.2 (fun _ _ => rfl)))) (by decide) ?_
      rintro v i2 ⟨rfl, R2, f2⟩
      have R2' : TwR (tr 0) (pN 0 (k + 1) z) i2 := R2
      have hP2 := In_pN (w := 0) (n := k + 1) hz
      have o2 := ol2_tr hi (ol2_frT f2 (tr_rg (by decide)))
      have hW2 : RoR q n f i2 := RoR_far hW0 (o2 _ (by omega) (by omega) (by omega)) (o2 _ (by omega) (by omega) (by omega))
      have gb := tg_b (isT_tr (show 0 < 6 by decide)) (show b < 6 by omega)
      refine r_go 2 rfl ?_ ?_
      · (first | exact trivial | assumption | (simp (disch := omega) [ab_all, ab_nz, *]; done))
      refine r_cv rfl (by first | exact tg_t (isT_tr (by decide)) | exact hq.1 | exact gb) ((k_at (nI k) hq hW2.1 hn)) (by decide) ?_
      rw [rowAt_nI hkl (by omega), hW2.2 k hkl]
      refine r_go 3 rfl ?_ ?_
      · (first | exact trivial | assumption | (simp (disch := omega) [ab_all, ab_nz, *]; done))
      refine r_cv rfl (by first | exact tg_t (isT_tr (by decide)) | exact hq.1 | exact gb) ((k_basinAt b (isT_tr (by decide)) (by omega))) (by decide) ?_
      refine r_cv rfl (by first | exact tg_t (isT_tr (by decide)) | exact hq.1 | exact gb) ((k_level gb (by rw [show i2 (tr 0 + 2 + b) 0 = bs (pN 0 (k + 1) z) b 1 from R2'.2.1 b (by rw [hP2.2.1.1]; exact hb) 1 (by decide)]; exact Int.lt_of_lt_of_le (by decide) (hP2.1.2.2.2.2.1 b (by rw [hP2.2.1.1]; exact hb) 1 (by decide)).1))) (by decide) ?_
      rw [show i2 (tr 0 + 2 + b) 0 = bs (pN 0 (k + 1) z) b 1 from R2'.2.1 b (by rw [hP2.2.1.1]; exact hb) 1 (by decide), show i2 (tr 0 + 2 + b) 1 = bs (pN 0 (k + 1) z) b 0 from R2'.2.1 b (by rw [hP2.2.1.1]; exact hb) 0 (by decide), show bs (pN 0 (k + 1) z) b 0 / bs (pN 0 (k + 1) z) b 1 = lev (pN 0 (k + 1) z) b from rfl]
      refine r_go 13 rfl ?_ ?_
      · (first | exact trivial | assumption | (simp (disch := omega) [ab_all, ab_nz, *]; done))
      rw [nI_add, od_k, show ofN f b z k + od (f k) (lev (pN 0 (k + 1) z) b) = ofN f b z (k + 1) from rfl]
      exact r_lk (ih (k + 1) i2 (by omega) (by omega) R2' o2) rfl
theorem k_offBy {s : Vc} {i : ab_I} (hI : InT s) (hX : InXs s) (hT : TwR 2 s i) (hL : LwsR s i) (b q n : Nat) (f : Vc) (r : Int32) (hb : b < nB s) (hq : isR q 24) (hq2 : 200 ≤ q) (hn : n ≤ 24) (hW : RoR q n f i) (hr : rg r 0 9) : ab_K 5 55 [.ref 72, .int (nI b), .ref q, .int r] i (fun v i' => v = some (.int (ofN f b (upd s 3 r) n)) ∧ ol2 i i') := by
  have hz : InT (upd s 3 r) := InT_k hI (by simp [hr])
  have rz : rt s (upd s 3 r) := rt_up rt_rf (by omega)
  refine k_of rfl ?_
  refine r_go 2 rfl ?_ ?_
  · (first | exact trivial | assumption | (simp (disch := omega) [ab_all, ab_nz, *]; done))
  refine r_c rfl rfl ((k_fresh 0 (by decide) hI hT)) (by decide) ?_
  rintro v i1 ⟨rfl, R1, f1⟩
  refine r_go 8 rfl ?_ ?_
  · exact tg_t (isT_tr (by decide))
  have o1 : ol2 i (ab_up i1 (tr 0) 4 r) := ol2_tr (ol2_frX f1 (tr_rg (by decide))) (ol2_up (by unfold tr; omega))
  refine r_mono (r_lk (of_loop (i0 := ab_up i1 (tr 0) 4 r) hz (InXs_rt hX rz) (LwsR_rt (ol_L hL hX (ol_2 o1)) hX rz (fun _ _ => rfl)) (by rw [nB_up (by decide)]; exact hb) hq hq2 hn (RoR_far hW (o1 _ (by omega) (by omega) (by omega)) (o1 _ (by omega) (by omega) (by omega))) (n + 1) 0 _ (by omega) (by omega) (TwR_c R1 (by omega)) ol2_rf) rfl) ?_
  rintro v j ⟨rfl, h⟩
  exact ⟨rfl, ol2_tr o1 h⟩
def S_off (x y : Int32) (m : ab_I) : Int32 × ab_I := if okB (m 219) x ∧ nI 0 ≤ y ∧ y ≤ nI 3 then (if m 228 y.toNatClampNeg = nI 0 then er m 2 else (ofN (shf m y.toNatClampNeg) x.toNatClampNeg (m 219) (shn m y.toNatClampNeg), m)) else er m 1
theorem c_off {i m : ab_I} (hC : ClsR i m) (hJ : InM m) (x y : Int32) : ab_K 6 139 [.ref 0, .int x, .int y] i (clQ i (S_off x y m)) := by
  (have hI := hJ.1.1; have hX := InS_X hJ.1; have hT := hC.1.1; have hLw : LwsR (m 219) i := ⟨hC.1.2.1, hC.1.2.2.1⟩; have hE := hC.2.2.2.2.1.1)
  have hSh := hC.2.2.2.1
  have t2 : i 2 2 = nI (nB (m 219)) := hT.1.1.trans hI.1.1
  have b6 := hI.1.2
  have hr3 := hI.2.2.1
  refine k_of rfl ?_
  refine r_go 4 rfl ?_ ?_
  · (first | exact trivial | (simp only [ab_all] <;> decide))
  simp only [gr_0_0, gr_0_1, gr_0_3, gr_0_4, gr_0_5, gr_0_6, gr_0_7, gr_1_0, gr_1_1, gr_1_2, gr_1_3, gr_1_4, gr_35_0, gr_35_1, gr_35_2, gr_35_3, gr_35_4]
  refine r_cv rfl (by first | rfl | exact g1) ((k_hasB x isT_2 t2 (Nat.le_trans hI.1.2 (by decide)))) (by decide) ?_
  refine r_bE rfl (fun h11 => ?_) (fun h11 => ?_)
  · skip
    refine r_go 2 rfl ?_ ?_
    · (first | exact trivial | (simp only [ab_all] <;> decide))
    refine r_cv rfl (by first | rfl | exact g1) ((k_error 1 (by decide) (by decide) hE)) (by decide) ?_
    refine r_ret rfl trivial ?_
    exact cl_to (if_neg (by simp only [h11, if_true, if_false, not_true, not_false_eq_true, and_true, true_and, and_false, false_and, or_true, true_or, or_false, false_or, and_self, or_self, not_false_eq_true])) (cl_er (by decide) (by decide) hJ hC)
  · skip
    refine r_go 2 rfl ?_ ?_
    · (first | exact trivial | (simp only [ab_all] <;> decide))
    refine r_cv rfl (by first | rfl | exact g1) ((k_hasSh y)) (by decide) ?_
    refine r_bN rfl (fun h19 => ?_) (fun h19 => ?_)
    · skip
      refine r_go 2 rfl ?_ ?_
      · (first | exact trivial | (simp only [ab_all] <;> decide))
      have hP : S_off x y m = (if m 228 y.toNatClampNeg = nI 0 then er m 2 else (ofN (shf m y.toNatClampNeg) x.toNatClampNeg (m 219) (shn m y.toNatClampNeg), m)) := if_pos ⟨h11, h19⟩
      obtain ⟨b, hb, rfl⟩ := of_rg h11
      obtain ⟨j, hj, rfl⟩ := of_s h19
      rw [nI_cl (by omega), nI_cl (by omega)] at hP
      obtain ⟨q1, q2⟩ := hSh j hj
      obtain ⟨_, n, hn, en⟩ := hJ.2.2.1 j hj
      have en2 : shn m j = n := by unfold shn; rw [en, nI_cl (by omega)]
      obtain ⟨g1, g2⟩ := tg_sh j hj
      have g3 := gr_sh hj
      refine r_cv rfl (by first | rfl | exact g1) ((k_shAt j hj)) (by decide) ?_
      refine r_cv rfl (by first | rfl | exact g1) ((k_miss hj)) (by decide) ?_
      refine r_bE rfl (fun h36 => ?_) (fun h36 => ?_)
      · skip
        refine r_go 5 rfl ?_ ?_
        · (first | exact trivial | (simp only [ab_all] <;> decide))
        rw [q1] at h36
        refine r_cv rfl (by first | rfl | exact g1) ((k_shAt j hj)) (by decide) ?_
        refine r_go 5 rfl ?_ ?_
        · (simp only [ab_all, g1, g3, gr_0_0, gr_0_1, gr_0_3, gr_0_4, gr_0_5, gr_0_6, gr_0_7, gr_1_0, gr_1_1, gr_1_2, gr_1_3, gr_1_4, gr_35_0, gr_35_1, gr_35_2, gr_35_3, gr_35_4]; simp <;> decide)
        simp only [gr_0_0, gr_0_1, gr_0_3, gr_0_4, gr_0_5, gr_0_6, gr_0_7, gr_1_0, gr_1_1, gr_1_2, gr_1_3, gr_1_4, gr_35_0, gr_35_1, gr_35_2, gr_35_3, gr_35_4]
        rw [g3, show i 2 4 = m 219 3 from hT.1.2.2.1]
        refine r_c rfl (by first | rfl | exact g1) ((k_offBy hI hX hT hLw b (205 + 3 * j) (shn m j) (shf m j) (m 219 3) hb g2 (by omega) (by omega) q2 hr3)) (by decide) ?_
        rintro v i1 ⟨rfl, f1⟩
        refine r_ret rfl trivial ?_
        rw [up_same rfl]
        exact cl_to (hP.trans (if_neg h36)) (cl_ol hJ hC (ol_2 f1))
      · skip
        rw [q1] at h36
        refine r_go 2 rfl ?_ ?_
        · (first | exact trivial | (simp only [ab_all] <;> decide))
        refine r_cv rfl (by first | rfl | exact g1) ((k_error 2 (by decide) (by decide) hE)) (by decide) ?_
        refine r_ret rfl trivial ?_
        exact cl_to (hP.trans (if_pos h36)) (cl_er (by decide) (by decide) hJ hC)
    · skip
      refine r_go 2 rfl ?_ ?_
      · (first | exact trivial | (simp only [ab_all] <;> decide))
      refine r_cv rfl (by first | rfl | exact g1) ((k_error 1 (by decide) (by decide) hE)) (by decide) ?_
      refine r_ret rfl trivial ?_
      exact cl_to (if_neg (by simp only [h11, h19, if_true, if_false, not_true, not_false_eq_true, and_true, true_and, and_false, false_and, or_true, true_or, or_false, false_or, and_self, or_self, not_false_eq_true])) (cl_er (by decide) (by decide) hJ hC)
theorem n_off {m : ab_I} (hJ : InM m) (x y : Int32) : InM (S_off x y m).2 := by
  unfold S_off
  split
  · split
    · exact InM_er hJ
    · exact hJ
  · exact InM_er hJ
def rnC (O : Nat → Int32) : Nat → Int32 × Int32
  | 0 => (nI 0, nI 2147483647)
  | c + 1 => wgC (O c) c (rnC O c)
def offR (f : Vc) (b n : Nat) (s : Vc) (r : Nat) : Int32 := ofN f b (rnd r s) n
def S_rained (x y : Int32) (m : ab_I) : Int32 × ab_I := if okB (m 219) x ∧ nI 0 ≤ y ∧ y ≤ nI 3 then (if m 228 y.toNatClampNeg = nI 0 then er m 2 else ((rnC (offR (shf m y.toNatClampNeg) x.toNatClampNeg (shn m y.toNatClampNeg) (m 219)) 10).1, m)) else er m 1
theorem li_loop {b q n : Nat} {f s : Vc} {i0 : ab_I} (hI : InT s) (hX : InXs s) (hT0 : TwR 2 s i0) (hL0 : LwsR s i0) (hb : b < nB s) (hq : isR q 24) (hq2 : 200 ≤ q) (hn : n ≤ 24) (hW0 : RoR q n f i0) (mm r : Nat) (i : ab_I) (hmm : 10 - r < mm) (hr : r ≤ 10) (hi : ol2 i0 i) : ab_R 6 tb_X3_likeliestRain 9 [some (.ref 72), some (.int (nI b)), some (.ref q), some (.int (rnC (offR f b n s) r).1), some (.int (rnC (offR f b n s) r).2), some (.int (nI r)), none] [] i (fun v i' => v = some (.int (rnC (offR f b n s) 10).1) ∧ ol2 i0 i') := by
  induction mm generalizing r i with
  | zero => exact absurd hmm (by omega)
  | succ mm ih =>
    have hW : RoR q n f i := RoR_far hW0 (hi _ (by omega) (by omega) (by omega)) (hi _ (by omega) (by omega) (by omega))
    refine r_go 2 rfl ?_ ?_
    · (first | exact trivial | assumption | (simp (disch := omega) [ab_all, ab_nz, *]; done))
    refine r_br rfl (fun h13 => ?_) (fun h13 => ?_)
    · skip
      refine r_go 1 rfl ?_ ?_
      · (first | exact trivial | assumption | (simp (disch := omega) [ab_all, ab_nz, *]; done))
      refine r_ret rfl trivial ?_
      have e : r = 10 := by clear hI hX hT0 hL0 hi hW hW0 hq; (simp (disch := omega) only [Int32.le_iff_toInt_le, Int32.lt_iff_toInt_lt, c_i, m1_i, m5_i, m33_i] at * <;> omega)
      subst e
      exact ⟨rfl, hi⟩
    · skip
      have hrl : r ≤ 9 := by clear hI hX hT0 hL0 hi hW hW0 hq; (simp (disch := omega) only [Int32.le_iff_toInt_le, Int32.lt_iff_toInt_lt, c_i, m1_i, m5_i, m33_i] at * <;> omega)
      refine r_go 4 rfl ?_ ?_
      · (first | exact trivial | assumption | (simp (disch := omega) [ab_all, ab_nz, *]; done))
      refine r_c rfl rfl ((k_offBy hI hX (ol_T hT0 hI (ol_2 hi)) (ol_L hL0 hX (ol_2 hi)) b q n f (nI r) hb hq hq2 hn hW (by unfold rg; rw [c_i (by omega)]; omega))) (by decide) ?_
      rintro v i1 ⟨rfl, f1⟩
      refine r_go 3 rfl ?_ ?_
      · (first | exact trivial | assumption | (simp (disch := omega) [ab_all, ab_nz, *]; done))
      refine r_le rfl (fun h30 => ?_) (fun h30 => ?_)
      · skip
        refine r_go 2 rfl ?_ ?_
        · (first | exact trivial | assumption | (simp (disch := omega) [ab_all, ab_nz, *]; done))
        rw [nI_add]
        have h30' := h30
        have es : rnC (offR f b n s) (r + 1) = wgC (offR f b n s r) r (rnC (offR f b n s) r) := rfl
        have K := ih (r + 1) i1 (by omega) (by omega) (ol2_tr hi f1)
        rw [es] at K
        first | (rw [show wgC (offR f b n s r) r (rnC (offR f b n s) r) = (nI r, offR f b n s r) from if_pos h30] at K; exact r_lk K rfl) | (rw [show wgC (offR f b n s r) r (rnC (offR f b n s) r) = rnC (offR f b n s) r from if_neg h30] at K; exact r_lk K rfl)
      · skip
        refine r_go 6 rfl ?_ ?_
        · (first | exact trivial | assumption | (simp (disch := omega) [ab_all, ab_nz, *]; done))
        rw [nI_add]
        have h30' := h30
        have es : rnC (offR f b n s) (r + 1) = wgC (offR f b n s r) r (rnC (offR f b n s) r) := rfl
        have K := ih (r + 1) i1 (by omega) (by omega) (ol2_tr hi f1)
        rw [es] at K
        first | (rw [show wgC (offR f b n s r) r (rnC (offR f b n s) r) = (nI r, offR f b n s r) from if_pos h30] at K; exact r_lk K rfl) | (rw [show wgC (offR f b n s r) r (rnC (offR f b n s) r) = rnC (offR f b n s) r from if_neg h30] at K; exact r_lk K rfl)
theorem k_likely {s : Vc} {i : ab_I} (hI : InT s) (hX : InXs s) (hT : TwR 2 s i) (hL : LwsR s i) (b q n : Nat) (f : Vc) (hb : b < nB s) (hq : isR q 24) (hq2 : 200 ≤ q) (hn : n ≤ 24) (hW : RoR q n f i) : ab_K 6 56 [.ref 72, .int (nI b), .ref q] i (fun v i' => v = some (.int (rnC (offR f b n s) 10).1) ∧ ol2 i i') := by
  refine k_of rfl ?_
  refine r_go 6 rfl ?_ ?_
  · (first | exact trivial | assumption | (simp (disch := omega) [ab_all, ab_nz, *]; done))
  exact r_lk (li_loop (i0 := i) hI hX hT hL hb hq hq2 hn hW 11 0 i (by decide) (by decide) ol2_rf) rfl
theorem c_rained {i m : ab_I} (hC : ClsR i m) (hJ : InM m) (x y : Int32) : ab_K 7 140 [.ref 0, .int x, .int y] i (clQ i (S_rained x y m)) := by
  (have hI := hJ.1.1; have hX := InS_X hJ.1; have hT := hC.1.1; have hLw : LwsR (m 219) i := ⟨hC.1.2.1, hC.1.2.2.1⟩; have hE := hC.2.2.2.2.1.1)
  have hSh := hC.2.2.2.1
  have t2 : i 2 2 = nI (nB (m 219)) := hT.1.1.trans hI.1.1
  have b6 := hI.1.2
  refine k_of rfl ?_
  refine r_go 4 rfl ?_ ?_
  · (first | exact trivial | (simp only [ab_all] <;> decide))
  simp only [gr_0_0, gr_0_1, gr_0_3, gr_0_4, gr_0_5, gr_0_6, gr_0_7, gr_1_0, gr_1_1, gr_1_2, gr_1_3, gr_1_4, gr_35_0, gr_35_1, gr_35_2, gr_35_3, gr_35_4]
  refine r_cv rfl (by first | rfl | exact g1) ((k_hasB x isT_2 t2 (Nat.le_trans hI.1.2 (by decide)))) (by decide) ?_
  refine r_bE rfl (fun h11 => ?_) (fun h11 => ?_)
  · skip
    refine r_go 2 rfl ?_ ?_
    · (first | exact trivial | (simp only [ab_all] <;> decide))
    refine r_cv rfl (by first | rfl | exact g1) ((k_error 1 (by decide) (by decide) hE)) (by decide) ?_
    refine r_ret rfl trivial ?_
    exact cl_to (if_neg (by simp only [h11, if_true, if_false, not_true, not_false_eq_true, and_true, true_and, and_false, false_and, or_true, true_or, or_false, false_or, and_self, or_self, not_false_eq_true])) (cl_er (by decide) (by decide) hJ hC)
  · skip
    refine r_go 2 rfl ?_ ?_
    · (first | exact trivial | (simp only [ab_all] <;> decide))
    refine r_cv rfl (by first | rfl | exact g1) ((k_hasSh y)) (by decide) ?_
    refine r_bN rfl (fun h19 => ?_) (fun h19 => ?_)
    · skip
      refine r_go 2 rfl ?_ ?_
      · (first | exact trivial | (simp only [ab_all] <;> decide))
      have hP : S_rained x y m = (if m 228 y.toNatClampNeg = nI 0 then er m 2 else ((rnC (offR (shf m y.toNatClampNeg) x.toNatClampNeg (shn m y.toNatClampNeg) (m 219)) 10).1, m)) := if_pos ⟨h11, h19⟩
      obtain ⟨b, hb, rfl⟩ := of_rg h11
      obtain ⟨j, hj, rfl⟩ := of_s h19
      rw [nI_cl (by omega), nI_cl (by omega)] at hP
      obtain ⟨q1, q2⟩ := hSh j hj
      obtain ⟨_, n, hn, en⟩ := hJ.2.2.1 j hj
      have en2 : shn m j = n := by unfold shn; rw [en, nI_cl (by omega)]
      obtain ⟨g1, g2⟩ := tg_sh j hj
      have g3 := gr_sh hj
      refine r_cv rfl (by first | rfl | exact g1) ((k_shAt j hj)) (by decide) ?_
      refine r_cv rfl (by first | rfl | exact g1) ((k_miss hj)) (by decide) ?_
      refine r_bE rfl (fun h36 => ?_) (fun h36 => ?_)
      · skip
        refine r_go 5 rfl ?_ ?_
        · (first | exact trivial | (simp only [ab_all] <;> decide))
        rw [q1] at h36
        refine r_cv rfl (by first | rfl | exact g1) ((k_shAt j hj)) (by decide) ?_
        refine r_go 1 rfl ?_ ?_
        · (simp only [ab_all, g1, g3]; simp)
        simp only [gr_0_0, gr_0_1, gr_0_3, gr_0_4, gr_0_5, gr_0_6, gr_0_7, gr_1_0, gr_1_1, gr_1_2, gr_1_3, gr_1_4, gr_35_0, gr_35_1, gr_35_2, gr_35_3, gr_35_4]
        rw [g3]
        refine r_c rfl (by first | rfl | exact g1) ((k_likely hI hX hT hLw b (205 + 3 * j) (shn m j) (shf m j) hb g2 (by omega) (by omega) q2)) (by decide) ?_
        rintro v i1 ⟨rfl, f1⟩
        refine r_ret rfl trivial ?_
        exact cl_to (hP.trans (if_neg h36)) (cl_ol hJ hC (ol_2 f1))
      · skip
        rw [q1] at h36
        refine r_go 2 rfl ?_ ?_
        · (first | exact trivial | (simp only [ab_all] <;> decide))
        refine r_cv rfl (by first | rfl | exact g1) ((k_error 2 (by decide) (by decide) hE)) (by decide) ?_
        refine r_ret rfl trivial ?_
        exact cl_to (hP.trans (if_pos h36)) (cl_er (by decide) (by decide) hJ hC)
    · skip
      refine r_go 2 rfl ?_ ?_
      · (first | exact trivial | (simp only [ab_all] <;> decide))
      refine r_cv rfl (by first | rfl | exact g1) ((k_error 1 (by decide) (by decide) hE)) (by decide) ?_
      refine r_ret rfl trivial ?_
      exact cl_to (if_neg (by simp only [h11, h19, if_true, if_false, not_true, not_false_eq_true, and_true, true_and, and_false, false_and, or_true, true_or, or_false, false_or, and_self, or_self, not_false_eq_true])) (cl_er (by decide) (by decide) hJ hC)
theorem n_rained {m : ab_I} (hJ : InM m) (x y : Int32) : InM (S_rained x y m).2 := by
  unfold S_rained
  split
  · split
    · exact InM_er hJ
    · exact hJ
  · exact InM_er hJ
/-! the reference's -/
theorem od_r1 (x y : Int32) : (lg_cmp (x.toInt64 - y.toInt64) (lN 0) < nI 0) = (x.toInt - y.toInt < 0) := by
  have e : (lg_cmp (x.toInt64 - y.toInt64) (lN 0) < 0) ↔ (x.toInt64 - y.toInt64) < lN 0 := lg_cmp_lt _ _
  rw [show nI 0 = 0 from rfl]
  refine propext (e.trans ?_)
  rw [Int64.lt_iff_toInt_lt, df_i, show (lN 0).toInt = 0 by decide]
def abL (x y : Int32) : Int64 := if x.toInt - y.toInt < 0 then -(x.toInt64 - y.toInt64) else x.toInt64 - y.toInt64
theorem abL_i (x y : Int32) : (abL x y).toInt = ((x.toInt - y.toInt).natAbs : Int) := by
  have h1 := Int32.toInt_lt x
  have h2 := Int32.le_toInt x
  have h3 := Int32.toInt_lt y
  have h4 := Int32.le_toInt y
  unfold abL
  split
  · rw [Int64.toInt_neg, df_i, Int.bmod_eq_of_le (by omega) (by omega)]
    omega
  · rw [df_i]
    omega
theorem od_r2 (x y : Int32) : (nI 0 < lg_cmp (abL x y) (lN 1000)) = (1000 < (x.toInt - y.toInt).natAbs) := by
  have e : (0 < lg_cmp (abL x y) (lN 1000)) ↔ lN 1000 < abL x y := lg_cmp_gt _ _
  rw [show nI 0 = 0 from rfl]
  refine propext (e.trans ?_)
  rw [Int64.lt_iff_toInt_lt, abL_i, show (lN 1000).toInt = 1000 by decide]
  omega
theorem od_r3 {x y : Int32} (h : ¬ 1000 < (x.toInt - y.toInt).natAbs) : (abL x y).toInt32 = od x y := by
  rw [eq_i, Int64.toInt_toInt32, abL_i]
  unfold od
  rw [c_i (by omega), Int.bmod_eq_of_le (by omega) (by omega)]
  omega
theorem od_r4 {x y : Int32} (h : 1000 < (x.toInt - y.toInt).natAbs) : nI 1000 = od x y := by
  unfold od
  congr 1
  omega
theorem mof_loop {b j n : Nat} {f z o : Vc} {i0 : ab_I} (hz : InT z) (hX : InXs z) (hb : b < nB z) (hj : j < 4) (hn : n ≤ 24) (e9 : i0 229 j = nI n) (e0 : ∀ k, i0 230 (24 * j + k) = f k) (mm k : Nat) (i : ab_I) (hmm : n - k < mm) (hk : k ≤ n) (hs : i 219 = pN 0 k z) (h13 : i 218 13 = (-1)) (hp : i 221 = cy z o) (hi : fo i0 i) : ab_R 8 tb_X11_offBy 16 [some (.ref 218), some (.int (nI b)), some (.int (nI j)), some (.int (ofN f b z k)), some (.int (nI k)), none, none] [] i (fun v i' => v = some (.int (ofN f b z n)) ∧ i' 219 = z ∧ i' 218 13 = (-1) ∧ fo i0 i') := by
  induction mm generalizing k i with
  | zero => exact absurd hmm (by omega)
  | succ mm ih =>
    have hP := In_pN (w := 0) (n := k) hz
    have hX1 := InXs_rt hX hP.2.2
    have a9 : ∀ {q : ab_I}, fo i0 q → q 229 j = nI n := fun h => by rw [h.1 229 (by decide) (by decide) (by decide) (by decide) (by decide) (by decide)]; exact e9
    have a0 : ∀ {q : ab_I} (c : Nat), fo i0 q → q 230 (24 * j + c) = f c := fun c h => by rw [h.1 230 (by decide) (by decide) (by decide) (by decide) (by decide) (by decide)]; exact e0 c
    refine r_go 5 rfl ?_ ?_
    · (simp only [ab_all, gr_218_20]; exact ⟨ix_of gt_229 (by omega) (by omega), rfl, by decide⟩)
    rw [gr_218_20, nI_cl (by omega), a9 hi]
    refine r_le rfl (fun h24 => ?_) (fun h24 => ?_)
    · skip
      refine r_go 4 rfl ?_ ?_
      · (simp only [ab_all, gr_218_0, gr_218_2] <;> decide)
      have e : k = n := by clear hz hX hs hi hp h13 hP hX1 a9 a0 e9 e0; (simp (disch := omega) only [Int32.le_iff_toInt_le, Int32.lt_iff_toInt_lt, c_i, m1_i, m5_i, m33_i] at * <;> omega)
      subst e
      rw [gr_218_0, gr_218_2]
      refine r_cn rfl trivial ((m_carry gt_221 gt_219 (by decide))) (by decide) ?_
      refine r_go 1 rfl ?_ ?_
      · (first | exact trivial | assumption | (simp (disch := omega) [ab_all, ab_nz, *]; done))
      refine r_ret rfl trivial ?_
      exact ⟨rfl, by rw [row_s, hs, hp]; exact cy_back (rt_480 hP.2.2), (ab_row_ne (by decide)).trans h13, fo_tr hi fo_r9⟩
    · skip
      have hkl : k < n := by clear hz hX hs hi hp h13 hP hX1 a9 a0 e9 e0; (simp (disch := omega) only [Int32.le_iff_toInt_le, Int32.lt_iff_toInt_lt, c_i, m1_i, m5_i, m33_i] at * <;> omega)
      refine r_go 1 rfl ?_ ?_
      · (first | exact trivial | assumption | (simp (disch := omega) [ab_all, ab_nz, *]; done))
      refine r_c rfl rfl ((m_hr hs hP.1 hX1 h13)) (by decide) ?_
      rintro v i2 ⟨rfl, s2, f2⟩
      have s2' : i2 219 = pN 0 (k + 1) z := s2
      have hP2 := In_pN (w := 0) (n := k + 1) hz
      have o2 := fo_tr hi (fo_fh f2)
      refine r_go 2 rfl ?_ ?_
      · (first | exact trivial | assumption | (simp (disch := omega) [ab_all, ab_nz, *]; done))
      refine r_cv rfl rfl ((m_level b s2' hP2.1 (by rw [hP2.2.1.1]; exact hb))) (by decide) ?_
      refine r_go 11 rfl ?_ ?_
      · (simp only [ab_all, gr_218_21, pk_mul, nI_add]; exact ⟨ix_of gt_230 (by omega) (by omega), rfl, by decide⟩)
      rw [gr_218_21, pk_mul, nI_add, nI_cl (by omega), a0 k o2]
      refine r_go 4 rfl ?_ ?_
      · (first | exact trivial | assumption | (simp (disch := omega) [ab_all, ab_nz, *]; done))
      refine r_le rfl (fun h57 => ?_) (fun h57 => ?_)
      · skip
        refine r_go 2 rfl ?_ ?_
        · (first | exact trivial | assumption | (simp (disch := omega) [ab_all, ab_nz, *]; done))
        rw [od_r1] at h57
        first | rw [show -((lev (pN 0 (k + 1) z) b).toInt64 - (f k).toInt64) = abL (lev (pN 0 (k + 1) z) b) (f k) from (if_pos h57).symm] | rw [show (lev (pN 0 (k + 1) z) b).toInt64 - (f k).toInt64 = abL (lev (pN 0 (k + 1) z) b) (f k) from (if_neg h57).symm]
        refine r_go 4 rfl ?_ ?_
        · (first | exact trivial | assumption | (simp (disch := omega) [ab_all, ab_nz, *]; done))
        refine r_le rfl (fun h77 => ?_) (fun h77 => ?_)
        · skip
          refine r_go 6 rfl ?_ ?_
          · (first | exact trivial | assumption | (simp (disch := omega) [ab_all, ab_nz, *]; done))
          rw [nI_add]
          rw [od_r2] at h77
          have es : ofN f b z (k + 1) = ofN f b z k + od (f k) (lev (pN 0 (k + 1) z) b) := rfl
          have K := ih (k + 1) i2 (by omega) (by omega) s2' (by rw [f2 218 (by decide) (by decide) (by decide) (by decide)]; exact h13) (by rw [f2 221 (by decide) (by decide) (by decide) (by decide)]; exact hp) o2
          rw [es, od_c] at K
          first | (rw [← od_r4 h77] at K; exact r_lk K rfl) | (rw [← od_r3 h77] at K; exact r_lk K rfl)
        · skip
          refine r_go 6 rfl ?_ ?_
          · (first | exact trivial | assumption | (simp (disch := omega) [ab_all, ab_nz, *]; done))
          rw [nI_add]
          rw [od_r2] at h77
          have es : ofN f b z (k + 1) = ofN f b z k + od (f k) (lev (pN 0 (k + 1) z) b) := rfl
          have K := ih (k + 1) i2 (by omega) (by omega) s2' (by rw [f2 218 (by decide) (by decide) (by decide) (by decide)]; exact h13) (by rw [f2 221 (by decide) (by decide) (by decide) (by decide)]; exact hp) o2
          rw [es, od_c] at K
          first | (rw [← od_r4 h77] at K; exact r_lk K rfl) | (rw [← od_r3 h77] at K; exact r_lk K rfl)
      · skip
        refine r_go 4 rfl ?_ ?_
        · (first | exact trivial | assumption | (simp (disch := omega) [ab_all, ab_nz, *]; done))
        rw [od_r1] at h57
        first | rw [show -((lev (pN 0 (k + 1) z) b).toInt64 - (f k).toInt64) = abL (lev (pN 0 (k + 1) z) b) (f k) from (if_pos h57).symm] | rw [show (lev (pN 0 (k + 1) z) b).toInt64 - (f k).toInt64 = abL (lev (pN 0 (k + 1) z) b) (f k) from (if_neg h57).symm]
        refine r_go 4 rfl ?_ ?_
        · (first | exact trivial | assumption | (simp (disch := omega) [ab_all, ab_nz, *]; done))
        refine r_le rfl (fun h77 => ?_) (fun h77 => ?_)
        · skip
          refine r_go 6 rfl ?_ ?_
          · (first | exact trivial | assumption | (simp (disch := omega) [ab_all, ab_nz, *]; done))
          rw [nI_add]
          rw [od_r2] at h77
          have es : ofN f b z (k + 1) = ofN f b z k + od (f k) (lev (pN 0 (k + 1) z) b) := rfl
          have K := ih (k + 1) i2 (by omega) (by omega) s2' (by rw [f2 218 (by decide) (by decide) (by decide) (by decide)]; exact h13) (by rw [f2 221 (by decide) (by decide) (by decide) (by decide)]; exact hp) o2
          rw [es, od_c] at K
          first | (rw [← od_r4 h77] at K; exact r_lk K rfl) | (rw [← od_r3 h77] at K; exact r_lk K rfl)
        · skip
          refine r_go 6 rfl ?_ ?_
          · (first | exact trivial | assumption | (simp (disch := omega) [ab_all, ab_nz, *]; done))
          rw [nI_add]
          rw [od_r2] at h77
          have es : ofN f b z (k + 1) = ofN f b z k + od (f k) (lev (pN 0 (k + 1) z) b) := rfl
          have K := ih (k + 1) i2 (by omega) (by omega) s2' (by rw [f2 218 (by decide) (by decide) (by decide) (by decide)]; exact h13) (by rw [f2 221 (by decide) (by decide) (by decide) (by decide)]; exact hp) o2
          rw [es, od_c] at K
          first | (rw [← od_r4 h77] at K; exact r_lk K rfl) | (rw [← od_r3 h77] at K; exact r_lk K rfl)
theorem m_offBy {i : ab_I} {z f : Vc} (hs : i 219 = z) (hz : InT z) (hX : InXs z) (h13 : i 218 13 = (-1)) (b j n : Nat) (hb : b < nB z) (hj : j < 4) (hn : n ≤ 24) (e9 : i 229 j = nI n) (e0 : ∀ k, i 230 (24 * j + k) = f k) : ab_K 8 240 [.ref 218, .int (nI b), .int (nI j)] i (fun v i' => v = some (.int (ofN f b z n)) ∧ i' 219 = z ∧ i' 218 13 = (-1) ∧ fo i i') := by
  refine k_of rfl ?_
  refine r_go 4 rfl ?_ ?_
  · (simp only [ab_all, gr_218_0, gr_218_2] <;> decide)
  rw [gr_218_0, gr_218_2]
  refine r_cn rfl trivial ((m_carry gt_219 gt_221 (by decide))) (by decide) ?_
  refine r_go 4 rfl ?_ ?_
  · (first | exact trivial | assumption | (simp (disch := omega) [ab_all, ab_nz, *]; done))
  have f1 : fo i (ab_row i 221 (cy (i 219) (i 221))) := fo_r1
  refine r_mono (r_lk (mof_loop (i0 := ab_row i 221 (cy (i 219) (i 221))) (o := i 221) hz hX hb hj hn ((ab_row_ne (by decide)).trans e9) (fun k => (ab_row_ne (by decide)).trans (e0 k)) (n + 1) 0 _ (by omega) (by omega) ((funext (fun _ => ab_row_ne (by decide))).trans hs) ((ab_row_ne (by decide)).trans h13) (by rw [row_s, hs]) fo_rf) rfl) ?_
  rintro v k ⟨rfl, s1, t1, g1⟩
  exact ⟨rfl, s1, t1, fo_tr f1 g1⟩
theorem lk_b {m : ab_I} {x y : Int32} (c : Nat) (hc : c = (if okB (m 219) x then lkN m y else 1)) : c = 0 ∨ c = 1 ∨ c = 2 := by
  have := lk_c (m := m) (x := y)
  rw [hc]
  split
  · exact this
  · exact Or.inr (Or.inl rfl)
theorem mo_rest {i m : ab_I} (hm : mo i m) (hJ : InM m) (h13 : i 218 13 = (-1)) {x y : Int32} (c : Nat) (hc : c = (if okB (m 219) x then lkN m y else 1)) : ab_R 9 tb_X11_off 18 [some (.ref 218), some (.int x), some (.int y), some (.int (nI c))] [] i (rfQ i (S_off x y m)) := by
  (have hI := hJ.1.1; have hX := InS_X hJ.1; have hs := hm.1)
  have lc := lk_b c hc
  have b6 := hI.1.2
  refine r_go 1 rfl ?_ ?_
  · (first | exact trivial | assumption | (simp (disch := omega) [ab_all, ab_nz, *]; done))
  refine r_le rfl (fun h19 => ?_) (fun h19 => ?_)
  · skip
    refine r_go 3 rfl ?_ ?_
    · (first | exact trivial | assumption | (simp (disch := omega) [ab_all, ab_nz, *]; done))
    have hc0 : c = 0 := by
        rw [nI_ltI (by decide) (by omega)] at h19
        omega
    have hxb : okB (m 219) x := Classical.byContradiction (fun z => by rw [if_neg z] at hc; omega)
    rw [if_pos hxb, hc0] at hc
    obtain ⟨z1, z2⟩ := lk_0 hc.symm
    have hP : S_off x y m = _ := (if_pos ⟨hxb, z1⟩).trans (if_neg z2)
    obtain ⟨b, hb, rfl⟩ := of_rg hxb
    obtain ⟨j, hj, rfl⟩ := of_s z1
    rw [nI_cl (by omega), nI_cl (by omega)] at hP
    obtain ⟨_, n, hn, en⟩ := hJ.2.2.1 j hj
    have en2 : shn m j = n := by unfold shn; rw [en, nI_cl (by omega)]
    rw [en2] at hP
    refine r_c rfl rfl ((m_offBy (f := shf m j) hs hI hX h13 b j n hb hj hn (by rw [hm.2.2.2.2.2.1]; exact en) (fun k => by rw [hm.2.2.2.2.2.2.1]; rfl))) (by decide) ?_
    rintro v i1 ⟨rfl, s1, t1, f1⟩
    refine r_ret rfl trivial ?_
    first | exact rf_to hP (rf_fo hm f1 s1 t1) | (by_cases hxb : okB (m 219) x; rw [if_pos hxb] at hc; rcases lc with z | z | z; exact absurd z hc0; rw [z] at hc; rw [z]; exact rf_to (if_neg (fun q => lk_1 hc.symm q.2)) (rf_er hm h13); rw [z] at hc; rw [z]; exact rf_to ((if_pos ⟨hxb, (lk_2 hc.symm).1⟩).trans (if_pos (lk_2 hc.symm).2)) (rf_er hm h13); rw [if_neg hxb] at hc; rw [hc]; exact rf_to (if_neg (fun q => hxb q.1)) (rf_er hm h13))
  · skip
    refine r_go 2 rfl ?_ ?_
    · (first | exact trivial | assumption | (simp (disch := omega) [ab_all, ab_nz, *]; done))
    have hc0 : ¬ c = 0 := fun z => by rw [z] at h19; exact absurd h19 (by decide)
    refine r_cv rfl rfl ((m_error c (by omega))) (by decide) ?_
    refine r_go 1 rfl ?_ ?_
    · (first | exact trivial | assumption | (simp (disch := omega) [ab_all, ab_nz, *]; done))
    refine r_ret rfl trivial ?_
    first | exact rf_to hP (rf_fo hm f1 s1 t1) | (by_cases hxb : okB (m 219) x; rw [if_pos hxb] at hc; rcases lc with z | z | z; exact absurd z hc0; rw [z] at hc; rw [z]; exact rf_to (if_neg (fun q => lk_1 hc.symm q.2)) (rf_er hm h13); rw [z] at hc; rw [z]; exact rf_to ((if_pos ⟨hxb, (lk_2 hc.symm).1⟩).trans (if_pos (lk_2 hc.symm).2)) (rf_er hm h13); rw [if_neg hxb] at hc; rw [hc]; exact rf_to (if_neg (fun q => hxb q.1)) (rf_er hm h13))
theorem m_off {i m : ab_I} (hm : mo i m) (hJ : InM m) (h13 : i 218 13 = (-1)) (x y : Int32) : ab_K 9 241 [.ref 218, .int x, .int y] i (rfQ i (S_off x y m)) := by
  (have hI := hJ.1.1; have hX := InS_X hJ.1; have hs := hm.1)
  refine k_of rfl ?_
  refine r_go 2 rfl ?_ ?_
  · (first | exact trivial | assumption | (simp (disch := omega) [ab_all, ab_nz, *]; done))
  refine r_cv rfl rfl ((m_isB x hs hI)) (by decide) ?_
  refine r_bE rfl (fun h5 => ?_) (fun h5 => ?_)
  · skip
    refine r_go 2 rfl ?_ ?_
    · (first | exact trivial | assumption | (simp (disch := omega) [ab_all, ab_nz, *]; done))
    first | exact mo_rest hm hJ h13 (lkN m y) (if_pos h5).symm | exact mo_rest hm hJ h13 1 (if_neg h5).symm
  · skip
    refine r_go 2 rfl ?_ ?_
    · (first | exact trivial | assumption | (simp (disch := omega) [ab_all, ab_nz, *]; done))
    refine r_cv rfl rfl ((m_lacks hm y)) (by decide) ?_
    refine r_go 2 rfl ?_ ?_
    · (first | exact trivial | assumption | (simp (disch := omega) [ab_all, ab_nz, *]; done))
    first | exact mo_rest hm hJ h13 (lkN m y) (if_pos h5).symm | exact mo_rest hm hJ h13 1 (if_neg h5).symm
theorem up_up {s : Vc} {k : Nat} {x y : Int32} : upd (upd s k x) k y = upd s k y := by
  funext j
  unfold upd
  by_cases h : j = k <;> simp [h]
def rnR (O : Nat → Int32) (c : Nat) : Int32 × Int32 := if c = 0 then (nI 0, nI 0) else rnC O c
theorem rnC_q {O : Nat → Int32} (hO : ∀ r, (O r).toInt ≤ 24000) : ∀ c, 1 ≤ c → ∃ q, q < c ∧ (rnC O c).1 = nI q
  | 0, h => absurd h (by decide)
  | c + 1, _ => by
    by_cases h0 : c = 0
    · subst h0
      refine ⟨0, by decide, ?_⟩
      have : rnC O 1 = (nI 0, O 0) := if_pos (by show O 0 < nI 2147483647; rw [Int32.lt_iff_toInt_lt, c_i (by decide)]; have := hO 0; omega)
      rw [this]
    · obtain ⟨q, hq, e⟩ := rnC_q hO c (by omega)
      have es : rnC O (c + 1) = if O c < (rnC O c).2 then (nI c, O c) else rnC O c := rfl
      rw [es]
      split
      · exact ⟨c, by omega, rfl⟩
      · exact ⟨q, by omega, e⟩
theorem rnR_0 {O : Nat → Int32} (hO : ∀ r, (O r).toInt ≤ 24000) : rnR O 1 = (nI 0, O 0) := (if_neg (show ¬ 1 = 0 by decide)).trans (show wgC (O 0) 0 (nI 0, nI 2147483647) = (nI 0, O 0) from if_pos (by show O 0 < nI 2147483647; rw [Int32.lt_iff_toInt_lt, c_i (by decide)]; have := hO 0; omega))
theorem rnR_s {O : Nat → Int32} {c : Nat} (h : c ≠ 0) : rnR O (c + 1) = if O c < (rnR O c).2 then (nI c, O c) else rnR O c := by
  unfold rnR
  rw [if_neg (by omega), if_neg h]
  rfl
theorem mrn_loop {i m : ab_I} (hm : mo i m) (hJ : InM m) (h13 : i 218 13 = (-1)) {b j n : Nat} (hb : b < nB (m 219)) (hj : j < 4) (hn : n ≤ 24) (en : m 229 j = nI n) (O : Nat → Int32) (hO : O = offR (shf m j) b n (m 219)) (mm r : Nat) (k : ab_I) (hmm : 10 - r < mm) (hr : r ≤ 10) (hs3 : ∃ x, k 219 = upd (m 219) 3 x) (hk13 : k 218 13 = (-1)) (hi : fo i k) : ab_R 9 tb_X11_rained 45 [some (.ref 218), some (.int (nI b)), some (.int (nI j)), none, some (.int (m 219 3)), some (.int (rnR O r).1), some (.int (rnR O r).2), some (.int (nI r)), none] [] k (rfQ i ((rnC O 10).1, m)) := by
  induction mm generalizing r k with
  | zero => exact absurd hmm (by omega)
  | succ mm ih =>
    have hI := hJ.1.1
    have hX := InS_X hJ.1
    have hB : ∀ q, (O q).toInt ≤ 24000 := fun q => by rw [hO]; have := (of_rg2 (f := shf m j) (b := b) (z := rnd q (m 219)) hn).2; unfold offR; omega
    obtain ⟨x3, e3⟩ := hs3
    refine r_go 2 rfl ?_ ?_
    · (first | exact trivial | assumption | (simp (disch := omega) [ab_all, ab_nz, *]; done))
    refine r_le rfl (fun h49 => ?_) (fun h49 => ?_)
    · skip
      refine r_go 6 rfl ?_ ?_
      · (simp only [ab_all, gr_218_0, nI_add]; repeat' (first | exact ix_219 (by omega) | rfl | decide | (unfold ab_nz; decide) | refine And.intro ?_ ?_))
      refine r_ret rfl trivial ?_
      have e : r = 10 := by clear hm hJ h13 hI hX hB hi hk13 e3 en hO; (simp (disch := omega) only [Int32.le_iff_toInt_le, Int32.lt_iff_toInt_lt, c_i, m1_i, m5_i, m33_i] at * <;> omega)
      subst e
      rw [gr_218_0, nI_cl (by decide), up_rowI e3, up_up, up_same (show m 219 3 = m 219 3 from rfl), show rnR O 10 = rnC O 10 from if_neg (by decide)]
      exact rf_fo hm (fo_tr hi fo_r9) row_s ((ab_row_ne (by decide)).trans hk13)
    · skip
      have hrl : r ≤ 9 := by clear hm hJ h13 hI hX hB hi hk13 e3 en hO; (simp (disch := omega) only [Int32.le_iff_toInt_le, Int32.lt_iff_toInt_lt, c_i, m1_i, m5_i, m33_i] at * <;> omega)
      have hZ := In_rnd (r := r) hI hrl
      refine r_go 8 rfl ?_ ?_
      · (simp only [ab_all, gr_218_0, nI_add]; repeat' (first | exact ix_219 (by omega) | rfl | decide | (unfold ab_nz; decide) | refine And.intro ?_ ?_))
      rw [gr_218_0, nI_cl (by decide), up_rowI e3, up_up, show upd (m 219) 3 (nI r) = rnd r (m 219) from rfl]
      have fr : fo i (ab_row k 219 (rnd r (m 219))) := fo_tr hi fo_r9
      refine r_c rfl rfl ((m_offBy (f := shf m j) row_s hZ.1 (InXs_rt hX hZ.2.2) ((ab_row_ne (by decide)).trans hk13) b j n (by rw [hZ.2.1.1]; exact hb) hj hn (by rw [fr.1 229 (by decide) (by decide) (by decide) (by decide) (by decide) (by decide), hm.2.2.2.2.2.1]; exact en) (fun q => by rw [fr.1 230 (by decide) (by decide) (by decide) (by decide) (by decide) (by decide), hm.2.2.2.2.2.2.1]; rfl))) (by decide) ?_
      rintro v i2 ⟨rfl, s2, t2, f2⟩
      have eO : ofN (shf m j) b (rnd r (m 219)) n = O r := by rw [hO]; rfl
      rw [eO]
      refine r_go 2 rfl ?_ ?_
      · (first | exact trivial | assumption | (simp (disch := omega) [ab_all, ab_nz, *]; done))
      refine r_br rfl (fun h70 => ?_) (fun h70 => ?_)
      · skip
        refine r_go 5 rfl ?_ ?_
        · (first | exact trivial | assumption | (simp (disch := omega) [ab_all, ab_nz, *]; done))
        refine r_ne rfl (fun h93 => ?_) (fun h93 => ?_)
        · skip
          refine r_go 4 rfl ?_ ?_
          · (first | exact trivial | assumption | (simp (disch := omega) [ab_all, ab_nz, *]; done))
          rw [nI_add]
          have K := ih (r + 1) i2 (by omega) (by omega) ⟨_, s2⟩ t2 (fo_tr fr f2)
          by_cases h0 : r = 0
          · subst h0
            rw [rnR_0 hB] at K
            first | exact r_lk K rfl | exact absurd rfl h70 | exact absurd rfl h93
          · have hn70 : ¬ nI r = nI 0 := fun z => h0 ((nI_eq (by omega) (by decide)).mp z)
            rw [rnR_s h0] at K
            first | exact absurd h70 hn70 | (obtain ⟨q, hq, eq⟩ := rnC_q hB r (by omega); have eq1 : (rnR O r).1 = nI q := (by unfold rnR; rw [if_neg h0]; exact eq); first | (rw [if_pos h77] at K; exact r_lk K rfl) | exact absurd rfl h93 | (rw [if_neg h77] at K; exact r_lk K rfl) | (exfalso; rw [eq1, nI_eq (by omega) (by omega)] at h93; omega))
        · skip
          refine r_go 5 rfl ?_ ?_
          · (first | exact trivial | assumption | (simp (disch := omega) [ab_all, ab_nz, *]; done))
          rw [nI_add]
          have K := ih (r + 1) i2 (by omega) (by omega) ⟨_, s2⟩ t2 (fo_tr fr f2)
          by_cases h0 : r = 0
          · subst h0
            rw [rnR_0 hB] at K
            first | exact r_lk K rfl | exact absurd rfl h70 | exact absurd rfl h93
          · have hn70 : ¬ nI r = nI 0 := fun z => h0 ((nI_eq (by omega) (by decide)).mp z)
            rw [rnR_s h0] at K
            first | exact absurd h70 hn70 | (obtain ⟨q, hq, eq⟩ := rnC_q hB r (by omega); have eq1 : (rnR O r).1 = nI q := (by unfold rnR; rw [if_neg h0]; exact eq); first | (rw [if_pos h77] at K; exact r_lk K rfl) | exact absurd rfl h93 | (rw [if_neg h77] at K; exact r_lk K rfl) | (exfalso; rw [eq1, nI_eq (by omega) (by omega)] at h93; omega))
      · skip
        refine r_go 2 rfl ?_ ?_
        · (first | exact trivial | assumption | (simp (disch := omega) [ab_all, ab_nz, *]; done))
        refine r_le rfl (fun h77 => ?_) (fun h77 => ?_)
        · skip
          refine r_go 4 rfl ?_ ?_
          · (first | exact trivial | assumption | (simp (disch := omega) [ab_all, ab_nz, *]; done))
          refine r_ne rfl (fun h93 => ?_) (fun h93 => ?_)
          · skip
            refine r_go 4 rfl ?_ ?_
            · (first | exact trivial | assumption | (simp (disch := omega) [ab_all, ab_nz, *]; done))
            rw [nI_add]
            have K := ih (r + 1) i2 (by omega) (by omega) ⟨_, s2⟩ t2 (fo_tr fr f2)
            by_cases h0 : r = 0
            · subst h0
              rw [rnR_0 hB] at K
              first | exact r_lk K rfl | exact absurd rfl h70 | exact absurd rfl h93
            · have hn70 : ¬ nI r = nI 0 := fun z => h0 ((nI_eq (by omega) (by decide)).mp z)
              rw [rnR_s h0] at K
              first | exact absurd h70 hn70 | (obtain ⟨q, hq, eq⟩ := rnC_q hB r (by omega); have eq1 : (rnR O r).1 = nI q := (by unfold rnR; rw [if_neg h0]; exact eq); first | (rw [if_pos h77] at K; exact r_lk K rfl) | exact absurd rfl h93 | (rw [if_neg h77] at K; exact r_lk K rfl) | (exfalso; rw [eq1, nI_eq (by omega) (by omega)] at h93; omega))
          · skip
            refine r_go 5 rfl ?_ ?_
            · (first | exact trivial | assumption | (simp (disch := omega) [ab_all, ab_nz, *]; done))
            rw [nI_add]
            have K := ih (r + 1) i2 (by omega) (by omega) ⟨_, s2⟩ t2 (fo_tr fr f2)
            by_cases h0 : r = 0
            · subst h0
              rw [rnR_0 hB] at K
              first | exact r_lk K rfl | exact absurd rfl h70 | exact absurd rfl h93
            · have hn70 : ¬ nI r = nI 0 := fun z => h0 ((nI_eq (by omega) (by decide)).mp z)
              rw [rnR_s h0] at K
              first | exact absurd h70 hn70 | (obtain ⟨q, hq, eq⟩ := rnC_q hB r (by omega); have eq1 : (rnR O r).1 = nI q := (by unfold rnR; rw [if_neg h0]; exact eq); first | (rw [if_pos h77] at K; exact r_lk K rfl) | exact absurd rfl h93 | (rw [if_neg h77] at K; exact r_lk K rfl) | (exfalso; rw [eq1, nI_eq (by omega) (by omega)] at h93; omega))
        · skip
          refine r_go 5 rfl ?_ ?_
          · (first | exact trivial | assumption | (simp (disch := omega) [ab_all, ab_nz, *]; done))
          refine r_ne rfl (fun h93 => ?_) (fun h93 => ?_)
          · skip
            refine r_go 4 rfl ?_ ?_
            · (first | exact trivial | assumption | (simp (disch := omega) [ab_all, ab_nz, *]; done))
            rw [nI_add]
            have K := ih (r + 1) i2 (by omega) (by omega) ⟨_, s2⟩ t2 (fo_tr fr f2)
            by_cases h0 : r = 0
            · subst h0
              rw [rnR_0 hB] at K
              first | exact r_lk K rfl | exact absurd rfl h70 | exact absurd rfl h93
            · have hn70 : ¬ nI r = nI 0 := fun z => h0 ((nI_eq (by omega) (by decide)).mp z)
              rw [rnR_s h0] at K
              first | exact absurd h70 hn70 | (obtain ⟨q, hq, eq⟩ := rnC_q hB r (by omega); have eq1 : (rnR O r).1 = nI q := (by unfold rnR; rw [if_neg h0]; exact eq); first | (rw [if_pos h77] at K; exact r_lk K rfl) | exact absurd rfl h93 | (rw [if_neg h77] at K; exact r_lk K rfl) | (exfalso; rw [eq1, nI_eq (by omega) (by omega)] at h93; omega))
          · skip
            refine r_go 5 rfl ?_ ?_
            · (first | exact trivial | assumption | (simp (disch := omega) [ab_all, ab_nz, *]; done))
            rw [nI_add]
            have K := ih (r + 1) i2 (by omega) (by omega) ⟨_, s2⟩ t2 (fo_tr fr f2)
            by_cases h0 : r = 0
            · subst h0
              rw [rnR_0 hB] at K
              first | exact r_lk K rfl | exact absurd rfl h70 | exact absurd rfl h93
            · have hn70 : ¬ nI r = nI 0 := fun z => h0 ((nI_eq (by omega) (by decide)).mp z)
              rw [rnR_s h0] at K
              first | exact absurd h70 hn70 | (obtain ⟨q, hq, eq⟩ := rnC_q hB r (by omega); have eq1 : (rnR O r).1 = nI q := (by unfold rnR; rw [if_neg h0]; exact eq); first | (rw [if_pos h77] at K; exact r_lk K rfl) | exact absurd rfl h93 | (rw [if_neg h77] at K; exact r_lk K rfl) | (exfalso; rw [eq1, nI_eq (by omega) (by omega)] at h93; omega))
theorem mr_rest {i m : ab_I} (hm : mo i m) (hJ : InM m) (h13 : i 218 13 = (-1)) {x y : Int32} (c : Nat) (hc : c = (if okB (m 219) x then lkN m y else 1)) : ab_R 9 tb_X11_rained 18 [some (.ref 218), some (.int x), some (.int y), some (.int (nI c)), none, none, none, none, none] [] i (rfQ i (S_rained x y m)) := by
  (have hI := hJ.1.1; have hX := InS_X hJ.1; have hs := hm.1)
  have lc := lk_b c hc
  have b6 := hI.1.2
  refine r_go 1 rfl ?_ ?_
  · (first | exact trivial | assumption | (simp (disch := omega) [ab_all, ab_nz, *]; done))
  refine r_le rfl (fun h19 => ?_) (fun h19 => ?_)
  · skip
    have hc0 : c = 0 := by
        rw [nI_ltI (by decide) (by omega)] at h19
        omega
    have hxb : okB (m 219) x := Classical.byContradiction (fun z => by rw [if_neg z] at hc; omega)
    rw [if_pos hxb, hc0] at hc
    obtain ⟨z1, z2⟩ := lk_0 hc.symm
    have hP : S_rained x y m = _ := (if_pos ⟨hxb, z1⟩).trans (if_neg z2)
    obtain ⟨b, hb, rfl⟩ := of_rg hxb
    obtain ⟨j, hj, rfl⟩ := of_s z1
    rw [nI_cl (by omega), nI_cl (by omega)] at hP
    obtain ⟨_, n, hn, en⟩ := hJ.2.2.1 j hj
    have en2 : shn m j = n := by unfold shn; rw [en, nI_cl (by omega)]
    rw [en2] at hP
    refine r_go 11 rfl ?_ ?_
    · (simp only [ab_all, gr_218_0, nI_add]; repeat' (first | exact ix_219 (by omega) | rfl | decide | (unfold ab_nz; decide) | refine And.intro ?_ ?_))
    rw [rowI hs, nI_cl (by decide)]
    refine r_mono (r_lk (mrn_loop (i := i) hm hJ h13 hb hj hn en _ rfl 11 0 i (by decide) (by decide) ⟨m 219 3, by rw [up_same rfl]; exact hs⟩ h13 fo_rf) rfl) (fun v k q => rf_to hP q)
  · skip
    refine r_go 2 rfl ?_ ?_
    · (first | exact trivial | assumption | (simp (disch := omega) [ab_all, ab_nz, *]; done))
    have hc0 : ¬ c = 0 := fun z => by rw [z] at h19; exact absurd h19 (by decide)
    refine r_cv rfl rfl ((m_error c (by omega))) (by decide) ?_
    refine r_ret rfl trivial ?_
    by_cases hxb : okB (m 219) x
    · rw [if_pos hxb] at hc
      rcases lc with z | z | z
      · exact absurd z hc0
      · rw [z] at hc
        rw [z]
        exact rf_to (if_neg (fun q => lk_1 hc.symm q.2)) (rf_er hm h13)
      · rw [z] at hc
        rw [z]
        exact rf_to ((if_pos ⟨hxb, (lk_2 hc.symm).1⟩).trans (if_pos (lk_2 hc.symm).2)) (rf_er hm h13)
    · rw [if_neg hxb] at hc
      rw [hc]
      exact rf_to (if_neg (fun q => hxb q.1)) (rf_er hm h13)
theorem m_rained {i m : ab_I} (hm : mo i m) (hJ : InM m) (h13 : i 218 13 = (-1)) (x y : Int32) : ab_K 9 242 [.ref 218, .int x, .int y] i (rfQ i (S_rained x y m)) := by
  (have hI := hJ.1.1; have hX := InS_X hJ.1; have hs := hm.1)
  refine k_of rfl ?_
  refine r_go 2 rfl ?_ ?_
  · (first | exact trivial | assumption | (simp (disch := omega) [ab_all, ab_nz, *]; done))
  refine r_cv rfl rfl ((m_isB x hs hI)) (by decide) ?_
  refine r_bE rfl (fun h5 => ?_) (fun h5 => ?_)
  · skip
    refine r_go 2 rfl ?_ ?_
    · (first | exact trivial | assumption | (simp (disch := omega) [ab_all, ab_nz, *]; done))
    first | exact mr_rest hm hJ h13 (lkN m y) (if_pos h5).symm | exact mr_rest hm hJ h13 1 (if_neg h5).symm
  · skip
    refine r_go 2 rfl ?_ ?_
    · (first | exact trivial | assumption | (simp (disch := omega) [ab_all, ab_nz, *]; done))
    refine r_cv rfl rfl ((m_lacks hm y)) (by decide) ?_
    refine r_go 2 rfl ?_ ?_
    · (first | exact trivial | assumption | (simp (disch := omega) [ab_all, ab_nz, *]; done))
    first | exact mr_rest hm hJ h13 (lkN m y) (if_pos h5).symm | exact mr_rest hm hJ h13 1 (if_neg h5).symm
