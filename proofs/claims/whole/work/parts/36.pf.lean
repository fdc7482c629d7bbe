/-! hours go by -/
theorem InXs_rt {s z : Vc} (h : InXs s) (hz : rt s z) : InXs z := ⟨InX_e (by decide) h.1 (fun k a b => hz k (by omega)), InX_e (by decide) h.2 (fun k a b => hz k (by omega))⟩
theorem LwsR_rt {s z : Vc} {i j : ab_I} (h : LwsR s i) (hX : InXs s) (hz : rt s z) (e : ∀ q, q = 24 ∨ q = 25 ∨ q = 28 ∨ q = 29 → j q = i q) : LwsR z j :=
  ⟨LwR_s (RoR_far h.1 (e _ (by omega)) (e _ (by omega))) (by decide) (fun k a b => hz k (by omega)) hX.1.2.1, LwR_s (RoR_far h.2 (e _ (by omega)) (e _ (by omega))) (by decide) (fun k a b => hz k (by omega)) hX.2.2.1⟩
theorem k_hr {t : Nat} {s : Vc} {i : ab_I} (mv : Int32) (ht : isT t) (hI : InT s) (hX : InXs s) (hR : TwR t s i) (hL : LwsR s i) :
    ab_K 4 97 [.ref t, .ref 23, .int (-1), .int mv] i (fun v i' => v = none ∧ TwR t (hour 6 (nI 0) s) i' ∧ frT t i i') := k_goBy (mb := 6) (mw := nI 0) (mv := mv) ht hI hX (by decide) (fun h => absurd h (by decide)) hR hL
theorem m_hr {i : ab_I} {s : Vc} (hs : i 219 = s) (hI : InT s) (hX : InXs s) (h13 : i 218 13 = (-1)) :
    ab_K 7 201 [.ref 218] i (fun v i' => v = none ∧ i' 219 = hour 6 (nI 0) s ∧ fh i i') := m_hour (mb := 6) (mw := nI 0) hs hI hX (by decide) h13 (fun h => absurd h (by decide))
theorem ush_rg (x : Int32) : rg (ush8 x) 0 16777215 := by
  have h := pk_ushr x (nI 8) 8 (by decide)
  have hb : x.toBitVec.toNat < 4294967296 := x.toBitVec.isLt
  unfold rg ush8
  have e : ((x.toUInt32 >>> ((nI 8).toUInt32 &&& Int32.toUInt32 31)).toInt32).toInt = (x.toBitVec.toNat / 2 ^ 8 : Nat) := by
    show ((x.toUInt32 >>> ((nI 8).toUInt32 &&& Int32.toUInt32 31)).toInt32).toBitVec.toInt = _
    rw [BitVec.toInt_eq_toNat_of_lt (by rw [h]; omega), h]
  rw [e]
  omega
theorem rem_rg {y : Int32} (h : 0 ≤ y.toInt) : rg (rem10 y) 0 9 := by
  have hb := Int32.toInt_lt y
  have e1 : (y / nI 10).toInt = y.toInt / 10 := dv_i h (by decide)
  have e2 : (y / nI 10 * nI 10).toInt = y.toInt / 10 * 10 := by rw [mu_i (by rw [e1, c_i (by decide)]; omega) (by rw [e1, c_i (by decide)]; omega), e1, c_i (by decide)]; rfl
  unfold rg rem10
  rw [su_i (by omega) (by omega), e2]
  omega
theorem In_drawR {s : Vc} (h : InT s) : InT (drawR s) ∧ sN s (drawR s) ∧ rt s (drawR s) := by
  refine ⟨InT_k (InT_k h (by omega)) ?_, sN_up (sN_up ⟨rfl, rfl⟩ (by decide)) (by decide), rt_up (rt_up rt_rf (by omega)) (by omega)⟩
  have := rem_rg (ush_rg (draw s 7)).1
  simp [this]
def pN (w : Nat) : Nat → Vc → Vc
  | 0, s => s
  | n + 1, s => hour 6 (nI 0) (if w = 0 then pN w n s else drawR (pN w n s))
theorem goN_p {n : Nat} {s : Vc} : pN 0 n s = goN n s := by
  induction n with
  | zero => rfl
  | succ n ih =>
    show hour 6 (nI 0) (if 0 = 0 then pN 0 n s else drawR (pN 0 n s)) = hour 6 (nI 0) (goN n s)
    rw [if_pos rfl, ih]
theorem In_pN {w n : Nat} {s : Vc} (h : InT s) : InT (pN w n s) ∧ sN s (pN w n s) ∧ rt s (pN w n s) := by
  induction n with
  | zero => exact ⟨h, ⟨rfl, rfl⟩, rt_rf⟩
  | succ n ih =>
    obtain ⟨a, b, c⟩ := ih
    show InT (hour 6 (nI 0) (if w = 0 then pN w n s else drawR (pN w n s))) ∧ sN s (hour 6 (nI 0) (if w = 0 then pN w n s else drawR (pN w n s))) ∧ rt s (hour 6 (nI 0) (if w = 0 then pN w n s else drawR (pN w n s)))
    by_cases e : w = 0
    · rw [if_pos e]
      exact ⟨(In_hour a).1, sN_tr b (In_hour a).2, rt_tr c (rt_kp (kp_hour a))⟩
    · rw [if_neg e]
      have d := In_drawR a
      exact ⟨(In_hour d.1).1, sN_tr (sN_tr b d.2.1) (In_hour d.1).2, rt_tr (rt_tr c d.2.2) (rt_kp (kp_hour d.1))⟩
theorem k_drawR {t : Nat} {s : Vc} {i : ab_I} (ht : isT t) (hR : TwR t s i) : ab_K 0 100 [.ref t] i (fun v i' => v = none ∧ TwR t (drawR s) i' ∧ frT t i i') := by
  have g0 := tg_t ht
  refine k_of rfl ?_
  refine r_go 16 rfl ?_ ?_
  · (simp only [ab_all, g0, and_self]; simp [ab_nz]; try decide)
  refine r_ret rfl trivial ?_
  rw [up_us, show i t 7 = s 7 from hR.1.2.2.2.2.2]
  refine ⟨rfl, ?_, frT_up (frT_up frT_rf (by omega)) (by omega)⟩
  have h1 : TwR t (draw s) (ab_up i t 7 (s 7 * nI 1103515245 + nI 12345)) := TwR_c hR (by omega)
  have e : draw s 7 = s 7 * nI 1103515245 + nI 12345 := pk_us
  have h2 := TwR_c (k := 3) (f := 4) (x := rem10 (ush8 (draw s 7))) h1 (by omega)
  rw [e] at h2
  unfold drawR
  rw [e]
  exact h2
def S_pass (w : Nat) (n : Int32) (m : ab_I) : Int32 × ab_I := if nI 1 ≤ n ∧ n ≤ nI 48 then (if ¬ nI 9999 < m 219 2 + n then (pains (pN w n.toNatClampNeg (m 219)), ab_row m 219 (pN w n.toNatClampNeg (m 219))) else er m 3) else er m 1
theorem of_bt1 {x : Int32} {n : Nat} (hn : n < 2147483648) (h : nI 1 ≤ x ∧ x ≤ nI n) : ∃ b, 1 ≤ b ∧ b ≤ n ∧ x = nI b := by
  have h1 : 1 ≤ x.toInt ∧ x.toInt ≤ n := by (simp (disch := omega) only [Int32.le_iff_toInt_le, Int32.lt_iff_toInt_lt, c_i, m1_i, m5_i, m33_i] at * <;> omega)
  exact ⟨x.toNatClampNeg, by rw [tn_i]; omega, by rw [tn_i]; omega, tn_of (by omega)⟩
theorem ph_loop {w N : Nat} {s : Vc} {i0 : ab_I} (hw : w < 2) (hN : N ≤ 48) (hI : InT s) (hX : InXs s) (hL0 : LwsR s i0) (mm c : Nat) (i : ab_I) (hmm : N - c < mm) (hc : c ≤ N) (hR : TwR 2 (pN w c s) i) (hi : frT 2 i0 i) : ab_R 5 tb_X10_passHours 42 [some (.ref 0), some (.int (nI N)), some (.int (nI w)), some (.int (nI c))] [] i (fun v i' => v = some (.int (pains (pN w N s))) ∧ TwR 2 (pN w N s) i' ∧ frT 2 i0 i') := by
  induction mm generalizing c i with
  | zero => exact absurd hmm (by omega)
  | succ mm ih =>
    have hP := In_pN (w := w) (n := c) hI
    have hX1 := InXs_rt hX hP.2.2
    have hL1 : LwsR (pN w c s) i := LwsR_rt hL0 hX hP.2.2 (fun q hq => hi q (by omega) (by omega) (by omega))
    refine r_go 2 rfl ?_ ?_
    · (first | exact trivial | (simp only [ab_all] <;> decide))
    refine r_le rfl (fun h44 => ?_) (fun h44 => ?_)
    · skip
      refine r_go 6 rfl ?_ ?_
      · (first | exact trivial | (simp only [ab_all] <;> decide))
      simp only [gr_0_0, gr_0_1, gr_0_3, gr_0_4, gr_0_5, gr_0_6, gr_0_7, gr_1_0, gr_1_1, gr_1_2, gr_1_3, gr_1_4, gr_35_0, gr_35_1, gr_35_2, gr_35_3, gr_35_4]
      have e : c = N := by clear hI hX hL0 hR hi hP hX1 hL1; (simp (disch := omega) only [Int32.le_iff_toInt_le, Int32.lt_iff_toInt_lt, c_i, m1_i, m5_i, m33_i] at * <;> omega)
      subst e
      refine r_c rfl rfl ((k_pains isT_2 hP.1 hX1 hR hL1)) (by decide) ?_
      rintro v i1 ⟨rfl, f1⟩
      refine r_ret rfl trivial ?_
      exact ⟨rfl, TwR_far hR hP.1.1.2 hP.1.2.1.2 (fun q a b => f1 q (by omega) (by omega)), frT_sl hi f1⟩
    · skip
      refine r_go 1 rfl ?_ ?_
      · (first | exact trivial | (simp only [ab_all] <;> decide))
      have hcl : c < N := by clear hI hX hL0 hR hi hP hX1 hL1; (simp (disch := omega) only [Int32.le_iff_toInt_le, Int32.lt_iff_toInt_lt, c_i, m1_i, m5_i, m33_i] at * <;> omega)
      refine r_br rfl (fun h48 => ?_) (fun h48 => ?_)
      · skip
        refine r_go 8 rfl ?_ ?_
        · (first | exact trivial | (simp only [ab_all] <;> decide))
        simp only [gr_0_0, gr_0_1, gr_0_3, gr_0_4, gr_0_5, gr_0_6, gr_0_7, gr_1_0, gr_1_1, gr_1_2, gr_1_3, gr_1_4, gr_35_0, gr_35_1, gr_35_2, gr_35_3, gr_35_4]
        refine r_c rfl rfl ((by first | exact k_hr (nI 2) isT_2 hD.1 (InXs_rt hX1 hD.2.2) R1 (LwsR_rt hL1 hX1 hD.2.2 (fun q hq => f1 q (by omega) (by omega) (by omega))) | exact k_hr (nI 2) isT_2 hP.1 hX1 hR hL1)) (by decide) ?_
        rintro v i2 ⟨rfl, R2, f2⟩
        refine r_go 2 rfl ?_ ?_
        · (first | exact trivial | (simp only [ab_all] <;> decide))
        rw [nI_add]
        first | (rw [← e1] at R2; exact r_lk (ih (c + 1) i2 (by omega) (by omega) R2 (frT_tr hi (frT_tr f1 f2))) rfl) | (have hw0 : w = 0 := (nI_eq (by omega) (by omega)).mp h48; have e2 : pN w (c + 1) s = hour 6 (nI 0) (pN w c s) := (by show hour 6 (nI 0) (if w = 0 then pN w c s else drawR (pN w c s)) = _; rw [if_pos hw0]); rw [← e2] at R2; exact r_lk (ih (c + 1) i2 (by omega) (by omega) R2 (frT_tr hi f2)) rfl)
      · skip
        refine r_go 3 rfl ?_ ?_
        · (first | exact trivial | (simp only [ab_all] <;> decide))
        simp only [gr_0_0, gr_0_1, gr_0_3, gr_0_4, gr_0_5, gr_0_6, gr_0_7, gr_1_0, gr_1_1, gr_1_2, gr_1_3, gr_1_4, gr_35_0, gr_35_1, gr_35_2, gr_35_3, gr_35_4]
        have hw1 : ¬ w = 0 := fun z => h48 (by rw [z])
        refine r_c rfl rfl ((k_drawR isT_2 hR)) (by decide) ?_
        rintro v i1 ⟨rfl, R1, f1⟩
        have hD := In_drawR hP.1
        have e1 : pN w (c + 1) s = hour 6 (nI 0) (drawR (pN w c s)) := by
            show hour 6 (nI 0) (if w = 0 then pN w c s else drawR (pN w c s)) = _
            rw [if_neg hw1]
        refine r_go 8 rfl ?_ ?_
        · (first | exact trivial | (simp only [ab_all] <;> decide))
        simp only [gr_0_0, gr_0_1, gr_0_3, gr_0_4, gr_0_5, gr_0_6, gr_0_7, gr_1_0, gr_1_1, gr_1_2, gr_1_3, gr_1_4, gr_35_0, gr_35_1, gr_35_2, gr_35_3, gr_35_4]
        refine r_c rfl rfl ((by first | exact k_hr (nI 2) isT_2 hD.1 (InXs_rt hX1 hD.2.2) R1 (LwsR_rt hL1 hX1 hD.2.2 (fun q hq => f1 q (by omega) (by omega) (by omega))) | exact k_hr (nI 2) isT_2 hP.1 hX1 hR hL1)) (by decide) ?_
        rintro v i2 ⟨rfl, R2, f2⟩
        refine r_go 2 rfl ?_ ?_
        · (first | exact trivial | (simp only [ab_all] <;> decide))
        rw [nI_add]
        first | (rw [← e1] at R2; exact r_lk (ih (c + 1) i2 (by omega) (by omega) R2 (frT_tr hi (frT_tr f1 f2))) rfl) | (have hw0 : w = 0 := (nI_eq (by omega) (by omega)).mp h48; have e2 : pN w (c + 1) s = hour 6 (nI 0) (pN w c s) := (by show hour 6 (nI 0) (if w = 0 then pN w c s else drawR (pN w c s)) = _; rw [if_pos hw0]); rw [← e2] at R2; exact r_lk (ih (c + 1) i2 (by omega) (by omega) R2 (frT_tr hi f2)) rfl)
theorem c_pass {i m : ab_I} (hC : ClsR i m) (hJ : InM m) (w : Nat) (hw : w < 2) (n : Int32) : ab_K 5 148 [.ref 0, .int n, .int (nI w)] i (clQ i (S_pass w n m)) := by
  (have hI := hJ.1.1; have hX := InS_X hJ.1; have hT := hC.1.1; have hLw : LwsR (m 219) i := ⟨hC.1.2.1, hC.1.2.2.1⟩; have hE := hC.2.2.2.2.1.1)
  refine k_of rfl ?_
  refine r_go 3 rfl ?_ ?_
  · (first | exact trivial | (simp only [ab_all] <;> decide))
  refine r_cv rfl trivial ((k_within _ _ _)) (by decide) ?_
  refine r_bN rfl (fun h7 => ?_) (fun h7 => ?_)
  · skip
    refine r_go 7 rfl ?_ ?_
    · (first | exact trivial | (simp only [ab_all] <;> decide))
    simp only [gr_0_0, gr_0_1, gr_0_3, gr_0_4, gr_0_5, gr_0_6, gr_0_7, gr_1_0, gr_1_1, gr_1_2, gr_1_3, gr_1_4, gr_35_0, gr_35_1, gr_35_2, gr_35_3, gr_35_4]
    rw [show i 2 5 = m 219 2 from hT.1.2.2.2.1]
    refine r_le rfl (fun h31 => ?_) (fun h31 => ?_)
    · skip
      have hP : S_pass w n m = (pains (pN w n.toNatClampNeg (m 219)), ab_row m 219 (pN w n.toNatClampNeg (m 219))) := (if_pos h7).trans (if_pos h31)
      obtain ⟨c, hc1, hc, rfl⟩ := of_bt1 (by decide) h7
      rw [nI_cl (by omega)] at hP
      refine r_go 2 rfl ?_ ?_
      · (first | exact trivial | (simp only [ab_all] <;> decide))
      refine r_mono (ph_loop (i0 := i) hw hc hI hX hLw (c + 1) 0 i (by omega) (by omega) hT frT_rf) ?_
      rintro v j ⟨rfl, hR, hf⟩
      exact cl_to hP (cl_T hJ hC hR (In_pN hI).2.2 hf)
    · skip
      refine r_go 2 rfl ?_ ?_
      · (first | exact trivial | (simp only [ab_all] <;> decide))
      refine r_cv rfl rfl ((k_error 3 (by decide) (by decide) hE)) (by decide) ?_
      refine r_ret rfl trivial ?_
      exact cl_to ((if_pos h7).trans (if_neg (fun z => z h31))) (cl_er (by decide) (by decide) hJ hC)
  · skip
    refine r_go 2 rfl ?_ ?_
    · (first | exact trivial | (simp only [ab_all] <;> decide))
    refine r_cv rfl rfl ((k_error 1 (by decide) (by decide) hE)) (by decide) ?_
    refine r_ret rfl trivial ?_
    exact cl_to (if_neg h7) (cl_er (by decide) (by decide) hJ hC)
theorem c_hours {i m : ab_I} (hC : ClsR i m) (hJ : InM m) (n : Int32) : ab_K 6 122 [.ref 0, .int n] i (clQ i (S_pass 0 n m)) := by
  refine k_of rfl ?_
  refine r_go 3 rfl ?_ ?_
  · (first | exact trivial | assumption | (simp (disch := omega) [ab_all, ab_nz, *]; done))
  refine r_c rfl rfl ((c_pass hC hJ 0 (by decide) n)) (by decide) ?_
  rintro v j ⟨rfl, q1, q2⟩
  refine r_ret rfl trivial ?_
  exact ⟨rfl, q1, q2⟩
theorem c_wet {i m : ab_I} (hC : ClsR i m) (hJ : InM m) (n : Int32) : ab_K 6 123 [.ref 0, .int n] i (clQ i (S_pass 1 n m)) := by
  refine k_of rfl ?_
  refine r_go 3 rfl ?_ ?_
  · (first | exact trivial | assumption | (simp (disch := omega) [ab_all, ab_nz, *]; done))
  refine r_c rfl rfl ((c_pass hC hJ 1 (by decide) n)) (by decide) ?_
  rintro v j ⟨rfl, q1, q2⟩
  refine r_ret rfl trivial ?_
  exact ⟨rfl, q1, q2⟩
theorem mg_loop {N : Nat} {s : Vc} {i0 : ab_I} (hN : N ≤ 1000) (hI : InT s) (hX : InXs s) (h13 : i0 218 13 = (-1)) (mm c : Nat) (i : ab_I) (hmm : N - c < mm) (hc : c ≤ N) (hs : i 219 = pN 0 c s) (hi : fh i0 i) : ab_R 8 tb_X11_go 2 [some (.ref 218), some (.int (nI N)), some (.int (nI c))] [] i (fun v i' => v = none ∧ i' 219 = pN 0 N s ∧ fh i0 i') := by
  induction mm generalizing c i with
  | zero => exact absurd hmm (by omega)
  | succ mm ih =>
    have hP := In_pN (w := 0) (n := c) hI
    have hX1 := InXs_rt hX hP.2.2
    have e13 : i 218 13 = (-1) := by rw [hi 218 (by decide) (by decide) (by decide) (by decide)]; exact h13
    refine r_go 2 rfl ?_ ?_
    · (first | exact trivial | assumption | (simp (disch := omega) [ab_all, ab_nz, *]; done))
    refine r_le rfl (fun h4 => ?_) (fun h4 => ?_)
    · skip
      refine r_ret rfl trivial ?_
      have e : c = N := by clear hI hX hs hi hP hX1 e13 h13; (simp (disch := omega) only [Int32.le_iff_toInt_le, Int32.lt_iff_toInt_lt, c_i, m1_i, m5_i, m33_i] at * <;> omega)
      subst e
      exact ⟨rfl, hs, hi⟩
    · skip
      have hcl : c < N := by clear hI hX hs hi hP hX1 e13 h13; (simp (disch := omega) only [Int32.le_iff_toInt_le, Int32.lt_iff_toInt_lt, c_i, m1_i, m5_i, m33_i] at * <;> omega)
      refine r_go 1 rfl ?_ ?_
      · (first | exact trivial | assumption | (simp (disch := omega) [ab_all, ab_nz, *]; done))
      refine r_c rfl rfl ((m_hr hs hP.1 hX1 e13)) (by decide) ?_
      rintro v i2 ⟨rfl, R2, f2⟩
      refine r_go 2 rfl ?_ ?_
      · (first | exact trivial | assumption | (simp (disch := omega) [ab_all, ab_nz, *]; done))
      rw [nI_add]
      exact r_lk (ih (c + 1) i2 (by omega) (by omega) R2 (fh_tr hi f2)) rfl
theorem m_go {i : ab_I} {s : Vc} (N : Nat) (hN : N ≤ 1000) (hs : i 219 = s) (hI : InT s) (hX : InXs s) (h13 : i 218 13 = (-1)) : ab_K 8 202 [.ref 218, .int (nI N)] i (fun v i' => v = none ∧ i' 219 = pN 0 N s ∧ fh i i') := by
  refine k_of rfl ?_
  refine r_go 2 rfl ?_ ?_
  · (first | exact trivial | assumption | (simp (disch := omega) [ab_all, ab_nz, *]; done))
  exact mg_loop (i0 := i) hN hI hX h13 (N + 1) 0 i (by omega) (by omega) hs fh_rf
theorem m_draw {i : ab_I} {s : Vc} (hs : i 219 = s) : ab_K 0 204 [.ref 218] i (ab_V (.int (ush8 (draw s 7))) (ab_row i 219 (draw s))) := by
  refine k_of rfl ?_
  refine r_go 18 rfl ?_ ?_
  · (simp only [ab_all, gr_218_0, nI_add]; repeat' (first | exact ix_219 (by omega) | rfl | decide | (unfold ab_nz; decide) | refine And.intro ?_ ?_))
  refine r_ret rfl trivial ?_
  simp (disch := omega) only [gr_218_0, nI_cl, hs]
  rw [up_rowI hs]
  simp only [row_s]
  rw [pk_us, ← pk_us (f := s) (k := 7) (x := s 7 * nI 1103515245 + nI 12345)]
  exact ⟨rfl, by rw [pk_us]; rfl⟩
theorem mt_loop {N : Nat} {s : Vc} {i0 : ab_I} (hN : N ≤ 1000) (hI : InT s) (hX : InXs s) (h13 : i0 218 13 = (-1)) (mm c : Nat) (i : ab_I) (hmm : N - c < mm) (hc : c ≤ N) (hs : i 219 = pN 1 c s) (hi : fh i0 i) : ab_R 8 tb_X11_wet 38 [some (.ref 218), some (.int (nI N)), some (.int (nI c))] [] i (fun v i' => v = some (.int (pains (pN 1 N s))) ∧ i' 219 = pN 1 N s ∧ fh i0 i') := by
  induction mm generalizing c i with
  | zero => exact absurd hmm (by omega)
  | succ mm ih =>
    have hP := In_pN (w := 1) (n := c) hI
    have hX1 := InXs_rt hX hP.2.2
    have e13 : i 218 13 = (-1) := by rw [hi 218 (by decide) (by decide) (by decide) (by decide)]; exact h13
    refine r_go 2 rfl ?_ ?_
    · (first | exact trivial | assumption | (simp (disch := omega) [ab_all, ab_nz, *]; done))
    refine r_le rfl (fun h40 => ?_) (fun h40 => ?_)
    · skip
      have e : c = N := by clear hI hX hs hi hP hX1 e13 h13; (simp (disch := omega) only [Int32.le_iff_toInt_le, Int32.lt_iff_toInt_lt, c_i, m1_i, m5_i, m33_i] at * <;> omega)
      subst e
      refine r_go 1 rfl ?_ ?_
      · (first | exact trivial | assumption | (simp (disch := omega) [ab_all, ab_nz, *]; done))
      refine r_c rfl rfl ((m_pains hs hP.1 hX1)) (by decide) ?_
      rintro v i2 ⟨rfl, f2⟩
      refine r_ret rfl trivial ?_
      exact ⟨rfl, (f2 219 (by decide) (by decide)).trans hs, fh_tr hi (fh_sr f2)⟩
    · skip
      have hcl : c < N := by clear hI hX hs hi hP hX1 e13 h13; (simp (disch := omega) only [Int32.le_iff_toInt_le, Int32.lt_iff_toInt_lt, c_i, m1_i, m5_i, m33_i] at * <;> omega)
      have hD := In_drawR hP.1
      refine r_go 4 rfl ?_ ?_
      · (simp only [ab_all, gr_218_0, nI_add]; repeat' (first | exact ix_219 (by omega) | rfl | decide | (unfold ab_nz; decide) | refine And.intro ?_ ?_))
      refine r_cv rfl rfl ((m_draw hs)) (by decide) ?_
      refine r_go 4 rfl ?_ ?_
      · (simp only [ab_all, gr_218_0, nI_add]; repeat' (first | exact ix_219 (by omega) | rfl | decide | (unfold ab_nz; decide) | refine And.intro ?_ ?_))
      simp (disch := omega) only [gr_218_0, nI_cl]
      rw [row_up, show upd (draw (pN 1 c s)) 3 (ush8 (draw (pN 1 c s) 7) - ush8 (draw (pN 1 c s) 7) / nI 10 * nI 10) = drawR (pN 1 c s) from rfl]
      refine r_c rfl rfl ((m_hr row_s hD.1 (InXs_rt hX1 hD.2.2) ((ab_row_ne (by decide)).trans e13))) (by decide) ?_
      rintro v i2 ⟨rfl, R2, f2⟩
      refine r_go 2 rfl ?_ ?_
      · (first | exact trivial | assumption | (simp (disch := omega) [ab_all, ab_nz, *]; done))
      rw [nI_add]
      exact r_lk (ih (c + 1) i2 (by omega) (by omega) R2 (fh_tr hi (fh_tr fh_row f2))) rfl
theorem m_hours {i m : ab_I} (hm : mo i m) (hJ : InM m) (h13 : i 218 13 = (-1)) (n : Int32) : ab_K 9 203 [.ref 218, .int n] i (rfQ i (S_pass 0 n m)) := by
  (have hI := hJ.1.1; have hX := InS_X hJ.1; have hs := hm.1)
  refine k_of rfl ?_
  refine r_go 3 rfl ?_ ?_
  · (first | exact trivial | assumption | (simp (disch := omega) [ab_all, ab_nz, *]; done))
  refine r_cv rfl trivial ((m_in _ _ _)) (by decide) ?_
  refine r_bN rfl (fun h7 => ?_) (fun h7 => ?_)
  · skip
    refine r_go 7 rfl ?_ ?_
    · (simp only [ab_all, gr_218_0, nI_add]; repeat' (first | exact ix_219 (by omega) | rfl | decide | (unfold ab_nz; decide) | refine And.intro ?_ ?_))
    rw [rowI hs, nI_cl (by decide)]
    refine r_le rfl (fun h27 => ?_) (fun h27 => ?_)
    · skip
      have hP : S_pass 0 n m = (pains (pN 0 n.toNatClampNeg (m 219)), ab_row m 219 (pN 0 n.toNatClampNeg (m 219))) := (if_pos h7).trans (if_pos h27)
      obtain ⟨c, hc1, hc, rfl⟩ := of_bt1 (by decide) h7
      rw [nI_cl (by omega)] at hP
      have hPN := In_pN (w := 0) (n := c) hI
      refine r_go 2 rfl ?_ ?_
      · (first | exact trivial | assumption | (simp (disch := omega) [ab_all, ab_nz, *]; done))
      refine r_c rfl rfl ((m_go c (by omega) hs hI hX h13)) (by decide) ?_
      rintro v i1 ⟨rfl, hs1, f1⟩
      refine r_go 1 rfl ?_ ?_
      · (first | exact trivial | assumption | (simp (disch := omega) [ab_all, ab_nz, *]; done))
      refine r_c rfl rfl ((m_pains hs1 hPN.1 (InXs_rt hX hPN.2.2))) (by decide) ?_
      rintro v i2 ⟨rfl, f2⟩
      refine r_ret rfl trivial ?_
      exact rf_to hP (rf_fh hm h13 (fh_tr f1 (fh_sr f2)) ((f2 219 (by decide) (by decide)).trans hs1))
    · skip
      refine r_go 2 rfl ?_ ?_
      · (first | exact trivial | assumption | (simp (disch := omega) [ab_all, ab_nz, *]; done))
      refine r_cv rfl rfl ((m_error 3 (by decide))) (by decide) ?_
      refine r_ret rfl trivial ?_
      exact rf_to ((if_pos h7).trans (if_neg (fun z => z h27))) (rf_er hm h13)
  · skip
    refine r_go 2 rfl ?_ ?_
    · (first | exact trivial | assumption | (simp (disch := omega) [ab_all, ab_nz, *]; done))
    refine r_cv rfl rfl ((m_error 1 (by decide))) (by decide) ?_
    refine r_ret rfl trivial ?_
    exact rf_to (if_neg h7) (rf_er hm h13)
theorem m_wet {i m : ab_I} (hm : mo i m) (hJ : InM m) (h13 : i 218 13 = (-1)) (n : Int32) : ab_K 8 205 [.ref 218, .int n] i (rfQ i (S_pass 1 n m)) := by
  (have hI := hJ.1.1; have hX := InS_X hJ.1; have hs := hm.1)
  refine k_of rfl ?_
  refine r_go 3 rfl ?_ ?_
  · (first | exact trivial | assumption | (simp (disch := omega) [ab_all, ab_nz, *]; done))
  refine r_cv rfl trivial ((m_in _ _ _)) (by decide) ?_
  refine r_bN rfl (fun h7 => ?_) (fun h7 => ?_)
  · skip
    refine r_go 7 rfl ?_ ?_
    · (simp only [ab_all, gr_218_0, nI_add]; repeat' (first | exact ix_219 (by omega) | rfl | decide | (unfold ab_nz; decide) | refine And.intro ?_ ?_))
    rw [rowI hs, nI_cl (by decide)]
    refine r_le rfl (fun h27 => ?_) (fun h27 => ?_)
    · skip
      have hP : S_pass 1 n m = (pains (pN 1 n.toNatClampNeg (m 219)), ab_row m 219 (pN 1 n.toNatClampNeg (m 219))) := (if_pos h7).trans (if_pos h27)
      obtain ⟨c, hc1, hc, rfl⟩ := of_bt1 (by decide) h7
      rw [nI_cl (by omega)] at hP
      refine r_go 2 rfl ?_ ?_
      · (first | exact trivial | assumption | (simp (disch := omega) [ab_all, ab_nz, *]; done))
      refine r_mono (mt_loop (i0 := i) (show c ≤ 1000 by omega) hI hX h13 (c + 1) 0 i (by omega) (by omega) hs fh_rf) ?_
      rintro v j ⟨rfl, hz, hf⟩
      exact rf_to hP (rf_fh hm h13 hf hz)
    · skip
      refine r_go 2 rfl ?_ ?_
      · (first | exact trivial | assumption | (simp (disch := omega) [ab_all, ab_nz, *]; done))
      refine r_cv rfl rfl ((m_error 3 (by decide))) (by decide) ?_
      refine r_ret rfl trivial ?_
      exact rf_to ((if_pos h7).trans (if_neg (fun z => z h27))) (rf_er hm h13)
  · skip
    refine r_go 2 rfl ?_ ?_
    · (first | exact trivial | assumption | (simp (disch := omega) [ab_all, ab_nz, *]; done))
    refine r_cv rfl rfl ((m_error 1 (by decide))) (by decide) ?_
    refine r_ret rfl trivial ?_
    exact rf_to (if_neg h7) (rf_er hm h13)
theorem n_pass {m : ab_I} (hJ : InM m) (w : Nat) (n : Int32) : InM (S_pass w n m).2 := by
  unfold S_pass
  split
  · split
    · exact InM_T hJ (In_pN hJ.1.1).1 (In_pN hJ.1.1).2.2
    · exact InM_er hJ
  · exact InM_er hJ
