/-! an hour as a whole, the class's side -/
theorem k_turnT {t b : Nat} {z : Vc} {i : ab_I} {w : Int32} {W : Nat → Int32} (ht : isT t) (hR : TwR t z i) (hI : InT z) (hb : b < nB z) (hw : cmpI w (nI 0) = W b) :
    ab_K 1 17 [.ref (t + 2 + b), .int w] i (fun v i' => v = none ∧ TwR t (turn W b z) i' ∧ (∀ p, i' p 7 = i p 7) ∧ frT t i i') := by
  have b6 : b < 6 := by have := hI.1.2; omega
  refine k_mono (k_turnW w (tg_b ht b6)) ?_
  have e2 : i (t + 2 + b) 2 = bs z b 2 := hR.2.1 b hb 2 (by decide)
  have e3 : i (t + 2 + b) 3 = bs z b 3 := hR.2.1 b hb 3 (by decide)
  have e5 : i (t + 2 + b) 5 = bs z b 5 := hR.2.1 b hb 5 (by decide)
  have r5 : rg (bs z b 5) 0 1 := hI.2.2.2.2.1 b hb 5 (by decide)
  rintro v i' ⟨rfl, rfl⟩
  rw [e2, e3, e5, hw, mxmn (by decide)]
  by_cases h : bs z b 5 = nI 0
  · rw [if_pos h]
    refine ⟨rfl, ?_, fun p => up_ne (by omega), frT_up frT_rf (by omega)⟩
    unfold turn
    rw [if_neg (by rw [h]; decide)]
    exact TwR_B hR b6 (by decide)
  · rw [if_neg h]
    refine ⟨rfl, ?_, fun p => rfl, frT_rf⟩
    unfold turn
    rw [if_pos (by rw [eq_i] at h ⊢; unfold rg at r5; (simp (disch := omega) only [Int32.le_iff_toInt_le, Int32.lt_iff_toInt_lt, c_i, m1_i, m5_i, m33_i] at * <;> omega)), up_same (s := z) (k := 8 + 7 * b + 2) (x := bs z b 2) rfl]
    exact hR
theorem k_countT {t d : Nat} {z : Vc} {i : ab_I} (ht : isT t) (hR : TwR t z i) (hI : InT z) (hd : d < nD z) :
    ab_K 1 30 [.ref (t + 9 + d), .int (levAt z d)] i (fun v i' => v = none ∧ TwR t (suf d z) i' ∧ frT t i i') := by
  have d12 : d < 12 := by have := hI.2.1.2; omega
  have b6 := hI.1.2
  refine k_mono (k_count (levAt z d) (tg_d ht d12)) ?_
  have hD := hR.2.2 d hd
  have e1 : i (t + 9 + d) 1 = dr z d 1 := hD 1 (by decide)
  have e3 : i (t + 9 + d) 3 = dr z d 3 := hD 3 (by decide)
  have e6 : i (t + 9 + d) 6 = dr z d 6 := hD 6 (by decide)
  have e7 : i (t + 9 + d) 7 = dr z d 7 := hD 7 (by decide)
  have r6 : rg (dr z d 6) 0 99999 := (hI.2.2.2.2.2 d hd).2 6 (by decide) (by decide)
  have r7 : rg (dr z d 7) 0 99999 := (hI.2.2.2.2.2 d hd).2 7 (by decide) (by decide)
  rintro v i' ⟨rfl, rfl⟩
  have s6 : TwR t (suf6 d z) (cnt6 (t + 9 + d) (levAt z d) i) ∧ frT t i (cnt6 (t + 9 + d) (levAt z d) i) ∧ (∀ k, k ≠ 6 → cnt6 (t + 9 + d) (levAt z d) i (t + 9 + d) k = i (t + 9 + d) k) := by
    unfold cnt6 suf6
    rw [e3, e6]
    by_cases h : dr z d 3 < levAt z d
    · rw [if_pos h, bI_t h, mn_hl (by decide) (by unfold rg at r6; rw [ad_i (by (simp (disch := omega) only [Int32.le_iff_toInt_le, Int32.lt_iff_toInt_lt, c_i, m1_i, m5_i, m33_i] at * <;> omega)) (by (simp (disch := omega) only [Int32.le_iff_toInt_le, Int32.lt_iff_toInt_lt, c_i, m1_i, m5_i, m33_i] at * <;> omega))]; (simp (disch := omega) only [Int32.le_iff_toInt_le, Int32.lt_iff_toInt_lt, c_i, m1_i, m5_i, m33_i] at * <;> omega))]
      exact ⟨TwR_D hR b6 d12 (by decide), frT_up frT_rf (by omega), fun k hk => up_ne (by omega)⟩
    · rw [if_neg h, bI_f h, add_0, up_same]
      · exact ⟨hR, frT_rf, fun k _ => rfl⟩
      · unfold rg at r6
        unfold hl
        rw [if_neg (by clear hR hI hD; (simp (disch := omega) only [Int32.le_iff_toInt_le, Int32.lt_iff_toInt_lt, c_i, m1_i, m5_i, m33_i] at * <;> omega)), if_neg (by clear hR hI hD; (simp (disch := omega) only [Int32.le_iff_toInt_le, Int32.lt_iff_toInt_lt, c_i, m1_i, m5_i, m33_i] at * <;> omega))]
        rfl
  have n3 : dr (suf6 d z) d 3 = dr z d 3 := dr_up (by omega)
  have n1 : dr (suf6 d z) d 1 = dr z d 1 := dr_up (by omega)
  have n7 : dr (suf6 d z) d 7 = dr z d 7 := dr_up (by omega)
  have no : on (suf6 d z) d = on z d := on_up (by omega)
  have o6 := (on_lt hI hd).2.1
  have nl : levAt (suf6 d z) d = levAt z d := by
    unfold levAt lev
    rw [no]
    unfold suf6
    rw [bs_up (by omega), bs_up (by omega)]
  obtain ⟨S1, S2, S3⟩ := s6
  refine ⟨rfl, ?_, ?_⟩
  · unfold cnt7 suf suf7
    rw [S3 3 (by decide), S3 1 (by decide), S3 7 (by decide), e1, e3, e7, n1, n3, n7, nl]
    by_cases h : levAt z d < dr z d 3 - nI 10 - dr z d 1
    · rw [if_pos h, bI_t h, mn_hl (by decide) (by unfold rg at r7; rw [ad_i (by (simp (disch := omega) only [Int32.le_iff_toInt_le, Int32.lt_iff_toInt_lt, c_i, m1_i, m5_i, m33_i] at * <;> omega)) (by (simp (disch := omega) only [Int32.le_iff_toInt_le, Int32.lt_iff_toInt_lt, c_i, m1_i, m5_i, m33_i] at * <;> omega))]; (simp (disch := omega) only [Int32.le_iff_toInt_le, Int32.lt_iff_toInt_lt, c_i, m1_i, m5_i, m33_i] at * <;> omega))]
      exact TwR_D S1 (by rw [(In_suf6 hI d12 (s := z) ⟨rfl, rfl⟩).2.1]; exact b6) d12 (by decide)
    · rw [if_neg h, bI_f h, add_0, up_same]
      · exact S1
      · rw [show suf6 d z (50 + 8 * d + 7) = dr z d 7 from n7]
        unfold rg at r7
        unfold hl
        rw [if_neg (by clear hR hI hD S1 S2 S3; (simp (disch := omega) only [Int32.le_iff_toInt_le, Int32.lt_iff_toInt_lt, c_i, m1_i, m5_i, m33_i] at * <;> omega)), if_neg (by clear hR hI hD S1 S2 S3; (simp (disch := omega) only [Int32.le_iff_toInt_le, Int32.lt_iff_toInt_lt, c_i, m1_i, m5_i, m33_i] at * <;> omega))]
  · unfold cnt7
    split
    · exact frT_up S2 (by omega)
    · exact S2
theorem go_loop3 {t : Nat} {s : Vc} {i0 : ab_I} (ht : isT t) (hI : InT s) (m d : Nat) (i : ab_I) (hm : nD s - d < m) (hd : d ≤ nD s) (hR : TwR t (lp suf d s) i) (hi : frT t i0 i) : ab_R 4 tb_X8_goBy 80 [some (.ref t), none, none, none, some (.int (nI d)), none] [] i (fun v i' => v = none ∧ TwR t (tick (sufs s)) i' ∧ frT t i0 i') := by
  induction m generalizing d i with
  | zero => exact absurd hm (by omega)
  | succ m ih =>
    have g0 := tg_t ht
    have d12 := hI.2.1.2
    have hJ := In_lp (f := suf) (n := d) hI (fun b hb z hz hs => In_suf hz (by omega) hs)
    have t3 : i t 3 = nI (nD s) := by rw [hR.1.2.1, hJ.1.2.1.1, hJ.2.2]
    refine r_go 3 rfl ?_ ?_
    · (first | exact trivial | assumption | (simp (disch := omega) [ab_all, ab_nz, *]; done))
    rw [t3]
    refine r_le rfl (fun h86 => ?_) (fun h86 => ?_)
    · skip
      refine r_go 6 rfl ?_ ?_
      · (first | exact trivial | assumption | (simp (disch := omega) [ab_all, ab_nz, *]; done))
      refine r_ret rfl trivial ?_
      have e : d = nD s := by clear hJ hR hi; (simp (disch := omega) only [Int32.le_iff_toInt_le, Int32.lt_iff_toInt_lt, c_i, m1_i, m5_i, m33_i] at * <;> omega)
      subst e
      refine ⟨rfl, ?_, frT_up hi (by omega)⟩
      have e5 : i t 5 = lp suf (nD s) s 2 := hR.1.2.2.2.1
      rw [e5]
      exact TwR_c hR (by omega)
    · skip
      have hdl : d < nD s := by clear hJ hR hi; (simp (disch := omega) only [Int32.le_iff_toInt_le, Int32.lt_iff_toInt_lt, c_i, m1_i, m5_i, m33_i] at * <;> omega)
      have hdl' : d < nD (lp suf d s) := by rw [hJ.2.2]; exact hdl
      have gd := tg_d ht (show d < 12 by omega)
      have o6 := on_lt hJ.1 hdl'
      have d2 : i (t + 9 + d) 2 = nI (on (lp suf d s) d) := (hR.2.2 d hdl' 2 (by decide)).trans o6.2.2
      have gb := tg_b ht o6.2.1
      have b0 : i (t + 2 + on (lp suf d s) d) 0 = bs (lp suf d s) (on (lp suf d s) d) 1 := hR.2.1 _ o6.1 1 (by decide)
      have b1 : i (t + 2 + on (lp suf d s) d) 1 = bs (lp suf d s) (on (lp suf d s) d) 0 := hR.2.1 _ o6.1 0 (by decide)
      have ha : 0 < (i (t + 2 + on (lp suf d s) d) 0).toInt := by
        rw [b0]
        exact Int.lt_of_lt_of_le (by decide) (hJ.1.2.2.2.2.1 _ o6.1 1 (by decide)).1
      have el : i (t + 2 + on (lp suf d s) d) 1 / i (t + 2 + on (lp suf d s) d) 0 = levAt (lp suf d s) d := by rw [b0, b1]; rfl
      refine r_go 2 rfl ?_ ?_
      · (first | exact trivial | assumption | (simp (disch := omega) [ab_all, ab_nz, *]; done))
      refine r_cv rfl (by first | assumption | rfl) ((k_doorAt _ ht (by omega))) (by decide) ?_
      refine r_go 5 rfl ?_ ?_
      · (first | exact trivial | assumption | (simp (disch := omega) [ab_all, ab_nz, *]; done))
      rw [d2]
      refine r_cv rfl (by first | assumption | rfl) ((k_basinAt _ ht o6.2.1)) (by decide) ?_
      refine r_cv rfl (by first | assumption | rfl) ((k_level gb ha)) (by decide) ?_
      rw [el]
      refine r_c rfl (by first | assumption | rfl) ((k_countT ht hR hJ.1 hdl')) (by decide) ?_
      rintro v i' ⟨rfl, R1, f1⟩
      refine r_go 2 rfl ?_ ?_
      · (first | exact trivial | assumption | (simp (disch := omega) [ab_all, ab_nz, *]; done))
      rw [nI_add]
      exact r_lk (ih (d + 1) i' (by omega) (by omega) R1 (frT_tr hi f1)) rfl
theorem go_loop2 {t : Nat} {s : Vc} {i0 : ab_I} (ht : isT t) (hI : InT s) (m k : Nat) (i : ab_I) (hm : nB s - k < m) (hk : k ≤ nB s) (hR : TwR t (lp flow k s) i) (hi : frT t i0 i) : ab_R 4 tb_X8_goBy 56 [some (.ref t), none, none, none, some (.int (nI k)), none] [] i (fun v i' => v = none ∧ TwR t (tick (sufs (flows s))) i' ∧ frT t i0 i') := by
  induction m generalizing k i with
  | zero => exact absurd hm (by omega)
  | succ m ih =>
    have g0 := tg_t ht
    have b6 := hI.1.2
    have hJ := In_lp (f := flow) (n := k) hI (fun b hb z hz hs => In_flow hz (by rw [hs.1]; omega) hs)
    have t2 : i t 2 = nI (nB s) := by rw [hR.1.1, hJ.1.1.1, hJ.2.1]
    refine r_go 3 rfl ?_ ?_
    · (first | exact trivial | assumption | (simp (disch := omega) [ab_all, ab_nz, *]; done))
    rw [t2]
    refine r_le rfl (fun h62 => ?_) (fun h62 => ?_)
    · skip
      have e : k = nB s := by clear hJ hR hi; (simp (disch := omega) only [Int32.le_iff_toInt_le, Int32.lt_iff_toInt_lt, c_i, m1_i, m5_i, m33_i] at * <;> omega)
      subst e
      refine r_go 2 rfl ?_ ?_
      · (first | exact trivial | assumption | (simp (disch := omega) [ab_all, ab_nz, *]; done))
      exact r_lk (go_loop3 (i0 := i0) ht (In_flows hI).1 (nD (flows s) + 1) 0 i (by omega) (by omega) hR hi) rfl
    · skip
      have hkl : k < nB s := by clear hJ hR hi; (simp (disch := omega) only [Int32.le_iff_toInt_le, Int32.lt_iff_toInt_lt, c_i, m1_i, m5_i, m33_i] at * <;> omega)
      refine r_go 2 rfl ?_ ?_
      · (first | exact trivial | assumption | (simp (disch := omega) [ab_all, ab_nz, *]; done))
      refine r_c rfl (by first | assumption | rfl) ((k_flow ht hR hJ.1 (by rw [hJ.2.1]; exact hkl))) (by decide) ?_
      rintro v i' ⟨rfl, R1, f1⟩
      refine r_go 2 rfl ?_ ?_
      · (first | exact trivial | assumption | (simp (disch := omega) [ab_all, ab_nz, *]; done))
      rw [nI_add]
      exact r_lk (ih (k + 1) i' (by omega) (by omega) R1 (frT_tr hi f1)) rfl
def mvb (mb : Nat) : Int32 := if mb < 6 then nI mb else (-1)
theorem mvb_eq {mb b : Nat} (hb : b < 6) (hm : mb ≤ 6) : (nI b = mvb mb) = (b = mb) := by
  unfold mvb
  by_cases h : mb < 6
  · rw [if_pos h]
    exact propext (nI_eq (by omega) (by omega))
  · rw [if_neg h]
    refine propext ⟨fun z => ?_, fun z => absurd z (by omega)⟩
    rw [eq_i] at z
    (simp (disch := omega) only [Int32.le_iff_toInt_le, Int32.lt_iff_toInt_lt, c_i, m1_i, m5_i, m33_i] at * <;> omega)
theorem go_loop1 {t mb : Nat} {mw mv : Int32} {s : Vc} {i0 : ab_I} (ht : isT t) (hI : InT s) (hmb : mb ≤ 6) (hmv : mb < 6 → sg (mv - nI 2) = mw) (m k : Nat) (i : ab_I) (hm : nB s - k < m) (hk : k ≤ nB s) (hR : TwR t (lp (turn (ways mb mw s)) k s) i) (hs7 : ∀ b, b < nB s → i (t + 2 + b) 7 = votesOn s b) (hi : frT t i0 i) : ab_R 4 tb_X8_goBy 8 [some (.ref t), none, some (.int (mvb mb)), some (.int mv), some (.int (nI k)), none] [] i (fun v i' => v = none ∧ TwR t (hour mb mw s) i' ∧ frT t i0 i') := by
  induction m generalizing k i with
  | zero => exact absurd hm (by omega)
  | succ m ih =>
    have g0 := tg_t ht
    have b6 := hI.1.2
    have hJ := In_lp (f := turn (ways mb mw s)) (n := k) hI (fun b hb z hz hs => In_turn hz (by rw [hs.1]; omega) hs)
    have t2 : i t 2 = nI (nB s) := by rw [hR.1.1, hJ.1.1.1, hJ.2.1]
    refine r_go 3 rfl ?_ ?_
    · (first | exact trivial | assumption | (simp (disch := omega) [ab_all, ab_nz, *]; done))
    rw [t2]
    refine r_le rfl (fun h14 => ?_) (fun h14 => ?_)
    · skip
      have e : k = nB s := by clear hJ hR hi hs7; (simp (disch := omega) only [Int32.le_iff_toInt_le, Int32.lt_iff_toInt_lt, c_i, m1_i, m5_i, m33_i] at * <;> omega)
      subst e
      refine r_go 2 rfl ?_ ?_
      · (first | exact trivial | assumption | (simp (disch := omega) [ab_all, ab_nz, *]; done))
      exact r_lk (go_loop2 (i0 := i0) ht (In_weirs hI).1 (nB (weirs mb mw s) + 1) 0 i (by omega) (by omega) hR hi) rfl
    · skip
      have hkl : k < nB s := by clear hJ hR hi hs7; (simp (disch := omega) only [Int32.le_iff_toInt_le, Int32.lt_iff_toInt_lt, c_i, m1_i, m5_i, m33_i] at * <;> omega)
      have gb := tg_b ht (show k < 6 by omega)
      refine r_go 2 rfl ?_ ?_
      · (first | exact trivial | assumption | (simp (disch := omega) [ab_all, ab_nz, *]; done))
      refine r_cv rfl (by first | assumption | rfl) ((k_basinAt _ ht (by omega))) (by decide) ?_
      refine r_go 4 rfl ?_ ?_
      · (first | exact trivial | assumption | (simp (disch := omega) [ab_all, ab_nz, *]; done))
      refine r_ne rfl (fun h30 => ?_) (fun h30 => ?_)
      · skip
        rw [mvb_eq (by omega) hmb] at h30
        refine r_go 2 rfl ?_ ?_
        · (first | exact trivial | assumption | (simp (disch := omega) [ab_all, ab_nz, *]; done))
        refine r_c rfl (by first | assumption | rfl) ((k_turnT (W := ways mb mw s) ht hR hJ.1 (by rw [hJ.2.1]; exact hkl) (by rw [sg_cmp]; unfold ways; first | (rw [if_pos h30]; exact hmv (by omega)) | rw [if_neg h30, hs7 _ hkl]))) (by decide) ?_
        rintro v i' ⟨rfl, R1, s1, f1⟩
        refine r_go 2 rfl ?_ ?_
        · (first | exact trivial | assumption | (simp (disch := omega) [ab_all, ab_nz, *]; done))
        rw [nI_add]
        exact r_lk (ih (k + 1) i' (by omega) (by omega) R1 (fun b hb => (s1 _).trans (hs7 b hb)) (frT_tr hi f1)) rfl
      · skip
        rw [mvb_eq (by omega) hmb] at h30
        refine r_go 4 rfl ?_ ?_
        · (first | exact trivial | assumption | (simp (disch := omega) [ab_all, ab_nz, *]; done))
        refine r_c rfl (by first | assumption | rfl) ((k_turnT (W := ways mb mw s) ht hR hJ.1 (by rw [hJ.2.1]; exact hkl) (by rw [sg_cmp]; unfold ways; first | (rw [if_pos h30]; exact hmv (by omega)) | rw [if_neg h30, hs7 _ hkl]))) (by decide) ?_
        rintro v i' ⟨rfl, R1, s1, f1⟩
        refine r_go 2 rfl ?_ ?_
        · (first | exact trivial | assumption | (simp (disch := omega) [ab_all, ab_nz, *]; done))
        rw [nI_add]
        exact r_lk (ih (k + 1) i' (by omega) (by omega) R1 (fun b hb => (s1 _).trans (hs7 b hb)) (frT_tr hi f1)) rfl
theorem k_goBy {t mb : Nat} {mw mv : Int32} {s : Vc} {i : ab_I} (ht : isT t) (hI : InT s) (hX : InXs s) (hmb : mb ≤ 6) (hmv : mb < 6 → sg (mv - nI 2) = mw) (hR : TwR t s i) (hL : LwsR s i) : ab_K 4 97 [.ref t, .ref 23, .int (mvb mb), .int mv] i (fun v i' => v = none ∧ TwR t (hour mb mw s) i' ∧ frT t i i') := by
  have g0 := tg_t ht
  refine k_of rfl ?_
  refine r_go 2 rfl ?_ ?_
  · (first | exact trivial | assumption | (simp (disch := omega) [ab_all, ab_nz, *]; done))
  refine r_c rfl (by assumption) ((k_ask ht hI hX hR hL)) (by decide) ?_
  rintro v i1 ⟨rfl, R1, s7, f1⟩
  refine r_go 2 rfl ?_ ?_
  · (first | exact trivial | assumption | (simp (disch := omega) [ab_all, ab_nz, *]; done))
  exact r_lk (go_loop1 (i0 := i) ht hI hmb hmv (nB s + 1) 0 i1 (by omega) (by omega) R1 s7 f1) rfl
