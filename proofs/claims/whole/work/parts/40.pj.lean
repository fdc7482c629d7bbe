/-! a row's pains, the reference's side -/
theorem dg_loop {i : ab_I} {r : Nat} (hr : r ≤ 333333) (mm n : Nat) (hmm : 7 - n < mm) (hn : n ≤ 6) (h10 : n = 0 ∨ 10 ^ (n - 1) ≤ r) : ab_R 0 tb_X11_digitsOf 4 [none, some (.int (nI n)), some (.int (nI (r / 10 ^ n)))] [] i (fun v i' => (∃ k, v = some (.int (nI k)) ∧ k ≤ 6 ∧ r < 10 ^ k ∧ (k = 0 ∨ 10 ^ (k - 1) ≤ r)) ∧ i' = i) := by
  induction mm generalizing n with
  | zero => exact absurd hmm (by omega)
  | succ mm ih =>
    have hd : r / 10 ^ n ≤ r := Nat.div_le_self _ _
    have hp := (p10 hn).1
    refine r_go 1 rfl ?_ ?_
    · (first | exact trivial | assumption | (simp (disch := omega) [ab_all, ab_nz, *]; done))
    refine r_le rfl (fun h5 => ?_) (fun h5 => ?_)
    · skip
      refine r_go 1 rfl ?_ ?_
      · (first | exact trivial | assumption | (simp (disch := omega) [ab_all, ab_nz, *]; done))
      refine r_ret rfl trivial ?_
      have hq : r / 10 ^ n = 0 := Classical.byContradiction (fun z => h5 (nI_lt (Nat.pos_of_ne_zero z) (by omega)))
      have hlt : r < 10 ^ n := Classical.byContradiction (fun z => by have := Nat.div_pos (show 10 ^ n ≤ r by omega) hp; omega)
      exact ⟨⟨n, rfl, hn, hlt, h10⟩, rfl⟩
    · skip
      have hq : r / 10 ^ n ≠ 0 := fun z => by rw [z] at h5; exact absurd h5 (by decide)
      have hle : 10 ^ n ≤ r := Classical.byContradiction (fun z => hq (Nat.div_eq_of_lt (by omega)))
      have hn5 : n ≠ 6 := fun z => by subst z; omega
      refine r_go 6 rfl ?_ ?_
      · (unfold ab_all ab_nz; decide)
      rw [pk_div (by omega) (by decide) (by decide), ← dv_s, nI_add]
      exact r_lk (ih (n + 1) (by omega) (by omega) (Or.inr (by rw [Nat.add_sub_cancel]; exact hle))) rfl
theorem m_digits {i : ab_I} (r : Nat) (hr : r ≤ 333333) : ab_K 0 212 [.int (nI r)] i (fun v i' => (∃ k, v = some (.int (nI k)) ∧ k ≤ 6 ∧ r < 10 ^ k ∧ (k = 0 ∨ 10 ^ (k - 1) ≤ r)) ∧ i' = i) := by
  refine k_of rfl ?_
  refine r_go 4 rfl ?_ ?_
  · (first | exact trivial | assumption | (simp (disch := omega) [ab_all, ab_nz, *]; done))
  have K := dg_loop (i := i) hr 8 0 (by decide) (by decide) (Or.inl rfl)
  rw [Nat.pow_zero, Nat.div_one] at K
  exact r_lk K rfl
theorem m_toldH {i : ab_I} {s : Vc} (b : Nat) (w : Int32) (hs : i 219 = s) (hI : InT s) (hX : InXs s) (hb : b < nB s) : ab_K 8 211 [.ref 218, .int (nI b), .int w] i (fun v i' => v = none ∧ i' 219 = hour b (w - nI 2) s ∧ i' 218 13 = (-1) ∧ i' 221 = i 221 ∧ fo i i') := by
  have b6 : b < 6 := by have := hI.1.2; omega
  refine k_of rfl ?_
  refine r_go 9 rfl ?_ ?_
  · exact ⟨rfl, rfl⟩
  refine r_c rfl rfl ((m_hour (mb := b) (mw := w - nI 2) ((up_row (by decide)).trans ((up_row (by decide)).trans hs)) hI hX (by omega) ((up_ne (by omega)).trans (up_us.trans (mvb_nI b6).symm)) (fun _ => up_us))) (by decide) ?_
  rintro v i1 ⟨rfl, s1, f1⟩
  refine r_go 3 rfl ?_ ?_
  · exact rfl
  refine r_ret rfl trivial ?_
  refine ⟨rfl, (up_row (by decide)).trans s1, up_us, ?_, fo_tr (fo_tr (fo_tr (fo_u (by omega)) (fo_u (by omega))) (fo_fh f1)) (fo_u (by omega))⟩
  rw [up_row (by decide), f1 221 (by decide) (by decide) (by decide) (by decide), up_row (by decide), up_row (by decide)]
theorem py_loop1 {b r n : Nat} {i : ab_I} {Q : Option Value → ab_I → Prop} (hn : n ≤ 6) (K : ab_R 9 tb_X11_painsBy 36 [some (.ref 218), some (.int (nI b)), some (.int (nI r)), some (.int (nI (10 ^ (n - 1)))), none] [] i Q) (mm k : Nat) (hmm : k < mm) (hk1 : 1 ≤ k) (hk : k ≤ n) : ab_R 9 tb_X11_painsBy 19 [some (.ref 218), some (.int (nI b)), some (.int (nI r)), some (.int (nI (10 ^ (n - k)))), some (.int (nI k))] [] i Q := by
  induction mm generalizing k with
  | zero => exact absurd hmm (by omega)
  | succ mm ih =>
    refine r_go 2 rfl ?_ ?_
    · (first | exact trivial | assumption | (simp (disch := omega) [ab_all, ab_nz, *]; done))
    refine r_le rfl (fun h22 => ?_) (fun h22 => ?_)
    · skip
      have e : k = 1 := by clear K; (simp (disch := omega) only [Int32.le_iff_toInt_le, Int32.lt_iff_toInt_lt, c_i, m1_i, m5_i, m33_i] at * <;> omega)
      subst e
      exact r_lk K rfl
    · skip
      obtain ⟨j, rfl⟩ := pos_s (f := k) (by omega)
      have hj : 1 ≤ j := by clear K; (simp (disch := omega) only [Int32.le_iff_toInt_le, Int32.lt_iff_toInt_lt, c_i, m1_i, m5_i, m33_i] at * <;> omega)
      refine r_go 6 rfl ?_ ?_
      · (first | exact trivial | assumption | (simp (disch := omega) [ab_all, ab_nz, *]; done))
      rw [pk_mul, pk_m1]
      have e : 10 ^ (n - (j + 1)) * 10 = 10 ^ (n - j) := by rw [← Nat.pow_succ]; congr 1; omega
      rw [e]
      exact ih j (by omega) hj (by omega)
theorem py_loop2 {b r : Nat} {s o : Vc} {i0 : ab_I} (hI : InT s) (hX : InXs s) (hb : b < nB s) (hr : rwB 6 r = true) (mm k : Nat) (i : ab_I) (hmm : k < mm) (hk : k ≤ 6) (hge : r = 0 ∨ k = 0 ∨ 10 ^ (k - 1) ≤ r) (hs : i 219 = mv b (r / 10 ^ k) s) (h13 : i 218 13 = (-1)) (hp : i 221 = cy s o) (hi : fo i0 i) : ab_R 9 tb_X11_painsBy 36 [some (.ref 218), some (.int (nI b)), some (.int (nI r)), some (.int (nI (uu k))), none] [] i (fun v i' => v = some (.int (pains (mv b r s))) ∧ i' 219 = s ∧ i' 218 13 = (-1) ∧ fo i0 i') := by
  induction mm generalizing k i with
  | zero => exact absurd hmm (by omega)
  | succ mm ih =>
    have hP := In_mv (b := b) (r := r / 10 ^ k) hI
    have hX1 := InXs_rt hX hP.2.2
    have hr6 := rwB_6 hr
    refine r_go 1 rfl ?_ ?_
    · (first | exact trivial | assumption | (simp (disch := omega) [ab_all, ab_nz, *]; done))
    refine r_le rfl (fun h37 => ?_) (fun h37 => ?_)
    · skip
      have hz : mv b (r / 10 ^ k) s = mv b r s := by
          by_cases h0 : r = 0
          · rw [h0, Nat.zero_div]
          · have hk0 : k = 0 := by
              rcases Nat.eq_zero_or_pos k with z | z
              · exact z
              · exfalso
                obtain ⟨j, rfl⟩ := pos_s (f := k) (by omega)
                have hp10 := p10 (j := j) (by omega)
                first | exact h37 (nI_lt (by omega) (by omega)) | exact h41 (by rw [uu_s]; exact nI_lt (by omega) (by omega))
            rw [hk0, Nat.pow_zero, Nat.div_one]
      rw [hz] at hs hP hX1
      refine r_go 1 rfl ?_ ?_
      · (first | exact trivial | assumption | (simp (disch := omega) [ab_all, ab_nz, *]; done))
      refine r_c rfl rfl ((m_pains hs hP.1 hX1)) (by decide) ?_
      rintro v i3 ⟨rfl, f3⟩
      refine r_go 5 rfl ?_ ?_
      · (simp only [ab_all, gr_218_0, gr_218_2] <;> decide)
      rw [gr_218_0, gr_218_2]
      refine r_cn rfl trivial ((m_carry gt_221 gt_219 (by decide))) (by decide) ?_
      refine r_go 1 rfl ?_ ?_
      · (first | exact trivial | assumption | (simp (disch := omega) [ab_all, ab_nz, *]; done))
      refine r_ret rfl trivial ?_
      refine ⟨rfl, ?_, ?_, fo_tr hi (fo_tr (fo_sr f3) fo_r9)⟩
      · rw [row_s, f3 219 (by decide) (by decide), f3 221 (by decide) (by decide), hs, hp]
        exact cy_back (rt_480 hP.2.2)
      · rw [ab_row_ne (by decide), f3 218 (by decide) (by decide)]
        exact h13
    · skip
      refine r_go 1 rfl ?_ ?_
      · (first | exact trivial | assumption | (simp (disch := omega) [ab_all, ab_nz, *]; done))
      refine r_le rfl (fun h41 => ?_) (fun h41 => ?_)
      · skip
        have hz : mv b (r / 10 ^ k) s = mv b r s := by
            by_cases h0 : r = 0
            · rw [h0, Nat.zero_div]
            · have hk0 : k = 0 := by
                rcases Nat.eq_zero_or_pos k with z | z
                · exact z
                · exfalso
                  obtain ⟨j, rfl⟩ := pos_s (f := k) (by omega)
                  have hp10 := p10 (j := j) (by omega)
                  first | exact h37 (nI_lt (by omega) (by omega)) | exact h41 (by rw [uu_s]; exact nI_lt (by omega) (by omega))
              rw [hk0, Nat.pow_zero, Nat.div_one]
        rw [hz] at hs hP hX1
        refine r_go 1 rfl ?_ ?_
        · (first | exact trivial | assumption | (simp (disch := omega) [ab_all, ab_nz, *]; done))
        refine r_c rfl rfl ((m_pains hs hP.1 hX1)) (by decide) ?_
        rintro v i3 ⟨rfl, f3⟩
        refine r_go 5 rfl ?_ ?_
        · (simp only [ab_all, gr_218_0, gr_218_2] <;> decide)
        rw [gr_218_0, gr_218_2]
        refine r_cn rfl trivial ((m_carry gt_221 gt_219 (by decide))) (by decide) ?_
        refine r_go 1 rfl ?_ ?_
        · (first | exact trivial | assumption | (simp (disch := omega) [ab_all, ab_nz, *]; done))
        refine r_ret rfl trivial ?_
        refine ⟨rfl, ?_, ?_, fo_tr hi (fo_tr (fo_sr f3) fo_r9)⟩
        · rw [row_s, f3 219 (by decide) (by decide), f3 221 (by decide) (by decide), hs, hp]
          exact cy_back (rt_480 hP.2.2)
        · rw [ab_row_ne (by decide), f3 218 (by decide) (by decide)]
          exact h13
      · skip
        obtain ⟨j, rfl⟩ := pos_s (f := k) (fun z => by subst z; exact absurd h41 (by decide))
        have hp10 := p10 (j := j) (by omega)
        have hw := rwB_pw hr j (by omega)
        rw [show 6 - j = 6 - (j + 1) + 1 by omega] at hw
        have hq : r / 10 ^ j ≤ r := Nat.div_le_self _ _
        have hr0 : r ≠ 0 := fun z => by rw [z] at h37; exact absurd h37 (by decide)
        have hgt : 10 ^ j ≤ r := by rcases hge with z | z | z <;> first | exact absurd z hr0 | exact z | omega
        have hq0 : r / 10 ^ j ≠ 0 := by have := Nat.div_pos hgt hp10.1; omega
        rw [uu_s]
        rw [dv_s] at hs hP hX1
        refine r_go 7 rfl ?_ ?_
        · (simp only [ab_all, ab_nz]; exact ⟨nz_nI (by decide) (by decide), nz_nI hp10.1 (by omega)⟩)
        rw [pk_div (by omega) hp10.1 (by omega), pk_rem (by omega) (by decide) (by decide)]
        refine r_c rfl rfl ((m_toldH b _ hs hP.1 hX1 (by rw [hP.2.1.1]; exact hb))) (by decide) ?_
        rintro v i2 ⟨rfl, s2, t2, p2, f2⟩
        rw [← mv_st (by omega) hq0] at s2
        refine r_go 5 rfl ?_ ?_
        · (simp only [ab_all, ab_nz]; decide)
        rw [pk_div (by omega) (by decide) (by decide), show 10 ^ j / 10 = uu j from rfl]
        refine r_lk (ih j i2 (by omega) (by omega) ?_ s2 t2 (p2.trans hp) (fo_tr hi f2)) rfl
        rcases Nat.eq_zero_or_pos j with z | z
        · exact Or.inr (Or.inl z)
        · refine Or.inr (Or.inr (Nat.le_trans (Nat.pow_le_pow_right (by decide) (by omega)) hgt))
theorem m_painsBy {i : ab_I} {s : Vc} (hs : i 219 = s) (hI : InT s) (hX : InXs s) (h13 : i 218 13 = (-1)) (b r : Nat) (hb : b < nB s) (hr : rwB 6 r = true) : ab_K 9 213 [.ref 218, .int (nI b), .int (nI r)] i (fun v i' => v = some (.int (pains (mv b r s))) ∧ i' 219 = s ∧ i' 218 13 = (-1) ∧ fo i i') := by
  have hr6 := rwB_6 hr
  refine k_of rfl ?_
  refine r_go 4 rfl ?_ ?_
  · (simp only [ab_all, gr_218_0, gr_218_2] <;> decide)
  rw [gr_218_0, gr_218_2]
  refine r_cn rfl trivial ((m_carry gt_219 gt_221 (by decide))) (by decide) ?_
  refine r_go 3 rfl ?_ ?_
  · (first | exact trivial | assumption | (simp (disch := omega) [ab_all, ab_nz, *]; done))
  have s1 : ab_row i 221 (cy (i 219) (i 221)) 219 = s := (funext (fun b => ab_row_ne (by decide))).trans hs
  have t1 : ab_row i 221 (cy (i 219) (i 221)) 218 13 = (-1) := (ab_row_ne (by decide)).trans h13
  have p1 : ab_row i 221 (cy (i 219) (i 221)) 221 = cy s (i 221) := by rw [ab_row_self, hs]
  have f1 : fo i (ab_row i 221 (cy (i 219) (i 221))) := fo_r1
  refine r_c rfl trivial ((m_digits r (by omega))) (by decide) ?_
  rintro v i' ⟨⟨n, rfl, hn6, hlt, hge⟩, rfl⟩
  refine r_go 1 rfl ?_ ?_
  · (first | exact trivial | assumption | (simp (disch := omega) [ab_all, ab_nz, *]; done))
  rcases Nat.eq_zero_or_pos n with hn0 | hn0
  · subst hn0
    have hr0 : r = 0 := by rw [Nat.pow_zero] at hlt; omega
    subst hr0
    refine r_go 2 rfl ?_ ?_
    · exact trivial
    refine r_brT rfl (by decide) ?_
    exact r_lk (py_loop2 (i0 := i) hI hX hb hr 2 1 _ (by decide) (by decide) (Or.inl rfl) (by rw [s1]; rfl) t1 p1 f1) rfl
  · have e1 : nI 1 = nI (10 ^ (n - n)) := by rw [Nat.sub_self, Nat.pow_zero]
    rw [e1]
    refine py_loop1 hn6 ?_ (n + 1) n (by omega) hn0 (Nat.le_refl _)
    have K := py_loop2 (i0 := i) hI hX hb hr 7 n _ (by omega) hn6 (Or.inr hge) (by rw [s1, Nat.div_eq_of_lt hlt]; rfl) t1 p1 f1
    obtain ⟨j, rfl⟩ := pos_s (f := n) (by omega)
    rw [uu_s] at K
    rw [Nat.add_sub_cancel]
    exact K
theorem m_moves {i m : ab_I} (hm : mo i m) (hJ : InM m) (h13 : i 218 13 = (-1)) (x r : Int32) : ab_K 10 215 [.ref 218, .int x, .int r] i (rfQ i (S_moves x r m)) := by
  (have hI := hJ.1.1; have hX := InS_X hJ.1; have hs := hm.1)
  refine k_of rfl ?_
  refine r_go 2 rfl ?_ ?_
  · (first | exact trivial | assumption | (simp (disch := omega) [ab_all, ab_nz, *]; done))
  refine r_cv rfl rfl ((m_isB x hs hI)) (by decide) ?_
  refine r_bE rfl (fun h5 => ?_) (fun h5 => ?_)
  · skip
    refine r_go 2 rfl ?_ ?_
    · (first | exact trivial | assumption | (simp (disch := omega) [ab_all, ab_nz, *]; done))
    refine r_cv rfl rfl ((m_error 1 (by decide))) (by decide) ?_
    refine r_ret rfl trivial ?_
    first | exact rf_to hP (rf_fo hm f1 s1 t1) | exact rf_to (if_neg (by simp only [h5, if_true, if_false, not_true, not_false_eq_true, and_true, true_and, and_false, false_and, or_true, true_or, or_false, false_or, and_self, or_self, not_false_eq_true])) (rf_er hm h13)
  · skip
    refine r_go 1 rfl ?_ ?_
    · (first | exact trivial | assumption | (simp (disch := omega) [ab_all, ab_nz, *]; done))
    refine r_cv rfl trivial ((m_isRow r)) (by decide) ?_
    refine r_bE rfl (fun h12 => ?_) (fun h12 => ?_)
    · skip
      refine r_go 2 rfl ?_ ?_
      · (first | exact trivial | assumption | (simp (disch := omega) [ab_all, ab_nz, *]; done))
      refine r_cv rfl rfl ((m_error 1 (by decide))) (by decide) ?_
      refine r_ret rfl trivial ?_
      first | exact rf_to hP (rf_fo hm f1 s1 t1) | exact rf_to (if_neg (by simp only [h5, h12, if_true, if_false, not_true, not_false_eq_true, and_true, true_and, and_false, false_and, or_true, true_or, or_false, false_or, and_self, or_self, not_false_eq_true])) (rf_er hm h13)
    · skip
      have hP : S_moves x r m = (pains (mv x.toNatClampNeg r.toNatClampNeg (m 219)), m) := if_pos ⟨h5, h12⟩
      obtain ⟨b, hb, rfl⟩ := of_rg h5
      have hr2 := h12.2
      have er := tn_of h12.1
      rw [nI_cl (by have := hI.1.2; omega)] at hP
      generalize r.toNatClampNeg = rn at hr2 er hP
      subst er
      refine r_go 3 rfl ?_ ?_
      · (first | exact trivial | assumption | (simp (disch := omega) [ab_all, ab_nz, *]; done))
      refine r_c rfl rfl ((m_painsBy hs hI hX h13 b rn hb hr2)) (by decide) ?_
      rintro v i1 ⟨rfl, s1, t1, f1⟩
      refine r_go 1 rfl ?_ ?_
      · (first | exact trivial | assumption | (simp (disch := omega) [ab_all, ab_nz, *]; done))
      refine r_ret rfl trivial ?_
      first | exact rf_to hP (rf_fo hm f1 s1 t1) | exact rf_to (if_neg (by simp only [h5, h12, if_true, if_false, not_true, not_false_eq_true, and_true, true_and, and_false, false_and, or_true, true_or, or_false, false_or, and_self, or_self, not_false_eq_true])) (rf_er hm h13)
