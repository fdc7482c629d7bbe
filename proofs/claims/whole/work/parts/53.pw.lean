/-! feed, untell -/
/-- a byte of a long: the class shifts with zeros, the reference with the sign -/
def fb (w : Int64) (c : Nat) : Int32 := (w.toUInt64 >>> ((nI (8 * c)).toInt64.toUInt64 &&& Int64.toUInt64 63)).toInt64.toInt32 &&& nI 255
theorem fb_bv (x : BitVec 64) (k : Nat) (hk : k ≤ 56) : (BitVec.signExtend 32 (x >>> k)) &&& 255#32 = BitVec.signExtend 32 ((x.sshiftRight k) &&& 255#64) := by
  apply BitVec.eq_of_getLsbD_eq
  intro j hj
  have e255 : ∀ j, j < 64 → (255#64).getLsbD j = decide (j < 8) := by decide
  have e255' : ∀ j, j < 32 → (255#32).getLsbD j = decide (j < 8) := by decide
  have hj6 : j < 64 := by omega
  simp only [BitVec.getLsbD_and, BitVec.getLsbD_signExtend, BitVec.getLsbD_ushiftRight, BitVec.getLsbD_sshiftRight, e255' j hj, e255 j hj6, decide_eq_true hj, Bool.true_and, if_pos hj6]
  by_cases h8 : j < 8
  · rw [if_pos (by omega : k + j < 64), decide_eq_false (by omega : ¬ 64 ≤ j)]
    simp
  · rw [decide_eq_false h8, Bool.and_false, Bool.and_false]
theorem fb_1 (w : Int64) {a : Int64} {b : UInt64} {k : Nat} (hk : k ≤ 56) (ha : (a.toBitVec.smod 64).toNat = k) (hb : (b.toBitVec % 64).toNat = k) : ((w >>> a) &&& lN 255).toInt32 = (w.toUInt64 >>> b).toInt64.toInt32 &&& nI 255 := by
  apply Int32.toBitVec_inj.1
  rw [Int64.toBitVec_toInt32, Int64.toBitVec_and, Int64.toBitVec_shiftRight, Int32.toBitVec_and, Int64.toBitVec_toInt32, UInt64.toBitVec_toInt64, UInt64.toBitVec_shiftRight, Int64.toBitVec_toUInt64, BitVec.ushiftRight_eq', hb]
  unfold BitVec.sshiftRight'
  rw [ha]
  exact (fb_bv w.toBitVec k hk).symm
theorem fb_eq (w : Int64) {c : Nat} (hc : c < 8) : ((w >>> ((nI (8 * c)).toInt64 &&& 63)) &&& lN 255).toInt32 = fb w c := by
  unfold fb
  have hk : c = 0 ∨ c = 1 ∨ c = 2 ∨ c = 3 ∨ c = 4 ∨ c = 5 ∨ c = 6 ∨ c = 7 := by omega
  rcases hk with rfl | rfl | rfl | rfl | rfl | rfl | rfl | rfl
  · exact fb_1 w (k := 0) (by decide) (by decide) (by decide)
  · exact fb_1 w (k := 8) (by decide) (by decide) (by decide)
  · exact fb_1 w (k := 16) (by decide) (by decide) (by decide)
  · exact fb_1 w (k := 24) (by decide) (by decide) (by decide)
  · exact fb_1 w (k := 32) (by decide) (by decide) (by decide)
  · exact fb_1 w (k := 40) (by decide) (by decide) (by decide)
  · exact fb_1 w (k := 48) (by decide) (by decide) (by decide)
  · exact fb_1 w (k := 56) (by decide) (by decide) (by decide)
theorem fb_rg (w : Int64) (c : Nat) : rg (fb w c) 0 255 := by
  unfold fb
  obtain ⟨j, hj, e⟩ := pk_andE ((w.toUInt64 >>> ((nI (8 * c)).toInt64.toUInt64 &&& Int64.toUInt64 63)).toInt64.toInt32) (m := nI 255) 8 (by decide)
  rw [e]
  unfold rg
  rw [c_i (by omega)]
  omega
/-- the vector when c bytes are fed behind n -/
def fdC (w : Int64) (n c : Nat) (s : Vc) : Vc := fun k => if k = 5 then nI (n + c) else if 396 + n ≤ k ∧ k < 396 + n + c then fb w (k - 396 - n) else s k
theorem fdC_0 {w : Int64} {n : Nat} {s : Vc} (h : s 5 = nI n) : fdC w n 0 s = s := by
  funext k
  unfold fdC
  by_cases e : k = 5
  · rw [if_pos e, e, h]; rfl
  · rw [if_neg e, if_neg (by omega)]
theorem fdC_s {w : Int64} {n c : Nat} {s : Vc} : upd (upd (fdC w n c s) (396 + (n + c)) (fb w c)) 5 (nI (n + (c + 1))) = fdC w n (c + 1) s := by
  funext k
  unfold upd fdC
  by_cases e : k = 5
  · rw [if_pos e, if_pos e]
  · rw [if_neg e, if_neg e, if_neg e]
    by_cases e2 : k = 396 + (n + c)
    · rw [if_pos e2, if_pos (by omega), show k - 396 - n = c by omega]
    · rw [if_neg e2]
      by_cases e3 : 396 + n ≤ k ∧ k < 396 + n + c
      · rw [if_pos e3, if_pos (by omega)]
      · rw [if_neg e3, if_neg (by omega)]
theorem fdC_5 {w : Int64} {n c : Nat} {s : Vc} : fdC w n c s 5 = nI (n + c) := if_pos rfl
theorem fdC_k {w : Int64} {n c : Nat} {s : Vc} (k : Nat) (h : k ≠ 5) (h2 : k < 396 ∨ 456 ≤ k) (h3 : n + c ≤ 60) : fdC w n c s k = s k := by
  unfold fdC
  rw [if_neg h, if_neg (by omega)]
/-- the class's row -/
def fdJ (w : Int64) (n c : Nat) (i : ab_I) : ab_I := ab_row (ab_up i 31 1 (nI (n + c))) 32 (fun k => if n ≤ k ∧ k < n + c then fb w (k - n) else i 32 k)
theorem fdJ_0 {w : Int64} {n : Nat} {i : ab_I} (h : i 31 1 = nI n) : fdJ w n 0 i = i := by
  unfold fdJ
  rw [show (fun k => if n ≤ k ∧ k < n + 0 then fb w (k - n) else i 32 k) = i 32 from funext (fun k => if_neg (by omega)), show nI (n + 0) = i 31 1 from h.symm]
  funext q k
  unfold ab_row ab_up
  by_cases e : q = 32
  · rw [if_pos e, e]
  · rw [if_neg e]
    by_cases e2 : q = 31 ∧ k = 1
    · rw [if_pos e2, e2.1, e2.2]
    · rw [if_neg e2]
theorem fdJ_s {w : Int64} {n c : Nat} {i : ab_I} : ab_up (ab_up (fdJ w n c i) (31 + 1) (n + c) (fb w c)) 31 1 (nI (n + c + 1)) = fdJ w n (c + 1) i := by
  funext q k
  unfold fdJ ab_row ab_up
  dsimp only
  by_cases e : q = 32
  · subst e
    rw [if_neg (show ¬ (32 = 31 ∧ k = 1) by omega), if_pos rfl, if_pos rfl]
    by_cases e2 : k = n + c
    · rw [if_pos ⟨rfl, e2⟩, if_pos (by omega), show k - n = c by omega]
    · rw [if_neg (by omega)]
      by_cases e3 : n ≤ k ∧ k < n + c
      · rw [if_pos e3, if_pos (by omega)]
      · rw [if_neg e3, if_neg (by omega)]
  · rw [if_neg (show ¬ (q = 31 + 1 ∧ k = n + c) by omega), if_neg e, if_neg e]
    by_cases e2 : q = 31 ∧ k = 1
    · rw [if_pos e2, if_pos e2, show n + c + 1 = n + (c + 1) by omega]
    · rw [if_neg e2, if_neg e2, if_neg e2]
theorem fdJ_n {w : Int64} {n c : Nat} {i : ab_I} : fdJ w n c i 31 1 = nI (n + c) := (ab_row_ne (by decide)).trans up_us
theorem fdJ_r {w : Int64} {n c : Nat} {i : ab_I} {q : Nat} (h : q ≠ 31) (h2 : q ≠ 32) : fdJ w n c i q = i q := (funext (fun b => ab_row_ne h2)).trans (up_row h)
theorem fdJ_b {w : Int64} {n c k : Nat} {i : ab_I} : fdJ w n c i 32 k = if n ≤ k ∧ k < n + c then fb w (k - n) else i 32 k := congrFun row_s k
def S_feed (w : Int64) (n : Int32) (m : ab_I) : Int32 × ab_I := if nI 1 ≤ n ∧ n ≤ nI 8 then (if nI 60 < m 219 5 + n then er m 4 else (m 219 5 + n, ab_row m 219 (fdC w (m 219 5).toNatClampNeg n.toNatClampNeg (m 219)))) else er m 1
theorem cfd_loop {w : Int64} {i : ab_I} {n N : Nat} (hN : N ≤ 8) (h60 : n + N ≤ 60) (hi : i 31 1 = nI n) (mm c : Nat) (hmm : N - c < mm) (hc : c ≤ N) : ab_R 3 tb_X10_feed 42 [some (.ref 0), some (.long w), none, some (.int (nI N)), some (.int (nI c))] [] (fdJ w n c i) (ab_V (.int (nI (n + N))) (fdJ w n N i)) := by
  induction mm generalizing c with
  | zero => exact absurd hmm (by omega)
  | succ mm ih =>
    refine r_go 2 rfl ?_ ?_
    · (first | exact trivial | (simp only [ab_all] <;> decide))
    refine r_le rfl (fun h45 => ?_) (fun h45 => ?_)
    · skip
      refine r_go 4 rfl ?_ ?_
      · (first | exact trivial | (simp only [ab_all] <;> decide))
      refine r_ret rfl trivial ?_
      have e : c = N := by clear hi; (simp (disch := omega) only [Int32.le_iff_toInt_le, Int32.lt_iff_toInt_lt, c_i, m1_i, m5_i, m33_i] at * <;> omega)
      subst e
      simp only [gr_0_0, gr_0_1, gr_0_3, gr_0_4, gr_0_5, gr_0_6, gr_0_7, gr_1_0, gr_1_1, gr_1_2, gr_1_3, gr_1_4, gr_35_0, gr_35_1, gr_35_2, gr_35_3, gr_35_4]
      exact ⟨congrArg (fun x => some (Value.int x)) fdJ_n, rfl⟩
    · skip
      have hcl : c < N := by clear hi; (simp (disch := omega) only [Int32.le_iff_toInt_le, Int32.lt_iff_toInt_lt, c_i, m1_i, m5_i, m33_i] at * <;> omega)
      refine r_go 11 rfl ?_ ?_
      · (first | exact trivial | (simp only [ab_all] <;> decide))
      simp only [gr_0_0, gr_0_1, gr_0_3, gr_0_4, gr_0_5, gr_0_6, gr_0_7, gr_1_0, gr_1_1, gr_1_2, gr_1_3, gr_1_4, gr_35_0, gr_35_1, gr_35_2, gr_35_3, gr_35_4]
      rw [pk_mul]
      refine r_cn rfl rfl ((k_add _ isR_31 fdJ_n (by omega))) (by decide) ?_
      refine r_go 2 rfl ?_ ?_
      · (first | exact trivial | (simp only [ab_all] <;> decide))
      rw [if_pos (by omega), nI_add]
      rw [show (w.toUInt64 >>> ((nI (8 * c)).toInt64.toUInt64 &&& Int64.toUInt64 63)).toInt64.toInt32 &&& nI 255 = fb w c from rfl, fdJ_s]
      exact r_lk (ih (c + 1) (by omega) (by omega)) rfl
theorem c_feed {i m : ab_I} (hC : ClsR i m) (hJ : InM m) (w : Int64) (n : Int32) : ab_K 3 119 [.ref 0, .long w, .int n] i (clQ i (S_feed w n m)) := by
  (have hI := hJ.1.1; have hX := InS_X hJ.1; have hT := hC.1.1; have hLw : LwsR (m 219) i := ⟨hC.1.2.1, hC.1.2.2.1⟩; have hE := hC.2.2.2.2.1.1)
  obtain ⟨e5, l5⟩ := In5 hJ.1
  have h5 := hC.1.2.2.2.1
  have h6 := hC.1.2.2.2.2
  refine k_of rfl ?_
  refine r_go 3 rfl ?_ ?_
  · (first | exact trivial | (simp only [ab_all] <;> decide))
  refine r_cv rfl trivial ((k_within _ _ _)) (by decide) ?_
  refine r_bN rfl (fun h7 => ?_) (fun h7 => ?_)
  · skip
    obtain ⟨N, hN1, hN8, rfl⟩ : ∃ N, 1 ≤ N ∧ N ≤ 8 ∧ n = nI N := by
        have q : 1 ≤ n.toInt ∧ n.toInt ≤ 8 := by clear hC hJ hI hX hT hLw hE h5 h6 e5 l5; (simp (disch := omega) only [Int32.le_iff_toInt_le, Int32.lt_iff_toInt_lt, c_i, m1_i, m5_i, m33_i] at * <;> omega)
        exact ⟨n.toNatClampNeg, by rw [tn_i]; omega, by rw [tn_i]; omega, tn_of (by omega)⟩
    generalize hn : (m 219 5).toNatClampNeg = n at e5 l5 h5
    have hP : S_feed w (nI N) m = if nI 60 < nI (n + N) then er m 4 else (nI (n + N), ab_row m 219 (fdC w n N (m 219))) := by
        unfold S_feed
        rw [if_pos h7, ← e5, nI_cl (show n < 2147483648 by omega), nI_cl (show N < 2147483648 by omega), nI_add]
    have t1 : i 31 1 = nI n := h5.1
    refine r_go 7 rfl ?_ ?_
    · (first | exact trivial | (simp only [ab_all] <;> decide))
    simp only [gr_0_0, gr_0_1, gr_0_3, gr_0_4, gr_0_5, gr_0_6, gr_0_7, gr_1_0, gr_1_1, gr_1_2, gr_1_3, gr_1_4, gr_35_0, gr_35_1, gr_35_2, gr_35_3, gr_35_4]
    rw [t1, nI_add]
    refine r_le rfl (fun h30 => ?_) (fun h30 => ?_)
    · skip
      refine r_go 2 rfl ?_ ?_
      · (first | exact trivial | (simp only [ab_all] <;> decide))
      have h60 : n + N ≤ 60 := by have q := h30; rw [Int32.lt_iff_toInt_lt, c_i (by omega), c_i (by omega)] at q; omega
      have K := cfd_loop (w := w) hN8 h60 t1 (N + 1) 0 (by omega) (by omega)
      rw [fdJ_0 t1] at K
      refine r_lk (r_mono K ?_) rfl
      rintro v k ⟨rfl, rfl⟩
      refine cl_to (hP.trans (if_neg h30)) (cl_w hJ hC (WhR_k hJ.1 hC.1 (fun k a b c => fdC_k k a (Or.inl c) h60) (fun q a b c d => fdJ_r (by omega) (by omega)) ?_ ?_) (fun q hq => by unfold irr at hq; exact fdJ_r (by omega) (by omega)) (fun q hq => fdJ_r (by omega) (by omega)))
      · rw [fdC_5, nI_cl (by omega)]
        refine ⟨fdJ_n, fun k hk => ?_⟩
        show fdJ w n N i 32 k = fdC w n N (m 219) (396 + k)
        rw [fdJ_b]
        unfold fdC
        rw [if_neg (show ¬ (396 + k = 5) by omega)]
        by_cases e : n ≤ k
        · rw [if_pos (by omega), if_pos (by omega), show 396 + k - 396 - n = k - n by omega]
        · rw [if_neg (by omega), if_neg (by omega)]
          exact h5.2 k (by omega)
      · rw [fdC_k 6 (by decide) (Or.inl (by decide)) h60]
        have l6 := (In6 hJ.1).2
        refine ⟨(congrFun (fdJ_r (by decide) (by decide)) 1).trans h6.1, fun k hk => ?_⟩
        show fdJ w n N i 34 k = fdC w n N (m 219) (456 + k)
        rw [fdJ_r (by decide) (by decide), fdC_k (456 + k) (by omega) (Or.inr (by omega)) h60]
        exact h6.2 k hk
    · skip
      refine r_go 2 rfl ?_ ?_
      · (first | exact trivial | (simp only [ab_all] <;> decide))
      refine r_cv rfl rfl ((k_error 4 (by decide) (by decide) hE)) (by decide) ?_
      refine r_ret rfl trivial ?_
      exact cl_to (hP.trans (if_pos h30)) (cl_er (by decide) (by decide) hJ hC)
  · skip
    refine r_go 2 rfl ?_ ?_
    · (first | exact trivial | (simp only [ab_all] <;> decide))
    refine r_cv rfl rfl ((k_error 1 (by decide) (by decide) hE)) (by decide) ?_
    refine r_ret rfl trivial ?_
    exact cl_to (if_neg (by simp only [h7, if_true, if_false, not_true, not_false_eq_true, and_true, true_and, and_false, false_and, or_true, true_or, or_false, false_or, and_self, or_self, not_false_eq_true])) (cl_er (by decide) (by decide) hJ hC)
theorem mfd_loop {w : Int64} {i : ab_I} {s : Vc} {n N : Nat} (hN : N ≤ 8) (h60 : n + N ≤ 60) (mm c : Nat) (hmm : N - c < mm) (hc : c ≤ N) : ab_R 1 tb_X11_feed 38 [some (.ref 218), some (.long w), none, some (.int (nI N)), some (.int (nI c))] [] (ab_row i 219 (fdC w n c s)) (ab_V (.int (nI (n + N))) (ab_row i 219 (fdC w n N s))) := by
  induction mm generalizing c with
  | zero => exact absurd hmm (by omega)
  | succ mm ih =>
    refine r_go 2 rfl ?_ ?_
    · ((try simp (disch := omega) only [ab_all, gr_218_0, nI_cl, row_s, fdC_5, nI_add]) <;> repeat' (first | exact ix_219 (by omega) | rfl | decide | (unfold ab_nz; decide) | refine And.intro ?_ ?_))
    refine r_le rfl (fun h41 => ?_) (fun h41 => ?_)
    · skip
      refine r_go 4 rfl ?_ ?_
      · ((try simp (disch := omega) only [ab_all, gr_218_0, nI_cl, row_s, fdC_5, nI_add]) <;> repeat' (first | exact ix_219 (by omega) | rfl | decide | (unfold ab_nz; decide) | refine And.intro ?_ ?_))
      refine r_ret rfl trivial ?_
      have e : c = N := by (simp (disch := omega) only [Int32.le_iff_toInt_le, Int32.lt_iff_toInt_lt, c_i, m1_i, m5_i, m33_i] at * <;> omega)
      subst e
      simp (disch := omega) only [gr_218_0, nI_cl, row_s, fdC_5]
      exact ⟨rfl, rfl⟩
    · skip
      have hcl : c < N := by (simp (disch := omega) only [Int32.le_iff_toInt_le, Int32.lt_iff_toInt_lt, c_i, m1_i, m5_i, m33_i] at * <;> omega)
      refine r_go 27 rfl ?_ ?_
      · ((try simp (disch := omega) only [ab_all, gr_218_0, nI_cl, row_s, fdC_5, nI_add]) <;> repeat' (first | exact ix_219 (by omega) | rfl | decide | (unfold ab_nz; decide) | refine And.intro ?_ ?_))
      simp (disch := omega) only [gr_218_0, nI_cl, row_s, fdC_5, nI_add, pk_mul, row_up, pk_un]
      rw [fb_eq w (by omega), show n + c + 1 = n + (c + 1) by omega, fdC_s]
      exact r_lk (ih (c + 1) (by omega) (by omega)) rfl
theorem m_feed {i m : ab_I} (hm : mo i m) (hJ : InM m) (h13 : i 218 13 = (-1)) (w : Int64) (n : Int32) : ab_K 1 176 [.ref 218, .long w, .int n] i (rfQ i (S_feed w n m)) := by
  (have hI := hJ.1.1; have hX := InS_X hJ.1; have hs := hm.1)
  obtain ⟨e5, l5⟩ := In5 hJ.1
  refine k_of rfl ?_
  refine r_go 3 rfl ?_ ?_
  · (simp only [ab_all, gr_218_0, nI_add]; repeat' (first | exact ix_219 (by omega) | rfl | decide | (unfold ab_nz; decide) | refine And.intro ?_ ?_))
  refine r_cv rfl trivial ((m_in _ _ _)) (by decide) ?_
  refine r_bN rfl (fun h7 => ?_) (fun h7 => ?_)
  · skip
    obtain ⟨N, hN1, hN8, rfl⟩ : ∃ N, 1 ≤ N ∧ N ≤ 8 ∧ n = nI N := by
        have q : 1 ≤ n.toInt ∧ n.toInt ≤ 8 := by clear hm hJ hI hX hs h13 e5 l5; (simp (disch := omega) only [Int32.le_iff_toInt_le, Int32.lt_iff_toInt_lt, c_i, m1_i, m5_i, m33_i] at * <;> omega)
        exact ⟨n.toNatClampNeg, by rw [tn_i]; omega, by rw [tn_i]; omega, tn_of (by omega)⟩
    generalize hn : (m 219 5).toNatClampNeg = n at e5 l5
    have hP : S_feed w (nI N) m = if nI 60 < nI (n + N) then er m 4 else (nI (n + N), ab_row m 219 (fdC w n N (m 219))) := by
        unfold S_feed
        rw [if_pos h7, ← e5, nI_cl (show n < 2147483648 by omega), nI_cl (show N < 2147483648 by omega), nI_add]
    refine r_go 7 rfl ?_ ?_
    · (simp only [ab_all, gr_218_0, nI_add]; repeat' (first | exact ix_219 (by omega) | rfl | decide | (unfold ab_nz; decide) | refine And.intro ?_ ?_))
    rw [rowI hs, nI_cl (by decide), ← e5, nI_add]
    refine r_le rfl (fun h26 => ?_) (fun h26 => ?_)
    · skip
      refine r_go 2 rfl ?_ ?_
      · (simp only [ab_all, gr_218_0, nI_add]; repeat' (first | exact ix_219 (by omega) | rfl | decide | (unfold ab_nz; decide) | refine And.intro ?_ ?_))
      have h60 : n + N ≤ 60 := by have q := h26; rw [Int32.lt_iff_toInt_lt, c_i (by omega), c_i (by omega)] at q; omega
      have K := mfd_loop (w := w) (i := i) (s := m 219) hN8 h60 (N + 1) 0 (by omega) (by omega)
      rw [fdC_0 e5.symm, ← hs, row_id] at K
      refine r_lk (r_mono K ?_) rfl
      rintro v k ⟨rfl, rfl⟩
      rw [hs]
      exact rf_to (hP.trans (if_neg h26)) (rf_w hm h13)
    · skip
      refine r_go 2 rfl ?_ ?_
      · (simp only [ab_all, gr_218_0, nI_add]; repeat' (first | exact ix_219 (by omega) | rfl | decide | (unfold ab_nz; decide) | refine And.intro ?_ ?_))
      refine r_cv rfl rfl ((m_error 4 (by decide))) (by decide) ?_
      refine r_ret rfl trivial ?_
      exact rf_to (hP.trans (if_pos h26)) (rf_er hm h13)
  · skip
    refine r_go 2 rfl ?_ ?_
    · (simp only [ab_all, gr_218_0, nI_add]; repeat' (first | exact ix_219 (by omega) | rfl | decide | (unfold ab_nz; decide) | refine And.intro ?_ ?_))
    refine r_cv rfl rfl ((m_error 1 (by decide))) (by decide) ?_
    refine r_ret rfl trivial ?_
    exact rf_to (if_neg (by simp only [h7, if_true, if_false, not_true, not_false_eq_true, and_true, true_and, and_false, false_and, or_true, true_or, or_false, false_or, and_self, or_self, not_false_eq_true])) (rf_er hm h13)
theorem n_feed {m : ab_I} (hJ : InM m) (w : Int64) (n : Int32) : InM (S_feed w n m).2 := by
  unfold S_feed
  obtain ⟨e5, l5⟩ := In5 hJ.1
  split
  · rename_i h
    split
    · exact InM_er hJ
    · rename_i h2
      obtain ⟨N, hN1, hN8, rfl⟩ : ∃ N, 1 ≤ N ∧ N ≤ 8 ∧ n = nI N := by
        have q : 1 ≤ n.toInt ∧ n.toInt ≤ 8 := by clear h2 e5 l5 hJ; (simp (disch := omega) only [Int32.le_iff_toInt_le, Int32.lt_iff_toInt_lt, c_i, m1_i, m5_i, m33_i] at * <;> omega)
        exact ⟨n.toNatClampNeg, by rw [tn_i]; omega, by rw [tn_i]; omega, tn_of (by omega)⟩
      rw [← e5, nI_add, Int32.lt_iff_toInt_lt, c_i (by omega), c_i (by omega)] at h2
      have h60 : (m 219 5).toNatClampNeg + N ≤ 60 := by omega
      rw [nI_cl (show N < 2147483648 by omega)]
      obtain ⟨n5, hn5, q5, r5⟩ := hJ.1.2.2.2.1
      have en : (m 219 5).toNatClampNeg = n5 := by rw [q5, nI_cl (by omega)]
      rw [en] at h60 ⊢
      refine InM_w hJ (InS_k hJ.1 (fun k a b c => fdC_k k a (Or.inl c) h60) ⟨n5 + N, h60, fdC_5, fun k hk => ?_⟩ ?_)
      · unfold fdC
        rw [if_neg (by omega)]
        by_cases e : n5 ≤ k
        · rw [if_pos (by omega)]
          exact fb_rg _ _
        · rw [if_neg (by omega)]
          exact r5 k (by omega)
      · rw [fdC_k 6 (by decide) (Or.inl (by decide)) h60]
        exact hJ.1.2.2.2.2
  · exact InM_er hJ
