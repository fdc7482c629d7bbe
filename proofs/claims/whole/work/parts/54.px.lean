/-! untell; what changes with one text -/
def tk (u k : Nat) : Prop := 146 + 125 * u ≤ k ∧ k < 271 + 125 * u
theorem LwR_1 {c u : Nat} {s z : Vc} {i j : ab_I} (h : LwR c u s i) (e : ∀ k, tk u k → z k = s k) (hn : txN s u ≤ 60) (e1 : j (c + 1) = i (c + 1)) (e2 : j (c + 2) = i (c + 2)) : LwR c u z j := by
  unfold tk at e
  have en : txN z u = txN s u := by unfold txN; rw [e _ (by omega)]
  unfold LwR at h ⊢
  rw [en]
  refine RoR_far ⟨h.1, fun k hk => ?_⟩ e1 e2
  have := h.2 k hk
  rw [this]
  show enc u (txe s u k) = enc u (txe z u k)
  unfold txe
  rw [e _ (by omega), e _ (by omega)]
theorem InX_1 {s z : Vc} {u : Nat} (h : InX s u) (hz : ∀ k, tk u k → z k = s k) : InX z u := by
  unfold tk at hz
  have en : txN z u = txN s u := by unfold txN; rw [hz _ (by omega)]
  have e : txt z u = txt s u := by
    unfold txt
    rw [en]
    refine List.map_congr_left (fun k hk => ?_)
    have hk2 := List.mem_range.mp hk
    have h60 := h.2.1
    unfold txe
    rw [hz _ (by omega), hz _ (by omega)]
  unfold InX
  rw [en, e, hz _ (by omega)]
  exact h
/-- one law's text and the tape's length are new -/
theorem WhR_u {u : Nat} {s z : Vc} {i j : ab_I} (hu : u < 2) (hI : InS s) (h : WhR 1 s i) (hz : ∀ k, k ≠ 5 → ¬ tk u k → z k = s k) (e : ∀ q, 1 ≤ q → q ≤ 34 → q ≠ 24 + 4 * u → q ≠ 25 + 4 * u → q ≠ 31 → q ≠ 26 → q ≠ 30 → j q = i q) (hl : LwR (23 + 4 * u) u z j) (h5 : RoR 31 (z 5).toNatClampNeg (fun k => z (396 + k)) j) : WhR 1 z j := by
  obtain ⟨h1, h2, h3, _, h6⟩ := h
  unfold tk at hz
  have l6 := (In6 hI).2
  have hT : TwR 2 z j := TwR_s (TwR_far h1 hI.1.1.2 hI.1.2.1.2 (fun q a b => e q (by omega) (by omega) (by omega) (by omega) (by omega) (by omega) (by omega))) hI.1.1.2 hI.1.2.1.2 (fun k a b c => hz k a (by omega))
  have hW : RoR 33 (z 6).toNatClampNeg (fun k => z (456 + k)) j := by
    rw [hz 6 (by decide) (by omega)]
    refine RoR_far ⟨h6.1, fun k hk => ?_⟩ (e _ (by omega) (by omega) (by omega) (by omega) (by omega) (by omega) (by omega)) (e _ (by omega) (by omega) (by omega) (by omega) (by omega) (by omega) (by omega))
    show _ = z (456 + k)
    rw [hz (456 + k) (by omega) (by omega)]
    exact h6.2 k hk
  have hU : u = 0 ∨ u = 1 := by omega
  rcases hU with rfl | rfl
  · exact ⟨hT, hl, LwR_1 h3 (fun k hk => hz k (by unfold tk at hk; omega) (by unfold tk at hk; omega)) hI.2.2.1.2.1 (e _ (by omega) (by omega) (by omega) (by omega) (by omega) (by omega) (by omega)) (e _ (by omega) (by omega) (by omega) (by omega) (by omega) (by omega) (by omega)), h5, hW⟩
  · exact ⟨hT, LwR_1 h2 (fun k hk => hz k (by unfold tk at hk; omega) (by unfold tk at hk; omega)) hI.2.1.2.1 (e _ (by omega) (by omega) (by omega) (by omega) (by omega) (by omega) (by omega)) (e _ (by omega) (by omega) (by omega) (by omega) (by omega) (by omega) (by omega)), hl, h5, hW⟩
theorem InS_u {u : Nat} {s z : Vc} (hu : u < 2) (hI : InS s) (hz : ∀ k, k ≠ 5 → ¬ tk u k → z k = s k) (hX : InX z u) (h5 : ∃ n, n ≤ 60 ∧ z 5 = nI n ∧ ∀ k, k < n → rg (z (396 + k)) 0 255) : InS z := by
  unfold tk at hz
  have hT : InT z := InT_s hI.1 (fun k _ a _ _ c => hz k a (by omega))
  have hW : ∃ n, n ≤ 24 ∧ z 6 = nI n := by rw [hz 6 (by decide) (by omega)]; exact hI.2.2.2.2
  have hU : u = 0 ∨ u = 1 := by omega
  rcases hU with rfl | rfl
  · exact ⟨hT, hX, InX_1 hI.2.2.1 (fun k hk => hz k (by unfold tk at hk; omega) (by unfold tk at hk; omega)), h5, hW⟩
  · exact ⟨hT, InX_1 hI.2.1 (fun k hk => hz k (by unfold tk at hk; omega) (by unfold tk at hk; omega)), hX, h5, hW⟩
theorem of_u {x : Int32} (h : nI 0 ≤ x ∧ x ≤ nI 1) : ∃ u, u < 2 ∧ x = nI u := by
  obtain ⟨j, hj, e⟩ := of_bt (by decide) h
  exact ⟨j, by omega, e⟩
theorem isL_u {u : Nat} (h : u < 2) : isL (23 + 4 * u) := by
  have : u = 0 ∨ u = 1 := by omega
  rcases this with rfl | rfl
  · exact isL_23
  · exact isL_27
theorem k_lawOf {i : ab_I} (u : Nat) (hu : u < 2) : ab_K 0 149 [.ref 0, .int (nI u)] i (ab_V (.ref (23 + 4 * u)) i) := by
  have hU : u = 0 ∨ u = 1 := by omega
  refine k_of rfl ?_
  refine r_go 1 rfl ?_ ?_
  · (first | exact trivial | (simp only [ab_all] <;> decide))
  refine r_ne rfl (fun h1 => ?_) (fun h1 => ?_)
  · skip
    refine r_go 3 rfl ?_ ?_
    · (first | exact trivial | (simp only [ab_all] <;> decide))
    refine r_ret rfl trivial ?_
    (rcases hU with rfl | rfl <;> first | (simp only [gr_0_0, gr_0_1, gr_0_3, gr_0_4, gr_0_5, gr_0_6, gr_0_7, gr_1_0, gr_1_1, gr_1_2, gr_1_3, gr_1_4, gr_35_0, gr_35_1, gr_35_2, gr_35_3, gr_35_4]; exact ⟨rfl, rfl⟩) | exact absurd rfl h1 | (exact absurd h1 (by decide)))
  · skip
    refine r_go 4 rfl ?_ ?_
    · (first | exact trivial | (simp only [ab_all] <;> decide))
    refine r_ret rfl trivial ?_
    (rcases hU with rfl | rfl <;> first | (simp only [gr_0_0, gr_0_1, gr_0_3, gr_0_4, gr_0_5, gr_0_6, gr_0_7, gr_1_0, gr_1_1, gr_1_2, gr_1_3, gr_1_4, gr_35_0, gr_35_1, gr_35_2, gr_35_3, gr_35_4]; exact ⟨rfl, rfl⟩) | exact absurd rfl h1 | (exact absurd h1 (by decide)))
def S_untell (x : Int32) (m : ab_I) : Int32 × ab_I := if nI 0 ≤ x ∧ x ≤ nI 1 then (bI (nI 0 < m 219 (146 + 125 * x.toNatClampNeg)), ab_row m 219 (upd (m 219) (146 + 125 * x.toNatClampNeg) (nI 0))) else er m 1
theorem In_u {s : Vc} {u : Nat} (hI : InS s) (hu : u < 2) : InX s u := by
  have hU : u = 0 ∨ u = 1 := by omega
  rcases hU with rfl | rfl
  · exact hI.2.1
  · exact hI.2.2.1
theorem Lw_u {s : Vc} {u : Nat} {i : ab_I} (h : WhR 1 s i) (hu : u < 2) : LwR (23 + 4 * u) u s i := by
  have hU : u = 0 ∨ u = 1 := by omega
  rcases hU with rfl | rfl
  · exact h.2.1
  · exact h.2.2.1
theorem c_untell {i m : ab_I} (hC : ClsR i m) (hJ : InM m) (x : Int32) : ab_K 3 121 [.ref 0, .int x] i (clQ i (S_untell x m)) := by
  (have hI := hJ.1.1; have hX := InS_X hJ.1; have hT := hC.1.1; have hLw : LwsR (m 219) i := ⟨hC.1.2.1, hC.1.2.2.1⟩; have hE := hC.2.2.2.2.1.1)
  refine k_of rfl ?_
  refine r_go 3 rfl ?_ ?_
  · (first | exact trivial | assumption | (simp (disch := omega) [ab_all, ab_nz, *]; done))
  refine r_cv rfl trivial ((k_within _ _ _)) (by decide) ?_
  refine r_bN rfl (fun h6 => ?_) (fun h6 => ?_)
  · skip
    obtain ⟨u, hu, rfl⟩ := of_u h6
    have hP : S_untell (nI u) m = (bI (nI 0 < m 219 (146 + 125 * u)), ab_row m 219 (upd (m 219) (146 + 125 * u) (nI 0))) := by
        unfold S_untell
        rw [if_pos h6, nI_cl (by omega)]
    have t1 : i (24 + 4 * u) 1 = m 219 (146 + 125 * u) := by
        have q := (Lw_u hC.1 hu).1
        rw [show 23 + 4 * u + 1 = 24 + 4 * u by omega] at q
        rw [q]
        exact (In_u hJ.1 hu).1.symm
    refine r_go 2 rfl ?_ ?_
    · (first | exact trivial | assumption | (simp (disch := omega) [ab_all, ab_nz, *]; done))
    refine r_cv rfl (by first | rfl | exact (isL_u hu).1) ((k_lawOf u hu)) (by decide) ?_
    refine r_cv rfl (by first | rfl | exact (isL_u hu).1) ((k_forget (isL_u hu))) (by decide) ?_
    rw [show 23 + 4 * u + 1 = 24 + 4 * u by omega] at *
    refine r_bE rfl (fun h23 => ?_) (fun h23 => ?_)
    · skip
      refine r_go 1 rfl ?_ ?_
      · (first | exact trivial | assumption | (simp (disch := omega) [ab_all, ab_nz, *]; done))
      refine r_ret rfl trivial ?_
      refine cl_to hP ?_
      rw [t1] at h23
      first | rw [bI_t (by first | exact h23 | exact bI_n0 h23)] | rw [bI_f (by first | exact h23 | exact bI_0 h23)]
      refine cl_w hJ hC (WhR_u hu hJ.1 hC.1 (fun k a b => pk_un (by unfold tk at b; omega)) (fun q a b c d e f g => up_row c) ?_ ?_) (fun q hq => by unfold irr at hq; exact up_row (by omega)) (fun q hq => up_row (by omega))
      · unfold LwR
        rw [show txN (upd (m 219) (146 + 125 * u) (nI 0)) u = 0 by unfold txN; rw [pk_us]; rfl]
        refine ⟨?_, fun k hk => absurd hk (Nat.not_lt_zero _)⟩
        rw [show 23 + 4 * u + 1 = 24 + 4 * u by omega]
        exact up_us
      · rw [pk_un (by omega)]
        have h5 := hC.1.2.2.2.1
        have l5 := (In5 hJ.1).2
        refine RoR_far ⟨h5.1, fun k hk => ?_⟩ (up_row (by omega)) (up_row (by omega))
        show _ = upd (m 219) (146 + 125 * u) (nI 0) (396 + k)
        rw [pk_un (by omega)]
        exact h5.2 k hk
    · skip
      refine r_go 2 rfl ?_ ?_
      · (first | exact trivial | assumption | (simp (disch := omega) [ab_all, ab_nz, *]; done))
      refine r_ret rfl trivial ?_
      refine cl_to hP ?_
      rw [t1] at h23
      first | rw [bI_t (by first | exact h23 | exact bI_n0 h23)] | rw [bI_f (by first | exact h23 | exact bI_0 h23)]
      refine cl_w hJ hC (WhR_u hu hJ.1 hC.1 (fun k a b => pk_un (by unfold tk at b; omega)) (fun q a b c d e f g => up_row c) ?_ ?_) (fun q hq => by unfold irr at hq; exact up_row (by omega)) (fun q hq => up_row (by omega))
      · unfold LwR
        rw [show txN (upd (m 219) (146 + 125 * u) (nI 0)) u = 0 by unfold txN; rw [pk_us]; rfl]
        refine ⟨?_, fun k hk => absurd hk (Nat.not_lt_zero _)⟩
        rw [show 23 + 4 * u + 1 = 24 + 4 * u by omega]
        exact up_us
      · rw [pk_un (by omega)]
        have h5 := hC.1.2.2.2.1
        have l5 := (In5 hJ.1).2
        refine RoR_far ⟨h5.1, fun k hk => ?_⟩ (up_row (by omega)) (up_row (by omega))
        show _ = upd (m 219) (146 + 125 * u) (nI 0) (396 + k)
        rw [pk_un (by omega)]
        exact h5.2 k hk
  · skip
    refine r_go 2 rfl ?_ ?_
    · (first | exact trivial | assumption | (simp (disch := omega) [ab_all, ab_nz, *]; done))
    refine r_cv rfl (by first | rfl | exact (isL_u hu).1) ((k_error 1 (by decide) (by decide) hE)) (by decide) ?_
    refine r_ret rfl trivial ?_
    exact cl_to (if_neg (by simp only [h6, if_true, if_false, not_true, not_false_eq_true, and_true, true_and, and_false, false_and, or_true, true_or, or_false, false_or, and_self, or_self, not_false_eq_true])) (cl_er (by decide) (by decide) hJ hC)
theorem m_untell {i m : ab_I} (hm : mo i m) (hJ : InM m) (h13 : i 218 13 = (-1)) (x : Int32) : ab_K 1 189 [.ref 218, .int x] i (rfQ i (S_untell x m)) := by
  (have hI := hJ.1.1; have hX := InS_X hJ.1; have hs := hm.1)
  refine k_of rfl ?_
  refine r_go 3 rfl ?_ ?_
  · ((try simp only [ab_all, gr_218_0, pk_mul, nI_add]) <;> exact ⟨ix_219 (by omega), rfl, by decide⟩)
  refine r_cv rfl trivial ((m_in _ _ _)) (by decide) ?_
  refine r_bN rfl (fun h6 => ?_) (fun h6 => ?_)
  · skip
    obtain ⟨u, hu, rfl⟩ := of_u h6
    have hP : S_untell (nI u) m = (bI (nI 0 < m 219 (146 + 125 * u)), ab_row m 219 (upd (m 219) (146 + 125 * u) (nI 0))) := by
        unfold S_untell
        rw [if_pos h6, nI_cl (by omega)]
    refine r_go 2 rfl ?_ ?_
    · ((try simp only [ab_all, gr_218_0, pk_mul, nI_add]) <;> exact ⟨ix_219 (by omega), rfl, by decide⟩)
    refine r_cv rfl rfl ((m_hasText u hs hu)) (by decide) ?_
    refine r_bE rfl (fun h20 => ?_) (fun h20 => ?_)
    · skip
      refine r_go 12 rfl ?_ ?_
      · ((try simp only [ab_all, gr_218_0, pk_mul, nI_add]) <;> exact ⟨ix_219 (by omega), rfl, by decide⟩)
      refine r_ret rfl trivial ?_
      refine rf_to hP ?_
      first | rw [bI_t (by first | exact h20 | exact bI_n0 h20)] | rw [bI_f (by first | exact h20 | exact bI_0 h20)]
      rw [gr_218_0, pk_mul, nI_add, nI_cl (by omega), up_rowI hs]
      exact rf_w hm h13
    · skip
      refine r_go 13 rfl ?_ ?_
      · ((try simp only [ab_all, gr_218_0, pk_mul, nI_add]) <;> exact ⟨ix_219 (by omega), rfl, by decide⟩)
      refine r_ret rfl trivial ?_
      refine rf_to hP ?_
      first | rw [bI_t (by first | exact h20 | exact bI_n0 h20)] | rw [bI_f (by first | exact h20 | exact bI_0 h20)]
      rw [gr_218_0, pk_mul, nI_add, nI_cl (by omega), up_rowI hs]
      exact rf_w hm h13
  · skip
    refine r_go 2 rfl ?_ ?_
    · ((try simp only [ab_all, gr_218_0, pk_mul, nI_add]) <;> exact ⟨ix_219 (by omega), rfl, by decide⟩)
    refine r_cv rfl rfl ((m_error 1 (by decide))) (by decide) ?_
    refine r_ret rfl trivial ?_
    exact rf_to (if_neg (by simp only [h6, if_true, if_false, not_true, not_false_eq_true, and_true, true_and, and_false, false_and, or_true, true_or, or_false, false_or, and_self, or_self, not_false_eq_true])) (rf_er hm h13)
theorem n_untell {m : ab_I} (hJ : InM m) (x : Int32) : InM (S_untell x m).2 := by
  unfold S_untell
  split
  · rename_i h
    obtain ⟨u, hu, rfl⟩ := of_u h
    rw [nI_cl (by omega)]
    have e0 : txN (upd (m 219) (146 + 125 * u) (nI 0)) u = 0 := by unfold txN; rw [pk_us]; rfl
    refine InM_w hJ (InS_u hu hJ.1 (fun k a b => pk_un (by unfold tk at b; omega)) ⟨?_, by rw [e0]; decide, Or.inl e0⟩ ?_)
    · rw [e0, pk_us]
    · obtain ⟨n, hn, h4, h5⟩ := hJ.1.2.2.2.1
      exact ⟨n, hn, by rw [pk_un (by omega)]; exact h4, fun k hk => by rw [pk_un (by omega)]; exact h5 k hk⟩
  · exact InM_er hJ
