/-! the public methods: what they share -/
theorem cl_to {i : ab_I} {p p' : Int32 × ab_I} {w : Option Value} {j : ab_I} (e : p' = p) (h : clQ i p w j) : clQ i p' w j := by rw [e]; exact h
theorem rf_to {i : ab_I} {p p' : Int32 × ab_I} {w : Option Value} {j : ab_I} (e : p' = p) (h : rfQ i p w j) : rfQ i p' w j := by rw [e]; exact h
theorem WhR_e {w : Nat} {s : Vc} {i j : ab_I} (hI : InT s) (h : WhR w s i) (e : ∀ q, w ≤ q → q ≤ w + 33 → q ≠ w + 25 → q ≠ w + 29 → j q = i q) : WhR w s j := by
  obtain ⟨h1, h2, h3, h4, h5⟩ := h
  exact ⟨TwR_far h1 hI.1.2 hI.2.1.2 (fun q a b => e q (by omega) (by omega) (by omega) (by omega)), RoR_far h2 (e _ (by omega) (by omega) (by omega) (by omega)) (e _ (by omega) (by omega) (by omega) (by omega)), RoR_far h3 (e _ (by omega) (by omega) (by omega) (by omega)) (e _ (by omega) (by omega) (by omega) (by omega)), RoR_far h4 (e _ (by omega) (by omega) (by omega) (by omega)) (e _ (by omega) (by omega) (by omega) (by omega)), RoR_far h5 (e _ (by omega) (by omega) (by omega) (by omega)) (e _ (by omega) (by omega) (by omega) (by omega))⟩
theorem cl_w {i j m : ab_I} {z : Vc} {v : Int32} (hJ : InM m) (hC : ClsR i m) (h : WhR 1 z j) (e : ∀ q, q = 0 ∨ (35 ≤ q ∧ ¬ irr q) → j q = i q) (e2 : ∀ q, 218 ≤ q → j q = i q) : clQ i (v, ab_row m 219 z) (some (.int v)) j := by
  obtain ⟨h1, h2, h3, h4, h5, h6⟩ := hC
  have eM : ∀ q : Nat, q ≠ 219 → ab_row m 219 z q = m q := fun q hq => funext (fun b => ab_row_ne hq)
  refine ⟨rfl, ?_, e2⟩
  unfold irr at e
  unfold ClsR ShR ErR TrR
  dsimp only
  rw [row_s, eM 220 (by decide), eM 218 (by decide), eM 228 (by decide), eM 229 (by decide), eM 230 (by decide), eM 222 (by decide), eM 227 (by decide)]
  refine ⟨h, fun z => WhR_e hJ.2.1.1 (h2 z) (fun q a b c d => e q (by omega)), ?_, fun j hj => ?_, ⟨?_, fun k hk => ?_⟩, RoR_far h6 (e _ (by omega)) (e _ (by omega))⟩
  · rw [e 0 (by omega)]
    exact h3
  · obtain ⟨a, b⟩ := h4 j hj
    refine ⟨?_, RoR_far b (e _ (by omega)) (e _ (by omega))⟩
    rw [e _ (by omega)]
    exact a
  · rw [e _ (by omega)]
    exact h5.1
  · rw [e _ (by omega)]
    exact h5.2 k hk
/-- the rows behind the doors are as they were -/
def rt (s z : Vc) : Prop := ∀ k, k = 5 ∨ k = 6 ∨ 146 ≤ k → z k = s k
theorem rt_rf {s : Vc} : rt s s := fun _ _ => rfl
theorem rt_up {s z : Vc} {k : Nat} {x : Int32} (h : rt s z) (hk : k ≠ 5 ∧ k ≠ 6 ∧ k < 146) : rt s (upd z k x) := fun j hj => by rw [pk_un (by omega)]; exact h j hj
theorem rt_tr {s z y : Vc} (h1 : rt s z) (h2 : rt z y) : rt s y := fun k hk => (h2 k hk).trans (h1 k hk)
theorem rt_kp {s z : Vc} (h : kp s z) : rt s z := fun k hk => h k (by omega)
theorem WhR_T {w : Nat} {s z : Vc} {i j : ab_I} (hI : InS s) (h : WhR w s i) (hT : TwR (w + 1) z j) (hz : rt s z) (e : ∀ q, w + 22 ≤ q → q ≤ w + 33 → q ≠ w + 25 → q ≠ w + 29 → j q = i q) : WhR w z j := by
  obtain ⟨h1, h2, h3, h4, h5⟩ := h
  have t0 : LwR (w + 22) 0 s j := RoR_far h2 (e _ (by omega) (by omega) (by omega) (by omega)) (e _ (by omega) (by omega) (by omega) (by omega))
  have t1 : LwR (w + 26) 1 s j := RoR_far h3 (e _ (by omega) (by omega) (by omega) (by omega)) (e _ (by omega) (by omega) (by omega) (by omega))
  refine ⟨hT, LwR_s t0 (by decide) (fun k a b => hz k (by omega)) hI.2.1.2.1, LwR_s t1 (by decide) (fun k a b => hz k (by omega)) hI.2.2.1.2.1, ?_, ?_⟩
  · rw [hz 5 (by omega)]
    refine ⟨by rw [e _ (by omega) (by omega) (by omega) (by omega)]; exact h4.1, fun k hk => ?_⟩
    show j (w + 30 + 1) k = z (396 + k)
    rw [e _ (by omega) (by omega) (by omega) (by omega), hz _ (by omega)]
    exact h4.2 k hk
  · rw [hz 6 (by omega)]
    refine ⟨by rw [e _ (by omega) (by omega) (by omega) (by omega)]; exact h5.1, fun k hk => ?_⟩
    show j (w + 32 + 1) k = z (456 + k)
    rw [e _ (by omega) (by omega) (by omega) (by omega), hz _ (by omega)]
    exact h5.2 k hk
theorem cl_T {i j m : ab_I} {z : Vc} {v : Int32} (hJ : InM m) (hC : ClsR i m) (hT : TwR 2 z j) (hz : rt (m 219) z) (e : frT 2 i j) : clQ i (v, ab_row m 219 z) (some (.int v)) j :=
  cl_w hJ hC (WhR_T hJ.1 hC.1 hT hz (fun q a b c d => e q (by omega) (by omega) (by omega))) (fun q hq => e q (by omega) (by omega) (by omega)) (fun q hq => e q (by omega) (by omega) (by omega))
theorem InX_e {s z : Vc} {u : Nat} (hu : u < 2) (h : InX s u) (hz : ∀ k, 146 ≤ k → k < 396 → z k = s k) : InX z u := by
  obtain ⟨e1, e2⟩ := txt_eq hu hz h.2.1
  unfold InX
  rw [e1, e2, hz _ (by omega) (by omega)]
  exact h
theorem InS_T' {s z : Vc} (h : InS s) (hT : InT z) (hz : rt s z) : InS z := by
  obtain ⟨h1, h2, h3, ⟨n, hn, h4, h5⟩, ⟨n', hn', h6⟩⟩ := h
  exact ⟨hT, InX_e (by decide) h2 (fun k a b => hz k (by omega)), InX_e (by decide) h3 (fun k a b => hz k (by omega)), ⟨n, hn, by rw [hz 5 (by omega)]; exact h4, fun k hk => by rw [hz _ (by omega)]; exact h5 k hk⟩, ⟨n', hn', by rw [hz 6 (by omega)]; exact h6⟩⟩
theorem InM_w {m : ab_I} {z : Vc} (h : InM m) (hz : InS z) : InM (ab_row m 219 z) := by
  have eM : ∀ q : Nat, q ≠ 219 → ab_row m 219 z q = m q := fun q hq => funext (fun b => ab_row_ne hq)
  unfold InM
  rw [row_s, eM 220 (by decide), eM 228 (by decide), eM 229 (by decide), eM 218 (by decide)]
  exact ⟨hz, h.2⟩
theorem InM_T {m : ab_I} {z : Vc} (h : InM m) (hT : InT z) (hz : rt (m 219) z) : InM (ab_row m 219 z) := InM_w h (InS_T' h.1 hT hz)
theorem InM_er {m : ab_I} {k : Nat} (h : InM m) : InM (er m k).2 := by
  have eM : ∀ q : Nat, q ≠ 222 → ab_up m 222 k (m 222 k + nI 1) q = m q := fun q hq => up_row hq
  unfold er InM
  dsimp only
  rw [eM 219 (by decide), eM 220 (by decide), eM 228 (by decide), eM 229 (by decide), eM 218 (by decide)]
  exact h
theorem of_rg {x : Int32} {n : Nat} (h : 0 ≤ x.toInt ∧ x.toInt < n) : ∃ b, b < n ∧ x = nI b := ⟨x.toNatClampNeg, by rw [tn_i]; omega, tn_of h.1⟩
theorem of_bt {x : Int32} {n : Nat} (hn : n < 2147483648) (h : nI 0 ≤ x ∧ x ≤ nI n) : ∃ b, b ≤ n ∧ x = nI b := by
  have h1 : 0 ≤ x.toInt ∧ x.toInt ≤ n := by (simp (disch := omega) only [Int32.le_iff_toInt_le, Int32.lt_iff_toInt_lt, c_i, m1_i, m5_i, m33_i] at * <;> omega)
  exact ⟨x.toNatClampNeg, by rw [tn_i]; omega, tn_of h1.1⟩
theorem isT_2 : isT 2 := by show 2 ∈ Tws; decide
/-! rain, seed -/
def S_rain (v : Int32) (m : ab_I) : Int32 × ab_I := if nI 0 ≤ v ∧ v ≤ nI 9 then (m 219 3, ab_row m 219 (upd (m 219) 3 v)) else er m 1
theorem c_rain {i m : ab_I} (hC : ClsR i m) (hJ : InM m) (v : Int32) : ab_K 3 118 [.ref 0, .int v] i (clQ i (S_rain v m)) := by
  (have hI := hJ.1.1; have hX := InS_X hJ.1; have hT := hC.1.1; have hLw : LwsR (m 219) i := ⟨hC.1.2.1, hC.1.2.2.1⟩; have hE := hC.2.2.2.2.1.1)
  refine k_of rfl ?_
  refine r_go 3 rfl ?_ ?_
  · (first | exact trivial | (simp only [ab_all] <;> decide))
  refine r_cv rfl trivial ((k_within _ _ _)) (by decide) ?_
  refine r_bN rfl (fun h7 => ?_) (fun h7 => ?_)
  · skip
    refine r_go 11 rfl ?_ ?_
    · (first | exact trivial | (simp only [ab_all] <;> decide))
    refine r_ret rfl trivial ?_
    simp only [gr_0_0, gr_0_1, gr_0_3, gr_0_4, gr_0_5, gr_0_6, gr_0_7, gr_1_0, gr_1_1, gr_1_2, gr_1_3, gr_1_4, gr_35_0, gr_35_1, gr_35_2, gr_35_3, gr_35_4]
    rw [show i 2 4 = m 219 3 from hT.1.2.2.1]
    exact cl_to (if_pos h7) (cl_T hJ hC (TwR_c hT (by omega)) (rt_up rt_rf (by omega)) (frT_up frT_rf (by omega)))
  · skip
    refine r_go 2 rfl ?_ ?_
    · (first | exact trivial | (simp only [ab_all] <;> decide))
    refine r_cv rfl rfl ((k_error 1 (by decide) (by decide) hE)) (by decide) ?_
    refine r_ret rfl trivial ?_
    refine cl_to (p := er m 1) (by simp only [S_rain, h7, if_true, if_false, not_true, not_false_eq_true, and_true, true_and, and_false, false_and, or_true, true_or, or_false, false_or, and_self, or_self]) (cl_er (by decide) (by decide) hJ hC)
theorem m_rain {i m : ab_I} (hm : mo i m) (hJ : InM m) (h13 : i 218 13 = (-1)) (v : Int32) : ab_K 1 175 [.ref 218, .int v] i (rfQ i (S_rain v m)) := by
  (have hI := hJ.1.1; have hX := InS_X hJ.1; have hs := hm.1)
  refine k_of rfl ?_
  refine r_go 3 rfl ?_ ?_
  · (first | exact trivial | assumption | (simp (disch := omega) [ab_all, ab_nz, *]; done))
  refine r_cv rfl trivial ((m_in _ _ _)) (by decide) ?_
  refine r_bN rfl (fun h7 => ?_) (fun h7 => ?_)
  · skip
    refine r_go 11 rfl ?_ ?_
    · (simp only [ab_all, gr_218_0]; exact ⟨ix_219 (by decide), ⟨rfl, by decide⟩, ix_219 (by decide), rfl, by decide⟩)
    refine r_ret rfl trivial ?_
    simp (disch := decide) only [gr_218_0, nI_cl, hs]
    rw [up_rowI hs]
    exact rf_to (if_pos h7) (rf_w hm h13)
  · skip
    refine r_go 2 rfl ?_ ?_
    · (first | exact trivial | assumption | (simp (disch := omega) [ab_all, ab_nz, *]; done))
    refine r_cv rfl rfl ((m_error 1 (by decide))) (by decide) ?_
    refine r_ret rfl trivial ?_
    refine rf_to (p := er m 1) (by simp only [S_rain, h7, if_true, if_false, not_true, not_false_eq_true, and_true, true_and, and_false, false_and, or_true, true_or, or_false, false_or, and_self, or_self]) (rf_er hm h13)
theorem n_rain {m : ab_I} (hJ : InM m) (v : Int32) : InM (S_rain v m).2 := by
  unfold S_rain
  split
  · rename_i h
    exact InM_T hJ (InT_k hJ.1.1 (by have : rg v 0 9 := (by unfold rg; clear hJ; (simp (disch := omega) only [Int32.le_iff_toInt_le, Int32.lt_iff_toInt_lt, c_i, m1_i, m5_i, m33_i] at * <;> omega)); simp [this])) (rt_up rt_rf (by omega))
  · exact InM_er hJ
def S_seed (v : Int32) (m : ab_I) : Int32 × ab_I := (m 219 7, ab_row m 219 (upd (m 219) 7 v))
theorem c_seed {i m : ab_I} (hC : ClsR i m) (hJ : InM m) (v : Int32) : ab_K 0 124 [.ref 0, .int v] i (clQ i (S_seed v m)) := by
  (have hI := hJ.1.1; have hX := InS_X hJ.1; have hT := hC.1.1; have hLw : LwsR (m 219) i := ⟨hC.1.2.1, hC.1.2.2.1⟩; have hE := hC.2.2.2.2.1.1)
  refine k_of rfl ?_
  refine r_go 11 rfl ?_ ?_
  · (first | exact trivial | (simp only [ab_all] <;> decide))
  refine r_ret rfl trivial ?_
  simp only [gr_0_0, gr_0_1, gr_0_3, gr_0_4, gr_0_5, gr_0_6, gr_0_7, gr_1_0, gr_1_1, gr_1_2, gr_1_3, gr_1_4, gr_35_0, gr_35_1, gr_35_2, gr_35_3, gr_35_4]
  rw [show i 2 7 = m 219 7 from hT.1.2.2.2.2.2]
  exact cl_T hJ hC (TwR_c hT (by omega)) (rt_up rt_rf (by omega)) (frT_up frT_rf (by omega))
theorem m_seed {i m : ab_I} (hm : mo i m) (hJ : InM m) (h13 : i 218 13 = (-1)) (v : Int32) : ab_K 0 206 [.ref 218, .int v] i (rfQ i (S_seed v m)) := by
  (have hI := hJ.1.1; have hX := InS_X hJ.1; have hs := hm.1)
  refine k_of rfl ?_
  refine r_go 11 rfl ?_ ?_
  · (simp only [ab_all, gr_218_0]; exact ⟨ix_219 (by decide), ⟨rfl, by decide⟩, ix_219 (by decide), rfl, by decide⟩)
  refine r_ret rfl trivial ?_
  simp (disch := decide) only [gr_218_0, nI_cl, hs]
  rw [up_rowI hs]
  exact rf_w hm h13
theorem n_seed {m : ab_I} (hJ : InM m) (v : Int32) : InM (S_seed v m).2 := InM_T hJ (InT_k hJ.1.1 (by omega)) (rt_up rt_rf (by omega))
/-! basins and doors told -/
abbrev okB (s : Vc) (x : Int32) : Prop := 0 ≤ x.toInt ∧ x.toInt < nB s
abbrev okD (s : Vc) (x : Int32) : Prop := 0 ≤ x.toInt ∧ x.toInt < nD s
theorem m_isB {i : ab_I} {s : Vc} (x : Int32) (hs : i 219 = s) (hI : InT s) : ab_K 1 158 [.ref 218, .int x] i (ab_V (.int (bI (0 ≤ x.toInt ∧ x.toInt < nB s))) i) := by
  refine k_of rfl ?_
  refine r_go 8 rfl ?_ ?_
  · (simp only [ab_all, gr_218_0]; exact ⟨ix_219 (by decide), rfl, by decide⟩)
  refine r_cv rfl trivial ((m_in _ _ _)) (by decide) ?_
  refine r_ret rfl (by (first | exact Or.inl rfl | exact Or.inr rfl | exact bI_or)) ?_
  rw [rowI hs, nI_cl (by decide), hI.1.1, bI_cg (in_cg (Nat.le_trans hI.1.2 (by decide)))]
  exact ⟨rfl, rfl⟩
theorem m_isD {i : ab_I} {s : Vc} (x : Int32) (hs : i 219 = s) (hI : InT s) : ab_K 1 159 [.ref 218, .int x] i (ab_V (.int (bI (0 ≤ x.toInt ∧ x.toInt < nD s))) i) := by
  refine k_of rfl ?_
  refine r_go 8 rfl ?_ ?_
  · (simp only [ab_all, gr_218_0]; exact ⟨ix_219 (by decide), rfl, by decide⟩)
  refine r_cv rfl trivial ((m_in _ _ _)) (by decide) ?_
  refine r_ret rfl (by (first | exact Or.inl rfl | exact Or.inr rfl | exact bI_or)) ?_
  rw [rowI hs, nI_cl (by decide), hI.2.1.1, bI_cg (in_cg (Nat.le_trans hI.2.1.2 (by decide)))]
  exact ⟨rfl, rfl⟩
theorem bTell_eq {t b k : Nat} {s : Vc} {i : ab_I} (hR : TwR t s i) (hb : b < nB s) (hk : k < 8) : bTell i (t + 2 + b) k = toldBasin s b (nI k) := by
  unfold bTell toldBasin
  by_cases h0 : k = 0
  · subst h0
    rw [if_pos rfl, if_pos rfl]
    unfold lev
    rw [← hR.2.1 b hb 0 (by decide), ← hR.2.1 b hb 1 (by decide)]
    rfl
  · rw [if_neg h0, if_neg (fun z => h0 ((nI_eq (by omega) (by omega)).mp z)), if_neg (fun z => by have := (nI_eq (by omega) (by omega)).mp z; omega), pk_sub (by omega), nI_cl (by omega)]
    exact hR.2.1 b hb _ (by omega)
theorem k_ofBasin {t : Nat} {s : Vc} {i : ab_I} (b k : Nat) (hk : k ≤ 8) (ht : isT t) (hI : InT s) (hX : InXs s) (hR : TwR t s i) (hL : LwsR s i) (hb : b < nB s) : ab_K 4 93 [.ref t, .int (nI b), .int (nI k), .ref 23] i (fun v i' => v = some (.int (toldBasin s b (nI k))) ∧ sl i i') := by
  have b6 : b < 6 := by have := hI.1.2; omega
  refine k_of rfl ?_
  refine r_go 2 rfl ?_ ?_
  · (first | exact trivial | assumption | (simp (disch := omega) [ab_all, ab_nz, *]; done))
  refine r_ne rfl (fun h3 => ?_) (fun h3 => ?_)
  · skip
    refine r_go 2 rfl ?_ ?_
    · (first | exact trivial | assumption | (simp (disch := omega) [ab_all, ab_nz, *]; done))
    refine r_cv rfl (by first | exact tg_t ht | exact tg_b ht b6) ((k_basinAt b ht b6)) (by decide) ?_
    refine r_go 1 rfl ?_ ?_
    · (first | exact trivial | assumption | (simp (disch := omega) [ab_all, ab_nz, *]; done))
    refine r_cv rfl (by first | exact tg_t ht | exact tg_b ht b6) ((k_btells k (by rw [nI_eq (by omega) (by omega)] at h3; omega) (tg_b ht b6) (by rw [show i (t + 2 + b) 0 = bs s b 1 from hR.2.1 b hb 1 (by decide)]; exact Int.lt_of_lt_of_le (by decide) (hI.2.2.2.2.1 b hb 1 (by decide)).1))) (by decide) ?_
    refine r_ret rfl trivial ?_
    first | exact ⟨by unfold toldBasin; rw [h3, if_neg (by decide), if_pos rfl], hf⟩ | exact ⟨by rw [bTell_eq hR hb (by rw [nI_eq (by omega) (by omega)] at h3; omega)], sl_rf⟩
  · skip
    refine r_go 3 rfl ?_ ?_
    · (first | exact trivial | assumption | (simp (disch := omega) [ab_all, ab_nz, *]; done))
    refine r_c rfl (by first | exact tg_t ht | exact tg_b ht b6) ((k_sumV ht hI b6 hX hR hL)) (by decide) ?_
    rintro v i' ⟨rfl, hf⟩
    refine r_go 1 rfl ?_ ?_
    · (first | exact trivial | assumption | (simp (disch := omega) [ab_all, ab_nz, *]; done))
    refine r_ret rfl trivial ?_
    first | exact ⟨by unfold toldBasin; rw [h3, if_neg (by decide), if_pos rfl], hf⟩ | exact ⟨by rw [bTell_eq hR hb (by rw [nI_eq (by omega) (by omega)] at h3; omega)], sl_rf⟩
theorem m_toldB {i : ab_I} {s : Vc} (b k : Nat) (hk : k ≤ 8) (hs : i 219 = s) (hI : InT s) (hX : InXs s) (hb : b < nB s) : ab_K 6 166 [.ref 218, .int (nI b), .int (nI k)] i (fun v i' => v = some (.int (toldBasin s b (nI k))) ∧ sr i i') := by
  have b6 : b < 6 := by have := hI.1.2; omega
  refine k_of rfl ?_
  refine r_go 1 rfl ?_ ?_
  · (first | exact trivial | assumption | (simp (disch := omega) [ab_all, ab_nz, *]; done))
  refine r_ne rfl (fun h1 => ?_) (fun h1 => ?_)
  · skip
    refine r_go 2 rfl ?_ ?_
    · (first | exact trivial | assumption | (simp (disch := omega) [ab_all, ab_nz, *]; done))
    refine r_ne rfl (fun h15 => ?_) (fun h15 => ?_)
    · skip
      refine r_go 5 rfl ?_ ?_
      · (first | exact trivial | assumption | (simp (disch := omega) [ab_all, ab_nz, *]; done))
      rw [pk_sub (by rw [eq_i] at h1; (simp (disch := omega) only [Int32.le_iff_toInt_le, Int32.lt_iff_toInt_lt, c_i, m1_i, m5_i, m33_i] at * <;> omega))]
      refine r_cv rfl rfl ((m_of b (k - 1) hs (by omega))) (by decide) ?_
      refine r_ret rfl trivial ?_
      first | exact ⟨by unfold toldBasin; rw [if_pos h1], sr_rf⟩ | exact ⟨by unfold toldBasin; rw [if_neg h1, if_pos h15], hf⟩ | exact ⟨by unfold toldBasin; rw [if_neg h1, if_neg h15, pk_sub (by rw [eq_i] at h1; (simp (disch := omega) only [Int32.le_iff_toInt_le, Int32.lt_iff_toInt_lt, c_i, m1_i, m5_i, m33_i] at * <;> omega)), nI_cl (by omega)], sr_rf⟩
    · skip
      refine r_go 2 rfl ?_ ?_
      · (first | exact trivial | assumption | (simp (disch := omega) [ab_all, ab_nz, *]; done))
      refine r_c rfl rfl ((m_votesOn b hs hI hX)) (by decide) ?_
      rintro v i' ⟨rfl, hf⟩
      refine r_go 1 rfl ?_ ?_
      · (first | exact trivial | assumption | (simp (disch := omega) [ab_all, ab_nz, *]; done))
      refine r_ret rfl trivial ?_
      first | exact ⟨by unfold toldBasin; rw [if_pos h1], sr_rf⟩ | exact ⟨by unfold toldBasin; rw [if_neg h1, if_pos h15], hf⟩ | exact ⟨by unfold toldBasin; rw [if_neg h1, if_neg h15, pk_sub (by rw [eq_i] at h1; (simp (disch := omega) only [Int32.le_iff_toInt_le, Int32.lt_iff_toInt_lt, c_i, m1_i, m5_i, m33_i] at * <;> omega)), nI_cl (by omega)], sr_rf⟩
  · skip
    refine r_go 2 rfl ?_ ?_
    · (first | exact trivial | assumption | (simp (disch := omega) [ab_all, ab_nz, *]; done))
    refine r_cv rfl rfl ((m_level b hs hI hb)) (by decide) ?_
    refine r_go 1 rfl ?_ ?_
    · (first | exact trivial | assumption | (simp (disch := omega) [ab_all, ab_nz, *]; done))
    refine r_ret rfl trivial ?_
    first | exact ⟨by unfold toldBasin; rw [if_pos h1], sr_rf⟩ | exact ⟨by unfold toldBasin; rw [if_neg h1, if_pos h15], hf⟩ | exact ⟨by unfold toldBasin; rw [if_neg h1, if_neg h15, pk_sub (by rw [eq_i] at h1; (simp (disch := omega) only [Int32.le_iff_toInt_le, Int32.lt_iff_toInt_lt, c_i, m1_i, m5_i, m33_i] at * <;> omega)), nI_cl (by omega)], sr_rf⟩
def S_basinIs (b w : Int32) (m : ab_I) : Int32 × ab_I := if okB (m 219) b ∧ nI 0 ≤ w ∧ w ≤ nI 8 then (toldBasin (m 219) b.toNatClampNeg w, m) else er m 1
theorem c_basinIs {i m : ab_I} (hC : ClsR i m) (hJ : InM m) (x w : Int32) : ab_K 5 112 [.ref 0, .int x, .int w] i (clQ i (S_basinIs x w m)) := by
  (have hI := hJ.1.1; have hX := InS_X hJ.1; have hT := hC.1.1; have hLw : LwsR (m 219) i := ⟨hC.1.2.1, hC.1.2.2.1⟩; have hE := hC.2.2.2.2.1.1)
  have t2 : i 2 2 = nI (nB (m 219)) := hT.1.1.trans hI.1.1
  refine k_of rfl ?_
  refine r_go 4 rfl ?_ ?_
  · (first | exact trivial | (simp only [ab_all] <;> decide))
  simp only [gr_0_0, gr_0_1, gr_0_3, gr_0_4, gr_0_5, gr_0_6, gr_0_7, gr_1_0, gr_1_1, gr_1_2, gr_1_3, gr_1_4, gr_35_0, gr_35_1, gr_35_2, gr_35_3, gr_35_4]
  refine r_cv rfl rfl ((k_hasB x isT_2 t2 (Nat.le_trans hI.1.2 (by decide)))) (by decide) ?_
  refine r_bE rfl (fun h11 => ?_) (fun h11 => ?_)
  · skip
    refine r_go 2 rfl ?_ ?_
    · (first | exact trivial | (simp only [ab_all] <;> decide))
    refine r_cv rfl rfl ((k_error 1 (by decide) (by decide) hE)) (by decide) ?_
    refine r_ret rfl trivial ?_
    exact cl_to (if_neg (by simp only [h11, if_true, if_false, not_true, not_false_eq_true, and_true, true_and, and_false, false_and, or_true, true_or, or_false, false_or, and_self, or_self, not_false_eq_true])) (cl_er (by decide) (by decide) hJ hC)
  · skip
    refine r_go 3 rfl ?_ ?_
    · (first | exact trivial | (simp only [ab_all] <;> decide))
    refine r_cv rfl trivial ((k_within _ _ _)) (by decide) ?_
    refine r_bN rfl (fun h21 => ?_) (fun h21 => ?_)
    · skip
      refine r_go 8 rfl ?_ ?_
      · (first | exact trivial | (simp only [ab_all] <;> decide))
      have hP : S_basinIs x w m = (toldBasin (m 219) x.toNatClampNeg w, m) := if_pos ⟨h11, h21⟩
      obtain ⟨b, hb, rfl⟩ := of_rg h11
      obtain ⟨k, hk, rfl⟩ := of_bt (by decide) h21
      rw [nI_cl (by have := hI.1.2; omega)] at hP
      simp only [gr_0_0, gr_0_1, gr_0_3, gr_0_4, gr_0_5, gr_0_6, gr_0_7, gr_1_0, gr_1_1, gr_1_2, gr_1_3, gr_1_4, gr_35_0, gr_35_1, gr_35_2, gr_35_3, gr_35_4]
      refine r_c rfl rfl ((k_ofBasin b k hk isT_2 hI hX hT hLw hb)) (by decide) ?_
      rintro v i' ⟨rfl, hf⟩
      refine r_ret rfl trivial ?_
      exact cl_to hP (cl_sl hJ hC hf)
    · skip
      refine r_go 2 rfl ?_ ?_
      · (first | exact trivial | (simp only [ab_all] <;> decide))
      refine r_cv rfl rfl ((k_error 1 (by decide) (by decide) hE)) (by decide) ?_
      refine r_ret rfl trivial ?_
      exact cl_to (if_neg (by simp only [h11, h21, if_true, if_false, not_true, not_false_eq_true, and_true, true_and, and_false, false_and, or_true, true_or, or_false, false_or, and_self, or_self, not_false_eq_true])) (cl_er (by decide) (by decide) hJ hC)
theorem m_basinIs {i m : ab_I} (hm : mo i m) (hJ : InM m) (h13 : i 218 13 = (-1)) (x w : Int32) : ab_K 7 167 [.ref 218, .int x, .int w] i (rfQ i (S_basinIs x w m)) := by
  (have hI := hJ.1.1; have hX := InS_X hJ.1; have hs := hm.1)
  refine k_of rfl ?_
  refine r_go 2 rfl ?_ ?_
  · (first | exact trivial | assumption | (simp (disch := omega) [ab_all, ab_nz, *]; done))
  refine r_cv rfl rfl ((m_isB x hs hI)) (by decide) ?_
  refine r_bE rfl (fun h5 => ?_) (fun h5 => ?_)
  · skip
    refine r_go 2 rfl ?_ ?_
    · (first | exact trivial | assumption | (simp (disch := omega) [ab_all, ab_nz, *]; done))
    refine r_cv rfl rfl ((m_error 1 (by decide))) (by decide) ?_
    refine r_ret rfl trivial ?_
    first | exact rf_to hP (rf_sr hm h13 hf) | exact rf_to (if_neg (by simp only [h5, if_true, if_false, not_true, not_false_eq_true, and_true, true_and, and_false, false_and, or_true, true_or, or_false, false_or, and_self, or_self, not_false_eq_true])) (rf_er hm h13)
  · skip
    refine r_go 3 rfl ?_ ?_
    · (first | exact trivial | assumption | (simp (disch := omega) [ab_all, ab_nz, *]; done))
    refine r_cv rfl trivial ((m_in _ _ _)) (by decide) ?_
    refine r_bE rfl (fun h15 => ?_) (fun h15 => ?_)
    · skip
      refine r_go 2 rfl ?_ ?_
      · (first | exact trivial | assumption | (simp (disch := omega) [ab_all, ab_nz, *]; done))
      refine r_cv rfl rfl ((m_error 1 (by decide))) (by decide) ?_
      refine r_ret rfl trivial ?_
      first | exact rf_to hP (rf_sr hm h13 hf) | exact rf_to (if_neg (by simp only [h5, h15, if_true, if_false, not_true, not_false_eq_true, and_true, true_and, and_false, false_and, or_true, true_or, or_false, false_or, and_self, or_self, not_false_eq_true])) (rf_er hm h13)
    · skip
      have hP : S_basinIs x w m = (toldBasin (m 219) x.toNatClampNeg w, m) := if_pos ⟨h5, h15⟩
      obtain ⟨b, hb, rfl⟩ := of_rg h5
      obtain ⟨k, hk, rfl⟩ := of_bt (by decide) h15
      rw [nI_cl (by have := hI.1.2; omega)] at hP
      refine r_go 3 rfl ?_ ?_
      · (first | exact trivial | assumption | (simp (disch := omega) [ab_all, ab_nz, *]; done))
      refine r_c rfl rfl ((m_toldB b k hk hs hI hX hb)) (by decide) ?_
      rintro v i' ⟨rfl, hf⟩
      refine r_go 1 rfl ?_ ?_
      · (first | exact trivial | assumption | (simp (disch := omega) [ab_all, ab_nz, *]; done))
      refine r_ret rfl trivial ?_
      first | exact rf_to hP (rf_sr hm h13 hf) | exact rf_to (if_neg (by simp only [h5, h15, if_true, if_false, not_true, not_false_eq_true, and_true, true_and, and_false, false_and, or_true, true_or, or_false, false_or, and_self, or_self, not_false_eq_true])) (rf_er hm h13)
theorem n_basinIs {m : ab_I} (hJ : InM m) (x w : Int32) : InM (S_basinIs x w m).2 := by
  unfold S_basinIs
  split
  · exact hJ
  · exact InM_er hJ
