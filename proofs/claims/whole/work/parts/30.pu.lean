/-! the public methods: what they answer and leave, by the reference's rows -/
def mo (i m : ab_I) : Prop := i 219 = m 219 ∧ i 220 = m 220 ∧ i 222 = m 222 ∧ i 227 = m 227 ∧ i 228 = m 228 ∧ i 229 = m 229 ∧ i 230 = m 230 ∧ i 218 3 = m 218 3 ∧ i 218 16 = m 218 16
def WhR (w : Nat) (s : Vc) (i : ab_I) : Prop :=
  TwR (w + 1) s i ∧ LwR (w + 22) 0 s i ∧ LwR (w + 26) 1 s i ∧ RoR (w + 30) (s 5).toNatClampNeg (fun k => s (396 + k)) i ∧ RoR (w + 32) (s 6).toNatClampNeg (fun k => s (456 + k)) i
def ShR (i m : ab_I) : Prop := ∀ j, j < 4 → i (204 + 3 * j) 0 = m 228 j ∧ RoR (205 + 3 * j) (m 229 j).toNatClampNeg (fun k => m 230 (24 * j + k)) i
def ErR (i m : ab_I) : Prop := i 216 1 = nI 6 ∧ ∀ k, k < 6 → i 217 k = m 222 (k + 1)
def TrR (i m : ab_I) : Prop := RoR 201 (m 218 16).toNatClampNeg (m 227) i
def ClsR (i m : ab_I) : Prop := WhR 1 (m 219) i ∧ (m 218 3 ≠ nI 0 → WhR 35 (m 220) i) ∧ i 0 2 = m 218 3 ∧ ShR i m ∧ ErR i m ∧ TrR i m
def InM (m : ab_I) : Prop := InS (m 219) ∧ InS (m 220) ∧ (∀ j, j < 4 → (m 228 j = nI 0 ∨ m 228 j = nI 8 ∨ m 228 j = nI 16 ∨ m 228 j = nI 32) ∧ ∃ n, n ≤ 24 ∧ m 229 j = nI n) ∧ (∃ n, n ≤ 30 ∧ m 218 16 = nI n)
/-- cells that tell nothing -/
def irr (q : Nat) : Prop := q = 26 ∨ q = 30 ∨ q = 60 ∨ q = 64 ∨ (69 ≤ q ∧ q ≤ 200) ∨ 218 ≤ q
theorem RoR_e {q n : Nat} {f : Nat → Int32} {i i' : ab_I} (h : RoR q n f i) (e1 : i' q = i q) (e2 : i' (q + 1) = i (q + 1)) : RoR q n f i' := RoR_far h e1 e2
theorem InS_T {s : Vc} (h : InS s) : InT s := h.1
theorem InS_X {s : Vc} (h : InS s) : InXs s := ⟨h.2.1, h.2.2.1⟩
theorem WhR_irr {w : Nat} {s : Vc} {i i' : ab_I} (hI : InT s) (hw : w = 1 ∨ w = 35) (h : WhR w s i) (e : ∀ q, ¬ irr q → i' q = i q) : WhR w s i' := by
  unfold irr at e
  obtain ⟨h1, h2, h3, h4, h5⟩ := h
  exact ⟨TwR_far h1 hI.1.2 hI.2.1.2 (fun q a b => e q (by omega)), RoR_far h2 (e _ (by omega)) (e _ (by omega)), RoR_far h3 (e _ (by omega)) (e _ (by omega)), RoR_far h4 (e _ (by omega)) (e _ (by omega)), RoR_far h5 (e _ (by omega)) (e _ (by omega))⟩
theorem ClsR_irr {i i' m : ab_I} (hJ : InM m) (h : ClsR i m) (e : ∀ q, ¬ irr q → i' q = i q) : ClsR i' m := by
  obtain ⟨h1, h2, h3, h4, h5, h6⟩ := h
  refine ⟨WhR_irr hJ.1.1 (Or.inl rfl) h1 e, fun z => WhR_irr hJ.2.1.1 (Or.inr rfl) (h2 z) e, ?_, fun j hj => ?_, ⟨?_, fun k hk => ?_⟩, RoR_far h6 (e _ (by unfold irr; omega)) (e _ (by unfold irr; omega))⟩
  · rw [e 0 (by unfold irr; omega)]
    exact h3
  · obtain ⟨a, b⟩ := h4 j hj
    refine ⟨?_, RoR_far b (e _ (by unfold irr; omega)) (e _ (by unfold irr; omega))⟩
    rw [e _ (by unfold irr; omega)]
    exact a
  · rw [e _ (by unfold irr; omega)]
    exact h5.1
  · rw [e _ (by unfold irr; omega)]
    exact h5.2 k hk
/-- what a public method answers and leaves, the class's, the reference's -/
def clQ (i : ab_I) (p : Int32 × ab_I) : Option Value → ab_I → Prop := fun w j => w = some (.int p.1) ∧ ClsR j p.2 ∧ ∀ q, 218 ≤ q → j q = i q
def rfQ (i : ab_I) (p : Int32 × ab_I) : Option Value → ab_I → Prop := fun w j => w = some (.int p.1) ∧ mo j p.2 ∧ j 218 13 = (-1) ∧ ∀ q, q < 218 ∨ 232 ≤ q → j q = i q
def er (m : ab_I) (k : Nat) : Int32 × ab_I := ((-1000000) - nI k, ab_up m 222 k (m 222 k + nI 1))
theorem mo_er {i m : ab_I} {k : Nat} (hm : mo i m) : mo (ab_up i 222 k (i 222 k + nI 1)) (ab_up m 222 k (m 222 k + nI 1)) := by
  obtain ⟨h1, h2, h3, h4, h5, h6, h7, h8, h9⟩ := hm
  refine ⟨?_, ?_, ?_, ?_, ?_, ?_, ?_, ?_, ?_⟩
  · rw [up_row (by decide), up_row (by decide)]; exact h1
  · rw [up_row (by decide), up_row (by decide)]; exact h2
  · rw [ab_up_row, ab_up_row, h3]
  · rw [up_row (by decide), up_row (by decide)]; exact h4
  · rw [up_row (by decide), up_row (by decide)]; exact h5
  · rw [up_row (by decide), up_row (by decide)]; exact h6
  · rw [up_row (by decide), up_row (by decide)]; exact h7
  · rw [up_row (by decide), up_row (by decide)]; exact h8
  · rw [up_row (by decide), up_row (by decide)]; exact h9
theorem rf_er {i m : ab_I} {k : Nat} (hm : mo i m) (h13 : i 218 13 = (-1)) : rfQ i (er m k) (some (.int ((-1000000) - nI k))) (ab_up i 222 k (i 222 k + nI 1)) :=
  ⟨rfl, mo_er hm, by rw [up_row (by decide)]; exact h13, fun q hq => up_row (by omega)⟩
theorem mo_w {i m : ab_I} {z : Vc} (hm : mo i m) : mo (ab_row i 219 z) (ab_row m 219 z) := by
  obtain ⟨h1, h2, h3, h4, h5, h6, h7, h8, h9⟩ := hm
  have e : ∀ {j : ab_I} {q : Nat}, q ≠ 219 → ab_row j 219 z q = j q := fun hq => funext (fun b => ab_row_ne hq)
  refine ⟨by rw [row_s, row_s], ?_, ?_, ?_, ?_, ?_, ?_, ?_, ?_⟩
  · rw [e (by decide), e (by decide)]; exact h2
  · rw [e (by decide), e (by decide)]; exact h3
  · rw [e (by decide), e (by decide)]; exact h4
  · rw [e (by decide), e (by decide)]; exact h5
  · rw [e (by decide), e (by decide)]; exact h6
  · rw [e (by decide), e (by decide)]; exact h7
  · rw [e (by decide), e (by decide)]; exact h8
  · rw [e (by decide), e (by decide)]; exact h9
theorem rf_w {i m : ab_I} {z : Vc} {v : Int32} (hm : mo i m) (h13 : i 218 13 = (-1)) : rfQ i (v, ab_row m 219 z) (some (.int v)) (ab_row i 219 z) :=
  ⟨rfl, mo_w hm, by rw [show ab_row i 219 z 218 = i 218 from funext (fun b => ab_row_ne (by decide))]; exact h13, fun q hq => funext (fun b => ab_row_ne (by omega))⟩
theorem rf_0 {i m : ab_I} {v : Int32} (hm : mo i m) (h13 : i 218 13 = (-1)) : rfQ i (v, m) (some (.int v)) i := ⟨rfl, hm, h13, fun _ _ => rfl⟩
/-- the scratch of votes, pains and hours -/
theorem mo_sr {i j m : ab_I} (hm : mo i m) (h : sr i j) : mo j m := by
  obtain ⟨h1, h2, h3, h4, h5, h6, h7, h8, h9⟩ := hm
  unfold mo
  rw [h 219 (by decide) (by decide), h 220 (by decide) (by decide), h 222 (by decide) (by decide), h 227 (by decide) (by decide), h 228 (by decide) (by decide), h 229 (by decide) (by decide), h 230 (by decide) (by decide), h 218 (by decide) (by decide)]
  exact ⟨h1, h2, h3, h4, h5, h6, h7, h8, h9⟩
theorem rf_sr {i j m : ab_I} {v : Int32} (hm : mo i m) (h13 : i 218 13 = (-1)) (h : sr i j) : rfQ i (v, m) (some (.int v)) j :=
  ⟨rfl, mo_sr hm h, by rw [h 218 (by decide) (by decide)]; exact h13, fun q hq => h q (by omega) (by omega)⟩
theorem mo_fh {i j m : ab_I} {z : Vc} (hm : mo i m) (h : fh i j) (hz : j 219 = z) : mo j (ab_row m 219 z) := by
  obtain ⟨h1, h2, h3, h4, h5, h6, h7, h8, h9⟩ := hm
  have e : ∀ {q : Nat}, q ≠ 219 → ab_row m 219 z q = m q := fun hq => funext (fun b => ab_row_ne hq)
  unfold mo
  rw [row_s, e (by decide), e (by decide), e (by decide), e (by decide), e (by decide), e (by decide), e (by decide), h 220 (by decide) (by decide) (by decide) (by decide), h 222 (by decide) (by decide) (by decide) (by decide), h 227 (by decide) (by decide) (by decide) (by decide), h 228 (by decide) (by decide) (by decide) (by decide), h 229 (by decide) (by decide) (by decide) (by decide), h 230 (by decide) (by decide) (by decide) (by decide), h 218 (by decide) (by decide) (by decide) (by decide)]
  exact ⟨hz, h2, h3, h4, h5, h6, h7, h8, h9⟩
theorem rf_fh {i j m : ab_I} {z : Vc} {v : Int32} (hm : mo i m) (h13 : i 218 13 = (-1)) (h : fh i j) (hz : j 219 = z) : rfQ i (v, ab_row m 219 z) (some (.int v)) j :=
  ⟨rfl, mo_fh hm h hz, by rw [h 218 (by decide) (by decide) (by decide) (by decide)]; exact h13, fun q hq => h q (by omega) (by omega) (by omega) (by omega)⟩
/-! errors -/
theorem m_error {i : ab_I} (k : Nat) (hk : k < 7) : ab_K 0 154 [.ref 218, .int (nI k)] i (ab_V (.int ((-1000000) - nI k)) (ab_up i 222 k (i 222 k + nI 1))) := by
  refine k_of rfl ?_
  refine r_go 11 rfl ?_ ?_
  · (simp only [ab_all, gr_218_4]; exact ⟨ix_of gt_222 (by omega) (by omega), ix_of gt_222 (by omega) (by omega), rfl, by decide⟩)
  refine r_ret rfl trivial ?_
  rw [gr_218_4, nI_cl (by omega)]
  exact ⟨rfl, rfl⟩
theorem isR_216 : isR 216 6 := ⟨rfl, rfl, by decide⟩
def erC (i : ab_I) (k : Nat) : ab_I := ab_up i 217 (k - 1) (i 217 (k - 1) + nI 1)
theorem k_error {i : ab_I} (k : Nat) (hk : k < 7) (h0 : 1 ≤ k) (hE : i 216 1 = nI 6) : ab_K 2 147 [.ref 0, .int (nI k)] i (ab_V (.int ((-1000000) - nI k)) (erC i k)) := by
  have e1 : nI k - nI 1 = nI (k - 1) := pk_sub h0
  refine k_of rfl ?_
  refine r_go 10 rfl ?_ ?_
  · (simp only [ab_all, gr_0_7] <;> decide)
  rw [gr_0_7, e1]
  refine r_cv rfl rfl ((k_at _ isR_216 hE (by decide))) (by decide) ?_
  rw [rowAt_nI (by omega) (by decide)]
  refine r_go 2 rfl ?_ ?_
  · (simp only [ab_all, gr_0_7] <;> decide)
  refine r_cn rfl rfl ((k_write _ _ isR_216 hE (by decide))) (by decide) ?_
  refine r_go 3 rfl ?_ ?_
  · (simp only [ab_all, gr_0_7] <;> decide)
  refine r_ret rfl trivial ?_
  rw [if_pos (by rw [c_i (by omega)]; omega), nI_cl (by omega)]
  exact ⟨rfl, rfl⟩
theorem ClsR_er {i m : ab_I} {k : Nat} (hk : k < 7) (h0 : 1 ≤ k) (hJ : InM m) (h : ClsR i m) : ClsR (erC i k) (ab_up m 222 k (m 222 k + nI 1)) := by
  obtain ⟨h1, h2, h3, h4, h5, h6⟩ := h
  have eM : ∀ {q : Nat}, q ≠ 222 → ab_up m 222 k (m 222 k + nI 1) q = m q := fun hq => up_row hq
  have eI : ∀ {q : Nat}, q ≠ 217 → erC i k q = i q := fun hq => up_row hq
  have w : ∀ {w : Nat} {s : Vc}, (w = 1 ∨ w = 35) → InT s → WhR w s i → WhR w s (erC i k) := by
    intro w s hw hI h
    obtain ⟨a1, a2, a3, a4, a5⟩ := h
    exact ⟨TwR_far a1 hI.1.2 hI.2.1.2 (fun q a b => eI (by omega)), RoR_far a2 (eI (by omega)) (eI (by omega)), RoR_far a3 (eI (by omega)) (eI (by omega)), RoR_far a4 (eI (by omega)) (eI (by omega)), RoR_far a5 (eI (by omega)) (eI (by omega))⟩
  unfold ClsR ShR TrR
  rw [eM (by decide), eM (by decide), eM (by decide), eM (by decide), eM (by decide), eM (by decide), eM (by decide)]
  refine ⟨w (Or.inl rfl) hJ.1.1 h1, fun z => w (Or.inr rfl) hJ.2.1.1 (h2 z), ?_, fun j hj => ?_, ⟨?_, fun j hj => ?_⟩, RoR_far h6 (eI (by decide)) (eI (by decide))⟩
  · rw [eI (by decide)]
    exact h3
  · obtain ⟨a, b⟩ := h4 j hj
    refine ⟨?_, RoR_far b (eI (by omega)) (eI (by omega))⟩
    rw [eI (by omega)]
    exact a
  · rw [eI (by decide)]
    exact h5.1
  · unfold erC
    by_cases e : j = k - 1
    · subst e
      have e2 := h5.2 (k - 1) hj
      rw [show k - 1 + 1 = k by omega] at e2 ⊢
      rw [up_us, up_us, e2]
    · rw [up_ne (by omega), up_ne (by omega)]
      exact h5.2 j hj
theorem cl_er {i m : ab_I} {k : Nat} (hk : k < 7) (h0 : 1 ≤ k) (hJ : InM m) (h : ClsR i m) : clQ i (er m k) (some (.int ((-1000000) - nI k))) (erC i k) :=
  ⟨rfl, ClsR_er hk h0 hJ h, fun q hq => up_row (by omega)⟩
theorem cl_0 {i m : ab_I} {v : Int32} (h : ClsR i m) : clQ i (v, m) (some (.int v)) i := ⟨rfl, h, fun _ _ => rfl⟩
theorem cl_sl {i j m : ab_I} {v : Int32} (hJ : InM m) (h : ClsR i m) (e : sl i j) : clQ i (v, m) (some (.int v)) j :=
  ⟨rfl, ClsR_irr hJ h (fun q hq => e q (fun z => hq (Or.inl z)) (fun z => hq (Or.inr (Or.inl z)))), fun q hq => e q (by omega) (by omega)⟩
