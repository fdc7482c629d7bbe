/-! votes that are bought; how far a record is off -/
theorem bo_b4 {s : Vc} {d : Nat} {v : Int32} (h : InT s) (hd : d < 12) (h1 : (-1) ≤ v) (h2 : v ≤ nI 2) : InT (upd s (50 + 8 * d + 4) v) ∧ sN s (upd s (50 + 8 * d + 4) v) ∧ rt s (upd s (50 + 8 * d + 4) v) :=
  In_b4 h hd (by unfold rg; rw [Int32.le_iff_toInt_le] at h1 h2; rw [m1_i] at h1; rw [c_i (by decide)] at h2; omega)
abbrev goodV (f : Vc) (n D k : Nat) : Prop := k < n ∧ k < D ∧ (-1) ≤ f k ∧ f k ≤ nI 2
def cvN (f : Vc) (n D : Nat) : Nat → Nat → Nat
  | 0, j => j
  | g + 1, j => if goodV f n D j then cvN f n D g (j + 1) else j
def cvv (f : Vc) (n D : Nat) : Nat := cvN f n D 25 0
theorem cvv_eq {f : Vc} {n D d : Nat} (hn : n ≤ 24) (h1 : ∀ k, k < d → goodV f n D k) (h2 : ¬ goodV f n D d) : cvv f n D = d := by
  have hd : d < 25 := by
    rcases Nat.lt_or_ge 24 d with z | z
    · have := (h1 24 z).1
      omega
    · omega
  have H : ∀ g j, j ≤ d → d < j + g → cvN f n D g j = d := by
    intro g
    induction g with
    | zero => intro j a b; omega
    | succ g ih =>
      intro j a b
      unfold cvN
      by_cases e : j = d
      · subst e
        rw [if_neg h2]
      · rw [if_pos (h1 j (by omega))]
        exact ih (j + 1) (by omega) (by omega)
  exact H 25 0 (by omega) (by omega)
def baN (f : Vc) : Nat → Vc → Vc
  | 0, s => s
  | c + 1, s => upd (baN f c s) (50 + 8 * c + 4) (f c)
theorem In_baN {f : Vc} {n : Nat} {s : Vc} (hI : InT s) : ∀ c, (∀ k, k < c → goodV f n (nD s) k) → InT (baN f c s) ∧ sN s (baN f c s) ∧ rt s (baN f c s)
  | 0, _ => ⟨hI, ⟨rfl, rfl⟩, rt_rf⟩
  | c + 1, h => by
    have h1 := In_baN hI c (fun k hk => h k (by omega))
    have h2 := h c (by omega)
    have h12 := hI.2.1.2
    have h3 := bo_b4 h1.1 (show c < 12 by omega) h2.2.2.1 h2.2.2.2
    exact ⟨h3.1, sN_tr h1.2.1 h3.2.1, rt_tr h1.2.2 h3.2.2⟩
theorem by_loop {q n : Nat} {f : Vc} {s : Vc} {i0 : ab_I} (hI : InT s) (hq : isR q 24) (hq2 : 23 ≤ q) (hn : n ≤ 24) (mm c : Nat) (i : ab_I) (hmm : n + 1 - c < mm) (hc : c ≤ n) (hg : ∀ k, k < c → goodV f n (nD s) k) (hW : RoR q n f i) (hR : TwR 2 (baN f c s) i) (hi : frT 2 i0 i) : ab_R 2 tb_X8_buyAll 2 [some (.ref 2), some (.ref q), some (.int (nI c))] [] i (fun v i' => v = some (.int (nI (cvv f n (nD s)))) ∧ TwR 2 (baN f (cvv f n (nD s)) s) i' ∧ frT 2 i0 i' ∧ ∀ k, k < cvv f n (nD s) → goodV f n (nD s) k) := by
  induction mm generalizing c i with
  | zero => exact absurd hmm (by omega)
  | succ mm ih =>
    have hB := In_baN hI c hg
    have d12 := hI.2.1.2
    have t3 : i 2 3 = nI (nD s) := by rw [hR.1.2.1, hB.1.2.1.1, hB.2.1.2]
    have E : ¬ goodV f n (nD s) c → (some (Value.int (nI c)) = some (Value.int (nI (cvv f n (nD s)))) ∧ TwR 2 (baN f (cvv f n (nD s)) s) i ∧ frT 2 i0 i ∧ ∀ k, k < cvv f n (nD s) → goodV f n (nD s) k) := fun h => by
        rw [cvv_eq hn hg h]
        exact ⟨rfl, hR, hi, hg⟩
    refine r_go 3 rfl ?_ ?_
    · exact tg_t isT_2
    rw [t3]
    refine r_le rfl (fun h7 => ?_) (fun h7 => ?_)
    · skip
      refine r_go 1 rfl ?_ ?_
      · (first | exact trivial | assumption | (simp (disch := omega) [ab_all, ab_nz, *]; done))
      refine r_ret rfl trivial ?_
      refine E (fun hh => ?_)
      obtain ⟨a1, a2, a3, a4⟩ := hh
      first | exact h7 (nI_lt a2 (by omega)) | exact h15 a1 | exact h26 ⟨a3, a4⟩
    · skip
      have hcd : c < nD s := by clear hI hR hi hB t3 E hg hW hq; (simp (disch := omega) only [Int32.le_iff_toInt_le, Int32.lt_iff_toInt_lt, c_i, m1_i, m5_i, m33_i] at * <;> omega)
      refine r_go 2 rfl ?_ ?_
      · (first | exact trivial | assumption | (simp (disch := omega) [ab_all, ab_nz, *]; done))
      refine r_cv rfl (by first | exact tg_t isT_2 | exact hq.1) ((k_hasN c hq hW.1 hn (by omega))) (by decide) ?_
      refine r_bE rfl (fun h15 => ?_) (fun h15 => ?_)
      · skip
        refine r_go 1 rfl ?_ ?_
        · (first | exact trivial | assumption | (simp (disch := omega) [ab_all, ab_nz, *]; done))
        refine r_ret rfl trivial ?_
        refine E (fun hh => ?_)
        obtain ⟨a1, a2, a3, a4⟩ := hh
        first | exact h7 (nI_lt a2 (by omega)) | exact h15 a1 | exact h26 ⟨a3, a4⟩
      · skip
        refine r_go 2 rfl ?_ ?_
        · (first | exact trivial | assumption | (simp (disch := omega) [ab_all, ab_nz, *]; done))
        refine r_cv rfl (by first | exact tg_t isT_2 | exact hq.1) ((k_at (nI c) hq hW.1 hn)) (by decide) ?_
        rw [rowAt_nI h15 (by omega), hW.2 c h15]
        refine r_cv rfl trivial ((k_bought _)) (by decide) ?_
        refine r_bE rfl (fun h26 => ?_) (fun h26 => ?_)
        · skip
          refine r_go 1 rfl ?_ ?_
          · (first | exact trivial | assumption | (simp (disch := omega) [ab_all, ab_nz, *]; done))
          refine r_ret rfl trivial ?_
          refine E (fun hh => ?_)
          obtain ⟨a1, a2, a3, a4⟩ := hh
          first | exact h7 (nI_lt a2 (by omega)) | exact h15 a1 | exact h26 ⟨a3, a4⟩
        · skip
          refine r_go 2 rfl ?_ ?_
          · (first | exact trivial | assumption | (simp (disch := omega) [ab_all, ab_nz, *]; done))
          have hgc : goodV f n (nD s) c := ⟨h15, hcd, h26.1, h26.2⟩
          have gd := tg_d isT_2 (show c < 12 by omega)
          refine r_cv rfl (by first | exact tg_t isT_2 | exact hq.1) ((k_doorAt c isT_2 (by omega))) (by decide) ?_
          refine r_go 2 rfl ?_ ?_
          · (first | exact trivial | assumption | (simp (disch := omega) [ab_all, ab_nz, *]; done))
          refine r_cv rfl (by first | exact tg_t isT_2 | exact hq.1) ((k_at (nI c) hq hW.1 hn)) (by decide) ?_
          rw [rowAt_nI h15 (by omega), hW.2 c h15]
          refine r_go 3 rfl ?_ ?_
          · exact gd
          rw [nI_add]
          refine r_lk (ih (c + 1) _ (by omega) (by omega) (fun k hk => ?_) (RoR_far hW (up_row (by omega)) (up_row (by omega))) (TwR_D hR hB.1.1.2 (by omega) (by decide)) (frT_up hi (by omega))) rfl
          by_cases e : k = c
          · rw [e]
            exact hgc
          · exact hg k (by omega)
theorem k_buyAll {q n : Nat} {f : Vc} {s : Vc} {i : ab_I} (hI : InT s) (hq : isR q 24) (hq2 : 23 ≤ q) (hn : n ≤ 24) (hW : RoR q n f i) (hR : TwR 2 s i) : ab_K 2 105 [.ref 2, .ref q] i (fun v i' => v = some (.int (nI (cvv f n (nD s)))) ∧ TwR 2 (baN f (cvv f n (nD s)) s) i' ∧ frT 2 i i' ∧ ∀ k, k < cvv f n (nD s) → goodV f n (nD s) k) := by
  refine k_of rfl ?_
  refine r_go 2 rfl ?_ ?_
  · (first | exact trivial | assumption | (simp (disch := omega) [ab_all, ab_nz, *]; done))
  exact by_loop (i0 := i) hI hq hq2 hn (n + 2) 0 i (by omega) (by omega) (fun k hk => absurd hk (by omega)) hW hR frT_rf
def shf (m : ab_I) (j : Nat) : Vc := fun k => m 230 (24 * j + k)
def shn (m : ab_I) (j : Nat) : Nat := (m 229 j).toNatClampNeg
def S_votes (x : Int32) (m : ab_I) : Int32 × ab_I := if nI 0 ≤ x ∧ x ≤ nI 3 then (if m 228 x.toNatClampNeg = nI 0 then er m 2 else (nI (cvv (shf m x.toNatClampNeg) (shn m x.toNatClampNeg) (nD (m 219))), ab_row m 219 (baN (shf m x.toNatClampNeg) (cvv (shf m x.toNatClampNeg) (shn m x.toNatClampNeg) (nD (m 219))) (m 219)))) else er m 1
theorem c_votes {i m : ab_I} (hC : ClsR i m) (hJ : InM m) (x : Int32) : ab_K 3 138 [.ref 0, .int x] i (clQ i (S_votes x m)) := by
  (have hI := hJ.1.1; have hX := InS_X hJ.1; have hT := hC.1.1; have hLw : LwsR (m 219) i := ⟨hC.1.2.1, hC.1.2.2.1⟩; have hE := hC.2.2.2.2.1.1)
  have hSh := hC.2.2.2.1
  refine k_of rfl ?_
  refine r_go 2 rfl ?_ ?_
  · (first | exact trivial | assumption | (simp (disch := omega) [ab_all, ab_nz, *]; done))
  refine r_cv rfl (by first | rfl | exact g1) ((k_hasSh x)) (by decide) ?_
  refine r_bN rfl (fun h5 => ?_) (fun h5 => ?_)
  · skip
    refine r_go 2 rfl ?_ ?_
    · (first | exact trivial | assumption | (simp (disch := omega) [ab_all, ab_nz, *]; done))
    have hP : S_votes x m = (if m 228 x.toNatClampNeg = nI 0 then er m 2 else (nI (cvv (shf m x.toNatClampNeg) (shn m x.toNatClampNeg) (nD (m 219))), ab_row m 219 (baN (shf m x.toNatClampNeg) (cvv (shf m x.toNatClampNeg) (shn m x.toNatClampNeg) (nD (m 219))) (m 219)))) := if_pos h5
    obtain ⟨j, hj, rfl⟩ := of_s h5
    rw [nI_cl (by omega)] at hP
    obtain ⟨q1, q2⟩ := hSh j hj
    obtain ⟨_, n, hn, en⟩ := hJ.2.2.1 j hj
    have en2 : shn m j = n := by unfold shn; rw [en, nI_cl (by omega)]
    obtain ⟨g1, g2⟩ := tg_sh j hj
    have g3 := gr_sh hj
    refine r_cv rfl (by first | rfl | exact g1) ((k_shAt j hj)) (by decide) ?_
    refine r_cv rfl (by first | rfl | exact g1) ((k_miss hj)) (by decide) ?_
    refine r_bE rfl (fun h22 => ?_) (fun h22 => ?_)
    · skip
      refine r_go 5 rfl ?_ ?_
      · (first | exact trivial | (simp only [ab_all] <;> decide))
      rw [q1] at h22
      refine r_cv rfl (by first | rfl | exact g1) ((k_shAt j hj)) (by decide) ?_
      refine r_go 1 rfl ?_ ?_
      · (simp only [ab_all, g1, g3]; simp)
      simp only [gr_0_0, gr_0_1, gr_0_3, gr_0_4, gr_0_5, gr_0_6, gr_0_7, gr_1_0, gr_1_1, gr_1_2, gr_1_3, gr_1_4, gr_35_0, gr_35_1, gr_35_2, gr_35_3, gr_35_4]
      rw [g3]
      refine r_c rfl (by first | rfl | exact g1) ((k_buyAll (f := shf m j) hI g2 (by omega) (show shn m j ≤ 24 by omega) q2 hT)) (by decide) ?_
      rintro v i1 ⟨rfl, R1, f1, h1⟩
      refine r_ret rfl trivial ?_
      have hB := In_baN hI _ h1
      exact cl_to (hP.trans (if_neg h22)) (cl_T hJ hC R1 hB.2.2 f1)
    · skip
      rw [q1] at h22
      refine r_go 2 rfl ?_ ?_
      · (first | exact trivial | assumption | (simp (disch := omega) [ab_all, ab_nz, *]; done))
      refine r_cv rfl (by first | rfl | exact g1) ((k_error 2 (by decide) (by decide) hE)) (by decide) ?_
      refine r_ret rfl trivial ?_
      exact cl_to (hP.trans (if_pos h22)) (cl_er (by decide) (by decide) hJ hC)
  · skip
    refine r_go 2 rfl ?_ ?_
    · (first | exact trivial | assumption | (simp (disch := omega) [ab_all, ab_nz, *]; done))
    refine r_cv rfl (by first | rfl | exact g1) ((k_error 1 (by decide) (by decide) hE)) (by decide) ?_
    refine r_ret rfl trivial ?_
    exact cl_to (if_neg h5) (cl_er (by decide) (by decide) hJ hC)
def lkN (m : ab_I) (x : Int32) : Nat := if nI 0 ≤ x ∧ x ≤ nI 3 then (if m 228 x.toNatClampNeg = nI 0 then 2 else 0) else 1
theorem m_lacks {i m : ab_I} (hm : mo i m) (x : Int32) : ab_K 2 238 [.ref 218, .int x] i (ab_V (.int (nI (lkN m x))) i) := by
  refine k_of rfl ?_
  refine r_go 1 rfl ?_ ?_
  · (first | exact trivial | assumption | (simp (disch := omega) [ab_all, ab_nz, *]; done))
  refine r_cv rfl trivial ((m_isS x)) (by decide) ?_
  refine r_bN rfl (fun h4 => ?_) (fun h4 => ?_)
  · skip
    obtain ⟨j, hj, rfl⟩ := of_s h4
    refine r_go 4 rfl ?_ ?_
    · (simp only [ab_all, gr_218_19]; exact ⟨ix_of gt_228 (by omega) (by omega), rfl, by decide⟩)
    rw [gr_218_19, nI_cl (by omega), hm.2.2.2.2.1]
    refine r_ne rfl (fun h17 => ?_) (fun h17 => ?_)
    · skip
      refine r_go 1 rfl ?_ ?_
      · (first | exact trivial | assumption | (simp (disch := omega) [ab_all, ab_nz, *]; done))
      refine r_ret rfl trivial ?_
      unfold lkN
      first | (rw [if_neg h4]; exact ⟨rfl, rfl⟩) | (rw [if_pos h4, nI_cl (by omega), if_pos h17]; exact ⟨rfl, rfl⟩) | (rw [if_pos h4, nI_cl (by omega), if_neg h17]; exact ⟨rfl, rfl⟩)
    · skip
      refine r_go 2 rfl ?_ ?_
      · (first | exact trivial | assumption | (simp (disch := omega) [ab_all, ab_nz, *]; done))
      refine r_ret rfl trivial ?_
      unfold lkN
      first | (rw [if_neg h4]; exact ⟨rfl, rfl⟩) | (rw [if_pos h4, nI_cl (by omega), if_pos h17]; exact ⟨rfl, rfl⟩) | (rw [if_pos h4, nI_cl (by omega), if_neg h17]; exact ⟨rfl, rfl⟩)
  · skip
    refine r_go 2 rfl ?_ ?_
    · (first | exact trivial | assumption | (simp (disch := omega) [ab_all, ab_nz, *]; done))
    refine r_ret rfl trivial ?_
    unfold lkN
    first | (rw [if_neg h4]; exact ⟨rfl, rfl⟩) | (rw [if_pos h4, nI_cl (by omega), if_pos h17]; exact ⟨rfl, rfl⟩) | (rw [if_pos h4, nI_cl (by omega), if_neg h17]; exact ⟨rfl, rfl⟩)
theorem mv_lp {j n : Nat} {f s : Vc} {i : ab_I} (hI : InT s) (hj : j < 4) (hn : n ≤ 24) (e9 : i 229 j = nI n) (e0 : ∀ k, i 230 (24 * j + k) = f k) (mm c : Nat) (hmm : n + 1 - c < mm) (hc : c ≤ n) (hg : ∀ k, k < c → goodV f n (nD s) k) : ab_R 3 tb_X11_votes 18 [some (.ref 218), some (.int (nI j)), none, some (.int (nI c))] [] (ab_row i 219 (baN f c s)) (ab_V (.int (nI (cvv f n (nD s)))) (ab_row i 219 (baN f (cvv f n (nD s)) s))) := by
  induction mm generalizing c with
  | zero => exact absurd hmm (by omega)
  | succ mm ih =>
    have hB := In_baN hI c hg
    have d12 := hI.2.1.2
    have r9 : ∀ k, ab_row i 219 (baN f c s) 229 k = i 229 k := fun k => ab_row_ne (by decide)
    have r0 : ∀ k, ab_row i 219 (baN f c s) 230 k = i 230 k := fun k => ab_row_ne (by decide)
    have E : ¬ goodV f n (nD s) c → ab_V (.int (nI (cvv f n (nD s)))) (ab_row i 219 (baN f (cvv f n (nD s)) s)) (some (.int (nI c))) (ab_row i 219 (baN f c s)) := fun h => by
        rw [cvv_eq hn hg h]
        exact ⟨rfl, rfl⟩
    refine r_go 5 rfl ?_ ?_
    · (simp only [ab_all, gr_218_20]; exact ⟨ix_of gt_229 (by omega) (by omega), rfl, by decide⟩)
    rw [gr_218_20, nI_cl (by omega), r9, e9]
    refine r_le rfl (fun h25 => ?_) (fun h25 => ?_)
    · skip
      refine r_go 1 rfl ?_ ?_
      · (first | exact trivial | assumption | (simp (disch := omega) [ab_all, ab_nz, *]; done))
      refine r_ret rfl trivial ?_
      refine E (fun hh => ?_)
      obtain ⟨a1, a2, a3, a4⟩ := hh
      first | exact h25 (nI_lt a1 (by omega)) | exact h33 (by rw [c_i (by omega), hB.2.1.2]; omega) | exact h52 ⟨a3, a4⟩
    · skip
      have hcn : c < n := by clear hI hB E hg r9 r0 e9 e0; (simp (disch := omega) only [Int32.le_iff_toInt_le, Int32.lt_iff_toInt_lt, c_i, m1_i, m5_i, m33_i] at * <;> omega)
      refine r_go 2 rfl ?_ ?_
      · (first | exact trivial | assumption | (simp (disch := omega) [ab_all, ab_nz, *]; done))
      refine r_cv rfl rfl ((m_isD (nI c) row_s hB.1)) (by decide) ?_
      refine r_bE rfl (fun h33 => ?_) (fun h33 => ?_)
      · skip
        refine r_go 1 rfl ?_ ?_
        · (first | exact trivial | assumption | (simp (disch := omega) [ab_all, ab_nz, *]; done))
        refine r_ret rfl trivial ?_
        refine E (fun hh => ?_)
        obtain ⟨a1, a2, a3, a4⟩ := hh
        first | exact h25 (nI_lt a1 (by omega)) | exact h33 (by rw [c_i (by omega), hB.2.1.2]; omega) | exact h52 ⟨a3, a4⟩
      · skip
        have hcd : c < nD s := by rw [c_i (by omega), hB.2.1.2] at h33; omega
        refine r_go 10 rfl ?_ ?_
        · (simp only [ab_all, gr_218_21, pk_mul, nI_add]; exact ⟨ix_of gt_230 (by omega) (by omega), rfl, by decide⟩)
        rw [gr_218_21, pk_mul, nI_add, nI_cl (by omega), r0, e0]
        refine r_cv rfl trivial ((m_in _ _ _)) (by decide) ?_
        refine r_bE rfl (fun h52 => ?_) (fun h52 => ?_)
        · skip
          refine r_go 1 rfl ?_ ?_
          · (first | exact trivial | assumption | (simp (disch := omega) [ab_all, ab_nz, *]; done))
          refine r_ret rfl trivial ?_
          refine E (fun hh => ?_)
          obtain ⟨a1, a2, a3, a4⟩ := hh
          first | exact h25 (nI_lt a1 (by omega)) | exact h33 (by rw [c_i (by omega), hB.2.1.2]; omega) | exact h52 ⟨a3, a4⟩
        · skip
          refine r_go 20 rfl ?_ ?_
          · (simp only [ab_all, gr_218_0, gr_218_21, pk_mul, nI_add]; exact ⟨ix_219 (by omega), ix_of gt_230 (by omega) (by omega), ⟨rfl, by decide⟩, rfl, by decide⟩)
          simp (disch := omega) only [gr_218_0, gr_218_21, pk_mul, nI_add, nI_cl]
          rw [r0, e0, row_up]
          exact r_lk (ih (c + 1) (by omega) (by omega) (fun k hk => by
              by_cases e : k = c
              · rw [e]
                exact ⟨hcn, hcd, h52.1, h52.2⟩
              · exact hg k (by omega))) rfl
theorem lk_1 {m : ab_I} {x : Int32} (h : lkN m x = 1) : ¬ (nI 0 ≤ x ∧ x ≤ nI 3) := fun z => by
  unfold lkN at h
  rw [if_pos z] at h
  split at h <;> cases h
theorem lk_c {m : ab_I} {x : Int32} : lkN m x = 0 ∨ lkN m x = 1 ∨ lkN m x = 2 := by
  unfold lkN
  split
  · split
    · exact Or.inr (Or.inr rfl)
    · exact Or.inl rfl
  · exact Or.inr (Or.inl rfl)
theorem lk_2 {m : ab_I} {x : Int32} (h : lkN m x = 2) : (nI 0 ≤ x ∧ x ≤ nI 3) ∧ m 228 x.toNatClampNeg = nI 0 := by
  unfold lkN at h
  split at h
  · rename_i h1
    split at h
    · rename_i h2
      exact ⟨h1, h2⟩
    · cases h
  · cases h
theorem lk_0 {m : ab_I} {x : Int32} (h : lkN m x = 0) : (nI 0 ≤ x ∧ x ≤ nI 3) ∧ ¬ m 228 x.toNatClampNeg = nI 0 := by
  unfold lkN at h
  split at h
  · rename_i h1
    split at h
    · cases h
    · rename_i h2
      exact ⟨h1, h2⟩
  · cases h
theorem m_votes {i m : ab_I} (hm : mo i m) (hJ : InM m) (h13 : i 218 13 = (-1)) (x : Int32) : ab_K 3 239 [.ref 218, .int x] i (rfQ i (S_votes x m)) := by
  (have hI := hJ.1.1; have hX := InS_X hJ.1; have hs := hm.1)
  have lc := lk_c (m := m) (x := x)
  refine k_of rfl ?_
  refine r_go 2 rfl ?_ ?_
  · (first | exact trivial | assumption | (simp (disch := omega) [ab_all, ab_nz, *]; done))
  refine r_cv rfl rfl ((m_lacks hm x)) (by decide) ?_
  refine r_go 2 rfl ?_ ?_
  · (first | exact trivial | assumption | (simp (disch := omega) [ab_all, ab_nz, *]; done))
  refine r_le rfl (fun h7 => ?_) (fun h7 => ?_)
  · skip
    refine r_go 2 rfl ?_ ?_
    · (first | exact trivial | assumption | (simp (disch := omega) [ab_all, ab_nz, *]; done))
    have z : lkN m x = 0 := by
        rw [nI_ltI (by decide) (by omega)] at h7
        omega
    obtain ⟨z1, z2⟩ := lk_0 z
    have hP : S_votes x m = _ := (if_pos z1).trans (if_neg z2)
    obtain ⟨j, hj, rfl⟩ := of_s z1
    rw [nI_cl (by omega)] at hP
    obtain ⟨_, n, hn, en⟩ := hJ.2.2.1 j hj
    have en2 : shn m j = n := by unfold shn; rw [en, nI_cl (by omega)]
    rw [en2] at hP
    have K := mv_lp (i := i) (f := shf m j) (s := m 219) hI hj hn (by rw [hm.2.2.2.2.2.1]; exact en) (fun k => by rw [hm.2.2.2.2.2.2.1]; rfl) (n + 2) 0 (by omega) (by omega) (fun k hk => absurd hk (by omega))
    rw [show baN (shf m j) 0 (m 219) = i 219 from hs.symm, row_id] at K
    refine r_mono (r_lk K rfl) ?_
    rintro v k ⟨rfl, rfl⟩
    exact rf_to hP (rf_w hm h13)
  · skip
    refine r_go 2 rfl ?_ ?_
    · (first | exact trivial | assumption | (simp (disch := omega) [ab_all, ab_nz, *]; done))
    have h7' := h7
    rw [nI_ltI (by decide) (by omega)] at h7'
    refine r_cv rfl rfl ((m_error (lkN m x) (by omega))) (by decide) ?_
    refine r_ret rfl trivial ?_
    rcases lc with z | z | z
    · omega
    · rw [z]
      exact rf_to (if_neg (lk_1 z)) (rf_er hm h13)
    · rw [z]
      exact rf_to ((if_pos (lk_2 z).1).trans (if_pos (lk_2 z).2)) (rf_er hm h13)
theorem n_votes {m : ab_I} (hJ : InM m) (x : Int32) : InM (S_votes x m).2 := by
  unfold S_votes
  split
  · rename_i h
    split
    · exact InM_er hJ
    · obtain ⟨j, hj, rfl⟩ := of_s h
      rw [nI_cl (by omega)]
      obtain ⟨_, n, hn, en⟩ := hJ.2.2.1 j hj
      have en2 : shn m j = n := by unfold shn; rw [en, nI_cl (by omega)]
      have hg : ∀ k, k < cvv (shf m j) (shn m j) (nD (m 219)) → goodV (shf m j) (shn m j) (nD (m 219)) k := by
        have H : ∀ g a, ∀ k, a ≤ k → k < cvN (shf m j) (shn m j) (nD (m 219)) g a → goodV (shf m j) (shn m j) (nD (m 219)) k := by
          intro g
          induction g with
          | zero => intro a k h1 h2; exact absurd h2 (by show ¬ k < a; omega)
          | succ g ih =>
            intro a k h1 h2
            have e : cvN (shf m j) (shn m j) (nD (m 219)) (g + 1) a = if goodV (shf m j) (shn m j) (nD (m 219)) a then cvN (shf m j) (shn m j) (nD (m 219)) g (a + 1) else a := rfl
            rw [e] at h2
            split at h2
            · rename_i hga
              by_cases ea : k = a
              · rw [ea]
                exact hga
              · exact ih (a + 1) k (by omega) h2
            · omega
        exact fun k hk => H 25 0 k (Nat.zero_le _) hk
      have hB := In_baN hJ.1.1 _ hg
      exact InM_T hJ hB.1 hB.2.2
  · exact InM_er hJ
