/-! an hour of the reference -/
theorem m_vote {i : ab_I} {s : Vc} (d : Nat) (hs : i 219 = s) (hI : InT s) (hX : InXs s) (hd : d < nD s) : ab_K 4 194 [.ref 218, .int (nI d)] i (fun v i' => v = some (.int (vote s d)) ∧ sr i i') := by
  have d12 := hI.2.1.2
  have o6 := on_lt hI hd
  refine k_of rfl ?_
  refine r_go 3 rfl ?_ ?_
  · (first | exact trivial | assumption | (simp (disch := omega) [ab_all, ab_nz, *]; done))
  refine r_cv rfl rfl ((m_its d 5 hs (by omega))) (by decide) ?_
  refine r_go 1 rfl ?_ ?_
  · (first | exact trivial | assumption | (simp (disch := omega) [ab_all, ab_nz, *]; done))
  refine r_ne rfl (fun h7 => ?_) (fun h7 => ?_)
  · skip
    refine r_go 3 rfl ?_ ?_
    · (first | exact trivial | assumption | (simp (disch := omega) [ab_all, ab_nz, *]; done))
    refine r_cv rfl rfl ((m_its d 4 hs (by omega))) (by decide) ?_
    refine r_go 1 rfl ?_ ?_
    · (first | exact trivial | assumption | (simp (disch := omega) [ab_all, ab_nz, *]; done))
    refine r_br rfl (fun h19 => ?_) (fun h19 => ?_)
    · skip
      refine r_go 2 rfl ?_ ?_
      · (first | exact trivial | assumption | (simp (disch := omega) [ab_all, ab_nz, *]; done))
      refine r_cv rfl rfl ((m_levelAt d hs hI hd)) (by decide) ?_
      refine r_go 4 rfl ?_ ?_
      · (first | exact trivial | assumption | (simp (disch := omega) [ab_all, ab_nz, *]; done))
      refine r_cv rfl rfl ((m_its d 3 hs (by omega))) (by decide) ?_
      refine r_go 4 rfl ?_ ?_
      · (first | exact trivial | assumption | (simp (disch := omega) [ab_all, ab_nz, *]; done))
      refine r_cv rfl rfl ((m_its d 1 hs (by omega))) (by decide) ?_
      refine r_go 4 rfl ?_ ?_
      · (first | exact trivial | assumption | (simp (disch := omega) [ab_all, ab_nz, *]; done))
      refine r_cv rfl rfl ((m_its d 0 hs (by omega))) (by decide) ?_
      refine r_sw rfl ?_
      refine r_swk (fun h56 => ?_) (fun h56 => ?_)
      · skip
        refine r_go 4 rfl ?_ ?_
        · (first | exact trivial | assumption | (simp (disch := omega) [ab_all, ab_nz, *]; done))
        refine r_le rfl (fun h101 => ?_) (fun h101 => ?_)
        · skip
          refine r_go 1 rfl ?_ ?_
          · (first | exact trivial | assumption | (simp (disch := omega) [ab_all, ab_nz, *]; done))
          refine r_ret rfl trivial ?_
          refine ⟨?_, sr_rf⟩
          unfold vote
          clear hI hX hs hd
          simp (decide := true) only [if_true, if_false, not_true, not_false_eq_true, *]
        · skip
          refine r_go 2 rfl ?_ ?_
          · (first | exact trivial | assumption | (simp (disch := omega) [ab_all, ab_nz, *]; done))
          refine r_ret rfl trivial ?_
          refine ⟨?_, sr_rf⟩
          unfold vote
          clear hI hX hs hd
          simp (decide := true) only [if_true, if_false, not_true, not_false_eq_true, *]
      refine r_swk (fun h56 => ?_) (fun h56 => ?_)
      · skip
        refine r_go 4 rfl ?_ ?_
        · (first | exact trivial | assumption | (simp (disch := omega) [ab_all, ab_nz, *]; done))
        refine r_le rfl (fun h161 => ?_) (fun h161 => ?_)
        · skip
          refine r_go 1 rfl ?_ ?_
          · (first | exact trivial | assumption | (simp (disch := omega) [ab_all, ab_nz, *]; done))
          refine r_ret rfl trivial ?_
          refine ⟨?_, sr_rf⟩
          unfold vote
          clear hI hX hs hd
          simp (decide := true) only [if_true, if_false, not_true, not_false_eq_true, *]
        · skip
          refine r_go 2 rfl ?_ ?_
          · (first | exact trivial | assumption | (simp (disch := omega) [ab_all, ab_nz, *]; done))
          refine r_ret rfl trivial ?_
          refine ⟨?_, sr_rf⟩
          unfold vote
          clear hI hX hs hd
          simp (decide := true) only [if_true, if_false, not_true, not_false_eq_true, *]
      refine r_swk (fun h56 => ?_) (fun h56 => ?_)
      · skip
        refine r_go 2 rfl ?_ ?_
        · (first | exact trivial | assumption | (simp (disch := omega) [ab_all, ab_nz, *]; done))
        refine r_le rfl (fun h135 => ?_) (fun h135 => ?_)
        · skip
          refine r_go 4 rfl ?_ ?_
          · (first | exact trivial | assumption | (simp (disch := omega) [ab_all, ab_nz, *]; done))
          refine r_le rfl (fun h147 => ?_) (fun h147 => ?_)
          · skip
            refine r_go 1 rfl ?_ ?_
            · (first | exact trivial | assumption | (simp (disch := omega) [ab_all, ab_nz, *]; done))
            refine r_ret rfl trivial ?_
            refine ⟨?_, sr_rf⟩
            unfold vote
            clear hI hX hs hd
            simp (decide := true) only [if_true, if_false, not_true, not_false_eq_true, *]
          · skip
            refine r_go 2 rfl ?_ ?_
            · (first | exact trivial | assumption | (simp (disch := omega) [ab_all, ab_nz, *]; done))
            refine r_ret rfl trivial ?_
            refine ⟨?_, sr_rf⟩
            unfold vote
            clear hI hX hs hd
            simp (decide := true) only [if_true, if_false, not_true, not_false_eq_true, *]
        · skip
          refine r_go 2 rfl ?_ ?_
          · (first | exact trivial | assumption | (simp (disch := omega) [ab_all, ab_nz, *]; done))
          refine r_ret rfl trivial ?_
          refine ⟨?_, sr_rf⟩
          unfold vote
          clear hI hX hs hd
          simp (decide := true) only [if_true, if_false, not_true, not_false_eq_true, *]
      refine r_swk (fun h56 => ?_) (fun h56 => ?_)
      · skip
        refine r_go 8 rfl ?_ ?_
        · (first | exact trivial | assumption | (simp (disch := omega) [ab_all, ab_nz, *]; done))
        refine r_le rfl (fun h180 => ?_) (fun h180 => ?_)
        · skip
          refine r_go 5 rfl ?_ ?_
          · (first | exact trivial | assumption | (simp (disch := omega) [ab_all, ab_nz, *]; done))
          refine r_cv rfl rfl ((m_its d 2 hs (by omega))) (by decide) ?_
          refine r_go 1 rfl ?_ ?_
          · (first | exact trivial | assumption | (simp (disch := omega) [ab_all, ab_nz, *]; done))
          rw [o6.2.2]
          refine r_cv rfl rfl ((m_of (on s d) 6 hs (by omega))) (by decide) ?_
          refine r_go 2 rfl ?_ ?_
          · (first | exact trivial | assumption | (simp (disch := omega) [ab_all, ab_nz, *]; done))
          refine r_le rfl (fun h203 => ?_) (fun h203 => ?_)
          · skip
            refine r_go 1 rfl ?_ ?_
            · (first | exact trivial | assumption | (simp (disch := omega) [ab_all, ab_nz, *]; done))
            refine r_ret rfl trivial ?_
            refine ⟨?_, sr_rf⟩
            unfold vote
            clear hI hX hs hd
            simp (decide := true) only [if_true, if_false, not_true, not_false_eq_true, *]
          · skip
            refine r_go 2 rfl ?_ ?_
            · (first | exact trivial | assumption | (simp (disch := omega) [ab_all, ab_nz, *]; done))
            refine r_ret rfl trivial ?_
            refine ⟨?_, sr_rf⟩
            unfold vote
            clear hI hX hs hd
            simp (decide := true) only [if_true, if_false, not_true, not_false_eq_true, *]
        · skip
          refine r_go 2 rfl ?_ ?_
          · (first | exact trivial | assumption | (simp (disch := omega) [ab_all, ab_nz, *]; done))
          refine r_ret rfl trivial ?_
          refine ⟨?_, sr_rf⟩
          unfold vote
          clear hI hX hs hd
          simp (decide := true) only [if_true, if_false, not_true, not_false_eq_true, *]
      refine r_swk (fun h56 => ?_) (fun h56 => ?_)
      · skip
        refine r_go 11 rfl ?_ ?_
        · (rw [gr_218_0]; exact ⟨ix_219 (by decide), rfl, by decide⟩)
        rw [gr_218_0, nI_cl (by decide), hs]
        refine r_le rfl (fun h124 => ?_) (fun h124 => ?_)
        · skip
          refine r_go 1 rfl ?_ ?_
          · (first | exact trivial | assumption | (simp (disch := omega) [ab_all, ab_nz, *]; done))
          refine r_ret rfl trivial ?_
          refine ⟨?_, sr_rf⟩
          unfold vote
          clear hI hX hs hd
          simp (decide := true) only [if_true, if_false, not_true, not_false_eq_true, *]
        · skip
          refine r_go 2 rfl ?_ ?_
          · (first | exact trivial | assumption | (simp (disch := omega) [ab_all, ab_nz, *]; done))
          refine r_ret rfl trivial ?_
          refine ⟨?_, sr_rf⟩
          unfold vote
          clear hI hX hs hd
          simp (decide := true) only [if_true, if_false, not_true, not_false_eq_true, *]
      refine r_swk (fun h56 => ?_) (fun h56 => ?_)
      · skip
        refine r_go 2 rfl ?_ ?_
        · (first | exact trivial | assumption | (simp (disch := omega) [ab_all, ab_nz, *]; done))
        refine r_c rfl rfl ((m_told1 d hs hI hX hd)) (by decide) ?_
        rintro v i' ⟨rfl, hf⟩
        refine r_cv rfl trivial ((m_sign _)) (by decide) ?_
        refine r_ret rfl trivial ?_
        exact ⟨by unfold vote; simp (decide := true) only [if_true, if_false, not_true, not_false_eq_true, *], hf⟩
      refine r_go 1 rfl ?_ ?_
      · (first | exact trivial | assumption | (simp (disch := omega) [ab_all, ab_nz, *]; done))
      refine r_ret rfl trivial ?_
      refine ⟨?_, sr_rf⟩
      unfold vote
      clear hI hX hs hd
      simp (decide := true) only [if_true, if_false, not_true, not_false_eq_true, *]
    · skip
      refine r_go 3 rfl ?_ ?_
      · (first | exact trivial | assumption | (simp (disch := omega) [ab_all, ab_nz, *]; done))
      refine r_cv rfl rfl ((m_its d 4 hs (by omega))) (by decide) ?_
      refine r_ret rfl trivial ?_
      refine ⟨?_, sr_rf⟩
      unfold vote
      clear hI hX hs hd
      simp (decide := true) only [if_true, if_false, not_true, not_false_eq_true, *]
  · skip
    refine r_go 1 rfl ?_ ?_
    · (first | exact trivial | assumption | (simp (disch := omega) [ab_all, ab_nz, *]; done))
    refine r_ret rfl trivial ?_
    refine ⟨?_, sr_rf⟩
    unfold vote
    clear hI hX hs hd
    simp (decide := true) only [if_true, if_false, not_true, not_false_eq_true, *]
theorem rowI {i : ab_I} {s : Vc} {k : Nat} (hs : i 219 = s) : i (ab_gr GF 218 0) k = s k := by rw [gr_218_0, hs]
theorem mv_loop {b : Nat} {s : Vc} {i0 : ab_I} (hI : InT s) (hX : InXs s) (m d : Nat) (i : ab_I) (hm : nD s - d < m) (hd : d ≤ nD s) (hs : i 219 = s) (hi : sr i0 i) : ab_R 5 tb_X11_votesOn 4 [some (.ref 218), some (.int (nI b)), some (.int (sm (von s b) d)), some (.int (nI d))] [] i (fun v i' => v = some (.int (votesOn s b)) ∧ sr i0 i') := by
  induction m generalizing d i with
  | zero => exact absurd hm (by omega)
  | succ m ih =>
    have d12 := hI.2.1.2
    have h1 := hI.2.1.1
    refine r_go 5 rfl ?_ ?_
    · (rw [gr_218_0]; exact ⟨ix_219 (by decide), rfl, by decide⟩)
    rw [rowI hs, nI_cl (by decide), h1]
    refine r_le rfl (fun h11 => ?_) (fun h11 => ?_)
    · skip
      refine r_go 1 rfl ?_ ?_
      · (first | exact trivial | assumption | (simp (disch := omega) [ab_all, ab_nz, *]; done))
      refine r_ret rfl trivial ?_
      have e : d = nD s := by clear hs hi h1; (simp (disch := omega) only [Int32.le_iff_toInt_le, Int32.lt_iff_toInt_lt, c_i, m1_i, m5_i, m33_i] at * <;> omega)
      subst e
      exact ⟨rfl, hi⟩
    · skip
      have hdl : d < nD s := by clear hs hi h1; (simp (disch := omega) only [Int32.le_iff_toInt_le, Int32.lt_iff_toInt_lt, c_i, m1_i, m5_i, m33_i] at * <;> omega)
      refine r_go 4 rfl ?_ ?_
      · (first | exact trivial | assumption | (simp (disch := omega) [ab_all, ab_nz, *]; done))
      refine r_cv rfl rfl ((m_its d 2 hs (by omega))) (by decide) ?_
      refine r_go 1 rfl ?_ ?_
      · (first | exact trivial | assumption | (simp (disch := omega) [ab_all, ab_nz, *]; done))
      refine r_ne rfl (fun h22 => ?_) (fun h22 => ?_)
      · skip
        refine r_go 5 rfl ?_ ?_
        · (first | exact trivial | assumption | (simp (disch := omega) [ab_all, ab_nz, *]; done))
        rw [nI_add]
        first | (have K := ih (d + 1) i' (by omega) (by omega) hs' (sr_tr hi hf); rw [sm_s, von_t h22] at K; exact r_lk K rfl) | (have K := ih (d + 1) i (by omega) (by omega) hs hi; rw [sm_s, von_f h22] at K; exact r_lk K rfl)
      · skip
        refine r_go 2 rfl ?_ ?_
        · (first | exact trivial | assumption | (simp (disch := omega) [ab_all, ab_nz, *]; done))
        refine r_c rfl rfl ((m_vote d hs hI hX hdl)) (by decide) ?_
        rintro v i' ⟨rfl, hf⟩
        have hs' : i' 219 = s := (hf 219 (by decide) (by decide)).trans hs
        refine r_go 5 rfl ?_ ?_
        · (first | exact trivial | assumption | (simp (disch := omega) [ab_all, ab_nz, *]; done))
        rw [nI_add]
        first | (have K := ih (d + 1) i' (by omega) (by omega) hs' (sr_tr hi hf); rw [sm_s, von_t h22] at K; exact r_lk K rfl) | (have K := ih (d + 1) i (by omega) (by omega) hs hi; rw [sm_s, von_f h22] at K; exact r_lk K rfl)
theorem m_votesOn {i : ab_I} {s : Vc} (b : Nat) (hs : i 219 = s) (hI : InT s) (hX : InXs s) : ab_K 5 165 [.ref 218, .int (nI b)] i (fun v i' => v = some (.int (votesOn s b)) ∧ sr i i') := by
  refine k_of rfl ?_
  refine r_go 4 rfl ?_ ?_
  · (first | exact trivial | assumption | (simp (disch := omega) [ab_all, ab_nz, *]; done))
  exact mv_loop (i0 := i) hI hX (nD s + 1) 0 i (by omega) (by omega) hs sr_rf
theorem mp_loop {s : Vc} {i0 : ab_I} (hI : InT s) (hX : InXs s) (m d : Nat) (i : ab_I) (hm : nD s - d < m) (hd : d ≤ nD s) (hs : i 219 = s) (hi : sr i0 i) : ab_R 3 tb_X11_pains 4 [some (.ref 218), some (.int (sm (pain s) d)), some (.int (nI d))] [] i (fun v i' => v = some (.int (pains s)) ∧ sr i0 i') := by
  induction m generalizing d i with
  | zero => exact absurd hm (by omega)
  | succ m ih =>
    have d12 := hI.2.1.2
    have h1 := hI.2.1.1
    refine r_go 5 rfl ?_ ?_
    · (rw [gr_218_0]; exact ⟨ix_219 (by decide), rfl, by decide⟩)
    rw [rowI hs, nI_cl (by decide), h1]
    refine r_le rfl (fun h11 => ?_) (fun h11 => ?_)
    · skip
      refine r_go 1 rfl ?_ ?_
      · (first | exact trivial | assumption | (simp (disch := omega) [ab_all, ab_nz, *]; done))
      refine r_ret rfl trivial ?_
      have e : d = nD s := by clear hs hi h1; (simp (disch := omega) only [Int32.le_iff_toInt_le, Int32.lt_iff_toInt_lt, c_i, m1_i, m5_i, m33_i] at * <;> omega)
      subst e
      exact ⟨rfl, hi⟩
    · skip
      have hdl : d < nD s := by clear hs hi h1; (simp (disch := omega) only [Int32.le_iff_toInt_le, Int32.lt_iff_toInt_lt, c_i, m1_i, m5_i, m33_i] at * <;> omega)
      refine r_go 3 rfl ?_ ?_
      · (first | exact trivial | assumption | (simp (disch := omega) [ab_all, ab_nz, *]; done))
      refine r_c rfl rfl ((m_pain d hs hI hX hdl)) (by decide) ?_
      rintro v i' ⟨rfl, hf⟩
      have hs' : i' 219 = s := (hf 219 (by decide) (by decide)).trans hs
      refine r_go 4 rfl ?_ ?_
      · (first | exact trivial | assumption | (simp (disch := omega) [ab_all, ab_nz, *]; done))
      rw [nI_add]
      exact ih (d + 1) i' (by omega) (by omega) hs' (sr_tr hi hf)
theorem m_pains {i : ab_I} {s : Vc} (hs : i 219 = s) (hI : InT s) (hX : InXs s) : ab_K 3 196 [.ref 218] i (fun v i' => v = some (.int (pains s)) ∧ sr i i') := by
  refine k_of rfl ?_
  refine r_go 4 rfl ?_ ?_
  · (first | exact trivial | assumption | (simp (disch := omega) [ab_all, ab_nz, *]; done))
  exact mp_loop (i0 := i) hI hX (nD s + 1) 0 i (by omega) (by omega) hs sr_rf
/-! exact: the vector alone is written -/
theorem row_row {i : ab_I} {q : Nat} {f g : Nat → Int32} : ab_row (ab_row i q f) q g = ab_row i q g := by
  funext a b
  unfold ab_row
  by_cases h : a = q <;> simp [h]
theorem row_s {i : ab_I} {q : Nat} {f : Nat → Int32} : ab_row i q f q = f := ab_row_self
theorem up_rowI {i : ab_I} {s : Vc} {k : Nat} {x : Int32} (hs : i 219 = s) : ab_up i 219 k x = ab_row i 219 (upd s k x) := by
  funext a b
  unfold ab_up ab_row upd
  by_cases h : a = 219
  · subst h
    by_cases h2 : b = k <;> simp [h2, hs]
  · simp [h]
theorem m_gets {i : ab_I} {s : Vc} (b : Nat) (x : Int32) (hs : i 219 = s) (hb : b < 6) : ab_K 1 198 [.ref 218, .int (nI b), .int x] i (ab_N (ab_row i 219 (gets b x s))) := by
  have e : nI 8 + nI 7 * nI b + nI 0 = nI (8 + 7 * b + 0) := by rw [pk_mul, nI_add, nI_add]
  refine k_of rfl ?_
  refine r_go 19 rfl ?_ ?_
  · (rw [gr_218_0, e]; exact ⟨ix_219 (by omega), ⟨rfl, by decide⟩, rfl, by decide⟩)
  rw [e, rowI hs, nI_cl (by omega)]
  refine r_cv rfl trivial ((m_held _ _ _)) (by decide) ?_
  refine r_go 1 rfl ?_ ?_
  · (rw [gr_218_0]; exact ix_219 (by omega))
  refine r_ret rfl trivial ?_
  rw [gr_218_0, nI_cl (by omega), up_rowI hs]
  exact ⟨rfl, rfl⟩
theorem m_suffers {i : ab_I} {s : Vc} (d w : Nat) (x : Int32) (hx : x = nI 0 ∨ x = nI 1) (hs : i 219 = s) (hd : d < 12) (hw : w < 8) : ab_K 1 200 [.ref 218, .int (nI d), .int (nI w), .int x] i (ab_N (ab_row i 219 (upd s (50 + 8 * d + w) (hl (dr s d w + x) (nI 0) (nI 99999))))) := by
  have e : nI 50 + nI 8 * nI d + nI w = nI (50 + 8 * d + w) := by rw [pk_mul, nI_add, nI_add]
  refine k_of rfl ?_
  refine r_go 16 rfl ?_ ?_
  · (rw [gr_218_0, e]; exact ⟨ix_219 (by omega), ⟨rfl, by decide⟩, rfl, by decide⟩)
  rw [e, rowI hs, nI_cl (by omega)]
  refine r_br rfl (fun h25 => ?_) (fun h25 => ?_)
  · skip
    refine r_go 4 rfl ?_ ?_
    · (first | exact trivial | assumption | (simp (disch := omega) [ab_all, ab_nz, *]; done))
    refine r_cv rfl trivial ((m_held _ _ _)) (by decide) ?_
    refine r_go 1 rfl ?_ ?_
    · (rw [gr_218_0]; exact ix_219 (by omega))
    refine r_ret rfl trivial ?_
    rw [gr_218_0, nI_cl (by omega), up_rowI hs]
    first | (have h1 : x = nI 1 := hx.resolve_left h25; subst h1; exact ⟨rfl, rfl⟩) | (subst h25; exact ⟨rfl, rfl⟩)
  · skip
    refine r_go 5 rfl ?_ ?_
    · (first | exact trivial | assumption | (simp (disch := omega) [ab_all, ab_nz, *]; done))
    refine r_cv rfl trivial ((m_held _ _ _)) (by decide) ?_
    refine r_go 1 rfl ?_ ?_
    · (rw [gr_218_0]; exact ix_219 (by omega))
    refine r_ret rfl trivial ?_
    rw [gr_218_0, nI_cl (by omega), up_rowI hs]
    first | (have h1 : x = nI 1 := hx.resolve_left h25; subst h1; exact ⟨rfl, rfl⟩) | (subst h25; exact ⟨rfl, rfl⟩)
theorem mf_loop {i : ab_I} {s : Vc} (hI : InT s) (m k : Nat) (hm : nB s - k < m) (hk : k ≤ nB s) : ab_R 2 tb_X11_flows 2 [some (.ref 218), some (.int (nI k)), none, none] [] (ab_row i 219 (lp flow k s)) (ab_N (ab_row i 219 (flows s))) := by
  induction m generalizing k with
  | zero => exact absurd hm (by omega)
  | succ m ih =>
    have b6 := hI.1.2
    have hJ := In_lp (f := flow) (n := k) hI (fun b hb z hz hs => In_flow hz (by rw [hs.1]; omega) hs)
    have t0 : lp flow k s 0 = nI (nB s) := hJ.1.1.1.trans (by rw [hJ.2.1])
    refine r_go 5 rfl ?_ ?_
    · (rw [gr_218_0]; exact ⟨ix_219 (by decide), rfl, by decide⟩)
    rw [rowI row_s, nI_cl (by decide), t0]
    refine r_le rfl (fun h9 => ?_) (fun h9 => ?_)
    · skip
      refine r_ret rfl trivial ?_
      have e : k = nB s := by clear hJ t0; (simp (disch := omega) only [Int32.le_iff_toInt_le, Int32.lt_iff_toInt_lt, c_i, m1_i, m5_i, m33_i] at * <;> omega)
      subst e
      exact ⟨rfl, rfl⟩
    · skip
      have hkl : k < nB s := by clear hJ t0; (simp (disch := omega) only [Int32.le_iff_toInt_le, Int32.lt_iff_toInt_lt, c_i, m1_i, m5_i, m33_i] at * <;> omega)
      refine r_go 9 rfl ?_ ?_
      · (rw [gr_218_0]; exact ⟨ix_219 (by decide), rfl, by decide⟩)
      refine r_cv rfl rfl ((m_of k 1 row_s (by omega))) (by decide) ?_
      refine r_go 1 rfl ?_ ?_
      · (first | exact trivial | assumption | (simp (disch := omega) [ab_all, ab_nz, *]; done))
      rw [rowI row_s, nI_cl (by decide)]
      refine r_cn rfl rfl ((m_gets k _ row_s (by omega))) (by decide) ?_
      rw [row_row]
      have hG := In_flow (s := s) hJ.1 (by rw [hJ.2.1]; exact hkl) hJ.2
      have hfl : lp flow (k + 1) s = pass k (goes (gets k (lp flow k s 3 * bs (lp flow k s) k 1) (lp flow k s)) k) (spil k (gets k (lp flow k s 3 * bs (lp flow k s) k 1) (lp flow k s))) := rfl
      have hN1 : nB (gets k (lp flow k s 3 * bs (lp flow k s) k 1) (lp flow k s)) = nB s := (sN_gets hJ.2).1
      have hI1 : InT (gets k (lp flow k s 3 * bs (lp flow k s) k 1) (lp flow k s)) := InT_gets hJ.1 (by omega)
      have e8 : nI 8 + nI 7 * nI k + nI 0 = nI (8 + 7 * k + 0) := by rw [pk_mul, nI_add, nI_add]
      generalize gets k (lp flow k s 3 * bs (lp flow k s) k 1) (lp flow k s) = z1 at hfl hN1 hI1
      rw [show goes z1 k = hl (bs z1 k 0 - bs z1 k 2 * bs z1 k 1) (nI 0) (bs z1 k 4) from rfl] at hfl
      refine r_go 3 rfl ?_ ?_
      · (first | exact trivial | assumption | (simp (disch := omega) [ab_all, ab_nz, *]; done))
      refine r_cv rfl rfl ((m_of k 0 row_s (by omega))) (by decide) ?_
      refine r_go 3 rfl ?_ ?_
      · (first | exact trivial | assumption | (simp (disch := omega) [ab_all, ab_nz, *]; done))
      refine r_cv rfl rfl ((m_of k 2 row_s (by omega))) (by decide) ?_
      refine r_go 3 rfl ?_ ?_
      · (first | exact trivial | assumption | (simp (disch := omega) [ab_all, ab_nz, *]; done))
      refine r_cv rfl rfl ((m_of k 1 row_s (by omega))) (by decide) ?_
      refine r_go 8 rfl ?_ ?_
      · (first | exact trivial | assumption | (simp (disch := omega) [ab_all, ab_nz, *]; done))
      refine r_cv rfl rfl ((m_of k 4 row_s (by omega))) (by decide) ?_
      refine r_cv rfl trivial ((m_held _ _ _)) (by decide) ?_
      generalize hg : hl (bs z1 k 0 - bs z1 k 2 * bs z1 k 1) (nI 0) (bs z1 k 4) = g at hfl
      refine r_go 22 rfl ?_ ?_
      · (simp only [ab_all, e8, gr_218_0]; exact ⟨ix_219 (by decide), ⟨rfl, by decide⟩, ix_219 (by omega), ix_219 (by omega), rfl, by decide⟩)
      rw [gr_218_0, e8, nI_cl (by omega), nI_cl (by decide), row_s, row_up, row_s, nI_add]
      have hsp : upd z1 (8 + 7 * k + 0) (z1 (8 + 7 * k + 0) - g) = spil k z1 := by rw [← hg]; rfl
      rw [hsp]
      have hI2 : InT (spil k z1) := InT_spil hI1 (by rw [hN1]; exact hkl)
      have hN2 : nB (spil k z1) = nB s := by rw [(sN_spil (s := z1) ⟨rfl, rfl⟩).1, hN1]
      have t2 : spil k z1 0 = nI (nB s) := by rw [hI2.1.1, hN2]
      rw [t2]
      refine r_le rfl (fun h90 => ?_) (fun h90 => ?_)
      · skip
        refine r_go 11 rfl ?_ ?_
        · (simp only [ab_all, gr_218_0]; exact ⟨ix_219 (by decide), ⟨rfl, by decide⟩, rfl, by decide⟩)
        rw [rowI row_s, nI_cl (by decide)]
        refine r_cv rfl trivial ((m_held _ _ _)) (by decide) ?_
        refine r_go 3 rfl ?_ ?_
        · (rw [gr_218_0]; exact ix_219 (by decide))
        have hlt : (k + 1 < nB s) ∨ ¬ (k + 1 < nB s) := Classical.em _
        first | rw [row_row] | rw [gr_218_0, nI_cl (by decide), row_up]
        have K := ih (k + 1) (by omega) (by omega)
        unfold pass at hfl
        first | (rw [if_pos (show k + 1 < nB (spil k z1) by rw [hN2]; clear hJ t0 hI1 hI2 hfl t2 K; (simp (disch := omega) only [Int32.le_iff_toInt_le, Int32.lt_iff_toInt_lt, c_i, m1_i, m5_i, m33_i] at * <;> omega))] at hfl; rw [hfl] at K; rw [nI_add]; exact r_lk K rfl) | (rw [if_neg (show ¬ k + 1 < nB (spil k z1) by rw [hN2]; clear hJ t0 hI1 hI2 hfl t2 K; (simp (disch := omega) only [Int32.le_iff_toInt_le, Int32.lt_iff_toInt_lt, c_i, m1_i, m5_i, m33_i] at * <;> omega))] at hfl; rw [hfl] at K; rw [nI_add]; exact r_lk K rfl)
      · skip
        refine r_go 5 rfl ?_ ?_
        · (first | exact trivial | assumption | (simp (disch := omega) [ab_all, ab_nz, *]; done))
        rw [nI_add]
        refine r_cn rfl rfl ((m_gets (k + 1) _ row_s (by clear hJ t0 hI1 hI2 hfl; (simp (disch := omega) only [Int32.le_iff_toInt_le, Int32.lt_iff_toInt_lt, c_i, m1_i, m5_i, m33_i] at * <;> omega)))) (by decide) ?_
        refine r_go 3 rfl ?_ ?_
        · (first | exact trivial | assumption | (simp (disch := omega) [ab_all, ab_nz, *]; done))
        have hlt : (k + 1 < nB s) ∨ ¬ (k + 1 < nB s) := Classical.em _
        first | rw [row_row] | rw [gr_218_0, nI_cl (by decide), row_up]
        have K := ih (k + 1) (by omega) (by omega)
        unfold pass at hfl
        first | (rw [if_pos (show k + 1 < nB (spil k z1) by rw [hN2]; clear hJ t0 hI1 hI2 hfl t2 K; (simp (disch := omega) only [Int32.le_iff_toInt_le, Int32.lt_iff_toInt_lt, c_i, m1_i, m5_i, m33_i] at * <;> omega))] at hfl; rw [hfl] at K; rw [nI_add]; exact r_lk K rfl) | (rw [if_neg (show ¬ k + 1 < nB (spil k z1) by rw [hN2]; clear hJ t0 hI1 hI2 hfl t2 K; (simp (disch := omega) only [Int32.le_iff_toInt_le, Int32.lt_iff_toInt_lt, c_i, m1_i, m5_i, m33_i] at * <;> omega))] at hfl; rw [hfl] at K; rw [nI_add]; exact r_lk K rfl)
theorem m_flows {i : ab_I} {s : Vc} (hs : i 219 = s) (hI : InT s) : ab_K 2 199 [.ref 218] i (ab_N (ab_row i 219 (flows s))) := by
  refine k_of rfl ?_
  refine r_go 2 rfl ?_ ?_
  · (first | exact trivial | assumption | (simp (disch := omega) [ab_all, ab_nz, *]; done))
  have K := mf_loop (i := i) hI (nB s + 1) 0 (by omega) (by omega)
  rw [show lp flow 0 s = i 219 from hs.symm, row_id] at K
  exact r_lk K rfl
