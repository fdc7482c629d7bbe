/-! weirs and the hour of the reference -/
/-- all but the vector, the names, the pile and the ways is as it was -/
def fh (i i' : ab_I) : Prop := ∀ q, q ≠ 219 → q ≠ 224 → q ≠ 225 → q ≠ 226 → i' q = i q
theorem fh_rf {i : ab_I} : fh i i := fun _ _ _ _ _ => rfl
theorem fh_tr {i j k : ab_I} (h1 : fh i j) (h2 : fh j k) : fh i k := fun q a b c d => (h2 q a b c d).trans (h1 q a b c d)
theorem fh_sr {i j : ab_I} (h : sr i j) : fh i j := fun q _ b c _ => h q b c
theorem fh_row {i : ab_I} {f : Nat → Int32} : fh i (ab_row i 219 f) := fun q a _ _ _ => funext (fun b => ab_row_ne a)
theorem fh_up {i : ab_I} {k : Nat} {x : Int32} : fh i (ab_up i 226 k x) := fun _ _ _ _ d => up_row d
theorem turn_t {W : Nat → Int32} {b : Nat} {z : Vc} (h : bs z b 5 = nI 1) : turn W b z = upd z (8 + 7 * b + 2) (z (8 + 7 * b + 2)) := by unfold turn; rw [if_pos h]; rfl
theorem turn_f {W : Nat → Int32} {b : Nat} {z : Vc} (h : ¬ bs z b 5 = nI 1) : turn W b z = upd z (8 + 7 * b + 2) (hl (z (8 + 7 * b + 2) + W b * bs z b 3) (nI 0) (nI 99)) := by unfold turn; rw [if_neg h]; rfl
theorem mw_loop2 {i : ab_I} {s : Vc} {W : Nat → Int32} (hI : InT s) (hW : ∀ b, b < nB s → i 226 b = W b) (m k : Nat) (hm : nB s - k < m) (hk : k ≤ nB s) : ab_R 6 tb_X11_weirs 49 [some (.ref 218), some (.int (nI k)), none] [] (ab_row i 219 (lp (turn W) k s)) (ab_N (ab_row i 219 (lp (turn W) (nB s) s))) := by
  induction m generalizing k with
  | zero => exact absurd hm (by omega)
  | succ m ih =>
    have b6 := hI.1.2
    have hJ := In_lp (f := turn W) (n := k) hI (fun b hb z hz hs => In_turn hz (by rw [hs.1]; omega) hs)
    have t0 : lp (turn W) k s 0 = nI (nB s) := hJ.1.1.1.trans (by rw [hJ.2.1])
    have e8 : nI 8 + nI 7 * nI k + nI 2 = nI (8 + 7 * k + 2) := by rw [pk_mul, nI_add, nI_add]
    refine r_go 5 rfl ?_ ?_
    · (rw [gr_218_0]; exact ⟨ix_219 (by decide), rfl, by decide⟩)
    rw [rowI row_s, nI_cl (by decide), t0]
    refine r_le rfl (fun h56 => ?_) (fun h56 => ?_)
    · skip
      refine r_ret rfl trivial ?_
      have e : k = nB s := by clear hJ t0; (simp (disch := omega) only [Int32.le_iff_toInt_le, Int32.lt_iff_toInt_lt, c_i, m1_i, m5_i, m33_i] at * <;> omega)
      subst e
      exact ⟨rfl, rfl⟩
    · skip
      have hkl : k < nB s := by clear hJ t0; (simp (disch := omega) only [Int32.le_iff_toInt_le, Int32.lt_iff_toInt_lt, c_i, m1_i, m5_i, m33_i] at * <;> omega)
      refine r_go 14 rfl ?_ ?_
      · exact ⟨rfl, by decide⟩
      refine r_cv rfl rfl ((m_of k 5 row_s (by omega))) (by decide) ?_
      refine r_go 1 rfl ?_ ?_
      · (first | exact trivial | assumption | (simp (disch := omega) [ab_all, ab_nz, *]; done))
      rw [e8]
      refine r_ne rfl (fun h81 => ?_) (fun h81 => ?_)
      · skip
        refine r_go 11 rfl ?_ ?_
        · (simp only [ab_all, gr_218_0, gr_218_12]; first | exact ⟨ix_219 (by omega), rfl, by decide⟩ | exact ⟨ix_of gt_226 (by omega) (by omega), ⟨rfl, by decide⟩, ix_219 (by omega), rfl, by decide⟩)
        refine r_cv rfl rfl ((m_of k 3 row_s (by omega))) (by decide) ?_
        refine r_go 4 rfl ?_ ?_
        · (first | exact trivial | assumption | (simp (disch := omega) [ab_all, ab_nz, *]; done))
        refine r_cv rfl trivial ((m_held _ _ _)) (by decide) ?_
        skip
        refine r_go 3 rfl ?_ ?_
        · (rw [gr_218_0]; exact ix_219 (by omega))
        rw [gr_218_0, nI_cl (by omega), nI_add]
        (try rw [gr_218_12, nI_cl (by omega)])
        rw [row_up]
        simp (disch := decide) only [row_s]
        have K := ih (k + 1) (by omega) (by omega)
        have hl1 : lp (turn W) (k + 1) s = turn W k (lp (turn W) k s) := rfl
        rw [hl1] at K
        first | rw [turn_t h81] at K | rw [turn_f h81, ← hW k hkl, ← ab_row_ne (i := i) (q := 219) (f := lp (turn W) k s) (show 226 ≠ 219 by decide)] at K
        exact r_lk K rfl
      · skip
        refine r_go 5 rfl ?_ ?_
        · (simp only [ab_all, gr_218_0, gr_218_12]; first | exact ⟨ix_219 (by omega), rfl, by decide⟩ | exact ⟨ix_of gt_226 (by omega) (by omega), ⟨rfl, by decide⟩, ix_219 (by omega), rfl, by decide⟩)
        skip
        refine r_go 3 rfl ?_ ?_
        · (rw [gr_218_0]; exact ix_219 (by omega))
        rw [gr_218_0, nI_cl (by omega), nI_add]
        (try rw [gr_218_12, nI_cl (by omega)])
        rw [row_up]
        simp (disch := decide) only [row_s]
        have K := ih (k + 1) (by omega) (by omega)
        have hl1 : lp (turn W) (k + 1) s = turn W k (lp (turn W) k s) := rfl
        rw [hl1] at K
        first | rw [turn_t h81] at K | rw [turn_f h81, ← hW k hkl, ← ab_row_ne (i := i) (q := 219) (f := lp (turn W) k s) (show 226 ≠ 219 by decide)] at K
        exact r_lk K rfl
theorem mw_loop1 {i0 : ab_I} {s : Vc} {mb : Nat} {mw : Int32} (hI : InT s) (hX : InXs s) (hmb : mb ≤ 6) (h13 : i0 218 13 = mvb mb) (h14 : mb < 6 → i0 218 14 = mw) (m k : Nat) (i : ab_I) (hm : nB s - k < m) (hk : k ≤ nB s) (hs : i 219 = s) (hW : ∀ b, b < k → i 226 b = ways mb mw s b) (hi : fh i0 i) : ab_R 6 tb_X11_weirs 2 [some (.ref 218), some (.int (nI k)), none] [] i (fun v i' => v = none ∧ i' 219 = weirs mb mw s ∧ fh i0 i') := by
  induction m generalizing k i with
  | zero => exact absurd hm (by omega)
  | succ m ih =>
    have b6 := hI.1.2
    have t0 : s 0 = nI (nB s) := hI.1.1
    have e13 : i 218 13 = mvb mb := by rw [hi 218 (by decide) (by decide) (by decide) (by decide)]; exact h13
    refine r_go 5 rfl ?_ ?_
    · (rw [gr_218_0]; exact ⟨ix_219 (by decide), rfl, by decide⟩)
    rw [rowI hs, nI_cl (by decide), t0]
    refine r_le rfl (fun h9 => ?_) (fun h9 => ?_)
    · skip
      refine r_go 2 rfl ?_ ?_
      · (first | exact trivial | assumption | (simp (disch := omega) [ab_all, ab_nz, *]; done))
      have e : k = nB s := by clear hs hi hW t0; (simp (disch := omega) only [Int32.le_iff_toInt_le, Int32.lt_iff_toInt_lt, c_i, m1_i, m5_i, m33_i] at * <;> omega)
      subst e
      have K := mw_loop2 (i := i) (s := s) (W := ways mb mw s) hI hW (nB s + 1) 0 (by omega) (by omega)
      rw [show lp (turn (ways mb mw s)) 0 s = i 219 from hs.symm, row_id] at K
      refine r_lk (r_mono K ?_) rfl
      rintro v i' ⟨rfl, rfl⟩
      exact ⟨rfl, row_s, fh_tr hi fh_row⟩
    · skip
      have hkl : k < nB s := by clear hs hi hW t0; (simp (disch := omega) only [Int32.le_iff_toInt_le, Int32.lt_iff_toInt_lt, c_i, m1_i, m5_i, m33_i] at * <;> omega)
      refine r_go 6 rfl ?_ ?_
      · (simp only [ab_all]; exact ⟨rfl, rfl, by decide⟩)
      rw [e13]
      refine r_ne rfl (fun h22 => ?_) (fun h22 => ?_)
      · skip
        rw [mvb_eq (by omega) hmb] at h22
        refine r_go 2 rfl ?_ ?_
        · (first | exact trivial | assumption | (simp (disch := omega) [ab_all, ab_nz, *]; done))
        refine r_c rfl rfl ((m_votesOn k hs hI hX)) (by decide) ?_
        rintro v i' ⟨rfl, hf⟩
        refine r_cv rfl trivial ((m_sign _)) (by decide) ?_
        refine r_go 3 rfl ?_ ?_
        · (rw [gr_218_12]; exact ix_of gt_226 (by omega) (by omega))
        rw [gr_218_12, nI_cl (by omega), nI_add]
        have cW : ∀ {j : ab_I} {x : Int32}, (∀ b, b < k → j 226 b = ways mb mw s b) → x = ways mb mw s k → ∀ b, b < k + 1 → ab_up j 226 k x 226 b = ways mb mw s b := by
          intro j x h1 h2 b hb
          by_cases e : b = k
          · subst e
            rw [up_us, h2]
          · rw [up_ne (by omega)]
            exact h1 b (by omega)
        have A : k = mb → i 218 14 = ways mb mw s k := fun h => by unfold ways; rw [if_pos h, hi 218 (by decide) (by decide) (by decide) (by decide)]; exact h14 (by omega)
        have B : ¬ k = mb → sg (votesOn s k) = ways mb mw s k := fun h => by unfold ways; rw [if_neg h]
        first | exact r_lk (ih (k + 1) _ (by omega) (by omega) ((up_row (by decide)).trans hs) (cW hW (A h22)) (fh_tr hi fh_up)) rfl | exact r_lk (ih (k + 1) _ (by omega) (by omega) ((up_row (by decide)).trans ((hf 219 (by decide) (by decide)).trans hs)) (cW (fun b hb => (congrFun (hf 226 (by decide) (by decide)) b).trans (hW b hb)) (B h22)) (fh_tr (fh_tr hi (fh_sr hf)) fh_up)) rfl
      · skip
        rw [mvb_eq (by omega) hmb] at h22
        refine r_go 6 rfl ?_ ?_
        · (rw [gr_218_12]; exact ⟨ix_of gt_226 (by omega) (by omega), rfl⟩)
        rw [gr_218_12, nI_cl (by omega), nI_add]
        have cW : ∀ {j : ab_I} {x : Int32}, (∀ b, b < k → j 226 b = ways mb mw s b) → x = ways mb mw s k → ∀ b, b < k + 1 → ab_up j 226 k x 226 b = ways mb mw s b := by
          intro j x h1 h2 b hb
          by_cases e : b = k
          · subst e
            rw [up_us, h2]
          · rw [up_ne (by omega)]
            exact h1 b (by omega)
        have A : k = mb → i 218 14 = ways mb mw s k := fun h => by unfold ways; rw [if_pos h, hi 218 (by decide) (by decide) (by decide) (by decide)]; exact h14 (by omega)
        have B : ¬ k = mb → sg (votesOn s k) = ways mb mw s k := fun h => by unfold ways; rw [if_neg h]
        first | exact r_lk (ih (k + 1) _ (by omega) (by omega) ((up_row (by decide)).trans hs) (cW hW (A h22)) (fh_tr hi fh_up)) rfl | exact r_lk (ih (k + 1) _ (by omega) (by omega) ((up_row (by decide)).trans ((hf 219 (by decide) (by decide)).trans hs)) (cW (fun b hb => (congrFun (hf 226 (by decide) (by decide)) b).trans (hW b hb)) (B h22)) (fh_tr (fh_tr hi (fh_sr hf)) fh_up)) rfl
theorem m_weirs {i : ab_I} {s : Vc} {mb : Nat} {mw : Int32} (hs : i 219 = s) (hI : InT s) (hX : InXs s) (hmb : mb ≤ 6) (h13 : i 218 13 = mvb mb) (h14 : mb < 6 → i 218 14 = mw) : ab_K 6 197 [.ref 218] i (fun v i' => v = none ∧ i' 219 = weirs mb mw s ∧ fh i i') := by
  refine k_of rfl ?_
  refine r_go 2 rfl ?_ ?_
  · (first | exact trivial | assumption | (simp (disch := omega) [ab_all, ab_nz, *]; done))
  exact r_lk (mw_loop1 (i0 := i) hI hX hmb h13 h14 (nB s + 1) 0 i (by omega) (by omega) hs (fun b hb => absurd hb (by omega)) fh_rf) rfl
theorem suf6_t {d : Nat} {z : Vc} (h : dr z d 3 < levAt z d) : upd z (50 + 8 * d + 6) (hl (dr z d 6 + nI 1) (nI 0) (nI 99999)) = suf6 d z := by unfold suf6; rw [bI_t h]
theorem suf6_f {d : Nat} {z : Vc} (h : ¬ dr z d 3 < levAt z d) : upd z (50 + 8 * d + 6) (hl (dr z d 6 + nI 0) (nI 0) (nI 99999)) = suf6 d z := by unfold suf6; rw [bI_f h]
theorem suf7_t {d : Nat} {z : Vc} (h : levAt z d < dr z d 3 - nI 10 - dr z d 1) : upd z (50 + 8 * d + 7) (hl (dr z d 7 + nI 1) (nI 0) (nI 99999)) = suf7 d z := by unfold suf7; rw [bI_t h]
theorem suf7_f {d : Nat} {z : Vc} (h : ¬ levAt z d < dr z d 3 - nI 10 - dr z d 1) : upd z (50 + 8 * d + 7) (hl (dr z d 7 + nI 0) (nI 0) (nI 99999)) = suf7 d z := by unfold suf7; rw [bI_f h]
theorem mh_loop {i : ab_I} {s : Vc} (hI : InT s) (m d : Nat) (hm : nD s - d < m) (hd : d ≤ nD s) : ab_R 7 tb_X11_hour 10 [some (.ref 218), some (.int (nI d))] [] (ab_row i 219 (lp suf d s)) (ab_N (ab_row i 219 (tick (sufs s)))) := by
  induction m generalizing d with
  | zero => exact absurd hm (by omega)
  | succ m ih =>
    have d12 := hI.2.1.2
    have hJ := In_lp (f := suf) (n := d) hI (fun b hb z hz hs => In_suf hz (by omega) hs)
    have t1 : lp suf d s 1 = nI (nD s) := hJ.1.2.1.1.trans (by rw [hJ.2.2])
    refine r_go 5 rfl ?_ ?_
    · (rw [gr_218_0]; exact ⟨ix_219 (by decide), rfl, by decide⟩)
    rw [rowI row_s, nI_cl (by decide), t1]
    refine r_le rfl (fun h17 => ?_) (fun h17 => ?_)
    · skip
      refine r_go 8 rfl ?_ ?_
      · (simp only [ab_all, gr_218_0]; exact ⟨ix_219 (by decide), ix_219 (by decide), rfl, by decide⟩)
      refine r_ret rfl trivial ?_
      have e : d = nD s := by clear hJ t1; (simp (disch := omega) only [Int32.le_iff_toInt_le, Int32.lt_iff_toInt_lt, c_i, m1_i, m5_i, m33_i] at * <;> omega)
      subst e
      rw [gr_218_0, nI_cl (by decide), row_up, row_s]
      exact ⟨rfl, rfl⟩
    · skip
      have hdl : d < nD s := by clear hJ t1; (simp (disch := omega) only [Int32.le_iff_toInt_le, Int32.lt_iff_toInt_lt, c_i, m1_i, m5_i, m33_i] at * <;> omega)
      have hdz : d < nD (lp suf d s) := by rw [hJ.2.2]; exact hdl
      have h6 := In_suf6 (s := s) hJ.1 (show d < 12 by omega) hJ.2
      have hd6 : d < nD (suf6 d (lp suf d s)) := by rw [h6.2.2]; exact hdl
      have hls : lp suf (d + 1) s = suf7 d (suf6 d (lp suf d s)) := rfl
      refine r_go 5 rfl ?_ ?_
      · (first | exact trivial | assumption | (simp (disch := omega) [ab_all, ab_nz, *]; done))
      refine r_cv rfl rfl ((m_levelAt d row_s hJ.1 hdz)) (by decide) ?_
      refine r_go 3 rfl ?_ ?_
      · (first | exact trivial | assumption | (simp (disch := omega) [ab_all, ab_nz, *]; done))
      refine r_cv rfl rfl ((m_its d 3 row_s (by omega))) (by decide) ?_
      refine r_le rfl (fun h35 => ?_) (fun h35 => ?_)
      · skip
        refine r_go 1 rfl ?_ ?_
        · (first | exact trivial | assumption | (simp (disch := omega) [ab_all, ab_nz, *]; done))
        refine r_cn rfl rfl ((m_suffers d 6 _ (by first | exact Or.inl rfl | exact Or.inr rfl) row_s (by omega) (by decide))) (by decide) ?_
        rw [row_row]
        first | rw [suf6_t h35] | rw [suf6_f h35]
        refine r_go 5 rfl ?_ ?_
        · (first | exact trivial | assumption | (simp (disch := omega) [ab_all, ab_nz, *]; done))
        refine r_cv rfl rfl ((m_levelAt d row_s h6.1 hd6)) (by decide) ?_
        refine r_go 3 rfl ?_ ?_
        · (first | exact trivial | assumption | (simp (disch := omega) [ab_all, ab_nz, *]; done))
        refine r_cv rfl rfl ((m_its d 3 row_s (by omega))) (by decide) ?_
        refine r_go 5 rfl ?_ ?_
        · (first | exact trivial | assumption | (simp (disch := omega) [ab_all, ab_nz, *]; done))
        refine r_cv rfl rfl ((m_its d 1 row_s (by omega))) (by decide) ?_
        refine r_go 1 rfl ?_ ?_
        · (first | exact trivial | assumption | (simp (disch := omega) [ab_all, ab_nz, *]; done))
        refine r_le rfl (fun h71 => ?_) (fun h71 => ?_)
        · skip
          refine r_go 1 rfl ?_ ?_
          · (first | exact trivial | assumption | (simp (disch := omega) [ab_all, ab_nz, *]; done))
          refine r_cn rfl rfl ((m_suffers d 7 _ (by first | exact Or.inl rfl | exact Or.inr rfl) row_s (by omega) (by decide))) (by decide) ?_
          refine r_go 2 rfl ?_ ?_
          · (first | exact trivial | assumption | (simp (disch := omega) [ab_all, ab_nz, *]; done))
          rw [row_row]
          first | rw [suf7_t h71] | rw [suf7_f h71]
          rw [← hls, nI_add]
          exact ih (d + 1) (by omega) (by omega)
        · skip
          refine r_go 2 rfl ?_ ?_
          · (first | exact trivial | assumption | (simp (disch := omega) [ab_all, ab_nz, *]; done))
          refine r_cn rfl rfl ((m_suffers d 7 _ (by first | exact Or.inl rfl | exact Or.inr rfl) row_s (by omega) (by decide))) (by decide) ?_
          refine r_go 2 rfl ?_ ?_
          · (first | exact trivial | assumption | (simp (disch := omega) [ab_all, ab_nz, *]; done))
          rw [row_row]
          first | rw [suf7_t h71] | rw [suf7_f h71]
          rw [← hls, nI_add]
          exact ih (d + 1) (by omega) (by omega)
      · skip
        refine r_go 2 rfl ?_ ?_
        · (first | exact trivial | assumption | (simp (disch := omega) [ab_all, ab_nz, *]; done))
        refine r_cn rfl rfl ((m_suffers d 6 _ (by first | exact Or.inl rfl | exact Or.inr rfl) row_s (by omega) (by decide))) (by decide) ?_
        rw [row_row]
        first | rw [suf6_t h35] | rw [suf6_f h35]
        refine r_go 5 rfl ?_ ?_
        · (first | exact trivial | assumption | (simp (disch := omega) [ab_all, ab_nz, *]; done))
        refine r_cv rfl rfl ((m_levelAt d row_s h6.1 hd6)) (by decide) ?_
        refine r_go 3 rfl ?_ ?_
        · (first | exact trivial | assumption | (simp (disch := omega) [ab_all, ab_nz, *]; done))
        refine r_cv rfl rfl ((m_its d 3 row_s (by omega))) (by decide) ?_
        refine r_go 5 rfl ?_ ?_
        · (first | exact trivial | assumption | (simp (disch := omega) [ab_all, ab_nz, *]; done))
        refine r_cv rfl rfl ((m_its d 1 row_s (by omega))) (by decide) ?_
        refine r_go 1 rfl ?_ ?_
        · (first | exact trivial | assumption | (simp (disch := omega) [ab_all, ab_nz, *]; done))
        refine r_le rfl (fun h71 => ?_) (fun h71 => ?_)
        · skip
          refine r_go 1 rfl ?_ ?_
          · (first | exact trivial | assumption | (simp (disch := omega) [ab_all, ab_nz, *]; done))
          refine r_cn rfl rfl ((m_suffers d 7 _ (by first | exact Or.inl rfl | exact Or.inr rfl) row_s (by omega) (by decide))) (by decide) ?_
          refine r_go 2 rfl ?_ ?_
          · (first | exact trivial | assumption | (simp (disch := omega) [ab_all, ab_nz, *]; done))
          rw [row_row]
          first | rw [suf7_t h71] | rw [suf7_f h71]
          rw [← hls, nI_add]
          exact ih (d + 1) (by omega) (by omega)
        · skip
          refine r_go 2 rfl ?_ ?_
          · (first | exact trivial | assumption | (simp (disch := omega) [ab_all, ab_nz, *]; done))
          refine r_cn rfl rfl ((m_suffers d 7 _ (by first | exact Or.inl rfl | exact Or.inr rfl) row_s (by omega) (by decide))) (by decide) ?_
          refine r_go 2 rfl ?_ ?_
          · (first | exact trivial | assumption | (simp (disch := omega) [ab_all, ab_nz, *]; done))
          rw [row_row]
          first | rw [suf7_t h71] | rw [suf7_f h71]
          rw [← hls, nI_add]
          exact ih (d + 1) (by omega) (by omega)
theorem m_hour {i : ab_I} {s : Vc} {mb : Nat} {mw : Int32} (hs : i 219 = s) (hI : InT s) (hX : InXs s) (hmb : mb ≤ 6) (h13 : i 218 13 = mvb mb) (h14 : mb < 6 → i 218 14 = mw) : ab_K 7 201 [.ref 218] i (fun v i' => v = none ∧ i' 219 = hour mb mw s ∧ fh i i') := by
  refine k_of rfl ?_
  refine r_go 1 rfl ?_ ?_
  · (first | exact trivial | assumption | (simp (disch := omega) [ab_all, ab_nz, *]; done))
  refine r_c rfl rfl ((m_weirs hs hI hX hmb h13 h14)) (by decide) ?_
  rintro v i1 ⟨rfl, hs1, f1⟩
  refine r_go 1 rfl ?_ ?_
  · (first | exact trivial | assumption | (simp (disch := omega) [ab_all, ab_nz, *]; done))
  refine r_cn rfl rfl ((m_flows hs1 (In_weirs hI).1)) (by decide) ?_
  refine r_go 2 rfl ?_ ?_
  · (first | exact trivial | assumption | (simp (disch := omega) [ab_all, ab_nz, *]; done))
  have K := mh_loop (i := i1) (In_flows (In_weirs (mb := mb) (mw := mw) hI).1).1 (nD (flows (weirs mb mw s)) + 1) 0 (by omega) (by omega)
  refine r_mono K ?_
  rintro v i' ⟨rfl, rfl⟩
  exact ⟨rfl, row_s, fh_tr f1 fh_row⟩
