/-! votes and pains of the reference -/
/-- all but the reference's names and pile is as it was -/
def sr (i i' : ab_I) : Prop := ∀ q, q ≠ 224 → q ≠ 225 → i' q = i q
theorem sr_rf {i : ab_I} : sr i i := fun _ _ _ => rfl
theorem sr_tr {i j k : ab_I} (h1 : sr i j) (h2 : sr j k) : sr i k := fun q a b => (h2 q a b).trans (h1 q a b)
theorem m_told1 {i : ab_I} {s : Vc} (d : Nat) (hs : i 219 = s) (hI : InT s) (hX : InXs s) (hd : d < nD s) : ab_K 3 193 [.ref 218, .int (nI d)] i (fun v i' => v = some (.int (told1 s d)) ∧ sr i i') := by
  have d12 := hI.2.1.2
  have o6 := on_lt hI hd
  refine k_of rfl ?_
  refine r_go 2 rfl ?_ ?_
  · (first | exact trivial | assumption | (simp (disch := omega) [ab_all, ab_nz, *]; done))
  refine r_cv rfl rfl ((m_hasText 0 hs (by decide))) (by decide) ?_
  refine r_bN rfl (fun h5 => ?_) (fun h5 => ?_)
  · skip
    refine r_go 5 rfl ?_ ?_
    · exact ⟨rfl, by decide⟩
    refine r_cv rfl rfl ((m_levelAt d hs hI hd)) (by decide) ?_
    refine r_go 7 rfl ?_ ?_
    · (rw [gr_218_10]; exact ⟨⟨rfl, by decide⟩, ix_of gt_224 (by decide) (by decide)⟩)
    refine r_cv rfl rfl ((m_its (s := s) d 3 (by simp (disch := decide) only [gr_218_10, up_row, hs]) (by omega))) (by decide) ?_
    refine r_go 24 rfl ?_ ?_
    · (rw [gr_218_10, gr_218_0]; exact ⟨⟨rfl, by decide⟩, ix_of gt_224 (by decide) (by decide), ix_of gt_219 (by decide) (by decide), ⟨rfl, by decide⟩, ⟨rfl, by decide⟩, ix_of gt_224 (by decide) (by decide), ix_of gt_219 (by decide) (by decide), ⟨rfl, by decide⟩, ⟨rfl, by decide⟩, ix_of gt_224 (by decide) (by decide)⟩)
    refine r_cv rfl rfl ((m_its (s := s) d 2 (by simp (disch := decide) only [gr_218_10, up_row, hs]) (by omega))) (by decide) ?_
    refine r_go 1 rfl ?_ ?_
    · (first | exact trivial | assumption | (simp (disch := omega) [ab_all, ab_nz, *]; done))
    rw [o6.2.2]
    refine r_cv rfl rfl ((m_of (s := s) (on s d) 2 (by simp (disch := decide) only [gr_218_10, up_row, hs]) (by omega))) (by decide) ?_
    refine r_go 3 rfl ?_ ?_
    · (rw [gr_218_10]; exact ix_of gt_224 (by decide) (by decide))
    simp (disch := decide) only [gr_218_10, gr_218_0, nI_cl, up_row, hs]
    refine r_c rfl rfl ((m_work (s := s) (u := 0) (nm := nm0 s d) (by simp (disch := decide) only [gr_218_10, up_row, hs]) (by decide) hX.1 h5 (fun v hv => by rcases hv with ⟨_, rfl | rfl | rfl | rfl | rfl⟩ | ⟨h, _⟩ <;> first | exact absurd h (by decide) | simp (decide := true) [ab_up, nm0, nI_cl]))) (by decide) ?_
    rintro v i' ⟨rfl, hf⟩
    refine r_ret rfl trivial ?_
    refine ⟨?_, fun q h1 h2 => ?_⟩
    · unfold told1
      rw [if_pos h5]
    · rw [hf q h2]
      simp only [up_row h1]
  · skip
    refine r_go 3 rfl ?_ ?_
    · (first | exact trivial | assumption | (simp (disch := omega) [ab_all, ab_nz, *]; done))
    refine r_cv rfl rfl ((m_its d 3 hs (by omega))) (by decide) ?_
    refine r_go 2 rfl ?_ ?_
    · (first | exact trivial | assumption | (simp (disch := omega) [ab_all, ab_nz, *]; done))
    refine r_cv rfl rfl ((m_levelAt d hs hI hd)) (by decide) ?_
    refine r_go 1 rfl ?_ ?_
    · (first | exact trivial | assumption | (simp (disch := omega) [ab_all, ab_nz, *]; done))
    refine r_ret rfl trivial ?_
    refine ⟨?_, sr_rf⟩
    unfold told1
    rw [if_neg h5]
theorem m_pain {i : ab_I} {s : Vc} (d : Nat) (hs : i 219 = s) (hI : InT s) (hX : InXs s) (hd : d < nD s) : ab_K 2 195 [.ref 218, .int (nI d)] i (fun v i' => v = some (.int (pain s d)) ∧ sr i i') := by
  have d12 := hI.2.1.2
  refine k_of rfl ?_
  refine r_go 2 rfl ?_ ?_
  · (first | exact trivial | assumption | (simp (disch := omega) [ab_all, ab_nz, *]; done))
  refine r_cv rfl rfl ((m_hasText 1 hs (by decide))) (by decide) ?_
  refine r_bN rfl (fun h5 => ?_) (fun h5 => ?_)
  · skip
    refine r_go 6 rfl ?_ ?_
    · exact ⟨rfl, by decide⟩
    refine r_cv rfl rfl ((m_its d 6 hs (by omega))) (by decide) ?_
    refine r_go 7 rfl ?_ ?_
    · (rw [gr_218_10]; exact ⟨⟨rfl, by decide⟩, ix_of gt_224 (by decide) (by decide)⟩)
    refine r_cv rfl rfl ((m_its (s := s) d 7 (by simp (disch := decide) only [gr_218_10, up_row, hs]) (by omega))) (by decide) ?_
    refine r_go 7 rfl ?_ ?_
    · (rw [gr_218_10]; exact ⟨⟨rfl, by decide⟩, ix_of gt_224 (by decide) (by decide)⟩)
    refine r_cv rfl rfl ((m_its (s := s) d 1 (by simp (disch := decide) only [gr_218_10, up_row, hs]) (by omega))) (by decide) ?_
    refine r_go 3 rfl ?_ ?_
    · (rw [gr_218_10]; exact ix_of gt_224 (by decide) (by decide))
    simp (disch := decide) only [gr_218_10, nI_cl]
    refine r_c rfl rfl ((m_work (s := s) (u := 1) (nm := nm1 s d) (by simp (disch := decide) only [gr_218_10, up_row, hs]) (by decide) hX.2 h5 (fun v hv => by rcases hv with ⟨h, _⟩ | ⟨_, rfl | rfl | rfl⟩ <;> first | exact absurd h (by decide) | simp (decide := true) [ab_up, nm1, nI_cl]))) (by decide) ?_
    rintro v i' ⟨rfl, hf⟩
    refine r_go 2 rfl ?_ ?_
    · (first | exact trivial | assumption | (simp (disch := omega) [ab_all, ab_nz, *]; done))
    refine r_cv rfl trivial ((m_held _ _ _)) (by decide) ?_
    refine r_ret rfl trivial ?_
    refine ⟨?_, fun q h1 h2 => ?_⟩
    · unfold pain
      rw [if_pos h5]
    · rw [hf q h2]
      simp only [up_row h1]
  · skip
    refine r_go 4 rfl ?_ ?_
    · (first | exact trivial | assumption | (simp (disch := omega) [ab_all, ab_nz, *]; done))
    refine r_cv rfl rfl ((m_its d 6 hs (by omega))) (by decide) ?_
    refine r_go 4 rfl ?_ ?_
    · (first | exact trivial | assumption | (simp (disch := omega) [ab_all, ab_nz, *]; done))
    refine r_cv rfl rfl ((m_its d 7 hs (by omega))) (by decide) ?_
    refine r_go 3 rfl ?_ ?_
    · (first | exact trivial | assumption | (simp (disch := omega) [ab_all, ab_nz, *]; done))
    refine r_cv rfl trivial ((m_held _ _ _)) (by decide) ?_
    refine r_ret rfl trivial ?_
    refine ⟨?_, sr_rf⟩
    unfold pain
    rw [if_neg h5]
