/-! votes and pains, the class's side -/
theorem isL_23 : isL 23 := ⟨rfl, ⟨rfl, rfl, by decide⟩, rfl⟩
theorem isL_27 : isL 27 := ⟨rfl, ⟨rfl, rfl, by decide⟩, rfl⟩
theorem isL_57 : isL 57 := ⟨rfl, ⟨rfl, rfl, by decide⟩, rfl⟩
theorem isL_61 : isL 61 := ⟨rfl, ⟨rfl, rfl, by decide⟩, rfl⟩
theorem txt_len {s : Vc} {u : Nat} : (txt s u).length = txN s u := by unfold txt; rw [List.length_map, List.length_range]
theorem txt_get {s : Vc} {u k : Nat} (h : k < (txt s u).length) : (txt s u)[k] = txe s u k := by simp [txt]
theorem pos_nI {n : Nat} (h : n ≤ 60) : (nI 0 < nI n) = (0 < n) := by
  refine propext ⟨fun z => ?_, fun z => nI_lt z (by omega)⟩
  (simp (disch := omega) only [Int32.le_iff_toInt_le, Int32.lt_iff_toInt_lt, c_i, m1_i, m5_i, m33_i] at * <;> omega)
/-- a text worked out by the class, by its relation to the reference's vector -/
theorem k_workT {c u : Nat} {s : Vc} {nm : Nat → Int32} {i : ab_I} (x0 x1 x2 x3 x4 : Int32) (hL : isL c) (hR : LwR c u s i) (hX : InX s u) (h0 : nI 0 < s (146 + 125 * u)) (hnm : ∀ v, isNm u v → (if idN u v = 0 then x0 else if idN u v = 1 then x1 else if idN u v = 2 then x2 else if idN u v = 3 then x3 else x4) = nm v.toNatClampNeg) :
    ab_K 1 38 [.ref c, .int x0, .int x1, .int x2, .int x3, .int x4] i (fun v i' => v = some (.int (wk nm (txt s u))) ∧ ∀ q, q ≠ c + 3 → i' q = i q) := by
  refine k_work (u := u) x0 x1 x2 x3 x4 hL (by rw [txt_len]; exact hR.1) (by rw [txt_len]; exact hX.2.1) (fun k hk => ?_) ?_ hnm
  · rw [txt_get hk]
    rw [txt_len] at hk
    exact hR.2 k hk
  · rw [hX.1, pos_nI hX.2.1] at h0
    exact hX.2.2.resolve_left (by omega)
theorem nm0_ok {s : Vc} {d : Nat} : ∀ v, isNm 0 v → (if idN 0 v = 0 then levAt s d else if idN 0 v = 1 then dr s d 3 else if idN 0 v = 2 then s 3 else if idN 0 v = 3 then s 2 else bs s (on s d) 2) = nm0 s d v.toNatClampNeg := by
  intro v hv
  rcases hv with ⟨_, rfl | rfl | rfl | rfl | rfl⟩ | ⟨h, _⟩
  · rfl
  · rfl
  · rfl
  · rfl
  · rfl
  · exact absurd h (by decide)
theorem nm1_ok {s : Vc} {d : Nat} : ∀ v, isNm 1 v → (if idN 1 v = 0 then dr s d 6 else if idN 1 v = 1 then dr s d 7 else if idN 1 v = 2 then dr s d 1 else if idN 1 v = 3 then nI 0 else nI 0) = nm1 s d v.toNatClampNeg := by
  intro v hv
  rcases hv with ⟨h, _⟩ | ⟨_, rfl | rfl | rfl⟩
  · exact absurd h (by decide)
  · rfl
  · rfl
  · rfl
theorem sg_cmp {v : Int32} : cmpI v (nI 0) = sg v := by
  unfold cmpI sg
  by_cases h1 : nI 0 ≤ v
  · rw [if_pos h1]
    by_cases h2 : v = nI 0
    · subst h2
      rfl
    · rw [if_neg h2, if_pos]
      rw [eq_i] at h2
      (simp (disch := omega) only [Int32.le_iff_toInt_le, Int32.lt_iff_toInt_lt, c_i, m1_i, m5_i, m33_i] at * <;> omega)
  · rw [if_neg h1, if_neg, if_pos]
    · (simp (disch := omega) only [Int32.le_iff_toInt_le, Int32.lt_iff_toInt_lt, c_i, m1_i, m5_i, m33_i] at * <;> omega)
    · (simp (disch := omega) only [Int32.le_iff_toInt_le, Int32.lt_iff_toInt_lt, c_i, m1_i, m5_i, m33_i] at * <;> omega)
theorem k_voteOf {t d : Nat} {s : Vc} {i : ab_I} (ht : isT t) (hR : TwR t s i) (hI : InT s) (hd : d < nD s) (hL : LwR 23 0 s i) (hX : InX s 0) : ab_K 2 96 [.ref t, .ref (t + 9 + d), .ref 23] i (fun v i' => v = some (.int (vote s d)) ∧ ∀ q, q ≠ 26 → i' q = i q) := by
  have d12 : d < 12 := by have := hI.2.1.2; omega
  have g0 := tg_t ht
  have gd := tg_d ht d12
  have hD := hR.2.2 d hd
  have hB := hR.2.1 (on s d) (on_lt hI hd).1
  have hb6 := (on_lt hI hd).2.1
  have d0 : i (t + 9 + d) 0 = dr s d 0 := hD 0 (by decide)
  have d1 : i (t + 9 + d) 1 = dr s d 1 := hD 1 (by decide)
  have d2 : i (t + 9 + d) 2 = nI (on s d) := (hD 2 (by decide)).trans (on_lt hI hd).2.2
  have d3 : i (t + 9 + d) 3 = dr s d 3 := hD 3 (by decide)
  have d4 : i (t + 9 + d) 4 = dr s d 4 := hD 4 (by decide)
  have d5 : i (t + 9 + d) 5 = dr s d 5 := hD 5 (by decide)
  have b0 : i (t + 2 + on s d) 0 = bs s (on s d) 1 := hB 1 (by decide)
  have b1 : i (t + 2 + on s d) 1 = bs s (on s d) 0 := hB 0 (by decide)
  have b2 : i (t + 2 + on s d) 2 = bs s (on s d) 2 := hB 2 (by decide)
  have b6 : i (t + 2 + on s d) 6 = bs s (on s d) 6 := hB 6 (by decide)
  have gb := tg_b ht hb6
  have t4 : i t 4 = s 3 := hR.1.2.2.1
  have t5 : i t 5 = s 2 := hR.1.2.2.2.1
  have ha : 0 < (i (t + 2 + on s d) 0).toInt := by
    rw [b0]
    have := (hI.2.2.2.2.1 _ (on_lt hI hd).1) 1 (by decide)
    exact Int.lt_of_lt_of_le (by decide) this.1
  have e0 : (nI 0 < i 24 1) = (nI 0 < s 146) := by rw [hL.1, ← hX.1]
  have el : i (t + 2 + on s d) 1 / i (t + 2 + on s d) 0 = levAt s d := by rw [b0, b1]; rfl
  refine k_of rfl ?_
  refine r_go 3 rfl ?_ ?_
  · (first | exact trivial | assumption | (simp (disch := omega) [ab_all, ab_nz, *]; done))
  rw [d5]
  refine r_ne rfl (fun h5 => ?_) (fun h5 => ?_)
  · skip
    refine r_go 3 rfl ?_ ?_
    · (first | exact trivial | assumption | (simp (disch := omega) [ab_all, ab_nz, *]; done))
    rw [d4]
    refine r_br rfl (fun h15 => ?_) (fun h15 => ?_)
    · skip
      refine r_go 3 rfl ?_ ?_
      · (first | exact trivial | assumption | (simp (disch := omega) [ab_all, ab_nz, *]; done))
      rw [d2]
      refine r_cv rfl (by first | assumption | rfl) ((k_basinAt _ ht hb6)) (by decide) ?_
      refine r_go 2 rfl ?_ ?_
      · (first | exact trivial | assumption | (simp (disch := omega) [ab_all, ab_nz, *]; done))
      refine r_cv rfl (by first | assumption | rfl) ((k_level gb ha)) (by decide) ?_
      rw [el]
      refine r_go 9 rfl ?_ ?_
      · (first | exact trivial | assumption | (simp (disch := omega) [ab_all, ab_nz, *]; done))
      rw [d0, d1, d3]
      refine r_sw rfl ?_
      refine r_swk (fun h53 => ?_) (fun h53 => ?_)
      · skip
        refine r_go 2 rfl ?_ ?_
        · (first | exact trivial | assumption | (simp (disch := omega) [ab_all, ab_nz, *]; done))
        refine r_le rfl (fun h96 => ?_) (fun h96 => ?_)
        · skip
          refine r_go 1 rfl ?_ ?_
          · (first | exact trivial | assumption | (simp (disch := omega) [ab_all, ab_nz, *]; done))
          refine r_ret rfl trivial ?_
          refine ⟨?_, fun q hq => ?_⟩
          · unfold vote
            clear hD hB e0 el hX hL hI hR
            simp (decide := true) only [if_true, if_false, not_true, not_false_eq_true, *]
          · first | rfl | exact hf q hq
        · skip
          refine r_go 2 rfl ?_ ?_
          · (first | exact trivial | assumption | (simp (disch := omega) [ab_all, ab_nz, *]; done))
          refine r_ret rfl trivial ?_
          refine ⟨?_, fun q hq => ?_⟩
          · unfold vote
            clear hD hB e0 el hX hL hI hR
            simp (decide := true) only [if_true, if_false, not_true, not_false_eq_true, *]
          · first | rfl | exact hf q hq
      refine r_swk (fun h53 => ?_) (fun h53 => ?_)
      · skip
        refine r_go 2 rfl ?_ ?_
        · (first | exact trivial | assumption | (simp (disch := omega) [ab_all, ab_nz, *]; done))
        refine r_le rfl (fun h109 => ?_) (fun h109 => ?_)
        · skip
          refine r_go 1 rfl ?_ ?_
          · (first | exact trivial | assumption | (simp (disch := omega) [ab_all, ab_nz, *]; done))
          refine r_ret rfl trivial ?_
          refine ⟨?_, fun q hq => ?_⟩
          · unfold vote
            clear hD hB e0 el hX hL hI hR
            simp (decide := true) only [if_true, if_false, not_true, not_false_eq_true, *]
          · first | rfl | exact hf q hq
        · skip
          refine r_go 2 rfl ?_ ?_
          · (first | exact trivial | assumption | (simp (disch := omega) [ab_all, ab_nz, *]; done))
          refine r_ret rfl trivial ?_
          refine ⟨?_, fun q hq => ?_⟩
          · unfold vote
            clear hD hB e0 el hX hL hI hR
            simp (decide := true) only [if_true, if_false, not_true, not_false_eq_true, *]
          · first | rfl | exact hf q hq
      refine r_swk (fun h53 => ?_) (fun h53 => ?_)
      · skip
        refine r_go 3 rfl ?_ ?_
        · (first | exact trivial | assumption | (simp (disch := omega) [ab_all, ab_nz, *]; done))
        rw [d3]
        refine r_le rfl (fun h124 => ?_) (fun h124 => ?_)
        · skip
          refine r_go 2 rfl ?_ ?_
          · (first | exact trivial | assumption | (simp (disch := omega) [ab_all, ab_nz, *]; done))
          refine r_le rfl (fun h135 => ?_) (fun h135 => ?_)
          · skip
            refine r_go 1 rfl ?_ ?_
            · (first | exact trivial | assumption | (simp (disch := omega) [ab_all, ab_nz, *]; done))
            refine r_ret rfl trivial ?_
            refine ⟨?_, fun q hq => ?_⟩
            · unfold vote
              clear hD hB e0 el hX hL hI hR
              simp (decide := true) only [if_true, if_false, not_true, not_false_eq_true, *]
            · first | rfl | exact hf q hq
          · skip
            refine r_go 2 rfl ?_ ?_
            · (first | exact trivial | assumption | (simp (disch := omega) [ab_all, ab_nz, *]; done))
            refine r_ret rfl trivial ?_
            refine ⟨?_, fun q hq => ?_⟩
            · unfold vote
              clear hD hB e0 el hX hL hI hR
              simp (decide := true) only [if_true, if_false, not_true, not_false_eq_true, *]
            · first | rfl | exact hf q hq
        · skip
          refine r_go 2 rfl ?_ ?_
          · (first | exact trivial | assumption | (simp (disch := omega) [ab_all, ab_nz, *]; done))
          refine r_ret rfl trivial ?_
          refine ⟨?_, fun q hq => ?_⟩
          · unfold vote
            clear hD hB e0 el hX hL hI hR
            simp (decide := true) only [if_true, if_false, not_true, not_false_eq_true, *]
          · first | rfl | exact hf q hq
      refine r_swk (fun h53 => ?_) (fun h53 => ?_)
      · skip
        refine r_go 4 rfl ?_ ?_
        · (first | exact trivial | assumption | (simp (disch := omega) [ab_all, ab_nz, *]; done))
        refine r_cv rfl (by first | assumption | rfl) ((k_isDry _ gd)) (by decide) ?_
        rw [d3, d1]
        refine r_bE rfl (fun h152 => ?_) (fun h152 => ?_)
        · skip
          refine r_go 6 rfl ?_ ?_
          · (first | exact trivial | assumption | (simp (disch := omega) [ab_all, ab_nz, *]; done))
          rw [b6, d1]
          refine r_le rfl (fun h170 => ?_) (fun h170 => ?_)
          · skip
            refine r_go 1 rfl ?_ ?_
            · (first | exact trivial | assumption | (simp (disch := omega) [ab_all, ab_nz, *]; done))
            refine r_ret rfl trivial ?_
            refine ⟨?_, fun q hq => ?_⟩
            · unfold vote
              clear hD hB e0 el hX hL hI hR
              simp (decide := true) only [if_true, if_false, not_true, not_false_eq_true, *]
            · first | rfl | exact hf q hq
          · skip
            refine r_go 2 rfl ?_ ?_
            · (first | exact trivial | assumption | (simp (disch := omega) [ab_all, ab_nz, *]; done))
            refine r_ret rfl trivial ?_
            refine ⟨?_, fun q hq => ?_⟩
            · unfold vote
              clear hD hB e0 el hX hL hI hR
              simp (decide := true) only [if_true, if_false, not_true, not_false_eq_true, *]
            · first | rfl | exact hf q hq
        · skip
          refine r_go 2 rfl ?_ ?_
          · (first | exact trivial | assumption | (simp (disch := omega) [ab_all, ab_nz, *]; done))
          refine r_ret rfl trivial ?_
          refine ⟨?_, fun q hq => ?_⟩
          · unfold vote
            clear hD hB e0 el hX hL hI hR
            simp (decide := true) only [if_true, if_false, not_true, not_false_eq_true, *]
          · first | rfl | exact hf q hq
      refine r_swk (fun h53 => ?_) (fun h53 => ?_)
      · skip
        refine r_go 7 rfl ?_ ?_
        · (first | exact trivial | assumption | (simp (disch := omega) [ab_all, ab_nz, *]; done))
        rw [t4]
        refine r_le rfl (fun h190 => ?_) (fun h190 => ?_)
        · skip
          refine r_go 1 rfl ?_ ?_
          · (first | exact trivial | assumption | (simp (disch := omega) [ab_all, ab_nz, *]; done))
          refine r_ret rfl trivial ?_
          refine ⟨?_, fun q hq => ?_⟩
          · unfold vote
            clear hD hB e0 el hX hL hI hR
            simp (decide := true) only [if_true, if_false, not_true, not_false_eq_true, *]
          · first | rfl | exact hf q hq
        · skip
          refine r_go 2 rfl ?_ ?_
          · (first | exact trivial | assumption | (simp (disch := omega) [ab_all, ab_nz, *]; done))
          refine r_ret rfl trivial ?_
          refine ⟨?_, fun q hq => ?_⟩
          · unfold vote
            clear hD hB e0 el hX hL hI hR
            simp (decide := true) only [if_true, if_false, not_true, not_false_eq_true, *]
          · first | rfl | exact hf q hq
      refine r_swk (fun h53 => ?_) (fun h53 => ?_)
      · skip
        refine r_go 1 rfl ?_ ?_
        · (first | exact trivial | assumption | (simp (disch := omega) [ab_all, ab_nz, *]; done))
        refine r_cv rfl (by first | assumption | rfl) ((k_isTold isL_23)) (by decide) ?_
        refine r_bE rfl (fun h203 => ?_) (fun h203 => ?_)
        · skip
          refine r_go 4 rfl ?_ ?_
          · (first | exact trivial | assumption | (simp (disch := omega) [ab_all, ab_nz, *]; done))
          (try rw [d3])
          refine r_go 3 rfl ?_ ?_
          · (first | exact trivial | assumption | (simp (disch := omega) [ab_all, ab_nz, *]; done))
          refine r_cv rfl trivial ((k_compare _ _)) (by decide) ?_
          refine r_ret rfl trivial ?_
          rw [e0] at h203
          refine ⟨?_, fun q hq => ?_⟩
          · rw [sg_cmp]
            unfold vote
            rw [if_neg h5, if_neg (fun z => z h15), if_neg (by assumption), if_neg (by assumption), if_neg (by assumption), if_neg (by assumption), if_neg (by assumption), if_pos (by assumption)]
            unfold told1
            first | rw [if_neg h203] | rw [if_pos h203]
          · first | rfl | exact hf q hq
        · skip
          refine r_go 10 rfl ?_ ?_
          · (first | exact trivial | assumption | (simp (disch := omega) [ab_all, ab_nz, *]; done))
          rw [d3, t4, t5, b2]
          refine r_c rfl (by first | assumption | rfl) ((k_workT (c := 23) (u := 0) (nm := nm0 s d) _ _ _ _ _ isL_23 hL hX (by rw [← e0]; exact h203) nm0_ok)) (by decide) ?_
          rintro v i' ⟨rfl, hf⟩
          refine r_go 1 rfl ?_ ?_
          · (first | exact trivial | assumption | (simp (disch := omega) [ab_all, ab_nz, *]; done))
          (try rw [d3])
          refine r_go 3 rfl ?_ ?_
          · (first | exact trivial | assumption | (simp (disch := omega) [ab_all, ab_nz, *]; done))
          refine r_cv rfl trivial ((k_compare _ _)) (by decide) ?_
          refine r_ret rfl trivial ?_
          rw [e0] at h203
          refine ⟨?_, fun q hq => ?_⟩
          · rw [sg_cmp]
            unfold vote
            rw [if_neg h5, if_neg (fun z => z h15), if_neg (by assumption), if_neg (by assumption), if_neg (by assumption), if_neg (by assumption), if_neg (by assumption), if_pos (by assumption)]
            unfold told1
            first | rw [if_neg h203] | rw [if_pos h203]
          · first | rfl | exact hf q hq
      refine r_go 1 rfl ?_ ?_
      · (first | exact trivial | assumption | (simp (disch := omega) [ab_all, ab_nz, *]; done))
      refine r_ret rfl trivial ?_
      refine ⟨?_, fun q hq => ?_⟩
      · unfold vote
        clear hD hB e0 el hX hL hI hR
        simp (decide := true) only [if_true, if_false, not_true, not_false_eq_true, *]
      · first | rfl | exact hf q hq
    · skip
      refine r_go 2 rfl ?_ ?_
      · (first | exact trivial | assumption | (simp (disch := omega) [ab_all, ab_nz, *]; done))
      rw [d4]
      refine r_ret rfl trivial ?_
      refine ⟨?_, fun q hq => ?_⟩
      · unfold vote
        clear hD hB e0 el hX hL hI hR
        simp (decide := true) only [if_true, if_false, not_true, not_false_eq_true, *]
      · first | rfl | exact hf q hq
  · skip
    refine r_go 1 rfl ?_ ?_
    · (first | exact trivial | assumption | (simp (disch := omega) [ab_all, ab_nz, *]; done))
    refine r_ret rfl trivial ?_
    refine ⟨?_, fun q hq => ?_⟩
    · unfold vote
      clear hD hB e0 el hX hL hI hR
      simp (decide := true) only [if_true, if_false, not_true, not_false_eq_true, *]
    · first | rfl | exact hf q hq
