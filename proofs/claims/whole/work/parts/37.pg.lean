/-! one town, one whole becomes like another; the reference's vector is carried -/
def cyN (c : Nat) (a b : Vc) : Vc := fun k => if k < c then a k else b k
def cy (a b : Vc) : Vc := cyN 480 a b
theorem cy_lt {a b : Vc} {k : Nat} (h : k < 480) : cy a b k = a k := if_pos h
theorem cy_ge {a b : Vc} {k : Nat} (h : 480 ≤ k) : cy a b k = b k := if_neg (by omega)
theorem cyN_s {a b : Vc} {c : Nat} : upd (cyN c a b) c (a c) = cyN (c + 1) a b := by
  funext k
  unfold upd cyN
  by_cases h : k = c
  · rw [if_pos h, if_pos (by omega), h]
  · rw [if_neg h]
    by_cases h2 : k < c
    · rw [if_pos h2, if_pos (by omega)]
    · rw [if_neg h2, if_neg (by omega)]
theorem cy_back {s z o : Vc} (h : ∀ k, 480 ≤ k → z k = s k) : cy (cy s o) z = s := by
  funext k
  by_cases hk : k < 480
  · rw [cy_lt hk, cy_lt hk]
  · rw [cy_ge (by omega), h k (by omega)]
theorem ca_loop {p q : Nat} {i : ab_I} (hp : ab_gt GF p = (100, 480)) (hq : ab_gt GF q = (100, 480)) (hne : p ≠ q) (mm c : Nat) (hmm : 480 - c < mm) (hc : c ≤ 480) : ab_R 0 tb_X11_carry 2 [some (.ref p), some (.ref q), some (.int (nI c))] [] (ab_row i q (cyN c (i p) (i q))) (ab_N (ab_row i q (cy (i p) (i q)))) := by
  induction mm generalizing c with
  | zero => exact absurd hmm (by omega)
  | succ mm ih =>
    refine r_go 2 rfl ?_ ?_
    · (first | exact trivial | assumption | (simp (disch := omega) [ab_all, ab_nz, *]; done))
    refine r_le rfl (fun h6 => ?_) (fun h6 => ?_)
    · skip
      refine r_ret rfl trivial ?_
      have e : c = 480 := by clear hp hq; (simp (disch := omega) only [Int32.le_iff_toInt_le, Int32.lt_iff_toInt_lt, c_i, m1_i, m5_i, m33_i] at * <;> omega)
      subst e
      exact ⟨rfl, rfl⟩
    · skip
      have hcl : c < 480 := by clear hp hq; (simp (disch := omega) only [Int32.le_iff_toInt_le, Int32.lt_iff_toInt_lt, c_i, m1_i, m5_i, m33_i] at * <;> omega)
      refine r_go 8 rfl ?_ ?_
      · exact ⟨ix_of hq hcl (by omega), ix_of hp hcl (by omega)⟩
      rw [nI_cl (by omega), row_up, show ab_row i q (cyN c (i p) (i q)) p c = i p c from ab_row_ne hne, cyN_s, nI_add]
      exact ih (c + 1) (by omega) (by omega)
theorem m_carry {p q : Nat} {i : ab_I} (hp : ab_gt GF p = (100, 480)) (hq : ab_gt GF q = (100, 480)) (hne : p ≠ q) : ab_K 0 157 [.ref p, .ref q] i (ab_N (ab_row i q (cy (i p) (i q)))) := by
  refine k_of rfl ?_
  refine r_go 2 rfl ?_ ?_
  · (first | exact trivial | assumption | (simp (disch := omega) [ab_all, ab_nz, *]; done))
  have K := ca_loop (i := i) hp hq hne 481 0 (by omega) (by omega)
  have e : cyN 0 (i p) (i q) = i q := by
      funext k
      exact if_neg (by omega)
  rw [e, row_id] at K
  exact K
def frX (t : Nat) (i i' : ab_I) : Prop := ∀ q, ¬ (t ≤ q ∧ q < t + 21) → i' q = i q
theorem frX_rf {t : Nat} {i : ab_I} : frX t i i := fun _ _ => rfl
theorem frX_tr {t : Nat} {i j k : ab_I} (h1 : frX t i j) (h2 : frX t j k) : frX t i k := fun q a => (h2 q a).trans (h1 q a)
theorem isT_far {t t' : Nat} (h : isT t) (h' : isT t') (hne : t ≠ t') : t + 21 ≤ t' ∨ t' + 21 ≤ t := by
  have := (by decide : ∀ t ∈ Tws, ∀ t' ∈ Tws, t ≠ t' → t + 21 ≤ t' ∨ t' + 21 ≤ t) t h t' h' hne
  exact this
theorem cpy_ne {n q p a : Nat} {i : ab_I} (h : a ≠ q) : cpy n q p i a = i a := funext (fun b => ab_row_ne h)
theorem cpy_us {n q p k : Nat} {i : ab_I} (h : k < n) : cpy n q p i q k = i p k := by
  unfold cpy
  rw [ab_row_self]
  exact if_pos h
theorem fB_lt {w : Nat} (h : w < 7) : fB w < 7 := by
  unfold fB
  split <;> omega
theorem tl_loop2 {t t' : Nat} {s : Vc} {i0 : ab_I} (ht : isT t) (ht' : isT t') (hne : t ≠ t') (hI : InT s) (mm k : Nat) (i : ab_I) (hmm : nD s - k < mm) (hk : k ≤ nD s) (hR : TwR t' s i) (hB : ∀ b, b < nB s → ∀ w, w < 7 → i (t + 2 + b) (fB w) = bs s b w) (hD : ∀ d, d < k → ∀ w, w < 8 → i (t + 9 + d) w = dr s d w) (hi : frX t i0 i) : ab_R 1 tb_X8_becomeLike 31 [some (.ref t), some (.ref t'), some (.int (nI k))] [] i (fun v i' => v = none ∧ TwR t s i' ∧ frX t i0 i') := by
  induction mm generalizing k i with
  | zero => exact absurd hmm (by omega)
  | succ mm ih =>
    have g0 := tg_t ht
    have g0' := tg_t ht'
    have d12 := hI.2.1.2
    have b6 := hI.1.2
    have hf := isT_far ht ht' hne
    have t3 : i t' 3 = nI (nD s) := hR.1.2.1.trans hI.2.1.1
    refine r_go 3 rfl ?_ ?_
    · exact g0'
    rw [t3]
    refine r_le rfl (fun h36 => ?_) (fun h36 => ?_)
    · skip
      refine r_go 24 rfl ?_ ?_
      · (simp only [ab_all, g0, g0', and_self])
      refine r_ret rfl trivial ?_
      have e : k = nD s := by clear hR hB hD hI hi t3 hf; (simp (disch := omega) only [Int32.le_iff_toInt_le, Int32.lt_iff_toInt_lt, c_i, m1_i, m5_i, m33_i] at * <;> omega)
      subst e
      obtain ⟨a1, a2, a3, a4, a5, a6⟩ := hR.1
      refine ⟨rfl, ⟨⟨?_, ?_, ?_, ?_, ?_, ?_⟩, fun b hb w hw => ?_, fun d hd w hw => ?_⟩, fun q hq => ?_⟩
      · simp (disch := omega) only [up_ne, up_us]
        exact a1
      · simp (disch := omega) only [up_ne, up_us]
        exact a2
      · simp (disch := omega) only [up_ne, up_us]
        exact a3
      · simp (disch := omega) only [up_ne, up_us]
        exact a4
      · simp (disch := omega) only [up_ne, up_us]
        exact a5
      · simp (disch := omega) only [up_ne, up_us]
        exact a6
      · simp (disch := omega) only [up_row]
        exact hB b hb w hw
      · simp (disch := omega) only [up_row]
        exact hD d hd w hw
      · simp (disch := omega) only [up_row]
        exact hi q hq
    · skip
      have hkl : k < nD s := by clear hR hB hD hI hi t3 hf; (simp (disch := omega) only [Int32.le_iff_toInt_le, Int32.lt_iff_toInt_lt, c_i, m1_i, m5_i, m33_i] at * <;> omega)
      refine r_go 2 rfl ?_ ?_
      · (first | exact trivial | assumption | (simp (disch := omega) [ab_all, ab_nz, *]; done))
      refine r_cv rfl (by first | exact g0 | exact g0' | exact tg_d ht (by omega)) ((k_doorAt k ht (by omega))) (by decide) ?_
      refine r_go 2 rfl ?_ ?_
      · (first | exact trivial | assumption | (simp (disch := omega) [ab_all, ab_nz, *]; done))
      refine r_cv rfl (by first | exact g0 | exact g0' | exact tg_d ht (by omega)) ((k_doorAt k ht' (by omega))) (by decide) ?_
      refine r_cn rfl (by first | exact g0 | exact g0' | exact tg_d ht (by omega)) ((k_dlike (tg_d ht (show k < 12 by omega)) (tg_d ht' (show k < 12 by omega)))) (by decide) ?_
      refine r_go 2 rfl ?_ ?_
      · (first | exact trivial | assumption | (simp (disch := omega) [ab_all, ab_nz, *]; done))
      rw [nI_add]
      refine r_lk (ih (k + 1) _ (by omega) (by omega) (TwR_far hR b6 d12 (fun q a b => cpy_ne (by omega))) (fun b hb w hw => ?_) (fun d hd w hw => ?_) (frX_tr hi (fun q hq => cpy_ne (by omega)))) rfl
      · rw [cpy_ne (by omega)]
        exact hB b hb w hw
      · by_cases e : d = k
        · subst e
          rw [cpy_us hw]
          exact hR.2.2 d hkl w hw
        · rw [cpy_ne (by omega)]
          exact hD d (by omega) w hw
theorem tl_loop1 {t t' : Nat} {s : Vc} {i0 : ab_I} (ht : isT t) (ht' : isT t') (hne : t ≠ t') (hI : InT s) (mm k : Nat) (i : ab_I) (hmm : nB s - k < mm) (hk : k ≤ nB s) (hR : TwR t' s i) (hB : ∀ b, b < k → ∀ w, w < 7 → i (t + 2 + b) (fB w) = bs s b w) (hi : frX t i0 i) : ab_R 1 tb_X8_becomeLike 2 [some (.ref t), some (.ref t'), some (.int (nI k))] [] i (fun v i' => v = none ∧ TwR t s i' ∧ frX t i0 i') := by
  induction mm generalizing k i with
  | zero => exact absurd hmm (by omega)
  | succ mm ih =>
    have g0 := tg_t ht
    have g0' := tg_t ht'
    have d12 := hI.2.1.2
    have b6 := hI.1.2
    have hf := isT_far ht ht' hne
    have t2 : i t' 2 = nI (nB s) := hR.1.1.trans hI.1.1
    refine r_go 3 rfl ?_ ?_
    · exact g0'
    rw [t2]
    refine r_le rfl (fun h7 => ?_) (fun h7 => ?_)
    · skip
      refine r_go 2 rfl ?_ ?_
      · (first | exact trivial | assumption | (simp (disch := omega) [ab_all, ab_nz, *]; done))
      have e : k = nB s := by clear hR hB hI hi t2 hf; (simp (disch := omega) only [Int32.le_iff_toInt_le, Int32.lt_iff_toInt_lt, c_i, m1_i, m5_i, m33_i] at * <;> omega)
      subst e
      exact r_lk (tl_loop2 (i0 := i0) ht ht' hne hI (nD s + 1) 0 i (by omega) (by omega) hR hB (fun d hd => absurd hd (by omega)) hi) rfl
    · skip
      have hkl : k < nB s := by clear hR hB hI hi t2 hf; (simp (disch := omega) only [Int32.le_iff_toInt_le, Int32.lt_iff_toInt_lt, c_i, m1_i, m5_i, m33_i] at * <;> omega)
      refine r_go 2 rfl ?_ ?_
      · (first | exact trivial | assumption | (simp (disch := omega) [ab_all, ab_nz, *]; done))
      refine r_cv rfl (by first | exact g0 | exact g0' | exact tg_b ht (by omega)) ((k_basinAt k ht (by omega))) (by decide) ?_
      refine r_go 2 rfl ?_ ?_
      · (first | exact trivial | assumption | (simp (disch := omega) [ab_all, ab_nz, *]; done))
      refine r_cv rfl (by first | exact g0 | exact g0' | exact tg_b ht (by omega)) ((k_basinAt k ht' (by omega))) (by decide) ?_
      refine r_cn rfl (by first | exact g0 | exact g0' | exact tg_b ht (by omega)) ((k_blike (tg_b ht (show k < 6 by omega)) (tg_b ht' (show k < 6 by omega)))) (by decide) ?_
      refine r_go 2 rfl ?_ ?_
      · (first | exact trivial | assumption | (simp (disch := omega) [ab_all, ab_nz, *]; done))
      rw [nI_add]
      refine r_lk (ih (k + 1) _ (by omega) (by omega) (TwR_far hR b6 d12 (fun q a b => cpy_ne (by omega))) (fun b hb w hw => ?_) (frX_tr hi (fun q hq => cpy_ne (by omega)))) rfl
      by_cases e : b = k
      · subst e
        rw [cpy_us (fB_lt hw)]
        exact hR.2.1 b hkl w hw
      · rw [cpy_ne (by omega)]
        exact hB b (by omega) w hw
theorem k_twLike {t t' : Nat} {s : Vc} {i : ab_I} (ht : isT t) (ht' : isT t') (hne : t ≠ t') (hI : InT s) (hR : TwR t' s i) : ab_K 1 86 [.ref t, .ref t'] i (fun v i' => v = none ∧ TwR t s i' ∧ frX t i i') := by
  refine k_of rfl ?_
  refine r_go 2 rfl ?_ ?_
  · (first | exact trivial | assumption | (simp (disch := omega) [ab_all, ab_nz, *]; done))
  exact tl_loop1 (i0 := i) ht ht' hne hI (nB s + 1) 0 i (by omega) (by omega) hR (fun b hb => absurd hb (by omega)) frX_rf
theorem RoR_like {q q' n : Nat} {f : Nat → Int32} {i : ab_I} (h : RoR q' n f i) : RoR q n f (ab_row (ab_up i q 1 (nI n)) (q + 1) (va_cpy (i (q' + 1)) (i (q + 1)) 0 0 n)) := by
  refine ⟨?_, fun k hk => ?_⟩
  · rw [ab_row_ne (by omega), up_us]
  · rw [ab_row_self, pk_cpy_in (by omega) (by omega)]
    rw [show 0 + (k - 0) = k by omega]
    exact h.2 k hk
theorem rl_ne {q n a : Nat} {g : Nat → Int32} {i : ab_I} (h : a ≠ q) (h2 : a ≠ q + 1) : ab_row (ab_up i q 1 (nI n)) (q + 1) g a = i a := (funext (fun b => ab_row_ne h2)).trans (up_row h)
theorem wh_t : ∀ w, (w = 1 ∨ w = 35) → isT (w + 1) ∧ ab_gt GF w = (9, 0) ∧ (isL (w + 22) ∧ isL (w + 26)) ∧ isR (w + 30) 60 ∧ isR (w + 32) 24 := by
  intro w hw
  rcases hw with rfl | rfl
  · exact ⟨by show 2 ∈ Tws; decide, rfl, ⟨⟨rfl, ⟨rfl, rfl, by decide⟩, rfl⟩, ⟨rfl, ⟨rfl, rfl, by decide⟩, rfl⟩⟩, ⟨rfl, rfl, by decide⟩, ⟨rfl, rfl, by decide⟩⟩
  · exact ⟨by show 36 ∈ Tws; decide, rfl, ⟨⟨rfl, ⟨rfl, rfl, by decide⟩, rfl⟩, ⟨rfl, ⟨rfl, rfl, by decide⟩, rfl⟩⟩, ⟨rfl, rfl, by decide⟩, ⟨rfl, rfl, by decide⟩⟩
theorem gr_w {w : Nat} (h : ab_gt GF w = (9, 0)) : ab_gr GF w 0 = w + 1 ∧ ab_gr GF w 1 = w + 22 ∧ ab_gr GF w 2 = w + 26 ∧ ab_gr GF w 3 = w + 30 ∧ ab_gr GF w 4 = w + 32 := ⟨gr_of h, gr_of h, gr_of h, gr_of h, gr_of h⟩
theorem k_whLike {w w' : Nat} {s : Vc} {i : ab_I} (hw : (w = 1 ∧ w' = 35) ∨ (w = 35 ∧ w' = 1)) (hI : InS s) (hR : WhR w' s i) : ab_K 4 109 [.ref w, .ref w'] i (fun v i' => v = none ∧ WhR w s i' ∧ ∀ q, ¬ (w ≤ q ∧ q ≤ w + 33) → i' q = i q) := by
  obtain ⟨a1, a2, ⟨a3, a3'⟩, a4, a5⟩ := wh_t w (by omega)
  obtain ⟨b1, b2, ⟨b3, b3'⟩, b4, b5⟩ := wh_t w' (by omega)
  obtain ⟨c0, c1, c2, c3, c4⟩ := gr_w a2
  obtain ⟨d0, d1, d2, d3, d4⟩ := gr_w b2
  obtain ⟨h1, h2, h3, h4, h5⟩ := hR
  have n5 := (In5 hI).2
  have n6 := (In6 hI).2
  refine k_of rfl ?_
  refine r_go 4 rfl ?_ ?_
  · (simp only [ab_all, c0, c1, c2, c3, c4, d0, d1, d2, d3, d4, a2, b2]; simp)
  rw [c0, d0]
  refine r_c rfl (by first | exact tg_t a1 | (rw [c0]; exact tg_t a1) | (rw [c1]; exact a3.1) | (rw [c2]; exact a3'.1) | (rw [c3]; exact a4.1) | (rw [c4]; exact a5.1) | exact a3.1 | exact a3'.1 | exact a4.1 | exact a5.1) ((k_twLike a1 b1 (by omega) hI.1 h1)) (by decide) ?_
  rintro v i1 ⟨rfl, R1, f1⟩
  have h2' : LwR (w' + 22) 0 s i1 := RoR_far h2 (f1 _ (by omega)) (f1 _ (by omega))
  refine r_go 4 rfl ?_ ?_
  · (simp only [ab_all, c0, c1, c2, c3, c4, d0, d1, d2, d3, d4, a2, b2]; simp)
  rw [c1, d1]
  refine r_cn rfl (by first | exact tg_t a1 | (rw [c0]; exact tg_t a1) | (rw [c1]; exact a3.1) | (rw [c2]; exact a3'.1) | (rw [c3]; exact a4.1) | (rw [c4]; exact a5.1) | exact a3.1 | exact a3'.1 | exact a4.1 | exact a5.1) ((k_lawLike a3 b3 h2'.1 hI.2.1.2.1 (by omega) (by omega))) (by decide) ?_
  refine r_go 4 rfl ?_ ?_
  · (simp only [ab_all, c0, c1, c2, c3, c4, d0, d1, d2, d3, d4, a2, b2]; simp)
  rw [c2, d2]
  have h3' : LwR (w' + 26) 1 s (ab_row (ab_up i1 (w + 22 + 1) 1 (nI (txN s 0))) (w + 22 + 2) (va_cpy (i1 (w' + 22 + 2)) (i1 (w + 22 + 2)) 0 0 (txN s 0))) := RoR_far h3 (by rw [rl_ne (by omega) (by omega)]; exact f1 _ (by omega)) (by rw [rl_ne (by omega) (by omega)]; exact f1 _ (by omega))
  have L0 : LwR (w + 22) 0 s (ab_row (ab_up i1 (w + 22 + 1) 1 (nI (txN s 0))) (w + 22 + 2) (va_cpy (i1 (w' + 22 + 2)) (i1 (w + 22 + 2)) 0 0 (txN s 0))) := RoR_like h2'
  have F2 : ∀ a, a ≠ w + 23 → a ≠ w + 24 → ab_row (ab_up i1 (w + 22 + 1) 1 (nI (txN s 0))) (w + 22 + 2) (va_cpy (i1 (w' + 22 + 2)) (i1 (w + 22 + 2)) 0 0 (txN s 0)) a = i1 a := fun a p q => rl_ne (by omega) (by omega)
  generalize ab_row (ab_up i1 (w + 22 + 1) 1 (nI (txN s 0))) (w + 22 + 2) (va_cpy (i1 (w' + 22 + 2)) (i1 (w + 22 + 2)) 0 0 (txN s 0)) = i2 at h3' L0 F2
  refine r_cn rfl (by first | exact tg_t a1 | (rw [c0]; exact tg_t a1) | (rw [c1]; exact a3.1) | (rw [c2]; exact a3'.1) | (rw [c3]; exact a4.1) | (rw [c4]; exact a5.1) | exact a3.1 | exact a3'.1 | exact a4.1 | exact a5.1) ((k_lawLike a3' b3' h3'.1 hI.2.2.1.2.1 (by omega) (by omega))) (by decide) ?_
  refine r_go 4 rfl ?_ ?_
  · (simp only [ab_all, c0, c1, c2, c3, c4, d0, d1, d2, d3, d4, a2, b2]; simp)
  rw [c3, d3]
  have L1 : LwR (w + 26) 1 s (ab_row (ab_up i2 (w + 26 + 1) 1 (nI (txN s 1))) (w + 26 + 2) (va_cpy (i2 (w' + 26 + 2)) (i2 (w + 26 + 2)) 0 0 (txN s 1))) := RoR_like h3'
  have F3 : ∀ a, a ≠ w + 27 → a ≠ w + 28 → ab_row (ab_up i2 (w + 26 + 1) 1 (nI (txN s 1))) (w + 26 + 2) (va_cpy (i2 (w' + 26 + 2)) (i2 (w + 26 + 2)) 0 0 (txN s 1)) a = i2 a := fun a p q => rl_ne (by omega) (by omega)
  generalize ab_row (ab_up i2 (w + 26 + 1) 1 (nI (txN s 1))) (w + 26 + 2) (va_cpy (i2 (w' + 26 + 2)) (i2 (w + 26 + 2)) 0 0 (txN s 1)) = i3 at L1 F3
  have h4' : RoR (w' + 30) (s 5).toNatClampNeg (fun k => s (396 + k)) i3 := RoR_far h4 (by rw [F3 _ (by omega) (by omega), F2 _ (by omega) (by omega)]; exact f1 _ (by omega)) (by rw [F3 _ (by omega) (by omega), F2 _ (by omega) (by omega)]; exact f1 _ (by omega))
  refine r_cn rfl (by first | exact tg_t a1 | (rw [c0]; exact tg_t a1) | (rw [c1]; exact a3.1) | (rw [c2]; exact a3'.1) | (rw [c3]; exact a4.1) | (rw [c4]; exact a5.1) | exact a3.1 | exact a3'.1 | exact a4.1 | exact a5.1) ((k_rowLike a4 b4 h4'.1 n5 n5 (by omega) (by omega))) (by decide) ?_
  refine r_go 4 rfl ?_ ?_
  · (simp only [ab_all, c0, c1, c2, c3, c4, d0, d1, d2, d3, d4, a2, b2]; simp)
  rw [c4, d4]
  have L2 : RoR (w + 30) (s 5).toNatClampNeg (fun k => s (396 + k)) (ab_row (ab_up i3 (w + 30) 1 (nI (s 5).toNatClampNeg)) (w + 30 + 1) (va_cpy (i3 (w' + 30 + 1)) (i3 (w + 30 + 1)) 0 0 (s 5).toNatClampNeg)) := RoR_like h4'
  have F4 : ∀ a, a ≠ w + 30 → a ≠ w + 31 → ab_row (ab_up i3 (w + 30) 1 (nI (s 5).toNatClampNeg)) (w + 30 + 1) (va_cpy (i3 (w' + 30 + 1)) (i3 (w + 30 + 1)) 0 0 (s 5).toNatClampNeg) a = i3 a := fun a p q => rl_ne (by omega) (by omega)
  generalize ab_row (ab_up i3 (w + 30) 1 (nI (s 5).toNatClampNeg)) (w + 30 + 1) (va_cpy (i3 (w' + 30 + 1)) (i3 (w + 30 + 1)) 0 0 (s 5).toNatClampNeg) = i4 at L2 F4
  have h5' : RoR (w' + 32) (s 6).toNatClampNeg (fun k => s (456 + k)) i4 := RoR_far h5 (by rw [F4 _ (by omega) (by omega), F3 _ (by omega) (by omega), F2 _ (by omega) (by omega)]; exact f1 _ (by omega)) (by rw [F4 _ (by omega) (by omega), F3 _ (by omega) (by omega), F2 _ (by omega) (by omega)]; exact f1 _ (by omega))
  refine r_cn rfl (by first | exact tg_t a1 | (rw [c0]; exact tg_t a1) | (rw [c1]; exact a3.1) | (rw [c2]; exact a3'.1) | (rw [c3]; exact a4.1) | (rw [c4]; exact a5.1) | exact a3.1 | exact a3'.1 | exact a4.1 | exact a5.1) ((k_rowLike a5 b5 h5'.1 n6 n6 (by omega) (by omega))) (by decide) ?_
  refine r_ret rfl trivial ?_
  have L3 := RoR_like (q := w + 32) h5'
  refine ⟨rfl, ⟨?_, ?_, ?_, ?_, L3⟩, fun q hq => ?_⟩
  · exact TwR_far R1 hI.1.1.2 hI.1.2.1.2 (fun q a b => by rw [rl_ne (by omega) (by omega), F4 _ (by omega) (by omega), F3 _ (by omega) (by omega), F2 _ (by omega) (by omega)])
  · exact RoR_far L0 (by rw [rl_ne (by omega) (by omega), F4 _ (by omega) (by omega), F3 _ (by omega) (by omega)]) (by rw [rl_ne (by omega) (by omega), F4 _ (by omega) (by omega), F3 _ (by omega) (by omega)])
  · exact RoR_far L1 (by rw [rl_ne (by omega) (by omega), F4 _ (by omega) (by omega)]) (by rw [rl_ne (by omega) (by omega), F4 _ (by omega) (by omega)])
  · exact RoR_far L2 (by rw [rl_ne (by omega) (by omega)]) (by rw [rl_ne (by omega) (by omega)])
  · rw [rl_ne (by omega) (by omega), F4 _ (by omega) (by omega), F3 _ (by omega) (by omega), F2 _ (by omega) (by omega)]
    exact f1 q (by omega)
theorem InS_cg {s z : Vc} (h : InS s) (hz : ∀ k, k < 480 → z k = s k) : InS z := by
  obtain ⟨n, hn, h4, h5⟩ := h.2.2.2.1
  obtain ⟨n', hn', h6⟩ := h.2.2.2.2
  exact InS_k h (fun k _ _ c => hz k (by omega)) ⟨n, hn, by rw [hz 5 (by omega)]; exact h4, fun k hk => by rw [hz _ (by omega)]; exact h5 k hk⟩ ⟨n', hn', by rw [hz 6 (by omega)]; exact h6⟩
theorem WhR_cg {w : Nat} {s z : Vc} {i : ab_I} (hI : InS s) (h : WhR w s i) (hz : ∀ k, k < 480 → z k = s k) : WhR w z i := by
  have n5 := (In5 hI).2
  have n6 := (In6 hI).2
  refine WhR_k hI h (fun k _ _ c => hz k (by omega)) (fun _ _ _ _ _ => rfl) ?_ ?_
  · rw [hz 5 (by omega)]
    exact ⟨h.2.2.2.1.1, fun k hk => by show _ = z (396 + k); rw [hz _ (by omega)]; exact h.2.2.2.1.2 k hk⟩
  · rw [hz 6 (by omega)]
    exact ⟨h.2.2.2.2.1, fun k hk => by show _ = z (456 + k); rw [hz _ (by omega)]; exact h.2.2.2.2.2 k hk⟩
def S_image (m : ab_I) : Int32 × ab_I := (m 218 3 + nI 1, ab_up (ab_row m 220 (cy (m 219) (m 220))) 218 3 (m 218 3 + nI 1))
theorem c_image {i m : ab_I} (hC : ClsR i m) (hJ : InM m) : ab_K 5 141 [.ref 0] i (clQ i (S_image m)) := by
  (have hI := hJ.1.1; have hX := InS_X hJ.1; have hT := hC.1.1; have hLw : LwsR (m 219) i := ⟨hC.1.2.1, hC.1.2.2.1⟩; have hE := hC.2.2.2.2.1.1)
  have hC' := hC
  obtain ⟨_, hk, h3, h4, h5, h6⟩ := hC'
  refine k_of rfl ?_
  refine r_go 4 rfl ?_ ?_
  · (first | exact trivial | (simp only [ab_all] <;> decide))
  simp only [gr_0_0, gr_0_1, gr_0_3, gr_0_4, gr_0_5, gr_0_6, gr_0_7, gr_1_0, gr_1_1, gr_1_2, gr_1_3, gr_1_4, gr_35_0, gr_35_1, gr_35_2, gr_35_3, gr_35_4]
  refine r_c rfl rfl ((k_whLike (Or.inr ⟨rfl, rfl⟩) hJ.1 hC.1)) (by decide) ?_
  rintro v i1 ⟨rfl, W1, f1⟩
  refine r_go 8 rfl ?_ ?_
  · (first | exact trivial | (simp only [ab_all] <;> decide))
  refine r_ret rfl trivial ?_
  rw [up_us, f1 0 (by omega), h3]
  have eM : ∀ q : Nat, q ≠ 220 → q ≠ 218 → ab_up (ab_row m 220 (cy (m 219) (m 220))) 218 3 (m 218 3 + nI 1) q = m q := fun q hq hp => (up_row hp).trans (funext (fun b => ab_row_ne hq))
  have e20 : ab_up (ab_row m 220 (cy (m 219) (m 220))) 218 3 (m 218 3 + nI 1) 220 = cy (m 219) (m 220) := (up_row (by decide)).trans ab_row_self
  have e3 : ab_up (ab_row m 220 (cy (m 219) (m 220))) 218 3 (m 218 3 + nI 1) 218 3 = m 218 3 + nI 1 := up_us
  have e16 : ab_up (ab_row m 220 (cy (m 219) (m 220))) 218 3 (m 218 3 + nI 1) 218 16 = m 218 16 := (up_ne (by omega)).trans (ab_row_ne (by decide))
  refine ⟨rfl, ?_, fun q hq => (up_row (by omega)).trans (f1 q (by omega))⟩
  unfold S_image ClsR ShR ErR TrR
  dsimp only
  rw [e20, e3, e16, eM 219 (by decide) (by decide), eM 228 (by decide) (by decide), eM 229 (by decide) (by decide), eM 230 (by decide) (by decide), eM 222 (by decide) (by decide), eM 227 (by decide) (by decide)]
  refine ⟨WhR_e hJ.1.1 hC.1 (fun q a b c d => (up_row (by omega)).trans (f1 q (by omega))), fun _ => WhR_e (InS_cg hJ.1 (fun k h => cy_lt h)).1 (WhR_cg hJ.1 W1 (fun k h => cy_lt h)) (fun q a b c d => up_row (by omega)), up_us, fun j hj => ?_, ⟨?_, fun k hk2 => ?_⟩, RoR_far h6 ((up_row (by omega)).trans (f1 _ (by omega))) ((up_row (by omega)).trans (f1 _ (by omega)))⟩
  · obtain ⟨a, b⟩ := h4 j hj
    refine ⟨?_, RoR_far b ((up_row (by omega)).trans (f1 _ (by omega))) ((up_row (by omega)).trans (f1 _ (by omega)))⟩
    rw [up_row (by omega), f1 _ (by omega)]
    exact a
  · rw [up_row (by omega), f1 _ (by omega)]
    exact h5.1
  · rw [up_row (by omega), f1 _ (by omega)]
    exact h5.2 k hk2
theorem m_image {i m : ab_I} (hm : mo i m) (hJ : InM m) (h13 : i 218 13 = (-1)) : ab_K 1 243 [.ref 218] i (rfQ i (S_image m)) := by
  (have hI := hJ.1.1; have hX := InS_X hJ.1; have hs := hm.1)
  refine k_of rfl ?_
  refine r_go 4 rfl ?_ ?_
  · (simp only [ab_all, gr_218_0, gr_218_1] <;> decide)
  rw [gr_218_0, gr_218_1]
  refine r_cn rfl trivial ((m_carry gt_219 gt_220 (by decide))) (by decide) ?_
  refine r_go 8 rfl ?_ ?_
  · (simp only [ab_all, gr_218_0, gr_218_1] <;> decide)
  refine r_ret rfl trivial ?_
  obtain ⟨m1, m2, m3, m4, m5, m6, m7, m8, m9⟩ := hm
  have eM : ∀ (j : ab_I) (q : Nat) (g : Vc) (x : Int32), q ≠ 220 → q ≠ 218 → ab_up (ab_row j 220 g) 218 3 x q = j q := fun j q g x hq hp => (up_row hp).trans (funext (fun b => ab_row_ne hq))
  have e20 : ∀ (j : ab_I) (g : Vc) (x : Int32), ab_up (ab_row j 220 g) 218 3 x 220 = g := fun j g x => (up_row (by decide)).trans ab_row_self
  have ev : ab_row i 220 (cy (i 219) (i 220)) 218 3 = m 218 3 := (ab_row_ne (by decide)).trans m8
  rw [up_us, ev, m1, m2]
  refine ⟨rfl, ⟨?_, ?_, ?_, ?_, ?_, ?_, ?_, ?_, ?_⟩, ?_, fun q hq => eM _ _ _ _ (by omega) (by omega)⟩
  · unfold S_image; dsimp only; rw [eM _ _ _ _ (by decide) (by decide), eM _ _ _ _ (by decide) (by decide)]; exact m1
  · unfold S_image; dsimp only; rw [e20, e20]
  · unfold S_image; dsimp only; rw [eM _ _ _ _ (by decide) (by decide), eM _ _ _ _ (by decide) (by decide)]; exact m3
  · unfold S_image; dsimp only; rw [eM _ _ _ _ (by decide) (by decide), eM _ _ _ _ (by decide) (by decide)]; exact m4
  · unfold S_image; dsimp only; rw [eM _ _ _ _ (by decide) (by decide), eM _ _ _ _ (by decide) (by decide)]; exact m5
  · unfold S_image; dsimp only; rw [eM _ _ _ _ (by decide) (by decide), eM _ _ _ _ (by decide) (by decide)]; exact m6
  · unfold S_image; dsimp only; rw [eM _ _ _ _ (by decide) (by decide), eM _ _ _ _ (by decide) (by decide)]; exact m7
  · unfold S_image; dsimp only; rw [up_us, up_us]
  · unfold S_image; dsimp only; rw [up_ne (by omega), up_ne (by omega), ab_row_ne (by decide), ab_row_ne (by decide)]; exact m9
  · rw [up_ne (by omega), ab_row_ne (by decide)]; exact h13
theorem n_image {m : ab_I} (hJ : InM m) : InM (S_image m).2 := by
  have eM : ∀ q : Nat, q ≠ 220 → q ≠ 218 → ab_up (ab_row m 220 (cy (m 219) (m 220))) 218 3 (m 218 3 + nI 1) q = m q := fun q hq hp => (up_row hp).trans (funext (fun b => ab_row_ne hq))
  have e20 : ab_up (ab_row m 220 (cy (m 219) (m 220))) 218 3 (m 218 3 + nI 1) 220 = cy (m 219) (m 220) := (up_row (by decide)).trans ab_row_self
  have e16 : ab_up (ab_row m 220 (cy (m 219) (m 220))) 218 3 (m 218 3 + nI 1) 218 16 = m 218 16 := (up_ne (by omega)).trans (ab_row_ne (by decide))
  unfold S_image InM
  dsimp only
  rw [e20, e16, eM 219 (by decide) (by decide), eM 228 (by decide) (by decide), eM 229 (by decide) (by decide)]
  exact ⟨hJ.1, InS_cg hJ.1 (fun k h => cy_lt h), hJ.2.2⟩
def S_restore (m : ab_I) : Int32 × ab_I := if m 218 3 = nI 0 then er m 2 else (m 220 2, ab_row m 219 (cy (m 220) (m 219)))
theorem c_restore {i m : ab_I} (hC : ClsR i m) (hJ : InM m) : ab_K 5 142 [.ref 0] i (clQ i (S_restore m)) := by
  (have hI := hJ.1.1; have hX := InS_X hJ.1; have hT := hC.1.1; have hLw : LwsR (m 219) i := ⟨hC.1.2.1, hC.1.2.2.1⟩; have hE := hC.2.2.2.2.1.1)
  refine k_of rfl ?_
  refine r_go 2 rfl ?_ ?_
  · (first | exact trivial | (simp only [ab_all] <;> decide))
  rw [hC.2.2.1]
  refine r_ne rfl (fun h4 => ?_) (fun h4 => ?_)
  · skip
    refine r_go 4 rfl ?_ ?_
    · (first | exact trivial | (simp only [ab_all] <;> decide))
    simp only [gr_0_0, gr_0_1, gr_0_3, gr_0_4, gr_0_5, gr_0_6, gr_0_7, gr_1_0, gr_1_1, gr_1_2, gr_1_3, gr_1_4, gr_35_0, gr_35_1, gr_35_2, gr_35_3, gr_35_4]
    refine r_c rfl rfl ((k_whLike (Or.inl ⟨rfl, rfl⟩) hJ.2.1 (hC.2.1 h4))) (by decide) ?_
    rintro v i1 ⟨rfl, W1, f1⟩
    refine r_go 4 rfl ?_ ?_
    · (first | exact trivial | (simp only [ab_all] <;> decide))
    refine r_ret rfl trivial ?_
    simp only [gr_0_0, gr_0_1, gr_0_3, gr_0_4, gr_0_5, gr_0_6, gr_0_7, gr_1_0, gr_1_1, gr_1_2, gr_1_3, gr_1_4, gr_35_0, gr_35_1, gr_35_2, gr_35_3, gr_35_4]
    rw [show i1 2 5 = m 220 2 from W1.1.1.2.2.2.1]
    exact cl_to (if_neg h4) (cl_w hJ hC (WhR_cg hJ.2.1 W1 (fun k h => cy_lt h)) (fun q hq => by unfold irr at hq; exact f1 q (by omega)) (fun q hq => f1 q (by omega)))
  · skip
    refine r_go 2 rfl ?_ ?_
    · (first | exact trivial | (simp only [ab_all] <;> decide))
    refine r_cv rfl rfl ((k_error 2 (by decide) (by decide) hE)) (by decide) ?_
    refine r_ret rfl trivial ?_
    exact cl_to (if_pos h4) (cl_er (by decide) (by decide) hJ hC)
theorem m_restore {i m : ab_I} (hm : mo i m) (hJ : InM m) (h13 : i 218 13 = (-1)) : ab_K 1 244 [.ref 218] i (rfQ i (S_restore m)) := by
  (have hI := hJ.1.1; have hX := InS_X hJ.1; have hs := hm.1)
  refine k_of rfl ?_
  refine r_go 2 rfl ?_ ?_
  · exact rfl
  rw [show i 218 3 = m 218 3 from hm.2.2.2.2.2.2.2.1]
  refine r_ne rfl (fun h4 => ?_) (fun h4 => ?_)
  · skip
    refine r_go 4 rfl ?_ ?_
    · (simp only [ab_all, gr_218_0, gr_218_1] <;> decide)
    rw [gr_218_0, gr_218_1]
    refine r_cn rfl trivial ((m_carry gt_220 gt_219 (by decide))) (by decide) ?_
    refine r_go 4 rfl ?_ ?_
    · (simp only [ab_all, gr_218_0, nI_add]; repeat' (first | exact ix_219 (by omega) | rfl | decide | (unfold ab_nz; decide) | refine And.intro ?_ ?_))
    refine r_ret rfl trivial ?_
    rw [gr_218_0, nI_cl (by decide), row_s, hs, hm.2.1, cy_lt (by decide)]
    exact rf_to (if_neg h4) (rf_w hm h13)
  · skip
    refine r_go 2 rfl ?_ ?_
    · (first | exact trivial | assumption | (simp (disch := omega) [ab_all, ab_nz, *]; done))
    refine r_cv rfl rfl ((m_error 2 (by decide))) (by decide) ?_
    refine r_ret rfl trivial ?_
    exact rf_to (if_pos h4) (rf_er hm h13)
theorem n_restore {m : ab_I} (hJ : InM m) : InM (S_restore m).2 := by
  unfold S_restore
  split
  · exact InM_er hJ
  · exact InM_w hJ (InS_cg hJ.2.1 (fun k h => cy_lt h))
