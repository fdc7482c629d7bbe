/-! the fewest votes to be bought -/
theorem sg_rg (x : Int32) : rg (sg x) (-1) 1 := by
  unfold sg rg
  split
  · decide
  · split <;> decide
theorem vote_rg {s : Vc} {d : Nat} (hI : InT s) (hd : d < nD s) : rg (vote s d) (-1) 1 := by
  have h4 : rg (dr s d 4) (-1) 2 := (hI.2.2.2.2.2 d hd).2 4 (by decide) (by decide)
  have e : ∀ {x : Int32}, x = nI 0 ∨ x = nI 1 ∨ x = (-1) → rg x (-1) 1 := fun h => by rcases h with rfl | rfl | rfl <;> (unfold rg; decide)
  have e0 := e (x := nI 0) (Or.inl rfl)
  have e1 := e (x := nI 1) (Or.inr (Or.inl rfl))
  have e2 := e (x := (-1)) (Or.inr (Or.inr rfl))
  have hq := sg_rg (told1 s d)
  unfold vote
  generalize sg (told1 s d) = q at hq ⊢
  split
  · exact e0
  · split
    · rename_i h5
      unfold rg at h4 ⊢
      have h6 : ¬ (dr s d 4).toInt = 2 := fun z => h5 (eq_i.mpr (by rw [z]; decide))
      omega
    · repeat' split
      all_goals first | exact hq | exact e0 | exact e1 | exact e2
theorem vote_aw {s : Vc} {d : Nat} (h : dr s d 5 = nI 1) : vote s d = nI 0 := if_pos h
abbrev mayG (s : Vc) (b : Nat) (w : Int32) (g d : Nat) : Prop := dr s d 2 = nI b ∧ dr s d 5 = nI 0 ∧ nI 1 - w * vote s d = nI g
def cg (s : Vc) (b : Nat) (w : Int32) (g : Nat) : Nat → Nat
  | 0 => 0
  | d + 1 => cg s b w g d + (if mayG s b w g d then 1 else 0)
def hc (s : Vc) (b : Nat) : Nat → Nat
  | 0 => 0
  | d + 1 => hc s b d + (if dr s d 2 = nI b ∧ dr s d 5 = nI 0 then 1 else 0)
theorem wv {w x : Int32} (hw : w = nI 1 ∨ w = (-1)) (hx : rg x (-1) 1) : ((x = nI 0 ∨ x = nI 1 ∨ x = (-1)) ∧ (w * x).toInt = w.toInt * x.toInt) ∧ (w.toInt = 1 ∨ w.toInt = -1) := by
  unfold rg at hx
  have hw' : w.toInt = 1 ∨ w.toInt = -1 := by rcases hw with rfl | rfl <;> decide
  refine ⟨⟨?_, ?_⟩, hw'⟩
  · have : x.toInt = 0 ∨ x.toInt = 1 ∨ x.toInt = -1 := by omega
    rcases this with h | h | h
    · exact Or.inl (eq_i.mpr (by rw [h]; decide))
    · exact Or.inr (Or.inl (eq_i.mpr (by rw [h]; decide)))
    · exact Or.inr (Or.inr (eq_i.mpr (by rw [h]; decide)))
  · rcases hw' with h | h <;> rw [h] <;> exact (mu_i (by rw [h]; omega) (by rw [h]; omega)).trans (by rw [h])
theorem cnt_all {s : Vc} {b : Nat} {w : Int32} (hI : InT s) (hw : w = nI 1 ∨ w = (-1)) : ∀ d, d ≤ nD s → (w * sm (von s b) d).toInt = (cg s b w 0 d : Int) - cg s b w 2 d ∧ hc s b d = cg s b w 0 d + cg s b w 1 d + cg s b w 2 d ∧ hc s b d ≤ d ∧ (sm (von s b) d).toInt = w.toInt * ((cg s b w 0 d : Int) - cg s b w 2 d)
  | 0, _ => by
    have e : w * sm (von s b) 0 = nI 0 := by
      show w * nI 0 = nI 0
      rcases hw with rfl | rfl <;> decide
    have e2 : (sm (von s b) 0).toInt = 0 := by show (nI 0).toInt = 0; decide
    rw [e, e2]
    refine ⟨by show (nI 0).toInt = ((0 : Nat) : Int) - (0 : Nat); decide, rfl, Nat.le_refl _, ?_⟩
    show (0 : Int) = w.toInt * ((0 : Nat) - (0 : Nat))
    simp
  | d + 1, hd => by
    obtain ⟨i1, i2, i3, i4⟩ := cnt_all (s := s) (b := b) hI hw d (by omega)
    have hv := vote_rg hI (show d < nD s by omega)
    have h12 := hI.2.1.2
    obtain ⟨⟨hv3, hm⟩, hw'⟩ := wv hw hv
    have a5 : rg (dr s d 5) 0 1 := (hI.2.2.2.2.2 d (by omega)).2 5 (by decide) (by decide)
    have key : (von s b d).toInt = w.toInt * ((if mayG s b w 0 d then 1 else 0 : Nat) - (if mayG s b w 2 d then 1 else 0 : Nat) : Int) ∧ (if dr s d 2 = nI b ∧ dr s d 5 = nI 0 then 1 else 0 : Nat) = (if mayG s b w 0 d then 1 else 0 : Nat) + (if mayG s b w 1 d then 1 else 0 : Nat) + (if mayG s b w 2 d then 1 else 0 : Nat) := by
      unfold mayG von
      by_cases h2 : dr s d 2 = nI b
      · by_cases h5 : dr s d 5 = nI 0
        · simp only [h2, h5, true_and, and_self, if_true]
          rcases hw with rfl | rfl <;> rcases hv3 with h | h | h <;> rw [h] <;> decide
        · have h51 : dr s d 5 = nI 1 := by
            unfold rg at a5
            have : ¬ (dr s d 5).toInt = 0 := fun z => h5 (eq_i.mpr (by rw [z]; decide))
            exact eq_i.mpr (by rw [show (nI 1).toInt = 1 by decide]; omega)
          rw [vote_aw h51]
          simp only [h5, false_and, and_false, if_false, if_pos h2]
          refine ⟨?_, trivial⟩
          rw [show (nI 0).toInt = 0 by decide]
          simp
      · simp only [h2, false_and, if_false]
        refine ⟨?_, trivial⟩
        rw [show (nI 0).toInt = 0 by decide]
        simp
    obtain ⟨k1, k2⟩ := key
    have c0 : cg s b w 0 (d + 1) = cg s b w 0 d + (if mayG s b w 0 d then 1 else 0) := rfl
    have c1 : cg s b w 1 (d + 1) = cg s b w 1 d + (if mayG s b w 1 d then 1 else 0) := rfl
    have c2 : cg s b w 2 (d + 1) = cg s b w 2 d + (if mayG s b w 2 d then 1 else 0) := rfl
    have ch : hc s b (d + 1) = hc s b d + (if dr s d 2 = nI b ∧ dr s d 5 = nI 0 then 1 else 0) := rfl
    rw [c0, c1, c2, ch, k2, sm_s]
    have g0 : (if mayG s b w 0 d then 1 else 0 : Nat) + (if mayG s b w 1 d then 1 else 0 : Nat) + (if mayG s b w 2 d then 1 else 0 : Nat) ≤ 1 := by
      rw [← k2]
      split <;> decide
    generalize (if mayG s b w 0 d then 1 else 0 : Nat) = x0 at *
    generalize (if mayG s b w 1 d then 1 else 0 : Nat) = x1 at *
    generalize (if mayG s b w 2 d then 1 else 0 : Nat) = x2 at *
    have es : (sm (von s b) d + von s b d).toInt = w.toInt * (((cg s b w 0 d + x0 : Nat) : Int) - (cg s b w 2 d + x2 : Nat)) := by
      rcases hw' with h | h <;> rw [h] at i4 k1 ⊢ <;> rw [ad_i (by omega) (by omega)] <;> omega
    refine ⟨?_, by omega, by omega, es⟩
    rcases hw' with h | h <;> rw [h] at es <;> rw [mu_i (by rw [h]; omega) (by rw [h]; omega), h] <;> omega
def byN (s : Vc) (b : Nat) (w : Int32) (g : Nat) : Nat → Int32 × Nat → Int32 × Nat
  | 0, st => st
  | d + 1, st => if mayG s b w g d ∧ ¬ nI 0 < (byN s b w g d st).1 then ((byN s b w g d st).1 + nI g, (byN s b w g d st).2 + 1) else byN s b w g d st
def bys (s : Vc) (b : Nat) (w : Int32) : Int32 × Nat := byN s b w 1 (nD s) (byN s b w 2 (nD s) (w * votesOn s b, 0))
theorem byN_2 {s : Vc} {b k a : Nat} {w x : Int32} (hx : x.toInt = -(a : Int)) (ha : a ≤ 12) (hk : k = a / 2 + 1) : ∀ d, d ≤ 12 → (byN s b w 2 d (x, 0)).1.toInt = -(a : Int) + 2 * (min (cg s b w 2 d) k : Nat) ∧ (byN s b w 2 d (x, 0)).2 = min (cg s b w 2 d) k
  | 0, _ => by
    show x.toInt = -(a : Int) + 2 * (min 0 k : Nat) ∧ 0 = min 0 k
    rw [Nat.zero_min]
    omega
  | d + 1, h => by
    obtain ⟨h1, h2⟩ := byN_2 (s := s) (b := b) (w := w) hx ha hk d (by omega)
    have c0 : (nI 0).toInt = 0 := by decide
    have c2 : (nI 2).toInt = 2 := by decide
    show (if mayG s b w 2 d ∧ ¬ nI 0 < (byN s b w 2 d (x, 0)).1 then ((byN s b w 2 d (x, 0)).1 + nI 2, (byN s b w 2 d (x, 0)).2 + 1) else byN s b w 2 d (x, 0)).1.toInt = -(a : Int) + 2 * (min (cg s b w 2 d + (if mayG s b w 2 d then 1 else 0)) k : Nat) ∧ (if mayG s b w 2 d ∧ ¬ nI 0 < (byN s b w 2 d (x, 0)).1 then ((byN s b w 2 d (x, 0)).1 + nI 2, (byN s b w 2 d (x, 0)).2 + 1) else byN s b w 2 d (x, 0)).2 = min (cg s b w 2 d + (if mayG s b w 2 d then 1 else 0)) k
    by_cases hg : mayG s b w 2 d
    · rw [if_pos hg]
      by_cases hs : nI 0 < (byN s b w 2 d (x, 0)).1
      · rw [if_neg (fun z => z.2 hs)]
        rw [Int32.lt_iff_toInt_lt, c0] at hs
        omega
      · rw [if_pos ⟨hg, hs⟩]
        rw [Int32.lt_iff_toInt_lt, c0] at hs
        dsimp only
        rw [ad_i (by omega) (by omega)]
        omega
    · rw [if_neg hg, if_neg (fun z => hg z.1)]
      exact ⟨h1, h2⟩
theorem byN_p {s : Vc} {b g n : Nat} {w x : Int32} (hx : nI 0 < x) : ∀ d, byN s b w g d (x, n) = (x, n)
  | 0 => rfl
  | d + 1 => by
    have h := byN_p (s := s) (b := b) (g := g) (n := n) (w := w) hx d
    show (if mayG s b w g d ∧ ¬ nI 0 < (byN s b w g d (x, n)).1 then ((byN s b w g d (x, n)).1 + nI g, (byN s b w g d (x, n)).2 + 1) else byN s b w g d (x, n)) = (x, n)
    rw [h]
    exact if_neg (fun z => z.2 hx)
theorem byN_1 {s : Vc} {b : Nat} {w : Int32} : ∀ d, d ≤ 12 → byN s b w 1 d (nI 0, 0) = (nI (min (cg s b w 1 d) 1), min (cg s b w 1 d) 1)
  | 0, _ => rfl
  | d + 1, h => by
    have h1 := byN_1 (s := s) (b := b) (w := w) d (by omega)
    show (if mayG s b w 1 d ∧ ¬ nI 0 < (byN s b w 1 d (nI 0, 0)).1 then ((byN s b w 1 d (nI 0, 0)).1 + nI 1, (byN s b w 1 d (nI 0, 0)).2 + 1) else byN s b w 1 d (nI 0, 0)) = (nI (min (cg s b w 1 d + (if mayG s b w 1 d then 1 else 0)) 1), min (cg s b w 1 d + (if mayG s b w 1 d then 1 else 0)) 1)
    rw [h1]
    dsimp only
    by_cases hg : mayG s b w 1 d
    · rw [if_pos hg]
      by_cases hs : nI 0 < nI (min (cg s b w 1 d) 1)
      · rw [if_neg (fun z => z.2 hs)]
        rw [nI_ltI (by decide) (by omega)] at hs
        rw [show min (cg s b w 1 d + 1) 1 = min (cg s b w 1 d) 1 by omega]
      · rw [if_pos ⟨hg, hs⟩]
        rw [nI_ltI (by decide) (by omega)] at hs
        rw [nI_add, show min (cg s b w 1 d) 1 + 1 = min (cg s b w 1 d + 1) 1 by omega]
    · rw [if_neg hg, if_neg (fun z => hg z.1)]
      rfl
def byV (s : Vc) (b : Nat) (w : Int32) : Int32 := if nI 0 < (bys s b w).1 then nI (bys s b w).2 else (-1)
theorem bys_c {s : Vc} {b : Nat} {w : Int32} (hI : InT s) (hw : w = nI 1 ∨ w = (-1)) : (nI 0 < w * votesOn s b → byV s b w = nI 0) ∧ (¬ nI 0 < w * votesOn s b → ¬ hc s b (nD s) = 0 → byV s b w = -(w * votesOn s b) / nI 2 + nI 1) ∧ (¬ nI 0 < w * votesOn s b → hc s b (nD s) = 0 → byV s b w = (-1)) := by
  have h12 := hI.2.1.2
  obtain ⟨q1, q2, q3, q4⟩ := cnt_all (b := b) hI hw (nD s) (Nat.le_refl _)
  have c0 : (nI 0).toInt = 0 := by decide
  refine ⟨fun h => ?_, fun h hh => ?_, fun h hh => ?_⟩
  · unfold byV bys
    rw [byN_p h, byN_p h]
    exact if_pos h
  · have h' := h
    rw [Int32.lt_iff_toInt_lt, c0] at h'
    unfold votesOn at h'
    rw [q1] at h'
    have hx : (w * votesOn s b).toInt = -((cg s b w 2 (nD s) - cg s b w 0 (nD s) : Nat) : Int) := by unfold votesOn; rw [q1]; omega
    have ev : -(w * votesOn s b) / nI 2 + nI 1 = nI ((cg s b w 2 (nD s) - cg s b w 0 (nD s)) / 2 + 1) := by
      have e1 : -(w * votesOn s b) = nI (cg s b w 2 (nD s) - cg s b w 0 (nD s)) := by
        rw [eq_i, c_i (by omega), Int32.toInt_neg, hx, Int.neg_neg]
        exact Int.bmod_eq_of_le (by omega) (by omega)
      rw [e1, pk_div (by omega) (by decide) (by decide), nI_add]
    obtain ⟨p1, p2⟩ := byN_2 (s := s) (b := b) (w := w) (k := (cg s b w 2 (nD s) - cg s b w 0 (nD s)) / 2 + 1) hx (by omega) rfl (nD s) h12
    rw [ev]
    by_cases hc2 : cg s b w 2 (nD s) = 0
    · have hz : byN s b w 2 (nD s) (w * votesOn s b, 0) = (nI 0, 0) := by
        refine Prod.ext (eq_i.mpr ?_) ?_
        · rw [p1, c0]
          omega
        · rw [p2]
          show _ = 0
          omega
      have hc1 : min (cg s b w 1 (nD s)) 1 = 1 := by omega
      unfold byV bys
      rw [hz, byN_1 _ h12, hc1]
      rw [show (cg s b w 2 (nD s) - cg s b w 0 (nD s)) / 2 + 1 = 1 by omega]
      rfl
    · have hpos : nI 0 < (byN s b w 2 (nD s) (w * votesOn s b, 0)).1 := by
        rw [Int32.lt_iff_toInt_lt, c0, p1]
        omega
      unfold byV bys
      rw [show byN s b w 2 (nD s) (w * votesOn s b, 0) = ((byN s b w 2 (nD s) (w * votesOn s b, 0)).1, (byN s b w 2 (nD s) (w * votesOn s b, 0)).2) from rfl, byN_p hpos]
      rw [if_pos hpos, p2]
      congr 1
      omega
  · have h' := h
    rw [Int32.lt_iff_toInt_lt, c0] at h'
    unfold votesOn at h'
    rw [q1] at h'
    have hx : (w * votesOn s b).toInt = -((cg s b w 2 (nD s) - cg s b w 0 (nD s) : Nat) : Int) := by unfold votesOn; rw [q1]; omega
    obtain ⟨p1, p2⟩ := byN_2 (s := s) (b := b) (w := w) (k := (cg s b w 2 (nD s) - cg s b w 0 (nD s)) / 2 + 1) hx (by omega) rfl (nD s) h12
    have hz : byN s b w 2 (nD s) (w * votesOn s b, 0) = (nI 0, 0) := by
      refine Prod.ext (eq_i.mpr ?_) ?_
      · rw [p1, c0]
        omega
      · rw [p2]
        show _ = 0
        omega
    have hc1 : min (cg s b w 1 (nD s)) 1 = 0 := by omega
    unfold byV bys
    rw [hz, byN_1 _ h12, hc1]
    exact if_neg (by decide)
theorem byV_n {s : Vc} {b : Nat} {w : Int32} (hI : InT s) (hw : w = nI 1 ∨ w = (-1)) : byV s b w = (-1) ↔ ¬ nI 0 < (bys s b w).1 := by
  have hb : ∀ g d st, (byN s b w g d st).2 ≤ st.2 + d := by
    intro g d
    induction d with
    | zero => intro st; exact Nat.le_refl _
    | succ d ih =>
      intro st
      show (if mayG s b w g d ∧ ¬ nI 0 < (byN s b w g d st).1 then ((byN s b w g d st).1 + nI g, (byN s b w g d st).2 + 1) else byN s b w g d st).2 ≤ st.2 + (d + 1)
      have := ih st
      split
      · show (byN s b w g d st).2 + 1 ≤ _
        omega
      · omega
  have h12 := hI.2.1.2
  have h1 := hb 2 (nD s) (w * votesOn s b, 0)
  have h2 := hb 1 (nD s) (byN s b w 2 (nD s) (w * votesOn s b, 0))
  dsimp only at h1
  unfold byV
  by_cases h : nI 0 < (bys s b w).1
  · rw [if_pos h]
    refine ⟨fun z => ?_, fun z => absurd h z⟩
    unfold bys at z
    rw [eq_i, c_i (by omega), m1_i] at z
    omega
  · rw [if_neg h]
    exact ⟨fun _ => h, fun _ => rfl⟩
theorem hv_loop {t b : Nat} {s : Vc} {i : ab_I} (ht : isT t) (hI : InT s) (hR : TwR t s i) (mm d : Nat) (hmm : nD s - d < mm) (hd : d ≤ nD s) (h0 : hc s b d = 0) : ab_R 1 tb_X8_hasVoters 2 [some (.ref t), some (.int (nI b)), some (.int (nI d))] [] i (ab_V (.int (bI (¬ hc s b (nD s) = 0))) i) := by
  induction mm generalizing d with
  | zero => exact absurd hmm (by omega)
  | succ mm ih =>
    have g0 := tg_t ht
    have d12 := hI.2.1.2
    have t3 : i t 3 = nI (nD s) := hR.1.2.1.trans hI.2.1.1
    have hs : hc s b (d + 1) = hc s b d + (if dr s d 2 = nI b ∧ dr s d 5 = nI 0 then 1 else 0) := rfl
    refine r_go 3 rfl ?_ ?_
    · exact g0
    rw [t3]
    refine r_le rfl (fun h7 => ?_) (fun h7 => ?_)
    · skip
      refine r_go 1 rfl ?_ ?_
      · (first | exact trivial | assumption | (simp (disch := omega) [ab_all, ab_nz, *]; done))
      refine r_ret rfl (by (first | exact Or.inl rfl | exact Or.inr rfl | exact bI_or)) ?_
      have e : d = nD s := by clear hI hR t3 h0 hs; (simp (disch := omega) only [Int32.le_iff_toInt_le, Int32.lt_iff_toInt_lt, c_i, m1_i, m5_i, m33_i] at * <;> omega)
      subst e
      exact lf_f (fun z => z h0)
    · skip
      have hdl : d < nD s := by clear hI hR t3 h0 hs; (simp (disch := omega) only [Int32.le_iff_toInt_le, Int32.lt_iff_toInt_lt, c_i, m1_i, m5_i, m33_i] at * <;> omega)
      have gd := tg_d ht (show d < 12 by omega)
      refine r_go 2 rfl ?_ ?_
      · (first | exact trivial | assumption | (simp (disch := omega) [ab_all, ab_nz, *]; done))
      refine r_cv rfl g0 ((k_doorAt d ht (by omega))) (by decide) ?_
      refine r_go 2 rfl ?_ ?_
      · exact gd
      rw [hR.2.2 d hdl 2 (by decide)]
      refine r_ne rfl (fun h19 => ?_) (fun h19 => ?_)
      · skip
        refine r_go 2 rfl ?_ ?_
        · (first | exact trivial | assumption | (simp (disch := omega) [ab_all, ab_nz, *]; done))
        rw [nI_add]
        refine ih (d + 1) (by omega) (by omega) ?_
        rw [hs, h0]
        first | rw [if_neg (fun z => h19 z.1)] | rw [if_neg (fun z => h30 z.2)]
      · skip
        refine r_go 2 rfl ?_ ?_
        · (first | exact trivial | assumption | (simp (disch := omega) [ab_all, ab_nz, *]; done))
        refine r_cv rfl g0 ((k_doorAt d ht (by omega))) (by decide) ?_
        refine r_go 1 rfl ?_ ?_
        · exact gd
        rw [hR.2.2 d hdl 5 (by decide)]
        refine r_ne rfl (fun h30 => ?_) (fun h30 => ?_)
        · skip
          refine r_go 2 rfl ?_ ?_
          · (first | exact trivial | assumption | (simp (disch := omega) [ab_all, ab_nz, *]; done))
          rw [nI_add]
          refine ih (d + 1) (by omega) (by omega) ?_
          rw [hs, h0]
          first | rw [if_neg (fun z => h19 z.1)] | rw [if_neg (fun z => h30 z.2)]
        · skip
          refine r_go 1 rfl ?_ ?_
          · (first | exact trivial | assumption | (simp (disch := omega) [ab_all, ab_nz, *]; done))
          refine r_ret rfl (by (first | exact Or.inl rfl | exact Or.inr rfl | exact bI_or)) ?_
          refine lf_t ?_
          have hm : ∀ e, hc s b (d + 1) ≤ hc s b (d + 1 + e) := by
              intro e
              induction e with
              | zero => exact Nat.le_refl _
              | succ e ih2 => exact Nat.le_trans ih2 (Nat.le_add_right _ _)
          have h3 := hm (nD s - (d + 1))
          rw [show d + 1 + (nD s - (d + 1)) = nD s by omega] at h3
          rw [if_pos ⟨h19, h30⟩] at hs
          omega
theorem k_voters {t b : Nat} {s : Vc} {i : ab_I} (ht : isT t) (hI : InT s) (hR : TwR t s i) : ab_K 1 104 [.ref t, .int (nI b)] i (ab_V (.int (bI (¬ hc s b (nD s) = 0))) i) := by
  refine k_of rfl ?_
  refine r_go 2 rfl ?_ ?_
  · (first | exact trivial | assumption | (simp (disch := omega) [ab_all, ab_nz, *]; done))
  exact hv_loop ht hI hR (nD s + 1) 0 (by omega) (by omega) rfl
theorem k_fewest {b : Nat} {s : Vc} {i : ab_I} (w : Int32) (hI : InT s) (hX : InXs s) (hT : TwR 2 s i) (hL : LwsR s i) (hb : b < nB s) (hw : w = nI 1 ∨ w = (-1)) : ab_K 4 103 [.ref 2, .int (nI b), .int w, .ref 23] i (fun v i' => v = some (.int (byV s b w)) ∧ sl i i') := by
  obtain ⟨q1, q2, q3⟩ := bys_c (b := b) hI hw
  have b6 := hI.1.2
  refine k_of rfl ?_
  refine r_go 3 rfl ?_ ?_
  · (first | exact trivial | assumption | (simp (disch := omega) [ab_all, ab_nz, *]; done))
  refine r_c rfl rfl ((k_sumV isT_2 hI (by omega) hX hT hL)) (by decide) ?_
  rintro v i1 ⟨rfl, f1⟩
  refine r_go 4 rfl ?_ ?_
  · (first | exact trivial | assumption | (simp (disch := omega) [ab_all, ab_nz, *]; done))
  rw [Int32.mul_comm]
  refine r_le rfl (fun h12 => ?_) (fun h12 => ?_)
  · skip
    refine r_go 2 rfl ?_ ?_
    · (first | exact trivial | assumption | (simp (disch := omega) [ab_all, ab_nz, *]; done))
    refine r_cv rfl rfl ((k_voters isT_2 hI (TwR_far hT hI.1.2 hI.2.1.2 (fun q a c => f1 q (by omega) (by omega))))) (by decide) ?_
    refine r_bE rfl (fun h22 => ?_) (fun h22 => ?_)
    · skip
      refine r_go 1 rfl ?_ ?_
      · (first | exact trivial | assumption | (simp (disch := omega) [ab_all, ab_nz, *]; done))
      refine r_ret rfl trivial ?_
      first | exact ⟨by rw [q2 h12 h22], f1⟩ | exact ⟨by rw [q3 h12 (Classical.not_not.mp h22)], f1⟩
    · skip
      refine r_go 7 rfl ?_ ?_
      · (unfold ab_all ab_nz; decide)
      refine r_ret rfl trivial ?_
      first | exact ⟨by rw [q2 h12 h22], f1⟩ | exact ⟨by rw [q3 h12 (Classical.not_not.mp h22)], f1⟩
  · skip
    refine r_go 1 rfl ?_ ?_
    · (first | exact trivial | assumption | (simp (disch := omega) [ab_all, ab_nz, *]; done))
    refine r_ret rfl trivial ?_
    exact ⟨by rw [q1 h12], f1⟩
def S_buys (b w : Int32) (m : ab_I) : Int32 × ab_I := if okB (m 219) b ∧ (w = nI 1 ∨ w = (-1)) then (if nI 0 < (bys (m 219) b.toNatClampNeg w).1 then (nI (bys (m 219) b.toNatClampNeg w).2, m) else er m 2) else er m 1
theorem cb_rest {i m : ab_I} (hC : ClsR i m) (hJ : InM m) {x w : Int32} (h11 : okB (m 219) x) (hw : w = nI 1 ∨ w = (-1)) : ab_R 5 tb_X10_buys 30 [some (.ref 0), some (.int x), some (.int w), none] [] i (clQ i (S_buys x w m)) := by
  (have hI := hJ.1.1; have hX := InS_X hJ.1; have hT := hC.1.1; have hLw : LwsR (m 219) i := ⟨hC.1.2.1, hC.1.2.2.1⟩; have hE := hC.2.2.2.2.1.1)
  have hP : S_buys x w m = (if nI 0 < (bys (m 219) x.toNatClampNeg w).1 then (nI (bys (m 219) x.toNatClampNeg w).2, m) else er m 2) := if_pos ⟨h11, hw⟩
  have b6 := hI.1.2
  obtain ⟨b, hb, rfl⟩ := of_rg h11
  rw [nI_cl (by omega)] at hP
  refine r_go 8 rfl ?_ ?_
  · (first | exact trivial | (simp only [ab_all] <;> decide))
  simp only [gr_0_0, gr_0_1, gr_0_3, gr_0_4, gr_0_5, gr_0_6, gr_0_7, gr_1_0, gr_1_1, gr_1_2, gr_1_3, gr_1_4, gr_35_0, gr_35_1, gr_35_2, gr_35_3, gr_35_4]
  refine r_c rfl rfl ((k_fewest w hI hX hT hLw hb hw)) (by decide) ?_
  rintro v i1 ⟨rfl, f1⟩
  have q1 := cl_sl (v := nI 0) hJ hC f1
  have e1 : i1 216 1 = nI 6 := by rw [f1 216 (by decide) (by decide)]; exact hE
  refine r_go 3 rfl ?_ ?_
  · (first | exact trivial | (simp only [ab_all] <;> decide))
  refine r_ne rfl (fun h52 => ?_) (fun h52 => ?_)
  · skip
    refine r_go 1 rfl ?_ ?_
    · (first | exact trivial | (simp only [ab_all] <;> decide))
    refine r_ret rfl trivial ?_
    by_cases e : nI 0 < (bys (m 219) b w).1
    · rw [if_pos e] at hP
      first | exact absurd e ((byV_n hI hw).mp h52) | (have ev : byV (m 219) b w = nI (bys (m 219) b w).2 := if_pos e; rw [ev]; exact cl_to hP (cl_sl hJ hC f1))
    · rw [if_neg e] at hP
      first | exact absurd ((byV_n hI hw).mpr e) h52 | (refine cl_to hP ?_; have q := cl_er (k := 2) (by decide) (by decide) hJ q1.2.1; exact ⟨q.1, q.2.1, fun p hp => (q.2.2 p hp).trans (q1.2.2 p hp)⟩)
  · skip
    refine r_go 2 rfl ?_ ?_
    · (first | exact trivial | (simp only [ab_all] <;> decide))
    refine r_cv rfl rfl ((k_error 2 (by decide) (by decide) e1)) (by decide) ?_
    refine r_go 1 rfl ?_ ?_
    · (first | exact trivial | (simp only [ab_all] <;> decide))
    refine r_ret rfl trivial ?_
    by_cases e : nI 0 < (bys (m 219) b w).1
    · rw [if_pos e] at hP
      first | exact absurd e ((byV_n hI hw).mp h52) | (have ev : byV (m 219) b w = nI (bys (m 219) b w).2 := if_pos e; rw [ev]; exact cl_to hP (cl_sl hJ hC f1))
    · rw [if_neg e] at hP
      first | exact absurd ((byV_n hI hw).mpr e) h52 | (refine cl_to hP ?_; have q := cl_er (k := 2) (by decide) (by decide) hJ q1.2.1; exact ⟨q.1, q.2.1, fun p hp => (q.2.2 p hp).trans (q1.2.2 p hp)⟩)
theorem c_buys {i m : ab_I} (hC : ClsR i m) (hJ : InM m) (x w : Int32) : ab_K 5 131 [.ref 0, .int x, .int w] i (clQ i (S_buys x w m)) := by
  (have hI := hJ.1.1; have hX := InS_X hJ.1; have hT := hC.1.1; have hLw : LwsR (m 219) i := ⟨hC.1.2.1, hC.1.2.2.1⟩; have hE := hC.2.2.2.2.1.1)
  have t2 : i 2 2 = nI (nB (m 219)) := hT.1.1.trans hI.1.1
  refine k_of rfl ?_
  refine r_go 4 rfl ?_ ?_
  · (first | exact trivial | (simp only [ab_all] <;> decide))
  simp only [gr_0_0, gr_0_1, gr_0_3, gr_0_4, gr_0_5, gr_0_6, gr_0_7, gr_1_0, gr_1_1, gr_1_2, gr_1_3, gr_1_4, gr_35_0, gr_35_1, gr_35_2, gr_35_3, gr_35_4]
  refine r_cv rfl rfl ((k_hasB x isT_2 t2 (Nat.le_trans hI.1.2 (by decide)))) (by decide) ?_
  refine r_bE rfl (fun h11 => ?_) (fun h11 => ?_)
  · skip
    refine r_go 2 rfl ?_ ?_
    · (first | exact trivial | (simp only [ab_all] <;> decide))
    refine r_cv rfl rfl ((k_error 1 (by decide) (by decide) hE)) (by decide) ?_
    refine r_ret rfl trivial ?_
    first | exact cl_to (if_neg (fun z => h11 z.1)) (cl_er (by decide) (by decide) hJ hC) | exact cl_to (if_neg (fun z => z.2.elim h16 h21)) (cl_er (by decide) (by decide) hJ hC)
  · skip
    refine r_go 2 rfl ?_ ?_
    · (first | exact trivial | (simp only [ab_all] <;> decide))
    refine r_br rfl (fun h16 => ?_) (fun h16 => ?_)
    · skip
      first | exact cb_rest hC hJ h11 (Or.inl h16) | exact cb_rest hC hJ h11 (Or.inr h21)
    · skip
      refine r_go 2 rfl ?_ ?_
      · (first | exact trivial | (simp only [ab_all] <;> decide))
      refine r_br rfl (fun h21 => ?_) (fun h21 => ?_)
      · skip
        first | exact cb_rest hC hJ h11 (Or.inl h16) | exact cb_rest hC hJ h11 (Or.inr h21)
      · skip
        refine r_go 2 rfl ?_ ?_
        · (first | exact trivial | (simp only [ab_all] <;> decide))
        refine r_cv rfl rfl ((k_error 1 (by decide) (by decide) hE)) (by decide) ?_
        refine r_ret rfl trivial ?_
        first | exact cl_to (if_neg (fun z => h11 z.1)) (cl_er (by decide) (by decide) hJ hC) | exact cl_to (if_neg (fun z => z.2.elim h16 h21)) (cl_er (by decide) (by decide) hJ hC)
theorem n_buys {m : ab_I} (hJ : InM m) (b w : Int32) : InM (S_buys b w m).2 := by
  unfold S_buys
  split
  · split
    · exact hJ
    · exact InM_er hJ
  · exact InM_er hJ
theorem mby_join {b g d n : Nat} {w x c : Int32} {s : Vc} {i : ab_I} {Q : Option Value → ab_I → Prop} (hg : g ≤ 2) (hd : d < 12) (hn : n ≤ 30) (hc : c = bI (mayG s b w g d)) (K : ab_R 6 tb_X11_buys 46 [some (.ref 218), some (.int (nI b)), some (.int w), some (.int (if mayG s b w g d ∧ ¬ nI 0 < x then (x + nI g, n + 1) else (x, n)).1), some (.int (nI (if mayG s b w g d ∧ ¬ nI 0 < x then (x + nI g, n + 1) else (x, n)).2)), some (.int (nI g)), some (.int (nI (d + 1))), none] [] i Q) : ab_R 6 tb_X11_buys 100 [some (.ref 218), some (.int (nI b)), some (.int w), some (.int x), some (.int (nI n)), some (.int (nI g)), some (.int (nI d)), some (.int c)] [] i Q := by
  refine r_go 1 rfl ?_ ?_
  · (first | exact trivial | assumption | (simp (disch := omega) [ab_all, ab_nz, *]; done))
  refine r_br rfl (fun h102 => ?_) (fun h102 => ?_)
  · skip
    refine r_go 2 rfl ?_ ?_
    · (first | exact trivial | assumption | (simp (disch := omega) [ab_all, ab_nz, *]; done))
    simp only [nI_add]
    first | (rw [hc, bI_n0] at h102; rw [if_pos ⟨h102, h106⟩] at K; exact r_lk K rfl) | (rw [hc, bI_n0] at h102; rw [if_neg (fun z => z.2 h106)] at K; exact r_lk K rfl) | (rw [hc, bI_0] at h102; rw [if_neg (fun z => h102 z.1)] at K; exact r_lk K rfl)
  · skip
    refine r_go 1 rfl ?_ ?_
    · (first | exact trivial | assumption | (simp (disch := omega) [ab_all, ab_nz, *]; done))
    refine r_br rfl (fun h106 => ?_) (fun h106 => ?_)
    · skip
      refine r_go 2 rfl ?_ ?_
      · (first | exact trivial | assumption | (simp (disch := omega) [ab_all, ab_nz, *]; done))
      simp only [nI_add]
      first | (rw [hc, bI_n0] at h102; rw [if_pos ⟨h102, h106⟩] at K; exact r_lk K rfl) | (rw [hc, bI_n0] at h102; rw [if_neg (fun z => z.2 h106)] at K; exact r_lk K rfl) | (rw [hc, bI_0] at h102; rw [if_neg (fun z => h102 z.1)] at K; exact r_lk K rfl)
    · skip
      refine r_go 7 rfl ?_ ?_
      · (first | exact trivial | assumption | (simp (disch := omega) [ab_all, ab_nz, *]; done))
      simp only [nI_add]
      first | (rw [hc, bI_n0] at h102; rw [if_pos ⟨h102, h106⟩] at K; exact r_lk K rfl) | (rw [hc, bI_n0] at h102; rw [if_neg (fun z => z.2 h106)] at K; exact r_lk K rfl) | (rw [hc, bI_0] at h102; rw [if_neg (fun z => h102 z.1)] at K; exact r_lk K rfl)
theorem mby_in {b g n0 : Nat} {w x0 : Int32} {s : Vc} {i0 : ab_I} {Q : Option Value → ab_I → Prop} (hI : InT s) (hX : InXs s) (hg : g ≤ 2) (hn0 : n0 ≤ 12) (hb : b < nB s) (K : ∀ j, sr i0 j → ab_R 6 tb_X11_buys 123 [some (.ref 218), some (.int (nI b)), some (.int w), some (.int (byN s b w g (nD s) (x0, n0)).1), some (.int (nI (byN s b w g (nD s) (x0, n0)).2)), some (.int (nI g)), some (.int (nI (nD s))), none] [] j Q) (mm d : Nat) (i : ab_I) (hmm : nD s - d < mm) (hd : d ≤ nD s) (hnn : (byN s b w g d (x0, n0)).2 ≤ n0 + d) (hs : i 219 = s) (hi : sr i0 i) : ab_R 6 tb_X11_buys 46 [some (.ref 218), some (.int (nI b)), some (.int w), some (.int (byN s b w g d (x0, n0)).1), some (.int (nI (byN s b w g d (x0, n0)).2)), some (.int (nI g)), some (.int (nI d)), none] [] i Q := by
  induction mm generalizing d i with
  | zero => exact absurd hmm (by omega)
  | succ mm ih =>
    have d12 := hI.2.1.2
    have b6 := hI.1.2
    have es : byN s b w g (d + 1) (x0, n0) = if mayG s b w g d ∧ ¬ nI 0 < (byN s b w g d (x0, n0)).1 then ((byN s b w g d (x0, n0)).1 + nI g, (byN s b w g d (x0, n0)).2 + 1) else byN s b w g d (x0, n0) := rfl
    refine r_go 5 rfl ?_ ?_
    · (simp only [ab_all, gr_218_0, nI_add]; repeat' (first | exact ix_219 (by omega) | rfl | decide | (unfold ab_nz; decide) | refine And.intro ?_ ?_))
    rw [rowI hs, nI_cl (by decide), hI.2.1.1]
    refine r_le rfl (fun h54 => ?_) (fun h54 => ?_)
    · skip
      have e : d = nD s := by clear K hI hX hs hi hnn es; (simp (disch := omega) only [Int32.le_iff_toInt_le, Int32.lt_iff_toInt_lt, c_i, m1_i, m5_i, m33_i] at * <;> omega)
      subst e
      exact r_lk (K i hi) rfl
    · skip
      have hdl : d < nD s := by clear K hI hX hs hi hnn es; (simp (disch := omega) only [Int32.le_iff_toInt_le, Int32.lt_iff_toInt_lt, c_i, m1_i, m5_i, m33_i] at * <;> omega)
      refine r_go 3 rfl ?_ ?_
      · (first | exact trivial | assumption | (simp (disch := omega) [ab_all, ab_nz, *]; done))
      refine r_cv rfl rfl ((m_its d 2 hs (by omega))) (by decide) ?_
      refine r_go 1 rfl ?_ ?_
      · (first | exact trivial | assumption | (simp (disch := omega) [ab_all, ab_nz, *]; done))
      refine r_ne rfl (fun h65 => ?_) (fun h65 => ?_)
      · skip
        refine r_go 2 rfl ?_ ?_
        · (first | exact trivial | assumption | (simp (disch := omega) [ab_all, ab_nz, *]; done))
        have hn1 : (byN s b w g (d + 1) (x0, n0)).2 ≤ n0 + (d + 1) := by
            rw [es]
            split
            · show _ + 1 ≤ _
              omega
            · omega
        have k : ∀ j, j 219 = s → sr i0 j → ab_R 6 tb_X11_buys 46 [some (.ref 218), some (.int (nI b)), some (.int w), some (.int (byN s b w g (d + 1) (x0, n0)).1), some (.int (nI (byN s b w g (d + 1) (x0, n0)).2)), some (.int (nI g)), some (.int (nI (d + 1))), none] [] j Q := fun j a c => ih (d + 1) j (by omega) (by omega) hn1 a c
        rw [es] at k
        first | exact r_lk (mby_join (s := s) hg (by omega) (by omega) (bI_t ⟨h65, h75, h90⟩).symm (k i1 ((f1 219 (by decide) (by decide)).trans hs) (sr_tr hi f1))) rfl | exact r_lk (mby_join (s := s) hg (by omega) (by omega) (bI_f (fun z => h90 z.2.2)).symm (k i1 ((f1 219 (by decide) (by decide)).trans hs) (sr_tr hi f1))) rfl | exact r_lk (mby_join (s := s) hg (by omega) (by omega) (bI_f (fun z => h75 z.2.1)).symm (k i hs hi)) rfl | exact r_lk (mby_join (s := s) hg (by omega) (by omega) (bI_f (fun z => h65 z.1)).symm (k i hs hi)) rfl
      · skip
        refine r_go 3 rfl ?_ ?_
        · (first | exact trivial | assumption | (simp (disch := omega) [ab_all, ab_nz, *]; done))
        refine r_cv rfl rfl ((m_its d 5 hs (by omega))) (by decide) ?_
        refine r_ne rfl (fun h75 => ?_) (fun h75 => ?_)
        · skip
          refine r_go 2 rfl ?_ ?_
          · (first | exact trivial | assumption | (simp (disch := omega) [ab_all, ab_nz, *]; done))
          have hn1 : (byN s b w g (d + 1) (x0, n0)).2 ≤ n0 + (d + 1) := by
              rw [es]
              split
              · show _ + 1 ≤ _
                omega
              · omega
          have k : ∀ j, j 219 = s → sr i0 j → ab_R 6 tb_X11_buys 46 [some (.ref 218), some (.int (nI b)), some (.int w), some (.int (byN s b w g (d + 1) (x0, n0)).1), some (.int (nI (byN s b w g (d + 1) (x0, n0)).2)), some (.int (nI g)), some (.int (nI (d + 1))), none] [] j Q := fun j a c => ih (d + 1) j (by omega) (by omega) hn1 a c
          rw [es] at k
          first | exact r_lk (mby_join (s := s) hg (by omega) (by omega) (bI_t ⟨h65, h75, h90⟩).symm (k i1 ((f1 219 (by decide) (by decide)).trans hs) (sr_tr hi f1))) rfl | exact r_lk (mby_join (s := s) hg (by omega) (by omega) (bI_f (fun z => h90 z.2.2)).symm (k i1 ((f1 219 (by decide) (by decide)).trans hs) (sr_tr hi f1))) rfl | exact r_lk (mby_join (s := s) hg (by omega) (by omega) (bI_f (fun z => h75 z.2.1)).symm (k i hs hi)) rfl | exact r_lk (mby_join (s := s) hg (by omega) (by omega) (bI_f (fun z => h65 z.1)).symm (k i hs hi)) rfl
        · skip
          refine r_go 4 rfl ?_ ?_
          · (first | exact trivial | assumption | (simp (disch := omega) [ab_all, ab_nz, *]; done))
          refine r_c rfl rfl ((m_vote d hs hI hX hdl)) (by decide) ?_
          rintro v i1 ⟨rfl, f1⟩
          refine r_go 3 rfl ?_ ?_
          · (first | exact trivial | assumption | (simp (disch := omega) [ab_all, ab_nz, *]; done))
          refine r_ne rfl (fun h90 => ?_) (fun h90 => ?_)
          · skip
            refine r_go 2 rfl ?_ ?_
            · (first | exact trivial | assumption | (simp (disch := omega) [ab_all, ab_nz, *]; done))
            have hn1 : (byN s b w g (d + 1) (x0, n0)).2 ≤ n0 + (d + 1) := by
                rw [es]
                split
                · show _ + 1 ≤ _
                  omega
                · omega
            have k : ∀ j, j 219 = s → sr i0 j → ab_R 6 tb_X11_buys 46 [some (.ref 218), some (.int (nI b)), some (.int w), some (.int (byN s b w g (d + 1) (x0, n0)).1), some (.int (nI (byN s b w g (d + 1) (x0, n0)).2)), some (.int (nI g)), some (.int (nI (d + 1))), none] [] j Q := fun j a c => ih (d + 1) j (by omega) (by omega) hn1 a c
            rw [es] at k
            first | exact r_lk (mby_join (s := s) hg (by omega) (by omega) (bI_t ⟨h65, h75, h90⟩).symm (k i1 ((f1 219 (by decide) (by decide)).trans hs) (sr_tr hi f1))) rfl | exact r_lk (mby_join (s := s) hg (by omega) (by omega) (bI_f (fun z => h90 z.2.2)).symm (k i1 ((f1 219 (by decide) (by decide)).trans hs) (sr_tr hi f1))) rfl | exact r_lk (mby_join (s := s) hg (by omega) (by omega) (bI_f (fun z => h75 z.2.1)).symm (k i hs hi)) rfl | exact r_lk (mby_join (s := s) hg (by omega) (by omega) (bI_f (fun z => h65 z.1)).symm (k i hs hi)) rfl
          · skip
            refine r_go 3 rfl ?_ ?_
            · (first | exact trivial | assumption | (simp (disch := omega) [ab_all, ab_nz, *]; done))
            have hn1 : (byN s b w g (d + 1) (x0, n0)).2 ≤ n0 + (d + 1) := by
                rw [es]
                split
                · show _ + 1 ≤ _
                  omega
                · omega
            have k : ∀ j, j 219 = s → sr i0 j → ab_R 6 tb_X11_buys 46 [some (.ref 218), some (.int (nI b)), some (.int w), some (.int (byN s b w g (d + 1) (x0, n0)).1), some (.int (nI (byN s b w g (d + 1) (x0, n0)).2)), some (.int (nI g)), some (.int (nI (d + 1))), none] [] j Q := fun j a c => ih (d + 1) j (by omega) (by omega) hn1 a c
            rw [es] at k
            first | exact r_lk (mby_join (s := s) hg (by omega) (by omega) (bI_t ⟨h65, h75, h90⟩).symm (k i1 ((f1 219 (by decide) (by decide)).trans hs) (sr_tr hi f1))) rfl | exact r_lk (mby_join (s := s) hg (by omega) (by omega) (bI_f (fun z => h90 z.2.2)).symm (k i1 ((f1 219 (by decide) (by decide)).trans hs) (sr_tr hi f1))) rfl | exact r_lk (mby_join (s := s) hg (by omega) (by omega) (bI_f (fun z => h75 z.2.1)).symm (k i hs hi)) rfl | exact r_lk (mby_join (s := s) hg (by omega) (by omega) (bI_f (fun z => h65 z.1)).symm (k i hs hi)) rfl
theorem mby_rest {i m : ab_I} (hm : mo i m) (hJ : InM m) (h13 : i 218 13 = (-1)) {x w : Int32} (h5 : okB (m 219) x) (hw : w = nI 1 ∨ w = (-1)) : ab_R 6 tb_X11_buys 24 [some (.ref 218), some (.int x), some (.int w), none, none, none, none, none] [] i (rfQ i (S_buys x w m)) := by
  (have hI := hJ.1.1; have hX := InS_X hJ.1; have hs := hm.1)
  have hP : S_buys x w m = (if nI 0 < (bys (m 219) x.toNatClampNeg w).1 then (nI (bys (m 219) x.toNatClampNeg w).2, m) else er m 2) := if_pos ⟨h5, hw⟩
  have b6 := hI.1.2
  have d12 := hI.2.1.2
  obtain ⟨b, hb, rfl⟩ := of_rg h5
  rw [nI_cl (by omega)] at hP
  refine r_go 3 rfl ?_ ?_
  · (first | exact trivial | assumption | (simp (disch := omega) [ab_all, ab_nz, *]; done))
  refine r_c rfl rfl ((m_votesOn b hs hI hX)) (by decide) ?_
  rintro v i1 ⟨rfl, f1⟩
  have s1 : i1 219 = m 219 := (f1 219 (by decide) (by decide)).trans hs
  refine r_go 6 rfl ?_ ?_
  · (first | exact trivial | assumption | (simp (disch := omega) [ab_all, ab_nz, *]; done))
  have hb2 : ∀ g d st, (byN (m 219) b w g d st).2 ≤ st.2 + d := by
      intro g d
      induction d with
      | zero => intro st; exact Nat.le_refl _
      | succ d ih =>
        intro st
        show (if mayG (m 219) b w g d ∧ ¬ nI 0 < (byN (m 219) b w g d st).1 then ((byN (m 219) b w g d st).1 + nI g, (byN (m 219) b w g d st).2 + 1) else byN (m 219) b w g d st).2 ≤ st.2 + (d + 1)
        have := ih st
        split
        · show (byN (m 219) b w g d st).2 + 1 ≤ _
          omega
        · omega
  have n2 := hb2 2 (nD (m 219)) (w * votesOn (m 219) b, 0)
  dsimp only at n2
  refine r_go 1 rfl trivial ?_
  refine r_brF rfl (by decide) ?_
  refine r_go 2 rfl trivial ?_
  refine r_lk (mby_in (g := 2) (n0 := 0) (i0 := i1) hI hX (by decide) (by decide) hb (fun j hj => ?_) (nD (m 219) + 1) 0 i1 (by omega) (by omega) (Nat.le_refl _) s1 sr_rf) rfl
  have s2 : j 219 = m 219 := (hj 219 (by decide) (by decide)).trans s1
  refine r_go 3 rfl trivial ?_
  refine r_brF rfl (by decide) ?_
  refine r_go 2 rfl trivial ?_
  refine r_lk (mby_in (g := 1) (x0 := (byN (m 219) b w 2 (nD (m 219)) (w * votesOn (m 219) b, 0)).1) (n0 := (byN (m 219) b w 2 (nD (m 219)) (w * votesOn (m 219) b, 0)).2) (i0 := j) hI hX (by decide) (by omega) hb (fun k hk => ?_) (nD (m 219) + 1) 0 j (by omega) (by omega) (Nat.le_refl _) s2 sr_rf) rfl
  have fk : sr i k := sr_tr f1 (sr_tr hj hk)
  refine r_go 3 rfl trivial ?_
  refine r_brT rfl (by decide) ?_
  refine r_go 1 rfl trivial ?_
  refine r_le rfl (fun h130 => ?_) (fun h130 => ?_)
  · refine r_go 2 rfl trivial ?_
    refine r_cv rfl rfl (m_error 2 (by decide)) (by decide) ?_
    refine r_ret rfl trivial ?_
    rw [if_neg (show ¬ nI 0 < (bys (m 219) b w).1 from h130)] at hP
    have q0 := rf_sr (v := nI 0) hm h13 fk
    have q := rf_er (k := 2) q0.2.1 q0.2.2.1
    exact rf_to hP ⟨q.1, q.2.1, q.2.2.1, fun y hy => (q.2.2.2 y hy).trans (q0.2.2.2 y hy)⟩
  · refine r_go 2 rfl trivial ?_
    refine r_ret rfl trivial ?_
    rw [if_pos (show nI 0 < (bys (m 219) b w).1 from h130)] at hP
    exact rf_to hP (rf_sr hm h13 fk)
theorem m_buys {i m : ab_I} (hm : mo i m) (hJ : InM m) (h13 : i 218 13 = (-1)) (x w : Int32) : ab_K 6 221 [.ref 218, .int x, .int w] i (rfQ i (S_buys x w m)) := by
  (have hI := hJ.1.1; have hX := InS_X hJ.1; have hs := hm.1)
  refine k_of rfl ?_
  refine r_go 2 rfl ?_ ?_
  · (first | exact trivial | assumption | (simp (disch := omega) [ab_all, ab_nz, *]; done))
  refine r_cv rfl rfl ((m_isB x hs hI)) (by decide) ?_
  refine r_bE rfl (fun h5 => ?_) (fun h5 => ?_)
  · skip
    refine r_go 2 rfl ?_ ?_
    · (first | exact trivial | assumption | (simp (disch := omega) [ab_all, ab_nz, *]; done))
    refine r_cv rfl rfl ((m_error 1 (by decide))) (by decide) ?_
    refine r_ret rfl trivial ?_
    first | exact rf_to (if_neg (fun z => h5 z.1)) (rf_er hm h13) | exact rf_to (if_neg (fun z => z.2.elim h10 h15)) (rf_er hm h13)
  · skip
    refine r_go 2 rfl ?_ ?_
    · (first | exact trivial | assumption | (simp (disch := omega) [ab_all, ab_nz, *]; done))
    refine r_br rfl (fun h10 => ?_) (fun h10 => ?_)
    · skip
      first | exact mby_rest hm hJ h13 h5 (Or.inl h10) | exact mby_rest hm hJ h13 h5 (Or.inr h15)
    · skip
      refine r_go 2 rfl ?_ ?_
      · (first | exact trivial | assumption | (simp (disch := omega) [ab_all, ab_nz, *]; done))
      refine r_br rfl (fun h15 => ?_) (fun h15 => ?_)
      · skip
        first | exact mby_rest hm hJ h13 h5 (Or.inl h10) | exact mby_rest hm hJ h13 h5 (Or.inr h15)
      · skip
        refine r_go 2 rfl ?_ ?_
        · (first | exact trivial | assumption | (simp (disch := omega) [ab_all, ab_nz, *]; done))
        refine r_cv rfl rfl ((m_error 1 (by decide))) (by decide) ?_
        refine r_ret rfl trivial ?_
        first | exact rf_to (if_neg (fun z => h5 z.1)) (rf_er hm h13) | exact rf_to (if_neg (fun z => z.2.elim h10 h15)) (rf_er hm h13)
