/-! an hour, the class's side -/
def frT (t : Nat) (i i' : ab_I) : Prop := ∀ q, ¬ (t ≤ q ∧ q < t + 21) → q ≠ 26 → q ≠ 30 → i' q = i q
theorem frT_rf {t : Nat} {i : ab_I} : frT t i i := fun _ _ _ _ => rfl
theorem frT_tr {t : Nat} {i j k : ab_I} (h1 : frT t i j) (h2 : frT t j k) : frT t i k := fun q a b c => (h2 q a b c).trans (h1 q a b c)
theorem frT_up {t q k : Nat} {i j : ab_I} {x : Int32} (h : frT t i j) (hq : t ≤ q ∧ q < t + 21) : frT t i (ab_up j q k x) := fun p a b c => by
  rw [up_row (show p ≠ q from fun z => a (by rw [z]; exact hq))]
  exact h p a b c
theorem frT_sl {t : Nat} {i j k : ab_I} (h1 : frT t i j) (h2 : sl j k) : frT t i k := fun q a b c => (h2 q b c).trans (h1 q a b c)
theorem LwsR_frT {t : Nat} {s : Vc} {i i' : ab_I} (ht : isT t) (h : LwsR s i) (e : frT t i i') : LwsR s i' := by
  have := isT_le ht
  exact LwsR_far h (fun q hq => e q (by omega) (by omega) (by omega))
theorem nI_ne {a b : Nat} (h : a ≠ b) (ha : a < 2147483648) (hb : b < 2147483648) : ¬ nI a = nI b := fun z => h ((nI_eq ha hb).mp z)
theorem av_loop2 {t : Nat} {s : Vc} {i0 : ab_I} (ht : isT t) (hI : InT s) (hX : InXs s) (m d : Nat) (i : ab_I) (hm : nD s - d < m) (hd : d ≤ nD s) (hR : TwR t s i) (hL : LwsR s i) (hs7 : ∀ b, b < nB s → i (t + 2 + b) 7 = sm (von s b) d) (hi : frT t i0 i) : ab_R 3 tb_X8_askVotes 27 [some (.ref t), some (.ref 23), some (.int (nI d)), none] [] i (fun v i' => v = none ∧ TwR t s i' ∧ (∀ b, b < nB s → i' (t + 2 + b) 7 = votesOn s b) ∧ frT t i0 i') := by
  induction m generalizing d i with
  | zero => exact absurd hm (by omega)
  | succ m ih =>
    have g0 := tg_t ht
    have t3 : i t 3 = nI (nD s) := hR.1.2.1.trans hI.2.1.1
    have d12 := hI.2.1.2
    have hb6 := hI.1.2
    refine r_go 3 rfl ?_ ?_
    · (first | exact trivial | assumption | (simp (disch := omega) [ab_all, ab_nz, *]; done))
    rw [t3]
    refine r_le rfl (fun h32 => ?_) (fun h32 => ?_)
    · skip
      refine r_ret rfl trivial ?_
      (have e : d = nD s := by (simp (disch := omega) only [Int32.le_iff_toInt_le, Int32.lt_iff_toInt_lt, c_i, m1_i, m5_i, m33_i] at * <;> omega)); subst e; exact ⟨rfl, hR, hs7, hi⟩
    · skip
      have hdl : d < nD s := by (simp (disch := omega) only [Int32.le_iff_toInt_le, Int32.lt_iff_toInt_lt, c_i, m1_i, m5_i, m33_i] at * <;> omega)
      have gd := tg_d ht (show d < 12 by omega)
      have o6 := on_lt hI hdl
      have d2 : i (t + 9 + d) 2 = nI (on s d) := (hR.2.2 d hdl 2 (by decide)).trans o6.2.2
      have gb := tg_b ht o6.2.1
      refine r_go 2 rfl ?_ ?_
      · (first | exact trivial | assumption | (simp (disch := omega) [ab_all, ab_nz, *]; done))
      refine r_cv rfl (by first | assumption | rfl) ((k_doorAt _ ht (by omega))) (by decide) ?_
      refine r_go 4 rfl ?_ ?_
      · (first | exact trivial | assumption | (simp (disch := omega) [ab_all, ab_nz, *]; done))
      rw [d2]
      refine r_cv rfl (by first | assumption | rfl) ((k_basinAt _ ht o6.2.1)) (by decide) ?_
      refine r_go 5 rfl ?_ ?_
      · (first | exact trivial | assumption | (simp (disch := omega) [ab_all, ab_nz, *]; done))
      refine r_c rfl (by first | assumption | rfl) ((k_voteOf ht hR hI hdl hL.1 hX.1)) (by decide) ?_
      rintro v i' ⟨rfl, hf⟩
      have hf2 : sl i i' := fun q h _ => hf q h
      have hR' := TwR_sl ht hI hR hf2
      have htl := isT_le ht
      refine r_go 4 rfl ?_ ?_
      · (first | exact trivial | assumption | (simp (disch := omega) [ab_all, ab_nz, *]; done))
      rw [nI_add, hs7 _ o6.1]
      refine r_lk (ih (d + 1) _ (by omega) (by omega) (TwR_7 hR' o6.2.1) (LwsR_frT ht (LwsR_sl hL hf2) (frT_up frT_rf (by omega))) (fun b hb => ?_) (frT_up (frT_sl hi hf2) (by omega))) rfl
      by_cases e : b = on s d
      · subst e
        rw [up_us, sm_s, von_t o6.2.2]
      · rw [up_ne (by omega), sm_s, von_f (by rw [o6.2.2]; exact nI_ne (Ne.symm e) (by omega) (by omega)), add_0, hf _ (by omega)]
        exact hs7 b hb
theorem av_loop1 {t : Nat} {s : Vc} {i0 : ab_I} (ht : isT t) (hI : InT s) (hX : InXs s) (m k : Nat) (i : ab_I) (hm : nB s - k < m) (hk : k ≤ nB s) (hR : TwR t s i) (hL : LwsR s i) (hs7 : ∀ b, b < k → i (t + 2 + b) 7 = nI 0) (hi : frT t i0 i) : ab_R 3 tb_X8_askVotes 2 [some (.ref t), some (.ref 23), some (.int (nI k)), none] [] i (fun v i' => v = none ∧ TwR t s i' ∧ (∀ b, b < nB s → i' (t + 2 + b) 7 = votesOn s b) ∧ frT t i0 i') := by
  induction m generalizing k i with
  | zero => exact absurd hm (by omega)
  | succ m ih =>
    have g0 := tg_t ht
    have t2 : i t 2 = nI (nB s) := hR.1.1.trans hI.1.1
    have hb6 := hI.1.2
    refine r_go 3 rfl ?_ ?_
    · (first | exact trivial | assumption | (simp (disch := omega) [ab_all, ab_nz, *]; done))
    rw [t2]
    refine r_le rfl (fun h7 => ?_) (fun h7 => ?_)
    · skip
      have e : k = nB s := by (simp (disch := omega) only [Int32.le_iff_toInt_le, Int32.lt_iff_toInt_lt, c_i, m1_i, m5_i, m33_i] at * <;> omega)
      subst e
      refine r_go 2 rfl ?_ ?_
      · (first | exact trivial | assumption | (simp (disch := omega) [ab_all, ab_nz, *]; done))
      exact r_lk (av_loop2 (i0 := i0) ht hI hX (nD s + 1) 0 i (by omega) (by omega) hR hL hs7 hi) rfl
    · skip
      have hkl : k < nB s := by (simp (disch := omega) only [Int32.le_iff_toInt_le, Int32.lt_iff_toInt_lt, c_i, m1_i, m5_i, m33_i] at * <;> omega)
      have gb := tg_b ht (show k < 6 by omega)
      refine r_go 2 rfl ?_ ?_
      · (first | exact trivial | assumption | (simp (disch := omega) [ab_all, ab_nz, *]; done))
      refine r_cv rfl (by first | assumption | rfl) ((k_basinAt _ ht (by omega))) (by decide) ?_
      refine r_go 4 rfl ?_ ?_
      · (first | exact trivial | assumption | (simp (disch := omega) [ab_all, ab_nz, *]; done))
      rw [nI_add]
      refine r_lk (ih (k + 1) _ (by omega) (by omega) (TwR_7 hR (by omega)) (LwsR_frT ht hL (frT_up frT_rf (by omega))) (fun b hb => ?_) (frT_up hi (by omega))) rfl
      by_cases e : b = k
      · subst e
        rw [up_us]
      · rw [up_ne (by omega)]
        exact hs7 b (by omega)
theorem k_ask {t : Nat} {s : Vc} {i : ab_I} (ht : isT t) (hI : InT s) (hX : InXs s) (hR : TwR t s i) (hL : LwsR s i) : ab_K 3 98 [.ref t, .ref 23] i (fun v i' => v = none ∧ TwR t s i' ∧ (∀ b, b < nB s → i' (t + 2 + b) 7 = votesOn s b) ∧ frT t i i') := by
  refine k_of rfl ?_
  refine r_go 2 rfl ?_ ?_
  · (first | exact trivial | assumption | (simp (disch := omega) [ab_all, ab_nz, *]; done))
  exact r_lk (av_loop1 (i0 := i) ht hI hX (nB s + 1) 0 i (by omega) (by omega) hR hL (fun b hb => absurd hb (by omega)) frT_rf) rfl
theorem up_same {s : Vc} {k : Nat} {x : Int32} (h : x = s k) : upd s k x = s := by
  funext j
  unfold upd
  split
  · rename_i e
    rw [e, h]
  · rfl
theorem k_gainT {t b : Nat} {z : Vc} {i : ab_I} {x : Int32} (ht : isT t) (hR : TwR t z i) (hI : InT z) (hb : b < nB z) (hx : rg x 0 100000) :
    ab_K 0 18 [.ref (t + 2 + b), .int x] i (fun v i' => v = none ∧ TwR t (gets b x z) i' ∧ frT t i i') := by
  have b6 : b < 6 := by have := hI.1.2; omega
  refine k_mono (k_gain x (tg_b ht b6)) ?_
  rintro v i' ⟨rfl, rfl⟩
  refine ⟨rfl, ?_, frT_up frT_rf (by omega)⟩
  have e1 : i (t + 2 + b) 1 = bs z b 0 := hR.2.1 b hb 0 (by decide)
  have r1 : rg (bs z b 0) 0 99999 := hI.2.2.2.2.1 b hb 0 (by decide)
  unfold rg at hx r1
  rw [e1, mn_hl (by decide) (by rw [ad_i (by omega) (by omega)]; omega)]
  exact TwR_B hR b6 (by decide)
theorem k_spillT {t b : Nat} {z : Vc} {i : ab_I} (ht : isT t) (hR : TwR t z i) (hI : InT z) (hb : b < nB z) :
    ab_K 0 19 [.ref (t + 2 + b)] i (fun v i' => v = some (.int (goes z b)) ∧ TwR t (spil b z) i' ∧ frT t i i') := by
  have b6 : b < 6 := by have := hI.1.2; omega
  refine k_mono (k_spill (tg_b ht b6)) ?_
  rintro v i' ⟨rfl, rfl⟩
  have e0 : i (t + 2 + b) 0 = bs z b 1 := hR.2.1 b hb 1 (by decide)
  have e1 : i (t + 2 + b) 1 = bs z b 0 := hR.2.1 b hb 0 (by decide)
  have e2 : i (t + 2 + b) 2 = bs z b 2 := hR.2.1 b hb 2 (by decide)
  have e4 : i (t + 2 + b) 4 = bs z b 4 := hR.2.1 b hb 4 (by decide)
  have r4 : rg (bs z b 4) 0 999 := hI.2.2.2.2.1 b hb 4 (by decide)
  rw [e0, e1, e2, e4, mxmn r4.1]
  exact ⟨rfl, TwR_B hR b6 (by decide), frT_up frT_rf (by omega)⟩
theorem k_flow {t b : Nat} {z : Vc} {i : ab_I} (ht : isT t) (hR : TwR t z i) (hI : InT z) (hb : b < nB z) : ab_K 2 99 [.ref t, .int (nI b)] i (fun v i' => v = none ∧ TwR t (flow b z) i' ∧ frT t i i') := by
  have b6 : b < 6 := by have := hI.1.2; omega
  have g0 := tg_t ht
  have gb := tg_b ht b6
  have e0 : i (t + 2 + b) 0 = bs z b 1 := hR.2.1 b hb 1 (by decide)
  have e4 : i t 4 = z 3 := hR.1.2.2.1
  have r0 : rg (bs z b 1) 1 20 := hI.2.2.2.2.1 b hb 1 (by decide)
  have r3 : rg (z 3) 0 9 := hI.2.2.1
  have rp : rg (z 3 * bs z b 1) 0 100000 := by
    unfold rg at r0 r3 ⊢
    have h1 : 0 ≤ (z 3).toInt * (bs z b 1).toInt := Int.mul_nonneg r3.1 (by omega)
    have h2 : (z 3).toInt * (bs z b 1).toInt ≤ 9 * 20 := Int.mul_le_mul r3.2 r0.2 (by omega) (by omega)
    rw [mu_i (by omega) (by omega)]
    omega
  have I1 := InT_gets (x := z 3 * bs z b 1) hI b6
  have N1 : sN z (gets b (z 3 * bs z b 1) z) := sN_gets ⟨rfl, rfl⟩
  have I2 := InT_spil I1 (by rw [N1.1]; exact hb)
  have N2 : sN z (spil b (gets b (z 3 * bs z b 1) z)) := sN_spil N1
  have rg1 := go_rg (I1.2.2.2.2.1 b (by rw [N1.1]; exact hb))
  have ro : rg (bs (gets b (z 3 * bs z b 1) z) b 4) 0 999 := I1.2.2.2.2.1 b (by rw [N1.1]; exact hb) 4 (by decide)
  have rgo : rg (goes (gets b (z 3 * bs z b 1) z) b) 0 100000 := by
    unfold rg at rg1 ro ⊢
    omega
  have b6' := hI.1.2
  refine k_of rfl ?_
  refine r_go 2 rfl ?_ ?_
  · (first | exact trivial | assumption | (simp (disch := omega) [ab_all, ab_nz, *]; done))
  refine r_cv rfl (by first | assumption | rfl | exact tg_b ht (by omega)) ((k_basinAt _ ht b6)) (by decide) ?_
  refine r_go 7 rfl ?_ ?_
  · (first | exact trivial | assumption | (simp (disch := omega) [ab_all, ab_nz, *]; done))
  rw [e0, e4]
  refine r_c rfl (by first | assumption | rfl | exact tg_b ht (by omega)) ((k_gainT ht hR hI hb rp)) (by decide) ?_
  rintro v i1 ⟨rfl, R1, f1⟩
  refine r_go 1 rfl ?_ ?_
  · (first | exact trivial | assumption | (simp (disch := omega) [ab_all, ab_nz, *]; done))
  refine r_c rfl (by first | assumption | rfl | exact tg_b ht (by omega)) ((k_spillT ht R1 I1 (by rw [N1.1]; exact hb))) (by decide) ?_
  rintro v i2 ⟨rfl, R2, f2⟩
  have t2 : i2 t 2 = nI (nB z) := by rw [R2.1.1, I2.1.1, N2.1]
  refine r_go 5 rfl ?_ ?_
  · (first | exact trivial | assumption | (simp (disch := omega) [ab_all, ab_nz, *]; done))
  rw [nI_add]
  refine r_cv rfl (by first | assumption | rfl | exact tg_b ht (by omega)) ((k_hasBN (b + 1) ht t2 (by omega) (by omega))) (by decide) ?_
  refine r_bE rfl (fun h31 => ?_) (fun h31 => ?_)
  · skip
    refine r_go 8 rfl ?_ ?_
    · (first | exact trivial | assumption | (simp (disch := omega) [ab_all, ab_nz, *]; done))
    refine r_ret rfl trivial ?_
    by_cases hz : b + 1 < nB z
    · first | exact absurd hz h31 | (refine ⟨rfl, ?_, frT_tr (frT_tr f1 f2) f3⟩; unfold flow pass; rw [if_pos (by rw [N2.1]; exact hz)]; exact R3)
    · first
       | exact absurd h31 hz
       | (refine ⟨rfl, ?_, frT_up (frT_tr f1 f2) (by omega)⟩
          unfold flow pass
          rw [if_neg (by rw [N2.1]; exact hz)]
          have r4 : rg (spil b (gets b (z 3 * bs z b 1) z) 4) 0 999999 := I2.2.2.2.1
          have e6 : i2 t 6 = spil b (gets b (z 3 * bs z b 1) z) 4 := R2.1.2.2.2.2.1
          unfold rg at r4 rgo
          rw [e6, mn_hl (by decide) (by rw [ad_i (by omega) (by omega)]; omega)]
          exact TwR_c R2 (by omega))
  · skip
    refine r_go 4 rfl ?_ ?_
    · (first | exact trivial | assumption | (simp (disch := omega) [ab_all, ab_nz, *]; done))
    rw [nI_add]
    refine r_cv rfl (by first | assumption | rfl | exact tg_b ht (by omega)) ((k_basinAt _ ht (by omega))) (by decide) ?_
    refine r_go 1 rfl ?_ ?_
    · (first | exact trivial | assumption | (simp (disch := omega) [ab_all, ab_nz, *]; done))
    refine r_c rfl (by first | assumption | rfl | exact tg_b ht (by omega)) ((k_gainT ht R2 I2 (by rw [N2.1]; exact h31) rgo)) (by decide) ?_
    rintro v i3 ⟨rfl, R3, f3⟩
    refine r_go 1 rfl ?_ ?_
    · (first | exact trivial | assumption | (simp (disch := omega) [ab_all, ab_nz, *]; done))
    refine r_ret rfl trivial ?_
    by_cases hz : b + 1 < nB z
    · first | exact absurd hz h31 | (refine ⟨rfl, ?_, frT_tr (frT_tr f1 f2) f3⟩; unfold flow pass; rw [if_pos (by rw [N2.1]; exact hz)]; exact R3)
    · first
       | exact absurd h31 hz
       | (refine ⟨rfl, ?_, frT_up (frT_tr f1 f2) (by omega)⟩
          unfold flow pass
          rw [if_neg (by rw [N2.1]; exact hz)]
          have r4 : rg (spil b (gets b (z 3 * bs z b 1) z) 4) 0 999999 := I2.2.2.2.1
          have e6 : i2 t 6 = spil b (gets b (z 3 * bs z b 1) z) 4 := R2.1.2.2.2.2.1
          unfold rg at r4 rgo
          rw [e6, mn_hl (by decide) (by rw [ad_i (by omega) (by omega)]; omega)]
          exact TwR_c R2 (by omega))
