/-! whose vote alone would change -/
def k4 (s z : Vc) : Prop := ∀ d, d < 12 → z (50 + 8 * d + 4) = s (50 + 8 * d + 4)
theorem k4_rf {s : Vc} : k4 s s := fun _ _ => rfl
theorem k4_tr {s z y : Vc} (h1 : k4 s z) (h2 : k4 z y) : k4 s y := fun d hd => (h2 d hd).trans (h1 d hd)
theorem k4_up {s z : Vc} {k : Nat} {x : Int32} (h : k4 s z) (hk : ∀ d, d < 12 → 50 + 8 * d + 4 ≠ k) : k4 s (upd z k x) := fun d hd => by rw [pk_un (hk d hd)]; exact h d hd
theorem k4_gets {s z : Vc} {b : Nat} {x : Int32} (h : k4 s z) (hb : b < 6) : k4 s (gets b x z) := k4_up h (fun d hd => by omega)
theorem k4_pass {s z : Vc} {b : Nat} {x : Int32} (h : k4 s z) (hz : nB z ≤ 6) : k4 s (pass b x z) := by
  unfold pass
  split
  · exact k4_gets h (by omega)
  · exact k4_up h (fun d hd => by omega)
theorem k4_flow {s z : Vc} {b : Nat} (h : k4 s z) (hb : b < 6) (hz : nB z ≤ 6) : k4 s (flow b z) := by
  refine k4_pass (k4_up (k4_gets h hb) (fun d hd => by omega)) ?_
  show nB (spil b (gets b (z 3 * bs z b 1) z)) ≤ 6
  rw [(sN_spil (s := z) (sN_gets ⟨rfl, rfl⟩)).1]
  exact hz
theorem k4_hour {s : Vc} {mb : Nat} {mw : Int32} (h : InT s) : k4 s (hour mb mw s) := by
  have h1 := In_weirs (mb := mb) (mw := mw) h
  have h2 := In_flows h1.1
  have b6 := h.1.2
  have d12 := h.2.1.2
  have k1 : k4 s (weirs mb mw s) := lp_inv (P := fun z => k4 s z) k4_rf (fun b hb z hz => k4_up hz (fun d hd => by omega))
  have k2 : InT (flows (weirs mb mw s)) ∧ sN s (flows (weirs mb mw s)) ∧ k4 s (flows (weirs mb mw s)) := by
    refine lp_inv (P := fun z => InT z ∧ sN s z ∧ k4 s z) ⟨h1.1, h1.2, k1⟩ (fun b hb z hz => ?_)
    rw [h1.2.1] at hb
    have h3 := In_flow (s := s) hz.1 (by rw [hz.2.1.1]; exact hb) hz.2.1
    exact ⟨h3.1, h3.2, k4_flow hz.2.2 (by omega) hz.1.1.2⟩
  have k3 : k4 s (sufs (flows (weirs mb mw s))) := by
    refine lp_inv (P := fun z => k4 s z) k2.2.2 (fun d hd z hz => ?_)
    rw [k2.2.1.2] at hd
    exact k4_up (k4_up hz (fun e he => by omega)) (fun e he => by omega)
  exact k4_up k3 (fun d hd => by omega)
theorem k4_pN {n : Nat} {s : Vc} (h : InT s) : k4 s (pN 0 n s) := by
  induction n with
  | zero => exact k4_rf
  | succ n ih =>
    show k4 s (hour 6 (nI 0) (if 0 = 0 then pN 0 n s else drawR (pN 0 n s)))
    rw [if_pos rfl]
    exact k4_tr ih (k4_hour (In_pN h).1)
def pbz (n d : Nat) (v : Int32) (s : Vc) : Vc := pN 0 (n - 1) (upd (hour 6 (nI 0) (upd s (50 + 8 * d + 4) v)) (50 + 8 * d + 4) (dr s d 4))
theorem pain_b4 {z : Vc} {d : Nat} {x : Int32} (hd : d < 12) (hX : InX z 1) : pain (upd z (50 + 8 * d + 4) x) d = pain z d := by
  have ht : txt (upd z (50 + 8 * d + 4) x) 1 = txt z 1 := (txt_eq (by decide) (fun k a b => pk_un (by omega)) hX.2.1).2
  have hn : nm1 (upd z (50 + 8 * d + 4) x) d = nm1 z d := by
    funext c
    unfold nm1
    rw [dr_up (by omega), dr_up (by omega), dr_up (by omega)]
  unfold pain
  rw [pk_un (by omega), ht, hn, dr_up (by omega), dr_up (by omega)]
theorem In_b4 {s : Vc} {d : Nat} {v : Int32} (h : InT s) (hd : d < 12) (hv : rg v (-1) 2) : InT (upd s (50 + 8 * d + 4) v) ∧ sN s (upd s (50 + 8 * d + 4) v) ∧ rt s (upd s (50 + 8 * d + 4) v) :=
  ⟨InT_D h hd (by decide) (by decide) hv, sN_up ⟨rfl, rfl⟩ (by omega), rt_up rt_rf (by omega)⟩
theorem pi_loop {d n : Nat} {v : Int32} {s : Vc} {i0 : ab_I} (hI : InT s) (hX : InXs s) (hL0 : LwsR s i0) (hd : d < nD s) (hn : n ≤ 12) (hn1 : 1 ≤ n) (hv : rg v (-1) 2) (mm h : Nat) (y : Vc) (i : ab_I) (hmm : n - h < mm) (hh : h ≤ n) (hR : TwR (tr 1) y i) (hy : InT y ∧ sN s y ∧ rt s y) (he : (h = 0 ∧ y = s) ∨ (1 ≤ h ∧ upd y (50 + 8 * d + 4) (dr s d 4) = pN 0 (h - 1) (upd (hour 6 (nI 0) (upd s (50 + 8 * d + 4) v)) (50 + 8 * d + 4) (dr s d 4)))) (hi : frT (tr 1) i0 i) : ab_R 5 tb_X3_painIfBought 25 [some (.ref 72), none, some (.int v), some (.int (nI n)), some (.ref (tr 1)), some (.ref (tr 1 + 9 + d)), some (.int (dr s d 4)), some (.int (nI h))] [] i (fun w i' => w = some (.int (pain (pbz n d v s) d)) ∧ frT (tr 1) i0 i') := by
  induction mm generalizing h y i with
  | zero => exact absurd hmm (by omega)
  | succ mm ih =>
    have d12 : d < 12 := by have := hI.2.1.2; omega
    have hX1 := InXs_rt hX hy.2.2
    have gd := tg_d (isT_tr (show 1 < 6 by decide)) d12
    have w4 : rg (dr s d 4) (-1) 2 := (hI.2.2.2.2.2 d hd).2 4 (by decide) (by decide)
    have htr : 74 ≤ tr 1 ∧ tr 1 ≤ 179 := by decide
    refine r_go 2 rfl ?_ ?_
    · (first | exact trivial | assumption | (simp (disch := omega) [ab_all, ab_nz, *]; done))
    refine r_le rfl (fun h28 => ?_) (fun h28 => ?_)
    · skip
      have e : h = n := by clear hR hy he hi hI hX hL0 hX1 w4; (simp (disch := omega) only [Int32.le_iff_toInt_le, Int32.lt_iff_toInt_lt, c_i, m1_i, m5_i, m33_i] at * <;> omega)
      subst e
      refine r_go 3 rfl ?_ ?_
      · exact ⟨rfl, by decide⟩
      rw [gr_72_2]
      refine r_c rfl (by first | exact gd | exact tg_t (isT_tr (by decide))) ((k_pain (isT_tr (by decide)) hR hy.1 (by rw [hy.2.1.2]; exact hd) (LwsR_rt hL0 hX hy.2.2 (fun q hq => hi q (by omega) (by omega) (by omega))) hX1)) (by decide) ?_
      rintro w i2 ⟨rfl, f2⟩
      refine r_ret rfl trivial ?_
      refine ⟨?_, frT_tr hi (fun q a b c => f2 q c)⟩
      rcases he with ⟨q, _⟩ | ⟨_, q⟩
      · omega
      · unfold pbz
        rw [← q, pain_b4 d12 hX1.2]
    · skip
      have hhl : h < n := by clear hR hy he hi hI hX hL0 hX1 w4; (simp (disch := omega) only [Int32.le_iff_toInt_le, Int32.lt_iff_toInt_lt, c_i, m1_i, m5_i, m33_i] at * <;> omega)
      refine r_go 2 rfl ?_ ?_
      · (first | exact trivial | assumption | (simp (disch := omega) [ab_all, ab_nz, *]; done))
      refine r_ne rfl (fun h35 => ?_) (fun h35 => ?_)
      · skip
        refine r_go 7 rfl ?_ ?_
        · exact ⟨⟨rfl, by decide⟩, gd⟩
        rw [gr_72_1]
        refine r_c rfl (by first | exact gd | exact tg_t (isT_tr (by decide))) ((k_hr (nI 2) (isT_tr (by decide)) (In_b4 hy.1 d12 (by first | exact hv | exact w4)).1 (InXs_rt hX1 (In_b4 hy.1 d12 (by first | exact hv | exact w4)).2.2) (TwR_D hR hy.1.1.2 d12 (by decide)) (LwsR_rt hL0 hX (rt_tr hy.2.2 (In_b4 hy.1 d12 (by first | exact hv | exact w4)).2.2) (fun q hq => (up_row (by omega)).trans (hi q (by omega) (by omega) (by omega)))))) (by decide) ?_
        rintro w i2 ⟨rfl, R2, f2⟩
        refine r_go 2 rfl ?_ ?_
        · (first | exact trivial | assumption | (simp (disch := omega) [ab_all, ab_nz, *]; done))
        rw [nI_add]
        rw [nI_eq (by omega) (by decide)] at h35
        have hA : ∀ x, rg x (-1) 2 → InT (hour 6 (nI 0) (upd y (50 + 8 * d + 4) x)) ∧ sN s (hour 6 (nI 0) (upd y (50 + 8 * d + 4) x)) ∧ rt s (hour 6 (nI 0) (upd y (50 + 8 * d + 4) x)) := fun x hx => by
            have q := In_b4 hy.1 d12 hx
            exact ⟨(In_hour q.1).1, sN_tr hy.2.1 (sN_tr q.2.1 (In_hour q.1).2), rt_tr hy.2.2 (rt_tr q.2.2 (rt_kp (kp_hour q.1)))⟩
        have fr : frT (tr 1) i0 i2 := frT_tr hi (frT_tr (frT_up frT_rf (by omega)) f2)
        first | (subst h35; refine r_lk (ih 1 _ i2 (by omega) (by omega) R2 (hA v hv) (Or.inr ⟨Nat.le_refl _, ?_⟩) fr) rfl; rcases he with ⟨_, rfl⟩ | ⟨q, _⟩; exact rfl; exact absurd q (by decide)) | (refine r_lk (ih (h + 1) _ i2 (by omega) (by omega) R2 (hA _ w4) (Or.inr ⟨by omega, ?_⟩) fr) rfl; rcases he with ⟨q, _⟩ | ⟨_, q⟩; exact absurd q h35; rw [q, Nat.add_sub_cancel]; obtain ⟨g, rfl⟩ := pos_s h35; have e5 : hour 6 (nI 0) (pN 0 (g + 1 - 1) (upd (hour 6 (nI 0) (upd s (50 + 8 * d + 4) v)) (50 + 8 * d + 4) (dr s d 4))) = pN 0 (g + 1) (upd (hour 6 (nI 0) (upd s (50 + 8 * d + 4) v)) (50 + 8 * d + 4) (dr s d 4)) := (by rw [Nat.add_sub_cancel]; exact (congrArg (hour 6 (nI 0)) (if_pos rfl).symm)); rw [e5]; refine up_same ?_; rw [k4_pN (In_b4 (In_hour (In_b4 hI d12 hv).1).1 d12 w4).1 d d12, pk_us])
      · skip
        refine r_go 8 rfl ?_ ?_
        · exact ⟨⟨rfl, by decide⟩, gd⟩
        rw [gr_72_1]
        refine r_c rfl (by first | exact gd | exact tg_t (isT_tr (by decide))) ((k_hr (nI 2) (isT_tr (by decide)) (In_b4 hy.1 d12 (by first | exact hv | exact w4)).1 (InXs_rt hX1 (In_b4 hy.1 d12 (by first | exact hv | exact w4)).2.2) (TwR_D hR hy.1.1.2 d12 (by decide)) (LwsR_rt hL0 hX (rt_tr hy.2.2 (In_b4 hy.1 d12 (by first | exact hv | exact w4)).2.2) (fun q hq => (up_row (by omega)).trans (hi q (by omega) (by omega) (by omega)))))) (by decide) ?_
        rintro w i2 ⟨rfl, R2, f2⟩
        refine r_go 2 rfl ?_ ?_
        · (first | exact trivial | assumption | (simp (disch := omega) [ab_all, ab_nz, *]; done))
        rw [nI_add]
        rw [nI_eq (by omega) (by decide)] at h35
        have hA : ∀ x, rg x (-1) 2 → InT (hour 6 (nI 0) (upd y (50 + 8 * d + 4) x)) ∧ sN s (hour 6 (nI 0) (upd y (50 + 8 * d + 4) x)) ∧ rt s (hour 6 (nI 0) (upd y (50 + 8 * d + 4) x)) := fun x hx => by
            have q := In_b4 hy.1 d12 hx
            exact ⟨(In_hour q.1).1, sN_tr hy.2.1 (sN_tr q.2.1 (In_hour q.1).2), rt_tr hy.2.2 (rt_tr q.2.2 (rt_kp (kp_hour q.1)))⟩
        have fr : frT (tr 1) i0 i2 := frT_tr hi (frT_tr (frT_up frT_rf (by omega)) f2)
        first | (subst h35; refine r_lk (ih 1 _ i2 (by omega) (by omega) R2 (hA v hv) (Or.inr ⟨Nat.le_refl _, ?_⟩) fr) rfl; rcases he with ⟨_, rfl⟩ | ⟨q, _⟩; exact rfl; exact absurd q (by decide)) | (refine r_lk (ih (h + 1) _ i2 (by omega) (by omega) R2 (hA _ w4) (Or.inr ⟨by omega, ?_⟩) fr) rfl; rcases he with ⟨q, _⟩ | ⟨_, q⟩; exact absurd q h35; rw [q, Nat.add_sub_cancel]; obtain ⟨g, rfl⟩ := pos_s h35; have e5 : hour 6 (nI 0) (pN 0 (g + 1 - 1) (upd (hour 6 (nI 0) (upd s (50 + 8 * d + 4) v)) (50 + 8 * d + 4) (dr s d 4))) = pN 0 (g + 1) (upd (hour 6 (nI 0) (upd s (50 + 8 * d + 4) v)) (50 + 8 * d + 4) (dr s d 4)) := (by rw [Nat.add_sub_cancel]; exact (congrArg (hour 6 (nI 0)) (if_pos rfl).symm)); rw [e5]; refine up_same ?_; rw [k4_pN (In_b4 (In_hour (In_b4 hI d12 hv).1).1 d12 w4).1 d d12, pk_us])
theorem k_pib {s : Vc} {i : ab_I} (hI : InT s) (hX : InXs s) (hT : TwR 2 s i) (hL : LwsR s i) (d n : Nat) (v : Int32) (hd : d < nD s) (hn : n ≤ 12) (hn1 : 1 ≤ n) (hv : rg v (-1) 2) : ab_K 5 52 [.ref 72, .int (nI d), .int v, .int (nI n)] i (fun w i' => w = some (.int (pain (pbz n d v s) d)) ∧ frT (tr 1) i i') := by
  have d12 : d < 12 := by have := hI.2.1.2; omega
  have htr : 74 ≤ tr 1 ∧ tr 1 ≤ 179 := by decide
  refine k_of rfl ?_
  refine r_go 2 rfl ?_ ?_
  · (first | exact trivial | assumption | (simp (disch := omega) [ab_all, ab_nz, *]; done))
  refine r_c rfl (by first | rfl | exact tg_t (isT_tr (by decide))) ((k_fresh 1 (by decide) hI hT)) (by decide) ?_
  rintro w i1 ⟨rfl, R1, f1⟩
  have f1' : frT (tr 1) i i1 := fun q a _ _ => f1 q a
  refine r_go 3 rfl ?_ ?_
  · (first | exact trivial | assumption | (simp (disch := omega) [ab_all, ab_nz, *]; done))
  refine r_cv rfl (by first | rfl | exact tg_t (isT_tr (by decide))) ((k_doorAt d (isT_tr (by decide)) d12)) (by decide) ?_
  refine r_go 6 rfl ?_ ?_
  · exact tg_d (isT_tr (by decide)) d12
  rw [show i1 (tr 1 + 9 + d) 4 = dr s d 4 from R1.2.2 d hd 4 (by decide)]
  refine r_mono (r_lk (pi_loop (i0 := i1) hI hX (LwsR_rt hL hX rt_rf (fun q hq => f1 q (by omega))) hd hn hn1 hv (n + 1) 0 s i1 (by omega) (by omega) R1 ⟨hI, ⟨rfl, rfl⟩, rt_rf⟩ (Or.inl ⟨rfl, rfl⟩) frT_rf) rfl) ?_
  rintro w j ⟨rfl, h⟩
  exact ⟨rfl, frT_tr f1' h⟩
def gb (n d : Nat) (s : Vc) (v x : Int32) : Int32 := if pain (pbz n d v s) d < pain (pN 0 n s) d then x ||| (nI 1 <<< (nI d &&& 31)) else x
def chg (n : Nat) (s : Vc) : Nat → Int32
  | 0 => nI 0
  | d + 1 => gb n d s (nI 1) (gb n d s (nI 0) (gb n d s (-1) (chg n s d)))
def S_changes (n : Int32) (m : ab_I) : Int32 × ab_I := if nI 1 ≤ n ∧ n ≤ nI 12 then (chg n.toNatClampNeg (m 219) (nD (m 219)), m) else er m 1
theorem cg_step {d n : Nat} {x v : Int32} {s : Vc} {i : ab_I} {Q : Option Value → ab_I → Prop} (hI : InT s) (hX : InXs s) (hT : TwR 2 s i) (hL : LwsR s i) (hd : d < nD s) (hn : n ≤ 12) (hn1 : 1 ≤ n) (hv : rg v (-1) 1) (K : ∀ j, frT (tr 1) i j → ab_R 6 tb_X3_doorsThatGain 41 [some (.ref 72), some (.int (nI n)), some (.int (gb n d s v x)), some (.ref (tr 0)), some (.int (nI d)), some (.int (pain (pN 0 n s) d)), some (.int (v + nI 1))] [] j Q) : ab_R 6 tb_X3_doorsThatGain 41 [some (.ref 72), some (.int (nI n)), some (.int x), some (.ref (tr 0)), some (.int (nI d)), some (.int (pain (pN 0 n s) d)), some (.int v)] [] i Q := by
  refine r_go 2 rfl ?_ ?_
  · (first | exact trivial | assumption | (simp (disch := omega) [ab_all, ab_nz, *]; done))
  refine r_brF rfl (fun h => by clear K hT hL hI hX; unfold rg at hv; (simp (disch := omega) only [Int32.le_iff_toInt_le, Int32.lt_iff_toInt_lt, c_i, m1_i, m5_i, m33_i] at * <;> omega)) ?_
  refine r_go 4 rfl ?_ ?_
  · (first | exact trivial | assumption | (simp (disch := omega) [ab_all, ab_nz, *]; done))
  refine r_c rfl rfl ((k_pib hI hX hT hL d n v hd hn hn1 (by unfold rg at hv ⊢; omega))) (by decide) ?_
  rintro w i1 ⟨rfl, f1⟩
  refine r_go 1 rfl ?_ ?_
  · (first | exact trivial | assumption | (simp (disch := omega) [ab_all, ab_nz, *]; done))
  refine r_le rfl (fun h58 => ?_) (fun h58 => ?_)
  · skip
    refine r_go 2 rfl ?_ ?_
    · (first | exact trivial | assumption | (simp (disch := omega) [ab_all, ab_nz, *]; done))
    have k := K i1 f1
    unfold gb at k
    first | rw [if_pos h58] at k | rw [if_neg h58] at k
    exact k
  · skip
    refine r_go 8 rfl ?_ ?_
    · (first | exact trivial | assumption | (simp (disch := omega) [ab_all, ab_nz, *]; done))
    have k := K i1 f1
    unfold gb at k
    first | rw [if_pos h58] at k | rw [if_neg h58] at k
    exact k
theorem cg_loop {n : Nat} {s : Vc} {i0 : ab_I} (hI : InT s) (hX : InXs s) (hT0 : TwR 2 s i0) (hL0 : LwsR s i0) (hn : n ≤ 12) (hn1 : 1 ≤ n) (mm d : Nat) (i : ab_I) (hmm : nD s - d < mm) (hd : d ≤ nD s) (hR : TwR (tr 0) (pN 0 n s) i) (hi : ol i0 i) : ab_R 6 tb_X3_doorsThatGain 11 [some (.ref 72), some (.int (nI n)), some (.int (chg n s d)), some (.ref (tr 0)), some (.int (nI d)), none, none] [] i (fun w i' => w = some (.int (chg n s (nD s))) ∧ ol i0 i') := by
  induction mm generalizing d i with
  | zero => exact absurd hmm (by omega)
  | succ mm ih =>
    have d12 := hI.2.1.2
    have hP := In_pN (w := 0) (n := n) hI
    have hX1 := InXs_rt hX hP.2.2
    have hT1 := ol_T hT0 hI hi
    have hL1 := ol_L hL0 hX hi
    have t3 : i 2 3 = nI (nD s) := hT1.1.2.1.trans hI.2.1.1
    refine r_go 4 rfl ?_ ?_
    · exact ⟨rfl, rfl, by decide⟩
    rw [gr_72_0, t3]
    refine r_le rfl (fun h20 => ?_) (fun h20 => ?_)
    · skip
      refine r_go 1 rfl ?_ ?_
      · (first | exact trivial | assumption | (simp (disch := omega) [ab_all, ab_nz, *]; done))
      refine r_ret rfl trivial ?_
      have e : d = nD s := by clear hR hi hI hX hL0 hT0 hP hX1 hT1 hL1 t3; (simp (disch := omega) only [Int32.le_iff_toInt_le, Int32.lt_iff_toInt_lt, c_i, m1_i, m5_i, m33_i] at * <;> omega)
      subst e
      exact ⟨rfl, hi⟩
    · skip
      have hdl : d < nD s := by clear hR hi hI hX hL0 hT0 hP hX1 hT1 hL1 t3; (simp (disch := omega) only [Int32.le_iff_toInt_le, Int32.lt_iff_toInt_lt, c_i, m1_i, m5_i, m33_i] at * <;> omega)
      refine r_go 2 rfl ?_ ?_
      · (first | exact trivial | assumption | (simp (disch := omega) [ab_all, ab_nz, *]; done))
      refine r_cv rfl (by first | rfl | exact tg_t (isT_tr (by decide)) | exact tg_d (isT_tr (by decide)) (by omega)) ((k_doorAt d (isT_tr (by decide)) (by omega))) (by decide) ?_
      refine r_go 2 rfl ?_ ?_
      · exact ⟨rfl, by decide⟩
      rw [gr_72_2]
      refine r_c rfl (by first | rfl | exact tg_t (isT_tr (by decide)) | exact tg_d (isT_tr (by decide)) (by omega)) ((k_pain (isT_tr (by decide)) hR hP.1 (by rw [hP.2.1.2]; exact hdl) (LwsR_rt hL1 hX hP.2.2 (fun _ _ => rfl)) hX1)) (by decide) ?_
      rintro w i1 ⟨rfl, f1⟩
      have s1 : ol i i1 := ol_sl (fun q _ b => f1 q b)
      have a1 : TwR (tr 0) (pN 0 n s) i1 := TwR_far hR hP.1.1.2 hP.1.2.1.2 (fun q a b => f1 q (by unfold tr at a; omega))
      refine r_go 3 rfl ?_ ?_
      · (first | exact trivial | assumption | (simp (disch := omega) [ab_all, ab_nz, *]; done))
      have tb : ∀ {a b : ab_I}, TwR (tr 0) (pN 0 n s) a → frT (tr 1) a b → TwR (tr 0) (pN 0 n s) b := fun h f => TwR_far h hP.1.1.2 hP.1.2.1.2 (fun q a b => f q (by unfold tr at *; omega) (by unfold tr at a; omega) (by unfold tr at a; omega))
      have h1 : 74 ≤ tr 1 ∧ tr 1 ≤ 179 := by decide
      refine r_lk (cg_step (v := -1) hI hX (ol_T hT1 hI s1) (ol_L hL1 hX s1) hdl hn hn1 (by unfold rg; decide) (fun i2 f2 => ?_)) rfl
      have s2 := ol_tr s1 (ol_frT f2 h1)
      have a2 := tb a1 f2
      refine r_lk (cg_step (v := nI 0) hI hX (ol_T hT1 hI s2) (ol_L hL1 hX s2) hdl hn hn1 (by unfold rg; decide) (fun i3 f3 => ?_)) rfl
      have s3 := ol_tr s2 (ol_frT f3 h1)
      have a3 := tb a2 f3
      refine r_lk (cg_step (v := nI 1) hI hX (ol_T hT1 hI s3) (ol_L hL1 hX s3) hdl hn hn1 (by unfold rg; decide) (fun i4 f4 => ?_)) rfl
      have s4 := ol_tr s3 (ol_frT f4 h1)
      have a4 := tb a3 f4
      refine r_go 2 rfl ?_ ?_
      · exact trivial
      refine r_brT rfl (by decide) ?_
      refine r_go 2 rfl ?_ ?_
      · exact trivial
      rw [nI_add]
      exact r_lk (ih (d + 1) i4 (by omega) (by omega) a4 (ol_tr hi s4)) rfl
theorem k_gain2 {s : Vc} {i : ab_I} (hI : InT s) (hX : InXs s) (hT : TwR 2 s i) (hL : LwsR s i) (n : Nat) (hn : n ≤ 12) (hn1 : 1 ≤ n) : ab_K 6 51 [.ref 72, .int (nI n)] i (fun w i' => w = some (.int (chg n s (nD s))) ∧ ol i i') := by
  refine k_of rfl ?_
  refine r_go 4 rfl ?_ ?_
  · (first | exact trivial | assumption | (simp (disch := omega) [ab_all, ab_nz, *]; done))
  refine r_c rfl rfl ((k_ahead hI hX hT hL n (by omega))) (by decide) ?_
  rintro w i1 ⟨rfl, R1, f1⟩
  refine r_go 3 rfl ?_ ?_
  · (first | exact trivial | assumption | (simp (disch := omega) [ab_all, ab_nz, *]; done))
  refine r_mono (r_lk (cg_loop (i0 := i1) hI hX (ol_T hT hI f1) (ol_L hL hX f1) hn hn1 (nD s + 1) 0 i1 (by omega) (by omega) R1 ol_rf) rfl) ?_
  rintro w j ⟨rfl, h⟩
  exact ⟨rfl, ol_tr f1 h⟩
theorem c_changes {i m : ab_I} (hC : ClsR i m) (hJ : InM m) (n : Int32) : ab_K 7 130 [.ref 0, .int n] i (clQ i (S_changes n m)) := by
  (have hI := hJ.1.1; have hX := InS_X hJ.1; have hT := hC.1.1; have hLw : LwsR (m 219) i := ⟨hC.1.2.1, hC.1.2.2.1⟩; have hE := hC.2.2.2.2.1.1)
  refine k_of rfl ?_
  refine r_go 3 rfl ?_ ?_
  · (first | exact trivial | (simp only [ab_all] <;> decide))
  refine r_cv rfl trivial ((k_within _ _ _)) (by decide) ?_
  refine r_bN rfl (fun h7 => ?_) (fun h7 => ?_)
  · skip
    refine r_go 3 rfl ?_ ?_
    · (first | exact trivial | (simp only [ab_all] <;> decide))
    have hP : S_changes n m = (chg n.toNatClampNeg (m 219) (nD (m 219)), m) := if_pos h7
    obtain ⟨N, hN1, hN, rfl⟩ := of_bt1 (by decide) h7
    rw [nI_cl (by omega)] at hP
    simp only [gr_0_0, gr_0_1, gr_0_3, gr_0_4, gr_0_5, gr_0_6, gr_0_7, gr_1_0, gr_1_1, gr_1_2, gr_1_3, gr_1_4, gr_35_0, gr_35_1, gr_35_2, gr_35_3, gr_35_4]
    refine r_c rfl rfl ((k_gain2 hI hX hT hLw N hN hN1)) (by decide) ?_
    rintro w i1 ⟨rfl, f1⟩
    refine r_ret rfl trivial ?_
    exact cl_to hP (cl_ol hJ hC f1)
  · skip
    refine r_go 2 rfl ?_ ?_
    · (first | exact trivial | (simp only [ab_all] <;> decide))
    refine r_cv rfl rfl ((k_error 1 (by decide) (by decide) hE)) (by decide) ?_
    refine r_ret rfl trivial ?_
    exact cl_to (if_neg h7) (cl_er (by decide) (by decide) hJ hC)
theorem n_changes {m : ab_I} (hJ : InM m) (n : Int32) : InM (S_changes n m).2 := by
  unfold S_changes
  split
  · exact hJ
  · exact InM_er hJ
theorem m_pBought {i : ab_I} {s : Vc} (hs : i 219 = s) (hI : InT s) (hX : InXs s) (h13 : i 218 13 = (-1)) (n d : Nat) (v : Int32) (hn : n ≤ 12) (hn1 : 1 ≤ n) (hd : d < nD s) (hv : rg v (-1) 2) : ab_K 9 219 [.ref 218, .int (nI n), .int (nI d), .int v] i (fun w i' => w = some (.int (pain (pbz n d v s) d)) ∧ i' 219 = s ∧ i' 218 13 = (-1) ∧ fo i i') := by
  have d12 : d < 12 := by have := hI.2.1.2; omega
  have e0 : nI 50 + nI 8 * nI d + nI 4 = nI (50 + 8 * d + 4) := by rw [pk_mul, nI_add, nI_add]
  have hw : rg (dr s d 4) (-1) 2 := (hI.2.2.2.2.2 d hd).2 4 (by decide) (by decide)
  have q1 := In_b4 hI d12 hv
  have q2 := In_hour (mb := 6) (mw := nI 0) q1.1
  have q3 := In_b4 q2.1 d12 hw
  have q4 := In_pN (w := 0) (n := n - 1) q3.1
  have r4 : rt s (pbz n d v s) := rt_tr (rt_tr q1.2.2 (rt_kp (kp_hour q1.1))) (rt_tr q3.2.2 q4.2.2)
  have s4 : sN s (pbz n d v s) := sN_tr (sN_tr q1.2.1 q2.2) (sN_tr q3.2.1 q4.2.1)
  refine k_of rfl ?_
  refine r_go 4 rfl ?_ ?_
  · (simp only [ab_all, gr_218_0, gr_218_2] <;> decide)
  rw [gr_218_0, gr_218_2]
  refine r_cn rfl trivial ((m_carry gt_219 gt_221 (by decide))) (by decide) ?_
  refine r_go 8 rfl ?_ ?_
  · (first | exact trivial | assumption | (simp (disch := omega) [ab_all, ab_nz, *]; done))
  rw [e0]
  have s1 : ab_row i 221 (cy (i 219) (i 221)) 219 = s := (funext (fun b => ab_row_ne (by decide))).trans hs
  have t1 : ab_row i 221 (cy (i 219) (i 221)) 218 13 = (-1) := (ab_row_ne (by decide)).trans h13
  have p1 : ab_row i 221 (cy (i 219) (i 221)) 221 = cy s (i 221) := by rw [row_s, hs]
  have f1 : fo i (ab_row i 221 (cy (i 219) (i 221))) := fo_r1
  generalize ab_row i 221 (cy (i 219) (i 221)) = j at s1 t1 p1 f1
  refine r_go 11 rfl ?_ ?_
  · (simp only [ab_all, gr_218_0, nI_add]; repeat' (first | exact ix_219 (by omega) | rfl | decide | (unfold ab_nz; decide) | refine And.intro ?_ ?_))
  rw [gr_218_0, nI_cl (by omega), s1, up_rowI s1]
  refine r_c rfl rfl ((m_hr row_s q1.1 (InXs_rt hX q1.2.2) ((ab_row_ne (by decide)).trans t1))) (by decide) ?_
  rintro w i2 ⟨rfl, s2, f2⟩
  refine r_go 9 rfl ?_ ?_
  · (simp only [ab_all, gr_218_0, nI_add]; repeat' (first | exact ix_219 (by omega) | rfl | decide | (unfold ab_nz; decide) | refine And.intro ?_ ?_))
  rw [gr_218_0, nI_cl (by omega), up_rowI s2, pk_sub hn1]
  refine r_c rfl rfl ((m_go (n - 1) (by omega) row_s q3.1 (InXs_rt hX (rt_tr (rt_tr q1.2.2 (rt_kp (kp_hour q1.1))) q3.2.2)) ((ab_row_ne (by decide)).trans ((congrFun (f2 218 (by decide) (by decide) (by decide) (by decide)) 13).trans ((ab_row_ne (by decide)).trans t1))))) (by decide) ?_
  rintro w i3 ⟨rfl, s3, f3⟩
  have s3' : i3 219 = pbz n d v s := s3
  refine r_go 2 rfl ?_ ?_
  · (first | exact trivial | assumption | (simp (disch := omega) [ab_all, ab_nz, *]; done))
  refine r_c rfl rfl ((m_pain d s3' q4.1 (InXs_rt hX r4) (by rw [show nD (pbz n d v s) = nD s from s4.2]; exact hd))) (by decide) ?_
  rintro w i4 ⟨rfl, f4⟩
  refine r_go 5 rfl ?_ ?_
  · (simp only [ab_all, gr_218_0, gr_218_2] <;> decide)
  rw [gr_218_0, gr_218_2]
  refine r_cn rfl trivial ((m_carry gt_221 gt_219 (by decide))) (by decide) ?_
  refine r_go 1 rfl ?_ ?_
  · (first | exact trivial | assumption | (simp (disch := omega) [ab_all, ab_nz, *]; done))
  refine r_ret rfl trivial ?_
  have p4 : i4 221 = cy s (i 221) := by
      rw [f4 221 (by decide) (by decide), f3 221 (by decide) (by decide) (by decide) (by decide)]
      refine (funext (fun b => ab_row_ne (by decide))).trans ?_
      rw [f2 221 (by decide) (by decide) (by decide) (by decide)]
      refine (funext (fun b => ab_row_ne (by decide))).trans p1
  refine ⟨rfl, ?_, ?_, fo_tr f1 (fo_tr (fo_tr (fo_tr (fo_tr (fo_tr fo_r9 (fo_fh f2)) fo_r9) (fo_fh f3)) (fo_sr f4)) fo_r9)⟩
  · rw [row_s, p4, f4 219 (by decide) (by decide), s3']
    exact cy_back (rt_480 r4)
  · rw [ab_row_ne (by decide), f4 218 (by decide) (by decide), f3 218 (by decide) (by decide) (by decide) (by decide), ab_row_ne (by decide), f2 218 (by decide) (by decide) (by decide) (by decide), ab_row_ne (by decide)]
    exact t1
theorem mcg_step {d n : Nat} {x v : Int32} {s : Vc} {i : ab_I} {Q : Option Value → ab_I → Prop} (hs : i 219 = s) (hI : InT s) (hX : InXs s) (h13 : i 218 13 = (-1)) (hd : d < nD s) (hn : n ≤ 12) (hn1 : 1 ≤ n) (hv : rg v (-1) 1) (K : ∀ j, j 219 = s → j 218 13 = (-1) → fo i j → ab_R 10 tb_X11_changes 43 [some (.ref 218), some (.int (nI n)), some (.int (gb n d s v x)), some (.int (nI d)), some (.int (pain (pN 0 n s) d)), some (.int (v + nI 1))] [] j Q) : ab_R 10 tb_X11_changes 43 [some (.ref 218), some (.int (nI n)), some (.int x), some (.int (nI d)), some (.int (pain (pN 0 n s) d)), some (.int v)] [] i Q := by
  refine r_go 2 rfl ?_ ?_
  · (first | exact trivial | assumption | (simp (disch := omega) [ab_all, ab_nz, *]; done))
  refine r_brF rfl (fun h => by clear K hs h13 hI hX; unfold rg at hv; (simp (disch := omega) only [Int32.le_iff_toInt_le, Int32.lt_iff_toInt_lt, c_i, m1_i, m5_i, m33_i] at * <;> omega)) ?_
  refine r_go 5 rfl ?_ ?_
  · (first | exact trivial | assumption | (simp (disch := omega) [ab_all, ab_nz, *]; done))
  refine r_c rfl rfl ((m_pBought hs hI hX h13 n d v hn hn1 hd (by unfold rg at hv ⊢; omega))) (by decide) ?_
  rintro w i1 ⟨rfl, s1, t1, f1⟩
  refine r_go 1 rfl ?_ ?_
  · (first | exact trivial | assumption | (simp (disch := omega) [ab_all, ab_nz, *]; done))
  refine r_le rfl (fun h60 => ?_) (fun h60 => ?_)
  · skip
    refine r_go 5 rfl ?_ ?_
    · (first | exact trivial | assumption | (simp (disch := omega) [ab_all, ab_nz, *]; done))
    have k := K i1 s1 t1 f1
    unfold gb at k
    first | (rw [if_pos h60] at k; exact k) | (rw [if_neg h60] at k; rw [show x ||| nI 0 = x from Int32.or_zero]; exact k)
  · skip
    refine r_go 8 rfl ?_ ?_
    · (first | exact trivial | assumption | (simp (disch := omega) [ab_all, ab_nz, *]; done))
    have k := K i1 s1 t1 f1
    unfold gb at k
    first | (rw [if_pos h60] at k; exact k) | (rw [if_neg h60] at k; rw [show x ||| nI 0 = x from Int32.or_zero]; exact k)
theorem mcg_loop {n : Nat} {s : Vc} {i0 : ab_I} (hI : InT s) (hX : InXs s) (hn : n ≤ 12) (hn1 : 1 ≤ n) (mm d : Nat) (i : ab_I) (hmm : nD s - d < mm) (hd : d ≤ nD s) (hs : i 219 = s) (h13 : i 218 13 = (-1)) (hi : fo i0 i) : ab_R 10 tb_X11_changes 20 [some (.ref 218), some (.int (nI n)), some (.int (chg n s d)), some (.int (nI d)), none, none] [] i (fun w i' => w = some (.int (chg n s (nD s))) ∧ i' 219 = s ∧ i' 218 13 = (-1) ∧ fo i0 i') := by
  induction mm generalizing d i with
  | zero => exact absurd hmm (by omega)
  | succ mm ih =>
    have d12 := hI.2.1.2
    refine r_go 5 rfl ?_ ?_
    · (simp only [ab_all, gr_218_0, nI_add]; repeat' (first | exact ix_219 (by omega) | rfl | decide | (unfold ab_nz; decide) | refine And.intro ?_ ?_))
    rw [rowI hs, nI_cl (by decide), hI.2.1.1]
    refine r_le rfl (fun h27 => ?_) (fun h27 => ?_)
    · skip
      refine r_go 1 rfl ?_ ?_
      · (first | exact trivial | assumption | (simp (disch := omega) [ab_all, ab_nz, *]; done))
      refine r_ret rfl trivial ?_
      have e : d = nD s := by clear hi hI hX hs h13; (simp (disch := omega) only [Int32.le_iff_toInt_le, Int32.lt_iff_toInt_lt, c_i, m1_i, m5_i, m33_i] at * <;> omega)
      subst e
      exact ⟨rfl, hs, h13, hi⟩
    · skip
      have hdl : d < nD s := by clear hi hI hX hs h13; (simp (disch := omega) only [Int32.le_iff_toInt_le, Int32.lt_iff_toInt_lt, c_i, m1_i, m5_i, m33_i] at * <;> omega)
      refine r_go 4 rfl ?_ ?_
      · (first | exact trivial | assumption | (simp (disch := omega) [ab_all, ab_nz, *]; done))
      refine r_c rfl rfl ((m_thenOf hs hI hX h13 n d 9 (by omega) hdl (by decide))) (by decide) ?_
      rintro w i1 ⟨rfl, s1, t1, f1⟩
      refine r_go 3 rfl ?_ ?_
      · (first | exact trivial | assumption | (simp (disch := omega) [ab_all, ab_nz, *]; done))
      have e9 : toldDoor (pN 0 n s) d (nI 9) = pain (pN 0 n s) d := by
          unfold toldDoor
          rw [if_neg (by decide), if_pos rfl]
      rw [e9]
      refine r_lk (mcg_step (v := -1) s1 hI hX t1 hdl hn hn1 (by unfold rg; decide) (fun i2 s2 t2 f2 => ?_)) rfl
      refine r_lk (mcg_step (v := nI 0) s2 hI hX t2 hdl hn hn1 (by unfold rg; decide) (fun i3 s3 t3 f3 => ?_)) rfl
      refine r_lk (mcg_step (v := nI 1) s3 hI hX t3 hdl hn hn1 (by unfold rg; decide) (fun i4 s4 t4 f4 => ?_)) rfl
      refine r_go 2 rfl ?_ ?_
      · exact trivial
      refine r_brT rfl (by decide) ?_
      refine r_go 2 rfl ?_ ?_
      · exact trivial
      rw [nI_add]
      exact r_lk (ih (d + 1) i4 (by omega) (by omega) s4 t4 (fo_tr hi (fo_tr f1 (fo_tr f2 (fo_tr f3 f4))))) rfl
theorem m_changes {i m : ab_I} (hm : mo i m) (hJ : InM m) (h13 : i 218 13 = (-1)) (n : Int32) : ab_K 10 220 [.ref 218, .int n] i (rfQ i (S_changes n m)) := by
  (have hI := hJ.1.1; have hX := InS_X hJ.1; have hs := hm.1)
  refine k_of rfl ?_
  refine r_go 3 rfl ?_ ?_
  · (first | exact trivial | assumption | (simp (disch := omega) [ab_all, ab_nz, *]; done))
  refine r_cv rfl trivial ((m_in _ _ _)) (by decide) ?_
  refine r_bN rfl (fun h7 => ?_) (fun h7 => ?_)
  · skip
    have hP : S_changes n m = (chg n.toNatClampNeg (m 219) (nD (m 219)), m) := if_pos h7
    obtain ⟨N, hN1, hN, rfl⟩ := of_bt1 (by decide) h7
    rw [nI_cl (by omega)] at hP
    refine r_go 4 rfl ?_ ?_
    · (first | exact trivial | assumption | (simp (disch := omega) [ab_all, ab_nz, *]; done))
    refine r_mono (r_lk (mcg_loop (i0 := i) hI hX hN hN1 (nD (m 219) + 1) 0 i (by omega) (by omega) hs h13 fo_rf) rfl) ?_
    rintro w j ⟨rfl, s1, t1, f1⟩
    exact rf_to hP (rf_fo hm f1 s1 t1)
  · skip
    refine r_go 2 rfl ?_ ?_
    · (first | exact trivial | assumption | (simp (disch := omega) [ab_all, ab_nz, *]; done))
    refine r_cv rfl rfl ((m_error 1 (by decide))) (by decide) ?_
    refine r_ret rfl trivial ?_
    exact rf_to (if_neg h7) (rf_er hm h13)
