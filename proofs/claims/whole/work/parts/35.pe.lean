/-! check -/
abbrev good (s : Vc) (n k : Nat) : Prop := k < n ∧ k < nD s ∧ s (456 + k) = vote s k
def ckN (s : Vc) (n : Nat) : Nat → Nat → Nat
  | 0, j => j
  | f + 1, j => if good s n j then ckN s n f (j + 1) else j
def ck (s : Vc) (n : Nat) : Nat := ckN s n 25 0
theorem ck_eq {s : Vc} {n d : Nat} (hn : n ≤ 24) (h1 : ∀ k, k < d → good s n k) (h2 : ¬ good s n d) : ck s n = d := by
  have hd : d < 25 := by
    rcases Nat.lt_or_ge 24 d with z | z
    · have := (h1 24 z).1
      omega
    · omega
  have H : ∀ f j, j ≤ d → d < j + f → ckN s n f j = d := by
    intro f
    induction f with
    | zero => intro j a b; omega
    | succ f ih =>
      intro j a b
      unfold ckN
      by_cases e : j = d
      · subst e
        rw [if_neg h2]
      · rw [if_pos (h1 j (by omega))]
        exact ih (j + 1) (by omega) (by omega)
  exact H 25 0 (by omega) (by omega)
def ckV (s : Vc) (n : Nat) : Int32 := if ck s n = n ∧ ck s n = nD s then (-1) else nI (ck s n)
def ckA (s : Vc) (n : Nat) : Int32 := if ck s n = n ∧ ck s n = nD s then nI 0 else nI (1 + ck s n)
theorem mx_nI {a b : Nat} (ha : a < 2147483648) (hb : b < 2147483648) : ab_mx (nI a) (nI b) = nI (max a b) := by
  unfold ab_mx
  by_cases h : a < b
  · rw [if_pos (nI_lt h hb), Nat.max_eq_right (by omega)]
  · rw [if_neg (fun z => h ((nI_ltI ha hb).mp z)), Nat.max_eq_left (by omega)]
theorem k_hasN {q N n : Nat} {i : ab_I} (c : Nat) (hq : isR q N) (hn : i q 1 = nI n) (hN : n ≤ N) (hc : c < 2147483648) : ab_K 0 66 [.ref q, .int (nI c)] i (ab_V (.int (bI (c < n))) i) := by
  have e : bI (0 ≤ (nI c).toInt ∧ (nI c).toInt < n) = bI (c < n) := bI_cg (by rw [c_i hc]; omega)
  rw [← e]
  exact k_has _ hq hn hN
theorem fu_loop {z : Vc} {n : Nat} {i0 : ab_I} (hI : InT z) (hX : InX z 0) (hn : n ≤ 24) (mm d : Nat) (i : ab_I) (hmm : max (nD z) n - d < mm) (hd : d ≤ max (nD z) n) (hR : TwR 2 z i) (hL : LwR 23 0 z i) (hW : RoR 33 n (fun k => z (456 + k)) i) (hg : ∀ k, k < d → good z n k) (hi : sl i0 i) : ab_R 3 tb_X8_firstUnlike 15 [some (.ref 2), some (.ref 33), some (.ref 23), some (.int (nI (max (nD z) n))), some (.int (nI d))] [] i (fun v i' => v = some (.int (ckV z n)) ∧ sl i0 i') := by
  induction mm generalizing d i with
  | zero => exact absurd hmm (by omega)
  | succ mm ih =>
    have d12 := hI.2.1.2
    have t3 : i 2 3 = nI (nD z) := hR.1.2.1.trans hI.2.1.1
    refine r_go 2 rfl ?_ ?_
    · (first | exact trivial | assumption | (simp (disch := omega) [ab_all, ab_nz, *]; done))
    refine r_le rfl (fun h18 => ?_) (fun h18 => ?_)
    · skip
      refine r_go 1 rfl ?_ ?_
      · (first | exact trivial | assumption | (simp (disch := omega) [ab_all, ab_nz, *]; done))
      refine r_ret rfl trivial ?_
      have e : d = max (nD z) n := by clear hR hL hW hg hi hX hI t3; (simp (disch := omega) only [Int32.le_iff_toInt_le, Int32.lt_iff_toInt_lt, c_i, m1_i, m5_i, m33_i] at * <;> omega)
      have e2 : n = d ∧ nD z = d := by
          by_cases h0 : d = 0
          · omega
          · have := hg (d - 1) (by omega)
            obtain ⟨a, b, _⟩ := this
            omega
      have hc := ck_eq hn hg (fun hh => by have := hh.1; omega)
      refine ⟨?_, hi⟩
      unfold ckV
      rw [hc, if_pos (by omega)]
    · skip
      have hdl : d < max (nD z) n := by clear hR hL hW hg hi hX hI t3; (simp (disch := omega) only [Int32.le_iff_toInt_le, Int32.lt_iff_toInt_lt, c_i, m1_i, m5_i, m33_i] at * <;> omega)
      refine r_go 2 rfl ?_ ?_
      · (first | exact trivial | assumption | (simp (disch := omega) [ab_all, ab_nz, *]; done))
      refine r_cv rfl (by first | rfl | exact tg_t isT_2) ((k_hasDN d isT_2 t3 (by omega) (by omega))) (by decide) ?_
      refine r_bE rfl (fun h27 => ?_) (fun h27 => ?_)
      · skip
        refine r_go 1 rfl ?_ ?_
        · (first | exact trivial | assumption | (simp (disch := omega) [ab_all, ab_nz, *]; done))
        refine r_ret rfl trivial ?_
        have hng : ¬ good z n d := by
            intro hh
            obtain ⟨a, b, c⟩ := hh
            first | exact h27 b | exact h36 a | exact h56 c
        have hc := ck_eq hn hg hng
        refine ⟨?_, ?_⟩
        · unfold ckV
          rw [hc, if_neg (by omega)]
        · first | exact hi | exact sl_tr hi (fun q a _ => hf q a)
      · skip
        refine r_go 2 rfl ?_ ?_
        · (first | exact trivial | assumption | (simp (disch := omega) [ab_all, ab_nz, *]; done))
        refine r_cv rfl (by first | rfl | exact tg_t isT_2) ((k_hasN d isR_33 hW.1 hn (by omega))) (by decide) ?_
        refine r_bE rfl (fun h36 => ?_) (fun h36 => ?_)
        · skip
          refine r_go 1 rfl ?_ ?_
          · (first | exact trivial | assumption | (simp (disch := omega) [ab_all, ab_nz, *]; done))
          refine r_ret rfl trivial ?_
          have hng : ¬ good z n d := by
              intro hh
              obtain ⟨a, b, c⟩ := hh
              first | exact h27 b | exact h36 a | exact h56 c
          have hc := ck_eq hn hg hng
          refine ⟨?_, ?_⟩
          · unfold ckV
            rw [hc, if_neg (by omega)]
          · first | exact hi | exact sl_tr hi (fun q a _ => hf q a)
        · skip
          refine r_go 2 rfl ?_ ?_
          · (first | exact trivial | assumption | (simp (disch := omega) [ab_all, ab_nz, *]; done))
          refine r_cv rfl (by first | rfl | exact tg_t isT_2) ((k_at (nI d) isR_33 hW.1 hn)) (by decide) ?_
          refine r_go 3 rfl ?_ ?_
          · (first | exact trivial | assumption | (simp (disch := omega) [ab_all, ab_nz, *]; done))
          refine r_cv rfl (by first | rfl | exact tg_t isT_2) ((k_doorAt d isT_2 (by omega))) (by decide) ?_
          refine r_go 1 rfl ?_ ?_
          · (first | exact trivial | assumption | (simp (disch := omega) [ab_all, ab_nz, *]; done))
          refine r_c rfl (by first | rfl | exact tg_t isT_2) ((k_voteOf isT_2 hR hI h27 hL hX)) (by decide) ?_
          rintro v i' ⟨rfl, hf⟩
          rw [rowAt_nI h36 (by omega), show i (33 + 1) d = z (456 + d) from hW.2 d h36] at *
          refine r_br rfl (fun h56 => ?_) (fun h56 => ?_)
          · skip
            refine r_go 2 rfl ?_ ?_
            · (first | exact trivial | assumption | (simp (disch := omega) [ab_all, ab_nz, *]; done))
            rw [nI_add]
            exact r_lk (ih (d + 1) i' (by omega) (by omega) (TwR_far hR hI.1.2 hI.2.1.2 (fun q a b => hf q (by omega))) (RoR_far hL (hf _ (by decide)) (hf _ (by decide))) (RoR_far hW (hf _ (by decide)) (hf _ (by decide))) (fun k hk => by
                by_cases e : k = d
                · subst e
                  exact ⟨h36, h27, h56⟩
                · exact hg k (by omega)) (sl_tr hi (fun q a _ => hf q a))) rfl
          · skip
            refine r_go 1 rfl ?_ ?_
            · (first | exact trivial | assumption | (simp (disch := omega) [ab_all, ab_nz, *]; done))
            refine r_ret rfl trivial ?_
            have hng : ¬ good z n d := by
                intro hh
                obtain ⟨a, b, c⟩ := hh
                first | exact h27 b | exact h36 a | exact h56 c
            have hc := ck_eq hn hg hng
            refine ⟨?_, ?_⟩
            · unfold ckV
              rw [hc, if_neg (by omega)]
            · first | exact hi | exact sl_tr hi (fun q a _ => hf q a)
theorem k_unlike {z : Vc} {n : Nat} {i : ab_I} (hI : InT z) (hX : InX z 0) (hn : n ≤ 24) (hR : TwR 2 z i) (hL : LwR 23 0 z i) (hW : RoR 33 n (fun k => z (456 + k)) i) : ab_K 3 106 [.ref 2, .ref 33, .ref 23] i (fun v i' => v = some (.int (ckV z n)) ∧ sl i i') := by
  have d12 := hI.2.1.2
  have t3 : i 2 3 = nI (nD z) := hR.1.2.1.trans hI.2.1.1
  refine k_of rfl ?_
  refine r_go 8 rfl ?_ ?_
  · (first | exact trivial | (simp only [ab_all] <;> decide))
  rw [t3, hW.1, mx_nI (by omega) (by omega)]
  exact fu_loop (i0 := i) hI hX hn (max (nD z) n + 1) 0 i (by omega) (by omega) hR hL hW (fun k hk => absurd hk (by omega)) sl_rf
def S_check (m : ab_I) : Int32 × ab_I := (ckA (upd (m 219) 6 (nI 0)) (m 219 6).toNatClampNeg, ab_row m 219 (upd (m 219) 6 (nI 0)))
theorem check_in {m : ab_I} (hJ : InM m) : InS (upd (m 219) 6 (nI 0)) := by
  refine InS_k hJ.1 (fun k a b c => pk_un b) ?_ ⟨0, by decide, pk_us⟩
  obtain ⟨n, hn, h4, h5⟩ := hJ.1.2.2.2.1
  exact ⟨n, hn, by rw [pk_un (by decide)]; exact h4, fun k hk => by rw [pk_un (by omega)]; exact h5 k hk⟩
theorem c_check {i m : ab_I} (hC : ClsR i m) (hJ : InM m) : ab_K 4 144 [.ref 0] i (clQ i (S_check m)) := by
  (have hI := hJ.1.1; have hX := InS_X hJ.1; have hT := hC.1.1; have hLw : LwsR (m 219) i := ⟨hC.1.2.1, hC.1.2.2.1⟩; have hE := hC.2.2.2.2.1.1)
  obtain ⟨e6, l6⟩ := In6 hJ.1
  have h6 := hC.1.2.2.2.2
  have h5 := hC.1.2.2.2.1
  have hz := check_in hJ
  have hcz : ∀ k, k ≠ 6 → upd (m 219) 6 (nI 0) k = m 219 k := fun k hk => pk_un hk
  have R1 : TwR 2 (upd (m 219) 6 (nI 0)) i := TwR_s hT hI.1.2 hI.2.1.2 (fun k _ b _ => pk_un b)
  have L1 : LwR 23 0 (upd (m 219) 6 (nI 0)) i := LwR_s hLw.1 (by decide) (fun k a b => pk_un (by omega)) hX.1.2.1
  have W1 : RoR 33 (m 219 6).toNatClampNeg (fun k => upd (m 219) 6 (nI 0) (456 + k)) i := ⟨h6.1, fun k hk => by show _ = upd (m 219) 6 (nI 0) (456 + k); rw [pk_un (by omega)]; exact h6.2 k hk⟩
  refine k_of rfl ?_
  refine r_go 9 rfl ?_ ?_
  · (first | exact trivial | (simp only [ab_all] <;> decide))
  simp only [gr_0_0, gr_0_1, gr_0_3, gr_0_4, gr_0_5, gr_0_6, gr_0_7, gr_1_0, gr_1_1, gr_1_2, gr_1_3, gr_1_4, gr_35_0, gr_35_1, gr_35_2, gr_35_3, gr_35_4]
  refine r_c rfl rfl ((k_unlike hz.1 hz.2.1 l6 R1 L1 W1)) (by decide) ?_
  rintro v i' ⟨rfl, hf⟩
  refine r_go 4 rfl ?_ ?_
  · (first | exact trivial | (simp only [ab_all] <;> decide))
  simp only [gr_0_0, gr_0_1, gr_0_3, gr_0_4, gr_0_5, gr_0_6, gr_0_7, gr_1_0, gr_1_1, gr_1_2, gr_1_3, gr_1_4, gr_35_0, gr_35_1, gr_35_2, gr_35_3, gr_35_4]
  refine r_cn rfl rfl ((k_empty isR_33)) (by decide) ?_
  refine r_go 2 rfl ?_ ?_
  · (first | exact trivial | (simp only [ab_all] <;> decide))
  refine r_ne rfl (fun h37 => ?_) (fun h37 => ?_)
  · skip
    refine r_go 3 rfl ?_ ?_
    · (first | exact trivial | (simp only [ab_all] <;> decide))
    refine r_ret rfl trivial ?_
    have hv : clQ i (S_check m) (some (.int (ckA (upd (m 219) 6 (nI 0)) (m 219 6).toNatClampNeg))) (ab_up i' 33 1 (nI 0)) := by
        refine cl_w hJ hC (WhR_k hJ.1 hC.1 (fun k a b c => pk_un b) (fun q a b c d => by rw [up_row (by omega)]; exact hf q (by omega) (by omega)) ?_ ?_) (fun q hq => by unfold irr at hq; rw [up_row (by omega)]; exact hf q (by omega) (by omega)) (fun q hq => by rw [up_row (by omega)]; exact hf q (by omega) (by omega))
        · rw [pk_un (by decide)]
          refine ⟨by rw [up_ne (by omega), hf _ (by decide) (by decide)]; exact h5.1, fun k hk => ?_⟩
          have := (In5 hJ.1).2
          show _ = upd (m 219) 6 (nI 0) (396 + k)
          rw [up_ne (by omega), hf _ (by decide) (by decide), pk_un (by omega)]
          exact h5.2 k hk
        · rw [pk_us]
          exact ⟨up_us, fun k hk => absurd hk (by rw [nI_cl (by decide)]; omega)⟩
    have hv2 : ckA (upd (m 219) 6 (nI 0)) (m 219 6).toNatClampNeg = if ckV (upd (m 219) 6 (nI 0)) (m 219 6).toNatClampNeg = (-1) then nI 0 else nI 1 + ckV (upd (m 219) 6 (nI 0)) (m 219 6).toNatClampNeg := by
        unfold ckA ckV
        by_cases hb : ck (upd (m 219) 6 (nI 0)) (m 219 6).toNatClampNeg = (m 219 6).toNatClampNeg ∧ ck (upd (m 219) 6 (nI 0)) (m 219 6).toNatClampNeg = nD (upd (m 219) 6 (nI 0))
        · rw [if_pos hb, if_pos hb, if_pos rfl]
        · have hbd : ck (upd (m 219) 6 (nI 0)) (m 219 6).toNatClampNeg ≤ 25 := by
            have H : ∀ f j, ckN (upd (m 219) 6 (nI 0)) (m 219 6).toNatClampNeg f j ≤ j + f := by
              intro f
              induction f with
              | zero => intro j; exact Nat.le_refl _
              | succ f ih =>
                intro j
                unfold ckN
                split
                · have := ih (j + 1)
                  omega
                · omega
            exact H 25 0
          rw [if_neg hb, if_neg hb, if_neg (fun y => by rw [eq_i, c_i (by omega), m1_i] at y; omega), nI_add]
    rw [hv2] at hv
    first | (rw [if_pos h37] at hv; exact hv) | (rw [if_neg h37] at hv; exact hv)
  · skip
    refine r_go 2 rfl ?_ ?_
    · (first | exact trivial | (simp only [ab_all] <;> decide))
    refine r_ret rfl trivial ?_
    have hv : clQ i (S_check m) (some (.int (ckA (upd (m 219) 6 (nI 0)) (m 219 6).toNatClampNeg))) (ab_up i' 33 1 (nI 0)) := by
        refine cl_w hJ hC (WhR_k hJ.1 hC.1 (fun k a b c => pk_un b) (fun q a b c d => by rw [up_row (by omega)]; exact hf q (by omega) (by omega)) ?_ ?_) (fun q hq => by unfold irr at hq; rw [up_row (by omega)]; exact hf q (by omega) (by omega)) (fun q hq => by rw [up_row (by omega)]; exact hf q (by omega) (by omega))
        · rw [pk_un (by decide)]
          refine ⟨by rw [up_ne (by omega), hf _ (by decide) (by decide)]; exact h5.1, fun k hk => ?_⟩
          have := (In5 hJ.1).2
          show _ = upd (m 219) 6 (nI 0) (396 + k)
          rw [up_ne (by omega), hf _ (by decide) (by decide), pk_un (by omega)]
          exact h5.2 k hk
        · rw [pk_us]
          exact ⟨up_us, fun k hk => absurd hk (by rw [nI_cl (by decide)]; omega)⟩
    have hv2 : ckA (upd (m 219) 6 (nI 0)) (m 219 6).toNatClampNeg = if ckV (upd (m 219) 6 (nI 0)) (m 219 6).toNatClampNeg = (-1) then nI 0 else nI 1 + ckV (upd (m 219) 6 (nI 0)) (m 219 6).toNatClampNeg := by
        unfold ckA ckV
        by_cases hb : ck (upd (m 219) 6 (nI 0)) (m 219 6).toNatClampNeg = (m 219 6).toNatClampNeg ∧ ck (upd (m 219) 6 (nI 0)) (m 219 6).toNatClampNeg = nD (upd (m 219) 6 (nI 0))
        · rw [if_pos hb, if_pos hb, if_pos rfl]
        · have hbd : ck (upd (m 219) 6 (nI 0)) (m 219 6).toNatClampNeg ≤ 25 := by
            have H : ∀ f j, ckN (upd (m 219) 6 (nI 0)) (m 219 6).toNatClampNeg f j ≤ j + f := by
              intro f
              induction f with
              | zero => intro j; exact Nat.le_refl _
              | succ f ih =>
                intro j
                unfold ckN
                split
                · have := ih (j + 1)
                  omega
                · omega
            exact H 25 0
          rw [if_neg hb, if_neg hb, if_neg (fun y => by rw [eq_i, c_i (by omega), m1_i] at y; omega), nI_add]
    rw [hv2] at hv
    first | (rw [if_pos h37] at hv; exact hv) | (rw [if_neg h37] at hv; exact hv)
theorem mk_loop {z : Vc} {n : Nat} {i0 : ab_I} (hI : InT z) (hX : InXs z) (hn : n ≤ 24) (mm d : Nat) (i : ab_I) (hmm : n - d < mm) (hd : d ≤ n) (hs : i 219 = z) (hg : ∀ k, k < d → good z n k) (hi : sr i0 i) : ab_R 5 tb_X11_check 18 [some (.ref 218), some (.int (nI n)), some (.int (nI d))] [] i (fun v i' => v = some (.int (ckA z n)) ∧ sr i0 i') := by
  induction mm generalizing d i with
  | zero => exact absurd hmm (by omega)
  | succ mm ih =>
    have d12 := hI.2.1.2
    refine r_go 2 rfl ?_ ?_
    · (first | exact trivial | assumption | (simp (disch := omega) [ab_all, ab_nz, *]; done))
    refine r_le rfl (fun h20 => ?_) (fun h20 => ?_)
    · skip
      have hng : ¬ good z n d := by
          intro hh
          obtain ⟨a, b, c⟩ := hh
          first | exact h46 c | exact h28 (by rw [c_i (by omega)]; omega) | exact h20 (nI_lt a (by omega))
      have hc := ck_eq hn hg hng
      refine r_go 2 rfl ?_ ?_
      · (first | exact trivial | assumption | (simp (disch := omega) [ab_all, ab_nz, *]; done))
      refine r_ne rfl (fun h57 => ?_) (fun h57 => ?_)
      · skip
        refine r_go 3 rfl ?_ ?_
        · (first | exact trivial | assumption | (simp (disch := omega) [ab_all, ab_nz, *]; done))
        refine r_ret rfl trivial ?_
        refine ⟨?_, ?_⟩
        · unfold ckA
          rw [hc]
          first | (rw [if_neg (fun y => h57 (by rw [y.1])), nI_add]; done) | (rw [if_neg (fun y => h67 (by rw [y.2])), nI_add]; done) | (rw [if_pos ⟨(nI_eq (by omega) (by omega)).mp h57, (nI_eq (by omega) (by omega)).mp h67⟩]; done)
        · first | exact hi | exact sr_tr hi hf
      · skip
        refine r_go 5 rfl ?_ ?_
        · (simp only [ab_all, gr_218_0]; exact ⟨ix_219 (by decide), rfl, by decide⟩)
        first | rw [rowI hs, nI_cl (by decide), hI.2.1.1] | rw [rowI hs', nI_cl (by decide), hI.2.1.1]
        refine r_ne rfl (fun h67 => ?_) (fun h67 => ?_)
        · skip
          refine r_go 3 rfl ?_ ?_
          · (first | exact trivial | assumption | (simp (disch := omega) [ab_all, ab_nz, *]; done))
          refine r_ret rfl trivial ?_
          refine ⟨?_, ?_⟩
          · unfold ckA
            rw [hc]
            first | (rw [if_neg (fun y => h57 (by rw [y.1])), nI_add]; done) | (rw [if_neg (fun y => h67 (by rw [y.2])), nI_add]; done) | (rw [if_pos ⟨(nI_eq (by omega) (by omega)).mp h57, (nI_eq (by omega) (by omega)).mp h67⟩]; done)
          · first | exact hi | exact sr_tr hi hf
        · skip
          refine r_go 2 rfl ?_ ?_
          · (first | exact trivial | assumption | (simp (disch := omega) [ab_all, ab_nz, *]; done))
          refine r_ret rfl trivial ?_
          refine ⟨?_, ?_⟩
          · unfold ckA
            rw [hc]
            first | (rw [if_neg (fun y => h57 (by rw [y.1])), nI_add]; done) | (rw [if_neg (fun y => h67 (by rw [y.2])), nI_add]; done) | (rw [if_pos ⟨(nI_eq (by omega) (by omega)).mp h57, (nI_eq (by omega) (by omega)).mp h67⟩]; done)
          · first | exact hi | exact sr_tr hi hf
    · skip
      have hdl : d < n := by clear hI hX hs hg hi; (simp (disch := omega) only [Int32.le_iff_toInt_le, Int32.lt_iff_toInt_lt, c_i, m1_i, m5_i, m33_i] at * <;> omega)
      refine r_go 2 rfl ?_ ?_
      · (first | exact trivial | assumption | (simp (disch := omega) [ab_all, ab_nz, *]; done))
      refine r_cv rfl rfl ((m_isD (nI d) hs hI)) (by decide) ?_
      refine r_bE rfl (fun h28 => ?_) (fun h28 => ?_)
      · skip
        have hng : ¬ good z n d := by
            intro hh
            obtain ⟨a, b, c⟩ := hh
            first | exact h46 c | exact h28 (by rw [c_i (by omega)]; omega) | exact h20 (nI_lt a (by omega))
        have hc := ck_eq hn hg hng
        refine r_go 2 rfl ?_ ?_
        · (first | exact trivial | assumption | (simp (disch := omega) [ab_all, ab_nz, *]; done))
        refine r_ne rfl (fun h57 => ?_) (fun h57 => ?_)
        · skip
          refine r_go 3 rfl ?_ ?_
          · (first | exact trivial | assumption | (simp (disch := omega) [ab_all, ab_nz, *]; done))
          refine r_ret rfl trivial ?_
          refine ⟨?_, ?_⟩
          · unfold ckA
            rw [hc]
            first | (rw [if_neg (fun y => h57 (by rw [y.1])), nI_add]; done) | (rw [if_neg (fun y => h67 (by rw [y.2])), nI_add]; done) | (rw [if_pos ⟨(nI_eq (by omega) (by omega)).mp h57, (nI_eq (by omega) (by omega)).mp h67⟩]; done)
          · first | exact hi | exact sr_tr hi hf
        · skip
          refine r_go 5 rfl ?_ ?_
          · (simp only [ab_all, gr_218_0]; exact ⟨ix_219 (by decide), rfl, by decide⟩)
          first | rw [rowI hs, nI_cl (by decide), hI.2.1.1] | rw [rowI hs', nI_cl (by decide), hI.2.1.1]
          refine r_ne rfl (fun h67 => ?_) (fun h67 => ?_)
          · skip
            refine r_go 3 rfl ?_ ?_
            · (first | exact trivial | assumption | (simp (disch := omega) [ab_all, ab_nz, *]; done))
            refine r_ret rfl trivial ?_
            refine ⟨?_, ?_⟩
            · unfold ckA
              rw [hc]
              first | (rw [if_neg (fun y => h57 (by rw [y.1])), nI_add]; done) | (rw [if_neg (fun y => h67 (by rw [y.2])), nI_add]; done) | (rw [if_pos ⟨(nI_eq (by omega) (by omega)).mp h57, (nI_eq (by omega) (by omega)).mp h67⟩]; done)
            · first | exact hi | exact sr_tr hi hf
          · skip
            refine r_go 2 rfl ?_ ?_
            · (first | exact trivial | assumption | (simp (disch := omega) [ab_all, ab_nz, *]; done))
            refine r_ret rfl trivial ?_
            refine ⟨?_, ?_⟩
            · unfold ckA
              rw [hc]
              first | (rw [if_neg (fun y => h57 (by rw [y.1])), nI_add]; done) | (rw [if_neg (fun y => h67 (by rw [y.2])), nI_add]; done) | (rw [if_pos ⟨(nI_eq (by omega) (by omega)).mp h57, (nI_eq (by omega) (by omega)).mp h67⟩]; done)
            · first | exact hi | exact sr_tr hi hf
      · skip
        have hdd : d < nD z := by rw [c_i (by omega)] at h28; omega
        refine r_go 8 rfl ?_ ?_
        · (simp only [ab_all, gr_218_0, nI_add]; exact ⟨ix_219 (by omega), rfl, by decide⟩)
        refine r_c rfl rfl ((m_vote d hs hI hX hdd)) (by decide) ?_
        rintro v i' ⟨rfl, hf⟩
        have hs' : i' 219 = z := (hf 219 (by decide) (by decide)).trans hs
        rw [nI_add, rowI hs, nI_cl (by omega)]
        refine r_ne rfl (fun h46 => ?_) (fun h46 => ?_)
        · skip
          have hng : ¬ good z n d := by
              intro hh
              obtain ⟨a, b, c⟩ := hh
              first | exact h46 c | exact h28 (by rw [c_i (by omega)]; omega) | exact h20 (nI_lt a (by omega))
          have hc := ck_eq hn hg hng
          refine r_go 2 rfl ?_ ?_
          · (first | exact trivial | assumption | (simp (disch := omega) [ab_all, ab_nz, *]; done))
          refine r_ne rfl (fun h57 => ?_) (fun h57 => ?_)
          · skip
            refine r_go 3 rfl ?_ ?_
            · (first | exact trivial | assumption | (simp (disch := omega) [ab_all, ab_nz, *]; done))
            refine r_ret rfl trivial ?_
            refine ⟨?_, ?_⟩
            · unfold ckA
              rw [hc]
              first | (rw [if_neg (fun y => h57 (by rw [y.1])), nI_add]; done) | (rw [if_neg (fun y => h67 (by rw [y.2])), nI_add]; done) | (rw [if_pos ⟨(nI_eq (by omega) (by omega)).mp h57, (nI_eq (by omega) (by omega)).mp h67⟩]; done)
            · first | exact hi | exact sr_tr hi hf
          · skip
            refine r_go 5 rfl ?_ ?_
            · (simp only [ab_all, gr_218_0]; exact ⟨ix_219 (by decide), rfl, by decide⟩)
            first | rw [rowI hs, nI_cl (by decide), hI.2.1.1] | rw [rowI hs', nI_cl (by decide), hI.2.1.1]
            refine r_ne rfl (fun h67 => ?_) (fun h67 => ?_)
            · skip
              refine r_go 3 rfl ?_ ?_
              · (first | exact trivial | assumption | (simp (disch := omega) [ab_all, ab_nz, *]; done))
              refine r_ret rfl trivial ?_
              refine ⟨?_, ?_⟩
              · unfold ckA
                rw [hc]
                first | (rw [if_neg (fun y => h57 (by rw [y.1])), nI_add]; done) | (rw [if_neg (fun y => h67 (by rw [y.2])), nI_add]; done) | (rw [if_pos ⟨(nI_eq (by omega) (by omega)).mp h57, (nI_eq (by omega) (by omega)).mp h67⟩]; done)
              · first | exact hi | exact sr_tr hi hf
            · skip
              refine r_go 2 rfl ?_ ?_
              · (first | exact trivial | assumption | (simp (disch := omega) [ab_all, ab_nz, *]; done))
              refine r_ret rfl trivial ?_
              refine ⟨?_, ?_⟩
              · unfold ckA
                rw [hc]
                first | (rw [if_neg (fun y => h57 (by rw [y.1])), nI_add]; done) | (rw [if_neg (fun y => h67 (by rw [y.2])), nI_add]; done) | (rw [if_pos ⟨(nI_eq (by omega) (by omega)).mp h57, (nI_eq (by omega) (by omega)).mp h67⟩]; done)
              · first | exact hi | exact sr_tr hi hf
        · skip
          refine r_go 2 rfl ?_ ?_
          · (first | exact trivial | assumption | (simp (disch := omega) [ab_all, ab_nz, *]; done))
          rw [nI_add]
          exact ih (d + 1) i' (by omega) (by omega) hs' (fun k hk => by
              by_cases e : k = d
              · subst e
                exact ⟨hdl, hdd, h46⟩
              · exact hg k (by omega)) (sr_tr hi hf)
theorem m_check {i m : ab_I} (hm : mo i m) (hJ : InM m) (h13 : i 218 13 = (-1)) : ab_K 5 246 [.ref 218] i (rfQ i (S_check m)) := by
  (have hI := hJ.1.1; have hX := InS_X hJ.1; have hs := hm.1)
  obtain ⟨e6, l6⟩ := In6 hJ.1
  have hz := check_in hJ
  refine k_of rfl ?_
  refine r_go 12 rfl ?_ ?_
  · (simp only [ab_all, gr_218_0, nI_add]; repeat' (first | exact ix_219 (by omega) | rfl | decide | (unfold ab_nz; decide) | refine And.intro ?_ ?_))
  simp (disch := decide) only [gr_218_0, nI_cl, hs]
  rw [up_rowI hs, ← e6]
  have K := mk_loop (i0 := ab_row i 219 (upd (m 219) 6 (nI 0))) hz.1 (InS_X hz) l6 ((m 219 6).toNatClampNeg + 1) 0 _ (by omega) (by omega) row_s (fun k hk => absurd hk (by omega)) sr_rf
  refine r_mono K ?_
  rintro v j ⟨rfl, hf⟩
  refine ⟨rfl, mo_sr (mo_w hm) hf, ?_, fun q hq => ?_⟩
  · rw [hf 218 (by decide) (by decide)]
    exact (ab_row_ne (by decide)).trans h13
  · rw [hf q (by omega) (by omega)]
    exact funext (fun b => ab_row_ne (by omega))
theorem n_check {m : ab_I} (hJ : InM m) : InM (S_check m).2 := InM_w hJ (check_in hJ)
