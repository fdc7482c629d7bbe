/-! the storm -/
def ol2 (i j : ab_I) : Prop := ∀ q, ¬ (74 ≤ q ∧ q ≤ 199) → q ≠ 26 → q ≠ 30 → j q = i q
theorem ol2_rf {i : ab_I} : ol2 i i := fun _ _ _ _ => rfl
theorem ol2_tr {i j k : ab_I} (h1 : ol2 i j) (h2 : ol2 j k) : ol2 i k := fun q a b c => (h2 q a b c).trans (h1 q a b c)
theorem ol2_sl {i j : ab_I} (h : sl i j) : ol2 i j := fun q _ b c => h q b c
theorem ol2_frT {t : Nat} {i j : ab_I} (h : frT t i j) (ht : 74 ≤ t ∧ t ≤ 179) : ol2 i j := fun q a b c => h q (by omega) b c
theorem ol2_frX {t : Nat} {i j : ab_I} (h : frX t i j) (ht : 74 ≤ t ∧ t ≤ 179) : ol2 i j := fun q a _ _ => h q (by omega)
theorem ol2_up {q k : Nat} {i : ab_I} {x : Int32} (h : 74 ≤ q ∧ q ≤ 199) : ol2 i (ab_up i q k x) := fun p a _ _ => up_row (by omega)
theorem ol_2 {i j : ab_I} (h : ol2 i j) : ol i j := fun q a b c => h q (by omega) b c
def rnd (r : Nat) (s : Vc) : Vc := upd s 3 (nI r)
theorem In_rnd {r : Nat} {s : Vc} (h : InT s) (hr : r ≤ 9) : InT (rnd r s) ∧ sN s (rnd r s) ∧ rt s (rnd r s) := by
  refine ⟨InT_k h ?_, sN_up ⟨rfl, rfl⟩ (by decide), rt_up rt_rf (by omega)⟩
  have : rg (nI r) 0 9 := by unfold rg; rw [c_i (by omega)]; omega
  simp [this]
def stz (b n d r : Nat) (s : Vc) : Vc := pN 0 (n - 1) (hour b (nI d - nI 2) (rnd r s))
theorem In_stz {b n d r : Nat} {s : Vc} (h : InT s) (hr : r ≤ 9) : InT (stz b n d r s) ∧ sN s (stz b n d r s) ∧ rt s (stz b n d r s) := by
  obtain ⟨a1, a2, a3⟩ := In_rnd h hr
  have b1 := In_hour (mb := b) (mw := nI d - nI 2) a1
  have c1 := In_pN (w := 0) (n := n - 1) b1.1
  exact ⟨c1.1, sN_tr (sN_tr a2 b1.2) c1.2.1, rt_tr (rt_tr a3 (rt_kp (kp_hour a1))) c1.2.2⟩
def wsN (P : Nat → Int32) : Nat → Int32
  | 0 => (-1)
  | c + 1 => if wsN P c < P c then P c else wsN P c
def wst (b n d : Nat) (s : Vc) : Int32 := wsN (fun r => pains (stz b n d r s)) 10
theorem ws_rg {P : Nat → Int32} : ∀ {c : Nat}, (∀ r, r < c → 0 ≤ (P r).toInt ∧ (P r).toInt ≤ 2000000) → (0 < c → 0 ≤ (wsN P c).toInt) ∧ (wsN P c).toInt ≤ 2000000
  | 0, _ => ⟨fun h => absurd h (by decide), by show ((-1 : Int32)).toInt ≤ 2000000; decide⟩
  | c + 1, h => by
    have h1 := ws_rg (P := P) (c := c) (fun r hr => h r (by omega))
    have h2 := h c (by omega)
    show (0 < c + 1 → 0 ≤ (if wsN P c < P c then P c else wsN P c).toInt) ∧ (if wsN P c < P c then P c else wsN P c).toInt ≤ 2000000
    split
    · exact ⟨fun _ => h2.1, h2.2⟩
    · rename_i h3
      rw [Int32.lt_iff_toInt_lt] at h3
      exact ⟨fun _ => by omega, h1.2⟩
def wsC (P : Nat → Int32) (c : Nat) : Int32 := if c = 0 then nI 0 else wsN P c
theorem wsC_s {P : Nat → Int32} {c : Nat} (h : ∀ r, r < c + 1 → 0 ≤ (P r).toInt ∧ (P r).toInt ≤ 2000000) : ab_mx (wsC P c) (P c) = wsC P (c + 1) := by
  have h2 := h c (by omega)
  unfold wsC ab_mx
  rw [if_neg (show ¬ c + 1 = 0 by omega)]
  by_cases e : c = 0
  · subst e
    rw [if_pos rfl]
    show (if nI 0 < P 0 then P 0 else nI 0) = if (-1 : Int32) < P 0 then P 0 else (-1)
    rw [if_pos (show (-1 : Int32) < P 0 by rw [Int32.lt_iff_toInt_lt, m1_i]; omega)]
    split
    · rfl
    · rename_i h3
      rw [Int32.lt_iff_toInt_lt, c_i (by decide)] at h3
      rw [eq_i, c_i (by decide)]
      omega
  · rw [if_neg e]
    rfl
theorem pw_inner {b n d r : Nat} {s : Vc} {w : Int32} {i0 : ab_I} {Q : Option Value → ab_I → Prop} (hI : InT s) (hX : InXs s) (hL0 : LwsR s i0) (hb : b < nB s) (hn : n ≤ 12) (hn1 : 1 ≤ n) (hd : 1 ≤ d ∧ d ≤ 3) (hr : r ≤ 9) (K : ∀ j, ol2 i0 j → ab_R 5 tb_X3_painsInWorstRain 6 [some (.ref 72), some (.int (nI b)), some (.int (nI n)), some (.int (nI d)), some (.int (ab_mx w (pains (stz b n d r s)))), some (.int (nI (r + 1))), none, none] [] j Q) (mm c : Nat) (i : ab_I) (hmm : n - c < mm) (hc : c ≤ n) (hR : TwR (tr 0) (if c = 0 then rnd r s else stz b c d r s) i) (hi : ol2 i0 i) : ab_R 5 tb_X3_painsInWorstRain 30 [some (.ref 72), some (.int (nI b)), some (.int (nI n)), some (.int (nI d)), some (.int w), some (.int (nI r)), some (.ref (tr 0)), some (.int (nI c))] [] i Q := by
  induction mm generalizing c i with
  | zero => exact absurd hmm (by omega)
  | succ mm ih =>
    have hZ : InT (if c = 0 then rnd r s else stz b c d r s) ∧ sN s (if c = 0 then rnd r s else stz b c d r s) ∧ rt s (if c = 0 then rnd r s else stz b c d r s) := by
        split
        · exact In_rnd hI hr
        · exact In_stz hI hr
    have hX1 := InXs_rt hX hZ.2.2
    have hL1 := LwsR_rt (ol_L hL0 hX (ol_2 hi)) hX hZ.2.2 (fun _ _ => rfl)
    refine r_go 2 rfl ?_ ?_
    · (first | exact trivial | assumption | (simp (disch := omega) [ab_all, ab_nz, *]; done))
    refine r_le rfl (fun h33 => ?_) (fun h33 => ?_)
    · skip
      have e : c = n := by clear K hR hi hI hX hL0 hZ hX1 hL1; (simp (disch := omega) only [Int32.le_iff_toInt_le, Int32.lt_iff_toInt_lt, c_i, m1_i, m5_i, m33_i] at * <;> omega)
      subst e
      rw [if_neg (show ¬ c = 0 by omega)] at *
      refine r_go 4 rfl ?_ ?_
      · exact ⟨rfl, by decide⟩
      rw [gr_72_2]
      refine r_c rfl (tg_t (isT_tr (by decide))) ((k_pains (isT_tr (by decide)) hZ.1 hX1 hR hL1)) (by decide) ?_
      rintro v i2 ⟨rfl, f2⟩
      refine r_go 4 rfl ?_ ?_
      · (first | exact trivial | assumption | (simp (disch := omega) [ab_all, ab_nz, *]; done))
      rw [nI_add]
      exact r_lk (K i2 (ol2_tr hi (ol2_sl f2))) rfl
    · skip
      have hcl : c < n := by clear K hR hi hI hX hL0 hZ hX1 hL1; (simp (disch := omega) only [Int32.le_iff_toInt_le, Int32.lt_iff_toInt_lt, c_i, m1_i, m5_i, m33_i] at * <;> omega)
      refine r_go 4 rfl ?_ ?_
      · exact ⟨rfl, by decide⟩
      refine r_ne rfl (fun h44 => ?_) (fun h44 => ?_)
      · skip
        refine r_go 2 rfl ?_ ?_
        · (first | exact trivial | assumption | (simp (disch := omega) [ab_all, ab_nz, *]; done))
        rw [gr_72_1]
        refine r_c rfl (tg_t (isT_tr (by decide))) ((by first | (rw [nI_eq (by omega) (by decide)] at h44; subst h44; exact k_goB (isT_tr (by decide)) hZ.1 hX1 (by rw [hZ.2.1.1]; exact hb) hd hR hL1) | exact k_hr (nI d) (isT_tr (by decide)) hZ.1 hX1 hR hL1)) (by decide) ?_
        rintro v i2 ⟨rfl, R2, f2⟩
        refine r_go 2 rfl ?_ ?_
        · (first | exact trivial | assumption | (simp (disch := omega) [ab_all, ab_nz, *]; done))
        rw [nI_add]
        refine r_lk (ih (c + 1) i2 (by omega) (by omega) ?_ (ol2_tr hi (ol2_frT f2 (tr_rg (by decide))))) rfl
        rw [if_neg (show ¬ c + 1 = 0 by omega)]
        rw [nI_eq (by omega) (by decide)] at h44
        first | (subst h44; exact R2) | (rw [if_neg h44] at R2; obtain ⟨g, rfl⟩ := pos_s h44; exact R2)
      · skip
        refine r_go 3 rfl ?_ ?_
        · (first | exact trivial | assumption | (simp (disch := omega) [ab_all, ab_nz, *]; done))
        rw [gr_72_1]
        refine r_c rfl (tg_t (isT_tr (by decide))) ((by first | (rw [nI_eq (by omega) (by decide)] at h44; subst h44; exact k_goB (isT_tr (by decide)) hZ.1 hX1 (by rw [hZ.2.1.1]; exact hb) hd hR hL1) | exact k_hr (nI d) (isT_tr (by decide)) hZ.1 hX1 hR hL1)) (by decide) ?_
        rintro v i2 ⟨rfl, R2, f2⟩
        refine r_go 2 rfl ?_ ?_
        · (first | exact trivial | assumption | (simp (disch := omega) [ab_all, ab_nz, *]; done))
        rw [nI_add]
        refine r_lk (ih (c + 1) i2 (by omega) (by omega) ?_ (ol2_tr hi (ol2_frT f2 (tr_rg (by decide))))) rfl
        rw [if_neg (show ¬ c + 1 = 0 by omega)]
        rw [nI_eq (by omega) (by decide)] at h44
        first | (subst h44; exact R2) | (rw [if_neg h44] at R2; obtain ⟨g, rfl⟩ := pos_s h44; exact R2)
theorem pw_outer {b n d : Nat} {s : Vc} {i0 : ab_I} (hI : InT s) (hX : InXs s) (hT0 : TwR 2 s i0) (hL0 : LwsR s i0) (hb : b < nB s) (hn : n ≤ 12) (hn1 : 1 ≤ n) (hd : 1 ≤ d ∧ d ≤ 3) (mm r : Nat) (i : ab_I) (hmm : 10 - r < mm) (hr : r ≤ 10) (hi : ol2 i0 i) : ab_R 5 tb_X3_painsInWorstRain 6 [some (.ref 72), some (.int (nI b)), some (.int (nI n)), some (.int (nI d)), some (.int (wsC (fun r => pains (stz b n d r s)) r)), some (.int (nI r)), none, none] [] i (fun v i' => v = some (.int (wst b n d s)) ∧ ol2 i0 i') := by
  induction mm generalizing r i with
  | zero => exact absurd hmm (by omega)
  | succ mm ih =>
    refine r_go 2 rfl ?_ ?_
    · (first | exact trivial | assumption | (simp (disch := omega) [ab_all, ab_nz, *]; done))
    refine r_br rfl (fun h10 => ?_) (fun h10 => ?_)
    · skip
      refine r_go 1 rfl ?_ ?_
      · (first | exact trivial | assumption | (simp (disch := omega) [ab_all, ab_nz, *]; done))
      refine r_ret rfl trivial ?_
      have e : r = 10 := by clear hT0 hi hI hX hL0; (simp (disch := omega) only [Int32.le_iff_toInt_le, Int32.lt_iff_toInt_lt, c_i, m1_i, m5_i, m33_i] at * <;> omega)
      subst e
      have e2 : wsC (fun r => pains (stz b n d r s)) 10 = wst b n d s := if_neg (by decide)
      rw [e2]
      exact ⟨rfl, hi⟩
    · skip
      have hrl : r ≤ 9 := by clear hT0 hi hI hX hL0; (simp (disch := omega) only [Int32.le_iff_toInt_le, Int32.lt_iff_toInt_lt, c_i, m1_i, m5_i, m33_i] at * <;> omega)
      refine r_go 2 rfl ?_ ?_
      · (first | exact trivial | assumption | (simp (disch := omega) [ab_all, ab_nz, *]; done))
      refine r_c rfl rfl ((k_fresh 0 (by decide) hI (ol_T hT0 hI (ol_2 hi)))) (by decide) ?_
      rintro v i1 ⟨rfl, R1, f1⟩
      refine r_go 6 rfl ?_ ?_
      · exact tg_t (isT_tr (by decide))
      refine r_lk (pw_inner (i0 := i0) hI hX hL0 hb hn hn1 hd hrl (fun j hj => ?_) (n + 1) 0 _ (by omega) (by omega) (by rw [if_pos rfl]; exact TwR_c R1 (by omega)) (ol2_tr hi (ol2_tr (ol2_frX f1 (tr_rg (by decide))) (ol2_up (by unfold tr; omega))))) rfl
      rw [wsC_s (P := fun r => pains (stz b n d r s)) (fun q hq => pains_rg (In_stz hI (by omega)).1)]
      exact ih (r + 1) j (by omega) (by omega) hj
theorem k_worst {s : Vc} {i : ab_I} (hI : InT s) (hX : InXs s) (hT : TwR 2 s i) (hL : LwsR s i) (b n d : Nat) (hb : b < nB s) (hn : n ≤ 12) (hn1 : 1 ≤ n) (hd : 1 ≤ d ∧ d ≤ 3) : ab_K 5 50 [.ref 72, .int (nI b), .int (nI n), .int (nI d)] i (fun v i' => v = some (.int (wst b n d s)) ∧ ol2 i i') := by
  refine k_of rfl ?_
  refine r_go 4 rfl ?_ ?_
  · (first | exact trivial | assumption | (simp (disch := omega) [ab_all, ab_nz, *]; done))
  exact r_lk (pw_outer (i0 := i) hI hX hT hL hb hn hn1 hd 11 0 i (by decide) (by decide) ol2_rf) rfl
def sbm (b n : Nat) (s : Vc) : Nat := if wst b n 3 s < wst b n (if wst b n 2 s < wst b n 1 s then 2 else 1) s then 3 else (if wst b n 2 s < wst b n 1 s then 2 else 1)
theorem wst_rg {b n d : Nat} {s : Vc} (hI : InT s) : (wst b n d s).toInt ≤ 2000000 := (ws_rg (fun r hr => pains_rg (In_stz hI (by omega)).1)).2
theorem sbm_c {b n : Nat} {s : Vc} (hI : InT s) : wgC (wst b n 3 s) 3 (wgC (wst b n 2 s) 2 (wgC (wst b n 1 s) 1 (nI 0, nI 2147483647))) = (nI (sbm b n s), wst b n (sbm b n s) s) := by
  have e1 : wgC (wst b n 1 s) 1 (nI 0, nI 2147483647) = (nI 1, wst b n 1 s) := if_pos (by show _ < nI 2147483647; rw [Int32.lt_iff_toInt_lt, c_i (by decide)]; have := wst_rg (b := b) (n := n) (d := 1) hI; omega)
  rw [e1]
  unfold sbm wgC
  by_cases h : wst b n 2 s < wst b n 1 s
  · rw [if_pos h, if_pos h]
    by_cases h2 : wst b n 3 s < wst b n 2 s
    · rw [if_pos h2, if_pos h2]
    · rw [if_neg h2, if_neg h2]
  · rw [if_neg h, if_neg h]
    by_cases h2 : wst b n 3 s < wst b n 1 s
    · rw [if_pos h2, if_pos h2]
    · rw [if_neg h2, if_neg h2]
def S_storm (b n w : Int32) (m : ab_I) : Int32 × ab_I := if okB (m 219) b ∧ (nI 1 ≤ n ∧ n ≤ nI 12) ∧ nI 0 ≤ w ∧ w ≤ nI 1 then (if w = nI 0 then nI (sbm b.toNatClampNeg n.toNatClampNeg (m 219)) else wst b.toNatClampNeg n.toNatClampNeg (sbm b.toNatClampNeg n.toNatClampNeg (m 219)) (m 219), m) else er m 1
theorem ss_step {b n d : Nat} {s : Vc} {i : ab_I} {Q : Option Value → ab_I → Prop} (hI : InT s) (hX : InXs s) (hT : TwR 2 s i) (hL : LwsR s i) (hb : b < nB s) (hn : n ≤ 12) (hn1 : 1 ≤ n) (hd : 1 ≤ d ∧ d ≤ 3) (K : ∀ j, (j 72 4, j 72 5) = wgC (wst b n d s) d (i 72 4, i 72 5) → ol i j → ab_R 6 tb_X3_seekStormMove 13 [some (.ref 72), some (.int (nI b)), some (.int (nI n)), some (.int (nI (d + 1)))] [] j Q) : ab_R 6 tb_X3_seekStormMove 13 [some (.ref 72), some (.int (nI b)), some (.int (nI n)), some (.int (nI d))] [] i Q := by
  refine r_go 2 rfl ?_ ?_
  · (first | exact trivial | assumption | (simp (disch := omega) [ab_all, ab_nz, *]; done))
  refine r_brF rfl (fun h => by clear K hT hL hI hX; (simp (disch := omega) only [Int32.le_iff_toInt_le, Int32.lt_iff_toInt_lt, c_i, m1_i, m5_i, m33_i] at * <;> omega)) ?_
  refine r_go 6 rfl ?_ ?_
  · (first | exact trivial | assumption | (simp (disch := omega) [ab_all, ab_nz, *]; done))
  refine r_c rfl rfl ((k_worst hI hX hT hL b n d hb hn hn1 hd)) (by decide) ?_
  rintro v i1 ⟨rfl, f1⟩
  refine r_c rfl rfl ((k_weigh d _)) (by decide) ?_
  rintro v i2 ⟨rfl, e2, f2, g2⟩
  refine r_go 2 rfl ?_ ?_
  · (first | exact trivial | assumption | (simp (disch := omega) [ab_all, ab_nz, *]; done))
  rw [nI_add]
  refine K i2 (by rw [e2, f1 72 (by omega) (by decide) (by decide)]) (ol_tr (ol_2 f1) (fun q a _ _ => f2 q (by omega)))
theorem k_seekS {s : Vc} {i : ab_I} (hI : InT s) (hX : InXs s) (hT : TwR 2 s i) (hL : LwsR s i) (b n : Nat) (hb : b < nB s) (hn : n ≤ 12) (hn1 : 1 ≤ n) : ab_K 6 49 [.ref 72, .int (nI b), .int (nI n)] i (fun v i' => v = none ∧ (i' 72 4, i' 72 5) = (nI (sbm b n s), wst b n (sbm b n s) s) ∧ ol i i') := by
  refine k_of rfl ?_
  refine r_go 8 rfl ?_ ?_
  · exact ⟨rfl, rfl⟩
  have o0 : ol i (ab_up (ab_up i 72 5 (nI 2147483647)) 72 4 (nI 0)) := ol_tr (ol_up (by omega)) (ol_up (by omega))
  refine ss_step (d := 1) hI hX (ol_T hT hI o0) (ol_L hL hX o0) hb hn hn1 (by decide) (fun i1 e1 o1 => ?_)
  have o01 := ol_tr o0 o1
  refine ss_step (d := 2) hI hX (ol_T hT hI o01) (ol_L hL hX o01) hb hn hn1 (by decide) (fun i2 e2 o2 => ?_)
  have o02 := ol_tr o01 o2
  refine ss_step (d := 3) hI hX (ol_T hT hI o02) (ol_L hL hX o02) hb hn hn1 (by decide) (fun i3 e3 o3 => ?_)
  refine r_go 2 rfl ?_ ?_
  · exact trivial
  refine r_brT rfl (by decide) ?_
  refine r_ret rfl trivial ?_
  refine ⟨rfl, ?_, ol_tr o02 o3⟩
  rw [e3, e2, e1, up_us, up_ne (by omega), up_us]
  exact sbm_c hI
theorem c_storm {i m : ab_I} (hC : ClsR i m) (hJ : InM m) (x n w : Int32) : ab_K 7 129 [.ref 0, .int x, .int n, .int w] i (clQ i (S_storm x n w m)) := by
  (have hI := hJ.1.1; have hX := InS_X hJ.1; have hT := hC.1.1; have hLw : LwsR (m 219) i := ⟨hC.1.2.1, hC.1.2.2.1⟩; have hE := hC.2.2.2.2.1.1)
  have t2 : i 2 2 = nI (nB (m 219)) := hT.1.1.trans hI.1.1
  refine k_of rfl ?_
  refine r_go 4 rfl ?_ ?_
  · (first | exact trivial | (simp only [ab_all] <;> decide))
  simp only [gr_0_0, gr_0_1, gr_0_3, gr_0_4, gr_0_5, gr_0_6, gr_0_7, gr_1_0, gr_1_1, gr_1_2, gr_1_3, gr_1_4, gr_35_0, gr_35_1, gr_35_2, gr_35_3, gr_35_4]
  refine r_cv rfl rfl ((k_hasB x isT_2 t2 (Nat.le_trans hI.1.2 (by decide)))) (by decide) ?_
  refine r_bE rfl (fun h11 => ?_) (fun h11 => ?_)
  · skip
    refine r_go 2 rfl ?_ ?_
    · (first | exact trivial | (simp only [ab_all] <;> decide))
    refine r_cv rfl rfl ((k_error 1 (by decide) (by decide) hE)) (by decide) ?_
    refine r_ret rfl trivial ?_
    exact cl_to (if_neg (by simp only [h11, if_true, if_false, not_true, not_false_eq_true, and_true, true_and, and_false, false_and, or_true, true_or, or_false, false_or, and_self, or_self, not_false_eq_true])) (cl_er (by decide) (by decide) hJ hC)
  · skip
    refine r_go 3 rfl ?_ ?_
    · (first | exact trivial | (simp only [ab_all] <;> decide))
    refine r_cv rfl trivial ((k_within _ _ _)) (by decide) ?_
    refine r_bE rfl (fun h21 => ?_) (fun h21 => ?_)
    · skip
      refine r_go 2 rfl ?_ ?_
      · (first | exact trivial | (simp only [ab_all] <;> decide))
      refine r_cv rfl rfl ((k_error 1 (by decide) (by decide) hE)) (by decide) ?_
      refine r_ret rfl trivial ?_
      exact cl_to (if_neg (by simp only [h11, h21, if_true, if_false, not_true, not_false_eq_true, and_true, true_and, and_false, false_and, or_true, true_or, or_false, false_or, and_self, or_self, not_false_eq_true])) (cl_er (by decide) (by decide) hJ hC)
    · skip
      refine r_go 3 rfl ?_ ?_
      · (first | exact trivial | (simp only [ab_all] <;> decide))
      refine r_cv rfl trivial ((k_within _ _ _)) (by decide) ?_
      refine r_bN rfl (fun h30 => ?_) (fun h30 => ?_)
      · skip
        refine r_go 4 rfl ?_ ?_
        · (first | exact trivial | (simp only [ab_all] <;> decide))
        have hP : S_storm x n w m = (if w = nI 0 then nI (sbm x.toNatClampNeg n.toNatClampNeg (m 219)) else wst x.toNatClampNeg n.toNatClampNeg (sbm x.toNatClampNeg n.toNatClampNeg (m 219)) (m 219), m) := if_pos ⟨h11, h21, h30⟩
        obtain ⟨b, hb, rfl⟩ := of_rg h11
        obtain ⟨N, hN1, hN, rfl⟩ := of_bt1 (by decide) h21
        rw [nI_cl (by have := hI.1.2; omega), nI_cl (by have := hI.1.2; omega)] at hP
        simp only [gr_0_0, gr_0_1, gr_0_3, gr_0_4, gr_0_5, gr_0_6, gr_0_7, gr_1_0, gr_1_1, gr_1_2, gr_1_3, gr_1_4, gr_35_0, gr_35_1, gr_35_2, gr_35_3, gr_35_4]
        refine r_c rfl rfl ((k_seekS hI hX hT hLw b N hb hN hN1)) (by decide) ?_
        rintro v i1 ⟨rfl, e1, f1⟩
        have ea : i1 72 4 = nI (sbm b N (m 219)) := congrArg Prod.fst e1
        have eb : i1 72 5 = wst b N (sbm b N (m 219)) (m 219) := congrArg Prod.snd e1
        refine r_go 1 rfl ?_ ?_
        · (first | exact trivial | (simp only [ab_all] <;> decide))
        refine r_ne rfl (fun h49 => ?_) (fun h49 => ?_)
        · skip
          refine r_go 3 rfl ?_ ?_
          · (first | exact trivial | (simp only [ab_all] <;> decide))
          refine r_ret rfl trivial ?_
          simp only [gr_0_0, gr_0_1, gr_0_3, gr_0_4, gr_0_5, gr_0_6, gr_0_7, gr_1_0, gr_1_1, gr_1_2, gr_1_3, gr_1_4, gr_35_0, gr_35_1, gr_35_2, gr_35_3, gr_35_4]
          first | (rw [if_pos h49] at hP; rw [ea]; exact cl_to hP (cl_ol hJ hC f1)) | (rw [if_neg h49] at hP; rw [eb]; exact cl_to hP (cl_ol hJ hC f1))
        · skip
          refine r_go 4 rfl ?_ ?_
          · (first | exact trivial | (simp only [ab_all] <;> decide))
          refine r_ret rfl trivial ?_
          simp only [gr_0_0, gr_0_1, gr_0_3, gr_0_4, gr_0_5, gr_0_6, gr_0_7, gr_1_0, gr_1_1, gr_1_2, gr_1_3, gr_1_4, gr_35_0, gr_35_1, gr_35_2, gr_35_3, gr_35_4]
          first | (rw [if_pos h49] at hP; rw [ea]; exact cl_to hP (cl_ol hJ hC f1)) | (rw [if_neg h49] at hP; rw [eb]; exact cl_to hP (cl_ol hJ hC f1))
      · skip
        refine r_go 2 rfl ?_ ?_
        · (first | exact trivial | (simp only [ab_all] <;> decide))
        refine r_cv rfl rfl ((k_error 1 (by decide) (by decide) hE)) (by decide) ?_
        refine r_ret rfl trivial ?_
        exact cl_to (if_neg (by simp only [h11, h21, h30, if_true, if_false, not_true, not_false_eq_true, and_true, true_and, and_false, false_and, or_true, true_or, or_false, false_or, and_self, or_self, not_false_eq_true])) (cl_er (by decide) (by decide) hJ hC)
theorem n_storm {m : ab_I} (hJ : InM m) (b n w : Int32) : InM (S_storm b n w m).2 := by
  unfold S_storm
  split
  · exact hJ
  · exact InM_er hJ
theorem mw_lp {b n d : Nat} {s : Vc} {i0 : ab_I} (hI : InT s) (hX : InXs s) (hb : b < nB s) (hn : n ≤ 12) (hn1 : 1 ≤ n) (mm r : Nat) (i : ab_I) (hmm : 10 - r < mm) (hr : r ≤ 10) (hs : i 219 = s) (h13 : i 218 13 = (-1)) (hi : fo i0 i) : ab_R 9 tb_X11_worst 6 [some (.ref 218), some (.int (nI b)), some (.int (nI n)), some (.int (nI d)), some (.int (wsN (fun r => pains (stz b n d r s)) r)), some (.int (nI r)), none] [] i (fun v i' => v = some (.int (wst b n d s)) ∧ i' 219 = s ∧ i' 218 13 = (-1) ∧ fo i0 i') := by
  induction mm generalizing r i with
  | zero => exact absurd hmm (by omega)
  | succ mm ih =>
    refine r_go 2 rfl ?_ ?_
    · (first | exact trivial | assumption | (simp (disch := omega) [ab_all, ab_nz, *]; done))
    refine r_le rfl (fun h10 => ?_) (fun h10 => ?_)
    · skip
      refine r_go 1 rfl ?_ ?_
      · (first | exact trivial | assumption | (simp (disch := omega) [ab_all, ab_nz, *]; done))
      refine r_ret rfl trivial ?_
      have e : r = 10 := by clear hi hI hX hs h13; (simp (disch := omega) only [Int32.le_iff_toInt_le, Int32.lt_iff_toInt_lt, c_i, m1_i, m5_i, m33_i] at * <;> omega)
      subst e
      exact ⟨rfl, hs, h13, hi⟩
    · skip
      have hrl : r ≤ 9 := by clear hi hI hX hs h13; (simp (disch := omega) only [Int32.le_iff_toInt_le, Int32.lt_iff_toInt_lt, c_i, m1_i, m5_i, m33_i] at * <;> omega)
      have hZ := In_rnd (r := r) hI hrl
      have hY := In_hour (mb := b) (mw := nI d - nI 2) hZ.1
      have hW := In_stz (b := b) (n := n) (d := d) (r := r) hI hrl
      have hXY : InXs (hour b (nI d - nI 2) (rnd r s)) := InXs_rt hX (rt_tr hZ.2.2 (rt_kp (kp_hour hZ.1)))
      refine r_go 4 rfl ?_ ?_
      · (simp only [ab_all, gr_218_0, gr_218_2] <;> decide)
      rw [gr_218_0, gr_218_2]
      refine r_cn rfl trivial ((m_carry gt_219 gt_221 (by decide))) (by decide) ?_
      skip
      refine r_go 8 rfl ?_ ?_
      · (simp only [ab_all, gr_218_0, nI_add]; repeat' (first | exact ix_219 (by omega) | rfl | decide | (unfold ab_nz; decide) | refine And.intro ?_ ?_))
      rw [gr_218_0, nI_cl (by decide)]
      have s1 : ab_row i 221 (cy (i 219) (i 221)) 219 = s := (funext (fun b => ab_row_ne (by decide))).trans hs
      rw [up_rowI s1, show upd s 3 (nI r) = rnd r s from rfl]
      refine r_c rfl rfl ((m_toldH b _ row_s hZ.1 (InXs_rt hX hZ.2.2) (by rw [hZ.2.1.1]; exact hb))) (by decide) ?_
      rintro v i2 ⟨rfl, s2, t2, p2, f2⟩
      refine r_go 4 rfl ?_ ?_
      · (first | exact trivial | assumption | (simp (disch := omega) [ab_all, ab_nz, *]; done))
      rw [pk_sub hn1]
      refine r_c rfl rfl ((m_go (n - 1) (by omega) s2 hY.1 hXY t2)) (by decide) ?_
      rintro v i3 ⟨rfl, s3, f3⟩
      have s3' : i3 219 = stz b n d r s := s3
      refine r_go 1 rfl ?_ ?_
      · (first | exact trivial | assumption | (simp (disch := omega) [ab_all, ab_nz, *]; done))
      refine r_c rfl rfl ((m_pains s3' hW.1 (InXs_rt hX hW.2.2))) (by decide) ?_
      rintro v i4 ⟨rfl, f4⟩
      refine r_go 5 rfl ?_ ?_
      · (simp only [ab_all, gr_218_0, gr_218_2] <;> decide)
      rw [gr_218_0, gr_218_2]
      refine r_cn rfl trivial ((m_carry gt_221 gt_219 (by decide))) (by decide) ?_
      refine r_go 2 rfl ?_ ?_
      · (first | exact trivial | assumption | (simp (disch := omega) [ab_all, ab_nz, *]; done))
      refine r_le rfl (fun h66 => ?_) (fun h66 => ?_)
      · skip
        refine r_go 4 rfl ?_ ?_
        · (first | exact trivial | assumption | (simp (disch := omega) [ab_all, ab_nz, *]; done))
        rw [nI_add]
        have p4 : i4 221 = cy s (i 221) := by
            rw [f4 221 (by decide) (by decide), f3 221 (by decide) (by decide) (by decide) (by decide), p2]
            show ab_row (ab_row i 221 (cy (i 219) (i 221))) 219 (rnd r s) 221 = _
            rw [show ab_row (ab_row i 221 (cy (i 219) (i 221))) 219 (rnd r s) 221 = ab_row i 221 (cy (i 219) (i 221)) 221 from funext (fun b => ab_row_ne (by decide)), row_s, hs]
        have s4 : i4 219 = stz b n d r s := (f4 219 (by decide) (by decide)).trans s3'
        have e9 : ab_row i4 219 (cy (i4 221) (i4 219)) 219 = s := by rw [row_s, p4, s4]; exact cy_back (rt_480 hW.2.2)
        have e13 : ab_row i4 219 (cy (i4 221) (i4 219)) 218 13 = (-1) := by rw [ab_row_ne (by decide), f4 218 (by decide) (by decide), f3 218 (by decide) (by decide) (by decide) (by decide)]; exact t2
        have ef : fo i0 (ab_row i4 219 (cy (i4 221) (i4 219))) := fo_tr hi (fo_tr (fo_tr (fo_tr (fo_tr (fo_tr fo_r1 fo_r9) f2) (fo_fh f3)) (fo_sr f4)) fo_r9)
        have K := ih (r + 1) _ (by omega) (by omega) e9 e13 ef
        have ew : wsN (fun r => pains (stz b n d r s)) (r + 1) = if wsN (fun r => pains (stz b n d r s)) r < pains (stz b n d r s) then pains (stz b n d r s) else wsN (fun r => pains (stz b n d r s)) r := rfl
        rw [ew] at K
        first | rw [if_pos h66] at K | rw [if_neg h66] at K
        exact r_lk K rfl
      · skip
        refine r_go 5 rfl ?_ ?_
        · (first | exact trivial | assumption | (simp (disch := omega) [ab_all, ab_nz, *]; done))
        rw [nI_add]
        have p4 : i4 221 = cy s (i 221) := by
            rw [f4 221 (by decide) (by decide), f3 221 (by decide) (by decide) (by decide) (by decide), p2]
            show ab_row (ab_row i 221 (cy (i 219) (i 221))) 219 (rnd r s) 221 = _
            rw [show ab_row (ab_row i 221 (cy (i 219) (i 221))) 219 (rnd r s) 221 = ab_row i 221 (cy (i 219) (i 221)) 221 from funext (fun b => ab_row_ne (by decide)), row_s, hs]
        have s4 : i4 219 = stz b n d r s := (f4 219 (by decide) (by decide)).trans s3'
        have e9 : ab_row i4 219 (cy (i4 221) (i4 219)) 219 = s := by rw [row_s, p4, s4]; exact cy_back (rt_480 hW.2.2)
        have e13 : ab_row i4 219 (cy (i4 221) (i4 219)) 218 13 = (-1) := by rw [ab_row_ne (by decide), f4 218 (by decide) (by decide), f3 218 (by decide) (by decide) (by decide) (by decide)]; exact t2
        have ef : fo i0 (ab_row i4 219 (cy (i4 221) (i4 219))) := fo_tr hi (fo_tr (fo_tr (fo_tr (fo_tr (fo_tr fo_r1 fo_r9) f2) (fo_fh f3)) (fo_sr f4)) fo_r9)
        have K := ih (r + 1) _ (by omega) (by omega) e9 e13 ef
        have ew : wsN (fun r => pains (stz b n d r s)) (r + 1) = if wsN (fun r => pains (stz b n d r s)) r < pains (stz b n d r s) then pains (stz b n d r s) else wsN (fun r => pains (stz b n d r s)) r := rfl
        rw [ew] at K
        first | rw [if_pos h66] at K | rw [if_neg h66] at K
        exact r_lk K rfl
theorem m_worst {i : ab_I} {s : Vc} (hs : i 219 = s) (hI : InT s) (hX : InXs s) (h13 : i 218 13 = (-1)) (b n d : Nat) (hb : b < nB s) (hn : n ≤ 12) (hn1 : 1 ≤ n) : ab_K 9 217 [.ref 218, .int (nI b), .int (nI n), .int (nI d)] i (fun v i' => v = some (.int (wst b n d s)) ∧ i' 219 = s ∧ i' 218 13 = (-1) ∧ fo i i') := by
  refine k_of rfl ?_
  refine r_go 4 rfl ?_ ?_
  · (first | exact trivial | assumption | (simp (disch := omega) [ab_all, ab_nz, *]; done))
  exact r_lk (mw_lp (i0 := i) hI hX hb hn hn1 11 0 i (by decide) (by decide) hs h13 fo_rf) rfl
theorem mst_step {b n a d : Nat} {s : Vc} {w : Int32} {i : ab_I} {Q : Option Value → ab_I → Prop} (hI : InT s) (hX : InXs s) (hb : b < nB s) (hn : n ≤ 12) (hn1 : 1 ≤ n) (hd : d ≤ 3) (ha : a ≤ 3) (hs : i 219 = s) (h13 : i 218 13 = (-1)) (K : ∀ j, j 219 = s → j 218 13 = (-1) → fo i j → ab_R 10 tb_X11_storm 39 [some (.ref 218), some (.int (nI b)), some (.int (nI n)), some (.int w), some (.int (nI (if wst b n d s < wst b n a s then d else a))), some (.int (nI (d + 1)))] [] j Q) : ab_R 10 tb_X11_storm 39 [some (.ref 218), some (.int (nI b)), some (.int (nI n)), some (.int w), some (.int (nI a)), some (.int (nI d))] [] i Q := by
  refine r_go 2 rfl ?_ ?_
  · (first | exact trivial | assumption | (simp (disch := omega) [ab_all, ab_nz, *]; done))
  refine r_brF rfl (fun h => by clear K hs h13 hI hX; (simp (disch := omega) only [Int32.le_iff_toInt_le, Int32.lt_iff_toInt_lt, c_i, m1_i, m5_i, m33_i] at * <;> omega)) ?_
  refine r_go 4 rfl ?_ ?_
  · (first | exact trivial | assumption | (simp (disch := omega) [ab_all, ab_nz, *]; done))
  refine r_c rfl rfl ((m_worst hs hI hX h13 b n d hb hn hn1)) (by decide) ?_
  rintro v i1 ⟨rfl, s1, t1, f1⟩
  refine r_go 4 rfl ?_ ?_
  · (first | exact trivial | assumption | (simp (disch := omega) [ab_all, ab_nz, *]; done))
  refine r_c rfl rfl ((m_worst s1 hI hX t1 b n a hb hn hn1)) (by decide) ?_
  rintro v i2 ⟨rfl, s2, t2, f2⟩
  refine r_le rfl (fun h61 => ?_) (fun h61 => ?_)
  · skip
    refine r_go 4 rfl ?_ ?_
    · (first | exact trivial | assumption | (simp (disch := omega) [ab_all, ab_nz, *]; done))
    rw [nI_add]
    have k := K i2 s2 t2 (fo_tr f1 f2)
    first | rw [if_pos h61] at k | rw [if_neg h61] at k
    exact k
  · skip
    refine r_go 5 rfl ?_ ?_
    · (first | exact trivial | assumption | (simp (disch := omega) [ab_all, ab_nz, *]; done))
    rw [nI_add]
    have k := K i2 s2 t2 (fo_tr f1 f2)
    first | rw [if_pos h61] at k | rw [if_neg h61] at k
    exact k
theorem m_storm {i m : ab_I} (hm : mo i m) (hJ : InM m) (h13 : i 218 13 = (-1)) (x n w : Int32) : ab_K 10 218 [.ref 218, .int x, .int n, .int w] i (rfQ i (S_storm x n w m)) := by
  (have hI := hJ.1.1; have hX := InS_X hJ.1; have hs := hm.1)
  refine k_of rfl ?_
  refine r_go 2 rfl ?_ ?_
  · (first | exact trivial | assumption | (simp (disch := omega) [ab_all, ab_nz, *]; done))
  refine r_cv rfl rfl ((m_isB x hs hI)) (by decide) ?_
  refine r_bE rfl (fun h5 => ?_) (fun h5 => ?_)
  · skip
    refine r_go 2 rfl ?_ ?_
    · (first | exact trivial | assumption | (simp (disch := omega) [ab_all, ab_nz, *]; done))
    refine r_cv rfl rfl ((m_error 1 (by decide))) (by decide) ?_
    refine r_ret rfl trivial ?_
    exact rf_to (if_neg (by simp only [h5, if_true, if_false, not_true, not_false_eq_true, and_true, true_and, and_false, false_and, or_true, true_or, or_false, false_or, and_self, or_self, not_false_eq_true])) (rf_er hm h13)
  · skip
    refine r_go 3 rfl ?_ ?_
    · (first | exact trivial | assumption | (simp (disch := omega) [ab_all, ab_nz, *]; done))
    refine r_cv rfl trivial ((m_in _ _ _)) (by decide) ?_
    refine r_bE rfl (fun h15 => ?_) (fun h15 => ?_)
    · skip
      refine r_go 2 rfl ?_ ?_
      · (first | exact trivial | assumption | (simp (disch := omega) [ab_all, ab_nz, *]; done))
      refine r_cv rfl rfl ((m_error 1 (by decide))) (by decide) ?_
      refine r_ret rfl trivial ?_
      exact rf_to (if_neg (by simp only [h5, h15, if_true, if_false, not_true, not_false_eq_true, and_true, true_and, and_false, false_and, or_true, true_or, or_false, false_or, and_self, or_self, not_false_eq_true])) (rf_er hm h13)
    · skip
      refine r_go 3 rfl ?_ ?_
      · (first | exact trivial | assumption | (simp (disch := omega) [ab_all, ab_nz, *]; done))
      refine r_cv rfl trivial ((m_in _ _ _)) (by decide) ?_
      refine r_bN rfl (fun h24 => ?_) (fun h24 => ?_)
      · skip
        have hP : S_storm x n w m = (if w = nI 0 then nI (sbm x.toNatClampNeg n.toNatClampNeg (m 219)) else wst x.toNatClampNeg n.toNatClampNeg (sbm x.toNatClampNeg n.toNatClampNeg (m 219)) (m 219), m) := if_pos ⟨h5, h15, h24⟩
        obtain ⟨b, hb, rfl⟩ := of_rg h5
        obtain ⟨N, hN1, hN, rfl⟩ := of_bt1 (by decide) h15
        rw [nI_cl (by have := hI.1.2; omega), nI_cl (by have := hI.1.2; omega)] at hP
        refine r_go 4 rfl ?_ ?_
        · (first | exact trivial | assumption | (simp (disch := omega) [ab_all, ab_nz, *]; done))
        refine mst_step (a := 1) (d := 2) hI hX hb hN hN1 (by decide) (by decide) hs h13 (fun i1 s1 t1 f1 => ?_)
        refine mst_step (d := 3) hI hX hb hN hN1 (by decide) (by split <;> decide) s1 t1 (fun i2 s2 t2 f2 => ?_)
        refine r_go 2 rfl ?_ ?_
        · exact trivial
        refine r_brT rfl (by decide) ?_
        refine r_go 1 rfl ?_ ?_
        · exact trivial
        refine r_ne rfl (fun h80 => ?_) (fun h80 => ?_)
        · refine r_go 4 rfl ?_ ?_
          · exact trivial
          refine r_c rfl rfl (m_worst s2 hI hX t2 b N (sbm b N (m 219)) hb hN hN1) (by decide) ?_
          rintro v i3 ⟨rfl, s3, t3, f3⟩
          refine r_ret rfl trivial ?_
          rw [if_neg h80] at hP
          exact rf_to hP (rf_fo hm (fo_tr (fo_tr f1 f2) f3) s3 t3)
        · refine r_go 2 rfl ?_ ?_
          · exact trivial
          refine r_ret rfl trivial ?_
          rw [if_pos h80] at hP
          exact rf_to hP (rf_fo hm (fo_tr f1 f2) s2 t2)
      · skip
        refine r_go 2 rfl ?_ ?_
        · (first | exact trivial | assumption | (simp (disch := omega) [ab_all, ab_nz, *]; done))
        refine r_cv rfl rfl ((m_error 1 (by decide))) (by decide) ?_
        refine r_ret rfl trivial ?_
        exact rf_to (if_neg (by simp only [h5, h15, h24, if_true, if_false, not_true, not_false_eq_true, and_true, true_and, and_false, false_and, or_true, true_or, or_false, false_or, and_self, or_self, not_false_eq_true])) (rf_er hm h13)
/-! the best row, the reference's side -/
theorem k_rowN {i : ab_I} {a : Nat} (ha : a < 2147483648) : ab_K 1 214 [.int (nI a)] i (ab_V (.int (bI (rwB 6 a = true))) i) := by
  rw [← bI_cg (show isRw (nI a) ↔ rwB 6 a = true by unfold isRw; rw [nI_cl ha, c_i ha]; exact ⟨fun z => z.2, fun z => ⟨by omega, z⟩⟩)]
  exact m_isRow _
theorem on1_le : ∀ n, n ≤ 5 → on1 n ≤ 11111 := by decide
theorem mb_ones {N : Nat} {x y : Int32} {i : ab_I} {Q : Option Value → ab_I → Prop} (hN : N ≤ 5) (K : ab_R 10 tb_X11_best 59 [some (.ref 218), some (.int x), some (.int (nI N)), some (.int y), some (.int (nI (on1 N))), some (.int (nI N)), none, none, none] [] i Q) (mm c : Nat) (hmm : N - c < mm) (hc : c ≤ N) : ab_R 10 tb_X11_best 38 [some (.ref 218), some (.int x), some (.int (nI N)), some (.int y), some (.int (nI (on1 c))), some (.int (nI c)), none, none, none] [] i Q := by
  induction mm generalizing c with
  | zero => exact absurd hmm (by omega)
  | succ mm ih =>
    refine r_go 2 rfl ?_ ?_
    · (first | exact trivial | assumption | (simp (disch := omega) [ab_all, ab_nz, *]; done))
    refine r_le rfl (fun h41 => ?_) (fun h41 => ?_)
    · skip
      have e : c = N := by clear K; (simp (disch := omega) only [Int32.le_iff_toInt_le, Int32.lt_iff_toInt_lt, c_i, m1_i, m5_i, m33_i] at * <;> omega)
      subst e
      exact K
    · skip
      have hcl : c < N := by clear K; (simp (disch := omega) only [Int32.le_iff_toInt_le, Int32.lt_iff_toInt_lt, c_i, m1_i, m5_i, m33_i] at * <;> omega)
      refine r_go 8 rfl ?_ ?_
      · (first | exact trivial | assumption | (simp (disch := omega) [ab_all, ab_nz, *]; done))
      rw [pk_mul, nI_add, nI_add]
      exact ih (c + 1) (by omega) (by omega)
theorem mb_rows {b F : Nat} {w : Int32} {s : Vc} {i0 : ab_I} (hI : InT s) (hX : InXs s) (hb : b < nB s) (hF : F ≤ 11111) (mm c a : Nat) (st : Int32 × Int32) (i : ab_I) (hmm : c < mm) (hc : a + c = 3 * F + 1) (hs : i 219 = s) (h13 : i 218 13 = (-1)) (hi : fo i0 i) : ab_R 10 tb_X11_best 69 [some (.ref 218), some (.int (nI b)), none, some (.int w), some (.int (nI F)), some (.int st.1), some (.int st.2), some (.int (nI a)), none] [] i (fun v i' => v = some (.int (if w = nI 0 then (frF (fun r => wgR (pains (mv b r s)) r) c a st).1 else (frF (fun r => wgR (pains (mv b r s)) r) c a st).2)) ∧ i' 219 = s ∧ i' 218 13 = (-1) ∧ fo i0 i') := by
  induction mm generalizing c a st i with
  | zero => exact absurd hmm (by omega)
  | succ mm ih =>
    refine r_go 4 rfl ?_ ?_
    · (first | exact trivial | assumption | (simp (disch := omega) [ab_all, ab_nz, *]; done))
    rw [pk_mul]
    refine r_br rfl (fun h75 => ?_) (fun h75 => ?_)
    · skip
      have e : c = 0 := by clear hi hI hX hs h13; (simp (disch := omega) only [Int32.le_iff_toInt_le, Int32.lt_iff_toInt_lt, c_i, m1_i, m5_i, m33_i] at * <;> omega)
      subst e
      refine r_go 1 rfl ?_ ?_
      · (first | exact trivial | assumption | (simp (disch := omega) [ab_all, ab_nz, *]; done))
      refine r_ne rfl (fun h123 => ?_) (fun h123 => ?_)
      · skip
        refine r_go 1 rfl ?_ ?_
        · (first | exact trivial | assumption | (simp (disch := omega) [ab_all, ab_nz, *]; done))
        refine r_ret rfl trivial ?_
        first | exact ⟨by rw [if_pos h123]; rfl, hs, h13, hi⟩ | exact ⟨by rw [if_neg h123]; rfl, hs, h13, hi⟩
      · skip
        refine r_go 2 rfl ?_ ?_
        · (first | exact trivial | assumption | (simp (disch := omega) [ab_all, ab_nz, *]; done))
        refine r_ret rfl trivial ?_
        first | exact ⟨by rw [if_pos h123]; rfl, hs, h13, hi⟩ | exact ⟨by rw [if_neg h123]; rfl, hs, h13, hi⟩
    · skip
      obtain ⟨c', rfl⟩ := pos_s (f := c) (by clear hi hI hX hs h13; (simp (disch := omega) only [Int32.le_iff_toInt_le, Int32.lt_iff_toInt_lt, c_i, m1_i, m5_i, m33_i] at * <;> omega))
      refine r_go 1 rfl ?_ ?_
      · (first | exact trivial | assumption | (simp (disch := omega) [ab_all, ab_nz, *]; done))
      refine r_cv rfl trivial ((k_rowN (by omega))) (by decide) ?_
      refine r_bE rfl (fun h83 => ?_) (fun h83 => ?_)
      · skip
        refine r_go 2 rfl ?_ ?_
        · (first | exact trivial | assumption | (simp (disch := omega) [ab_all, ab_nz, *]; done))
        rw [nI_add]
        have ew : frF (fun r => wgR (pains (mv b r s)) r) (c' + 1) a st = frF (fun r => wgR (pains (mv b r s)) r) c' (a + 1) (if rwB 6 a = true then wgR (pains (mv b a s)) a st else st) := rfl
        rw [ew]
        first | rw [if_pos h83] | rw [if_neg h83]
        first | rw [show wgR (pains (mv b a s)) a st = (nI a, pains (mv b a s)) from if_pos (Or.inl h98)] | rw [show wgR (pains (mv b a s)) a st = (nI a, pains (mv b a s)) from if_pos (Or.inr h105)] | rw [show wgR (pains (mv b a s)) a st = st from if_neg (fun z => z.elim h98 h105)] | skip
        first | exact r_lk (ih c' (a + 1) _ i1 (by omega) (by omega) s1 t1 (fo_tr hi f1)) rfl | exact r_lk (ih c' (a + 1) _ i (by omega) (by omega) hs h13 hi) rfl
      · skip
        refine r_go 3 rfl ?_ ?_
        · (first | exact trivial | assumption | (simp (disch := omega) [ab_all, ab_nz, *]; done))
        refine r_c rfl rfl ((m_painsBy hs hI hX h13 b a hb h83)) (by decide) ?_
        rintro v i1 ⟨rfl, s1, t1, f1⟩
        refine r_go 3 rfl ?_ ?_
        · (first | exact trivial | assumption | (simp (disch := omega) [ab_all, ab_nz, *]; done))
        refine r_br rfl (fun h98 => ?_) (fun h98 => ?_)
        · skip
          refine r_go 6 rfl ?_ ?_
          · (first | exact trivial | assumption | (simp (disch := omega) [ab_all, ab_nz, *]; done))
          rw [nI_add]
          have ew : frF (fun r => wgR (pains (mv b r s)) r) (c' + 1) a st = frF (fun r => wgR (pains (mv b r s)) r) c' (a + 1) (if rwB 6 a = true then wgR (pains (mv b a s)) a st else st) := rfl
          rw [ew]
          first | rw [if_pos h83] | rw [if_neg h83]
          first | rw [show wgR (pains (mv b a s)) a st = (nI a, pains (mv b a s)) from if_pos (Or.inl h98)] | rw [show wgR (pains (mv b a s)) a st = (nI a, pains (mv b a s)) from if_pos (Or.inr h105)] | rw [show wgR (pains (mv b a s)) a st = st from if_neg (fun z => z.elim h98 h105)] | skip
          first | exact r_lk (ih c' (a + 1) _ i1 (by omega) (by omega) s1 t1 (fo_tr hi f1)) rfl | exact r_lk (ih c' (a + 1) _ i (by omega) (by omega) hs h13 hi) rfl
        · skip
          refine r_go 2 rfl ?_ ?_
          · (first | exact trivial | assumption | (simp (disch := omega) [ab_all, ab_nz, *]; done))
          refine r_le rfl (fun h105 => ?_) (fun h105 => ?_)
          · skip
            refine r_go 2 rfl ?_ ?_
            · (first | exact trivial | assumption | (simp (disch := omega) [ab_all, ab_nz, *]; done))
            rw [nI_add]
            have ew : frF (fun r => wgR (pains (mv b r s)) r) (c' + 1) a st = frF (fun r => wgR (pains (mv b r s)) r) c' (a + 1) (if rwB 6 a = true then wgR (pains (mv b a s)) a st else st) := rfl
            rw [ew]
            first | rw [if_pos h83] | rw [if_neg h83]
            first | rw [show wgR (pains (mv b a s)) a st = (nI a, pains (mv b a s)) from if_pos (Or.inl h98)] | rw [show wgR (pains (mv b a s)) a st = (nI a, pains (mv b a s)) from if_pos (Or.inr h105)] | rw [show wgR (pains (mv b a s)) a st = st from if_neg (fun z => z.elim h98 h105)] | skip
            first | exact r_lk (ih c' (a + 1) _ i1 (by omega) (by omega) s1 t1 (fo_tr hi f1)) rfl | exact r_lk (ih c' (a + 1) _ i (by omega) (by omega) hs h13 hi) rfl
          · skip
            refine r_go 6 rfl ?_ ?_
            · (first | exact trivial | assumption | (simp (disch := omega) [ab_all, ab_nz, *]; done))
            rw [nI_add]
            have ew : frF (fun r => wgR (pains (mv b r s)) r) (c' + 1) a st = frF (fun r => wgR (pains (mv b r s)) r) c' (a + 1) (if rwB 6 a = true then wgR (pains (mv b a s)) a st else st) := rfl
            rw [ew]
            first | rw [if_pos h83] | rw [if_neg h83]
            first | rw [show wgR (pains (mv b a s)) a st = (nI a, pains (mv b a s)) from if_pos (Or.inl h98)] | rw [show wgR (pains (mv b a s)) a st = (nI a, pains (mv b a s)) from if_pos (Or.inr h105)] | rw [show wgR (pains (mv b a s)) a st = st from if_neg (fun z => z.elim h98 h105)] | skip
            first | exact r_lk (ih c' (a + 1) _ i1 (by omega) (by omega) s1 t1 (fo_tr hi f1)) rfl | exact r_lk (ih c' (a + 1) _ i (by omega) (by omega) hs h13 hi) rfl
theorem m_best {i m : ab_I} (hm : mo i m) (hJ : InM m) (h13 : i 218 13 = (-1)) (x n w : Int32) : ab_K 10 216 [.ref 218, .int x, .int n, .int w] i (rfQ i (S_best x n w m)) := by
  (have hI := hJ.1.1; have hX := InS_X hJ.1; have hs := hm.1)
  refine k_of rfl ?_
  refine r_go 2 rfl ?_ ?_
  · (first | exact trivial | assumption | (simp (disch := omega) [ab_all, ab_nz, *]; done))
  refine r_cv rfl rfl ((m_isB x hs hI)) (by decide) ?_
  refine r_bE rfl (fun h5 => ?_) (fun h5 => ?_)
  · skip
    refine r_go 2 rfl ?_ ?_
    · (first | exact trivial | assumption | (simp (disch := omega) [ab_all, ab_nz, *]; done))
    refine r_cv rfl rfl ((m_error 1 (by decide))) (by decide) ?_
    refine r_ret rfl trivial ?_
    exact rf_to (if_neg (by simp only [h5, if_true, if_false, not_true, not_false_eq_true, and_true, true_and, and_false, false_and, or_true, true_or, or_false, false_or, and_self, or_self, not_false_eq_true])) (rf_er hm h13)
  · skip
    refine r_go 3 rfl ?_ ?_
    · (first | exact trivial | assumption | (simp (disch := omega) [ab_all, ab_nz, *]; done))
    refine r_cv rfl trivial ((m_in _ _ _)) (by decide) ?_
    refine r_bE rfl (fun h14 => ?_) (fun h14 => ?_)
    · skip
      refine r_go 2 rfl ?_ ?_
      · (first | exact trivial | assumption | (simp (disch := omega) [ab_all, ab_nz, *]; done))
      refine r_cv rfl rfl ((m_error 1 (by decide))) (by decide) ?_
      refine r_ret rfl trivial ?_
      exact rf_to (if_neg (by simp only [h5, h14, if_true, if_false, not_true, not_false_eq_true, and_true, true_and, and_false, false_and, or_true, true_or, or_false, false_or, and_self, or_self, not_false_eq_true])) (rf_er hm h13)
    · skip
      refine r_go 3 rfl ?_ ?_
      · (first | exact trivial | assumption | (simp (disch := omega) [ab_all, ab_nz, *]; done))
      refine r_cv rfl trivial ((m_in _ _ _)) (by decide) ?_
      refine r_bN rfl (fun h23 => ?_) (fun h23 => ?_)
      · skip
        have hP : S_best x n w m = (if w = nI 0 then (bst x.toNatClampNeg n.toNatClampNeg (m 219)).1 else (bst x.toNatClampNeg n.toNatClampNeg (m 219)).2, m) := if_pos ⟨h5, h14, h23⟩
        obtain ⟨b, hb, rfl⟩ := of_rg h5
        obtain ⟨N, hN1, hN, rfl⟩ := of_bt1 (by decide) h14
        rw [nI_cl (by have := hI.1.2; omega), nI_cl (by have := hI.1.2; omega)] at hP
        refine r_go 4 rfl ?_ ?_
        · (first | exact trivial | assumption | (simp (disch := omega) [ab_all, ab_nz, *]; done))
        refine mb_ones hN ?_ (N + 1) 0 (by omega) (by omega)
        refine r_go 6 rfl ?_ ?_
        · exact trivial
        have K := mb_rows (i0 := i) (w := w) hI hX hb (on1_le N hN) (2 * on1 N + 2) (2 * on1 N + 1) (on1 N) ((-1), nI 0) i (by omega) (by omega) hs h13 fo_rf
        have e := frF_tr (W := fun r => wgR (pains (mv b r (m 219))) r) (st := ((-1), nI 0)) (r := 0) hN rwB_0
        rw [Nat.mul_zero, Nat.zero_add] at e
        rw [e] at K
        refine r_mono (r_lk K rfl) ?_
        rintro v j ⟨rfl, s1, t1, f1⟩
        exact rf_to hP (rf_fo hm f1 s1 t1)
      · skip
        refine r_go 2 rfl ?_ ?_
        · (first | exact trivial | assumption | (simp (disch := omega) [ab_all, ab_nz, *]; done))
        refine r_cv rfl rfl ((m_error 1 (by decide))) (by decide) ?_
        refine r_ret rfl trivial ?_
        exact rf_to (if_neg (by simp only [h5, h14, h23, if_true, if_false, not_true, not_false_eq_true, and_true, true_and, and_false, false_and, or_true, true_or, or_false, false_or, and_self, or_self, not_false_eq_true])) (rf_er hm h13)
