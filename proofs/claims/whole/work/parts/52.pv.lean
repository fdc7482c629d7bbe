/-! voices of the class -/
def ownN (z : Nat) : Nat := if z = 0 then 10 else if z = 1 then 11 else if z = 2 then 12 else if z = 3 then 13 else if z = 10 then 20 else if z = 13 then 21 else if z = 21 then 30 else if z = 30 then 40 else if z = 32 then 41 else if z = 42 then 50 else if z = 51 then 60 else if z = 60 then 70 else if z = 61 then 71 else 0
def kaN (a : Nat) : Nat := if a = 3 then 2 else if a = 5 then 1 else 0
theorem k_own {i : ab_I} (a v : Nat) (ha : a < 7) (hv : v < 4) : ab_K 0 81 [.int (nI a), .int (nI v)] i (ab_V (.int (nI (ownN (a * 10 + v)))) i) := by
  refine k_of rfl ?_
  refine r_go 5 rfl ?_ ?_
  · (first | exact trivial | assumption | (simp (disch := omega) [ab_all, ab_nz, *]; done))
  rw [pk_mul, nI_add]
  refine r_sw rfl ?_
  refine r_swk (fun h6_0 => ?_) (fun h6_0 => ?_)
  · skip
    refine r_go 1 rfl ?_ ?_
    · (first | exact trivial | assumption | (simp (disch := omega) [ab_all, ab_nz, *]; done))
    refine r_ret rfl trivial ?_
    (simp (disch := omega) only [nI_eq] at *; exact lv_e (by unfold ownN; simp (decide := true) only [h6_0, if_true, if_false]))
  refine r_swk (fun h6_1 => ?_) (fun h6_1 => ?_)
  · skip
    refine r_go 1 rfl ?_ ?_
    · (first | exact trivial | assumption | (simp (disch := omega) [ab_all, ab_nz, *]; done))
    refine r_ret rfl trivial ?_
    (simp (disch := omega) only [nI_eq] at *; exact lv_e (by unfold ownN; simp (decide := true) only [h6_0, h6_1, if_true, if_false]))
  refine r_swk (fun h6_2 => ?_) (fun h6_2 => ?_)
  · skip
    refine r_go 1 rfl ?_ ?_
    · (first | exact trivial | assumption | (simp (disch := omega) [ab_all, ab_nz, *]; done))
    refine r_ret rfl trivial ?_
    (simp (disch := omega) only [nI_eq] at *; exact lv_e (by unfold ownN; simp (decide := true) only [h6_0, h6_1, h6_2, if_true, if_false]))
  refine r_swk (fun h6_3 => ?_) (fun h6_3 => ?_)
  · skip
    refine r_go 1 rfl ?_ ?_
    · (first | exact trivial | assumption | (simp (disch := omega) [ab_all, ab_nz, *]; done))
    refine r_ret rfl trivial ?_
    (simp (disch := omega) only [nI_eq] at *; exact lv_e (by unfold ownN; simp (decide := true) only [h6_0, h6_1, h6_2, h6_3, if_true, if_false]))
  refine r_swk (fun h6_10 => ?_) (fun h6_10 => ?_)
  · skip
    refine r_go 1 rfl ?_ ?_
    · (first | exact trivial | assumption | (simp (disch := omega) [ab_all, ab_nz, *]; done))
    refine r_ret rfl trivial ?_
    (simp (disch := omega) only [nI_eq] at *; exact lv_e (by unfold ownN; simp (decide := true) only [h6_0, h6_1, h6_2, h6_3, h6_10, if_true, if_false]))
  refine r_swk (fun h6_13 => ?_) (fun h6_13 => ?_)
  · skip
    refine r_go 1 rfl ?_ ?_
    · (first | exact trivial | assumption | (simp (disch := omega) [ab_all, ab_nz, *]; done))
    refine r_ret rfl trivial ?_
    (simp (disch := omega) only [nI_eq] at *; exact lv_e (by unfold ownN; simp (decide := true) only [h6_0, h6_1, h6_2, h6_3, h6_10, h6_13, if_true, if_false]))
  refine r_swk (fun h6_21 => ?_) (fun h6_21 => ?_)
  · skip
    refine r_go 1 rfl ?_ ?_
    · (first | exact trivial | assumption | (simp (disch := omega) [ab_all, ab_nz, *]; done))
    refine r_ret rfl trivial ?_
    (simp (disch := omega) only [nI_eq] at *; exact lv_e (by unfold ownN; simp (decide := true) only [h6_0, h6_1, h6_2, h6_3, h6_10, h6_13, h6_21, if_true, if_false]))
  refine r_swk (fun h6_30 => ?_) (fun h6_30 => ?_)
  · skip
    refine r_go 1 rfl ?_ ?_
    · (first | exact trivial | assumption | (simp (disch := omega) [ab_all, ab_nz, *]; done))
    refine r_ret rfl trivial ?_
    (simp (disch := omega) only [nI_eq] at *; exact lv_e (by unfold ownN; simp (decide := true) only [h6_0, h6_1, h6_2, h6_3, h6_10, h6_13, h6_21, h6_30, if_true, if_false]))
  refine r_swk (fun h6_32 => ?_) (fun h6_32 => ?_)
  · skip
    refine r_go 1 rfl ?_ ?_
    · (first | exact trivial | assumption | (simp (disch := omega) [ab_all, ab_nz, *]; done))
    refine r_ret rfl trivial ?_
    (simp (disch := omega) only [nI_eq] at *; exact lv_e (by unfold ownN; simp (decide := true) only [h6_0, h6_1, h6_2, h6_3, h6_10, h6_13, h6_21, h6_30, h6_32, if_true, if_false]))
  refine r_swk (fun h6_42 => ?_) (fun h6_42 => ?_)
  · skip
    refine r_go 1 rfl ?_ ?_
    · (first | exact trivial | assumption | (simp (disch := omega) [ab_all, ab_nz, *]; done))
    refine r_ret rfl trivial ?_
    (simp (disch := omega) only [nI_eq] at *; exact lv_e (by unfold ownN; simp (decide := true) only [h6_0, h6_1, h6_2, h6_3, h6_10, h6_13, h6_21, h6_30, h6_32, h6_42, if_true, if_false]))
  refine r_swk (fun h6_51 => ?_) (fun h6_51 => ?_)
  · skip
    refine r_go 1 rfl ?_ ?_
    · (first | exact trivial | assumption | (simp (disch := omega) [ab_all, ab_nz, *]; done))
    refine r_ret rfl trivial ?_
    (simp (disch := omega) only [nI_eq] at *; exact lv_e (by unfold ownN; simp (decide := true) only [h6_0, h6_1, h6_2, h6_3, h6_10, h6_13, h6_21, h6_30, h6_32, h6_42, h6_51, if_true, if_false]))
  refine r_swk (fun h6_60 => ?_) (fun h6_60 => ?_)
  · skip
    refine r_go 1 rfl ?_ ?_
    · (first | exact trivial | assumption | (simp (disch := omega) [ab_all, ab_nz, *]; done))
    refine r_ret rfl trivial ?_
    (simp (disch := omega) only [nI_eq] at *; exact lv_e (by unfold ownN; simp (decide := true) only [h6_0, h6_1, h6_2, h6_3, h6_10, h6_13, h6_21, h6_30, h6_32, h6_42, h6_51, h6_60, if_true, if_false]))
  refine r_swk (fun h6_61 => ?_) (fun h6_61 => ?_)
  · skip
    refine r_go 1 rfl ?_ ?_
    · (first | exact trivial | assumption | (simp (disch := omega) [ab_all, ab_nz, *]; done))
    refine r_ret rfl trivial ?_
    (simp (disch := omega) only [nI_eq] at *; exact lv_e (by unfold ownN; simp (decide := true) only [h6_0, h6_1, h6_2, h6_3, h6_10, h6_13, h6_21, h6_30, h6_32, h6_42, h6_51, h6_60, h6_61, if_true, if_false]))
  refine r_go 1 rfl ?_ ?_
  · (first | exact trivial | assumption | (simp (disch := omega) [ab_all, ab_nz, *]; done))
  refine r_ret rfl trivial ?_
  (simp (disch := omega) only [nI_eq] at *; exact lv_e (by unfold ownN; simp (decide := true) only [h6_0, h6_1, h6_2, h6_3, h6_10, h6_13, h6_21, h6_30, h6_32, h6_42, h6_51, h6_60, h6_61, if_true, if_false]))
theorem kab_N : ∀ a, a < 7 → kab (nI a) = if a = 0 then (-1) else nI (kaN a) := by decide +kernel
theorem own_lt (z : Nat) : ownN z < 100 := by
  unfold ownN
  repeat' split
  all_goals decide
def bdF : Nat → Nat → Nat → Nat
  | 0, _, _ => 0
  | f + 1, a, v => if ownN (a * 10 + v) = 0 then (if a = 0 then 0 else bdF f (kaN a) v) else ownN (a * 10 + v)
theorem bf_exit {i : ab_I} {y z c : Int32} (b : Nat) (hb : b ≠ 0) (hb2 : b < 100) : ab_R 1 tb_X7_bodyFrom 7 [none, some (.int y), some (.int z), some (.int (nI b)), some (.int c)] [] i (ab_V (.int (nI b)) i) := by
  refine r_go 2 rfl ?_ ?_
  · (first | exact trivial | assumption | (simp (disch := omega) [ab_all, ab_nz, *]; done))
  refine r_br rfl (fun h11 => ?_) (fun h11 => ?_)
  · skip
    refine r_go 1 rfl ?_ ?_
    · (first | exact trivial | assumption | (simp (disch := omega) [ab_all, ab_nz, *]; done))
    refine r_ret rfl trivial ?_
    exact ⟨rfl, rfl⟩
  · skip
    refine r_go 1 rfl ?_ ?_
    · (first | exact trivial | assumption | (simp (disch := omega) [ab_all, ab_nz, *]; done))
    refine r_brT rfl (fun h => hb ((nI_eq (by omega) (by decide)).mp h)) ?_
    refine r_go 1 rfl ?_ ?_
    · (first | exact trivial | assumption | (simp (disch := omega) [ab_all, ab_nz, *]; done))
    refine r_ret rfl trivial ?_
    exact ⟨rfl, rfl⟩
theorem bf_neg {i : ab_I} {y c : Int32} : ab_R 1 tb_X7_bodyFrom 7 [none, some (.int y), some (.int (-1)), some (.int (nI 0)), some (.int c)] [] i (ab_V (.int (nI 0)) i) := by
  refine r_go 2 rfl ?_ ?_
  · (first | exact trivial | assumption | (simp (disch := omega) [ab_all, ab_nz, *]; done))
  refine r_br rfl (fun h11 => ?_) (fun h11 => ?_)
  · skip
    refine r_go 1 rfl ?_ ?_
    · (first | exact trivial | assumption | (simp (disch := omega) [ab_all, ab_nz, *]; done))
    refine r_ret rfl trivial ?_
    exact ⟨rfl, rfl⟩
  · skip
    refine r_go 1 rfl ?_ ?_
    · (first | exact trivial | assumption | (simp (disch := omega) [ab_all, ab_nz, *]; done))
    refine r_brF rfl (fun h => h rfl) ?_
    refine r_go 1 rfl ?_ ?_
    · (first | exact trivial | assumption | (simp (disch := omega) [ab_all, ab_nz, *]; done))
    refine r_brT rfl (by decide) ?_
    refine r_go 1 rfl ?_ ?_
    · (first | exact trivial | assumption | (simp (disch := omega) [ab_all, ab_nz, *]; done))
    refine r_ret rfl trivial ?_
    exact ⟨rfl, rfl⟩
theorem bf_loop {v : Nat} {i : ab_I} (hv : v < 4) (mm c a : Nat) (hmm : 7 - c < mm) (hc : c ≤ 7) (ha : a < 7) : ab_R 1 tb_X7_bodyFrom 7 [none, some (.int (nI v)), some (.int (nI a)), some (.int (nI 0)), some (.int (nI c))] [] i (ab_V (.int (nI (bdF (7 - c) a v))) i) := by
  induction mm generalizing c a with
  | zero => exact absurd hmm (by omega)
  | succ mm ih =>
    refine r_go 2 rfl ?_ ?_
    · (first | exact trivial | assumption | (simp (disch := omega) [ab_all, ab_nz, *]; done))
    refine r_br rfl (fun h11 => ?_) (fun h11 => ?_)
    · skip
      refine r_go 1 rfl ?_ ?_
      · (first | exact trivial | assumption | (simp (disch := omega) [ab_all, ab_nz, *]; done))
      refine r_ret rfl trivial ?_
      have e : c = 7 := by (simp (disch := omega) only [Int32.le_iff_toInt_le, Int32.lt_iff_toInt_lt, c_i, m1_i, m5_i, m33_i] at * <;> omega)
      subst e
      exact ⟨rfl, rfl⟩
    · skip
      refine r_go 1 rfl ?_ ?_
      · (first | exact trivial | assumption | (simp (disch := omega) [ab_all, ab_nz, *]; done))
      refine r_brF rfl (fun h => h rfl) ?_
      refine r_go 1 rfl ?_ ?_
      · (first | exact trivial | assumption | (simp (disch := omega) [ab_all, ab_nz, *]; done))
      refine r_brF rfl (fun h => by (simp (disch := omega) only [Int32.le_iff_toInt_le, Int32.lt_iff_toInt_lt, c_i, m1_i, m5_i, m33_i] at * <;> omega)) ?_
      refine r_go 2 rfl ?_ ?_
      · (first | exact trivial | assumption | (simp (disch := omega) [ab_all, ab_nz, *]; done))
      refine r_cv rfl trivial ((k_own a v ha hv)) (by decide) ?_
      refine r_go 2 rfl ?_ ?_
      · (first | exact trivial | assumption | (simp (disch := omega) [ab_all, ab_nz, *]; done))
      refine r_cv rfl trivial ((k_kab _)) (by decide) ?_
      refine r_go 3 rfl ?_ ?_
      · (first | exact trivial | assumption | (simp (disch := omega) [ab_all, ab_nz, *]; done))
      have hcl : c < 7 := by (simp (disch := omega) only [Int32.le_iff_toInt_le, Int32.lt_iff_toInt_lt, c_i, m1_i, m5_i, m33_i] at * <;> omega)
      rw [kab_N a ha, nI_add]
      have eb : bdF (7 - c) a v = if ownN (a * 10 + v) = 0 then (if a = 0 then 0 else bdF (7 - (c + 1)) (kaN a) v) else ownN (a * 10 + v) := by rw [show 7 - c = 7 - (c + 1) + 1 by omega]; rfl
      rw [eb]
      by_cases h0 : ownN (a * 10 + v) = 0
      · rw [h0, if_pos rfl]
        by_cases ha0 : a = 0
        · rw [if_pos ha0, if_pos ha0]
          exact r_lk bf_neg rfl
        · rw [if_neg ha0, if_neg ha0]
          exact r_lk (ih (c + 1) (kaN a) (by omega) (by omega) (by unfold kaN; split <;> (try split) <;> omega)) rfl
      · rw [if_neg h0]
        exact r_lk (bf_exit _ h0 (own_lt _)) rfl
theorem k_bodyFrom {i : ab_I} (a v : Nat) (ha : a < 7) (hv : v < 4) : ab_K 1 82 [.int (nI a), .int (nI v)] i (ab_V (.int (nI (bdF 7 a v))) i) := by
  refine k_of rfl ?_
  refine r_go 6 rfl ?_ ?_
  · (first | exact trivial | assumption | (simp (disch := omega) [ab_all, ab_nz, *]; done))
  exact r_lk (bf_loop hv 8 0 a (by decide) (by decide) ha) rfl
def tg2 (b : Int32) (c : Nat) (i : ab_I) : ab_I := ab_up (ab_up i 202 c b) 201 1 (nI (c + 1))
def tgL : List Int32 → Nat → ab_I → ab_I
  | [], _, i => i
  | b :: l, c, i => tgL l (c + 1) (tg2 b c i)
def CE (N M : Int32) (K c : Nat) (i : ab_I) : Prop := i 201 1 = nI c ∧ i 200 1 = nI 0 ∧ i 200 2 = nI K ∧ i 200 3 = M ∧ i 200 4 = N
theorem ce_tg {N M : Int32} {K c : Nat} {i : ab_I} {b : Int32} (h : CE N M K c i) : CE N M K (c + 1) (tg2 b c i) := by
  unfold CE tg2
  exact ⟨up_us, (up_ne (by omega)).trans ((up_ne (by omega)).trans h.2.1), (up_ne (by omega)).trans ((up_ne (by omega)).trans h.2.2.1), (up_ne (by omega)).trans ((up_ne (by omega)).trans h.2.2.2.1), (up_ne (by omega)).trans ((up_ne (by omega)).trans h.2.2.2.2)⟩
theorem ce_L {N M : Int32} {K : Nat} : ∀ {l : List Int32} {c : Nat} {i : ab_I}, CE N M K c i → CE N M K (c + l.length) (tgL l c i)
  | [], _, _, h => h
  | b :: l, c, i, h => by
    have := ce_L (l := l) (ce_tg (b := b) h)
    rw [show c + (b :: l).length = c + 1 + l.length by rw [List.length_cons]; omega]
    exact this
theorem tgL_r : ∀ {l : List Int32} {c : Nat} {i : ab_I}, tgL l c i 202 = bgR l c (i 202)
  | [], _, _ => rfl
  | b :: l, c, i => by
    show tgL l (c + 1) (tg2 b c i) 202 = bgR l (c + 1) (upd (i 202) c b)
    rw [tgL_r]
    congr 1
    exact (up_row (by decide)).trans ab_up_row
theorem tgL_ne {q : Nat} (h1 : q ≠ 202) (h2 : q ≠ 201) : ∀ {l : List Int32} {c : Nat} {i : ab_I}, tgL l c i q = i q
  | [], _, _ => rfl
  | b :: l, c, i => by
    show tgL l (c + 1) (tg2 b c i) q = i q
    rw [tgL_ne h1 h2]
    exact (up_row h2).trans (up_row h1)
theorem bgR_lt : ∀ {l : List Int32} {c : Nat} {f g : Vc} {k : Nat}, (∀ j, j < c → f j = g j) → k < c + l.length → bgR l c f k = bgR l c g k
  | [], _, _, _, k, h, hk => h k (by simpa using hk)
  | b :: l, c, f, g, k, h, hk => by
    show bgR l (c + 1) (upd f c b) k = bgR l (c + 1) (upd g c b) k
    refine bgR_lt (l := l) (fun j hj => ?_) (by rw [List.length_cons] at hk; omega)
    by_cases e : j = c
    · rw [e, pk_us, pk_us]
    · rw [pk_un e, pk_un e]
      exact h j (by omega)
theorem ng_0 (x : Int32) : -x = nI 0 - x := by
  rw [nI_0, Int32.zero_sub]

theorem s10 {N M : Int32} {K c dp : Nat} {i : ab_I} (x : Int32) (hE : CE N M K c i) (hK : K < 7) (v k : Nat) (hv : v < 4) (hk : k < 7) (hb : bdF 7 k v = 10) (hc : c + 1 ≤ 30) (hdp : dp + 2 ≤ 28) : ab_K 2 83 [.ref 200, .int (nI v), .int (nI k), .int x, .int (nI dp)] i (ab_V (.int (x + N)) (tgL ([nI 10]) c i)) := by
  have hE1 := ce_tg (b := nI 10) hE
  refine k_of rfl ?_
  refine r_go 2 rfl ?_ ?_
  · exact rfl
  refine r_brF rfl (fun h => h hE.2.1) ?_
  refine r_go 2 rfl ?_ ?_
  · (first | exact trivial | assumption | (simp (disch := omega) [ab_all, ab_nz, *]; done))
  refine r_brT rfl (nI_le (by omega) (by decide)) ?_
  refine r_go 2 rfl ?_ ?_
  · (first | exact trivial | assumption | (simp (disch := omega) [ab_all, ab_nz, *]; done))
  refine r_cv rfl trivial ((k_bodyFrom k v hk hv)) (by decide) ?_
  rw [hb]
  refine r_go 8 rfl ?_ ?_
  · exact ⟨rfl, by decide⟩
  rw [gr_200_0, nI_add]
  refine r_cn rfl rfl ((k_add _ isR_201 hE.1 (by omega))) (by decide) ?_
  rw [if_pos (show c < 30 by omega), show ab_up (ab_up i (201 + 1) c (nI 10)) 201 1 (nI (c + 1)) = tg2 (nI 10) c i from rfl]
  refine r_go 1 rfl ?_ ?_
  · (first | exact trivial | assumption | (simp (disch := omega) [ab_all, ab_nz, *]; done))
  refine r_sw rfl ?_
  refine r_swT (rfl) ?_
  refine r_go 4 rfl ?_ ?_
  · exact rfl
  refine r_ret rfl trivial ?_
  rw [hE1.2.2.2.2]
  exact ⟨rfl, rfl⟩
theorem s20 {N M : Int32} {K c dp : Nat} {i : ab_I} (x : Int32) (hE : CE N M K c i) (hK : K < 7) (v k : Nat) (hv : v < 4) (hk : k < 7) (hb : bdF 7 k v = 20) (hc : c + 2 ≤ 30) (hdp : dp + 3 ≤ 28) : ab_K 3 83 [.ref 200, .int (nI v), .int (nI k), .int x, .int (nI dp)] i (ab_V (.int (x + N - nI 7)) (tgL ([nI 20, nI 10]) c i)) := by
  have hE1 := ce_tg (b := nI 20) hE
  refine k_of rfl ?_
  refine r_go 2 rfl ?_ ?_
  · exact rfl
  refine r_brF rfl (fun h => h hE.2.1) ?_
  refine r_go 2 rfl ?_ ?_
  · (first | exact trivial | assumption | (simp (disch := omega) [ab_all, ab_nz, *]; done))
  refine r_brT rfl (nI_le (by omega) (by decide)) ?_
  refine r_go 2 rfl ?_ ?_
  · (first | exact trivial | assumption | (simp (disch := omega) [ab_all, ab_nz, *]; done))
  refine r_cv rfl trivial ((k_bodyFrom k v hk hv)) (by decide) ?_
  rw [hb]
  refine r_go 8 rfl ?_ ?_
  · exact ⟨rfl, by decide⟩
  rw [gr_200_0, nI_add]
  refine r_cn rfl rfl ((k_add _ isR_201 hE.1 (by omega))) (by decide) ?_
  rw [if_pos (show c < 30 by omega), show ab_up (ab_up i (201 + 1) c (nI 20)) 201 1 (nI (c + 1)) = tg2 (nI 20) c i from rfl]
  refine r_go 1 rfl ?_ ?_
  · (first | exact trivial | assumption | (simp (disch := omega) [ab_all, ab_nz, *]; done))
  refine r_sw rfl ?_
  refine r_swk (fun hz => absurd hz (by first | assumption | decide)) (fun _ => ?_)
  refine r_swk (fun hz => absurd hz (by first | assumption | decide)) (fun _ => ?_)
  refine r_swk (fun hz => absurd hz (by first | assumption | decide)) (fun _ => ?_)
  refine r_swk (fun hz => absurd hz (by first | assumption | decide)) (fun _ => ?_)
  refine r_swT (rfl) ?_
  refine r_go 5 rfl ?_ ?_
  · (first | exact trivial | assumption | (simp (disch := omega) [ab_all, ab_nz, *]; done))
  refine r_cv rfl rfl ((s10 x hE1 hK 0 0 (by decide) (by decide) (by decide) (by omega) (by omega))) (by decide) ?_
  refine r_go 2 rfl ?_ ?_
  · (first | exact trivial | assumption | (simp (disch := omega) [ab_all, ab_nz, *]; done))
  refine r_ret rfl trivial ?_
  exact ⟨rfl, rfl⟩
theorem s40 {N M : Int32} {K c dp : Nat} {i : ab_I} (x : Int32) (hE : CE N M K c i) (hK : K < 7) (v k : Nat) (hv : v < 4) (hk : k < 7) (hb : bdF 7 k v = 40) (hc : c + 2 ≤ 30) (hdp : dp + 3 ≤ 28) : ab_K 3 83 [.ref 200, .int (nI v), .int (nI k), .int x, .int (nI dp)] i (ab_V (.int ((x + N) * nI 3)) (tgL ([nI 40, nI 10]) c i)) := by
  have hE1 := ce_tg (b := nI 40) hE
  refine k_of rfl ?_
  refine r_go 2 rfl ?_ ?_
  · exact rfl
  refine r_brF rfl (fun h => h hE.2.1) ?_
  refine r_go 2 rfl ?_ ?_
  · (first | exact trivial | assumption | (simp (disch := omega) [ab_all, ab_nz, *]; done))
  refine r_brT rfl (nI_le (by omega) (by decide)) ?_
  refine r_go 2 rfl ?_ ?_
  · (first | exact trivial | assumption | (simp (disch := omega) [ab_all, ab_nz, *]; done))
  refine r_cv rfl trivial ((k_bodyFrom k v hk hv)) (by decide) ?_
  rw [hb]
  refine r_go 8 rfl ?_ ?_
  · exact ⟨rfl, by decide⟩
  rw [gr_200_0, nI_add]
  refine r_cn rfl rfl ((k_add _ isR_201 hE.1 (by omega))) (by decide) ?_
  rw [if_pos (show c < 30 by omega), show ab_up (ab_up i (201 + 1) c (nI 40)) 201 1 (nI (c + 1)) = tg2 (nI 40) c i from rfl]
  refine r_go 1 rfl ?_ ?_
  · (first | exact trivial | assumption | (simp (disch := omega) [ab_all, ab_nz, *]; done))
  refine r_sw rfl ?_
  refine r_swk (fun hz => absurd hz (by first | assumption | decide)) (fun _ => ?_)
  refine r_swk (fun hz => absurd hz (by first | assumption | decide)) (fun _ => ?_)
  refine r_swk (fun hz => absurd hz (by first | assumption | decide)) (fun _ => ?_)
  refine r_swk (fun hz => absurd hz (by first | assumption | decide)) (fun _ => ?_)
  refine r_swk (fun hz => absurd hz (by first | assumption | decide)) (fun _ => ?_)
  refine r_swk (fun hz => absurd hz (by first | assumption | decide)) (fun _ => ?_)
  refine r_swk (fun hz => absurd hz (by first | assumption | decide)) (fun _ => ?_)
  refine r_swT (rfl) ?_
  refine r_go 5 rfl ?_ ?_
  · (first | exact trivial | assumption | (simp (disch := omega) [ab_all, ab_nz, *]; done))
  refine r_cv rfl rfl ((s10 x hE1 hK 0 2 (by decide) (by decide) (by decide) (by omega) (by omega))) (by decide) ?_
  refine r_go 2 rfl ?_ ?_
  · (first | exact trivial | assumption | (simp (disch := omega) [ab_all, ab_nz, *]; done))
  refine r_ret rfl trivial ?_
  exact ⟨rfl, rfl⟩
theorem s70 {N M : Int32} {K c dp : Nat} {i : ab_I} (x : Int32) (hE : CE N M K c i) (hK : K < 7) (v k : Nat) (hv : v < 4) (hk : k < 7) (hb : bdF 7 k v = 70) (hc : c + 1 ≤ 30) (hdp : dp + 2 ≤ 28) : ab_K 2 83 [.ref 200, .int (nI v), .int (nI k), .int x, .int (nI dp)] i (ab_V (.int (nI 4)) (tgL ([nI 70]) c i)) := by
  have hE1 := ce_tg (b := nI 70) hE
  refine k_of rfl ?_
  refine r_go 2 rfl ?_ ?_
  · exact rfl
  refine r_brF rfl (fun h => h hE.2.1) ?_
  refine r_go 2 rfl ?_ ?_
  · (first | exact trivial | assumption | (simp (disch := omega) [ab_all, ab_nz, *]; done))
  refine r_brT rfl (nI_le (by omega) (by decide)) ?_
  refine r_go 2 rfl ?_ ?_
  · (first | exact trivial | assumption | (simp (disch := omega) [ab_all, ab_nz, *]; done))
  refine r_cv rfl trivial ((k_bodyFrom k v hk hv)) (by decide) ?_
  rw [hb]
  refine r_go 8 rfl ?_ ?_
  · exact ⟨rfl, by decide⟩
  rw [gr_200_0, nI_add]
  refine r_cn rfl rfl ((k_add _ isR_201 hE.1 (by omega))) (by decide) ?_
  rw [if_pos (show c < 30 by omega), show ab_up (ab_up i (201 + 1) c (nI 70)) 201 1 (nI (c + 1)) = tg2 (nI 70) c i from rfl]
  refine r_go 1 rfl ?_ ?_
  · (first | exact trivial | assumption | (simp (disch := omega) [ab_all, ab_nz, *]; done))
  refine r_sw rfl ?_
  refine r_swk (fun hz => absurd hz (by first | assumption | decide)) (fun _ => ?_)
  refine r_swk (fun hz => absurd hz (by first | assumption | decide)) (fun _ => ?_)
  refine r_swk (fun hz => absurd hz (by first | assumption | decide)) (fun _ => ?_)
  refine r_swk (fun hz => absurd hz (by first | assumption | decide)) (fun _ => ?_)
  refine r_swk (fun hz => absurd hz (by first | assumption | decide)) (fun _ => ?_)
  refine r_swk (fun hz => absurd hz (by first | assumption | decide)) (fun _ => ?_)
  refine r_swk (fun hz => absurd hz (by first | assumption | decide)) (fun _ => ?_)
  refine r_swk (fun hz => absurd hz (by first | assumption | decide)) (fun _ => ?_)
  refine r_swk (fun hz => absurd hz (by first | assumption | decide)) (fun _ => ?_)
  refine r_swk (fun hz => absurd hz (by first | assumption | decide)) (fun _ => ?_)
  refine r_swk (fun hz => absurd hz (by first | assumption | decide)) (fun _ => ?_)
  refine r_swT (rfl) ?_
  refine r_go 1 rfl ?_ ?_
  · (first | exact trivial | assumption | (simp (disch := omega) [ab_all, ab_nz, *]; done))
  refine r_ret rfl trivial ?_
  exact ⟨rfl, rfl⟩
theorem sVo (k : Nat) (hk : k < 7) {N M : Int32} {K c dp : Nat} {i : ab_I} (x : Int32) (hE : CE N M K c i) (hK : K < 7) (hc : c + 2 ≤ 30) (hdp : dp + 3 ≤ 28) : ab_K 3 83 [.ref 200, .int (nI 0), .int (nI k), .int x, .int (nI dp)] i (ab_V (.int (voV N k x)) (tgL (voL k) c i)) := by
  have : k = 0 ∨ k = 1 ∨ k = 2 ∨ k = 3 ∨ k = 4 ∨ k = 5 ∨ k = 6 := by omega
  rcases this with rfl | rfl | rfl | rfl | rfl | rfl | rfl
  · exact k_deep (s10 x hE hK 0 0 (by decide) (by decide) (by decide) (by omega) (by omega)) (by decide)
  · exact k_deep (s20 x hE hK 0 1 (by decide) (by decide) (by decide) (by omega) (by omega)) (by decide)
  · exact k_deep (s10 x hE hK 0 2 (by decide) (by decide) (by decide) (by omega) (by omega)) (by decide)
  · exact k_deep (s40 x hE hK 0 3 (by decide) (by decide) (by decide) (by omega) (by omega)) (by decide)
  · exact k_deep (s10 x hE hK 0 4 (by decide) (by decide) (by decide) (by omega) (by omega)) (by decide)
  · exact k_deep (s20 x hE hK 0 5 (by decide) (by decide) (by decide) (by omega) (by omega)) (by decide)
  · exact k_deep (s70 x hE hK 0 6 (by decide) (by decide) (by decide) (by omega) (by omega)) (by decide)
theorem s11 {N M : Int32} {K c dp : Nat} {i : ab_I} (x : Int32) (hE : CE N M K c i) (hK : K < 7) (v k : Nat) (hv : v < 4) (hk : k < 7) (hb : bdF 7 k v = 11) (hc : c + 3 ≤ 30) (hdp : dp + 4 ≤ 28) : ab_K 4 83 [.ref 200, .int (nI v), .int (nI k), .int x, .int (nI dp)] i (ab_V (.int (voV N K x * nI 2)) (tgL (nI 11 :: voL K) c i)) := by
  have hE1 := ce_tg (b := nI 11) hE
  refine k_of rfl ?_
  refine r_go 2 rfl ?_ ?_
  · exact rfl
  refine r_brF rfl (fun h => h hE.2.1) ?_
  refine r_go 2 rfl ?_ ?_
  · (first | exact trivial | assumption | (simp (disch := omega) [ab_all, ab_nz, *]; done))
  refine r_brT rfl (nI_le (by omega) (by decide)) ?_
  refine r_go 2 rfl ?_ ?_
  · (first | exact trivial | assumption | (simp (disch := omega) [ab_all, ab_nz, *]; done))
  refine r_cv rfl trivial ((k_bodyFrom k v hk hv)) (by decide) ?_
  rw [hb]
  refine r_go 8 rfl ?_ ?_
  · exact ⟨rfl, by decide⟩
  rw [gr_200_0, nI_add]
  refine r_cn rfl rfl ((k_add _ isR_201 hE.1 (by omega))) (by decide) ?_
  rw [if_pos (show c < 30 by omega), show ab_up (ab_up i (201 + 1) c (nI 11)) 201 1 (nI (c + 1)) = tg2 (nI 11) c i from rfl]
  refine r_go 1 rfl ?_ ?_
  · (first | exact trivial | assumption | (simp (disch := omega) [ab_all, ab_nz, *]; done))
  refine r_sw rfl ?_
  refine r_swk (fun hz => absurd hz (by first | assumption | decide)) (fun _ => ?_)
  refine r_swT (rfl) ?_
  refine r_go 6 rfl ?_ ?_
  · exact rfl
  rw [hE1.2.2.1]
  refine r_cv rfl rfl ((sVo K hK x hE1 hK (by omega) (by omega))) (by decide) ?_
  refine r_go 2 rfl ?_ ?_
  · (first | exact trivial | assumption | (simp (disch := omega) [ab_all, ab_nz, *]; done))
  refine r_ret rfl trivial ?_
  exact ⟨rfl, rfl⟩
theorem s30 {N M : Int32} {K c dp : Nat} {i : ab_I} (x : Int32) (hE : CE N M K c i) (hK : K < 7) (v k : Nat) (hv : v < 4) (hk : k < 7) (hb : bdF 7 k v = 30) (hc : c + 4 ≤ 30) (hdp : dp + 5 ≤ 28) : ab_K 5 83 [.ref 200, .int (nI v), .int (nI k), .int x, .int (nI dp)] i (ab_V (.int (nI 0 - voV N K x * nI 2)) (tgL (nI 30 :: nI 11 :: voL K) c i)) := by
  have hE1 := ce_tg (b := nI 30) hE
  refine k_of rfl ?_
  refine r_go 2 rfl ?_ ?_
  · exact rfl
  refine r_brF rfl (fun h => h hE.2.1) ?_
  refine r_go 2 rfl ?_ ?_
  · (first | exact trivial | assumption | (simp (disch := omega) [ab_all, ab_nz, *]; done))
  refine r_brT rfl (nI_le (by omega) (by decide)) ?_
  refine r_go 2 rfl ?_ ?_
  · (first | exact trivial | assumption | (simp (disch := omega) [ab_all, ab_nz, *]; done))
  refine r_cv rfl trivial ((k_bodyFrom k v hk hv)) (by decide) ?_
  rw [hb]
  refine r_go 8 rfl ?_ ?_
  · exact ⟨rfl, by decide⟩
  rw [gr_200_0, nI_add]
  refine r_cn rfl rfl ((k_add _ isR_201 hE.1 (by omega))) (by decide) ?_
  rw [if_pos (show c < 30 by omega), show ab_up (ab_up i (201 + 1) c (nI 30)) 201 1 (nI (c + 1)) = tg2 (nI 30) c i from rfl]
  refine r_go 1 rfl ?_ ?_
  · (first | exact trivial | assumption | (simp (disch := omega) [ab_all, ab_nz, *]; done))
  refine r_sw rfl ?_
  refine r_swk (fun hz => absurd hz (by first | assumption | decide)) (fun _ => ?_)
  refine r_swk (fun hz => absurd hz (by first | assumption | decide)) (fun _ => ?_)
  refine r_swk (fun hz => absurd hz (by first | assumption | decide)) (fun _ => ?_)
  refine r_swk (fun hz => absurd hz (by first | assumption | decide)) (fun _ => ?_)
  refine r_swk (fun hz => absurd hz (by first | assumption | decide)) (fun _ => ?_)
  refine r_swk (fun hz => absurd hz (by first | assumption | decide)) (fun _ => ?_)
  refine r_swT (rfl) ?_
  refine r_go 5 rfl ?_ ?_
  · (first | exact trivial | assumption | (simp (disch := omega) [ab_all, ab_nz, *]; done))
  refine r_cv rfl rfl ((s11 x hE1 hK 1 0 (by decide) (by decide) (by decide) (by omega) (by omega))) (by decide) ?_
  refine r_go 1 rfl ?_ ?_
  · (first | exact trivial | assumption | (simp (disch := omega) [ab_all, ab_nz, *]; done))
  refine r_ret rfl trivial ?_
  exact ⟨congrArg (fun z => some (Value.int z)) (ng_0 _), rfl⟩
theorem s60 {N M : Int32} {K c dp : Nat} {i : ab_I} (x : Int32) (hE : CE N M K c i) (hK : K < 7) (v k : Nat) (hv : v < 4) (hk : k < 7) (hb : bdF 7 k v = 60) (hc : c + 4 ≤ 30) (hdp : dp + 5 ≤ 28) : ab_K 5 83 [.ref 200, .int (nI v), .int (nI k), .int x, .int (nI dp)] i (ab_V (.int (voV N K (x + nI 1) * nI 2)) (tgL (nI 60 :: nI 11 :: voL K) c i)) := by
  have hE1 := ce_tg (b := nI 60) hE
  refine k_of rfl ?_
  refine r_go 2 rfl ?_ ?_
  · exact rfl
  refine r_brF rfl (fun h => h hE.2.1) ?_
  refine r_go 2 rfl ?_ ?_
  · (first | exact trivial | assumption | (simp (disch := omega) [ab_all, ab_nz, *]; done))
  refine r_brT rfl (nI_le (by omega) (by decide)) ?_
  refine r_go 2 rfl ?_ ?_
  · (first | exact trivial | assumption | (simp (disch := omega) [ab_all, ab_nz, *]; done))
  refine r_cv rfl trivial ((k_bodyFrom k v hk hv)) (by decide) ?_
  rw [hb]
  refine r_go 8 rfl ?_ ?_
  · exact ⟨rfl, by decide⟩
  rw [gr_200_0, nI_add]
  refine r_cn rfl rfl ((k_add _ isR_201 hE.1 (by omega))) (by decide) ?_
  rw [if_pos (show c < 30 by omega), show ab_up (ab_up i (201 + 1) c (nI 60)) 201 1 (nI (c + 1)) = tg2 (nI 60) c i from rfl]
  refine r_go 1 rfl ?_ ?_
  · (first | exact trivial | assumption | (simp (disch := omega) [ab_all, ab_nz, *]; done))
  refine r_sw rfl ?_
  refine r_swk (fun hz => absurd hz (by first | assumption | decide)) (fun _ => ?_)
  refine r_swk (fun hz => absurd hz (by first | assumption | decide)) (fun _ => ?_)
  refine r_swk (fun hz => absurd hz (by first | assumption | decide)) (fun _ => ?_)
  refine r_swk (fun hz => absurd hz (by first | assumption | decide)) (fun _ => ?_)
  refine r_swk (fun hz => absurd hz (by first | assumption | decide)) (fun _ => ?_)
  refine r_swk (fun hz => absurd hz (by first | assumption | decide)) (fun _ => ?_)
  refine r_swk (fun hz => absurd hz (by first | assumption | decide)) (fun _ => ?_)
  refine r_swk (fun hz => absurd hz (by first | assumption | decide)) (fun _ => ?_)
  refine r_swk (fun hz => absurd hz (by first | assumption | decide)) (fun _ => ?_)
  refine r_swk (fun hz => absurd hz (by first | assumption | decide)) (fun _ => ?_)
  refine r_swT (rfl) ?_
  refine r_go 7 rfl ?_ ?_
  · (first | exact trivial | assumption | (simp (disch := omega) [ab_all, ab_nz, *]; done))
  refine r_cv rfl rfl ((s11 _ hE1 hK 1 1 (by decide) (by decide) (by decide) (by omega) (by omega))) (by decide) ?_
  refine r_ret rfl trivial ?_
  exact ⟨rfl, rfl⟩
theorem s71 {N M : Int32} {K c dp : Nat} {i : ab_I} (x : Int32) (hE : CE N M K c i) (hK : K < 7) (v k : Nat) (hv : v < 4) (hk : k < 7) (hb : bdF 7 k v = 71) (hc : c + 4 ≤ 30) (hdp : dp + 5 ≤ 28) : ab_K 5 83 [.ref 200, .int (nI v), .int (nI k), .int x, .int (nI dp)] i (ab_V (.int (voV N K x * nI 2 + M)) (tgL (nI 71 :: nI 11 :: voL K) c i)) := by
  have hE1 := ce_tg (b := nI 71) hE
  refine k_of rfl ?_
  refine r_go 2 rfl ?_ ?_
  · exact rfl
  refine r_brF rfl (fun h => h hE.2.1) ?_
  refine r_go 2 rfl ?_ ?_
  · (first | exact trivial | assumption | (simp (disch := omega) [ab_all, ab_nz, *]; done))
  refine r_brT rfl (nI_le (by omega) (by decide)) ?_
  refine r_go 2 rfl ?_ ?_
  · (first | exact trivial | assumption | (simp (disch := omega) [ab_all, ab_nz, *]; done))
  refine r_cv rfl trivial ((k_bodyFrom k v hk hv)) (by decide) ?_
  rw [hb]
  refine r_go 8 rfl ?_ ?_
  · exact ⟨rfl, by decide⟩
  rw [gr_200_0, nI_add]
  refine r_cn rfl rfl ((k_add _ isR_201 hE.1 (by omega))) (by decide) ?_
  rw [if_pos (show c < 30 by omega), show ab_up (ab_up i (201 + 1) c (nI 71)) 201 1 (nI (c + 1)) = tg2 (nI 71) c i from rfl]
  refine r_go 1 rfl ?_ ?_
  · (first | exact trivial | assumption | (simp (disch := omega) [ab_all, ab_nz, *]; done))
  refine r_sw rfl ?_
  refine r_swk (fun hz => absurd hz (by first | assumption | decide)) (fun _ => ?_)
  refine r_swk (fun hz => absurd hz (by first | assumption | decide)) (fun _ => ?_)
  refine r_swk (fun hz => absurd hz (by first | assumption | decide)) (fun _ => ?_)
  refine r_swk (fun hz => absurd hz (by first | assumption | decide)) (fun _ => ?_)
  refine r_swk (fun hz => absurd hz (by first | assumption | decide)) (fun _ => ?_)
  refine r_swk (fun hz => absurd hz (by first | assumption | decide)) (fun _ => ?_)
  refine r_swk (fun hz => absurd hz (by first | assumption | decide)) (fun _ => ?_)
  refine r_swk (fun hz => absurd hz (by first | assumption | decide)) (fun _ => ?_)
  refine r_swk (fun hz => absurd hz (by first | assumption | decide)) (fun _ => ?_)
  refine r_swk (fun hz => absurd hz (by first | assumption | decide)) (fun _ => ?_)
  refine r_swk (fun hz => absurd hz (by first | assumption | decide)) (fun _ => ?_)
  refine r_swk (fun hz => absurd hz (by first | assumption | decide)) (fun _ => ?_)
  refine r_swT (rfl) ?_
  refine r_go 5 rfl ?_ ?_
  · (first | exact trivial | assumption | (simp (disch := omega) [ab_all, ab_nz, *]; done))
  refine r_cv rfl rfl ((s11 x hE1 hK 1 0 (by decide) (by decide) (by decide) (by omega) (by omega))) (by decide) ?_
  refine r_go 3 rfl ?_ ?_
  · exact rfl
  refine r_ret rfl trivial ?_
  have e := (ce_L (l := nI 11 :: voL K) hE1).2.2.2.1
  rw [e]
  exact ⟨rfl, rfl⟩
theorem sFe (k : Nat) (hk : k < 7) {N M : Int32} {K c dp : Nat} {i : ab_I} (x : Int32) (hE : CE N M K c i) (hK : K < 7) (hc : c + 4 ≤ 30) (hdp : dp + 5 ≤ 28) : ab_K 5 83 [.ref 200, .int (nI 1), .int (nI k), .int x, .int (nI dp)] i (ab_V (.int (feV N M K k x)) (tgL (feL K k) c i)) := by
  have : k = 0 ∨ k = 1 ∨ k = 2 ∨ k = 3 ∨ k = 4 ∨ k = 5 ∨ k = 6 := by omega
  rcases this with rfl | rfl | rfl | rfl | rfl | rfl | rfl
  · exact k_deep (s11 x hE hK 1 0 (by decide) (by decide) (by decide) (by omega) (by omega)) (by decide)
  · exact k_deep (s11 x hE hK 1 1 (by decide) (by decide) (by decide) (by omega) (by omega)) (by decide)
  · exact k_deep (s30 x hE hK 1 2 (by decide) (by decide) (by decide) (by omega) (by omega)) (by decide)
  · exact k_deep (s30 x hE hK 1 3 (by decide) (by decide) (by decide) (by omega) (by omega)) (by decide)
  · exact k_deep (s11 x hE hK 1 4 (by decide) (by decide) (by decide) (by omega) (by omega)) (by decide)
  · exact k_deep (s60 x hE hK 1 5 (by decide) (by decide) (by decide) (by omega) (by omega)) (by decide)
  · exact k_deep (s71 x hE hK 1 6 (by decide) (by decide) (by decide) (by omega) (by omega)) (by decide)
theorem s12 {N M : Int32} {K c dp : Nat} {i : ab_I} (x : Int32) (hE : CE N M K c i) (hK : K < 7) (v k : Nat) (hv : v < 4) (hk : k < 7) (hb : bdF 7 k v = 12) (hc : c + 5 ≤ 30) (hdp : dp + 6 ≤ 28) : ab_K 6 83 [.ref 200, .int (nI v), .int (nI k), .int x, .int (nI dp)] i (ab_V (.int (feV N M K K x - M)) (tgL (nI 12 :: feL K K) c i)) := by
  have hE1 := ce_tg (b := nI 12) hE
  refine k_of rfl ?_
  refine r_go 2 rfl ?_ ?_
  · exact rfl
  refine r_brF rfl (fun h => h hE.2.1) ?_
  refine r_go 2 rfl ?_ ?_
  · (first | exact trivial | assumption | (simp (disch := omega) [ab_all, ab_nz, *]; done))
  refine r_brT rfl (nI_le (by omega) (by decide)) ?_
  refine r_go 2 rfl ?_ ?_
  · (first | exact trivial | assumption | (simp (disch := omega) [ab_all, ab_nz, *]; done))
  refine r_cv rfl trivial ((k_bodyFrom k v hk hv)) (by decide) ?_
  rw [hb]
  refine r_go 8 rfl ?_ ?_
  · exact ⟨rfl, by decide⟩
  rw [gr_200_0, nI_add]
  refine r_cn rfl rfl ((k_add _ isR_201 hE.1 (by omega))) (by decide) ?_
  rw [if_pos (show c < 30 by omega), show ab_up (ab_up i (201 + 1) c (nI 12)) 201 1 (nI (c + 1)) = tg2 (nI 12) c i from rfl]
  refine r_go 1 rfl ?_ ?_
  · (first | exact trivial | assumption | (simp (disch := omega) [ab_all, ab_nz, *]; done))
  refine r_sw rfl ?_
  refine r_swk (fun hz => absurd hz (by first | assumption | decide)) (fun _ => ?_)
  refine r_swk (fun hz => absurd hz (by first | assumption | decide)) (fun _ => ?_)
  refine r_swT (rfl) ?_
  refine r_go 6 rfl ?_ ?_
  · exact rfl
  rw [hE1.2.2.1]
  refine r_cv rfl rfl ((sFe K hK x hE1 hK (by omega) (by omega))) (by decide) ?_
  refine r_go 3 rfl ?_ ?_
  · exact rfl
  refine r_ret rfl trivial ?_
  have e := (ce_L (l := feL K K) hE1).2.2.2.1
  rw [e]
  exact ⟨rfl, rfl⟩
theorem s41 {N M : Int32} {K c dp : Nat} {i : ab_I} (x : Int32) (hE : CE N M K c i) (hK : K < 7) (v k : Nat) (hv : v < 4) (hk : k < 7) (hb : bdF 7 k v = 41) (hc : c + 6 ≤ 30) (hdp : dp + 7 ≤ 28) : ab_K 7 83 [.ref 200, .int (nI v), .int (nI k), .int x, .int (nI dp)] i (ab_V (.int ((feV N M K K x - M) ^^^ N)) (tgL (nI 41 :: nI 12 :: feL K K) c i)) := by
  have hE1 := ce_tg (b := nI 41) hE
  refine k_of rfl ?_
  refine r_go 2 rfl ?_ ?_
  · exact rfl
  refine r_brF rfl (fun h => h hE.2.1) ?_
  refine r_go 2 rfl ?_ ?_
  · (first | exact trivial | assumption | (simp (disch := omega) [ab_all, ab_nz, *]; done))
  refine r_brT rfl (nI_le (by omega) (by decide)) ?_
  refine r_go 2 rfl ?_ ?_
  · (first | exact trivial | assumption | (simp (disch := omega) [ab_all, ab_nz, *]; done))
  refine r_cv rfl trivial ((k_bodyFrom k v hk hv)) (by decide) ?_
  rw [hb]
  refine r_go 8 rfl ?_ ?_
  · exact ⟨rfl, by decide⟩
  rw [gr_200_0, nI_add]
  refine r_cn rfl rfl ((k_add _ isR_201 hE.1 (by omega))) (by decide) ?_
  rw [if_pos (show c < 30 by omega), show ab_up (ab_up i (201 + 1) c (nI 41)) 201 1 (nI (c + 1)) = tg2 (nI 41) c i from rfl]
  refine r_go 1 rfl ?_ ?_
  · (first | exact trivial | assumption | (simp (disch := omega) [ab_all, ab_nz, *]; done))
  refine r_sw rfl ?_
  refine r_swk (fun hz => absurd hz (by first | assumption | decide)) (fun _ => ?_)
  refine r_swk (fun hz => absurd hz (by first | assumption | decide)) (fun _ => ?_)
  refine r_swk (fun hz => absurd hz (by first | assumption | decide)) (fun _ => ?_)
  refine r_swk (fun hz => absurd hz (by first | assumption | decide)) (fun _ => ?_)
  refine r_swk (fun hz => absurd hz (by first | assumption | decide)) (fun _ => ?_)
  refine r_swk (fun hz => absurd hz (by first | assumption | decide)) (fun _ => ?_)
  refine r_swk (fun hz => absurd hz (by first | assumption | decide)) (fun _ => ?_)
  refine r_swk (fun hz => absurd hz (by first | assumption | decide)) (fun _ => ?_)
  refine r_swT (rfl) ?_
  refine r_go 5 rfl ?_ ?_
  · (first | exact trivial | assumption | (simp (disch := omega) [ab_all, ab_nz, *]; done))
  refine r_cv rfl rfl ((s12 x hE1 hK 2 2 (by decide) (by decide) (by decide) (by omega) (by omega))) (by decide) ?_
  refine r_go 3 rfl ?_ ?_
  · exact rfl
  refine r_ret rfl trivial ?_
  have e := (ce_L (l := nI 12 :: feL K K) hE1).2.2.2.2
  rw [e]
  exact ⟨rfl, rfl⟩
theorem s50 {N M : Int32} {K c dp : Nat} {i : ab_I} (x : Int32) (hE : CE N M K c i) (hK : K < 7) (v k : Nat) (hv : v < 4) (hk : k < 7) (hb : bdF 7 k v = 50) (hc : c + 6 ≤ 30) (hdp : dp + 7 ≤ 28) : ab_K 7 83 [.ref 200, .int (nI v), .int (nI k), .int x, .int (nI dp)] i (ab_V (.int (feV N M K K (x / nI 2) - M)) (tgL (nI 50 :: nI 12 :: feL K K) c i)) := by
  have hE1 := ce_tg (b := nI 50) hE
  refine k_of rfl ?_
  refine r_go 2 rfl ?_ ?_
  · exact rfl
  refine r_brF rfl (fun h => h hE.2.1) ?_
  refine r_go 2 rfl ?_ ?_
  · (first | exact trivial | assumption | (simp (disch := omega) [ab_all, ab_nz, *]; done))
  refine r_brT rfl (nI_le (by omega) (by decide)) ?_
  refine r_go 2 rfl ?_ ?_
  · (first | exact trivial | assumption | (simp (disch := omega) [ab_all, ab_nz, *]; done))
  refine r_cv rfl trivial ((k_bodyFrom k v hk hv)) (by decide) ?_
  rw [hb]
  refine r_go 8 rfl ?_ ?_
  · exact ⟨rfl, by decide⟩
  rw [gr_200_0, nI_add]
  refine r_cn rfl rfl ((k_add _ isR_201 hE.1 (by omega))) (by decide) ?_
  rw [if_pos (show c < 30 by omega), show ab_up (ab_up i (201 + 1) c (nI 50)) 201 1 (nI (c + 1)) = tg2 (nI 50) c i from rfl]
  refine r_go 1 rfl ?_ ?_
  · (first | exact trivial | assumption | (simp (disch := omega) [ab_all, ab_nz, *]; done))
  refine r_sw rfl ?_
  refine r_swk (fun hz => absurd hz (by first | assumption | decide)) (fun _ => ?_)
  refine r_swk (fun hz => absurd hz (by first | assumption | decide)) (fun _ => ?_)
  refine r_swk (fun hz => absurd hz (by first | assumption | decide)) (fun _ => ?_)
  refine r_swk (fun hz => absurd hz (by first | assumption | decide)) (fun _ => ?_)
  refine r_swk (fun hz => absurd hz (by first | assumption | decide)) (fun _ => ?_)
  refine r_swk (fun hz => absurd hz (by first | assumption | decide)) (fun _ => ?_)
  refine r_swk (fun hz => absurd hz (by first | assumption | decide)) (fun _ => ?_)
  refine r_swk (fun hz => absurd hz (by first | assumption | decide)) (fun _ => ?_)
  refine r_swk (fun hz => absurd hz (by first | assumption | decide)) (fun _ => ?_)
  refine r_swT (rfl) ?_
  refine r_go 7 rfl ?_ ?_
  · (unfold ab_all ab_nz; decide)
  refine r_cv rfl rfl ((s12 _ hE1 hK 2 0 (by decide) (by decide) (by decide) (by omega) (by omega))) (by decide) ?_
  refine r_ret rfl trivial ?_
  exact ⟨rfl, rfl⟩
theorem sFl (k : Nat) (hk : k < 7) {N M : Int32} {K c dp : Nat} {i : ab_I} (x : Int32) (hE : CE N M K c i) (hK : K < 7) (hc : c + 6 ≤ 30) (hdp : dp + 7 ≤ 28) : ab_K 7 83 [.ref 200, .int (nI 2), .int (nI k), .int x, .int (nI dp)] i (ab_V (.int (flV N M K k x)) (tgL (flL K k) c i)) := by
  have : k = 0 ∨ k = 1 ∨ k = 2 ∨ k = 3 ∨ k = 4 ∨ k = 5 ∨ k = 6 := by omega
  rcases this with rfl | rfl | rfl | rfl | rfl | rfl | rfl
  · exact k_deep (s12 x hE hK 2 0 (by decide) (by decide) (by decide) (by omega) (by omega)) (by decide)
  · exact k_deep (s12 x hE hK 2 1 (by decide) (by decide) (by decide) (by omega) (by omega)) (by decide)
  · exact k_deep (s12 x hE hK 2 2 (by decide) (by decide) (by decide) (by omega) (by omega)) (by decide)
  · exact k_deep (s41 x hE hK 2 3 (by decide) (by decide) (by decide) (by omega) (by omega)) (by decide)
  · exact k_deep (s50 x hE hK 2 4 (by decide) (by decide) (by decide) (by omega) (by omega)) (by decide)
  · exact k_deep (s12 x hE hK 2 5 (by decide) (by decide) (by decide) (by omega) (by omega)) (by decide)
  · exact k_deep (s12 x hE hK 2 6 (by decide) (by decide) (by decide) (by omega) (by omega)) (by decide)
def CQ (N M : Int32) (l : List Int32) (c : Nat) (i j : ab_I) : Prop := j 202 = bgR l c (i 202) ∧ j 201 1 = nI (c + l.length) ∧ (∀ q, q ≠ 200 → q ≠ 201 → q ≠ 202 → j q = i q)
theorem CQ_L {N M : Int32} {K : Nat} {l : List Int32} {c : Nat} {i : ab_I} (h : CE N M K c i) : CQ N M l c i (tgL l c i) := ⟨tgL_r, (ce_L h).1, fun q _ a b => tgL_ne b a⟩
theorem CQ_tr {N M : Int32} {l1 l2 : List Int32} {c : Nat} {i j k : ab_I} (h1 : CQ N M l1 c i j) (h2 : CQ N M l2 (c + l1.length) j k) : CQ N M (l1 ++ l2) c i k := by
  obtain ⟨a1, a2, a3⟩ := h1
  obtain ⟨b1, b2, b3⟩ := h2
  exact ⟨by rw [b1, a1, bgR_app], by rw [b2, List.length_append, Nat.add_assoc], fun q x y z => (b3 q x y z).trans (a3 q x y z)⟩
theorem CQ_0 {N M : Int32} {l : List Int32} {c k : Nat} {i j : ab_I} {x : Int32} (h : CQ N M l c i j) : CQ N M l c i (ab_up j 200 k x) := by
  obtain ⟨a1, a2, a3⟩ := h
  exact ⟨(up_row (by decide)).trans a1, (up_ne (by omega)).trans a2, fun q x y z => (up_row x).trans (a3 q x y z)⟩
theorem k_pay {N M : Int32} {K c : Nat} {i : ab_I} (x : Int32) (hE : CE N M K c i) : ab_K 0 84 [.ref 200, .int x] i (ab_V (.int (pa0 N M x)) (if M - N = nI 0 then ab_up i 200 1 (nI 1) else i)) := by
  refine k_of rfl ?_
  refine r_go 7 rfl ?_ ?_
  · exact ⟨rfl, rfl⟩
  rw [hE.2.2.2.1, hE.2.2.2.2]
  refine r_ne rfl (fun h11 => ?_) (fun h11 => ?_)
  · skip
    refine r_go 3 rfl ?_ ?_
    · exact h11
    refine r_ret rfl trivial ?_
    unfold pa0
    first | (rw [if_pos h11, if_pos h11]; exact ⟨rfl, rfl⟩) | (rw [if_neg h11, if_neg h11]; exact ⟨rfl, rfl⟩)
  · skip
    refine r_go 4 rfl ?_ ?_
    · exact ⟨rfl, Or.inr rfl⟩
    refine r_ret rfl trivial ?_
    unfold pa0
    first | (rw [if_pos h11, if_pos h11]; exact ⟨rfl, rfl⟩) | (rw [if_neg h11, if_neg h11]; exact ⟨rfl, rfl⟩)

theorem s13 {N M : Int32} {K c dp : Nat} {i : ab_I} (x : Int32) (hE : CE N M K c i) (hK : K < 7) (v k : Nat) (hv : v < 4) (hk : k < 7) (hb : bdF 7 k v = 13) (hc : c + 1 ≤ 30) (hdp : dp + 2 ≤ 28) : ab_K 2 83 [.ref 200, .int (nI v), .int (nI k), .int x, .int (nI dp)] i (ab_V (.int (pa0 N M x)) (if M - N = nI 0 then ab_up (tg2 (nI 13) c i) 200 1 (nI 1) else tg2 (nI 13) c i)) := by
  have hE1 := ce_tg (b := nI 13) hE
  refine k_of rfl ?_
  refine r_go 2 rfl ?_ ?_
  · exact rfl
  refine r_brF rfl (fun h => h hE.2.1) ?_
  refine r_go 2 rfl ?_ ?_
  · (first | exact trivial | assumption | (simp (disch := omega) [ab_all, ab_nz, *]; done))
  refine r_brT rfl (nI_le (by omega) (by decide)) ?_
  refine r_go 2 rfl ?_ ?_
  · (first | exact trivial | assumption | (simp (disch := omega) [ab_all, ab_nz, *]; done))
  refine r_cv rfl trivial ((k_bodyFrom k v hk hv)) (by decide) ?_
  rw [hb]
  refine r_go 8 rfl ?_ ?_
  · exact ⟨rfl, by decide⟩
  rw [gr_200_0, nI_add]
  refine r_cn rfl rfl ((k_add _ isR_201 hE.1 (by omega))) (by decide) ?_
  rw [if_pos (show c < 30 by omega), show ab_up (ab_up i (201 + 1) c (nI 13)) 201 1 (nI (c + 1)) = tg2 (nI 13) c i from rfl]
  refine r_go 1 rfl ?_ ?_
  · (first | exact trivial | assumption | (simp (disch := omega) [ab_all, ab_nz, *]; done))
  refine r_sw rfl ?_
  refine r_swk (fun hz => absurd hz (by first | assumption | decide)) (fun _ => ?_)
  refine r_swk (fun hz => absurd hz (by first | assumption | decide)) (fun _ => ?_)
  refine r_swk (fun hz => absurd hz (by first | assumption | decide)) (fun _ => ?_)
  refine r_swT (rfl) ?_
  refine r_go 2 rfl ?_ ?_
  · (first | exact trivial | assumption | (simp (disch := omega) [ab_all, ab_nz, *]; done))
  refine r_cv rfl rfl ((k_pay x hE1)) (by decide) ?_
  refine r_ret rfl trivial ?_
  exact ⟨rfl, rfl⟩
/-- once it has parted nothing begins -/
theorem s_part {i : ab_I} (v k x dp : Int32) (h : ¬ i 200 1 = nI 0) : ab_K 2 83 [.ref 200, .int v, .int k, .int x, .int dp] i (ab_V (.int (nI 0)) i) := by
  refine k_of rfl ?_
  refine r_go 2 rfl ?_ ?_
  · exact rfl
  refine r_brT rfl (h) ?_
  refine r_go 1 rfl ?_ ?_
  · (first | exact trivial | assumption | (simp (disch := omega) [ab_all, ab_nz, *]; done))
  refine r_ret rfl trivial ?_
  exact ⟨rfl, rfl⟩
def cpQ (N M : Int32) (K k c : Nat) (x : Int32) (i : ab_I) : Option Value → ab_I → Prop := fun w j => (∃ y, w = some (.int y) ∧ (¬ M - N = nI 0 → y = paV N M K k x)) ∧ CQ N M (paL N M K k) c i j ∧ j 200 1 = bI (M - N = nI 0)
theorem cp13 {N M : Int32} {K c : Nat} {i : ab_I} {x : Int32} (hE : CE N M K c i) (k : Nat) (hk : ¬ (k = 1 ∨ k = 5)) : ∀ w j, ab_V (.int (pa0 N M x)) (if M - N = nI 0 then ab_up (tg2 (nI 13) c i) 200 1 (nI 1) else tg2 (nI 13) c i) w j → cpQ N M K k c x i w j := by
  rintro w j ⟨rfl, rfl⟩
  have e : paL N M K k = [nI 13] := if_neg hk
  have e2 : paV N M K k x = pa0 N M x := if_neg hk
  have q : CQ N M [nI 13] c i (tg2 (nI 13) c i) := CQ_L (l := [nI 13]) hE
  refine ⟨⟨_, rfl, fun _ => e2.symm⟩, ?_, ?_⟩
  · rw [e]
    split
    · exact CQ_0 q
    · exact q
  · by_cases h : M - N = nI 0
    · rw [if_pos h, bI_t h, up_us]
    · rw [if_neg h, bI_f h]
      exact (ce_tg hE).2.1

theorem s21 {N M : Int32} {K c dp : Nat} {i : ab_I} (x : Int32) (hE : CE N M K c i) (hK : K < 7) (v k : Nat) (hv : v < 4) (hk : k < 7) (hkk : k = 1 ∨ k = 5) (hb : bdF 7 k v = 21) (hc : c + 6 ≤ 30) (hdp : dp + 7 ≤ 28) : ab_K 7 83 [.ref 200, .int (nI v), .int (nI k), .int x, .int (nI dp)] i (cpQ N M K k c x i) := by
  have hE1 := ce_tg (b := nI 21) hE
  refine k_of rfl ?_
  refine r_go 2 rfl ?_ ?_
  · exact rfl
  refine r_brF rfl (fun h => h hE.2.1) ?_
  refine r_go 2 rfl ?_ ?_
  · (first | exact trivial | assumption | (simp (disch := omega) [ab_all, ab_nz, *]; done))
  refine r_brT rfl (nI_le (by omega) (by decide)) ?_
  refine r_go 2 rfl ?_ ?_
  · (first | exact trivial | assumption | (simp (disch := omega) [ab_all, ab_nz, *]; done))
  refine r_cv rfl trivial ((k_bodyFrom k v hk hv)) (by decide) ?_
  rw [hb]
  refine r_go 8 rfl ?_ ?_
  · exact ⟨rfl, by decide⟩
  rw [gr_200_0, nI_add]
  refine r_cn rfl rfl ((k_add _ isR_201 hE.1 (by omega))) (by decide) ?_
  rw [if_pos (show c < 30 by omega), show ab_up (ab_up i (201 + 1) c (nI 21)) 201 1 (nI (c + 1)) = tg2 (nI 21) c i from rfl]
  refine r_go 1 rfl ?_ ?_
  · (first | exact trivial | assumption | (simp (disch := omega) [ab_all, ab_nz, *]; done))
  refine r_sw rfl ?_
  refine r_swk (fun hz => absurd hz (by first | assumption | decide)) (fun _ => ?_)
  refine r_swk (fun hz => absurd hz (by first | assumption | decide)) (fun _ => ?_)
  refine r_swk (fun hz => absurd hz (by first | assumption | decide)) (fun _ => ?_)
  refine r_swk (fun hz => absurd hz (by first | assumption | decide)) (fun _ => ?_)
  refine r_swk (fun hz => absurd hz (by first | assumption | decide)) (fun _ => ?_)
  refine r_swT (rfl) ?_
  refine r_go 5 rfl ?_ ?_
  · (first | exact trivial | assumption | (simp (disch := omega) [ab_all, ab_nz, *]; done))
  refine r_cv rfl rfl ((s13 x hE1 hK 3 0 (by decide) (by decide) (by decide) (by omega) (by omega))) (by decide) ?_
  have q1 := cp13 (K := K) (x := x) hE1 0 (by decide) _ _ ⟨rfl, rfl⟩
  have hE2 : ¬ M - N = nI 0 → CE N M K (c + 1 + 1) (if M - N = nI 0 then ab_up (tg2 (nI 13) (c + 1) (tg2 (nI 21) c i)) 200 1 (nI 1) else tg2 (nI 13) (c + 1) (tg2 (nI 21) c i)) := fun h => by rw [if_neg h]; exact ce_tg hE1
  have hk2 : (if M - N = nI 0 then ab_up (tg2 (nI 13) (c + 1) (tg2 (nI 21) c i)) 200 1 (nI 1) else tg2 (nI 13) (c + 1) (tg2 (nI 21) c i)) 200 2 = nI K := by
      split
      · exact (up_ne (by omega)).trans (ce_tg hE1).2.2.1
      · exact (ce_tg hE1).2.2.1
  obtain ⟨_, q2, q3⟩ := q1
  generalize (if M - N = nI 0 then ab_up (tg2 (nI 13) (c + 1) (tg2 (nI 21) c i)) 200 1 (nI 1) else tg2 (nI 13) (c + 1) (tg2 (nI 21) c i)) = j at q2 q3 hE2 hk2
  have q13 : CQ N M [nI 21, nI 13] c i j := CQ_tr (l1 := [nI 21]) (CQ_L (l := [nI 21]) hE) q2
  refine r_go 6 rfl ?_ ?_
  · exact rfl
  rw [hk2]
  by_cases hp : M - N = nI 0
  · refine r_cv rfl rfl (s_part _ _ _ _ (fun z => by rw [q3, bI_t hp] at z; exact absurd z (by decide))) (by decide) ?_
    refine r_go 1 rfl trivial ?_
    refine r_ret rfl trivial ?_
    have e : paL N M K 1 = [nI 21, nI 13] := (if_pos (Or.inl rfl)).trans (if_pos hp)
    exact ⟨⟨_, rfl, fun z => absurd hp z⟩, by rw [show paL N M K k = paL N M K 1 by unfold paL; rw [if_pos hkk, if_pos (Or.inl rfl)], e]; exact q13, q3⟩
  refine r_cv rfl rfl ((sFe K hK _ (hE2 hp) hK (by omega) (by omega))) (by decide) ?_
  refine r_go 1 rfl ?_ ?_
  · (first | exact trivial | assumption | (simp (disch := omega) [ab_all, ab_nz, *]; done))
  refine r_ret rfl trivial ?_
  have e : paL N M K k = [nI 21, nI 13] ++ feL K K := (if_pos hkk).trans (if_neg hp)
  have e2 : paV N M K k x = pa0 N M x + feV N M K K (nI 1) := (if_pos hkk).trans (if_neg hp)
  refine ⟨⟨_, rfl, fun _ => e2.symm⟩, by rw [e]; exact CQ_tr q13 (CQ_L (hE2 hp)), ?_⟩
  rw [show tgL (feL K K) (c + 1 + 1) j 200 = j 200 from tgL_ne (by decide) (by decide)]
  exact q3
theorem sPa (k : Nat) (hk : k < 7) {N M : Int32} {K c dp : Nat} {i : ab_I} (x : Int32) (hE : CE N M K c i) (hK : K < 7) (hc : c + 6 ≤ 30) (hdp : dp + 7 ≤ 28) : ab_K 7 83 [.ref 200, .int (nI 3), .int (nI k), .int x, .int (nI dp)] i (cpQ N M K k c x i) := by
  have : k = 0 ∨ k = 1 ∨ k = 2 ∨ k = 3 ∨ k = 4 ∨ k = 5 ∨ k = 6 := by omega
  rcases this with rfl | rfl | rfl | rfl | rfl | rfl | rfl
  · exact k_deep (k_mono (s13 x hE hK 3 0 (by decide) (by decide) (by decide) (by omega) (by omega)) (cp13 hE 0 (by decide))) (by decide)
  · exact s21 x hE hK 3 1 (by decide) (by decide) (by decide) (by decide) (by omega) (by omega)
  · exact k_deep (k_mono (s13 x hE hK 3 2 (by decide) (by decide) (by decide) (by omega) (by omega)) (cp13 hE 2 (by decide))) (by decide)
  · exact k_deep (k_mono (s13 x hE hK 3 3 (by decide) (by decide) (by decide) (by omega) (by omega)) (cp13 hE 3 (by decide))) (by decide)
  · exact k_deep (k_mono (s13 x hE hK 3 4 (by decide) (by decide) (by decide) (by omega) (by omega)) (cp13 hE 4 (by decide))) (by decide)
  · exact s21 x hE hK 3 5 (by decide) (by decide) (by decide) (by decide) (by omega) (by omega)
  · exact k_deep (k_mono (s13 x hE hK 3 6 (by decide) (by decide) (by decide) (by omega) (by omega)) (cp13 hE 6 (by decide))) (by decide)
/-- any voice -/
def cvQ (N M : Int32) (K v : Nat) (x : Int32) (i : ab_I) : Option Value → ab_I → Prop := fun w j => (∃ y, w = some (.int y) ∧ (¬ (v = 3 ∧ M - N = nI 0) → y = vcV N M K v x)) ∧ CQ N M (vcL N M K v) 0 i j ∧ j 200 1 = bI (v = 3 ∧ M - N = nI 0)
theorem sAll (v : Nat) (hv : v < 4) {N M : Int32} {K : Nat} {i : ab_I} (x : Int32) (hE : CE N M K 0 i) (hK : K < 7) : ab_K 7 83 [.ref 200, .int (nI v), .int (nI K), .int x, .int (nI 0)] i (cvQ N M K v x i) := by
  have : v = 0 ∨ v = 1 ∨ v = 2 ∨ v = 3 := by omega
  rcases this with rfl | rfl | rfl | rfl
  · refine k_deep (k_mono (sVo K hK x hE hK (by decide) (by decide)) ?_) (by decide)
    rintro w j ⟨rfl, rfl⟩
    exact ⟨⟨_, rfl, fun _ => rfl⟩, CQ_L hE, by rw [bI_f (fun z => absurd z.1 (by decide)), show tgL (voL K) 0 i 200 = i 200 from tgL_ne (by decide) (by decide)]; exact hE.2.1⟩
  · refine k_deep (k_mono (sFe K hK x hE hK (by decide) (by decide)) ?_) (by decide)
    rintro w j ⟨rfl, rfl⟩
    exact ⟨⟨_, rfl, fun _ => rfl⟩, CQ_L hE, by rw [bI_f (fun z => absurd z.1 (by decide)), show tgL (feL K K) 0 i 200 = i 200 from tgL_ne (by decide) (by decide)]; exact hE.2.1⟩
  · refine k_deep (k_mono (sFl K hK x hE hK (by decide) (by decide)) ?_) (by decide)
    rintro w j ⟨rfl, rfl⟩
    exact ⟨⟨_, rfl, fun _ => rfl⟩, CQ_L hE, by rw [bI_f (fun z => absurd z.1 (by decide)), show tgL (flL K K) 0 i 200 = i 200 from tgL_ne (by decide) (by decide)]; exact hE.2.1⟩
  · refine k_mono (sPa K hK x hE hK (by decide) (by decide)) ?_
    rintro w j ⟨⟨y, rfl, h1⟩, h2, h3⟩
    exact ⟨⟨y, rfl, fun z => h1 (fun u => z ⟨rfl, u⟩)⟩, h2, h3.trans (bI_cg ⟨fun z => ⟨rfl, z⟩, fun z => z.2⟩)⟩
theorem k_ans {d K v : Nat} {M : Int32} {i : ab_I} (x : Int32) (hd : d < 12) (hv : v < 4) (hK : K < 7) (e0 : i (2 + 9 + d) 0 = nI K) (e1 : i (2 + 9 + d) 1 = M) : ab_K 41 80 [.ref 200, .ref (2 + 9 + d), .int (nI d), .int (nI v), .int x] i (fun w j => (∃ y, w = some (.int y) ∧ (¬ (v = 3 ∧ M - nI d = nI 0) → y = vcV (nI d) M K v x)) ∧ (∀ k, k < (vcL (nI d) M K v).length → ∀ f, j 202 k = bgR (vcL (nI d) M K v) 0 f k) ∧ j 201 1 = nI (vcL (nI d) M K v).length ∧ (∀ q, q ≠ 200 → q ≠ 201 → q ≠ 202 → j q = i q) ∧ j 200 1 = bI (v = 3 ∧ M - nI d = nI 0)) := by
  have gd := tg_d isT_2 hd
  refine k_of rfl ?_
  refine r_go 16 rfl ?_ ?_
  · (simp only [ab_all]; repeat' (first | exact gd | rfl | decide | exact Or.inl rfl | refine And.intro ?_ ?_))
  rw [gr_200_0]
  refine r_cn rfl rfl ((k_empty isR_201)) (by decide) ?_
  refine r_go 6 rfl ?_ ?_
  · exact rfl
  rw [show ab_up (ab_up (ab_up (ab_up (ab_up i 200 2 (i (2 + 9 + d) 0)) 200 3 (ab_up i 200 2 (i (2 + 9 + d) 0) (2 + 9 + d) 1)) 200 4 (nI d)) 200 1 (nI 0)) 201 1 (nI 0) 200 2 = nI K by simp (disch := omega) only [up_ne, up_us, e0]]
  have hE : CE (nI d) M K 0 (ab_up (ab_up (ab_up (ab_up (ab_up i 200 2 (i (2 + 9 + d) 0)) 200 3 (ab_up i 200 2 (i (2 + 9 + d) 0) (2 + 9 + d) 1)) 200 4 (nI d)) 200 1 (nI 0)) 201 1 (nI 0)) := by
      refine ⟨up_us, ?_, ?_, ?_, ?_⟩
      · simp (disch := omega) only [up_ne, up_us]
      · simp (disch := omega) only [up_ne, up_us, e0]
      · simp (disch := omega) only [up_ne, up_us, e1]
      · simp (disch := omega) only [up_ne, up_us]
  refine r_c rfl rfl ((sAll v hv x hE hK)) (by decide) ?_
  rintro w j ⟨⟨y, rfl, h1⟩, ⟨h2, h3, h4⟩, h5⟩
  refine r_ret rfl trivial ?_
  refine ⟨⟨y, rfl, h1⟩, fun k hk f => ?_, by rw [h3, Nat.zero_add], fun q a b c => ?_, h5⟩
  · rw [h2]
    exact bgR_lt (fun j hj => absurd hj (by omega)) (by rw [Nat.zero_add]; exact hk)
  · rw [h4 q a b c]
    simp (disch := omega) only [up_row]
theorem cl_vc {i j m : ab_I} {l : List Int32} {w : Int32} (hJ : InM m) (hC : ClsR i m) (hl : l.length ≤ 30) (h1 : ∀ k, k < l.length → ∀ f, j 202 k = bgR l 0 f k) (h2 : j 201 1 = nI l.length) (h3 : ∀ q, q ≠ 200 → q ≠ 201 → q ≠ 202 → j q = i q) : clQ i (w, vcM l m) (some (.int w)) j := by
  obtain ⟨c1, c2, c3, c4, c5, c6⟩ := hC
  have e16 : vcM l m 218 16 = nI l.length := up_us
  have e227 : vcM l m 227 = bgR l 0 (m 227) := (up_row (by decide)).trans row_s
  refine ⟨rfl, ?_, fun q hq => h3 q (by omega) (by omega) (by omega)⟩
  unfold ClsR ShR ErR TrR
  dsimp only
  rw [vcM_ne (q := 219) (by decide) (by decide), vcM_ne (q := 220) (by decide) (by decide), vcM_8 (k := 3) (by decide), vcM_ne (q := 228) (by decide) (by decide), vcM_ne (q := 229) (by decide) (by decide), vcM_ne (q := 230) (by decide) (by decide), vcM_ne (q := 222) (by decide) (by decide), e16, e227, nI_cl (by omega)]
  refine ⟨WhR_e hJ.1.1 c1 (fun q a b c d => h3 q (by omega) (by omega) (by omega)), fun z => WhR_e hJ.2.1.1 (c2 z) (fun q a b c d => h3 q (by omega) (by omega) (by omega)), ?_, fun a ha => ?_, ⟨?_, fun k hk => ?_⟩, h2, fun k hk => h1 k hk _⟩
  · rw [h3 0 (by decide) (by decide) (by decide)]
    exact c3
  · obtain ⟨a1, a2⟩ := c4 a ha
    refine ⟨?_, RoR_far a2 (h3 _ (by omega) (by omega) (by omega)) (h3 _ (by omega) (by omega) (by omega))⟩
    rw [h3 _ (by omega) (by omega) (by omega)]
    exact a1
  · rw [h3 216 (by decide) (by decide) (by decide)]
    exact c5.1
  · rw [h3 217 (by decide) (by decide) (by decide)]
    exact c5.2 k hk
theorem c_voice {i m : ab_I} (hC : ClsR i m) (hJ : InM m) (y v x : Int32) : ab_K 42 133 [.ref 0, .int y, .int v, .int x] i (clQ i (S_voice y v x m)) := by
  (have hI := hJ.1.1; have hX := InS_X hJ.1; have hT := hC.1.1; have hLw : LwsR (m 219) i := ⟨hC.1.2.1, hC.1.2.2.1⟩; have hE := hC.2.2.2.2.1.1)
  have t3 : i 2 3 = nI (nD (m 219)) := hT.1.2.1.trans hI.2.1.1
  have d12 := hI.2.1.2
  refine k_of rfl ?_
  refine r_go 4 rfl ?_ ?_
  · (first | exact trivial | (simp only [ab_all] <;> decide))
  simp only [gr_0_0, gr_0_1, gr_0_3, gr_0_4, gr_0_5, gr_0_6, gr_0_7, gr_1_0, gr_1_1, gr_1_2, gr_1_3, gr_1_4, gr_35_0, gr_35_1, gr_35_2, gr_35_3, gr_35_4]
  refine r_cv rfl rfl ((k_hasD y isT_2 t3 (Nat.le_trans hI.2.1.2 (by decide)))) (by decide) ?_
  refine r_bE rfl (fun h11 => ?_) (fun h11 => ?_)
  · skip
    refine r_go 2 rfl ?_ ?_
    · (first | exact trivial | (simp only [ab_all] <;> decide))
    refine r_cv rfl rfl ((k_error 1 (by decide) (by decide) hE)) (by decide) ?_
    refine r_ret rfl trivial ?_
    exact cl_to (if_neg (by simp only [h11, if_true, if_false, not_true, not_false_eq_true, and_true, true_and, and_false, false_and, or_true, true_or, or_false, false_or, and_self, or_self, not_false_eq_true])) (cl_er (by decide) (by decide) hJ hC)
  · skip
    refine r_go 3 rfl ?_ ?_
    · (first | exact trivial | (simp only [ab_all] <;> decide))
    refine r_cv rfl trivial ((k_within _ _ _)) (by decide) ?_
    refine r_bN rfl (fun h20 => ?_) (fun h20 => ?_)
    · skip
      refine r_go 6 rfl ?_ ?_
      · (first | exact trivial | (simp only [ab_all] <;> decide))
      have hP := (show S_voice y v x m = _ from if_pos ⟨h11, h20⟩)
      obtain ⟨d, hd, rfl⟩ := of_rg h11
      obtain ⟨V, hV, rfl⟩ := of_bt (by decide) h20
      rw [nI_cl (by omega), nI_cl (by omega)] at hP
      have r0 : rg (dr (m 219) d 0) 0 6 := (hI.2.2.2.2.2 d hd).2 0 (by decide) (by decide)
      obtain ⟨K, hK, eK⟩ : ∃ K : Nat, K ≤ 6 ∧ dr (m 219) d 0 = nI K := ⟨(dr (m 219) d 0).toNatClampNeg, by rw [tn_i]; unfold rg at r0; omega, tn_of r0.1⟩
      rw [eK, nI_cl (by omega)] at hP
      simp only [gr_0_0, gr_0_1, gr_0_3, gr_0_4, gr_0_5, gr_0_6, gr_0_7, gr_1_0, gr_1_1, gr_1_2, gr_1_3, gr_1_4, gr_35_0, gr_35_1, gr_35_2, gr_35_3, gr_35_4]
      refine r_cv rfl rfl ((k_doorAt d isT_2 (by omega))) (by decide) ?_
      refine r_go 3 rfl ?_ ?_
      · (first | exact trivial | (simp only [ab_all] <;> decide))
      refine r_c rfl rfl ((k_ans x (by omega) (by omega) (by omega) ((hT.2.2 d hd 0 (by decide)).trans eK) (hT.2.2 d hd 1 (by decide)))) (by decide) ?_
      rintro w j ⟨⟨u, rfl, q1⟩, q2, q3, q4, q5⟩
      have q6 := cl_vc (w := u) hJ hC (Nat.le_trans (vcL_n _ _ _ _) (by decide)) q2 q3 q4
      have eE : j 216 1 = nI 6 := by rw [q4 216 (by decide) (by decide) (by decide)]; exact hE
      have hJ2 := InM_vc (l := vcL (nI d) (dr (m 219) d 1) K V) hJ (Nat.le_trans (vcL_n _ _ _ _) (by decide))
      refine r_go 4 rfl ?_ ?_
      · (first | exact trivial | (simp only [ab_all] <;> decide))
      simp only [gr_0_0, gr_0_1, gr_0_3, gr_0_4, gr_0_5, gr_0_6, gr_0_7, gr_1_0, gr_1_1, gr_1_2, gr_1_3, gr_1_4, gr_35_0, gr_35_1, gr_35_2, gr_35_3, gr_35_4]
      rw [q5]
      refine r_br rfl (fun h59 => ?_) (fun h59 => ?_)
      · skip
        refine r_go 1 rfl ?_ ?_
        · (first | exact trivial | (simp only [ab_all] <;> decide))
        refine r_ret rfl trivial ?_
        by_cases hc : V = 3 ∧ dr (m 219) d 1 - nI d = nI 0
        · rw [if_pos hc] at hP
          first | exact absurd (bI_t hc) (fun z => by rw [h59] at z; exact absurd z (by decide)) | (refine cl_to hP ?_; have q := cl_er (k := 6) (by decide) (by decide) hJ2 q6.2.1; exact ⟨q.1, q.2.1, fun p hp => (q.2.2 p hp).trans (q6.2.2 p hp)⟩)
        · rw [if_neg hc] at hP
          first | exact absurd (bI_f hc) h59 | (rw [← q1 hc] at hP; exact cl_to hP q6)
      · skip
        refine r_go 2 rfl ?_ ?_
        · (first | exact trivial | (simp only [ab_all] <;> decide))
        refine r_cv rfl rfl ((k_error 6 (by decide) (by decide) eE)) (by decide) ?_
        refine r_go 1 rfl ?_ ?_
        · (first | exact trivial | (simp only [ab_all] <;> decide))
        refine r_ret rfl trivial ?_
        by_cases hc : V = 3 ∧ dr (m 219) d 1 - nI d = nI 0
        · rw [if_pos hc] at hP
          first | exact absurd (bI_t hc) (fun z => by rw [h59] at z; exact absurd z (by decide)) | (refine cl_to hP ?_; have q := cl_er (k := 6) (by decide) (by decide) hJ2 q6.2.1; exact ⟨q.1, q.2.1, fun p hp => (q.2.2 p hp).trans (q6.2.2 p hp)⟩)
        · rw [if_neg hc] at hP
          first | exact absurd (bI_f hc) h59 | (rw [← q1 hc] at hP; exact cl_to hP q6)
    · skip
      refine r_go 2 rfl ?_ ?_
      · (first | exact trivial | (simp only [ab_all] <;> decide))
      refine r_cv rfl rfl ((k_error 1 (by decide) (by decide) hE)) (by decide) ?_
      refine r_ret rfl trivial ?_
      exact cl_to (if_neg (by simp only [h11, h20, if_true, if_false, not_true, not_false_eq_true, and_true, true_and, and_false, false_and, or_true, true_or, or_false, false_or, and_self, or_self, not_false_eq_true])) (cl_er (by decide) (by decide) hJ hC)
