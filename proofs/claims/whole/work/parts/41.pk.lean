/-! the best row -/
def on1 : Nat → Nat
  | 0 => 0
  | k + 1 => 10 * on1 k + 1
theorem on1_alt : ∀ k, on1 (k + 1) = 10 ^ k + on1 k
  | 0 => rfl
  | k + 1 => by
    show 10 * on1 (k + 1) + 1 = 10 ^ (k + 1) + (10 * on1 k + 1)
    rw [on1_alt k, Nat.pow_succ]
    omega
theorem on1_lt : ∀ k, 3 * on1 k < 10 ^ k
  | 0 => by decide
  | k + 1 => by
    have := on1_lt k
    show 3 * (10 * on1 k + 1) < 10 ^ (k + 1)
    rw [Nat.pow_succ]
    omega
theorem row_md : ∀ {k f x : Nat}, rwB f x = true → 10 ^ k ≤ x → on1 k ≤ x % 10 ^ k ∧ x % 10 ^ k ≤ 3 * on1 k
  | 0, _, x, _, _ => by
    rw [Nat.pow_zero, Nat.mod_one]
    exact ⟨Nat.le_refl _, Nat.zero_le _⟩
  | k + 1, 0, x, h, hx => by
    have h0 : x = 0 := of_decide_eq_true h
    have := (Nat.pow_pos (n := k + 1) (show 0 < 10 by decide))
    omega
  | k + 1, f + 1, x, h, hx => by
    have hp := (Nat.pow_pos (n := k + 1) (show 0 < 10 by decide))
    have h2 := rwB_d h (by omega)
    rw [Nat.pow_succ] at hx
    have h3 := row_md (k := k) h2.2 (by omega)
    have e : x % 10 ^ (k + 1) = x % 10 + 10 * (x / 10 % 10 ^ k) := by rw [Nat.pow_succ', Nat.mod_mul]
    show 10 * on1 k + 1 ≤ _ ∧ _ ≤ 3 * (10 * on1 k + 1)
    rw [e]
    omega
def wgR (p : Int32) (r : Nat) (st : Int32 × Int32) : Int32 × Int32 := if st.1 = (-1) ∨ p < st.2 then (nI r, p) else st
def wgC (p : Int32) (r : Nat) (st : Int32 × Int32) : Int32 × Int32 := if p < st.2 then (nI r, p) else st
def trX (W : Nat → Int32 × Int32 → Int32 × Int32) : Nat → Nat → Int32 × Int32 → Int32 × Int32
  | 0, r, st => W r st
  | k + 1, r, st => trX W k (10 * r + 3) (trX W k (10 * r + 2) (trX W k (10 * r + 1) st))
def frF (W : Nat → Int32 × Int32 → Int32 × Int32) : Nat → Nat → Int32 × Int32 → Int32 × Int32
  | 0, _, st => st
  | c + 1, a, st => frF W c (a + 1) (if rwB 6 a = true then W a st else st)
theorem frF_add {W : Nat → Int32 × Int32 → Int32 × Int32} {c2 : Nat} : ∀ {c1 a : Nat} {st : Int32 × Int32}, frF W (c1 + c2) a st = frF W c2 (a + c1) (frF W c1 a st)
  | 0, a, st => by rw [Nat.zero_add]; rfl
  | c1 + 1, a, st => by
    rw [show c1 + 1 + c2 = (c1 + c2) + 1 by omega, show a + (c1 + 1) = a + 1 + c1 by omega]
    exact frF_add (c1 := c1) (a := a + 1) (st := if rwB 6 a = true then W a st else st)
theorem frF_gap {W : Nat → Int32 × Int32 → Int32 × Int32} : ∀ {c a : Nat} {st : Int32 × Int32}, (∀ j, j < c → ¬ rwB 6 (a + j) = true) → frF W c a st = st
  | 0, _, _, _ => rfl
  | c + 1, a, st, h => by
    show frF W c (a + 1) (if rwB 6 a = true then W a st else st) = st
    rw [if_neg (fun z => h 0 (by omega) (by rw [Nat.add_zero]; exact z))]
    exact frF_gap (fun j hj => by rw [show a + 1 + j = a + (j + 1) by omega]; exact h (j + 1) (by omega))
theorem gap_no {k q y : Nat} (hq : 1 ≤ q) (h1 : 3 * on1 k < y) (h2 : y < 10 ^ k + on1 k) : ¬ rwB 6 (10 ^ k * q + y) = true := by
  intro h
  have hT : 10 ^ k ≤ 10 ^ k * q := Nat.le_mul_of_pos_right _ hq
  have h3 := row_md (k := k) h (by omega)
  have ho := on1_lt k
  rw [Nat.mul_add_mod] at h3
  rcases Nat.lt_or_ge y (10 ^ k) with z | z
  · rw [Nat.mod_eq_of_lt z] at h3
    omega
  · rw [Nat.mod_eq_sub_mod z, Nat.mod_eq_of_lt (by omega)] at h3
    omega
theorem rwB_ap {k r d : Nat} (hk : k ≤ 5) (h : rwB (6 - (k + 1)) r = true) (hd : 1 ≤ d ∧ d ≤ 3) : rwB (6 - k) (10 * r + d) = true := by
  rw [show 6 - k = (6 - (k + 1)) + 1 by omega, rwB_t (by omega), show (10 * r + d) / 10 = r by omega]
  exact h
theorem frF_tr {W : Nat → Int32 × Int32 → Int32 × Int32} : ∀ {k r : Nat} {st : Int32 × Int32}, k ≤ 5 → rwB (6 - k) r = true → frF W (2 * on1 k + 1) (10 ^ k * r + on1 k) st = trX W k r st
  | 0, r, st, _, h => by
    show frF W 1 (10 ^ 0 * r + 0) st = W r st
    rw [Nat.pow_zero, Nat.one_mul, Nat.add_zero]
    show (if rwB 6 r = true then W r st else st) = W r st
    rw [if_pos h]
  | k + 1, r, st, hk, h => by
    have ho := on1_lt k
    have E1 : 10 ^ (k + 1) * r + on1 (k + 1) = 10 ^ k * (10 * r + 1) + on1 k := by rw [on1_alt, Nat.pow_succ, Nat.mul_add, Nat.mul_one, Nat.mul_assoc, Nat.add_assoc]
    have E2 : 10 ^ k * (10 * r + 1) + 10 ^ k = 10 ^ k * (10 * r + 2) := by rw [show 10 * r + 2 = 10 * r + 1 + 1 by omega, Nat.mul_add _ (10 * r + 1) 1, Nat.mul_one]
    have E3 : 10 ^ k * (10 * r + 2) + 10 ^ k = 10 ^ k * (10 * r + 3) := by rw [show 10 * r + 3 = 10 * r + 2 + 1 by omega, Nat.mul_add _ (10 * r + 2) 1, Nat.mul_one]
    have EL : 2 * on1 (k + 1) + 1 = (2 * on1 k + 1) + ((10 ^ k - (2 * on1 k + 1)) + ((2 * on1 k + 1) + ((10 ^ k - (2 * on1 k + 1)) + (2 * on1 k + 1)))) := by rw [on1_alt]; omega
    have G1 : ∀ st, frF W (10 ^ k - (2 * on1 k + 1)) (10 ^ k * (10 * r + 1) + on1 k + (2 * on1 k + 1)) st = st := fun st => frF_gap (fun j hj => by
      have := gap_no (k := k) (q := 10 * r + 1) (y := on1 k + (2 * on1 k + 1) + j) (by omega) (by omega) (by omega)
      rw [show 10 ^ k * (10 * r + 1) + on1 k + (2 * on1 k + 1) + j = 10 ^ k * (10 * r + 1) + (on1 k + (2 * on1 k + 1) + j) by omega]
      exact this)
    have G2 : ∀ st, frF W (10 ^ k - (2 * on1 k + 1)) (10 ^ k * (10 * r + 2) + on1 k + (2 * on1 k + 1)) st = st := fun st => frF_gap (fun j hj => by
      have := gap_no (k := k) (q := 10 * r + 2) (y := on1 k + (2 * on1 k + 1) + j) (by omega) (by omega) (by omega)
      rw [show 10 ^ k * (10 * r + 2) + on1 k + (2 * on1 k + 1) + j = 10 ^ k * (10 * r + 2) + (on1 k + (2 * on1 k + 1) + j) by omega]
      exact this)
    rw [E1, EL, frF_add, frF_add, G1, frF_add, frF_add]
    rw [show 10 ^ k * (10 * r + 1) + on1 k + (2 * on1 k + 1) + (10 ^ k - (2 * on1 k + 1)) = 10 ^ k * (10 * r + 2) + on1 k by omega]
    rw [G2]
    rw [show 10 ^ k * (10 * r + 2) + on1 k + (2 * on1 k + 1) + (10 ^ k - (2 * on1 k + 1)) = 10 ^ k * (10 * r + 3) + on1 k by omega]
    rw [frF_tr (by omega) (rwB_ap (by omega) h (by decide)), frF_tr (by omega) (rwB_ap (by omega) h (by decide)), frF_tr (by omega) (rwB_ap (by omega) h (by decide))]
    rfl
/-! the class begins with the most, the reference with none -/
def simW (a c : Int32 × Int32) : Prop := (a = (nI 0, nI 2147483647) ∧ c = ((-1), nI 0)) ∨ (a = c ∧ ¬ a.1 = (-1))
theorem simW_1 {p : Int32} {r : Nat} {a c : Int32 × Int32} (h : simW a c) (hp : p.toInt ≤ 2000000) (hr : r < 2147483648) : simW (wgC p r a) (wgR p r c) ∧ wgC p r a = wgR p r c := by
  have hn : ¬ nI r = (-1) := fun z => by rw [eq_i, c_i hr, m1_i] at z; omega
  rcases h with ⟨rfl, rfl⟩ | ⟨rfl, h1⟩
  · have e1 : wgC p r (nI 0, nI 2147483647) = (nI r, p) := if_pos (by show p < nI 2147483647; rw [Int32.lt_iff_toInt_lt, c_i (by decide)]; omega)
    have e2 : wgR p r ((-1), nI 0) = (nI r, p) := if_pos (Or.inl rfl)
    rw [e1, e2]
    exact ⟨Or.inr ⟨rfl, hn⟩, rfl⟩
  · unfold wgC wgR
    by_cases hp : p < a.2
    · rw [if_pos hp, if_pos (Or.inr hp)]
      exact ⟨Or.inr ⟨rfl, hn⟩, rfl⟩
    · rw [if_neg hp, if_neg (fun z => z.elim h1 hp)]
      exact ⟨Or.inr ⟨rfl, h1⟩, rfl⟩
theorem simW_tr {P : Nat → Int32} (hP : ∀ r, (P r).toInt ≤ 2000000) : ∀ {k r : Nat} {a c : Int32 × Int32}, simW a c → 10 ^ k * (r + 1) ≤ 1000000 → simW (trX (fun r => wgC (P r) r) k r a) (trX (fun r => wgR (P r) r) k r c) ∧ trX (fun r => wgC (P r) r) k r a = trX (fun r => wgR (P r) r) k r c
  | 0, r, a, c, h, hr => simW_1 h (hP r) (by rw [Nat.pow_zero, Nat.one_mul] at hr; omega)
  | k + 1, r, a, c, h, hr => by
    have e : ∀ d, d ≤ 9 → 10 ^ k * (10 * r + d + 1) ≤ 1000000 := fun d hd => Nat.le_trans (Nat.mul_le_mul_left _ (show 10 * r + d + 1 ≤ 10 * (r + 1) by omega)) (by rw [← Nat.mul_assoc, ← Nat.pow_succ]; exact hr)
    have h1 := simW_tr hP (k := k) (r := 10 * r + 1) h (e 1 (by decide))
    have h2 := simW_tr hP (k := k) (r := 10 * r + 2) h1.1 (e 2 (by decide))
    exact simW_tr hP (k := k) (r := 10 * r + 3) h2.1 (e 3 (by decide))
theorem sm_rg {f : Nat → Int32} : ∀ {n : Nat}, n ≤ 12 → (∀ d, d < n → rg (f d) 0 99999) → 0 ≤ (sm f n).toInt ∧ (sm f n).toInt ≤ 99999 * (n : Int)
  | 0, _, _ => by
    have : (sm f 0).toInt = 0 := by show (nI 0).toInt = 0; decide
    omega
  | n + 1, h, hf => by
    have h1 := sm_rg (f := f) (n := n) (by omega) (fun d hd => hf d (by omega))
    have h2 := hf n (by omega)
    unfold rg at h2
    rw [sm_s, ad_i (by omega) (by omega)]
    omega
theorem pain_rg {s : Vc} {d : Nat} : rg (pain s d) 0 99999 := by
  unfold pain
  split
  · exact @hl_rg _ (nI 0) (nI 99999) (by decide)
  · exact @hl_rg _ (nI 0) (nI 99999) (by decide)
theorem pains_rg {s : Vc} (hI : InT s) : 0 ≤ (pains s).toInt ∧ (pains s).toInt ≤ 2000000 := by
  have h12 := hI.2.1.2
  have h := sm_rg (f := pain s) h12 (fun d _ => pain_rg)
  unfold pains
  omega
def bst (b n : Nat) (s : Vc) : Int32 × Int32 := trX (fun r => wgR (pains (mv b r s)) r) n 0 ((-1), nI 0)
theorem bst_c {b n : Nat} {s : Vc} (hI : InT s) (hn : n ≤ 5) : trX (fun r => wgC (pains (mv b r s)) r) n 0 (nI 0, nI 2147483647) = bst b n s :=
  (simW_tr (fun r => (pains_rg (In_mv hI).1).2) (Or.inl ⟨rfl, rfl⟩) (by rw [Nat.mul_one]; exact Nat.le_trans (Nat.pow_le_pow_right (by decide) hn) (by decide))).2
def S_best (b n w : Int32) (m : ab_I) : Int32 × ab_I := if okB (m 219) b ∧ (nI 1 ≤ n ∧ n ≤ nI 5) ∧ nI 0 ≤ w ∧ w ≤ nI 1 then (if w = nI 0 then (bst b.toNatClampNeg n.toNatClampNeg (m 219)).1 else (bst b.toNatClampNeg n.toNatClampNeg (m 219)).2, m) else er m 1
/-! the class: deeper and deeper -/
theorem k_weigh {i : ab_I} (r : Nat) (p : Int32) : ab_K 0 48 [.ref 72, .int (nI r), .int p] i (fun v i' => v = none ∧ (i' 72 4, i' 72 5) = wgC p r (i 72 4, i 72 5) ∧ (∀ q, q ≠ 72 → i' q = i q) ∧ ∀ k, k ≠ 4 → k ≠ 5 → i' 72 k = i 72 k) := by
  refine k_of rfl ?_
  refine r_go 3 rfl ?_ ?_
  · (first | exact rfl | exact ⟨rfl, rfl⟩)
  refine r_le rfl (fun h5 => ?_) (fun h5 => ?_)
  · skip
    refine r_ret rfl trivial ?_
    first | exact ⟨rfl, (if_neg (by intro z; exact h5 z)).symm, fun _ _ => rfl, fun _ _ _ => rfl⟩ | (refine ⟨rfl, ?_, fun q hq => (up_row hq).trans (up_row hq), fun k a b => (up_ne (by omega)).trans (up_ne (by omega))⟩; unfold wgC; rw [if_pos h5, up_us, up_ne (by omega), up_us])
  · skip
    refine r_go 6 rfl ?_ ?_
    · (first | exact rfl | exact ⟨rfl, rfl⟩)
    refine r_ret rfl trivial ?_
    first | exact ⟨rfl, (if_neg (by intro z; exact h5 z)).symm, fun _ _ => rfl, fun _ _ _ => rfl⟩ | (refine ⟨rfl, ?_, fun q hq => (up_row hq).trans (up_row hq), fun k a b => (up_ne (by omega)).trans (up_ne (by omega))⟩; unfold wgC; rw [if_pos h5, up_us, up_ne (by omega), up_us])
def tbQ (b n k r : Nat) (s : Vc) (i : ab_I) : Option Value → ab_I → Prop := fun v i' => v = none ∧ (i' 72 4, i' 72 5) = trX (fun r => wgC (pains (mv b r s)) r) k r (i 72 4, i 72 5) ∧ (∀ q, 74 ≤ q → q < 74 + 21 * (n - k + 1) → i' q = i q) ∧ ol i i'
def tbK (b n k : Nat) (s : Vc) : Prop := ∀ (r : Nat) (i : ab_I), 10 ^ k * (r + 1) ≤ 1000000 → TwR (tr (n - k)) (mv b r s) i → LwsR s i → ab_K (5 + k) 47 [.ref 72, .int (nI b), .int (nI n), .int (nI r), .int (nI (n - k))] i (tbQ b n k r s i)
theorem tb_0 {b n : Nat} {s : Vc} (hI : InT s) (hX : InXs s) (hn : n ≤ 5) (r : Nat) (i : ab_I) (hR : TwR (tr n) (mv b r s) i) (hL : LwsR s i) : ab_K 5 47 [.ref 72, .int (nI b), .int (nI n), .int (nI r), .int (nI n)] i (tbQ b n 0 r s i) := by
  have hP := In_mv (b := b) (r := r) hI
  have hX1 := InXs_rt hX hP.2.2
  refine k_of rfl ?_
  refine r_go 2 rfl ?_ ?_
  · (first | exact trivial | assumption | (simp (disch := omega) [ab_all, ab_nz, *]; done))
  refine r_brT rfl (Int32.le_refl _) ?_
  refine r_go 4 rfl ?_ ?_
  · (first | exact trivial | assumption | (simp (disch := omega) [ab_all, ab_nz, *]; done))
  refine r_cv rfl (by first | rfl | exact tg_t (isT_tr (by omega))) ((k_trialAt n (by omega))) (by decide) ?_
  refine r_go 2 rfl ?_ ?_
  · exact ⟨rfl, by decide⟩
  rw [gr_72_2]
  refine r_c rfl (by first | rfl | exact tg_t (isT_tr (by omega))) ((k_pains (isT_tr (by omega)) hP.1 hX1 hR (LwsR_rt hL hX hP.2.2 (fun _ _ => rfl)))) (by decide) ?_
  rintro v i1 ⟨rfl, f1⟩
  refine r_c rfl (by first | rfl | exact tg_t (isT_tr (by omega))) ((k_weigh r _)) (by decide) ?_
  rintro v i2 ⟨rfl, e2, f2, g2⟩
  refine r_ret rfl trivial ?_
  refine ⟨rfl, ?_, fun q a c => ?_, fun q a c d => ?_⟩
  · rw [e2, f1 72 (by decide) (by decide)]
    rfl
  · rw [f2 q (by omega)]
    exact f1 q (by omega) (by omega)
  · rw [f2 q (by omega)]
    exact f1 q c d
theorem tb_step {b n k d r : Nat} {s : Vc} {i : ab_I} {Q : Option Value → ab_I → Prop} (hI : InT s) (hX : InXs s) (hb : b < nB s) (hn : n ≤ 5) (hk : k + 1 ≤ n) (hd : 1 ≤ d ∧ d ≤ 3) (hr : 10 ^ (k + 1) * (r + 1) ≤ 1000000) (hT : tbK b n k s) (hR : TwR (tr (n - (k + 1))) (mv b r s) i) (hL : LwsR s i) (K : ∀ i', (i' 72 4, i' 72 5) = trX (fun r => wgC (pains (mv b r s)) r) k (10 * r + d) (i 72 4, i 72 5) → (∀ q, 74 ≤ q → q < 74 + 21 * (n - (k + 1) + 1) → i' q = i q) → ol i i' → ab_R (5 + (k + 1)) tb_X3_tryRows 34 [some (.ref 72), some (.int (nI b)), some (.int (nI n)), some (.int (nI r)), some (.int (nI (n - (k + 1)))), some (.int (nI (d + 1))), none] [] i' Q) : ab_R (5 + (k + 1)) tb_X3_tryRows 34 [some (.ref 72), some (.int (nI b)), some (.int (nI n)), some (.int (nI r)), some (.int (nI (n - (k + 1)))), some (.int (nI d)), none] [] i Q := by
  have hP := In_mv (b := b) (r := r) hI
  have hX1 := InXs_rt hX hP.2.2
  have e1 : nI (n - (k + 1)) + nI 1 = nI (n - k) := by rw [nI_add]; congr 1; omega
  have hpk := Nat.pow_pos (n := k) (show 0 < 10 by decide)
  have hrr : 10 ^ k * (10 * (r + 1)) ≤ 1000000 := by rw [← Nat.mul_assoc, ← Nat.pow_succ]; exact hr
  have hr9 : 10 * (r + 1) ≤ 1000000 := Nat.le_trans (Nat.le_mul_of_pos_left _ hpk) hrr
  refine r_go 2 rfl ?_ ?_
  · (first | exact trivial | assumption | (simp (disch := omega) [ab_all, ab_nz, *]; done))
  refine r_brF rfl (fun h => by clear hT K hR hL hP hX1 e1 hI hX; (simp (disch := omega) only [Int32.le_iff_toInt_le, Int32.lt_iff_toInt_lt, c_i, m1_i, m5_i, m33_i] at * <;> omega)) ?_
  refine r_go 4 rfl ?_ ?_
  · (first | exact trivial | assumption | (simp (disch := omega) [ab_all, ab_nz, *]; done))
  rw [e1]
  refine r_cv rfl (by first | rfl | exact tg_t (isT_tr (by omega))) ((k_trialAt (n - k) (by omega))) (by omega) ?_
  refine r_go 4 rfl ?_ ?_
  · (first | exact trivial | assumption | (simp (disch := omega) [ab_all, ab_nz, *]; done))
  refine r_cv rfl (by first | rfl | exact tg_t (isT_tr (by omega))) ((k_trialAt (n - (k + 1)) (by omega))) (by omega) ?_
  refine r_c rfl (by first | rfl | exact tg_t (isT_tr (by omega))) ((k_twLike (isT_tr (by omega)) (isT_tr (by omega)) (by unfold tr; omega) hP.1 hR)) (by omega) ?_
  rintro v i1 ⟨rfl, R1, f1⟩
  have L1 : LwsR (mv b r s) i1 := LwsR_rt (ol_L hL hX (ol_frX f1 (tr_rg (by omega)))) hX hP.2.2 (fun _ _ => rfl)
  refine r_go 5 rfl ?_ ?_
  · exact ⟨rfl, by decide⟩
  rw [gr_72_1]
  refine r_c rfl (by first | rfl | exact tg_t (isT_tr (by omega))) ((k_goB (isT_tr (by omega)) hP.1 hX1 (by rw [hP.2.1.1]; exact hb) hd R1 L1)) (by omega) ?_
  rintro v i2 ⟨rfl, R2, f2⟩
  have e2 : mv b (10 * r + d) s = hour b (nI d - nI 2) (mv b r s) := by
      rw [mv_st (by omega) (by omega), show (10 * r + d) % 10 = d by omega, show (10 * r + d) / 10 = r by omega]
  rw [← e2] at R2
  have o2 : ol i i2 := ol_tr (ol_frX f1 (tr_rg (by omega))) (ol_frT f2 (tr_rg (by omega)))
  refine r_go 11 rfl ?_ ?_
  · (first | exact trivial | assumption | (simp (disch := omega) [ab_all, ab_nz, *]; done))
  rw [e1, show nI r * nI 10 + nI d = nI (10 * r + d) by rw [pk_mul, nI_add, Nat.mul_comm]]
  refine r_c rfl (by first | rfl | exact tg_t (isT_tr (by omega))) ((hT (10 * r + d) i2 (Nat.le_trans (Nat.mul_le_mul_left _ (by omega)) hrr) R2 (ol_L hL hX o2))) (by omega) ?_
  rintro v i3 ⟨rfl, e3, f3, o3⟩
  refine r_go 2 rfl ?_ ?_
  · (first | exact trivial | assumption | (simp (disch := omega) [ab_all, ab_nz, *]; done))
  rw [nI_add]
  refine r_lk (K i3 ?_ (fun q a c => ?_) (ol_tr o2 o3)) rfl
  · rw [e3]
    congr 2
    · rw [f2 72 (by unfold tr; omega) (by decide) (by decide), f1 72 (by unfold tr; omega)]
    · rw [f2 72 (by unfold tr; omega) (by decide) (by decide), f1 72 (by unfold tr; omega)]
  · rw [f3 q a (by omega), f2 q (by unfold tr; omega) (by omega) (by omega), f1 q (by unfold tr; omega)]
theorem tb_S {b n k : Nat} {s : Vc} (hI : InT s) (hX : InXs s) (hb : b < nB s) (hn : n ≤ 5) (hk : k + 1 ≤ n) (hT : tbK b n k s) (r : Nat) (i : ab_I) (hr : 10 ^ (k + 1) * (r + 1) ≤ 1000000) (hR : TwR (tr (n - (k + 1))) (mv b r s) i) (hL : LwsR s i) : ab_K (5 + (k + 1)) 47 [.ref 72, .int (nI b), .int (nI n), .int (nI r), .int (nI (n - (k + 1)))] i (tbQ b n (k + 1) r s i) := by
  have hP := In_mv (b := b) (r := r) hI
  refine k_of rfl ?_
  refine r_go 2 rfl ?_ ?_
  · (first | exact trivial | assumption | (simp (disch := omega) [ab_all, ab_nz, *]; done))
  refine r_brF rfl (fun h => by clear hT hR hL hI hX hP; (simp (disch := omega) only [Int32.le_iff_toInt_le, Int32.lt_iff_toInt_lt, c_i, m1_i, m5_i, m33_i] at * <;> omega)) ?_
  refine r_go 2 rfl ?_ ?_
  · (first | exact trivial | assumption | (simp (disch := omega) [ab_all, ab_nz, *]; done))
  refine r_brT rfl (by clear hT hR hL hI hX hP; (simp (disch := omega) only [Int32.le_iff_toInt_le, Int32.lt_iff_toInt_lt, c_i, m1_i, m5_i, m33_i] at * <;> omega)) ?_
  refine r_go 2 rfl ?_ ?_
  · (first | exact trivial | assumption | (simp (disch := omega) [ab_all, ab_nz, *]; done))
  have W : ∀ {j : ab_I}, (∀ q, 74 ≤ q → q < 74 + 21 * (n - (k + 1) + 1) → j q = i q) → TwR (tr (n - (k + 1))) (mv b r s) j := fun h => TwR_far hR hP.1.1.2 hP.1.2.1.2 (fun q a c => h q (by unfold tr at a; omega) (by unfold tr at c; omega))
  refine r_lk (tb_step (d := 1) hI hX hb hn hk (by decide) hr hT hR hL (fun i1 e1 f1 o1 => ?_)) rfl
  refine tb_step (d := 2) hI hX hb hn hk (by decide) hr hT (W f1) (ol_L hL hX o1) (fun i2 e2 f2 o2 => ?_)
  have f12 : ∀ q, 74 ≤ q → q < 74 + 21 * (n - (k + 1) + 1) → i2 q = i q := fun q a c => (f2 q a c).trans (f1 q a c)
  refine tb_step (d := 3) hI hX hb hn hk (by decide) hr hT (W f12) (ol_L hL hX (ol_tr o1 o2)) (fun i3 e3 f3 o3 => ?_)
  refine r_go 2 rfl ?_ ?_
  · exact trivial
  refine r_brT rfl (by decide) ?_
  refine r_ret rfl trivial ?_
  refine ⟨rfl, ?_, fun q a c => (f3 q a c).trans (f12 q a c), ol_tr o1 (ol_tr o2 o3)⟩
  rw [e3, e2, e1]
  rfl
theorem tb_all {b n : Nat} {s : Vc} (hI : InT s) (hX : InXs s) (hb : b < nB s) (hn : n ≤ 5) : ∀ k, k ≤ n → tbK b n k s
  | 0, _ => fun r i _ hR hL => tb_0 hI hX hn r i hR hL
  | k + 1, hk => fun r i hr hR hL => tb_S hI hX hb hn hk (tb_all hI hX hb hn k (by omega)) r i hr hR hL
theorem k_seekB {s : Vc} {i : ab_I} (hI : InT s) (hX : InXs s) (hT : TwR 2 s i) (hL : LwsR s i) (b n : Nat) (hb : b < nB s) (hn : n ≤ 5) : ab_K 13 46 [.ref 72, .int (nI b), .int (nI n)] i (fun v i' => v = none ∧ (i' 72 4, i' 72 5) = bst b n s ∧ ol i i') := by
  refine k_of rfl ?_
  refine r_go 2 rfl ?_ ?_
  · (first | exact trivial | assumption | (simp (disch := omega) [ab_all, ab_nz, *]; done))
  refine r_c rfl rfl ((k_fresh 0 (by decide) hI hT)) (by decide) ?_
  rintro v i1 ⟨rfl, R1, f1⟩
  have o1 := ol_frX f1 (tr_rg (by decide))
  refine r_go 12 rfl ?_ ?_
  · exact ⟨rfl, rfl⟩
  have hK := tb_all hI hX hb hn n (Nat.le_refl _) 0 (ab_up (ab_up i1 72 5 (nI 2147483647)) 72 4 (nI 0)) (by rw [Nat.zero_add, Nat.mul_one]; exact (p10 (by omega)).2) (by rw [Nat.sub_self]; exact TwR_far R1 hI.1.2 hI.2.1.2 (fun q a c => (up_row (by unfold tr at a; omega)).trans (up_row (by unfold tr at a; omega)))) (ol_L hL hX (ol_tr o1 (ol_tr (ol_up (by omega)) (ol_up (by omega)))))
  rw [Nat.sub_self] at hK
  refine r_c rfl rfl (hK) (by omega) ?_
  rintro v i2 ⟨rfl, e2, f2, o2⟩
  refine r_ret rfl trivial ?_
  refine ⟨rfl, ?_, ol_tr o1 (ol_tr (ol_tr (ol_up (by omega)) (ol_up (by omega))) o2)⟩
  rw [e2, up_us, up_ne (by omega), up_us]
  exact bst_c hI hn
theorem c_best {i m : ab_I} (hC : ClsR i m) (hJ : InM m) (x n w : Int32) : ab_K 14 128 [.ref 0, .int x, .int n, .int w] i (clQ i (S_best x n w m)) := by
  (have hI := hJ.1.1; have hX := InS_X hJ.1; have hT := hC.1.1; have hLw : LwsR (m 219) i := ⟨hC.1.2.1, hC.1.2.2.1⟩; have hE := hC.2.2.2.2.1.1)
  have t2 : i 2 2 = nI (nB (m 219)) := hT.1.1.trans hI.1.1
  refine k_of rfl ?_
  refine r_go 4 rfl ?_ ?_
  · (first | exact trivial | (simp only [ab_all] <;> decide))
  simp only [gr_0_0, gr_0_1, gr_0_3, gr_0_4, gr_0_5, gr_0_6, gr_0_7, gr_1_0, gr_1_1, gr_1_2, gr_1_3, gr_1_4, gr_35_0, gr_35_1, gr_35_2, gr_35_3, gr_35_4]
  refine r_cv rfl rfl ((k_hasB x isT_2 t2 (Nat.le_trans hI.1.2 (by decide)))) (by decide) ?_
  refine r_bE rfl (fun h11 => ?_) (fun h11 => ?_)
  · skip
    refine r_go 2 rfl ?_ ?_
    · (first | exact trivial | (simp only [ab_all] <;> decide))
    refine r_cv rfl rfl ((k_error 1 (by decide) (by decide) hE)) (by decide) ?_
    refine r_ret rfl trivial ?_
    exact cl_to (if_neg (by simp only [h11, if_true, if_false, not_true, not_false_eq_true, and_true, true_and, and_false, false_and, or_true, true_or, or_false, false_or, and_self, or_self, not_false_eq_true])) (cl_er (by decide) (by decide) hJ hC)
  · skip
    refine r_go 3 rfl ?_ ?_
    · (first | exact trivial | (simp only [ab_all] <;> decide))
    refine r_cv rfl trivial ((k_within _ _ _)) (by decide) ?_
    refine r_bE rfl (fun h20 => ?_) (fun h20 => ?_)
    · skip
      refine r_go 2 rfl ?_ ?_
      · (first | exact trivial | (simp only [ab_all] <;> decide))
      refine r_cv rfl rfl ((k_error 1 (by decide) (by decide) hE)) (by decide) ?_
      refine r_ret rfl trivial ?_
      exact cl_to (if_neg (by simp only [h11, h20, if_true, if_false, not_true, not_false_eq_true, and_true, true_and, and_false, false_and, or_true, true_or, or_false, false_or, and_self, or_self, not_false_eq_true])) (cl_er (by decide) (by decide) hJ hC)
    · skip
      refine r_go 3 rfl ?_ ?_
      · (first | exact trivial | (simp only [ab_all] <;> decide))
      refine r_cv rfl trivial ((k_within _ _ _)) (by decide) ?_
      refine r_bN rfl (fun h29 => ?_) (fun h29 => ?_)
      · skip
        refine r_go 4 rfl ?_ ?_
        · (first | exact trivial | (simp only [ab_all] <;> decide))
        have hP : S_best x n w m = (if w = nI 0 then (bst x.toNatClampNeg n.toNatClampNeg (m 219)).1 else (bst x.toNatClampNeg n.toNatClampNeg (m 219)).2, m) := if_pos ⟨h11, h20, h29⟩
        obtain ⟨b, hb, rfl⟩ := of_rg h11
        obtain ⟨N, hN1, hN, rfl⟩ := of_bt1 (by decide) h20
        rw [nI_cl (by have := hI.1.2; omega), nI_cl (by have := hI.1.2; omega)] at hP
        simp only [gr_0_0, gr_0_1, gr_0_3, gr_0_4, gr_0_5, gr_0_6, gr_0_7, gr_1_0, gr_1_1, gr_1_2, gr_1_3, gr_1_4, gr_35_0, gr_35_1, gr_35_2, gr_35_3, gr_35_4]
        refine r_c rfl rfl ((k_seekB hI hX hT hLw b N hb hN)) (by decide) ?_
        rintro v i1 ⟨rfl, e1, f1⟩
        have ea : i1 72 4 = (bst b N (m 219)).1 := congrArg Prod.fst e1
        have eb : i1 72 5 = (bst b N (m 219)).2 := congrArg Prod.snd e1
        refine r_go 1 rfl ?_ ?_
        · (first | exact trivial | (simp only [ab_all] <;> decide))
        refine r_ne rfl (fun h48 => ?_) (fun h48 => ?_)
        · skip
          refine r_go 3 rfl ?_ ?_
          · (first | exact trivial | (simp only [ab_all] <;> decide))
          refine r_ret rfl trivial ?_
          simp only [gr_0_0, gr_0_1, gr_0_3, gr_0_4, gr_0_5, gr_0_6, gr_0_7, gr_1_0, gr_1_1, gr_1_2, gr_1_3, gr_1_4, gr_35_0, gr_35_1, gr_35_2, gr_35_3, gr_35_4]
          first | (rw [if_pos h48] at hP; rw [ea]; exact cl_to hP (cl_ol hJ hC f1)) | (rw [if_neg h48] at hP; rw [eb]; exact cl_to hP (cl_ol hJ hC f1))
        · skip
          refine r_go 4 rfl ?_ ?_
          · (first | exact trivial | (simp only [ab_all] <;> decide))
          refine r_ret rfl trivial ?_
          simp only [gr_0_0, gr_0_1, gr_0_3, gr_0_4, gr_0_5, gr_0_6, gr_0_7, gr_1_0, gr_1_1, gr_1_2, gr_1_3, gr_1_4, gr_35_0, gr_35_1, gr_35_2, gr_35_3, gr_35_4]
          first | (rw [if_pos h48] at hP; rw [ea]; exact cl_to hP (cl_ol hJ hC f1)) | (rw [if_neg h48] at hP; rw [eb]; exact cl_to hP (cl_ol hJ hC f1))
      · skip
        refine r_go 2 rfl ?_ ?_
        · (first | exact trivial | (simp only [ab_all] <;> decide))
        refine r_cv rfl rfl ((k_error 1 (by decide) (by decide) hE)) (by decide) ?_
        refine r_ret rfl trivial ?_
        exact cl_to (if_neg (by simp only [h11, h20, h29, if_true, if_false, not_true, not_false_eq_true, and_true, true_and, and_false, false_and, or_true, true_or, or_false, false_or, and_self, or_self, not_false_eq_true])) (cl_er (by decide) (by decide) hJ hC)
theorem n_best {m : ab_I} (hJ : InM m) (b n w : Int32) : InM (S_best b n w m).2 := by
  unfold S_best
  split
  · exact hJ
  · exact InM_er hJ
