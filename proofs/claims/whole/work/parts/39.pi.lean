/-! rows of moves -/
def mvN (b : Nat) (s : Vc) : Nat → Nat → Vc
  | 0, _ => s
  | f + 1, r => if r = 0 then s else hour b (nI (r % 10) - nI 2) (mvN b s f (r / 10))
def mv (b r : Nat) (s : Vc) : Vc := mvN b s 6 r
theorem mvN_s {b : Nat} {s : Vc} : ∀ {f r : Nat}, r < 10 ^ f → mvN b s (f + 1) r = mvN b s f r
  | 0, r, h => by
    have : r = 0 := by omega
    subst this
    rfl
  | f + 1, r, h => by
    show (if r = 0 then s else hour b (nI (r % 10) - nI 2) (mvN b s (f + 1) (r / 10))) = (if r = 0 then s else hour b (nI (r % 10) - nI 2) (mvN b s f (r / 10)))
    rw [mvN_s (f := f) (r := r / 10) (by rw [Nat.pow_succ] at h; omega)]
theorem mv_0 {b : Nat} {s : Vc} : mv b 0 s = s := rfl
theorem mv_st {b r : Nat} {s : Vc} (h : r < 1000000) (h0 : r ≠ 0) : mv b r s = hour b (nI (r % 10) - nI 2) (mv b (r / 10) s) := by
  unfold mv
  rw [mvN_s (f := 5) (r := r / 10) (by omega)]
  exact if_neg h0
theorem In_mvN {b : Nat} {s : Vc} (h : InT s) : ∀ {f r : Nat}, InT (mvN b s f r) ∧ sN s (mvN b s f r) ∧ rt s (mvN b s f r)
  | 0, _ => ⟨h, ⟨rfl, rfl⟩, rt_rf⟩
  | f + 1, r => by
    show InT (if r = 0 then s else hour b (nI (r % 10) - nI 2) (mvN b s f (r / 10))) ∧ sN s (if r = 0 then s else hour b (nI (r % 10) - nI 2) (mvN b s f (r / 10))) ∧ rt s (if r = 0 then s else hour b (nI (r % 10) - nI 2) (mvN b s f (r / 10)))
    by_cases e : r = 0
    · rw [if_pos e]
      exact ⟨h, ⟨rfl, rfl⟩, rt_rf⟩
    · rw [if_neg e]
      obtain ⟨a, c, d⟩ := In_mvN h (f := f) (r := r / 10)
      exact ⟨(In_hour a).1, sN_tr c (In_hour a).2, rt_tr d (rt_kp (kp_hour a))⟩
theorem In_mv {b r : Nat} {s : Vc} (h : InT s) : InT (mv b r s) ∧ sN s (mv b r s) ∧ rt s (mv b r s) := In_mvN h
def rwB : Nat → Nat → Bool
  | 0, r => decide (r = 0)
  | f + 1, r => if r = 0 then true else if 1 ≤ r % 10 ∧ r % 10 ≤ 3 then rwB f (r / 10) else false
theorem rwB_0 {f : Nat} : rwB f 0 = true := by cases f <;> rfl
theorem rwB_t {f r : Nat} (h : 1 ≤ r % 10 ∧ r % 10 ≤ 3) : rwB (f + 1) r = rwB f (r / 10) := by
  show (if r = 0 then true else if 1 ≤ r % 10 ∧ r % 10 ≤ 3 then rwB f (r / 10) else false) = _
  rw [if_neg (by omega), if_pos h]
theorem rwB_f {f r : Nat} (h0 : r ≠ 0) (h : ¬ (1 ≤ r % 10 ∧ r % 10 ≤ 3)) : rwB (f + 1) r = false := by
  show (if r = 0 then true else if 1 ≤ r % 10 ∧ r % 10 ≤ 3 then rwB f (r / 10) else false) = _
  rw [if_neg h0, if_neg h]
theorem rwB_d {f r : Nat} (h : rwB (f + 1) r = true) (h0 : r ≠ 0) : (1 ≤ r % 10 ∧ r % 10 ≤ 3) ∧ rwB f (r / 10) = true := by
  by_cases e : 1 ≤ r % 10 ∧ r % 10 ≤ 3
  · rw [rwB_t e] at h
    exact ⟨e, h⟩
  · rw [rwB_f h0 e] at h
    cases h
theorem rwB_dv {f r : Nat} (h : rwB (f + 1) r = true) : rwB f (r / 10) = true := by
  by_cases e : r = 0
  · subst e
    exact rwB_0
  · exact (rwB_d h e).2
def mx3 : Nat → Nat
  | 0 => 0
  | f + 1 => 10 * mx3 f + 3
theorem rwB_le : ∀ {f r : Nat}, rwB f r = true → r ≤ mx3 f
  | 0, r, h => by
    have : r = 0 := of_decide_eq_true h
    omega
  | f + 1, r, h => by
    show r ≤ 10 * mx3 f + 3
    by_cases e : r = 0
    · omega
    · have h2 := rwB_d h e
      have h3 := rwB_le h2.2
      omega
theorem rwB_6 {r : Nat} (h : rwB 6 r = true) : r ≤ 333333 := rwB_le h
theorem rwB_pw {r : Nat} (h : rwB 6 r = true) : ∀ j, j ≤ 6 → rwB (6 - j) (r / 10 ^ j) = true
  | 0, _ => by rw [Nat.pow_zero, Nat.div_one]; exact h
  | j + 1, hj => by
    have h2 := rwB_pw h j (by omega)
    rw [Nat.pow_succ, ← Nat.div_div_eq_div_mul]
    rw [show 6 - j = 6 - (j + 1) + 1 by omega] at h2
    exact rwB_dv h2
theorem pos_s {f : Nat} (h : f ≠ 0) : ∃ g, f = g + 1 := ⟨f - 1, by omega⟩
theorem nz_nI {a : Nat} (h : 0 < a) (h2 : a < 2147483648) : ab_nz (nI a) := by
  intro z
  have e : (0 : Int32).toInt = 0 := by decide
  rw [eq_i, c_i h2, e] at z
  omega
abbrev isRw (x : Int32) : Prop := 0 ≤ x.toInt ∧ rwB 6 x.toNatClampNeg = true
theorem in13 {a : Nat} (ha : a < 2147483648) : (nI 1 ≤ nI a ∧ nI a ≤ nI 3) ↔ (1 ≤ a ∧ a ≤ 3) := by
  rw [nI_leI (by omega) (by omega), nI_leI (by omega) (by omega)]
theorem ir_loop {i : ab_I} (mm c q : Nat) (hmm : 6 - c < mm) (hc : c ≤ 6) (hq : q < 2147483648) : ab_R 1 tb_X3_isRow 4 [none, some (.int (nI q)), some (.int (nI c))] [] i (ab_V (.int (bI (rwB (6 - c) q = true))) i) := by
  induction mm generalizing c q with
  | zero => exact absurd hmm (by omega)
  | succ mm ih =>
    refine r_go 2 rfl ?_ ?_
    · (first | exact trivial | assumption | (simp (disch := omega) [ab_all, ab_nz, *]; done))
    refine r_le rfl (fun h7 => ?_) (fun h7 => ?_)
    · skip
      refine r_go 1 rfl ?_ ?_
      · (first | exact trivial | assumption | (simp (disch := omega) [ab_all, ab_nz, *]; done))
      have hz : rwB (6 - c) q = decide (q = 0) := by
          by_cases e : q = 0
          · subst e
            rw [rwB_0]
            rfl
          · have : 6 - c = 0 := by
              first | (exfalso; clear h7; (simp (disch := omega) only [Int32.le_iff_toInt_le, Int32.lt_iff_toInt_lt, c_i, m1_i, m5_i, m33_i] at * <;> omega)) | (clear h7; (simp (disch := omega) only [Int32.le_iff_toInt_le, Int32.lt_iff_toInt_lt, c_i, m1_i, m5_i, m33_i] at * <;> omega)) | (simp (disch := omega) only [Int32.le_iff_toInt_le, Int32.lt_iff_toInt_lt, c_i, m1_i, m5_i, m33_i] at * <;> omega)
            rw [this]
            rfl
      refine r_ne rfl (fun h40 => ?_) (fun h40 => ?_)
      · skip
        refine r_go 1 rfl ?_ ?_
        · (first | exact trivial | assumption | (simp (disch := omega) [ab_all, ab_nz, *]; done))
        refine r_ret rfl (by (first | exact Or.inl rfl | exact Or.inr rfl | exact bI_or)) ?_
        rw [hz]
        first | (rw [nI_eq hq (by decide)] at h40; exact lf_t (by rw [decide_eq_true_iff]; exact h40)) | (rw [nI_eq hq (by decide)] at h40; exact lf_f (by rw [decide_eq_true_iff]; exact h40))
      · skip
        refine r_go 2 rfl ?_ ?_
        · (first | exact trivial | assumption | (simp (disch := omega) [ab_all, ab_nz, *]; done))
        refine r_ret rfl (by (first | exact Or.inl rfl | exact Or.inr rfl | exact bI_or)) ?_
        rw [hz]
        first | (rw [nI_eq hq (by decide)] at h40; exact lf_t (by rw [decide_eq_true_iff]; exact h40)) | (rw [nI_eq hq (by decide)] at h40; exact lf_f (by rw [decide_eq_true_iff]; exact h40))
    · skip
      refine r_go 1 rfl ?_ ?_
      · (first | exact trivial | assumption | (simp (disch := omega) [ab_all, ab_nz, *]; done))
      refine r_le rfl (fun h11 => ?_) (fun h11 => ?_)
      · skip
        refine r_go 1 rfl ?_ ?_
        · (first | exact trivial | assumption | (simp (disch := omega) [ab_all, ab_nz, *]; done))
        have hz : rwB (6 - c) q = decide (q = 0) := by
            by_cases e : q = 0
            · subst e
              rw [rwB_0]
              rfl
            · have : 6 - c = 0 := by
                first | (exfalso; clear h7; (simp (disch := omega) only [Int32.le_iff_toInt_le, Int32.lt_iff_toInt_lt, c_i, m1_i, m5_i, m33_i] at * <;> omega)) | (clear h7; (simp (disch := omega) only [Int32.le_iff_toInt_le, Int32.lt_iff_toInt_lt, c_i, m1_i, m5_i, m33_i] at * <;> omega)) | (simp (disch := omega) only [Int32.le_iff_toInt_le, Int32.lt_iff_toInt_lt, c_i, m1_i, m5_i, m33_i] at * <;> omega)
              rw [this]
              rfl
        refine r_ne rfl (fun h40 => ?_) (fun h40 => ?_)
        · skip
          refine r_go 1 rfl ?_ ?_
          · (first | exact trivial | assumption | (simp (disch := omega) [ab_all, ab_nz, *]; done))
          refine r_ret rfl (by (first | exact Or.inl rfl | exact Or.inr rfl | exact bI_or)) ?_
          rw [hz]
          first | (rw [nI_eq hq (by decide)] at h40; exact lf_t (by rw [decide_eq_true_iff]; exact h40)) | (rw [nI_eq hq (by decide)] at h40; exact lf_f (by rw [decide_eq_true_iff]; exact h40))
        · skip
          refine r_go 2 rfl ?_ ?_
          · (first | exact trivial | assumption | (simp (disch := omega) [ab_all, ab_nz, *]; done))
          refine r_ret rfl (by (first | exact Or.inl rfl | exact Or.inr rfl | exact bI_or)) ?_
          rw [hz]
          first | (rw [nI_eq hq (by decide)] at h40; exact lf_t (by rw [decide_eq_true_iff]; exact h40)) | (rw [nI_eq hq (by decide)] at h40; exact lf_f (by rw [decide_eq_true_iff]; exact h40))
      · skip
        have hcl : c < 6 := by (simp (disch := omega) only [Int32.le_iff_toInt_le, Int32.lt_iff_toInt_lt, c_i, m1_i, m5_i, m33_i] at * <;> omega)
        have hq0 : q ≠ 0 := by (simp (disch := omega) only [Int32.le_iff_toInt_le, Int32.lt_iff_toInt_lt, c_i, m1_i, m5_i, m33_i] at * <;> omega)
        obtain ⟨f, hf⟩ : ∃ f, 6 - c = f + 1 := ⟨6 - c - 1, by omega⟩
        refine r_go 5 rfl ?_ ?_
        · (unfold ab_all ab_nz; decide)
        rw [pk_rem hq (by decide) (by decide)]
        refine r_cv rfl trivial ((k_within _ _ _)) (by decide) ?_
        refine r_bN rfl (fun h23 => ?_) (fun h23 => ?_)
        · skip
          refine r_go 6 rfl ?_ ?_
          · (unfold ab_all ab_nz; decide)
          rw [in13 (by omega)] at h23
          rw [pk_div hq (by decide) (by decide), nI_add, hf, rwB_t h23]
          have K := ih (c + 1) (q / 10) (by omega) (by omega) (by omega)
          rw [show 6 - (c + 1) = f by omega] at K
          exact r_lk K rfl
        · skip
          refine r_go 1 rfl ?_ ?_
          · (first | exact trivial | assumption | (simp (disch := omega) [ab_all, ab_nz, *]; done))
          refine r_ret rfl (by (first | exact Or.inl rfl | exact Or.inr rfl | exact bI_or)) ?_
          rw [in13 (by omega)] at h23
          rw [hf, bI_f (by rw [rwB_f hq0 h23]; decide)]
          exact ⟨rfl, rfl⟩
theorem k_isRow_p {i : ab_I} (q : Nat) (hq : q < 2147483648) : ab_K 1 44 [.int (nI q)] i (ab_V (.int (bI (rwB 6 q = true))) i) := by
  refine k_of rfl ?_
  refine r_go 4 rfl ?_ ?_
  · (first | exact trivial | assumption | (simp (disch := omega) [ab_all, ab_nz, *]; done))
  exact r_lk (ir_loop 7 0 q (by decide) (by decide) hq) rfl
theorem k_isRow_n {i : ab_I} (x : Int32) (hx : x.toInt < 0) : ab_K 1 44 [.int x] i (ab_V (.int (nI 0)) i) := by
  refine k_of rfl ?_
  refine r_go 6 rfl ?_ ?_
  · (first | exact trivial | assumption | (simp (disch := omega) [ab_all, ab_nz, *]; done))
  refine r_brF rfl (by decide) ?_
  refine r_go 1 rfl ?_ ?_
  · (first | exact trivial | assumption | (simp (disch := omega) [ab_all, ab_nz, *]; done))
  refine r_brT rfl (by (simp (disch := omega) only [Int32.le_iff_toInt_le, Int32.lt_iff_toInt_lt, c_i, m1_i, m5_i, m33_i] at * <;> omega)) ?_
  refine r_go 1 rfl ?_ ?_
  · (first | exact trivial | assumption | (simp (disch := omega) [ab_all, ab_nz, *]; done))
  refine r_brT rfl (fun h => by rw [h] at hx; exact absurd hx (by decide)) ?_
  refine r_go 1 rfl ?_ ?_
  · (first | exact trivial | assumption | (simp (disch := omega) [ab_all, ab_nz, *]; done))
  refine r_ret rfl (by (first | exact Or.inl rfl | exact Or.inr rfl | exact bI_or)) ?_
  exact ⟨rfl, rfl⟩
theorem k_isRow {i : ab_I} (x : Int32) : ab_K 1 44 [.int x] i (ab_V (.int (bI (isRw x))) i) := by
  by_cases h : 0 ≤ x.toInt
  · have hb := Int32.toInt_lt x
    have K := k_isRow_p (i := i) x.toNatClampNeg (by rw [tn_i]; omega)
    rw [← tn_of h] at K
    rw [bI_cg (show isRw x ↔ rwB 6 x.toNatClampNeg = true from ⟨fun z => z.2, fun z => ⟨h, z⟩⟩)]
    exact K
  · rw [bI_f (fun z => h z.1)]
    exact k_isRow_n x (by omega)
theorem jr_bad {i : ab_I} (y : Int32) : ab_R 1 tb_X11_isRow 10 [none, some (.int (nI 0)), some (.int y)] [] i (ab_V (.int (nI 0)) i) := by
  refine r_go 1 rfl ?_ ?_
  · (first | exact trivial | assumption | (simp (disch := omega) [ab_all, ab_nz, *]; done))
  refine r_le rfl (fun h11 => ?_) (fun h11 => ?_)
  · skip
    refine r_go 1 rfl ?_ ?_
    · (first | exact trivial | assumption | (simp (disch := omega) [ab_all, ab_nz, *]; done))
    refine r_ret rfl (by (first | exact Or.inl rfl | exact Or.inr rfl | exact bI_or)) ?_
    exact ⟨rfl, rfl⟩
  · skip
    refine r_go 1 rfl ?_ ?_
    · (first | exact trivial | assumption | (simp (disch := omega) [ab_all, ab_nz, *]; done))
    refine r_brT rfl (rfl) ?_
    refine r_go 1 rfl ?_ ?_
    · (first | exact trivial | assumption | (simp (disch := omega) [ab_all, ab_nz, *]; done))
    refine r_ret rfl (by (first | exact Or.inl rfl | exact Or.inr rfl | exact bI_or)) ?_
    exact ⟨rfl, rfl⟩
theorem jr_loop {i : ab_I} (mm f q : Nat) (hmm : f < mm) (hf : f ≤ 6) (hq : q < 10 ^ f) : ab_R 1 tb_X11_isRow 10 [none, some (.int (nI 1)), some (.int (nI q))] [] i (ab_V (.int (bI (rwB f q = true))) i) := by
  induction mm generalizing f q with
  | zero => exact absurd hmm (by omega)
  | succ mm ih =>
    have hp : 10 ^ f ≤ 10 ^ 6 := Nat.pow_le_pow_right (by decide) hf
    have hq1 : q < 2147483648 := by omega
    refine r_go 1 rfl ?_ ?_
    · (first | exact trivial | assumption | (simp (disch := omega) [ab_all, ab_nz, *]; done))
    refine r_le rfl (fun h11 => ?_) (fun h11 => ?_)
    · skip
      refine r_go 1 rfl ?_ ?_
      · (first | exact trivial | assumption | (simp (disch := omega) [ab_all, ab_nz, *]; done))
      refine r_ret rfl (by (first | exact Or.inl rfl | exact Or.inr rfl | exact bI_or)) ?_
      have hq0 : q = 0 := by clear hp hq; (simp (disch := omega) only [Int32.le_iff_toInt_le, Int32.lt_iff_toInt_lt, c_i, m1_i, m5_i, m33_i] at * <;> omega)
      subst hq0
      rw [rwB_0]
      exact ⟨rfl, rfl⟩
    · skip
      have hq0 : q ≠ 0 := by clear hp hq; (simp (disch := omega) only [Int32.le_iff_toInt_le, Int32.lt_iff_toInt_lt, c_i, m1_i, m5_i, m33_i] at * <;> omega)
      obtain ⟨g, rfl⟩ := pos_s (f := f) (fun z => by subst z; rw [Nat.pow_zero] at hq; omega)
      refine r_go 1 rfl ?_ ?_
      · (first | exact trivial | assumption | (simp (disch := omega) [ab_all, ab_nz, *]; done))
      refine r_brF rfl (by decide) ?_
      refine r_go 5 rfl ?_ ?_
      · (unfold ab_all ab_nz; decide)
      rw [pk_rem hq1 (by decide) (by decide)]
      refine r_cv rfl trivial ((m_in _ _ _)) (by decide) ?_
      refine r_go 6 rfl ?_ ?_
      · (unfold ab_all ab_nz; decide)
      rw [pk_div hq1 (by decide) (by decide), bI_cg (in13 (by omega))]
      by_cases e : 1 ≤ q % 10 ∧ q % 10 ≤ 3
      · rw [bI_t e, rwB_t e]
        exact r_lk (ih g (q / 10) (by omega) (by omega) (by rw [Nat.pow_succ] at hq; omega)) rfl
      · rw [bI_f e, bI_f (show ¬ rwB (g + 1) q = true by rw [rwB_f hq0 e]; decide)]
        exact r_lk (jr_bad _) rfl
theorem m_isRow {i : ab_I} (x : Int32) : ab_K 1 214 [.int x] i (ab_V (.int (bI (isRw x))) i) := by
  refine k_of rfl ?_
  refine r_go 3 rfl ?_ ?_
  · (first | exact trivial | assumption | (simp (disch := omega) [ab_all, ab_nz, *]; done))
  refine r_cv rfl trivial ((m_in _ _ _)) (by decide) ?_
  refine r_go 3 rfl ?_ ?_
  · (first | exact trivial | assumption | (simp (disch := omega) [ab_all, ab_nz, *]; done))
  by_cases h : nI 0 ≤ x ∧ x ≤ nI 333333
  · obtain ⟨q, hq, rfl⟩ := of_bt (by decide) h
    rw [bI_t h, bI_cg (show isRw (nI q) ↔ rwB 6 q = true by unfold isRw; rw [nI_cl (by omega), c_i (by omega)]; exact ⟨fun z => z.2, fun z => ⟨by omega, z⟩⟩)]
    exact r_lk (jr_loop 7 6 q (by decide) (by decide) (by omega)) rfl
  · rw [bI_f h, bI_f (show ¬ isRw x from fun z => h (by have z2 := rwB_6 z.2; have z1 := z.1; rw [tn_i] at z2; constructor <;> (simp (disch := omega) only [Int32.le_iff_toInt_le, Int32.lt_iff_toInt_lt, c_i, m1_i, m5_i, m33_i] at * <;> omega)))]
    exact r_lk (jr_bad _) rfl
/-! a row's pains, the class's side -/
theorem sg_mv {d : Nat} (h : 1 ≤ d ∧ d ≤ 3) : sg (nI d - nI 2) = nI d - nI 2 := by
  have : d = 1 ∨ d = 2 ∨ d = 3 := by omega
  rcases this with rfl | rfl | rfl <;> decide
theorem mvb_nI {b : Nat} (h : b < 6) : mvb b = nI b := if_pos h
theorem k_goB {t b d : Nat} {s : Vc} {i : ab_I} (ht : isT t) (hI : InT s) (hX : InXs s) (hb : b < nB s) (hd : 1 ≤ d ∧ d ≤ 3) (hR : TwR t s i) (hL : LwsR s i) :
    ab_K 4 97 [.ref t, .ref 23, .int (nI b), .int (nI d)] i (fun v i' => v = none ∧ TwR t (hour b (nI d - nI 2) s) i' ∧ frT t i i') := by
  have b6 : b < 6 := by have := hI.1.2; omega
  have K := k_goBy (mb := b) (mw := nI d - nI 2) (mv := nI d) ht hI hX (by omega) (fun _ => sg_mv hd) hR hL
  rw [mvb_nI b6] at K
  exact K
def uu (k : Nat) : Nat := 10 ^ k / 10
theorem uu_s (j : Nat) : uu (j + 1) = 10 ^ j := by
  unfold uu
  rw [Nat.pow_succ, Nat.mul_div_cancel _ (by decide)]
theorem p10 {j : Nat} (h : j ≤ 6) : 0 < 10 ^ j ∧ 10 ^ j ≤ 1000000 := ⟨Nat.pow_pos (by decide), Nat.le_trans (Nat.pow_le_pow_right (by decide) h) (by decide)⟩
theorem dv_s {r j : Nat} : r / 10 ^ (j + 1) = r / 10 ^ j / 10 := by rw [Nat.pow_succ, Nat.div_div_eq_div_mul]
theorem pb_loop {b r : Nat} {s : Vc} {i0 : ab_I} (hI : InT s) (hX : InXs s) (hL0 : LwsR s i0) (hb : b < nB s) (hr : rwB 6 r = true) (mm k : Nat) (i : ab_I) (hmm : k < mm) (hk : k ≤ 6) (hR : TwR (tr 0) (mv b (r / 10 ^ k) s) i) (hi : ol i0 i) : ab_R 5 tb_X3_painsBehindRow 10 [some (.ref 72), some (.int (nI b)), some (.int (nI r)), some (.ref (tr 0)), some (.int (nI (uu k))), none] [] i (fun v i' => v = some (.int (pains (mv b r s))) ∧ ol i0 i') := by
  induction mm generalizing k i with
  | zero => exact absurd hmm (by omega)
  | succ mm ih =>
    have hP := In_mv (b := b) (r := r / 10 ^ k) hI
    have hX1 := InXs_rt hX hP.2.2
    have hL1 : LwsR (mv b (r / 10 ^ k) s) i := LwsR_rt (ol_L hL0 hX hi) hX hP.2.2 (fun _ _ => rfl)
    have hr6 := rwB_6 hr
    refine r_go 1 rfl ?_ ?_
    · (first | exact trivial | assumption | (simp (disch := omega) [ab_all, ab_nz, *]; done))
    refine r_le rfl (fun h12 => ?_) (fun h12 => ?_)
    · skip
      have hk0 : k = 0 := by
          rcases Nat.eq_zero_or_pos k with z | z
          · exact z
          · obtain ⟨j, rfl⟩ : ∃ j, k = j + 1 := ⟨k - 1, by omega⟩
            have hp := p10 (j := j) (by omega)
            rw [uu_s, nI_ltI (by decide) (by omega)] at h12
            omega
      subst hk0
      rw [Nat.pow_zero, Nat.div_one] at *
      refine r_go 3 rfl ?_ ?_
      · exact ⟨rfl, by decide⟩
      rw [gr_72_2]
      refine r_c rfl (tg_t (isT_tr (by decide))) ((k_pains (isT_tr (by decide)) hP.1 hX1 hR hL1)) (by decide) ?_
      rintro v i2 ⟨rfl, f2⟩
      refine r_ret rfl trivial ?_
      exact ⟨rfl, ol_tr hi (ol_sl f2)⟩
    · skip
      obtain ⟨j, rfl⟩ := pos_s (f := k) (fun z => by subst z; exact absurd h12 (by decide))
      have hp := p10 (j := j) (by omega)
      have hw := rwB_pw hr j (by omega)
      rw [show 6 - j = 6 - (j + 1) + 1 by omega] at hw
      have hq : r / 10 ^ j ≤ r := Nat.div_le_self _ _
      rw [uu_s, dv_s] at *
      refine r_go 6 rfl ?_ ?_
      · (simp only [ab_all, ab_nz]; exact ⟨nz_nI (by decide) (by decide), nz_nI hp.1 (by omega)⟩)
      rw [pk_div (by omega) hp.1 (by omega), pk_rem (by omega) (by decide) (by decide)]
      refine r_go 1 rfl ?_ ?_
      · (first | exact trivial | assumption | (simp (disch := omega) [ab_all, ab_nz, *]; done))
      refine r_br rfl (fun h26 => ?_) (fun h26 => ?_)
      · skip
        refine r_go 5 rfl ?_ ?_
        · (simp only [ab_all, ab_nz]; decide)
        rw [pk_div (by omega) (by decide) (by decide), show 10 ^ j / 10 = uu j from rfl]
        first | exact r_lk (ih j i2 (by omega) (by omega) R2 (ol_tr hi (ol_frT f2 (tr_rg (by decide))))) rfl | (rw [nI_eq (by omega) (by decide)] at h26; have hq0 : r / 10 ^ j = 0 := Classical.byContradiction (fun z => by have := (rwB_d hw z).1; omega); rw [hq0] at hR; exact r_lk (ih j i (by omega) (by omega) (by rw [hq0]; exact hR) hi) rfl)
      · skip
        refine r_go 5 rfl ?_ ?_
        · exact ⟨rfl, by decide⟩
        rw [gr_72_1]
        rw [nI_eq (by omega) (by decide)] at h26
        have hq0 : r / 10 ^ j ≠ 0 := fun z => h26 (by rw [z])
        refine r_c rfl (tg_t (isT_tr (by decide))) ((k_goB (isT_tr (by decide)) hP.1 hX1 (by rw [hP.2.1.1]; exact hb) (rwB_d hw hq0).1 hR hL1)) (by decide) ?_
        rintro v i2 ⟨rfl, R2, f2⟩
        rw [← mv_st (by omega) hq0] at R2
        refine r_go 5 rfl ?_ ?_
        · (simp only [ab_all, ab_nz]; decide)
        rw [pk_div (by omega) (by decide) (by decide), show 10 ^ j / 10 = uu j from rfl]
        first | exact r_lk (ih j i2 (by omega) (by omega) R2 (ol_tr hi (ol_frT f2 (tr_rg (by decide))))) rfl | (rw [nI_eq (by omega) (by decide)] at h26; have hq0 : r / 10 ^ j = 0 := Classical.byContradiction (fun z => by have := (rwB_d hw z).1; omega); rw [hq0] at hR; exact r_lk (ih j i (by omega) (by omega) (by rw [hq0]; exact hR) hi) rfl)
theorem k_behind {s : Vc} {i : ab_I} (hI : InT s) (hX : InXs s) (hT : TwR 2 s i) (hL : LwsR s i) (b r : Nat) (hb : b < nB s) (hr : rwB 6 r = true) : ab_K 5 45 [.ref 72, .int (nI b), .int (nI r)] i (fun v i' => v = some (.int (pains (mv b r s))) ∧ ol i i') := by
  refine k_of rfl ?_
  refine r_go 2 rfl ?_ ?_
  · (first | exact trivial | assumption | (simp (disch := omega) [ab_all, ab_nz, *]; done))
  refine r_c rfl rfl ((k_fresh 0 (by decide) hI hT)) (by decide) ?_
  rintro v i1 ⟨rfl, R1, f1⟩
  refine r_go 3 rfl ?_ ?_
  · (first | exact trivial | assumption | (simp (disch := omega) [ab_all, ab_nz, *]; done))
  have f2 := ol_frX f1 (tr_rg (by decide))
  have e : r / 10 ^ 6 = 0 := by have := rwB_6 hr; omega
  exact r_mono (r_lk (pb_loop (i0 := i1) hI hX (ol_L hL hX f2) hb hr 7 6 i1 (by decide) (by decide) (by rw [e]; exact R1) ol_rf) rfl) (by rintro v j ⟨rfl, b⟩; exact ⟨rfl, ol_tr f2 b⟩)
def S_moves (b x : Int32) (m : ab_I) : Int32 × ab_I := if okB (m 219) b ∧ isRw x then (pains (mv b.toNatClampNeg x.toNatClampNeg (m 219)), m) else er m 1
theorem c_moves {i m : ab_I} (hC : ClsR i m) (hJ : InM m) (x r : Int32) : ab_K 6 127 [.ref 0, .int x, .int r] i (clQ i (S_moves x r m)) := by
  (have hI := hJ.1.1; have hX := InS_X hJ.1; have hT := hC.1.1; have hLw : LwsR (m 219) i := ⟨hC.1.2.1, hC.1.2.2.1⟩; have hE := hC.2.2.2.2.1.1)
  have t2 : i 2 2 = nI (nB (m 219)) := hT.1.1.trans hI.1.1
  refine k_of rfl ?_
  refine r_go 4 rfl ?_ ?_
  · (first | exact trivial | (simp only [ab_all] <;> decide))
  simp only [gr_0_0, gr_0_1, gr_0_3, gr_0_4, gr_0_5, gr_0_6, gr_0_7, gr_1_0, gr_1_1, gr_1_2, gr_1_3, gr_1_4, gr_35_0, gr_35_1, gr_35_2, gr_35_3, gr_35_4]
  refine r_cv rfl rfl ((k_hasB x isT_2 t2 (Nat.le_trans hI.1.2 (by decide)))) (by decide) ?_
  refine r_bE rfl (fun h11 => ?_) (fun h11 => ?_)
  · skip
    refine r_go 2 rfl ?_ ?_
    · (first | exact trivial | (simp only [ab_all] <;> decide))
    refine r_cv rfl rfl ((k_error 1 (by decide) (by decide) hE)) (by decide) ?_
    refine r_ret rfl trivial ?_
    exact cl_to (if_neg (by simp only [h11, if_true, if_false, not_true, not_false_eq_true, and_true, true_and, and_false, false_and, or_true, true_or, or_false, false_or, and_self, or_self, not_false_eq_true])) (cl_er (by decide) (by decide) hJ hC)
  · skip
    refine r_go 1 rfl ?_ ?_
    · (first | exact trivial | (simp only [ab_all] <;> decide))
    refine r_cv rfl trivial ((k_isRow r)) (by decide) ?_
    refine r_bN rfl (fun h18 => ?_) (fun h18 => ?_)
    · skip
      refine r_go 4 rfl ?_ ?_
      · (first | exact trivial | (simp only [ab_all] <;> decide))
      have hP : S_moves x r m = (pains (mv x.toNatClampNeg r.toNatClampNeg (m 219)), m) := if_pos ⟨h11, h18⟩
      obtain ⟨b, hb, rfl⟩ := of_rg h11
      have hr2 := h18.2
      have er := tn_of h18.1
      rw [nI_cl (by have := hI.1.2; omega)] at hP
      generalize r.toNatClampNeg = rn at hr2 er hP
      subst er
      simp only [gr_0_0, gr_0_1, gr_0_3, gr_0_4, gr_0_5, gr_0_6, gr_0_7, gr_1_0, gr_1_1, gr_1_2, gr_1_3, gr_1_4, gr_35_0, gr_35_1, gr_35_2, gr_35_3, gr_35_4]
      refine r_c rfl rfl ((k_behind hI hX hT hLw b rn hb hr2)) (by decide) ?_
      rintro v i1 ⟨rfl, f1⟩
      refine r_ret rfl trivial ?_
      exact cl_to hP (cl_ol hJ hC f1)
    · skip
      refine r_go 2 rfl ?_ ?_
      · (first | exact trivial | (simp only [ab_all] <;> decide))
      refine r_cv rfl rfl ((k_error 1 (by decide) (by decide) hE)) (by decide) ?_
      refine r_ret rfl trivial ?_
      exact cl_to (if_neg (by simp only [h11, h18, if_true, if_false, not_true, not_false_eq_true, and_true, true_and, and_false, false_and, or_true, true_or, or_false, false_or, and_self, or_self, not_false_eq_true])) (cl_er (by decide) (by decide) hJ hC)
theorem n_moves {m : ab_I} (hJ : InM m) (b w : Int32) : InM (S_moves b w m).2 := by
  unfold S_moves
  split
  · exact hJ
  · exact InM_er hJ
