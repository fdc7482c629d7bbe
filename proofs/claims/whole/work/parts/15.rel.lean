/-! the class's cells hold the reference's numbers -/
def Tws : List Nat := [2, 36, 74, 95, 116, 137, 158, 179]
theorem tg_all : ∀ t ∈ Tws, ab_gt GF t = (8, 0) ∧ ab_gt GF (t + 1) = (101, 6) ∧ ab_gt GF (t + 8) = (102, 12) ∧ (∀ b, b < 6 → ab_gt GF (t + 2 + b) = (0, 0)) ∧ (∀ d, d < 12 → ab_gt GF (t + 9 + d) = (1, 0)) := by decide +kernel
def isT (t : Nat) : Prop := t ∈ Tws
theorem tg_t {t : Nat} (h : isT t) : ab_gt GF t = (8, 0) := (tg_all t h).1
theorem tg_a {t : Nat} (h : isT t) : ab_gt GF (t + 1) = (101, 6) := (tg_all t h).2.1
theorem tg_e {t : Nat} (h : isT t) : ab_gt GF (t + 8) = (102, 12) := (tg_all t h).2.2.1
theorem tg_b {t b : Nat} (h : isT t) (hb : b < 6) : ab_gt GF (t + 2 + b) = (0, 0) := (tg_all t h).2.2.2.1 b hb
theorem tg_d {t d : Nat} (h : isT t) (hd : d < 12) : ab_gt GF (t + 9 + d) = (1, 0) := (tg_all t h).2.2.2.2 d hd
theorem gr_t0 {t : Nat} (h : isT t) : ab_gr GF t 0 = t + 1 := gr_of (tg_t h)
theorem gr_t1 {t : Nat} (h : isT t) : ab_gr GF t 1 = t + 8 := gr_of (tg_t h)
theorem gr_b {t b : Nat} (h : isT t) (hb : b < 6) : ab_gr GF (t + 1) b = t + 2 + b := (gr_of (tg_a h)).trans (by show (if b < 6 then t + 1 + 1 + b else 0) = _; rw [if_pos hb])
theorem gr_d {t d : Nat} (h : isT t) (hd : d < 12) : ab_gr GF (t + 8) d = t + 9 + d := (gr_of (tg_e h)).trans (by show (if d < 12 then t + 8 + 1 + d else 0) = _; rw [if_pos hd])
theorem isT_le {t : Nat} (h : isT t) : 2 ≤ t ∧ t ≤ 179 ∧ (t + 20 < 23 ∨ 36 ≤ t) := by
  have := (by decide : ∀ t ∈ Tws, 2 ≤ t ∧ t ≤ 179 ∧ (t + 20 < 23 ∨ 36 ≤ t)) t h
  exact this
def fB (w : Nat) : Nat := if w < 2 then 1 - w else w
def TwR (t : Nat) (s : Vc) (i : ab_I) : Prop :=
  (i t 2 = s 0 ∧ i t 3 = s 1 ∧ i t 4 = s 3 ∧ i t 5 = s 2 ∧ i t 6 = s 4 ∧ i t 7 = s 7) ∧ (∀ b, b < nB s → ∀ w, w < 7 → i (t + 2 + b) (fB w) = bs s b w) ∧ (∀ d, d < nD s → ∀ k, k < 8 → i (t + 9 + d) k = dr s d k)
theorem up_ne {i : ab_I} {q k a b : Nat} {x : Int32} (h : ¬ (a = q ∧ b = k)) : ab_up i q k x a b = i a b := if_neg h
theorem up_us {i : ab_I} {q k : Nat} {x : Int32} : ab_up i q k x q k = x := if_pos ⟨rfl, rfl⟩
theorem up_row {i : ab_I} {q k a : Nat} {x : Int32} (h : a ≠ q) : ab_up i q k x a = i a := funext (fun b => if_neg (fun z => h z.1))
theorem fB_inj {w w' : Nat} (h : fB w = fB w') : w = w' := by
  unfold fB at h
  split at h <;> split at h <;> omega
theorem fB_7 {w : Nat} (h : w < 7) : fB w ≠ 7 := by
  unfold fB
  split <;> omega
theorem TwR_B {t b w : Nat} {s : Vc} {i : ab_I} {x : Int32} (h : TwR t s i) (hb : b < 6) (hw : w < 7) : TwR t (upd s (8 + 7 * b + w) x) (ab_up i (t + 2 + b) (fB w) x) := by
  obtain ⟨⟨h1, h2, h3, h4, h5, h6⟩, hB, hD⟩ := h
  unfold TwR
  rw [nB_up (by omega), nD_up (by omega)]
  refine ⟨⟨?_, ?_, ?_, ?_, ?_, ?_⟩, fun b' hb' w' hw' => ?_, fun d hd k hk => ?_⟩
  · rw [up_ne (by omega), pk_un (by omega)]; exact h1
  · rw [up_ne (by omega), pk_un (by omega)]; exact h2
  · rw [up_ne (by omega), pk_un (by omega)]; exact h3
  · rw [up_ne (by omega), pk_un (by omega)]; exact h4
  · rw [up_ne (by omega), pk_un (by omega)]; exact h5
  · rw [up_ne (by omega), pk_un (by omega)]; exact h6
  · by_cases e : b' = b ∧ w' = w
    · obtain ⟨rfl, rfl⟩ := e
      rw [up_us, bs_us]
    · rw [up_ne (fun z => e ⟨by omega, fB_inj z.2⟩), bs_up (by omega)]
      exact hB b' hb' w' hw'
  · rw [up_ne (by omega), dr_up (by omega)]
    exact hD d hd k hk
theorem TwR_D {t d k : Nat} {s : Vc} {i : ab_I} {x : Int32} (h : TwR t s i) (h6 : nB s ≤ 6) (hd : d < 12) (hk : k < 8) : TwR t (upd s (50 + 8 * d + k) x) (ab_up i (t + 9 + d) k x) := by
  obtain ⟨⟨h1, h2, h3, h4, h5, h7⟩, hB, hD⟩ := h
  unfold TwR
  rw [nB_up (by omega), nD_up (by omega)]
  refine ⟨⟨?_, ?_, ?_, ?_, ?_, ?_⟩, fun b hb w hw => ?_, fun d' hd' k' hk' => ?_⟩
  · rw [up_ne (by omega), pk_un (by omega)]; exact h1
  · rw [up_ne (by omega), pk_un (by omega)]; exact h2
  · rw [up_ne (by omega), pk_un (by omega)]; exact h3
  · rw [up_ne (by omega), pk_un (by omega)]; exact h4
  · rw [up_ne (by omega), pk_un (by omega)]; exact h5
  · rw [up_ne (by omega), pk_un (by omega)]; exact h7
  · rw [up_ne (by omega), bs_up (by omega)]
    exact hB b hb w hw
  · by_cases e : d' = d ∧ k' = k
    · obtain ⟨rfl, rfl⟩ := e
      rw [up_us, dr_us]
    · rw [up_ne (by omega), dr_up (by omega)]
      exact hD d' hd' k' hk'
/-- a town's own numbers: where they stand in its cell -/
theorem TwR_c {t k f : Nat} {s : Vc} {i : ab_I} {x : Int32} (h : TwR t s i) (hf : (k = 3 ∧ f = 4) ∨ (k = 2 ∧ f = 5) ∨ (k = 4 ∧ f = 6) ∨ (k = 7 ∧ f = 7)) : TwR t (upd s k x) (ab_up i t f x) := by
  obtain ⟨⟨h1, h2, h3, h4, h5, h6⟩, hB, hD⟩ := h
  unfold TwR
  rw [nB_up (by omega), nD_up (by omega)]
  refine ⟨⟨?_, ?_, ?_, ?_, ?_, ?_⟩, fun b hb w hw => ?_, fun d hd k' hk => ?_⟩
  · rw [up_ne (by omega), pk_un (by omega)]; exact h1
  · rw [up_ne (by omega), pk_un (by omega)]; exact h2
  · rcases hf with ⟨rfl, rfl⟩ | ⟨rfl, rfl⟩ | ⟨rfl, rfl⟩ | ⟨rfl, rfl⟩
    · rw [up_us, pk_us]
    · rw [up_ne (by omega), pk_un (by omega)]; exact h3
    · rw [up_ne (by omega), pk_un (by omega)]; exact h3
    · rw [up_ne (by omega), pk_un (by omega)]; exact h3
  · rcases hf with ⟨rfl, rfl⟩ | ⟨rfl, rfl⟩ | ⟨rfl, rfl⟩ | ⟨rfl, rfl⟩
    · rw [up_ne (by omega), pk_un (by omega)]; exact h4
    · rw [up_us, pk_us]
    · rw [up_ne (by omega), pk_un (by omega)]; exact h4
    · rw [up_ne (by omega), pk_un (by omega)]; exact h4
  · rcases hf with ⟨rfl, rfl⟩ | ⟨rfl, rfl⟩ | ⟨rfl, rfl⟩ | ⟨rfl, rfl⟩
    · rw [up_ne (by omega), pk_un (by omega)]; exact h5
    · rw [up_ne (by omega), pk_un (by omega)]; exact h5
    · rw [up_us, pk_us]
    · rw [up_ne (by omega), pk_un (by omega)]; exact h5
  · rcases hf with ⟨rfl, rfl⟩ | ⟨rfl, rfl⟩ | ⟨rfl, rfl⟩ | ⟨rfl, rfl⟩
    · rw [up_ne (by omega), pk_un (by omega)]; exact h6
    · rw [up_ne (by omega), pk_un (by omega)]; exact h6
    · rw [up_ne (by omega), pk_un (by omega)]; exact h6
    · rw [up_us, pk_us]
  · rw [up_ne (by omega), bs_up (by omega)]
    exact hB b hb w hw
  · rw [up_ne (by omega), dr_up (by omega)]
    exact hD d hd k' hk
/-- the sums of VOTES tell nothing -/
theorem TwR_7 {t b : Nat} {s : Vc} {i : ab_I} {x : Int32} (h : TwR t s i) (hb : b < 6) : TwR t s (ab_up i (t + 2 + b) 7 x) := by
  obtain ⟨⟨h1, h2, h3, h4, h5, h6⟩, hB, hD⟩ := h
  refine ⟨⟨?_, ?_, ?_, ?_, ?_, ?_⟩, fun b' hb' w hw => ?_, fun d hd k hk => ?_⟩
  · rw [up_ne (by omega)]; exact h1
  · rw [up_ne (by omega)]; exact h2
  · rw [up_ne (by omega)]; exact h3
  · rw [up_ne (by omega)]; exact h4
  · rw [up_ne (by omega)]; exact h5
  · rw [up_ne (by omega)]; exact h6
  · rw [up_ne (fun z => fB_7 hw z.2)]
    exact hB b' hb' w hw
  · rw [up_ne (by omega)]
    exact hD d hd k hk
theorem TwR_far {t : Nat} {s : Vc} {i i' : ab_I} (h : TwR t s i) (h6 : nB s ≤ 6) (h12 : nD s ≤ 12) (e : ∀ q, t ≤ q → q < t + 21 → i' q = i q) : TwR t s i' := by
  obtain ⟨h1, hB, hD⟩ := h
  refine ⟨?_, fun b hb w hw => ?_, fun d hd k hk => ?_⟩
  · rw [e t (by omega) (by omega)]
    exact h1
  · rw [e _ (by omega) (by omega)]
    exact hB b hb w hw
  · rw [e _ (by omega) (by omega)]
    exact hD d hd k hk
theorem TwR_s {t : Nat} {s z : Vc} {i : ab_I} (h : TwR t s i) (h6 : nB s ≤ 6) (h12 : nD s ≤ 12) (e : ∀ k, k ≠ 5 → k ≠ 6 → k < 146 → z k = s k) : TwR t z i := by
  obtain ⟨⟨h1, h2, h3, h4, h5, h7⟩, hB, hD⟩ := h
  have eB : nB z = nB s := by unfold nB; rw [e 0 (by decide) (by decide) (by decide)]
  have eD : nD z = nD s := by unfold nD; rw [e 1 (by decide) (by decide) (by decide)]
  unfold TwR
  rw [eB, eD]
  refine ⟨⟨?_, ?_, ?_, ?_, ?_, ?_⟩, fun b hb w hw => ?_, fun d hd k hk => ?_⟩
  · rw [e 0 (by decide) (by decide) (by decide)]; exact h1
  · rw [e 1 (by decide) (by decide) (by decide)]; exact h2
  · rw [e 3 (by decide) (by decide) (by decide)]; exact h3
  · rw [e 2 (by decide) (by decide) (by decide)]; exact h4
  · rw [e 4 (by decide) (by decide) (by decide)]; exact h5
  · rw [e 7 (by decide) (by decide) (by decide)]; exact h7
  · unfold bs; rw [e _ (by omega) (by omega) (by omega)]; exact hB b hb w hw
  · unfold dr; rw [e _ (by omega) (by omega) (by omega)]; exact hD d hd k hk
/-- a row's numbers -/
def RoR (q n : Nat) (f : Nat → Int32) (i : ab_I) : Prop := i q 1 = nI n ∧ ∀ k, k < n → i (q + 1) k = f k
def LwR (c u : Nat) (s : Vc) (i : ab_I) : Prop := RoR (c + 1) (txN s u) (fun k => enc u (txe s u k)) i
theorem RoR_far {q n : Nat} {f : Nat → Int32} {i i' : ab_I} (h : RoR q n f i) (e1 : i' q = i q) (e2 : i' (q + 1) = i (q + 1)) : RoR q n f i' := by
  unfold RoR
  rw [e1, e2]
  exact h
theorem LwR_s {c u : Nat} {s z : Vc} {i : ab_I} (h : LwR c u s i) (hu : u < 2) (e : ∀ k, 146 ≤ k → k < 396 → z k = s k) (hn : txN s u ≤ 60) : LwR c u z i := by
  obtain ⟨e1, e2⟩ := txt_eq hu e hn
  unfold LwR
  rw [e1]
  refine ⟨h.1, fun k hk => ?_⟩
  have := h.2 k hk
  rw [this]
  show enc u (txe s u k) = enc u (txe z u k)
  unfold txe
  rw [e _ (by omega) (by omega), e _ (by omega) (by omega)]
