/-! what a tape says: the grammar, as both read it; a state: place and the steps so far, the newest first -/
abbrev PS : Type := Nat × List (Int32 × Int32)
abbrev PF : Type := PS → Bool × PS
def nbL (a : Nat → Int32) : Nat → Nat → Nat → Nat × Nat
  | 0, v, p => (v, p)
  | f + 1, v, p => if dgt (a p) = true then nbL a f (10 * v + (a p).toNatClampNeg - 48) (p + 1) else (v, p)
def rwL (a : Nat → Int32) (t : Nat) (f : PF) : Nat → PF
  | 0, st => (true, st)
  | k + 1, st => if sgT t (a st.1) = true then (if (f (st.1 + 1, st.2)).1 = true then rwL a t f k ((f (st.1 + 1, st.2)).2.1, (nI 3, a st.1) :: (f (st.1 + 1, st.2)).2.2) else f (st.1 + 1, st.2)) else (true, st)
def mst (t : Nat) : Nat := if t = 2 then 1 else 60
def rwW (a : Nat → Int32) (t : Nat) (f : PF) : PF := fun st => if (f st).1 = true then rwL a t f (mst t) (f st).2 else f st
def lvl (a : Nat → Int32) (f : PF) : Nat → PF
  | 0 => f
  | k + 1 => rwW a (4 - k) (lvl a f k)
def sg1 (a : Nat → Int32) (u : Nat) (b : Bool) (F G : PF) : PF := fun st =>
  if dgt (a st.1) = true then (true, ((nbL a 4 0 st.1).2, (nI 0, nI (nbL a 4 0 st.1).1) :: st.2))
  else if nmB u (a st.1) = true then (true, (st.1 + 1, (nI 1, a st.1) :: st.2))
  else if b = true ∧ a st.1 = nI 33 then (if (F (st.1 + 1, st.2)).1 = true then (true, ((F (st.1 + 1, st.2)).2.1, (nI 2, nI 0) :: (F (st.1 + 1, st.2)).2.2)) else F (st.1 + 1, st.2))
  else if b = true ∧ a st.1 = nI 40 then (if (G (st.1 + 1, st.2)).1 = true then (if a (G (st.1 + 1, st.2)).2.1 = nI 41 then (true, ((G (st.1 + 1, st.2)).2.1 + 1, (G (st.1 + 1, st.2)).2.2)) else (false, (G (st.1 + 1, st.2)).2)) else G (st.1 + 1, st.2))
  else (false, st)
/-- by the signs that may still open -/
def sgl (a : Nat → Int32) (u : Nat) : Nat → PF
  | 0 => sg1 a u false (fun st => (false, st)) (fun st => (false, st))
  | d + 1 => sg1 a u true (sgl a u d) (lvl a (sgl a u d) 5)
def tpA (n : Nat) (a : Nat → Int32) : Prop := n ≤ 60 ∧ (∀ p, p < n → ∃ c, c < 256 ∧ a p = nI c) ∧ ∀ p, n ≤ p → a p = (-1)
theorem tp_lt {n p : Nat} {a : Nat → Int32} (h : tpA n a) (q : ¬ a p = (-1)) : p < n := by
  by_cases e : p < n
  · exact e
  · exact absurd (h.2.2 p (by omega)) q
theorem tp_d {n p : Nat} {a : Nat → Int32} (h : tpA n a) (q : dgt (a p) = true) : p < n := tp_lt h (fun e => by rw [e] at q; exact absurd q (by decide))
theorem sgT_n (t : Nat) : sgT t (-1) = false := by
  unfold sgT
  repeat' split
  all_goals decide
theorem nmB_n (u : Nat) : nmB u (-1) = false := by
  unfold nmB
  split
  all_goals decide
theorem tp_s {n p t : Nat} {a : Nat → Int32} (h : tpA n a) (q : sgT t (a p) = true) : p < n := tp_lt h (fun e => by rw [e, sgT_n] at q; exact absurd q (by decide))
theorem tp_n {n p u : Nat} {a : Nat → Int32} (h : tpA n a) (q : nmB u (a p) = true) : p < n := tp_lt h (fun e => by rw [e, nmB_n] at q; exact absurd q (by decide))
theorem tp_e {n p k : Nat} {a : Nat → Int32} (h : tpA n a) (hk : k < 1000) (q : a p = nI k) : p < n := tp_lt h (fun e => by
  rw [e, eq_i, m1_i, c_i (by omega)] at q
  omega)
theorem dgt_c {c : Nat} (hc : c < 256) : dgt (nI c) = true → 48 ≤ c ∧ c ≤ 57 := by
  intro h
  have q := of_decide_eq_true h
  rw [Int32.le_iff_toInt_le, Int32.le_iff_toInt_le, c_i (by omega), c_i (by omega), c_i (by omega)] at q
  omega
/-- a digit's place in the number -/
theorem nb_1 {n p : Nat} {a : Nat → Int32} (h : tpA n a) (q : dgt (a p) = true) : ∃ d, d ≤ 9 ∧ a p = nI (d + 48) ∧ ∀ v, 10 * v + (a p).toNatClampNeg - 48 = 10 * v + d := by
  obtain ⟨c, hc, e⟩ := h.2.1 p (tp_d h q)
  rw [e] at q
  have := dgt_c hc q
  refine ⟨c - 48, by omega, by rw [e, show c - 48 + 48 = c by omega], fun v => ?_⟩
  rw [e, nI_cl (by omega)]
  omega
theorem nbL_le {n : Nat} {a : Nat → Int32} (h : tpA n a) : ∀ (f v p : Nat), p ≤ n → p ≤ (nbL a f v p).2 ∧ (nbL a f v p).2 ≤ n ∧ (nbL a f v p).1 + 1 ≤ (v + 1) * 10 ^ f
  | 0, v, p, hp => ⟨Nat.le_refl _, hp, by show v + 1 ≤ (v + 1) * 1; omega⟩
  | f + 1, v, p, hp => by
    unfold nbL
    by_cases q : dgt (a p) = true
    · rw [if_pos q]
      obtain ⟨d, hd, _, e2⟩ := nb_1 h q
      rw [e2 v]
      have hl := tp_d h q
      obtain ⟨h1, h2, h3⟩ := nbL_le h f (10 * v + d) (p + 1) (by omega)
      refine ⟨by omega, h2, Nat.le_trans h3 ?_⟩
      have := Nat.mul_le_mul_right (10 ^ f) (show 10 * v + d + 1 ≤ 10 * (v + 1) by omega)
      rw [Nat.pow_succ, Nat.mul_comm (10 ^ f) 10, ← Nat.mul_assoc, Nat.mul_comm (v + 1) 10]
      exact this
    · rw [if_neg q]
      refine ⟨Nat.le_refl _, hp, ?_⟩
      have := Nat.mul_le_mul_left (v + 1) (Nat.one_le_pow (f + 1) 10 (by decide))
      omega
/-- what every reading keeps: m numbers more -/
def gdR (u n m : Nat) (p : Nat) (l : List (Int32 × Int32)) (r : Bool × PS) : Prop :=
  p ≤ r.2.1 ∧ r.2.1 ≤ n ∧ r.2.2.length + p ≤ r.2.1 + l.length ∧ (r.1 = true → ∃ e, r.2.2 = e ++ l ∧ ∀ k, wf u e.reverse (k + 1 - m) (k + 1))
def gd (u n : Nat) (f : PF) : Prop := ∀ p l, p ≤ n → gdR u n 1 p l (f (p, l))
theorem gdR_i {u n m p p' : Nat} {l l' : List (Int32 × Int32)} {b : Bool} (h1 : p ≤ p') (h2 : p' ≤ n) (h3 : l'.length + p ≤ p' + l.length) (h4 : b = true → ∃ e, l' = e ++ l ∧ ∀ k, wf u e.reverse (k + 1 - m) (k + 1)) : gdR u n m p l (b, (p', l')) := ⟨h1, h2, h3, h4⟩
theorem wf_sg {u k : Nat} {x : Int32} (h : isSg x) : wf u [(nI 3, x)] (k + 2) (k + 1) := ⟨Or.inr (Or.inr (Or.inr ⟨rfl, h, by omega⟩)), rfl⟩
theorem gd_rwL {u n t : Nat} {a : Nat → Int32} {f : PF} (h : tpA n a) (hf : gd u n f) : ∀ (k p : Nat) (l : List (Int32 × Int32)), p ≤ n → gdR u n 0 p l (rwL a t f k (p, l))
  | 0, p, l, hp => ⟨Nat.le_refl _, hp, Nat.le_of_eq (Nat.add_comm _ _), fun _ => ⟨[], rfl, fun _ => rfl⟩⟩
  | k + 1, p, l, hp => by
    unfold rwL
    dsimp only
    by_cases q : sgT t (a p) = true
    · rw [if_pos q]
      have hlt := tp_s h q
      obtain ⟨h1, h2, h3, h4⟩ := hf (p + 1) l (by omega)
      by_cases q2 : (f (p + 1, l)).1 = true
      · rw [if_pos q2]
        obtain ⟨e, e1, e2⟩ := h4 q2
        obtain ⟨g1, g2, g3, g4⟩ := gd_rwL h hf k (f (p + 1, l)).2.1 ((nI 3, a p) :: (f (p + 1, l)).2.2) h2
        rw [List.length_cons] at g3
        refine ⟨by omega, g2, by omega, fun z => ?_⟩
        obtain ⟨e', e1', e2'⟩ := g4 z
        refine ⟨e' ++ (nI 3, a p) :: e, by rw [e1', e1, List.append_assoc]; rfl, fun k => ?_⟩
        rw [List.reverse_append, List.reverse_cons, List.append_assoc]
        exact wf_app (wf_app (e2' k) (wf_sg (sgT_i q))) (e2 (k + 1))
      · rw [if_neg q2]
        exact ⟨by omega, h2, by omega, fun z => absurd z q2⟩
    · rw [if_neg q]
      exact ⟨Nat.le_refl _, hp, Nat.le_of_eq (Nat.add_comm _ _), fun _ => ⟨[], rfl, fun _ => rfl⟩⟩
theorem gd_rwW {u n t : Nat} {a : Nat → Int32} {f : PF} (h : tpA n a) (hf : gd u n f) : gd u n (rwW a t f) := by
  intro p l hp
  unfold rwW
  obtain ⟨h1, h2, h3, h4⟩ := hf p l hp
  by_cases q : (f (p, l)).1 = true
  · rw [if_pos q]
    obtain ⟨e, e1, e2⟩ := h4 q
    obtain ⟨g1, g2, g3, g4⟩ := gd_rwL (t := t) h hf (mst t) (f (p, l)).2.1 (f (p, l)).2.2 h2
    refine ⟨Nat.le_trans h1 g1, g2, by have : (f (p, l)).2 = ((f (p, l)).2.1, (f (p, l)).2.2) := rfl; rw [this]; omega, fun z => ?_⟩
    obtain ⟨e', e1', e2'⟩ := g4 z
    refine ⟨e' ++ e, by rw [List.append_assoc, ← e1]; exact e1', fun k => ?_⟩
    rw [List.reverse_append]
    exact wf_app (e2' k) (e2 k)
  · rw [if_neg q]
    exact ⟨h1, h2, h3, fun z => absurd z q⟩
theorem gd_lvl {u n : Nat} {a : Nat → Int32} {f : PF} (h : tpA n a) (hf : gd u n f) : ∀ k, gd u n (lvl a f k)
  | 0 => hf
  | k + 1 => gd_rwW h (gd_lvl h hf k)
theorem gd_f {u n : Nat} : gd u n (fun st => (false, st)) := fun p l hp => ⟨Nat.le_refl _, hp, Nat.le_of_eq (Nat.add_comm _ _), fun z => absurd z Bool.false_ne_true⟩
theorem gd_sg1 {u n : Nat} {b : Bool} {a : Nat → Int32} {F G : PF} (hu : u < 2) (h : tpA n a) (hF : gd u n F) (hG : gd u n G) : gd u n (sg1 a u b F G) := by
  intro p l hp
  unfold sg1
  dsimp only
  by_cases q1 : dgt (a p) = true
  · rw [if_pos q1]
    obtain ⟨h1, h2, h3⟩ := nbL_le h 4 0 p hp
    have hl := tp_d h q1
    have h4 : p + 1 ≤ (nbL a 4 0 p).2 := by
      have e : nbL a 4 0 p = nbL a 3 (10 * 0 + (a p).toNatClampNeg - 48) (p + 1) := if_pos q1
      rw [e]
      exact (nbL_le h 3 _ (p + 1) (by omega)).1
    refine gdR_i h1 h2 (by rw [List.length_cons]; omega) (fun _ => ⟨[(nI 0, nI (nbL a 4 0 p).1)], rfl, fun k => ⟨Or.inl ⟨rfl, ?_⟩, rfl⟩⟩)
    have h5 : (nbL a 4 0 p).1 ≤ 9999 := by
      have : (0 + 1) * 10 ^ 4 = 10000 := by decide
      omega
    unfold rg
    rw [c_i (by omega)]
    omega
  · rw [if_neg q1]
    by_cases q2 : nmB u (a p) = true
    · rw [if_pos q2]
      have hl := tp_n h q2
      exact gdR_i (Nat.le_succ _) hl (by rw [List.length_cons]; omega) (fun _ => ⟨[(nI 1, a p)], rfl, fun k => ⟨Or.inr (Or.inl ⟨rfl, nmB_i hu q2⟩), rfl⟩⟩)
    · rw [if_neg q2]
      by_cases q3 : b = true ∧ a p = nI 33
      · rw [if_pos q3]
        have hl := tp_e h (by decide) q3.2
        obtain ⟨h1, h2, h3, h4⟩ := hF (p + 1) l (by omega)
        by_cases q : (F (p + 1, l)).1 = true
        · rw [if_pos q]
          obtain ⟨e, e1, e2⟩ := h4 q
          refine gdR_i (by omega) h2 (by rw [List.length_cons]; omega) (fun _ => ⟨(nI 2, nI 0) :: e, by rw [e1]; rfl, fun k => ?_⟩)
          rw [List.reverse_cons]
          exact wf_app (show wf u [(nI 2, nI 0)] (k + 1) (k + 1) from ⟨Or.inr (Or.inr (Or.inl ⟨rfl, by omega⟩)), rfl⟩) (e2 k)
        · rw [if_neg q]
          exact ⟨by omega, h2, by omega, fun z => absurd z q⟩
      · rw [if_neg q3]
        by_cases q4 : b = true ∧ a p = nI 40
        · rw [if_pos q4]
          have hl := tp_e h (by decide) q4.2
          obtain ⟨h1, h2, h3, h4⟩ := hG (p + 1) l (by omega)
          by_cases q : (G (p + 1, l)).1 = true
          · rw [if_pos q]
            by_cases q5 : a (G (p + 1, l)).2.1 = nI 41
            · rw [if_pos q5]
              have hl2 := tp_e h (by decide) q5
              exact gdR_i (by omega) hl2 (by omega) (fun _ => h4 q)
            · rw [if_neg q5]
              exact gdR_i (p' := (G (p + 1, l)).2.1) (l' := (G (p + 1, l)).2.2) (by omega) h2 (by omega) (fun z => absurd z Bool.false_ne_true)
          · rw [if_neg q]
            exact ⟨by omega, h2, by omega, fun z => absurd z q⟩
        · rw [if_neg q4]
          exact gd_f p l hp
theorem gd_sgl {u n : Nat} {a : Nat → Int32} (hu : u < 2) (h : tpA n a) : ∀ d, gd u n (sgl a u d)
  | 0 => gd_sg1 hu h gd_f gd_f
  | d + 1 => gd_sg1 hu h (gd_sgl hu h d) (gd_lvl h (gd_sgl hu h d) 5)
