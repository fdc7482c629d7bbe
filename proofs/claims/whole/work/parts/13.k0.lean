/-! contracts over runs: a method by its number, its arguments, what it leaves -/
def ab_K (h mi : Nat) (as : List Value) (i : ab_I) (Q : Option Value → ab_I → Prop) : Prop :=
  ∃ (T1 : ab_T) (l1 : ab_L), ab_ent ab_P mi as i GF = some (T1, 0, l1, [], i, GF) ∧ ab_R h T1 0 l1 [] i Q
theorem k_of {h mi : Nat} {as : List Value} {i : ab_I} {Q : Option Value → ab_I → Prop} {T1 : ab_T} {l1 : ab_L} (he : ab_ent ab_P mi as i GF = some (T1, 0, l1, [], i, GF)) (hr : ab_R h T1 0 l1 [] i Q) : ab_K h mi as i Q := ⟨T1, l1, he, hr⟩
theorem k_mono {h mi : Nat} {as : List Value} {i : ab_I} {Q Q' : Option Value → ab_I → Prop} (hk : ab_K h mi as i Q) (hq : ∀ v i', Q v i' → Q' v i') : ab_K h mi as i Q' := by
  obtain ⟨T1, l1, he, hr⟩ := hk
  exact ⟨T1, l1, he, r_mono hr hq⟩
/-- exactly this answer and this store; nothing answered, this store -/
def ab_V (e : Value) (F : ab_I) : Option Value → ab_I → Prop := fun v i' => v = some e ∧ i' = F
def ab_N (F : ab_I) : Option Value → ab_I → Prop := fun v i' => v = none ∧ i' = F
theorem r_c {d h : Nat} {T Tn : ab_T} {pc pcn : Nat} {ls lsn : ab_L} {st rn as : List Value} {i : ab_I} {mi : Nat} {O : Prop} {Q Q1 : Option Value → ab_I → Prop}
    (e : ab_cal (T, pc, ls, st, i, GF) = some (mi, as, O, Tn, pcn, lsn, rn)) (ho : O) (hk : ab_K h mi as i Q1) (hd : h < d) (k : ∀ v i', Q1 v i' → ab_R d Tn pcn lsn (v.toList ++ rn) i' Q) : ab_R d T pc ls st i Q := by
  obtain ⟨T1, l1, he, hr⟩ := hk
  exact r_call e ho hd he hr k
theorem r_cv {d h : Nat} {T Tn : ab_T} {pc pcn : Nat} {ls lsn : ab_L} {st rn as : List Value} {i F : ab_I} {mi : Nat} {O : Prop} {ev : Value} {Q : Option Value → ab_I → Prop}
    (e : ab_cal (T, pc, ls, st, i, GF) = some (mi, as, O, Tn, pcn, lsn, rn)) (ho : O) (hk : ab_K h mi as i (ab_V ev F)) (hd : h < d) (k : ab_R d Tn pcn lsn (ev :: rn) F Q) : ab_R d T pc ls st i Q :=
  r_c e ho hk hd (fun v i' q => by obtain ⟨rfl, rfl⟩ := q; exact k)
theorem r_cn {d h : Nat} {T Tn : ab_T} {pc pcn : Nat} {ls lsn : ab_L} {st rn as : List Value} {i F : ab_I} {mi : Nat} {O : Prop} {Q : Option Value → ab_I → Prop}
    (e : ab_cal (T, pc, ls, st, i, GF) = some (mi, as, O, Tn, pcn, lsn, rn)) (ho : O) (hk : ab_K h mi as i (ab_N F)) (hd : h < d) (k : ab_R d Tn pcn lsn rn F Q) : ab_R d T pc ls st i Q :=
  r_c e ho hk hd (fun v i' q => by obtain ⟨rfl, rfl⟩ := q; exact k)
/-! dead locals at a loop's head -/
theorem ab_Ok_inv {P : List ab_M} {d kc ks : Nat} {c : ab_C} {Q : ab_Q} (h : ab_Ok P d kc ks c Q) : ab_St P (ab_Ok P) d kc ks c Q := by
  refine h (fun d kc ks c Q => ab_St P (ab_Ok P) d kc ks c Q) ?_
  intro d kc ks c Q h
  rcases h with ⟨c', O, h1, h2, h3⟩ | ⟨c', O, u, w, kc', ks', h1, h2, h3, h4, h5⟩ | ⟨p, c1, c2, h1, h2, h3⟩ | ⟨c', h1, h2⟩ | ⟨v, O, h1, h2, hz1, hz2, h3⟩ | ⟨mi, as, O, T, pc, ls, r, d', k1, s1, k2, s2, e, Q1, h1, h2, h3, h4, h5, h6, h7, h8⟩
  · exact Or.inl ⟨c', O, h1, h2, ab_Ok_cl _ _ _ _ _ h3⟩
  · exact Or.inr (Or.inl ⟨c', O, u, w, kc', ks', h1, h2, h3, h4, ab_Ok_cl _ _ _ _ _ h5⟩)
  · exact Or.inr (Or.inr (Or.inl ⟨p, c1, c2, h1, fun q => ab_Ok_cl _ _ _ _ _ (h2 q), fun q => ab_Ok_cl _ _ _ _ _ (h3 q)⟩))
  · exact Or.inr (Or.inr (Or.inr (Or.inl ⟨c', h1, ab_Ok_cl _ _ _ _ _ h2⟩)))
  · exact Or.inr (Or.inr (Or.inr (Or.inr (Or.inl ⟨v, O, h1, h2, hz1, hz2, h3⟩))))
  · exact Or.inr (Or.inr (Or.inr (Or.inr (Or.inr ⟨mi, as, O, T, pc, ls, r, d', k1, s1, k2, s2, e, Q1, h1, h2, h3, h4, h5, h6, ab_Ok_cl _ _ _ _ _ h7, fun v i' g' q => ab_Ok_cl _ _ _ _ _ (h8 v i' g' q)⟩))))
theorem ab_mk_k {α : Type} : ∀ (m : List Bool) (l : ab_L) (k : ab_L → α), ab_mk m l k = k (ab_mk m l (fun l' => l'))
  | [], _, _ => rfl
  | _ :: _, [], _ => rfl
  | true :: m, x :: l, k => by
    show ab_mk m l (fun l' => k (x :: l')) = k (ab_mk m l (fun l' => x :: l'))
    rw [ab_mk_k m l, ab_mk_k m l (fun l' => x :: l')]
  | false :: m, _ :: l, k => by
    show ab_mk m l (fun l' => k (none :: l')) = k (ab_mk m l (fun l' => none :: l'))
    rw [ab_mk_k m l, ab_mk_k m l (fun l' => none :: l')]
theorem ab_mk_e {α : Type} {m : List Bool} {l l' : ab_L} {k : ab_L → α} (e : ab_mk m l (fun x => x) = ab_mk m l' (fun x => x)) : ab_mk m l k = ab_mk m l' k := by rw [ab_mk_k m l k, e, ← ab_mk_k m l' k]
theorem r_lv {d : Nat} {T : ab_T} {pc : Nat} {ls ls' : ab_L} {st : List Value} {i : ab_I} {Q : Option Value → ab_I → Prop} (e : ab_lv T pc ls = ab_lv T pc ls') (k : ab_R d T pc ls' st i Q) : ab_R d T pc ls st i Q := by
  have h := ab_Ok_inv k
  refine ab_Ok_cl _ _ _ _ _ ?_
  have e1 : ab_stp (T, pc, ls, st, i, GF) = ab_stp (T, pc, ls', st, i, GF) := by
    unfold ab_stp
    unfold ab_lv at e
    dsimp only
    cases hT : ab_lk T pc with
    | none => rfl
    | some en => rw [hT] at e; exact ab_mk_e e
  have e2 : ab_alc (T, pc, ls, st, i, GF) = ab_alc (T, pc, ls', st, i, GF) := by
    unfold ab_alc
    unfold ab_lv at e
    dsimp only
    cases hT : ab_lk T pc with
    | none => rfl
    | some en => rw [hT] at e; exact ab_mk_e e
  have e3 : ab_brn (T, pc, ls, st, i, GF) = ab_brn (T, pc, ls', st, i, GF) := by
    unfold ab_brn
    unfold ab_lv at e
    dsimp only
    cases hT : ab_lk T pc with
    | none => rfl
    | some en => rw [hT] at e; exact ab_mk_e e
  have e4 : ab_swi (T, pc, ls, st, i, GF) = ab_swi (T, pc, ls', st, i, GF) := by
    unfold ab_swi
    unfold ab_lv at e
    dsimp only
    cases hT : ab_lk T pc with
    | none => rfl
    | some en => rw [hT] at e; exact ab_mk_e e
  have e5 : ab_cal (T, pc, ls, st, i, GF) = ab_cal (T, pc, ls', st, i, GF) := by
    unfold ab_cal
    unfold ab_lv at e
    dsimp only
    cases hT : ab_lk T pc with
    | none => rfl
    | some en => rw [hT] at e; exact ab_mk_e e
  unfold ab_St at h ⊢
  rw [e1, e2, e3, e4, e5]
  exact h
theorem r_lk {d : Nat} {T : ab_T} {pc : Nat} {ls ls' : ab_L} {st : List Value} {i : ab_I} {Q : Option Value → ab_I → Prop} (k : ab_R d T pc ls' st i Q) (e : ab_lv T pc ls = ab_lv T pc ls') : ab_R d T pc ls st i Q := r_lv e k
/-- booleans -/
def bI (p : Prop) [Decidable p] : Int32 := if p then nI 1 else nI 0
theorem bI_t {p : Prop} [Decidable p] (h : p) : bI p = nI 1 := if_pos h
theorem bI_f {p : Prop} [Decidable p] (h : ¬ p) : bI p = nI 0 := if_neg h
theorem bI_0 {p : Prop} [Decidable p] : (bI p = nI 0) = ¬ p := by
  refine propext ⟨fun h q => ?_, fun h => if_neg h⟩
  rw [bI_t q] at h
  exact absurd h (by decide)
theorem bI_n0 {p : Prop} [Decidable p] : (¬ bI p = nI 0) = p := by rw [bI_0]; exact propext Decidable.not_not
theorem bI_or {p : Prop} [Decidable p] : bI p = nI 0 ∨ bI p = nI 1 := by
  by_cases h : p
  · exact Or.inr (bI_t h)
  · exact Or.inl (bI_f h)
theorem lf_t {p : Prop} [Decidable p] {i : ab_I} (h : p) : ab_V (.int (bI p)) i (some (.int (nI 1))) i := ⟨by rw [bI_t h], rfl⟩
theorem lf_f {p : Prop} [Decidable p] {i : ab_I} (h : ¬ p) : ab_V (.int (bI p)) i (some (.int (nI 0))) i := ⟨by rw [bI_f h], rfl⟩
theorem r_bE {d : Nat} {T T1 T2 : ab_T} {pc p1 p2 : Nat} {ls l1 l2 : ab_L} {st s1 s2 : List Value} {i i1 i2 : ab_I} {p : Prop} [Decidable p] {Q : Option Value → ab_I → Prop}
    (h : ab_brn (T, pc, ls, st, i, GF) = some (bI p = nI 0, (T1, p1, l1, s1, i1, GF), (T2, p2, l2, s2, i2, GF))) (k1 : ¬ p → ab_R d T1 p1 l1 s1 i1 Q) (k2 : p → ab_R d T2 p2 l2 s2 i2 Q) : ab_R d T pc ls st i Q :=
  r_br h (fun q => k1 (Eq.mp bI_0 q)) (fun q => k2 (Eq.mp bI_n0 q))
theorem r_bN {d : Nat} {T T1 T2 : ab_T} {pc p1 p2 : Nat} {ls l1 l2 : ab_L} {st s1 s2 : List Value} {i i1 i2 : ab_I} {p : Prop} [Decidable p] {Q : Option Value → ab_I → Prop}
    (h : ab_brn (T, pc, ls, st, i, GF) = some (¬ bI p = nI 0, (T1, p1, l1, s1, i1, GF), (T2, p2, l2, s2, i2, GF))) (k1 : p → ab_R d T1 p1 l1 s1 i1 Q) (k2 : ¬ p → ab_R d T2 p2 l2 s2 i2 Q) : ab_R d T pc ls st i Q :=
  r_br h (fun q => k1 (Eq.mp bI_n0 q)) (fun q => k2 (fun r => q (fun e => Eq.mp bI_0 e r)))
theorem r_le {d : Nat} {T T1 T2 : ab_T} {pc p1 p2 : Nat} {ls l1 l2 : ab_L} {st s1 s2 : List Value} {i i1 i2 : ab_I} {a b : Int32} {Q : Option Value → ab_I → Prop}
    (h : ab_brn (T, pc, ls, st, i, GF) = some (a ≤ b, (T1, p1, l1, s1, i1, GF), (T2, p2, l2, s2, i2, GF))) (k1 : ¬ b < a → ab_R d T1 p1 l1 s1 i1 Q) (k2 : b < a → ab_R d T2 p2 l2 s2 i2 Q) : ab_R d T pc ls st i Q :=
  r_br h (fun q => k1 (Int32.not_lt.mpr q)) (fun q => k2 (Int32.not_le.mp q))
theorem r_ne {d : Nat} {T T1 T2 : ab_T} {pc p1 p2 : Nat} {ls l1 l2 : ab_L} {st s1 s2 : List Value} {i i1 i2 : ab_I} {a b : Int32} {Q : Option Value → ab_I → Prop}
    (h : ab_brn (T, pc, ls, st, i, GF) = some (¬ a = b, (T1, p1, l1, s1, i1, GF), (T2, p2, l2, s2, i2, GF))) (k1 : ¬ a = b → ab_R d T1 p1 l1 s1 i1 Q) (k2 : a = b → ab_R d T2 p2 l2 s2 i2 Q) : ab_R d T pc ls st i Q :=
  r_br h k1 (fun q => k2 (Classical.not_not.mp q))
theorem r_swk {d : Nat} {T : ab_T} {k : Int32} {t df : Nat} {r : List (Int32 × Nat)} {x : Int32} {ls : ab_L} {st : List Value} {i : ab_I} {Q : Option Value → ab_I → Prop}
    (k1 : x = k → ab_R d T t ls st i Q) (k2 : ¬ x = k → ab_R d T (ab_sw r df x) ls st i Q) : ab_R d T (ab_sw ((k, t) :: r) df x) ls st i Q := by
  by_cases h : x = k
  · have e : ab_sw ((k, t) :: r) df x = t := if_pos h
    rw [e]
    exact k1 h
  · have e : ab_sw ((k, t) :: r) df x = ab_sw r df x := if_neg h
    rw [e]
    exact k2 h
theorem r_swT {d : Nat} {T : ab_T} {k : Int32} {t df : Nat} {r : List (Int32 × Nat)} {x : Int32} {ls : ab_L} {st : List Value} {i : ab_I} {Q : Option Value → ab_I → Prop}
    (h : x = k) (k1 : ab_R d T t ls st i Q) : ab_R d T (ab_sw ((k, t) :: r) df x) ls st i Q := r_swk (fun _ => k1) (fun q => absurd h q)
theorem k_within {i : ab_I} (v l m : Int32) : ab_K 0 152 [.int v, .int l, .int m] i (ab_V (.int (bI (l ≤ v ∧ v ≤ m))) i) := by
  refine k_of rfl ?_
  refine r_go 2 rfl ?_ ?_
  · (first | exact trivial | assumption | (simp only [ab_all, ab_nz, and_self]; first | assumption | (simp [*]; done)))
  refine r_br rfl (fun h2 => ?_) (fun h2 => ?_)
  · skip
    refine r_go 1 rfl ?_ ?_
    · (first | exact trivial | assumption | (simp only [ab_all, ab_nz, and_self]; first | assumption | (simp [*]; done)))
    refine r_ret rfl (by (first | exact Or.inl rfl | exact Or.inr rfl)) ?_
    first | exact lf_t (by (simp only [Int32.le_iff_toInt_le, Int32.lt_iff_toInt_lt] at *; omega)) | exact lf_f (by (simp only [Int32.le_iff_toInt_le, Int32.lt_iff_toInt_lt] at *; omega))
  · skip
    refine r_go 2 rfl ?_ ?_
    · (first | exact trivial | assumption | (simp only [ab_all, ab_nz, and_self]; first | assumption | (simp [*]; done)))
    refine r_br rfl (fun h7 => ?_) (fun h7 => ?_)
    · skip
      refine r_go 1 rfl ?_ ?_
      · (first | exact trivial | assumption | (simp only [ab_all, ab_nz, and_self]; first | assumption | (simp [*]; done)))
      refine r_ret rfl (by (first | exact Or.inl rfl | exact Or.inr rfl)) ?_
      first | exact lf_t (by (simp only [Int32.le_iff_toInt_le, Int32.lt_iff_toInt_lt] at *; omega)) | exact lf_f (by (simp only [Int32.le_iff_toInt_le, Int32.lt_iff_toInt_lt] at *; omega))
    · skip
      refine r_go 2 rfl ?_ ?_
      · (first | exact trivial | assumption | (simp only [ab_all, ab_nz, and_self]; first | assumption | (simp [*]; done)))
      refine r_ret rfl (by (first | exact Or.inl rfl | exact Or.inr rfl)) ?_
      first | exact lf_t (by (simp only [Int32.le_iff_toInt_le, Int32.lt_iff_toInt_lt] at *; omega)) | exact lf_f (by (simp only [Int32.le_iff_toInt_le, Int32.lt_iff_toInt_lt] at *; omega))
/-! numbers -/
theorem ad_i {x y : Int32} (h1 : -2147483648 ≤ x.toInt + y.toInt) (h2 : x.toInt + y.toInt ≤ 2147483647) : (x + y).toInt = x.toInt + y.toInt := by
  rw [Int32.toInt_add]
  exact Int.bmod_eq_of_le (by omega) (by omega)
theorem su_i {x y : Int32} (h1 : -2147483648 ≤ x.toInt - y.toInt) (h2 : x.toInt - y.toInt ≤ 2147483647) : (x - y).toInt = x.toInt - y.toInt := by
  rw [Int32.toInt_sub]
  exact Int.bmod_eq_of_le (by omega) (by omega)
theorem mu_i {x y : Int32} (h1 : -2147483648 ≤ x.toInt * y.toInt) (h2 : x.toInt * y.toInt ≤ 2147483647) : (x * y).toInt = x.toInt * y.toInt := by
  rw [Int32.toInt_mul]
  exact Int.bmod_eq_of_le (by omega) (by omega)
theorem c_i {n : Nat} (h : n < 2147483648) : (nI n).toInt = (n : Int) := nI_toInt h
theorem m1_i : (-1 : Int32).toInt = -1 := by decide
theorem m5_i : (-5 : Int32).toInt = -5 := by decide
theorem m33_i : (-33 : Int32).toInt = -33 := by decide
theorem eq_i {x y : Int32} : x = y ↔ x.toInt = y.toInt := Int32.toInt_inj.symm
theorem dv_i {x y : Int32} (hx : 0 ≤ x.toInt) (hy : 0 < y.toInt) : (x / y).toInt = x.toInt / y.toInt := by
  have hb := Int32.toInt_lt x
  rw [Int32.toInt_div, Int.tdiv_eq_ediv_of_nonneg hx]
  have h0 : 0 ≤ x.toInt / y.toInt := Int.ediv_nonneg hx (Int.le_of_lt hy)
  have h1 : x.toInt / y.toInt ≤ x.toInt := Int.ediv_le_self _ hx
  exact Int.bmod_eq_of_le (by omega) (by omega)
theorem tn_of {x : Int32} (h : 0 ≤ x.toInt) : x = nI x.toNatClampNeg := by
  have hb := Int32.toInt_lt x
  refine eq_i.mpr ?_
  have e : x.toNatClampNeg = x.toInt.toNat := rfl
  have hl : x.toNatClampNeg < 2147483648 := by omega
  rw [c_i hl, e]
  omega
theorem tn_i {x : Int32} : x.toNatClampNeg = x.toInt.toNat := rfl
/-- x lies between -/
def rg (x : Int32) (a b : Int) : Prop := a ≤ x.toInt ∧ x.toInt ≤ b
theorem in_nI {k n : Nat} (h : k < n) (hk : k < 2147483648) : ab_in (nI k) n := by
  unfold ab_in
  rw [c_i hk]
  omega
theorem ix_of {q n k : Nat} (h : ab_gt GF q = (100, n)) (h1 : k < n) (hk : k < 2147483648) : ab_ixI GF q (nI k) := ⟨n, h, in_nI h1 hk⟩
theorem nI_cl {k : Nat} (hk : k < 2147483648) : (nI k).toNatClampNeg = k := nI_clamp hk
theorem k_level {q : Nat} {i : ab_I} (hq : ab_gt GF q = (0, 0)) (ha : 0 < (i q 0).toInt) : ab_K 0 13 [.ref q] i (ab_V (.int (i q 1 / i q 0)) i) := by
  refine k_of rfl ?_
  refine r_go 2 rfl ?_ ?_
  · (first | exact trivial | assumption | (simp only [ab_all, ab_nz, and_self]; first | assumption | (simp [*]; done)))
  refine r_brF rfl (fun h => by simp only [Int32.le_iff_toInt_le, c_i (show 0 < 2147483648 by decide)] at h; omega) ?_
  refine r_go 6 rfl ?_ ?_
  · exact ⟨fun z => by rw [z] at ha; exact absurd ha (by decide), hq, hq⟩
  refine r_ret rfl trivial ?_
  exact ⟨rfl, rfl⟩
