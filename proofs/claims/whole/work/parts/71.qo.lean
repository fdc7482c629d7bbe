/-! constructors: cells as they are made -/
abbrev y_zf : Nat → Int32 := fun _ => 0
abbrev y_zr : Nat → Nat := fun _ => 0
def y_pu {α : Type} (f : Nat → α) (k : Nat) (y : α) : Nat → α := fun b => if b = k then y else f b
/-- own cell q, made up to n -/
def y_ow {α : Type} (G i : Nat → Nat → α) (q : Nat) (f : Nat → α) (n : Nat) : Nat → Nat → α := fun a b => if a = q then f b else if q < a ∧ a < n then G a b else i a b
def y_iu {α : Type} (G i : Nat → Nat → α) (q n : Nat) : Nat → Nat → α := fun a b => if q ≤ a ∧ a < n then G a b else i a b
def y_ov {α : Type} (R : Nat → Nat → α) (q : Nat) (f : Nat → α) : Nat → Nat → α := fun a b => if a = q then f b else R a b
def y_us {α : Type} (R : Nat → Nat → α) (q k : Nat) (y : α) : Nat → Nat → α := fun a b => if a = q ∧ b = k then y else R a b
theorem y_upus {i : ab_I} {q k : Nat} {x : Int32} : ab_up i q k x = y_us i q k x := rfl
theorem y_rowov {i : ab_I} {q : Nat} {f : Nat → Int32} : ab_row i q f = y_ov i q f := rfl
theorem y_st {α : Type} {G i : Nat → Nat → α} {q : Nat} {f : Nat → α} : y_ov i q f = y_ow G i q f (q + 1) := by
  funext a b
  unfold y_ov y_ow
  by_cases h : a = q
  · rw [if_pos h, if_pos h]
  · rw [if_neg h, if_neg h, if_neg (by omega)]
theorem y_own {α : Type} {G i : Nat → Nat → α} {q n k : Nat} {f : Nat → α} {y : α} : y_us (y_ow G i q f n) q k y = y_ow G i q (y_pu f k y) n := by
  funext a b
  unfold y_us y_ow y_pu
  by_cases h : a = q
  · by_cases h2 : b = k
    · rw [if_pos ⟨h, h2⟩, if_pos h, if_pos h2]
    · rw [if_neg (fun z => h2 z.2), if_pos h, if_pos h, if_neg h2]
  · rw [if_neg (fun z => h z.1), if_neg h, if_neg h]
theorem y_ca {α : Type} {G i : Nat → Nat → α} {q n m : Nat} {f : Nat → α} (h1 : q < n) (h2 : n ≤ m) : y_iu G (y_ow G i q f n) n m = y_ow G i q f m := by
  funext a b
  unfold y_iu y_ow
  by_cases h : a = q
  · rw [if_neg (by omega), if_pos h, if_pos h]
  · rw [if_neg h, if_neg h]
    by_cases h3 : n ≤ a ∧ a < m
    · rw [if_pos h3, if_pos (by omega)]
    · rw [if_neg h3]
      by_cases h4 : q < a ∧ a < n
      · rw [if_pos h4, if_pos (by omega)]
      · rw [if_neg h4, if_neg (by omega)]
theorem y_ar {α : Type} {G i : Nat → Nat → α} {q n : Nat} {f f' : Nat → α} (h1 : q < n) (h2 : G n = f') : y_ov (y_ow G i q f n) n f' = y_ow G i q f (n + 1) := by
  funext a b
  unfold y_ov y_ow
  by_cases h : a = q
  · rw [if_neg (by omega), if_pos h, if_pos h]
  · rw [if_neg h, if_neg h]
    by_cases h3 : a = n
    · rw [if_pos h3, if_pos (by omega), h3, h2]
    · rw [if_neg h3]
      by_cases h4 : q < a ∧ a < n
      · rw [if_pos h4, if_pos (by omega)]
      · rw [if_neg h4, if_neg (by omega)]
theorem y_en {α : Type} {G i : Nat → Nat → α} {q n : Nat} {f : Nat → α} (h1 : q < n) (h2 : G q = f) : y_ow G i q f n = y_iu G i q n := by
  funext a b
  unfold y_iu y_ow
  by_cases h : a = q
  · rw [if_pos h, if_pos (by omega), h, h2]
  · rw [if_neg h]
    by_cases h4 : q < a ∧ a < n
    · rw [if_pos h4, if_pos (by omega)]
    · rw [if_neg h4, if_neg (by omega)]
theorem y_as {α : Type} {G i : Nat → Nat → α} {q n : Nat} {f f' : Nat → α} : y_ov (y_ow G i q f n) n f' = y_ov (y_ow G i q f (n + 1)) n f' := by
  funext a b
  unfold y_ov y_ow
  by_cases h3 : a = n
  · rw [if_pos h3, if_pos h3]
  · rw [if_neg h3, if_neg h3]
    by_cases h : a = q
    · rw [if_pos h, if_pos h]
    · rw [if_neg h, if_neg h]
      by_cases h4 : q < a ∧ a < n
      · rw [if_pos h4, if_pos (by omega)]
      · rw [if_neg h4, if_neg (by omega)]
theorem y_ao {α : Type} {G i : Nat → Nat → α} {q n r k : Nat} {f f' : Nat → α} {y : α} (h1 : q ≠ r) : y_us (y_ov (y_ow G i q f n) r f') q k y = y_ov (y_ow G i q (y_pu f k y) n) r f' := by
  rw [← y_own]
  funext a b
  unfold y_us y_ov
  by_cases h : a = r
  · rw [if_neg (by omega), if_pos h, if_pos h]
  · rw [if_neg h, if_neg h]
theorem y_ae {α : Type} {R : Nat → Nat → α} {r k : Nat} {f : Nat → α} {y : α} : y_us (y_ov R r f) r k y = y_ov R r (y_pu f k y) := by
  funext a b
  unfold y_us y_ov y_pu
  by_cases h : a = r
  · rw [if_pos h, if_pos h]
    by_cases h2 : b = k
    · rw [if_pos ⟨h, h2⟩, if_pos h2]
    · rw [if_neg (fun z => h2 z.2), if_neg h2]
  · rw [if_neg (fun z => h z.1), if_neg h, if_neg h]
theorem y_ac {α : Type} {G i : Nat → Nat → α} {q n r m : Nat} {f f' : Nat → α} (h1 : q < n) (h2 : r < n) (h3 : n ≤ m) : y_iu G (y_ov (y_ow G i q f n) r f') n m = y_ov (y_ow G i q f m) r f' := by
  rw [← y_ca h1 h3]
  funext a b
  unfold y_iu y_ov
  by_cases h : a = r
  · rw [if_neg (by omega), if_pos h, if_pos h]
  · rw [if_neg h, if_neg h]
theorem y_an {α : Type} {G i : Nat → Nat → α} {q n r : Nat} {f f' : Nat → α} (h1 : q < r) (h2 : r < n) (h3 : G r = f') : y_ov (y_ow G i q f n) r f' = y_ow G i q f n := by
  funext a b
  unfold y_ov y_ow
  by_cases h : a = r
  · rw [if_pos h, if_neg (by omega), if_pos (by omega), h, h3]
  · rw [if_neg h]
theorem y_oq {α : Type} {G i : Nat → Nat → α} {q n b : Nat} {f : Nat → α} : y_ow G i q f n q b = f b := if_pos rfl
theorem y_om {α : Type} {G i : Nat → Nat → α} {q n a b : Nat} {f : Nat → α} (h1 : q < a) (h2 : a < n) : y_ow G i q f n a b = G a b := by
  unfold y_ow
  rw [if_neg (by omega), if_pos ⟨h1, h2⟩]
theorem y_vq {α : Type} {R : Nat → Nat → α} {q b : Nat} {f : Nat → α} : y_ov R q f q b = f b := if_pos rfl
theorem y_vn {α : Type} {R : Nat → Nat → α} {q a b : Nat} {f : Nat → α} (h : a ≠ q) : y_ov R q f a b = R a b := if_neg h
/-- tags, the shape -/
def y_tg (n : Nat) : Nat → ab_Tg := fun a => if a < n then gf_t a else (9999, 0)
def y_sx (R : Nat → Nat → Nat) (n : Nat) : ab_Sh := (R, y_tg n, n)
theorem y_gt {R : Nat → Nat → Nat} {n q : Nat} {t : ab_Tg} (h : q < n) (e : gf_t q = t) : ab_gt (y_sx R n) q = t := by
  show y_tg n q = t
  unfold y_tg
  rw [if_pos h, e]
theorem y_new {R : Nat → Nat → Nat} {n : Nat} {t : ab_Tg} (e : gf_t n = t) : ab_new (y_sx R n) t = y_sx (y_ov R n y_zr) (n + 1) := by
  show ((fun a b => if a = n then 0 else R a b), (fun a => if a = n then t else y_tg n a), n + 1) = ((y_ov R n y_zr, y_tg (n + 1), n + 1) : ab_Sh)
  have h2 : (fun a => if a = n then t else y_tg n a) = y_tg (n + 1) := by
    funext a
    unfold y_tg
    by_cases h : a = n
    · rw [if_pos h, if_pos (by omega), h, e]
    · rw [if_neg h]
      by_cases h3 : a < n
      · rw [if_pos h3, if_pos (by omega)]
      · rw [if_neg h3, if_neg (by omega)]
  rw [h2]
  rfl
def y_gik (k b : Nat) : Int32 := match k with
  | 0 => if b = 0 then nI 1 else 0
  | 8 => if b = 7 then nI 1 else 0
  | 4 => if b = 2 then nI 1 else 0
  | 11 => if b = 13 then (-1) else 0
  | _ => 0
def y_gi (q b : Nat) : Int32 := y_gik (gf_t q).1 b
theorem y_gi_k {q k n : Nat} (h : gf_t q = (k, n)) : y_gi q = fun b => y_gik k b := by
  funext b
  unfold y_gi
  rw [h]
theorem y_gr_k {q k n : Nat} (h : gf_t q = (k, n)) : gf_r q = fun j => gf_rk k q j := by
  funext b
  unfold gf_r
  rw [h]
theorem y_gz {q k n : Nat} (h : gf_t q = (k, n)) (e : ∀ b, y_gik k b = 0) : y_gi q = y_zf := by
  rw [y_gi_k h]
  exact funext e
theorem y_rz {q k n : Nat} (h : gf_t q = (k, n)) (e : ∀ j, gf_rk k q j = 0) : gf_r q = y_zr := by
  rw [y_gr_k h]
  exact funext e
/-! rules over any shape -/
def ab_KC (h mi : Nat) (as : List Value) (kc ks : Nat) (i : ab_I) (g : ab_Sh) (Q : ab_Q) : Prop :=
  ∃ (T1 : ab_T) (l1 : ab_L), ab_ent ab_P mi as i g = some (T1, 0, l1, [], i, g) ∧ ab_Ok ab_P h kc ks (T1, 0, l1, [], i, g) Q
/-- a constructor: its object stands at c, it makes the cells behind it, up to n -/
def y_nK (h mi : Nat) (as : List Value) (c n ks : Nat) : Prop := ∀ (i : ab_I) (r : Nat → Nat → Nat), ab_KC h mi as (n - (c + 1)) ks (y_ov i c y_zf) (y_sx (y_ov r c y_zr) (c + 1)) (fun v i' g' => v = none ∧ i' = y_iu y_gi i c n ∧ g' = y_sx (y_iu gf_r r c n) n)
theorem q_fit {d kc kc' ks ks' : Nat} {c : ab_C} {Q : ab_Q} (h : ab_Ok ab_P d kc ks c Q) (e1 : kc = kc') (e2 : ks = ks') : ab_Ok ab_P d kc' ks' c Q := by
  subst e1
  subst e2
  exact h
theorem q_go (n : Nat) {d kc ks : Nat} {T T' : ab_T} {pc pc' : Nat} {ls ls' : ab_L} {st st' : List Value} {i i' : ab_I} {g g' : ab_Sh} {P : List Prop} {Q : ab_Q}
    (h : ab_go n (T, pc, ls, st, i, g) [] = ((T', pc', ls', st', i', g'), P)) (hp : ab_all P) (k : ab_Ok ab_P d kc ks (T', pc', ls', st', i', g') Q) : ab_Ok ab_P d kc ks (T, pc, ls, st, i, g) Q := ab_go_ok h hp k
theorem q_new {d kc ks w pc pcn n : Nat} {T Tn : ab_T} {ls lsn : ab_L} {st stn : List Value} {i : ab_I} {R : Nat → Nat → Nat} {t : ab_Tg} {O : Prop} {Q : ab_Q}
    (e : ab_alc (T, pc, ls, st, i, y_sx R n) = some ((Tn, pcn, lsn, .ref n :: stn, ab_row i (ab_gn (y_sx R n)) (fun _ => 0), ab_new (y_sx R n) t), O, 1, w)) (ht : gf_t n = t) (ho : O) (hk : 1 ≤ kc) (hs : w ≤ ks)
    (k : ab_Ok ab_P d (kc - 1) (ks - w) (Tn, pcn, lsn, .ref n :: stn, y_ov i n y_zf, y_sx (y_ov R n y_zr) (n + 1)) Q) : ab_Ok ab_P d kc ks (T, pc, ls, st, i, y_sx R n) Q := by
  rw [y_new ht] at e
  exact ab_Ok_cl _ _ _ _ _ (Or.inr (Or.inl ⟨_, _, 1, w, kc - 1, ks - w, e, ho, by omega, by omega, k⟩))
theorem q_put {d kc ks pc pcn n q j y : Nat} {T Tn : ab_T} {ls lsn : ab_L} {st stn : List Value} {i : ab_I} {R : Nat → Nat → Nat} {O : Prop} {Q : ab_Q}
    (e : ab_alc (T, pc, ls, st, i, y_sx R n) = some ((Tn, pcn, lsn, stn, i, ab_setr (y_sx R n) q j y), O, 0, 0)) (ho : O)
    (k : ab_Ok ab_P d kc ks (Tn, pcn, lsn, stn, i, y_sx (y_us R q j y) n) Q) : ab_Ok ab_P d kc ks (T, pc, ls, st, i, y_sx R n) Q :=
  ab_Ok_cl _ _ _ _ _ (Or.inr (Or.inl ⟨_, _, 0, 0, kc, ks, e, ho, by omega, by omega, k⟩))
theorem q_br {d kc ks : Nat} {T T1 T2 : ab_T} {pc p1 p2 : Nat} {ls l1 l2 : ab_L} {st s1 s2 : List Value} {i i1 i2 : ab_I} {g g1 g2 : ab_Sh} {p : Prop} {Q : ab_Q}
    (h : ab_brn (T, pc, ls, st, i, g) = some (p, (T1, p1, l1, s1, i1, g1), (T2, p2, l2, s2, i2, g2))) (k1 : p → ab_Ok ab_P d kc ks (T1, p1, l1, s1, i1, g1) Q) (k2 : ¬ p → ab_Ok ab_P d kc ks (T2, p2, l2, s2, i2, g2) Q) : ab_Ok ab_P d kc ks (T, pc, ls, st, i, g) Q :=
  ab_Ok_cl _ _ _ _ _ (Or.inr (Or.inr (Or.inl ⟨_, _, _, h, k1, k2⟩)))
theorem q_ret {d kc ks : Nat} {T : ab_T} {pc : Nat} {ls : ab_L} {st : List Value} {i : ab_I} {g : ab_Sh} {v : Option Value} {O : Prop} {Q : ab_Q}
    (h : ab_rtn (T, pc, ls, st, i, g) = some (v, O)) (ho : O) (hk : kc = 0) (hs : ks = 0) (hq : Q v i g) : ab_Ok ab_P d kc ks (T, pc, ls, st, i, g) Q :=
  ab_Ok_cl _ _ _ _ _ (Or.inr (Or.inr (Or.inr (Or.inr (Or.inl ⟨_, _, h, ho, hk, hs, hq⟩)))))
theorem q_call {d h kc ks k1 s1 : Nat} {T Tn : ab_T} {pc pcn : Nat} {ls lsn : ab_L} {st rn as : List Value} {i : ab_I} {g : ab_Sh} {mi : Nat} {O : Prop} {Q Q1 : ab_Q}
    (e : ab_cal (T, pc, ls, st, i, g) = some (mi, as, O, Tn, pcn, lsn, rn)) (ho : O) (hK : ab_KC h mi as k1 s1 i g Q1) (hd : h < d) (hk : k1 ≤ kc) (hs : s1 ≤ ks)
    (k : ∀ v i' g', Q1 v i' g' → ab_Ok ab_P d (kc - k1) (ks - s1) (Tn, pcn, lsn, v.toList ++ rn, i', g') Q) : ab_Ok ab_P d kc ks (T, pc, ls, st, i, g) Q := by
  obtain ⟨T1, l1, he, hr⟩ := hK
  exact ab_Ok_cl _ _ _ _ _ (Or.inr (Or.inr (Or.inr (Or.inr (Or.inr ⟨mi, as, O, Tn, pcn, lsn, rn, h, k1, s1, kc - k1, ks - s1, _, _, e, ho, hd, by omega, by omega, he, hr, k⟩)))))
theorem q_cin {d h kc ks c n s1 : Nat} {T Tn : ab_T} {pc pcn : Nat} {ls lsn : ab_L} {st rn as : List Value} {i : ab_I} {r : Nat → Nat → Nat} {mi : Nat} {O : Prop} {Q : ab_Q}
    (hK : y_nK h mi as c n s1) (e : ab_cal (T, pc, ls, st, y_ov i c y_zf, y_sx (y_ov r c y_zr) (c + 1)) = some (mi, as, O, Tn, pcn, lsn, rn)) (ho : O) (hd : h < d) (hk : n - (c + 1) ≤ kc) (hs : s1 ≤ ks)
    (k : ab_Ok ab_P d (kc - (n - (c + 1))) (ks - s1) (Tn, pcn, lsn, rn, y_iu y_gi i c n, y_sx (y_iu gf_r r c n) n) Q) : ab_Ok ab_P d kc ks (T, pc, ls, st, y_ov i c y_zf, y_sx (y_ov r c y_zr) (c + 1)) Q :=
  q_call e ho (hK i r) hd hk hs (fun v i' g' q => by
    obtain ⟨rfl, rfl, rfl⟩ := q
    exact k)
/-! the small ones -/
theorem y_f1 {n : Nat} : y_pu y_zf n (nI 0) = y_zf := by
  funext b
  unfold y_pu
  split <;> rfl
theorem cn_bas {q : Nat} (ht : gf_t q = (0, 0)) : y_nK 0 10 [.ref q] q (q + 1) 0 := by
  intro i r
  refine ⟨_, _, rfl, ?_⟩
  refine q_go 5 rfl (y_gt (Nat.lt_succ_self _) ht) ?_
  refine q_ret rfl trivial (by omega) rfl ⟨rfl, ?_, ?_⟩
  · rw [y_upus, y_st (G := y_gi), y_own, y_en (Nat.lt_succ_self _)]
    rw [y_gi_k ht]
    rfl
  · rw [y_st (G := gf_r)]
    rw [show y_ow gf_r r q y_zr (q + 1) = y_iu gf_r r q (q + 1) from y_en (Nat.lt_succ_self _) (y_gr_k ht)]
theorem cn_door {q : Nat} (ht : gf_t q = (1, 0)) : y_nK 0 20 [.ref q] q (q + 1) 0 := by
  intro i r
  refine ⟨_, _, rfl, ?_⟩
  refine q_go 2 rfl trivial ?_
  refine q_ret rfl trivial (by omega) rfl ⟨rfl, ?_, ?_⟩
  · rw [y_st (G := y_gi)]
    exact y_en (Nat.lt_succ_self _) (y_gi_k ht)
  · rw [y_st (G := gf_r)]
    rw [show y_ow gf_r r q y_zr (q + 1) = y_iu gf_r r q (q + 1) from y_en (Nat.lt_succ_self _) (y_gr_k ht)]
/-- a row of k numbers -/
theorem cn_row {q k : Nat} (ht : gf_t q = (5, 0)) (ht1 : gf_t (q + 1) = (100, k)) (hq : q < 800) (hk : k ≤ 1000) : y_nK 0 65 [.ref q, .int (nI k)] q (q + 2) k := by
  intro i r
  refine ⟨_, _, rfl, ?_⟩
  refine q_go 4 rfl trivial ?_
  refine q_br rfl (fun h6 => ?_) (fun h6 => absurd (by rw [Int32.le_iff_toInt_le, c_i (by omega), c_i (by omega)]; omega) h6)
  refine q_go 1 rfl trivial ?_
  rw [y_st (G := y_gi), y_st (G := gf_r)]
  refine q_new rfl (by rw [nI_cl (by omega)]; exact ht1) ⟨show q + 1 < 900 by omega, by rw [c_i (by omega)]; omega, by rw [c_i (by omega)]; omega⟩ (by omega) (by rw [nI_cl (by omega)]; omega) ?_
  rw [y_ar (Nat.lt_succ_self _) (y_gz ht1 (fun _ => rfl)), y_ar (Nat.lt_succ_self _) (y_rz ht1 (fun _ => rfl))]
  refine q_put rfl ⟨y_gt (by omega) ht, Nat.succ_ne_zero _⟩ ?_
  rw [y_own]
  refine q_go 3 rfl (y_gt (by omega) ht) ?_
  refine q_ret rfl trivial (by omega) (by rw [nI_cl (by omega)]; omega) ⟨rfl, ?_, ?_⟩
  · rw [y_upus, y_own, y_f1]
    exact y_en (by omega) (y_gi_k ht)
  · rw [y_en (by omega)]
    rw [y_gr_k ht]
    funext j
    unfold y_pu
    match j with
    | 0 => rfl
    | j + 1 => rfl
