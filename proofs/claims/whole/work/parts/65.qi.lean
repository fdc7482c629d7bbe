/-! text: the reference's states -/
def stR (l : List (Int32 × Int32)) (f : Vc) : Prop := ∀ k, k < 2 * l.length → f k = flat l k
def rp (i j : ab_I) : Prop := (∀ q, q ≠ 218 → q ≠ 223 → j q = i q) ∧ ∀ k, k ≠ 5 → k ≠ 6 → k ≠ 7 → j 218 k = i 218 k
theorem rp_rf {i : ab_I} : rp i i := ⟨fun _ _ _ => rfl, fun _ _ _ _ => rfl⟩
theorem rp_tr {i j k : ab_I} (h1 : rp i j) (h2 : rp j k) : rp i k := ⟨fun q a b => (h2.1 q a b).trans (h1.1 q a b), fun q a b c => (h2.2 q a b c).trans (h1.2 q a b c)⟩
theorem rp_u {i : ab_I} {k : Nat} {x : Int32} (h : k = 5 ∨ k = 6 ∨ k = 7) : rp i (ab_up i 218 k x) := ⟨fun q a _ => up_row a, fun j a b c => up_ne (by omega)⟩
theorem rp_3 {i : ab_I} {k : Nat} {x : Int32} : rp i (ab_up i 223 k x) := ⟨fun q _ b => up_row b, fun j _ _ _ => up_ne (by omega)⟩
theorem rp_la {i : ab_I} {len : Nat} {k x : Int32} : rp i (laE i len k x) := rp_tr (rp_tr rp_3 rp_3) (rp_u (Or.inr (Or.inr rfl)))
def mS (s : Vc) (u p : Nat) (l : List (Int32 × Int32)) (o : Nat) (i : ab_I) : Prop := i 219 = s ∧ i 218 5 = nI p ∧ i 218 6 = nI o ∧ i 218 7 = nI l.length ∧ i 218 8 = nI u ∧ stR l (i 223)
def mE (o : Nat) (i : ab_I) (r : Bool × PS) (j : ab_I) : Prop := rp i j ∧ j 218 5 = nI r.2.1 ∧ (r.1 = true → j 218 6 = nI o ∧ j 218 7 = nI r.2.2.length ∧ stR r.2.2 (j 223))
def mQ (o : Nat) (i : ab_I) (r : Bool × PS) : Option Value → ab_I → Prop := fun v j => v = some (.int (bI (r.1 = true))) ∧ mE o i r j
theorem mS_p {s : Vc} {u p p' o : Nat} {l : List (Int32 × Int32)} {i : ab_I} (h : mS s u p l o i) : mS s u p' l o (ab_up i 218 5 (nI p')) := by
  obtain ⟨h1, h2, h3, h4, h5, h6⟩ := h
  exact ⟨(up_row (by decide)).trans h1, up_us, (up_ne (by omega)).trans h3, (up_ne (by omega)).trans h4, (up_ne (by omega)).trans h5, by rw [up_row (by decide)]; exact h6⟩
theorem mS_o {s : Vc} {u p o o' : Nat} {l : List (Int32 × Int32)} {i : ab_I} (h : mS s u p l o i) : mS s u p l o' (ab_up i 218 6 (nI o')) := by
  obtain ⟨h1, h2, h3, h4, h5, h6⟩ := h
  exact ⟨(up_row (by decide)).trans h1, (up_ne (by omega)).trans h2, up_us, (up_ne (by omega)).trans h4, (up_ne (by omega)).trans h5, by rw [up_row (by decide)]; exact h6⟩
theorem mS_l {s : Vc} {u p o : Nat} {l : List (Int32 × Int32)} {e : Int32 × Int32} {i : ab_I} (h : mS s u p l o i) : mS s u p (e :: l) o (laE i l.length e.1 e.2) := by
  obtain ⟨h1, h2, h3, h4, h5, h6⟩ := h
  unfold laE
  refine ⟨?_, ?_, ?_, up_us, ?_, fun k hk => ?_⟩
  · rw [up_row (by decide), up_row (by decide), up_row (by decide)]; exact h1
  · rw [up_ne (by omega), up_ne (by omega), up_ne (by omega)]; exact h2
  · rw [up_ne (by omega), up_ne (by omega), up_ne (by omega)]; exact h3
  · rw [up_ne (by omega), up_ne (by omega), up_ne (by omega)]; exact h5
  · rw [List.length_cons] at hk
    rw [up_row (by decide), flat_s]
    by_cases z : k = 2 * l.length + 1
    · subst z
      rw [up_us, pk_us]
    · rw [up_ne (by omega), pk_un (by omega)]
      by_cases z2 : k = 2 * l.length
      · subst z2
        rw [up_us, pk_us]
      · rw [up_ne (by omega), pk_un (by omega)]
        exact h6 k (by omega)
theorem mE_ok {s : Vc} {u q o : Nat} {l' : List (Int32 × Int32)} {i j : ab_I} (h : mS s u q l' o j) (e : rp i j) : mE o i (true, (q, l')) j := ⟨e, h.2.1, fun _ => ⟨h.2.2.1, h.2.2.2.1, h.2.2.2.2.2⟩⟩
theorem mE_no {s : Vc} {u q o o' : Nat} {l l' : List (Int32 × Int32)} {i j : ab_I} (h : mS s u q l' o' j) (e : rp i j) : mE o i (false, (q, l)) j := ⟨e, h.2.1, fun z => absurd z Bool.false_ne_true⟩
theorem mS_of {s : Vc} {u p o o' : Nat} {l : List (Int32 × Int32)} {i j : ab_I} {r : Bool × PS} (hS : mS s u p l o' i) (h : mE o i r j) (hr : r.1 = true) : mS s u r.2.1 r.2.2 o j :=
  ⟨(h.1.1 219 (by decide) (by decide)).trans hS.1, h.2.1, (h.2.2 hr).1, (h.2.2 hr).2.1, (h.1.2 8 (by decide) (by decide) (by decide)).trans hS.2.2.2.2.1, (h.2.2 hr).2.2⟩
theorem mE_b {o : Nat} {i j k : ab_I} {r : Bool × PS} (h : mE o j r k) (e : rp i j) : mE o i r k := ⟨rp_tr e h.1, h.2.1, h.2.2⟩
