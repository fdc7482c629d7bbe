/-! text: the class -/
def tpV (s : Vc) : Vc := fun p => if p < (s 5).toNatClampNeg then s (396 + p) else (-1)
def flat : List (Int32 × Int32) → Vc
  | [] => fun _ => nI 0
  | e :: l => upd (upd (flat l) (2 * l.length) e.1) (2 * l.length + 1) e.2
theorem flat_s {e : Int32 × Int32} {l : List (Int32 × Int32)} : flat (e :: l) = upd (upd (flat l) (2 * l.length) e.1) (2 * l.length + 1) e.2 := rfl
theorem cdR_flat {u : Nat} {f : Vc} : ∀ {l : List (Int32 × Int32)}, cdR u l f → ∀ k, k < l.length → f k = enc u (flat l (2 * k), flat l (2 * k + 1))
  | [], _, k, hk => absurd hk (Nat.not_lt_zero _)
  | e :: l, h, k, hk => by
    rw [flat_s]
    rw [List.length_cons] at hk
    by_cases z : k = l.length
    · subst z
      rw [pk_un (by omega), pk_us, pk_us]
      exact h.1
    · rw [pk_un (by omega), pk_un (by omega), pk_un (by omega), pk_un (by omega)]
      exact cdR_flat h.2 k (by omega)
theorem flat_map : ∀ l : List (Int32 × Int32), (List.range l.length).map (fun k => (flat l (2 * k), flat l (2 * k + 1))) = l.reverse
  | [] => rfl
  | e :: l => by
    rw [List.length_cons, List.range_succ, List.map_append, List.reverse_cons, ← flat_map l, flat_s]
    refine congr (congrArg _ (List.map_congr_left (fun k hk => ?_))) ?_
    · have := List.mem_range.mp hk
      rw [pk_un (by omega), pk_un (by omega), pk_un (by omega), pk_un (by omega)]
    · rw [List.map_cons, List.map_nil, pk_un (by omega), pk_us, pk_us]
def txZ (u : Nat) (l : List (Int32 × Int32)) (s : Vc) : Vc := fun k => if k = 5 then nI 0 else if k = 146 + 125 * u then nI l.length else if 147 + 125 * u ≤ k ∧ k < 147 + 125 * u + 2 * l.length then flat l (k - (147 + 125 * u)) else s k
theorem txZ_5 {u : Nat} {l : List (Int32 × Int32)} {s : Vc} : txZ u l s 5 = nI 0 := if_pos rfl
theorem txZ_n {u : Nat} {l : List (Int32 × Int32)} {s : Vc} : txZ u l s (146 + 125 * u) = nI l.length := by
  unfold txZ
  rw [if_neg (by omega), if_pos rfl]
theorem txZ_k {u k : Nat} {l : List (Int32 × Int32)} {s : Vc} (h : k < 2 * l.length) : txZ u l s (147 + 125 * u + k) = flat l k := by
  unfold txZ
  rw [if_neg (by omega), if_neg (by omega), if_pos (by omega), show 147 + 125 * u + k - (147 + 125 * u) = k by omega]
theorem txZ_o {u k : Nat} {l : List (Int32 × Int32)} {s : Vc} (hl : l.length ≤ 60) (h : k ≠ 5) (h2 : ¬ tk u k) : txZ u l s k = s k := by
  unfold tk at h2
  unfold txZ
  rw [if_neg h, if_neg (by omega), if_neg (by omega)]
theorem txZ_N {u : Nat} {l : List (Int32 × Int32)} {s : Vc} (hl : l.length ≤ 60) : txN (txZ u l s) u = l.length := by
  unfold txN
  rw [txZ_n, nI_cl (by omega)]
theorem txZ_e {u k : Nat} {l : List (Int32 × Int32)} {s : Vc} (h : k < l.length) : txe (txZ u l s) u k = (flat l (2 * k), flat l (2 * k + 1)) := by
  unfold txe
  rw [txZ_k (by omega), show 148 + 125 * u + 2 * k = 147 + 125 * u + (2 * k + 1) by omega, txZ_k (by omega)]
theorem txZ_t {u : Nat} {l : List (Int32 × Int32)} {s : Vc} (hl : l.length ≤ 60) : txt (txZ u l s) u = l.reverse := by
  unfold txt
  rw [txZ_N hl, ← flat_map l]
  exact List.map_congr_left (fun k hk => txZ_e (List.mem_range.mp hk))
theorem tpA_s {s : Vc} (h : InS s) : tpA (s 5).toNatClampNeg (tpV s) := by
  obtain ⟨n, hn, e, hr⟩ := h.2.2.2.1
  have en : (s 5).toNatClampNeg = n := by rw [e, nI_cl (by omega)]
  unfold tpA tpV
  rw [en]
  refine ⟨hn, fun p hp => ?_, fun p hp => if_neg (by omega)⟩
  rw [if_pos hp]
  have q := hr p hp
  unfold rg at q
  exact ⟨(s (396 + p)).toNatClampNeg, by rw [tn_i]; omega, tn_of (by omega)⟩
theorem CT_s {s : Vc} {i : ab_I} (h : RoR 31 (s 5).toNatClampNeg (fun k => s (396 + k)) i) : CT (s 5).toNatClampNeg (tpV s) i := ⟨h.1, fun k hk => by unfold tpV; rw [if_pos hk]; exact h.2 k hk⟩
def S_text (x : Int32) (m : ab_I) : Int32 × ab_I := if nI 0 ≤ x ∧ x ≤ nI 1 then (if (txR (tpV (m 219)) x.toNatClampNeg).1 = true ∧ (txR (tpV (m 219)) x.toNatClampNeg).2.1 = (m 219 5).toNatClampNeg then (nI 1, ab_row m 219 (txZ x.toNatClampNeg (txR (tpV (m 219)) x.toNatClampNeg).2.2 (m 219))) else ((-10) - nI (txR (tpV (m 219)) x.toNatClampNeg).2.1, ab_row m 219 (upd (m 219) 5 (nI 0)))) else er m 1
theorem n_text {m : ab_I} (hJ : InM m) (x : Int32) : InM (S_text x m).2 := by
  unfold S_text
  have hA := tpA_s hJ.1
  split
  · rename_i h
    obtain ⟨u, hu, rfl⟩ := of_u h
    rw [nI_cl (by omega)]
    obtain ⟨g1, g2, g3, g4⟩ := txR_g hu hA
    have h60 := hA.1
    rw [List.length_nil] at g3
    split
    · rename_i h2
      have hl : (txR (tpV (m 219)) u).2.2.length ≤ 60 := by omega
      refine InM_w hJ (InS_u hu hJ.1 (fun k a b => txZ_o hl a b) ⟨?_, ?_, Or.inr ?_⟩ ⟨0, by decide, txZ_5, fun k hk => absurd hk (Nat.not_lt_zero _)⟩)
      · rw [txZ_N hl, txZ_n]
      · rw [txZ_N hl]; exact hl
      · obtain ⟨e, e1, e2⟩ := g4 h2.1
        rw [txZ_t hl, e1, List.append_nil]
        exact e2 0
    · exact InM_w hJ (InS_k hJ.1 (fun k a b c => pk_un a) ⟨0, by decide, pk_us, fun k hk => absurd hk (Nat.not_lt_zero _)⟩ (by rw [pk_un (by decide)]; exact hJ.1.2.2.2.2))
  · exact InM_er hJ
