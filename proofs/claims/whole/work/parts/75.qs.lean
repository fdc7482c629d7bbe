/-! the law from its entry -/
def y_i0 (i : ab_I) : ab_I := ab_up (y_iu y_gi (ab_up (y_iu y_gi i 0 218) 216 1 (nI 6)) 218 232) 219 7 (nI 1)
theorem y_i0_far {i : ab_I} {q : Nat} (h : 232 ≤ q) : y_i0 i q = i q := by
  unfold y_i0
  rw [up_row (by omega)]
  funext b
  unfold y_iu
  rw [if_neg (by omega), up_ne (by omega), if_neg (by omega)]
theorem y_i0_k {i : ab_I} {q b : Nat} (h : q < 232) (h1 : q ≠ 216) (h2 : q ≠ 219) : y_i0 i q b = y_gi q b := by
  unfold y_i0
  rw [up_ne (by omega)]
  unfold y_iu
  by_cases h3 : 218 ≤ q
  · rw [if_pos (by omega)]
  · rw [if_neg (by omega), up_ne (by omega), if_pos (by omega)]
theorem y_i0_216 {i : ab_I} : y_i0 i 216 1 = nI 6 := by
  unfold y_i0
  rw [up_ne (by omega)]
  unfold y_iu
  rw [if_neg (by omega), up_us]
theorem y_i0_219 {i : ab_I} : y_i0 i 219 = fun b => if b = 7 then nI 1 else nI 0 := by
  funext b
  unfold y_i0
  by_cases h : b = 7
  · subst h
    rw [up_us, if_pos rfl]
  · rw [up_ne (by omega), if_neg h]
    unfold y_iu
    rw [if_pos (by omega)]
    rfl
theorem y_txn {s : Vc} {u : Nat} (h : s (146 + 125 * u) = nI 0) : txN s u = 0 := by
  unfold txN
  rw [h]
  rfl
theorem y_InS {s : Vc} (h : ∀ k, k ≠ 7 → s k = nI 0) : InS s := by
  have b0 : nB s = 0 := by unfold nB; rw [h 0 (by decide)]; rfl
  have d0 : nD s = 0 := by unfold nD; rw [h 1 (by decide)]; rfl
  have x : ∀ u, u < 2 → InX s u := fun u hu => by
    have e := h (146 + 125 * u) (by omega)
    have t := y_txn e
    exact ⟨by rw [t]; exact e, by omega, Or.inl t⟩
  refine ⟨⟨⟨by rw [b0]; exact h 0 (by decide), by omega⟩, ⟨by rw [d0]; exact h 1 (by decide), by omega⟩, ?_, ?_, fun b hb => absurd hb (by omega), fun d hd => absurd hd (by omega)⟩, x 0 (by decide), x 1 (by decide), ⟨0, by decide, h 5 (by decide), fun k hk => absurd hk (Nat.not_lt_zero _)⟩, ⟨0, by decide, h 6 (by decide)⟩⟩
  · rw [h 3 (by decide)]; unfold rg; decide
  · rw [h 4 (by decide)]; unfold rg; decide
theorem y_Law {L : Nat} {i : ab_I} (hL : L ≤ 384) (h : i 1201 0 = nI L) : LawI L (y_i0 i) (y_i0 i) := by
  have s0 : ∀ k, k ≠ 7 → y_i0 i 219 k = nI 0 := fun k hk => by rw [y_i0_219]; exact if_neg hk
  have s7 : y_i0 i 219 7 = nI 1 := by rw [y_i0_219]; exact if_pos rfl
  have b0 : nB (y_i0 i 219) = 0 := by unfold nB; rw [s0 0 (by decide)]; rfl
  have d0 : nD (y_i0 i 219) = 0 := by unfold nD; rw [s0 1 (by decide)]; rfl
  have kk : ∀ q b, q < 232 → q ≠ 216 → q ≠ 219 → y_gi q b = nI 0 → y_i0 i q b = nI 0 := fun q b h1 h2 h3 h4 => (y_i0_k h1 h2 h3).trans h4
  have row : ∀ q (f : Nat → Int32), q < 230 → q ≠ 216 → q ≠ 219 → y_gi q 1 = nI 0 → RoR q 0 f (y_i0 i) := fun q f h1 h2 h3 h4 => ⟨kk q 1 (by omega) h2 h3 h4, fun k hk => absurd hk (Nat.not_lt_zero _)⟩
  have t0 := y_txn (u := 0) (s0 (146 + 125 * 0) (by decide))
  have t1 := y_txn (u := 1) (s0 (146 + 125 * 1) (by decide))
  have n5 : (y_i0 i 219 5).toNatClampNeg = 0 := by rw [s0 5 (by decide)]; rfl
  have n6 : (y_i0 i 219 6).toNatClampNeg = 0 := by rw [s0 6 (by decide)]; rfl
  have m3 : y_i0 i 218 3 = nI 0 := kk 218 3 (by decide) (by decide) (by decide) rfl
  have m16 : y_i0 i 218 16 = nI 0 := kk 218 16 (by decide) (by decide) (by decide) rfl
  have h228 : ∀ j, y_i0 i 228 j = nI 0 := fun j => kk 228 j (by decide) (by decide) (by decide) rfl
  have h229 : ∀ j, y_i0 i 229 j = nI 0 := fun j => kk 229 j (by decide) (by decide) (by decide) rfl
  refine ⟨⟨⟨⟨⟨?_, ?_, ?_, ?_, ?_, ?_⟩, ?_, ?_⟩, ?_, ?_, ?_, ?_⟩, ?_, ?_, ?_, ⟨y_i0_216, ?_⟩, ?_⟩, ⟨rfl, rfl, rfl, rfl, rfl, rfl, rfl, rfl, rfl⟩, ⟨y_InS s0, y_InS ?_, ?_, ⟨0, by decide, m16⟩⟩, ?_, ?_, hL⟩
  · rw [s0 0 (by decide)]; exact kk 2 2 (by decide) (by decide) (by decide) rfl
  · rw [s0 1 (by decide)]; exact kk 2 3 (by decide) (by decide) (by decide) rfl
  · rw [s0 3 (by decide)]; exact kk 2 4 (by decide) (by decide) (by decide) rfl
  · rw [s0 2 (by decide)]; exact kk 2 5 (by decide) (by decide) (by decide) rfl
  · rw [s0 4 (by decide)]; exact kk 2 6 (by decide) (by decide) (by decide) rfl
  · rw [s7]; exact (y_i0_k (by decide) (by decide) (by decide)).trans rfl
  · intro b hb; exact absurd hb (by omega)
  · intro d hd; exact absurd hd (by omega)
  · unfold LwR; rw [t0]; exact row 24 _ (by decide) (by decide) (by decide) rfl
  · unfold LwR; rw [t1]; exact row 28 _ (by decide) (by decide) (by decide) rfl
  · rw [n5]; exact row 31 _ (by decide) (by decide) (by decide) rfl
  · rw [n6]; exact row 33 _ (by decide) (by decide) (by decide) rfl
  · intro z; exact absurd m3 z
  · rw [m3]; exact kk 0 2 (by decide) (by decide) (by decide) rfl
  · intro j hj
    have hT : ∀ j, j < 4 → y_gi (204 + 3 * j) 0 = nI 0 ∧ y_gi (205 + 3 * j) 1 = nI 0 := by decide
    obtain ⟨e1, e2⟩ := hT j hj
    refine ⟨?_, ?_⟩
    · rw [h228]; exact kk _ 0 (by omega) (by omega) (by omega) e1
    · rw [h229]; exact row _ _ (by omega) (by omega) (by omega) e2
  · intro k hk
    rw [kk 222 (k + 1) (by decide) (by decide) (by decide) rfl]
    exact kk 217 k (by decide) (by decide) (by decide) rfl
  · unfold TrR; rw [m16]; exact row 201 _ (by decide) (by decide) (by decide) rfl
  · intro k hk; exact kk 220 k (by decide) (by decide) (by decide) rfl
  · intro j hj; exact ⟨Or.inl (h228 j), 0, by decide, h229 j⟩
  · exact (y_i0_k (by decide) (by decide) (by decide)).trans rfl
  · rw [y_i0_far (by decide)]; exact h
theorem y_GF {r : Nat → Nat → Nat} (h : ∀ a b, r a b = 0) : y_sx (y_iu gf_r (y_iu gf_r r 0 218) 218 232) 232 = GF := by
  have far : ∀ a, 232 ≤ a → gf_t a = (9999, 0) := by
    intro a ha
    unfold gf_t
    have e : gf_tl.length = 232 := rfl
    rw [List.getD_eq_getElem?_getD, List.getElem?_eq_none (by omega)]
    rfl
  have e1 : y_iu gf_r (y_iu gf_r r 0 218) 218 232 = gf_r := by
    funext a b
    unfold y_iu
    by_cases h1 : 218 ≤ a ∧ a < 232
    · rw [if_pos h1]
    · rw [if_neg h1]
      by_cases h2 : 0 ≤ a ∧ a < 218
      · rw [if_pos h2]
      · rw [if_neg h2, h, y_gr_k (far a (by omega))]
        rfl
  have e2 : y_tg 232 = gf_t := by
    funext a
    unfold y_tg
    by_cases h1 : a < 232
    · rw [if_pos h1]
    · rw [if_neg h1, far a (by omega)]
  show ((_, y_tg 232, 232) : ab_Sh) = (gf_r, gf_t, 232)
  rw [e1, e2]
/-- the whole law, over the abstract machine -/
theorem law_run {L : Nat} {i : ab_I} (hL : L ≤ 384) (h : i 1201 0 = nI L) : ab_Ok ab_P 301 232 4260 (tb_L_law, 0, [some (.ref 1200), none, none, none], [], i, y_sx (fun _ _ => 0) 0) (fun v i' g' => v = some (.int (nI 1)) ∧ g' = GF) := by
  refine q_new rfl (show gf_t 0 = (10, 0) from rfl) (show 0 < 900 by omega) (by omega) (by omega) ?_
  refine q_go 1 rfl trivial ?_
  refine q_call rfl trivial (cn_vw i _) (by decide) (by omega) (by omega) ?_
  rintro v i' g' ⟨rfl, rfl, rfl⟩
  refine q_go 1 rfl trivial ?_
  refine q_new rfl (show gf_t 218 = (11, 0) from rfl) (show 218 < 900 by omega) (by omega) (by omega) ?_
  refine q_go 1 rfl trivial ?_
  refine q_call rfl trivial (cn_mod _ _) (by decide) (by omega) (by omega) ?_
  rintro v i' g' ⟨rfl, rfl, rfl⟩
  refine q_go 3 rfl trivial ?_
  rw [y_GF (fun _ _ => rfl)]
  have K := lw_loop (L + 1) 0 (y_i0 i) (y_i0 i) (y_Law hL h) (by omega) (Nat.zero_le _)
  refine q_fit (ab_Ok_deep (ab_Ok_mono K ?_) (by decide)) (by omega) (by omega)
  rintro v i' g' ⟨rfl, q⟩
  exact ⟨q, rfl⟩
