/-! a text worked out by the reference -/
def lo191 (u n k : Nat) : ab_L := [some (.ref 218), none, some (.int (nI (146 + 125 * u))), some (.int (nI n)), some (.int (nI k)), none, none]
theorem wr_num {u n k N : Nat} {i : ab_I} {x v : Int32} {Q : Option Value → ab_I → Prop}  (hu : u < 2) (hs : i 219 (146 + 125 * u) = nI N) (hk : k < N) (hN : N ≤ 60) (hn : n ≤ k) (hE1 : i 219 (147 + 125 * u + 2 * k) = x) (hE2 : i 219 (148 + 125 * u + 2 * k) = v) (hx : x = nI 0) (K : ab_R 1 tb_X11_worked 14 (lo191 u (n + 1) (k + 1)) [] (ab_up i 225 n v) Q) : ab_R 1 tb_X11_worked 14 (lo191 u n k) [] i Q := by
  (have ha1 : nI (146 + 125 * u) + nI 1 + nI 2 * nI k = nI (147 + 125 * u + 2 * k) := (by rw [pk_mul, nI_add, nI_add]; congr 1; omega); have ha2 : nI (146 + 125 * u) + nI 2 + nI 2 * nI k = nI (148 + 125 * u + 2 * k) := (by rw [pk_mul, nI_add, nI_add]; congr 1; omega))
  subst hx
  refine r_go 5 rfl ?_ ?_
  · (simp only [ab_all, gr_218_0]; exact ⟨ix_219 (by omega), rfl, by decide⟩)
  rw [gr_218_0, nI_cl (by omega), hs]
  refine r_brF rfl (fun h => by clear hs hE1 hE2 K ha1 ha2; (simp (disch := omega) only [Int32.le_iff_toInt_le, Int32.lt_iff_toInt_lt, c_i, m1_i, m5_i, m33_i] at * <;> omega)) ?_
  skip
  refine r_go 23 rfl ?_ ?_
  · (simp only [ab_all, gr_218_0, ha1, ha2]; exact ⟨ix_219 (by omega), ⟨rfl, by decide⟩, ix_219 (by omega), ⟨rfl, by decide⟩⟩)
  rw [gr_218_0, ha1, ha2, nI_cl (by omega), nI_cl (by omega), hE1, hE2]
  refine r_brT rfl (rfl) ?_
  refine r_go 4 rfl ?_ ?_
  · exact ⟨rfl, by decide⟩
  refine r_brF rfl (fun h => h rfl) ?_
  refine r_go 7 rfl ?_ ?_
  · exact ix_of gt_225 (by omega) (by omega)
  rw [gr_218_11, nI_add, nI_add, nI_cl (by omega)]
  exact r_lk K rfl
theorem isNm_lt {u : Nat} {v : Int32} (h : isNm u v) : ∃ c, c < 128 ∧ v = nI c := by
  rcases h with ⟨_, rfl | rfl | rfl | rfl | rfl⟩ | ⟨_, rfl | rfl | rfl⟩
  · exact ⟨108, by decide, rfl⟩
  · exact ⟨115, by decide, rfl⟩
  · exact ⟨114, by decide, rfl⟩
  · exact ⟨104, by decide, rfl⟩
  · exact ⟨119, by decide, rfl⟩
  · exact ⟨102, by decide, rfl⟩
  · exact ⟨100, by decide, rfl⟩
  · exact ⟨109, by decide, rfl⟩
theorem wr_name {u n k N : Nat} {i : ab_I} {x v : Int32} {Q : Option Value → ab_I → Prop}  (hu : u < 2) (hs : i 219 (146 + 125 * u) = nI N) (hk : k < N) (hN : N ≤ 60) (hn : n ≤ k) (hE1 : i 219 (147 + 125 * u + 2 * k) = x) (hE2 : i 219 (148 + 125 * u + 2 * k) = v) (hx : x = nI 1) (hv : isNm u v) (K : ab_R 1 tb_X11_worked 14 (lo191 u (n + 1) (k + 1)) [] (ab_up i 225 n (i 224 v.toNatClampNeg)) Q) : ab_R 1 tb_X11_worked 14 (lo191 u n k) [] i Q := by
  (have ha1 : nI (146 + 125 * u) + nI 1 + nI 2 * nI k = nI (147 + 125 * u + 2 * k) := (by rw [pk_mul, nI_add, nI_add]; congr 1; omega); have ha2 : nI (146 + 125 * u) + nI 2 + nI 2 * nI k = nI (148 + 125 * u + 2 * k) := (by rw [pk_mul, nI_add, nI_add]; congr 1; omega))
  subst hx
  obtain ⟨c, hc, rfl⟩ := isNm_lt hv
  refine r_go 5 rfl ?_ ?_
  · (simp only [ab_all, gr_218_0]; exact ⟨ix_219 (by omega), rfl, by decide⟩)
  rw [gr_218_0, nI_cl (by omega), hs]
  refine r_brF rfl (fun h => by clear hs hE1 hE2 K ha1 ha2; (simp (disch := omega) only [Int32.le_iff_toInt_le, Int32.lt_iff_toInt_lt, c_i, m1_i, m5_i, m33_i] at * <;> omega)) ?_
  skip
  refine r_go 23 rfl ?_ ?_
  · (simp only [ab_all, gr_218_0, ha1, ha2]; exact ⟨ix_219 (by omega), ⟨rfl, by decide⟩, ix_219 (by omega), ⟨rfl, by decide⟩⟩)
  rw [gr_218_0, ha1, ha2, nI_cl (by omega), nI_cl (by omega), hE1, hE2]
  refine r_brF rfl (by decide) ?_
  refine r_go 2 rfl ?_ ?_
  · (first | exact trivial | assumption | (simp (disch := omega) [ab_all, ab_nz, *]; done))
  refine r_brF rfl (fun h => h rfl) ?_
  refine r_go 4 rfl ?_ ?_
  · exact ⟨rfl, by decide⟩
  refine r_brT rfl (by decide) ?_
  refine r_go 9 rfl ?_ ?_
  · (simp only [ab_all, gr_218_10]; exact ⟨ix_of gt_225 (by omega) (by omega), ix_of gt_224 (by omega) (by omega), rfl, by decide⟩)
  rw [gr_218_11, gr_218_10, nI_add, nI_add, nI_cl (by omega)]
  exact r_lk K rfl
theorem wr_not {u n k N : Nat} {i : ab_I} {x v : Int32} {Q : Option Value → ab_I → Prop}  (hu : u < 2) (hs : i 219 (146 + 125 * u) = nI N) (hk : k < N) (hN : N ≤ 60) (hn : n ≤ k) (hE1 : i 219 (147 + 125 * u + 2 * k) = x) (hE2 : i 219 (148 + 125 * u + 2 * k) = v) (hx : x = nI 2) (h1 : 1 ≤ n) (K : ab_R 1 tb_X11_worked 14 (lo191 u n (k + 1)) [] (ab_up i 225 (n - 1) (bI (i 225 (n - 1) = nI 0))) Q) : ab_R 1 tb_X11_worked 14 (lo191 u n k) [] i Q := by
  (have ha1 : nI (146 + 125 * u) + nI 1 + nI 2 * nI k = nI (147 + 125 * u + 2 * k) := (by rw [pk_mul, nI_add, nI_add]; congr 1; omega); have ha2 : nI (146 + 125 * u) + nI 2 + nI 2 * nI k = nI (148 + 125 * u + 2 * k) := (by rw [pk_mul, nI_add, nI_add]; congr 1; omega))
  have hs1 : nI n - nI 1 = nI (n - 1) := pk_sub h1
  subst hx
  refine r_go 5 rfl ?_ ?_
  · (simp only [ab_all, gr_218_0]; exact ⟨ix_219 (by omega), rfl, by decide⟩)
  rw [gr_218_0, nI_cl (by omega), hs]
  refine r_brF rfl (fun h => by clear hs hE1 hE2 K ha1 ha2 hs1; (simp (disch := omega) only [Int32.le_iff_toInt_le, Int32.lt_iff_toInt_lt, c_i, m1_i, m5_i, m33_i] at * <;> omega)) ?_
  skip
  refine r_go 23 rfl ?_ ?_
  · (simp only [ab_all, gr_218_0, ha1, ha2]; exact ⟨ix_219 (by omega), ⟨rfl, by decide⟩, ix_219 (by omega), ⟨rfl, by decide⟩⟩)
  rw [gr_218_0, ha1, ha2, nI_cl (by omega), nI_cl (by omega), hE1, hE2]
  refine r_brF rfl (by decide) ?_
  refine r_go 2 rfl ?_ ?_
  · (first | exact trivial | assumption | (simp (disch := omega) [ab_all, ab_nz, *]; done))
  refine r_brT rfl (by decide) ?_
  refine r_go 2 rfl ?_ ?_
  · (first | exact trivial | assumption | (simp (disch := omega) [ab_all, ab_nz, *]; done))
  refine r_brF rfl (fun h => h rfl) ?_
  refine r_go 11 rfl ?_ ?_
  · (simp only [ab_all, gr_218_11, hs1]; exact ⟨ix_of gt_225 (by omega) (by omega), ⟨rfl, by decide⟩, rfl, by decide⟩)
  rw [gr_218_11, hs1, nI_cl (by omega)]
  refine r_ne rfl (fun h116 => ?_) (fun h116 => ?_)
  · skip
    refine r_go 5 rfl ?_ ?_
    · exact ix_of gt_225 (by omega) (by omega)
    rw [nI_add, nI_cl (by omega)]
    first | rw [bI_t h116] at K | rw [bI_f h116] at K
    exact r_lk K rfl
  · skip
    refine r_go 6 rfl ?_ ?_
    · exact ix_of gt_225 (by omega) (by omega)
    rw [nI_add, nI_cl (by omega)]
    first | rw [bI_t h116] at K | rw [bI_f h116] at K
    exact r_lk K rfl
theorem wr_sign {u n k N : Nat} {i : ab_I} {x v : Int32} {Q : Option Value → ab_I → Prop}  (hu : u < 2) (hs : i 219 (146 + 125 * u) = nI N) (hk : k < N) (hN : N ≤ 60) (hn : n ≤ k) (hE1 : i 219 (147 + 125 * u + 2 * k) = x) (hE2 : i 219 (148 + 125 * u + 2 * k) = v) (hx : x = nI 3) (h1 : 2 ≤ n) (hv : isSg v) (K : ab_R 1 tb_X11_worked 14 (lo191 u (n - 1) (k + 1)) [] (ab_up i 225 (n - 2) (jn v (i 225 (n - 2)) (i 225 (n - 1)))) Q) : ab_R 1 tb_X11_worked 14 (lo191 u n k) [] i Q := by
  (have ha1 : nI (146 + 125 * u) + nI 1 + nI 2 * nI k = nI (147 + 125 * u + 2 * k) := (by rw [pk_mul, nI_add, nI_add]; congr 1; omega); have ha2 : nI (146 + 125 * u) + nI 2 + nI 2 * nI k = nI (148 + 125 * u + 2 * k) := (by rw [pk_mul, nI_add, nI_add]; congr 1; omega))
  have hs0 : nI n + (-1) = nI (n - 1) := (by obtain ⟨m, rfl⟩ : ∃ m, n = m + 1 := ⟨n - 1, by omega⟩; exact pk_m1 m)
  have hs1 : nI (n - 1) - nI 1 = nI (n - 2) := pk_sub (by omega)
  subst hx
  refine r_go 5 rfl ?_ ?_
  · (simp only [ab_all, gr_218_0]; exact ⟨ix_219 (by omega), rfl, by decide⟩)
  rw [gr_218_0, nI_cl (by omega), hs]
  refine r_brF rfl (fun h => by clear hs hE1 hE2 K ha1 ha2 hs0 hs1; (simp (disch := omega) only [Int32.le_iff_toInt_le, Int32.lt_iff_toInt_lt, c_i, m1_i, m5_i, m33_i] at * <;> omega)) ?_
  skip
  refine r_go 23 rfl ?_ ?_
  · (simp only [ab_all, gr_218_0, ha1, ha2]; exact ⟨ix_219 (by omega), ⟨rfl, by decide⟩, ix_219 (by omega), ⟨rfl, by decide⟩⟩)
  rw [gr_218_0, ha1, ha2, nI_cl (by omega), nI_cl (by omega), hE1, hE2]
  refine r_brF rfl (by decide) ?_
  refine r_go 2 rfl ?_ ?_
  · (first | exact trivial | assumption | (simp (disch := omega) [ab_all, ab_nz, *]; done))
  refine r_brT rfl (by decide) ?_
  refine r_go 2 rfl ?_ ?_
  · (first | exact trivial | assumption | (simp (disch := omega) [ab_all, ab_nz, *]; done))
  refine r_brT rfl (by decide) ?_
  refine r_go 1 rfl ?_ ?_
  · (first | exact trivial | assumption | (simp (disch := omega) [ab_all, ab_nz, *]; done))
  rw [hs0]
  refine r_go 16 rfl ?_ ?_
  · (simp only [ab_all, gr_218_11, hs1]; exact ⟨ix_of gt_225 (by omega) (by omega), ⟨rfl, by decide⟩, ix_of gt_225 (by omega) (by omega), ⟨rfl, by decide⟩, rfl, by decide⟩)
  refine r_cv rfl trivial ((m_joined _ _ _ hv)) (by decide) ?_
  refine r_go 3 rfl ?_ ?_
  · (rw [hs1]; exact ix_of gt_225 (by omega) (by omega))
  rw [gr_218_11, hs1, nI_add, nI_cl (by omega), nI_cl (by omega)]
  exact r_lk K rfl
theorem wr_loop {u : Nat} {nm : Nat → Int32} {L : List (Int32 × Int32)} {i0 : ab_I} (hu : u < 2) (hs : i0 219 (146 + 125 * u) = nI L.length) (hN : L.length ≤ 60) (hT : ∀ k (h : k < L.length), i0 219 (147 + 125 * u + 2 * k) = L[k].1 ∧ i0 219 (148 + 125 * u + 2 * k) = L[k].2) (hnm : ∀ v, isNm u v → i0 224 v.toNatClampNeg = nm v.toNatClampNeg) (m k n : Nat) (f : Vc) (i : ab_I) (hm : L.length - k < m) (hk : k ≤ L.length) (hn : n ≤ k) (hw : wf u (L.drop k) n 1) (hst : ∀ j, j < n → i 225 j = f j) (hi : ∀ q, q ≠ 225 → i q = i0 q) : ab_R 1 tb_X11_worked 14 (lo191 u n k) [] i (fun v i' => v = some (.int ((evs nm (L.drop k) (f, n)).1 0)) ∧ ∀ q, q ≠ 225 → i' q = i0 q) := by
  induction m generalizing k n f i with
  | zero => exact absurd hm (by omega)
  | succ m ih =>
    have hs' : i 219 (146 + 125 * u) = nI L.length := by rw [hi _ (by omega)]; exact hs
    have up2 : ∀ {n n' z : Nat} {f : Vc} {i : ab_I} {x : Int32}, (∀ j, j < n → i 225 j = f j) → (∀ j, j < n' → j ≠ z → j < n) → ∀ j, j < n' → ab_up i 225 z x 225 j = upd f z x j := by
      intro n n' z f i x h h1 j hj
      by_cases e : j = z
      · subst e
        rw [up_us, pk_us]
      · rw [up_ne (by omega), pk_un e]
        exact h j (h1 j hj e)
    by_cases hkN : k < L.length
    · have hd : L.drop k = L[k] :: L.drop (k + 1) := List.drop_eq_getElem_cons hkN
      have hx1 : i 219 (147 + 125 * u + 2 * k) = L[k].1 := by rw [hi _ (by omega)]; exact (hT k hkN).1
      have hx2 : i 219 (148 + 125 * u + 2 * k) = L[k].2 := by rw [hi _ (by omega)]; exact (hT k hkN).2
      rw [hd] at hw ⊢
      obtain ⟨ho, hw⟩ := hw
      have hf : ∀ {z : Nat} {y : Int32} (q : Nat), q ≠ 225 → ab_up i 225 z y q = i0 q := fun q hq => by rw [up_row hq]; exact hi q hq
      show ab_R 1 tb_X11_worked 14 (lo191 u n k) [] i (fun v i' => v = some (.int ((evs nm (L.drop (k + 1)) (ev1 nm L[k] (f, n))).1 0)) ∧ ∀ q, q ≠ 225 → i' q = i0 q)
      rcases ho with ⟨e1, hr⟩ | ⟨e1, hr⟩ | ⟨e1, hr⟩ | ⟨e1, hv, hr⟩
      · rw [ev_num e1]
        rw [nx_num e1] at hw
        exact wr_num hu hs' hkN hN hn hx1 hx2 e1 (ih (k + 1) (n + 1) _ _ (by omega) hkN (by omega) hw (up2 hst (fun j _ _ => by omega)) hf)
      · rw [ev_name e1]
        rw [nx_name e1] at hw
        refine wr_name hu hs' hkN hN hn hx1 hx2 e1 hr ?_
        rw [hi 224 (by omega), hnm _ hr]
        exact ih (k + 1) (n + 1) _ _ (by omega) hkN (by omega) hw (up2 hst (fun j _ _ => by omega)) hf
      · rw [ev_not e1]
        rw [nx_not e1] at hw
        refine wr_not hu hs' hkN hN hn hx1 hx2 e1 hr ?_
        rw [hst (n - 1) (by omega)]
        exact ih (k + 1) n _ _ (by omega) hkN (by omega) hw (up2 hst (fun j _ _ => by omega)) hf
      · rw [ev_sign e1]
        rw [nx_sign e1] at hw
        refine wr_sign hu hs' hkN hN hn hx1 hx2 e1 hr hv ?_
        rw [hst (n - 1) (by omega), hst (n - 2) (by omega)]
        exact ih (k + 1) (n - 1) _ _ (by omega) hkN (by omega) hw (up2 hst (fun j _ _ => by omega)) hf
    have hkN' : k = L.length := by omega
    subst hkN'
    rw [List.drop_length] at hw ⊢
    have hn1 : n = 1 := hw
    subst hn1
    refine r_go 5 rfl ?_ ?_
    · (simp only [ab_all, gr_218_0]; exact ⟨ix_219 (by omega), rfl, by decide⟩)
    rw [gr_218_0, nI_cl (by omega), hs']
    refine r_brT rfl (nI_le (Nat.le_refl _) (by omega)) ?_
    refine r_go 4 rfl ?_ ?_
    · (simp only [ab_all, gr_218_11]; exact ⟨ix_of gt_225 (by omega) (by omega), rfl, by decide⟩)
    refine r_ret rfl trivial ?_
    rw [gr_218_11, nI_cl (by omega), hst 0 (by omega)]
    exact ⟨rfl, hi⟩
theorem m_work {u : Nat} {s : Vc} {nm : Nat → Int32} {i : ab_I} (hs : i 219 = s) (hu : u < 2) (hX : InX s u) (h0 : nI 0 < s (146 + 125 * u)) (hnm : ∀ v, isNm u v → i 224 v.toNatClampNeg = nm v.toNatClampNeg) : ab_K 1 191 [.ref 218, .int (nI u)] i (fun v i' => v = some (.int (wk nm (txt s u))) ∧ ∀ q, q ≠ 225 → i' q = i q) := by
  subst hs
  refine k_of rfl ?_
  refine r_go 10 rfl ?_ ?_
  · (first | exact trivial | assumption | (simp (disch := omega) [ab_all, ab_nz, *]; done))
  rw [pk_mul, nI_add]
  refine r_lk (ls' := lo191 u 0 0) (wr_loop (L := txt (i 219) u) (i0 := i) hu (by rw [txt_len]; exact hX.1) (by rw [txt_len]; exact hX.2.1) (fun k hk => by rw [txt_get hk]; exact ⟨rfl, rfl⟩) hnm ((txt (i 219) u).length + 1) 0 0 (fun _ => nI 0) i (by omega) (by omega) (by omega) ?_ (fun j hj => absurd hj (by omega)) (fun _ _ => rfl)) rfl
  rw [hX.1, pos_nI hX.2.1] at h0
  exact hX.2.2.resolve_left (by omega)
