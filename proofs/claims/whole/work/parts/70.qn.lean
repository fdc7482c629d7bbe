/-! text: the reference -/
def txC (u k : Nat) (f s : Vc) : Vc := fun t => if 147 + 125 * u ≤ t ∧ t < 147 + 125 * u + k then f (t - (147 + 125 * u)) else s t
theorem tc_0 {u : Nat} {f s : Vc} : txC u 0 f s = s := funext (fun t => if_neg (by omega))
theorem tc_s {u k : Nat} {f s : Vc} {i : ab_I} : ab_up (ab_row i 219 (txC u k f s)) 219 (146 + 125 * u + 1 + k) (f k) = ab_row i 219 (txC u (k + 1) f s) := by
  rw [up_rowI row_s, row_row]
  refine congrArg _ (funext (fun t => ?_))
  unfold txC
  by_cases z : t = 146 + 125 * u + 1 + k
  · subst z
    rw [pk_us, if_pos (by omega), show 146 + 125 * u + 1 + k - (147 + 125 * u) = k by omega]
  · rw [pk_un z]
    by_cases z2 : 147 + 125 * u ≤ t ∧ t < 147 + 125 * u + k
    · rw [if_pos z2, if_pos (by omega)]
    · rw [if_neg z2, if_neg (by omega)]
theorem tc_Z {u : Nat} (hu : u < 2) {f s : Vc} {l : List (Int32 × Int32)} (h : stR l f) : txC u (2 * l.length) f (upd (upd s 5 (nI 0)) (146 + 125 * u) (nI l.length)) = txZ u l s := by
  refine funext (fun t => ?_)
  unfold txC txZ
  by_cases z : 147 + 125 * u ≤ t ∧ t < 147 + 125 * u + 2 * l.length
  · rw [if_pos z, if_neg (by omega), if_neg (by omega), if_pos z]
    exact h _ (by omega)
  · rw [if_neg z]
    by_cases z1 : t = 146 + 125 * u
    · subst z1
      rw [pk_us, if_neg (by omega), if_pos rfl]
    · rw [pk_un z1]
      by_cases z2 : t = 5
      · subst z2
        rw [pk_us, if_pos rfl]
      · rw [pk_un z2, if_neg z2, if_neg z1, if_neg z]
theorem mtx_loop {s f : Vc} {i : ab_I} {u n : Nat} (hu : u < 2) (hn : n ≤ 60) (h7 : i 218 7 = nI n) (hf : i 223 = f) (mm k : Nat) (hmm : 2 * n - k < mm) (hk : k ≤ 2 * n) : ab_R 96 tb_X11_text 102 [some (.ref 218), none, none, some (.int (nI (146 + 125 * u))), some (.int (nI k))] [] (ab_row i 219 (txC u k f s)) (ab_V (.int (nI 1)) (ab_row i 219 (txC u (2 * n) f s))) := by
  induction mm generalizing k with
  | zero => exact absurd hmm (by omega)
  | succ mm ih =>
    refine r_go 5 rfl ?_ ?_
    · (simp only [ab_all] <;> decide)
    rw [ab_row_ne (by decide), h7, pk_mul]
    refine r_le rfl (fun h110 => ?_) (fun h110 => ?_)
    · skip
      refine r_go 1 rfl ?_ ?_
      · trivial
      refine r_ret rfl trivial ?_
      have e : k = 2 * n := by have q := h110; rw [Int32.lt_iff_toInt_lt, c_i (by omega), c_i (by omega)] at q; omega
      rw [e]
      exact ⟨rfl, rfl⟩
    · skip
      have hkl : k < 2 * n := by have q := h110; rw [Int32.lt_iff_toInt_lt, c_i (by omega), c_i (by omega)] at q; omega
      refine r_go 14 rfl ?_ ?_
      · (simp only [ab_all, gr_218_0, gr_218_9, nI_add]; repeat' (first | exact ix_219 (by omega) | exact ix_of gt_223 (by omega) (by omega) | rfl | decide | refine And.intro ?_ ?_))
      simp (disch := omega) only [gr_218_0, gr_218_9, nI_add, nI_cl, ab_row_ne, hf]
      rw [tc_s]
      exact r_lk (ih (k + 1) (by omega) (by omega)) rfl
theorem mtx_ok {s : Vc} {l : List (Int32 × Int32)} {i : ab_I} {u : Nat} (hu : u < 2) (hs : i 219 = s) (hl : l.length ≤ 60) (h7 : i 218 7 = nI l.length) (hf : stR l (i 223)) : ab_R 96 tb_X11_text 55 [some (.ref 218), some (.int (nI u)), none, none, none] [] i (ab_V (.int (nI 1)) (ab_row i 219 (txZ u l s))) := by
  refine r_go 9 rfl ?_ ?_
  · (simp only [ab_all, gr_218_0, nI_add]; repeat' (first | exact ix_219 (by omega) | rfl | decide | (unfold ab_nz; decide) | refine And.intro ?_ ?_))
  refine r_brT rfl (by decide) ?_
  rw [gr_218_0, nI_cl (by decide), up_rowI hs]
  refine r_go 14 rfl ?_ ?_
  · (simp only [ab_all, gr_218_0, pk_mul, nI_add]; repeat' (first | exact ix_219 (by omega) | rfl | decide | refine And.intro ?_ ?_))
  simp (disch := omega) only [gr_218_0, pk_mul, nI_add, nI_cl, ab_row_ne, h7]
  rw [up_rowI row_s, row_row]
  have K := mtx_loop (s := upd (upd s 5 (nI 0)) (146 + 125 * u) (nI l.length)) (f := i 223) hu hl h7 rfl (2 * l.length + 1) 0 (by omega) (by omega)
  rw [tc_0, tc_Z hu hf] at K
  exact r_lk K rfl
theorem mtx_no {s : Vc} {i : ab_I} {p : Nat} {x : Int32} (hs : i 219 = s) (h5 : i 218 5 = nI p) : ab_R 96 tb_X11_text 59 [some (.ref 218), some (.int x), none, none, none] [] i (ab_V (.int ((-10) - nI p)) (ab_row i 219 (upd s 5 (nI 0)))) := by
  refine r_go 8 rfl ?_ ?_
  · (simp only [ab_all, gr_218_0, nI_add]; repeat' (first | exact ix_219 (by omega) | rfl | decide | (unfold ab_nz; decide) | refine And.intro ?_ ?_))
  refine r_brF rfl (fun z => z rfl) ?_
  refine r_go 4 rfl ?_ ?_
  · (simp only [ab_all] <;> decide)
  refine r_ret rfl trivial ?_
  rw [gr_218_0, nI_cl (by decide), up_ne (by omega), h5, up_rowI hs]
  exact ⟨rfl, rfl⟩
theorem rf_tx {i i' j m : ab_I} {z : Vc} {v : Int32} (hm : mo i m) (h13 : i 218 13 = (-1)) (h0 : ∀ q, q ≠ 218 → i' q = i q) (h1 : ∀ k, k ≠ 5 → k ≠ 6 → k ≠ 7 → k ≠ 8 → i' 218 k = i 218 k) (h : rp i' j) : rfQ i (v, ab_row m 219 z) (some (.int v)) (ab_row j 219 z) := by
  have e : ∀ q, q ≠ 218 → q ≠ 223 → j q = i q := fun q a b => (h.1 q a b).trans (h0 q a)
  have e8 : ∀ k, k ≠ 5 → k ≠ 6 → k ≠ 7 → k ≠ 8 → j 218 k = i 218 k := fun k a b c d => (h.2 k a b c).trans (h1 k a b c d)
  have r1 : ∀ {y : ab_I} {q : Nat}, q ≠ 219 → ab_row y 219 z q = y q := fun hq => funext (fun b => ab_row_ne hq)
  refine ⟨rfl, ?_, ?_, fun q hq => ?_⟩
  · show mo (ab_row j 219 z) (ab_row m 219 z)
    obtain ⟨h1, h2, h3, h4, h5, h6, h7, h8, h9⟩ := hm
    refine ⟨by rw [row_s, row_s], ?_, ?_, ?_, ?_, ?_, ?_, ?_, ?_⟩
    · rw [r1 (by decide), r1 (by decide), e 220 (by decide) (by decide)]; exact h2
    · rw [r1 (by decide), r1 (by decide), e 222 (by decide) (by decide)]; exact h3
    · rw [r1 (by decide), r1 (by decide), e 227 (by decide) (by decide)]; exact h4
    · rw [r1 (by decide), r1 (by decide), e 228 (by decide) (by decide)]; exact h5
    · rw [r1 (by decide), r1 (by decide), e 229 (by decide) (by decide)]; exact h6
    · rw [r1 (by decide), r1 (by decide), e 230 (by decide) (by decide)]; exact h7
    · rw [r1 (by decide), r1 (by decide), e8 3 (by decide) (by decide) (by decide) (by decide)]; exact h8
    · rw [r1 (by decide), r1 (by decide), e8 16 (by decide) (by decide) (by decide) (by decide)]; exact h9
  · rw [r1 (by decide), e8 13 (by decide) (by decide) (by decide) (by decide)]; exact h13
  · rw [r1 (by omega), e q (by omega) (by omega)]
theorem m_text {i m : ab_I} (hm : mo i m) (hJ : InM m) (h13 : i 218 13 = (-1)) (x : Int32) : ab_K 96 188 [.ref 218, .int x] i (rfQ i (S_text x m)) := by
  (have hI := hJ.1.1; have hX := InS_X hJ.1; have hs := hm.1)
  have hA := tpA_s hJ.1
  have h60 := hA.1
  refine k_of rfl ?_
  refine r_go 3 rfl ?_ ?_
  · (simp only [ab_all] <;> decide)
  refine r_cv rfl trivial ((m_in _ _ _)) (by decide) ?_
  refine r_bN rfl (fun h6 => ?_) (fun h6 => ?_)
  · skip
    obtain ⟨u, hu, rfl⟩ := of_u h6
    have hP : S_text (nI u) m = (if (txR (tpV (m 219)) u).1 = true ∧ (txR (tpV (m 219)) u).2.1 = (m 219 5).toNatClampNeg then (nI 1, ab_row m 219 (txZ u (txR (tpV (m 219)) u).2.2 (m 219))) else ((-10) - nI (txR (tpV (m 219)) u).2.1, ab_row m 219 (upd (m 219) 5 (nI 0)))) := by
        unfold S_text
        rw [if_pos h6, nI_cl (by omega)]
    have S0 : mS (m 219) u 0 [] 0 (ab_up (ab_up (ab_up (ab_up i 218 8 (nI u)) 218 5 (nI 0)) 218 6 (nI 0)) 218 7 (nI 0)) := by
        refine ⟨?_, ?_, ?_, up_us, ?_, fun k hk => absurd hk (Nat.not_lt_zero _)⟩
        · rw [up_row (by decide), up_row (by decide), up_row (by decide), up_row (by decide)]; exact hs
        · rw [up_ne (by omega), up_ne (by omega), up_us]
        · rw [up_ne (by omega), up_us]
        · rw [up_ne (by omega), up_ne (by omega), up_ne (by omega), up_us]
    have z0 : ∀ q, q ≠ 218 → ab_up (ab_up (ab_up (ab_up i 218 8 (nI u)) 218 5 (nI 0)) 218 6 (nI 0)) 218 7 (nI 0) q = i q := fun q a => by rw [up_row a, up_row a, up_row a, up_row a]
    have z1 : ∀ k, k ≠ 5 → k ≠ 6 → k ≠ 7 → k ≠ 8 → ab_up (ab_up (ab_up (ab_up i 218 8 (nI u)) 218 5 (nI 0)) 218 6 (nI 0)) 218 7 (nI 0) 218 k = i 218 k := fun k a b c d => by rw [up_ne (by omega), up_ne (by omega), up_ne (by omega), up_ne (by omega)]
    obtain ⟨g1, g2, g3, g4⟩ := txR_g hu hA
    rw [List.length_nil] at g3
    refine r_go 13 rfl ?_ ?_
    · (simp only [ab_all] <;> decide)
    refine r_c rfl rfl ((m_txR hu hJ.1 S0)) (by decide) ?_
    rintro v j ⟨rfl, E⟩
    have hjs : j 219 = m 219 := (E.1.1 219 (by decide) (by decide)).trans ((z0 219 (by decide)).trans hs)
    refine r_bE rfl (fun h39 => ?_) (fun h39 => ?_)
    · skip
      have ef : ¬ ((txR (tpV (m 219)) u).1 = true ∧ (txR (tpV (m 219)) u).2.1 = (m 219 5).toNatClampNeg) := by
          first | exact fun z => h39 z.1 | (intro z; refine h52 ?_; rw [z.2]; exact (In5 hJ.1).1)
      have K := mtx_no (s := m 219) (x := nI u) hjs E.2.1
      refine r_lk (r_mono K ?_) rfl
      rintro v k ⟨rfl, rfl⟩
      exact rf_to (hP.trans (if_neg ef)) (rf_tx hm h13 z0 z1 E.1)
    · skip
      refine r_go 6 rfl ?_ ?_
      · (simp only [ab_all, gr_218_0, nI_add]; repeat' (first | exact ix_219 (by omega) | rfl | decide | (unfold ab_nz; decide) | refine And.intro ?_ ?_))
      rw [rowI hjs, nI_cl (by decide), E.2.1]
      refine r_ne rfl (fun h52 => ?_) (fun h52 => ?_)
      · skip
        have ef : ¬ ((txR (tpV (m 219)) u).1 = true ∧ (txR (tpV (m 219)) u).2.1 = (m 219 5).toNatClampNeg) := by
            first | exact fun z => h39 z.1 | (intro z; refine h52 ?_; rw [z.2]; exact (In5 hJ.1).1)
        have K := mtx_no (s := m 219) (x := nI u) hjs E.2.1
        refine r_lk (r_mono K ?_) rfl
        rintro v k ⟨rfl, rfl⟩
        exact rf_to (hP.trans (if_neg ef)) (rf_tx hm h13 z0 z1 E.1)
      · skip
        have ef : (txR (tpV (m 219)) u).1 = true ∧ (txR (tpV (m 219)) u).2.1 = (m 219 5).toNatClampNeg := ⟨h39, by rw [← h52, nI_cl (by omega)]⟩
        have S2 := E.2.2 h39
        have K := mtx_ok (s := m 219) (l := (txR (tpV (m 219)) u).2.2) hu hjs (by omega) S2.2.1 S2.2.2
        refine r_lk (r_mono K ?_) rfl
        rintro v k ⟨rfl, rfl⟩
        exact rf_to (hP.trans (if_pos ef)) (rf_tx hm h13 z0 z1 E.1)
  · skip
    refine r_go 2 rfl ?_ ?_
    · (simp only [ab_all] <;> decide)
    refine r_cv rfl rfl ((m_error 1 (by decide))) (by decide) ?_
    refine r_ret rfl trivial ?_
    exact rf_to (if_neg (by simp only [h6, if_true, if_false, not_true, not_false_eq_true, and_true, true_and, and_false, false_and, or_true, true_or, or_false, false_or, and_self, or_self, not_false_eq_true])) (rf_er hm h13)
