/-! numbers that come to another sheet, votes that are bought -/
def S_move (x a y b n : Int32) (m : ab_I) : Int32 × ab_I := if (nI 0 ≤ x ∧ x ≤ nI 3) ∧ nI 0 ≤ y ∧ y ≤ nI 3 then (if m 228 x.toNatClampNeg = nI 0 ∨ m 228 y.toNatClampNeg = nI 0 then er m 2 else if ¬ m 228 x.toNatClampNeg = m 228 y.toNatClampNeg then er m 5 else if (0 ≤ n.toInt ∧ 0 ≤ a.toInt ∧ a.toInt + n.toInt ≤ (m 229 x.toNatClampNeg).toNatClampNeg) ∧ 0 ≤ n.toInt ∧ 0 ≤ b.toInt ∧ b.toInt + n.toInt ≤ (m 229 y.toNatClampNeg).toNatClampNeg then (n, ab_row m 230 (va_cpy (m 230) (m 230) (24 * x.toNatClampNeg + a.toNatClampNeg) (24 * y.toNatClampNeg + b.toNatClampNeg) n.toNatClampNeg)) else er m 1) else er m 1
theorem sh_move {p q a b n np nq : Nat} {i m : ab_I} (hp : p < 4) (hq : q < 4) (ep : m 229 p = nI np) (eq : m 229 q = nI nq) (hnp : np ≤ 24) (hnq : nq ≤ 24) (h1 : a + n ≤ np) (h2 : b + n ≤ nq) (hJ : InM m) (h : ShR i m) : ShR (ab_row i (206 + 3 * q) (va_cpy (i (206 + 3 * p)) (i (206 + 3 * q)) a b n)) (ab_row m 230 (va_cpy (m 230) (m 230) (24 * p + a) (24 * q + b) n)) := by
  intro j hj
  have eM : ∀ c : Nat, c ≠ 230 → ab_row m 230 (va_cpy (m 230) (m 230) (24 * p + a) (24 * q + b) n) c = m c := fun c hc => funext (fun _ => ab_row_ne hc)
  rw [eM 228 (by decide), eM 229 (by decide), row_s]
  obtain ⟨r1, r2⟩ := h j hj
  obtain ⟨_, n', hn', en'⟩ := hJ.2.2.1 j hj
  have rp := (h p hp).2
  rw [ep, nI_cl (by omega)] at rp
  refine ⟨by rw [ab_row_ne (by omega)]; exact r1, by rw [ab_row_ne (by omega)]; exact r2.1, fun k hk => ?_⟩
  show _ = va_cpy (m 230) (m 230) (24 * p + a) (24 * q + b) n (24 * j + k)
  have hk' := hk
  rw [en', nI_cl (by omega)] at hk'
  by_cases e : j = q
  · subst e
    rw [show 205 + 3 * j + 1 = 206 + 3 * j by omega, ab_row_self]
    by_cases hin : b ≤ k ∧ k < b + n
    · rw [pk_cpy_in hin.1 hin.2, pk_cpy_in (by omega) (by omega)]
      have := rp.2 (a + (k - b)) (by omega)
      rw [show 205 + 3 * p + 1 = 206 + 3 * p by omega] at this
      rw [this]
      show m 230 (24 * p + (a + (k - b))) = _
      congr 1
      omega
    · rw [pk_cpy_out (by omega), pk_cpy_out (by omega)]
      have := r2.2 k hk
      rw [show 205 + 3 * j + 1 = 206 + 3 * j by omega] at this
      exact this
  · rw [ab_row_ne (by omega), pk_cpy_out (by omega)]
    exact r2.2 k hk
theorem c_move {i m : ab_I} (hC : ClsR i m) (hJ : InM m) (x a y b n : Int32) : ab_K 3 137 [.ref 0, .int x, .int a, .int y, .int b, .int n] i (clQ i (S_move x a y b n m)) := by
  (have hI := hJ.1.1; have hX := InS_X hJ.1; have hT := hC.1.1; have hLw : LwsR (m 219) i := ⟨hC.1.2.1, hC.1.2.2.1⟩; have hE := hC.2.2.2.2.1.1)
  have hSh := hC.2.2.2.1
  refine k_of rfl ?_
  refine r_go 2 rfl ?_ ?_
  · (first | exact trivial | assumption | (simp (disch := omega) [ab_all, ab_nz, *]; done))
  refine r_cv rfl (by first | rfl | exact gp1 | exact gq1 | exact gp2.1 | exact gq2.1) ((k_hasSh x)) (by decide) ?_
  refine r_bE rfl (fun h5 => ?_) (fun h5 => ?_)
  · skip
    refine r_go 2 rfl ?_ ?_
    · (first | exact trivial | assumption | (simp (disch := omega) [ab_all, ab_nz, *]; done))
    refine r_cv rfl (by first | rfl | exact gp1 | exact gq1 | exact gp2.1 | exact gq2.1) ((k_error 1 (by decide) (by decide) hE)) (by decide) ?_
    refine r_ret rfl trivial ?_
    exact cl_to (if_neg (by first | exact fun z => h5 z.1 | exact fun z => h13 z.2)) (cl_er (by decide) (by decide) hJ hC)
  · skip
    refine r_go 2 rfl ?_ ?_
    · (first | exact trivial | assumption | (simp (disch := omega) [ab_all, ab_nz, *]; done))
    refine r_cv rfl (by first | rfl | exact gp1 | exact gq1 | exact gp2.1 | exact gq2.1) ((k_hasSh y)) (by decide) ?_
    refine r_bN rfl (fun h13 => ?_) (fun h13 => ?_)
    · skip
      refine r_go 2 rfl ?_ ?_
      · (first | exact trivial | assumption | (simp (disch := omega) [ab_all, ab_nz, *]; done))
      have hP : S_move x a y b n m = (if m 228 x.toNatClampNeg = nI 0 ∨ m 228 y.toNatClampNeg = nI 0 then er m 2 else if ¬ m 228 x.toNatClampNeg = m 228 y.toNatClampNeg then er m 5 else if (0 ≤ n.toInt ∧ 0 ≤ a.toInt ∧ a.toInt + n.toInt ≤ (m 229 x.toNatClampNeg).toNatClampNeg) ∧ 0 ≤ n.toInt ∧ 0 ≤ b.toInt ∧ b.toInt + n.toInt ≤ (m 229 y.toNatClampNeg).toNatClampNeg then (n, ab_row m 230 (va_cpy (m 230) (m 230) (24 * x.toNatClampNeg + a.toNatClampNeg) (24 * y.toNatClampNeg + b.toNatClampNeg) n.toNatClampNeg)) else er m 1) := if_pos ⟨h5, h13⟩
      obtain ⟨p, hp, rfl⟩ := of_s h5
      obtain ⟨q, hq, rfl⟩ := of_s h13
      rw [nI_cl (show p < 2147483648 by omega), nI_cl (show q < 2147483648 by omega)] at hP
      obtain ⟨p1, p2⟩ := hSh p hp
      obtain ⟨q1, q2⟩ := hSh q hq
      obtain ⟨_, np, hnp, ep⟩ := hJ.2.2.1 p hp
      obtain ⟨_, nq, hnq, eq⟩ := hJ.2.2.1 q hq
      rw [ep, eq, nI_cl (show np < 2147483648 by omega), nI_cl (show nq < 2147483648 by omega)] at hP
      rw [ep, nI_cl (by omega)] at p2
      rw [eq, nI_cl (by omega)] at q2
      obtain ⟨gp1, gp2⟩ := tg_sh p hp
      obtain ⟨gq1, gq2⟩ := tg_sh q hq
      have gp3 := gr_sh hp
      have gq3 := gr_sh hq
      refine r_cv rfl (by first | rfl | exact gp1 | exact gq1 | exact gp2.1 | exact gq2.1) ((k_shAt p hp)) (by decide) ?_
      refine r_go 3 rfl ?_ ?_
      · (first | exact trivial | assumption | (simp (disch := omega) [ab_all, ab_nz, *]; done))
      refine r_cv rfl (by first | rfl | exact gp1 | exact gq1 | exact gp2.1 | exact gq2.1) ((k_shAt q hq)) (by decide) ?_
      refine r_go 2 rfl ?_ ?_
      · (first | exact trivial | assumption | (simp (disch := omega) [ab_all, ab_nz, *]; done))
      refine r_cv rfl (by first | rfl | exact gp1 | exact gq1 | exact gp2.1 | exact gq2.1) ((k_miss hp)) (by decide) ?_
      refine r_bN rfl (fun h41 => ?_) (fun h41 => ?_)
      · skip
        refine r_go 2 rfl ?_ ?_
        · (first | exact trivial | assumption | (simp (disch := omega) [ab_all, ab_nz, *]; done))
        refine r_cv rfl (by first | rfl | exact gp1 | exact gq1 | exact gp2.1 | exact gq2.1) ((k_error 2 (by decide) (by decide) hE)) (by decide) ?_
        refine r_ret rfl trivial ?_
        exact cl_to (hP.trans (if_pos (by first | (rw [p1] at h41; exact Or.inl h41) | (rw [q1] at h49; exact Or.inr h49)))) (cl_er (by decide) (by decide) hJ hC)
      · skip
        refine r_go 1 rfl ?_ ?_
        · (first | exact trivial | assumption | (simp (disch := omega) [ab_all, ab_nz, *]; done))
        refine r_cv rfl (by first | rfl | exact gp1 | exact gq1 | exact gp2.1 | exact gq2.1) ((k_miss hq)) (by decide) ?_
        refine r_bE rfl (fun h49 => ?_) (fun h49 => ?_)
        · skip
          refine r_go 4 rfl ?_ ?_
          · exact ⟨gq1, gp1⟩
          rw [p1] at h41
          rw [q1] at h49
          rw [p1, q1]
          have hno : ¬ (m 228 p = nI 0 ∨ m 228 q = nI 0) := fun z => z.elim h41 h49
          refine r_br rfl (fun h68 => ?_) (fun h68 => ?_)
          · skip
            refine r_go 4 rfl ?_ ?_
            · (simp only [ab_all, gp1, gp3]; simp)
            rw [gp3]
            have hP2 := hP.trans ((if_neg hno).trans (if_neg (fun z => z h68)))
            refine r_cv rfl (by first | rfl | exact gp1 | exact gq1 | exact gp2.1 | exact gq2.1) ((k_hasStr a n gp2 p2.1 hnp)) (by decide) ?_
            refine r_bE rfl (fun h88 => ?_) (fun h88 => ?_)
            · skip
              refine r_go 2 rfl ?_ ?_
              · (first | exact trivial | assumption | (simp (disch := omega) [ab_all, ab_nz, *]; done))
              refine r_cv rfl (by first | rfl | exact gp1 | exact gq1 | exact gp2.1 | exact gq2.1) ((k_error 1 (by decide) (by decide) hE)) (by decide) ?_
              refine r_ret rfl trivial ?_
              exact cl_to (hP2.trans (if_neg (by first | exact fun z => h88 z.1 | exact fun z => h103 z.2))) (cl_er (by decide) (by decide) hJ hC)
            · skip
              refine r_go 4 rfl ?_ ?_
              · (simp only [ab_all, gq1, gq3]; simp)
              rw [gq3]
              refine r_cv rfl (by first | rfl | exact gp1 | exact gq1 | exact gp2.1 | exact gq2.1) ((k_hasStr b n gq2 q2.1 hnq)) (by decide) ?_
              refine r_bN rfl (fun h103 => ?_) (fun h103 => ?_)
              · skip
                refine r_go 7 rfl ?_ ?_
                · (simp only [ab_all, gp1, gp3, gq1, gq3]; simp)
                rw [gp3, gq3]
                have hP3 := hP2.trans (if_pos ⟨h88, h103⟩)
                have ea := tn_of h88.2.1
                have eb := tn_of h103.2.1
                have en := tn_of h88.1
                have ha : a.toNatClampNeg + n.toNatClampNeg ≤ np := by rw [tn_i, tn_i]; omega
                have hb : b.toNatClampNeg + n.toNatClampNeg ≤ nq := by rw [tn_i, tn_i]; omega
                clear hP hP2 h88 h103
                generalize a.toNatClampNeg = aN at ea ha hP3
                generalize b.toNatClampNeg = bN at eb hb hP3
                generalize n.toNatClampNeg = nN at en ha hb hP3
                subst ea eb en
                refine r_cn rfl (by first | rfl | exact gp1 | exact gq1 | exact gp2.1 | exact gq2.1) ((k_take aN bN nN gq2 q2.1 hnq gp2 p2.1 hnp ha hb)) (by decide) ?_
                refine r_go 1 rfl ?_ ?_
                · (first | exact trivial | assumption | (simp (disch := omega) [ab_all, ab_nz, *]; done))
                refine r_ret rfl trivial ?_
                rw [show 205 + 3 * q + 1 = 206 + 3 * q by omega, show 205 + 3 * p + 1 = 206 + 3 * p by omega]
                exact cl_to hP3 (cl_sh hJ hC (fun c _ _ d => funext (fun _ => ab_row_ne d)) (fun c hc => funext (fun _ => ab_row_ne (by omega))) (sh_move hp hq ep eq hnp hnq ha hb hJ hSh))
              · skip
                refine r_go 2 rfl ?_ ?_
                · (first | exact trivial | assumption | (simp (disch := omega) [ab_all, ab_nz, *]; done))
                refine r_cv rfl (by first | rfl | exact gp1 | exact gq1 | exact gp2.1 | exact gq2.1) ((k_error 1 (by decide) (by decide) hE)) (by decide) ?_
                refine r_ret rfl trivial ?_
                exact cl_to (hP2.trans (if_neg (by first | exact fun z => h88 z.1 | exact fun z => h103 z.2))) (cl_er (by decide) (by decide) hJ hC)
          · skip
            refine r_go 2 rfl ?_ ?_
            · (first | exact trivial | assumption | (simp (disch := omega) [ab_all, ab_nz, *]; done))
            refine r_cv rfl (by first | rfl | exact gp1 | exact gq1 | exact gp2.1 | exact gq2.1) ((k_error 5 (by decide) (by decide) hE)) (by decide) ?_
            refine r_ret rfl trivial ?_
            exact cl_to (hP.trans ((if_neg hno).trans (if_pos h68))) (cl_er (by decide) (by decide) hJ hC)
        · skip
          refine r_go 2 rfl ?_ ?_
          · (first | exact trivial | assumption | (simp (disch := omega) [ab_all, ab_nz, *]; done))
          refine r_cv rfl (by first | rfl | exact gp1 | exact gq1 | exact gp2.1 | exact gq2.1) ((k_error 2 (by decide) (by decide) hE)) (by decide) ?_
          refine r_ret rfl trivial ?_
          exact cl_to (hP.trans (if_pos (by first | (rw [p1] at h41; exact Or.inl h41) | (rw [q1] at h49; exact Or.inr h49)))) (cl_er (by decide) (by decide) hJ hC)
    · skip
      refine r_go 2 rfl ?_ ?_
      · (first | exact trivial | assumption | (simp (disch := omega) [ab_all, ab_nz, *]; done))
      refine r_cv rfl (by first | rfl | exact gp1 | exact gq1 | exact gp2.1 | exact gq2.1) ((k_error 1 (by decide) (by decide) hE)) (by decide) ?_
      refine r_ret rfl trivial ?_
      exact cl_to (if_neg (by first | exact fun z => h5 z.1 | exact fun z => h13 z.2)) (cl_er (by decide) (by decide) hJ hC)
def asN (c base : Nat) (f g : Vc) : Vc := fun k => if k < c then f (base + k) else g k
theorem asN_s {c base : Nat} {f g : Vc} : upd (asN c base f g) c (f (base + c)) = asN (c + 1) base f g := by
  funext k
  unfold upd asN
  by_cases h : k = c
  · rw [if_pos h, if_pos (by omega), h]
  · rw [if_neg h]
    by_cases h2 : k < c
    · rw [if_pos h2, if_pos (by omega)]
    · rw [if_neg h2, if_neg (by omega)]
def mvC (c t : Nat) (A f : Vc) : Vc := fun k => if t ≤ k ∧ k < t + c then A (k - t) else f k
theorem mvC_s {c t : Nat} {A f : Vc} : upd (mvC c t A f) (t + c) (A c) = mvC (c + 1) t A f := by
  funext k
  unfold upd mvC
  by_cases h : k = t + c
  · rw [if_pos h, if_pos (by omega), h, show t + c - t = c by omega]
  · rw [if_neg h]
    by_cases h2 : t ≤ k ∧ k < t + c
    · rw [if_pos h2, if_pos (by omega)]
    · rw [if_neg h2, if_neg (by omega)]
theorem mo_2 {q b n : Nat} {i : ab_I} (hq : q < 4) (hb : b + n ≤ 24) (mm c : Nat) (hmm : n - c < mm) (hc : c ≤ n) : ab_R 2 tb_X11_move 152 [some (.ref 218), none, none, some (.int (nI q)), some (.int (nI b)), some (.int (nI n)), some (.int (nI c))] [] (ab_row i 230 (mvC c (24 * q + b) (i 231) (i 230))) (ab_V (.int (nI n)) (ab_row i 230 (mvC n (24 * q + b) (i 231) (i 230)))) := by
  induction mm generalizing c with
  | zero => exact absurd hmm (by omega)
  | succ mm ih =>
    refine r_go 2 rfl ?_ ?_
    · (first | exact trivial | assumption | (simp (disch := omega) [ab_all, ab_nz, *]; done))
    refine r_le rfl (fun h156 => ?_) (fun h156 => ?_)
    · skip
      refine r_go 1 rfl ?_ ?_
      · (first | exact trivial | assumption | (simp (disch := omega) [ab_all, ab_nz, *]; done))
      refine r_ret rfl trivial ?_
      have e : c = n := by (simp (disch := omega) only [Int32.le_iff_toInt_le, Int32.lt_iff_toInt_lt, c_i, m1_i, m5_i, m33_i] at * <;> omega)
      subst e
      exact ⟨rfl, rfl⟩
    · skip
      have hcl : c < n := by (simp (disch := omega) only [Int32.le_iff_toInt_le, Int32.lt_iff_toInt_lt, c_i, m1_i, m5_i, m33_i] at * <;> omega)
      refine r_go 16 rfl ?_ ?_
      · (simp only [ab_all, gr_218_21, gr_218_22, pk_mul, nI_add]; exact ⟨ix_of gt_230 (by omega) (by omega), ix_of gt_231 (by omega) (by omega), ⟨rfl, by decide⟩, rfl, by decide⟩)
      rw [gr_218_21, gr_218_22, pk_mul, nI_add, nI_add, nI_add, nI_cl (by omega), nI_cl (by omega), row_up, ab_row_ne (by decide), mvC_s]
      exact r_lk (ih (c + 1) (by omega) (by omega)) rfl
theorem mo_1 {p a q b n : Nat} {i : ab_I} {Q : Option Value → ab_I → Prop} (hp : p < 4) (ha : a + n ≤ 24) (K : ab_R 2 tb_X11_move 152 [some (.ref 218), none, none, some (.int (nI q)), some (.int (nI b)), some (.int (nI n)), some (.int (nI 0))] [] (ab_row i 231 (asN n (24 * p + a) (i 230) (i 231))) Q) (mm c : Nat) (hmm : n - c < mm) (hc : c ≤ n) : ab_R 2 tb_X11_move 115 [some (.ref 218), some (.int (nI p)), some (.int (nI a)), some (.int (nI q)), some (.int (nI b)), some (.int (nI n)), some (.int (nI c))] [] (ab_row i 231 (asN c (24 * p + a) (i 230) (i 231))) Q := by
  induction mm generalizing c with
  | zero => exact absurd hmm (by omega)
  | succ mm ih =>
    refine r_go 2 rfl ?_ ?_
    · (first | exact trivial | assumption | (simp (disch := omega) [ab_all, ab_nz, *]; done))
    refine r_le rfl (fun h119 => ?_) (fun h119 => ?_)
    · skip
      refine r_go 2 rfl ?_ ?_
      · (first | exact trivial | assumption | (simp (disch := omega) [ab_all, ab_nz, *]; done))
      have e : c = n := by clear K; (simp (disch := omega) only [Int32.le_iff_toInt_le, Int32.lt_iff_toInt_lt, c_i, m1_i, m5_i, m33_i] at * <;> omega)
      subst e
      exact r_lk K rfl
    · skip
      have hcl : c < n := by clear K; (simp (disch := omega) only [Int32.le_iff_toInt_le, Int32.lt_iff_toInt_lt, c_i, m1_i, m5_i, m33_i] at * <;> omega)
      refine r_go 16 rfl ?_ ?_
      · (simp only [ab_all, gr_218_21, gr_218_22, pk_mul, nI_add]; exact ⟨ix_of gt_231 (by omega) (by omega), ix_of gt_230 (by omega) (by omega), ⟨rfl, by decide⟩, rfl, by decide⟩)
      rw [gr_218_21, gr_218_22, pk_mul, nI_add, nI_add, nI_add, nI_cl (by omega), nI_cl (by omega), row_up, ab_row_ne (by decide), asN_s]
      exact r_lk (ih (c + 1) (by omega) (by omega)) rfl
theorem m_move {i m : ab_I} (hm : mo i m) (hJ : InM m) (h13 : i 218 13 = (-1)) (x a y b n : Int32) : ab_K 2 237 [.ref 218, .int x, .int a, .int y, .int b, .int n] i (rfQ i (S_move x a y b n m)) := by
  have e8 := hm.2.2.2.2.1
  have e9 := hm.2.2.2.2.2.1
  have e0 := hm.2.2.2.2.2.2.1
  refine k_of rfl ?_
  refine r_go 1 rfl ?_ ?_
  · (first | exact trivial | assumption | (simp (disch := omega) [ab_all, ab_nz, *]; done))
  refine r_cv rfl trivial ((m_isS x)) (by decide) ?_
  refine r_bE rfl (fun h4 => ?_) (fun h4 => ?_)
  · skip
    refine r_go 2 rfl ?_ ?_
    · (first | exact trivial | assumption | (simp (disch := omega) [ab_all, ab_nz, *]; done))
    refine r_cv rfl rfl ((m_error 1 (by decide))) (by decide) ?_
    refine r_ret rfl trivial ?_
    exact rf_to (if_neg (by first | exact fun z => h4 z.1 | exact fun z => h11 z.2)) (rf_er hm h13)
  · skip
    refine r_go 1 rfl ?_ ?_
    · (first | exact trivial | assumption | (simp (disch := omega) [ab_all, ab_nz, *]; done))
    refine r_cv rfl trivial ((m_isS y)) (by decide) ?_
    refine r_bN rfl (fun h11 => ?_) (fun h11 => ?_)
    · skip
      have hP : S_move x a y b n m = (if m 228 x.toNatClampNeg = nI 0 ∨ m 228 y.toNatClampNeg = nI 0 then er m 2 else if ¬ m 228 x.toNatClampNeg = m 228 y.toNatClampNeg then er m 5 else if (0 ≤ n.toInt ∧ 0 ≤ a.toInt ∧ a.toInt + n.toInt ≤ (m 229 x.toNatClampNeg).toNatClampNeg) ∧ 0 ≤ n.toInt ∧ 0 ≤ b.toInt ∧ b.toInt + n.toInt ≤ (m 229 y.toNatClampNeg).toNatClampNeg then (n, ab_row m 230 (va_cpy (m 230) (m 230) (24 * x.toNatClampNeg + a.toNatClampNeg) (24 * y.toNatClampNeg + b.toNatClampNeg) n.toNatClampNeg)) else er m 1) := if_pos ⟨h4, h11⟩
      obtain ⟨p, hp, rfl⟩ := of_s h4
      obtain ⟨q, hq, rfl⟩ := of_s h11
      rw [nI_cl (show p < 2147483648 by omega), nI_cl (show q < 2147483648 by omega)] at hP
      obtain ⟨_, np, hnp, ep⟩ := hJ.2.2.1 p hp
      obtain ⟨_, nq, hnq, eq⟩ := hJ.2.2.1 q hq
      rw [ep, eq, nI_cl (show np < 2147483648 by omega), nI_cl (show nq < 2147483648 by omega)] at hP
      refine r_go 4 rfl ?_ ?_
      · (simp only [ab_all, gr_218_19]; exact ⟨ix_of gt_228 (by omega) (by omega), rfl, by decide⟩)
      rw [gr_218_19, nI_cl (by omega), e8]
      refine r_br rfl (fun h26 => ?_) (fun h26 => ?_)
      · skip
        refine r_go 2 rfl ?_ ?_
        · (first | exact trivial | assumption | (simp (disch := omega) [ab_all, ab_nz, *]; done))
        refine r_cv rfl rfl ((m_error 2 (by decide))) (by decide) ?_
        refine r_ret rfl trivial ?_
        exact rf_to (hP.trans (if_pos (by first | exact Or.inl h26 | exact Or.inr h35))) (rf_er hm h13)
      · skip
        refine r_go 4 rfl ?_ ?_
        · (simp only [ab_all, gr_218_19]; exact ⟨ix_of gt_228 (by omega) (by omega), rfl, by decide⟩)
        rw [gr_218_19, nI_cl (by omega), e8]
        refine r_ne rfl (fun h35 => ?_) (fun h35 => ?_)
        · skip
          refine r_go 8 rfl ?_ ?_
          · (simp only [ab_all, gr_218_19]; exact ⟨ix_of gt_228 (by omega) (by omega), ⟨rfl, by decide⟩, ix_of gt_228 (by omega) (by omega), rfl, by decide⟩)
          rw [gr_218_19, nI_cl (by omega), nI_cl (by omega), e8]
          have hno : ¬ (m 228 p = nI 0 ∨ m 228 q = nI 0) := fun z => z.elim h26 h35
          refine r_br rfl (fun h56 => ?_) (fun h56 => ?_)
          · skip
            have hP2 := hP.trans ((if_neg hno).trans (if_neg (fun z => z h56)))
            have bn := Int32.le_toInt n
            have bn2 := Int32.toInt_lt n
            clear hP
            refine r_go 1 rfl ?_ ?_
            · (first | exact trivial | assumption | (simp (disch := omega) [ab_all, ab_nz, *]; done))
            refine r_br rfl (fun h67 => ?_) (fun h67 => ?_)
            · skip
              refine r_go 2 rfl ?_ ?_
              · (first | exact trivial | assumption | (simp (disch := omega) [ab_all, ab_nz, *]; done))
              refine r_cv rfl rfl ((m_error 1 (by decide))) (by decide) ?_
              refine r_ret rfl trivial ?_
              refine rf_to (hP2.trans (if_neg (fun z => ?_))) (rf_er hm h13)
              have c0 : (nI 0).toInt = 0 := by decide
              obtain ⟨⟨z1, z2, z3⟩, z4, z5, z6⟩ := z
              first | (rw [Int32.lt_iff_toInt_lt, c0] at h67; omega) | (rw [Int32.lt_iff_toInt_lt, c0] at h71; omega) | (rw [Int32.lt_iff_toInt_lt, c0] at h76; omega) | (rw [Int32.lt_iff_toInt_lt, sp] at h89; omega) | (rw [Int32.lt_iff_toInt_lt, sq] at h103; omega)
            · skip
              refine r_go 1 rfl ?_ ?_
              · (first | exact trivial | assumption | (simp (disch := omega) [ab_all, ab_nz, *]; done))
              refine r_br rfl (fun h71 => ?_) (fun h71 => ?_)
              · skip
                refine r_go 2 rfl ?_ ?_
                · (first | exact trivial | assumption | (simp (disch := omega) [ab_all, ab_nz, *]; done))
                refine r_cv rfl rfl ((m_error 1 (by decide))) (by decide) ?_
                refine r_ret rfl trivial ?_
                refine rf_to (hP2.trans (if_neg (fun z => ?_))) (rf_er hm h13)
                have c0 : (nI 0).toInt = 0 := by decide
                obtain ⟨⟨z1, z2, z3⟩, z4, z5, z6⟩ := z
                first | (rw [Int32.lt_iff_toInt_lt, c0] at h67; omega) | (rw [Int32.lt_iff_toInt_lt, c0] at h71; omega) | (rw [Int32.lt_iff_toInt_lt, c0] at h76; omega) | (rw [Int32.lt_iff_toInt_lt, sp] at h89; omega) | (rw [Int32.lt_iff_toInt_lt, sq] at h103; omega)
              · skip
                refine r_go 1 rfl ?_ ?_
                · (first | exact trivial | assumption | (simp (disch := omega) [ab_all, ab_nz, *]; done))
                refine r_br rfl (fun h76 => ?_) (fun h76 => ?_)
                · skip
                  refine r_go 2 rfl ?_ ?_
                  · (first | exact trivial | assumption | (simp (disch := omega) [ab_all, ab_nz, *]; done))
                  refine r_cv rfl rfl ((m_error 1 (by decide))) (by decide) ?_
                  refine r_ret rfl trivial ?_
                  refine rf_to (hP2.trans (if_neg (fun z => ?_))) (rf_er hm h13)
                  have c0 : (nI 0).toInt = 0 := by decide
                  obtain ⟨⟨z1, z2, z3⟩, z4, z5, z6⟩ := z
                  first | (rw [Int32.lt_iff_toInt_lt, c0] at h67; omega) | (rw [Int32.lt_iff_toInt_lt, c0] at h71; omega) | (rw [Int32.lt_iff_toInt_lt, c0] at h76; omega) | (rw [Int32.lt_iff_toInt_lt, sp] at h89; omega) | (rw [Int32.lt_iff_toInt_lt, sq] at h103; omega)
                · skip
                  refine r_go 7 rfl ?_ ?_
                  · (simp only [ab_all, gr_218_20]; exact ⟨ix_of gt_229 (by omega) (by omega), rfl, by decide⟩)
                  rw [gr_218_20, nI_cl (by omega), e9, ep]
                  rw [show nI 0 = 0 from rfl] at h67
                  have n0 : 0 ≤ n.toInt := by have := Int32.not_lt.mp h67; rw [Int32.le_iff_toInt_le] at this; exact this
                  have sp : (nI np - n).toInt = np - n.toInt := by rw [su_i (by rw [c_i (by omega)]; omega) (by rw [c_i (by omega)]; omega), c_i (by omega)]
                  refine r_br rfl (fun h89 => ?_) (fun h89 => ?_)
                  · skip
                    refine r_go 2 rfl ?_ ?_
                    · (first | exact trivial | assumption | (simp (disch := omega) [ab_all, ab_nz, *]; done))
                    refine r_cv rfl rfl ((m_error 1 (by decide))) (by decide) ?_
                    refine r_ret rfl trivial ?_
                    refine rf_to (hP2.trans (if_neg (fun z => ?_))) (rf_er hm h13)
                    have c0 : (nI 0).toInt = 0 := by decide
                    obtain ⟨⟨z1, z2, z3⟩, z4, z5, z6⟩ := z
                    first | (rw [Int32.lt_iff_toInt_lt, c0] at h67; omega) | (rw [Int32.lt_iff_toInt_lt, c0] at h71; omega) | (rw [Int32.lt_iff_toInt_lt, c0] at h76; omega) | (rw [Int32.lt_iff_toInt_lt, sp] at h89; omega) | (rw [Int32.lt_iff_toInt_lt, sq] at h103; omega)
                  · skip
                    refine r_go 7 rfl ?_ ?_
                    · (simp only [ab_all, gr_218_20]; exact ⟨ix_of gt_229 (by omega) (by omega), rfl, by decide⟩)
                    rw [gr_218_20, nI_cl (by omega), e9, eq]
                    have sq : (nI nq - n).toInt = nq - n.toInt := by rw [su_i (by rw [c_i (by omega)]; omega) (by rw [c_i (by omega)]; omega), c_i (by omega)]
                    refine r_le rfl (fun h103 => ?_) (fun h103 => ?_)
                    · skip
                      have c0 : (nI 0).toInt = 0 := by decide
                      have a0 : 0 ≤ a.toInt := by have := Int32.not_lt.mp h71; rw [Int32.le_iff_toInt_le, c0] at this; exact this
                      have b0 : 0 ≤ b.toInt := by have := Int32.not_lt.mp h76; rw [Int32.le_iff_toInt_le, c0] at this; exact this
                      rw [Int32.lt_iff_toInt_lt, sp] at h89
                      rw [Int32.lt_iff_toInt_lt, sq] at h103
                      have hP3 := hP2.trans (if_pos ⟨⟨n0, a0, by omega⟩, n0, b0, by omega⟩)
                      have ea := tn_of a0
                      have eb := tn_of b0
                      have en := tn_of n0
                      have ha : a.toNatClampNeg + n.toNatClampNeg ≤ np := by rw [tn_i, tn_i]; omega
                      have hb : b.toNatClampNeg + n.toNatClampNeg ≤ nq := by rw [tn_i, tn_i]; omega
                      clear hP2 h67 h71 h76 h89 h103 sp sq n0 a0 b0 bn bn2
                      generalize a.toNatClampNeg = aN at ea ha hP3
                      generalize b.toNatClampNeg = bN at eb hb hP3
                      generalize n.toNatClampNeg = nN at en ha hb hP3
                      subst ea eb en
                      refine r_go 2 rfl ?_ ?_
                      · (first | exact trivial | assumption | (simp (disch := omega) [ab_all, ab_nz, *]; done))
                      have e0' : asN 0 (24 * p + aN) (i 230) (i 231) = i 231 := funext (fun k => if_neg (by omega))
                      have K := mo_1 (p := p) (a := aN) (q := q) (b := bN) (n := nN) (i := i) (Q := rfQ i (S_move (nI p) (nI aN) (nI q) (nI bN) (nI nN) m)) hp (by omega) ?_ (nN + 1) 0 (by omega) (by omega)
                      · rw [e0', row_id] at K
                        exact K
                      · have j0 : mvC 0 (24 * q + bN) (ab_row i 231 (asN nN (24 * p + aN) (i 230) (i 231)) 231) (ab_row i 231 (asN nN (24 * p + aN) (i 230) (i 231)) 230) = ab_row i 231 (asN nN (24 * p + aN) (i 230) (i 231)) 230 := funext (fun k => if_neg (by omega))
                        have K2 := mo_2 (i := ab_row i 231 (asN nN (24 * p + aN) (i 230) (i 231))) (q := q) (b := bN) (n := nN) hq (by omega) (nN + 1) 0 (by omega) (by omega)
                        rw [j0, row_id] at K2
                        refine r_mono K2 ?_
                        rintro v k ⟨rfl, rfl⟩
                        refine rf_to hP3 (rf_sh hm h13 (fun c _ _ d => funext (fun _ => ab_row_ne d)) (fun c _ _ d f => (funext (fun _ => ab_row_ne d)).trans (funext (fun _ => ab_row_ne f))) ?_ ?_ ?_)
                        · exact ((funext (fun _ => ab_row_ne (by decide))).trans (funext (fun _ => ab_row_ne (by decide)))).trans (e8.trans (funext (fun _ => (ab_row_ne (by decide)).symm)))
                        · exact ((funext (fun _ => ab_row_ne (by decide))).trans (funext (fun _ => ab_row_ne (by decide)))).trans (e9.trans (funext (fun _ => (ab_row_ne (by decide)).symm)))
                        · rw [row_s, row_s, row_s, show ab_row i 231 (asN nN (24 * p + aN) (i 230) (i 231)) 230 = i 230 from funext (fun _ => ab_row_ne (by decide)), e0]
                          funext k
                          unfold mvC va_cpy asN
                          by_cases z : 24 * q + bN ≤ k ∧ k < 24 * q + bN + nN
                          · rw [if_pos z, if_pos z, if_pos (by omega)]
                          · rw [if_neg z, if_neg z]
                    · skip
                      refine r_go 2 rfl ?_ ?_
                      · (first | exact trivial | assumption | (simp (disch := omega) [ab_all, ab_nz, *]; done))
                      refine r_cv rfl rfl ((m_error 1 (by decide))) (by decide) ?_
                      refine r_ret rfl trivial ?_
                      refine rf_to (hP2.trans (if_neg (fun z => ?_))) (rf_er hm h13)
                      have c0 : (nI 0).toInt = 0 := by decide
                      obtain ⟨⟨z1, z2, z3⟩, z4, z5, z6⟩ := z
                      first | (rw [Int32.lt_iff_toInt_lt, c0] at h67; omega) | (rw [Int32.lt_iff_toInt_lt, c0] at h71; omega) | (rw [Int32.lt_iff_toInt_lt, c0] at h76; omega) | (rw [Int32.lt_iff_toInt_lt, sp] at h89; omega) | (rw [Int32.lt_iff_toInt_lt, sq] at h103; omega)
          · skip
            refine r_go 2 rfl ?_ ?_
            · (first | exact trivial | assumption | (simp (disch := omega) [ab_all, ab_nz, *]; done))
            refine r_cv rfl rfl ((m_error 5 (by decide))) (by decide) ?_
            refine r_ret rfl trivial ?_
            exact rf_to (hP.trans ((if_neg hno).trans (if_pos h56))) (rf_er hm h13)
        · skip
          refine r_go 2 rfl ?_ ?_
          · (first | exact trivial | assumption | (simp (disch := omega) [ab_all, ab_nz, *]; done))
          refine r_cv rfl rfl ((m_error 2 (by decide))) (by decide) ?_
          refine r_ret rfl trivial ?_
          exact rf_to (hP.trans (if_pos (by first | exact Or.inl h26 | exact Or.inr h35))) (rf_er hm h13)
    · skip
      refine r_go 2 rfl ?_ ?_
      · (first | exact trivial | assumption | (simp (disch := omega) [ab_all, ab_nz, *]; done))
      refine r_cv rfl rfl ((m_error 1 (by decide))) (by decide) ?_
      refine r_ret rfl trivial ?_
      exact rf_to (if_neg (by first | exact fun z => h4 z.1 | exact fun z => h11 z.2)) (rf_er hm h13)
theorem n_move {m : ab_I} (hJ : InM m) (x a y b n : Int32) : InM (S_move x a y b n m).2 := by
  unfold S_move
  split
  · split
    · exact InM_er hJ
    · split
      · exact InM_er hJ
      · split
        · refine InM_sh hJ (fun q _ _ d => funext (fun _ => ab_row_ne d)) (fun j hj => ?_)
          dsimp only
          rw [ab_row_ne (by decide), ab_row_ne (by decide)]
          exact hJ.2.2.1 j hj
        · exact InM_er hJ
  · exact InM_er hJ
