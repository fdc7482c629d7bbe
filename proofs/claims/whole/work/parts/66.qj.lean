/-! text: the reference reads a number -/
theorem m_isDg {i : ab_I} (x : Int32) : ab_K 0 155 [.int x, .int (nI 48), .int (nI 57)] i (ab_V (.int (bI (dgt x = true))) i) := by
  rw [← bI_cg (show (nI 48 ≤ x ∧ x ≤ nI 57) ↔ dgt x = true from ⟨fun z => decide_eq_true z, fun z => of_decide_eq_true z⟩)]
  exact m_in _ _ _
theorem mn_loop {s : Vc} {u o p0 : Nat} {l : List (Int32 × Int32)} {i : ab_I} (hI : InS s) (hS : mS s u p0 l o i) (h60 : l.length < 60) (mm c v p : Nat) (hmm : 4 - c < mm) (hc : c ≤ 4) (hp : p ≤ (s 5).toNatClampNeg) : ab_R 60 tb_X11_one 46 [some (.ref 218), none, some (.int (nI v)), some (.int (nI c))] [] (ab_up i 218 5 (nI p)) (mQ o i (true, ((nbL (tpV s) (4 - c) v p).2, (nI 0, nI (nbL (tpV s) (4 - c) v p).1) :: l))) := by
  induction mm generalizing c v p with
  | zero => exact absurd hmm (by omega)
  | succ mm ih =>
    have S1 := mS_p (p' := p) hS
    have hA := tpA_s hI
    refine r_go 2 rfl ?_ ?_
    · (simp only [ab_all] <;> decide)
    refine r_le rfl (fun h48 => ?_) (fun h48 => ?_)
    · skip
      have e3 : nbL (tpV s) (4 - c) v p = (v, p) := by
          first | (by_cases z : 4 - c = 0; (rw [z]; rfl); (rw [show 4 - c = (4 - (c + 1)) + 1 by omega]; exact if_neg h62)) | (rw [show 4 - c = 0 by clear hS S1; (simp (disch := omega) only [Int32.le_iff_toInt_le, Int32.lt_iff_toInt_lt, c_i, m1_i, m5_i, m33_i] at * <;> omega)]; rfl)
      rw [e3]
      refine r_go 3 rfl ?_ ?_
      · (simp only [ab_all] <;> decide)
      refine r_cn rfl rfl ((m_lays _ _ S1.2.2.2.1 (by omega))) (by decide) ?_
      refine r_go 1 rfl ?_ ?_
      · (simp only [ab_all] <;> decide)
      refine r_ret rfl (by (first | exact Or.inl rfl | exact Or.inr rfl | exact bI_or)) ?_
      exact ⟨rfl, mE_ok (mS_l (e := (nI 0, nI v)) S1) (rp_tr (rp_u (Or.inl rfl)) rp_la)⟩
    · skip
      refine r_go 1 rfl ?_ ?_
      · (simp only [ab_all] <;> decide)
      refine r_cv rfl rfl ((m_look S1.1 hI S1.2.1 hp)) (by decide) ?_
      refine r_go 2 rfl ?_ ?_
      · (simp only [ab_all] <;> decide)
      refine r_cv rfl trivial ((m_isDg _)) (by decide) ?_
      refine r_bE rfl (fun h62 => ?_) (fun h62 => ?_)
      · skip
        have e3 : nbL (tpV s) (4 - c) v p = (v, p) := by
            first | (by_cases z : 4 - c = 0; (rw [z]; rfl); (rw [show 4 - c = (4 - (c + 1)) + 1 by omega]; exact if_neg h62)) | (rw [show 4 - c = 0 by clear hS S1; (simp (disch := omega) only [Int32.le_iff_toInt_le, Int32.lt_iff_toInt_lt, c_i, m1_i, m5_i, m33_i] at * <;> omega)]; rfl)
        rw [e3]
        refine r_go 3 rfl ?_ ?_
        · (simp only [ab_all] <;> decide)
        refine r_cn rfl rfl ((m_lays _ _ S1.2.2.2.1 (by omega))) (by decide) ?_
        refine r_go 1 rfl ?_ ?_
        · (simp only [ab_all] <;> decide)
        refine r_ret rfl (by (first | exact Or.inl rfl | exact Or.inr rfl | exact bI_or)) ?_
        exact ⟨rfl, mE_ok (mS_l (e := (nI 0, nI v)) S1) (rp_tr (rp_u (Or.inl rfl)) rp_la)⟩
      · skip
        obtain ⟨d, hd, e1, e2⟩ := nb_1 hA h62
        have hpn := tp_d hA h62
        refine r_go 4 rfl ?_ ?_
        · (simp only [ab_all] <;> decide)
        refine r_cv rfl rfl ((m_look S1.1 hI S1.2.1 hp)) (by decide) ?_
        refine r_go 12 rfl ?_ ?_
        · (simp only [ab_all] <;> decide)
        rw [e1, Int32.mul_comm, pk_mul, nI_add, pk_sub (by omega), S1.2.1, nI_add, nI_add, up_tw, show v * 10 + (d + 48) - 48 = 10 * v + d by omega]
        have hcl : c < 4 := by clear hS S1; (simp (disch := omega) only [Int32.le_iff_toInt_le, Int32.lt_iff_toInt_lt, c_i, m1_i, m5_i, m33_i] at * <;> omega)
        have e3 : nbL (tpV s) (4 - c) v p = nbL (tpV s) (4 - (c + 1)) (10 * v + d) (p + 1) := by
            rw [show 4 - c = (4 - (c + 1)) + 1 by omega]
            refine (if_pos h62).trans ?_
            rw [e2 v]
        rw [e3]
        exact r_lk (ih (c + 1) (10 * v + d) (p + 1) (by omega) (by omega) (by omega)) rfl
