/-! text: the reference's rows; written by mk67.py -/
def rM (s : Vc) (u o hh mi : Nat) (f : PF) : Prop := ∀ p l i, p ≤ (s 5).toNatClampNeg → l.length ≤ p → mS s u p l o i → ab_K hh mi [.ref 218] i (mQ o i (f (p, l)))
theorem sgT_4 {x : Int32} : sgT 4 x = decide (x = nI 42 ∨ x = nI 47 ∨ x = nI 37) := rfl
theorem sgT_3 {x : Int32} : sgT 3 x = decide (x = nI 43 ∨ x = nI 45) := rfl
theorem sgT_2 {x : Int32} : sgT 2 x = decide (x = nI 60 ∨ x = nI 61 ∨ x = nI 62) := rfl
theorem sgT_1 {x : Int32} : sgT 1 x = decide (x = nI 38) := rfl
theorem sgT_0 {x : Int32} : sgT 0 x = decide (x = nI 124) := rfl
theorem rwL_1 {a : Nat → Int32} {t k p : Nat} {f : PF} {l : List (Int32 × Int32)} (q : sgT t (a p) = true) (hk : 1 ≤ k) : rwL a t f k (p, l) = (if (f (p + 1, l)).1 = true then rwL a t f (k - 1) ((f (p + 1, l)).2.1, (nI 3, a p) :: (f (p + 1, l)).2.2) else f (p + 1, l)) := by
  rw [show k = (k - 1) + 1 by omega]
  exact if_pos q
theorem rwL_0 {a : Nat → Int32} {t k p : Nat} {f : PF} {l : List (Int32 × Int32)} (q : ¬ sgT t (a p) = true) : rwL a t f k (p, l) = (true, (p, l)) := by
  cases k with
  | zero => rfl
  | succ k => exact if_neg q
theorem mproduct_loop {s : Vc} {u o hh : Nat} {f : PF} (hI : InS s) (h7 : 7 ≤ hh) (hg : gd u (s 5).toNatClampNeg f) (hf : rM s u o hh 186 f) (mm k p : Nat) (l : List (Int32 × Int32)) (i : ab_I) (hmm : k < mm) (hk : (s 5).toNatClampNeg - p ≤ k) (hp : p ≤ (s 5).toNatClampNeg) (hl : l.length ≤ p) (hS : mS s u p l o i) : ab_R (hh + 1) tb_X11_product 9 [some (.ref 218), none] [] i (mQ o i (rwL (tpV s) 4 f k (p, l))) := by
  induction mm generalizing k p l i with
  | zero => exact absurd hmm (by omega)
  | succ mm ih =>
    have hA := tpA_s hI
    refine r_go 1 rfl ?_ ?_
    · (simp only [ab_all] <;> decide)
    refine r_cv rfl rfl ((m_look hS.1 hI hS.2.1 hp)) (by omega) ?_
    refine r_go 1 rfl ?_ ?_
    · (simp only [ab_all] <;> decide)
    refine r_br rfl (fun h15 => ?_) (fun h15 => ?_)
    · skip
      have q : sgT 4 (tpV s p) = true := by first | exact decide_eq_true (Or.inl h15) | exact decide_eq_true (Or.inr (Or.inl h24)) | exact decide_eq_true (Or.inr (Or.inr h33))
      have hpn := tp_s hA q
      refine r_go 1 rfl ?_ ?_
      · (simp only [ab_all] <;> decide)
      refine r_cv rfl rfl ((m_look hS.1 hI hS.2.1 hp)) (by omega) ?_
      refine r_go 8 rfl ?_ ?_
      · (simp only [ab_all] <;> decide)
      rw [hS.2.1, nI_add]
      refine r_c rfl rfl ((hf (p + 1) l _ (by omega) (by omega) (mS_p hS))) (by omega) ?_
      rintro v j ⟨rfl, E⟩
      obtain ⟨g1, g2, g3, g4⟩ := hg (p + 1) l (by omega)
      rw [rwL_1 q (by omega)]
      refine r_bN rfl (fun h55 => ?_) (fun h55 => ?_)
      · skip
        have hr : (f (p + 1, l)).1 = true := by first | exact h55 | assumption
        have S2 := mS_of (mS_p hS) E hr
        rw [if_pos hr]
        refine r_go 3 rfl ?_ ?_
        · (simp only [ab_all] <;> decide)
        refine r_cn rfl rfl ((m_lays _ _ S2.2.2.2.1 (by have := hA.1; omega))) (by omega) ?_
        refine r_go 1 rfl ?_ ?_
        · (simp only [ab_all] <;> decide)
        have e3 : tpV s p = tpV s p := rfl
        refine r_lk (r_mono (ih (k - 1) _ _ _ (by omega) (by omega) g2 (by rw [List.length_cons]; omega) (mS_l (e := (nI 3, tpV s p)) S2)) ?_) rfl
        rintro v j2 ⟨rfl, E2⟩
        exact ⟨rfl, mE_b E2 (rp_tr (rp_tr (rp_u (Or.inl rfl)) E.1) rp_la)⟩
      · skip
        refine r_go 1 rfl ?_ ?_
        · (simp only [ab_all] <;> decide)
        refine r_ret rfl (by (first | exact Or.inl rfl | exact Or.inr rfl | exact bI_or)) ?_
        rw [if_neg (by first | exact h55 | assumption)]
        exact ⟨by rw [bI_f (by first | exact h55 | assumption)], mE_b E (rp_u (Or.inl rfl))⟩
    · skip
      refine r_go 1 rfl ?_ ?_
      · (simp only [ab_all] <;> decide)
      refine r_cv rfl rfl ((m_look hS.1 hI hS.2.1 hp)) (by omega) ?_
      refine r_go 1 rfl ?_ ?_
      · (simp only [ab_all] <;> decide)
      refine r_br rfl (fun h24 => ?_) (fun h24 => ?_)
      · skip
        have q : sgT 4 (tpV s p) = true := by first | exact decide_eq_true (Or.inl h15) | exact decide_eq_true (Or.inr (Or.inl h24)) | exact decide_eq_true (Or.inr (Or.inr h33))
        have hpn := tp_s hA q
        refine r_go 1 rfl ?_ ?_
        · (simp only [ab_all] <;> decide)
        refine r_cv rfl rfl ((m_look hS.1 hI hS.2.1 hp)) (by omega) ?_
        refine r_go 8 rfl ?_ ?_
        · (simp only [ab_all] <;> decide)
        rw [hS.2.1, nI_add]
        refine r_c rfl rfl ((hf (p + 1) l _ (by omega) (by omega) (mS_p hS))) (by omega) ?_
        rintro v j ⟨rfl, E⟩
        obtain ⟨g1, g2, g3, g4⟩ := hg (p + 1) l (by omega)
        rw [rwL_1 q (by omega)]
        refine r_bN rfl (fun h55 => ?_) (fun h55 => ?_)
        · skip
          have hr : (f (p + 1, l)).1 = true := by first | exact h55 | assumption
          have S2 := mS_of (mS_p hS) E hr
          rw [if_pos hr]
          refine r_go 3 rfl ?_ ?_
          · (simp only [ab_all] <;> decide)
          refine r_cn rfl rfl ((m_lays _ _ S2.2.2.2.1 (by have := hA.1; omega))) (by omega) ?_
          refine r_go 1 rfl ?_ ?_
          · (simp only [ab_all] <;> decide)
          have e3 : tpV s p = tpV s p := rfl
          refine r_lk (r_mono (ih (k - 1) _ _ _ (by omega) (by omega) g2 (by rw [List.length_cons]; omega) (mS_l (e := (nI 3, tpV s p)) S2)) ?_) rfl
          rintro v j2 ⟨rfl, E2⟩
          exact ⟨rfl, mE_b E2 (rp_tr (rp_tr (rp_u (Or.inl rfl)) E.1) rp_la)⟩
        · skip
          refine r_go 1 rfl ?_ ?_
          · (simp only [ab_all] <;> decide)
          refine r_ret rfl (by (first | exact Or.inl rfl | exact Or.inr rfl | exact bI_or)) ?_
          rw [if_neg (by first | exact h55 | assumption)]
          exact ⟨by rw [bI_f (by first | exact h55 | assumption)], mE_b E (rp_u (Or.inl rfl))⟩
      · skip
        refine r_go 1 rfl ?_ ?_
        · (simp only [ab_all] <;> decide)
        refine r_cv rfl rfl ((m_look hS.1 hI hS.2.1 hp)) (by omega) ?_
        refine r_go 1 rfl ?_ ?_
        · (simp only [ab_all] <;> decide)
        refine r_ne rfl (fun h33 => ?_) (fun h33 => ?_)
        · skip
          refine r_go 1 rfl ?_ ?_
          · (simp only [ab_all] <;> decide)
          refine r_ret rfl (by (first | exact Or.inl rfl | exact Or.inr rfl | exact bI_or)) ?_
          have q : ¬ sgT 4 (tpV s p) = true := by
              rw [sgT_4]
              intro z
              have z := of_decide_eq_true z
              rcases z with z | z | z <;> first | exact h15 z | exact h24 z | exact h33 z
          rw [rwL_0 q]
          exact ⟨by rw [bI_t rfl], mE_ok hS rp_rf⟩
        · skip
          have q : sgT 4 (tpV s p) = true := by first | exact decide_eq_true (Or.inl h15) | exact decide_eq_true (Or.inr (Or.inl h24)) | exact decide_eq_true (Or.inr (Or.inr h33))
          have hpn := tp_s hA q
          refine r_go 1 rfl ?_ ?_
          · (simp only [ab_all] <;> decide)
          refine r_cv rfl rfl ((m_look hS.1 hI hS.2.1 hp)) (by omega) ?_
          refine r_go 8 rfl ?_ ?_
          · (simp only [ab_all] <;> decide)
          rw [hS.2.1, nI_add]
          refine r_c rfl rfl ((hf (p + 1) l _ (by omega) (by omega) (mS_p hS))) (by omega) ?_
          rintro v j ⟨rfl, E⟩
          obtain ⟨g1, g2, g3, g4⟩ := hg (p + 1) l (by omega)
          rw [rwL_1 q (by omega)]
          refine r_bN rfl (fun h55 => ?_) (fun h55 => ?_)
          · skip
            have hr : (f (p + 1, l)).1 = true := by first | exact h55 | assumption
            have S2 := mS_of (mS_p hS) E hr
            rw [if_pos hr]
            refine r_go 3 rfl ?_ ?_
            · (simp only [ab_all] <;> decide)
            refine r_cn rfl rfl ((m_lays _ _ S2.2.2.2.1 (by have := hA.1; omega))) (by omega) ?_
            refine r_go 1 rfl ?_ ?_
            · (simp only [ab_all] <;> decide)
            have e3 : tpV s p = tpV s p := rfl
            refine r_lk (r_mono (ih (k - 1) _ _ _ (by omega) (by omega) g2 (by rw [List.length_cons]; omega) (mS_l (e := (nI 3, tpV s p)) S2)) ?_) rfl
            rintro v j2 ⟨rfl, E2⟩
            exact ⟨rfl, mE_b E2 (rp_tr (rp_tr (rp_u (Or.inl rfl)) E.1) rp_la)⟩
          · skip
            refine r_go 1 rfl ?_ ?_
            · (simp only [ab_all] <;> decide)
            refine r_ret rfl (by (first | exact Or.inl rfl | exact Or.inr rfl | exact bI_or)) ?_
            rw [if_neg (by first | exact h55 | assumption)]
            exact ⟨by rw [bI_f (by first | exact h55 | assumption)], mE_b E (rp_u (Or.inl rfl))⟩
theorem msum_loop {s : Vc} {u o hh : Nat} {f : PF} (hI : InS s) (h7 : 7 ≤ hh) (hg : gd u (s 5).toNatClampNeg f) (hf : rM s u o hh 184 f) (mm k p : Nat) (l : List (Int32 × Int32)) (i : ab_I) (hmm : k < mm) (hk : (s 5).toNatClampNeg - p ≤ k) (hp : p ≤ (s 5).toNatClampNeg) (hl : l.length ≤ p) (hS : mS s u p l o i) : ab_R (hh + 1) tb_X11_sum 9 [some (.ref 218), none] [] i (mQ o i (rwL (tpV s) 3 f k (p, l))) := by
  induction mm generalizing k p l i with
  | zero => exact absurd hmm (by omega)
  | succ mm ih =>
    have hA := tpA_s hI
    refine r_go 1 rfl ?_ ?_
    · (simp only [ab_all] <;> decide)
    refine r_cv rfl rfl ((m_look hS.1 hI hS.2.1 hp)) (by omega) ?_
    refine r_go 1 rfl ?_ ?_
    · (simp only [ab_all] <;> decide)
    refine r_br rfl (fun h15 => ?_) (fun h15 => ?_)
    · skip
      have q : sgT 3 (tpV s p) = true := by first | exact decide_eq_true (Or.inl h15) | exact decide_eq_true (Or.inr h24)
      have hpn := tp_s hA q
      refine r_go 1 rfl ?_ ?_
      · (simp only [ab_all] <;> decide)
      refine r_cv rfl rfl ((m_look hS.1 hI hS.2.1 hp)) (by omega) ?_
      refine r_go 8 rfl ?_ ?_
      · (simp only [ab_all] <;> decide)
      rw [hS.2.1, nI_add]
      refine r_c rfl rfl ((hf (p + 1) l _ (by omega) (by omega) (mS_p hS))) (by omega) ?_
      rintro v j ⟨rfl, E⟩
      obtain ⟨g1, g2, g3, g4⟩ := hg (p + 1) l (by omega)
      rw [rwL_1 q (by omega)]
      refine r_bN rfl (fun h46 => ?_) (fun h46 => ?_)
      · skip
        have hr : (f (p + 1, l)).1 = true := by first | exact h46 | assumption
        have S2 := mS_of (mS_p hS) E hr
        rw [if_pos hr]
        refine r_go 3 rfl ?_ ?_
        · (simp only [ab_all] <;> decide)
        refine r_cn rfl rfl ((m_lays _ _ S2.2.2.2.1 (by have := hA.1; omega))) (by omega) ?_
        refine r_go 1 rfl ?_ ?_
        · (simp only [ab_all] <;> decide)
        have e3 : tpV s p = tpV s p := rfl
        refine r_lk (r_mono (ih (k - 1) _ _ _ (by omega) (by omega) g2 (by rw [List.length_cons]; omega) (mS_l (e := (nI 3, tpV s p)) S2)) ?_) rfl
        rintro v j2 ⟨rfl, E2⟩
        exact ⟨rfl, mE_b E2 (rp_tr (rp_tr (rp_u (Or.inl rfl)) E.1) rp_la)⟩
      · skip
        refine r_go 1 rfl ?_ ?_
        · (simp only [ab_all] <;> decide)
        refine r_ret rfl (by (first | exact Or.inl rfl | exact Or.inr rfl | exact bI_or)) ?_
        rw [if_neg (by first | exact h46 | assumption)]
        exact ⟨by rw [bI_f (by first | exact h46 | assumption)], mE_b E (rp_u (Or.inl rfl))⟩
    · skip
      refine r_go 1 rfl ?_ ?_
      · (simp only [ab_all] <;> decide)
      refine r_cv rfl rfl ((m_look hS.1 hI hS.2.1 hp)) (by omega) ?_
      refine r_go 1 rfl ?_ ?_
      · (simp only [ab_all] <;> decide)
      refine r_ne rfl (fun h24 => ?_) (fun h24 => ?_)
      · skip
        refine r_go 1 rfl ?_ ?_
        · (simp only [ab_all] <;> decide)
        refine r_ret rfl (by (first | exact Or.inl rfl | exact Or.inr rfl | exact bI_or)) ?_
        have q : ¬ sgT 3 (tpV s p) = true := by
            rw [sgT_3]
            intro z
            have z := of_decide_eq_true z
            rcases z with z | z <;> first | exact h15 z | exact h24 z
        rw [rwL_0 q]
        exact ⟨by rw [bI_t rfl], mE_ok hS rp_rf⟩
      · skip
        have q : sgT 3 (tpV s p) = true := by first | exact decide_eq_true (Or.inl h15) | exact decide_eq_true (Or.inr h24)
        have hpn := tp_s hA q
        refine r_go 1 rfl ?_ ?_
        · (simp only [ab_all] <;> decide)
        refine r_cv rfl rfl ((m_look hS.1 hI hS.2.1 hp)) (by omega) ?_
        refine r_go 8 rfl ?_ ?_
        · (simp only [ab_all] <;> decide)
        rw [hS.2.1, nI_add]
        refine r_c rfl rfl ((hf (p + 1) l _ (by omega) (by omega) (mS_p hS))) (by omega) ?_
        rintro v j ⟨rfl, E⟩
        obtain ⟨g1, g2, g3, g4⟩ := hg (p + 1) l (by omega)
        rw [rwL_1 q (by omega)]
        refine r_bN rfl (fun h46 => ?_) (fun h46 => ?_)
        · skip
          have hr : (f (p + 1, l)).1 = true := by first | exact h46 | assumption
          have S2 := mS_of (mS_p hS) E hr
          rw [if_pos hr]
          refine r_go 3 rfl ?_ ?_
          · (simp only [ab_all] <;> decide)
          refine r_cn rfl rfl ((m_lays _ _ S2.2.2.2.1 (by have := hA.1; omega))) (by omega) ?_
          refine r_go 1 rfl ?_ ?_
          · (simp only [ab_all] <;> decide)
          have e3 : tpV s p = tpV s p := rfl
          refine r_lk (r_mono (ih (k - 1) _ _ _ (by omega) (by omega) g2 (by rw [List.length_cons]; omega) (mS_l (e := (nI 3, tpV s p)) S2)) ?_) rfl
          rintro v j2 ⟨rfl, E2⟩
          exact ⟨rfl, mE_b E2 (rp_tr (rp_tr (rp_u (Or.inl rfl)) E.1) rp_la)⟩
        · skip
          refine r_go 1 rfl ?_ ?_
          · (simp only [ab_all] <;> decide)
          refine r_ret rfl (by (first | exact Or.inl rfl | exact Or.inr rfl | exact bI_or)) ?_
          rw [if_neg (by first | exact h46 | assumption)]
          exact ⟨by rw [bI_f (by first | exact h46 | assumption)], mE_b E (rp_u (Or.inl rfl))⟩
theorem mboth_loop {s : Vc} {u o hh : Nat} {f : PF} (hI : InS s) (h7 : 7 ≤ hh) (hg : gd u (s 5).toNatClampNeg f) (hf : rM s u o hh 182 f) (mm k p : Nat) (l : List (Int32 × Int32)) (i : ab_I) (hmm : k < mm) (hk : (s 5).toNatClampNeg - p ≤ k) (hp : p ≤ (s 5).toNatClampNeg) (hl : l.length ≤ p) (hS : mS s u p l o i) : ab_R (hh + 1) tb_X11_both 9 [some (.ref 218)] [] i (mQ o i (rwL (tpV s) 1 f k (p, l))) := by
  induction mm generalizing k p l i with
  | zero => exact absurd hmm (by omega)
  | succ mm ih =>
    have hA := tpA_s hI
    refine r_go 1 rfl ?_ ?_
    · (simp only [ab_all] <;> decide)
    refine r_cv rfl rfl ((m_look hS.1 hI hS.2.1 hp)) (by omega) ?_
    refine r_go 1 rfl ?_ ?_
    · (simp only [ab_all] <;> decide)
    refine r_ne rfl (fun h15 => ?_) (fun h15 => ?_)
    · skip
      refine r_go 1 rfl ?_ ?_
      · (simp only [ab_all] <;> decide)
      refine r_ret rfl (by (first | exact Or.inl rfl | exact Or.inr rfl | exact bI_or)) ?_
      have q : ¬ sgT 1 (tpV s p) = true := by
          rw [sgT_1]
          intro z
          have z := of_decide_eq_true z
          exact h15 z
      rw [rwL_0 q]
      exact ⟨by rw [bI_t rfl], mE_ok hS rp_rf⟩
    · skip
      have q : sgT 1 (tpV s p) = true := by first | exact decide_eq_true (h15)
      have hpn := tp_s hA q
      refine r_go 7 rfl ?_ ?_
      · (simp only [ab_all] <;> decide)
      rw [hS.2.1, nI_add]
      refine r_c rfl rfl ((hf (p + 1) l _ (by omega) (by omega) (mS_p hS))) (by omega) ?_
      rintro v j ⟨rfl, E⟩
      obtain ⟨g1, g2, g3, g4⟩ := hg (p + 1) l (by omega)
      rw [rwL_1 q (by omega)]
      refine r_bN rfl (fun h32 => ?_) (fun h32 => ?_)
      · skip
        have hr : (f (p + 1, l)).1 = true := by first | exact h32 | assumption
        have S2 := mS_of (mS_p hS) E hr
        rw [if_pos hr]
        refine r_go 3 rfl ?_ ?_
        · (simp only [ab_all] <;> decide)
        refine r_cn rfl rfl ((m_lays _ _ S2.2.2.2.1 (by have := hA.1; omega))) (by omega) ?_
        refine r_go 1 rfl ?_ ?_
        · (simp only [ab_all] <;> decide)
        rw [← h15]
        refine r_lk (r_mono (ih (k - 1) _ _ _ (by omega) (by omega) g2 (by rw [List.length_cons]; omega) (mS_l (e := (nI 3, tpV s p)) S2)) ?_) rfl
        rintro v j2 ⟨rfl, E2⟩
        exact ⟨rfl, mE_b E2 (rp_tr (rp_tr (rp_u (Or.inl rfl)) E.1) rp_la)⟩
      · skip
        refine r_go 1 rfl ?_ ?_
        · (simp only [ab_all] <;> decide)
        refine r_ret rfl (by (first | exact Or.inl rfl | exact Or.inr rfl | exact bI_or)) ?_
        rw [if_neg (by first | exact h32 | assumption)]
        exact ⟨by rw [bI_f (by first | exact h32 | assumption)], mE_b E (rp_u (Or.inl rfl))⟩
theorem mwhole_loop {s : Vc} {u o hh : Nat} {f : PF} (hI : InS s) (h7 : 7 ≤ hh) (hg : gd u (s 5).toNatClampNeg f) (hf : rM s u o hh 181 f) (mm k p : Nat) (l : List (Int32 × Int32)) (i : ab_I) (hmm : k < mm) (hk : (s 5).toNatClampNeg - p ≤ k) (hp : p ≤ (s 5).toNatClampNeg) (hl : l.length ≤ p) (hS : mS s u p l o i) : ab_R (hh + 1) tb_X11_whole 9 [some (.ref 218)] [] i (mQ o i (rwL (tpV s) 0 f k (p, l))) := by
  induction mm generalizing k p l i with
  | zero => exact absurd hmm (by omega)
  | succ mm ih =>
    have hA := tpA_s hI
    refine r_go 1 rfl ?_ ?_
    · (simp only [ab_all] <;> decide)
    refine r_cv rfl rfl ((m_look hS.1 hI hS.2.1 hp)) (by omega) ?_
    refine r_go 1 rfl ?_ ?_
    · (simp only [ab_all] <;> decide)
    refine r_ne rfl (fun h15 => ?_) (fun h15 => ?_)
    · skip
      refine r_go 1 rfl ?_ ?_
      · (simp only [ab_all] <;> decide)
      refine r_ret rfl (by (first | exact Or.inl rfl | exact Or.inr rfl | exact bI_or)) ?_
      have q : ¬ sgT 0 (tpV s p) = true := by
          rw [sgT_0]
          intro z
          have z := of_decide_eq_true z
          exact h15 z
      rw [rwL_0 q]
      exact ⟨by rw [bI_t rfl], mE_ok hS rp_rf⟩
    · skip
      have q : sgT 0 (tpV s p) = true := by first | exact decide_eq_true (h15)
      have hpn := tp_s hA q
      refine r_go 7 rfl ?_ ?_
      · (simp only [ab_all] <;> decide)
      rw [hS.2.1, nI_add]
      refine r_c rfl rfl ((hf (p + 1) l _ (by omega) (by omega) (mS_p hS))) (by omega) ?_
      rintro v j ⟨rfl, E⟩
      obtain ⟨g1, g2, g3, g4⟩ := hg (p + 1) l (by omega)
      rw [rwL_1 q (by omega)]
      refine r_bN rfl (fun h32 => ?_) (fun h32 => ?_)
      · skip
        have hr : (f (p + 1, l)).1 = true := by first | exact h32 | assumption
        have S2 := mS_of (mS_p hS) E hr
        rw [if_pos hr]
        refine r_go 3 rfl ?_ ?_
        · (simp only [ab_all] <;> decide)
        refine r_cn rfl rfl ((m_lays _ _ S2.2.2.2.1 (by have := hA.1; omega))) (by omega) ?_
        refine r_go 1 rfl ?_ ?_
        · (simp only [ab_all] <;> decide)
        rw [← h15]
        refine r_lk (r_mono (ih (k - 1) _ _ _ (by omega) (by omega) g2 (by rw [List.length_cons]; omega) (mS_l (e := (nI 3, tpV s p)) S2)) ?_) rfl
        rintro v j2 ⟨rfl, E2⟩
        exact ⟨rfl, mE_b E2 (rp_tr (rp_tr (rp_u (Or.inl rfl)) E.1) rp_la)⟩
      · skip
        refine r_go 1 rfl ?_ ?_
        · (simp only [ab_all] <;> decide)
        refine r_ret rfl (by (first | exact Or.inl rfl | exact Or.inr rfl | exact bI_or)) ?_
        rw [if_neg (by first | exact h32 | assumption)]
        exact ⟨by rw [bI_f (by first | exact h32 | assumption)], mE_b E (rp_u (Or.inl rfl))⟩
