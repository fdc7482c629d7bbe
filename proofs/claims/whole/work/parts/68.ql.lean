/-! text: the reference's rows, the whole methods; written by mk68.py -/
theorem rwW_1 {a : Nat → Int32} {t : Nat} {f : PF} {st : PS} (h : (f st).1 = true) : rwW a t f st = rwL a t f (mst t) (f st).2 := if_pos h
theorem rwW_0 {a : Nat → Int32} {t : Nat} {f : PF} {st : PS} (h : ¬ (f st).1 = true) : rwW a t f st = f st := if_neg h
theorem m_product {s : Vc} {u o hh : Nat} {f : PF} (hI : InS s) (h7 : 7 ≤ hh) (hg : gd u (s 5).toNatClampNeg f) (hf : rM s u o hh 186 f) (p : Nat) (l : List (Int32 × Int32)) (i : ab_I) (hp : p ≤ (s 5).toNatClampNeg) (hl : l.length ≤ p) (hS : mS s u p l o i) : ab_K (hh + 1) 184 [.ref 218] i (mQ o i (rwW (tpV s) 4 f (p, l))) := by
  obtain ⟨g1, g2, g3, g4⟩ := hg p l hp
  have hA := tpA_s hI
  have h60 := hA.1
  refine k_of rfl ?_
  refine r_go 1 rfl ?_ ?_
  · (first | exact trivial | assumption | (simp (disch := omega) [ab_all, ab_nz, *]; done))
  refine r_c rfl rfl ((hf p l i hp hl hS)) (by omega) ?_
  rintro v j ⟨rfl, E⟩
  refine r_bN rfl (fun h4 => ?_) (fun h4 => ?_)
  · skip
    have hr : (f (p, l)).1 = true := by first | exact h4 | assumption
    rw [rwW_1 hr]
    have K := mproduct_loop (f := f) hI h7 hg hf 61 (mst 4) (f (p, l)).2.1 (f (p, l)).2.2 j (by decide) (by show _ ≤ 60; omega) g2 (by omega) (mS_of hS E hr)
    refine r_lk (r_mono K ?_) rfl
    rintro v j2 ⟨rfl, E2⟩
    exact ⟨rfl, mE_b E2 E.1⟩
  · skip
    refine r_go 1 rfl ?_ ?_
    · (first | exact trivial | assumption | (simp (disch := omega) [ab_all, ab_nz, *]; done))
    refine r_ret rfl (by (first | exact Or.inl rfl | exact Or.inr rfl | exact bI_or)) ?_
    have hr : ¬ (f (p, l)).1 = true := by first | exact h4 | assumption
    rw [rwW_0 hr]
    exact ⟨by rw [bI_f hr], E⟩
theorem m_sum {s : Vc} {u o hh : Nat} {f : PF} (hI : InS s) (h7 : 7 ≤ hh) (hg : gd u (s 5).toNatClampNeg f) (hf : rM s u o hh 184 f) (p : Nat) (l : List (Int32 × Int32)) (i : ab_I) (hp : p ≤ (s 5).toNatClampNeg) (hl : l.length ≤ p) (hS : mS s u p l o i) : ab_K (hh + 1) 183 [.ref 218] i (mQ o i (rwW (tpV s) 3 f (p, l))) := by
  obtain ⟨g1, g2, g3, g4⟩ := hg p l hp
  have hA := tpA_s hI
  have h60 := hA.1
  refine k_of rfl ?_
  refine r_go 1 rfl ?_ ?_
  · (first | exact trivial | assumption | (simp (disch := omega) [ab_all, ab_nz, *]; done))
  refine r_c rfl rfl ((hf p l i hp hl hS)) (by omega) ?_
  rintro v j ⟨rfl, E⟩
  refine r_bN rfl (fun h4 => ?_) (fun h4 => ?_)
  · skip
    have hr : (f (p, l)).1 = true := by first | exact h4 | assumption
    rw [rwW_1 hr]
    have K := msum_loop (f := f) hI h7 hg hf 61 (mst 3) (f (p, l)).2.1 (f (p, l)).2.2 j (by decide) (by show _ ≤ 60; omega) g2 (by omega) (mS_of hS E hr)
    refine r_lk (r_mono K ?_) rfl
    rintro v j2 ⟨rfl, E2⟩
    exact ⟨rfl, mE_b E2 E.1⟩
  · skip
    refine r_go 1 rfl ?_ ?_
    · (first | exact trivial | assumption | (simp (disch := omega) [ab_all, ab_nz, *]; done))
    refine r_ret rfl (by (first | exact Or.inl rfl | exact Or.inr rfl | exact bI_or)) ?_
    have hr : ¬ (f (p, l)).1 = true := by first | exact h4 | assumption
    rw [rwW_0 hr]
    exact ⟨by rw [bI_f hr], E⟩
theorem m_both {s : Vc} {u o hh : Nat} {f : PF} (hI : InS s) (h7 : 7 ≤ hh) (hg : gd u (s 5).toNatClampNeg f) (hf : rM s u o hh 182 f) (p : Nat) (l : List (Int32 × Int32)) (i : ab_I) (hp : p ≤ (s 5).toNatClampNeg) (hl : l.length ≤ p) (hS : mS s u p l o i) : ab_K (hh + 1) 181 [.ref 218] i (mQ o i (rwW (tpV s) 1 f (p, l))) := by
  obtain ⟨g1, g2, g3, g4⟩ := hg p l hp
  have hA := tpA_s hI
  have h60 := hA.1
  refine k_of rfl ?_
  refine r_go 1 rfl ?_ ?_
  · (first | exact trivial | assumption | (simp (disch := omega) [ab_all, ab_nz, *]; done))
  refine r_c rfl rfl ((hf p l i hp hl hS)) (by omega) ?_
  rintro v j ⟨rfl, E⟩
  refine r_bN rfl (fun h4 => ?_) (fun h4 => ?_)
  · skip
    have hr : (f (p, l)).1 = true := by first | exact h4 | assumption
    rw [rwW_1 hr]
    have K := mboth_loop (f := f) hI h7 hg hf 61 (mst 1) (f (p, l)).2.1 (f (p, l)).2.2 j (by decide) (by show _ ≤ 60; omega) g2 (by omega) (mS_of hS E hr)
    refine r_lk (r_mono K ?_) rfl
    rintro v j2 ⟨rfl, E2⟩
    exact ⟨rfl, mE_b E2 E.1⟩
  · skip
    refine r_go 1 rfl ?_ ?_
    · (first | exact trivial | assumption | (simp (disch := omega) [ab_all, ab_nz, *]; done))
    refine r_ret rfl (by (first | exact Or.inl rfl | exact Or.inr rfl | exact bI_or)) ?_
    have hr : ¬ (f (p, l)).1 = true := by first | exact h4 | assumption
    rw [rwW_0 hr]
    exact ⟨by rw [bI_f hr], E⟩
theorem m_whole {s : Vc} {u o hh : Nat} {f : PF} (hI : InS s) (h7 : 7 ≤ hh) (hg : gd u (s 5).toNatClampNeg f) (hf : rM s u o hh 181 f) (p : Nat) (l : List (Int32 × Int32)) (i : ab_I) (hp : p ≤ (s 5).toNatClampNeg) (hl : l.length ≤ p) (hS : mS s u p l o i) : ab_K (hh + 1) 180 [.ref 218] i (mQ o i (rwW (tpV s) 0 f (p, l))) := by
  obtain ⟨g1, g2, g3, g4⟩ := hg p l hp
  have hA := tpA_s hI
  have h60 := hA.1
  refine k_of rfl ?_
  refine r_go 1 rfl ?_ ?_
  · (first | exact trivial | assumption | (simp (disch := omega) [ab_all, ab_nz, *]; done))
  refine r_c rfl rfl ((hf p l i hp hl hS)) (by omega) ?_
  rintro v j ⟨rfl, E⟩
  refine r_bN rfl (fun h4 => ?_) (fun h4 => ?_)
  · skip
    have hr : (f (p, l)).1 = true := by first | exact h4 | assumption
    rw [rwW_1 hr]
    have K := mwhole_loop (f := f) hI h7 hg hf 61 (mst 0) (f (p, l)).2.1 (f (p, l)).2.2 j (by decide) (by show _ ≤ 60; omega) g2 (by omega) (mS_of hS E hr)
    refine r_lk (r_mono K ?_) rfl
    rintro v j2 ⟨rfl, E2⟩
    exact ⟨rfl, mE_b E2 E.1⟩
  · skip
    refine r_go 1 rfl ?_ ?_
    · (first | exact trivial | assumption | (simp (disch := omega) [ab_all, ab_nz, *]; done))
    refine r_ret rfl (by (first | exact Or.inl rfl | exact Or.inr rfl | exact bI_or)) ?_
    have hr : ¬ (f (p, l)).1 = true := by first | exact h4 | assumption
    rw [rwW_0 hr]
    exact ⟨by rw [bI_f hr], E⟩
theorem mcomp_tail {s : Vc} {u o hh : Nat} {f : PF} (hI : InS s) (h7 : 7 ≤ hh) (hg : gd u (s 5).toNatClampNeg f) (hf : rM s u o hh 183 f) (p : Nat) (l : List (Int32 × Int32)) (i : ab_I) (hp : p ≤ (s 5).toNatClampNeg) (hl : l.length ≤ p) (hS : mS s u p l o i) : ab_R (hh + 1) tb_X11_compared 9 [some (.ref 218), none] [] i (mQ o i (rwL (tpV s) 2 f 1 (p, l))) := by
  have hA := tpA_s hI
  refine r_go 1 rfl ?_ ?_
  · (simp only [ab_all] <;> decide)
  refine r_cv rfl rfl ((m_look hS.1 hI hS.2.1 hp)) (by omega) ?_
  refine r_go 3 rfl ?_ ?_
  · (simp only [ab_all] <;> decide)
  refine r_br rfl (fun h17 => ?_) (fun h17 => ?_)
  · skip
    have q : sgT 2 (tpV s p) = true := by first | exact decide_eq_true (Or.inl h17) | exact decide_eq_true (Or.inr (Or.inl h23)) | exact decide_eq_true (Or.inr (Or.inr h29))
    have hpn := tp_s hA q
    refine r_go 7 rfl ?_ ?_
    · (simp only [ab_all] <;> decide)
    rw [hS.2.1, nI_add]
    refine r_c rfl rfl ((hf (p + 1) l _ (by omega) (by omega) (mS_p hS))) (by omega) ?_
    rintro v j ⟨rfl, E⟩
    obtain ⟨g1, g2, g3, g4⟩ := hg (p + 1) l (by omega)
    rw [rwL_1 q (by omega)]
    refine r_bN rfl (fun h48 => ?_) (fun h48 => ?_)
    · skip
      have hr : (f (p + 1, l)).1 = true := by first | exact h48 | assumption
      have S2 := mS_of (mS_p hS) E hr
      rw [if_pos hr]
      refine r_go 3 rfl ?_ ?_
      · (simp only [ab_all] <;> decide)
      refine r_cn rfl rfl ((m_lays _ _ S2.2.2.2.1 (by have := hA.1; omega))) (by omega) ?_
      refine r_go 1 rfl ?_ ?_
      · (simp only [ab_all] <;> decide)
      refine r_ret rfl (by (first | exact Or.inl rfl | exact Or.inr rfl | exact bI_or)) ?_
      exact (show mQ o i (true, ((f (p + 1, l)).2.1, (nI 3, tpV s p) :: (f (p + 1, l)).2.2)) _ _ from ⟨by rw [bI_t rfl], mE_ok (mS_l (e := (nI 3, tpV s p)) S2) (rp_tr (rp_tr (rp_u (Or.inl rfl)) E.1) rp_la)⟩)
    · skip
      refine r_go 1 rfl ?_ ?_
      · (simp only [ab_all] <;> decide)
      refine r_ret rfl (by (first | exact Or.inl rfl | exact Or.inr rfl | exact bI_or)) ?_
      rw [if_neg (by first | exact h48 | assumption)]
      exact ⟨by rw [bI_f (by first | exact h48 | assumption)], mE_b E (rp_u (Or.inl rfl))⟩
  · skip
    refine r_go 2 rfl ?_ ?_
    · (simp only [ab_all] <;> decide)
    refine r_br rfl (fun h23 => ?_) (fun h23 => ?_)
    · skip
      have q : sgT 2 (tpV s p) = true := by first | exact decide_eq_true (Or.inl h17) | exact decide_eq_true (Or.inr (Or.inl h23)) | exact decide_eq_true (Or.inr (Or.inr h29))
      have hpn := tp_s hA q
      refine r_go 7 rfl ?_ ?_
      · (simp only [ab_all] <;> decide)
      rw [hS.2.1, nI_add]
      refine r_c rfl rfl ((hf (p + 1) l _ (by omega) (by omega) (mS_p hS))) (by omega) ?_
      rintro v j ⟨rfl, E⟩
      obtain ⟨g1, g2, g3, g4⟩ := hg (p + 1) l (by omega)
      rw [rwL_1 q (by omega)]
      refine r_bN rfl (fun h48 => ?_) (fun h48 => ?_)
      · skip
        have hr : (f (p + 1, l)).1 = true := by first | exact h48 | assumption
        have S2 := mS_of (mS_p hS) E hr
        rw [if_pos hr]
        refine r_go 3 rfl ?_ ?_
        · (simp only [ab_all] <;> decide)
        refine r_cn rfl rfl ((m_lays _ _ S2.2.2.2.1 (by have := hA.1; omega))) (by omega) ?_
        refine r_go 1 rfl ?_ ?_
        · (simp only [ab_all] <;> decide)
        refine r_ret rfl (by (first | exact Or.inl rfl | exact Or.inr rfl | exact bI_or)) ?_
        exact (show mQ o i (true, ((f (p + 1, l)).2.1, (nI 3, tpV s p) :: (f (p + 1, l)).2.2)) _ _ from ⟨by rw [bI_t rfl], mE_ok (mS_l (e := (nI 3, tpV s p)) S2) (rp_tr (rp_tr (rp_u (Or.inl rfl)) E.1) rp_la)⟩)
      · skip
        refine r_go 1 rfl ?_ ?_
        · (simp only [ab_all] <;> decide)
        refine r_ret rfl (by (first | exact Or.inl rfl | exact Or.inr rfl | exact bI_or)) ?_
        rw [if_neg (by first | exact h48 | assumption)]
        exact ⟨by rw [bI_f (by first | exact h48 | assumption)], mE_b E (rp_u (Or.inl rfl))⟩
    · skip
      refine r_go 2 rfl ?_ ?_
      · (simp only [ab_all] <;> decide)
      refine r_br rfl (fun h29 => ?_) (fun h29 => ?_)
      · skip
        have q : sgT 2 (tpV s p) = true := by first | exact decide_eq_true (Or.inl h17) | exact decide_eq_true (Or.inr (Or.inl h23)) | exact decide_eq_true (Or.inr (Or.inr h29))
        have hpn := tp_s hA q
        refine r_go 7 rfl ?_ ?_
        · (simp only [ab_all] <;> decide)
        rw [hS.2.1, nI_add]
        refine r_c rfl rfl ((hf (p + 1) l _ (by omega) (by omega) (mS_p hS))) (by omega) ?_
        rintro v j ⟨rfl, E⟩
        obtain ⟨g1, g2, g3, g4⟩ := hg (p + 1) l (by omega)
        rw [rwL_1 q (by omega)]
        refine r_bN rfl (fun h48 => ?_) (fun h48 => ?_)
        · skip
          have hr : (f (p + 1, l)).1 = true := by first | exact h48 | assumption
          have S2 := mS_of (mS_p hS) E hr
          rw [if_pos hr]
          refine r_go 3 rfl ?_ ?_
          · (simp only [ab_all] <;> decide)
          refine r_cn rfl rfl ((m_lays _ _ S2.2.2.2.1 (by have := hA.1; omega))) (by omega) ?_
          refine r_go 1 rfl ?_ ?_
          · (simp only [ab_all] <;> decide)
          refine r_ret rfl (by (first | exact Or.inl rfl | exact Or.inr rfl | exact bI_or)) ?_
          exact (show mQ o i (true, ((f (p + 1, l)).2.1, (nI 3, tpV s p) :: (f (p + 1, l)).2.2)) _ _ from ⟨by rw [bI_t rfl], mE_ok (mS_l (e := (nI 3, tpV s p)) S2) (rp_tr (rp_tr (rp_u (Or.inl rfl)) E.1) rp_la)⟩)
        · skip
          refine r_go 1 rfl ?_ ?_
          · (simp only [ab_all] <;> decide)
          refine r_ret rfl (by (first | exact Or.inl rfl | exact Or.inr rfl | exact bI_or)) ?_
          rw [if_neg (by first | exact h48 | assumption)]
          exact ⟨by rw [bI_f (by first | exact h48 | assumption)], mE_b E (rp_u (Or.inl rfl))⟩
      · skip
        refine r_go 1 rfl ?_ ?_
        · (simp only [ab_all] <;> decide)
        refine r_ret rfl (by (first | exact Or.inl rfl | exact Or.inr rfl | exact bI_or)) ?_
        have q : ¬ sgT 2 (tpV s p) = true := by
            rw [sgT_2]
            intro z
            have z := of_decide_eq_true z
            rcases z with z | z | z <;> first | exact h17 z | exact h23 z | exact h29 z
        rw [rwL_0 q]
        exact ⟨by rw [bI_t rfl], mE_ok hS rp_rf⟩
theorem m_compared {s : Vc} {u o hh : Nat} {f : PF} (hI : InS s) (h7 : 7 ≤ hh) (hg : gd u (s 5).toNatClampNeg f) (hf : rM s u o hh 183 f) (p : Nat) (l : List (Int32 × Int32)) (i : ab_I) (hp : p ≤ (s 5).toNatClampNeg) (hl : l.length ≤ p) (hS : mS s u p l o i) : ab_K (hh + 1) 182 [.ref 218] i (mQ o i (rwW (tpV s) 2 f (p, l))) := by
  obtain ⟨g1, g2, g3, g4⟩ := hg p l hp
  have hA := tpA_s hI
  have h60 := hA.1
  refine k_of rfl ?_
  refine r_go 1 rfl ?_ ?_
  · (first | exact trivial | assumption | (simp (disch := omega) [ab_all, ab_nz, *]; done))
  refine r_c rfl rfl ((hf p l i hp hl hS)) (by omega) ?_
  rintro v j ⟨rfl, E⟩
  refine r_bN rfl (fun h4 => ?_) (fun h4 => ?_)
  · skip
    have hr : (f (p, l)).1 = true := by first | exact h4 | assumption
    rw [rwW_1 hr]
    have K := mcomp_tail (f := f) hI h7 hg hf (f (p, l)).2.1 (f (p, l)).2.2 j g2 (by omega) (mS_of hS E hr)
    refine r_lk (r_mono K ?_) rfl
    rintro v j2 ⟨rfl, E2⟩
    exact ⟨rfl, mE_b E2 E.1⟩
  · skip
    refine r_go 1 rfl ?_ ?_
    · (first | exact trivial | assumption | (simp (disch := omega) [ab_all, ab_nz, *]; done))
    refine r_ret rfl (by (first | exact Or.inl rfl | exact Or.inr rfl | exact bI_or)) ?_
    have hr : ¬ (f (p, l)).1 = true := by first | exact h4 | assumption
    rw [rwW_0 hr]
    exact ⟨by rw [bI_f hr], E⟩
