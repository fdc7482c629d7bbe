/-! text: the reference reads a single, the whole text -/
theorem nm_dg {u : Nat} {x : Int32} (h : nmB u x = true) : ¬ dgt x = true := by
  intro z
  have z := of_decide_eq_true z
  by_cases e : u = 0
  · subst e
    rw [nmB_0] at h
    have q := of_decide_eq_true h
    rcases q with rfl | rfl | rfl | rfl | rfl <;> revert z <;> decide
  · have h2 : nmB u x = decide (x = nI 102 ∨ x = nI 100 ∨ x = nI 109) := if_neg e
    rw [h2] at h
    have q := of_decide_eq_true h
    rcases q with rfl | rfl | rfl <;> revert z <;> decide
theorem so_f {a : Nat → Int32} {u p : Nat} {b : Bool} {F G : PF} {l : List (Int32 × Int32)} (q1 : ¬ dgt (a p) = true) (q2 : ¬ nmB u (a p) = true) (q3 : ¬ (b = true ∧ a p = nI 33)) (q4 : ¬ (b = true ∧ a p = nI 40)) : sg1 a u b F G (p, l) = (false, (p, l)) := (if_neg q1).trans ((if_neg q2).trans ((if_neg q3).trans (if_neg q4)))
theorem so_n {a : Nat → Int32} {u p : Nat} {b : Bool} {F G : PF} {l : List (Int32 × Int32)} (q1 : ¬ dgt (a p) = true) (q2 : ¬ nmB u (a p) = true) (hb : b = true) (q : a p = nI 33) : sg1 a u b F G (p, l) = (if (F (p + 1, l)).1 = true then (true, ((F (p + 1, l)).2.1, (nI 2, nI 0) :: (F (p + 1, l)).2.2)) else F (p + 1, l)) := (if_neg q1).trans ((if_neg q2).trans (if_pos ⟨hb, q⟩))
theorem so_g {a : Nat → Int32} {u p : Nat} {b : Bool} {F G : PF} {l : List (Int32 × Int32)} (q1 : ¬ dgt (a p) = true) (q2 : ¬ nmB u (a p) = true) (hb : b = true) (q : a p = nI 40) : sg1 a u b F G (p, l) = (if (G (p + 1, l)).1 = true then (if a (G (p + 1, l)).2.1 = nI 41 then (true, ((G (p + 1, l)).2.1 + 1, (G (p + 1, l)).2.2)) else (false, (G (p + 1, l)).2)) else G (p + 1, l)) := (if_neg q1).trans ((if_neg q2).trans ((if_neg (fun z => by have z2 := z.2; rw [q] at z2; exact absurd z2 (by decide))).trans (if_pos ⟨hb, q⟩)))
theorem mQ_f {o : Nat} {i j : ab_I} {R r : Bool × PS} (e : R = r) (hr : ¬ r.1 = true) (hE : mE o i r j) : mQ o i R (some (.int (nI 0))) j := by
  subst e
  exact ⟨by rw [bI_f hr], hE⟩
theorem mQ_t {o : Nat} {i j : ab_I} {R r : Bool × PS} (e : R = r) (hr : r.1 = true) (hE : mE o i r j) : mQ o i R (some (.int (nI 1))) j := by
  subst e
  exact ⟨by rw [bI_t hr], hE⟩
theorem mE_fl {o o' : Nat} {i i' j : ab_I} {r : Bool × PS} (h : mE o' i' r j) (hr : ¬ r.1 = true) (e : rp i i') : mE o i r j := ⟨rp_tr e h.1, h.2.1, fun z => absurd z hr⟩
theorem mE_f2 {o o' : Nat} {i i' j : ab_I} {r : Bool × PS} (h : mE o' i' r j) (e : rp i i') : mE o i (false, r.2) j := ⟨rp_tr e h.1, h.2.1, fun z => absurd z Bool.false_ne_true⟩
theorem rp_o {i : ab_I} {x y : Int32} : rp i (ab_up (ab_up i 218 6 x) 218 5 y) := rp_tr (rp_u (Or.inr (Or.inl rfl))) (rp_u (Or.inl rfl))
theorem m_opS {i : ab_I} {o p : Nat} (h6 : i 218 6 = nI o) (ho : o ≤ 5) (h5 : i 218 5 = nI p) : ab_K 0 185 [.ref 218] i (ab_V (.int (bI (o < 5))) (if o < 5 then ab_up (ab_up i 218 6 (nI (o + 1))) 218 5 (nI (p + 1)) else i)) := by
  by_cases h : o < 5
  · rw [if_pos h, bI_t h]
    exact m_opY h6 h h5
  · rw [if_neg h, bI_f h]
    have : o = 5 := by omega
    subst this
    exact m_opN h6
theorem m_one {s : Vc} {u o hh : Nat} {b : Bool} {F G : PF} (hI : InS s) (hu : u < 2) (h7 : 59 ≤ hh) (ho5 : o ≤ 5) (hb : b = true ↔ o < 5) (gF : gd u (s 5).toNatClampNeg F) (gG : gd u (s 5).toNatClampNeg G) (hF : o < 5 → rM s u (o + 1) hh 186 F) (hG : o < 5 → rM s u (o + 1) hh 180 G) (p : Nat) (l : List (Int32 × Int32)) (i : ab_I) (hp : p ≤ (s 5).toNatClampNeg) (hl : l.length ≤ p) (hS : mS s u p l o i) : ab_K (hh + 1) 186 [.ref 218] i (mQ o i (sg1 (tpV s) u b F G (p, l))) := by
  have hA := tpA_s hI
  have h60 := hA.1
  refine k_of rfl ?_
  refine r_go 1 rfl ?_ ?_
  · (simp only [ab_all] <;> decide)
  refine r_cv rfl rfl ((m_look hS.1 hI hS.2.1 hp)) (by omega) ?_
  refine r_go 3 rfl ?_ ?_
  · (simp only [ab_all] <;> decide)
  refine r_cv rfl rfl ((m_isNm u _ hu hS.2.2.2.2.1)) (by omega) ?_
  refine r_bE rfl (fun h10 => ?_) (fun h10 => ?_)
  · skip
    refine r_go 3 rfl ?_ ?_
    · (simp only [ab_all] <;> decide)
    refine r_cv rfl trivial ((m_isDg _)) (by omega) ?_
    refine r_bE rfl (fun h39 => ?_) (fun h39 => ?_)
    · skip
      refine r_go 2 rfl ?_ ?_
      · (simp only [ab_all] <;> decide)
      refine r_ne rfl (fun h105 => ?_) (fun h105 => ?_)
      · skip
        refine r_go 2 rfl ?_ ?_
        · (simp only [ab_all] <;> decide)
        refine r_ne rfl (fun h145 => ?_) (fun h145 => ?_)
        · skip
          refine r_go 1 rfl ?_ ?_
          · (simp only [ab_all] <;> decide)
          refine r_ret rfl (by (first | exact Or.inl rfl | exact Or.inr rfl | exact bI_or)) ?_
          first
              | (rw [if_neg h152]; exact mQ_f (so_f h39 h10 (fun z => h152 (hb.mp z.1)) (fun z => h152 (hb.mp z.1))) Bool.false_ne_true (mE_no hS rp_rf))
              | exact mQ_f (so_f h39 h10 (fun z => h105 z.2) (fun z => h145 z.2)) Bool.false_ne_true (mE_no hS rp_rf)
              | exact mQ_f ((so_g h39 h10 (hb.mpr h152) h145).trans ((if_pos h159).trans (if_neg h168))) Bool.false_ne_true (mE_f2 E rp_o)
              | exact mQ_f ((so_g h39 h10 (hb.mpr h152) h145).trans (if_neg h159)) h159 (mE_fl E h159 rp_o)
        · skip
          have hpn := tp_e hA (by decide) h145
          refine r_go 1 rfl ?_ ?_
          · (simp only [ab_all] <;> decide)
          refine r_cv rfl rfl ((m_opS hS.2.2.1 ho5 hS.2.1)) (by omega) ?_
          refine r_bE rfl (fun h152 => ?_) (fun h152 => ?_)
          · skip
            refine r_go 1 rfl ?_ ?_
            · (simp only [ab_all] <;> decide)
            refine r_ret rfl (by (first | exact Or.inl rfl | exact Or.inr rfl | exact bI_or)) ?_
            first
                | (rw [if_neg h152]; exact mQ_f (so_f h39 h10 (fun z => h152 (hb.mp z.1)) (fun z => h152 (hb.mp z.1))) Bool.false_ne_true (mE_no hS rp_rf))
                | exact mQ_f (so_f h39 h10 (fun z => h105 z.2) (fun z => h145 z.2)) Bool.false_ne_true (mE_no hS rp_rf)
                | exact mQ_f ((so_g h39 h10 (hb.mpr h152) h145).trans ((if_pos h159).trans (if_neg h168))) Bool.false_ne_true (mE_f2 E rp_o)
                | exact mQ_f ((so_g h39 h10 (hb.mpr h152) h145).trans (if_neg h159)) h159 (mE_fl E h159 rp_o)
          · skip
            rw [if_pos h152]
            refine r_go 1 rfl ?_ ?_
            · (simp only [ab_all] <;> decide)
            refine r_c rfl rfl ((hG h152 (p + 1) l _ (by omega) (by omega) (mS_p (mS_o hS)))) (by omega) ?_
            rintro v j ⟨rfl, E⟩
            refine r_bE rfl (fun h159 => ?_) (fun h159 => ?_)
            · skip
              refine r_go 1 rfl ?_ ?_
              · (simp only [ab_all] <;> decide)
              refine r_ret rfl (by (first | exact Or.inl rfl | exact Or.inr rfl | exact bI_or)) ?_
              first
                  | (rw [if_neg h152]; exact mQ_f (so_f h39 h10 (fun z => h152 (hb.mp z.1)) (fun z => h152 (hb.mp z.1))) Bool.false_ne_true (mE_no hS rp_rf))
                  | exact mQ_f (so_f h39 h10 (fun z => h105 z.2) (fun z => h145 z.2)) Bool.false_ne_true (mE_no hS rp_rf)
                  | exact mQ_f ((so_g h39 h10 (hb.mpr h152) h145).trans ((if_pos h159).trans (if_neg h168))) Bool.false_ne_true (mE_f2 E rp_o)
                  | exact mQ_f ((so_g h39 h10 (hb.mpr h152) h145).trans (if_neg h159)) h159 (mE_fl E h159 rp_o)
            · skip
              have S2 := mS_of (mS_p (mS_o hS)) E h159
              obtain ⟨g1, g2, g3, g4⟩ := gG (p + 1) l (by omega)
              refine r_go 1 rfl ?_ ?_
              · (simp only [ab_all] <;> decide)
              refine r_cv rfl rfl ((m_look S2.1 hI S2.2.1 g2)) (by omega) ?_
              refine r_go 1 rfl ?_ ?_
              · (simp only [ab_all] <;> decide)
              refine r_br rfl (fun h168 => ?_) (fun h168 => ?_)
              · skip
                refine r_go 13 rfl ?_ ?_
                · (simp only [ab_all] <;> decide)
                refine r_ret rfl (by (first | exact Or.inl rfl | exact Or.inr rfl | exact bI_or)) ?_
                rw [S2.2.1, nI_add, up_ne (by omega), S2.2.2.1, pk_sub (by omega), Nat.add_sub_cancel]
                exact mQ_t ((so_g h39 h10 (hb.mpr h152) h145).trans ((if_pos h159).trans (if_pos h168))) rfl (mE_ok (mS_o (o' := o) (mS_p S2)) (rp_tr (rp_tr (rp_tr rp_o E.1) (rp_u (Or.inl rfl))) (rp_u (Or.inr (Or.inl rfl)))))
              · skip
                refine r_go 1 rfl ?_ ?_
                · (simp only [ab_all] <;> decide)
                refine r_ret rfl (by (first | exact Or.inl rfl | exact Or.inr rfl | exact bI_or)) ?_
                first
                    | (rw [if_neg h152]; exact mQ_f (so_f h39 h10 (fun z => h152 (hb.mp z.1)) (fun z => h152 (hb.mp z.1))) Bool.false_ne_true (mE_no hS rp_rf))
                    | exact mQ_f (so_f h39 h10 (fun z => h105 z.2) (fun z => h145 z.2)) Bool.false_ne_true (mE_no hS rp_rf)
                    | exact mQ_f ((so_g h39 h10 (hb.mpr h152) h145).trans ((if_pos h159).trans (if_neg h168))) Bool.false_ne_true (mE_f2 E rp_o)
                    | exact mQ_f ((so_g h39 h10 (hb.mpr h152) h145).trans (if_neg h159)) h159 (mE_fl E h159 rp_o)
      · skip
        have hpn := tp_e hA (by decide) h105
        refine r_go 1 rfl ?_ ?_
        · (simp only [ab_all] <;> decide)
        refine r_cv rfl rfl ((m_opS hS.2.2.1 ho5 hS.2.1)) (by omega) ?_
        refine r_bE rfl (fun h112 => ?_) (fun h112 => ?_)
        · skip
          refine r_go 1 rfl ?_ ?_
          · (simp only [ab_all] <;> decide)
          refine r_ret rfl (by (first | exact Or.inl rfl | exact Or.inr rfl | exact bI_or)) ?_
          first
              | (rw [if_neg h112]; exact mQ_f (so_f h39 h10 (fun z => h112 (hb.mp z.1)) (fun z => h112 (hb.mp z.1))) Bool.false_ne_true (mE_no hS rp_rf))
              | exact mQ_f ((so_n h39 h10 (hb.mpr h112) h105).trans (if_neg h119)) h119 (mE_fl E h119 rp_o)
        · skip
          rw [if_pos h112]
          refine r_go 1 rfl ?_ ?_
          · (simp only [ab_all] <;> decide)
          refine r_c rfl rfl ((hF h112 (p + 1) l _ (by omega) (by omega) (mS_p (mS_o hS)))) (by omega) ?_
          rintro v j ⟨rfl, E⟩
          refine r_bN rfl (fun h119 => ?_) (fun h119 => ?_)
          · skip
            have S2 := mS_of (mS_p (mS_o hS)) E h119
            obtain ⟨g1, g2, g3, g4⟩ := gF (p + 1) l (by omega)
            refine r_go 9 rfl ?_ ?_
            · (simp only [ab_all] <;> decide)
            rw [S2.2.2.1, pk_sub (by omega), Nat.add_sub_cancel]
            refine r_cn rfl rfl ((m_lays _ _ (mS_o (o' := o) S2).2.2.2.1 (by omega))) (by omega) ?_
            refine r_go 1 rfl ?_ ?_
            · (simp only [ab_all] <;> decide)
            refine r_ret rfl (by (first | exact Or.inl rfl | exact Or.inr rfl | exact bI_or)) ?_
            exact mQ_t ((so_n h39 h10 (hb.mpr h112) h105).trans (if_pos h119)) rfl (mE_ok (mS_l (e := (nI 2, nI 0)) (mS_o (o' := o) S2)) (rp_tr (rp_tr (rp_tr rp_o E.1) (rp_u (Or.inr (Or.inl rfl)))) rp_la))
          · skip
            refine r_go 1 rfl ?_ ?_
            · (simp only [ab_all] <;> decide)
            refine r_ret rfl (by (first | exact Or.inl rfl | exact Or.inr rfl | exact bI_or)) ?_
            first
                | (rw [if_neg h112]; exact mQ_f (so_f h39 h10 (fun z => h112 (hb.mp z.1)) (fun z => h112 (hb.mp z.1))) Bool.false_ne_true (mE_no hS rp_rf))
                | exact mQ_f ((so_n h39 h10 (hb.mpr h112) h105).trans (if_neg h119)) h119 (mE_fl E h119 rp_o)
    · skip
      refine r_go 4 rfl ?_ ?_
      · (simp only [ab_all] <;> decide)
      have K := mn_loop hI hS (show l.length < 60 by have := tp_d hA h39; omega) 5 0 0 p (by decide) (by decide) hp
      rw [up_id hS.2.1] at K
      rw [show sg1 (tpV s) u b F G (p, l) = (true, ((nbL (tpV s) (4 - 0) 0 p).2, (nI 0, nI (nbL (tpV s) (4 - 0) 0 p).1) :: l)) from if_pos h39]
      exact r_deep (r_lk K rfl) (by omega)
  · skip
    have hpn := tp_n hA h10
    refine r_go 9 rfl ?_ ?_
    · (simp only [ab_all] <;> decide)
    rw [hS.2.1, nI_add]
    refine r_cn rfl rfl ((m_lays _ _ ((up_ne (by omega)).trans hS.2.2.2.1) (by omega))) (by omega) ?_
    refine r_go 1 rfl ?_ ?_
    · (simp only [ab_all] <;> decide)
    refine r_ret rfl (by (first | exact Or.inl rfl | exact Or.inr rfl | exact bI_or)) ?_
    exact mQ_t ((if_neg (nm_dg h10)).trans (if_pos h10)) rfl (mE_ok (mS_l (e := (nI 1, tpV s p)) (mS_p hS)) (rp_tr (rp_u (Or.inl rfl)) rp_la))
theorem m_lvl {s : Vc} {u o hh : Nat} {f : PF} (hI : InS s) (h7 : 7 ≤ hh) (hg : gd u (s 5).toNatClampNeg f) (K : rM s u o hh 186 f) : rM s u o (hh + 5) 180 (lvl (tpV s) f 5) := by
  have hA := tpA_s hI
  have K1 : rM s u o (hh + 1) 184 (lvl (tpV s) f 1) := fun p l i a b c => m_product hI h7 hg K p l i a b c
  have K2 : rM s u o (hh + 2) 183 (lvl (tpV s) f 2) := fun p l i a b c => m_sum hI (by omega) (gd_lvl hA hg 1) K1 p l i a b c
  have K3 : rM s u o (hh + 3) 182 (lvl (tpV s) f 3) := fun p l i a b c => m_compared hI (by omega) (gd_lvl hA hg 2) K2 p l i a b c
  have K4 : rM s u o (hh + 4) 181 (lvl (tpV s) f 4) := fun p l i a b c => m_both hI (by omega) (gd_lvl hA hg 3) K3 p l i a b c
  exact fun p l i a b c => m_whole hI (by omega) (gd_lvl hA hg 4) K4 p l i a b c
theorem m_sgl {s : Vc} {u : Nat} (hu : u < 2) (hI : InS s) : ∀ d, d ≤ 5 → rM s u (5 - d) (60 + 6 * d) 186 (sgl (tpV s) u d)
  | 0, _ => fun p l i a b c => m_one (o := 5) (hh := 59) (b := false) hI hu (Nat.le_refl _) (Nat.le_refl _) ⟨fun z => absurd z (by decide), fun z => absurd z (by decide)⟩ gd_f gd_f (fun z => absurd z (by decide)) (fun z => absurd z (by decide)) p l i a b c
  | d + 1, hd => fun p l i a b c => by
    have hA := tpA_s hI
    have K := m_sgl hu hI d (by omega)
    have KG := m_lvl hI (show 7 ≤ 60 + 6 * d by omega) (gd_sgl hu hA d) K
    rw [show 5 - d = 5 - (d + 1) + 1 by omega] at K KG
    rw [show 60 + 6 * (d + 1) = 60 + 6 * d + 5 + 1 by omega]
    exact m_one (o := 5 - (d + 1)) (hh := 60 + 6 * d + 5) (b := true) hI hu (by omega) (by omega) ⟨fun _ => by omega, fun _ => rfl⟩ (gd_sgl hu hA d) (gd_lvl hA (gd_sgl hu hA d) 5) (fun _ p l i a b c => k_deep (K p l i a b c) (by omega)) (fun _ => KG) p l i a b c
theorem m_txR {s : Vc} {u : Nat} (hu : u < 2) (hI : InS s) {i : ab_I} (hS : mS s u 0 [] 0 i) : ab_K 95 180 [.ref 218] i (mQ 0 i (txR (tpV s) u)) :=
  m_lvl (o := 0) hI (show 7 ≤ 60 + 6 * 5 by decide) (gd_sgl hu (tpA_s hI) 5) (m_sgl hu hI 5 (by decide)) 0 [] i (Nat.zero_le _) (by decide) hS
