/-! the class's reader: a single -/
theorem sg_ad {hh len : Nat} {x y : Int32} {i : ab_I} (h7 : 7 ≤ hh) (hl : i 70 1 = nI len) (h60 : len < 60) : ab_R (hh + 1) tb_X4_readSingle 88 [some (.ref 69), some (.int x), some (.int y)] [] i (ab_N (adE i len (-33))) := by
  refine r_go 3 rfl ?_ ?_
  · ((try simp only [ab_all]) <;> decide)
  refine r_cn rfl rfl ((k_add _ isR_70 hl (by omega))) (by omega) ?_
  refine r_go 1 rfl ?_ ?_
  · ((try simp only [ab_all]) <;> decide)
  refine r_ret rfl trivial ?_
  rw [if_pos h60]
  exact ⟨rfl, rfl⟩
theorem sp_no {hh : Nat} {x y : Int32} {i : ab_I} (hf : i 69 4 = nI 1) : ab_R (hh + 1) tb_X4_readSingle 129 [some (.ref 69), some (.int x), some (.int y)] [] i (ab_N i) := by
  refine r_go 2 rfl ?_ ?_
  · ((try simp only [ab_all]) <;> decide)
  refine r_brT rfl (fun z => by rw [hf] at z; exact absurd z (by decide)) ?_
  refine r_go 4 rfl ?_ ?_
  · ((try simp only [ab_all]) <;> decide)
  refine r_ret rfl trivial ?_
  rw [up_id hf]
  exact ⟨rfl, rfl⟩
theorem sp_ok {n u p hh : Nat} {a : Nat → Int32} {l : List (Int32 × Int32)} {x y : Int32} {i : ab_I} (h : tpA n a) (h7 : 7 ≤ hh) (hp : p ≤ n) (hS : cS n a u p l i) : ab_R (hh + 1) tb_X4_readSingle 129 [some (.ref 69), some (.int x), some (.int y)] [] i (ab_N (if a p = nI 41 then ab_up i 69 3 (nI (p + 1)) else ab_up i 69 4 (nI 1))) := by
  refine r_go 2 rfl ?_ ?_
  · ((try simp only [ab_all]) <;> decide)
  refine r_brF rfl (fun z => z hS.2.2.2.1) ?_
  refine r_go 1 rfl ?_ ?_
  · ((try simp only [ab_all]) <;> decide)
  refine r_cv rfl rfl ((k_here h hS.1 hS.2.2.1 hp)) (by omega) ?_
  refine r_go 1 rfl ?_ ?_
  · ((try simp only [ab_all]) <;> decide)
  refine r_br rfl (fun h142 => ?_) (fun h142 => ?_)
  · skip
    refine r_go 7 rfl ?_ ?_
    · ((try simp only [ab_all]) <;> decide)
    refine r_ret rfl trivial ?_
    rw [hcr_k h p (by decide) (by decide)] at h142
    first | (rw [if_pos h142, hS.2.2.1, nI_add]; exact ⟨rfl, rfl⟩) | (rw [if_neg h142]; exact ⟨rfl, rfl⟩)
  · skip
    refine r_go 4 rfl ?_ ?_
    · ((try simp only [ab_all]) <;> decide)
    refine r_ret rfl trivial ?_
    rw [hcr_k h p (by decide) (by decide)] at h142
    first | (rw [if_pos h142, hS.2.2.1, nI_add]; exact ⟨rfl, rfl⟩) | (rw [if_neg h142]; exact ⟨rfl, rfl⟩)
theorem enc_0 {u : Nat} {x : Int32} : enc u (nI 0, x) = x := if_pos rfl
theorem enc_1 {u : Nat} {x : Int32} : enc u (nI 1, x) = (-1) - nI (idN u x) := by
  unfold enc
  rw [if_neg (by show ¬ nI 1 = nI 0; decide), if_pos rfl]
theorem enc_2 {u : Nat} {x : Int32} : enc u (nI 2, x) = (-33) := by
  unfold enc
  rw [if_neg (by show ¬ nI 2 = nI 0; decide), if_neg (by show ¬ nI 2 = nI 1; decide), if_pos rfl]
theorem nm_rf {u : Nat} {i : ab_I} (h : i 69 2 = nI (u + 2)) (hu : u < 2) : 999 + (i 69 2).toNatClampNeg = 1000 + (1 + u) := by
  rw [h, nI_cl (by omega)]
  omega
theorem k_single {n o u hh : Nat} {a : Nat → Int32} {b : Bool} {F G : PF} (hu : u < 2) (h : tpA n a) (h7 : 7 ≤ hh) (ho5 : o ≤ 5) (hb : b = true ↔ o < 5) (gF : gd u n F) (gG : gd u n G) (hF : o < 5 → rK n a u hh 60 [.ref 69, .int (nI (o + 1))] F) (hG : o < 5 → rK n a u hh 59 [.ref 69, .int (nI 0), .int (nI (o + 1))] G) (p : Nat) (l : List (Int32 × Int32)) (i : ab_I) (hp : p ≤ n) (hl : l.length ≤ p) (hS : cS n a u p l i) : ab_K (hh + 1) 60 [.ref 69, .int (nI o)] i (cQ u p l i (sg1 a u b F G (p, l))) := by
  obtain ⟨c, hc, eb⟩ := hcr_c h p
  have h60 := h.1
  have hpos : 0 < (i 69 2).toInt := by rw [hS.2.1, c_i (by omega)]; omega
  have e1 := hcr_d h p
  have e2 := hcr_n h u p
  rw [eb] at e1 e2
  have e2' := ix_nm u hu c hc
  have e3 : ∀ k, k < 1000 → 0 < k → (nI c = nI k) = (a p = nI k) := fun k q z => by rw [← eb]; exact hcr_k h p q z
  refine k_of rfl ?_
  refine r_go 1 rfl ?_ ?_
  · ((try simp only [ab_all]) <;> repeat' (first | exact hpos | (rw [up_ne (by omega)]; exact hpos) | refine And.intro ?_ ?_ | decide))
  refine r_cv rfl (by first | rfl | exact (show 1000 ≤ 1000 + (1 + u) ∧ 1000 + (1 + u) < 1008 by omega) | trivial) ((k_here h hS.1 hS.2.2.1 hp)) (by omega) ?_
  rw [eb]
  refine r_go 2 rfl ?_ ?_
  · ((try simp only [ab_all]) <;> repeat' (first | exact hpos | (rw [up_ne (by omega)]; exact hpos) | refine And.intro ?_ ?_ | decide))
  refine r_cv rfl trivial ((k_isDg _)) (by omega) ?_
  refine r_bE rfl (fun h9 => ?_) (fun h9 => ?_)
  · skip
    have q1 : ¬ dgt (a p) = true := by rw [← e1]; exact h9
    refine r_go 3 rfl ?_ ?_
    · ((try simp only [ab_all]) <;> repeat' (first | exact hpos | (rw [up_ne (by omega)]; exact hpos) | refine And.intro ?_ ?_ | decide))
    rw [nm_rf hS.2.1 hu]
    refine r_cv rfl (by first | rfl | exact (show 1000 ≤ 1000 + (1 + u) ∧ 1000 + (1 + u) < 1008 by omega) | trivial) ((k_ix (nI c) (by omega) (b_rg hc))) (by omega) ?_
    refine r_br rfl (fun h27 => ?_) (fun h27 => ?_)
    · skip
      have q2 : ¬ nmB u (a p) = true := by rw [← e2, e2']; exact fun z => of_decide_eq_true z h27
      refine r_go 2 rfl ?_ ?_
      · ((try simp only [ab_all]) <;> repeat' (first | exact hpos | (rw [up_ne (by omega)]; exact hpos) | refine And.intro ?_ ?_ | decide))
      refine r_ne rfl (fun h63 => ?_) (fun h63 => ?_)
      · skip
        refine r_go 2 rfl ?_ ?_
        · ((try simp only [ab_all]) <;> repeat' (first | exact hpos | (rw [up_ne (by omega)]; exact hpos) | refine And.intro ?_ ?_ | decide))
        refine r_ne rfl (fun h103 => ?_) (fun h103 => ?_)
        · skip
          have es : sg1 a u b F G (p, l) = (false, (p, l)) := by
              have n33 : ¬ (b = true ∧ a p = nI 33) := by rw [hb, ← e3 33 (by decide) (by decide)]; exact fun z => by first | exact h63 z.2 | (have z1 := z.1; clear z hS hF hG gF gG e1 e2 e2' e3 eb; (simp (disch := omega) only [Int32.le_iff_toInt_le, Int32.lt_iff_toInt_lt, c_i, m1_i, m5_i, m33_i] at * <;> omega))
              have n40 : ¬ (b = true ∧ a p = nI 40) := by rw [hb, ← e3 40 (by decide) (by decide)]; exact fun z => by first | exact h103 z.2 | (have z1 := z.1; clear z hS hF hG gF gG e1 e2 e2' e3 eb; (simp (disch := omega) only [Int32.le_iff_toInt_le, Int32.lt_iff_toInt_lt, c_i, m1_i, m5_i, m33_i] at * <;> omega))
              exact (if_neg q1).trans ((if_neg q2).trans ((if_neg n33).trans (if_neg n40)))
          have E : cE u p l i (sg1 a u b F G (p, l)) (ab_up i 69 4 (nI 1)) := by
              rw [es]
              exact cE_no hS
          refine r_go 3 rfl ?_ ?_
          · ((try simp only [ab_all]) <;> repeat' (first | exact hpos | (rw [up_ne (by omega)]; exact hpos) | refine And.intro ?_ ?_ | decide))
          refine r_ret rfl trivial ?_
          exact ⟨rfl, E⟩
        · skip
          refine r_go 2 rfl ?_ ?_
          · ((try simp only [ab_all]) <;> repeat' (first | exact hpos | (rw [up_ne (by omega)]; exact hpos) | refine And.intro ?_ ?_ | decide))
          refine r_le rfl (fun h108 => ?_) (fun h108 => ?_)
          · skip
            have es : sg1 a u b F G (p, l) = (false, (p, l)) := by
                have n33 : ¬ (b = true ∧ a p = nI 33) := by rw [hb, ← e3 33 (by decide) (by decide)]; exact fun z => by first | exact h63 z.2 | (have z1 := z.1; clear z hS hF hG gF gG e1 e2 e2' e3 eb; (simp (disch := omega) only [Int32.le_iff_toInt_le, Int32.lt_iff_toInt_lt, c_i, m1_i, m5_i, m33_i] at * <;> omega))
                have n40 : ¬ (b = true ∧ a p = nI 40) := by rw [hb, ← e3 40 (by decide) (by decide)]; exact fun z => by first | exact h103 z.2 | (have z1 := z.1; clear z hS hF hG gF gG e1 e2 e2' e3 eb; (simp (disch := omega) only [Int32.le_iff_toInt_le, Int32.lt_iff_toInt_lt, c_i, m1_i, m5_i, m33_i] at * <;> omega))
                exact (if_neg q1).trans ((if_neg q2).trans ((if_neg n33).trans (if_neg n40)))
            have E : cE u p l i (sg1 a u b F G (p, l)) (ab_up i 69 4 (nI 1)) := by
                rw [es]
                exact cE_no hS
            refine r_go 3 rfl ?_ ?_
            · ((try simp only [ab_all]) <;> repeat' (first | exact hpos | (rw [up_ne (by omega)]; exact hpos) | refine And.intro ?_ ?_ | decide))
            refine r_ret rfl trivial ?_
            exact ⟨rfl, E⟩
          · skip
            have q4 : a p = nI 40 := by rw [← e3 40 (by decide) (by decide)]; exact h103
            have ho : o < 5 := by clear hS hF hG gF gG e1 e2 e2' e3 eb; (simp (disch := omega) only [Int32.le_iff_toInt_le, Int32.lt_iff_toInt_lt, c_i, m1_i, m5_i, m33_i] at * <;> omega)
            have hpn := tp_e h (by decide) q4
            have q3 : ¬ a p = nI 33 := fun z => by rw [q4] at z; exact absurd z (by decide)
            have es : sg1 a u b F G (p, l) = (if (G (p + 1, l)).1 = true then (if a (G (p + 1, l)).2.1 = nI 41 then (true, ((G (p + 1, l)).2.1 + 1, (G (p + 1, l)).2.2)) else (false, (G (p + 1, l)).2)) else G (p + 1, l)) := (if_neg q1).trans ((if_neg q2).trans ((if_neg (fun z => q3 z.2)).trans (if_pos ⟨hb.mpr ho, q4⟩)))
            refine r_go 11 rfl ?_ ?_
            · ((try simp only [ab_all]) <;> repeat' (first | exact hpos | (rw [up_ne (by omega)]; exact hpos) | refine And.intro ?_ ?_ | decide))
            rw [hS.2.2.1, nI_add, nI_add]
            refine r_c rfl (by first | rfl | exact (show 1000 ≤ 1000 + (1 + u) ∧ 1000 + (1 + u) < 1008 by omega) | trivial) ((hG ho (p + 1) l _ (by omega) (by omega) (cS_p hS))) (by omega) ?_
            rintro v i2 ⟨rfl, E⟩
            obtain ⟨g1, g2, g3, g4⟩ := gG (p + 1) l (by omega)
            rw [es]
            by_cases hr : (G (p + 1, l)).1 = true
            · rw [if_pos hr]
              have S2 := cS_of (cS_p hS).1 E hr
              have R0 : rd i i2 := rd_tr (rd_up (Or.inl rfl)) E.1
              refine r_mono (sp_ok h h7 g2 S2) ?_
              rintro v j ⟨rfl, rfl⟩
              by_cases q5 : a (G (p + 1, l)).2.1 = nI 41
              · rw [if_pos q5, if_pos q5]
                exact ⟨rfl, cE_ok (cS_p S2) (rd_tr R0 (rd_up (Or.inl rfl)))⟩
              · rw [if_neg q5, if_neg q5]
                exact ⟨rfl, cE_b (cE_no S2) R0 (by show (G (p + 1, l)).2.2.length + p ≤ (G (p + 1, l)).2.1 + l.length; omega)⟩
            · rw [if_neg hr]
              refine r_mono (sp_no (E.2.2.2.2 hr).1) ?_
              rintro v j ⟨rfl, rfl⟩
              exact ⟨rfl, cE_b E (rd_up (Or.inl rfl)) (by omega)⟩
      · skip
        refine r_go 2 rfl ?_ ?_
        · ((try simp only [ab_all]) <;> repeat' (first | exact hpos | (rw [up_ne (by omega)]; exact hpos) | refine And.intro ?_ ?_ | decide))
        refine r_le rfl (fun h68 => ?_) (fun h68 => ?_)
        · skip
          refine r_go 2 rfl ?_ ?_
          · ((try simp only [ab_all]) <;> repeat' (first | exact hpos | (rw [up_ne (by omega)]; exact hpos) | refine And.intro ?_ ?_ | decide))
          refine r_ne rfl (fun h103 => ?_) (fun h103 => ?_)
          · skip
            have es : sg1 a u b F G (p, l) = (false, (p, l)) := by
                have n33 : ¬ (b = true ∧ a p = nI 33) := by rw [hb, ← e3 33 (by decide) (by decide)]; exact fun z => by first | exact h63 z.2 | (have z1 := z.1; clear z hS hF hG gF gG e1 e2 e2' e3 eb; (simp (disch := omega) only [Int32.le_iff_toInt_le, Int32.lt_iff_toInt_lt, c_i, m1_i, m5_i, m33_i] at * <;> omega))
                have n40 : ¬ (b = true ∧ a p = nI 40) := by rw [hb, ← e3 40 (by decide) (by decide)]; exact fun z => by first | exact h103 z.2 | (have z1 := z.1; clear z hS hF hG gF gG e1 e2 e2' e3 eb; (simp (disch := omega) only [Int32.le_iff_toInt_le, Int32.lt_iff_toInt_lt, c_i, m1_i, m5_i, m33_i] at * <;> omega))
                exact (if_neg q1).trans ((if_neg q2).trans ((if_neg n33).trans (if_neg n40)))
            have E : cE u p l i (sg1 a u b F G (p, l)) (ab_up i 69 4 (nI 1)) := by
                rw [es]
                exact cE_no hS
            refine r_go 3 rfl ?_ ?_
            · ((try simp only [ab_all]) <;> repeat' (first | exact hpos | (rw [up_ne (by omega)]; exact hpos) | refine And.intro ?_ ?_ | decide))
            refine r_ret rfl trivial ?_
            exact ⟨rfl, E⟩
          · skip
            refine r_go 2 rfl ?_ ?_
            · ((try simp only [ab_all]) <;> repeat' (first | exact hpos | (rw [up_ne (by omega)]; exact hpos) | refine And.intro ?_ ?_ | decide))
            refine r_le rfl (fun h108 => ?_) (fun h108 => ?_)
            · skip
              have es : sg1 a u b F G (p, l) = (false, (p, l)) := by
                  have n33 : ¬ (b = true ∧ a p = nI 33) := by rw [hb, ← e3 33 (by decide) (by decide)]; exact fun z => by first | exact h63 z.2 | (have z1 := z.1; clear z hS hF hG gF gG e1 e2 e2' e3 eb; (simp (disch := omega) only [Int32.le_iff_toInt_le, Int32.lt_iff_toInt_lt, c_i, m1_i, m5_i, m33_i] at * <;> omega))
                  have n40 : ¬ (b = true ∧ a p = nI 40) := by rw [hb, ← e3 40 (by decide) (by decide)]; exact fun z => by first | exact h103 z.2 | (have z1 := z.1; clear z hS hF hG gF gG e1 e2 e2' e3 eb; (simp (disch := omega) only [Int32.le_iff_toInt_le, Int32.lt_iff_toInt_lt, c_i, m1_i, m5_i, m33_i] at * <;> omega))
                  exact (if_neg q1).trans ((if_neg q2).trans ((if_neg n33).trans (if_neg n40)))
              have E : cE u p l i (sg1 a u b F G (p, l)) (ab_up i 69 4 (nI 1)) := by
                  rw [es]
                  exact cE_no hS
              refine r_go 3 rfl ?_ ?_
              · ((try simp only [ab_all]) <;> repeat' (first | exact hpos | (rw [up_ne (by omega)]; exact hpos) | refine And.intro ?_ ?_ | decide))
              refine r_ret rfl trivial ?_
              exact ⟨rfl, E⟩
            · skip
              have q4 : a p = nI 40 := by rw [← e3 40 (by decide) (by decide)]; exact h103
              have ho : o < 5 := by clear hS hF hG gF gG e1 e2 e2' e3 eb; (simp (disch := omega) only [Int32.le_iff_toInt_le, Int32.lt_iff_toInt_lt, c_i, m1_i, m5_i, m33_i] at * <;> omega)
              have hpn := tp_e h (by decide) q4
              have q3 : ¬ a p = nI 33 := fun z => by rw [q4] at z; exact absurd z (by decide)
              have es : sg1 a u b F G (p, l) = (if (G (p + 1, l)).1 = true then (if a (G (p + 1, l)).2.1 = nI 41 then (true, ((G (p + 1, l)).2.1 + 1, (G (p + 1, l)).2.2)) else (false, (G (p + 1, l)).2)) else G (p + 1, l)) := (if_neg q1).trans ((if_neg q2).trans ((if_neg (fun z => q3 z.2)).trans (if_pos ⟨hb.mpr ho, q4⟩)))
              refine r_go 11 rfl ?_ ?_
              · ((try simp only [ab_all]) <;> repeat' (first | exact hpos | (rw [up_ne (by omega)]; exact hpos) | refine And.intro ?_ ?_ | decide))
              rw [hS.2.2.1, nI_add, nI_add]
              refine r_c rfl (by first | rfl | exact (show 1000 ≤ 1000 + (1 + u) ∧ 1000 + (1 + u) < 1008 by omega) | trivial) ((hG ho (p + 1) l _ (by omega) (by omega) (cS_p hS))) (by omega) ?_
              rintro v i2 ⟨rfl, E⟩
              obtain ⟨g1, g2, g3, g4⟩ := gG (p + 1) l (by omega)
              rw [es]
              by_cases hr : (G (p + 1, l)).1 = true
              · rw [if_pos hr]
                have S2 := cS_of (cS_p hS).1 E hr
                have R0 : rd i i2 := rd_tr (rd_up (Or.inl rfl)) E.1
                refine r_mono (sp_ok h h7 g2 S2) ?_
                rintro v j ⟨rfl, rfl⟩
                by_cases q5 : a (G (p + 1, l)).2.1 = nI 41
                · rw [if_pos q5, if_pos q5]
                  exact ⟨rfl, cE_ok (cS_p S2) (rd_tr R0 (rd_up (Or.inl rfl)))⟩
                · rw [if_neg q5, if_neg q5]
                  exact ⟨rfl, cE_b (cE_no S2) R0 (by show (G (p + 1, l)).2.2.length + p ≤ (G (p + 1, l)).2.1 + l.length; omega)⟩
              · rw [if_neg hr]
                refine r_mono (sp_no (E.2.2.2.2 hr).1) ?_
                rintro v j ⟨rfl, rfl⟩
                exact ⟨rfl, cE_b E (rd_up (Or.inl rfl)) (by omega)⟩
        · skip
          have q3 : a p = nI 33 := by rw [← e3 33 (by decide) (by decide)]; exact h63
          have ho : o < 5 := by clear hS hF hG gF gG e1 e2 e2' e3 eb; (simp (disch := omega) only [Int32.le_iff_toInt_le, Int32.lt_iff_toInt_lt, c_i, m1_i, m5_i, m33_i] at * <;> omega)
          have hpn := tp_e h (by decide) q3
          have es : sg1 a u b F G (p, l) = (if (F (p + 1, l)).1 = true then (true, ((F (p + 1, l)).2.1, (nI 2, nI 0) :: (F (p + 1, l)).2.2)) else F (p + 1, l)) := (if_neg q1).trans ((if_neg q2).trans (if_pos ⟨hb.mpr ho, q3⟩))
          refine r_go 10 rfl ?_ ?_
          · ((try simp only [ab_all]) <;> repeat' (first | exact hpos | (rw [up_ne (by omega)]; exact hpos) | refine And.intro ?_ ?_ | decide))
          rw [hS.2.2.1, nI_add, nI_add]
          refine r_c rfl (by first | rfl | exact (show 1000 ≤ 1000 + (1 + u) ∧ 1000 + (1 + u) < 1008 by omega) | trivial) ((hF ho (p + 1) l _ (by omega) (by omega) (cS_p hS))) (by omega) ?_
          rintro v i2 ⟨rfl, E⟩
          obtain ⟨g1, g2, g3, g4⟩ := gF (p + 1) l (by omega)
          rw [es]
          by_cases hr : (F (p + 1, l)).1 = true
          · rw [if_pos hr]
            have S2 := cS_of (cS_p hS).1 E hr
            have S3 := cS_ad (e := (nI 2, nI 0)) S2
            rw [enc_2] at S3
            refine r_mono (sg_ad h7 S2.2.2.2.2.1 (by omega)) ?_
            rintro v j ⟨rfl, rfl⟩
            exact ⟨rfl, cE_ok S3 (rd_tr (rd_tr (rd_up (Or.inl rfl)) E.1) rd_ad)⟩
          · rw [if_neg hr]
            obtain ⟨c', e1, e2, e3, e4⟩ := cE_na (y := (-33)) E hr (rd_up (Or.inl rfl)) hl (by omega)
            refine r_mono (sg_ad h7 e1 e2) ?_
            rintro v j ⟨rfl, rfl⟩
            exact ⟨rfl, e3⟩
    · skip
      have q2 : nmB u (a p) = true := by rw [← e2, e2']; exact decide_eq_true h27
      have hpn := tp_n h q2
      have ec : a p = nI c := (hcr_p (a := a) hpn).symm.trans eb
      refine r_go 12 rfl ?_ ?_
      · ((try simp only [ab_all]) <;> repeat' (first | exact hpos | (rw [up_ne (by omega)]; exact hpos) | refine And.intro ?_ ?_ | decide))
      rw [hS.2.2.1, nI_add, up_ne (by omega), nm_rf hS.2.1 hu]
      refine r_cv rfl (by first | rfl | exact (show 1000 ≤ 1000 + (1 + u) ∧ 1000 + (1 + u) < 1008 by omega) | trivial) ((k_ix (nI c) (by omega) (b_rg hc))) (by omega) ?_
      refine r_go 1 rfl ?_ ?_
      · ((try simp only [ab_all]) <;> repeat' (first | exact hpos | (rw [up_ne (by omega)]; exact hpos) | refine And.intro ?_ ?_ | decide))
      rw [ix_id u hu c hc (by rw [← ec]; exact q2)]
      refine r_cn rfl (by first | rfl | exact (show 1000 ≤ 1000 + (1 + u) ∧ 1000 + (1 + u) < 1008 by omega) | trivial) ((k_add _ isR_70 ((up_ne (by omega)).trans hS.2.2.2.2.1) (by omega))) (by omega) ?_
      rw [if_pos (show l.length < 60 by omega)]
      have S2 := cS_ad (e := (nI 1, a p)) (cS_p (p' := p + 1) hS)
      have es : sg1 a u b F G (p, l) = (true, (p + 1, (nI 1, a p) :: l)) := (if_neg (fun z => by rw [← e1] at z; exact h9 z)).trans (if_pos q2)
      rw [enc_1] at S2
      have E := cE_ok (p := p) (l := l) S2 (rd_tr (rd_up (i := i) (Or.inl rfl)) rd_ad)
      rw [← es] at E
      rw [← ec]
      refine r_go 1 rfl ?_ ?_
      · ((try simp only [ab_all]) <;> repeat' (first | exact hpos | (rw [up_ne (by omega)]; exact hpos) | refine And.intro ?_ ?_ | decide))
      refine r_ret rfl trivial ?_
      exact ⟨rfl, E⟩
  · skip
    have q1 : dgt (a p) = true := by rw [← e1]; exact h9
    have hpn := tp_d h q1
    refine r_go 1 rfl ?_ ?_
    · ((try simp only [ab_all]) <;> repeat' (first | exact hpos | (rw [up_ne (by omega)]; exact hpos) | refine And.intro ?_ ?_ | decide))
    refine r_cn rfl (by first | rfl | exact (show 1000 ≤ 1000 + (1 + u) ∧ 1000 + (1 + u) < 1008 by omega) | trivial) ((k_rdN h hS.1 hS.2.2.2.2.1 (by omega) hS.2.2.1 hp)) (by omega) ?_
    have S2 := cS_ad (e := (nI 0, nI (nbL a 4 0 p).1)) (cS_p (p' := (nbL a 4 0 p).2) hS)
    have es : sg1 a u b F G (p, l) = (true, ((nbL a 4 0 p).2, (nI 0, nI (nbL a 4 0 p).1) :: l)) := if_pos q1
    rw [enc_0] at S2
    have E := cE_ok (p := p) (l := l) S2 (rd_tr (rd_up (i := i) (Or.inl rfl)) rd_ad)
    rw [← es] at E
    refine r_go 1 rfl ?_ ?_
    · ((try simp only [ab_all]) <;> repeat' (first | exact hpos | (rw [up_ne (by omega)]; exact hpos) | refine And.intro ?_ ?_ | decide))
    refine r_ret rfl trivial ?_
    exact ⟨rfl, E⟩
