/-! the class's reader: a single, a row -/
def cdR (u : Nat) : List (Int32 × Int32) → Vc → Prop
  | [], _ => True
  | e :: l, f => f l.length = enc u e ∧ cdR u l f
theorem cdR_e {u : Nat} {f g : Vc} : ∀ {l : List (Int32 × Int32)}, cdR u l f → (∀ k, k < l.length → g k = f k) → cdR u l g
  | [], _, _ => trivial
  | e :: l, h, z => ⟨(z _ (Nat.lt_succ_self _)).trans h.1, cdR_e h.2 (fun k hk => z k (Nat.lt_succ_of_lt hk))⟩
def CodeR (u : Nat) (l : List (Int32 × Int32)) (i : ab_I) : Prop := i 70 1 = nI l.length ∧ cdR u l (i 71)
def cS (n : Nat) (a : Nat → Int32) (u p : Nat) (l : List (Int32 × Int32)) (i : ab_I) : Prop := CT n a i ∧ i 69 2 = nI (u + 2) ∧ i 69 3 = nI p ∧ i 69 4 = nI 0 ∧ CodeR u l i
def rd (i j : ab_I) : Prop := ∀ q, q ≠ 69 → q ≠ 70 → q ≠ 71 → j q = i q
theorem rd_rf {i : ab_I} : rd i i := fun _ _ _ _ => rfl
theorem rd_tr {i j k : ab_I} (h1 : rd i j) (h2 : rd j k) : rd i k := fun q a b c => (h2 q a b c).trans (h1 q a b c)
theorem rd_up {q k : Nat} {i : ab_I} {x : Int32} (h : q = 69 ∨ q = 70 ∨ q = 71) : rd i (ab_up i q k x) := fun p a b c => up_row (by omega)
/-- behind a reading from (p, l) -/
def cE (u p : Nat) (l : List (Int32 × Int32)) (i : ab_I) (r : Bool × PS) (j : ab_I) : Prop :=
  rd i j ∧ j 69 2 = nI (u + 2) ∧ j 69 3 = nI r.2.1 ∧ (r.1 = true → j 69 4 = nI 0 ∧ CodeR u r.2.2 j) ∧ (¬ r.1 = true → j 69 4 = nI 1 ∧ ∃ c, c + p ≤ r.2.1 + l.length ∧ j 70 1 = nI c)
def cQ (u p : Nat) (l : List (Int32 × Int32)) (i : ab_I) (r : Bool × PS) : Option Value → ab_I → Prop := fun v j => v = none ∧ cE u p l i r j
theorem CT_rd {n : Nat} {a : Nat → Int32} {i j : ab_I} (h : CT n a i) (e : rd i j) : CT n a j := CT_e h (e 31 (by decide) (by decide) (by decide)) (e 32 (by decide) (by decide) (by decide))
/-- the next place -/
theorem cS_p {n u p p' : Nat} {a : Nat → Int32} {l : List (Int32 × Int32)} {i : ab_I} (h : cS n a u p l i) : cS n a u p' l (ab_up i 69 3 (nI p')) := by
  obtain ⟨h1, h2, h3, h4, h5, h6⟩ := h
  exact ⟨CT_rd h1 (rd_up (Or.inl rfl)), (up_ne (by omega)).trans h2, up_us, (up_ne (by omega)).trans h4, (up_ne (by omega)).trans h5, by rw [up_row (by decide)]; exact h6⟩
def adE (i : ab_I) (len : Nat) (y : Int32) : ab_I := ab_up (ab_up i 71 len y) 70 1 (nI (len + 1))
theorem rd_ad {i : ab_I} {len : Nat} {y : Int32} : rd i (adE i len y) := rd_tr (rd_up (Or.inr (Or.inr rfl))) (rd_up (Or.inr (Or.inl rfl)))
theorem ad_69 {i : ab_I} {len k : Nat} {y : Int32} : adE i len y 69 k = i 69 k := by unfold adE; rw [up_ne (by omega), up_ne (by omega)]
theorem cS_ad {n u p : Nat} {a : Nat → Int32} {l : List (Int32 × Int32)} {e : Int32 × Int32} {i : ab_I} (h : cS n a u p l i) : cS n a u p (e :: l) (adE i l.length (enc u e)) := by
  obtain ⟨h1, h2, h3, h4, h5, h6⟩ := h
  refine ⟨CT_rd h1 rd_ad, ad_69.trans h2, ad_69.trans h3, ad_69.trans h4, up_us, ?_, ?_⟩
  · show adE i l.length (enc u e) 71 l.length = enc u e
    unfold adE
    rw [up_ne (by omega), up_us]
  · refine cdR_e h6 (fun k hk => ?_)
    unfold adE
    rw [up_ne (by omega), up_ne (by omega)]
theorem cE_ok {n u p q : Nat} {a : Nat → Int32} {l l' : List (Int32 × Int32)} {i j : ab_I} (h : cS n a u q l' j) (e : rd i j) : cE u p l i (true, (q, l')) j :=
  ⟨e, h.2.1, h.2.2.1, fun _ => ⟨h.2.2.2.1, h.2.2.2.2⟩, fun z => absurd rfl z⟩
theorem cS_of {n u p : Nat} {a : Nat → Int32} {l : List (Int32 × Int32)} {i j : ab_I} {r : Bool × PS} (hT : CT n a i) (h : cE u p l i r j) (hr : r.1 = true) : cS n a u r.2.1 r.2.2 j :=
  ⟨CT_rd hT h.1, h.2.1, h.2.2.1, (h.2.2.2.1 hr).1, (h.2.2.2.1 hr).2⟩
theorem cE_no {n u p : Nat} {a : Nat → Int32} {l : List (Int32 × Int32)} {i : ab_I} (h : cS n a u p l i) : cE u p l i (false, (p, l)) (ab_up i 69 4 (nI 1)) :=
  ⟨rd_up (Or.inl rfl), (up_ne (by omega)).trans h.2.1, (up_ne (by omega)).trans h.2.2.1, fun z => absurd z Bool.false_ne_true, fun _ => ⟨up_us, l.length, by rw [Nat.add_comm]; exact Nat.le_refl _, (up_ne (by omega)).trans h.2.2.2.2.1⟩⟩
/-- faulty, and one number more is laid -/
theorem cE_na {u p : Nat} {l : List (Int32 × Int32)} {i j k : ab_I} {r : Bool × PS} {y : Int32} (h : cE u (p + 1) l j r k) (hr : ¬ r.1 = true) (e : rd i j) (hl : l.length ≤ p) (hq : r.2.1 ≤ 60) : ∃ c, k 70 1 = nI c ∧ c < 60 ∧ cE u p l i r (adE k c y) ∧ adE k c y 69 4 = nI 1 := by
  obtain ⟨h1, h2, h3, _, h5⟩ := h
  obtain ⟨f1, c, hc, f2⟩ := h5 hr
  exact ⟨c, f2, by omega, ⟨rd_tr (rd_tr e h1) rd_ad, ad_69.trans h2, ad_69.trans h3, fun z => absurd z hr, fun _ => ⟨ad_69.trans f1, c + 1, by omega, up_us⟩⟩, ad_69.trans f1⟩
theorem rr_out {t o mo c hh : Nat} {i : ab_I} (hf : i 69 4 = nI 1) : ab_R (hh + 1) tb_X4_readRow 34 [some (.ref 69), some (.int (nI t)), some (.int (nI o)), some (.int (nI mo)), some (.int (nI c)), none] [] i (ab_N i) := by
  refine r_go 2 rfl ?_ ?_
  · (simp only [ab_all] <;> decide)
  refine r_le rfl (fun h37 => ?_) (fun h37 => ?_)
  · skip
    refine r_ret rfl trivial ?_
    exact ⟨rfl, rfl⟩
  · skip
    refine r_go 2 rfl ?_ ?_
    · (simp only [ab_all] <;> decide)
    refine r_brT rfl (fun z => by rw [hf] at z; exact absurd z (by decide)) ?_
    refine r_ret rfl trivial ?_
    exact ⟨rfl, rfl⟩
theorem b_rg {b : Nat} (h : b < 256) : nI 0 ≤ nI b ∧ nI b ≤ nI 255 := by
  refine ⟨?_, ?_⟩ <;> rw [Int32.le_iff_toInt_le, c_i (by omega), c_i (by omega)] <;> omega
theorem enc_3 {u : Nat} {x : Int32} : enc u (nI 3, x) = -x := by
  unfold enc
  rw [if_neg (by show ¬ nI 3 = nI 0; decide), if_neg (by show ¬ nI 3 = nI 1; decide), if_neg (by show ¬ nI 3 = nI 2; decide)]
theorem cE_b {u p p' : Nat} {l l' : List (Int32 × Int32)} {i j k : ab_I} {r : Bool × PS} (h : cE u p' l' j r k) (e : rd i j) (hp : l'.length + p ≤ p' + l.length) : cE u p l i r k := by
  obtain ⟨h1, h2, h3, h4, h5⟩ := h
  refine ⟨rd_tr e h1, h2, h3, h4, fun z => ?_⟩
  obtain ⟨f1, c, f2, f3⟩ := h5 z
  exact ⟨f1, c, by omega, f3⟩
theorem rr_ad {c hh len : Nat} {t o mo x : Int32} {i : ab_I} {Q : Option Value → ab_I → Prop} (h7 : 7 ≤ hh) (hl : i 70 1 = nI len) (h60 : len < 60) (K : ab_R (hh + 1) tb_X4_readRow 34 [some (.ref 69), some (.int t), some (.int o), some (.int mo), some (.int (nI (c + 1))), none] [] (adE i len (-x)) Q) : ab_R (hh + 1) tb_X4_readRow 85 [some (.ref 69), some (.int t), some (.int o), some (.int mo), some (.int (nI c)), some (.int x)] [] i Q := by
  refine r_go 4 rfl ?_ ?_
  · (simp only [ab_all] <;> decide)
  refine r_cn rfl rfl ((k_add _ isR_70 hl (by omega))) (by omega) ?_
  refine r_go 2 rfl ?_ ?_
  · (simp only [ab_all] <;> decide)
  rw [if_pos h60, nI_add]
  exact r_lk K rfl
theorem rr_loop {n t o u hh : Nat} {a : Nat → Int32} {f : PF} (h : tpA n a) (h7 : 7 ≤ hh) (ht : t < 5) (hg : gd u n f) (hf : ∀ p l i, p ≤ n → l.length ≤ p → cS n a u p l i → ab_K hh 59 [.ref 69, .int (nI (t + 1)), .int (nI o)] i (cQ u p l i (f (p, l)))) (mm c p : Nat) (l : List (Int32 × Int32)) (i : ab_I) (hmm : mst t - c < mm) (hc : c ≤ mst t) (hp : p ≤ n) (hl : l.length ≤ p) (hS : cS n a u p l i) : ab_R (hh + 1) tb_X4_readRow 34 [some (.ref 69), some (.int (nI t)), some (.int (nI o)), some (.int (nI (mst t))), some (.int (nI c)), none] [] i (cQ u p l i (rwL a t f (mst t - c) (p, l))) := by
  induction mm generalizing c p l i with
  | zero => exact absurd hmm (by omega)
  | succ mm ih =>
    obtain ⟨b, hb, eb⟩ := hcr_c h p
    have hm : mst t ≤ 60 := by unfold mst; split <;> decide
    have h6 := h.1
    refine r_go 2 rfl ?_ ?_
    · (simp only [ab_all] <;> decide)
    refine r_le rfl (fun h37 => ?_) (fun h37 => ?_)
    · skip
      refine r_ret rfl trivial ?_
      have er : rwL a t f (mst t - c) (p, l) = (true, (p, l)) := by
          by_cases z : mst t - c = 0
          · rw [z]; rfl
          · rw [show mst t - c = (mst t - (c + 1)) + 1 by omega]
            refine if_neg ?_
            first | (rw [← hcr_s h, eb, ix_sg t ht b hb]; exact fun z => of_decide_eq_true z h58) | (exfalso; clear hS hg hf ih; (simp (disch := omega) only [Int32.le_iff_toInt_le, Int32.lt_iff_toInt_lt, c_i, m1_i, m5_i, m33_i] at * <;> omega))
      rw [er]
      exact ⟨rfl, cE_ok hS rd_rf⟩
    · skip
      refine r_go 2 rfl ?_ ?_
      · (simp only [ab_all] <;> decide)
      refine r_brF rfl (fun z => z hS.2.2.2.1) ?_
      refine r_go 1 rfl ?_ ?_
      · (simp only [ab_all] <;> decide)
      refine r_cv rfl trivial ((k_sgs t ht)) (by omega) ?_
      refine r_go 1 rfl ?_ ?_
      · (simp only [ab_all] <;> decide)
      refine r_cv rfl (by first | rfl | exact (show 1000 ≤ 1000 + (3 + t) ∧ 1000 + (3 + t) < 1008 by omega) | trivial) ((k_here h hS.1 hS.2.2.1 hp)) (by omega) ?_
      rw [eb]
      refine r_cv rfl (by first | rfl | exact (show 1000 ≤ 1000 + (3 + t) ∧ 1000 + (3 + t) < 1008 by omega) | trivial) ((k_ix (nI b) (by omega) (b_rg hb))) (by omega) ?_
      refine r_br rfl (fun h58 => ?_) (fun h58 => ?_)
      · skip
        refine r_ret rfl trivial ?_
        have er : rwL a t f (mst t - c) (p, l) = (true, (p, l)) := by
            by_cases z : mst t - c = 0
            · rw [z]; rfl
            · rw [show mst t - c = (mst t - (c + 1)) + 1 by omega]
              refine if_neg ?_
              first | (rw [← hcr_s h, eb, ix_sg t ht b hb]; exact fun z => of_decide_eq_true z h58) | (exfalso; clear hS hg hf ih; (simp (disch := omega) only [Int32.le_iff_toInt_le, Int32.lt_iff_toInt_lt, c_i, m1_i, m5_i, m33_i] at * <;> omega))
        rw [er]
        exact ⟨rfl, cE_ok hS rd_rf⟩
      · skip
        have q : sgT t (a p) = true := by rw [← hcr_s h, eb, ix_sg t ht b hb]; exact decide_eq_true h58
        have hpn := tp_s h q
        have hcl : c < mst t := by clear hS hg hf ih; (simp (disch := omega) only [Int32.le_iff_toInt_le, Int32.lt_iff_toInt_lt, c_i, m1_i, m5_i, m33_i] at * <;> omega)
        refine r_go 1 rfl ?_ ?_
        · (simp only [ab_all] <;> decide)
        refine r_cv rfl (by first | rfl | exact (show 1000 ≤ 1000 + (3 + t) ∧ 1000 + (3 + t) < 1008 by omega) | trivial) ((k_here h hS.1 hS.2.2.1 hp)) (by omega) ?_
        refine r_go 12 rfl ?_ ?_
        · (simp only [ab_all] <;> decide)
        rw [hS.2.2.1, nI_add, nI_add, hcr_p hpn]
        refine r_c rfl (by first | rfl | exact (show 1000 ≤ 1000 + (3 + t) ∧ 1000 + (3 + t) < 1008 by omega) | trivial) ((hf (p + 1) l _ (by omega) (by omega) (cS_p hS))) (by omega) ?_
        rintro v i2 ⟨rfl, E⟩
        obtain ⟨g1, g2, g3, g4⟩ := hg (p + 1) l (by omega)
        have er : rwL a t f (mst t - c) (p, l) = (if (f (p + 1, l)).1 = true then rwL a t f (mst t - (c + 1)) ((f (p + 1, l)).2.1, (nI 3, a p) :: (f (p + 1, l)).2.2) else f (p + 1, l)) := by
            rw [show mst t - c = (mst t - (c + 1)) + 1 by omega]
            exact if_pos q
        rw [er]
        by_cases hr : (f (p + 1, l)).1 = true
        · rw [if_pos hr]
          have S2 := cS_of (cS_p hS).1 E hr
          have S3 := cS_ad (e := (nI 3, a p)) S2
          rw [enc_3] at S3
          refine rr_ad h7 S2.2.2.2.2.1 (by omega) ?_
          refine r_mono (ih (c + 1) _ _ _ (by omega) (by omega) g2 (by rw [List.length_cons]; omega) S3) ?_
          rintro v j ⟨rfl, E2⟩
          exact ⟨rfl, cE_b E2 (rd_tr (rd_tr (rd_up (Or.inl rfl)) E.1) rd_ad) (by rw [List.length_cons]; omega)⟩
        · rw [if_neg hr]
          obtain ⟨c', e1, e2, e3, e4⟩ := cE_na (y := -a p) E hr (rd_up (Or.inl rfl)) hl (by omega)
          refine rr_ad h7 e1 e2 ?_
          refine r_mono (rr_out e4) ?_
          rintro v j ⟨rfl, rfl⟩
          exact ⟨rfl, e3⟩
