/-! voices of the reference: pays, voice -/
theorem env_8 {s : Vc} {d c : Nat} {i : ab_I} {x : Int32} (h : Env s d c i) : Env s d c (ab_up i 218 18 x) := ⟨(up_row (by decide)).trans h.1, (up_ne (by omega)).trans h.2.1, (up_ne (by omega)).trans h.2.2⟩
theorem VQ_8 {N M : Int32} {l : List Int32} {c : Nat} {i j : ab_I} {x : Int32} (h : VQ N M l c i j) : VQ N M l c i (ab_up j 218 18 x) := by
  obtain ⟨a1, a2, a3, a4⟩ := h
  exact ⟨(up_row (by decide)).trans a1, (up_ne (by omega)).trans a2, fun q x y => (up_row y).trans (a3 q x y), fun k x y => (up_ne (by omega)).trans (a4 k x y)⟩
/-- what a voice that pays answers and leaves: c bodies ahead -/
def paQ (N M : Int32) (K k c : Nat) (x : Int32) (i : ab_I) : Option Value → ab_I → Prop := fun v j => v = some (.int (paV N M K k x)) ∧ VQ N M (paL N M K k) c i j ∧ j 218 18 = bI (M - N = nI 0)
theorem pb0 {s : Vc} {d c K : Nat} {i : ab_I} (x : Int32) (hE : Env s d c i) (hd : d < 12) (hK : K < 7) (eK : dr s d 0 = nI K) (hc : c + 1 ≤ 30) : ab_K 3 231 [.ref 218, .int (nI 0), .int x] i (fun v j => v = some (.int (pa0 (nI d) (dr s d 1) x)) ∧ j = ab_up (bg (nI 13) c i) 218 18 (bI (dr s d 1 - nI d = nI 0))) := by
  have e17 := (env_bg (b := nI 13) hE).2.1
  refine k_of rfl ?_
  refine r_go 1 rfl ?_ ?_
  · (first | exact trivial | assumption | (simp (disch := omega) [ab_all, ab_nz, *]; done))
  refine r_sw rfl ?_
  refine r_swT (rfl) ?_
  refine r_go 2 rfl ?_ ?_
  · (first | exact trivial | assumption | (simp (disch := omega) [ab_all, ab_nz, *]; done))
  refine r_cn rfl rfl ((m_beg (nI 13) c hE.2.2 (by omega))) (by decide) ?_
  refine r_go 1 rfl ?_ ?_
  · (first | exact trivial | assumption | (simp (disch := omega) [ab_all, ab_nz, *]; done))
  refine r_cv rfl rfl ((m_mNow (env_bg hE).1 e17 hd)) (by decide) ?_
  refine r_go 6 rfl ?_ ?_
  · exact rfl
  rw [e17]
  refine r_ne rfl (fun h46 => ?_) (fun h46 => ?_)
  · skip
    refine r_go 3 rfl ?_ ?_
    · exact ⟨rfl, Or.inl rfl⟩
    refine r_ne rfl (fun h58 => ?_) (fun h58 => ?_)
    · skip
      refine r_go 2 rfl ?_ ?_
      · (first | exact trivial | assumption | (simp (disch := omega) [ab_all, ab_nz, *]; done))
      refine r_ne rfl (fun h67 => ?_) (fun h67 => ?_)
      · skip
        refine r_go 3 rfl ?_ ?_
        · exact fun z => h58 z
        refine r_ret rfl trivial ?_
        first | exact absurd h46 h58 | exact absurd h58 h46 | (rw [bI_t h46]; exact ⟨by unfold pa0; rw [if_pos h46], rfl⟩) | (rw [bI_f h46]; refine ⟨?_, rfl⟩; unfold pa0; first | (rw [if_neg h46]; done) | (rw [if_neg h46, h67, dv_m1]; done))
      · skip
        refine r_go 3 rfl ?_ ?_
        · (first | exact trivial | assumption | (simp (disch := omega) [ab_all, ab_nz, *]; done))
        refine r_ret rfl trivial ?_
        first | exact absurd h46 h58 | exact absurd h58 h46 | (rw [bI_t h46]; exact ⟨by unfold pa0; rw [if_pos h46], rfl⟩) | (rw [bI_f h46]; refine ⟨?_, rfl⟩; unfold pa0; first | (rw [if_neg h46]; done) | (rw [if_neg h46, h67, dv_m1]; done))
    · skip
      refine r_go 2 rfl ?_ ?_
      · (first | exact trivial | assumption | (simp (disch := omega) [ab_all, ab_nz, *]; done))
      refine r_ret rfl trivial ?_
      first | exact absurd h46 h58 | exact absurd h58 h46 | (rw [bI_t h46]; exact ⟨by unfold pa0; rw [if_pos h46], rfl⟩) | (rw [bI_f h46]; refine ⟨?_, rfl⟩; unfold pa0; first | (rw [if_neg h46]; done) | (rw [if_neg h46, h67, dv_m1]; done))
  · skip
    refine r_go 4 rfl ?_ ?_
    · exact ⟨rfl, Or.inr rfl⟩
    refine r_ne rfl (fun h58 => ?_) (fun h58 => ?_)
    · skip
      refine r_go 2 rfl ?_ ?_
      · (first | exact trivial | assumption | (simp (disch := omega) [ab_all, ab_nz, *]; done))
      refine r_ne rfl (fun h67 => ?_) (fun h67 => ?_)
      · skip
        refine r_go 3 rfl ?_ ?_
        · exact fun z => h58 z
        refine r_ret rfl trivial ?_
        first | exact absurd h46 h58 | exact absurd h58 h46 | (rw [bI_t h46]; exact ⟨by unfold pa0; rw [if_pos h46], rfl⟩) | (rw [bI_f h46]; refine ⟨?_, rfl⟩; unfold pa0; first | (rw [if_neg h46]; done) | (rw [if_neg h46, h67, dv_m1]; done))
      · skip
        refine r_go 3 rfl ?_ ?_
        · (first | exact trivial | assumption | (simp (disch := omega) [ab_all, ab_nz, *]; done))
        refine r_ret rfl trivial ?_
        first | exact absurd h46 h58 | exact absurd h58 h46 | (rw [bI_t h46]; exact ⟨by unfold pa0; rw [if_pos h46], rfl⟩) | (rw [bI_f h46]; refine ⟨?_, rfl⟩; unfold pa0; first | (rw [if_neg h46]; done) | (rw [if_neg h46, h67, dv_m1]; done))
    · skip
      refine r_go 2 rfl ?_ ?_
      · (first | exact trivial | assumption | (simp (disch := omega) [ab_all, ab_nz, *]; done))
      refine r_ret rfl trivial ?_
      first | exact absurd h46 h58 | exact absurd h58 h46 | (rw [bI_t h46]; exact ⟨by unfold pa0; rw [if_pos h46], rfl⟩) | (rw [bI_f h46]; refine ⟨?_, rfl⟩; unfold pa0; first | (rw [if_neg h46]; done) | (rw [if_neg h46, h67, dv_m1]; done))
theorem pbz0 {s : Vc} {d c K : Nat} {i : ab_I} (x : Int32) (hE : Env s d c i) (hd : d < 12) (hK : K < 7) (eK : dr s d 0 = nI K) (hc : c + 1 ≤ 30) (k : Nat) (hk : ¬ (k = 1 ∨ k = 5)) : ∀ v j, (v = some (.int (pa0 (nI d) (dr s d 1) x)) ∧ j = ab_up (bg (nI 13) c i) 218 18 (bI (dr s d 1 - nI d = nI 0))) → paQ (nI d) (dr s d 1) K k c x i v j := by
  rintro v j ⟨rfl, rfl⟩
  refine ⟨?_, ?_, up_us⟩
  · unfold paV
    rw [if_neg hk]
  · have e : paL (nI d) (dr s d 1) K k = [nI 13] := if_neg hk
    rw [e]
    exact VQ_8 (VQ_L (l := [nI 13]) hE)
theorem pbG {s : Vc} {d c K : Nat} {i : ab_I} (x : Int32) (hE : Env s d c i) (hd : d < 12) (hK : K < 7) (eK : dr s d 0 = nI K) (hc : c + 1 ≤ 30) (k : Nat) (hk : k = 2 ∨ k = 4 ∨ k = 6) : ab_K 4 231 [.ref 218, .int (nI k), .int x] i (paQ (nI d) (dr s d 1) K k c x i) := by
  have hk1 : ¬ (k = 1 ∨ k = 5) := by omega
  have h0 : ¬ nI k = nI 0 := fun z => by have := (nI_eq (by omega) (by decide)).mp z; omega
  have h1 : ¬ nI k = nI 1 := fun z => by have := (nI_eq (by omega) (by decide)).mp z; omega
  have ha : abv (nI k) = nI 0 := by rcases hk with rfl | rfl | rfl <;> decide
  refine k_of rfl ?_
  refine r_go 1 rfl ?_ ?_
  · (first | exact trivial | assumption | (simp (disch := omega) [ab_all, ab_nz, *]; done))
  refine r_sw rfl ?_
  refine r_swk (fun hz => absurd hz (by first | assumption | decide)) (fun _ => ?_)
  refine r_swk (fun hz => absurd hz (by first | assumption | decide)) (fun _ => ?_)
  refine r_go 2 rfl ?_ ?_
  · (first | exact trivial | assumption | (simp (disch := omega) [ab_all, ab_nz, *]; done))
  refine r_cv rfl trivial ((m_ab k 0 ha)) (by decide) ?_
  refine r_go 1 rfl ?_ ?_
  · (first | exact trivial | assumption | (simp (disch := omega) [ab_all, ab_nz, *]; done))
  refine r_c rfl rfl ((k_mono (pb0 x hE hd hK eK hc) (pbz0 x hE hd hK eK hc k hk1))) (by decide) ?_
  rintro v j ⟨rfl, q1, q2⟩
  refine r_ret rfl trivial ?_
  exact ⟨rfl, q1, q2⟩
theorem pb1 {s : Vc} {d c K : Nat} {i : ab_I} (x : Int32) (hE : Env s d c i) (hd : d < 12) (hK : K < 7) (eK : dr s d 0 = nI K) (hc : c + 6 ≤ 30) : ab_K 9 231 [.ref 218, .int (nI 1), .int x] i (paQ (nI d) (dr s d 1) K 1 c x i) := by
  have e1 := env_bg (b := nI 21) hE
  have e2 := env_bg (b := nI 13) e1
  refine k_of rfl ?_
  refine r_go 1 rfl ?_ ?_
  · (first | exact trivial | assumption | (simp (disch := omega) [ab_all, ab_nz, *]; done))
  refine r_sw rfl ?_
  refine r_swk (fun hz => absurd hz (by first | assumption | decide)) (fun _ => ?_)
  refine r_swT (rfl) ?_
  refine r_go 2 rfl ?_ ?_
  · (first | exact trivial | assumption | (simp (disch := omega) [ab_all, ab_nz, *]; done))
  refine r_cn rfl rfl ((m_beg (nI 21) c hE.2.2 (by omega))) (by decide) ?_
  refine r_go 2 rfl ?_ ?_
  · (first | exact trivial | assumption | (simp (disch := omega) [ab_all, ab_nz, *]; done))
  refine r_cv rfl trivial ((m_ab 1 0 (by decide))) (by decide) ?_
  refine r_go 1 rfl ?_ ?_
  · (first | exact trivial | assumption | (simp (disch := omega) [ab_all, ab_nz, *]; done))
  refine r_c rfl rfl ((pb0 x e1 hd hK eK (by omega))) (by decide) ?_
  rintro v j ⟨rfl, rfl⟩
  have e3 := env_8 (x := bI (dr s d 1 - nI d = nI 0)) e2
  have q13 : VQ (nI d) (dr s d 1) [nI 21, nI 13] c i (ab_up (bg (nI 13) (c + 1) (bg (nI 21) c i)) 218 18 (bI (dr s d 1 - nI d = nI 0))) := VQ_8 (VQ_L (l := [nI 21, nI 13]) hE)
  have u18 : ab_up (bg (nI 13) (c + 1) (bg (nI 21) c i)) 218 18 (bI (dr s d 1 - nI d = nI 0)) 218 18 = bI (dr s d 1 - nI d = nI 0) := up_us
  generalize ab_up (bg (nI 13) (c + 1) (bg (nI 21) c i)) 218 18 (bI (dr s d 1 - nI d = nI 0)) = j at e3 q13 u18
  refine r_go 3 rfl ?_ ?_
  · exact rfl
  rw [u18]
  refine r_br rfl (fun h100 => ?_) (fun h100 => ?_)
  · skip
    have hp : ¬ dr s d 1 - nI d = nI 0 := fun z => by rw [bI_t z] at h100; exact absurd h100 (by decide)
    refine r_go 3 rfl ?_ ?_
    · (first | exact trivial | assumption | (simp (disch := omega) [ab_all, ab_nz, *]; done))
    refine r_cv rfl rfl ((m_kind e3.1 e3.2.1 hd)) (by decide) ?_
    refine r_go 1 rfl ?_ ?_
    · (first | exact trivial | assumption | (simp (disch := omega) [ab_all, ab_nz, *]; done))
    rw [eK]
    refine r_cv rfl rfl ((fbA K hK _ e3 hd hK eK (by omega))) (by decide) ?_
    refine r_go 1 rfl ?_ ?_
    · (first | exact trivial | assumption | (simp (disch := omega) [ab_all, ab_nz, *]; done))
    refine r_ret rfl trivial ?_
    first | (have e : paL (nI d) (dr s d 1) K 1 = [nI 21, nI 13] := (if_pos (Or.inl rfl)).trans (if_pos hp); have e2 : paV (nI d) (dr s d 1) K 1 x = nI 0 := (if_pos (Or.inl rfl)).trans (if_pos hp); exact ⟨congrArg (fun z => some (Value.int z)) e2.symm, by rw [e]; exact q13, u18⟩) | (have e : paL (nI d) (dr s d 1) K 1 = [nI 21, nI 13] ++ feL K K := (if_pos (Or.inl rfl)).trans (if_neg hp); have e2 : paV (nI d) (dr s d 1) K 1 x = pa0 (nI d) (dr s d 1) x + feV (nI d) (dr s d 1) K K (nI 1) := (if_pos (Or.inl rfl)).trans (if_neg hp); exact ⟨congrArg (fun z => some (Value.int z)) e2.symm, by rw [e]; exact VQ_tr q13 (VQ_L e3), (bgL_8 (by decide)).trans u18⟩)
  · skip
    have hp : dr s d 1 - nI d = nI 0 := Classical.byContradiction (fun z => h100 (bI_f z))
    refine r_go 2 rfl ?_ ?_
    · (first | exact trivial | assumption | (simp (disch := omega) [ab_all, ab_nz, *]; done))
    refine r_ret rfl trivial ?_
    first | (have e : paL (nI d) (dr s d 1) K 1 = [nI 21, nI 13] := (if_pos (Or.inl rfl)).trans (if_pos hp); have e2 : paV (nI d) (dr s d 1) K 1 x = nI 0 := (if_pos (Or.inl rfl)).trans (if_pos hp); exact ⟨congrArg (fun z => some (Value.int z)) e2.symm, by rw [e]; exact q13, u18⟩) | (have e : paL (nI d) (dr s d 1) K 1 = [nI 21, nI 13] ++ feL K K := (if_pos (Or.inl rfl)).trans (if_neg hp); have e2 : paV (nI d) (dr s d 1) K 1 x = pa0 (nI d) (dr s d 1) x + feV (nI d) (dr s d 1) K K (nI 1) := (if_pos (Or.inl rfl)).trans (if_neg hp); exact ⟨congrArg (fun z => some (Value.int z)) e2.symm, by rw [e]; exact VQ_tr q13 (VQ_L e3), (bgL_8 (by decide)).trans u18⟩)
theorem pb3 {s : Vc} {d c K : Nat} {i : ab_I} (x : Int32) (hE : Env s d c i) (hd : d < 12) (hK : K < 7) (eK : dr s d 0 = nI K) (hc : c + 6 ≤ 30) : ab_K 5 231 [.ref 218, .int (nI 3), .int x] i (paQ (nI d) (dr s d 1) K 3 c x i) := by
  refine k_of rfl ?_
  refine r_go 1 rfl ?_ ?_
  · (first | exact trivial | assumption | (simp (disch := omega) [ab_all, ab_nz, *]; done))
  refine r_sw rfl ?_
  refine r_swk (fun hz => absurd hz (by first | assumption | decide)) (fun _ => ?_)
  refine r_swk (fun hz => absurd hz (by first | assumption | decide)) (fun _ => ?_)
  refine r_go 2 rfl ?_ ?_
  · (first | exact trivial | assumption | (simp (disch := omega) [ab_all, ab_nz, *]; done))
  refine r_cv rfl trivial ((m_ab 3 2 (by decide))) (by decide) ?_
  refine r_go 1 rfl ?_ ?_
  · (first | exact trivial | assumption | (simp (disch := omega) [ab_all, ab_nz, *]; done))
  refine r_c rfl rfl ((pbG x hE hd hK eK (by omega) 2 (by decide))) (by decide) ?_
  rintro v j ⟨rfl, q1, q2⟩
  refine r_ret rfl trivial ?_
  exact ⟨rfl, q1, q2⟩
theorem pb5 {s : Vc} {d c K : Nat} {i : ab_I} (x : Int32) (hE : Env s d c i) (hd : d < 12) (hK : K < 7) (eK : dr s d 0 = nI K) (hc : c + 6 ≤ 30) : ab_K 10 231 [.ref 218, .int (nI 5), .int x] i (paQ (nI d) (dr s d 1) K 5 c x i) := by
  refine k_of rfl ?_
  refine r_go 1 rfl ?_ ?_
  · (first | exact trivial | assumption | (simp (disch := omega) [ab_all, ab_nz, *]; done))
  refine r_sw rfl ?_
  refine r_swk (fun hz => absurd hz (by first | assumption | decide)) (fun _ => ?_)
  refine r_swk (fun hz => absurd hz (by first | assumption | decide)) (fun _ => ?_)
  refine r_go 2 rfl ?_ ?_
  · (first | exact trivial | assumption | (simp (disch := omega) [ab_all, ab_nz, *]; done))
  refine r_cv rfl trivial ((m_ab 5 1 (by decide))) (by decide) ?_
  refine r_go 1 rfl ?_ ?_
  · (first | exact trivial | assumption | (simp (disch := omega) [ab_all, ab_nz, *]; done))
  refine r_c rfl rfl ((pb1 x hE hd hK eK hc)) (by decide) ?_
  rintro v j ⟨rfl, q1, q2⟩
  refine r_ret rfl trivial ?_
  exact ⟨rfl, q1, q2⟩
theorem pbA (k : Nat) (hk : k < 7) {s : Vc} {d c K : Nat} {i : ab_I} (x : Int32) (hE : Env s d c i) (hd : d < 12) (hK : K < 7) (eK : dr s d 0 = nI K) (hc : c + 6 ≤ 30) : ab_K 11 231 [.ref 218, .int (nI k), .int x] i (paQ (nI d) (dr s d 1) K k c x i) := by
  have : k = 0 ∨ k = 1 ∨ k = 2 ∨ k = 3 ∨ k = 4 ∨ k = 5 ∨ k = 6 := by omega
  rcases this with rfl | rfl | rfl | rfl | rfl | rfl | rfl
  · exact k_deep (k_mono (pb0 x hE hd hK eK (by omega)) (pbz0 x hE hd hK eK (by omega) 0 (by decide))) (by decide)
  · exact k_deep (pb1 x hE hd hK eK hc) (by decide)
  · exact k_deep (pbG x hE hd hK eK (by omega) 2 (by decide)) (by decide)
  · exact k_deep (pb3 x hE hd hK eK hc) (by decide)
  · exact k_deep (pbG x hE hd hK eK (by omega) 4 (by decide)) (by decide)
  · exact k_deep (pb5 x hE hd hK eK hc) (by decide)
  · exact k_deep (pbG x hE hd hK eK (by omega) 6 (by decide)) (by decide)
/-- bodies and answer of a voice, and whether it parted -/
def vcL (N M : Int32) (K v : Nat) : List Int32 := if v = 0 then voL K else if v = 1 then feL K K else if v = 2 then flL K K else paL N M K K
def vcV (N M : Int32) (K v : Nat) (x : Int32) : Int32 := if v = 0 then voV N K x else if v = 1 then feV N M K K x else if v = 2 then flV N M K K x else paV N M K K x
def vcM (l : List Int32) (m : ab_I) : ab_I := ab_up (ab_row m 227 (bgR l 0 (m 227))) 218 16 (nI l.length)
theorem vcL_n (N M : Int32) (K v : Nat) : (vcL N M K v).length ≤ 6 := by
  have h1 := voL_n K
  have h2 := feL_n K K
  have h3 := flL_n K K
  have h4 := paL_n N M K K
  unfold vcL
  repeat' split
  all_goals omega
def S_voice (y v x : Int32) (m : ab_I) : Int32 × ab_I := if okD (m 219) y ∧ nI 0 ≤ v ∧ v ≤ nI 3 then (if v.toNatClampNeg = 3 ∧ dr (m 219) y.toNatClampNeg 1 - y = nI 0 then er (vcM (vcL y (dr (m 219) y.toNatClampNeg 1) (dr (m 219) y.toNatClampNeg 0).toNatClampNeg v.toNatClampNeg) m) 6 else (vcV y (dr (m 219) y.toNatClampNeg 1) (dr (m 219) y.toNatClampNeg 0).toNatClampNeg v.toNatClampNeg x, vcM (vcL y (dr (m 219) y.toNatClampNeg 1) (dr (m 219) y.toNatClampNeg 0).toNatClampNeg v.toNatClampNeg) m)) else er m 1
theorem vcM_ne {l : List Int32} {m : ab_I} {q : Nat} (h1 : q ≠ 227) (h2 : q ≠ 218) : vcM l m q = m q := (up_row h2).trans (funext (fun _ => ab_row_ne h1))
theorem vcM_8 {l : List Int32} {m : ab_I} {k : Nat} (h : k ≠ 16) : vcM l m 218 k = m 218 k := (up_ne (by omega)).trans (ab_row_ne (by decide))
theorem InM_vc {l : List Int32} {m : ab_I} (hJ : InM m) (hl : l.length ≤ 30) : InM (vcM l m) := by
  unfold InM
  rw [vcM_ne (by decide) (by decide), vcM_ne (by decide) (by decide), vcM_ne (by decide) (by decide), vcM_ne (by decide) (by decide)]
  exact ⟨hJ.1, hJ.2.1, hJ.2.2.1, ⟨l.length, hl, up_us⟩⟩
theorem n_voice {m : ab_I} (hJ : InM m) (y v x : Int32) : InM (S_voice y v x m).2 := by
  unfold S_voice
  split
  · split
    · exact InM_er (InM_vc hJ (Nat.le_trans (vcL_n _ _ _ _) (by decide)))
    · exact InM_vc hJ (Nat.le_trans (vcL_n _ _ _ _) (by decide))
  · exact InM_er hJ
theorem mo_vc {i j m : ab_I} {l : List Int32} {N M : Int32} {x y z : Int32} (hm : mo i m) (h : VQ N M l 0 (ab_up (ab_up (ab_up i 218 16 x) 218 17 y) 218 18 z) j) : mo j (vcM l m) ∧ (∀ q, q < 218 ∨ 232 ≤ q → j q = i q) ∧ j 218 13 = i 218 13 := by
  obtain ⟨a1, a2, a3, a4⟩ := h
  have e3 : ∀ q, q ≠ 227 → q ≠ 218 → j q = i q := fun q u w => (a3 q u w).trans ((up_row w).trans ((up_row w).trans (up_row w)))
  have e4 : ∀ k, k ≠ 16 → k ≠ 17 → k ≠ 18 → j 218 k = i 218 k := fun k u w t => (a4 k u t).trans ((up_ne (by omega)).trans ((up_ne (by omega)).trans (up_ne (by omega))))
  obtain ⟨m1, m2, m3, m4, m5, m6, m7, m8, m9⟩ := hm
  refine ⟨⟨?_, ?_, ?_, ?_, ?_, ?_, ?_, ?_, ?_⟩, fun q hq => e3 q (by omega) (by omega), e4 13 (by decide) (by decide) (by decide)⟩
  · rw [vcM_ne (by decide) (by decide), e3 _ (by decide) (by decide)]; exact m1
  · rw [vcM_ne (by decide) (by decide), e3 _ (by decide) (by decide)]; exact m2
  · rw [vcM_ne (by decide) (by decide), e3 _ (by decide) (by decide)]; exact m3
  · rw [a1, up_row (by decide), up_row (by decide), up_row (by decide), m4]
    exact (row_s).symm.trans (up_row (by decide)).symm
  · rw [vcM_ne (by decide) (by decide), e3 _ (by decide) (by decide)]; exact m5
  · rw [vcM_ne (by decide) (by decide), e3 _ (by decide) (by decide)]; exact m6
  · rw [vcM_ne (by decide) (by decide), e3 _ (by decide) (by decide)]; exact m7
  · rw [vcM_8 (by decide), e4 _ (by decide) (by decide) (by decide)]; exact m8
  · rw [a2, Nat.zero_add]
    exact up_us.symm
theorem mvo_end {i m : ab_I} (hm : mo i m) (hJ : InM m) (h13 : i 218 13 = (-1)) {j : ab_I} {y v x w : Int32} {l : List Int32} {c : Prop} [Decidable c] (hP : S_voice y v x m = (if c then er (vcM l m) 6 else (w, vcM l m))) (h18 : j 218 18 = bI c) (h1 : mo j (vcM l m)) (h2 : ∀ q, q < 218 ∨ 232 ≤ q → j q = i q) (h3 : j 218 13 = (-1)) {k : Value} : ab_R 25 tb_X11_voice 97 [some (.ref 218), some (.int y), some (.int v), some (.int x), some k, some (.int w)] [] j (rfQ i (S_voice y v x m)) := by
  rw [hP]
  refine r_go 2 rfl ?_ ?_
  · exact rfl
  rw [h18]
  refine r_br rfl (fun h101 => ?_) (fun h101 => ?_)
  · skip
    refine r_go 1 rfl ?_ ?_
    · (first | exact trivial | assumption | (simp (disch := omega) [ab_all, ab_nz, *]; done))
    refine r_ret rfl trivial ?_
    first | (have hc : c := Classical.byContradiction (fun z => h101 (bI_f z)); rw [if_pos hc]; have q := rf_er (k := 6) h1 h3; exact ⟨q.1, q.2.1, q.2.2.1, fun p hp => (q.2.2.2 p hp).trans (h2 p hp)⟩) | (have hc : ¬ c := (fun z => by rw [bI_t z] at h101; exact absurd h101 (by decide)); rw [if_neg hc]; exact ⟨rfl, h1, h3, h2⟩)
  · skip
    refine r_go 2 rfl ?_ ?_
    · (first | exact trivial | assumption | (simp (disch := omega) [ab_all, ab_nz, *]; done))
    refine r_cv rfl rfl ((m_error 6 (by decide))) (by decide) ?_
    refine r_go 1 rfl ?_ ?_
    · (first | exact trivial | assumption | (simp (disch := omega) [ab_all, ab_nz, *]; done))
    refine r_ret rfl trivial ?_
    first | (have hc : c := Classical.byContradiction (fun z => h101 (bI_f z)); rw [if_pos hc]; have q := rf_er (k := 6) h1 h3; exact ⟨q.1, q.2.1, q.2.2.1, fun p hp => (q.2.2.2 p hp).trans (h2 p hp)⟩) | (have hc : ¬ c := (fun z => by rw [bI_t z] at h101; exact absurd h101 (by decide)); rw [if_neg hc]; exact ⟨rfl, h1, h3, h2⟩)
theorem m_voice {i m : ab_I} (hm : mo i m) (hJ : InM m) (h13 : i 218 13 = (-1)) (y v x : Int32) : ab_K 25 232 [.ref 218, .int y, .int v, .int x] i (rfQ i (S_voice y v x m)) := by
  (have hI := hJ.1.1; have hX := InS_X hJ.1; have hs := hm.1)
  have d12 := hI.2.1.2
  refine k_of rfl ?_
  refine r_go 2 rfl ?_ ?_
  · (first | exact trivial | assumption | (simp (disch := omega) [ab_all, ab_nz, *]; done))
  refine r_cv rfl rfl ((m_isD y hs hI)) (by decide) ?_
  refine r_bE rfl (fun h5 => ?_) (fun h5 => ?_)
  · skip
    refine r_go 2 rfl ?_ ?_
    · (first | exact trivial | assumption | (simp (disch := omega) [ab_all, ab_nz, *]; done))
    refine r_cv rfl rfl ((m_error 1 (by decide))) (by decide) ?_
    refine r_ret rfl trivial ?_
    exact rf_to (if_neg (by simp only [h5, if_true, if_false, not_true, not_false_eq_true, and_true, true_and, and_false, false_and, or_true, true_or, or_false, false_or, and_self, or_self, not_false_eq_true])) (rf_er hm h13)
  · skip
    refine r_go 3 rfl ?_ ?_
    · (first | exact trivial | assumption | (simp (disch := omega) [ab_all, ab_nz, *]; done))
    refine r_cv rfl trivial ((m_in _ _ _)) (by decide) ?_
    refine r_bN rfl (fun h14 => ?_) (fun h14 => ?_)
    · skip
      have hP := (show S_voice y v x m = _ from if_pos ⟨h5, h14⟩)
      obtain ⟨d, hd, rfl⟩ := of_rg h5
      obtain ⟨V, hV, rfl⟩ := of_bt (by decide) h14
      rw [nI_cl (by omega), nI_cl (by omega)] at hP
      have r0 : rg (dr (m 219) d 0) 0 6 := (hI.2.2.2.2.2 d hd).2 0 (by decide) (by decide)
      obtain ⟨K, hK, eK⟩ : ∃ K : Nat, K ≤ 6 ∧ dr (m 219) d 0 = nI K := ⟨(dr (m 219) d 0).toNatClampNeg, by rw [tn_i]; unfold rg at r0; omega, tn_of r0.1⟩
      rw [eK, nI_cl (by omega)] at hP
      have hE : Env (m 219) d 0 (ab_up (ab_up (ab_up i 218 16 (nI 0)) 218 17 (nI d)) 218 18 (nI 0)) := ⟨(up_row (by decide)).trans ((up_row (by decide)).trans ((up_row (by decide)).trans hs)), (up_ne (by omega)).trans up_us, (up_ne (by omega)).trans ((up_ne (by omega)).trans up_us)⟩
      have u18 : ab_up (ab_up (ab_up i 218 16 (nI 0)) 218 17 (nI d)) 218 18 (nI 0) 218 18 = nI 0 := up_us
      refine r_go 10 rfl ?_ ?_
      · exact ⟨⟨rfl, Or.inl rfl⟩, rfl, rfl⟩
      refine r_cv rfl rfl ((m_kind hE.1 hE.2.1 (by omega))) (by decide) ?_
      rw [eK]
      refine r_go 2 rfl ?_ ?_
      · (first | exact trivial | assumption | (simp (disch := omega) [ab_all, ab_nz, *]; done))
      refine r_ne rfl (fun h45 => ?_) (fun h45 => ?_)
      · skip
        refine r_go 2 rfl ?_ ?_
        · (first | exact trivial | assumption | (simp (disch := omega) [ab_all, ab_nz, *]; done))
        refine r_ne rfl (fun h60 => ?_) (fun h60 => ?_)
        · skip
          refine r_go 2 rfl ?_ ?_
          · (first | exact trivial | assumption | (simp (disch := omega) [ab_all, ab_nz, *]; done))
          refine r_ne rfl (fun h75 => ?_) (fun h75 => ?_)
          · skip
            refine r_go 3 rfl ?_ ?_
            · (first | exact trivial | assumption | (simp (disch := omega) [ab_all, ab_nz, *]; done))
            refine r_c rfl rfl ((pbA K (by omega) x hE (by omega) (by omega) eK (by decide))) (by decide) ?_
            rintro w j ⟨rfl, q1, q2⟩
            refine r_go 1 rfl ?_ ?_
            · (first | exact trivial | assumption | (simp (disch := omega) [ab_all, ab_nz, *]; done))
            first | (have hv : V = 0 := (nI_eq (by omega) (by decide)).mp h45; subst hv; have q := mo_vc hm (VQ_L (N := nI d) (M := nI d) (l := voL K) hE); rw [if_neg (show ¬ (0 = 3 ∧ dr (m 219) d 1 - nI d = nI 0) from fun z => absurd z.1 (by decide))] at hP; exact mvo_end (i := i) (c := False) hm hJ h13 (hP.trans (if_neg id).symm) (((bgL_8 (by decide)).trans u18).trans (bI_f id).symm) q.1 q.2.1 (q.2.2.trans h13)) | (have hv : V = 1 := (nI_eq (by omega) (by decide)).mp h60; subst hv; have q := mo_vc hm (VQ_L (N := nI d) (M := nI d) (l := feL K K) hE); rw [if_neg (show ¬ (1 = 3 ∧ dr (m 219) d 1 - nI d = nI 0) from fun z => absurd z.1 (by decide))] at hP; exact mvo_end (i := i) (c := False) hm hJ h13 (hP.trans (if_neg id).symm) (((bgL_8 (by decide)).trans u18).trans (bI_f id).symm) q.1 q.2.1 (q.2.2.trans h13)) | (have hv : V = 2 := (nI_eq (by omega) (by decide)).mp h75; subst hv; have q := mo_vc hm (VQ_L (N := nI d) (M := nI d) (l := flL K K) hE); rw [if_neg (show ¬ (2 = 3 ∧ dr (m 219) d 1 - nI d = nI 0) from fun z => absurd z.1 (by decide))] at hP; exact mvo_end (i := i) (c := False) hm hJ h13 (hP.trans (if_neg id).symm) (((bgL_8 (by decide)).trans u18).trans (bI_f id).symm) q.1 q.2.1 (q.2.2.trans h13)) | (have hv : V = 3 := (by rw [nI_eq (by omega) (by decide)] at h45 h60 h75; omega); subst hv; have q := mo_vc hm q1; exact mvo_end (i := i) (c := 3 = 3 ∧ dr (m 219) d 1 - nI d = nI 0) hm hJ h13 hP (q2.trans (bI_cg ⟨fun z => ⟨rfl, z⟩, fun z => z.2⟩)) q.1 q.2.1 (q.2.2.trans h13))
          · skip
            refine r_go 3 rfl ?_ ?_
            · (first | exact trivial | assumption | (simp (disch := omega) [ab_all, ab_nz, *]; done))
            refine r_cv rfl rfl ((lbA K (by omega) x hE (by omega) (by omega) eK (by decide))) (by decide) ?_
            refine r_go 2 rfl ?_ ?_
            · (first | exact trivial | assumption | (simp (disch := omega) [ab_all, ab_nz, *]; done))
            first | (have hv : V = 0 := (nI_eq (by omega) (by decide)).mp h45; subst hv; have q := mo_vc hm (VQ_L (N := nI d) (M := nI d) (l := voL K) hE); rw [if_neg (show ¬ (0 = 3 ∧ dr (m 219) d 1 - nI d = nI 0) from fun z => absurd z.1 (by decide))] at hP; exact mvo_end (i := i) (c := False) hm hJ h13 (hP.trans (if_neg id).symm) (((bgL_8 (by decide)).trans u18).trans (bI_f id).symm) q.1 q.2.1 (q.2.2.trans h13)) | (have hv : V = 1 := (nI_eq (by omega) (by decide)).mp h60; subst hv; have q := mo_vc hm (VQ_L (N := nI d) (M := nI d) (l := feL K K) hE); rw [if_neg (show ¬ (1 = 3 ∧ dr (m 219) d 1 - nI d = nI 0) from fun z => absurd z.1 (by decide))] at hP; exact mvo_end (i := i) (c := False) hm hJ h13 (hP.trans (if_neg id).symm) (((bgL_8 (by decide)).trans u18).trans (bI_f id).symm) q.1 q.2.1 (q.2.2.trans h13)) | (have hv : V = 2 := (nI_eq (by omega) (by decide)).mp h75; subst hv; have q := mo_vc hm (VQ_L (N := nI d) (M := nI d) (l := flL K K) hE); rw [if_neg (show ¬ (2 = 3 ∧ dr (m 219) d 1 - nI d = nI 0) from fun z => absurd z.1 (by decide))] at hP; exact mvo_end (i := i) (c := False) hm hJ h13 (hP.trans (if_neg id).symm) (((bgL_8 (by decide)).trans u18).trans (bI_f id).symm) q.1 q.2.1 (q.2.2.trans h13)) | (have hv : V = 3 := (by rw [nI_eq (by omega) (by decide)] at h45 h60 h75; omega); subst hv; have q := mo_vc hm q1; exact mvo_end (i := i) (c := 3 = 3 ∧ dr (m 219) d 1 - nI d = nI 0) hm hJ h13 hP (q2.trans (bI_cg ⟨fun z => ⟨rfl, z⟩, fun z => z.2⟩)) q.1 q.2.1 (q.2.2.trans h13))
        · skip
          refine r_go 3 rfl ?_ ?_
          · (first | exact trivial | assumption | (simp (disch := omega) [ab_all, ab_nz, *]; done))
          refine r_cv rfl rfl ((fbA K (by omega) x hE (by omega) (by omega) eK (by decide))) (by decide) ?_
          refine r_go 2 rfl ?_ ?_
          · (first | exact trivial | assumption | (simp (disch := omega) [ab_all, ab_nz, *]; done))
          first | (have hv : V = 0 := (nI_eq (by omega) (by decide)).mp h45; subst hv; have q := mo_vc hm (VQ_L (N := nI d) (M := nI d) (l := voL K) hE); rw [if_neg (show ¬ (0 = 3 ∧ dr (m 219) d 1 - nI d = nI 0) from fun z => absurd z.1 (by decide))] at hP; exact mvo_end (i := i) (c := False) hm hJ h13 (hP.trans (if_neg id).symm) (((bgL_8 (by decide)).trans u18).trans (bI_f id).symm) q.1 q.2.1 (q.2.2.trans h13)) | (have hv : V = 1 := (nI_eq (by omega) (by decide)).mp h60; subst hv; have q := mo_vc hm (VQ_L (N := nI d) (M := nI d) (l := feL K K) hE); rw [if_neg (show ¬ (1 = 3 ∧ dr (m 219) d 1 - nI d = nI 0) from fun z => absurd z.1 (by decide))] at hP; exact mvo_end (i := i) (c := False) hm hJ h13 (hP.trans (if_neg id).symm) (((bgL_8 (by decide)).trans u18).trans (bI_f id).symm) q.1 q.2.1 (q.2.2.trans h13)) | (have hv : V = 2 := (nI_eq (by omega) (by decide)).mp h75; subst hv; have q := mo_vc hm (VQ_L (N := nI d) (M := nI d) (l := flL K K) hE); rw [if_neg (show ¬ (2 = 3 ∧ dr (m 219) d 1 - nI d = nI 0) from fun z => absurd z.1 (by decide))] at hP; exact mvo_end (i := i) (c := False) hm hJ h13 (hP.trans (if_neg id).symm) (((bgL_8 (by decide)).trans u18).trans (bI_f id).symm) q.1 q.2.1 (q.2.2.trans h13)) | (have hv : V = 3 := (by rw [nI_eq (by omega) (by decide)] at h45 h60 h75; omega); subst hv; have q := mo_vc hm q1; exact mvo_end (i := i) (c := 3 = 3 ∧ dr (m 219) d 1 - nI d = nI 0) hm hJ h13 hP (q2.trans (bI_cg ⟨fun z => ⟨rfl, z⟩, fun z => z.2⟩)) q.1 q.2.1 (q.2.2.trans h13))
      · skip
        refine r_go 3 rfl ?_ ?_
        · (first | exact trivial | assumption | (simp (disch := omega) [ab_all, ab_nz, *]; done))
        refine r_cv rfl rfl ((vbA K (by omega) x hE (by omega) (by decide))) (by decide) ?_
        refine r_go 2 rfl ?_ ?_
        · (first | exact trivial | assumption | (simp (disch := omega) [ab_all, ab_nz, *]; done))
        first | (have hv : V = 0 := (nI_eq (by omega) (by decide)).mp h45; subst hv; have q := mo_vc hm (VQ_L (N := nI d) (M := nI d) (l := voL K) hE); rw [if_neg (show ¬ (0 = 3 ∧ dr (m 219) d 1 - nI d = nI 0) from fun z => absurd z.1 (by decide))] at hP; exact mvo_end (i := i) (c := False) hm hJ h13 (hP.trans (if_neg id).symm) (((bgL_8 (by decide)).trans u18).trans (bI_f id).symm) q.1 q.2.1 (q.2.2.trans h13)) | (have hv : V = 1 := (nI_eq (by omega) (by decide)).mp h60; subst hv; have q := mo_vc hm (VQ_L (N := nI d) (M := nI d) (l := feL K K) hE); rw [if_neg (show ¬ (1 = 3 ∧ dr (m 219) d 1 - nI d = nI 0) from fun z => absurd z.1 (by decide))] at hP; exact mvo_end (i := i) (c := False) hm hJ h13 (hP.trans (if_neg id).symm) (((bgL_8 (by decide)).trans u18).trans (bI_f id).symm) q.1 q.2.1 (q.2.2.trans h13)) | (have hv : V = 2 := (nI_eq (by omega) (by decide)).mp h75; subst hv; have q := mo_vc hm (VQ_L (N := nI d) (M := nI d) (l := flL K K) hE); rw [if_neg (show ¬ (2 = 3 ∧ dr (m 219) d 1 - nI d = nI 0) from fun z => absurd z.1 (by decide))] at hP; exact mvo_end (i := i) (c := False) hm hJ h13 (hP.trans (if_neg id).symm) (((bgL_8 (by decide)).trans u18).trans (bI_f id).symm) q.1 q.2.1 (q.2.2.trans h13)) | (have hv : V = 3 := (by rw [nI_eq (by omega) (by decide)] at h45 h60 h75; omega); subst hv; have q := mo_vc hm q1; exact mvo_end (i := i) (c := 3 = 3 ∧ dr (m 219) d 1 - nI d = nI 0) hm hJ h13 hP (q2.trans (bI_cg ⟨fun z => ⟨rfl, z⟩, fun z => z.2⟩)) q.1 q.2.1 (q.2.2.trans h13))
    · skip
      refine r_go 2 rfl ?_ ?_
      · (first | exact trivial | assumption | (simp (disch := omega) [ab_all, ab_nz, *]; done))
      refine r_cv rfl rfl ((m_error 1 (by decide))) (by decide) ?_
      refine r_ret rfl trivial ?_
      exact rf_to (if_neg (by simp only [h5, h14, if_true, if_false, not_true, not_false_eq_true, and_true, true_and, and_false, false_and, or_true, true_or, or_false, false_or, and_self, or_self, not_false_eq_true])) (rf_er hm h13)
