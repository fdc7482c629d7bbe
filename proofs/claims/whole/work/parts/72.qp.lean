/-! constructors: what holds rows -/
theorem cn_sheet {q : Nat} (ht : gf_t q = (6, 0)) (r0 : gf_t (q + 1) = (5, 0)) (r1 : gf_t (q + 1 + 1) = (100, 24)) (hq : q < 700) : y_nK 1 75 [.ref q] q (q + 3) 26 := by
  intro i r
  refine ⟨_, _, rfl, ?_⟩
  refine q_go 3 rfl trivial ?_
  rw [y_st (G := y_gi), y_st (G := gf_r)]
  refine q_new rfl r0 (show q + 1 < 900 by omega) (by omega) (by omega) ?_
  refine q_go 2 rfl trivial ?_
  refine q_cin (cn_row r0 r1 (by omega) (by omega)) rfl trivial (by decide) (by omega) (by omega) ?_
  rw [y_ca (by omega) (by omega), y_ca (by omega) (by omega)]
  refine q_put rfl ⟨y_gt (by omega) ht, Nat.succ_ne_zero _⟩ ?_
  rw [y_own]
  refine q_ret rfl trivial (by omega) (by omega) ⟨rfl, ?_, ?_⟩
  · exact y_en (by omega) (y_gi_k ht)
  · rw [y_en (by omega)]
    rw [y_gr_k ht]
    funext j
    unfold y_pu
    match j with
    | 0 => rfl
    | 1 => rfl
    | j + 2 => rfl
theorem cn_spk {q : Nat} (ht : gf_t q = (7, 0)) (r0 : gf_t (q + 1) = (5, 0)) (r1 : gf_t (q + 1 + 1) = (100, 30)) (hq : q < 700) : y_nK 1 79 [.ref q] q (q + 3) 32 := by
  intro i r
  refine ⟨_, _, rfl, ?_⟩
  refine q_go 3 rfl trivial ?_
  rw [y_st (G := y_gi), y_st (G := gf_r)]
  refine q_new rfl r0 (show q + 1 < 900 by omega) (by omega) (by omega) ?_
  refine q_go 2 rfl trivial ?_
  refine q_cin (cn_row r0 r1 (by omega) (by omega)) rfl trivial (by decide) (by omega) (by omega) ?_
  rw [y_ca (by omega) (by omega), y_ca (by omega) (by omega)]
  refine q_put rfl ⟨y_gt (by omega) ht, Nat.succ_ne_zero _⟩ ?_
  rw [y_own]
  refine q_ret rfl trivial (by omega) (by omega) ⟨rfl, ?_, ?_⟩
  · exact y_en (by omega) (y_gi_k ht)
  · rw [y_en (by omega)]
    rw [y_gr_k ht]
    funext j
    unfold y_pu
    match j with
    | 0 => rfl
    | j + 1 => rfl
theorem cn_rdr : y_nK 1 57 [.ref 69, .ref 31] 69 72 62 := by
  intro i r
  have ht : gf_t 69 = (4, 0) := rfl
  refine ⟨_, _, rfl, ?_⟩
  refine q_go 4 rfl trivial ?_
  rw [y_st (G := y_gi), y_st (G := gf_r)]
  refine q_put rfl ⟨y_gt (by omega) ht, Nat.succ_ne_zero _⟩ ?_
  rw [y_own]
  refine q_go 1 rfl trivial ?_
  refine q_new rfl (show gf_t 70 = (5, 0) from rfl) (show 69 + 1 < 900 by omega) (by omega) (by omega) ?_
  refine q_go 2 rfl trivial ?_
  refine q_cin (cn_row (q := 70) (k := 60) rfl rfl (by omega) (by omega)) rfl trivial (by decide) (by omega) (by omega) ?_
  rw [y_ca (by omega) (by omega), y_ca (by omega) (by omega)]
  refine q_put rfl ⟨y_gt (by omega) ht, Nat.succ_ne_zero _⟩ ?_
  rw [y_own]
  refine q_go 3 rfl ⟨y_gt (by omega) ht, by decide, by decide⟩ ?_
  refine q_ret rfl trivial (by omega) (by omega) ⟨rfl, ?_, ?_⟩
  · rw [y_upus, y_own, y_en (by omega)]
    rw [y_gi_k ht]
    rfl
  · rw [y_en (by omega)]
    rw [y_gr_k ht]
    funext j
    unfold y_pu
    match j with
    | 0 => rfl
    | 1 => rfl
    | j + 2 => rfl
theorem cn_law {q : Nat} (ht : gf_t q = (2, 0)) (r0 : gf_t (q + 1) = (5, 0)) (r1 : gf_t (q + 1 + 1) = (100, 60)) (r2 : gf_t (q + 1 + 2) = (100, 65)) (hq : q < 700) : y_nK 1 32 [.ref q] q (q + 4) 127 := by
  intro i r
  refine ⟨_, _, rfl, ?_⟩
  refine q_go 3 rfl trivial ?_
  rw [y_st (G := y_gi), y_st (G := gf_r)]
  refine q_new rfl r0 (show q + 1 < 900 by omega) (by omega) (by omega) ?_
  refine q_go 2 rfl trivial ?_
  refine q_cin (cn_row r0 r1 (by omega) (by omega)) rfl trivial (by decide) (by omega) (by omega) ?_
  rw [y_ca (by omega) (by omega), y_ca (by omega) (by omega)]
  refine q_put rfl ⟨y_gt (by omega) ht, Nat.succ_ne_zero _⟩ ?_
  rw [y_own]
  refine q_go 2 rfl trivial ?_
  refine q_new (n := q + 1 + 2) rfl r2 ⟨show q + 1 + 2 < 900 by omega, by decide, by decide⟩ (by omega) (show 65 ≤ _ by omega) ?_
  rw [y_ar (by omega) (y_gz r2 (fun _ => rfl)), y_ar (by omega) (y_rz r2 (fun _ => rfl))]
  refine q_put rfl ⟨y_gt (by omega) ht, Nat.succ_ne_zero _⟩ ?_
  rw [y_own]
  refine q_ret rfl trivial (by omega) (show _ - 65 = 0 by omega) ⟨rfl, ?_, ?_⟩
  · exact y_en (by omega) (y_gi_k ht)
  · rw [y_en (by omega)]
    rw [y_gr_k ht]
    funext j
    unfold y_pu
    match j with
    | 0 => rfl
    | 1 => rfl
    | j + 2 => rfl
/-! a town -/
def y_fp (a k : Nat) : Nat → Nat := fun b => if b < k then a + b else 0
theorem y_fp_s {a k : Nat} : y_pu (y_fp a k) k (a + k) = y_fp a (k + 1) := by
  funext b
  unfold y_pu y_fp
  by_cases h : b = k
  · rw [if_pos h, if_pos (by omega), h]
  · rw [if_neg h]
    by_cases h2 : b < k
    · rw [if_pos h2, if_pos (by omega)]
    · rw [if_neg h2, if_neg (by omega)]
theorem y_fp_0 {a : Nat} : y_zr = y_fp a 0 := rfl
theorem tw_l1 {q : Nat} (h : isT q) (F : Nat → Int32) (P : Nat → Nat) (hP : P 0 = q + 1) (i : ab_I) (r : Nat → Nat → Nat) (A B : Nat) (Q : ab_Q)
    (K : ab_Ok ab_P 1 A B (tb_X8_init, 43, [some (.ref q), some (.int (nI 6))], [], y_ow y_gi i q F (q + 2 + 6), y_sx (y_ow gf_r r q P (q + 2 + 6)) (q + 2 + 6)) Q) :
    ∀ (m k : Nat), 6 - k < m → k ≤ 6 → ab_Ok ab_P 1 (6 - k + A) (8 * (6 - k) + B) (tb_X8_init, 15, [some (.ref q), some (.int (nI k))], [], y_ow y_gi i q F (q + 2 + k), y_sx (y_ov (y_ow gf_r r q P (q + 2 + k)) (q + 1) (y_fp (q + 2) k)) (q + 2 + k)) Q := by
  intro m
  induction m with
  | zero => intro k hm; exact absurd hm (by omega)
  | succ m ih =>
    intro k hm hk
    have hT := isT_le h
    have hg : ab_gr (y_sx (y_ov (y_ow gf_r r q P (q + 2 + k)) (q + 1) (y_fp (q + 2) k)) (q + 2 + k)) q 0 = q + 1 := (y_vn (by omega)).trans (y_oq.trans hP)
    have ta : gf_t (q + 1) = (101, 6) := tg_a h
    refine q_go 4 rfl ⟨?_, y_gt (by omega) (tg_t h), by rw [hg]; omega⟩ ?_
    · rw [hg, y_gt (by omega) ta]
    rw [hg, y_gt (by omega) ta]
    refine q_br rfl (fun c => ?_) (fun c => ?_)
    · have e : k = 6 := by rw [Int32.le_iff_toInt_le, c_i (by omega), c_i (by omega)] at c; omega
      subst e
      rw [y_an (by omega) (by omega)]
      · exact q_fit K (by omega) (by omega)
      · rw [y_gr_k ta]
        funext b
        show (if b < 6 then q + 1 + 1 + b else 0) = _
        rfl
    · have hk6 : k < 6 := by rw [Int32.le_iff_toInt_le, c_i (by omega), c_i (by omega)] at c; omega
      have tb : gf_t (q + 2 + k) = (0, 0) := tg_b h hk6
      refine q_go 3 rfl ⟨y_gt (by omega) (tg_t h), by rw [hg]; omega⟩ ?_
      rw [hg]
      refine q_new rfl tb (show q + 2 + k < 900 by omega) (by omega) (by omega) ?_
      refine q_go 1 rfl trivial ?_
      refine q_cin (cn_bas tb) rfl trivial (by decide) (by omega) (by omega) ?_
      rw [y_ca (by omega) (by omega), y_ac (by omega) (by omega) (by omega)]
      refine q_put rfl ⟨⟨6, y_gt (by omega) ta, in_nI hk6 (by omega)⟩, y_gt (by omega) tb, show ¬ (q + 2 + k = 0) by omega, Nat.lt_succ_self _⟩ ?_
      rw [nI_cl (by omega), y_ae, y_fp_s]
      refine q_go 2 rfl trivial ?_
      rw [nI_add]
      exact q_fit (ih (k + 1) (by omega) (by omega)) (by omega) (by omega)
theorem tw_l2 {q : Nat} (h : isT q) (F : Nat → Int32) (P : Nat → Nat) (hP : P 1 = q + 8) (i : ab_I) (r : Nat → Nat → Nat) (A B : Nat) (Q : ab_Q)
    (K : ab_Ok ab_P 1 A B (tb_X8_init, 82, [some (.ref q), some (.int (nI 12))], [], y_ow y_gi i q F (q + 9 + 12), y_sx (y_ow gf_r r q P (q + 9 + 12)) (q + 9 + 12)) Q) :
    ∀ (m k : Nat), 12 - k < m → k ≤ 12 → ab_Ok ab_P 1 (12 - k + A) (8 * (12 - k) + B) (tb_X8_init, 54, [some (.ref q), some (.int (nI k))], [], y_ow y_gi i q F (q + 9 + k), y_sx (y_ov (y_ow gf_r r q P (q + 9 + k)) (q + 8) (y_fp (q + 9) k)) (q + 9 + k)) Q := by
  intro m
  induction m with
  | zero => intro k hm; exact absurd hm (by omega)
  | succ m ih =>
    intro k hm hk
    have hT := isT_le h
    have hg : ab_gr (y_sx (y_ov (y_ow gf_r r q P (q + 9 + k)) (q + 8) (y_fp (q + 9) k)) (q + 9 + k)) q 1 = q + 8 := (y_vn (by omega)).trans (y_oq.trans hP)
    have ta : gf_t (q + 8) = (102, 12) := tg_e h
    refine q_go 4 rfl ⟨?_, y_gt (by omega) (tg_t h), by rw [hg]; omega⟩ ?_
    · rw [hg, y_gt (by omega) ta]
    rw [hg, y_gt (by omega) ta]
    refine q_br rfl (fun c => ?_) (fun c => ?_)
    · have e : k = 12 := by rw [Int32.le_iff_toInt_le, c_i (by omega), c_i (by omega)] at c; omega
      subst e
      rw [y_an (by omega) (by omega)]
      · exact q_fit K (by omega) (by omega)
      · rw [y_gr_k ta]
        funext b
        show (if b < 12 then q + 8 + 1 + b else 0) = _
        rfl
    · have hk6 : k < 12 := by rw [Int32.le_iff_toInt_le, c_i (by omega), c_i (by omega)] at c; omega
      have tb : gf_t (q + 9 + k) = (1, 0) := tg_d h hk6
      refine q_go 3 rfl ⟨y_gt (by omega) (tg_t h), by rw [hg]; omega⟩ ?_
      rw [hg]
      refine q_new rfl tb (show q + 9 + k < 900 by omega) (by omega) (by omega) ?_
      refine q_go 1 rfl trivial ?_
      refine q_cin (cn_door tb) rfl trivial (by decide) (by omega) (by omega) ?_
      rw [y_ca (by omega) (by omega), y_ac (by omega) (by omega) (by omega)]
      refine q_put rfl ⟨⟨12, y_gt (by omega) ta, in_nI hk6 (by omega)⟩, y_gt (by omega) tb, show ¬ (q + 9 + k = 0) by omega, Nat.lt_succ_self _⟩ ?_
      rw [nI_cl (by omega), y_ae, y_fp_s]
      refine q_go 2 rfl trivial ?_
      rw [nI_add]
      exact q_fit (ih (k + 1) (by omega) (by omega)) (by omega) (by omega)
theorem cn_town {q : Nat} (h : isT q) : y_nK 1 85 [.ref q] q (q + 21) 162 := by
  intro i r
  have hT := isT_le h
  have ht : gf_t q = (8, 0) := tg_t h
  have ta : gf_t (q + 1) = (101, 6) := tg_a h
  have te : gf_t (q + 8) = (102, 12) := tg_e h
  refine ⟨_, _, rfl, ?_⟩
  refine q_go 4 rfl trivial ?_
  rw [y_st (G := y_gi), y_st (G := gf_r)]
  refine q_new rfl ta ⟨show q + 1 < 900 by omega, by decide, by decide⟩ (by omega) (show 6 ≤ _ by omega) ?_
  rw [y_ar (by omega) (y_gz ta (fun _ => rfl)), y_as]
  refine q_put rfl ⟨y_gt (by omega) ht, Nat.succ_ne_zero _⟩ ?_
  rw [y_ao (by omega)]
  refine q_go 2 rfl trivial ?_
  refine q_fit (tw_l1 h y_zf (y_pu y_zr 0 (q + 1)) rfl i r 13 108 _ ?_ 7 0 (by omega) (by omega)) (by omega) (show _ = _ - 6 by omega)
  refine q_go 2 rfl trivial ?_
  refine q_new (n := q + 2 + 6) rfl te ⟨show q + 2 + 6 < 900 by omega, by decide, by decide⟩ (by omega) (show 12 ≤ _ by omega) ?_
  rw [y_ar (by omega) (y_gz (show gf_t (q + 2 + 6) = _ from te) (fun _ => rfl)), y_as]
  refine q_put rfl ⟨y_gt (by omega) ht, Nat.succ_ne_zero _⟩ ?_
  rw [y_ao (by omega)]
  refine q_go 2 rfl trivial ?_
  refine q_fit (tw_l2 h y_zf (y_pu (y_pu y_zr 0 (q + 1)) 1 (q + 8)) rfl i r 0 0 _ ?_ 13 0 (by omega) (by omega)) (by omega) (show _ = _ - 12 by omega)
  refine q_go 3 rfl (y_gt (by omega) ht) ?_
  refine q_ret rfl trivial (by omega) (by omega) ⟨rfl, ?_, ?_⟩
  · rw [y_upus, y_own, y_en (by omega)]
    rw [y_gi_k ht]
    rfl
  · rw [y_en (by omega)]
    rw [y_gr_k ht]
    funext j
    unfold y_pu
    match j with
    | 0 => rfl
    | 1 => rfl
    | j + 2 => rfl
