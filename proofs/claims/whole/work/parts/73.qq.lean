/-! constructors: the class's, the reference's -/
theorem cn_whole {q : Nat} (ht : gf_t q = (9, 0)) (h1 : isT (q + 1)) (h2 : gf_t (q + 22) = (2, 0)) (h3 : gf_t (q + 23) = (5, 0)) (h4 : gf_t (q + 24) = (100, 60)) (h5 : gf_t (q + 25) = (100, 65)) (h6 : gf_t (q + 26) = (2, 0)) (h7 : gf_t (q + 27) = (5, 0)) (h8 : gf_t (q + 28) = (100, 60)) (h9 : gf_t (q + 29) = (100, 65)) (h10 : gf_t (q + 30) = (5, 0)) (h11 : gf_t (q + 31) = (100, 60)) (h12 : gf_t (q + 32) = (5, 0)) (h13 : gf_t (q + 33) = (100, 24)) (hq : q < 600) : y_nK 2 108 [.ref q] q (q + 34) 516 := by
  intro i r
  refine ⟨_, _, rfl, ?_⟩
  refine q_go 3 rfl trivial ?_
  rw [y_st (G := y_gi), y_st (G := gf_r)]
  refine q_new rfl (show gf_t (q + 1) = (8, 0) from tg_t h1) (show q + 1 < 900 by omega) (by omega) (by omega) ?_
  refine q_go 1 rfl trivial ?_
  refine q_cin (cn_town h1) rfl trivial (by decide) (by omega) (by omega) ?_
  rw [y_ca (by omega) (by omega), y_ca (by omega) (by omega)]
  refine q_put rfl ⟨y_gt (by omega) ht, Nat.succ_ne_zero _⟩ ?_
  rw [y_own]
  refine q_go 1 rfl trivial ?_
  refine q_new (n := q + 1 + 21) rfl h2 (show q + 1 + 21 < 900 by omega) (by omega) (by omega) ?_
  refine q_go 1 rfl trivial ?_
  refine q_cin (cn_law (q := q + 1 + 21) h2 h3 h4 h5 (by omega)) rfl trivial (by decide) (by omega) (by omega) ?_
  rw [y_ca (by omega) (by omega), y_ca (by omega) (by omega)]
  refine q_put rfl ⟨y_gt (by omega) ht, Nat.succ_ne_zero _⟩ ?_
  rw [y_own]
  refine q_go 1 rfl trivial ?_
  refine q_new (n := q + 1 + 21 + 4) rfl h6 (show q + 1 + 21 + 4 < 900 by omega) (by omega) (by omega) ?_
  refine q_go 1 rfl trivial ?_
  refine q_cin (cn_law (q := q + 1 + 21 + 4) h6 h7 h8 h9 (by omega)) rfl trivial (by decide) (by omega) (by omega) ?_
  rw [y_ca (by omega) (by omega), y_ca (by omega) (by omega)]
  refine q_put rfl ⟨y_gt (by omega) ht, Nat.succ_ne_zero _⟩ ?_
  rw [y_own]
  refine q_go 1 rfl trivial ?_
  refine q_new (n := q + 1 + 21 + 4 + 4) rfl h10 (show q + 1 + 21 + 4 + 4 < 900 by omega) (by omega) (by omega) ?_
  refine q_go 2 rfl trivial ?_
  refine q_cin (cn_row (q := q + 1 + 21 + 4 + 4) h10 h11 (by omega) (by omega)) rfl trivial (by decide) (by omega) (by omega) ?_
  rw [y_ca (by omega) (by omega), y_ca (by omega) (by omega)]
  refine q_put rfl ⟨y_gt (by omega) ht, Nat.succ_ne_zero _⟩ ?_
  rw [y_own]
  refine q_go 1 rfl trivial ?_
  refine q_new (n := q + 1 + 21 + 4 + 4 + 2) rfl h12 (show q + 1 + 21 + 4 + 4 + 2 < 900 by omega) (by omega) (by omega) ?_
  refine q_go 2 rfl trivial ?_
  refine q_cin (cn_row (q := q + 1 + 21 + 4 + 4 + 2) h12 h13 (by omega) (by omega)) rfl trivial (by decide) (by omega) (by omega) ?_
  rw [y_ca (by omega) (by omega), y_ca (by omega) (by omega)]
  refine q_put rfl ⟨y_gt (by omega) ht, Nat.succ_ne_zero _⟩ ?_
  rw [y_own]
  refine q_ret rfl trivial (by omega) (by omega) ⟨rfl, ?_, ?_⟩
  · exact y_en (by omega) (y_gi_k ht)
  · rw [y_en (by omega)]
    rw [y_gr_k ht]
    funext j
    unfold y_pu
    match j with
    | 0 => rfl
    | 1 => rfl
    | 2 => rfl
    | 3 => rfl
    | 4 => rfl
    | j + 5 => rfl
theorem y_grx {R : Nat → Nat → Nat} {n q k : Nat} : ab_gr (y_sx R n) q k = R q k := rfl
/-! the outlook: six towns -/
def y_fq (a c k : Nat) : Nat → Nat := fun b => if b < k then a + c * b else 0
theorem y_fq_s {a c k : Nat} : y_pu (y_fq a c k) k (a + c * k) = y_fq a c (k + 1) := by
  funext b
  unfold y_pu y_fq
  by_cases h : b = k
  · rw [if_pos h, if_pos (by omega), h]
  · rw [if_neg h]
    by_cases h2 : b < k
    · rw [if_pos h2, if_pos (by omega)]
    · rw [if_neg h2, if_neg (by omega)]
theorem y_isT : ∀ k, k < 6 → isT (74 + 21 * k) := by
  intro k hk
  have : ∀ k, k < 6 → (74 + 21 * k) ∈ Tws := by decide
  exact this k hk
theorem ol_l (F : Nat → Int32) (P : Nat → Nat) (hP : P 3 = 73) (i : ab_I) (r : Nat → Nat → Nat) (Q : ab_Q)
    (K : ∀ a b c k, ab_Ok ab_P 2 0 0 (tb_X3_init, 61, [some (.ref 72), a, b, c, k], [], y_ow y_gi i 72 F 200, y_sx (y_ow gf_r r 72 P 200) 200) Q) :
    ∀ (m k : Nat) (a b c : Option Value), 6 - k < m → k ≤ 6 → ab_Ok ab_P 2 (21 * (6 - k)) (170 * (6 - k)) (tb_X3_init, 31, [some (.ref 72), a, b, c, some (.int (nI k))], [], y_ow y_gi i 72 F (74 + 21 * k), y_sx (y_ov (y_ow gf_r r 72 P (74 + 21 * k)) 73 (y_fq 74 21 k)) (74 + 21 * k)) Q := by
  intro m
  induction m with
  | zero => intro k a b c hm; exact absurd hm (by omega)
  | succ m ih =>
    intro k a b c hm hk
    have hg : ab_gr (y_sx (y_ov (y_ow gf_r r 72 P (74 + 21 * k)) 73 (y_fq 74 21 k)) (74 + 21 * k)) 72 3 = 73 := by
      rw [y_grx, y_vn (by omega), y_oq]
      exact hP
    have ht : gf_t 72 = (3, 0) := rfl
    have ta : gf_t 73 = (109, 6) := rfl
    refine q_go 4 rfl ⟨?_, y_gt (by omega) ht, by rw [hg]; omega⟩ ?_
    · rw [hg, y_gt (by omega) ta]
    rw [hg, y_gt (by omega) ta]
    refine q_br rfl (fun c => ?_) (fun c => ?_)
    · have e : k = 6 := by rw [Int32.le_iff_toInt_le, c_i (by omega), c_i (by omega)] at c; omega
      subst e
      rw [y_an (by omega) (by omega)]
      · exact K _ _ _ _
      · rw [y_gr_k ta]
        funext b
        show (if b < 6 then 73 + 1 + 21 * b else 0) = _
        rfl
    · have hk6 : k < 6 := by rw [Int32.le_iff_toInt_le, c_i (by omega), c_i (by omega)] at c; omega
      have tb : gf_t (74 + 21 * k) = (8, 0) := tg_t (y_isT k hk6)
      refine q_go 3 rfl ⟨y_gt (by omega) ht, by rw [hg]; omega⟩ ?_
      rw [hg]
      refine q_new rfl tb (show 74 + 21 * k < 900 by omega) (by omega) (by omega) ?_
      refine q_go 1 rfl trivial ?_
      refine q_cin (cn_town (y_isT k hk6)) rfl trivial (by decide) (by omega) (by omega) ?_
      rw [y_ca (by omega) (by omega), y_ac (by omega) (by omega) (by omega)]
      refine q_put rfl ⟨⟨6, y_gt (by omega) ta, in_nI hk6 (by omega)⟩, y_gt (by omega) tb, show ¬ (74 + 21 * k = 0) by omega, show 74 + 21 * k < 74 + 21 * k + 21 by omega⟩ ?_
      rw [nI_cl (by omega), y_ae, y_fq_s]
      refine q_go 2 rfl trivial ?_
      rw [nI_add, show 74 + 21 * k + 21 = 74 + 21 * (k + 1) by omega]
      exact q_fit (ih (k + 1) _ _ _ (by omega) (by omega)) (by omega) (by omega)
theorem cn_out : y_nK 2 40 [.ref 72, .ref 2, .ref 23, .ref 27] 72 200 1026 := by
  intro i r
  have ht : gf_t 72 = (3, 0) := rfl
  have ta : gf_t 73 = (109, 6) := rfl
  refine ⟨_, _, rfl, ?_⟩
  refine q_go 4 rfl trivial ?_
  rw [y_st (G := y_gi), y_st (G := gf_r)]
  refine q_put rfl ⟨y_gt (by omega) ht, Nat.succ_ne_zero _⟩ ?_
  rw [y_own]
  refine q_go 2 rfl trivial ?_
  refine q_put rfl ⟨y_gt (by omega) ht, Nat.succ_ne_zero _⟩ ?_
  rw [y_own]
  refine q_go 2 rfl trivial ?_
  refine q_put rfl ⟨y_gt (by omega) ht, Nat.succ_ne_zero _⟩ ?_
  rw [y_own]
  refine q_go 2 rfl trivial ?_
  refine q_new (n := 73) rfl ta ⟨show 73 < 900 by omega, by decide, by decide⟩ (by omega) (show 6 ≤ _ by omega) ?_
  rw [show (72 + 1 : Nat) = 73 from rfl, y_ar (by omega) (y_gz ta (fun _ => rfl)), y_as]
  refine q_put rfl ⟨y_gt (by omega) ht, Nat.succ_ne_zero _⟩ ?_
  rw [y_ao (by omega)]
  refine q_go 2 rfl trivial ?_
  refine q_fit (ol_l y_zf (y_pu (y_pu (y_pu (y_pu y_zr 0 2) 1 23) 2 27) 3 73) rfl i r _ (fun a b c k => ?_) 7 0 _ _ _ (by omega) (by omega)) (by omega) (show _ = _ - 6 by omega)
  refine q_ret rfl trivial rfl rfl ⟨rfl, ?_, ?_⟩
  · exact y_en (by omega) (y_gi_k ht)
  · rw [y_en (by omega)]
    rw [y_gr_k ht]
    funext j
    unfold y_pu
    match j with
    | 0 => rfl
    | 1 => rfl
    | 2 => rfl
    | 3 => rfl
    | j + 4 => rfl
theorem cn_mod : ∀ (i : ab_I) (r : Nat → Nat → Nat), ab_KC 0 153 [.ref 218] 13 1927 (y_ov i 218 y_zf) (y_sx (y_ov r 218 y_zr) 219) (fun v i' g' => v = none ∧ i' = ab_up (y_iu y_gi i 218 232) 219 7 (nI 1) ∧ g' = y_sx (y_iu gf_r r 218 232) 232) := by
  intro i r
  have ht : gf_t 218 = (11, 0) := rfl
  refine ⟨_, _, rfl, ?_⟩
  refine q_go 4 rfl trivial ?_
  rw [y_st (G := y_gi), y_st (G := gf_r)]
  refine q_new (n := 219) rfl (show gf_t 219 = (100, 480) from rfl) ⟨show 219 < 900 by omega, by decide, by decide⟩ (by omega) (show 480 ≤ _ by decide) ?_
  rw [show (218 + 1 : Nat) = 219 from rfl, y_ar (by omega) (y_gz (show gf_t 219 = (100, 480) from rfl) (fun _ => rfl)), y_ar (by omega) (y_rz (show gf_t 219 = (100, 480) from rfl) (fun _ => rfl))]
  refine q_put rfl ⟨y_gt (by omega) ht, Nat.succ_ne_zero _⟩ ?_
  rw [y_own]
  refine q_go 2 rfl trivial ?_
  refine q_new (n := 220) rfl (show gf_t 220 = (100, 480) from rfl) ⟨show 220 < 900 by omega, by decide, by decide⟩ (by omega) (show 480 ≤ _ by decide) ?_
  rw [y_ar (by omega) (y_gz (show gf_t 220 = (100, 480) from rfl) (fun _ => rfl)), y_ar (by omega) (y_rz (show gf_t 220 = (100, 480) from rfl) (fun _ => rfl))]
  refine q_put rfl ⟨y_gt (by omega) ht, Nat.succ_ne_zero _⟩ ?_
  rw [y_own]
  refine q_go 2 rfl trivial ?_
  refine q_new (n := 221) rfl (show gf_t 221 = (100, 480) from rfl) ⟨show 221 < 900 by omega, by decide, by decide⟩ (by omega) (show 480 ≤ _ by decide) ?_
  rw [y_ar (by omega) (y_gz (show gf_t 221 = (100, 480) from rfl) (fun _ => rfl)), y_ar (by omega) (y_rz (show gf_t 221 = (100, 480) from rfl) (fun _ => rfl))]
  refine q_put rfl ⟨y_gt (by omega) ht, Nat.succ_ne_zero _⟩ ?_
  rw [y_own]
  refine q_go 2 rfl trivial ?_
  refine q_new (n := 222) rfl (show gf_t 222 = (100, 7) from rfl) ⟨show 222 < 900 by omega, by decide, by decide⟩ (by omega) (show 7 ≤ _ by decide) ?_
  rw [y_ar (by omega) (y_gz (show gf_t 222 = (100, 7) from rfl) (fun _ => rfl)), y_ar (by omega) (y_rz (show gf_t 222 = (100, 7) from rfl) (fun _ => rfl))]
  refine q_put rfl ⟨y_gt (by omega) ht, Nat.succ_ne_zero _⟩ ?_
  rw [y_own]
  refine q_go 2 rfl trivial ?_
  refine q_new (n := 223) rfl (show gf_t 223 = (100, 124) from rfl) ⟨show 223 < 900 by omega, by decide, by decide⟩ (by omega) (show 124 ≤ _ by decide) ?_
  rw [y_ar (by omega) (y_gz (show gf_t 223 = (100, 124) from rfl) (fun _ => rfl)), y_ar (by omega) (y_rz (show gf_t 223 = (100, 124) from rfl) (fun _ => rfl))]
  refine q_put rfl ⟨y_gt (by omega) ht, Nat.succ_ne_zero _⟩ ?_
  rw [y_own]
  refine q_go 2 rfl trivial ?_
  refine q_new (n := 224) rfl (show gf_t 224 = (100, 128) from rfl) ⟨show 224 < 900 by omega, by decide, by decide⟩ (by omega) (show 128 ≤ _ by decide) ?_
  rw [y_ar (by omega) (y_gz (show gf_t 224 = (100, 128) from rfl) (fun _ => rfl)), y_ar (by omega) (y_rz (show gf_t 224 = (100, 128) from rfl) (fun _ => rfl))]
  refine q_put rfl ⟨y_gt (by omega) ht, Nat.succ_ne_zero _⟩ ?_
  rw [y_own]
  refine q_go 2 rfl trivial ?_
  refine q_new (n := 225) rfl (show gf_t 225 = (100, 64) from rfl) ⟨show 225 < 900 by omega, by decide, by decide⟩ (by omega) (show 64 ≤ _ by decide) ?_
  rw [y_ar (by omega) (y_gz (show gf_t 225 = (100, 64) from rfl) (fun _ => rfl)), y_ar (by omega) (y_rz (show gf_t 225 = (100, 64) from rfl) (fun _ => rfl))]
  refine q_put rfl ⟨y_gt (by omega) ht, Nat.succ_ne_zero _⟩ ?_
  rw [y_own]
  refine q_go 2 rfl trivial ?_
  refine q_new (n := 226) rfl (show gf_t 226 = (100, 6) from rfl) ⟨show 226 < 900 by omega, by decide, by decide⟩ (by omega) (show 6 ≤ _ by decide) ?_
  rw [y_ar (by omega) (y_gz (show gf_t 226 = (100, 6) from rfl) (fun _ => rfl)), y_ar (by omega) (y_rz (show gf_t 226 = (100, 6) from rfl) (fun _ => rfl))]
  refine q_put rfl ⟨y_gt (by omega) ht, Nat.succ_ne_zero _⟩ ?_
  rw [y_own]
  refine q_go 5 rfl (y_gt (by omega) ht) ?_
  rw [y_upus, y_own]
  refine q_new (n := 227) rfl (show gf_t 227 = (100, 30) from rfl) ⟨show 227 < 900 by omega, by decide, by decide⟩ (by omega) (show 30 ≤ _ by decide) ?_
  rw [y_ar (by omega) (y_gz (show gf_t 227 = (100, 30) from rfl) (fun _ => rfl)), y_ar (by omega) (y_rz (show gf_t 227 = (100, 30) from rfl) (fun _ => rfl))]
  refine q_put rfl ⟨y_gt (by omega) ht, Nat.succ_ne_zero _⟩ ?_
  rw [y_own]
  refine q_go 2 rfl trivial ?_
  refine q_new (n := 228) rfl (show gf_t 228 = (100, 4) from rfl) ⟨show 228 < 900 by omega, by decide, by decide⟩ (by omega) (show 4 ≤ _ by decide) ?_
  rw [y_ar (by omega) (y_gz (show gf_t 228 = (100, 4) from rfl) (fun _ => rfl)), y_ar (by omega) (y_rz (show gf_t 228 = (100, 4) from rfl) (fun _ => rfl))]
  refine q_put rfl ⟨y_gt (by omega) ht, Nat.succ_ne_zero _⟩ ?_
  rw [y_own]
  refine q_go 2 rfl trivial ?_
  refine q_new (n := 229) rfl (show gf_t 229 = (100, 4) from rfl) ⟨show 229 < 900 by omega, by decide, by decide⟩ (by omega) (show 4 ≤ _ by decide) ?_
  rw [y_ar (by omega) (y_gz (show gf_t 229 = (100, 4) from rfl) (fun _ => rfl)), y_ar (by omega) (y_rz (show gf_t 229 = (100, 4) from rfl) (fun _ => rfl))]
  refine q_put rfl ⟨y_gt (by omega) ht, Nat.succ_ne_zero _⟩ ?_
  rw [y_own]
  refine q_go 2 rfl trivial ?_
  refine q_new (n := 230) rfl (show gf_t 230 = (100, 96) from rfl) ⟨show 230 < 900 by omega, by decide, by decide⟩ (by omega) (show 96 ≤ _ by decide) ?_
  rw [y_ar (by omega) (y_gz (show gf_t 230 = (100, 96) from rfl) (fun _ => rfl)), y_ar (by omega) (y_rz (show gf_t 230 = (100, 96) from rfl) (fun _ => rfl))]
  refine q_put rfl ⟨y_gt (by omega) ht, Nat.succ_ne_zero _⟩ ?_
  rw [y_own]
  refine q_go 2 rfl trivial ?_
  refine q_new (n := 231) rfl (show gf_t 231 = (100, 24) from rfl) ⟨show 231 < 900 by omega, by decide, by decide⟩ (by omega) (show 24 ≤ _ by decide) ?_
  rw [y_ar (by omega) (y_gz (show gf_t 231 = (100, 24) from rfl) (fun _ => rfl)), y_ar (by omega) (y_rz (show gf_t 231 = (100, 24) from rfl) (fun _ => rfl))]
  refine q_put rfl ⟨y_gt (by omega) ht, Nat.succ_ne_zero _⟩ ?_
  rw [y_own]
  have e0 : ∀ (P : Nat → Nat) (n : Nat), P 0 = 219 → ab_gr (y_sx (y_ow gf_r r 218 P n) n) 218 0 = 219 := fun P n h => by
    rw [y_grx, y_oq]
    exact h
  refine q_go 5 rfl ?_ ?_
  · rw [e0 _ _ rfl]
    exact ⟨⟨480, y_gt (by omega) rfl, in_nI (by omega) (by omega)⟩, y_gt (by omega) ht, by omega⟩
  rw [e0 _ _ rfl]
  refine q_ret rfl trivial rfl (by decide) ⟨rfl, ?_, ?_⟩
  · refine congrArg (fun y => ab_up y 219 7 (nI 1)) ?_
    rw [y_en (by omega)]
    rw [y_gi_k ht]
    rfl
  · rw [y_en (by omega)]
    rw [y_gr_k ht]
    funext j
    unfold y_pu
    match j with
    | 0 => rfl
    | 1 => rfl
    | 2 => rfl
    | 3 => rfl
    | 4 => rfl
    | 5 => rfl
    | 6 => rfl
    | 7 => rfl
    | 8 => rfl
    | 9 => rfl
    | 10 => rfl
    | 11 => rfl
    | 12 => rfl
    | 13 => rfl
    | 14 => rfl
    | 15 => rfl
    | 16 => rfl
    | 17 => rfl
    | 18 => rfl
    | 19 => rfl
    | 20 => rfl
    | 21 => rfl
    | 22 => rfl
    | j + 23 => rfl
/-! the class's own -/
theorem z_l {i : ab_I} {g : ab_Sh} (ha : ab_gt g 217 = (100, 6)) (h0 : ∀ k, i 217 k = nI 0) : ∀ (m k : Nat), 6 - k < m → k ≤ 6 → ab_Ok ab_P 0 0 0 (tb_J7_fill_53178, 5, [some (.ref 217), some (.int (nI 0)), some (.int (nI k)), some (.int (nI 6))], [], i, g) (fun v i' g' => v = none ∧ i' = i ∧ g' = g) := by
  intro m
  induction m with
  | zero => intro k hm; exact absurd hm (by omega)
  | succ m ih =>
    intro k hm hk
    refine q_go 2 rfl trivial ?_
    refine q_br rfl (fun c => ?_) (fun c => ?_)
    · exact q_ret rfl trivial rfl rfl ⟨rfl, rfl, rfl⟩
    · have hk6 : k < 6 := by rw [Int32.le_iff_toInt_le, c_i (by omega), c_i (by omega)] at c; omega
      refine q_go 6 rfl ⟨6, ha, in_nI hk6 (by omega)⟩ ?_
      rw [nI_cl (by omega), up_id (h0 k), nI_add]
      exact ih (k + 1) (by omega) (by omega)
theorem cn_zeros {i : ab_I} {g : ab_Sh} (h5 : ab_gt g 216 = (5, 0)) (hr : ab_gr g 216 0 = 217) (ha : ab_gt g 217 = (100, 6)) (h0 : ∀ k, i 217 k = nI 0) : ab_KC 1 72 [.ref 216, .int (nI 6)] 0 0 i g (fun v i' g' => v = none ∧ i' = ab_up i 216 1 (nI 6) ∧ g' = g) := by
  refine ⟨_, _, rfl, ?_⟩
  have hr0 : ¬ ab_gr g 216 0 = 0 := by rw [hr]; omega
  refine q_go 12 rfl ⟨⟨h5, hr0⟩, h5, by rw [hr, ha], h5, hr0⟩ ?_
  rw [hr, ha]
  have hk : ab_KC 0 9 [.ref 217, .int (nI 0)] 0 0 (ab_up i 216 1 (nI 6)) g (fun v i' g' => v = none ∧ i' = ab_up i 216 1 (nI 6) ∧ g' = g) := by
    refine ⟨_, _, rfl, ?_⟩
    refine q_go 5 rfl (by show (ab_gt g 217).1 = 100; rw [ha]) ?_
    rw [ha]
    exact z_l ha (fun k => (up_ne (by omega)).trans (h0 k)) 7 0 (by omega) (by omega)
  refine q_call rfl trivial hk (by decide) (Nat.le_refl _) (Nat.le_refl _) ?_
  rintro v i' g' ⟨rfl, rfl, rfl⟩
  exact q_ret rfl trivial rfl rfl ⟨rfl, rfl, rfl⟩
theorem vw_l (F : Nat → Int32) (P : Nat → Nat) (hP : P 6 = 203) (i : ab_I) (r : Nat → Nat → Nat) (Q : ab_Q)
    (K : ab_Ok ab_P 3 2 8 (tb_X10_init, 125, [some (.ref 0), some (.int (nI 4))], [], y_ow y_gi i 0 F 216, y_sx (y_ow gf_r r 0 P 216) 216) Q) :
    ∀ (m k : Nat), 4 - k < m → k ≤ 4 → ab_Ok ab_P 3 (3 * (4 - k) + 2) (28 * (4 - k) + 8) (tb_X10_init, 97, [some (.ref 0), some (.int (nI k))], [], y_ow y_gi i 0 F (204 + 3 * k), y_sx (y_ov (y_ow gf_r r 0 P (204 + 3 * k)) 203 (y_fq 204 3 k)) (204 + 3 * k)) Q := by
  intro m
  induction m with
  | zero => intro k hm; exact absurd hm (by omega)
  | succ m ih =>
    intro k hm hk
    have hg : ab_gr (y_sx (y_ov (y_ow gf_r r 0 P (204 + 3 * k)) 203 (y_fq 204 3 k)) (204 + 3 * k)) 0 6 = 203 := by
      rw [y_grx, y_vn (by omega), y_oq]
      exact hP
    have ht : gf_t 0 = (10, 0) := rfl
    have ta : gf_t 203 = (107, 4) := rfl
    refine q_go 4 rfl ⟨?_, y_gt (by omega) ht, by rw [hg]; omega⟩ ?_
    · rw [hg, y_gt (by omega) ta]
    rw [hg, y_gt (by omega) ta]
    refine q_br rfl (fun c => ?_) (fun c => ?_)
    · have e : k = 4 := by rw [Int32.le_iff_toInt_le, c_i (by omega), c_i (by omega)] at c; omega
      subst e
      rw [y_an (by omega) (by omega)]
      · exact K
      · rw [y_gr_k ta]
        funext b
        show (if b < 4 then 203 + 1 + 3 * b else 0) = _
        rfl
    · have hk6 : k < 4 := by rw [Int32.le_iff_toInt_le, c_i (by omega), c_i (by omega)] at c; omega
      have hT : ∀ k, k < 4 → gf_t (204 + 3 * k) = (6, 0) ∧ gf_t (204 + 3 * k + 1) = (5, 0) ∧ gf_t (204 + 3 * k + 1 + 1) = (100, 24) := by decide
      obtain ⟨tb, tb1, tb2⟩ := hT k hk6
      refine q_go 3 rfl ⟨y_gt (by omega) ht, by rw [hg]; omega⟩ ?_
      rw [hg]
      refine q_new rfl tb (show 204 + 3 * k < 900 by omega) (by omega) (by omega) ?_
      refine q_go 1 rfl trivial ?_
      refine q_cin (cn_sheet tb tb1 tb2 (by omega)) rfl trivial (by decide) (by omega) (by omega) ?_
      rw [y_ca (by omega) (by omega), y_ac (by omega) (by omega) (by omega)]
      refine q_put rfl ⟨⟨4, y_gt (by omega) ta, in_nI hk6 (by omega)⟩, y_gt (by omega) tb, show ¬ (204 + 3 * k = 0) by omega, show 204 + 3 * k < 204 + 3 * k + 3 by omega⟩ ?_
      rw [nI_cl (by omega), y_ae, y_fq_s]
      refine q_go 2 rfl trivial ?_
      rw [nI_add, show 204 + 3 * k + 3 = 204 + 3 * (k + 1) by omega]
      exact q_fit (ih (k + 1) (by omega) (by omega)) (by omega) (by omega)
theorem cn_vw : ∀ (i : ab_I) (r : Nat → Nat → Nat), ab_KC 3 110 [.ref 0] 217 2302 (y_ov i 0 y_zf) (y_sx (y_ov r 0 y_zr) 1) (fun v i' g' => v = none ∧ i' = ab_up (y_iu y_gi i 0 218) 216 1 (nI 6) ∧ g' = y_sx (y_iu gf_r r 0 218) 218) := by
  intro i r
  have ht : gf_t 0 = (10, 0) := rfl
  have t1 : gf_t 1 = (9, 0) := rfl
  refine ⟨_, _, rfl, ?_⟩
  refine q_go 3 rfl trivial ?_
  rw [y_st (G := y_gi), y_st (G := gf_r)]
  refine q_new (n := 1) rfl (show gf_t 1 = (9, 0) from rfl) (show 1 < 900 by omega) (by omega) (by omega) ?_
  refine q_go 1 rfl trivial ?_
  refine q_cin (cn_whole (q := 1) rfl (show isT 2 by unfold isT; decide) rfl rfl rfl rfl rfl rfl rfl rfl rfl rfl rfl rfl (by omega)) rfl trivial (by decide) (by omega) (by omega) ?_
  rw [y_ca (by omega) (by omega), y_ca (by omega) (by omega)]
  refine q_put rfl ⟨y_gt (by omega) ht, Nat.succ_ne_zero _⟩ ?_
  rw [y_own]
  refine q_go 1 rfl trivial ?_
  refine q_new (n := 35) rfl (show gf_t 35 = (9, 0) from rfl) (show 35 < 900 by omega) (by omega) (by omega) ?_
  refine q_go 1 rfl trivial ?_
  refine q_cin (cn_whole (q := 35) rfl (show isT 36 by unfold isT; decide) rfl rfl rfl rfl rfl rfl rfl rfl rfl rfl rfl rfl (by omega)) rfl trivial (by decide) (by omega) (by omega) ?_
  rw [y_ca (by omega) (by omega), y_ca (by omega) (by omega)]
  refine q_put rfl ⟨y_gt (by omega) ht, Nat.succ_ne_zero _⟩ ?_
  rw [y_own]
  refine q_go 1 rfl trivial ?_
  have p0 : (y_pu (y_pu y_zr 0 1) 1 35) 0 = 1 := rfl
  refine q_new (n := 69) rfl (show gf_t 69 = (4, 0) from rfl) (show 69 < 900 by omega) (by omega) (by omega) ?_
  have f0 : ab_gr (y_sx (y_ov (y_ow gf_r r 0 (y_pu (y_pu y_zr 0 1) 1 35) (35 + 34)) 69 y_zr) (69 + 1)) 0 0 = 1 := by
    rw [y_grx, y_vn (by omega), y_oq]
    rfl
  have f1 : ∀ k, ab_gr (y_sx (y_ov (y_ow gf_r r 0 (y_pu (y_pu y_zr 0 1) 1 35) (35 + 34)) 69 y_zr) (69 + 1)) 1 k = gf_r 1 k := by
    intro k
    rw [y_grx, y_vn (by omega), y_om (by omega) (by omega)]
  refine q_go 4 rfl ?_ ?_
  · simp only [ab_all, f0, f1]
    exact ⟨⟨y_gt (by omega) t1, by decide⟩, y_gt (by omega) ht, by decide⟩
  rw [f0, f1, show gf_r 1 3 = 31 from rfl]
  refine q_cin (cn_rdr) rfl trivial (by decide) (by omega) (by omega) ?_
  rw [y_ca (by omega) (by omega), y_ca (by omega) (by omega)]
  refine q_put rfl ⟨y_gt (by omega) ht, Nat.succ_ne_zero _⟩ ?_
  rw [y_own]
  refine q_go 1 rfl trivial ?_
  have e0 : ab_gr (y_sx (y_ov (y_ow gf_r r 0 (y_pu (y_pu (y_pu y_zr 0 1) 1 35) 3 69) 72) 72 y_zr) 73) 0 0 = 1 := by
    rw [y_grx, y_vn (by omega), y_oq]
    rfl
  have e1 : ∀ k, ab_gr (y_sx (y_ov (y_ow gf_r r 0 (y_pu (y_pu (y_pu y_zr 0 1) 1 35) 3 69) 72) 72 y_zr) 73) 1 k = gf_r 1 k := by
    intro k
    rw [y_grx, y_vn (by omega), y_om (by omega) (by omega)]
  refine q_new (n := 72) rfl (show gf_t 72 = (3, 0) from rfl) (show 72 < 900 by omega) (by omega) (by omega) ?_
  refine q_go 10 rfl ?_ ?_
  · simp only [ab_all, e0, e1]
    refine ⟨⟨?_, ?_⟩, ⟨?_, ?_⟩, ⟨?_, ?_⟩, ⟨?_, ?_⟩, ⟨?_, ?_⟩, ⟨?_, ?_⟩⟩ <;> first | exact y_gt (by omega) ht | exact y_gt (by omega) t1 | decide
  rw [e0, e1, e1, e1]
  refine q_cin (cn_out) rfl trivial (by decide) (by omega) (by omega) ?_
  rw [y_ca (by omega) (by omega), y_ca (by omega) (by omega)]
  refine q_put rfl ⟨y_gt (by omega) ht, Nat.succ_ne_zero _⟩ ?_
  rw [y_own]
  refine q_go 1 rfl trivial ?_
  refine q_new (n := 200) rfl (show gf_t 200 = (7, 0) from rfl) (show 200 < 900 by omega) (by omega) (by omega) ?_
  refine q_go 1 rfl trivial ?_
  refine q_cin (cn_spk (q := 200) rfl rfl rfl (by omega)) rfl trivial (by decide) (by omega) (by omega) ?_
  rw [y_ca (by omega) (by omega), y_ca (by omega) (by omega)]
  refine q_put rfl ⟨y_gt (by omega) ht, Nat.succ_ne_zero _⟩ ?_
  rw [y_own]
  refine q_go 2 rfl trivial ?_
  have ta : gf_t 203 = (107, 4) := rfl
  refine q_new (n := 203) rfl ta ⟨show 203 < 900 by omega, by decide, by decide⟩ (by omega) (show 4 ≤ _ by omega) ?_
  rw [y_ar (by omega) (y_gz ta (fun _ => rfl)), y_as]
  refine q_put rfl ⟨y_gt (by omega) ht, Nat.succ_ne_zero _⟩ ?_
  rw [y_ao (by omega)]
  refine q_go 2 rfl trivial ?_
  refine q_fit (vw_l y_zf (y_pu (y_pu (y_pu (y_pu (y_pu (y_pu y_zr 0 1) 1 35) 3 69) 4 72) 5 200) 6 203) rfl i r _ ?_ 5 0 (by omega) (by omega)) (by omega) (show _ = _ - 4 by omega)
  refine q_go 1 rfl trivial ?_
  refine q_new (n := 216) rfl (show gf_t 216 = (5, 0) from rfl) (show 216 < 900 by omega) (by omega) (by omega) ?_
  refine q_go 2 rfl trivial ?_
  refine q_cin (cn_row (q := 216) (k := 6) rfl rfl (by omega) (by omega)) rfl trivial (by decide) (by omega) (by omega) ?_
  rw [y_ca (by omega) (by omega), y_ca (by omega) (by omega)]
  refine q_put rfl ⟨y_gt (by omega) ht, Nat.succ_ne_zero _⟩ ?_
  rw [y_own]
  have e7 : ab_gr (y_sx (y_ow gf_r r 0 (y_pu (y_pu (y_pu (y_pu (y_pu (y_pu (y_pu y_zr 0 1) 1 35) 3 69) 4 72) 5 200) 6 203) 7 216) (216 + 2)) (216 + 2)) 0 7 = 216 := by
    rw [y_grx, y_oq]
    rfl
  refine q_go 3 rfl ⟨y_gt (by omega) ht, by rw [e7]; omega⟩ ?_
  rw [e7]
  refine q_call rfl (y_gt (by omega) rfl) (cn_zeros (y_gt (by omega) rfl) (by rw [y_grx, y_om (by omega) (by omega)]; rfl) (y_gt (by omega) rfl) (fun k => by rw [y_om (by omega) (by omega)]; rfl)) (by decide) (Nat.zero_le _) (Nat.zero_le _) ?_
  rintro v i' g' ⟨rfl, rfl, rfl⟩
  refine q_ret rfl trivial (by omega) (by omega) ⟨rfl, ?_, ?_⟩
  · refine congrArg (fun y => ab_up y 216 1 (nI 6)) ?_
    exact y_en (by omega) (y_gi_k ht)
  · rw [y_en (by omega)]
    rw [y_gr_k ht]
    funext j
    unfold y_pu
    match j with
    | 0 => rfl
    | 1 => rfl
    | 2 => rfl
    | 3 => rfl
    | 4 => rfl
    | 5 => rfl
    | 6 => rfl
    | 7 => rfl
    | j + 8 => rfl
