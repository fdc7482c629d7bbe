/-! text: the reference's small methods -/
theorem m_look {s : Vc} {p : Nat} {i : ab_I} (hs : i 219 = s) (hI : InS s) (hp : i 218 5 = nI p) (hpn : p ≤ (s 5).toNatClampNeg) : ab_K 0 177 [.ref 218] i (ab_V (.int (tpV s p)) i) := by
  obtain ⟨e5, l5⟩ := In5 hI
  refine k_of rfl ?_
  refine r_go 6 rfl ?_ ?_
  · (simp only [ab_all, gr_218_0, nI_add]; repeat' (first | exact ix_219 (by omega) | rfl | decide | (unfold ab_nz; decide) | refine And.intro ?_ ?_))
  rw [rowI hs, nI_cl (by decide), ← e5, hp]
  refine r_le rfl (fun h10 => ?_) (fun h10 => ?_)
  · skip
    refine r_go 1 rfl ?_ ?_
    · (simp only [ab_all, gr_218_0, nI_add]; repeat' (first | exact ix_219 (by omega) | rfl | decide | (unfold ab_nz; decide) | refine And.intro ?_ ?_))
    refine r_ret rfl trivial ?_
    unfold tpV
    first | (rw [if_pos (by have q := h10; rw [Int32.lt_iff_toInt_lt, c_i (by omega), c_i (by omega)] at q; omega), gr_218_0, hp, nI_add, nI_cl (by omega), hs]; exact ⟨rfl, rfl⟩) | (rw [if_neg (by have q := h10; rw [Int32.lt_iff_toInt_lt, c_i (by omega), c_i (by omega)] at q; omega)]; exact ⟨rfl, rfl⟩)
  · skip
    refine r_go 8 rfl ?_ ?_
    · (simp only [ab_all, gr_218_0, nI_add, hp]; exact ⟨ix_219 (by omega), rfl, by decide⟩)
    refine r_ret rfl trivial ?_
    unfold tpV
    first | (rw [if_pos (by have q := h10; rw [Int32.lt_iff_toInt_lt, c_i (by omega), c_i (by omega)] at q; omega), gr_218_0, hp, nI_add, nI_cl (by omega), hs]; exact ⟨rfl, rfl⟩) | (rw [if_neg (by have q := h10; rw [Int32.lt_iff_toInt_lt, c_i (by omega), c_i (by omega)] at q; omega)]; exact ⟨rfl, rfl⟩)
theorem nmB_0 {x : Int32} : nmB 0 x = decide (x = nI 108 ∨ x = nI 115 ∨ x = nI 114 ∨ x = nI 104 ∨ x = nI 119) := if_pos rfl
theorem nmB_1 {x : Int32} : nmB 1 x = decide (x = nI 102 ∨ x = nI 100 ∨ x = nI 109) := if_neg (by decide)
theorem m_isN0 {i : ab_I} (x : Int32) (h8 : i 218 8 = nI 0) : ab_K 0 178 [.ref 218, .int x] i (ab_V (.int (bI (nmB 0 x = true))) i) := by
  refine k_of rfl ?_
  refine r_go 2 rfl ?_ ?_
  · (simp only [ab_all] <;> decide)
  refine r_brF rfl (fun z => z h8) ?_
  refine r_go 2 rfl ?_ ?_
  · (simp only [ab_all] <;> decide)
  refine r_br rfl (fun h10 => ?_) (fun h10 => ?_)
  · skip
    refine r_go 2 rfl ?_ ?_
    · (simp only [ab_all] <;> decide)
    refine r_ret rfl (by (first | exact Or.inl rfl | exact Or.inr rfl | exact bI_or)) ?_
    rw [nmB_0]
    first | exact lf_t (decide_eq_true (by simp only [h10, true_or, or_true])) | exact lf_f (fun z => by have q := of_decide_eq_true z; rcases q with q | q | q | q | q <;> first | exact h10 q | exact h16 q | exact h22 q | exact h28 q | exact h34 q)
  · skip
    refine r_go 2 rfl ?_ ?_
    · (simp only [ab_all] <;> decide)
    refine r_br rfl (fun h16 => ?_) (fun h16 => ?_)
    · skip
      refine r_go 2 rfl ?_ ?_
      · (simp only [ab_all] <;> decide)
      refine r_ret rfl (by (first | exact Or.inl rfl | exact Or.inr rfl | exact bI_or)) ?_
      rw [nmB_0]
      first | exact lf_t (decide_eq_true (by simp only [h10, h16, true_or, or_true])) | exact lf_f (fun z => by have q := of_decide_eq_true z; rcases q with q | q | q | q | q <;> first | exact h10 q | exact h16 q | exact h22 q | exact h28 q | exact h34 q)
    · skip
      refine r_go 2 rfl ?_ ?_
      · (simp only [ab_all] <;> decide)
      refine r_br rfl (fun h22 => ?_) (fun h22 => ?_)
      · skip
        refine r_go 2 rfl ?_ ?_
        · (simp only [ab_all] <;> decide)
        refine r_ret rfl (by (first | exact Or.inl rfl | exact Or.inr rfl | exact bI_or)) ?_
        rw [nmB_0]
        first | exact lf_t (decide_eq_true (by simp only [h10, h16, h22, true_or, or_true])) | exact lf_f (fun z => by have q := of_decide_eq_true z; rcases q with q | q | q | q | q <;> first | exact h10 q | exact h16 q | exact h22 q | exact h28 q | exact h34 q)
      · skip
        refine r_go 2 rfl ?_ ?_
        · (simp only [ab_all] <;> decide)
        refine r_br rfl (fun h28 => ?_) (fun h28 => ?_)
        · skip
          refine r_go 2 rfl ?_ ?_
          · (simp only [ab_all] <;> decide)
          refine r_ret rfl (by (first | exact Or.inl rfl | exact Or.inr rfl | exact bI_or)) ?_
          rw [nmB_0]
          first | exact lf_t (decide_eq_true (by simp only [h10, h16, h22, h28, true_or, or_true])) | exact lf_f (fun z => by have q := of_decide_eq_true z; rcases q with q | q | q | q | q <;> first | exact h10 q | exact h16 q | exact h22 q | exact h28 q | exact h34 q)
        · skip
          refine r_go 2 rfl ?_ ?_
          · (simp only [ab_all] <;> decide)
          refine r_ne rfl (fun h34 => ?_) (fun h34 => ?_)
          · skip
            refine r_go 2 rfl ?_ ?_
            · (simp only [ab_all] <;> decide)
            refine r_ret rfl (by (first | exact Or.inl rfl | exact Or.inr rfl | exact bI_or)) ?_
            rw [nmB_0]
            first | exact lf_t (decide_eq_true (by simp only [h10, h16, h22, h28, h34, true_or, or_true])) | exact lf_f (fun z => by have q := of_decide_eq_true z; rcases q with q | q | q | q | q <;> first | exact h10 q | exact h16 q | exact h22 q | exact h28 q | exact h34 q)
          · skip
            refine r_go 2 rfl ?_ ?_
            · (simp only [ab_all] <;> decide)
            refine r_ret rfl (by (first | exact Or.inl rfl | exact Or.inr rfl | exact bI_or)) ?_
            rw [nmB_0]
            first | exact lf_t (decide_eq_true (by simp only [h10, h16, h22, h28, h34, true_or, or_true])) | exact lf_f (fun z => by have q := of_decide_eq_true z; rcases q with q | q | q | q | q <;> first | exact h10 q | exact h16 q | exact h22 q | exact h28 q | exact h34 q)
theorem m_isN1 {i : ab_I} (x : Int32) (h8 : i 218 8 = nI 1) : ab_K 0 178 [.ref 218, .int x] i (ab_V (.int (bI (nmB 1 x = true))) i) := by
  refine k_of rfl ?_
  refine r_go 2 rfl ?_ ?_
  · (simp only [ab_all] <;> decide)
  refine r_brT rfl (fun z => by rw [h8] at z; exact absurd z (by decide)) ?_
  refine r_go 2 rfl ?_ ?_
  · (simp only [ab_all] <;> decide)
  refine r_br rfl (fun h48 => ?_) (fun h48 => ?_)
  · skip
    refine r_go 2 rfl ?_ ?_
    · (simp only [ab_all] <;> decide)
    refine r_ret rfl (by (first | exact Or.inl rfl | exact Or.inr rfl | exact bI_or)) ?_
    rw [nmB_1]
    first | exact lf_t (decide_eq_true (by simp only [h48, true_or, or_true])) | exact lf_f (fun z => by have q := of_decide_eq_true z; rcases q with q | q | q <;> first | exact h48 q | exact h54 q | exact h60 q)
  · skip
    refine r_go 2 rfl ?_ ?_
    · (simp only [ab_all] <;> decide)
    refine r_br rfl (fun h54 => ?_) (fun h54 => ?_)
    · skip
      refine r_go 2 rfl ?_ ?_
      · (simp only [ab_all] <;> decide)
      refine r_ret rfl (by (first | exact Or.inl rfl | exact Or.inr rfl | exact bI_or)) ?_
      rw [nmB_1]
      first | exact lf_t (decide_eq_true (by simp only [h48, h54, true_or, or_true])) | exact lf_f (fun z => by have q := of_decide_eq_true z; rcases q with q | q | q <;> first | exact h48 q | exact h54 q | exact h60 q)
    · skip
      refine r_go 2 rfl ?_ ?_
      · (simp only [ab_all] <;> decide)
      refine r_ne rfl (fun h60 => ?_) (fun h60 => ?_)
      · skip
        refine r_go 1 rfl ?_ ?_
        · (simp only [ab_all] <;> decide)
        refine r_ret rfl (by (first | exact Or.inl rfl | exact Or.inr rfl | exact bI_or)) ?_
        rw [nmB_1]
        first | exact lf_t (decide_eq_true (by simp only [h48, h54, h60, true_or, or_true])) | exact lf_f (fun z => by have q := of_decide_eq_true z; rcases q with q | q | q <;> first | exact h48 q | exact h54 q | exact h60 q)
      · skip
        refine r_go 2 rfl ?_ ?_
        · (simp only [ab_all] <;> decide)
        refine r_ret rfl (by (first | exact Or.inl rfl | exact Or.inr rfl | exact bI_or)) ?_
        rw [nmB_1]
        first | exact lf_t (decide_eq_true (by simp only [h48, h54, h60, true_or, or_true])) | exact lf_f (fun z => by have q := of_decide_eq_true z; rcases q with q | q | q <;> first | exact h48 q | exact h54 q | exact h60 q)
theorem m_isNm {i : ab_I} (u : Nat) (x : Int32) (hu : u < 2) (h8 : i 218 8 = nI u) : ab_K 0 178 [.ref 218, .int x] i (ab_V (.int (bI (nmB u x = true))) i) := by
  have hU : u = 0 ∨ u = 1 := by omega
  rcases hU with rfl | rfl
  · exact m_isN0 x h8
  · exact m_isN1 x h8
def laE (i : ab_I) (len : Nat) (k x : Int32) : ab_I := ab_up (ab_up (ab_up i 223 (2 * len) k) 223 (2 * len + 1) x) 218 7 (nI (len + 1))
theorem m_lays {i : ab_I} {len : Nat} (k x : Int32) (hl : i 218 7 = nI len) (h60 : len < 62) : ab_K 0 179 [.ref 218, .int k, .int x] i (ab_N (laE i len k x)) := by
  have q : ∀ {j : Nat} {y : Int32}, ab_up i 223 j y 218 7 = nI len := fun {j y} => (up_ne (by omega)).trans hl
  have q2 : ∀ {j j' : Nat} {y y' : Int32}, ab_up (ab_up i 223 j y) 223 j' y' 218 7 = nI len := fun {j j' y y'} => (up_ne (by omega)).trans q
  refine k_of rfl ?_
  refine r_go 24 rfl ?_ ?_
  · (simp only [ab_all, gr_218_9, hl, q, q2, pk_mul, nI_add]; repeat' (first | exact ix_of gt_223 (by omega) (by omega) | rfl | decide | refine And.intro ?_ ?_))
  refine r_ret rfl trivial ?_
  simp (disch := omega) only [gr_218_9, hl, q, q2, pk_mul, nI_add, nI_cl]
  exact ⟨rfl, rfl⟩
theorem m_opN {i : ab_I} (h6 : i 218 6 = nI 5) : ab_K 0 185 [.ref 218] i (ab_V (.int (nI 0)) i) := by
  refine k_of rfl ?_
  refine r_go 3 rfl ?_ ?_
  · (simp only [ab_all] <;> decide)
  refine r_brF rfl (fun z => z h6) ?_
  refine r_go 1 rfl ?_ ?_
  · (simp only [ab_all] <;> decide)
  refine r_ret rfl (by (first | exact Or.inl rfl | exact Or.inr rfl | exact bI_or)) ?_
  exact ⟨rfl, rfl⟩
theorem m_opY {i : ab_I} {o p : Nat} (h6 : i 218 6 = nI o) (ho : o < 5) (h5 : i 218 5 = nI p) : ab_K 0 185 [.ref 218] i (ab_V (.int (nI 1)) (ab_up (ab_up i 218 6 (nI (o + 1))) 218 5 (nI (p + 1)))) := by
  refine k_of rfl ?_
  refine r_go 3 rfl ?_ ?_
  · (simp only [ab_all] <;> decide)
  refine r_brT rfl (fun z => by rw [h6, nI_eq (by omega) (by omega)] at z; omega) ?_
  refine r_go 13 rfl ?_ ?_
  · (simp only [ab_all] <;> decide)
  refine r_ret rfl (by (first | exact Or.inl rfl | exact Or.inr rfl | exact bI_or)) ?_
  rw [h6, nI_add, up_ne (by omega), h5, nI_add]
  exact ⟨rfl, rfl⟩
