/-! the law: its cases, its loop; written by mk74.py -/
def lwQ : Option Value → ab_I → Prop := fun v _ => v = some (.int (nI 1))
def LawI (L : Nat) (i m : ab_I) : Prop := ClsR i m ∧ mo i m ∧ InM m ∧ i 218 13 = (-1) ∧ i 1201 0 = nI L ∧ L ≤ 384
theorem lw_in {k L : Nat} (h : k < L) (hL : L ≤ 384) : ab_in (nI k) (nI L).toNatClampNeg := by
  rw [nI_cl (by omega)]
  exact in_nI h (by omega)
theorem law_j {L : Nat} {i j m : ab_I} (hm : mo i m) (h13 : i 218 13 = (-1)) (hL : i 1201 0 = nI L) (F : ∀ q, 218 ≤ q → j q = i q) : mo j m ∧ j 218 13 = (-1) ∧ j 1201 0 = nI L := by
  refine ⟨?_, by rw [F 218 (by decide)]; exact h13, by rw [F 1201 (by decide)]; exact hL⟩
  unfold mo
  rw [F 219 (by decide), F 220 (by decide), F 222 (by decide), F 227 (by decide), F 228 (by decide), F 229 (by decide), F 230 (by decide), F 218 (by decide)]
  exact hm
theorem law_s {L : Nat} {j k m : ab_I} (C : ClsR j m) (J : InM m) (M : mo k m) (h13 : k 218 13 = (-1)) (F : ∀ q, q < 218 ∨ 232 ≤ q → k q = j q) (hL : j 1201 0 = nI L) (h384 : L ≤ 384) : LawI L k m :=
  ⟨ClsR_irr J C (fun q hq => F q (by unfold irr at hq; omega)), M, J, h13, by rw [F 1201 (by omega)]; exact hL, h384⟩
theorem lc_basin {i m : ab_I} {k L : Nat} (hI : LawI L i m) (hk : k + 6 ≤ L) (hT : ∀ j m', LawI L j m' → ab_R 300 tb_L_law 1360 [some (.ref 1200), some (.ref 0), some (.ref 218), some (.int (nI k))] [] j lwQ) : ab_R 300 tb_L_law 192 [some (.ref 1200), some (.ref 0), some (.ref 218), some (.int (nI k))] [] i lwQ := by
  obtain ⟨hC, hm, hJ, h13, hL, h384⟩ := hI
  refine r_go 6 rfl ?_ ?_
  · (first | exact trivial | (simp only [ab_all, nI_add, hL2]; repeat' (first | exact trivial | rfl | exact lw_in (by omega) h384 | refine And.intro ?_ ?_)) | (simp only [ab_all, nI_add, hL]; repeat' (first | exact trivial | rfl | exact lw_in (by omega) h384 | refine And.intro ?_ ?_)))
  refine r_c rfl rfl ((c_basin hC hJ _)) (by decide) ?_
  rintro v j ⟨rfl, C1, F1⟩
  obtain ⟨hm2, h132, hL2⟩ := law_j hm h13 hL F1
  refine r_go 6 rfl ?_ ?_
  · (first | exact trivial | (simp only [ab_all, nI_add, hL2]; repeat' (first | exact trivial | rfl | exact lw_in (by omega) h384 | refine And.intro ?_ ?_)) | (simp only [ab_all, nI_add, hL]; repeat' (first | exact trivial | rfl | exact lw_in (by omega) h384 | refine And.intro ?_ ?_)))
  try rw [F1 1200 (by decide)]
  refine r_c rfl rfl ((m_basin hm2 hJ h132 _)) (by decide) ?_
  rintro v k2 ⟨rfl, M2, H2, F2⟩
  refine r_brT rfl (rfl) ?_
  exact hT _ _ (law_s C1 (n_basin hJ _) M2 H2 F2 hL2 h384)
theorem lc_basinIs {i m : ab_I} {k L : Nat} (hI : LawI L i m) (hk : k + 6 ≤ L) (hT : ∀ j m', LawI L j m' → ab_R 300 tb_L_law 1360 [some (.ref 1200), some (.ref 0), some (.ref 218), some (.int (nI k))] [] j lwQ) : ab_R 300 tb_L_law 215 [some (.ref 1200), some (.ref 0), some (.ref 218), some (.int (nI k))] [] i lwQ := by
  obtain ⟨hC, hm, hJ, h13, hL, h384⟩ := hI
  refine r_go 11 rfl ?_ ?_
  · (first | exact trivial | (simp only [ab_all, nI_add, hL2]; repeat' (first | exact trivial | rfl | exact lw_in (by omega) h384 | refine And.intro ?_ ?_)) | (simp only [ab_all, nI_add, hL]; repeat' (first | exact trivial | rfl | exact lw_in (by omega) h384 | refine And.intro ?_ ?_)))
  refine r_c rfl rfl ((c_basinIs hC hJ _ _)) (by decide) ?_
  rintro v j ⟨rfl, C1, F1⟩
  obtain ⟨hm2, h132, hL2⟩ := law_j hm h13 hL F1
  refine r_go 11 rfl ?_ ?_
  · (first | exact trivial | (simp only [ab_all, nI_add, hL2]; repeat' (first | exact trivial | rfl | exact lw_in (by omega) h384 | refine And.intro ?_ ?_)) | (simp only [ab_all, nI_add, hL]; repeat' (first | exact trivial | rfl | exact lw_in (by omega) h384 | refine And.intro ?_ ?_)))
  try rw [F1 1200 (by decide)]
  refine r_c rfl rfl ((m_basinIs hm2 hJ h132 _ _)) (by decide) ?_
  rintro v k2 ⟨rfl, M2, H2, F2⟩
  refine r_brT rfl (rfl) ?_
  exact hT _ _ (law_s C1 (n_basinIs hJ _ _) M2 H2 F2 hL2 h384)
theorem lc_setBasin {i m : ab_I} {k L : Nat} (hI : LawI L i m) (hk : k + 6 ≤ L) (hT : ∀ j m', LawI L j m' → ab_R 300 tb_L_law 1360 [some (.ref 1200), some (.ref 0), some (.ref 218), some (.int (nI k))] [] j lwQ) : ab_R 300 tb_L_law 248 [some (.ref 1200), some (.ref 0), some (.ref 218), some (.int (nI k))] [] i lwQ := by
  obtain ⟨hC, hm, hJ, h13, hL, h384⟩ := hI
  refine r_go 16 rfl ?_ ?_
  · (first | exact trivial | (simp only [ab_all, nI_add, hL2]; repeat' (first | exact trivial | rfl | exact lw_in (by omega) h384 | refine And.intro ?_ ?_)) | (simp only [ab_all, nI_add, hL]; repeat' (first | exact trivial | rfl | exact lw_in (by omega) h384 | refine And.intro ?_ ?_)))
  refine r_c rfl rfl ((c_setBasin hC hJ _ _ _)) (by decide) ?_
  rintro v j ⟨rfl, C1, F1⟩
  obtain ⟨hm2, h132, hL2⟩ := law_j hm h13 hL F1
  refine r_go 16 rfl ?_ ?_
  · (first | exact trivial | (simp only [ab_all, nI_add, hL2]; repeat' (first | exact trivial | rfl | exact lw_in (by omega) h384 | refine And.intro ?_ ?_)) | (simp only [ab_all, nI_add, hL]; repeat' (first | exact trivial | rfl | exact lw_in (by omega) h384 | refine And.intro ?_ ?_)))
  try rw [F1 1200 (by decide)]
  refine r_c rfl rfl ((m_setBasin hm2 hJ h132 _ _ _)) (by decide) ?_
  rintro v k2 ⟨rfl, M2, H2, F2⟩
  refine r_brT rfl (rfl) ?_
  exact hT _ _ (law_s C1 (n_setBasin hJ _ _ _) M2 H2 F2 hL2 h384)
theorem lc_door {i m : ab_I} {k L : Nat} (hI : LawI L i m) (hk : k + 6 ≤ L) (hT : ∀ j m', LawI L j m' → ab_R 300 tb_L_law 1360 [some (.ref 1200), some (.ref 0), some (.ref 218), some (.int (nI k))] [] j lwQ) : ab_R 300 tb_L_law 291 [some (.ref 1200), some (.ref 0), some (.ref 218), some (.int (nI k))] [] i lwQ := by
  obtain ⟨hC, hm, hJ, h13, hL, h384⟩ := hI
  refine r_go 16 rfl ?_ ?_
  · (first | exact trivial | (simp only [ab_all, nI_add, hL2]; repeat' (first | exact trivial | rfl | exact lw_in (by omega) h384 | refine And.intro ?_ ?_)) | (simp only [ab_all, nI_add, hL]; repeat' (first | exact trivial | rfl | exact lw_in (by omega) h384 | refine And.intro ?_ ?_)))
  refine r_c rfl rfl ((c_door hC hJ _ _ _)) (by decide) ?_
  rintro v j ⟨rfl, C1, F1⟩
  obtain ⟨hm2, h132, hL2⟩ := law_j hm h13 hL F1
  refine r_go 16 rfl ?_ ?_
  · (first | exact trivial | (simp only [ab_all, nI_add, hL2]; repeat' (first | exact trivial | rfl | exact lw_in (by omega) h384 | refine And.intro ?_ ?_)) | (simp only [ab_all, nI_add, hL]; repeat' (first | exact trivial | rfl | exact lw_in (by omega) h384 | refine And.intro ?_ ?_)))
  try rw [F1 1200 (by decide)]
  refine r_c rfl rfl ((m_door hm2 hJ h132 _ _ _)) (by decide) ?_
  rintro v k2 ⟨rfl, M2, H2, F2⟩
  refine r_brT rfl (rfl) ?_
  exact hT _ _ (law_s C1 (n_door hJ _ _ _) M2 H2 F2 hL2 h384)
theorem lc_doorIs {i m : ab_I} {k L : Nat} (hI : LawI L i m) (hk : k + 6 ≤ L) (hT : ∀ j m', LawI L j m' → ab_R 300 tb_L_law 1360 [some (.ref 1200), some (.ref 0), some (.ref 218), some (.int (nI k))] [] j lwQ) : ab_R 300 tb_L_law 334 [some (.ref 1200), some (.ref 0), some (.ref 218), some (.int (nI k))] [] i lwQ := by
  obtain ⟨hC, hm, hJ, h13, hL, h384⟩ := hI
  refine r_go 11 rfl ?_ ?_
  · (first | exact trivial | (simp only [ab_all, nI_add, hL2]; repeat' (first | exact trivial | rfl | exact lw_in (by omega) h384 | refine And.intro ?_ ?_)) | (simp only [ab_all, nI_add, hL]; repeat' (first | exact trivial | rfl | exact lw_in (by omega) h384 | refine And.intro ?_ ?_)))
  refine r_c rfl rfl ((c_doorIs hC hJ _ _)) (by decide) ?_
  rintro v j ⟨rfl, C1, F1⟩
  obtain ⟨hm2, h132, hL2⟩ := law_j hm h13 hL F1
  refine r_go 11 rfl ?_ ?_
  · (first | exact trivial | (simp only [ab_all, nI_add, hL2]; repeat' (first | exact trivial | rfl | exact lw_in (by omega) h384 | refine And.intro ?_ ?_)) | (simp only [ab_all, nI_add, hL]; repeat' (first | exact trivial | rfl | exact lw_in (by omega) h384 | refine And.intro ?_ ?_)))
  try rw [F1 1200 (by decide)]
  refine r_c rfl rfl ((m_doorIs hm2 hJ h132 _ _)) (by decide) ?_
  rintro v k2 ⟨rfl, M2, H2, F2⟩
  refine r_brT rfl (rfl) ?_
  exact hT _ _ (law_s C1 (n_doorIs hJ _ _) M2 H2 F2 hL2 h384)
theorem lc_as {i m : ab_I} {k L : Nat} (hI : LawI L i m) (hk : k + 6 ≤ L) (hT : ∀ j m', LawI L j m' → ab_R 300 tb_L_law 1360 [some (.ref 1200), some (.ref 0), some (.ref 218), some (.int (nI k))] [] j lwQ) : ab_R 300 tb_L_law 367 [some (.ref 1200), some (.ref 0), some (.ref 218), some (.int (nI k))] [] i lwQ := by
  obtain ⟨hC, hm, hJ, h13, hL, h384⟩ := hI
  refine r_go 11 rfl ?_ ?_
  · (first | exact trivial | (simp only [ab_all, nI_add, hL2]; repeat' (first | exact trivial | rfl | exact lw_in (by omega) h384 | refine And.intro ?_ ?_)) | (simp only [ab_all, nI_add, hL]; repeat' (first | exact trivial | rfl | exact lw_in (by omega) h384 | refine And.intro ?_ ?_)))
  refine r_c rfl rfl ((c_as hC hJ _ _)) (by decide) ?_
  rintro v j ⟨rfl, C1, F1⟩
  obtain ⟨hm2, h132, hL2⟩ := law_j hm h13 hL F1
  refine r_go 11 rfl ?_ ?_
  · (first | exact trivial | (simp only [ab_all, nI_add, hL2]; repeat' (first | exact trivial | rfl | exact lw_in (by omega) h384 | refine And.intro ?_ ?_)) | (simp only [ab_all, nI_add, hL]; repeat' (first | exact trivial | rfl | exact lw_in (by omega) h384 | refine And.intro ?_ ?_)))
  try rw [F1 1200 (by decide)]
  refine r_c rfl rfl ((m_as hm2 hJ h132 _ _)) (by decide) ?_
  rintro v k2 ⟨rfl, M2, H2, F2⟩
  refine r_brT rfl (rfl) ?_
  exact hT _ _ (law_s C1 (n_as hJ _ _) M2 H2 F2 hL2 h384)
theorem lc_setDoor {i m : ab_I} {k L : Nat} (hI : LawI L i m) (hk : k + 6 ≤ L) (hT : ∀ j m', LawI L j m' → ab_R 300 tb_L_law 1360 [some (.ref 1200), some (.ref 0), some (.ref 218), some (.int (nI k))] [] j lwQ) : ab_R 300 tb_L_law 400 [some (.ref 1200), some (.ref 0), some (.ref 218), some (.int (nI k))] [] i lwQ := by
  obtain ⟨hC, hm, hJ, h13, hL, h384⟩ := hI
  refine r_go 16 rfl ?_ ?_
  · (first | exact trivial | (simp only [ab_all, nI_add, hL2]; repeat' (first | exact trivial | rfl | exact lw_in (by omega) h384 | refine And.intro ?_ ?_)) | (simp only [ab_all, nI_add, hL]; repeat' (first | exact trivial | rfl | exact lw_in (by omega) h384 | refine And.intro ?_ ?_)))
  refine r_c rfl rfl ((c_setDoor hC hJ _ _ _)) (by decide) ?_
  rintro v j ⟨rfl, C1, F1⟩
  obtain ⟨hm2, h132, hL2⟩ := law_j hm h13 hL F1
  refine r_go 16 rfl ?_ ?_
  · (first | exact trivial | (simp only [ab_all, nI_add, hL2]; repeat' (first | exact trivial | rfl | exact lw_in (by omega) h384 | refine And.intro ?_ ?_)) | (simp only [ab_all, nI_add, hL]; repeat' (first | exact trivial | rfl | exact lw_in (by omega) h384 | refine And.intro ?_ ?_)))
  try rw [F1 1200 (by decide)]
  refine r_c rfl rfl ((m_setDoor hm2 hJ h132 _ _ _)) (by decide) ?_
  rintro v k2 ⟨rfl, M2, H2, F2⟩
  refine r_brT rfl (rfl) ?_
  exact hT _ _ (law_s C1 (n_setDoor hJ _ _ _) M2 H2 F2 hL2 h384)
theorem lc_rain {i m : ab_I} {k L : Nat} (hI : LawI L i m) (hk : k + 6 ≤ L) (hT : ∀ j m', LawI L j m' → ab_R 300 tb_L_law 1360 [some (.ref 1200), some (.ref 0), some (.ref 218), some (.int (nI k))] [] j lwQ) : ab_R 300 tb_L_law 443 [some (.ref 1200), some (.ref 0), some (.ref 218), some (.int (nI k))] [] i lwQ := by
  obtain ⟨hC, hm, hJ, h13, hL, h384⟩ := hI
  refine r_go 6 rfl ?_ ?_
  · (first | exact trivial | (simp only [ab_all, nI_add, hL2]; repeat' (first | exact trivial | rfl | exact lw_in (by omega) h384 | refine And.intro ?_ ?_)) | (simp only [ab_all, nI_add, hL]; repeat' (first | exact trivial | rfl | exact lw_in (by omega) h384 | refine And.intro ?_ ?_)))
  refine r_c rfl rfl ((c_rain hC hJ _)) (by decide) ?_
  rintro v j ⟨rfl, C1, F1⟩
  obtain ⟨hm2, h132, hL2⟩ := law_j hm h13 hL F1
  refine r_go 6 rfl ?_ ?_
  · (first | exact trivial | (simp only [ab_all, nI_add, hL2]; repeat' (first | exact trivial | rfl | exact lw_in (by omega) h384 | refine And.intro ?_ ?_)) | (simp only [ab_all, nI_add, hL]; repeat' (first | exact trivial | rfl | exact lw_in (by omega) h384 | refine And.intro ?_ ?_)))
  try rw [F1 1200 (by decide)]
  refine r_c rfl rfl ((m_rain hm2 hJ h132 _)) (by decide) ?_
  rintro v k2 ⟨rfl, M2, H2, F2⟩
  refine r_brT rfl (rfl) ?_
  exact hT _ _ (law_s C1 (n_rain hJ _) M2 H2 F2 hL2 h384)
theorem lc_feed {i m : ab_I} {k L : Nat} (hI : LawI L i m) (hk : k + 6 ≤ L) (hT : ∀ j m', LawI L j m' → ab_R 300 tb_L_law 1360 [some (.ref 1200), some (.ref 0), some (.ref 218), some (.int (nI k))] [] j lwQ) : ab_R 300 tb_L_law 466 [some (.ref 1200), some (.ref 0), some (.ref 218), some (.int (nI k))] [] i lwQ := by
  obtain ⟨hC, hm, hJ, h13, hL, h384⟩ := hI
  refine r_go 23 rfl ?_ ?_
  · (first | exact trivial | (simp only [ab_all, nI_add, hL2]; repeat' (first | exact trivial | rfl | exact lw_in (by omega) h384 | refine And.intro ?_ ?_)) | (simp only [ab_all, nI_add, hL]; repeat' (first | exact trivial | rfl | exact lw_in (by omega) h384 | refine And.intro ?_ ?_)))
  refine r_c rfl rfl ((c_feed hC hJ _ _)) (by decide) ?_
  rintro v j ⟨rfl, C1, F1⟩
  obtain ⟨hm2, h132, hL2⟩ := law_j hm h13 hL F1
  refine r_go 23 rfl ?_ ?_
  · (first | exact trivial | (simp only [ab_all, nI_add, hL2]; repeat' (first | exact trivial | rfl | exact lw_in (by omega) h384 | refine And.intro ?_ ?_)) | (simp only [ab_all, nI_add, hL]; repeat' (first | exact trivial | rfl | exact lw_in (by omega) h384 | refine And.intro ?_ ?_)))
  try rw [F1 1200 (by decide)]
  refine r_c rfl rfl ((m_feed hm2 hJ h132 _ _)) (by decide) ?_
  rintro v k2 ⟨rfl, M2, H2, F2⟩
  refine r_brT rfl (rfl) ?_
  exact hT _ _ (law_s C1 (n_feed hJ _ _) M2 H2 F2 hL2 h384)
theorem lc_text {i m : ab_I} {k L : Nat} (hI : LawI L i m) (hk : k + 6 ≤ L) (hT : ∀ j m', LawI L j m' → ab_R 300 tb_L_law 1360 [some (.ref 1200), some (.ref 0), some (.ref 218), some (.int (nI k))] [] j lwQ) : ab_R 300 tb_L_law 529 [some (.ref 1200), some (.ref 0), some (.ref 218), some (.int (nI k))] [] i lwQ := by
  obtain ⟨hC, hm, hJ, h13, hL, h384⟩ := hI
  refine r_go 6 rfl ?_ ?_
  · (first | exact trivial | (simp only [ab_all, nI_add, hL2]; repeat' (first | exact trivial | rfl | exact lw_in (by omega) h384 | refine And.intro ?_ ?_)) | (simp only [ab_all, nI_add, hL]; repeat' (first | exact trivial | rfl | exact lw_in (by omega) h384 | refine And.intro ?_ ?_)))
  refine r_c rfl rfl ((c_text hC hJ _)) (by decide) ?_
  rintro v j ⟨rfl, C1, F1⟩
  obtain ⟨hm2, h132, hL2⟩ := law_j hm h13 hL F1
  refine r_go 6 rfl ?_ ?_
  · (first | exact trivial | (simp only [ab_all, nI_add, hL2]; repeat' (first | exact trivial | rfl | exact lw_in (by omega) h384 | refine And.intro ?_ ?_)) | (simp only [ab_all, nI_add, hL]; repeat' (first | exact trivial | rfl | exact lw_in (by omega) h384 | refine And.intro ?_ ?_)))
  try rw [F1 1200 (by decide)]
  refine r_c rfl rfl ((m_text hm2 hJ h132 _)) (by decide) ?_
  rintro v k2 ⟨rfl, M2, H2, F2⟩
  refine r_brT rfl (rfl) ?_
  exact hT _ _ (law_s C1 (n_text hJ _) M2 H2 F2 hL2 h384)
theorem lc_untell {i m : ab_I} {k L : Nat} (hI : LawI L i m) (hk : k + 6 ≤ L) (hT : ∀ j m', LawI L j m' → ab_R 300 tb_L_law 1360 [some (.ref 1200), some (.ref 0), some (.ref 218), some (.int (nI k))] [] j lwQ) : ab_R 300 tb_L_law 552 [some (.ref 1200), some (.ref 0), some (.ref 218), some (.int (nI k))] [] i lwQ := by
  obtain ⟨hC, hm, hJ, h13, hL, h384⟩ := hI
  refine r_go 6 rfl ?_ ?_
  · (first | exact trivial | (simp only [ab_all, nI_add, hL2]; repeat' (first | exact trivial | rfl | exact lw_in (by omega) h384 | refine And.intro ?_ ?_)) | (simp only [ab_all, nI_add, hL]; repeat' (first | exact trivial | rfl | exact lw_in (by omega) h384 | refine And.intro ?_ ?_)))
  refine r_c rfl rfl ((c_untell hC hJ _)) (by decide) ?_
  rintro v j ⟨rfl, C1, F1⟩
  obtain ⟨hm2, h132, hL2⟩ := law_j hm h13 hL F1
  refine r_go 6 rfl ?_ ?_
  · (first | exact trivial | (simp only [ab_all, nI_add, hL2]; repeat' (first | exact trivial | rfl | exact lw_in (by omega) h384 | refine And.intro ?_ ?_)) | (simp only [ab_all, nI_add, hL]; repeat' (first | exact trivial | rfl | exact lw_in (by omega) h384 | refine And.intro ?_ ?_)))
  try rw [F1 1200 (by decide)]
  refine r_c rfl rfl ((m_untell hm2 hJ h132 _)) (by decide) ?_
  rintro v k2 ⟨rfl, M2, H2, F2⟩
  refine r_brT rfl (rfl) ?_
  exact hT _ _ (law_s C1 (n_untell hJ _) M2 H2 F2 hL2 h384)
theorem lc_hours {i m : ab_I} {k L : Nat} (hI : LawI L i m) (hk : k + 6 ≤ L) (hT : ∀ j m', LawI L j m' → ab_R 300 tb_L_law 1360 [some (.ref 1200), some (.ref 0), some (.ref 218), some (.int (nI k))] [] j lwQ) : ab_R 300 tb_L_law 575 [some (.ref 1200), some (.ref 0), some (.ref 218), some (.int (nI k))] [] i lwQ := by
  obtain ⟨hC, hm, hJ, h13, hL, h384⟩ := hI
  refine r_go 6 rfl ?_ ?_
  · (first | exact trivial | (simp only [ab_all, nI_add, hL2]; repeat' (first | exact trivial | rfl | exact lw_in (by omega) h384 | refine And.intro ?_ ?_)) | (simp only [ab_all, nI_add, hL]; repeat' (first | exact trivial | rfl | exact lw_in (by omega) h384 | refine And.intro ?_ ?_)))
  refine r_c rfl rfl ((c_hours hC hJ _)) (by decide) ?_
  rintro v j ⟨rfl, C1, F1⟩
  obtain ⟨hm2, h132, hL2⟩ := law_j hm h13 hL F1
  refine r_go 6 rfl ?_ ?_
  · (first | exact trivial | (simp only [ab_all, nI_add, hL2]; repeat' (first | exact trivial | rfl | exact lw_in (by omega) h384 | refine And.intro ?_ ?_)) | (simp only [ab_all, nI_add, hL]; repeat' (first | exact trivial | rfl | exact lw_in (by omega) h384 | refine And.intro ?_ ?_)))
  try rw [F1 1200 (by decide)]
  refine r_c rfl rfl ((m_hours hm2 hJ h132 _)) (by decide) ?_
  rintro v k2 ⟨rfl, M2, H2, F2⟩
  refine r_brT rfl (rfl) ?_
  exact hT _ _ (law_s C1 (n_pass hJ 0 _) M2 H2 F2 hL2 h384)
theorem lc_wet {i m : ab_I} {k L : Nat} (hI : LawI L i m) (hk : k + 6 ≤ L) (hT : ∀ j m', LawI L j m' → ab_R 300 tb_L_law 1360 [some (.ref 1200), some (.ref 0), some (.ref 218), some (.int (nI k))] [] j lwQ) : ab_R 300 tb_L_law 598 [some (.ref 1200), some (.ref 0), some (.ref 218), some (.int (nI k))] [] i lwQ := by
  obtain ⟨hC, hm, hJ, h13, hL, h384⟩ := hI
  refine r_go 6 rfl ?_ ?_
  · (first | exact trivial | (simp only [ab_all, nI_add, hL2]; repeat' (first | exact trivial | rfl | exact lw_in (by omega) h384 | refine And.intro ?_ ?_)) | (simp only [ab_all, nI_add, hL]; repeat' (first | exact trivial | rfl | exact lw_in (by omega) h384 | refine And.intro ?_ ?_)))
  refine r_c rfl rfl ((c_wet hC hJ _)) (by decide) ?_
  rintro v j ⟨rfl, C1, F1⟩
  obtain ⟨hm2, h132, hL2⟩ := law_j hm h13 hL F1
  refine r_go 6 rfl ?_ ?_
  · (first | exact trivial | (simp only [ab_all, nI_add, hL2]; repeat' (first | exact trivial | rfl | exact lw_in (by omega) h384 | refine And.intro ?_ ?_)) | (simp only [ab_all, nI_add, hL]; repeat' (first | exact trivial | rfl | exact lw_in (by omega) h384 | refine And.intro ?_ ?_)))
  try rw [F1 1200 (by decide)]
  refine r_c rfl rfl ((m_wet hm2 hJ h132 _)) (by decide) ?_
  rintro v k2 ⟨rfl, M2, H2, F2⟩
  refine r_brT rfl (rfl) ?_
  exact hT _ _ (law_s C1 (n_pass hJ 1 _) M2 H2 F2 hL2 h384)
theorem lc_seed {i m : ab_I} {k L : Nat} (hI : LawI L i m) (hk : k + 6 ≤ L) (hT : ∀ j m', LawI L j m' → ab_R 300 tb_L_law 1360 [some (.ref 1200), some (.ref 0), some (.ref 218), some (.int (nI k))] [] j lwQ) : ab_R 300 tb_L_law 621 [some (.ref 1200), some (.ref 0), some (.ref 218), some (.int (nI k))] [] i lwQ := by
  obtain ⟨hC, hm, hJ, h13, hL, h384⟩ := hI
  refine r_go 6 rfl ?_ ?_
  · (first | exact trivial | (simp only [ab_all, nI_add, hL2]; repeat' (first | exact trivial | rfl | exact lw_in (by omega) h384 | refine And.intro ?_ ?_)) | (simp only [ab_all, nI_add, hL]; repeat' (first | exact trivial | rfl | exact lw_in (by omega) h384 | refine And.intro ?_ ?_)))
  refine r_c rfl rfl ((c_seed hC hJ _)) (by decide) ?_
  rintro v j ⟨rfl, C1, F1⟩
  obtain ⟨hm2, h132, hL2⟩ := law_j hm h13 hL F1
  refine r_go 6 rfl ?_ ?_
  · (first | exact trivial | (simp only [ab_all, nI_add, hL2]; repeat' (first | exact trivial | rfl | exact lw_in (by omega) h384 | refine And.intro ?_ ?_)) | (simp only [ab_all, nI_add, hL]; repeat' (first | exact trivial | rfl | exact lw_in (by omega) h384 | refine And.intro ?_ ?_)))
  try rw [F1 1200 (by decide)]
  refine r_c rfl rfl ((m_seed hm2 hJ h132 _)) (by decide) ?_
  rintro v k2 ⟨rfl, M2, H2, F2⟩
  refine r_brT rfl (rfl) ?_
  exact hT _ _ (law_s C1 (n_seed hJ _) M2 H2 F2 hL2 h384)
theorem lc_then {i m : ab_I} {k L : Nat} (hI : LawI L i m) (hk : k + 6 ≤ L) (hT : ∀ j m', LawI L j m' → ab_R 300 tb_L_law 1360 [some (.ref 1200), some (.ref 0), some (.ref 218), some (.int (nI k))] [] j lwQ) : ab_R 300 tb_L_law 644 [some (.ref 1200), some (.ref 0), some (.ref 218), some (.int (nI k))] [] i lwQ := by
  obtain ⟨hC, hm, hJ, h13, hL, h384⟩ := hI
  refine r_go 16 rfl ?_ ?_
  · (first | exact trivial | (simp only [ab_all, nI_add, hL2]; repeat' (first | exact trivial | rfl | exact lw_in (by omega) h384 | refine And.intro ?_ ?_)) | (simp only [ab_all, nI_add, hL]; repeat' (first | exact trivial | rfl | exact lw_in (by omega) h384 | refine And.intro ?_ ?_)))
  refine r_c rfl rfl ((c_then hC hJ _ _ _)) (by decide) ?_
  rintro v j ⟨rfl, C1, F1⟩
  obtain ⟨hm2, h132, hL2⟩ := law_j hm h13 hL F1
  refine r_go 16 rfl ?_ ?_
  · (first | exact trivial | (simp only [ab_all, nI_add, hL2]; repeat' (first | exact trivial | rfl | exact lw_in (by omega) h384 | refine And.intro ?_ ?_)) | (simp only [ab_all, nI_add, hL]; repeat' (first | exact trivial | rfl | exact lw_in (by omega) h384 | refine And.intro ?_ ?_)))
  try rw [F1 1200 (by decide)]
  refine r_c rfl rfl ((m_then hm2 hJ h132 _ _ _)) (by decide) ?_
  rintro v k2 ⟨rfl, M2, H2, F2⟩
  refine r_brT rfl (rfl) ?_
  exact hT _ _ (law_s C1 (n_then hJ _ _ _) M2 H2 F2 hL2 h384)
theorem lc_thenD {i m : ab_I} {k L : Nat} (hI : LawI L i m) (hk : k + 6 ≤ L) (hT : ∀ j m', LawI L j m' → ab_R 300 tb_L_law 1360 [some (.ref 1200), some (.ref 0), some (.ref 218), some (.int (nI k))] [] j lwQ) : ab_R 300 tb_L_law 687 [some (.ref 1200), some (.ref 0), some (.ref 218), some (.int (nI k))] [] i lwQ := by
  obtain ⟨hC, hm, hJ, h13, hL, h384⟩ := hI
  refine r_go 16 rfl ?_ ?_
  · (first | exact trivial | (simp only [ab_all, nI_add, hL2]; repeat' (first | exact trivial | rfl | exact lw_in (by omega) h384 | refine And.intro ?_ ?_)) | (simp only [ab_all, nI_add, hL]; repeat' (first | exact trivial | rfl | exact lw_in (by omega) h384 | refine And.intro ?_ ?_)))
  refine r_c rfl rfl ((c_thenD hC hJ _ _ _)) (by decide) ?_
  rintro v j ⟨rfl, C1, F1⟩
  obtain ⟨hm2, h132, hL2⟩ := law_j hm h13 hL F1
  refine r_go 16 rfl ?_ ?_
  · (first | exact trivial | (simp only [ab_all, nI_add, hL2]; repeat' (first | exact trivial | rfl | exact lw_in (by omega) h384 | refine And.intro ?_ ?_)) | (simp only [ab_all, nI_add, hL]; repeat' (first | exact trivial | rfl | exact lw_in (by omega) h384 | refine And.intro ?_ ?_)))
  try rw [F1 1200 (by decide)]
  refine r_c rfl rfl ((m_thenD hm2 hJ h132 _ _ _)) (by decide) ?_
  rintro v k2 ⟨rfl, M2, H2, F2⟩
  refine r_brT rfl (rfl) ?_
  exact hT _ _ (law_s C1 (n_thenD hJ _ _ _) M2 H2 F2 hL2 h384)
theorem lc_moves {i m : ab_I} {k L : Nat} (hI : LawI L i m) (hk : k + 6 ≤ L) (hT : ∀ j m', LawI L j m' → ab_R 300 tb_L_law 1360 [some (.ref 1200), some (.ref 0), some (.ref 218), some (.int (nI k))] [] j lwQ) : ab_R 300 tb_L_law 730 [some (.ref 1200), some (.ref 0), some (.ref 218), some (.int (nI k))] [] i lwQ := by
  obtain ⟨hC, hm, hJ, h13, hL, h384⟩ := hI
  refine r_go 11 rfl ?_ ?_
  · (first | exact trivial | (simp only [ab_all, nI_add, hL2]; repeat' (first | exact trivial | rfl | exact lw_in (by omega) h384 | refine And.intro ?_ ?_)) | (simp only [ab_all, nI_add, hL]; repeat' (first | exact trivial | rfl | exact lw_in (by omega) h384 | refine And.intro ?_ ?_)))
  refine r_c rfl rfl ((c_moves hC hJ _ _)) (by decide) ?_
  rintro v j ⟨rfl, C1, F1⟩
  obtain ⟨hm2, h132, hL2⟩ := law_j hm h13 hL F1
  refine r_go 11 rfl ?_ ?_
  · (first | exact trivial | (simp only [ab_all, nI_add, hL2]; repeat' (first | exact trivial | rfl | exact lw_in (by omega) h384 | refine And.intro ?_ ?_)) | (simp only [ab_all, nI_add, hL]; repeat' (first | exact trivial | rfl | exact lw_in (by omega) h384 | refine And.intro ?_ ?_)))
  try rw [F1 1200 (by decide)]
  refine r_c rfl rfl ((m_moves hm2 hJ h132 _ _)) (by decide) ?_
  rintro v k2 ⟨rfl, M2, H2, F2⟩
  refine r_brT rfl (rfl) ?_
  exact hT _ _ (law_s C1 (n_moves hJ _ _) M2 H2 F2 hL2 h384)
theorem lc_best {i m : ab_I} {k L : Nat} (hI : LawI L i m) (hk : k + 6 ≤ L) (hT : ∀ j m', LawI L j m' → ab_R 300 tb_L_law 1360 [some (.ref 1200), some (.ref 0), some (.ref 218), some (.int (nI k))] [] j lwQ) : ab_R 300 tb_L_law 763 [some (.ref 1200), some (.ref 0), some (.ref 218), some (.int (nI k))] [] i lwQ := by
  obtain ⟨hC, hm, hJ, h13, hL, h384⟩ := hI
  refine r_go 16 rfl ?_ ?_
  · (first | exact trivial | (simp only [ab_all, nI_add, hL2]; repeat' (first | exact trivial | rfl | exact lw_in (by omega) h384 | refine And.intro ?_ ?_)) | (simp only [ab_all, nI_add, hL]; repeat' (first | exact trivial | rfl | exact lw_in (by omega) h384 | refine And.intro ?_ ?_)))
  refine r_c rfl rfl ((c_best hC hJ _ _ _)) (by decide) ?_
  rintro v j ⟨rfl, C1, F1⟩
  obtain ⟨hm2, h132, hL2⟩ := law_j hm h13 hL F1
  refine r_go 16 rfl ?_ ?_
  · (first | exact trivial | (simp only [ab_all, nI_add, hL2]; repeat' (first | exact trivial | rfl | exact lw_in (by omega) h384 | refine And.intro ?_ ?_)) | (simp only [ab_all, nI_add, hL]; repeat' (first | exact trivial | rfl | exact lw_in (by omega) h384 | refine And.intro ?_ ?_)))
  try rw [F1 1200 (by decide)]
  refine r_c rfl rfl ((m_best hm2 hJ h132 _ _ _)) (by decide) ?_
  rintro v k2 ⟨rfl, M2, H2, F2⟩
  refine r_brT rfl (rfl) ?_
  exact hT _ _ (law_s C1 (n_best hJ _ _ _) M2 H2 F2 hL2 h384)
theorem lc_storm {i m : ab_I} {k L : Nat} (hI : LawI L i m) (hk : k + 6 ≤ L) (hT : ∀ j m', LawI L j m' → ab_R 300 tb_L_law 1360 [some (.ref 1200), some (.ref 0), some (.ref 218), some (.int (nI k))] [] j lwQ) : ab_R 300 tb_L_law 806 [some (.ref 1200), some (.ref 0), some (.ref 218), some (.int (nI k))] [] i lwQ := by
  obtain ⟨hC, hm, hJ, h13, hL, h384⟩ := hI
  refine r_go 16 rfl ?_ ?_
  · (first | exact trivial | (simp only [ab_all, nI_add, hL2]; repeat' (first | exact trivial | rfl | exact lw_in (by omega) h384 | refine And.intro ?_ ?_)) | (simp only [ab_all, nI_add, hL]; repeat' (first | exact trivial | rfl | exact lw_in (by omega) h384 | refine And.intro ?_ ?_)))
  refine r_c rfl rfl ((c_storm hC hJ _ _ _)) (by decide) ?_
  rintro v j ⟨rfl, C1, F1⟩
  obtain ⟨hm2, h132, hL2⟩ := law_j hm h13 hL F1
  refine r_go 16 rfl ?_ ?_
  · (first | exact trivial | (simp only [ab_all, nI_add, hL2]; repeat' (first | exact trivial | rfl | exact lw_in (by omega) h384 | refine And.intro ?_ ?_)) | (simp only [ab_all, nI_add, hL]; repeat' (first | exact trivial | rfl | exact lw_in (by omega) h384 | refine And.intro ?_ ?_)))
  try rw [F1 1200 (by decide)]
  refine r_c rfl rfl ((m_storm hm2 hJ h132 _ _ _)) (by decide) ?_
  rintro v k2 ⟨rfl, M2, H2, F2⟩
  refine r_brT rfl (rfl) ?_
  exact hT _ _ (law_s C1 (n_storm hJ _ _ _) M2 H2 F2 hL2 h384)
theorem lc_changes {i m : ab_I} {k L : Nat} (hI : LawI L i m) (hk : k + 6 ≤ L) (hT : ∀ j m', LawI L j m' → ab_R 300 tb_L_law 1360 [some (.ref 1200), some (.ref 0), some (.ref 218), some (.int (nI k))] [] j lwQ) : ab_R 300 tb_L_law 849 [some (.ref 1200), some (.ref 0), some (.ref 218), some (.int (nI k))] [] i lwQ := by
  obtain ⟨hC, hm, hJ, h13, hL, h384⟩ := hI
  refine r_go 6 rfl ?_ ?_
  · (first | exact trivial | (simp only [ab_all, nI_add, hL2]; repeat' (first | exact trivial | rfl | exact lw_in (by omega) h384 | refine And.intro ?_ ?_)) | (simp only [ab_all, nI_add, hL]; repeat' (first | exact trivial | rfl | exact lw_in (by omega) h384 | refine And.intro ?_ ?_)))
  refine r_c rfl rfl ((c_changes hC hJ _)) (by decide) ?_
  rintro v j ⟨rfl, C1, F1⟩
  obtain ⟨hm2, h132, hL2⟩ := law_j hm h13 hL F1
  refine r_go 6 rfl ?_ ?_
  · (first | exact trivial | (simp only [ab_all, nI_add, hL2]; repeat' (first | exact trivial | rfl | exact lw_in (by omega) h384 | refine And.intro ?_ ?_)) | (simp only [ab_all, nI_add, hL]; repeat' (first | exact trivial | rfl | exact lw_in (by omega) h384 | refine And.intro ?_ ?_)))
  try rw [F1 1200 (by decide)]
  refine r_c rfl rfl ((m_changes hm2 hJ h132 _)) (by decide) ?_
  rintro v k2 ⟨rfl, M2, H2, F2⟩
  refine r_brT rfl (rfl) ?_
  exact hT _ _ (law_s C1 (n_changes hJ _) M2 H2 F2 hL2 h384)
theorem lc_buys {i m : ab_I} {k L : Nat} (hI : LawI L i m) (hk : k + 6 ≤ L) (hT : ∀ j m', LawI L j m' → ab_R 300 tb_L_law 1360 [some (.ref 1200), some (.ref 0), some (.ref 218), some (.int (nI k))] [] j lwQ) : ab_R 300 tb_L_law 872 [some (.ref 1200), some (.ref 0), some (.ref 218), some (.int (nI k))] [] i lwQ := by
  obtain ⟨hC, hm, hJ, h13, hL, h384⟩ := hI
  refine r_go 11 rfl ?_ ?_
  · (first | exact trivial | (simp only [ab_all, nI_add, hL2]; repeat' (first | exact trivial | rfl | exact lw_in (by omega) h384 | refine And.intro ?_ ?_)) | (simp only [ab_all, nI_add, hL]; repeat' (first | exact trivial | rfl | exact lw_in (by omega) h384 | refine And.intro ?_ ?_)))
  refine r_c rfl rfl ((c_buys hC hJ _ _)) (by decide) ?_
  rintro v j ⟨rfl, C1, F1⟩
  obtain ⟨hm2, h132, hL2⟩ := law_j hm h13 hL F1
  refine r_go 11 rfl ?_ ?_
  · (first | exact trivial | (simp only [ab_all, nI_add, hL2]; repeat' (first | exact trivial | rfl | exact lw_in (by omega) h384 | refine And.intro ?_ ?_)) | (simp only [ab_all, nI_add, hL]; repeat' (first | exact trivial | rfl | exact lw_in (by omega) h384 | refine And.intro ?_ ?_)))
  try rw [F1 1200 (by decide)]
  refine r_c rfl rfl ((m_buys hm2 hJ h132 _ _)) (by decide) ?_
  rintro v k2 ⟨rfl, M2, H2, F2⟩
  refine r_brT rfl (rfl) ?_
  exact hT _ _ (law_s C1 (n_buys hJ _ _) M2 H2 F2 hL2 h384)
theorem lc_comes {i m : ab_I} {k L : Nat} (hI : LawI L i m) (hk : k + 6 ≤ L) (hT : ∀ j m', LawI L j m' → ab_R 300 tb_L_law 1360 [some (.ref 1200), some (.ref 0), some (.ref 218), some (.int (nI k))] [] j lwQ) : ab_R 300 tb_L_law 905 [some (.ref 1200), some (.ref 0), some (.ref 218), some (.int (nI k))] [] i lwQ := by
  obtain ⟨hC, hm, hJ, h13, hL, h384⟩ := hI
  refine r_go 16 rfl ?_ ?_
  · (first | exact trivial | (simp only [ab_all, nI_add, hL2]; repeat' (first | exact trivial | rfl | exact lw_in (by omega) h384 | refine And.intro ?_ ?_)) | (simp only [ab_all, nI_add, hL]; repeat' (first | exact trivial | rfl | exact lw_in (by omega) h384 | refine And.intro ?_ ?_)))
  refine r_c rfl rfl ((c_comes hC hJ _ _ _)) (by decide) ?_
  rintro v j ⟨rfl, C1, F1⟩
  obtain ⟨hm2, h132, hL2⟩ := law_j hm h13 hL F1
  refine r_go 16 rfl ?_ ?_
  · (first | exact trivial | (simp only [ab_all, nI_add, hL2]; repeat' (first | exact trivial | rfl | exact lw_in (by omega) h384 | refine And.intro ?_ ?_)) | (simp only [ab_all, nI_add, hL]; repeat' (first | exact trivial | rfl | exact lw_in (by omega) h384 | refine And.intro ?_ ?_)))
  try rw [F1 1200 (by decide)]
  refine r_c rfl rfl ((m_comes hm2 hJ h132 _ _ _)) (by decide) ?_
  rintro v k2 ⟨rfl, M2, H2, F2⟩
  refine r_brT rfl (rfl) ?_
  exact hT _ _ (law_s C1 (n_comes hJ _ _ _) M2 H2 F2 hL2 h384)
theorem lc_voice {i m : ab_I} {k L : Nat} (hI : LawI L i m) (hk : k + 6 ≤ L) (hT : ∀ j m', LawI L j m' → ab_R 300 tb_L_law 1360 [some (.ref 1200), some (.ref 0), some (.ref 218), some (.int (nI k))] [] j lwQ) : ab_R 300 tb_L_law 948 [some (.ref 1200), some (.ref 0), some (.ref 218), some (.int (nI k))] [] i lwQ := by
  obtain ⟨hC, hm, hJ, h13, hL, h384⟩ := hI
  refine r_go 16 rfl ?_ ?_
  · (first | exact trivial | (simp only [ab_all, nI_add, hL2]; repeat' (first | exact trivial | rfl | exact lw_in (by omega) h384 | refine And.intro ?_ ?_)) | (simp only [ab_all, nI_add, hL]; repeat' (first | exact trivial | rfl | exact lw_in (by omega) h384 | refine And.intro ?_ ?_)))
  refine r_c rfl rfl ((c_voice hC hJ _ _ _)) (by decide) ?_
  rintro v j ⟨rfl, C1, F1⟩
  obtain ⟨hm2, h132, hL2⟩ := law_j hm h13 hL F1
  refine r_go 16 rfl ?_ ?_
  · (first | exact trivial | (simp only [ab_all, nI_add, hL2]; repeat' (first | exact trivial | rfl | exact lw_in (by omega) h384 | refine And.intro ?_ ?_)) | (simp only [ab_all, nI_add, hL]; repeat' (first | exact trivial | rfl | exact lw_in (by omega) h384 | refine And.intro ?_ ?_)))
  try rw [F1 1200 (by decide)]
  refine r_c rfl rfl ((m_voice hm2 hJ h132 _ _ _)) (by decide) ?_
  rintro v k2 ⟨rfl, M2, H2, F2⟩
  refine r_brT rfl (rfl) ?_
  exact hT _ _ (law_s C1 (n_voice hJ _ _ _) M2 H2 F2 hL2 h384)
theorem lc_body {i m : ab_I} {k L : Nat} (hI : LawI L i m) (hk : k + 6 ≤ L) (hT : ∀ j m', LawI L j m' → ab_R 300 tb_L_law 1360 [some (.ref 1200), some (.ref 0), some (.ref 218), some (.int (nI k))] [] j lwQ) : ab_R 300 tb_L_law 991 [some (.ref 1200), some (.ref 0), some (.ref 218), some (.int (nI k))] [] i lwQ := by
  obtain ⟨hC, hm, hJ, h13, hL, h384⟩ := hI
  refine r_go 6 rfl ?_ ?_
  · (first | exact trivial | (simp only [ab_all, nI_add, hL2]; repeat' (first | exact trivial | rfl | exact lw_in (by omega) h384 | refine And.intro ?_ ?_)) | (simp only [ab_all, nI_add, hL]; repeat' (first | exact trivial | rfl | exact lw_in (by omega) h384 | refine And.intro ?_ ?_)))
  refine r_c rfl rfl ((c_body hC hJ _)) (by decide) ?_
  rintro v j ⟨rfl, C1, F1⟩
  obtain ⟨hm2, h132, hL2⟩ := law_j hm h13 hL F1
  refine r_go 6 rfl ?_ ?_
  · (first | exact trivial | (simp only [ab_all, nI_add, hL2]; repeat' (first | exact trivial | rfl | exact lw_in (by omega) h384 | refine And.intro ?_ ?_)) | (simp only [ab_all, nI_add, hL]; repeat' (first | exact trivial | rfl | exact lw_in (by omega) h384 | refine And.intro ?_ ?_)))
  try rw [F1 1200 (by decide)]
  refine r_c rfl rfl ((m_body hm2 hJ h132 _)) (by decide) ?_
  rintro v k2 ⟨rfl, M2, H2, F2⟩
  refine r_brT rfl (rfl) ?_
  exact hT _ _ (law_s C1 (n_body hJ _) M2 H2 F2 hL2 h384)
theorem lc_sheet {i m : ab_I} {k L : Nat} (hI : LawI L i m) (hk : k + 6 ≤ L) (hT : ∀ j m', LawI L j m' → ab_R 300 tb_L_law 1360 [some (.ref 1200), some (.ref 0), some (.ref 218), some (.int (nI k))] [] j lwQ) : ab_R 300 tb_L_law 1014 [some (.ref 1200), some (.ref 0), some (.ref 218), some (.int (nI k))] [] i lwQ := by
  obtain ⟨hC, hm, hJ, h13, hL, h384⟩ := hI
  refine r_go 16 rfl ?_ ?_
  · (first | exact trivial | (simp only [ab_all, nI_add, hL2]; repeat' (first | exact trivial | rfl | exact lw_in (by omega) h384 | refine And.intro ?_ ?_)) | (simp only [ab_all, nI_add, hL]; repeat' (first | exact trivial | rfl | exact lw_in (by omega) h384 | refine And.intro ?_ ?_)))
  refine r_c rfl rfl ((c_sheet hC hJ _ _ _)) (by decide) ?_
  rintro v j ⟨rfl, C1, F1⟩
  obtain ⟨hm2, h132, hL2⟩ := law_j hm h13 hL F1
  refine r_go 16 rfl ?_ ?_
  · (first | exact trivial | (simp only [ab_all, nI_add, hL2]; repeat' (first | exact trivial | rfl | exact lw_in (by omega) h384 | refine And.intro ?_ ?_)) | (simp only [ab_all, nI_add, hL]; repeat' (first | exact trivial | rfl | exact lw_in (by omega) h384 | refine And.intro ?_ ?_)))
  try rw [F1 1200 (by decide)]
  refine r_c rfl rfl ((m_sheet hm2 hJ h132 _ _ _)) (by decide) ?_
  rintro v k2 ⟨rfl, M2, H2, F2⟩
  refine r_brT rfl (rfl) ?_
  exact hT _ _ (law_s C1 (n_sheet hJ _ _ _) M2 H2 F2 hL2 h384)
theorem lc_put {i m : ab_I} {k L : Nat} (hI : LawI L i m) (hk : k + 6 ≤ L) (hT : ∀ j m', LawI L j m' → ab_R 300 tb_L_law 1360 [some (.ref 1200), some (.ref 0), some (.ref 218), some (.int (nI k))] [] j lwQ) : ab_R 300 tb_L_law 1057 [some (.ref 1200), some (.ref 0), some (.ref 218), some (.int (nI k))] [] i lwQ := by
  obtain ⟨hC, hm, hJ, h13, hL, h384⟩ := hI
  refine r_go 16 rfl ?_ ?_
  · (first | exact trivial | (simp only [ab_all, nI_add, hL2]; repeat' (first | exact trivial | rfl | exact lw_in (by omega) h384 | refine And.intro ?_ ?_)) | (simp only [ab_all, nI_add, hL]; repeat' (first | exact trivial | rfl | exact lw_in (by omega) h384 | refine And.intro ?_ ?_)))
  refine r_c rfl rfl ((c_put hC hJ _ _ _)) (by decide) ?_
  rintro v j ⟨rfl, C1, F1⟩
  obtain ⟨hm2, h132, hL2⟩ := law_j hm h13 hL F1
  refine r_go 16 rfl ?_ ?_
  · (first | exact trivial | (simp only [ab_all, nI_add, hL2]; repeat' (first | exact trivial | rfl | exact lw_in (by omega) h384 | refine And.intro ?_ ?_)) | (simp only [ab_all, nI_add, hL]; repeat' (first | exact trivial | rfl | exact lw_in (by omega) h384 | refine And.intro ?_ ?_)))
  try rw [F1 1200 (by decide)]
  refine r_c rfl rfl ((m_put hm2 hJ h132 _ _ _)) (by decide) ?_
  rintro v k2 ⟨rfl, M2, H2, F2⟩
  refine r_brT rfl (rfl) ?_
  exact hT _ _ (law_s C1 (n_put hJ _ _ _) M2 H2 F2 hL2 h384)
theorem lc_move {i m : ab_I} {k L : Nat} (hI : LawI L i m) (hk : k + 6 ≤ L) (hT : ∀ j m', LawI L j m' → ab_R 300 tb_L_law 1360 [some (.ref 1200), some (.ref 0), some (.ref 218), some (.int (nI k))] [] j lwQ) : ab_R 300 tb_L_law 1100 [some (.ref 1200), some (.ref 0), some (.ref 218), some (.int (nI k))] [] i lwQ := by
  obtain ⟨hC, hm, hJ, h13, hL, h384⟩ := hI
  refine r_go 26 rfl ?_ ?_
  · (first | exact trivial | (simp only [ab_all, nI_add, hL2]; repeat' (first | exact trivial | rfl | exact lw_in (by omega) h384 | refine And.intro ?_ ?_)) | (simp only [ab_all, nI_add, hL]; repeat' (first | exact trivial | rfl | exact lw_in (by omega) h384 | refine And.intro ?_ ?_)))
  refine r_c rfl rfl ((c_move hC hJ _ _ _ _ _)) (by decide) ?_
  rintro v j ⟨rfl, C1, F1⟩
  obtain ⟨hm2, h132, hL2⟩ := law_j hm h13 hL F1
  refine r_go 26 rfl ?_ ?_
  · (first | exact trivial | (simp only [ab_all, nI_add, hL2]; repeat' (first | exact trivial | rfl | exact lw_in (by omega) h384 | refine And.intro ?_ ?_)) | (simp only [ab_all, nI_add, hL]; repeat' (first | exact trivial | rfl | exact lw_in (by omega) h384 | refine And.intro ?_ ?_)))
  try rw [F1 1200 (by decide)]
  refine r_c rfl rfl ((m_move hm2 hJ h132 _ _ _ _ _)) (by decide) ?_
  rintro v k2 ⟨rfl, M2, H2, F2⟩
  refine r_brT rfl (rfl) ?_
  exact hT _ _ (law_s C1 (n_move hJ _ _ _ _ _) M2 H2 F2 hL2 h384)
theorem lc_votes {i m : ab_I} {k L : Nat} (hI : LawI L i m) (hk : k + 6 ≤ L) (hT : ∀ j m', LawI L j m' → ab_R 300 tb_L_law 1360 [some (.ref 1200), some (.ref 0), some (.ref 218), some (.int (nI k))] [] j lwQ) : ab_R 300 tb_L_law 1163 [some (.ref 1200), some (.ref 0), some (.ref 218), some (.int (nI k))] [] i lwQ := by
  obtain ⟨hC, hm, hJ, h13, hL, h384⟩ := hI
  refine r_go 6 rfl ?_ ?_
  · (first | exact trivial | (simp only [ab_all, nI_add, hL2]; repeat' (first | exact trivial | rfl | exact lw_in (by omega) h384 | refine And.intro ?_ ?_)) | (simp only [ab_all, nI_add, hL]; repeat' (first | exact trivial | rfl | exact lw_in (by omega) h384 | refine And.intro ?_ ?_)))
  refine r_c rfl rfl ((c_votes hC hJ _)) (by decide) ?_
  rintro v j ⟨rfl, C1, F1⟩
  obtain ⟨hm2, h132, hL2⟩ := law_j hm h13 hL F1
  refine r_go 6 rfl ?_ ?_
  · (first | exact trivial | (simp only [ab_all, nI_add, hL2]; repeat' (first | exact trivial | rfl | exact lw_in (by omega) h384 | refine And.intro ?_ ?_)) | (simp only [ab_all, nI_add, hL]; repeat' (first | exact trivial | rfl | exact lw_in (by omega) h384 | refine And.intro ?_ ?_)))
  try rw [F1 1200 (by decide)]
  refine r_c rfl rfl ((m_votes hm2 hJ h132 _)) (by decide) ?_
  rintro v k2 ⟨rfl, M2, H2, F2⟩
  refine r_brT rfl (rfl) ?_
  exact hT _ _ (law_s C1 (n_votes hJ _) M2 H2 F2 hL2 h384)
theorem lc_off {i m : ab_I} {k L : Nat} (hI : LawI L i m) (hk : k + 6 ≤ L) (hT : ∀ j m', LawI L j m' → ab_R 300 tb_L_law 1360 [some (.ref 1200), some (.ref 0), some (.ref 218), some (.int (nI k))] [] j lwQ) : ab_R 300 tb_L_law 1186 [some (.ref 1200), some (.ref 0), some (.ref 218), some (.int (nI k))] [] i lwQ := by
  obtain ⟨hC, hm, hJ, h13, hL, h384⟩ := hI
  refine r_go 11 rfl ?_ ?_
  · (first | exact trivial | (simp only [ab_all, nI_add, hL2]; repeat' (first | exact trivial | rfl | exact lw_in (by omega) h384 | refine And.intro ?_ ?_)) | (simp only [ab_all, nI_add, hL]; repeat' (first | exact trivial | rfl | exact lw_in (by omega) h384 | refine And.intro ?_ ?_)))
  refine r_c rfl rfl ((c_off hC hJ _ _)) (by decide) ?_
  rintro v j ⟨rfl, C1, F1⟩
  obtain ⟨hm2, h132, hL2⟩ := law_j hm h13 hL F1
  refine r_go 11 rfl ?_ ?_
  · (first | exact trivial | (simp only [ab_all, nI_add, hL2]; repeat' (first | exact trivial | rfl | exact lw_in (by omega) h384 | refine And.intro ?_ ?_)) | (simp only [ab_all, nI_add, hL]; repeat' (first | exact trivial | rfl | exact lw_in (by omega) h384 | refine And.intro ?_ ?_)))
  try rw [F1 1200 (by decide)]
  refine r_c rfl rfl ((m_off hm2 hJ h132 _ _)) (by decide) ?_
  rintro v k2 ⟨rfl, M2, H2, F2⟩
  refine r_brT rfl (rfl) ?_
  exact hT _ _ (law_s C1 (n_off hJ _ _) M2 H2 F2 hL2 h384)
theorem lc_rained {i m : ab_I} {k L : Nat} (hI : LawI L i m) (hk : k + 6 ≤ L) (hT : ∀ j m', LawI L j m' → ab_R 300 tb_L_law 1360 [some (.ref 1200), some (.ref 0), some (.ref 218), some (.int (nI k))] [] j lwQ) : ab_R 300 tb_L_law 1219 [some (.ref 1200), some (.ref 0), some (.ref 218), some (.int (nI k))] [] i lwQ := by
  obtain ⟨hC, hm, hJ, h13, hL, h384⟩ := hI
  refine r_go 11 rfl ?_ ?_
  · (first | exact trivial | (simp only [ab_all, nI_add, hL2]; repeat' (first | exact trivial | rfl | exact lw_in (by omega) h384 | refine And.intro ?_ ?_)) | (simp only [ab_all, nI_add, hL]; repeat' (first | exact trivial | rfl | exact lw_in (by omega) h384 | refine And.intro ?_ ?_)))
  refine r_c rfl rfl ((c_rained hC hJ _ _)) (by decide) ?_
  rintro v j ⟨rfl, C1, F1⟩
  obtain ⟨hm2, h132, hL2⟩ := law_j hm h13 hL F1
  refine r_go 11 rfl ?_ ?_
  · (first | exact trivial | (simp only [ab_all, nI_add, hL2]; repeat' (first | exact trivial | rfl | exact lw_in (by omega) h384 | refine And.intro ?_ ?_)) | (simp only [ab_all, nI_add, hL]; repeat' (first | exact trivial | rfl | exact lw_in (by omega) h384 | refine And.intro ?_ ?_)))
  try rw [F1 1200 (by decide)]
  refine r_c rfl rfl ((m_rained hm2 hJ h132 _ _)) (by decide) ?_
  rintro v k2 ⟨rfl, M2, H2, F2⟩
  refine r_brT rfl (rfl) ?_
  exact hT _ _ (law_s C1 (n_rained hJ _ _) M2 H2 F2 hL2 h384)
theorem lc_image {i m : ab_I} {k L : Nat} (hI : LawI L i m) (hk : k + 6 ≤ L) (hT : ∀ j m', LawI L j m' → ab_R 300 tb_L_law 1360 [some (.ref 1200), some (.ref 0), some (.ref 218), some (.int (nI k))] [] j lwQ) : ab_R 300 tb_L_law 1252 [some (.ref 1200), some (.ref 0), some (.ref 218), some (.int (nI k))] [] i lwQ := by
  obtain ⟨hC, hm, hJ, h13, hL, h384⟩ := hI
  refine r_go 1 rfl ?_ ?_
  · (first | exact trivial | (simp only [ab_all, nI_add, hL2]; repeat' (first | exact trivial | rfl | exact lw_in (by omega) h384 | refine And.intro ?_ ?_)) | (simp only [ab_all, nI_add, hL]; repeat' (first | exact trivial | rfl | exact lw_in (by omega) h384 | refine And.intro ?_ ?_)))
  refine r_c rfl rfl ((c_image hC hJ)) (by decide) ?_
  rintro v j ⟨rfl, C1, F1⟩
  obtain ⟨hm2, h132, hL2⟩ := law_j hm h13 hL F1
  refine r_go 1 rfl ?_ ?_
  · (first | exact trivial | (simp only [ab_all, nI_add, hL2]; repeat' (first | exact trivial | rfl | exact lw_in (by omega) h384 | refine And.intro ?_ ?_)) | (simp only [ab_all, nI_add, hL]; repeat' (first | exact trivial | rfl | exact lw_in (by omega) h384 | refine And.intro ?_ ?_)))
  try rw [F1 1200 (by decide)]
  refine r_c rfl rfl ((m_image hm2 hJ h132)) (by decide) ?_
  rintro v k2 ⟨rfl, M2, H2, F2⟩
  refine r_brT rfl (rfl) ?_
  exact hT _ _ (law_s C1 (n_image hJ) M2 H2 F2 hL2 h384)
theorem lc_restore {i m : ab_I} {k L : Nat} (hI : LawI L i m) (hk : k + 6 ≤ L) (hT : ∀ j m', LawI L j m' → ab_R 300 tb_L_law 1360 [some (.ref 1200), some (.ref 0), some (.ref 218), some (.int (nI k))] [] j lwQ) : ab_R 300 tb_L_law 1265 [some (.ref 1200), some (.ref 0), some (.ref 218), some (.int (nI k))] [] i lwQ := by
  obtain ⟨hC, hm, hJ, h13, hL, h384⟩ := hI
  refine r_go 1 rfl ?_ ?_
  · (first | exact trivial | (simp only [ab_all, nI_add, hL2]; repeat' (first | exact trivial | rfl | exact lw_in (by omega) h384 | refine And.intro ?_ ?_)) | (simp only [ab_all, nI_add, hL]; repeat' (first | exact trivial | rfl | exact lw_in (by omega) h384 | refine And.intro ?_ ?_)))
  refine r_c rfl rfl ((c_restore hC hJ)) (by decide) ?_
  rintro v j ⟨rfl, C1, F1⟩
  obtain ⟨hm2, h132, hL2⟩ := law_j hm h13 hL F1
  refine r_go 1 rfl ?_ ?_
  · (first | exact trivial | (simp only [ab_all, nI_add, hL2]; repeat' (first | exact trivial | rfl | exact lw_in (by omega) h384 | refine And.intro ?_ ?_)) | (simp only [ab_all, nI_add, hL]; repeat' (first | exact trivial | rfl | exact lw_in (by omega) h384 | refine And.intro ?_ ?_)))
  try rw [F1 1200 (by decide)]
  refine r_c rfl rfl ((m_restore hm2 hJ h132)) (by decide) ?_
  rintro v k2 ⟨rfl, M2, H2, F2⟩
  refine r_brT rfl (rfl) ?_
  exact hT _ _ (law_s C1 (n_restore hJ) M2 H2 F2 hL2 h384)
theorem lc_tell {i m : ab_I} {k L : Nat} (hI : LawI L i m) (hk : k + 6 ≤ L) (hT : ∀ j m', LawI L j m' → ab_R 300 tb_L_law 1360 [some (.ref 1200), some (.ref 0), some (.ref 218), some (.int (nI k))] [] j lwQ) : ab_R 300 tb_L_law 1278 [some (.ref 1200), some (.ref 0), some (.ref 218), some (.int (nI k))] [] i lwQ := by
  obtain ⟨hC, hm, hJ, h13, hL, h384⟩ := hI
  refine r_go 6 rfl ?_ ?_
  · (first | exact trivial | (simp only [ab_all, nI_add, hL2]; repeat' (first | exact trivial | rfl | exact lw_in (by omega) h384 | refine And.intro ?_ ?_)) | (simp only [ab_all, nI_add, hL]; repeat' (first | exact trivial | rfl | exact lw_in (by omega) h384 | refine And.intro ?_ ?_)))
  refine r_c rfl rfl ((c_tell hC hJ _)) (by decide) ?_
  rintro v j ⟨rfl, C1, F1⟩
  obtain ⟨hm2, h132, hL2⟩ := law_j hm h13 hL F1
  refine r_go 6 rfl ?_ ?_
  · (first | exact trivial | (simp only [ab_all, nI_add, hL2]; repeat' (first | exact trivial | rfl | exact lw_in (by omega) h384 | refine And.intro ?_ ?_)) | (simp only [ab_all, nI_add, hL]; repeat' (first | exact trivial | rfl | exact lw_in (by omega) h384 | refine And.intro ?_ ?_)))
  try rw [F1 1200 (by decide)]
  refine r_c rfl rfl ((m_tell hm2 hJ h132 _)) (by decide) ?_
  rintro v k2 ⟨rfl, M2, H2, F2⟩
  refine r_brT rfl (rfl) ?_
  exact hT _ _ (law_s C1 (n_tell hJ _) M2 H2 F2 hL2 h384)
theorem lc_check {i m : ab_I} {k L : Nat} (hI : LawI L i m) (hk : k + 6 ≤ L) (hT : ∀ j m', LawI L j m' → ab_R 300 tb_L_law 1360 [some (.ref 1200), some (.ref 0), some (.ref 218), some (.int (nI k))] [] j lwQ) : ab_R 300 tb_L_law 1301 [some (.ref 1200), some (.ref 0), some (.ref 218), some (.int (nI k))] [] i lwQ := by
  obtain ⟨hC, hm, hJ, h13, hL, h384⟩ := hI
  refine r_go 1 rfl ?_ ?_
  · (first | exact trivial | (simp only [ab_all, nI_add, hL2]; repeat' (first | exact trivial | rfl | exact lw_in (by omega) h384 | refine And.intro ?_ ?_)) | (simp only [ab_all, nI_add, hL]; repeat' (first | exact trivial | rfl | exact lw_in (by omega) h384 | refine And.intro ?_ ?_)))
  refine r_c rfl rfl ((c_check hC hJ)) (by decide) ?_
  rintro v j ⟨rfl, C1, F1⟩
  obtain ⟨hm2, h132, hL2⟩ := law_j hm h13 hL F1
  refine r_go 1 rfl ?_ ?_
  · (first | exact trivial | (simp only [ab_all, nI_add, hL2]; repeat' (first | exact trivial | rfl | exact lw_in (by omega) h384 | refine And.intro ?_ ?_)) | (simp only [ab_all, nI_add, hL]; repeat' (first | exact trivial | rfl | exact lw_in (by omega) h384 | refine And.intro ?_ ?_)))
  try rw [F1 1200 (by decide)]
  refine r_c rfl rfl ((m_check hm2 hJ h132)) (by decide) ?_
  rintro v k2 ⟨rfl, M2, H2, F2⟩
  refine r_brT rfl (rfl) ?_
  exact hT _ _ (law_s C1 (n_check hJ) M2 H2 F2 hL2 h384)
theorem lc_count {i m : ab_I} {k L : Nat} (hI : LawI L i m) (hk : k + 6 ≤ L) (hT : ∀ j m', LawI L j m' → ab_R 300 tb_L_law 1360 [some (.ref 1200), some (.ref 0), some (.ref 218), some (.int (nI k))] [] j lwQ) : ab_R 300 tb_L_law 1314 [some (.ref 1200), some (.ref 0), some (.ref 218), some (.int (nI k))] [] i lwQ := by
  obtain ⟨hC, hm, hJ, h13, hL, h384⟩ := hI
  refine r_go 6 rfl ?_ ?_
  · (first | exact trivial | (simp only [ab_all, nI_add, hL2]; repeat' (first | exact trivial | rfl | exact lw_in (by omega) h384 | refine And.intro ?_ ?_)) | (simp only [ab_all, nI_add, hL]; repeat' (first | exact trivial | rfl | exact lw_in (by omega) h384 | refine And.intro ?_ ?_)))
  refine r_c rfl rfl ((c_count hC hJ _)) (by decide) ?_
  rintro v j ⟨rfl, C1, F1⟩
  obtain ⟨hm2, h132, hL2⟩ := law_j hm h13 hL F1
  refine r_go 6 rfl ?_ ?_
  · (first | exact trivial | (simp only [ab_all, nI_add, hL2]; repeat' (first | exact trivial | rfl | exact lw_in (by omega) h384 | refine And.intro ?_ ?_)) | (simp only [ab_all, nI_add, hL]; repeat' (first | exact trivial | rfl | exact lw_in (by omega) h384 | refine And.intro ?_ ?_)))
  try rw [F1 1200 (by decide)]
  refine r_c rfl rfl ((m_count hm2 hJ h132 _)) (by decide) ?_
  rintro v k2 ⟨rfl, M2, H2, F2⟩
  refine r_brT rfl (rfl) ?_
  exact hT _ _ (law_s C1 (n_count hJ _) M2 H2 F2 hL2 h384)
theorem lc_told {i m : ab_I} {k L : Nat} (hI : LawI L i m) (hk : k + 6 ≤ L) (hT : ∀ j m', LawI L j m' → ab_R 300 tb_L_law 1360 [some (.ref 1200), some (.ref 0), some (.ref 218), some (.int (nI k))] [] j lwQ) : ab_R 300 tb_L_law 1337 [some (.ref 1200), some (.ref 0), some (.ref 218), some (.int (nI k))] [] i lwQ := by
  obtain ⟨hC, hm, hJ, h13, hL, h384⟩ := hI
  refine r_go 6 rfl ?_ ?_
  · (first | exact trivial | (simp only [ab_all, nI_add, hL2]; repeat' (first | exact trivial | rfl | exact lw_in (by omega) h384 | refine And.intro ?_ ?_)) | (simp only [ab_all, nI_add, hL]; repeat' (first | exact trivial | rfl | exact lw_in (by omega) h384 | refine And.intro ?_ ?_)))
  refine r_c rfl rfl ((c_told hC hJ _)) (by decide) ?_
  rintro v j ⟨rfl, C1, F1⟩
  obtain ⟨hm2, h132, hL2⟩ := law_j hm h13 hL F1
  refine r_go 6 rfl ?_ ?_
  · (first | exact trivial | (simp only [ab_all, nI_add, hL2]; repeat' (first | exact trivial | rfl | exact lw_in (by omega) h384 | refine And.intro ?_ ?_)) | (simp only [ab_all, nI_add, hL]; repeat' (first | exact trivial | rfl | exact lw_in (by omega) h384 | refine And.intro ?_ ?_)))
  try rw [F1 1200 (by decide)]
  refine r_c rfl rfl ((m_told hm2 hJ h132 _)) (by decide) ?_
  rintro v k2 ⟨rfl, M2, H2, F2⟩
  refine r_brT rfl (rfl) ?_
  exact hT _ _ (law_s C1 (n_told hJ _) M2 H2 F2 hL2 h384)
theorem lw_loop {L : Nat} (mm k : Nat) (i m : ab_I) (hI : LawI L i m) (hmm : L - k < mm) (hk : k ≤ L) : ab_R 300 tb_L_law 18 [some (.ref 1200), some (.ref 0), some (.ref 218), some (.int (nI k))] [] i lwQ := by
  induction mm generalizing k i m with
  | zero => exact absurd hmm (by omega)
  | succ mm ih =>
    have h384 := hI.2.2.2.2.2
    have hL := hI.2.2.2.2.1
    have hT : k + 6 ≤ L → ∀ j m', LawI L j m' → ab_R 300 tb_L_law 1360 [some (.ref 1200), some (.ref 0), some (.ref 218), some (.int (nI k))] [] j lwQ := by
        intro h6 j m' h'
        refine r_go 2 rfl trivial ?_
        rw [nI_add]
        exact ih (k + 6) j m' h' (by omega) h6
    refine r_go 5 rfl ?_ ?_
    · (first | exact trivial | (simp only [ab_all, nI_add, hL2]; repeat' (first | exact trivial | rfl | exact lw_in (by omega) h384 | refine And.intro ?_ ?_)) | (simp only [ab_all, nI_add, hL]; repeat' (first | exact trivial | rfl | exact lw_in (by omega) h384 | refine And.intro ?_ ?_)))
    rw [hL]
    refine r_br rfl (fun h24 => ?_) (fun h24 => ?_)
    · skip
      refine r_go 1 rfl ?_ ?_
      · (first | exact trivial | (simp only [ab_all, nI_add, hL2]; repeat' (first | exact trivial | rfl | exact lw_in (by omega) h384 | refine And.intro ?_ ?_)) | (simp only [ab_all, nI_add, hL]; repeat' (first | exact trivial | rfl | exact lw_in (by omega) h384 | refine And.intro ?_ ?_)))
      refine r_ret rfl (by (first | exact Or.inl rfl | exact Or.inr rfl | exact bI_or)) ?_
      exact rfl
    · skip
      have h6 : k + 6 ≤ L := by
          have q := h24
          rw [Int32.lt_iff_toInt_lt, su_i (by rw [c_i (by omega), c_i (by omega)]; omega) (by rw [c_i (by omega), c_i (by omega)]; omega), c_i (by omega), c_i (by omega), c_i (by omega)] at q
          omega
      have hT := hT h6
      refine r_go 5 rfl ?_ ?_
      · (first | exact trivial | (simp only [ab_all, nI_add, hL2]; repeat' (first | exact trivial | rfl | exact lw_in (by omega) h384 | refine And.intro ?_ ?_)) | (simp only [ab_all, nI_add, hL]; repeat' (first | exact trivial | rfl | exact lw_in (by omega) h384 | refine And.intro ?_ ?_)))
      refine r_sw rfl ?_
      refine r_swk (fun h33_0 => ?_) (fun h33_0 => ?_)
      · skip
        exact lc_basin hI h6 hT
      refine r_swk (fun h33_1 => ?_) (fun h33_1 => ?_)
      · skip
        exact lc_basinIs hI h6 hT
      refine r_swk (fun h33_2 => ?_) (fun h33_2 => ?_)
      · skip
        exact lc_setBasin hI h6 hT
      refine r_swk (fun h33_3 => ?_) (fun h33_3 => ?_)
      · skip
        exact lc_door hI h6 hT
      refine r_swk (fun h33_4 => ?_) (fun h33_4 => ?_)
      · skip
        exact lc_doorIs hI h6 hT
      refine r_swk (fun h33_5 => ?_) (fun h33_5 => ?_)
      · skip
        exact lc_as hI h6 hT
      refine r_swk (fun h33_6 => ?_) (fun h33_6 => ?_)
      · skip
        exact lc_setDoor hI h6 hT
      refine r_swk (fun h33_7 => ?_) (fun h33_7 => ?_)
      · skip
        exact lc_rain hI h6 hT
      refine r_swk (fun h33_8 => ?_) (fun h33_8 => ?_)
      · skip
        exact lc_feed hI h6 hT
      refine r_swk (fun h33_9 => ?_) (fun h33_9 => ?_)
      · skip
        exact lc_text hI h6 hT
      refine r_swk (fun h33_10 => ?_) (fun h33_10 => ?_)
      · skip
        exact lc_untell hI h6 hT
      refine r_swk (fun h33_11 => ?_) (fun h33_11 => ?_)
      · skip
        exact lc_hours hI h6 hT
      refine r_swk (fun h33_12 => ?_) (fun h33_12 => ?_)
      · skip
        exact lc_wet hI h6 hT
      refine r_swk (fun h33_13 => ?_) (fun h33_13 => ?_)
      · skip
        exact lc_seed hI h6 hT
      refine r_swk (fun h33_14 => ?_) (fun h33_14 => ?_)
      · skip
        exact lc_then hI h6 hT
      refine r_swk (fun h33_15 => ?_) (fun h33_15 => ?_)
      · skip
        exact lc_thenD hI h6 hT
      refine r_swk (fun h33_16 => ?_) (fun h33_16 => ?_)
      · skip
        exact lc_moves hI h6 hT
      refine r_swk (fun h33_17 => ?_) (fun h33_17 => ?_)
      · skip
        exact lc_best hI h6 hT
      refine r_swk (fun h33_18 => ?_) (fun h33_18 => ?_)
      · skip
        exact lc_storm hI h6 hT
      refine r_swk (fun h33_19 => ?_) (fun h33_19 => ?_)
      · skip
        exact lc_changes hI h6 hT
      refine r_swk (fun h33_20 => ?_) (fun h33_20 => ?_)
      · skip
        exact lc_buys hI h6 hT
      refine r_swk (fun h33_21 => ?_) (fun h33_21 => ?_)
      · skip
        exact lc_comes hI h6 hT
      refine r_swk (fun h33_22 => ?_) (fun h33_22 => ?_)
      · skip
        exact lc_voice hI h6 hT
      refine r_swk (fun h33_23 => ?_) (fun h33_23 => ?_)
      · skip
        exact lc_body hI h6 hT
      refine r_swk (fun h33_24 => ?_) (fun h33_24 => ?_)
      · skip
        exact lc_sheet hI h6 hT
      refine r_swk (fun h33_25 => ?_) (fun h33_25 => ?_)
      · skip
        exact lc_put hI h6 hT
      refine r_swk (fun h33_26 => ?_) (fun h33_26 => ?_)
      · skip
        exact lc_move hI h6 hT
      refine r_swk (fun h33_27 => ?_) (fun h33_27 => ?_)
      · skip
        exact lc_votes hI h6 hT
      refine r_swk (fun h33_28 => ?_) (fun h33_28 => ?_)
      · skip
        exact lc_off hI h6 hT
      refine r_swk (fun h33_29 => ?_) (fun h33_29 => ?_)
      · skip
        exact lc_rained hI h6 hT
      refine r_swk (fun h33_30 => ?_) (fun h33_30 => ?_)
      · skip
        exact lc_image hI h6 hT
      refine r_swk (fun h33_31 => ?_) (fun h33_31 => ?_)
      · skip
        exact lc_restore hI h6 hT
      refine r_swk (fun h33_32 => ?_) (fun h33_32 => ?_)
      · skip
        exact lc_tell hI h6 hT
      refine r_swk (fun h33_33 => ?_) (fun h33_33 => ?_)
      · skip
        exact lc_check hI h6 hT
      refine r_swk (fun h33_34 => ?_) (fun h33_34 => ?_)
      · skip
        exact lc_count hI h6 hT
      refine r_swk (fun h33_35 => ?_) (fun h33_35 => ?_)
      · skip
        exact lc_told hI h6 hT
      exact hT _ _ hI
