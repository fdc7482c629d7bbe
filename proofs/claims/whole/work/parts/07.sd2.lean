/-! the other steps: cells made, branches, switches, returns, calls -/
theorem sd_wpush {X : sd_X} {i i' : ab_I} {g g' : ab_Sh} (hn : ab_gn g' = ab_gn g + 1) (ho : ∀ k, k < ab_gn g → sd_ce X i' g' k = sd_ce X i g k) : sd_ws X i' g' = sd_ws X i g ++ [(sd_ba X + ab_gn g, sd_ce X i' g' (ab_gn g))] := by
  unfold sd_ws
  rw [hn, List.range_succ, List.map_append]
  congr 1
  refine List.map_congr_left (fun k hk => ?_)
  rw [ho k (List.mem_range.mp hk)]
theorem sd_new_gr {g : ab_Sh} {t : ab_Tg} {k j : Nat} (h : k < ab_gn g) : ab_gr (ab_new g t) k j = ab_gr g k j := by
  show (if k = ab_gn g then 0 else ab_gr g k j) = _
  rw [if_neg (by omega)]
theorem sd_new_gt {g : ab_Sh} {t : ab_Tg} {k : Nat} (h : k < ab_gn g) : ab_gt (ab_new g t) k = ab_gt g k := by
  show (if k = ab_gn g then t else ab_gt g k) = _
  rw [if_neg (by omega)]
theorem sd_new_gr0 {g : ab_Sh} {t : ab_Tg} {j : Nat} : ab_gr (ab_new g t) (ab_gn g) j = 0 := by
  show (if ab_gn g = ab_gn g then 0 else _) = _
  rw [if_pos rfl]
theorem sd_new_gt0 {g : ab_Sh} {t : ab_Tg} : ab_gt (ab_new g t) (ab_gn g) = t := by
  show (if ab_gn g = ab_gn g then t else _) = _
  rw [if_pos rfl]
theorem sd_new_ce {X : sd_X} {i : ab_I} {g : ab_Sh} {t : ab_Tg} {f : Nat → Int32} {k : Nat} (h : k < ab_gn g) : sd_ce X (ab_row i (ab_gn g) f) (ab_new g t) k = sd_ce X i g k :=
  sd_ce_same (fun j => ab_row_ne (by omega)) (fun j => sd_new_gr h) (sd_new_gt h)
theorem sd_new_Hp {X : sd_X} {i : ab_I} {g : ab_Sh} {H H1 : Heap} {t : ab_Tg} (hHp : sd_Hp X i g H) (h9 : ab_gn g < 900) (z1 : H1.size = H.size + 1) (o1 : ∀ q : Nat, q < H.size → H1[q]? = H[q]?)
    (hat : va_at (sd_D X) vwCl (sd_ba X + ab_gn g, sd_ce X (ab_row i (ab_gn g) (fun _ => 0)) (ab_new g t) (ab_gn g)) H1) : sd_Hp X (ab_row i (ab_gn g) (fun _ => 0)) (ab_new g t) H1 := by
  have hsz := hHp.1
  refine sd_Hp_of (n := 0) hHp (by omega) ?_ (show ab_gn g + 1 ≤ 900 by omega) (fun q hq => ?_) (fun q j hq => ab_row_ne (by omega)) ?_
  · show H1.size ≤ sd_ba X + (ab_gn g + 1)
    omega
  · have hq : ab_gn g + 1 ≤ q := hq
    show 9000 ≤ (if q = ab_gn g then t else ab_gt g q).1
    rw [if_neg (by omega)]
    exact hHp.2.2.1 q (by omega)
  · rw [sd_wpush (i := i) (g := g) rfl (fun k hk => sd_new_ce hk)]
    refine (hHp.2.2.2.1.kept (fun k x hx => o1 x.1 (hHp.2.2.2.1 k x hx).lt)).app (fun k x hx => ?_)
    have hz : k < 1 := (List.getElem?_eq_some_iff.mp hx).1
    rw [show k = 0 by omega] at hx
    cases hx
    exact hat
theorem sd_new_S {X : sd_X} {H0 H H1 : Heap} {locs : List Loc} (hS : va_S (sd_A X) H0 H locs) (z1 : H1.size = H.size + 1) (o1 : ∀ q : Nat, q < H.size → H1[q]? = H[q]?) : va_S (sd_A X) H0 H1 locs :=
  ⟨Nat.le_trans hS.1 (by omega), fun x h1 h2 => (o1 x (Nat.lt_of_lt_of_le h1 hS.1)).trans (hS.2.1 x h1 h2), hS.2.2⟩
theorem sd_fs_r {X : sd_X} {i : ab_I} {g : ab_Sh} {c q a y : Nat} {v : Value} (han : a < sd_nf c) (hv : sd_fv X i (ab_setr g q a y) c q a = v) : (sd_fs X i g c q).set a v = sd_fs X i (ab_setr g q a y) c q := by
  unfold sd_fs
  refine sd_mapset han hv (fun k hk => ?_)
  unfold sd_fv sd_rf
  have e : ab_gr (ab_setr g q a y) q k = ab_gr g q k := by
    show (if q = q ∧ k = a then y else ab_gr g q k) = _
    rw [if_neg (fun z => hk z.2)]
  rw [e]
theorem sd_setr_self {g : ab_Sh} {q a y : Nat} : ab_gr (ab_setr g q a y) q a = y := by
  show (if q = q ∧ a = a then y else _) = _
  rw [if_pos ⟨rfl, rfl⟩]
theorem sd_setr_ne {g : ab_Sh} {q a y k j : Nat} (h : k ≠ q) : ab_gr (ab_setr g q a y) k j = ab_gr g k j := by
  show (if k = q ∧ j = a then y else _) = _
  rw [if_neg (fun z => h z.1)]
set_option maxHeartbeats 4000000 in
set_option maxRecDepth 100000 in
theorem sd_alc (hV : sd_V) {X : sd_X} {l : Launch} {d kc ks kc' ks' u w : Nat} {cf cf' : ab_C} {O : Prop} {Q : ab_Q} (h : ab_alc cf = some (cf', O, u, w)) (ho : O) (ekc : kc = u + kc') (eks : ks = w + ks') (k : sd_J X l d kc' ks' cf' Q) : sd_J X l d kc ks cf Q := by
  obtain ⟨T, pc, ls0, st, i, g⟩ := cf
  intro mi y cc ml rt hPm p e R s m args below meth c0 H locs cells slots lsA K1 K2 Qf hC hfr hlo hce hsl hK1 hK2 hex hHp hS hL hF
  dsimp only [ab_i, ab_g] at hPm hex hHp hL ⊢
  unfold ab_alc at h
  dsimp only at h
  split at h
  · cases h
  rename_i ins nx a b c v sw lm hlk
  obtain ⟨hbd, hbx, hwd⟩ := hV mi y cc ml rt T hPm pc _ hlk
  rw [ab_mk_eq] at h
  have hL2 := sd_L_mk lm hL
  generalize ab_mk lm ls0 (fun x => x) = ls at h hL2
  obtain ⟨hx, hb, hml, hown, hts, hin, hCW, hba⟩ := id hC
  have hD := sd_Dj X i g
  split at h
  · rename_i n
    obtain ⟨hd, hnx⟩ := sd_bd_spec hbd rfl
    subst hnx
    cases h
    have hbx' : b < 12 ∧ w = sd_nf b := by simpa [sd_bx] using hbx
    obtain ⟨hb12, rfl⟩ := hbx'
    have hKn := hCW.1.1 b _ (sd_clq hb12)
    have hN := sd_N b hb12
    have hsz := hHp.1
    refine W.newcK (C := (sd_cl b).1) (n := (sd_cl b).2.2) hx hb hown (hts _ (hwd _ (by simp [sd_w]))) (hts _ (hwd _ (by simp [sd_w]))) (hts _ (hwd _ (by simp [sd_w]))) rfl hd (by omega) (by rw [hN]; omega) hKn.2.1 rfl (fun H1 kC hkC e1 z1 o1 => ?_)
    have hH1 : sd_Hp X (ab_row i (ab_gn g) (fun _ => 0)) (ab_new g (b, 0)) H1 := by
      refine sd_new_Hp hHp ho z1 o1 ?_
      rw [sd_ce_obj (n := 0) sd_new_gt0 (by omega)]
      refine ⟨_, sd_clq hb12, ?_⟩
      rw [← hsz]
      refine (u_born (sd_ty b) hts (sd_hin b hb12) hKn hkC e1 (sd_hty b hb12)).to (fun j hj => ?_)
      have hj' : j < sd_nf b := by rw [← hN]; exact hj
      show _ = (sd_fs X _ _ b (ab_gn g)).getD j .null
      rw [sd_dfl b hb12 j hj, List.getD_eq_getElem?_getD, sd_fs_get hj']
      show _ = sd_fv X _ _ b (ab_gn g) j
      unfold sd_fv sd_rf sd_sv
      rw [sd_new_gr0, if_pos rfl, ab_row_self]
      by_cases h0 : sd_kd b j = 0
      · rw [if_pos h0, if_pos h0]
      · rw [if_neg h0, if_neg h0]
        by_cases h1 : sd_kd b j = 1
        · rw [if_pos h1]; rfl
        · rw [if_neg h1, if_pos rfl]
    refine W.eq (g2 := F0 m (pc + 3) lsA (.ref (sd_ad X (ab_gn g)) :: st.map (sd_cv X))) ?_ ?_
    · rw [show sd_ad X (ab_gn g) = H.size by unfold sd_ad; rw [if_pos (by omega), hsz]]
    · rw [hN]
      exact (k mi y cc ml rt hPm p e R s m args below meth c0 H1 locs (cells + 1) (slots + sd_nf b) lsA K1 K2 Qf hC hfr hlo (by omega) (by omega) hK1 hK2 (show s.heap.size + (cells + 1) = sd_ba X + (ab_gn g + 1) by omega) hH1 (sd_new_S hS z1 o1) hL2 hF)
  · rename_i t
    obtain ⟨hd, hnx⟩ := sd_bd_spec hbd rfl
    subst hnx
    split at h
    · rename_i n r
      cases h
      have ht : t = .int := by simpa [sd_bx] using hbx
      subst ht
      obtain ⟨ho, hn0, hn1⟩ := ho
      have hsz := hHp.1
      have hcl := sd_cl0 hn0
      refine va_newaK hx hb (hts _ (hwd _ (show Jvm.Cond.arrayClass .int ∈ _ by simp [sd_w]))) rfl hd rfl (by rw [Int32.lt_iff_toInt_lt, Int32.toInt_zero]; omega) rfl (by show _ * 4 ≤ _; omega) (by omega) (by omega) rfl (fun H1 cA e1 z1 o1 hAr hNm => ?_)
      have hcA : cA = sd_cI X := Option.some.inj (hNm.symm.trans (hCW.1.2 0 _ rfl).2)
      subst hcA
      have hH1 : sd_Hp X (ab_row i (ab_gn g) (fun _ => 0)) (ab_new g (100, n.toNatClampNeg)) H1 := by
        refine sd_new_Hp hHp ho z1 o1 ?_
        rw [sd_ce_row sd_new_gt0]
        show H1[sd_ba X + ab_gn g]? = some (vp_cell _ _)
        rw [vp_cell_i, ← hsz, e1, ab_row_self]
        rfl
      refine W.eq (g2 := F0 m (pc + 2) lsA (.ref (sd_ad X (ab_gn g)) :: r.map (sd_cv X))) ?_ ?_
      · rw [show sd_ad X (ab_gn g) = H.size by unfold sd_ad; rw [if_pos (by omega), hsz]]
      · exact (k mi y cc ml rt hPm p e R s m args below meth c0 H1 locs (cells + 1) (slots + n.toNatClampNeg) lsA K1 K2 Qf hC hfr hlo (by omega) (by omega) hK1 hK2 (show s.heap.size + (cells + 1) = sd_ba X + (ab_gn g + 1) by omega) hH1 (sd_new_S hS z1 o1) hL2 hF)
    · cases h
  · rename_i nn
    obtain ⟨hd, hnx⟩ := sd_bd_spec hbd rfl
    subst hnx
    split at h
    · rename_i n r
      cases h
      have hb4 := sd_el_of (show sd_el b = true from hbx)
      obtain ⟨ho, hn0, hn1⟩ := ho
      have hsz := hHp.1
      have hcl := sd_cl0 hn0
      have hAO : va_AO (sd_cl b).1 s := by
        rcases hb4 with rfl | rfl | rfl | rfl
        · exact hCW.2.1 _ (by simp [sd_cl, vwCl])
        · exact hCW.2.1 _ (by simp [sd_cl, vwCl])
        · exact hCW.2.1 _ (by simp [sd_cl, vwCl])
        · exact hCW.2.1 _ (by simp [sd_cl, vwCl])
      have hRA : va_RA s (sd_cA X b) (.object (sd_cl b).1) := by
        rcases hb4 with rfl | rfl | rfl | rfl
        · exact (hCW.1.2 1 _ rfl).2
        · exact (hCW.1.2 2 _ rfl).2
        · exact (hCW.1.2 4 _ rfl).2
        · exact (hCW.1.2 3 _ rfl).2
      refine W.anew hx hb hown (hts _ (hwd _ (by simp [sd_w]))) (va_AO.use hAO) rfl hd rfl (by rw [Int32.lt_iff_toInt_lt, Int32.toInt_zero]; omega) (by omega) (by omega) (by omega) (fun cA kA comp f1 f2 f3 f4 => ?_)
      obtain ⟨kA', comp', -, -, -, f5⟩ := hRA
      have hcA : cA = sd_cA X b := Option.some.inj (f1.symm.trans f5)
      subst hcA
      generalize hH1e : H.push ({ cls := sd_cA X b, slots := Array.replicate n.toNatClampNeg .null, vm := .none } : Cell) = H1
      have z1 : H1.size = H.size + 1 := by rw [← hH1e, Array.size_push]
      have e1 : H1[H.size]? = some (arrV (sd_cA X b) n.toNatClampNeg (fun _ => .null)) := by rw [← hH1e, Array.getElem?_push_size, ← arrV_new]
      have o1 : ∀ q : Nat, q < H.size → H1[q]? = H[q]? := fun q hq => by rw [← hH1e, Array.getElem?_push, if_neg (Nat.ne_of_lt hq)]
      have hH1 : sd_Hp X (ab_row i (ab_gn g) (fun _ => 0)) (ab_new g (101 + b, n.toNatClampNeg)) H1 := by
        refine sd_new_Hp hHp ho z1 o1 ?_
        rw [sd_ce_arr sd_new_gt0]
        show H1[sd_ba X + ab_gn g]? = some (vp_cell _ _)
        rw [vp_cell_q, ← hsz, e1]
        congr 2
        funext j
        unfold sd_rf
        rw [sd_new_gr0, if_pos rfl]
        rfl
      refine W.eq (g2 := F0 m (pc + 3) lsA (.ref (sd_ad X (ab_gn g)) :: r.map (sd_cv X))) ?_ ?_
      · rw [show sd_ad X (ab_gn g) = H.size by unfold sd_ad; rw [if_pos (by omega), hsz]]
      · exact (k mi y cc ml rt hPm p e R s m args below meth c0 H1 locs (cells + 1) (slots + n.toNatClampNeg) lsA K1 K2 Qf hC hfr hlo (by omega) (by omega) hK1 hK2 (show s.heap.size + (cells + 1) = sd_ba X + (ab_gn g + 1) by omega) hH1 (sd_new_S hS z1 o1) hL2 hF)
    · cases h
  · rename_i nn
    obtain ⟨hd, hnx⟩ := sd_bd_spec hbd rfl
    subst hnx
    split at h
    · rename_i y0 q r
      split at h
      · cases h
        obtain ⟨ho, ho2⟩ := ho
        have hbx' := hbx
        simp [sd_bx, and_assoc] at hbx'
        obtain ⟨hb12, han, hkd, hfin, hdecl, hyn, hty⟩ := hbx'
        obtain ⟨hlt, hat⟩ := sd_obj (X := X) (i := i) hHp ho (show b < 100 by omega)
        have e1 : sd_cv X (.ref q) = .ref (sd_ba X + q) := by rw [← sd_adq hHp hlt]; rfl
        have han' : a < (sd_cl b).2.2 := by rw [sd_N b hb12]; exact han
        have hnf : narrow (sd_ty b a) (sd_cv X (.ref y0)) = sd_cv X (.ref y0) ∧ fits (sd_ty b a) (sd_cv X (.ref y0)) = true := by
          generalize sd_ty b a = ty at hty
          cases ty <;> first | exact ⟨rfl, rfl⟩ | cases hty
        rw [List.map_cons, List.map_cons, e1]
        refine va_putF hx hb hts (sd_hin b hb12) (sd_ty b) (sd_hty b hb12) (sd_hnm b hb12) hown hCW.1 hHp.2.2.2.1 hD hS q hat (sd_clq hb12) a han' (hts _ (hwd _ (by simp [sd_w]))) (fun _ z => z) hfin (by rw [hin]; exact hyn) hdecl (sd_hty b hb12 a han') hnf.1 hnf.2 (by rw [sd_fs_len]; exact han) hd (fun H1 locs1 hP1 hD1 hS1 => sd_sz fun hz => ?_)
        have hfv : sd_fv X i (ab_setr g q a y0) b q a = sd_cv X (.ref y0) := by
          unfold sd_fv sd_rf
          rw [if_neg (by rw [hkd]; decide), if_pos hkd, sd_setr_self, if_neg ho2]
          rfl
        rw [sd_wset (i' := i) (g' := ab_setr g q a y0) hlt rfl (by rw [sd_ce_obj (g := ab_setr g q a y0) ho (by omega), ← sd_fs_r han hfv]) (fun a' ha' => sd_ce_same (fun _ => rfl) (fun j => sd_setr_ne ha') rfl)] at hP1
        have hH1 : sd_Hp X i (ab_setr g q a y0) H1 := sd_Hp_of (n := 0) hHp (Nat.le_trans hba hS1.1) (show H1.size ≤ sd_ba X + ab_gn g by omega) hHp.2.1 hHp.2.2.1 (fun _ _ _ => rfl) hP1
        exact (k mi y cc ml rt hPm p e R s m args below meth c0 H1 locs1 cells slots lsA K1 K2 Qf hC hfr hlo (by omega) (by omega) hK1 hK2 hex hH1 hS1 hL2 hF)
      · cases h
    · cases h
  · obtain ⟨hd, hnx⟩ := sd_bd_spec hbd rfl
    subst hnx
    split at h
    · rename_i y0 z1 q r
      cases h
      obtain ⟨⟨n, ht, hin1⟩, ht2, hy0, hylt⟩ := ho
      have hb4 := sd_el_of (show sd_el b = true from hbx)
      have hlt : q < ab_gn g := sd_lt hHp (by rw [ht]; show 101 + b < 9000; omega)
      have hat : (sd_ws X i g)[q]? = some (sd_ba X + q, .inl (sd_cA X b, n, .inr (.inr (.inr (.inr (sd_rf X g q)))))) := by rw [sd_at hlt, sd_ce_arr ht]
      have hat2 : (sd_ws X i g)[y0]? = some (sd_ba X + y0, .inr (b, sd_fs X i g b y0)) := by rw [sd_at hylt, sd_ce_obj ht2 (by omega)]
      have e1 : sd_cv X (.ref q) = .ref (sd_ba X + q) := by rw [← sd_adq hHp hlt]; rfl
      have e2 : sd_cv X (.ref y0) = .ref (sd_ba X + y0) := by rw [← sd_adq hHp hylt]; rfl
      have e3 : sd_rf X (ab_setr g q z1.toNatClampNeg y0) q = va_up (sd_rf X g q) z1.toNatClampNeg (some (sd_ba X + y0)) := by
        funext j
        unfold sd_rf va_up
        by_cases hj : j = z1.toNatClampNeg
        · subst hj
          rw [sd_setr_self, if_neg hy0, if_pos rfl, sd_adq hHp hylt]
        · have e : ab_gr (ab_setr g q z1.toNatClampNeg y0) q j = ab_gr g q j := by
            show (if q = q ∧ j = z1.toNatClampNeg then y0 else ab_gr g q j) = _
            rw [if_neg (fun z => hj z.2)]
          rw [e, if_neg hj]
      rw [List.map_cons, List.map_cons, List.map_cons, e1, e2]
      have step : ∀ (H1 : Heap) (locs1 : List Loc), va_P (sd_D X) vwCl ((sd_ws X i g).set q (sd_ba X + q, .inl (sd_cA X b, n, .inr (.inr (.inr (.inr (va_up (sd_rf X g q) z1.toNatClampNeg (some (sd_ba X + y0))))))))) H1 → va_S (sd_A X) s.heap H1 locs1 →
          W p l e R s m args below meth c0 H1 locs1 cells slots Qf (F0 m (pc + 1) lsA (r.map (sd_cv X))) := by
        intro H1 locs1 hP1 hS1
        refine sd_sz fun hz => ?_
        rw [sd_wset (i' := i) (g' := ab_setr g q z1.toNatClampNeg y0) hlt rfl (by rw [sd_ce_arr (g := ab_setr g q z1.toNatClampNeg y0) ht, e3]) (fun a' ha' => sd_ce_same (fun _ => rfl) (fun j => sd_setr_ne ha') rfl)] at hP1
        have hH1 : sd_Hp X i (ab_setr g q z1.toNatClampNeg y0) H1 := sd_Hp_of (n := 0) hHp (Nat.le_trans hba hS1.1) (show H1.size ≤ sd_ba X + ab_gn g by omega) hHp.2.1 hHp.2.2.1 (fun _ _ _ => rfl) hP1
        exact (k mi y cc ml rt hPm p e R s m args below meth c0 H1 locs1 cells slots lsA K1 K2 Qf hC hfr hlo (by omega) (by omega) hK1 hK2 hex hH1 hS1 hL2 hF)
      rcases hb4 with rfl | rfl | rfl | rfl
      · exact va_astq hx hb hCW.1 hHp.2.2.2.1 hD hS q 1 y0 0 hat rfl hat2 rfl (vp_in_iff.mpr hin1) hd (fun H1 locs1 hP1 _ hS1 => step H1 locs1 hP1 hS1)
      · exact va_astq hx hb hCW.1 hHp.2.2.2.1 hD hS q 2 y0 1 hat rfl hat2 rfl (vp_in_iff.mpr hin1) hd (fun H1 locs1 hP1 _ hS1 => step H1 locs1 hP1 hS1)
      · exact va_astq hx hb hCW.1 hHp.2.2.2.1 hD hS q 4 y0 6 hat rfl hat2 rfl (vp_in_iff.mpr hin1) hd (fun H1 locs1 hP1 _ hS1 => step H1 locs1 hP1 hS1)
      · exact va_astq hx hb hCW.1 hHp.2.2.2.1 hD hS q 3 y0 8 hat rfl hat2 rfl (vp_in_iff.mpr hin1) hd (fun H1 locs1 hP1 _ hS1 => step H1 locs1 hP1 hS1)
    · cases h
  · cases h
