set_option maxHeartbeats 4000000 in
set_option maxRecDepth 100000 in
theorem sd_brn (hV : sd_V) {X : sd_X} {l : Launch} {d kc ks : Nat} {cf c1 c2 : ab_C} {P : Prop} {Q : ab_Q} (h : ab_brn cf = some (P, c1, c2)) (k1 : P → sd_J X l d kc ks c1 Q) (k2 : ¬ P → sd_J X l d kc ks c2 Q) : sd_J X l d kc ks cf Q := by
  obtain ⟨T, pc, ls0, st, i, g⟩ := cf
  intro mi y cc ml rt hPm p e R s m args below meth c0 H locs cells slots lsA K1 K2 Qf hC hfr hlo hce hsl hK1 hK2 hex hHp hS hL hF
  dsimp only [ab_i, ab_g] at hPm hex hHp hL ⊢
  unfold ab_brn at h
  dsimp only at h
  split at h
  · cases h
  rename_i ins nx a b c v sw lm hlk
  obtain ⟨hbd, hbx, hwd⟩ := hV mi y cc ml rt T hPm pc _ hlk
  rw [ab_mk_eq] at h
  have hL2 := sd_L_mk lm hL
  generalize ab_mk lm ls0 (fun x => x) = ls at h hL2
  obtain ⟨hx, hb, hml, hown, hts, hin, hCW, hba⟩ := id hC
  split at h
  · rename_i cd z
    obtain ⟨hd, hnx⟩ := sd_bd_spec hbd rfl
    subst hnx
    have hz : (pc : Int) + z = (a : Int) := by simpa [sd_bx] using hbx
    split at h
    · rename_i x r
      cases cd
      · cases h
        exact lv_if_eq hx hb hd hz (fun q => (k1 q mi y cc ml rt hPm p e R s m args below meth c0 H locs cells slots lsA K1 K2 Qf hC hfr hlo hce hsl hK1 hK2 hex hHp hS hL2 hF)) (fun q => (k2 q mi y cc ml rt hPm p e R s m args below meth c0 H locs cells slots lsA K1 K2 Qf hC hfr hlo hce hsl hK1 hK2 hex hHp hS hL2 hF))
      · cases h
        exact lv_if_ne hx hb hd hz (fun q => (k1 q mi y cc ml rt hPm p e R s m args below meth c0 H locs cells slots lsA K1 K2 Qf hC hfr hlo hce hsl hK1 hK2 hex hHp hS hL2 hF)) (fun q => (k2 (fun nz => nz q) mi y cc ml rt hPm p e R s m args below meth c0 H locs cells slots lsA K1 K2 Qf hC hfr hlo hce hsl hK1 hK2 hex hHp hS hL2 hF))
      · cases h
        exact lv_if_lt hx hb hd hz (fun q => (k1 q mi y cc ml rt hPm p e R s m args below meth c0 H locs cells slots lsA K1 K2 Qf hC hfr hlo hce hsl hK1 hK2 hex hHp hS hL2 hF)) (fun q => (k2 q mi y cc ml rt hPm p e R s m args below meth c0 H locs cells slots lsA K1 K2 Qf hC hfr hlo hce hsl hK1 hK2 hex hHp hS hL2 hF))
      · cases h
        exact lv_if_ge hx hb hd hz (fun q => (k1 q mi y cc ml rt hPm p e R s m args below meth c0 H locs cells slots lsA K1 K2 Qf hC hfr hlo hce hsl hK1 hK2 hex hHp hS hL2 hF)) (fun q => (k2 q mi y cc ml rt hPm p e R s m args below meth c0 H locs cells slots lsA K1 K2 Qf hC hfr hlo hce hsl hK1 hK2 hex hHp hS hL2 hF))
      · cases h
        exact lv_if_gt hx hb hd hz (fun q => (k1 q mi y cc ml rt hPm p e R s m args below meth c0 H locs cells slots lsA K1 K2 Qf hC hfr hlo hce hsl hK1 hK2 hex hHp hS hL2 hF)) (fun q => (k2 q mi y cc ml rt hPm p e R s m args below meth c0 H locs cells slots lsA K1 K2 Qf hC hfr hlo hce hsl hK1 hK2 hex hHp hS hL2 hF))
      · cases h
        exact lv_if_le hx hb hd hz (fun q => (k1 q mi y cc ml rt hPm p e R s m args below meth c0 H locs cells slots lsA K1 K2 Qf hC hfr hlo hce hsl hK1 hK2 hex hHp hS hL2 hF)) (fun q => (k2 q mi y cc ml rt hPm p e R s m args below meth c0 H locs cells slots lsA K1 K2 Qf hC hfr hlo hce hsl hK1 hK2 hex hHp hS hL2 hF))
    · cases h
  · rename_i cd z
    obtain ⟨hd, hnx⟩ := sd_bd_spec hbd rfl
    subst hnx
    have hz : (pc : Int) + z = (a : Int) := by simpa [sd_bx] using hbx
    split at h
    · rename_i z2 z1 r
      cases cd
      · cases h
        exact lv_icmp_eq hx hb hd hz (fun q => (k1 q mi y cc ml rt hPm p e R s m args below meth c0 H locs cells slots lsA K1 K2 Qf hC hfr hlo hce hsl hK1 hK2 hex hHp hS hL2 hF)) (fun q => (k2 q mi y cc ml rt hPm p e R s m args below meth c0 H locs cells slots lsA K1 K2 Qf hC hfr hlo hce hsl hK1 hK2 hex hHp hS hL2 hF))
      · cases h
        exact lv_icmp_ne hx hb hd hz (fun q => (k1 q mi y cc ml rt hPm p e R s m args below meth c0 H locs cells slots lsA K1 K2 Qf hC hfr hlo hce hsl hK1 hK2 hex hHp hS hL2 hF)) (fun q => (k2 (fun nz => nz q) mi y cc ml rt hPm p e R s m args below meth c0 H locs cells slots lsA K1 K2 Qf hC hfr hlo hce hsl hK1 hK2 hex hHp hS hL2 hF))
      · cases h
        exact lv_icmp_lt hx hb hd hz (fun q => (k1 q mi y cc ml rt hPm p e R s m args below meth c0 H locs cells slots lsA K1 K2 Qf hC hfr hlo hce hsl hK1 hK2 hex hHp hS hL2 hF)) (fun q => (k2 q mi y cc ml rt hPm p e R s m args below meth c0 H locs cells slots lsA K1 K2 Qf hC hfr hlo hce hsl hK1 hK2 hex hHp hS hL2 hF))
      · cases h
        exact lv_icmp_ge hx hb hd hz (fun q => (k1 q mi y cc ml rt hPm p e R s m args below meth c0 H locs cells slots lsA K1 K2 Qf hC hfr hlo hce hsl hK1 hK2 hex hHp hS hL2 hF)) (fun q => (k2 q mi y cc ml rt hPm p e R s m args below meth c0 H locs cells slots lsA K1 K2 Qf hC hfr hlo hce hsl hK1 hK2 hex hHp hS hL2 hF))
      · cases h
        exact lv_icmp_gt hx hb hd hz (fun q => (k1 q mi y cc ml rt hPm p e R s m args below meth c0 H locs cells slots lsA K1 K2 Qf hC hfr hlo hce hsl hK1 hK2 hex hHp hS hL2 hF)) (fun q => (k2 q mi y cc ml rt hPm p e R s m args below meth c0 H locs cells slots lsA K1 K2 Qf hC hfr hlo hce hsl hK1 hK2 hex hHp hS hL2 hF))
      · cases h
        exact lv_icmp_le hx hb hd hz (fun q => (k1 q mi y cc ml rt hPm p e R s m args below meth c0 H locs cells slots lsA K1 K2 Qf hC hfr hlo hce hsl hK1 hK2 hex hHp hS hL2 hF)) (fun q => (k2 q mi y cc ml rt hPm p e R s m args below meth c0 H locs cells slots lsA K1 K2 Qf hC hfr hlo hce hsl hK1 hK2 hex hHp hS hL2 hF))
    · cases h
  · cases h
theorem sd_swT {lo : Int} {d : Nat} : ∀ (sw : List (Int32 × Nat)) (x : Int32), (∀ (k : Nat) (q : Int32 × Nat), sw[k]? = some q → q.1.toInt = lo + k) → (x.toInt < lo ∨ lo + (sw.length : Int) - 1 < x.toInt) → ab_sw sw d x = d := by
  intro sw
  induction sw generalizing lo with
  | nil => intro x _ _; rfl
  | cons q sw ih =>
    intro x hk hx
    obtain ⟨y, t⟩ := q
    have h0 := hk 0 (y, t) rfl
    simp only [List.length_cons] at hx
    have hne : ¬ x = y := fun z => by
      rw [z] at hx
      simp only at h0
      omega
    rw [ab_sw, if_neg hne]
    refine ih (lo := lo + 1) x (fun k q hq => ?_) (by omega)
    have := hk (k + 1) q (by simpa using hq)
    rw [this]
    omega
theorem sd_swI {lo : Int} {d : Nat} : ∀ (sw : List (Int32 × Nat)) (x : Int32) (j : Nat) (y : Int32) (t : Nat), (∀ (k : Nat) (q : Int32 × Nat), sw[k]? = some q → q.1.toInt = lo + k) → sw[j]? = some (y, t) → x.toInt = lo + j → ab_sw sw d x = t := by
  intro sw
  induction sw generalizing lo with
  | nil => intro x j y t _ h; simp at h
  | cons q sw ih =>
    intro x j y t hk hj hx
    obtain ⟨y0, t0⟩ := q
    have h0 := hk 0 (y0, t0) rfl
    simp only at h0
    cases j with
    | zero =>
      simp at hj
      have e : x = y0 := Int32.toInt_inj.mp (by rw [hx, h0])
      rw [ab_sw, if_pos e]
      exact hj.2
    | succ j =>
      have hne : ¬ x = y0 := fun z => by
        rw [z] at hx
        omega
      rw [ab_sw, if_neg hne]
      refine ih (lo := lo + 1) x j y t (fun k q hq => ?_) (by simpa using hj) (by omega)
      have := hk (k + 1) q (by simpa using hq)
      rw [this]
      omega
theorem sd_swL {pc : Nat} {dz : Int} {d : Nat} (hd : (pc : Int) + dz = (d : Int)) : ∀ (ps : List (Int × Int)) (sw : List (Int32 × Nat)) (x : Int32), ps.length = sw.length → (∀ q ∈ ps.zip sw, q.2.1.toInt = q.1.1 ∧ (pc : Int) + q.1.2 = (q.2.2 : Int)) →
    (pc : Int) + Op.lookupswitch.offset ps dz x.toInt = (ab_sw sw d x : Int) := by
  intro ps
  induction ps with
  | nil =>
    intro sw x hl _
    cases sw with
    | nil => rw [ab_sw, ← hd]; rfl
    | cons q sw => simp at hl
  | cons p ps ih =>
    intro sw x hl hq
    cases sw with
    | nil => simp at hl
    | cons q sw =>
      obtain ⟨a, o⟩ := p
      obtain ⟨y, t⟩ := q
      obtain ⟨h1, h2⟩ := hq ((a, o), (y, t)) (by simp)
      simp only at h1 h2
      rw [Op.lookupswitch.offset_cons, ab_sw]
      by_cases e : x = y
      · rw [if_pos e, if_pos (by rw [e, h1]), h2]
      · rw [if_neg e, if_neg (fun z => e (Int32.toInt_inj.mp (by rw [h1]; exact z.symm)))]
        exact ih sw x (by simpa using hl) (fun q hq' => hq q (by simp [hq']))
set_option maxHeartbeats 4000000 in
set_option maxRecDepth 100000 in
theorem sd_swi (hV : sd_V) {X : sd_X} {l : Launch} {d kc ks : Nat} {cf cf' : ab_C} {Q : ab_Q} (h : ab_swi cf = some cf') (k : sd_J X l d kc ks cf' Q) : sd_J X l d kc ks cf Q := by
  obtain ⟨T, pc, ls0, st, i, g⟩ := cf
  intro mi y cc ml rt hPm p e R s m args below meth c0 H locs cells slots lsA K1 K2 Qf hC hfr hlo hce hsl hK1 hK2 hex hHp hS hL hF
  dsimp only [ab_i, ab_g] at hPm hex hHp hL ⊢
  unfold ab_swi at h
  dsimp only at h
  split at h
  · cases h
  rename_i ins nx a b c v sw lm hlk
  obtain ⟨hbd, hbx, hwd⟩ := hV mi y cc ml rt T hPm pc _ hlk
  rw [ab_mk_eq] at h
  have hL2 := sd_L_mk lm hL
  generalize ab_mk lm ls0 (fun x => x) = ls at h hL2
  obtain ⟨hx, hb, hml, hown, hts, hin, hCW, hba⟩ := id hC
  split at h
  · rename_i dz lo hi offs
    split at h
    · rename_i x r
      cases h
      obtain ⟨len, hd⟩ := sd_bd_dec hbd
      simp only [sd_bx, Bool.and_eq_true, decide_eq_true_eq, List.all_eq_true, List.mem_range] at hbx
      obtain ⟨⟨⟨h1, h2⟩, h3⟩, h4⟩ := hbx
      have hk : ∀ (k : Nat) (q : Int32 × Nat), sw[k]? = some q → q.1.toInt = lo + k ∧ ∃ o, offs[k]? = some o ∧ (pc : Int) + o = (q.2 : Int) := by
        intro k q hq
        have hlt : k < sw.length := (List.getElem?_eq_some_iff.mp hq).1
        have h5 := h4 k hlt
        rw [hq] at h5
        have hlo : k < offs.size := by omega
        rw [Array.getElem?_eq_getElem hlo] at h5
        simp only [Bool.and_eq_true, decide_eq_true_eq] at h5
        exact ⟨h5.1, _, Array.getElem?_eq_getElem hlo, h5.2⟩
      by_cases hr : x.toInt < lo ∨ hi < x.toInt
      · have ew := sd_swT (d := a) sw x (fun k q hq => (hk k q hq).1) (by omega)
        rw [ew] at k
        exact lv_tableOut hx hb hd hr h1 (k mi y cc ml rt hPm p e R s m args below meth c0 H locs cells slots lsA K1 K2 Qf hC hfr hlo hce hsl hK1 hK2 hex hHp hS hL2 hF)
      · have hj : (x.toInt - lo).toNat < sw.length := by omega
        obtain ⟨⟨y0, t0⟩, hq⟩ : ∃ q, sw[(x.toInt - lo).toNat]? = some q := ⟨_, List.getElem?_eq_getElem hj⟩
        obtain ⟨g1, o, g2, g3⟩ := hk _ _ hq
        have ew := sd_swI (d := a) sw x _ y0 t0 (fun k q hq => (hk k q hq).1) hq (by omega)
        rw [ew] at k
        exact lv_tableIn hx hb hd (by omega) (by omega) g2 g3 (k mi y cc ml rt hPm p e R s m args below meth c0 H locs cells slots lsA K1 K2 Qf hC hfr hlo hce hsl hK1 hK2 hex hHp hS hL2 hF)
    · cases h
  · rename_i dz ps
    split at h
    · rename_i x r
      cases h
      obtain ⟨len, hd⟩ := sd_bd_dec hbd
      simp only [sd_bx, Bool.and_eq_true, decide_eq_true_eq] at hbx
      obtain ⟨⟨⟨h1, h2⟩, h3⟩, h4⟩ := hbx
      have h5 : ∀ q ∈ ps.toList.zip sw, q.2.1.toInt = q.1.1 ∧ (pc : Int) + q.1.2 = (q.2.2 : Int) := by
        intro q hq
        have := List.all_eq_true.mp h4 q hq
        simpa using this
      exact lv_lookup hx hb hd h2 rfl (sd_swL h1 ps.toList sw x h3 h5) (k mi y cc ml rt hPm p e R s m args below meth c0 H locs cells slots lsA K1 K2 Qf hC hfr hlo hce hsl hK1 hK2 hex hHp hS hL2 hF)
    · cases h
  · cases h
set_option maxHeartbeats 4000000 in
set_option maxRecDepth 100000 in
theorem sd_rtn (hV : sd_V) {X : sd_X} {l : Launch} {d : Nat} {cf : ab_C} {v : Option Value} {O : Prop} {Q : ab_Q} (h : ab_rtn cf = some (v, O)) (ho : O) (hq : Q v (ab_i cf) (ab_g cf)) : sd_J X l d 0 0 cf Q := by
  obtain ⟨T, pc, ls0, st, i, g⟩ := cf
  intro mi y cc ml rt hPm p e R s m args below meth c0 H locs cells slots lsA K1 K2 Qf hC hfr hlo hce hsl hK1 hK2 hex hHp hS hL hF
  dsimp only [ab_i, ab_g] at hPm hex hHp hL hq ⊢
  unfold ab_rtn at h
  dsimp only at h
  split at h
  · cases h
  rename_i ins nx a b c v0 sw lm hlk
  obtain ⟨hbd, hbx, hwd⟩ := hV mi y cc ml rt T hPm pc _ hlk
  have e1 : K1 = cells := by omega
  have e2 : K2 = slots := by omega
  subst e1; subst e2
  have key : sd_rt cc rt pc v → st.map (sd_cv X) = v.toList.map (sd_cv X) → W p l e R s m args below meth c0 H locs K1 K2 Qf (F0 m pc lsA (st.map (sd_cv X))) := by
    intro hrt est
    rw [est]
    exact hF H locs lsA pc v i g hq hex hHp hS hrt
  split at h
  · obtain ⟨hd, -⟩ := sd_bd_spec hbd rfl
    split at h
    · cases h
      exact key (Or.inl ⟨rfl, by simpa [sd_bx] using hbx, hd⟩) rfl
    · cases h
  · obtain ⟨hd, -⟩ := sd_bd_spec hbd rfl
    split at h
    · rename_i x
      split at h
      · cases h
        have hrt : rt = some .int := by simpa [sd_bx] using hbx
        exact key (Or.inr (Or.inl ⟨x, .int, rfl, hrt, rfl, hd⟩)) rfl
      · cases h
        have hrt : rt = some .boolean := by simpa [sd_bx] using hbx
        exact key (Or.inr (Or.inl ⟨x, .boolean, rfl, hrt, (sd_nar5 ho).1, hd⟩)) rfl
      · cases h
        have hrt : rt = some .char := by simpa [sd_bx] using hbx
        refine key (Or.inr (Or.inl ⟨x, .char, rfl, hrt, ?_, hd⟩)) rfl
        have ho : (x.toUInt32 % 65536).toInt32 = x := ho
        rw [← ho]
        exact pk_nc x
      · rename_i n0 n5 n6
        cases h
        have hrt : rt = some .byte := by
          have h2 := hbx
          simp only [sd_bx, Bool.or_eq_true, Bool.and_eq_true, beq_iff_eq, decide_eq_true_eq] at h2
          rcases h2 with ((h2 | h2) | h2) | h2
          · exact absurd h2.1 n0
          · exact absurd h2.1 n5
          · exact absurd h2.1 n6
          · exact h2.2
        have ho : x.toInt8.toInt32 = x := ho
        refine key (Or.inr (Or.inl ⟨x, .byte, rfl, hrt, ?_, hd⟩)) rfl
        show Value.int x.toInt8.toInt32 = _
        rw [ho]
    · cases h
  · obtain ⟨hd, -⟩ := sd_bd_spec hbd rfl
    split at h
    · rename_i x
      cases h
      exact key (Or.inr (Or.inr (Or.inl ⟨x, rfl, by simpa [sd_bx] using hbx, hd⟩))) rfl
    · cases h
  · obtain ⟨hd, -⟩ := sd_bd_spec hbd rfl
    split at h
    · rename_i x
      cases h
      have hrt : ∃ n, rt = some (.object n) := by
        simp only [sd_bx] at hbx
        split at hbx
        · exact ⟨_, rfl⟩
        · cases hbx
      obtain ⟨n, hrt⟩ := hrt
      exact key (Or.inr (Or.inr (Or.inr ⟨x, n, rfl, hrt, hd⟩))) rfl
    · cases h
  · cases h
