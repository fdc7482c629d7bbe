/-! calls: a judgement of a method's entry is a contract; and the whole: a run of the abstract machine is a run of the machine -/
theorem sd_arg {X : sd_X} : ∀ (as : List Value) (n j : Nat) (v : Value), (ab_arg as)[j]? = some (some v) → (n + j, sd_cv X v) ∈ lv_args n (as.map (sd_cv X)) := by
  intro as
  induction as with
  | nil => intro n j v h; simp [ab_arg] at h
  | cons w as ih =>
    intro n j v h
    rw [List.map_cons, lv_args, sd_cat]
    have one : w.category = 1 → ab_arg (w :: as) = some w :: ab_arg as → (n + j, sd_cv X v) ∈ (n, sd_cv X w) :: lv_args (if w.category = 2 then n + 2 else n + 1) (as.map (sd_cv X)) := by
      intro hc he
      rw [he] at h
      rw [if_neg (by omega)]
      cases j with
      | zero => simp at h; subst h; exact List.mem_cons_self
      | succ j =>
        have h2 := ih (n + 1) j v (by simpa using h)
        rw [show n + (j + 1) = n + 1 + j by omega]
        exact List.mem_cons_of_mem _ h2
    have two : w.category = 2 → ab_arg (w :: as) = some w :: none :: ab_arg as → (n + j, sd_cv X v) ∈ (n, sd_cv X w) :: lv_args (if w.category = 2 then n + 2 else n + 1) (as.map (sd_cv X)) := by
      intro hc he
      rw [he] at h
      rw [if_pos hc]
      match j, h with
      | 0, h => simp at h; subst h; exact List.mem_cons_self
      | 1, h => simp at h
      | j + 2, h =>
        have h2 := ih (n + 2) j v (by simpa using h)
        rw [show n + (j + 2) = n + 2 + j by omega]
        exact List.mem_cons_of_mem _ h2
    cases w <;> first | exact one rfl rfl | exact two rfl rfl
theorem sd_pad_at : ∀ (n : Nat) (l : ab_L) (j : Nat) (v : Value), (ab_pad n l)[j]? = some (some v) → l[j]? = some (some v) := by
  intro n
  induction n with
  | zero => intro l j v h; exact h
  | succ n ih =>
    intro l j v h
    cases l with
    | nil =>
      rw [ab_pad] at h
      cases j with
      | zero => simp at h
      | succ j => have := ih [] j v (by simpa using h); simp at this
    | cons x l =>
      rw [ab_pad] at h
      cases j with
      | zero => simpa using h
      | succ j => simpa using ih l j v (by simpa using h)
theorem sd_pad_len : ∀ (n : Nat) (l : ab_L), l.length ≤ n → (ab_pad n l).length = n := by
  intro n
  induction n with
  | zero => intro l h; exact Nat.le_zero.mp h
  | succ n ih =>
    intro l h
    cases l with
    | nil => rw [ab_pad, List.length_cons, ih [] (by simp)]
    | cons x l => rw [ab_pad, List.length_cons, ih l (by simpa using h)]
theorem sd_sl_len {X : sd_X} : ∀ (as : List Value), (lg_sl (as.map (sd_cv X))).length = (ab_arg as).length := by
  intro as
  induction as with
  | nil => rfl
  | cons w as ih =>
    have e : lg_sl ((w :: as).map (sd_cv X)) = (if (sd_cv X w).category = 2 then [.val (sd_cv X w), .second] else [.val (sd_cv X w)]) ++ lg_sl (as.map (sd_cv X)) := by simp [lg_sl]
    rw [e, List.length_append, ih, sd_cat]
    cases w <;> simp [ab_arg, Value.category, Nat.add_comm] <;> omega
def sd_rm (d kc ks : Nat) : Room := { frames := d + 1, cells := kc, slots := ks, locals := 64 * (d + 1) }
def sd_Bp (X : sd_X) (i : ab_I) (g : ab_Sh) (U : State) : Prop := sd_Hp X i g U.heap ∧ sd_CW X U ∧ sd_ba X ≤ U.heap.size
def sd_Qc (X : sd_X) (Q : ab_Q) (n : Nat) : Array Value → State → Outcome → State → Prop := fun _ st oc t =>
  (∃ (v : Option Value) (i' : ab_I) (g' : ab_Sh), oc = .returned (v.map (sd_cv X)) ∧ Q v i' g' ∧ sd_Hp X i' g' t.heap ∧ ab_gn g' = n) ∧ va_F (sd_A X) st t
set_option maxHeartbeats 4000000 in
theorem sd_met {X : sd_X} {l : Launch} {d kc ks mi : Nat} {y : MethodName} {cc : ByteArray} {ml : Nat} {rt : Option FieldType} {T : ab_T} {as : List Value} {i : ab_I} {g : ab_Sh} {e0 : ab_C} {Q : ab_Q}
    (hPm : ab_P[mi]? = some (y, cc, ml, rt, T)) (he : ab_ent ab_P mi as i g = some e0) (hJ : sd_J X l d kc ks e0 Q) (hpl : plainName y.cls = true) :
    Met l y (.code y cc ml rt :: gw) (sd_rm d kc ks) (va_Pc (as.map (sd_cv X)) (sd_Bp X i g)) (sd_Qc X Q (ab_gn g + kc)) kc ks (sd_A X) := by
  unfold ab_ent at he
  rw [hPm] at he
  dsimp only at he
  cases hle : Nat.ble (ab_arg as).length ml with
  | false => rw [hle] at he; cases he
  | true =>
    rw [hle] at he
    cases he
    have hle := Nat.le_of_ble_eq_true hle
    refine Met.ofW (cc := cc) (maxL := ml) (ret := rt) hpl rfl ?_
    intro p e s m args below meth c s₁ B hml hv
    obtain ⟨rfl, hHp, hCW, hba⟩ := hv
    have hts0 := atoms_spec (ws := Jvm.Cond.code y cc ml rt :: gw) B.pre
    rw [lg_entry_eq]
    have hl := lv_entry (as.map (sd_cv X)) (n := ml) (by rw [sd_sl_len]; exact hle)
    have hLL : sd_L X ((lg_sl (as.map (sd_cv X)) ++ List.replicate (ml - (lg_sl (as.map (sd_cv X))).length) Slot.unset).toArray) ml (ab_pad ml (ab_arg as)) := by
      refine ⟨hl.1, hl.2.1, sd_pad_len ml _ hle, fun j v hj => ?_⟩
      have h2 := hl.2.2 _ (sd_arg (X := X) as 0 j v (sd_pad_at ml _ j v hj))
      rw [Nat.zero_add] at h2
      exact h2
    refine hJ mi y cc ml rt hPm p e (sd_rm d kc ks) s m _ below meth c s.heap [] 0 0 _ kc ks _ ⟨B.exec, B.bytes, hml, findClass_of_methodNamed B.named, fun w hw => hts0 w (List.mem_cons_of_mem _ hw), (name_of_methodNamed B.named B.method).1, hCW, hba⟩
      (Nat.le_refl _) (Nat.le_refl _) (Nat.zero_add _) (Nat.zero_add _) (Nat.le_refl _) (Nat.le_refl _) hHp.1 hHp va_S.rf hLL ?_
    intro H' locs' ls' pc' v i' g' hq hex' hHp' hS' hrt
    have hn : ab_gn g' = ab_gn g + kc := by
      have := hHp.1
      omega
    rcases hrt with ⟨rfl, hr0, hd⟩ | ⟨x, ty, rfl, hr0, hna, hd⟩ | ⟨x, rfl, hr0, hd⟩ | ⟨q, n, rfl, hr0, hd⟩
    · exact W.vret B.exec B.bytes (B.returns.trans hr0) (fun t ht hW => ⟨⟨none, i', g', rfl, hq, by rw [ht]; exact hHp', hn⟩, hS'.F ht⟩) hS'.2.2 hd B.notSynchronized
    · exact W.zret B.exec B.bytes (B.returns.trans hr0) hna (fun t ht hW => ⟨⟨some (.int x), i', g', rfl, hq, by rw [ht]; exact hHp', hn⟩, hS'.F ht⟩) hS'.2.2 hd B.notSynchronized
    · exact W.lret B.exec B.bytes (B.returns.trans hr0) (fun t ht hW => ⟨⟨some (.long x), i', g', rfl, hq, by rw [ht]; exact hHp', hn⟩, hS'.F ht⟩) hS'.2.2 hd B.notSynchronized
    · exact W.aret B.exec B.bytes (B.returns.trans hr0) (Or.inl ⟨n, rfl⟩) (Or.inr ⟨_, rfl⟩) (fun t ht hW => ⟨⟨some (.ref q), i', g', rfl, hq, by rw [ht]; exact hHp', hn⟩, hS'.F ht⟩) hS'.2.2 hd B.notSynchronized
theorem sd_cont {X : sd_X} {p : Program} {l : Launch} {e : Env} {R : Room} {s : State} {m : MethodId} {args : Array Value} {below : List Frame} {meth : Method} {c : Code} {H : Heap} {locs : List Loc} {cells slots k1 s1 n1 pc : Nat} {Qf : State → Prop} {ls : Array Slot} {st0 rest : List Value} {a : Array Value} {Q1 : ab_Q}
    (hr : va_Run p l e R s m args below meth c H locs cells slots k1 s1 (F0 m pc ls st0) rest (sd_Qc X Q1 n1 a) (sd_A X)) (hS : va_S (sd_A X) s.heap H locs)
    (kk : ∀ (v : Option Value) (i' : ab_I) (g' : ab_Sh) (H1 : Heap) (locs1 : List Loc), Q1 v i' g' → sd_Hp X i' g' H1 → ab_gn g' = n1 → va_S (sd_A X) s.heap H1 locs1 → W p l e R s m args below meth c H1 locs1 (cells + k1) (slots + s1) Qf (F0 m (pc + 3) ls ((v.map (sd_cv X)).toList ++ rest))) :
    W p l e R s m args below meth c H locs cells slots Qf (F0 m pc ls st0) := by
  intro T hT X0
  obtain ⟨v, st₀, t, T', L, h0, X', hL, e1, e2, ⟨⟨v', i', g', hv, hq, hHp', hn⟩, hz, hk⟩, st⟩ := hr T hT X0
  cases hv
  rw [h0] at hz hk
  obtain ⟨t2, a1, b1⟩ := kk v' i' g' T'.heap (locs ++ L) hq (by rw [e1]; exact hHp') hn
    ⟨Nat.le_trans hS.1 (by rw [e1]; exact hz), fun q h1 h2 => by rw [e1, hk q (Nat.lt_of_lt_of_le h1 hS.1) h2]; exact hS.2.1 q h1 h2, fun q hq => by
      rcases List.mem_append.mp hq with h | h
      · exact hS.2.2 q h
      · exact hL q h⟩ T' rfl X'
  exact ⟨t2, st t2 a1, b1⟩
theorem sd_pop {α : Type} : ∀ (n : Nat) (st acc : List Value) (k : List Value → List Value → Option α) (x : α), ab_pop n st acc k = some x → ∃ as r, st = as.reverse ++ r ∧ as.length = n ∧ k (as ++ acc) r = some x := by
  intro n
  induction n with
  | zero => intro st acc k x h; exact ⟨[], st, rfl, rfl, h⟩
  | succ n ih =>
    intro st acc k x h
    cases st with
    | nil => simp [ab_pop] at h
    | cons v st =>
      rw [ab_pop] at h
      obtain ⟨as, r, h1, h2, h3⟩ := ih st (v :: acc) k x h
      exact ⟨as ++ [v], r, by rw [h1]; simp, by simp [h2], by simpa using h3⟩
theorem ab_beqF {a b : Nat} (h : a ≠ b) : Nat.beq a b = false := by
  cases hb : Nat.beq a b with
  | true => exact absurd (Nat.eq_of_beq_eq_true hb) h
  | false => rfl
theorem sd_blind {X : sd_X} {as : List Value} {i : ab_I} {g : ab_Sh} : FrameBlind (va_Pc (as.map (sd_cv X)) (sd_Bp X i g)) :=
  fun a U g' mk q => ⟨q.1, q.2.1, sd_CW_same (s := U) (U := U.calling g' mk a) rfl rfl q.2.2.1, q.2.2.2⟩
theorem sd_pre {X : sd_X} {as : List Value} {i : ab_I} {g : ab_Sh} {s U : State} {H : Heap} {locs : List Loc} (hHp : sd_Hp X i g H) (hCW : sd_CW X s) (hba : sd_ba X ≤ s.heap.size) (hS : va_S (sd_A X) s.heap H locs) (hU : U.heap = H) (hW : s.WarmedH U.vm) : va_Pc (as.map (sd_cv X)) (sd_Bp X i g) ((as.map (sd_cv X)).toArray) U :=
  ⟨rfl, by rw [hU]; exact hHp, sd_CW_warm hW (by rw [hU]; exact hS.1) (fun a h1 h2 => by rw [hU]; exact hS.2.1 a h1 h2) hCW, by rw [hU]; exact Nat.le_trans hba hS.1⟩
theorem sd_ml {X : sd_X} {v : Option Value} {r : List Value} : (v.map (sd_cv X)).toList ++ r.map (sd_cv X) = (v.toList ++ r).map (sd_cv X) := by cases v <;> simp
set_option maxHeartbeats 4000000 in
set_option maxRecDepth 100000 in
theorem sd_cal (hV : sd_V) {X : sd_X} {l : Launch} {d d1 kc ks k1 k2 s1 s2 mi1 pc1 : Nat} {cf e1 : ab_C} {as : List Value} {O : Prop} {T1 : ab_T} {ls1 : ab_L} {r1 : List Value} {Q Q1 : ab_Q}
    (h : ab_cal cf = some (mi1, as, O, T1, pc1, ls1, r1)) (ho : O) (hdd : d1 < d) (ekc : kc = k1 + k2) (eks : ks = s1 + s2) (he : ab_ent ab_P mi1 as (ab_i cf) (ab_g cf) = some e1) (hJ : sd_J X l d1 k1 s1 e1 Q1)
    (k : ∀ v i' g', Q1 v i' g' → sd_J X l d k2 s2 (T1, pc1, ls1, v.toList ++ r1, i', g') Q) : sd_J X l d kc ks cf Q := by
  obtain ⟨T, pc, ls0, st, i, g⟩ := cf
  intro mi y cc ml rt hPm p e R s m args below meth c0 H locs cells slots lsA K1 K2 Qf hC hfr hlo hce hsl hK1 hK2 hex hHp hS hL hF
  dsimp only [ab_i, ab_g] at hPm hex hHp hL he ⊢
  obtain ⟨y1, cc1, ml1, rt1, T2, hP1⟩ : ∃ y1 cc1 ml1 rt1 T2, ab_P[mi1]? = some (y1, cc1, ml1, rt1, T2) := by
    unfold ab_ent at he
    split at he
    · rename_i a1 a2 a3 a4 a5 hh
      exact ⟨a1, a2, a3, a4, a5, hh⟩
    · cases he
  unfold ab_cal at h
  dsimp only at h
  split at h
  · cases h
  rename_i ins nx a b c v sw lm hlk
  obtain ⟨hbd, hbx, hwd⟩ := hV mi y cc ml rt T hPm pc _ hlk
  rw [ab_mk_eq] at h
  have hL2 := sd_L_mk lm hL
  generalize ab_mk lm ls0 (fun x => x) = ls at h hL2
  obtain ⟨hx, hb, hml, hown, hts, hin, hCW, hba⟩ := id hC
  have main : ∀ (hbc : sd_bc mi1 b = true) (hcode : Jvm.Cond.code y1 cc1 ml1 rt1 ∈ gw), plainName y1.cls = true ∧ (y1.cls ≠ "java/lang/invoke/MethodHandle" ∧ y1.cls ≠ "java/lang/invoke/VarHandle") ∧ (∀ sig, parseMethodDescriptor y1.desc = some sig → b = sig.parameters.length) ∧ 8 + (ml1 + 11) + 64 * (d1 + 1) ≤ R.locals ∧ d1 + 1 + 1 ≤ R.frames ∧
      (∀ w ∈ (Jvm.Cond.code y1 cc1 ml1 rt1 :: gw), ∀ (a' : Array Value) (U : State), s.WarmedH U.vm → w.before a' U = true) := by
    intro hbc hcode
    unfold sd_bc at hbc
    rw [hP1] at hbc
    simp only [Bool.and_eq_true, decide_eq_true_eq] at hbc
    obtain ⟨⟨⟨⟨g1, g2⟩, g3⟩, g4⟩, g5⟩ := hbc
    refine ⟨g5, ⟨g1, g2⟩, fun sig hs => ?_, by omega, by omega, pay_in hts (fun w hw => (List.mem_cons.mp hw).elim (fun e => e ▸ gw_good _ hcode) (gw_good w))⟩
    rw [hs] at g3
    exact (Option.some.inj g3).symm
  split at h
  · rename_i n
    cases h9 : Nat.ble 9000 a with
    | true => rw [h9] at h; cases h
    | false =>
    rw [h9] at h
    obtain ⟨as', r, est, hlen, h⟩ := sd_pop b st [] _ _ h
    cases h8 : Nat.ble (ab_cat r) 8 with
    | false => rw [h8] at h; cases h
    | true =>
    rw [h8] at h
    cases h
    have hla := Nat.lt_of_not_le (fun z => absurd (Nat.ble_eq_true_of_le z) (by rw [h9]; decide) : ¬ 9000 ≤ mi1)
    have hwe : ∀ w ∈ (bif Nat.beq c 3 then ([.static y1, .initialized y1.cls, .code y1 cc1 ml1 rt1] : List Jvm.Cond) else [.methodLink y.cls n y1, .static y1, .initialized y1.cls, .code y1 cc1 ml1 rt1]), w ∈ gw := by
      intro w hw
      refine hwd w ?_
      unfold sd_w
      rw [show Nat.beq mi1 9998 = false from ab_beqF (by omega), show Nat.beq mi1 9990 = false from ab_beqF (by omega), show Nat.beq mi1 9991 = false from ab_beqF (by omega), show Nat.beq mi1 9992 = false from ab_beqF (by omega), show Nat.beq mi1 9993 = false from ab_beqF (by omega), show Nat.beq mi1 9994 = false from ab_beqF (by omega)]
      simp only [cond_false, hP1]
      exact hw
    have hbx2 := hbx
    simp only [sd_bx, show (mi1 == 9998) = false from by simp; omega, show (mi1 == 9990) = false from by simp; omega, show (mi1 == 9991) = false from by simp; omega, show (mi1 == 9992) = false from by simp; omega, show (mi1 == 9993) = false from by simp; omega, show (mi1 == 9994) = false from by simp; omega, Bool.false_or, Bool.and_eq_true, Bool.or_eq_true, beq_iff_eq, hP1, decide_eq_true_eq] at hbx2
    obtain ⟨hbc, hc⟩ := hbx2
    obtain ⟨hd, hnx⟩ := sd_bd_spec hbd rfl
    subst hnx
    have hc8 : ((r1.map (sd_cv X)).map fun v => v.category).sum ≤ 8 := by rw [sd_cats]; exact Nat.le_of_ble_eq_true h8
    have hst : st.map (sd_cv X) = ((as' ++ []).map (sd_cv X)).reverse ++ r1.map (sd_cv X) := by rw [est, List.map_append, List.map_reverse, List.append_nil]
    have hM := sd_met (X := X) (l := l) hP1 he hJ
    rcases hc with hc | ⟨hc, hnest⟩
    · subst hc
      have hwe : ∀ w ∈ ([.methodLink y.cls n y1, .static y1, .initialized y1.cls, .code y1 cc1 ml1 rt1] : List Jvm.Cond), w ∈ gw := hwe
      have hcode := hwe (.code y1 cc1 ml1 rt1) (by simp)
      obtain ⟨g5, gmh, gsig, glo, gfr, gws⟩ := main hbc hcode
      exact sd_cont (va_runS (As := (as' ++ []).map (sd_cv X)) (rest := r1.map (sd_cv X)) (nL := ml) (Ts := gw) (own := y.cls) (rm := sd_rm d1 k1 s1) ⟨hx, hb, hml, hown, hts⟩ (hM g5) ⟨⟨rfl, rfl, gfr, glo, gws, List.mem_cons_self, hts _ hcode, hts _ (hwe _ (by simp)), gmh, gsig, hts _ (hwe _ (by simp))⟩, hts _ (hwe _ (by simp))⟩
        ⟨sd_blind, fun U hU hW => sd_pre hHp hCW hba hS hU hW⟩ rfl (by rw [List.length_map, List.append_nil]; exact hlen) hL2.1 hst (lv_room hc8) hd ⟨by omega, by omega⟩) hS (fun v' i' g' H1 locs1 hq1 hHp1 hn1 hS1 => by
        rw [sd_ml]
        exact k v' i' g' hq1 mi y cc ml rt hPm p e R s m args below meth c0 H1 locs1 (cells + k1) (slots + s1) lsA K1 K2 Qf hC hfr hlo (by omega) (by omega) hK1 hK2 (show s.heap.size + (cells + k1) = sd_ba X + ab_gn g' by omega) hHp1 hS1 hL2 hF)
    · subst hc
      have hwe : ∀ w ∈ ([.static y1, .initialized y1.cls, .code y1 cc1 ml1 rt1] : List Jvm.Cond), w ∈ gw := hwe
      have hcode := hwe (.code y1 cc1 ml1 rt1) (by simp)
      obtain ⟨g5, gmh, gsig, glo, gfr, gws⟩ := main hbc hcode
      exact sd_cont (va_runSN (As := (as' ++ []).map (sd_cv X)) (rest := r1.map (sd_cv X)) (nL := ml) (Ts := gw) (own := y.cls) (rm := sd_rm d1 k1 s1) ⟨hx, hb, hml, hown, hts⟩ (hM g5) ⟨⟨⟨rfl, rfl, gfr, glo, gws, List.mem_cons_self⟩, hts _ hcode, hts _ (hwe _ (by simp)), gmh, gsig, va_Nw.use rfl (hCW.2.2.2.2.2.1 _ hnest)⟩, hts _ (hwe _ (by simp)), trivial⟩
        ⟨sd_blind, fun U hU hW => sd_pre hHp hCW hba hS hU hW⟩ rfl (by rw [List.length_map, List.append_nil]; exact hlen) hL2.1 hst (lv_room hc8) hd ⟨by omega, by omega⟩) hS (fun v' i' g' H1 locs1 hq1 hHp1 hn1 hS1 => by
        rw [sd_ml]
        exact k v' i' g' hq1 mi y cc ml rt hPm p e R s m args below meth c0 H1 locs1 (cells + k1) (slots + s1) lsA K1 K2 Qf hC hfr hlo (by omega) (by omega) hK1 hK2 (show s.heap.size + (cells + k1) = sd_ba X + ab_gn g' by omega) hHp1 hS1 hL2 hF)
  · rename_i n
    cases h9 : Nat.ble 9000 a with
    | true => rw [h9] at h; cases h
    | false =>
    rw [h9] at h
    obtain ⟨as', r, est, hlen, h⟩ := sd_pop b st [] _ _ h
    split at h
    · rename_i q r'
      cases h8 : Nat.ble (ab_cat r') 8 with
      | false => rw [h8] at h; cases h
      | true =>
      rw [h8] at h
      cases h
      have hla := Nat.lt_of_not_le (fun z => absurd (Nat.ble_eq_true_of_le z) (by rw [h9]; decide) : ¬ 9000 ≤ mi1)
      have hwe : ∀ w ∈ ([.methodLink y.cls n y1, .instanceMethod y1, .initialized y1.cls, .code y1 cc1 ml1 rt1] : List Jvm.Cond), w ∈ gw := by
        intro w hw
        refine hwd w ?_
        unfold sd_w
        rw [show Nat.beq mi1 9999 = false from ab_beqF (by omega)]
        simp only [cond_false, hP1]
        exact hw
      have hbx2 := hbx
      simp only [sd_bx, show (mi1 == 9999) = false from by simp; omega, Bool.false_or, Bool.and_eq_true, hP1, decide_eq_true_eq] at hbx2
      obtain ⟨hbc, hyi, hrn⟩ := hbx2
      subst hrn
      obtain ⟨hd, hnx⟩ := sd_bd_spec hbd rfl
      subst hnx
      have hc8 : ((r1.map (sd_cv X)).map fun v => v.category).sum ≤ 8 := by rw [sd_cats]; exact Nat.le_of_ble_eq_true h8
      have hst : st.map (sd_cv X) = ((as' ++ []).map (sd_cv X)).reverse ++ .ref (sd_ad X q) :: r1.map (sd_cv X) := by rw [est, List.map_append, List.map_reverse, List.append_nil]; rfl
      have hM := sd_met (X := X) (l := l) hP1 he hJ
      have hcode := hwe (.code y1 cc1 ml1 none) (by simp)
      obtain ⟨g5, gmh, gsig, glo, gfr, gws⟩ := main hbc hcode
      exact sd_cont (va_runI (As := (as' ++ []).map (sd_cv X)) (b := sd_ad X q) (rest := r1.map (sd_cv X)) (nL := ml) (Ts := gw) (own := y.cls) (rm := sd_rm d1 k1 s1) ⟨hx, hb, hml, hown, hts⟩ (hM g5) ⟨⟨rfl, rfl, gfr, glo, gws, List.mem_cons_self, hts _ hcode, hts _ (hwe _ (by simp)), gmh, gsig, hts _ (hwe _ (by simp))⟩, hyi, hts _ (hwe _ (by simp))⟩
        ⟨sd_blind, fun U hU hW => sd_pre (as := .ref q :: (as' ++ [])) hHp hCW hba hS hU hW⟩ rfl (by rw [List.length_map, List.append_nil]; exact hlen) hL2.1 hst (lv_room hc8) hd ⟨by omega, by omega⟩) hS (fun v' i' g' H1 locs1 hq1 hHp1 hn1 hS1 => by
        rw [sd_ml]
        exact k v' i' g' hq1 mi y cc ml rt hPm p e R s m args below meth c0 H1 locs1 (cells + k1) (slots + s1) lsA K1 K2 Qf hC hfr hlo (by omega) (by omega) hK1 hK2 (show s.heap.size + (cells + k1) = sd_ba X + ab_gn g' by omega) hHp1 hS1 hL2 hF)
    · cases h
  · rename_i n
    obtain ⟨as', r, est, hlen, h⟩ := sd_pop b st [] _ _ h
    split at h
    · rename_i q r'
      cases h8 : Nat.ble (ab_cat r') 8 with
      | false => rw [h8] at h; cases h
      | true =>
      rw [h8] at h
      cases h
      have hwe : ∀ w ∈ ([.methodLink y.cls n y1, .instanceMethod y1, .selects y1.cls y1 y1, .initialized y1.cls, .code y1 cc1 ml1 rt1] : List Jvm.Cond), w ∈ gw := by
        intro w hw
        refine hwd w ?_
        unfold sd_w
        simp only [hP1]
        exact hw
      have hbx2 := hbx
      simp only [sd_bx, Bool.and_eq_true, Bool.or_eq_true, beq_iff_eq, hP1, decide_eq_true_eq] at hbx2
      obtain ⟨hbc, hrc⟩ := hbx2
      obtain ⟨hd, hnx⟩ := sd_bd_spec hbd rfl
      subst hnx
      have hc8 : ((r1.map (sd_cv X)).map fun v => v.category).sum ≤ 8 := by rw [sd_cats]; exact Nat.le_of_ble_eq_true h8
      have hst : st.map (sd_cv X) = ((as' ++ []).map (sd_cv X)).reverse ++ .ref (sd_ad X q) :: r1.map (sd_cv X) := by rw [est, List.map_append, List.map_reverse, List.append_nil]; rfl
      have hM := sd_met (X := X) (l := l) hP1 he hJ
      have hcode := hwe (.code y1 cc1 ml1 rt1) (by simp)
      obtain ⟨g5, gmh, gsig, glo, gfr, gws⟩ := main hbc hcode
      have hcell : ∃ cellB : Cell, H[sd_ad X q]? = some cellB ∧ cellB.vm.isStatics = false ∧ s.vm.findClass y1.cls = some cellB.cls := by
        rcases hrc with ⟨hc, hy1⟩ | ⟨hc, hy1⟩
        · subst hc
          have ho : 1000 ≤ q ∧ q < 1008 := ho
          obtain ⟨k0, hk0, e01, -⟩ := sd_t8 ho
          have e2 : sd_ad X q = sd_aS X k0 := by
            have := sd_cvS (X := X) hk0
            rw [← e01] at this
            exact Value.ref.inj this
          rw [e2, hy1]
          exact vk_recv hCW.2.2.2.1 hk0 hS
        · have ho : ab_gt g q = (c, 0) := by
            rw [show Nat.beq c 100 = false from ab_beqF (by omega)] at ho
            exact ho
          obtain ⟨hlt, hat⟩ := sd_obj (X := X) (i := i) hHp ho (show c < 100 by omega)
          rw [sd_adq hHp hlt, hy1]
          exact va_recv hCW.1 hHp.2.2.2.1 (sd_clq hc) hat
      exact sd_cont (va_runV (As := (as' ++ []).map (sd_cv X)) (b := sd_ad X q) (C := y1.cls) (rest := r1.map (sd_cv X)) (nL := ml) (Ts := gw) (own := y.cls) (rm := sd_rm d1 k1 s1) ⟨hx, hb, hml, hown, hts⟩ (hM g5) ⟨⟨rfl, rfl, gfr, glo, gws, List.mem_cons_self, hts _ hcode, hts _ (hwe _ (by simp)), gmh, gsig, hts _ (hwe _ (by simp))⟩, hts _ (hwe _ (by simp)), hts _ (hwe _ (by simp))⟩
        ⟨sd_blind, hcell, fun U hU hW => sd_pre (as := .ref q :: (as' ++ [])) hHp hCW hba hS hU hW⟩ rfl (by rw [List.length_map, List.append_nil]; exact hlen) hL2.1 hst (lv_room hc8) hd ⟨by omega, by omega⟩) hS (fun v' i' g' H1 locs1 hq1 hHp1 hn1 hS1 => by
        rw [sd_ml]
        exact k v' i' g' hq1 mi y cc ml rt hPm p e R s m args below meth c0 H1 locs1 (cells + k1) (slots + s1) lsA K1 K2 Qf hC hfr hlo (by omega) (by omega) hK1 hK2 (show s.heap.size + (cells + k1) = sd_ba X + ab_gn g' by omega) hHp1 hS1 hL2 hF)
    · cases h
  · cases h
/-- THE WHOLE: what holds of all runs of the abstract machine holds of the machine -/
theorem sd_closed (hV : sd_V) (X : sd_X) (l : Launch) : ab_Cl ab_P (sd_J X l) := by
  intro d kc ks c Q h
  rcases h with ⟨c', O, h1, h2, h3⟩ | ⟨c', O, u, w, kc', ks', h1, h2, h3, h4, h5⟩ | ⟨p, c1, c2, h1, h2, h3⟩ | ⟨c', h1, h2⟩ | ⟨v, O, h1, h2, hz1, hz2, h3⟩ | ⟨mi, as, O, T, pc, ls, r, d', k1, s1, k2, s2, e, Q1, h1, h2, h3, h4, h5, h6, h7, h8⟩
  · exact sd_stp hV h1 h2 h3
  · exact sd_alc hV h1 h2 h3 h4 h5
  · exact sd_brn hV h1 h2 h3
  · exact sd_swi hV h1 h2
  · subst hz1; subst hz2
    exact sd_rtn hV h1 h2 h3
  · exact sd_cal hV h1 h2 h3 h4 h5 h6 h7 h8
theorem sd_ok (hV : sd_V) {X : sd_X} {l : Launch} {d kc ks : Nat} {c : ab_C} {Q : ab_Q} (h : ab_Ok ab_P d kc ks c Q) : sd_J X l d kc ks c Q := h _ (sd_closed hV X l)
