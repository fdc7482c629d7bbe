/-! THE CLAIM OUT OF ONE WALK OF THE LAW'S BODY. Your part is whole_start (and what it stands on); all else here is the same for every law, but numbers. -/
def R_law : String := "VotedWaterLaw"
def lw_P (b : Addr) (xs : List Int32) (args : Array Value) (s : State) : Prop := args = #[.ref b] ∧ s.IntsAt b xs ∧ xs.length ≤ 384 ∧ (Jvm.Cond.and given_1 narrow_1).before args s = true
def lw_Q (_ : Array Value) (s : State) (o : Outcome) (t : State) : Prop := o = .returned (some (.int 1)) ∧ Framed s o t [] 600000 7302250
def lw_Z (below : List Frame) (a : Array Value) (s : State) : State → Prop := fun t => ∃ o, t.status = .running ∧ Ended t below o ∧ lw_Q a s o t
/-- the law's own end, with 1 on the stack, nothing written that was there before, its room as the claim has it -/
theorem lw_ret {p : Program} {l : Launch} {e : Jvm.Env} {s : State} {m : MethodId} {below : List Frame} {meth : Method} {c : Code} {b : Nat} (hx : p.tables.exec = Jvm.exec) (hb : c.code = code) (hr : meth.sig.returnType = ret) (hlocks : meth.locks = false) {pc : Nat} {H : Heap} {ls : Array Slot} (hdg : decode code pc = .ok (.ireturn, 1)) : W p l e room_1 s m #[Value.ref b] below meth c H [] 600000 7302250 (lw_Z below #[Value.ref b] s) (F0 m pc ls [.int 1]) := by
  intro T hT X
  obtain ⟨fs, hret, hrun, hended, hW, hframe⟩ := X.leave (v := some (.int 1)) (hlocks := hlocks) (fun h => by rw [hr] at h; cases h)
  have hmeth' : T.vm.method? m = some meth := X.method'
  refine ⟨T.setFrames fs, ?_, .returned (some (.int 1)), hrun, hended, rfl, ⟨_, rfl⟩, hW, hframe⟩
  jvm_step X.here [X.here.top, hx, hb, hdg, hmeth', hr, ret, narrow_b1]
  (try refine ⟨rfl, ?_⟩); (try refine ⟨rfl, ?_⟩)
  first | (intro acts; rw [hret _ acts rfl rfl rfl]) | rw [hret _ _ rfl rfl rfl]
  exact Steps.refl _
/-- what holds at the law's entry: the machine, the code, the tables' words (any of lw_tbl by 'hts w (by decide +kernel)'), the script of L ints xs at the cell b, what the Statement gives of the start (any of its parts by flat_of_before) -/
def lw_At (p : Program) (s : State) (m : MethodId) (meth : Method) (c : Code) (b L : Nat) (xs : Nat → Int32) : Prop :=
  p.tables.exec = Jvm.exec ∧ c.code = code ∧ meth.sig.returnType = ret ∧ c.maxLocals = 4 ∧ s.vm.findClass R_law = some m.cls ∧ (∀ w ∈ lw_tbl, w.before #[Value.ref b] s = true) ∧ va_X b L xs s s.heap ∧ b < s.heap.size ∧ meth.locks = false ∧ (Jvm.Cond.and given_1 narrow_1).before #[Value.ref b] s = true
theorem tb_m {w : Cond} (h : w ∈ tables_1) : w ∈ lw_tbl := List.mem_append_right _ h
def tx_tm (k : Nat) : Term := match k with
  | 0 => .string "VotedWater$Reader" 23
  | 1 => .string "VotedWater$Law" 24
  | 2 => .string "VotedWater$Law" 26
  | 3 => .string "VotedWater$Reader" 79
  | 4 => .string "VotedWater$Reader" 81
  | 5 => .string "VotedWater$Reader" 83
  | 6 => .string "VotedWater$Reader" 85
  | _ => .string "VotedWater$Reader" 87
theorem tx_all {s : State} {b : Nat} (hts : ∀ w ∈ lw_tbl, w.before #[Value.ref b] s = true) (hgv : (Jvm.Cond.and given_1 narrow_1).before #[Value.ref b] s = true) : ∃ adK adV : Nat → Nat, vk_S 8 sd_ln sd_by adK adV (fun q : Nat => s.heap.size ≤ q) s s.heap ∧ ∀ i : Nat, i < 8 → (tx_tm i).eval #[Value.ref b] s none [] s = some (.ref (adK i)) := by
  have hs := flat_of_before _ hgv
  refine vk_Sof (tm := tx_tm) ?_ ?_ ?_ ?_ ?_ ?_ ?_ (fun a ha => Nat.not_le.mpr ha)
  · intro i hi
    have : ∀ i, i < 8 → sd_ln.getD i 0 < 2 ^ 31 := by decide
    exact this i hi
  · intro i hi
    match i, hi with
    | 0, _ => exact hs _ (List.mem_of_getElem? (i := 57) (by decide +kernel))
    | 1, _ => exact hs _ (List.mem_of_getElem? (i := 61) (by decide +kernel))
    | 2, _ => exact hs _ (List.mem_of_getElem? (i := 71) (by decide +kernel))
    | 3, _ => exact hs _ (List.mem_of_getElem? (i := 80) (by decide +kernel))
    | 4, _ => exact hs _ (List.mem_of_getElem? (i := 88) (by decide +kernel))
    | 5, _ => exact hs _ (List.mem_of_getElem? (i := 97) (by decide +kernel))
    | 6, _ => exact hs _ (List.mem_of_getElem? (i := 109) (by decide +kernel))
    | 7, _ => exact hs _ (List.mem_of_getElem? (i := 121) (by decide +kernel))
    | i + 8, hi => exact absurd hi (by omega)
  · intro i hi
    match i, hi with
    | 0, _ => exact hs _ (List.mem_of_getElem? (i := 58) (by decide +kernel))
    | 1, _ => exact hs _ (List.mem_of_getElem? (i := 62) (by decide +kernel))
    | 2, _ => exact hs _ (List.mem_of_getElem? (i := 72) (by decide +kernel))
    | 3, _ => exact hs _ (List.mem_of_getElem? (i := 81) (by decide +kernel))
    | 4, _ => exact hs _ (List.mem_of_getElem? (i := 89) (by decide +kernel))
    | 5, _ => exact hs _ (List.mem_of_getElem? (i := 98) (by decide +kernel))
    | 6, _ => exact hs _ (List.mem_of_getElem? (i := 110) (by decide +kernel))
    | 7, _ => exact hs _ (List.mem_of_getElem? (i := 122) (by decide +kernel))
    | i + 8, hi => exact absurd hi (by omega)
  · intro i hi
    match i, hi with
    | 0, _ => exact hs _ (List.mem_of_getElem? (i := 59) (by decide +kernel))
    | 1, _ => exact hs _ (List.mem_of_getElem? (i := 63) (by decide +kernel))
    | 2, _ => exact hs _ (List.mem_of_getElem? (i := 73) (by decide +kernel))
    | 3, _ => exact hs _ (List.mem_of_getElem? (i := 82) (by decide +kernel))
    | 4, _ => exact hs _ (List.mem_of_getElem? (i := 90) (by decide +kernel))
    | 5, _ => exact hs _ (List.mem_of_getElem? (i := 99) (by decide +kernel))
    | 6, _ => exact hs _ (List.mem_of_getElem? (i := 111) (by decide +kernel))
    | 7, _ => exact hs _ (List.mem_of_getElem? (i := 123) (by decide +kernel))
    | i + 8, hi => exact absurd hi (by omega)
  · intro i hi
    match i, hi with
    | 0, _ => exact hs _ (List.mem_of_getElem? (i := 60) (by decide +kernel))
    | 1, _ => exact hs _ (List.mem_of_getElem? (i := 64) (by decide +kernel))
    | 2, _ => exact hs _ (List.mem_of_getElem? (i := 74) (by decide +kernel))
    | 3, _ => exact hs _ (List.mem_of_getElem? (i := 83) (by decide +kernel))
    | 4, _ => exact hs _ (List.mem_of_getElem? (i := 91) (by decide +kernel))
    | 5, _ => exact hs _ (List.mem_of_getElem? (i := 100) (by decide +kernel))
    | 6, _ => exact hs _ (List.mem_of_getElem? (i := 112) (by decide +kernel))
    | 7, _ => exact hs _ (List.mem_of_getElem? (i := 124) (by decide +kernel))
    | i + 8, hi => exact absurd hi (by omega)
  · intro i hi j hj
    match i, hi, j, hj with
    | 0, _, j + 0, hj => exact absurd hj (by show ¬ j + 0 < 0; omega)
    | 1, _, 0, _ => exact hs _ (List.mem_of_getElem? (i := 65) (by decide +kernel))
    | 1, _, 1, _ => exact hs _ (List.mem_of_getElem? (i := 66) (by decide +kernel))
    | 1, _, 2, _ => exact hs _ (List.mem_of_getElem? (i := 67) (by decide +kernel))
    | 1, _, 3, _ => exact hs _ (List.mem_of_getElem? (i := 68) (by decide +kernel))
    | 1, _, 4, _ => exact hs _ (List.mem_of_getElem? (i := 69) (by decide +kernel))
    | 1, _, j + 5, hj => exact absurd hj (by show ¬ j + 5 < 5; omega)
    | 2, _, 0, _ => exact hs _ (List.mem_of_getElem? (i := 75) (by decide +kernel))
    | 2, _, 1, _ => exact hs _ (List.mem_of_getElem? (i := 76) (by decide +kernel))
    | 2, _, 2, _ => exact hs _ (List.mem_of_getElem? (i := 77) (by decide +kernel))
    | 2, _, j + 3, hj => exact absurd hj (by show ¬ j + 3 < 3; omega)
    | 3, _, 0, _ => exact hs _ (List.mem_of_getElem? (i := 84) (by decide +kernel))
    | 3, _, j + 1, hj => exact absurd hj (by show ¬ j + 1 < 1; omega)
    | 4, _, 0, _ => exact hs _ (List.mem_of_getElem? (i := 92) (by decide +kernel))
    | 4, _, j + 1, hj => exact absurd hj (by show ¬ j + 1 < 1; omega)
    | 5, _, 0, _ => exact hs _ (List.mem_of_getElem? (i := 101) (by decide +kernel))
    | 5, _, 1, _ => exact hs _ (List.mem_of_getElem? (i := 102) (by decide +kernel))
    | 5, _, 2, _ => exact hs _ (List.mem_of_getElem? (i := 103) (by decide +kernel))
    | 5, _, j + 3, hj => exact absurd hj (by show ¬ j + 3 < 3; omega)
    | 6, _, 0, _ => exact hs _ (List.mem_of_getElem? (i := 113) (by decide +kernel))
    | 6, _, 1, _ => exact hs _ (List.mem_of_getElem? (i := 114) (by decide +kernel))
    | 6, _, j + 2, hj => exact absurd hj (by show ¬ j + 2 < 2; omega)
    | 7, _, 0, _ => exact hs _ (List.mem_of_getElem? (i := 125) (by decide +kernel))
    | 7, _, 1, _ => exact hs _ (List.mem_of_getElem? (i := 126) (by decide +kernel))
    | 7, _, 2, _ => exact hs _ (List.mem_of_getElem? (i := 127) (by decide +kernel))
    | 7, _, j + 3, hj => exact absurd hj (by show ¬ j + 3 < 3; omega)
    | i + 8, hi, _, _ => exact absurd hi (by omega)
  · intro i j hi hj hij
    match i, hi, j, hj with
    | 0, _, 0, _ => exact absurd rfl hij
    | 0, _, 1, _ => exact Or.inl (hs _ (List.mem_of_getElem? (i := 70) (by decide +kernel)))
    | 0, _, 2, _ => exact Or.inl (hs _ (List.mem_of_getElem? (i := 78) (by decide +kernel)))
    | 0, _, 3, _ => exact Or.inl (hs _ (List.mem_of_getElem? (i := 85) (by decide +kernel)))
    | 0, _, 4, _ => exact Or.inl (hs _ (List.mem_of_getElem? (i := 93) (by decide +kernel)))
    | 0, _, 5, _ => exact Or.inl (hs _ (List.mem_of_getElem? (i := 104) (by decide +kernel)))
    | 0, _, 6, _ => exact Or.inl (hs _ (List.mem_of_getElem? (i := 115) (by decide +kernel)))
    | 0, _, 7, _ => exact Or.inl (hs _ (List.mem_of_getElem? (i := 128) (by decide +kernel)))
    | 0, _, j + 8, hj => exact absurd hj (by omega)
    | 1, _, 0, _ => exact Or.inr (hs _ (List.mem_of_getElem? (i := 70) (by decide +kernel)))
    | 1, _, 1, _ => exact absurd rfl hij
    | 1, _, 2, _ => exact Or.inl (hs _ (List.mem_of_getElem? (i := 79) (by decide +kernel)))
    | 1, _, 3, _ => exact Or.inl (hs _ (List.mem_of_getElem? (i := 86) (by decide +kernel)))
    | 1, _, 4, _ => exact Or.inl (hs _ (List.mem_of_getElem? (i := 94) (by decide +kernel)))
    | 1, _, 5, _ => exact Or.inl (hs _ (List.mem_of_getElem? (i := 105) (by decide +kernel)))
    | 1, _, 6, _ => exact Or.inl (hs _ (List.mem_of_getElem? (i := 116) (by decide +kernel)))
    | 1, _, 7, _ => exact Or.inl (hs _ (List.mem_of_getElem? (i := 129) (by decide +kernel)))
    | 1, _, j + 8, hj => exact absurd hj (by omega)
    | 2, _, 0, _ => exact Or.inr (hs _ (List.mem_of_getElem? (i := 78) (by decide +kernel)))
    | 2, _, 1, _ => exact Or.inr (hs _ (List.mem_of_getElem? (i := 79) (by decide +kernel)))
    | 2, _, 2, _ => exact absurd rfl hij
    | 2, _, 3, _ => exact Or.inl (hs _ (List.mem_of_getElem? (i := 87) (by decide +kernel)))
    | 2, _, 4, _ => exact Or.inl (hs _ (List.mem_of_getElem? (i := 95) (by decide +kernel)))
    | 2, _, 5, _ => exact Or.inl (hs _ (List.mem_of_getElem? (i := 106) (by decide +kernel)))
    | 2, _, 6, _ => exact Or.inl (hs _ (List.mem_of_getElem? (i := 117) (by decide +kernel)))
    | 2, _, 7, _ => exact Or.inl (hs _ (List.mem_of_getElem? (i := 130) (by decide +kernel)))
    | 2, _, j + 8, hj => exact absurd hj (by omega)
    | 3, _, 0, _ => exact Or.inr (hs _ (List.mem_of_getElem? (i := 85) (by decide +kernel)))
    | 3, _, 1, _ => exact Or.inr (hs _ (List.mem_of_getElem? (i := 86) (by decide +kernel)))
    | 3, _, 2, _ => exact Or.inr (hs _ (List.mem_of_getElem? (i := 87) (by decide +kernel)))
    | 3, _, 3, _ => exact absurd rfl hij
    | 3, _, 4, _ => exact Or.inl (hs _ (List.mem_of_getElem? (i := 96) (by decide +kernel)))
    | 3, _, 5, _ => exact Or.inl (hs _ (List.mem_of_getElem? (i := 107) (by decide +kernel)))
    | 3, _, 6, _ => exact Or.inl (hs _ (List.mem_of_getElem? (i := 118) (by decide +kernel)))
    | 3, _, 7, _ => exact Or.inl (hs _ (List.mem_of_getElem? (i := 131) (by decide +kernel)))
    | 3, _, j + 8, hj => exact absurd hj (by omega)
    | 4, _, 0, _ => exact Or.inr (hs _ (List.mem_of_getElem? (i := 93) (by decide +kernel)))
    | 4, _, 1, _ => exact Or.inr (hs _ (List.mem_of_getElem? (i := 94) (by decide +kernel)))
    | 4, _, 2, _ => exact Or.inr (hs _ (List.mem_of_getElem? (i := 95) (by decide +kernel)))
    | 4, _, 3, _ => exact Or.inr (hs _ (List.mem_of_getElem? (i := 96) (by decide +kernel)))
    | 4, _, 4, _ => exact absurd rfl hij
    | 4, _, 5, _ => exact Or.inl (hs _ (List.mem_of_getElem? (i := 108) (by decide +kernel)))
    | 4, _, 6, _ => exact Or.inl (hs _ (List.mem_of_getElem? (i := 119) (by decide +kernel)))
    | 4, _, 7, _ => exact Or.inl (hs _ (List.mem_of_getElem? (i := 132) (by decide +kernel)))
    | 4, _, j + 8, hj => exact absurd hj (by omega)
    | 5, _, 0, _ => exact Or.inr (hs _ (List.mem_of_getElem? (i := 104) (by decide +kernel)))
    | 5, _, 1, _ => exact Or.inr (hs _ (List.mem_of_getElem? (i := 105) (by decide +kernel)))
    | 5, _, 2, _ => exact Or.inr (hs _ (List.mem_of_getElem? (i := 106) (by decide +kernel)))
    | 5, _, 3, _ => exact Or.inr (hs _ (List.mem_of_getElem? (i := 107) (by decide +kernel)))
    | 5, _, 4, _ => exact Or.inr (hs _ (List.mem_of_getElem? (i := 108) (by decide +kernel)))
    | 5, _, 5, _ => exact absurd rfl hij
    | 5, _, 6, _ => exact Or.inl (hs _ (List.mem_of_getElem? (i := 120) (by decide +kernel)))
    | 5, _, 7, _ => exact Or.inl (hs _ (List.mem_of_getElem? (i := 133) (by decide +kernel)))
    | 5, _, j + 8, hj => exact absurd hj (by omega)
    | 6, _, 0, _ => exact Or.inr (hs _ (List.mem_of_getElem? (i := 115) (by decide +kernel)))
    | 6, _, 1, _ => exact Or.inr (hs _ (List.mem_of_getElem? (i := 116) (by decide +kernel)))
    | 6, _, 2, _ => exact Or.inr (hs _ (List.mem_of_getElem? (i := 117) (by decide +kernel)))
    | 6, _, 3, _ => exact Or.inr (hs _ (List.mem_of_getElem? (i := 118) (by decide +kernel)))
    | 6, _, 4, _ => exact Or.inr (hs _ (List.mem_of_getElem? (i := 119) (by decide +kernel)))
    | 6, _, 5, _ => exact Or.inr (hs _ (List.mem_of_getElem? (i := 120) (by decide +kernel)))
    | 6, _, 6, _ => exact absurd rfl hij
    | 6, _, 7, _ => exact Or.inl (hs _ (List.mem_of_getElem? (i := 134) (by decide +kernel)))
    | 6, _, j + 8, hj => exact absurd hj (by omega)
    | 7, _, 0, _ => exact Or.inr (hs _ (List.mem_of_getElem? (i := 128) (by decide +kernel)))
    | 7, _, 1, _ => exact Or.inr (hs _ (List.mem_of_getElem? (i := 129) (by decide +kernel)))
    | 7, _, 2, _ => exact Or.inr (hs _ (List.mem_of_getElem? (i := 130) (by decide +kernel)))
    | 7, _, 3, _ => exact Or.inr (hs _ (List.mem_of_getElem? (i := 131) (by decide +kernel)))
    | 7, _, 4, _ => exact Or.inr (hs _ (List.mem_of_getElem? (i := 132) (by decide +kernel)))
    | 7, _, 5, _ => exact Or.inr (hs _ (List.mem_of_getElem? (i := 133) (by decide +kernel)))
    | 7, _, 6, _ => exact Or.inr (hs _ (List.mem_of_getElem? (i := 134) (by decide +kernel)))
    | 7, _, 7, _ => exact absurd rfl hij
    | 7, _, j + 8, hj => exact absurd hj (by omega)
    | i + 8, hi, _, _ => exact absurd hi (by omega)
theorem ar_I {s : State} {args : Array Value} (h : (Cond.arrayClass .int).before args s = true) : ∃ cA : ClassId, ArrOfT s cA .int ∧ va_RA s cA .int := by
  obtain ⟨c, k, comp, h1, h2, h3⟩ := Cond.arrayClass_spec h
  exact ⟨c, fun n z => ⟨fun k h => (by cases h), k, h2, comp, h3⟩, h1⟩
theorem ar_O {s : State} {args : Array Value} {C : String} (h : (Cond.arrayOver (.object C)).before args s = true) : ∃ cA : ClassId, ArrOfT s cA (.object C) ∧ va_RA s cA (.object C) := by
  obtain ⟨comp, c, k, h1, h2, h3, h4, h5⟩ := Cond.arrayOver_spec h
  exact ⟨c, fun n z => ⟨fun k h => (by cases h), k, h3, comp, h4⟩, k, comp, h3, h4, h1, h5⟩
def g_i0 (xs : Nat → Int32) (L : Nat) : ab_I := fun q j => if q = 1200 then xs j else if q = 1201 then nI L else 0
theorem law_CW {s : State} {b L : Nat} {xs : Nat → Int32} (hts : ∀ w ∈ lw_tbl, w.before #[Value.ref b] s = true) (hX : va_X b L xs s s.heap) (hbl : b < s.heap.size) (hgv : (Jvm.Cond.and given_1 narrow_1).before #[Value.ref b] s = true) : ∃ X : sd_X, sd_CW X s ∧ sd_ba X = s.heap.size ∧ sd_sb X = b ∧ sd_sl X = L ∧ sd_xs X = xs := by
  have hs := flat_of_before _ hgv
  obtain ⟨aS, aB, hS, hE⟩ := tx_all hts hgv
  obtain ⟨cI, hI⟩ := ar_I (hts _ (tb_m (List.mem_of_getElem? (i := 179) (by decide +kernel))))
  obtain ⟨c0, h0⟩ := ar_O (C := "VotedWater$Basin") (hts _ (tb_m (List.mem_of_getElem? (i := 43) (by decide +kernel))))
  obtain ⟨c1, h1⟩ := ar_O (C := "VotedWater$Door") (hts _ (tb_m (List.mem_of_getElem? (i := 79) (by decide +kernel))))
  obtain ⟨c8, h8⟩ := ar_O (C := "VotedWater$Town") (hts _ (tb_m (List.mem_of_getElem? (i := 244) (by decide +kernel))))
  obtain ⟨c6, h6⟩ := ar_O (C := "VotedWater$Sheet") (hts _ (tb_m (List.mem_of_getElem? (i := 294) (by decide +kernel))))
  have hk : ∀ c, c < 12 → ∃ (cC : ClassId) (iS : Nat → Nat), u_Kn s (sd_cl c).1 (sd_cl c).2.1 (sd_cl c).2.2 cC iS := by
    intro c hc
    have hi : (Cond.instantiable (sd_cl c).1 (sd_cl c).2.2).before #[Value.ref b] s = true := by
      match c, hc with
      | 0, _ => exact hts _ (tb_m (List.mem_of_getElem? (i := 44) (by decide +kernel)))
      | 1, _ => exact hts _ (tb_m (List.mem_of_getElem? (i := 80) (by decide +kernel)))
      | 2, _ => exact hts _ (tb_m (List.mem_of_getElem? (i := 156) (by decide +kernel)))
      | 3, _ => exact hts _ (tb_m (List.mem_of_getElem? (i := 238) (by decide +kernel)))
      | 4, _ => exact hts _ (tb_m (List.mem_of_getElem? (i := 211) (by decide +kernel)))
      | 5, _ => exact hts _ (tb_m (List.mem_of_getElem? (i := 162) (by decide +kernel)))
      | 6, _ => exact hts _ (tb_m (List.mem_of_getElem? (i := 295) (by decide +kernel)))
      | 7, _ => exact hts _ (tb_m (List.mem_of_getElem? (i := 268) (by decide +kernel)))
      | 8, _ => exact hts _ (tb_m (List.mem_of_getElem? (i := 37) (by decide +kernel)))
      | 9, _ => exact hts _ (tb_m (List.mem_of_getElem? (i := 31) (by decide +kernel)))
      | 10, _ => exact hts _ (tb_m (List.mem_of_getElem? (i := 23) (by decide +kernel)))
      | 11, _ => exact hts _ (tb_m (List.mem_of_getElem? (i := 1024) (by decide +kernel)))
      | c + 12, hc => exact absurd hc (by omega)
    exact u_known hts (fun w hw => (List.mem_filter.mp (sd_hin c hc w hw)).1) hi
  have hk2 : ∀ c : Nat, ∃ q : ClassId × (Nat → Nat), c < 12 → u_Kn s (sd_cl c).1 (sd_cl c).2.1 (sd_cl c).2.2 q.1 q.2 := by
    intro c
    by_cases hc : c < 12
    · obtain ⟨cC, iS, h⟩ := hk c hc
      exact ⟨(cC, iS), fun _ => h⟩
    · exact ⟨(cI, fun _ => 0), fun h => absurd h hc⟩
  obtain ⟨dd, hdd⟩ := Classical.axiomOfChoice hk2
  refine ⟨((fun c => (dd c).1, fun c => (dd c).2), cI, (fun c => if c = 0 then c0 else if c = 1 then c1 else if c = 8 then c8 else c6), s.heap.size, aS, aB, b, L, xs), ⟨⟨?_, ?_⟩, ?_, ?_, hS, ?_, ?_, hX, hbl, Nat.not_le.mpr hbl⟩, rfl, rfl, rfl, rfl⟩
  · intro c q hq
    have hc : c < 12 := (List.getElem?_eq_some_iff.mp hq).1
    rw [sd_clq hc] at hq
    cases hq
    exact hdd c hc
  · intro k q hq
    match k, hq with
    | 0, hq => cases hq; exact hI
    | 1, hq => cases hq; exact h0
    | 2, hq => cases hq; exact h1
    | 3, hq => cases hq; exact h8
    | 4, hq => cases hq; exact h6
    | k + 5, hq => simp [sd_tys] at hq
  · intro C hC
    simp only [List.mem_cons, List.not_mem_nil, or_false] at hC
    rcases hC with rfl | rfl | rfl | rfl
    · exact va_AO.of (A := #[Value.ref b]) (hts _ (tb_m (List.mem_of_getElem? (i := 43) (by decide +kernel))))
    · exact va_AO.of (A := #[Value.ref b]) (hts _ (tb_m (List.mem_of_getElem? (i := 79) (by decide +kernel))))
    · exact va_AO.of (A := #[Value.ref b]) (hts _ (tb_m (List.mem_of_getElem? (i := 244) (by decide +kernel))))
    · exact va_AO.of (A := #[Value.ref b]) (hts _ (tb_m (List.mem_of_getElem? (i := 294) (by decide +kernel))))
  · intro q hq
    unfold sd_tx at hq
    simp only [List.mem_cons, List.not_mem_nil, or_false] at hq
    rcases hq with rfl | rfl | rfl | rfl | rfl | rfl | rfl | rfl
    · exact vk_R.of (A := #[Value.ref b]) (hts _ (tb_m (List.mem_of_getElem? (i := 546) (by decide +kernel)))) (hE 1 (by decide))
    · exact vk_R.of (A := #[Value.ref b]) (hts _ (tb_m (List.mem_of_getElem? (i := 547) (by decide +kernel)))) (hE 2 (by decide))
    · exact vk_R.of (A := #[Value.ref b]) (hts _ (tb_m (List.mem_of_getElem? (i := 218) (by decide +kernel)))) (hE 0 (by decide))
    · exact vk_R.of (A := #[Value.ref b]) (hts _ (tb_m (List.mem_of_getElem? (i := 654) (by decide +kernel)))) (hE 3 (by decide))
    · exact vk_R.of (A := #[Value.ref b]) (hts _ (tb_m (List.mem_of_getElem? (i := 655) (by decide +kernel)))) (hE 4 (by decide))
    · exact vk_R.of (A := #[Value.ref b]) (hts _ (tb_m (List.mem_of_getElem? (i := 656) (by decide +kernel)))) (hE 5 (by decide))
    · exact vk_R.of (A := #[Value.ref b]) (hts _ (tb_m (List.mem_of_getElem? (i := 657) (by decide +kernel)))) (hE 6 (by decide))
    · exact vk_R.of (A := #[Value.ref b]) (hts _ (tb_m (List.mem_of_getElem? (i := 658) (by decide +kernel)))) (hE 7 (by decide))
  · exact va_Zof (args := #[Value.ref b]) (hts _ (tb_m (List.mem_of_getElem? (i := 582) (by decide +kernel)))) (hts _ (tb_m (List.mem_of_getElem? (i := 16) (by decide +kernel)))) (va_eqi (hs _ (List.mem_of_getElem? (i := 4) (by decide +kernel)))) (fun a ha => Nat.not_le.mpr ha)
  · intro w hw
    unfold sd_nl at hw
    simp only [List.mem_cons, List.not_mem_nil, or_false] at hw
    rcases hw with rfl | rfl | rfl | rfl
    · exact va_Nw.of rfl (A := #[Value.ref b]) (hts _ (tb_m (List.mem_of_getElem? (i := 395) (by decide +kernel))))
    · exact va_Nw.of rfl (A := #[Value.ref b]) (hts _ (tb_m (List.mem_of_getElem? (i := 448) (by decide +kernel))))
    · exact va_Nw.of rfl (A := #[Value.ref b]) (hts _ (tb_m (List.mem_of_getElem? (i := 510) (by decide +kernel))))
    · exact va_Nw.of rfl (A := #[Value.ref b]) (hts _ (tb_m (List.mem_of_getElem? (i := 793) (by decide +kernel))))
set_option maxHeartbeats 4000000 in
set_option maxRecDepth 100000 in
/-- from the entry, for every script of at most 384 ints, the law comes to its end with true -/
theorem whole_start {p : Program} {e : Jvm.Env} {s : State} {m : MethodId} {below : List Frame} {meth : Method} {c : Code} (l : Launch) {b L : Nat} {xs : Nat → Int32} (hL : L ≤ 384) (C0 : lw_At p s m meth c b L xs) (hn : meth.name = "law") : W p l e room_1 s m #[Value.ref b] below meth c s.heap [] 0 0 (lw_Z below #[Value.ref b] s) (entryFrame m ([Value.ref b] : List Value).toArray 4) := by
  obtain ⟨hx, hb, hr, hml, hown, hts, hX, hbl, hlocks, hgv⟩ := id C0
  obtain ⟨X, hCW, x1, x2, x3, x4⟩ := law_CW hts hX hbl hgv
  rw [lg_entry_eq]
  have hl := lv_entry ([.ref b]) (n := 4) (Nat.le_of_ble_eq_true rfl)
  generalize (lg_sl ([.ref b]) ++ List.replicate (4 - (lg_sl ([.ref b])).length) Slot.unset).toArray = ls at hl ⊢
  have hl : lv_has ls 4 [(0, .ref b)] := hl
  have hcv : sd_cv X (.ref 1200) = .ref b := by
    show Value.ref (sd_ad X 1200) = _
    unfold sd_ad
    rw [if_neg (by omega), if_neg (by omega), if_neg (by omega), x2]
  have hLL : sd_L X ls 4 [some (.ref 1200), none, none, none] := by
    refine ⟨hl.1, hl.2.1, rfl, fun j v hj => ?_⟩
    match j, hj with
    | 0, hj =>
      cases hj
      rw [hcv]
      exact lv_at hl 0 rfl
    | 1, hj => cases hj
    | 2, hj => cases hj
    | 3, hj => cases hj
    | j + 4, hj => cases hj
  have hHp : sd_Hp X (g_i0 xs L) (y_sx (fun _ _ => 0) 0) s.heap := by
    refine ⟨x1.symm, by decide, fun q _ => ?_, ?_, fun j => ?_, ?_, ?_⟩
    · show 9000 ≤ (y_tg 0 q).1
      unfold y_tg
      rw [if_neg (by omega)]
      decide
    · intro k q hq
      cases hq
    · rw [x4]
      exact if_pos rfl
    · rw [x3]
      rfl
    · rw [x3]
      omega
  have hok := sd_ok vd_V (X := X) (l := l) (law_run (i := g_i0 xs L) hL rfl)
  refine hok 249 yL_law cL_law 4 (some .boolean) rfl p e room_1 s m #[Value.ref b] below meth c s.heap [] 0 0 ls 232 4260 (lw_Z below #[Value.ref b] s) ⟨hx, hb, hml, hown, fun w hw => hts w (List.mem_filter.mp hw).1, hn, hCW, Nat.le_of_eq x1⟩ (by decide) (by decide) rfl rfl (by decide) (by decide) (x1.symm.trans rfl) hHp va_S.rf hLL ?_
  intro H' locs' ls' pc' v i' g' hq hex hHp' hS' hrt
  obtain ⟨rfl, -⟩ := hq
  rcases hrt with ⟨h, -⟩ | ⟨x, ty, h, -, -, hd⟩ | ⟨x, h, -⟩ | ⟨q, n, h, -⟩
  · cases h
  · refine va_forget (fun q hq => ?_) ?_
    · have := hS'.2.2 q hq
      unfold sd_A at this
      rw [x1] at this
      exact this
    · refine W.widen (k := 600000) (n := 7302250) (by decide) (by decide) ?_
      exact lw_ret hx hb hr hlocks hd
  · cases h
  · cases h
set_option maxHeartbeats 4000000 in
theorem lw_walk (l : Launch) (hflags : l.flags = flags0) (b : Addr) (xs : List Int32) : MetFree l x (headSpec (Jvm.Cond.code x code maxLocals ret :: tables_1) room_1) (lw_P b xs) (fun _ _ _ _ _ => True) lw_Q := by
  refine MetFree.of_bodyS (code := code) (maxLocals := maxLocals) (ret := ret) (by decide) ?_ ?_
  · intro args s m h hn
    obtain ⟨meth, c, h1, h2, h3, h4, h5, h6, -, -⟩ := Cond.code_spec hn (atoms_spec (ws := Jvm.Cond.code x code maxLocals ret :: tables_1) h _ List.mem_cons_self)
    exact ⟨meth, c, h1, h2, h3, h4, h5, h6⟩
  · intro p e s m args below meth c s₁ B hml0 hP _
    obtain ⟨rfl, hx, hbd, hgv⟩ := hP
    obtain ⟨scr, harrAt, hlist, hof, hsmall⟩ := hx
    obtain ⟨hcb, hkn, -, -⟩ := State.arrayAt?_spec harrAt
    have hown : s.vm.findClass R_law = some m.cls := findClass_of_methodNamed B.named
    have hts0 : ∀ c ∈ (Jvm.Cond.code x code maxLocals ret :: tables_1), c.before #[Value.ref b] s = true := atoms_spec (ws := Jvm.Cond.code x code maxLocals ret :: tables_1) B.pre
    have hts : ∀ w ∈ lw_tbl, w.before #[Value.ref b] s = true := k2_hts_sels lw_privs (fun w hw => hts0 w (List.mem_cons_of_mem _ hw)) lw_privs_ok
    have hml : c.maxLocals = 4 := B.maxLocals_eq (hts0 _ List.mem_cons_self)
    have X₀ : Stand p l e room_1 s m #[Value.ref b] below meth c s₁ [] 0 0 := Stand.of_body B
    have hh0 : s₁.heap = s.heap := by rw [B.state]; rfl
    have hsz : scr.slots.size = xs.length := by rw [← Array.length_toList, hlist, List.length_map]
    have hval : ∀ j : Nat, j < xs.length → scr.slots[j]? = some (.int (xs.getD j 0)) := fun j hj => by
      rw [← Array.getElem?_toList, hlist]
      simp [hj]
    have hbl : b < s.heap.size := (Array.getElem?_eq_some_iff.mp hcb).1
    have hX : va_X b xs.length (fun j => xs.getD j 0) s s.heap := ⟨scr, hcb, hof, hkn, hsz, hval⟩
    have K : W p l e room_1 s m #[Value.ref b] below meth c s₁.heap [] 0 0 (lw_Z below #[Value.ref b] s) (entryFrame m ([Value.ref b] : List Value).toArray 4) := by
      rw [hh0]
      exact whole_start l hbd ⟨B.exec, B.bytes, B.returns, hml, hown, hts, hX, hbl, B.notSynchronized, hgv⟩ (name_of_methodNamed B.named B.method).1
    obtain ⟨t, a1, o, b1, b2, b3⟩ := K s₁ rfl X₀
    exact ⟨t, o, a1, b1, b2, b3⟩
theorem lw_pre_spec {args : Array Value} {s : State} (h : (Jvm.Cond.and given_1 narrow_1).before args s = true) (hr : rest_1_c.before args s = true) : ∃ (b : Addr) (xs : List Int32), lw_P b xs args s := by
  have hs := flat_of_before _ h
  have hq := flat_of_before _ hr
  have hc : (Cond.count 1).before args s = true := hs _ (by decide +kernel)
  have harr : (Cond.arrayOf (.arg 0) .int).before args s = true := hs _ (by decide +kernel)
  have hle : (Cond.le (.length (.arg 0)) (.int 384)).before args s = true := hs _ (by decide +kernel)
  have hlen : (Cond.isInt (.length (.arg 0))).before args s = true := hq _ (by decide +kernel)
  have hall : (Cond.all (.arg 0) (.isInt (.elem (.arg 0) (.index 0)))).before args s = true := hq _ (by decide +kernel)
  obtain ⟨b, xs, hb, hx⟩ := State.ints_of_pre rfl harr hlen hall
  have hsm : xs.length < 2 ^ 31 := hx.choose_spec.2.2.2
  have hev : (Term.length (.arg 0)).eval args s none [] s = some (.int xs.length.toInt32) := hx.length_eval hb
  have hv := Cond.le_ints hev (show (Term.int 384).eval args s none [] s = some (.int 384) from rfl)
  have hd : xs.length.toInt32 ≤ 384 := by
    simpa [Cond.before, Cond.holds, hv] using hle
  have hN : xs.length ≤ 384 := (Int32.ofNat_le_ofNat hsm (by decide)).mp (show Int32.ofNat xs.length ≤ Int32.ofNat 384 from hd)
  exact ⟨b, xs, Cond.one_arg hc (show args[0]? = some (.ref b) from hb), hx, hN, h⟩
theorem lw_comes (l : Launch) (hflags : l.flags = flags0) : Comes l x (Jvm.Cond.code x code maxLocals ret :: tables_1) room_1 (fun tb e args s => Calls_1 tb e args s ∧ rest_1 tb e args s ∧ Pre_1 tb e args s)
    (fun _ _ args s o t => lw_Q args s o t) := by
  intro p e ha hc hk s m args below hf hfit hheap happ hpre
  obtain ⟨b, xs, hP⟩ := lw_pre_spec hpre.2.2 hpre.2.1
  obtain ⟨k, o, h1, h2, h3, hQ⟩ := lw_walk l hflags b xs p e ha hc hk s m args below hf ((Spec.applies_iff_loose hf).mp happ).1 hP trivial
  exact ⟨k, o, h1, h2, h3, hQ⟩
theorem lw_frame {s t : State} {o : Outcome} {args : Array Value} (h : Framed s o t [] 600000 7302250) :
    Framed s o t (fieldLocs frame_1_writes args s ++ arrayLocs frame_1_arrays args s ++ staticLocs frame_1_statics s) 600000 7302250 := h
theorem lw_limb (L : Cond) (hL : ∀ (args : Array Value) (s t : State), L.after args s (.returned (some (.int 1))) t = true) :
    ArmFor flags0 classFile x code maxLocals ret World_1 tables_1 room_1 Calls_1 rest_1 Pre_1
      (fun tb e a s o t => postC L tb e a s o t ∧ Framed s o t (fieldLocs frame_1_writes a s ++ arrayLocs frame_1_arrays a s ++ staticLocs frame_1_statics s) 600000 7302250) := by
  intro l hflags _ _ p e ha hc hk s m args below hf hfit hheap happ hpre
  obtain ⟨k, o, h1, h2, h3, rfl, hF⟩ := lw_comes l hflags p e ha hc hk s m args below hf hfit hheap happ hpre
  exact ⟨k, _, h1, h2, h3, hL args s _, lw_frame hF⟩
theorem i_vc : Claimed_1_1 ∧ Claimed_1_2 := ⟨lw_limb limb_1_1 (fun args s t => by simp [limb_1_1, Cond.after, Cond.holds, Cond.value]), lw_limb limb_1_2 (fun args s t => Cond.after_iff.mpr (by
  first | (rw [show limb_1_2 = Cond.eq .result (.int 1) from rfl, Cond.eq_ints (x := 1) (y := 1) rfl rfl]; simp; done) | (simp [limb_1_2, Cond.value, Term.eval]; done)))⟩
