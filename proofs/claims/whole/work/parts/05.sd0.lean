/-! THE MACHINE BEHIND: what the cells of the abstract machine are on the heap -/
def gw : List Jvm.Cond := lw_tbl.filter goodWord
theorem gw_mem {w : Jvm.Cond} (h : w ∈ lw_tbl) (hg : goodWord w = true) : w ∈ gw := List.mem_filter.mpr ⟨h, hg⟩
theorem gw_good : GoodIn gw gw := fun w h => ⟨h, good_of_word (List.mem_filter.mp h).2⟩
/-- what stands beside the store: class ids, base, the texts' cells, the script's cell, length and ints -/
abbrev sd_X : Type := va_G × ClassId × (Nat → ClassId) × Nat × (Nat → Nat) × (Nat → Nat) × Nat × Nat × (Nat → Int32)
def sd_D (X : sd_X) : va_G := X.1
def sd_cI (X : sd_X) : ClassId := X.2.1
def sd_cA (X : sd_X) : Nat → ClassId := X.2.2.1
def sd_ba (X : sd_X) : Nat := X.2.2.2.1
def sd_aS (X : sd_X) : Nat → Nat := X.2.2.2.2.1
def sd_aB (X : sd_X) : Nat → Nat := X.2.2.2.2.2.1
def sd_sb (X : sd_X) : Nat := X.2.2.2.2.2.2.1
def sd_sl (X : sd_X) : Nat := X.2.2.2.2.2.2.2.1
def sd_xs (X : sd_X) : Nat → Int32 := X.2.2.2.2.2.2.2.2
def sd_ad (X : sd_X) (k : Nat) : Nat := if k < 1000 then sd_ba X + k else if k < 1008 then sd_aS X (k - 1000) else if k < 1108 then sd_aB X (k - 1100) else sd_sb X
def sd_cv (X : sd_X) : Value → Value
  | .ref k => .ref (sd_ad X k)
  | .int x => .int x
  | .long x => .long x
  | .float x => .float x
  | .double x => .double x
  | .null => .null
  | .retAddr x => .retAddr x
theorem sd_cat (X : sd_X) (v : Value) : (sd_cv X v).category = v.category := by cases v <;> rfl
def sd_rf (X : sd_X) (g : ab_Sh) (k j : Nat) : Option Nat := if ab_gr g k j = 0 then none else some (sd_ad X (ab_gr g k j))
/-- kinds of fields: 0 an int, 1 a reference, 2 a text -/
def sd_fk : List (List Nat) := [[0, 0, 0, 0, 0, 0, 0, 0], [0, 0, 0, 0, 0, 0, 0, 0], [1, 1], [1, 1, 1, 1, 0, 0], [1, 1, 2, 0, 0], [1, 0], [0, 1], [1, 0, 0, 0, 0], [1, 1, 0, 0, 0, 0, 0, 0], [1, 1, 1, 1, 1], [1, 1, 0, 1, 1, 1, 1, 1], [1, 1, 1, 0, 1, 0, 0, 0, 0, 1, 1, 1, 1, 0, 0, 1, 0, 0, 0, 1, 1, 1, 1]]
def sd_kd (c j : Nat) : Nat := (sd_fk.getD c []).getD j 0
def sd_nf (c : Nat) : Nat := (sd_fk.getD c []).length
def sd_sv (X : sd_X) (x : Int32) : Value := if x = 0 then .null else .ref (sd_ad X (999 + x.toNatClampNeg))
def sd_fv (X : sd_X) (i : ab_I) (g : ab_Sh) (c k j : Nat) : Value := if sd_kd c j = 0 then .int (i k j) else if sd_kd c j = 1 then va_rf (sd_rf X g k j) else sd_sv X (i k j)
def sd_fs (X : sd_X) (i : ab_I) (g : ab_Sh) (c k : Nat) : List Value := (List.range (sd_nf c)).map (sd_fv X i g c k)
def sd_ce (X : sd_X) (i : ab_I) (g : ab_Sh) (k : Nat) : va_E :=
  if (ab_gt g k).1 < 100 then .inr ((ab_gt g k).1, sd_fs X i g (ab_gt g k).1 k)
  else if (ab_gt g k).1 = 100 then .inl (sd_cI X, (ab_gt g k).2, .inl (i k))
  else .inl (sd_cA X ((ab_gt g k).1 - 101), (ab_gt g k).2, .inr (.inr (.inr (.inr (sd_rf X g k)))))
def sd_ws (X : sd_X) (i : ab_I) (g : ab_Sh) : va_W := (List.range (ab_gn g)).map (fun k => (sd_ba X + k, sd_ce X i g k))
def sd_A (X : sd_X) : Nat → Prop := fun q => sd_ba X ≤ q
def sd_Hp (X : sd_X) (i : ab_I) (g : ab_Sh) (H : Heap) : Prop :=
  H.size = sd_ba X + ab_gn g ∧ ab_gn g ≤ 900 ∧ (∀ q, ab_gn g ≤ q → 9000 ≤ (ab_gt g q).1) ∧ va_P (sd_D X) vwCl (sd_ws X i g) H ∧ (∀ j, i 1200 j = sd_xs X j) ∧ i 1201 0 = nI (sd_sl X) ∧ sd_sl X < 2 ^ 31
def sd_tys (X : sd_X) : List (ClassId × FieldType) := [(sd_cI X, .int), (sd_cA X 0, .object RX0), (sd_cA X 1, .object RX1), (sd_cA X 8, .object RX8), (sd_cA X 6, .object RX6)]
/-- the texts as the classes name them: class, entry, text, which -/
def sd_tx : List (String × Nat × String × Nat) := [("VotedWater$Law", 24, "lsrhw", 1), ("VotedWater$Law", 26, "fdm", 2), ("VotedWater$Reader", 23, "", 0), ("VotedWater$Reader", 79, "|", 3), ("VotedWater$Reader", 81, "&", 4), ("VotedWater$Reader", 83, "<=>", 5), ("VotedWater$Reader", 85, "+-", 6), ("VotedWater$Reader", 87, "*/%", 7)]
def sd_by : List (List Int32) := [[], [108, 115, 114, 104, 119], [102, 100, 109], [124], [38], [60, 61, 62], [43, 45], [42, 47, 37]]
def sd_ln : List Nat := [0, 5, 3, 1, 1, 3, 2, 3]
def sd_nl : List Jvm.Cond := [.methodLinkNest "VotedWater$Town" 59 ⟨"VotedWater", "within", "(III)Z"⟩ "VotedWater", .methodLinkNest "VotedWater$Basin" 38 ⟨"VotedWater", "within", "(III)Z"⟩ "VotedWater", .methodLinkNest "VotedWater$Door" 36 ⟨"VotedWater", "within", "(III)Z"⟩ "VotedWater", .methodLinkNest "VotedWater$Outlook" 44 ⟨"VotedWater", "within", "(III)Z"⟩ "VotedWater"]
def sd_CW (X : sd_X) (U : State) : Prop :=
  va_K (sd_D X) vwCl (sd_tys X) U ∧ (∀ C ∈ [RX0, RX1, RX8, RX6], va_AO C U) ∧ (∀ q ∈ sd_tx, vk_R q.1 q.2.1 q.2.2.1 (sd_aS X q.2.2.2) U) ∧
  vk_S 8 sd_ln sd_by (sd_aS X) (sd_aB X) (sd_A X) U U.heap ∧ va_Z "java/lang/String" "COMPACT_STRINGS" "Z" (.int 1) (sd_A X) U U.heap ∧ (∀ w ∈ sd_nl, va_Nw w U) ∧
  va_X (sd_sb X) (sd_sl X) (sd_xs X) U U.heap ∧ sd_sb X < U.heap.size ∧ ¬ sd_A X (sd_sb X)
theorem sd_nlk {w : Jvm.Cond} (h : w ∈ sd_nl) : ∃ (a : String) (i : Nat) (x : MethodName) (b : String), w = .methodLinkNest a i x b := by
  unfold sd_nl at h
  simp only [List.mem_cons, List.not_mem_nil, or_false] at h
  rcases h with rfl | rfl | rfl | rfl <;> exact ⟨_, _, _, _, rfl⟩
theorem sd_CW_warm {X : sd_X} {s U : State} (hW : s.WarmedH U.vm) (hz : s.heap.size ≤ U.heap.size) (hk : ∀ a : Nat, a < s.heap.size → ¬ sd_A X a → U.heap[a]? = s.heap[a]?) (h : sd_CW X s) : sd_CW X U := by
  obtain ⟨h1, h2, h3, h4, h5, h6, h7, h8, h9⟩ := h
  refine ⟨va_K.moved hW.alike h1, fun C hC => (h2 C hC).moved hW.alike, fun q hq => (h3 q hq).warm hW, (h4.moved hW.alike).kept hk, (va_Z.moved hW.alike h5).kept hk, fun w hw => ?_, (h7.moved hW.alike).kept (hk _ h8 h9), Nat.lt_of_lt_of_le h8 hz, h9⟩
  obtain ⟨a, i, x, b, rfl⟩ := sd_nlk hw
  exact (h6 _ hw).warmM hW
theorem sd_CW_same {X : sd_X} {s U : State} (hv : U.vm = s.vm) (hh : U.heap = s.heap) (h : sd_CW X s) : sd_CW X U := by
  obtain ⟨h1, h2, h3, h4, h5, h6, h7, h8, h9⟩ := h
  have ha : s.vm.Alike U.vm := by rw [hv]; exact Vm.Alike.refl _
  refine ⟨va_K.moved ha h1, fun C hC => (h2 C hC).moved ha, fun q hq => (h3 q hq).same hv, by rw [hh]; exact h4.moved ha, by rw [hh]; exact va_Z.moved ha h5, fun w hw => ?_, by rw [hh]; exact h7.moved ha, by rw [hh]; exact h8, h9⟩
  obtain ⟨a, i, x, b, rfl⟩ := sd_nlk hw
  exact (h6 _ hw).same rfl hv.symm
/-! the world's list -/
theorem sd_at {X : sd_X} {i : ab_I} {g : ab_Sh} {k : Nat} (h : k < ab_gn g) : (sd_ws X i g)[k]? = some (sd_ba X + k, sd_ce X i g k) := by
  unfold sd_ws
  rw [List.getElem?_map, List.getElem?_range h]
  rfl
theorem sd_at' {X : sd_X} {i : ab_I} {g : ab_Sh} {k : Nat} {q : Nat × va_E} (h : (sd_ws X i g)[k]? = some q) : k < ab_gn g ∧ q = (sd_ba X + k, sd_ce X i g k) := by
  have hk : k < ab_gn g := by
    have := (List.getElem?_eq_some_iff.mp h).1
    unfold sd_ws at this
    simpa using this
  rw [sd_at hk] at h
  exact ⟨hk, (Option.some.inj h).symm⟩
theorem sd_Dj (X : sd_X) (i : ab_I) (g : ab_Sh) : va_D (sd_A X) (sd_ws X i g) := by
  refine ⟨fun a b p q ha hb hpq => ?_, fun k q hk => ?_⟩
  · obtain ⟨-, rfl⟩ := sd_at' ha
    obtain ⟨-, rfl⟩ := sd_at' hb
    have : sd_ba X + a = sd_ba X + b := hpq
    omega
  · obtain ⟨-, rfl⟩ := sd_at' hk
    show sd_ba X ≤ sd_ba X + k
    omega
theorem sd_lt {X : sd_X} {i : ab_I} {g : ab_Sh} {H : Heap} (h : sd_Hp X i g H) {q : Nat} (ht : (ab_gt g q).1 < 9000) : q < ab_gn g := by
  rcases Nat.lt_or_ge q (ab_gn g) with z | z
  · exact z
  · have := h.2.2.1 q z
    omega
theorem sd_adq {X : sd_X} {i : ab_I} {g : ab_Sh} {H : Heap} (h : sd_Hp X i g H) {q : Nat} (hq : q < ab_gn g) : sd_ad X q = sd_ba X + q := by
  unfold sd_ad
  rw [if_pos (Nat.lt_of_lt_of_le hq (Nat.le_trans h.2.1 (by omega)))]
theorem sd_mapset {α : Type} {n q : Nat} {f f' : Nat → α} {v : α} (hq : q < n) (h1 : f' q = v) (h2 : ∀ k, k ≠ q → f' k = f k) : ((List.range n).map f).set q v = (List.range n).map f' := by
  apply List.ext_getElem?
  intro k
  by_cases hk : k = q
  · subst hk
    rw [List.getElem?_set_self (by simpa using hq), List.getElem?_map, List.getElem?_range hq, ← h1]
    rfl
  · rw [List.getElem?_set_ne (Ne.symm hk), List.getElem?_map, List.getElem?_map]
    by_cases hn : k < n
    · rw [List.getElem?_range hn]
      show some (f k) = some (f' k)
      rw [h2 k hk]
    · rw [List.getElem?_eq_none (by simpa using hn)]
      rfl
theorem sd_wset {X : sd_X} {i i' : ab_I} {g g' : ab_Sh} {q : Nat} {e : va_E} (hq : q < ab_gn g) (hn : ab_gn g' = ab_gn g) (he : sd_ce X i' g' q = e) (ho : ∀ k, k ≠ q → sd_ce X i' g' k = sd_ce X i g k) :
    (sd_ws X i g).set q (sd_ba X + q, e) = sd_ws X i' g' := by
  unfold sd_ws
  rw [hn]
  refine sd_mapset hq (by rw [he]) (fun k hk => by rw [ho k hk])
theorem sd_ce_same {X : sd_X} {i i' : ab_I} {g g' : ab_Sh} {k : Nat} (h1 : ∀ j, i' k j = i k j) (h2 : ∀ j, ab_gr g' k j = ab_gr g k j) (h3 : ab_gt g' k = ab_gt g k) : sd_ce X i' g' k = sd_ce X i g k := by
  have e1 : i' k = i k := funext h1
  have e2 : sd_rf X g' k = sd_rf X g k := funext fun j => by unfold sd_rf; rw [h2 j]
  have e3 : ∀ c, sd_fv X i' g' c k = sd_fv X i g c k := fun c => funext fun j => by unfold sd_fv; rw [h1 j, e2]
  unfold sd_ce sd_fs
  rw [h3, e1, e2, e3]
theorem sd_ce_obj {X : sd_X} {i : ab_I} {g : ab_Sh} {k c n : Nat} (h : ab_gt g k = (c, n)) (hc : c < 100) : sd_ce X i g k = .inr (c, sd_fs X i g c k) := by
  unfold sd_ce
  rw [h]
  simp only [hc, if_true]
theorem sd_ce_row {X : sd_X} {i : ab_I} {g : ab_Sh} {k n : Nat} (h : ab_gt g k = (100, n)) : sd_ce X i g k = .inl (sd_cI X, n, .inl (i k)) := by
  unfold sd_ce
  rw [h]
  simp
theorem sd_ce_arr {X : sd_X} {i : ab_I} {g : ab_Sh} {k c n : Nat} (h : ab_gt g k = (101 + c, n)) : sd_ce X i g k = .inl (sd_cA X c, n, .inr (.inr (.inr (.inr (sd_rf X g k))))) := by
  unfold sd_ce
  rw [h]
  simp only
  rw [if_neg (by omega), if_neg (by omega), Nat.add_sub_cancel_left]
theorem sd_fs_get {X : sd_X} {i : ab_I} {g : ab_Sh} {c k a : Nat} (h : a < sd_nf c) : (sd_fs X i g c k)[a]? = some (sd_fv X i g c k a) := by
  unfold sd_fs
  rw [List.getElem?_map, List.getElem?_range h]
  rfl
theorem sd_fs_len {X : sd_X} {i : ab_I} {g : ab_Sh} {c k : Nat} : (sd_fs X i g c k).length = sd_nf c := by unfold sd_fs; simp
theorem ab_up_ne {i : ab_I} {q k a b : Nat} {x : Int32} (h : a ≠ q) : ab_up i q k x a b = i a b := by unfold ab_up; rw [if_neg (fun z => h z.1)]
theorem ab_up_row {i : ab_I} {q k : Nat} {x : Int32} : ab_up i q k x q = upd (i q) k x := by
  funext j
  unfold ab_up upd
  by_cases h : j = k <;> simp [h]
theorem ab_row_ne {i : ab_I} {q a b : Nat} {f : Nat → Int32} (h : a ≠ q) : ab_row i q f a b = i a b := by unfold ab_row; rw [if_neg h]
theorem ab_row_self {i : ab_I} {q : Nat} {f : Nat → Int32} : ab_row i q f q = f := by funext j; unfold ab_row; rw [if_pos rfl]
/-! the locals -/
def sd_L (X : sd_X) (ls : Array Slot) (nL : Nat) (l : ab_L) : Prop := ls.size = nL ∧ lv_wf ls ∧ l.length = nL ∧ ∀ (j : Nat) (v : Value), l[j]? = some (some v) → ls[j]? = some (.val (sd_cv X v))
/-- the locals as a list of places and values -/
def sd_ps (X : sd_X) : Nat → ab_L → List (Nat × Value)
  | _, [] => []
  | n, none :: l => sd_ps X (n + 1) l
  | n, some v :: l => (n, sd_cv X v) :: sd_ps X (n + 1) l
theorem sd_ps_mem {X : sd_X} {l : ab_L} : ∀ {n : Nat} {q : Nat × Value}, q ∈ sd_ps X n l ↔ ∃ j v, l[j]? = some (some v) ∧ q = (n + j, sd_cv X v) := by
  induction l with
  | nil => intro n q; simp [sd_ps]
  | cons x l ih =>
    intro n q
    cases x with
    | none =>
      rw [sd_ps, ih]
      constructor
      · rintro ⟨j, v, h, rfl⟩
        exact ⟨j + 1, v, by simpa using h, by rw [show n + (j + 1) = n + 1 + j by omega]⟩
      · rintro ⟨j, v, h, rfl⟩
        cases j with
        | zero => simp at h
        | succ j => exact ⟨j, v, by simpa using h, by rw [show n + (j + 1) = n + 1 + j by omega]⟩
    | some w =>
      rw [sd_ps, List.mem_cons, ih]
      constructor
      · rintro (rfl | ⟨j, v, h, rfl⟩)
        · exact ⟨0, w, rfl, rfl⟩
        · exact ⟨j + 1, v, by simpa using h, by rw [show n + (j + 1) = n + 1 + j by omega]⟩
      · rintro ⟨j, v, h, rfl⟩
        cases j with
        | zero => simp at h; subst h; exact Or.inl rfl
        | succ j => exact Or.inr ⟨j, v, by simpa using h, by rw [show n + (j + 1) = n + 1 + j by omega]⟩
theorem sd_L_has {X : sd_X} {ls : Array Slot} {nL : Nat} {l : ab_L} (h : sd_L X ls nL l) : lv_has ls nL (sd_ps X 0 l) := by
  refine ⟨h.1, h.2.1, fun q hq => ?_⟩
  obtain ⟨j, v, hj, rfl⟩ := sd_ps_mem.mp hq
  rw [Nat.zero_add]
  exact h.2.2.2 j v hj
theorem ab_get_at {l : ab_L} : ∀ {n : Nat} {v : Value}, ab_get l n = some v → l[n]? = some (some v) := by
  induction l with
  | nil => intro n v h; simp [ab_get] at h
  | cons x l ih =>
    intro n v h
    cases n with
    | zero => simp only [ab_get] at h; simp [h]
    | succ n => simp only [ab_get] at h; simpa using ih h
theorem sd_L_get {X : sd_X} {ls : Array Slot} {nL : Nat} {l : ab_L} (h : sd_L X ls nL l) {n : Nat} {v : Value} (hg : ab_get l n = some v) : ls[n]? = some (.val (sd_cv X v)) := h.2.2.2 n v (ab_get_at hg)
theorem sd_L_pos {X : sd_X} {l : ab_L} {n : Nat} {v : Value} (hg : ab_get l n = some v) : ∃ k : Nat, (sd_ps X 0 l)[k]? = some (n, sd_cv X v) :=
  List.getElem?_of_mem (sd_ps_mem.mpr ⟨n, v, ab_get_at hg, by rw [Nat.zero_add]⟩)
/-- masks -/
theorem ab_mk_eq : ∀ (m : List Bool) {α : Type} (l : ab_L) (k : ab_L → α), ab_mk m l k = k (ab_mk m l (fun x => x)) := by
  intro m
  induction m with
  | nil => intro α l k; rfl
  | cons b m ih =>
    intro α l k
    cases l with
    | nil => cases b <;> rfl
    | cons x l =>
      cases b with
      | true => rw [ab_mk, ab_mk, ih l (fun l' => k (x :: l')), ih l (fun l' => x :: l')]
      | false => rw [ab_mk, ab_mk, ih l (fun l' => k (none :: l')), ih l (fun l' => none :: l')]
theorem ab_mk_at : ∀ (m : List Bool) (l : ab_L) (j : Nat) (v : Value), (ab_mk m l (fun x => x))[j]? = some (some v) → l[j]? = some (some v) := by
  intro m
  induction m with
  | nil => intro l j v h; exact h
  | cons b m ih =>
    intro l j v h
    cases l with
    | nil => cases b <;> exact h
    | cons x l =>
      cases b with
      | true =>
        rw [ab_mk, ab_mk_eq] at h
        cases j with
        | zero => simpa using h
        | succ j => simpa using ih l j v (by simpa using h)
      | false =>
        rw [ab_mk, ab_mk_eq] at h
        cases j with
        | zero => simp at h
        | succ j => simpa using ih l j v (by simpa using h)
theorem ab_mk_len : ∀ (m : List Bool) (l : ab_L), (ab_mk m l (fun x => x)).length = l.length := by
  intro m
  induction m with
  | nil => intro l; rfl
  | cons b m ih =>
    intro l
    cases l with
    | nil => cases b <;> rfl
    | cons x l =>
      cases b with
      | true => rw [ab_mk, ab_mk_eq, List.length_cons, List.length_cons, ih]
      | false => rw [ab_mk, ab_mk_eq, List.length_cons, List.length_cons, ih]
theorem sd_L_mk {X : sd_X} {ls : Array Slot} {nL : Nat} {l : ab_L} (m : List Bool) (h : sd_L X ls nL l) : sd_L X ls nL (ab_mk m l (fun x => x)) := ⟨h.1, h.2.1, by rw [ab_mk_len]; exact h.2.2.1, fun j v hj => h.2.2.2 j v (ab_mk_at m l j v hj)⟩
/-- storing -/
theorem ab_no2_eq {α : Type} (x : Option Value) (k : Option Value → α) : ab_no2 x k = k (ab_no2 x (fun y => y)) := by
  cases x with
  | none => rfl
  | some v => cases v <;> rfl
theorem ab_no2_at {x : Option Value} {v : Value} (h : ab_no2 x (fun y => y) = some v) : x = some v ∧ v.category = 1 := by
  cases x with
  | none => cases h
  | some w => cases w <;> first | (cases h; exact ⟨rfl, rfl⟩) | cases h
theorem ab_set_eq : ∀ (l : ab_L) {α : Type} (n : Nat) (v : Value) (k : ab_L → α), ab_set l n v k = k (ab_set l n v (fun x => x)) := by
  intro l
  induction l with
  | nil => intro α n v k; rfl
  | cons x l ih =>
    intro α n v k
    match n with
    | 0 => rfl
    | 1 => rw [ab_set, ab_set, ih 0 v (fun l' => ab_no2 x (fun x' => k (x' :: l'))), ih 0 v (fun l' => ab_no2 x (fun x' => x' :: l')), ab_no2_eq x (fun x' => k _), ab_no2_eq x (fun x' => x' :: _)]
    | n + 2 => rw [ab_set, ab_set, ih (n + 1) v (fun l' => k (x :: l')), ih (n + 1) v (fun l' => x :: l')]
theorem ab_set_at : ∀ (l : ab_L) (n : Nat) (v : Value) (j : Nat) (w : Value), (ab_set l n v (fun x => x))[j]? = some (some w) → (j = n ∧ w = v) ∨ (j ≠ n ∧ l[j]? = some (some w) ∧ ¬ (j + 1 = n ∧ w.category = 2)) := by
  intro l
  induction l with
  | nil => intro n v j w h; simp [ab_set] at h
  | cons x l ih =>
    intro n v j w h
    match n with
    | 0 =>
      rw [ab_set] at h
      cases j with
      | zero => simp at h; exact Or.inl ⟨rfl, h.symm⟩
      | succ j => exact Or.inr ⟨by omega, by simpa using h, by omega⟩
    | 1 =>
      rw [ab_set, ab_set_eq, ab_no2_eq] at h
      cases j with
      | zero =>
        simp at h
        obtain ⟨e1, e2⟩ := ab_no2_at h
        exact Or.inr ⟨by omega, by simp [e1], by omega⟩
      | succ j =>
        simp at h
        rcases ih 0 v j w h with ⟨e1, e2⟩ | ⟨e1, e2, e3⟩
        · exact Or.inl ⟨by omega, e2⟩
        · exact Or.inr ⟨by omega, by simpa using e2, by omega⟩
    | n + 2 =>
      rw [ab_set, ab_set_eq] at h
      cases j with
      | zero => exact Or.inr ⟨by omega, by simpa using h, by omega⟩
      | succ j =>
        simp at h
        rcases ih (n + 1) v j w h with ⟨e1, e2⟩ | ⟨e1, e2, e3⟩
        · exact Or.inl ⟨by omega, e2⟩
        · exact Or.inr ⟨by omega, by simpa using e2, by omega⟩
theorem ab_set_len : ∀ (l : ab_L) (n : Nat) (v : Value), (ab_set l n v (fun x => x)).length = l.length := by
  intro l
  induction l with
  | nil => intro n v; rfl
  | cons x l ih =>
    intro n v
    match n with
    | 0 => rfl
    | 1 => rw [ab_set, ab_set_eq, ab_no2_eq, List.length_cons, List.length_cons, ih]
    | n + 2 => rw [ab_set, ab_set_eq, List.length_cons, List.length_cons, ih]
theorem sd_L_set {X : sd_X} {ls' : Array Slot} {nL : Nat} {l : ab_L} {n : Nat} {v : Value} (hl : l.length = nL) (h : lv_has ls' nL ((n, sd_cv X v) :: (sd_ps X 0 l).filter (fun q => !(q.1 == n) && !(q.1 + 1 == n && q.2.category == 2)))) : sd_L X ls' nL (ab_set l n v (fun x => x)) := by
  refine ⟨h.1, h.2.1, by rw [ab_set_len]; exact hl, fun j w hj => ?_⟩
  rcases ab_set_at l n v j w hj with ⟨rfl, rfl⟩ | ⟨e1, e2, e3⟩
  · exact h.2.2 _ List.mem_cons_self
  · refine h.2.2 (j, sd_cv X w) (List.mem_cons_of_mem _ (List.mem_filter.mpr ⟨sd_ps_mem.mpr ⟨j, w, e2, by rw [Nat.zero_add]⟩, ?_⟩))
    rw [sd_cat]
    simp only [Bool.and_eq_true, Bool.not_eq_true', beq_eq_false_iff_ne, ne_eq, Bool.and_eq_false_iff]
    refine ⟨e1, ?_⟩
    by_cases z : j + 1 = n
    · exact Or.inr (fun y => e3 ⟨z, y⟩)
    · exact Or.inl z
theorem ab_set2_eq : ∀ (l : ab_L) {α : Type} (n : Nat) (v : Value) (k : ab_L → α), ab_set2 l n v k = k (ab_set2 l n v (fun x => x)) := by
  intro l
  induction l with
  | nil => intro α n v k; rfl
  | cons x l ih =>
    intro α n v k
    cases l with
    | nil => rfl
    | cons y l =>
      match n with
      | 0 => rfl
      | 1 => rw [ab_set2, ab_set2, ih 0 v (fun l' => ab_no2 x (fun x' => k (x' :: l'))), ih 0 v (fun l' => ab_no2 x (fun x' => x' :: l')), ab_no2_eq x (fun x' => k _), ab_no2_eq x (fun x' => x' :: _)]
      | n + 2 => rw [ab_set2, ab_set2, ih (n + 1) v (fun l' => k (x :: l')), ih (n + 1) v (fun l' => x :: l')]
theorem ab_set2_at : ∀ (l : ab_L) (n : Nat) (v : Value) (j : Nat) (w : Value), n + 1 < l.length → (ab_set2 l n v (fun x => x))[j]? = some (some w) → (j = n ∧ w = v) ∨ (j ≠ n ∧ j ≠ n + 1 ∧ l[j]? = some (some w) ∧ ¬ (j + 1 = n ∧ w.category = 2)) := by
  intro l
  induction l with
  | nil => intro n v j w hn h; simp at hn
  | cons x l ih =>
    intro n v j w hn h
    cases l with
    | nil => simp at hn
    | cons y l =>
      match n with
      | 0 =>
        rw [ab_set2] at h
        match j with
        | 0 => simp at h; exact Or.inl ⟨rfl, h.symm⟩
        | 1 => simp at h
        | j + 2 => exact Or.inr ⟨by omega, by omega, by simpa using h, by omega⟩
      | 1 =>
        rw [ab_set2, ab_set2_eq, ab_no2_eq] at h
        cases j with
        | zero =>
          simp at h
          obtain ⟨e1, e2⟩ := ab_no2_at h
          exact Or.inr ⟨by omega, by omega, by simp [e1], by omega⟩
        | succ j =>
          simp only [List.getElem?_cons_succ] at h
          rcases ih 0 v j w (by simp at hn ⊢; omega) h with ⟨e1, e2⟩ | ⟨e1, e2, e3, e4⟩
          · exact Or.inl ⟨by omega, e2⟩
          · exact Or.inr ⟨by omega, by omega, by simpa using e3, by omega⟩
      | n + 2 =>
        rw [ab_set2, ab_set2_eq] at h
        cases j with
        | zero => exact Or.inr ⟨by omega, by omega, by simpa using h, by omega⟩
        | succ j =>
          simp only [List.getElem?_cons_succ] at h
          rcases ih (n + 1) v j w (by simp at hn ⊢; omega) h with ⟨e1, e2⟩ | ⟨e1, e2, e3, e4⟩
          · exact Or.inl ⟨by omega, e2⟩
          · exact Or.inr ⟨by omega, by omega, by simpa using e3, by omega⟩
theorem ab_set2_len : ∀ (l : ab_L) (n : Nat) (v : Value), (ab_set2 l n v (fun x => x)).length = l.length := by
  intro l
  induction l with
  | nil => intro n v; rfl
  | cons x l ih =>
    intro n v
    cases l with
    | nil => rfl
    | cons y l =>
      match n with
      | 0 => rfl
      | 1 => rw [ab_set2, ab_set2_eq, ab_no2_eq, List.length_cons, List.length_cons, ih]
      | n + 2 => rw [ab_set2, ab_set2_eq, List.length_cons, List.length_cons, ih]
theorem sd_L_set2 {X : sd_X} {ls' : Array Slot} {nL : Nat} {l : ab_L} {n : Nat} {v : Value} (hn : l.length = nL) (hl : n + 1 < nL) (h : lv_has ls' nL ((n, sd_cv X v) :: (sd_ps X 0 l).filter (fun q => !(q.1 == n) && (!(q.1 == n + 1) && !(q.1 + 1 == n && q.2.category == 2))))) : sd_L X ls' nL (ab_set2 l n v (fun x => x)) := by
  refine ⟨h.1, h.2.1, by rw [ab_set2_len]; exact hn, fun j w hj => ?_⟩
  rcases ab_set2_at l n v j w (by rw [hn]; exact hl) hj with ⟨rfl, rfl⟩ | ⟨e1, e2, e3, e4⟩
  · exact h.2.2 _ List.mem_cons_self
  · refine h.2.2 (j, sd_cv X w) (List.mem_cons_of_mem _ (List.mem_filter.mpr ⟨sd_ps_mem.mpr ⟨j, w, e3, by rw [Nat.zero_add]⟩, ?_⟩))
    rw [sd_cat]
    simp only [Bool.and_eq_true, Bool.not_eq_true', beq_eq_false_iff_ne, ne_eq, Bool.and_eq_false_iff]
    refine ⟨e1, e2, ?_⟩
    by_cases z : j + 1 = n
    · exact Or.inr (fun y => e4 ⟨z, y⟩)
    · exact Or.inl z
