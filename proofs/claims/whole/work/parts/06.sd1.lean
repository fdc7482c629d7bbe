/-! what the tables must be: each entry is what the code decodes to, and the Statement's words hold of it -/
def sd_ty (c : Nat) : Nat → FieldType := match c with | 0 => tyX0 | 1 => tyX1 | 2 => tyX2 | 3 => tyX3 | 4 => tyX4 | 5 => tyX5 | 6 => tyX6 | 7 => tyX7 | 8 => tyX8 | 9 => tyX9 | 10 => tyX10 | _ => tyX11
def sd_cl (c : Nat) : vw_C := vwCl.getD c (RX0, TX0, 0)
theorem sd_clq {c : Nat} (h : c < 12) : vwCl[c]? = some ((sd_cl c).1, (sd_cl c).2.1, (sd_cl c).2.2) := by
  unfold sd_cl
  rw [List.getD_eq_getElem?_getD, List.getElem?_eq_getElem (show c < vwCl.length from h)]
  rfl
theorem sd_N : ∀ c, c < 12 → (sd_cl c).2.2 = sd_nf c := by decide +kernel
theorem sd_hty : ∀ c, c < 12 → ∀ k, k < (sd_cl c).2.2 → parseFieldDescriptor ((sd_cl c).2.1 k).2.2.1 = some (sd_ty c k) := by decide +kernel
theorem sd_hnm : ∀ c, c < 12 → ∀ a, a < (sd_cl c).2.2 → ∀ b, b < (sd_cl c).2.2 → a ≠ b → ((sd_cl c).2.1 a).2.1 ≠ ((sd_cl c).2.1 b).2.1 := by decide +kernel
theorem sd_dfl : ∀ c, c < 12 → ∀ k, k < (sd_cl c).2.2 → defaultValue (sd_ty c k) = if sd_kd c k = 0 then .int 0 else .null := by decide +kernel
theorem sd_sub {ws : List Jvm.Cond} (ps : List Nat) (hp : ws = ps.filterMap (fun i => lw_tbl[i]?)) (hg : ws.all goodWord = true) : ∀ w ∈ ws, w ∈ gw := by
  intro w hw
  refine gw_mem ?_ (List.all_eq_true.mp hg w hw)
  rw [hp] at hw
  obtain ⟨i, -, hi⟩ := List.mem_filterMap.mp hw
  exact List.mem_of_getElem? hi
theorem sd_hin0 : ∀ w ∈ u_ws (sd_cl 0).1 (sd_cl 0).2.1 (sd_cl 0).2.2, w ∈ gw := sd_sub [129, 131, 133, 135, 137, 139, 141, 143] (by decide +kernel) (by decide +kernel)
theorem sd_hin1 : ∀ w ∈ u_ws (sd_cl 1).1 (sd_cl 1).2.1 (sd_cl 1).2.2, w ∈ gw := sd_sub [172, 174, 176, 178, 180, 182, 184, 186] (by decide +kernel) (by decide +kernel)
theorem sd_hin2 : ∀ w ∈ u_ws (sd_cl 2).1 (sd_cl 2).2.1 (sd_cl 2).2.2, w ∈ gw := sd_sub [250, 252] (by decide +kernel) (by decide +kernel)
theorem sd_hin3 : ∀ w ∈ u_ws (sd_cl 3).1 (sd_cl 3).2.1 (sd_cl 3).2.2, w ∈ gw := sd_sub [322, 324, 326, 328, 330, 332] (by decide +kernel) (by decide +kernel)
theorem sd_hin4 : ∀ w ∈ u_ws (sd_cl 4).1 (sd_cl 4).2.1 (sd_cl 4).2.2, w ∈ gw := sd_sub [293, 295, 297, 299, 301] (by decide +kernel) (by decide +kernel)
theorem sd_hin5 : ∀ w ∈ u_ws (sd_cl 5).1 (sd_cl 5).2.1 (sd_cl 5).2.2, w ∈ gw := sd_sub [242, 244] (by decide +kernel) (by decide +kernel)
theorem sd_hin6 : ∀ w ∈ u_ws (sd_cl 6).1 (sd_cl 6).2.1 (sd_cl 6).2.2, w ∈ gw := sd_sub [374, 376] (by decide +kernel) (by decide +kernel)
theorem sd_hin7 : ∀ w ∈ u_ws (sd_cl 7).1 (sd_cl 7).2.1 (sd_cl 7).2.2, w ∈ gw := sd_sub [350, 352, 354, 356, 358] (by decide +kernel) (by decide +kernel)
theorem sd_hin8 : ∀ w ∈ u_ws (sd_cl 8).1 (sd_cl 8).2.1 (sd_cl 8).2.2, w ∈ gw := sd_sub [206, 208, 210, 212, 214, 216, 218, 220] (by decide +kernel) (by decide +kernel)
theorem sd_hin9 : ∀ w ∈ u_ws (sd_cl 9).1 (sd_cl 9).2.1 (sd_cl 9).2.2, w ∈ gw := sd_sub [267, 269, 271, 273, 275] (by decide +kernel) (by decide +kernel)
theorem sd_hin10 : ∀ w ∈ u_ws (sd_cl 10).1 (sd_cl 10).2.1 (sd_cl 10).2.2, w ∈ gw := sd_sub [402, 404, 406, 408, 410, 412, 414, 416] (by decide +kernel) (by decide +kernel)
theorem sd_hin11 : ∀ w ∈ u_ws (sd_cl 11).1 (sd_cl 11).2.1 (sd_cl 11).2.2, w ∈ gw := sd_sub [1120, 1122, 1124, 1126, 1128, 1130, 1132, 1134, 1136, 1138, 1140, 1142, 1144, 1146, 1148, 1150, 1152, 1154, 1156, 1158, 1160, 1162, 1164] (by decide +kernel) (by decide +kernel)
theorem sd_hin : ∀ c, c < 12 → ∀ w ∈ u_ws (sd_cl c).1 (sd_cl c).2.1 (sd_cl c).2.2, w ∈ gw := by
  intro c hc
  match c, hc with
  | 0, _ => exact sd_hin0
  | 1, _ => exact sd_hin1
  | 2, _ => exact sd_hin2
  | 3, _ => exact sd_hin3
  | 4, _ => exact sd_hin4
  | 5, _ => exact sd_hin5
  | 6, _ => exact sd_hin6
  | 7, _ => exact sd_hin7
  | 8, _ => exact sd_hin8
  | 9, _ => exact sd_hin9
  | 10, _ => exact sd_hin10
  | 11, _ => exact sd_hin11
  | c + 12, hc => exact absurd hc (by omega)
def sd_len : Instr → Nat
  | .iload _ | .lload _ | .aload _ | .istore _ | .lstore _ | .astore _ | .bipush _ | .ldc _ | .newarray _ => 2
  | .sipush _ | .iinc _ _ | .ldc_w _ | .ldc2_w _ | .goto _ | .ifCond _ _ | .if_icmp _ _ | .getfield _ | .putfield _ | .getstatic _ | .invokevirtual _ | .invokespecial _ | .invokestatic _ | .new _ | .anewarray _ => 3
  | _ => 1
def sd_isw : Instr → Bool
  | .tableswitch _ _ _ _ => true
  | .lookupswitch _ _ => true
  | _ => false
def sd_bd (cc : ByteArray) (pc nx : Nat) (ins : Instr) : Bool := match decode cc pc with
  | .ok (i', n) => decide (i' = ins) && (sd_isw ins || (Nat.beq n (sd_len ins) && Nat.beq nx (pc + n)))
  | .error _ => false
theorem sd_bd_dec {cc : ByteArray} {pc nx : Nat} {ins : Instr} (h : sd_bd cc pc nx ins = true) : ∃ n, decode cc pc = .ok (ins, n) := by
  unfold sd_bd at h
  split at h
  · rename_i i' n e
    simp only [Bool.and_eq_true, decide_eq_true_eq] at h
    rw [e, h.1]
    exact ⟨n, rfl⟩
  · cases h
theorem sd_bd_spec {cc : ByteArray} {pc nx : Nat} {ins : Instr} (h : sd_bd cc pc nx ins = true) (hs : sd_isw ins = false) : decode cc pc = .ok (ins, sd_len ins) ∧ nx = pc + sd_len ins := by
  unfold sd_bd at h
  split at h
  · rename_i i' n e
    rw [hs] at h
    simp only [Bool.false_or, Bool.and_eq_true, decide_eq_true_eq] at h
    obtain ⟨rfl, h2, h3⟩ := h
    have h4 := Nat.eq_of_beq_eq_true h2
    subst h4
    exact ⟨e, Nat.eq_of_beq_eq_true h3⟩
  · cases h
def sd_el (b : Nat) : Bool := b == 0 || b == 1 || b == 6 || b == 8
def sd_bc (a b : Nat) : Bool := match ab_P[a]? with
  | some (y', _, ml', _, _) => decide (y'.cls ≠ "java/lang/invoke/MethodHandle") && decide (y'.cls ≠ "java/lang/invoke/VarHandle") && decide ((parseMethodDescriptor y'.desc).map (fun d => d.parameters.length) = some b) && decide (ml' ≤ 40) && plainName y'.cls
  | none => false
def sd_bx (y : MethodName) (rt : Option FieldType) (ml pc a b c : Nat) (v : Int32) (sw : List (Int32 × Nat)) : Instr → Bool
  | .iload_n k => (k : Nat) == a
  | .iload k => k == a
  | .lload_n k => (k : Nat) == a
  | .lload k => k == a
  | .aload_n k => (k : Nat) == a
  | .aload k => k == a
  | .istore_n k => (k : Nat) == a && decide (a < ml)
  | .istore k => k == a && decide (a < ml)
  | .lstore_n k => (k : Nat) == a && decide (a + 1 < ml)
  | .lstore k => k == a && decide (a + 1 < ml)
  | .astore_n k => (k : Nat) == a && decide (a < ml)
  | .astore k => k == a && decide (a < ml)
  | .iinc k n => k == a && decide (a < ml) && decide (Int32.ofInt n = v)
  | .iconst n => decide (Int32.ofInt n = v)
  | .bipush n => decide ((Int8.ofInt n).toInt32 = v)
  | .sipush n => decide ((Int16.ofInt n).toInt32 = v)
  | .lconst n => (n : Nat) == a
  | .ldc n => Nat.beq c 0 || sd_tx.any (fun q => decide (q.1 = y.cls) && decide (q.2.1 = n) && decide (a = 1000 + q.2.2.2) && decide (q.2.2.2 < 8))
  | .goto z => decide ((pc : Int) + z = (a : Int))
  | .getstatic _ => decide (v = 1)
  | .getfield _ => (decide (b < 12) && decide (a < sd_nf b) && decide (sd_kd b a = c)) || c == 3 || c == 4
  | .putfield _ => decide (b < 12) && decide (a < sd_nf b) &&
      ((c == 0 && decide (sd_kd b a = 0) && decide (sd_ty b a = .int) && !((sd_cl b).2.1 a).2.2.2) ||
       (c == 5 && decide (sd_kd b a = 0) && decide (sd_ty b a = .boolean) && !((sd_cl b).2.1 a).2.2.2) ||
       (c == 2 && decide (sd_kd b a = 2) && decide (sd_ty b a = .object "java/lang/String") && !((sd_cl b).2.1 a).2.2.2) ||
       (c == 1 && decide (sd_kd b a = 1) && ((sd_cl b).2.1 a).2.2.2 && decide (((sd_cl b).2.1 a).1 = y.cls) && decide (y.name = "<init>") && (match sd_ty b a with | .object _ => true | .array _ => true | _ => false)))
  | .aaload => sd_el b
  | .aastore => sd_el b
  | .arraylength => c == 0 || c == 1 || c == 2 || sd_el b
  | .newarray t => decide (t = .int)
  | .anewarray _ => sd_el b
  | .new _ => decide (b < 12) && decide (a = sd_nf b)
  | .ifCond _ z => decide ((pc : Int) + z = (a : Int))
  | .if_icmp _ z => decide ((pc : Int) + z = (a : Int))
  | .tableswitch d lo hi offs => decide ((pc : Int) + d = (a : Int)) && decide (hi = lo + (sw.length : Int) - 1) && decide (offs.size = sw.length) && (List.range sw.length).all (fun k => match sw[k]?, offs[k]? with | some (x, t), some o => decide (x.toInt = lo + (k : Int)) && decide ((pc : Int) + o = (t : Int)) | _, _ => false)
  | .lookupswitch d ps => decide ((pc : Int) + d = (a : Int)) && (ps.toList.zip (ps.toList.drop 1)).all (fun (a, next) => a.1 < next.1) && decide (ps.toList.length = sw.length) && (ps.toList.zip sw).all (fun q => decide (q.2.1.toInt = q.1.1) && decide ((pc : Int) + q.1.2 = (q.2.2 : Int)))
  | .return_ => decide (rt = none)
  | .ireturn => (c == 0 && decide (rt = some .int)) || (c == 5 && decide (rt = some .boolean)) || (c == 6 && decide (rt = some .char)) || (c == 7 && decide (rt = some .byte))
  | .lreturn => decide (rt = some .long)
  | .areturn => (match rt with | some (.object _) => true | _ => false)
  | .invokespecial _ => a == 9999 || (sd_bc a b && (match ab_P[a]? with | some (y', _, _, r', _) => decide (y'.name = "<init>") && decide (r' = none) | none => false))
  | .invokestatic n => a == 9998 || a == 9990 || a == 9991 || a == 9992 || a == 9993 || a == 9994 || (sd_bc a b && (c == 0 || (c == 3 && (match ab_P[a]? with | some (y', _, _, _, _) => decide (Jvm.Cond.methodLinkNest y.cls n y' "VotedWater" ∈ sd_nl) | none => false))))
  | .invokevirtual _ => sd_bc a b && (match ab_P[a]? with | some (y', _, _, _, _) => (c == 100 && decide (y'.cls = "java/lang/String")) || (decide (c < 12) && decide (y'.cls = (sd_cl c).1)) | none => false)
  | _ => true
/-- the words that an entry needs -/
def sd_w (own : String) (a b c : Nat) (v : Int32) : Instr → List Jvm.Cond
  | .ldc n => bif Nat.beq c 0 then [.constant own n v] else []
  | .ldc_w n => [.constant own n v]
  | .ldc2_w n => [.constantLong own n (lN a)]
  | .getstatic n => [.fieldLink own n "java/lang/String" "COMPACT_STRINGS" "Z"]
  | .getfield n => match c with
    | 3 => [.fieldLink own n "java/lang/String" "value" "[B"]
    | 4 => [.fieldLink own n "java/lang/String" "coder" "B"]
    | _ => [.fieldLink own n ((sd_cl b).2.1 a).1 ((sd_cl b).2.1 a).2.1 ((sd_cl b).2.1 a).2.2.1]
  | .putfield n => [.fieldLink own n ((sd_cl b).2.1 a).1 ((sd_cl b).2.1 a).2.1 ((sd_cl b).2.1 a).2.2.1]
  | .new n => [.classLink own n (sd_cl b).1, .instantiable (sd_cl b).1 (sd_cl b).2.2, .initialized (sd_cl b).1]
  | .newarray _ => [.arrayClass .int]
  | .anewarray n => [.classLink own n (sd_cl b).1]
  | .invokespecial n => bif Nat.beq a 9999 then [.methodLink own n objectInit, .instanceMethod objectInit, .code objectInit ⟨#[0xb1]⟩ 1 none] else (match ab_P[a]? with
    | some (y', c', l', r', _) => [.methodLink own n y', .instanceMethod y', .initialized y'.cls, .code y' c' l' r']
    | none => [])
  | .invokestatic n => bif Nat.beq a 9998 then [.methodLink own n arraycopyName, .native arraycopyName, .static arraycopyName, .initialized "java/lang/System"]
    else bif Nat.beq a 9990 then [.methodLink own n Lib.Math.max.name, .static Lib.Math.max.name, .initialized "java/lang/Math", .code Lib.Math.max.name Lib.Math.max.code 2 (some .int)]
    else bif Nat.beq a 9991 then [.methodLink own n Lib.Math.min.name, .static Lib.Math.min.name, .initialized "java/lang/Math", .code Lib.Math.min.name Lib.Math.min.code 2 (some .int)]
    else bif Nat.beq a 9992 then [.methodLink own n Lib.Math.abs.name, .static Lib.Math.abs.name, .initialized "java/lang/Math", .code Lib.Math.abs.name Lib.Math.abs.code 1 (some .int)]
    else bif Nat.beq a 9993 then [.methodLink own n Lib.MathLoose.min_long.x, .static Lib.MathLoose.min_long.x, .initialized "java/lang/Math", .code Lib.MathLoose.min_long.x Lib.MathLoose.min_long.code 4 (some .long)]
    else bif Nat.beq a 9994 then [.methodLink own n Lib.MathLoose.abs_long.x, .static Lib.MathLoose.abs_long.x, .initialized "java/lang/Math", .code Lib.MathLoose.abs_long.x Lib.MathLoose.abs_long.code 2 (some .long)]
    else (match ab_P[a]? with
    | some (y', c', l', r', _) => (bif Nat.beq c 3 then [.static y', .initialized y'.cls, .code y' c' l' r'] else [.methodLink own n y', .static y', .initialized y'.cls, .code y' c' l' r'])
    | none => [])
  | .invokevirtual n => (match ab_P[a]? with
    | some (y', c', l', r', _) => [.methodLink own n y', .instanceMethod y', .selects y'.cls y' y', .initialized y'.cls, .code y' c' l' r']
    | none => [])
  | _ => []
/-- one entry is good -/
def sd_E (y : MethodName) (cc : ByteArray) (ml : Nat) (rt : Option FieldType) (pc : Nat) (en : ab_E) : Prop := match en with
  | (ins, nx, a, b, c, v, sw, _) => sd_bd cc pc nx ins = true ∧ sd_bx y rt ml pc a b c v sw ins = true ∧ ∀ w ∈ sd_w y.cls a b c v ins, w ∈ gw
def sd_V : Prop := ∀ (mi : Nat) (y : MethodName) (cc : ByteArray) (ml : Nat) (rt : Option FieldType) (T : ab_T), ab_P[mi]? = some (y, cc, ml, rt, T) → ∀ (pc : Nat) (en : ab_E), ab_lk T pc = some en → sd_E y cc ml rt pc en
/-! the machine's side of a run -/
def sd_Cx (X : sd_X) (p : Program) (s : State) (m : MethodId) (args : Array Value) (meth : Method) (c0 : Code) (y : MethodName) (cc : ByteArray) (ml : Nat) : Prop :=
  p.tables.exec = Jvm.exec ∧ c0.code = cc ∧ c0.maxLocals = ml ∧ s.vm.findClass y.cls = some m.cls ∧ (∀ w ∈ gw, w.before args s = true) ∧ meth.name = y.name ∧ sd_CW X s ∧ sd_ba X ≤ s.heap.size
def sd_rt (cc : ByteArray) (rt : Option FieldType) (pc : Nat) (v : Option Value) : Prop :=
  (v = none ∧ rt = none ∧ decode cc pc = .ok (.return_, 1)) ∨ (∃ x ty, v = some (.int x) ∧ rt = some ty ∧ narrow ty (.int x) = .int x ∧ decode cc pc = .ok (.ireturn, 1)) ∨
  (∃ x, v = some (.long x) ∧ rt = some .long ∧ decode cc pc = .ok (.lreturn, 1)) ∨ (∃ q n, v = some (.ref q) ∧ rt = some (.object n) ∧ decode cc pc = .ok (.areturn, 1))
def sd_J (X : sd_X) (l : Launch) : ab_J := fun d kc ks c Q => ∀ (mi : Nat) (y : MethodName) (cc : ByteArray) (ml : Nat) (rt : Option FieldType), ab_P[mi]? = some (y, cc, ml, rt, c.1) →
  ∀ (p : Program) (e : Env) (R : Room) (s : State) (m : MethodId) (args : Array Value) (below : List Frame) (meth : Method) (c0 : Code) (H : Heap) (locs : List Loc) (cells slots : Nat) (lsA : Array Slot) (K1 K2 : Nat) (Qf : State → Prop),
    sd_Cx X p s m args meth c0 y cc ml → d + 1 ≤ R.frames → 64 * (d + 1) ≤ R.locals → cells + kc = K1 → slots + ks = K2 → K1 ≤ R.cells → K2 ≤ R.slots → s.heap.size + cells = sd_ba X + ab_gn (ab_g c) →
    sd_Hp X (ab_i c) (ab_g c) H → va_S (sd_A X) s.heap H locs → sd_L X lsA ml c.2.2.1 →
    (∀ (H' : Heap) (locs' : List Loc) (ls' : Array Slot) (pc' : Nat) (v : Option Value) (i' : ab_I) (g' : ab_Sh), Q v i' g' → s.heap.size + K1 = sd_ba X + ab_gn g' → sd_Hp X i' g' H' → va_S (sd_A X) s.heap H' locs' → sd_rt cc rt pc' v →
      W p l e R s m args below meth c0 H' locs' K1 K2 Qf (F0 m pc' ls' (v.toList.map (sd_cv X)))) →
    W p l e R s m args below meth c0 H locs cells slots Qf (F0 m c.2.1 lsA (c.2.2.2.1.map (sd_cv X)))
theorem sd_obj {X : sd_X} {i : ab_I} {g : ab_Sh} {H : Heap} (hHp : sd_Hp X i g H) {q b n : Nat} (ht : ab_gt g q = (b, n)) (hb : b < 100) : q < ab_gn g ∧ (sd_ws X i g)[q]? = some (sd_ba X + q, .inr (b, sd_fs X i g b q)) := by
  have hlt : q < ab_gn g := sd_lt hHp (by rw [ht]; show b < 9000; omega)
  refine ⟨hlt, ?_⟩
  rw [sd_at hlt, sd_ce_obj ht hb]
theorem sd_cvS {X : sd_X} {k : Nat} (h : k < 8) : sd_cv X (.ref (1000 + k)) = .ref (sd_aS X k) := by
  show Value.ref (sd_ad X (1000 + k)) = _
  unfold sd_ad
  rw [if_neg (by omega), if_pos (by omega), Nat.add_sub_cancel_left]
theorem sd_cvB {X : sd_X} {k : Nat} (h : k < 8) : sd_cv X (.ref (1100 + k)) = .ref (sd_aB X k) := by
  show Value.ref (sd_ad X (1100 + k)) = _
  unfold sd_ad
  rw [if_neg (by omega), if_neg (by omega), if_pos (by omega), Nat.add_sub_cancel_left]
theorem sd_t8 {q : Nat} (h : 1000 ≤ q ∧ q < 1008) : ∃ k0 : Nat, k0 < 8 ∧ q = 1000 + k0 ∧ q + 100 = 1100 + k0 := ⟨q - 1000, by omega, by omega, by omega⟩
theorem sd_cats {X : sd_X} (r : List Value) : ((r.map (sd_cv X)).map fun v => v.category).sum = ab_cat r := by
  induction r with
  | nil => rfl
  | cons v r ih => cases v <;> (simp only [List.map_cons, List.sum_cons, ab_cat]; rw [ih]; rfl)
theorem sd_t9 {q : Nat} (h1 : 1100 ≤ q) (h2 : q < 1108) : ∃ k0 : Nat, k0 < 8 ∧ q = 1100 + k0 := ⟨q - 1100, by omega, by omega⟩
theorem sd_t10 {q k0 : Nat} (h : q = 1100 + k0) : q - 1100 = k0 := by omega
theorem sd_inN {x : Int32} {n : Nat} (h : ab_in x n) : x.toNatClampNeg < n := by
  obtain ⟨h1, h2⟩ := h
  show x.toInt.toNat < n
  omega
theorem sd_cl0 {x : Int32} (h : 0 ≤ x.toInt) : (x.toNatClampNeg : Int) = x.toInt := by
  show ((x.toInt.toNat : Nat) : Int) = x.toInt
  omega
theorem sd_sv_put {X : sd_X} {y : Nat} (h : 1000 ≤ y ∧ y < 1008) : sd_sv X (nI (y - 999)) = sd_cv X (.ref y) := by
  unfold sd_sv
  rw [if_neg (nI_ne0 (by omega) (by omega)), nI_clamp (by omega), show 999 + (y - 999) = y by omega]
  rfl
theorem sd_cvX {X : sd_X} : sd_cv X (.ref 1200) = .ref (sd_sb X) := rfl
theorem sd_fs_up {X : sd_X} {i : ab_I} {g : ab_Sh} {c q a : Nat} {x : Int32} {v : Value} (han : a < sd_nf c) (hv : sd_fv X (ab_up i q a x) g c q a = v) : (sd_fs X i g c q).set a v = sd_fs X (ab_up i q a x) g c q := by
  unfold sd_fs
  refine sd_mapset han hv (fun k hk => ?_)
  unfold sd_fv
  have e : ab_up i q a x q k = i q k := by unfold ab_up; rw [if_neg (fun z => hk z.2)]
  rw [e]
theorem sd_wput {X : sd_X} {i : ab_I} {g : ab_Sh} {b n q a : Nat} {x : Int32} {v : Value} (ht : ab_gt g q = (b, n)) (hb : b < 100) (han : a < sd_nf b) (hlt : q < ab_gn g) (hv : sd_fv X (ab_up i q a x) g b q a = v) :
    (sd_ws X i g).set q (sd_ba X + q, .inr (b, (sd_fs X i g b q).set a v)) = sd_ws X (ab_up i q a x) g := by
  refine sd_wset hlt rfl ?_ (fun k hk => sd_ce_same (fun j => ab_up_ne hk) (fun _ => rfl) rfl)
  rw [sd_ce_obj ht hb, sd_fs_up han hv]
theorem sd_sz {p : Program} {l : Launch} {e : Env} {R : Room} {s : State} {m : MethodId} {args : Array Value} {below : List Frame} {meth : Method} {c : Code} {H : Heap} {locs : List Loc} {cells slots : Nat} {Q : State → Prop} {g : JFrame}
    (k : H.size ≤ s.heap.size + cells → W p l e R s m args below meth c H locs cells slots Q g) : W p l e R s m args below meth c H locs cells slots Q g := fun T hT X => k (by rw [← hT]; exact X.heapSize) T hT X
theorem sd_Hp_of {X : sd_X} {i i' : ab_I} {g g' : ab_Sh} {H H1 : Heap} {n : Nat} (h : sd_Hp X i g H) (hb : sd_ba X ≤ H1.size) (hz : H1.size ≤ sd_ba X + ab_gn g') (h9 : ab_gn g' ≤ 900) (ht : ∀ q, ab_gn g' ≤ q → 9000 ≤ (ab_gt g' q).1)
    (hi : ∀ q j, 1000 ≤ q → i' q j = i q j) (hP : va_P (sd_D X) vwCl (sd_ws X i' g') H1) : sd_Hp X i' g' H1 := by
  obtain ⟨-, -, -, -, h5, h6, h7⟩ := h
  refine ⟨?_, h9, ht, hP, fun j => by rw [hi 1200 j (by omega)]; exact h5 j, by rw [hi 1201 0 (by omega)]; exact h6, h7⟩
  refine Nat.le_antisymm hz ?_
  cases hn : ab_gn g' with
  | zero => exact hb
  | succ n =>
    have hl := (hP n _ (sd_at (by omega))).lt
    have : sd_ba X + n < H1.size := hl
    omega
theorem sd_Hp_up {X : sd_X} {i i' : ab_I} {g : ab_Sh} {H H1 : Heap} {q : Nat} (h : sd_Hp X i g H) (hlt : q < ab_gn g) (hb : sd_ba X ≤ H1.size) (hz : H1.size ≤ sd_ba X + ab_gn g) (hi : ∀ a j, a ≠ q → i' a j = i a j)
    (hP : va_P (sd_D X) vwCl (sd_ws X i' g) H1) : sd_Hp X i' g H1 :=
  sd_Hp_of (n := 0) h hb hz h.2.1 h.2.2.1 (fun a j ha => hi a j (fun z => by have := h.2.1; omega)) hP
theorem sd_byt : ∀ k, k < 8 → ∀ j, j < ab_txL k → (sd_by.getD k []).getD j 0 = ab_txB k j := by decide +kernel
theorem sd_lnt : ∀ k, k < 8 → sd_ln.getD k 0 = ab_txL k := by decide +kernel
theorem sd_el_of {b : Nat} (h : sd_el b = true) : b = 0 ∨ b = 1 ∨ b = 6 ∨ b = 8 := by
  unfold sd_el at h
  simp only [Bool.or_eq_true, beq_iff_eq] at h
  omega
theorem sd_nar5 {x : Int32} (h : x = nI 0 ∨ x = nI 1) : narrow .boolean (.int x) = .int x ∧ fits .boolean (.int x) = true := by
  rcases h with rfl | rfl <;> exact ⟨by decide +kernel, by decide +kernel⟩
set_option maxHeartbeats 4000000 in
set_option maxRecDepth 100000 in
theorem sd_stp (hV : sd_V) {X : sd_X} {l : Launch} {d kc ks : Nat} {cf cf' : ab_C} {O : ab_O} {Q : ab_Q} (h : ab_stp cf = some (cf', O)) (ho : ab_one O) (k : sd_J X l d kc ks cf' Q) : sd_J X l d kc ks cf Q := by
  obtain ⟨T, pc, ls0, st, i, g⟩ := cf
  intro mi y cc ml rt hPm p e R s m args below meth c0 H locs cells slots lsA K1 K2 Qf hC hfr hlo hce hsl hK1 hK2 hex hHp hS hL hF
  dsimp only [ab_i, ab_g] at hPm hex hHp hL ⊢
  unfold ab_stp at h
  dsimp only at h
  split at h
  · cases h
  rename_i ins nx a b c v sw lm hlk
  obtain ⟨hbd, hbx, hwd⟩ := hV mi y cc ml rt T hPm pc _ hlk
  rw [ab_mk_eq] at h
  have hL2 := sd_L_mk lm hL
  generalize ab_mk lm ls0 (fun x => x) = ls at h hL2
  obtain ⟨hx, hb, hml, hown, hts, hin, hCW, hba⟩ := id hC
  have hD := sd_Dj X i g
  cases ins
  case iload_n n =>
    simp only [ab_ex] at h
    obtain ⟨hd, hnx⟩ := sd_bd_spec hbd rfl
    subst hnx
    split at h
    · rename_i x hg
      cases h
      simp only [sd_bx, beq_iff_eq] at hbx
      subst hbx
      exact lv_iload_n hx hb hd rfl (sd_L_get hL2 hg) (k mi y cc ml rt hPm p e R s m args below meth c0 H locs cells slots lsA K1 K2 Qf hC hfr hlo hce hsl hK1 hK2 hex hHp hS hL2 hF)
    · cases h
  case iload n =>
    simp only [ab_ex] at h
    obtain ⟨hd, hnx⟩ := sd_bd_spec hbd rfl
    subst hnx
    split at h
    · rename_i x hg
      cases h
      simp only [sd_bx, beq_iff_eq] at hbx
      subst hbx
      exact lv_iload hx hb hd (sd_L_get hL2 hg) (k mi y cc ml rt hPm p e R s m args below meth c0 H locs cells slots lsA K1 K2 Qf hC hfr hlo hce hsl hK1 hK2 hex hHp hS hL2 hF)
    · cases h
  case lload_n n =>
    simp only [ab_ex] at h
    obtain ⟨hd, hnx⟩ := sd_bd_spec hbd rfl
    subst hnx
    split at h
    · rename_i x hg
      cases h
      simp only [sd_bx, beq_iff_eq] at hbx
      subst hbx
      exact lv_lload_n hx hb hd rfl (sd_L_get hL2 hg) (k mi y cc ml rt hPm p e R s m args below meth c0 H locs cells slots lsA K1 K2 Qf hC hfr hlo hce hsl hK1 hK2 hex hHp hS hL2 hF)
    · cases h
  case lload n =>
    simp only [ab_ex] at h
    obtain ⟨hd, hnx⟩ := sd_bd_spec hbd rfl
    subst hnx
    split at h
    · rename_i x hg
      cases h
      simp only [sd_bx, beq_iff_eq] at hbx
      subst hbx
      exact lv_lload hx hb hd (sd_L_get hL2 hg) (k mi y cc ml rt hPm p e R s m args below meth c0 H locs cells slots lsA K1 K2 Qf hC hfr hlo hce hsl hK1 hK2 hex hHp hS hL2 hF)
    · cases h
  case aload_n n =>
    simp only [ab_ex] at h
    obtain ⟨hd, hnx⟩ := sd_bd_spec hbd rfl
    subst hnx
    split at h
    · rename_i x hg
      cases h
      simp only [sd_bx, beq_iff_eq] at hbx
      subst hbx
      exact lv_aload_n hx hb hd rfl (sd_L_get hL2 hg) (k mi y cc ml rt hPm p e R s m args below meth c0 H locs cells slots lsA K1 K2 Qf hC hfr hlo hce hsl hK1 hK2 hex hHp hS hL2 hF)
    · cases h
  case aload n =>
    simp only [ab_ex] at h
    obtain ⟨hd, hnx⟩ := sd_bd_spec hbd rfl
    subst hnx
    split at h
    · rename_i x hg
      cases h
      simp only [sd_bx, beq_iff_eq] at hbx
      subst hbx
      exact lv_aload hx hb hd (sd_L_get hL2 hg) (k mi y cc ml rt hPm p e R s m args below meth c0 H locs cells slots lsA K1 K2 Qf hC hfr hlo hce hsl hK1 hK2 hex hHp hS hL2 hF)
    · cases h
  case istore_n n =>
    simp only [ab_ex] at h
    obtain ⟨hd, hnx⟩ := sd_bd_spec hbd rfl
    subst hnx
    split at h
    · rename_i x r
      rw [ab_set_eq] at h
      cases h
      simp only [sd_bx, Bool.and_eq_true, beq_iff_eq, decide_eq_true_eq] at hbx
      obtain ⟨rfl, hlt⟩ := hbx
      exact lv_istore_n hx hb hd rfl (sd_L_has hL2) hlt rfl (fun ls' hl => (k mi y cc ml rt hPm p e R s m args below meth c0 H locs cells slots ls' K1 K2 Qf hC hfr hlo hce hsl hK1 hK2 hex hHp hS (sd_L_set (v := .int x) hL2.2.2.1 hl) hF))
    · cases h
  case istore n =>
    simp only [ab_ex] at h
    obtain ⟨hd, hnx⟩ := sd_bd_spec hbd rfl
    subst hnx
    split at h
    · rename_i x r
      rw [ab_set_eq] at h
      cases h
      simp only [sd_bx, Bool.and_eq_true, beq_iff_eq, decide_eq_true_eq] at hbx
      obtain ⟨rfl, hlt⟩ := hbx
      exact lv_istore hx hb hd (sd_L_has hL2) hlt rfl (fun ls' hl => (k mi y cc ml rt hPm p e R s m args below meth c0 H locs cells slots ls' K1 K2 Qf hC hfr hlo hce hsl hK1 hK2 hex hHp hS (sd_L_set (v := .int x) hL2.2.2.1 hl) hF))
    · cases h
  case astore_n n =>
    simp only [ab_ex] at h
    obtain ⟨hd, hnx⟩ := sd_bd_spec hbd rfl
    subst hnx
    split at h
    · rename_i x r
      rw [ab_set_eq] at h
      cases h
      simp only [sd_bx, Bool.and_eq_true, beq_iff_eq, decide_eq_true_eq] at hbx
      obtain ⟨rfl, hlt⟩ := hbx
      exact lv_astore_n hx hb hd rfl (sd_L_has hL2) hlt rfl (fun ls' hl => (k mi y cc ml rt hPm p e R s m args below meth c0 H locs cells slots ls' K1 K2 Qf hC hfr hlo hce hsl hK1 hK2 hex hHp hS (sd_L_set (v := .ref x) hL2.2.2.1 hl) hF))
    · cases h
  case astore n =>
    simp only [ab_ex] at h
    obtain ⟨hd, hnx⟩ := sd_bd_spec hbd rfl
    subst hnx
    split at h
    · rename_i x r
      rw [ab_set_eq] at h
      cases h
      simp only [sd_bx, Bool.and_eq_true, beq_iff_eq, decide_eq_true_eq] at hbx
      obtain ⟨rfl, hlt⟩ := hbx
      exact lv_astore hx hb hd (sd_L_has hL2) hlt rfl (fun ls' hl => (k mi y cc ml rt hPm p e R s m args below meth c0 H locs cells slots ls' K1 K2 Qf hC hfr hlo hce hsl hK1 hK2 hex hHp hS (sd_L_set (v := .ref x) hL2.2.2.1 hl) hF))
    · cases h
  case lstore_n n =>
    simp only [ab_ex] at h
    obtain ⟨hd, hnx⟩ := sd_bd_spec hbd rfl
    subst hnx
    split at h
    · rename_i x r
      rw [ab_set2_eq] at h
      cases h
      simp only [sd_bx, Bool.and_eq_true, beq_iff_eq, decide_eq_true_eq] at hbx
      obtain ⟨rfl, hlt⟩ := hbx
      exact lv_lstore_n hx hb hd rfl (sd_L_has hL2) hlt rfl (fun ls' hl => (k mi y cc ml rt hPm p e R s m args below meth c0 H locs cells slots ls' K1 K2 Qf hC hfr hlo hce hsl hK1 hK2 hex hHp hS (sd_L_set2 (v := .long x) hL2.2.2.1 hlt hl) hF))
    · cases h
  case lstore n =>
    simp only [ab_ex] at h
    obtain ⟨hd, hnx⟩ := sd_bd_spec hbd rfl
    subst hnx
    split at h
    · rename_i x r
      rw [ab_set2_eq] at h
      cases h
      simp only [sd_bx, Bool.and_eq_true, beq_iff_eq, decide_eq_true_eq] at hbx
      obtain ⟨rfl, hlt⟩ := hbx
      exact lv_lstore hx hb hd (sd_L_has hL2) hlt rfl (fun ls' hl => (k mi y cc ml rt hPm p e R s m args below meth c0 H locs cells slots ls' K1 K2 Qf hC hfr hlo hce hsl hK1 hK2 hex hHp hS (sd_L_set2 (v := .long x) hL2.2.2.1 hlt hl) hF))
    · cases h
  case iinc n z =>
    simp only [ab_ex] at h
    obtain ⟨hd, hnx⟩ := sd_bd_spec hbd rfl
    subst hnx
    split at h
    · rename_i x hg
      rw [ab_set_eq] at h
      cases h
      simp only [sd_bx, Bool.and_eq_true, beq_iff_eq, decide_eq_true_eq] at hbx
      obtain ⟨⟨rfl, hlt⟩, rfl⟩ := hbx
      obtain ⟨kp, hkp⟩ := sd_L_pos (X := X) hg
      exact lv_iinc hx hb hd (sd_L_has hL2) hkp rfl hlt rfl (fun ls' hl => (k mi y cc ml rt hPm p e R s m args below meth c0 H locs cells slots ls' K1 K2 Qf hC hfr hlo hce hsl hK1 hK2 hex hHp hS (sd_L_set (v := .int (x + Int32.ofInt z)) hL2.2.2.1 hl) hF))
    · cases h
  case iconst n =>
    simp only [ab_ex] at h
    obtain ⟨hd, hnx⟩ := sd_bd_spec hbd rfl
    subst hnx
    cases h
    simp only [sd_bx, decide_eq_true_eq] at hbx
    exact lv_iconst hx hb hd hbx (k mi y cc ml rt hPm p e R s m args below meth c0 H locs cells slots lsA K1 K2 Qf hC hfr hlo hce hsl hK1 hK2 hex hHp hS hL2 hF)
  case bipush n =>
    simp only [ab_ex] at h
    obtain ⟨hd, hnx⟩ := sd_bd_spec hbd rfl
    subst hnx
    cases h
    simp only [sd_bx, decide_eq_true_eq] at hbx
    exact lv_bipush hx hb hd hbx (k mi y cc ml rt hPm p e R s m args below meth c0 H locs cells slots lsA K1 K2 Qf hC hfr hlo hce hsl hK1 hK2 hex hHp hS hL2 hF)
  case sipush n =>
    simp only [ab_ex] at h
    obtain ⟨hd, hnx⟩ := sd_bd_spec hbd rfl
    subst hnx
    cases h
    simp only [sd_bx, decide_eq_true_eq] at hbx
    exact lv_sipush hx hb hd hbx (k mi y cc ml rt hPm p e R s m args below meth c0 H locs cells slots lsA K1 K2 Qf hC hfr hlo hce hsl hK1 hK2 hex hHp hS hL2 hF)
  case lconst n =>
    simp only [ab_ex] at h
    obtain ⟨hd, hnx⟩ := sd_bd_spec hbd rfl
    subst hnx
    cases h
    simp only [sd_bx, beq_iff_eq] at hbx
    subst hbx
    exact lv_lconst hx hb hd rfl (k mi y cc ml rt hPm p e R s m args below meth c0 H locs cells slots lsA K1 K2 Qf hC hfr hlo hce hsl hK1 hK2 hex hHp hS hL2 hF)
  case ldc n =>
    simp only [ab_ex] at h
    obtain ⟨hd, hnx⟩ := sd_bd_spec hbd rfl
    subst hnx
    cases hc : Nat.beq c 0 with
    | true =>
      rw [hc] at h
      cases h
      have hc0 := Nat.eq_of_beq_eq_true hc
      subst hc0
      exact lv_ldc hx hb hown (hts _ (hwd _ (by simp [sd_w]))) hd (k mi y cc ml rt hPm p e R s m args below meth c0 H locs cells slots lsA K1 K2 Qf hC hfr hlo hce hsl hK1 hK2 hex hHp hS hL2 hF)
    | false =>
      rw [hc] at h
      cases h
      simp only [sd_bx, hc, Bool.false_or, List.any_eq_true, Bool.and_eq_true, beq_iff_eq, decide_eq_true_eq] at hbx
      obtain ⟨⟨q1, q2, q3, q4⟩, hq, ⟨⟨e1, e2⟩, e3⟩, e4⟩ := hbx
      dsimp only at e1 e2 e3 e4
      subst e1; subst e2; subst e3
      have hz := hC.2.2.2.2.2.2.1.2.2.1 _ hq
      have ea : sd_ad X (1000 + q4) = sd_aS X q4 := by
        unfold sd_ad
        rw [if_neg (by omega), if_pos (by omega), Nat.add_sub_cancel_left]
      refine va_ldcS hx hb hown hz hd ?_
      have kk2 := (k mi y cc ml rt hPm p e R s m args below meth c0 H locs cells slots lsA K1 K2 Qf hC hfr hlo hce hsl hK1 hK2 hex hHp hS hL2 hF)
      have e5 : sd_cv X (.ref (1000 + q4)) = .ref (sd_aS X q4) := by rw [← ea]; rfl
      simp only [List.map_cons, e5] at kk2
      exact kk2
  case ldc_w n =>
    simp only [ab_ex] at h
    obtain ⟨hd, hnx⟩ := sd_bd_spec hbd rfl
    subst hnx
    cases h
    exact lv_ldcw hx hb hown (hts _ (hwd _ (by simp [sd_w]))) hd (k mi y cc ml rt hPm p e R s m args below meth c0 H locs cells slots lsA K1 K2 Qf hC hfr hlo hce hsl hK1 hK2 hex hHp hS hL2 hF)
  case ldc2_w n =>
    simp only [ab_ex] at h
    obtain ⟨hd, hnx⟩ := sd_bd_spec hbd rfl
    subst hnx
    cases h
    exact lv_ldc2 hx hb hown (hts _ (hwd _ (by simp [sd_w]))) hd (k mi y cc ml rt hPm p e R s m args below meth c0 H locs cells slots lsA K1 K2 Qf hC hfr hlo hce hsl hK1 hK2 hex hHp hS hL2 hF)
  case iadd =>
    simp only [ab_ex] at h
    obtain ⟨hd, hnx⟩ := sd_bd_spec hbd rfl
    subst hnx
    split at h
    · rename_i z2 z1 r
      cases h
      exact lv_iadd hx hb hd (k mi y cc ml rt hPm p e R s m args below meth c0 H locs cells slots lsA K1 K2 Qf hC hfr hlo hce hsl hK1 hK2 hex hHp hS hL2 hF)
    · cases h
  case isub =>
    simp only [ab_ex] at h
    obtain ⟨hd, hnx⟩ := sd_bd_spec hbd rfl
    subst hnx
    split at h
    · rename_i z2 z1 r
      cases h
      exact lv_isub hx hb hd (k mi y cc ml rt hPm p e R s m args below meth c0 H locs cells slots lsA K1 K2 Qf hC hfr hlo hce hsl hK1 hK2 hex hHp hS hL2 hF)
    · cases h
  case imul =>
    simp only [ab_ex] at h
    obtain ⟨hd, hnx⟩ := sd_bd_spec hbd rfl
    subst hnx
    split at h
    · rename_i z2 z1 r
      cases h
      exact lv_imul hx hb hd (k mi y cc ml rt hPm p e R s m args below meth c0 H locs cells slots lsA K1 K2 Qf hC hfr hlo hce hsl hK1 hK2 hex hHp hS hL2 hF)
    · cases h
  case iand =>
    simp only [ab_ex] at h
    obtain ⟨hd, hnx⟩ := sd_bd_spec hbd rfl
    subst hnx
    split at h
    · rename_i z2 z1 r
      cases h
      exact lv_iand hx hb hd (k mi y cc ml rt hPm p e R s m args below meth c0 H locs cells slots lsA K1 K2 Qf hC hfr hlo hce hsl hK1 hK2 hex hHp hS hL2 hF)
    · cases h
  case ior =>
    simp only [ab_ex] at h
    obtain ⟨hd, hnx⟩ := sd_bd_spec hbd rfl
    subst hnx
    split at h
    · rename_i z2 z1 r
      cases h
      exact lv_ior hx hb hd (k mi y cc ml rt hPm p e R s m args below meth c0 H locs cells slots lsA K1 K2 Qf hC hfr hlo hce hsl hK1 hK2 hex hHp hS hL2 hF)
    · cases h
  case ixor =>
    simp only [ab_ex] at h
    obtain ⟨hd, hnx⟩ := sd_bd_spec hbd rfl
    subst hnx
    split at h
    · rename_i z2 z1 r
      cases h
      exact lv_ixor hx hb hd (k mi y cc ml rt hPm p e R s m args below meth c0 H locs cells slots lsA K1 K2 Qf hC hfr hlo hce hsl hK1 hK2 hex hHp hS hL2 hF)
    · cases h
  case ishl =>
    simp only [ab_ex] at h
    obtain ⟨hd, hnx⟩ := sd_bd_spec hbd rfl
    subst hnx
    split at h
    · rename_i z2 z1 r
      cases h
      exact lv_ishl hx hb hd (k mi y cc ml rt hPm p e R s m args below meth c0 H locs cells slots lsA K1 K2 Qf hC hfr hlo hce hsl hK1 hK2 hex hHp hS hL2 hF)
    · cases h
  case ishr =>
    simp only [ab_ex] at h
    obtain ⟨hd, hnx⟩ := sd_bd_spec hbd rfl
    subst hnx
    split at h
    · rename_i z2 z1 r
      cases h
      exact lv_ishr hx hb hd (k mi y cc ml rt hPm p e R s m args below meth c0 H locs cells slots lsA K1 K2 Qf hC hfr hlo hce hsl hK1 hK2 hex hHp hS hL2 hF)
    · cases h
  case lsub =>
    simp only [ab_ex] at h
    obtain ⟨hd, hnx⟩ := sd_bd_spec hbd rfl
    subst hnx
    split at h
    · rename_i z2 z1 r
      cases h
      exact lv_lsub hx hb hd (k mi y cc ml rt hPm p e R s m args below meth c0 H locs cells slots lsA K1 K2 Qf hC hfr hlo hce hsl hK1 hK2 hex hHp hS hL2 hF)
    · cases h
  case land =>
    simp only [ab_ex] at h
    obtain ⟨hd, hnx⟩ := sd_bd_spec hbd rfl
    subst hnx
    split at h
    · rename_i z2 z1 r
      cases h
      exact lv_land hx hb hd (k mi y cc ml rt hPm p e R s m args below meth c0 H locs cells slots lsA K1 K2 Qf hC hfr hlo hce hsl hK1 hK2 hex hHp hS hL2 hF)
    · cases h
  case lor =>
    simp only [ab_ex] at h
    obtain ⟨hd, hnx⟩ := sd_bd_spec hbd rfl
    subst hnx
    split at h
    · rename_i z2 z1 r
      cases h
      exact lv_lor hx hb hd (k mi y cc ml rt hPm p e R s m args below meth c0 H locs cells slots lsA K1 K2 Qf hC hfr hlo hce hsl hK1 hK2 hex hHp hS hL2 hF)
    · cases h
  case lcmp =>
    simp only [ab_ex] at h
    obtain ⟨hd, hnx⟩ := sd_bd_spec hbd rfl
    subst hnx
    split at h
    · rename_i z2 z1 r
      cases h
      exact W.lcmp hx hb hd (k mi y cc ml rt hPm p e R s m args below meth c0 H locs cells slots lsA K1 K2 Qf hC hfr hlo hce hsl hK1 hK2 hex hHp hS hL2 hF)
    · cases h
  case iushr =>
    simp only [ab_ex] at h
    obtain ⟨hd, hnx⟩ := sd_bd_spec hbd rfl
    subst hnx
    split at h
    · rename_i z2 z1 r
      cases h
      exact lv_iushr hx hb hd rfl (k mi y cc ml rt hPm p e R s m args below meth c0 H locs cells slots lsA K1 K2 Qf hC hfr hlo hce hsl hK1 hK2 hex hHp hS hL2 hF)
    · cases h
  case lshl =>
    simp only [ab_ex] at h
    obtain ⟨hd, hnx⟩ := sd_bd_spec hbd rfl
    subst hnx
    split at h
    · rename_i z2 z1 r
      cases h
      exact lv_lshl hx hb hd rfl (k mi y cc ml rt hPm p e R s m args below meth c0 H locs cells slots lsA K1 K2 Qf hC hfr hlo hce hsl hK1 hK2 hex hHp hS hL2 hF)
    · cases h
  case lshr =>
    simp only [ab_ex] at h
    obtain ⟨hd, hnx⟩ := sd_bd_spec hbd rfl
    subst hnx
    split at h
    · rename_i z2 z1 r
      cases h
      exact lv_lshr hx hb hd rfl (k mi y cc ml rt hPm p e R s m args below meth c0 H locs cells slots lsA K1 K2 Qf hC hfr hlo hce hsl hK1 hK2 hex hHp hS hL2 hF)
    · cases h
  case lushr =>
    simp only [ab_ex] at h
    obtain ⟨hd, hnx⟩ := sd_bd_spec hbd rfl
    subst hnx
    split at h
    · rename_i z2 z1 r
      cases h
      exact lv_lushr hx hb hd rfl (k mi y cc ml rt hPm p e R s m args below meth c0 H locs cells slots lsA K1 K2 Qf hC hfr hlo hce hsl hK1 hK2 hex hHp hS hL2 hF)
    · cases h
  case idiv =>
    simp only [ab_ex] at h
    obtain ⟨hd, hnx⟩ := sd_bd_spec hbd rfl
    subst hnx
    split at h
    · rename_i z2 z1 r
      cases h
      exact lv_idiv hx hb hd ho (k mi y cc ml rt hPm p e R s m args below meth c0 H locs cells slots lsA K1 K2 Qf hC hfr hlo hce hsl hK1 hK2 hex hHp hS hL2 hF)
    · cases h
  case irem =>
    simp only [ab_ex] at h
    obtain ⟨hd, hnx⟩ := sd_bd_spec hbd rfl
    subst hnx
    split at h
    · rename_i z2 z1 r
      cases h
      exact lv_irem hx hb hd ho (k mi y cc ml rt hPm p e R s m args below meth c0 H locs cells slots lsA K1 K2 Qf hC hfr hlo hce hsl hK1 hK2 hex hHp hS hL2 hF)
    · cases h
  case ineg =>
    simp only [ab_ex] at h
    obtain ⟨hd, hnx⟩ := sd_bd_spec hbd rfl
    subst hnx
    split at h
    · rename_i x r
      cases h
      exact lv_ineg hx hb hd (k mi y cc ml rt hPm p e R s m args below meth c0 H locs cells slots lsA K1 K2 Qf hC hfr hlo hce hsl hK1 hK2 hex hHp hS hL2 hF)
    · cases h
  case lneg =>
    simp only [ab_ex] at h
    obtain ⟨hd, hnx⟩ := sd_bd_spec hbd rfl
    subst hnx
    split at h
    · rename_i x r
      cases h
      exact lv_lneg hx hb hd (k mi y cc ml rt hPm p e R s m args below meth c0 H locs cells slots lsA K1 K2 Qf hC hfr hlo hce hsl hK1 hK2 hex hHp hS hL2 hF)
    · cases h
  case i2l =>
    simp only [ab_ex] at h
    obtain ⟨hd, hnx⟩ := sd_bd_spec hbd rfl
    subst hnx
    split at h
    · rename_i x r
      cases h
      exact lv_i2l hx hb hd rfl (k mi y cc ml rt hPm p e R s m args below meth c0 H locs cells slots lsA K1 K2 Qf hC hfr hlo hce hsl hK1 hK2 hex hHp hS hL2 hF)
    · cases h
  case l2i =>
    simp only [ab_ex] at h
    obtain ⟨hd, hnx⟩ := sd_bd_spec hbd rfl
    subst hnx
    split at h
    · rename_i x r
      cases h
      exact lv_l2i hx hb hd rfl (k mi y cc ml rt hPm p e R s m args below meth c0 H locs cells slots lsA K1 K2 Qf hC hfr hlo hce hsl hK1 hK2 hex hHp hS hL2 hF)
    · cases h
  case i2b =>
    simp only [ab_ex] at h
    obtain ⟨hd, hnx⟩ := sd_bd_spec hbd rfl
    subst hnx
    split at h
    · rename_i x r
      cases h
      exact lv_i2b hx hb hd rfl (k mi y cc ml rt hPm p e R s m args below meth c0 H locs cells slots lsA K1 K2 Qf hC hfr hlo hce hsl hK1 hK2 hex hHp hS hL2 hF)
    · cases h
  case i2s =>
    simp only [ab_ex] at h
    obtain ⟨hd, hnx⟩ := sd_bd_spec hbd rfl
    subst hnx
    split at h
    · rename_i x r
      cases h
      exact lv_i2s hx hb hd rfl (k mi y cc ml rt hPm p e R s m args below meth c0 H locs cells slots lsA K1 K2 Qf hC hfr hlo hce hsl hK1 hK2 hex hHp hS hL2 hF)
    · cases h
  case i2c =>
    simp only [ab_ex] at h
    obtain ⟨hd, hnx⟩ := sd_bd_spec hbd rfl
    subst hnx
    split at h
    · rename_i x r
      cases h
      exact lv_i2c hx hb hd rfl (k mi y cc ml rt hPm p e R s m args below meth c0 H locs cells slots lsA K1 K2 Qf hC hfr hlo hce hsl hK1 hK2 hex hHp hS hL2 hF)
    · cases h
  case dup =>
    simp only [ab_ex] at h
    obtain ⟨hd, hnx⟩ := sd_bd_spec hbd rfl
    subst hnx
    split at h
    · rename_i x r
      cases h
      exact lv_dup hx hb hd rfl (k mi y cc ml rt hPm p e R s m args below meth c0 H locs cells slots lsA K1 K2 Qf hC hfr hlo hce hsl hK1 hK2 hex hHp hS hL2 hF)
    · rename_i x r
      cases h
      exact lv_dup hx hb hd rfl (k mi y cc ml rt hPm p e R s m args below meth c0 H locs cells slots lsA K1 K2 Qf hC hfr hlo hce hsl hK1 hK2 hex hHp hS hL2 hF)
    · cases h
  case dup2 =>
    simp only [ab_ex] at h
    obtain ⟨hd, hnx⟩ := sd_bd_spec hbd rfl
    subst hnx
    split at h
    · rename_i z2 z1 r
      cases h
      exact lv_dup2_11 hx hb hd rfl rfl (k mi y cc ml rt hPm p e R s m args below meth c0 H locs cells slots lsA K1 K2 Qf hC hfr hlo hce hsl hK1 hK2 hex hHp hS hL2 hF)
    · rename_i z2 z1 r
      cases h
      exact lv_dup2_11 hx hb hd rfl rfl (k mi y cc ml rt hPm p e R s m args below meth c0 H locs cells slots lsA K1 K2 Qf hC hfr hlo hce hsl hK1 hK2 hex hHp hS hL2 hF)
    · cases h
  case pop =>
    simp only [ab_ex] at h
    obtain ⟨hd, hnx⟩ := sd_bd_spec hbd rfl
    subst hnx
    split at h
    · rename_i x r
      cases h
      exact lv_pop hx hb hd rfl (k mi y cc ml rt hPm p e R s m args below meth c0 H locs cells slots lsA K1 K2 Qf hC hfr hlo hce hsl hK1 hK2 hex hHp hS hL2 hF)
    · rename_i x r
      cases h
      exact lv_pop hx hb hd rfl (k mi y cc ml rt hPm p e R s m args below meth c0 H locs cells slots lsA K1 K2 Qf hC hfr hlo hce hsl hK1 hK2 hex hHp hS hL2 hF)
    · cases h
  case goto z =>
    simp only [ab_ex] at h
    obtain ⟨hd, -⟩ := sd_bd_spec hbd rfl
    cases h
    simp only [sd_bx, decide_eq_true_eq] at hbx
    exact lv_goto hx hb hd hbx (k mi y cc ml rt hPm p e R s m args below meth c0 H locs cells slots lsA K1 K2 Qf hC hfr hlo hce hsl hK1 hK2 hex hHp hS hL2 hF)
  case getstatic n =>
    simp only [ab_ex] at h
    obtain ⟨hd, hnx⟩ := sd_bd_spec hbd rfl
    subst hnx
    cases h
    simp only [sd_bx, decide_eq_true_eq] at hbx
    subst hbx
    exact va_gets hx hb hC.2.2.2.2.2.2.1.2.2.2.2.1 hS hown (hts _ (hwd _ (by simp [sd_w]))) (fun _ z => z) hd (k mi y cc ml rt hPm p e R s m args below meth c0 H locs cells slots lsA K1 K2 Qf hC hfr hlo hce hsl hK1 hK2 hex hHp hS hL2 hF)
  case getfield n =>
    simp only [ab_ex] at h
    obtain ⟨hd, hnx⟩ := sd_bd_spec hbd rfl
    subst hnx
    split at h
    · rename_i q r
      split at h
      · cases h
        have hbx' : b < 12 ∧ a < sd_nf b ∧ sd_kd b a = 0 := by simpa [sd_bx, and_assoc] using hbx
        obtain ⟨hb12, han, hkd⟩ := hbx'
        obtain ⟨hlt, hat⟩ := sd_obj (X := X) (i := i) hHp ho (show b < 100 by omega)
        have e1 : sd_cv X (.ref q) = .ref (sd_ba X + q) := by rw [← sd_adq hHp hlt]; rfl
        have e0 : sd_fv X i g b q a = .int (i q a) := by unfold sd_fv; rw [if_pos hkd]
        rw [List.map_cons, e1]
        exact va_get hx hb hts (sd_hin b hb12) hown hC.2.2.2.2.2.2.1.1 hHp.2.2.2.1 q hat (sd_clq hb12) a (by rw [sd_N b hb12]; exact han) (hts _ (hwd _ (by simp [sd_w]))) (fun _ z => z) (by rw [sd_fs_get han, e0]; rfl) hd (k mi y cc ml rt hPm p e R s m args below meth c0 H locs cells slots lsA K1 K2 Qf hC hfr hlo hce hsl hK1 hK2 hex hHp hS hL2 hF)
      · cases h
        obtain ⟨ho, ho2⟩ := ho
        have hbx' : b < 12 ∧ a < sd_nf b ∧ sd_kd b a = 1 := by simpa [sd_bx, and_assoc] using hbx
        obtain ⟨hb12, han, hkd⟩ := hbx'
        obtain ⟨hlt, hat⟩ := sd_obj (X := X) (i := i) hHp ho (show b < 100 by omega)
        have e1 : sd_cv X (.ref q) = .ref (sd_ba X + q) := by rw [← sd_adq hHp hlt]; rfl
        have e0 : sd_fv X i g b q a = .ref (sd_ad X (ab_gr g q a)) := by unfold sd_fv sd_rf; rw [if_neg (by rw [hkd]; decide), if_pos hkd, if_neg ho2]; rfl
        rw [List.map_cons, e1]
        exact va_get hx hb hts (sd_hin b hb12) hown hC.2.2.2.2.2.2.1.1 hHp.2.2.2.1 q hat (sd_clq hb12) a (by rw [sd_N b hb12]; exact han) (hts _ (hwd _ (by simp [sd_w]))) (fun _ z => z) (by rw [sd_fs_get han, e0]; rfl) hd (k mi y cc ml rt hPm p e R s m args below meth c0 H locs cells slots lsA K1 K2 Qf hC hfr hlo hce hsl hK1 hK2 hex hHp hS hL2 hF)
      · cases h
        obtain ⟨ho, ho2⟩ := ho
        have hbx' : b < 12 ∧ a < sd_nf b ∧ sd_kd b a = 2 := by simpa [sd_bx, and_assoc] using hbx
        obtain ⟨hb12, han, hkd⟩ := hbx'
        obtain ⟨hlt, hat⟩ := sd_obj (X := X) (i := i) hHp ho (show b < 100 by omega)
        have e1 : sd_cv X (.ref q) = .ref (sd_ba X + q) := by rw [← sd_adq hHp hlt]; rfl
        have hne : ¬ i q a = 0 := fun z => by rw [z] at ho2; exact absurd ho2 (by decide)
        have e0 : sd_fv X i g b q a = .ref (sd_ad X (999 + (i q a).toNatClampNeg)) := by unfold sd_fv sd_sv; rw [if_neg (by rw [hkd]; decide), if_neg (by rw [hkd]; decide), if_neg hne]
        rw [List.map_cons, e1]
        exact va_get hx hb hts (sd_hin b hb12) hown hC.2.2.2.2.2.2.1.1 hHp.2.2.2.1 q hat (sd_clq hb12) a (by rw [sd_N b hb12]; exact han) (hts _ (hwd _ (by simp [sd_w]))) (fun _ z => z) (by rw [sd_fs_get han, e0]; rfl) hd (k mi y cc ml rt hPm p e R s m args below meth c0 H locs cells slots lsA K1 K2 Qf hC hfr hlo hce hsl hK1 hK2 hex hHp hS hL2 hF)
      · cases h
        obtain ⟨k0, hk0, e01, e02⟩ := sd_t8 ho
        have e1 : sd_cv X (.ref q) = .ref (sd_aS X k0) := by rw [e01]; exact sd_cvS hk0
        have e2 : sd_cv X (.ref (q + 100)) = .ref (sd_aB X k0) := by rw [e02]; exact sd_cvB hk0
        have K := (k mi y cc ml rt hPm p e R s m args below meth c0 H locs cells slots lsA K1 K2 Qf hC hfr hlo hce hsl hK1 hK2 hex hHp hS hL2 hF)
        dsimp only at K
        rw [List.map_cons, e2] at K
        rw [List.map_cons, e1]
        exact vk_getf hx hb ((hCW.2.2.2.1.1 k0 hk0).2.2.1) hS hown (hts _ (hwd _ (by simp [sd_w]))) (fun _ z => z) hd K
      · cases h
        obtain ⟨k0, hk0, e01, e02⟩ := sd_t8 ho
        have e1 : sd_cv X (.ref q) = .ref (sd_aS X k0) := by rw [e01]; exact sd_cvS hk0
        rw [List.map_cons, e1]
        exact vk_getf hx hb ((hCW.2.2.2.1.1 k0 hk0).2.1) hS hown (hts _ (hwd _ (by simp [sd_w]))) (fun _ z => z) hd (k mi y cc ml rt hPm p e R s m args below meth c0 H locs cells slots lsA K1 K2 Qf hC hfr hlo hce hsl hK1 hK2 hex hHp hS hL2 hF)
      · cases h
    · cases h
  case putfield n =>
    simp only [ab_ex] at h
    obtain ⟨hd, hnx⟩ := sd_bd_spec hbd rfl
    subst hnx
    split at h
    · rename_i x q r
      split at h
      · cases h
        have hbx' : b < 12 ∧ a < sd_nf b ∧ sd_kd b a = 0 ∧ sd_ty b a = .int ∧ ((sd_cl b).2.1 a).2.2.2 = false := by simpa [sd_bx, and_assoc] using hbx
        obtain ⟨hb12, han, hkd, hty, hfin⟩ := hbx'
        obtain ⟨hlt, hat⟩ := sd_obj (X := X) (i := i) hHp ho (show b < 100 by omega)
        have e1 : sd_cv X (.ref q) = .ref (sd_ba X + q) := by rw [← sd_adq hHp hlt]; rfl
        have han' : a < (sd_cl b).2.2 := by rw [sd_N b hb12]; exact han
        rw [List.map_cons, List.map_cons, e1]
        refine va_put hx hb hts (sd_hin b hb12) (sd_ty b) (sd_hty b hb12) (sd_hnm b hb12) hown hCW.1 hHp.2.2.2.1 hD hS q hat (sd_clq hb12) a han' (hts _ (hwd _ (by simp [sd_w]))) (fun _ z => z) hfin (sd_hty b hb12 a han') (by rw [hty]; exact rfl) (by rw [hty]; exact rfl) (by rw [sd_fs_len]; exact han) hd (fun H1 locs1 hP1 hD1 hS1 => sd_sz fun hz => ?_)
        have hfv : sd_fv X (ab_up i q a (x)) g b q a = sd_cv X (.int x) := by
          unfold sd_fv
          have e2 : ab_up i q a (x) q a = x := by unfold ab_up; rw [if_pos ⟨rfl, rfl⟩]
          rw [if_pos hkd, e2]; rfl
        rw [sd_wput ho (show b < 100 by omega) han hlt hfv] at hP1
        have hH1 : sd_Hp X (ab_up i q a (x)) g H1 := sd_Hp_up hHp hlt (Nat.le_trans hba hS1.1) (by omega) (fun a' j ha' => ab_up_ne ha') hP1
        exact (k mi y cc ml rt hPm p e R s m args below meth c0 H1 locs1 cells slots lsA K1 K2 Qf hC hfr hlo hce hsl hK1 hK2 hex hH1 hS1 hL2 hF)
      · cases h
        obtain ⟨ho, ho2⟩ := ho
        have hbx' : b < 12 ∧ a < sd_nf b ∧ sd_kd b a = 0 ∧ sd_ty b a = .boolean ∧ ((sd_cl b).2.1 a).2.2.2 = false := by simpa [sd_bx, and_assoc] using hbx
        obtain ⟨hb12, han, hkd, hty, hfin⟩ := hbx'
        obtain ⟨hlt, hat⟩ := sd_obj (X := X) (i := i) hHp ho (show b < 100 by omega)
        have e1 : sd_cv X (.ref q) = .ref (sd_ba X + q) := by rw [← sd_adq hHp hlt]; rfl
        have han' : a < (sd_cl b).2.2 := by rw [sd_N b hb12]; exact han
        rw [List.map_cons, List.map_cons, e1]
        refine va_put hx hb hts (sd_hin b hb12) (sd_ty b) (sd_hty b hb12) (sd_hnm b hb12) hown hCW.1 hHp.2.2.2.1 hD hS q hat (sd_clq hb12) a han' (hts _ (hwd _ (by simp [sd_w]))) (fun _ z => z) hfin (sd_hty b hb12 a han') (by rw [hty]; exact (sd_nar5 ho2).1) (by rw [hty]; exact (sd_nar5 ho2).2) (by rw [sd_fs_len]; exact han) hd (fun H1 locs1 hP1 hD1 hS1 => sd_sz fun hz => ?_)
        have hfv : sd_fv X (ab_up i q a (x)) g b q a = sd_cv X (.int x) := by
          unfold sd_fv
          have e2 : ab_up i q a (x) q a = x := by unfold ab_up; rw [if_pos ⟨rfl, rfl⟩]
          rw [if_pos hkd, e2]; rfl
        rw [sd_wput ho (show b < 100 by omega) han hlt hfv] at hP1
        have hH1 : sd_Hp X (ab_up i q a (x)) g H1 := sd_Hp_up hHp hlt (Nat.le_trans hba hS1.1) (by omega) (fun a' j ha' => ab_up_ne ha') hP1
        exact (k mi y cc ml rt hPm p e R s m args below meth c0 H1 locs1 cells slots lsA K1 K2 Qf hC hfr hlo hce hsl hK1 hK2 hex hH1 hS1 hL2 hF)
      · cases h
    · rename_i y0 q r
      split at h
      · cases h
        obtain ⟨ho, ho2⟩ := ho
        have hbx' : b < 12 ∧ a < sd_nf b ∧ sd_kd b a = 2 ∧ sd_ty b a = .object "java/lang/String" ∧ ((sd_cl b).2.1 a).2.2.2 = false := by simpa [sd_bx, and_assoc] using hbx
        obtain ⟨hb12, han, hkd, hty, hfin⟩ := hbx'
        obtain ⟨hlt, hat⟩ := sd_obj (X := X) (i := i) hHp ho (show b < 100 by omega)
        have e1 : sd_cv X (.ref q) = .ref (sd_ba X + q) := by rw [← sd_adq hHp hlt]; rfl
        have han' : a < (sd_cl b).2.2 := by rw [sd_N b hb12]; exact han
        rw [List.map_cons, List.map_cons, e1]
        refine va_put hx hb hts (sd_hin b hb12) (sd_ty b) (sd_hty b hb12) (sd_hnm b hb12) hown hCW.1 hHp.2.2.2.1 hD hS q hat (sd_clq hb12) a han' (hts _ (hwd _ (by simp [sd_w]))) (fun _ z => z) hfin (sd_hty b hb12 a han') (by rw [hty]; exact rfl) (by rw [hty]; exact rfl) (by rw [sd_fs_len]; exact han) hd (fun H1 locs1 hP1 hD1 hS1 => sd_sz fun hz => ?_)
        have hfv : sd_fv X (ab_up i q a (nI (y0 - 999))) g b q a = sd_cv X (.ref y0) := by
          unfold sd_fv
          have e2 : ab_up i q a (nI (y0 - 999)) q a = nI (y0 - 999) := by unfold ab_up; rw [if_pos ⟨rfl, rfl⟩]
          rw [if_neg (by rw [hkd]; decide), if_neg (by rw [hkd]; decide), e2]; exact sd_sv_put ho2
        rw [sd_wput ho (show b < 100 by omega) han hlt hfv] at hP1
        have hH1 : sd_Hp X (ab_up i q a (nI (y0 - 999))) g H1 := sd_Hp_up hHp hlt (Nat.le_trans hba hS1.1) (by omega) (fun a' j ha' => ab_up_ne ha') hP1
        exact (k mi y cc ml rt hPm p e R s m args below meth c0 H1 locs1 cells slots lsA K1 K2 Qf hC hfr hlo hce hsl hK1 hK2 hex hH1 hS1 hL2 hF)
      · cases h
    · cases h
  case iaload =>
    simp only [ab_ex] at h
    obtain ⟨hd, hnx⟩ := sd_bd_spec hbd rfl
    subst hnx
    split at h
    · rename_i z1 q r
      split at h
      · cases h
        obtain ⟨n, ht, hin1⟩ := ho
        have hlt : q < ab_gn g := sd_lt hHp (by rw [ht]; show 100 < 9000; omega)
        have hat : (sd_ws X i g)[q]? = some (sd_ba X + q, .inl (sd_cI X, n, .inl (i q))) := by rw [sd_at hlt, sd_ce_row ht]
        have e1 : sd_cv X (.ref q) = .ref (sd_ba X + q) := by rw [← sd_adq hHp hlt]; rfl
        rw [List.map_cons, List.map_cons, e1]
        exact va_iald hx hb hCW.1 hHp.2.2.2.1 q 0 hat rfl (vp_in_iff.mpr hin1) hd (k mi y cc ml rt hPm p e R s m args below meth c0 H locs cells slots lsA K1 K2 Qf hC hfr hlo hce hsl hK1 hK2 hex hHp hS hL2 hF)
      · cases h
        obtain ⟨hq, hin1⟩ := ho
        subst hq
        have eL : (i 1201 0).toNatClampNeg = sd_sl X := by rw [hHp.2.2.2.2.2.1, nI_clamp hHp.2.2.2.2.2.2]
        rw [eL] at hin1
        have K := (k mi y cc ml rt hPm p e R s m args below meth c0 H locs cells slots lsA K1 K2 Qf hC hfr hlo hce hsl hK1 hK2 hex hHp hS hL2 hF)
        dsimp only at K
        rw [hHp.2.2.2.2.1 z1.toNatClampNeg] at K
        exact va_sld hx hb hCW.2.2.2.2.2.2.1 hCW.2.2.2.2.2.2.2.1 hCW.2.2.2.2.2.2.2.2 hS (vp_in_iff.mpr hin1) hd K
    · cases h
  case baload =>
    simp only [ab_ex] at h
    obtain ⟨hd, hnx⟩ := sd_bd_spec hbd rfl
    subst hnx
    split at h
    · rename_i z1 q r
      cases h
      obtain ⟨hq1, hq2, hin1⟩ := ho
      obtain ⟨k0, hk0, e01⟩ : ∃ k0 : Nat, k0 < 8 ∧ q = 1100 + k0 := sd_t9 hq1 hq2
      have e02 : q - 1100 = k0 := sd_t10 e01
      rw [e02] at k hin1
      have e1 : sd_cv X (.ref q) = .ref (sd_aB X k0) := by rw [e01]; exact sd_cvB hk0
      have hj : z1.toNatClampNeg < ab_txL k0 := sd_inN hin1
      rw [List.map_cons, List.map_cons, e1]
      refine va_tb hx hb ((hCW.2.2.2.1.1 k0 hk0).2.2.2) hS (vp_in_iff.mpr (by rw [sd_lnt k0 hk0]; exact hin1)) (v := .int (ab_txB k0 z1.toNatClampNeg)) (by rw [sd_byt k0 hk0 _ hj]) hd ?_
      exact (k mi y cc ml rt hPm p e R s m args below meth c0 H locs cells slots lsA K1 K2 Qf hC hfr hlo hce hsl hK1 hK2 hex hHp hS hL2 hF)
    · cases h
  case iastore =>
    simp only [ab_ex] at h
    obtain ⟨hd, hnx⟩ := sd_bd_spec hbd rfl
    subst hnx
    split at h
    · rename_i z2 z1 q r
      cases h
      obtain ⟨n, ht, hin1⟩ := ho
      have hlt : q < ab_gn g := sd_lt hHp (by rw [ht]; show 100 < 9000; omega)
      have hat : (sd_ws X i g)[q]? = some (sd_ba X + q, .inl (sd_cI X, n, .inl (i q))) := by rw [sd_at hlt, sd_ce_row ht]
      have e1 : sd_cv X (.ref q) = .ref (sd_ba X + q) := by rw [← sd_adq hHp hlt]; rfl
      rw [List.map_cons, List.map_cons, List.map_cons, e1]
      refine va_iast hx hb hCW.1 hHp.2.2.2.1 hD hS q 0 hat rfl (vp_in_iff.mpr hin1) hd (fun H1 locs1 hP1 hD1 hS1 => sd_sz fun hz => ?_)
      rw [sd_wset (i' := ab_up i q z1.toNatClampNeg z2) (g' := g) hlt rfl (by rw [sd_ce_row ht, ab_up_row]) (fun a' ha' => sd_ce_same (fun j => ab_up_ne ha') (fun _ => rfl) rfl)] at hP1
      have hH1 : sd_Hp X (ab_up i q z1.toNatClampNeg z2) g H1 := sd_Hp_up hHp hlt (Nat.le_trans hba hS1.1) (by omega) (fun a' j ha' => ab_up_ne ha') hP1
      exact (k mi y cc ml rt hPm p e R s m args below meth c0 H1 locs1 cells slots lsA K1 K2 Qf hC hfr hlo hce hsl hK1 hK2 hex hH1 hS1 hL2 hF)
    · cases h
  case aaload =>
    simp only [ab_ex] at h
    obtain ⟨hd, hnx⟩ := sd_bd_spec hbd rfl
    subst hnx
    split at h
    · rename_i z1 q r
      cases h
      obtain ⟨⟨n, ht, hin1⟩, hne⟩ := ho
      have hb4 := sd_el_of (show sd_el b = true from hbx)
      have hlt : q < ab_gn g := sd_lt hHp (by rw [ht]; show 101 + b < 9000; omega)
      have hat : (sd_ws X i g)[q]? = some (sd_ba X + q, .inl (sd_cA X b, n, .inr (.inr (.inr (.inr (sd_rf X g q)))))) := by rw [sd_at hlt, sd_ce_arr ht]
      have e1 : sd_cv X (.ref q) = .ref (sd_ba X + q) := by rw [← sd_adq hHp hlt]; rfl
      have e2 : va_rf (sd_rf X g q z1.toNatClampNeg) = sd_cv X (.ref (ab_gr g q z1.toNatClampNeg)) := by unfold sd_rf; rw [if_neg hne]; rfl
      rw [List.map_cons, List.map_cons, e1]
      have K := (k mi y cc ml rt hPm p e R s m args below meth c0 H locs cells slots lsA K1 K2 Qf hC hfr hlo hce hsl hK1 hK2 hex hHp hS hL2 hF)
      dsimp only at K
      rw [List.map_cons, ← e2] at K
      rcases hb4 with rfl | rfl | rfl | rfl
      · exact va_aldq hx hb hCW.1 hHp.2.2.2.1 q 1 hat rfl (vp_in_iff.mpr hin1) hd K
      · exact va_aldq hx hb hCW.1 hHp.2.2.2.1 q 2 hat rfl (vp_in_iff.mpr hin1) hd K
      · exact va_aldq hx hb hCW.1 hHp.2.2.2.1 q 4 hat rfl (vp_in_iff.mpr hin1) hd K
      · exact va_aldq hx hb hCW.1 hHp.2.2.2.1 q 3 hat rfl (vp_in_iff.mpr hin1) hd K
    · cases h
  case arraylength =>
    simp only [ab_ex] at h
    obtain ⟨hd, hnx⟩ := sd_bd_spec hbd rfl
    subst hnx
    split at h
    · rename_i q r
      split at h
      · cases h
        have ho : (ab_gt g q).1 = 100 := ho
        have hlt : q < ab_gn g := sd_lt hHp (by rw [ho]; omega)
        have hat : (sd_ws X i g)[q]? = some (sd_ba X + q, .inl (sd_cI X, (ab_gt g q).2, .inl (i q))) := by rw [sd_at hlt, sd_ce_row (n := (ab_gt g q).2) (by rw [← ho])]
        have e1 : sd_cv X (.ref q) = .ref (sd_ba X + q) := by rw [← sd_adq hHp hlt]; rfl
        rw [List.map_cons, e1]
        exact va_alen hx hb hCW.1 hHp.2.2.2.1 q 0 hat rfl rfl hd (k mi y cc ml rt hPm p e R s m args below meth c0 H locs cells slots lsA K1 K2 Qf hC hfr hlo hce hsl hK1 hK2 hex hHp hS hL2 hF)
      · cases h
        have ho : q = 1200 := ho
        subst ho
        have K := (k mi y cc ml rt hPm p e R s m args below meth c0 H locs cells slots lsA K1 K2 Qf hC hfr hlo hce hsl hK1 hK2 hex hHp hS hL2 hF)
        dsimp only at K
        rw [hHp.2.2.2.2.2.1] at K
        exact va_slen hx hb hCW.2.2.2.2.2.2.1 hCW.2.2.2.2.2.2.2.1 hCW.2.2.2.2.2.2.2.2 hS hd K
      · cases h
        obtain ⟨k0, hk0, e01⟩ : ∃ k0 : Nat, k0 < 8 ∧ q = 1100 + k0 := sd_t9 ho.1 ho.2
        have e02 : q - 1100 = k0 := sd_t10 e01
        rw [e02] at k
        have e1 : sd_cv X (.ref q) = .ref (sd_aB X k0) := by rw [e01]; exact sd_cvB hk0
        rw [List.map_cons, e1]
        exact va_tlen hx hb ((hCW.2.2.2.1.1 k0 hk0).2.2.2) hS (by rw [sd_lnt k0 hk0]; rfl) hd (k mi y cc ml rt hPm p e R s m args below meth c0 H locs cells slots lsA K1 K2 Qf hC hfr hlo hce hsl hK1 hK2 hex hHp hS hL2 hF)
      · rename_i hc0 hc1 hc2
        cases h
        have ho : (ab_gt g q).1 = 101 + b := ho
        have hel : sd_el b = true := by
          have h2 : (c == 0 || c == 1 || c == 2 || sd_el b) = true := hbx
          simp only [Bool.or_eq_true, beq_iff_eq] at h2
          rcases h2 with ((h2 | h2) | h2) | h2
          · exact absurd h2 hc0
          · exact absurd h2 hc1
          · exact absurd h2 hc2
          · exact h2
        have hb4 := sd_el_of hel
        have hlt : q < ab_gn g := sd_lt hHp (by rw [ho]; omega)
        have hat : (sd_ws X i g)[q]? = some (sd_ba X + q, .inl (sd_cA X b, (ab_gt g q).2, .inr (.inr (.inr (.inr (sd_rf X g q)))))) := by rw [sd_at hlt, sd_ce_arr (n := (ab_gt g q).2) (by rw [← ho])]
        have e1 : sd_cv X (.ref q) = .ref (sd_ba X + q) := by rw [← sd_adq hHp hlt]; rfl
        rw [List.map_cons, e1]
        rcases hb4 with rfl | rfl | rfl | rfl
        · exact va_alen hx hb hCW.1 hHp.2.2.2.1 q 1 hat rfl rfl hd (k mi y cc ml rt hPm p e R s m args below meth c0 H locs cells slots lsA K1 K2 Qf hC hfr hlo hce hsl hK1 hK2 hex hHp hS hL2 hF)
        · exact va_alen hx hb hCW.1 hHp.2.2.2.1 q 2 hat rfl rfl hd (k mi y cc ml rt hPm p e R s m args below meth c0 H locs cells slots lsA K1 K2 Qf hC hfr hlo hce hsl hK1 hK2 hex hHp hS hL2 hF)
        · exact va_alen hx hb hCW.1 hHp.2.2.2.1 q 4 hat rfl rfl hd (k mi y cc ml rt hPm p e R s m args below meth c0 H locs cells slots lsA K1 K2 Qf hC hfr hlo hce hsl hK1 hK2 hex hHp hS hL2 hF)
        · exact va_alen hx hb hCW.1 hHp.2.2.2.1 q 3 hat rfl rfl hd (k mi y cc ml rt hPm p e R s m args below meth c0 H locs cells slots lsA K1 K2 Qf hC hfr hlo hce hsl hK1 hK2 hex hHp hS hL2 hF)
    · cases h
  case invokespecial n =>
    simp only [ab_ex] at h
    obtain ⟨hd, hnx⟩ := sd_bd_spec hbd rfl
    subst hnx
    split at h
    · rename_i q r
      cases ha : Nat.beq a 9999 with
      | true =>
        cases h8 : Nat.ble (ab_cat r) 8 with
        | true =>
          rw [ha, h8] at h
          cases h
          have hw : ∀ w ∈ ([.methodLink y.cls n objectInit, .instanceMethod objectInit, .code objectInit ⟨#[0xb1]⟩ 1 none] : List Jvm.Cond), w.before args s = true := fun w hw => hts w (hwd w (by unfold sd_w; rw [ha]; exact hw))
          have hc8 : ((r.map (sd_cv X)).map fun v => v.category).sum ≤ 8 := by rw [sd_cats]; exact Nat.le_of_ble_eq_true h8
          refine W.objInit hx hb hown (hw _ List.mem_cons_self) (hw _ (List.mem_cons_of_mem _ List.mem_cons_self)) (hw _ (List.mem_cons_of_mem _ (List.mem_cons_of_mem _ List.mem_cons_self))) rfl (by rw [hml]; exact hL2.1) rfl hd (by omega) ?_ ?_
          · show 2 * 0 + _ + 12 ≤ R.locals
            omega
          · refine W.eq (g2 := F0 m (pc + 3) lsA (r.map (sd_cv X))) rfl ?_
            exact (k mi y cc ml rt hPm p e R s m args below meth c0 H locs cells slots lsA K1 K2 Qf hC hfr hlo hce hsl hK1 hK2 hex hHp hS hL2 hF)
        | false => rw [ha, h8] at h; cases h
      | false => rw [ha] at h; cases h
    · cases h
  case invokestatic n =>
    simp only [ab_ex] at h
    obtain ⟨hd, hnx⟩ := sd_bd_spec hbd rfl
    subst hnx
    cases ha9998 : Nat.beq a 9998 with
    | true =>
      have hst := h
      simp only [ha9998, cond_false, cond_true] at hst
      have hw : ∀ w ∈ ([.methodLink y.cls n arraycopyName, .native arraycopyName, .static arraycopyName, .initialized "java/lang/System"] : List Jvm.Cond), w.before args s = true := fun w hw => hts w (hwd w (by unfold sd_w; simp only [ha9998, cond_false, cond_true]; exact hw))
      split at hst
      · rename_i z3 z2 q1 z1 q0 r
        cases h8 : Nat.ble (ab_cat r) 8 with
        | false => rw [h8] at hst; cases hst
        | true =>
          rw [h8] at hst
          cases hst
          have hc8 : ((r.map (sd_cv X)).map fun v => v.category).sum ≤ 8 := by rw [sd_cats]; exact Nat.le_of_ble_eq_true h8
          obtain ⟨n0, n1, ht0, ht1, g1, g2, g3, g4, g5⟩ := ho
          have hlt0 : q0 < ab_gn g := sd_lt hHp (by rw [ht0]; show 100 < 9000; omega)
          have hlt1 : q1 < ab_gn g := sd_lt hHp (by rw [ht1]; show 100 < 9000; omega)
          have hat0 : (sd_ws X i g)[q0]? = some (sd_ba X + q0, .inl (sd_cI X, n0, .inl (i q0))) := by rw [sd_at hlt0, sd_ce_row ht0]
          have hat1 : (sd_ws X i g)[q1]? = some (sd_ba X + q1, .inl (sd_cI X, n1, .inl (i q1))) := by rw [sd_at hlt1, sd_ce_row ht1]
          have e0 : sd_cv X (.ref q0) = .ref (sd_ba X + q0) := by rw [← sd_adq hHp hlt0]; rfl
          have e1 : sd_cv X (.ref q1) = .ref (sd_ba X + q1) := by rw [← sd_adq hHp hlt1]; rfl
          have c1 := sd_cl0 g1
          have c2 := sd_cl0 g2
          have c3 := sd_cl0 g3
          rw [List.map_cons, List.map_cons, List.map_cons, List.map_cons, List.map_cons, e0, e1]
          refine va_copyi hx hb (by rw [hml]; exact hL2.1.symm) hown (hw _ (by simp)) (hw _ (by simp)) (hw _ (by simp)) (hw _ (by simp)) hCW.1 hHp.2.2.2.1 hD hS q0 q1 0 0 hat0 hat1 rfl rfl rfl (by rw [Int32.lt_iff_toInt_lt, Int32.toInt_zero]; omega) (by rw [Int32.lt_iff_toInt_lt, Int32.toInt_zero]; omega) (by rw [Int32.lt_iff_toInt_lt, Int32.toInt_zero]; omega) (by omega) (by omega) (fun _ _ => rfl) (by omega) ?_ hd (fun H1 locs1 hP1 hD1 hS1 => sd_sz fun hz => ?_)
          · rw [show nativeFrameWords "java/lang/System" "arraycopy" 5 = 7 from by decide +kernel]
            omega
          rw [sd_wset (i' := ab_row i q1 (va_cpy (i q0) (i q1) z1.toNatClampNeg z2.toNatClampNeg z3.toNatClampNeg)) (g' := g) hlt1 rfl (by rw [sd_ce_row ht1, ab_row_self]) (fun a' ha' => sd_ce_same (fun j => ab_row_ne ha') (fun _ => rfl) rfl)] at hP1
          have hH1 : sd_Hp X (ab_row i q1 (va_cpy (i q0) (i q1) z1.toNatClampNeg z2.toNatClampNeg z3.toNatClampNeg)) g H1 := sd_Hp_up hHp hlt1 (Nat.le_trans hba hS1.1) (by omega) (fun a' j ha' => ab_row_ne ha') hP1
          exact (k mi y cc ml rt hPm p e R s m args below meth c0 H1 locs1 cells slots lsA K1 K2 Qf hC hfr hlo hce hsl hK1 hK2 hex hH1 hS1 hL2 hF)
      · cases hst
    | false =>
    cases ha9990 : Nat.beq a 9990 with
    | true =>
      have hst := h
      simp only [ha9998, ha9990, cond_false, cond_true] at hst
      have hw : ∀ w ∈ ([.methodLink y.cls n Lib.Math.max.name, .static Lib.Math.max.name, .initialized "java/lang/Math", .code Lib.Math.max.name Lib.Math.max.code 2 (some .int)] : List Jvm.Cond), w.before args s = true := fun w hw => hts w (hwd w (by unfold sd_w; simp only [ha9998, ha9990, cond_false, cond_true]; exact hw))
      split at hst
      · rename_i z2 z1 r
        cases h8 : Nat.ble (ab_cat r) 8 with
        | false => rw [h8] at hst; cases hst
        | true =>
          rw [h8] at hst
          cases hst
          have hc8 : ((r.map (sd_cv X)).map fun v => v.category).sum ≤ 8 := by rw [sd_cats]; exact Nat.le_of_ble_eq_true h8
          exact va_mmax hx hb (by rw [hml]; exact hL2.1.symm) hown (hw _ (by simp)) (hw _ (by simp)) (hw _ (by simp)) (hw _ (by simp)) (by omega) (by omega) (by omega) (by omega) hd (k mi y cc ml rt hPm p e R s m args below meth c0 H locs cells slots lsA K1 K2 Qf hC hfr hlo hce hsl hK1 hK2 hex hHp hS hL2 hF)
      · cases hst
    | false =>
    cases ha9991 : Nat.beq a 9991 with
    | true =>
      have hst := h
      simp only [ha9998, ha9990, ha9991, cond_false, cond_true] at hst
      have hw : ∀ w ∈ ([.methodLink y.cls n Lib.Math.min.name, .static Lib.Math.min.name, .initialized "java/lang/Math", .code Lib.Math.min.name Lib.Math.min.code 2 (some .int)] : List Jvm.Cond), w.before args s = true := fun w hw => hts w (hwd w (by unfold sd_w; simp only [ha9998, ha9990, ha9991, cond_false, cond_true]; exact hw))
      split at hst
      · rename_i z2 z1 r
        cases h8 : Nat.ble (ab_cat r) 8 with
        | false => rw [h8] at hst; cases hst
        | true =>
          rw [h8] at hst
          cases hst
          have hc8 : ((r.map (sd_cv X)).map fun v => v.category).sum ≤ 8 := by rw [sd_cats]; exact Nat.le_of_ble_eq_true h8
          exact va_mmin hx hb (by rw [hml]; exact hL2.1.symm) hown (hw _ (by simp)) (hw _ (by simp)) (hw _ (by simp)) (hw _ (by simp)) (by omega) (by omega) (by omega) (by omega) hd (k mi y cc ml rt hPm p e R s m args below meth c0 H locs cells slots lsA K1 K2 Qf hC hfr hlo hce hsl hK1 hK2 hex hHp hS hL2 hF)
      · cases hst
    | false =>
    cases ha9992 : Nat.beq a 9992 with
    | true =>
      have hst := h
      simp only [ha9998, ha9990, ha9991, ha9992, cond_false, cond_true] at hst
      have hw : ∀ w ∈ ([.methodLink y.cls n Lib.Math.abs.name, .static Lib.Math.abs.name, .initialized "java/lang/Math", .code Lib.Math.abs.name Lib.Math.abs.code 1 (some .int)] : List Jvm.Cond), w.before args s = true := fun w hw => hts w (hwd w (by unfold sd_w; simp only [ha9998, ha9990, ha9991, ha9992, cond_false, cond_true]; exact hw))
      split at hst
      · rename_i z1 r
        cases h8 : Nat.ble (ab_cat r) 8 with
        | false => rw [h8] at hst; cases hst
        | true =>
          rw [h8] at hst
          cases hst
          have hc8 : ((r.map (sd_cv X)).map fun v => v.category).sum ≤ 8 := by rw [sd_cats]; exact Nat.le_of_ble_eq_true h8
          exact va_mabs hx hb (by rw [hml]; exact hL2.1.symm) hown (hw _ (by simp)) (hw _ (by simp)) (hw _ (by simp)) (hw _ (by simp)) (by omega) (by omega) (by omega) (by omega) hd (k mi y cc ml rt hPm p e R s m args below meth c0 H locs cells slots lsA K1 K2 Qf hC hfr hlo hce hsl hK1 hK2 hex hHp hS hL2 hF)
      · cases hst
    | false =>
    cases ha9993 : Nat.beq a 9993 with
    | true =>
      have hst := h
      simp only [ha9998, ha9990, ha9991, ha9992, ha9993, cond_false, cond_true] at hst
      have hw : ∀ w ∈ ([.methodLink y.cls n Lib.MathLoose.min_long.x, .static Lib.MathLoose.min_long.x, .initialized "java/lang/Math", .code Lib.MathLoose.min_long.x Lib.MathLoose.min_long.code 4 (some .long)] : List Jvm.Cond), w.before args s = true := fun w hw => hts w (hwd w (by unfold sd_w; simp only [ha9998, ha9990, ha9991, ha9992, ha9993, cond_false, cond_true]; exact hw))
      split at hst
      · rename_i z2 z1 r
        cases h8 : Nat.ble (ab_cat r) 8 with
        | false => rw [h8] at hst; cases hst
        | true =>
          rw [h8] at hst
          cases hst
          have hc8 : ((r.map (sd_cv X)).map fun v => v.category).sum ≤ 8 := by rw [sd_cats]; exact Nat.le_of_ble_eq_true h8
          exact va_mmin_long hx hb (by rw [hml]; exact hL2.1.symm) hown (hw _ (by simp)) (hw _ (by simp)) (hw _ (by simp)) (hw _ (by simp)) (by omega) (by omega) (by omega) (by omega) hd (k mi y cc ml rt hPm p e R s m args below meth c0 H locs cells slots lsA K1 K2 Qf hC hfr hlo hce hsl hK1 hK2 hex hHp hS hL2 hF)
      · cases hst
    | false =>
    cases ha9994 : Nat.beq a 9994 with
    | true =>
      have hst := h
      simp only [ha9998, ha9990, ha9991, ha9992, ha9993, ha9994, cond_false, cond_true] at hst
      have hw : ∀ w ∈ ([.methodLink y.cls n Lib.MathLoose.abs_long.x, .static Lib.MathLoose.abs_long.x, .initialized "java/lang/Math", .code Lib.MathLoose.abs_long.x Lib.MathLoose.abs_long.code 2 (some .long)] : List Jvm.Cond), w.before args s = true := fun w hw => hts w (hwd w (by unfold sd_w; simp only [ha9998, ha9990, ha9991, ha9992, ha9993, ha9994, cond_false, cond_true]; exact hw))
      split at hst
      · rename_i z1 r
        cases h8 : Nat.ble (ab_cat r) 8 with
        | false => rw [h8] at hst; cases hst
        | true =>
          rw [h8] at hst
          cases hst
          have hc8 : ((r.map (sd_cv X)).map fun v => v.category).sum ≤ 8 := by rw [sd_cats]; exact Nat.le_of_ble_eq_true h8
          exact va_mabs_long hx hb (by rw [hml]; exact hL2.1.symm) hown (hw _ (by simp)) (hw _ (by simp)) (hw _ (by simp)) (hw _ (by simp)) (by omega) (by omega) (by omega) (by omega) hd (k mi y cc ml rt hPm p e R s m args below meth c0 H locs cells slots lsA K1 K2 Qf hC hfr hlo hce hsl hK1 hK2 hex hHp hS hL2 hF)
      · cases hst
    | false =>
    simp only [ha9998, ha9990, ha9991, ha9992, ha9993, ha9994, cond_false] at h
    cases h

  all_goals (simp only [ab_ex] at h; cases h)
