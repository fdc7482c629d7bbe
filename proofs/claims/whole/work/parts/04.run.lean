/-! the shape behind the constructors, and what a run says while no cell is made -/
def gf_tl : List ab_Tg := [(10, 0), (9, 0), (8, 0), (101, 6), (0, 0), (0, 0), (0, 0), (0, 0), (0, 0), (0, 0), (102, 12), (1, 0), (1, 0), (1, 0), (1, 0), (1, 0), (1, 0), (1, 0), (1, 0), (1, 0), (1, 0), (1, 0), (1, 0), (2, 0), (5, 0), (100, 60), (100, 65), (2, 0), (5, 0), (100, 60), (100, 65), (5, 0), (100, 60), (5, 0), (100, 24), (9, 0), (8, 0), (101, 6), (0, 0), (0, 0), (0, 0), (0, 0), (0, 0), (0, 0), (102, 12), (1, 0), (1, 0), (1, 0), (1, 0), (1, 0), (1, 0), (1, 0), (1, 0), (1, 0), (1, 0), (1, 0), (1, 0), (2, 0), (5, 0), (100, 60), (100, 65), (2, 0), (5, 0), (100, 60), (100, 65), (5, 0), (100, 60), (5, 0), (100, 24), (4, 0), (5, 0), (100, 60), (3, 0), (109, 6), (8, 0), (101, 6), (0, 0), (0, 0), (0, 0), (0, 0), (0, 0), (0, 0), (102, 12), (1, 0), (1, 0), (1, 0), (1, 0), (1, 0), (1, 0), (1, 0), (1, 0), (1, 0), (1, 0), (1, 0), (1, 0), (8, 0), (101, 6), (0, 0), (0, 0), (0, 0), (0, 0), (0, 0), (0, 0), (102, 12), (1, 0), (1, 0), (1, 0), (1, 0), (1, 0), (1, 0), (1, 0), (1, 0), (1, 0), (1, 0), (1, 0), (1, 0), (8, 0), (101, 6), (0, 0), (0, 0), (0, 0), (0, 0), (0, 0), (0, 0), (102, 12), (1, 0), (1, 0), (1, 0), (1, 0), (1, 0), (1, 0), (1, 0), (1, 0), (1, 0), (1, 0), (1, 0), (1, 0), (8, 0), (101, 6), (0, 0), (0, 0), (0, 0), (0, 0), (0, 0), (0, 0), (102, 12), (1, 0), (1, 0), (1, 0), (1, 0), (1, 0), (1, 0), (1, 0), (1, 0), (1, 0), (1, 0), (1, 0), (1, 0), (8, 0), (101, 6), (0, 0), (0, 0), (0, 0), (0, 0), (0, 0), (0, 0), (102, 12), (1, 0), (1, 0), (1, 0), (1, 0), (1, 0), (1, 0), (1, 0), (1, 0), (1, 0), (1, 0), (1, 0), (1, 0), (8, 0), (101, 6), (0, 0), (0, 0), (0, 0), (0, 0), (0, 0), (0, 0), (102, 12), (1, 0), (1, 0), (1, 0), (1, 0), (1, 0), (1, 0), (1, 0), (1, 0), (1, 0), (1, 0), (1, 0), (1, 0), (7, 0), (5, 0), (100, 30), (107, 4), (6, 0), (5, 0), (100, 24), (6, 0), (5, 0), (100, 24), (6, 0), (5, 0), (100, 24), (6, 0), (5, 0), (100, 24), (5, 0), (100, 6), (11, 0), (100, 480), (100, 480), (100, 480), (100, 7), (100, 124), (100, 128), (100, 64), (100, 6), (100, 30), (100, 4), (100, 4), (100, 96), (100, 24)]
def gf_t (q : Nat) : ab_Tg := gf_tl.getD q (9999, 0)
def gf_rk (k q j : Nat) : Nat := match k with
  | 8 => (match j with | 0 => q + 1 | 1 => q + 8 | _ => 0)
  | 101 => (if j < 6 then q + 1 + j else 0)
  | 102 => (if j < 12 then q + 1 + j else 0)
  | 2 => (match j with | 0 => q + 1 | 1 => q + 3 | _ => 0)
  | 5 => (match j with | 0 => q + 1 | _ => 0)
  | 9 => (match j with | 0 => q + 1 | 1 => q + 22 | 2 => q + 26 | 3 => q + 30 | 4 => q + 32 | _ => 0)
  | 4 => (match j with | 0 => 31 | 1 => q + 1 | _ => 0)
  | 3 => (match j with | 0 => 2 | 1 => 23 | 2 => 27 | 3 => q + 1 | _ => 0)
  | 109 => (if j < 6 then q + 1 + 21 * j else 0)
  | 7 => (match j with | 0 => q + 1 | _ => 0)
  | 107 => (if j < 4 then q + 1 + 3 * j else 0)
  | 6 => (match j with | 1 => q + 1 | _ => 0)
  | 10 => (match j with | 0 => 1 | 1 => 35 | 3 => 69 | 4 => 72 | 5 => 200 | 6 => 203 | 7 => 216 | _ => 0)
  | 11 => (match j with | 0 => 219 | 1 => 220 | 2 => 221 | 4 => 222 | 9 => 223 | 10 => 224 | 11 => 225 | 12 => 226 | 15 => 227 | 19 => 228 | 20 => 229 | 21 => 230 | 22 => 231 | _ => 0)
  | _ => 0
def gf_r (q j : Nat) : Nat := gf_rk (gf_t q).1 q j
def GF : ab_Sh := (gf_r, gf_t, 232)
theorem gr_of {q k n j : Nat} (h : ab_gt GF q = (k, n)) : ab_gr GF q j = gf_rk k q j := by
  show gf_rk (ab_gt GF q).1 q j = _
  rw [h]
theorem gr_0_0 : ab_gr GF 0 0 = 1 := rfl
theorem gr_0_1 : ab_gr GF 0 1 = 35 := rfl
theorem gr_0_3 : ab_gr GF 0 3 = 69 := rfl
theorem gr_0_4 : ab_gr GF 0 4 = 72 := rfl
theorem gr_0_5 : ab_gr GF 0 5 = 200 := rfl
theorem gr_0_6 : ab_gr GF 0 6 = 203 := rfl
theorem gr_0_7 : ab_gr GF 0 7 = 216 := rfl
theorem gr_1_0 : ab_gr GF 1 0 = 2 := rfl
theorem gr_1_1 : ab_gr GF 1 1 = 23 := rfl
theorem gr_1_2 : ab_gr GF 1 2 = 27 := rfl
theorem gr_1_3 : ab_gr GF 1 3 = 31 := rfl
theorem gr_1_4 : ab_gr GF 1 4 = 33 := rfl
theorem gr_35_0 : ab_gr GF 35 0 = 36 := rfl
theorem gr_35_1 : ab_gr GF 35 1 = 57 := rfl
theorem gr_35_2 : ab_gr GF 35 2 = 61 := rfl
theorem gr_35_3 : ab_gr GF 35 3 = 65 := rfl
theorem gr_35_4 : ab_gr GF 35 4 = 67 := rfl
theorem gr_69_0 : ab_gr GF 69 0 = 31 := rfl
theorem gr_69_1 : ab_gr GF 69 1 = 70 := rfl
theorem gr_72_0 : ab_gr GF 72 0 = 2 := rfl
theorem gr_72_1 : ab_gr GF 72 1 = 23 := rfl
theorem gr_72_2 : ab_gr GF 72 2 = 27 := rfl
theorem gr_72_3 : ab_gr GF 72 3 = 73 := rfl
theorem gr_200_0 : ab_gr GF 200 0 = 201 := rfl
theorem gr_216_0 : ab_gr GF 216 0 = 217 := rfl
theorem gr_218_0 : ab_gr GF 218 0 = 219 := rfl
theorem gr_218_1 : ab_gr GF 218 1 = 220 := rfl
theorem gr_218_2 : ab_gr GF 218 2 = 221 := rfl
theorem gr_218_4 : ab_gr GF 218 4 = 222 := rfl
theorem gr_218_9 : ab_gr GF 218 9 = 223 := rfl
theorem gr_218_10 : ab_gr GF 218 10 = 224 := rfl
theorem gr_218_11 : ab_gr GF 218 11 = 225 := rfl
theorem gr_218_12 : ab_gr GF 218 12 = 226 := rfl
theorem gr_218_15 : ab_gr GF 218 15 = 227 := rfl
theorem gr_218_19 : ab_gr GF 218 19 = 228 := rfl
theorem gr_218_20 : ab_gr GF 218 20 = 229 := rfl
theorem gr_218_21 : ab_gr GF 218 21 = 230 := rfl
theorem gr_218_22 : ab_gr GF 218 22 = 231 := rfl
theorem gt_0 : ab_gt GF 0 = (10, 0) := rfl
theorem gt_1 : ab_gt GF 1 = (9, 0) := rfl
theorem gt_35 : ab_gt GF 35 = (9, 0) := rfl
theorem gt_69 : ab_gt GF 69 = (4, 0) := rfl
theorem gt_72 : ab_gt GF 72 = (3, 0) := rfl
theorem gt_73 : ab_gt GF 73 = (109, 6) := rfl
theorem gt_200 : ab_gt GF 200 = (7, 0) := rfl
theorem gt_201 : ab_gt GF 201 = (5, 0) := rfl
theorem gt_202 : ab_gt GF 202 = (100, 30) := rfl
theorem gt_203 : ab_gt GF 203 = (107, 4) := rfl
theorem gt_216 : ab_gt GF 216 = (5, 0) := rfl
theorem gt_217 : ab_gt GF 217 = (100, 6) := rfl
theorem gt_218 : ab_gt GF 218 = (11, 0) := rfl
theorem gt_2 : ab_gt GF 2 = (8, 0) := rfl
theorem gt_23 : ab_gt GF 23 = (2, 0) := rfl
theorem gt_27 : ab_gt GF 27 = (2, 0) := rfl
theorem gt_31 : ab_gt GF 31 = (5, 0) := rfl
theorem gt_33 : ab_gt GF 33 = (5, 0) := rfl
theorem gt_24 : ab_gt GF 24 = (5, 0) := rfl
theorem gt_28 : ab_gt GF 28 = (5, 0) := rfl
theorem gt_32 : ab_gt GF 32 = (100, 60) := rfl
theorem gt_34 : ab_gt GF 34 = (100, 24) := rfl
theorem gt_70 : ab_gt GF 70 = (5, 0) := rfl
theorem gt_71 : ab_gt GF 71 = (100, 60) := rfl
theorem gt_36 : ab_gt GF 36 = (8, 0) := rfl
theorem gt_57 : ab_gt GF 57 = (2, 0) := rfl
theorem gt_61 : ab_gt GF 61 = (2, 0) := rfl
theorem gt_65 : ab_gt GF 65 = (5, 0) := rfl
theorem gt_67 : ab_gt GF 67 = (5, 0) := rfl
theorem gt_219 : ab_gt GF 219 = (100, 480) := rfl
theorem gt_220 : ab_gt GF 220 = (100, 480) := rfl
theorem gt_221 : ab_gt GF 221 = (100, 480) := rfl
theorem gt_222 : ab_gt GF 222 = (100, 7) := rfl
theorem gt_223 : ab_gt GF 223 = (100, 124) := rfl
theorem gt_224 : ab_gt GF 224 = (100, 128) := rfl
theorem gt_225 : ab_gt GF 225 = (100, 64) := rfl
theorem gt_226 : ab_gt GF 226 = (100, 6) := rfl
theorem gt_227 : ab_gt GF 227 = (100, 30) := rfl
theorem gt_228 : ab_gt GF 228 = (100, 4) := rfl
theorem gt_229 : ab_gt GF 229 = (100, 4) := rfl
theorem gt_230 : ab_gt GF 230 = (100, 96) := rfl
theorem gt_231 : ab_gt GF 231 = (100, 24) := rfl
def ab_R (d : Nat) (T : ab_T) (pc : Nat) (ls : ab_L) (st : List Value) (i : ab_I) (Q : Option Value → ab_I → Prop) : Prop :=
  ab_Ok ab_P d 0 0 (T, pc, ls, st, i, GF) (fun v i' g' => g' = GF ∧ Q v i')
theorem r_go (n : Nat) {d : Nat} {T T' : ab_T} {pc pc' : Nat} {ls ls' : ab_L} {st st' : List Value} {i i' : ab_I} {P : List Prop} {Q : Option Value → ab_I → Prop}
    (h : ab_go n (T, pc, ls, st, i, GF) [] = ((T', pc', ls', st', i', GF), P)) (hp : ab_all P) (k : ab_R d T' pc' ls' st' i' Q) : ab_R d T pc ls st i Q := ab_go_ok h hp k
theorem r_br {d : Nat} {T T1 T2 : ab_T} {pc p1 p2 : Nat} {ls l1 l2 : ab_L} {st s1 s2 : List Value} {i i1 i2 : ab_I} {p : Prop} {Q : Option Value → ab_I → Prop}
    (h : ab_brn (T, pc, ls, st, i, GF) = some (p, (T1, p1, l1, s1, i1, GF), (T2, p2, l2, s2, i2, GF))) (k1 : p → ab_R d T1 p1 l1 s1 i1 Q) (k2 : ¬ p → ab_R d T2 p2 l2 s2 i2 Q) : ab_R d T pc ls st i Q :=
  ab_Ok_cl _ _ _ _ _ (Or.inr (Or.inr (Or.inl ⟨_, _, _, h, k1, k2⟩)))
theorem r_brT {d : Nat} {T T1 T2 : ab_T} {pc p1 p2 : Nat} {ls l1 l2 : ab_L} {st s1 s2 : List Value} {i i1 i2 : ab_I} {p : Prop} {Q : Option Value → ab_I → Prop}
    (h : ab_brn (T, pc, ls, st, i, GF) = some (p, (T1, p1, l1, s1, i1, GF), (T2, p2, l2, s2, i2, GF))) (hp : p) (k1 : ab_R d T1 p1 l1 s1 i1 Q) : ab_R d T pc ls st i Q :=
  r_br h (fun _ => k1) (fun q => absurd hp q)
theorem r_brF {d : Nat} {T T1 T2 : ab_T} {pc p1 p2 : Nat} {ls l1 l2 : ab_L} {st s1 s2 : List Value} {i i1 i2 : ab_I} {p : Prop} {Q : Option Value → ab_I → Prop}
    (h : ab_brn (T, pc, ls, st, i, GF) = some (p, (T1, p1, l1, s1, i1, GF), (T2, p2, l2, s2, i2, GF))) (hp : ¬ p) (k2 : ab_R d T2 p2 l2 s2 i2 Q) : ab_R d T pc ls st i Q :=
  r_br h (fun q => absurd q hp) (fun _ => k2)
theorem r_sw {d : Nat} {T T' : ab_T} {pc pc' : Nat} {ls ls' : ab_L} {st st' : List Value} {i i' : ab_I} {Q : Option Value → ab_I → Prop}
    (h : ab_swi (T, pc, ls, st, i, GF) = some (T', pc', ls', st', i', GF)) (k : ab_R d T' pc' ls' st' i' Q) : ab_R d T pc ls st i Q :=
  ab_Ok_cl _ _ _ _ _ (Or.inr (Or.inr (Or.inr (Or.inl ⟨_, h, k⟩))))
theorem r_ret {d : Nat} {T : ab_T} {pc : Nat} {ls : ab_L} {st : List Value} {i : ab_I} {v : Option Value} {O : Prop} {Q : Option Value → ab_I → Prop}
    (h : ab_rtn (T, pc, ls, st, i, GF) = some (v, O)) (ho : O) (hq : Q v i) : ab_R d T pc ls st i Q :=
  ab_Ok_cl _ _ _ _ _ (Or.inr (Or.inr (Or.inr (Or.inr (Or.inl ⟨_, _, h, ho, rfl, rfl, rfl, hq⟩)))))
theorem r_call {d d1 : Nat} {T Tn T1 : ab_T} {pc pcn ml : Nat} {ls lsn l1 : ab_L} {st rn as : List Value} {i : ab_I} {mi : Nat} {O : Prop} {Q Q1 : Option Value → ab_I → Prop}
    (h : ab_cal (T, pc, ls, st, i, GF) = some (mi, as, O, Tn, pcn, lsn, rn)) (ho : O) (hd : d1 < d) (he : ab_ent ab_P mi as i GF = some (T1, ml, l1, [], i, GF))
    (hc : ab_R d1 T1 ml l1 [] i Q1) (k : ∀ v i', Q1 v i' → ab_R d Tn pcn lsn (v.toList ++ rn) i' Q) : ab_R d T pc ls st i Q :=
  ab_Ok_cl _ _ _ _ _ (Or.inr (Or.inr (Or.inr (Or.inr (Or.inr ⟨mi, as, O, Tn, pcn, lsn, rn, d1, 0, 0, 0, 0, _, _, h, ho, hd, rfl, rfl, he, hc, fun v i' g' q => by
    obtain ⟨rfl, q⟩ := q
    exact k v i' q⟩)))))
theorem r_mono {d : Nat} {T : ab_T} {pc : Nat} {ls : ab_L} {st : List Value} {i : ab_I} {Q Q' : Option Value → ab_I → Prop} (h : ab_R d T pc ls st i Q) (hq : ∀ v i, Q v i → Q' v i) : ab_R d T pc ls st i Q' :=
  ab_Ok_mono h (fun v i g q => ⟨q.1, hq v i q.2⟩)
theorem r_deep {d d2 : Nat} {T : ab_T} {pc : Nat} {ls : ab_L} {st : List Value} {i : ab_I} {Q : Option Value → ab_I → Prop} (h : ab_R d T pc ls st i Q) (hd : d ≤ d2) : ab_R d2 T pc ls st i Q := ab_Ok_deep h hd
/-- the locals that still live at a loop's head -/
def ab_lv (T : ab_T) (pc : Nat) (ls : ab_L) : ab_L := match ab_lk T pc with
  | none => ls
  | some (_, _, _, _, _, _, _, lm) => ab_mk lm ls (fun l => l)
