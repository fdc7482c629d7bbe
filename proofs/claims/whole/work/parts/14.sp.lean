/-! the reference's numbers, read off its vector: what an hour does, what is told -/
abbrev Vc : Type := Nat → Int32
def bs (s : Vc) (b w : Nat) : Int32 := s (8 + 7 * b + w)
def dr (s : Vc) (d w : Nat) : Int32 := s (50 + 8 * d + w)
def nB (s : Vc) : Nat := (s 0).toNatClampNeg
def nD (s : Vc) : Nat := (s 1).toNatClampNeg
def on (s : Vc) (d : Nat) : Nat := (dr s d 2).toNatClampNeg
def lev (s : Vc) (b : Nat) : Int32 := bs s b 0 / bs s b 1
def levAt (s : Vc) (d : Nat) : Int32 := lev s (on s d)
def hl (v l m : Int32) : Int32 := if v < l then l else if m < v then m else v
def sg (v : Int32) : Int32 := if nI 0 < v then nI 1 else if v < nI 0 then (-1) else nI 0
/-- what a sign makes of two -/
def jn (c x y : Int32) : Int32 :=
  if c = nI 37 then (if y = nI 0 then nI 0 else x - x / y * y)
  else if c = nI 38 then bI (¬ x = nI 0 ∧ ¬ y = nI 0)
  else if c = nI 42 then x * y
  else if c = nI 43 then x + y
  else if c = nI 45 then x - y
  else if c = nI 47 then (if y = nI 0 then nI 0 else x / y)
  else if c = nI 60 then bI (x < y)
  else if c = nI 61 then bI (x = y)
  else if c = nI 62 then bI (y < x)
  else bI (¬ x = nI 0 ∨ ¬ y = nI 0)
def ev1 (nm : Nat → Int32) (e : Int32 × Int32) (p : Vc × Nat) : Vc × Nat :=
  if e.1 = nI 0 then (upd p.1 p.2 e.2, p.2 + 1)
  else if e.1 = nI 1 then (upd p.1 p.2 (nm e.2.toNatClampNeg), p.2 + 1)
  else if e.1 = nI 2 then (upd p.1 (p.2 - 1) (bI (p.1 (p.2 - 1) = nI 0)), p.2)
  else (upd p.1 (p.2 - 2) (jn e.2 (p.1 (p.2 - 2)) (p.1 (p.2 - 1))), p.2 - 1)
def evs (nm : Nat → Int32) : List (Int32 × Int32) → Vc × Nat → Vc × Nat
  | [], p => p
  | e :: l, p => evs nm l (ev1 nm e p)
def wk (nm : Nat → Int32) (l : List (Int32 × Int32)) : Int32 := (evs nm l (fun _ => nI 0, 0)).1 0
def txN (s : Vc) (u : Nat) : Nat := (s (146 + 125 * u)).toNatClampNeg
def txe (s : Vc) (u k : Nat) : Int32 × Int32 := (s (147 + 125 * u + 2 * k), s (148 + 125 * u + 2 * k))
def txt (s : Vc) (u : Nat) : List (Int32 × Int32) := (List.range (txN s u)).map (txe s u)
def nm0 (s : Vc) (d c : Nat) : Int32 :=
  if c = 108 then levAt s d else if c = 115 then dr s d 3 else if c = 114 then s 3 else if c = 104 then s 2 else bs s (on s d) 2
def nm1 (s : Vc) (d c : Nat) : Int32 := if c = 102 then dr s d 6 else if c = 100 then dr s d 7 else dr s d 1
def told1 (s : Vc) (d : Nat) : Int32 := if nI 0 < s 146 then wk (nm0 s d) (txt s 0) else dr s d 3 - levAt s d
def vote (s : Vc) (d : Nat) : Int32 :=
  if dr s d 5 = nI 1 then nI 0
  else if ¬ dr s d 4 = nI 2 then dr s d 4
  else if dr s d 0 = nI 1 then (if dr s d 3 - dr s d 1 < levAt s d then (-1) else nI 0)
  else if dr s d 0 = nI 2 then (if levAt s d < dr s d 3 - dr s d 1 then nI 1 else nI 0)
  else if dr s d 0 = nI 3 then (if dr s d 3 < levAt s d then (-1) else if levAt s d < dr s d 3 - dr s d 1 then nI 1 else nI 0)
  else if dr s d 0 = nI 4 then (if levAt s d - nI 1 < dr s d 3 - nI 10 - dr s d 1 then nI 1 else if bs s (on s d) 6 - dr s d 1 < levAt s d then (-1) else nI 0)
  else if dr s d 0 = nI 5 then (if dr s d 3 - dr s d 1 < levAt s d + nI 2 * s 3 then (-1) else nI 0)
  else if dr s d 0 = nI 6 then sg (told1 s d)
  else nI 0
def pain (s : Vc) (d : Nat) : Int32 :=
  if nI 0 < s 271 then hl (wk (nm1 s d) (txt s 1)) (nI 0) (nI 99999) else hl (nI 3 * dr s d 6 + dr s d 7) (nI 0) (nI 99999)
def sm (f : Nat → Int32) : Nat → Int32
  | 0 => nI 0
  | n + 1 => sm f n + f n
def von (s : Vc) (b d : Nat) : Int32 := if dr s d 2 = nI b then vote s d else nI 0
def votesOn (s : Vc) (b : Nat) : Int32 := sm (von s b) (nD s)
def pains (s : Vc) : Int32 := sm (pain s) (nD s)
def lp (f : Nat → Vc → Vc) : Nat → Vc → Vc
  | 0, s => s
  | n + 1, s => f n (lp f n s)
def turn (w : Nat → Int32) (b : Nat) (s : Vc) : Vc :=
  upd s (8 + 7 * b + 2) (if bs s b 5 = nI 1 then bs s b 2 else hl (bs s b 2 + w b * bs s b 3) (nI 0) (nI 99))
def gets (b : Nat) (x : Int32) (s : Vc) : Vc := upd s (8 + 7 * b + 0) (hl (bs s b 0 + x) (nI 0) (nI 99999))
def goes (s : Vc) (b : Nat) : Int32 := hl (bs s b 0 - bs s b 2 * bs s b 1) (nI 0) (bs s b 4)
def spil (b : Nat) (s : Vc) : Vc := upd s (8 + 7 * b + 0) (bs s b 0 - goes s b)
def pass (b : Nat) (g : Int32) (s : Vc) : Vc := if b + 1 < nB s then gets (b + 1) g s else upd s 4 (hl (s 4 + g) (nI 0) (nI 999999))
def flow (b : Nat) (s : Vc) : Vc :=
  pass b (goes (gets b (s 3 * bs s b 1) s) b) (spil b (gets b (s 3 * bs s b 1) s))
def suf6 (d : Nat) (s : Vc) : Vc := upd s (50 + 8 * d + 6) (hl (dr s d 6 + bI (dr s d 3 < levAt s d)) (nI 0) (nI 99999))
def suf7 (d : Nat) (s : Vc) : Vc := upd s (50 + 8 * d + 7) (hl (dr s d 7 + bI (levAt s d < dr s d 3 - nI 10 - dr s d 1)) (nI 0) (nI 99999))
def suf (d : Nat) (s : Vc) : Vc := suf7 d (suf6 d s)
def ways (mb : Nat) (mw : Int32) (s : Vc) (b : Nat) : Int32 := if b = mb then mw else sg (votesOn s b)
def weirs (mb : Nat) (mw : Int32) (s : Vc) : Vc := lp (turn (ways mb mw s)) (nB s) s
def flows (s : Vc) : Vc := lp flow (nB s) s
def sufs (s : Vc) : Vc := lp suf (nD s) s
def tick (s : Vc) : Vc := upd s 2 (s 2 + nI 1)
/-- an hour; the weir of basin mb goes as mw says (6: of none) -/
def hour (mb : Nat) (mw : Int32) (s : Vc) : Vc := tick (sufs (flows (weirs mb mw s)))
def goN : Nat → Vc → Vc
  | 0, s => s
  | n + 1, s => hour 6 (nI 0) (goN n s)
def draw (s : Vc) : Vc := upd s 7 (s 7 * nI 1103515245 + nI 12345)
def ush8 (x : Int32) : Int32 := (x.toUInt32 >>> ((nI 8).toUInt32 &&& Int32.toUInt32 31)).toInt32
def rem10 (x : Int32) : Int32 := x - x / nI 10 * nI 10
def drawR (s : Vc) : Vc := upd (draw s) 3 (rem10 (ush8 (draw s 7)))
def wetN : Nat → Vc → Vc
  | 0, s => s
  | n + 1, s => hour 6 (nI 0) (drawR (wetN n s))
def toldBasin (s : Vc) (b : Nat) (w : Int32) : Int32 := if w = nI 0 then lev s b else if w = nI 8 then votesOn s b else bs s b (w - nI 1).toNatClampNeg
def toldDoor (s : Vc) (d : Nat) (w : Int32) : Int32 := if w = nI 8 then vote s d else if w = nI 9 then pain s d else dr s d w.toNatClampNeg
/-! reading what was written -/
theorem bs_up {s : Vc} {k b w : Nat} {x : Int32} (h : 8 + 7 * b + w ≠ k) : bs (upd s k x) b w = bs s b w := pk_un h
theorem bs_us {s : Vc} {b w : Nat} {x : Int32} : bs (upd s (8 + 7 * b + w) x) b w = x := pk_us
theorem dr_up {s : Vc} {k d w : Nat} {x : Int32} (h : 50 + 8 * d + w ≠ k) : dr (upd s k x) d w = dr s d w := pk_un h
theorem dr_us {s : Vc} {d w : Nat} {x : Int32} : dr (upd s (50 + 8 * d + w) x) d w = x := pk_us
theorem nB_up {s : Vc} {k : Nat} {x : Int32} (h : 0 ≠ k) : nB (upd s k x) = nB s := by unfold nB; rw [pk_un h]
theorem nD_up {s : Vc} {k : Nat} {x : Int32} (h : 1 ≠ k) : nD (upd s k x) = nD s := by unfold nD; rw [pk_un h]
theorem on_up {s : Vc} {k d : Nat} {x : Int32} (h : 50 + 8 * d + 2 ≠ k) : on (upd s k x) d = on s d := by unfold on; rw [dr_up h]
theorem lp_congr {f g : Nat → Vc → Vc} : ∀ {n : Nat} {s : Vc}, (∀ b, b < n → ∀ z, f b z = g b z) → lp f n s = lp g n s
  | 0, _, _ => rfl
  | n + 1, s, h => by
    show f n (lp f n s) = g n (lp g n s)
    rw [lp_congr (fun b hb => h b (Nat.lt_succ_of_lt hb)), h n (Nat.lt_succ_self n)]
theorem lp_inv {f : Nat → Vc → Vc} {P : Vc → Prop} {n : Nat} {s : Vc} (h0 : P s) (h : ∀ b, b < n → ∀ z, P z → P (f b z)) : P (lp f n s) := by
  induction n with
  | zero => exact h0
  | succ n ih => exact h n (Nat.lt_succ_self n) _ (ih (fun b hb => h b (Nat.lt_succ_of_lt hb)))
/-! what holds of the vector -/
/-- the least and the most of a basin's numbers, of a door's -/
def rB : Nat → Int × Int
  | 0 => (0, 99999) | 1 => (1, 20) | 3 => (0, 9) | 4 => (0, 999) | 5 => (0, 1) | _ => (0, 99)
def rD : Nat → Int × Int
  | 0 => (0, 6) | 1 => (0, 9) | 3 => (0, 99) | 4 => (-1, 2) | 5 => (0, 1) | _ => (0, 99999)
def InB (s : Vc) (b : Nat) : Prop := ∀ w, w < 7 → rg (bs s b w) (rB w).1 (rB w).2
def InD (s : Vc) (d : Nat) : Prop := (∃ b, b < nB s ∧ dr s d 2 = nI b) ∧ ∀ k, k < 8 → k ≠ 2 → rg (dr s d k) (rD k).1 (rD k).2
/-- basins, doors, rain and lost water -/
def InT (s : Vc) : Prop := (s 0 = nI (nB s) ∧ nB s ≤ 6) ∧ (s 1 = nI (nD s) ∧ nD s ≤ 12) ∧ rg (s 3) 0 9 ∧ rg (s 4) 0 999999 ∧ (∀ b, b < nB s → InB s b) ∧ (∀ d, d < nD s → InD s d)
theorem on_lt {s : Vc} {d : Nat} (h : InT s) (hd : d < nD s) : on s d < nB s ∧ on s d < 6 ∧ dr s d 2 = nI (on s d) := by
  obtain ⟨⟨_, h6⟩, _, _, _, _, hD⟩ := h
  obtain ⟨b, hb, e⟩ := (hD d hd).1
  have e2 : on s d = b := by unfold on; rw [e]; exact nI_cl (by omega)
  rw [e2]
  exact ⟨hb, by omega, e⟩
theorem hl_rg {v l m : Int32} (h : l.toInt ≤ m.toInt) : rg (hl v l m) l.toInt m.toInt := by
  unfold rg hl
  split
  · exact ⟨Int.le_refl _, h⟩
  · rename_i h1
    split
    · exact ⟨h, Int.le_refl _⟩
    · rename_i h2
      simp only [Int32.lt_iff_toInt_lt] at h1 h2
      omega
theorem InT_B {s : Vc} {b w : Nat} {x : Int32} (h : InT s) (hb : b < 6) (hw : w < 7) (hx : rg x (rB w).1 (rB w).2) : InT (upd s (8 + 7 * b + w) x) := by
  obtain ⟨⟨h0, h6⟩, ⟨h1, h12⟩, h3, h4, hB, hD⟩ := h
  unfold InT
  rw [nB_up (by omega), nD_up (by omega), pk_un (by omega), pk_un (by omega), pk_un (by omega), pk_un (by omega)]
  refine ⟨⟨h0, h6⟩, ⟨h1, h12⟩, h3, h4, fun b' hb' w' hw' => ?_, fun d hd => ?_⟩
  · by_cases e : b' = b ∧ w' = w
    · obtain ⟨rfl, rfl⟩ := e
      rw [bs_us]
      exact hx
    · rw [bs_up (by omega)]
      exact hB b' hb' w' hw'
  · unfold InD
    rw [nB_up (by omega), dr_up (by omega)]
    refine ⟨(hD d hd).1, fun k hk hk2 => ?_⟩
    rw [dr_up (by omega)]
    exact (hD d hd).2 k hk hk2
theorem InT_D {s : Vc} {d k : Nat} {x : Int32} (h : InT s) (hd : d < 12) (hk : k < 8) (hk2 : k ≠ 2) (hx : rg x (rD k).1 (rD k).2) : InT (upd s (50 + 8 * d + k) x) := by
  obtain ⟨⟨h0, h6⟩, ⟨h1, h12⟩, h3, h4, hB, hD⟩ := h
  unfold InT
  rw [nB_up (by omega), nD_up (by omega), pk_un (by omega), pk_un (by omega), pk_un (by omega), pk_un (by omega)]
  refine ⟨⟨h0, h6⟩, ⟨h1, h12⟩, h3, h4, fun b hb w hw => ?_, fun d' hd' => ?_⟩
  · rw [bs_up (by omega)]
    exact hB b hb w hw
  · unfold InD
    rw [nB_up (by omega), dr_up (by omega)]
    refine ⟨(hD d' hd').1, fun k' hk' hk2' => ?_⟩
    by_cases e : d' = d ∧ k' = k
    · obtain ⟨rfl, rfl⟩ := e
      rw [dr_us]
      exact hx
    · rw [dr_up (by omega)]
      exact (hD d' hd').2 k' hk' hk2'
theorem InT_k {s : Vc} {k : Nat} {x : Int32} (h : InT s) (hk : k = 2 ∨ k = 5 ∨ k = 6 ∨ k = 7 ∨ 146 ≤ k ∨ (k = 3 ∧ rg x 0 9) ∨ (k = 4 ∧ rg x 0 999999)) : InT (upd s k x) := by
  obtain ⟨⟨h0, h6⟩, ⟨h1, h12⟩, h3, h4, hB, hD⟩ := h
  unfold InT
  rw [nB_up (by omega), nD_up (by omega), pk_un (by omega), pk_un (by omega)]
  refine ⟨⟨h0, h6⟩, ⟨h1, h12⟩, ?_, ?_, fun b hb w hw => ?_, fun d hd => ?_⟩
  · by_cases e : 3 = k
    · subst e
      rw [pk_us]
      rcases hk with z | z | z | z | z | z | z
      · omega
      · omega
      · omega
      · omega
      · omega
      · exact z.2
      · omega
    · rw [pk_un e]
      exact h3
  · by_cases e : 4 = k
    · subst e
      rw [pk_us]
      rcases hk with z | z | z | z | z | z | z
      · omega
      · omega
      · omega
      · omega
      · omega
      · omega
      · exact z.2
    · rw [pk_un e]
      exact h4
  · rw [bs_up (by omega)]
    exact hB b hb w hw
  · unfold InD
    rw [nB_up (by omega), dr_up (by omega)]
    refine ⟨(hD d hd).1, fun k hk hk2 => ?_⟩
    rw [dr_up (by omega)]
    exact (hD d hd).2 k hk hk2
/-- basins and doors are as many as they were -/
def sN (s z : Vc) : Prop := nB z = nB s ∧ nD z = nD s
theorem sN_up {s z : Vc} {k : Nat} {x : Int32} (h : sN s z) (hk : 1 < k) : sN s (upd z k x) := ⟨by rw [nB_up (by omega)]; exact h.1, by rw [nD_up (by omega)]; exact h.2⟩
theorem go_rg {s : Vc} {b : Nat} (h : InB s b) : rg (goes s b) 0 (bs s b 4).toInt ∧ (goes s b).toInt ≤ (bs s b 0).toInt := by
  have hw : rg (bs s b 0) 0 99999 := h 0 (by decide)
  have ha : rg (bs s b 1) 1 20 := h 1 (by decide)
  have hh : rg (bs s b 2) 0 99 := h 2 (by decide)
  have ho : rg (bs s b 4) 0 999 := h 4 (by decide)
  unfold rg at *
  have hm : 0 ≤ (bs s b 2).toInt * (bs s b 1).toInt := Int.mul_nonneg hh.1 (by omega)
  have hm2 : (bs s b 2).toInt * (bs s b 1).toInt ≤ 99 * 20 := Int.mul_le_mul hh.2 ha.2 (by omega) (by omega)
  have e1 : (bs s b 2 * bs s b 1).toInt = (bs s b 2).toInt * (bs s b 1).toInt := mu_i (by omega) (by omega)
  have e2 : (bs s b 0 - bs s b 2 * bs s b 1).toInt = (bs s b 0).toInt - (bs s b 2).toInt * (bs s b 1).toInt := by rw [su_i (by omega) (by omega), e1]
  have c0 : (nI 0).toInt = 0 := by decide
  unfold goes hl
  split
  · rw [c0]
    omega
  · rename_i h1
    split
    · rename_i h2
      simp only [Int32.lt_iff_toInt_lt] at h1 h2
      omega
    · rename_i h2
      simp only [Int32.lt_iff_toInt_lt] at h1 h2
      omega
theorem InT_gets {s : Vc} {b : Nat} {x : Int32} (h : InT s) (hb : b < 6) : InT (gets b x s) :=
  InT_B h hb (by decide) (by have := @hl_rg (bs s b 0 + x) (nI 0) (nI 99999) (by decide); exact this)
theorem InT_spil {s : Vc} {b : Nat} (h : InT s) (hb : b < nB s) : InT (spil b s) := by
  refine InT_B h (by have := h.1.2; omega) (by decide) ?_
  have hI := h.2.2.2.2.1 b hb
  have h2 := go_rg hI
  have hw : rg (bs s b 0) 0 99999 := hI 0 (by decide)
  have ho : rg (bs s b 4) 0 999 := hI 4 (by decide)
  unfold rg at *
  show 0 ≤ _ ∧ _ ≤ 99999
  rw [su_i (by omega) (by omega)]
  omega
theorem InT_pass {s : Vc} {b : Nat} {x : Int32} (h : InT s) : InT (pass b x s) := by
  unfold pass
  split
  · exact InT_gets h (by have := h.1.2; omega)
  · exact InT_k h (Or.inr (Or.inr (Or.inr (Or.inr (Or.inr (Or.inr ⟨rfl, @hl_rg _ (nI 0) (nI 999999) (by decide)⟩))))))
theorem sN_gets {s z : Vc} {b : Nat} {x : Int32} (h : sN s z) : sN s (gets b x z) := sN_up h (by omega)
theorem sN_spil {s z : Vc} {b : Nat} (h : sN s z) : sN s (spil b z) := sN_up h (by omega)
theorem sN_pass {s z : Vc} {b : Nat} {x : Int32} (h : sN s z) : sN s (pass b x z) := by
  unfold pass
  split
  · exact sN_gets h
  · exact sN_up h (by omega)
theorem In_flow {s z : Vc} {b : Nat} (h : InT z) (hb : b < nB z) (hs : sN s z) : InT (flow b z) ∧ sN s (flow b z) := by
  have hg := InT_gets (x := z 3 * bs z b 1) h (by have := h.1.2; omega : b < 6)
  refine ⟨InT_pass (InT_spil hg ?_), sN_pass (sN_spil (sN_gets hs))⟩
  rw [(sN_gets (s := z) (x := z 3 * bs z b 1) (b := b) ⟨rfl, rfl⟩).1]
  exact hb
theorem In_turn {s z : Vc} {b : Nat} {w : Nat → Int32} (h : InT z) (hb : b < nB z) (hs : sN s z) : InT (turn w b z) ∧ sN s (turn w b z) := by
  refine ⟨InT_B h (by have := h.1.2; omega) (by decide) ?_, sN_up hs (by omega)⟩
  split
  · exact h.2.2.2.2.1 b hb 2 (by decide)
  · exact @hl_rg _ (nI 0) (nI 99) (by decide)
theorem In_suf6 {s z : Vc} {d : Nat} (h : InT z) (hd : d < 12) (hs : sN s z) : InT (suf6 d z) ∧ sN s (suf6 d z) :=
  ⟨InT_D h hd (by decide) (by decide) (@hl_rg _ (nI 0) (nI 99999) (by decide)), sN_up hs (by omega)⟩
theorem In_suf7 {s z : Vc} {d : Nat} (h : InT z) (hd : d < 12) (hs : sN s z) : InT (suf7 d z) ∧ sN s (suf7 d z) :=
  ⟨InT_D h hd (by decide) (by decide) (@hl_rg _ (nI 0) (nI 99999) (by decide)), sN_up hs (by omega)⟩
theorem In_suf {s z : Vc} {d : Nat} (h : InT z) (hd : d < 12) (hs : sN s z) : InT (suf d z) ∧ sN s (suf d z) :=
  In_suf7 (In_suf6 h hd hs).1 hd (In_suf6 h hd hs).2
theorem In_lp {f : Nat → Vc → Vc} {n : Nat} {s : Vc} (h : InT s) (hf : ∀ b, b < n → ∀ z, InT z → sN s z → InT (f b z) ∧ sN s (f b z)) : InT (lp f n s) ∧ sN s (lp f n s) :=
  lp_inv (P := fun z => InT z ∧ sN s z) ⟨h, rfl, rfl⟩ (fun b hb z hz => hf b hb z hz.1 hz.2)
theorem In_weirs {s : Vc} {mb : Nat} {mw : Int32} (h : InT s) : InT (weirs mb mw s) ∧ sN s (weirs mb mw s) := In_lp h (fun _ hb _ hz hs => In_turn hz (by rw [hs.1]; exact hb) hs)
theorem In_flows {s : Vc} (h : InT s) : InT (flows s) ∧ sN s (flows s) := In_lp h (fun _ hb _ hz hs => In_flow hz (by rw [hs.1]; exact hb) hs)
theorem In_sufs {s : Vc} (h : InT s) : InT (sufs s) ∧ sN s (sufs s) := In_lp h (fun _ hb _ hz hs => In_suf hz (by have := h.2.1.2; omega) hs)
theorem sN_tr {s z y : Vc} (h1 : sN s z) (h2 : sN z y) : sN s y := ⟨h2.1.trans h1.1, h2.2.trans h1.2⟩
theorem In_hour {s : Vc} {mb : Nat} {mw : Int32} (h : InT s) : InT (hour mb mw s) ∧ sN s (hour mb mw s) := by
  have h1 := In_weirs (mb := mb) (mw := mw) h
  have h2 := In_flows h1.1
  have h3 := In_sufs h2.1
  exact ⟨InT_k h3.1 (Or.inl rfl), sN_up (sN_tr h1.2 (sN_tr h2.2 h3.2)) (by decide)⟩
theorem In_goN {n : Nat} {s : Vc} (h : InT s) : InT (goN n s) ∧ sN s (goN n s) := by
  induction n with
  | zero => exact ⟨h, rfl, rfl⟩
  | succ n ih => exact ⟨(In_hour ih.1).1, sN_tr ih.2 (In_hour ih.1).2⟩
/-- what an hour never touches -/
def kp (s z : Vc) : Prop := ∀ k, (k = 0 ∨ k = 1 ∨ k = 3 ∨ k = 5 ∨ k = 6 ∨ k = 7 ∨ 146 ≤ k) → z k = s k
theorem kp_up {s z : Vc} {k : Nat} {x : Int32} (h : kp s z) (hk : k = 2 ∨ k = 4 ∨ (8 ≤ k ∧ k < 146)) : kp s (upd z k x) := fun j hj => by rw [pk_un (by omega)]; exact h j hj
theorem kp_gets {s z : Vc} {b : Nat} {x : Int32} (h : kp s z) (hb : b < 6) : kp s (gets b x z) := kp_up h (by omega)
theorem kp_pass {s z : Vc} {b : Nat} {x : Int32} (h : kp s z) (hz : nB z ≤ 6) : kp s (pass b x z) := by
  unfold pass
  split
  · exact kp_gets h (by omega)
  · exact kp_up h (by omega)
theorem kp_flow {s z : Vc} {b : Nat} (h : kp s z) (hb : b < 6) (hz : nB z ≤ 6) : kp s (flow b z) := by
  refine kp_pass (kp_up (kp_gets h hb) (by omega)) ?_
  show nB (spil b (gets b (z 3 * bs z b 1) z)) ≤ 6
  rw [(sN_spil (s := z) (sN_gets ⟨rfl, rfl⟩)).1]
  exact hz
theorem kp_hour {s : Vc} {mb : Nat} {mw : Int32} (h : InT s) : kp s (hour mb mw s) := by
  have h1 := In_weirs (mb := mb) (mw := mw) h
  have h2 := In_flows h1.1
  have b6 := h.1.2
  have d12 := h.2.1.2
  have k1 : kp s (weirs mb mw s) := lp_inv (P := fun z => kp s z) (fun _ _ => rfl) (fun b hb z hz => kp_up hz (by omega))
  have k2 : InT (flows (weirs mb mw s)) ∧ sN s (flows (weirs mb mw s)) ∧ kp s (flows (weirs mb mw s)) := by
    refine lp_inv (P := fun z => InT z ∧ sN s z ∧ kp s z) ⟨h1.1, h1.2, k1⟩ (fun b hb z hz => ?_)
    rw [h1.2.1] at hb
    have h3 := In_flow (s := s) hz.1 (by rw [hz.2.1.1]; exact hb) hz.2.1
    exact ⟨h3.1, h3.2, kp_flow hz.2.2 (by omega) hz.1.1.2⟩
  have k3 : kp s (sufs (flows (weirs mb mw s))) := by
    refine lp_inv (P := fun z => kp s z) k2.2.2 (fun d hd z hz => ?_)
    rw [k2.2.1.2] at hd
    exact kp_up (kp_up hz (by omega)) (by omega)
  exact kp_up k3 (by omega)
theorem kp_tr {s z y : Vc} (h1 : kp s z) (h2 : kp z y) : kp s y := fun k hk => (h2 k hk).trans (h1 k hk)
theorem kp_goN {n : Nat} {s : Vc} (h : InT s) : kp s (goN n s) := by
  induction n with
  | zero => exact fun _ _ => rfl
  | succ n ih => exact kp_tr ih (kp_hour (In_goN h).1)
/-! texts -/
def isNm (u : Nat) (v : Int32) : Prop := (u = 0 ∧ (v = nI 108 ∨ v = nI 115 ∨ v = nI 114 ∨ v = nI 104 ∨ v = nI 119)) ∨ (u = 1 ∧ (v = nI 102 ∨ v = nI 100 ∨ v = nI 109))
def isSg (v : Int32) : Prop := v = nI 37 ∨ v = nI 38 ∨ v = nI 42 ∨ v = nI 43 ∨ v = nI 45 ∨ v = nI 47 ∨ v = nI 60 ∨ v = nI 61 ∨ v = nI 62 ∨ v = nI 124
def okE (u : Nat) (e : Int32 × Int32) (n : Nat) : Prop := (e.1 = nI 0 ∧ rg e.2 0 9999) ∨ (e.1 = nI 1 ∧ isNm u e.2) ∨ (e.1 = nI 2 ∧ 1 ≤ n) ∨ (e.1 = nI 3 ∧ isSg e.2 ∧ 2 ≤ n)
def nxE (e : Int32 × Int32) (n : Nat) : Nat := if e.1 = nI 0 then n + 1 else if e.1 = nI 1 then n + 1 else if e.1 = nI 2 then n else n - 1
/-- from so many on the pile to so many -/
def wf (u : Nat) : List (Int32 × Int32) → Nat → Nat → Prop
  | [], n, n' => n = n'
  | e :: l, n, n' => okE u e n ∧ wf u l (nxE e n) n'
theorem wf_app {u : Nat} {l2 : List (Int32 × Int32)} {n' n'' : Nat} (h2 : wf u l2 n' n'') : ∀ {l1 : List (Int32 × Int32)} {n : Nat}, wf u l1 n n' → wf u (l1 ++ l2) n n''
  | [], _, h1 => by cases h1; exact h2
  | _ :: _, _, h1 => ⟨h1.1, wf_app h2 h1.2⟩
/-- a place's name among the NAMES -/
def idN (u : Nat) (v : Int32) : Nat :=
  if u = 0 then (if v = nI 108 then 0 else if v = nI 115 then 1 else if v = nI 114 then 2 else if v = nI 104 then 3 else 4)
  else (if v = nI 102 then 0 else if v = nI 100 then 1 else 2)
/-- a step as the class writes it -/
def enc (u : Nat) (e : Int32 × Int32) : Int32 := if e.1 = nI 0 then e.2 else if e.1 = nI 1 then (-1) - nI (idN u e.2) else if e.1 = nI 2 then (-33) else -e.2
def InX (s : Vc) (u : Nat) : Prop := s (146 + 125 * u) = nI (txN s u) ∧ txN s u ≤ 60 ∧ (txN s u = 0 ∨ wf u (txt s u) 0 1)
/-- the rows behind the doors: texts, tape, what waits -/
def InS (s : Vc) : Prop := InT s ∧ InX s 0 ∧ InX s 1 ∧ (∃ n, n ≤ 60 ∧ s 5 = nI n ∧ ∀ k, k < n → rg (s (396 + k)) 0 255) ∧ (∃ n, n ≤ 24 ∧ s 6 = nI n)
theorem txt_eq {s z : Vc} {u : Nat} (hu : u < 2) (h : ∀ k, 146 ≤ k → k < 396 → z k = s k) (hn : txN s u ≤ 60) : txN z u = txN s u ∧ txt z u = txt s u := by
  have e : txN z u = txN s u := by unfold txN; rw [h _ (by omega) (by omega)]
  refine ⟨e, ?_⟩
  unfold txt
  rw [e]
  refine List.map_congr_left (fun k hk => ?_)
  have hk2 := List.mem_range.mp hk
  unfold txe
  rw [h _ (by omega) (by omega), h _ (by omega) (by omega)]
