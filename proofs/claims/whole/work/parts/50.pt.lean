/-! voices: what they are -/
def bg (b : Int32) (c : Nat) (i : ab_I) : ab_I := ab_up (ab_up i 227 c b) 218 16 (nI (c + 1))
def bgL : List Int32 → Nat → ab_I → ab_I
  | [], _, i => i
  | b :: l, c, i => bgL l (c + 1) (bg b c i)
def bgR : List Int32 → Nat → Vc → Vc
  | [], _, f => f
  | b :: l, c, f => bgR l (c + 1) (upd f c b)
def voL (k : Nat) : List Int32 := if k = 1 ∨ k = 5 then [nI 20, nI 10] else if k = 3 then [nI 40, nI 10] else if k = 6 then [nI 70] else [nI 10]
def voV (N : Int32) (k : Nat) (x : Int32) : Int32 := if k = 1 ∨ k = 5 then x + N - nI 7 else if k = 3 then (x + N) * nI 3 else if k = 6 then nI 4 else x + N
def feL (K k : Nat) : List Int32 := if k = 2 ∨ k = 3 then nI 30 :: nI 11 :: voL K else if k = 5 then nI 60 :: nI 11 :: voL K else if k = 6 then nI 71 :: nI 11 :: voL K else nI 11 :: voL K
def feV (N M : Int32) (K k : Nat) (x : Int32) : Int32 := if k = 2 ∨ k = 3 then nI 0 - voV N K x * nI 2 else if k = 5 then voV N K (x + nI 1) * nI 2 else if k = 6 then voV N K x * nI 2 + M else voV N K x * nI 2
def flL (K k : Nat) : List Int32 := if k = 3 then nI 41 :: nI 12 :: feL K K else if k = 4 then nI 50 :: nI 12 :: feL K K else nI 12 :: feL K K
def flV (N M : Int32) (K k : Nat) (x : Int32) : Int32 := if k = 3 then (feV N M K K x - M) ^^^ N else if k = 4 then feV N M K K (x / nI 2) - M else feV N M K K x - M
def paL (N M : Int32) (K k : Nat) : List Int32 := if k = 1 ∨ k = 5 then (if M - N = nI 0 then [nI 21, nI 13] else nI 21 :: nI 13 :: feL K K) else [nI 13]
def pa0 (N M x : Int32) : Int32 := if M - N = nI 0 then nI 0 else x / (M - N)
def paV (N M : Int32) (K k : Nat) (x : Int32) : Int32 := if k = 1 ∨ k = 5 then (if M - N = nI 0 then nI 0 else pa0 N M x + feV N M K K (nI 1)) else pa0 N M x
theorem voL_n (k : Nat) : (voL k).length ≤ 2 := by
  unfold voL
  repeat' split
  all_goals decide
theorem feL_n (K k : Nat) : (feL K k).length ≤ 4 := by
  have := voL_n K
  unfold feL
  repeat' split
  all_goals simp only [List.length_cons]
  all_goals omega
theorem flL_n (K k : Nat) : (flL K k).length ≤ 6 := by
  have := feL_n K K
  unfold flL
  repeat' split
  all_goals simp only [List.length_cons]
  all_goals omega
theorem paL_n (N M : Int32) (K k : Nat) : (paL N M K k).length ≤ 6 := by
  have := feL_n K K
  unfold paL
  repeat' split
  all_goals simp only [List.length_cons, List.length_nil]
  all_goals omega
def Env (s : Vc) (d c : Nat) (i : ab_I) : Prop := i 219 = s ∧ i 218 17 = nI d ∧ i 218 16 = nI c
theorem env_bg {s : Vc} {d c : Nat} {i : ab_I} {b : Int32} (h : Env s d c i) : Env s d (c + 1) (bg b c i) := by
  unfold Env bg
  exact ⟨(up_row (by decide)).trans ((up_row (by decide)).trans h.1), (up_ne (by omega)).trans ((up_ne (by omega)).trans h.2.1), up_us⟩
theorem env_L {s : Vc} {d : Nat} : ∀ {l : List Int32} {c : Nat} {i : ab_I}, Env s d c i → Env s d (c + l.length) (bgL l c i)
  | [], _, _, h => h
  | b :: l, c, i, h => by
    have := env_L (l := l) (env_bg (b := b) h)
    rw [show c + (b :: l).length = c + 1 + l.length by rw [List.length_cons]; omega]
    exact this
theorem k_deep {h h2 mi : Nat} {as : List Value} {i : ab_I} {Q : Option Value → ab_I → Prop} (hk : ab_K h mi as i Q) (hd : h ≤ h2) : ab_K h2 mi as i Q := by
  obtain ⟨T1, l1, he, hr⟩ := hk
  exact ⟨T1, l1, he, r_deep hr hd⟩
theorem m_beg {i : ab_I} (b : Int32) (c : Nat) (hc : i 218 16 = nI c) (h30 : c < 30) : ab_K 0 224 [.ref 218, .int b] i (ab_N (bg b c i)) := by
  refine k_of rfl ?_
  refine r_go 3 rfl ?_ ?_
  · exact rfl
  rw [hc]
  refine r_brF rfl (fun h => by clear hc; (simp (disch := omega) only [Int32.le_iff_toInt_le, Int32.lt_iff_toInt_lt, c_i, m1_i, m5_i, m33_i] at * <;> omega)) ?_
  refine r_go 12 rfl ?_ ?_
  · (simp only [ab_all, gr_218_15, hc]; exact ⟨rfl, rfl, ix_of gt_227 h30 (by omega), rfl, rfl, by decide⟩)
  refine r_ret rfl trivial ?_
  rw [gr_218_15, hc, nI_cl (by omega), up_ne (by omega), hc, nI_add]
  exact ⟨rfl, rfl⟩
def abv (x : Int32) : Int32 := if x = nI 3 then nI 2 else if x = nI 5 then nI 1 else nI 0
theorem m_abv {i : ab_I} (x : Int32) : ab_K 0 225 [.int x] i (ab_V (.int (abv x)) i) := by
  refine k_of rfl ?_
  refine r_go 2 rfl ?_ ?_
  · (first | exact trivial | assumption | (simp (disch := omega) [ab_all, ab_nz, *]; done))
  refine r_ne rfl (fun h2 => ?_) (fun h2 => ?_)
  · skip
    refine r_go 2 rfl ?_ ?_
    · (first | exact trivial | assumption | (simp (disch := omega) [ab_all, ab_nz, *]; done))
    refine r_ne rfl (fun h11 => ?_) (fun h11 => ?_)
    · skip
      refine r_go 1 rfl ?_ ?_
      · (first | exact trivial | assumption | (simp (disch := omega) [ab_all, ab_nz, *]; done))
      refine r_ret rfl trivial ?_
      exact lv_e (by unfold abv; simp (decide := true) only [h2, h11, if_true, if_false])
    · skip
      refine r_go 2 rfl ?_ ?_
      · (first | exact trivial | assumption | (simp (disch := omega) [ab_all, ab_nz, *]; done))
      refine r_ret rfl trivial ?_
      exact lv_e (by unfold abv; simp (decide := true) only [h2, h11, if_true, if_false])
  · skip
    refine r_go 2 rfl ?_ ?_
    · (first | exact trivial | assumption | (simp (disch := omega) [ab_all, ab_nz, *]; done))
    refine r_ret rfl trivial ?_
    exact lv_e (by unfold abv; simp (decide := true) only [h2, if_true, if_false])
theorem m_ab {i : ab_I} (k r : Nat) (h : abv (nI k) = nI r) : ab_K 0 225 [.int (nI k)] i (ab_V (.int (nI r)) i) := by
  rw [← h]
  exact m_abv _
theorem m_kind {i : ab_I} {s : Vc} {d : Nat} (hs : i 219 = s) (h17 : i 218 17 = nI d) (hd : d < 12) : ab_K 1 226 [.ref 218] i (ab_V (.int (dr s d 0)) i) := by
  refine k_of rfl ?_
  refine r_go 4 rfl ?_ ?_
  · exact rfl
  rw [h17]
  refine r_cv rfl rfl ((m_its d 0 hs (by omega))) (by decide) ?_
  refine r_ret rfl trivial ?_
  exact ⟨rfl, rfl⟩
theorem m_mNow {i : ab_I} {s : Vc} {d : Nat} (hs : i 219 = s) (h17 : i 218 17 = nI d) (hd : d < 12) : ab_K 1 227 [.ref 218] i (ab_V (.int (dr s d 1)) i) := by
  refine k_of rfl ?_
  refine r_go 4 rfl ?_ ?_
  · exact rfl
  rw [h17]
  refine r_cv rfl rfl ((m_its d 1 hs (by omega))) (by decide) ?_
  refine r_ret rfl trivial ?_
  exact ⟨rfl, rfl⟩
theorem vb0 {s : Vc} {d c : Nat} {i : ab_I} (x : Int32) (hE : Env s d c i) (hd : d < 12) (hc : c + 1 ≤ 30) : ab_K 1 228 [.ref 218, .int (nI 0), .int x] i (ab_V (.int (voV (nI d) 0 x)) (bgL (voL 0) c i)) := by
  refine k_of rfl ?_
  refine r_go 1 rfl ?_ ?_
  · (first | exact trivial | assumption | (simp (disch := omega) [ab_all, ab_nz, *]; done))
  refine r_sw rfl ?_
  refine r_swT (rfl) ?_
  refine r_go 2 rfl ?_ ?_
  · (first | exact trivial | assumption | (simp (disch := omega) [ab_all, ab_nz, *]; done))
  refine r_cn rfl rfl ((m_beg (nI 10) c hE.2.2 (by omega))) (by decide) ?_
  refine r_go 4 rfl ?_ ?_
  · exact rfl
  refine r_ret rfl trivial ?_
  rw [(env_bg (b := nI 10) hE).2.1]
  exact ⟨rfl, rfl⟩
theorem vb1 {s : Vc} {d c : Nat} {i : ab_I} (x : Int32) (hE : Env s d c i) (hd : d < 12) (hc : c + 2 ≤ 30) : ab_K 2 228 [.ref 218, .int (nI 1), .int x] i (ab_V (.int (voV (nI d) 1 x)) (bgL (voL 1) c i)) := by
  refine k_of rfl ?_
  refine r_go 1 rfl ?_ ?_
  · (first | exact trivial | assumption | (simp (disch := omega) [ab_all, ab_nz, *]; done))
  refine r_sw rfl ?_
  refine r_swk (fun hz => absurd hz (by decide)) (fun _ => ?_)
  refine r_swT (rfl) ?_
  refine r_go 2 rfl ?_ ?_
  · (first | exact trivial | assumption | (simp (disch := omega) [ab_all, ab_nz, *]; done))
  refine r_cn rfl rfl ((m_beg (nI 20) c hE.2.2 (by omega))) (by decide) ?_
  refine r_go 2 rfl ?_ ?_
  · (first | exact trivial | assumption | (simp (disch := omega) [ab_all, ab_nz, *]; done))
  refine r_cv rfl trivial ((m_ab 1 0 (by decide))) (by decide) ?_
  refine r_go 1 rfl ?_ ?_
  · (first | exact trivial | assumption | (simp (disch := omega) [ab_all, ab_nz, *]; done))
  refine r_cv rfl rfl ((vb0 x (env_bg hE) hd (by omega))) (by decide) ?_
  refine r_go 2 rfl ?_ ?_
  · (first | exact trivial | assumption | (simp (disch := omega) [ab_all, ab_nz, *]; done))
  refine r_ret rfl trivial ?_
  exact ⟨rfl, rfl⟩
theorem vb2 {s : Vc} {d c : Nat} {i : ab_I} (x : Int32) (hE : Env s d c i) (hd : d < 12) (hc : c + 1 ≤ 30) : ab_K 2 228 [.ref 218, .int (nI 2), .int x] i (ab_V (.int (voV (nI d) 2 x)) (bgL (voL 2) c i)) := by
  refine k_of rfl ?_
  refine r_go 1 rfl ?_ ?_
  · (first | exact trivial | assumption | (simp (disch := omega) [ab_all, ab_nz, *]; done))
  refine r_sw rfl ?_
  refine r_swk (fun hz => absurd hz (by decide)) (fun _ => ?_)
  refine r_swk (fun hz => absurd hz (by decide)) (fun _ => ?_)
  refine r_swT (rfl) ?_
  refine r_go 2 rfl ?_ ?_
  · (first | exact trivial | assumption | (simp (disch := omega) [ab_all, ab_nz, *]; done))
  refine r_cv rfl trivial ((m_ab 2 0 (by decide))) (by decide) ?_
  refine r_go 1 rfl ?_ ?_
  · (first | exact trivial | assumption | (simp (disch := omega) [ab_all, ab_nz, *]; done))
  refine r_cv rfl rfl ((vb0 x hE hd hc)) (by decide) ?_
  refine r_ret rfl trivial ?_
  exact ⟨rfl, rfl⟩
theorem vb3 {s : Vc} {d c : Nat} {i : ab_I} (x : Int32) (hE : Env s d c i) (hd : d < 12) (hc : c + 2 ≤ 30) : ab_K 3 228 [.ref 218, .int (nI 3), .int x] i (ab_V (.int (voV (nI d) 3 x)) (bgL (voL 3) c i)) := by
  refine k_of rfl ?_
  refine r_go 1 rfl ?_ ?_
  · (first | exact trivial | assumption | (simp (disch := omega) [ab_all, ab_nz, *]; done))
  refine r_sw rfl ?_
  refine r_swk (fun hz => absurd hz (by decide)) (fun _ => ?_)
  refine r_swk (fun hz => absurd hz (by decide)) (fun _ => ?_)
  refine r_swk (fun hz => absurd hz (by decide)) (fun _ => ?_)
  refine r_swT (rfl) ?_
  refine r_go 2 rfl ?_ ?_
  · (first | exact trivial | assumption | (simp (disch := omega) [ab_all, ab_nz, *]; done))
  refine r_cn rfl rfl ((m_beg (nI 40) c hE.2.2 (by omega))) (by decide) ?_
  refine r_go 2 rfl ?_ ?_
  · (first | exact trivial | assumption | (simp (disch := omega) [ab_all, ab_nz, *]; done))
  refine r_cv rfl trivial ((m_ab 3 2 (by decide))) (by decide) ?_
  refine r_go 1 rfl ?_ ?_
  · (first | exact trivial | assumption | (simp (disch := omega) [ab_all, ab_nz, *]; done))
  refine r_cv rfl rfl ((vb2 x (env_bg hE) hd (by omega))) (by decide) ?_
  refine r_go 2 rfl ?_ ?_
  · (first | exact trivial | assumption | (simp (disch := omega) [ab_all, ab_nz, *]; done))
  refine r_ret rfl trivial ?_
  exact ⟨rfl, rfl⟩
theorem vb6 {s : Vc} {d c : Nat} {i : ab_I} (x : Int32) (hE : Env s d c i) (hd : d < 12) (hc : c + 1 ≤ 30) : ab_K 1 228 [.ref 218, .int (nI 6), .int x] i (ab_V (.int (voV (nI d) 6 x)) (bgL (voL 6) c i)) := by
  refine k_of rfl ?_
  refine r_go 1 rfl ?_ ?_
  · (first | exact trivial | assumption | (simp (disch := omega) [ab_all, ab_nz, *]; done))
  refine r_sw rfl ?_
  refine r_swk (fun hz => absurd hz (by decide)) (fun _ => ?_)
  refine r_swk (fun hz => absurd hz (by decide)) (fun _ => ?_)
  refine r_swk (fun hz => absurd hz (by decide)) (fun _ => ?_)
  refine r_swk (fun hz => absurd hz (by decide)) (fun _ => ?_)
  refine r_swk (fun hz => absurd hz (by decide)) (fun _ => ?_)
  refine r_swk (fun hz => absurd hz (by decide)) (fun _ => ?_)
  refine r_swT (rfl) ?_
  refine r_go 2 rfl ?_ ?_
  · (first | exact trivial | assumption | (simp (disch := omega) [ab_all, ab_nz, *]; done))
  refine r_cn rfl rfl ((m_beg (nI 70) c hE.2.2 (by omega))) (by decide) ?_
  refine r_go 1 rfl ?_ ?_
  · (first | exact trivial | assumption | (simp (disch := omega) [ab_all, ab_nz, *]; done))
  refine r_ret rfl trivial ?_
  exact ⟨rfl, rfl⟩
theorem vb4 {s : Vc} {d c : Nat} {i : ab_I} (x : Int32) (hE : Env s d c i) (hd : d < 12) (hc : c + 1 ≤ 30) : ab_K 2 228 [.ref 218, .int (nI 4), .int x] i (ab_V (.int (voV (nI d) 4 x)) (bgL (voL 4) c i)) := by
  refine k_of rfl ?_
  refine r_go 1 rfl ?_ ?_
  · (first | exact trivial | assumption | (simp (disch := omega) [ab_all, ab_nz, *]; done))
  refine r_sw rfl ?_
  refine r_swk (fun hz => absurd hz (by decide)) (fun _ => ?_)
  refine r_swk (fun hz => absurd hz (by decide)) (fun _ => ?_)
  refine r_swk (fun hz => absurd hz (by decide)) (fun _ => ?_)
  refine r_swk (fun hz => absurd hz (by decide)) (fun _ => ?_)
  refine r_swT (rfl) ?_
  refine r_go 2 rfl ?_ ?_
  · (first | exact trivial | assumption | (simp (disch := omega) [ab_all, ab_nz, *]; done))
  refine r_cv rfl trivial ((m_ab 4 0 (by decide))) (by decide) ?_
  refine r_go 1 rfl ?_ ?_
  · (first | exact trivial | assumption | (simp (disch := omega) [ab_all, ab_nz, *]; done))
  refine r_cv rfl rfl ((vb0 x hE hd hc)) (by decide) ?_
  refine r_ret rfl trivial ?_
  exact ⟨rfl, rfl⟩
theorem vb5 {s : Vc} {d c : Nat} {i : ab_I} (x : Int32) (hE : Env s d c i) (hd : d < 12) (hc : c + 2 ≤ 30) : ab_K 3 228 [.ref 218, .int (nI 5), .int x] i (ab_V (.int (voV (nI d) 5 x)) (bgL (voL 5) c i)) := by
  refine k_of rfl ?_
  refine r_go 1 rfl ?_ ?_
  · (first | exact trivial | assumption | (simp (disch := omega) [ab_all, ab_nz, *]; done))
  refine r_sw rfl ?_
  refine r_swk (fun hz => absurd hz (by decide)) (fun _ => ?_)
  refine r_swk (fun hz => absurd hz (by decide)) (fun _ => ?_)
  refine r_swk (fun hz => absurd hz (by decide)) (fun _ => ?_)
  refine r_swk (fun hz => absurd hz (by decide)) (fun _ => ?_)
  refine r_swk (fun hz => absurd hz (by decide)) (fun _ => ?_)
  refine r_swT (rfl) ?_
  refine r_go 2 rfl ?_ ?_
  · (first | exact trivial | assumption | (simp (disch := omega) [ab_all, ab_nz, *]; done))
  refine r_cv rfl trivial ((m_ab 5 1 (by decide))) (by decide) ?_
  refine r_go 1 rfl ?_ ?_
  · (first | exact trivial | assumption | (simp (disch := omega) [ab_all, ab_nz, *]; done))
  refine r_cv rfl rfl ((vb1 x hE hd hc)) (by decide) ?_
  refine r_ret rfl trivial ?_
  exact ⟨rfl, rfl⟩
theorem vbA (k : Nat) (hk : k < 7) {s : Vc} {d c : Nat} {i : ab_I} (x : Int32) (hE : Env s d c i) (hd : d < 12) (hc : c + 2 ≤ 30) : ab_K 4 228 [.ref 218, .int (nI k), .int x] i (ab_V (.int (voV (nI d) k x)) (bgL (voL k) c i)) := by
  have : k = 0 ∨ k = 1 ∨ k = 2 ∨ k = 3 ∨ k = 4 ∨ k = 5 ∨ k = 6 := by omega
  rcases this with rfl | rfl | rfl | rfl | rfl | rfl | rfl
  · exact k_deep (vb0 x hE hd (by omega)) (by decide)
  · exact k_deep (vb1 x hE hd hc) (by decide)
  · exact k_deep (vb2 x hE hd (by omega)) (by decide)
  · exact k_deep (vb3 x hE hd hc) (by decide)
  · exact k_deep (vb4 x hE hd (by omega)) (by decide)
  · exact k_deep (vb5 x hE hd hc) (by decide)
  · exact k_deep (vb6 x hE hd (by omega)) (by decide)
theorem fb0 {s : Vc} {d c K : Nat} {i : ab_I} (x : Int32) (hE : Env s d c i) (hd : d < 12) (hK : K < 7) (eK : dr s d 0 = nI K) (hc : c + 3 ≤ 30) : ab_K 5 229 [.ref 218, .int (nI 0), .int x] i (ab_V (.int (feV (nI d) (dr s d 1) K 0 x)) (bgL (feL K 0) c i)) := by
  refine k_of rfl ?_
  refine r_go 1 rfl ?_ ?_
  · (first | exact trivial | assumption | (simp (disch := omega) [ab_all, ab_nz, *]; done))
  refine r_sw rfl ?_
  refine r_swT (rfl) ?_
  refine r_go 2 rfl ?_ ?_
  · (first | exact trivial | assumption | (simp (disch := omega) [ab_all, ab_nz, *]; done))
  refine r_cn rfl rfl ((m_beg (nI 11) c hE.2.2 (by omega))) (by decide) ?_
  refine r_go 2 rfl ?_ ?_
  · (first | exact trivial | assumption | (simp (disch := omega) [ab_all, ab_nz, *]; done))
  refine r_cv rfl rfl ((m_kind (env_bg hE).1 (env_bg hE).2.1 hd)) (by decide) ?_
  refine r_go 1 rfl ?_ ?_
  · (first | exact trivial | assumption | (simp (disch := omega) [ab_all, ab_nz, *]; done))
  rw [eK]
  refine r_cv rfl rfl ((vbA K hK x (env_bg hE) hd (by omega))) (by decide) ?_
  refine r_go 2 rfl ?_ ?_
  · (first | exact trivial | assumption | (simp (disch := omega) [ab_all, ab_nz, *]; done))
  refine r_ret rfl trivial ?_
  exact ⟨rfl, rfl⟩
theorem fb1 {s : Vc} {d c K : Nat} {i : ab_I} (x : Int32) (hE : Env s d c i) (hd : d < 12) (hK : K < 7) (eK : dr s d 0 = nI K) (hc : c + 3 ≤ 30) : ab_K 6 229 [.ref 218, .int (nI 1), .int x] i (ab_V (.int (feV (nI d) (dr s d 1) K 1 x)) (bgL (feL K 1) c i)) := by
  refine k_of rfl ?_
  refine r_go 1 rfl ?_ ?_
  · (first | exact trivial | assumption | (simp (disch := omega) [ab_all, ab_nz, *]; done))
  refine r_sw rfl ?_
  refine r_swk (fun hz => absurd hz (by decide)) (fun _ => ?_)
  refine r_swT (rfl) ?_
  refine r_go 2 rfl ?_ ?_
  · (first | exact trivial | assumption | (simp (disch := omega) [ab_all, ab_nz, *]; done))
  refine r_cv rfl trivial ((m_ab 1 0 (by decide))) (by decide) ?_
  refine r_go 1 rfl ?_ ?_
  · (first | exact trivial | assumption | (simp (disch := omega) [ab_all, ab_nz, *]; done))
  refine r_cv rfl rfl ((fb0 x hE hd hK eK hc)) (by decide) ?_
  refine r_ret rfl trivial ?_
  exact ⟨rfl, rfl⟩
theorem fb4 {s : Vc} {d c K : Nat} {i : ab_I} (x : Int32) (hE : Env s d c i) (hd : d < 12) (hK : K < 7) (eK : dr s d 0 = nI K) (hc : c + 3 ≤ 30) : ab_K 6 229 [.ref 218, .int (nI 4), .int x] i (ab_V (.int (feV (nI d) (dr s d 1) K 4 x)) (bgL (feL K 4) c i)) := by
  refine k_of rfl ?_
  refine r_go 1 rfl ?_ ?_
  · (first | exact trivial | assumption | (simp (disch := omega) [ab_all, ab_nz, *]; done))
  refine r_sw rfl ?_
  refine r_swk (fun hz => absurd hz (by decide)) (fun _ => ?_)
  refine r_swk (fun hz => absurd hz (by decide)) (fun _ => ?_)
  refine r_swk (fun hz => absurd hz (by decide)) (fun _ => ?_)
  refine r_swk (fun hz => absurd hz (by decide)) (fun _ => ?_)
  refine r_swT (rfl) ?_
  refine r_go 2 rfl ?_ ?_
  · (first | exact trivial | assumption | (simp (disch := omega) [ab_all, ab_nz, *]; done))
  refine r_cv rfl trivial ((m_ab 4 0 (by decide))) (by decide) ?_
  refine r_go 1 rfl ?_ ?_
  · (first | exact trivial | assumption | (simp (disch := omega) [ab_all, ab_nz, *]; done))
  refine r_cv rfl rfl ((fb0 x hE hd hK eK hc)) (by decide) ?_
  refine r_ret rfl trivial ?_
  exact ⟨rfl, rfl⟩
theorem fb2 {s : Vc} {d c K : Nat} {i : ab_I} (x : Int32) (hE : Env s d c i) (hd : d < 12) (hK : K < 7) (eK : dr s d 0 = nI K) (hc : c + 4 ≤ 30) : ab_K 6 229 [.ref 218, .int (nI 2), .int x] i (ab_V (.int (feV (nI d) (dr s d 1) K 2 x)) (bgL (feL K 2) c i)) := by
  refine k_of rfl ?_
  refine r_go 1 rfl ?_ ?_
  · (first | exact trivial | assumption | (simp (disch := omega) [ab_all, ab_nz, *]; done))
  refine r_sw rfl ?_
  refine r_swk (fun hz => absurd hz (by decide)) (fun _ => ?_)
  refine r_swk (fun hz => absurd hz (by decide)) (fun _ => ?_)
  refine r_swT (rfl) ?_
  refine r_go 2 rfl ?_ ?_
  · (first | exact trivial | assumption | (simp (disch := omega) [ab_all, ab_nz, *]; done))
  refine r_cn rfl rfl ((m_beg (nI 30) c hE.2.2 (by omega))) (by decide) ?_
  refine r_go 3 rfl ?_ ?_
  · (first | exact trivial | assumption | (simp (disch := omega) [ab_all, ab_nz, *]; done))
  refine r_cv rfl trivial ((m_ab 2 0 (by decide))) (by decide) ?_
  refine r_go 1 rfl ?_ ?_
  · (first | exact trivial | assumption | (simp (disch := omega) [ab_all, ab_nz, *]; done))
  refine r_cv rfl rfl ((fb0 x (env_bg hE) hd hK eK (by omega))) (by decide) ?_
  refine r_go 1 rfl ?_ ?_
  · (first | exact trivial | assumption | (simp (disch := omega) [ab_all, ab_nz, *]; done))
  refine r_ret rfl trivial ?_
  exact ⟨rfl, rfl⟩
theorem fb3 {s : Vc} {d c K : Nat} {i : ab_I} (x : Int32) (hE : Env s d c i) (hd : d < 12) (hK : K < 7) (eK : dr s d 0 = nI K) (hc : c + 4 ≤ 30) : ab_K 7 229 [.ref 218, .int (nI 3), .int x] i (ab_V (.int (feV (nI d) (dr s d 1) K 3 x)) (bgL (feL K 3) c i)) := by
  refine k_of rfl ?_
  refine r_go 1 rfl ?_ ?_
  · (first | exact trivial | assumption | (simp (disch := omega) [ab_all, ab_nz, *]; done))
  refine r_sw rfl ?_
  refine r_swk (fun hz => absurd hz (by decide)) (fun _ => ?_)
  refine r_swk (fun hz => absurd hz (by decide)) (fun _ => ?_)
  refine r_swk (fun hz => absurd hz (by decide)) (fun _ => ?_)
  refine r_swT (rfl) ?_
  refine r_go 2 rfl ?_ ?_
  · (first | exact trivial | assumption | (simp (disch := omega) [ab_all, ab_nz, *]; done))
  refine r_cv rfl trivial ((m_ab 3 2 (by decide))) (by decide) ?_
  refine r_go 1 rfl ?_ ?_
  · (first | exact trivial | assumption | (simp (disch := omega) [ab_all, ab_nz, *]; done))
  refine r_cv rfl rfl ((fb2 x hE hd hK eK hc)) (by decide) ?_
  refine r_ret rfl trivial ?_
  exact ⟨rfl, rfl⟩
theorem fb5 {s : Vc} {d c K : Nat} {i : ab_I} (x : Int32) (hE : Env s d c i) (hd : d < 12) (hK : K < 7) (eK : dr s d 0 = nI K) (hc : c + 4 ≤ 30) : ab_K 7 229 [.ref 218, .int (nI 5), .int x] i (ab_V (.int (feV (nI d) (dr s d 1) K 5 x)) (bgL (feL K 5) c i)) := by
  refine k_of rfl ?_
  refine r_go 1 rfl ?_ ?_
  · (first | exact trivial | assumption | (simp (disch := omega) [ab_all, ab_nz, *]; done))
  refine r_sw rfl ?_
  refine r_swk (fun hz => absurd hz (by decide)) (fun _ => ?_)
  refine r_swk (fun hz => absurd hz (by decide)) (fun _ => ?_)
  refine r_swk (fun hz => absurd hz (by decide)) (fun _ => ?_)
  refine r_swk (fun hz => absurd hz (by decide)) (fun _ => ?_)
  refine r_swk (fun hz => absurd hz (by decide)) (fun _ => ?_)
  refine r_swT (rfl) ?_
  refine r_go 2 rfl ?_ ?_
  · (first | exact trivial | assumption | (simp (disch := omega) [ab_all, ab_nz, *]; done))
  refine r_cn rfl rfl ((m_beg (nI 60) c hE.2.2 (by omega))) (by decide) ?_
  refine r_go 2 rfl ?_ ?_
  · (first | exact trivial | assumption | (simp (disch := omega) [ab_all, ab_nz, *]; done))
  refine r_cv rfl trivial ((m_ab 5 1 (by decide))) (by decide) ?_
  refine r_go 3 rfl ?_ ?_
  · (first | exact trivial | assumption | (simp (disch := omega) [ab_all, ab_nz, *]; done))
  refine r_cv rfl rfl ((fb1 _ (env_bg hE) hd hK eK (by omega))) (by decide) ?_
  refine r_ret rfl trivial ?_
  exact ⟨rfl, rfl⟩
theorem fb6 {s : Vc} {d c K : Nat} {i : ab_I} (x : Int32) (hE : Env s d c i) (hd : d < 12) (hK : K < 7) (eK : dr s d 0 = nI K) (hc : c + 4 ≤ 30) : ab_K 6 229 [.ref 218, .int (nI 6), .int x] i (ab_V (.int (feV (nI d) (dr s d 1) K 6 x)) (bgL (feL K 6) c i)) := by
  refine k_of rfl ?_
  refine r_go 1 rfl ?_ ?_
  · (first | exact trivial | assumption | (simp (disch := omega) [ab_all, ab_nz, *]; done))
  refine r_sw rfl ?_
  refine r_swk (fun hz => absurd hz (by decide)) (fun _ => ?_)
  refine r_swk (fun hz => absurd hz (by decide)) (fun _ => ?_)
  refine r_swk (fun hz => absurd hz (by decide)) (fun _ => ?_)
  refine r_swk (fun hz => absurd hz (by decide)) (fun _ => ?_)
  refine r_swk (fun hz => absurd hz (by decide)) (fun _ => ?_)
  refine r_swk (fun hz => absurd hz (by decide)) (fun _ => ?_)
  refine r_swT (rfl) ?_
  refine r_go 2 rfl ?_ ?_
  · (first | exact trivial | assumption | (simp (disch := omega) [ab_all, ab_nz, *]; done))
  refine r_cn rfl rfl ((m_beg (nI 71) c hE.2.2 (by omega))) (by decide) ?_
  refine r_go 2 rfl ?_ ?_
  · (first | exact trivial | assumption | (simp (disch := omega) [ab_all, ab_nz, *]; done))
  refine r_cv rfl trivial ((m_ab 6 0 (by decide))) (by decide) ?_
  refine r_go 1 rfl ?_ ?_
  · (first | exact trivial | assumption | (simp (disch := omega) [ab_all, ab_nz, *]; done))
  refine r_cv rfl rfl ((fb0 x (env_bg hE) hd hK eK (by omega))) (by decide) ?_
  refine r_go 1 rfl ?_ ?_
  · (first | exact trivial | assumption | (simp (disch := omega) [ab_all, ab_nz, *]; done))
  refine r_cv rfl rfl ((m_mNow (env_L (l := feL K 6) hE).1 (env_L (l := feL K 6) hE).2.1 hd)) (by decide) ?_
  refine r_go 1 rfl ?_ ?_
  · (first | exact trivial | assumption | (simp (disch := omega) [ab_all, ab_nz, *]; done))
  refine r_ret rfl trivial ?_
  exact ⟨rfl, rfl⟩
theorem fbA (k : Nat) (hk : k < 7) {s : Vc} {d c K : Nat} {i : ab_I} (x : Int32) (hE : Env s d c i) (hd : d < 12) (hK : K < 7) (eK : dr s d 0 = nI K) (hc : c + 4 ≤ 30) : ab_K 8 229 [.ref 218, .int (nI k), .int x] i (ab_V (.int (feV (nI d) (dr s d 1) K k x)) (bgL (feL K k) c i)) := by
  have : k = 0 ∨ k = 1 ∨ k = 2 ∨ k = 3 ∨ k = 4 ∨ k = 5 ∨ k = 6 := by omega
  rcases this with rfl | rfl | rfl | rfl | rfl | rfl | rfl
  · exact k_deep (fb0 x hE hd hK eK (by omega)) (by decide)
  · exact k_deep (fb1 x hE hd hK eK (by omega)) (by decide)
  · exact k_deep (fb2 x hE hd hK eK hc) (by decide)
  · exact k_deep (fb3 x hE hd hK eK hc) (by decide)
  · exact k_deep (fb4 x hE hd hK eK (by omega)) (by decide)
  · exact k_deep (fb5 x hE hd hK eK hc) (by decide)
  · exact k_deep (fb6 x hE hd hK eK hc) (by decide)
theorem lb0 {s : Vc} {d c K : Nat} {i : ab_I} (x : Int32) (hE : Env s d c i) (hd : d < 12) (hK : K < 7) (eK : dr s d 0 = nI K) (hc : c + 5 ≤ 30) : ab_K 9 230 [.ref 218, .int (nI 0), .int x] i (ab_V (.int (flV (nI d) (dr s d 1) K 0 x)) (bgL (flL K 0) c i)) := by
  refine k_of rfl ?_
  refine r_go 1 rfl ?_ ?_
  · (first | exact trivial | assumption | (simp (disch := omega) [ab_all, ab_nz, *]; done))
  refine r_sw rfl ?_
  refine r_swT (rfl) ?_
  refine r_go 2 rfl ?_ ?_
  · (first | exact trivial | assumption | (simp (disch := omega) [ab_all, ab_nz, *]; done))
  refine r_cn rfl rfl ((m_beg (nI 12) c hE.2.2 (by omega))) (by decide) ?_
  refine r_go 2 rfl ?_ ?_
  · (first | exact trivial | assumption | (simp (disch := omega) [ab_all, ab_nz, *]; done))
  refine r_cv rfl rfl ((m_kind (env_bg hE).1 (env_bg hE).2.1 hd)) (by decide) ?_
  refine r_go 1 rfl ?_ ?_
  · (first | exact trivial | assumption | (simp (disch := omega) [ab_all, ab_nz, *]; done))
  rw [eK]
  refine r_cv rfl rfl ((fbA K hK x (env_bg hE) hd hK eK (by omega))) (by decide) ?_
  refine r_go 1 rfl ?_ ?_
  · (first | exact trivial | assumption | (simp (disch := omega) [ab_all, ab_nz, *]; done))
  refine r_cv rfl rfl ((m_mNow (env_L (l := flL K 0) hE).1 (env_L (l := flL K 0) hE).2.1 hd)) (by decide) ?_
  refine r_go 1 rfl ?_ ?_
  · (first | exact trivial | assumption | (simp (disch := omega) [ab_all, ab_nz, *]; done))
  refine r_ret rfl trivial ?_
  exact ⟨rfl, rfl⟩
theorem lb1 {s : Vc} {d c K : Nat} {i : ab_I} (x : Int32) (hE : Env s d c i) (hd : d < 12) (hK : K < 7) (eK : dr s d 0 = nI K) (hc : c + 5 ≤ 30) : ab_K 10 230 [.ref 218, .int (nI 1), .int x] i (ab_V (.int (flV (nI d) (dr s d 1) K 1 x)) (bgL (flL K 1) c i)) := by
  refine k_of rfl ?_
  refine r_go 1 rfl ?_ ?_
  · (first | exact trivial | assumption | (simp (disch := omega) [ab_all, ab_nz, *]; done))
  refine r_sw rfl ?_
  refine r_swk (fun hz => absurd hz (by decide)) (fun _ => ?_)
  refine r_swT (rfl) ?_
  refine r_go 2 rfl ?_ ?_
  · (first | exact trivial | assumption | (simp (disch := omega) [ab_all, ab_nz, *]; done))
  refine r_cv rfl trivial ((m_ab 1 0 (by decide))) (by decide) ?_
  refine r_go 1 rfl ?_ ?_
  · (first | exact trivial | assumption | (simp (disch := omega) [ab_all, ab_nz, *]; done))
  refine r_cv rfl rfl ((lb0 x hE hd hK eK hc)) (by decide) ?_
  refine r_ret rfl trivial ?_
  exact ⟨rfl, rfl⟩
theorem lb2 {s : Vc} {d c K : Nat} {i : ab_I} (x : Int32) (hE : Env s d c i) (hd : d < 12) (hK : K < 7) (eK : dr s d 0 = nI K) (hc : c + 5 ≤ 30) : ab_K 10 230 [.ref 218, .int (nI 2), .int x] i (ab_V (.int (flV (nI d) (dr s d 1) K 2 x)) (bgL (flL K 2) c i)) := by
  refine k_of rfl ?_
  refine r_go 1 rfl ?_ ?_
  · (first | exact trivial | assumption | (simp (disch := omega) [ab_all, ab_nz, *]; done))
  refine r_sw rfl ?_
  refine r_swk (fun hz => absurd hz (by decide)) (fun _ => ?_)
  refine r_swk (fun hz => absurd hz (by decide)) (fun _ => ?_)
  refine r_swT (rfl) ?_
  refine r_go 2 rfl ?_ ?_
  · (first | exact trivial | assumption | (simp (disch := omega) [ab_all, ab_nz, *]; done))
  refine r_cv rfl trivial ((m_ab 2 0 (by decide))) (by decide) ?_
  refine r_go 1 rfl ?_ ?_
  · (first | exact trivial | assumption | (simp (disch := omega) [ab_all, ab_nz, *]; done))
  refine r_cv rfl rfl ((lb0 x hE hd hK eK hc)) (by decide) ?_
  refine r_ret rfl trivial ?_
  exact ⟨rfl, rfl⟩
theorem lb6 {s : Vc} {d c K : Nat} {i : ab_I} (x : Int32) (hE : Env s d c i) (hd : d < 12) (hK : K < 7) (eK : dr s d 0 = nI K) (hc : c + 5 ≤ 30) : ab_K 10 230 [.ref 218, .int (nI 6), .int x] i (ab_V (.int (flV (nI d) (dr s d 1) K 6 x)) (bgL (flL K 6) c i)) := by
  refine k_of rfl ?_
  refine r_go 1 rfl ?_ ?_
  · (first | exact trivial | assumption | (simp (disch := omega) [ab_all, ab_nz, *]; done))
  refine r_sw rfl ?_
  refine r_swk (fun hz => absurd hz (by decide)) (fun _ => ?_)
  refine r_swk (fun hz => absurd hz (by decide)) (fun _ => ?_)
  refine r_swk (fun hz => absurd hz (by decide)) (fun _ => ?_)
  refine r_swk (fun hz => absurd hz (by decide)) (fun _ => ?_)
  refine r_swk (fun hz => absurd hz (by decide)) (fun _ => ?_)
  refine r_go 2 rfl ?_ ?_
  · (first | exact trivial | assumption | (simp (disch := omega) [ab_all, ab_nz, *]; done))
  refine r_cv rfl trivial ((m_ab 6 0 (by decide))) (by decide) ?_
  refine r_go 1 rfl ?_ ?_
  · (first | exact trivial | assumption | (simp (disch := omega) [ab_all, ab_nz, *]; done))
  refine r_cv rfl rfl ((lb0 x hE hd hK eK hc)) (by decide) ?_
  refine r_ret rfl trivial ?_
  exact ⟨rfl, rfl⟩
theorem lb5 {s : Vc} {d c K : Nat} {i : ab_I} (x : Int32) (hE : Env s d c i) (hd : d < 12) (hK : K < 7) (eK : dr s d 0 = nI K) (hc : c + 5 ≤ 30) : ab_K 11 230 [.ref 218, .int (nI 5), .int x] i (ab_V (.int (flV (nI d) (dr s d 1) K 5 x)) (bgL (flL K 5) c i)) := by
  refine k_of rfl ?_
  refine r_go 1 rfl ?_ ?_
  · (first | exact trivial | assumption | (simp (disch := omega) [ab_all, ab_nz, *]; done))
  refine r_sw rfl ?_
  refine r_swk (fun hz => absurd hz (by decide)) (fun _ => ?_)
  refine r_swk (fun hz => absurd hz (by decide)) (fun _ => ?_)
  refine r_swk (fun hz => absurd hz (by decide)) (fun _ => ?_)
  refine r_swk (fun hz => absurd hz (by decide)) (fun _ => ?_)
  refine r_swk (fun hz => absurd hz (by decide)) (fun _ => ?_)
  refine r_go 2 rfl ?_ ?_
  · (first | exact trivial | assumption | (simp (disch := omega) [ab_all, ab_nz, *]; done))
  refine r_cv rfl trivial ((m_ab 5 1 (by decide))) (by decide) ?_
  refine r_go 1 rfl ?_ ?_
  · (first | exact trivial | assumption | (simp (disch := omega) [ab_all, ab_nz, *]; done))
  refine r_cv rfl rfl ((lb1 x hE hd hK eK hc)) (by decide) ?_
  refine r_ret rfl trivial ?_
  exact ⟨rfl, rfl⟩
theorem lb3 {s : Vc} {d c K : Nat} {i : ab_I} (x : Int32) (hE : Env s d c i) (hd : d < 12) (hK : K < 7) (eK : dr s d 0 = nI K) (hc : c + 6 ≤ 30) : ab_K 11 230 [.ref 218, .int (nI 3), .int x] i (ab_V (.int (flV (nI d) (dr s d 1) K 3 x)) (bgL (flL K 3) c i)) := by
  refine k_of rfl ?_
  refine r_go 1 rfl ?_ ?_
  · (first | exact trivial | assumption | (simp (disch := omega) [ab_all, ab_nz, *]; done))
  refine r_sw rfl ?_
  refine r_swk (fun hz => absurd hz (by decide)) (fun _ => ?_)
  refine r_swk (fun hz => absurd hz (by decide)) (fun _ => ?_)
  refine r_swk (fun hz => absurd hz (by decide)) (fun _ => ?_)
  refine r_swT (rfl) ?_
  refine r_go 2 rfl ?_ ?_
  · (first | exact trivial | assumption | (simp (disch := omega) [ab_all, ab_nz, *]; done))
  refine r_cn rfl rfl ((m_beg (nI 41) c hE.2.2 (by omega))) (by decide) ?_
  refine r_go 2 rfl ?_ ?_
  · (first | exact trivial | assumption | (simp (disch := omega) [ab_all, ab_nz, *]; done))
  refine r_cv rfl trivial ((m_ab 3 2 (by decide))) (by decide) ?_
  refine r_go 1 rfl ?_ ?_
  · (first | exact trivial | assumption | (simp (disch := omega) [ab_all, ab_nz, *]; done))
  refine r_cv rfl rfl ((lb2 x (env_bg hE) hd hK eK (by omega))) (by decide) ?_
  refine r_go 3 rfl ?_ ?_
  · exact rfl
  refine r_ret rfl trivial ?_
  have e := (env_L (l := flL K 3) hE).2.1
  rw [show bgL (flL K 2) (c + 1) (bg (nI 41) c i) 218 17 = nI d from e]
  exact ⟨rfl, rfl⟩
theorem lb4 {s : Vc} {d c K : Nat} {i : ab_I} (x : Int32) (hE : Env s d c i) (hd : d < 12) (hK : K < 7) (eK : dr s d 0 = nI K) (hc : c + 6 ≤ 30) : ab_K 10 230 [.ref 218, .int (nI 4), .int x] i (ab_V (.int (flV (nI d) (dr s d 1) K 4 x)) (bgL (flL K 4) c i)) := by
  refine k_of rfl ?_
  refine r_go 1 rfl ?_ ?_
  · (first | exact trivial | assumption | (simp (disch := omega) [ab_all, ab_nz, *]; done))
  refine r_sw rfl ?_
  refine r_swk (fun hz => absurd hz (by decide)) (fun _ => ?_)
  refine r_swk (fun hz => absurd hz (by decide)) (fun _ => ?_)
  refine r_swk (fun hz => absurd hz (by decide)) (fun _ => ?_)
  refine r_swk (fun hz => absurd hz (by decide)) (fun _ => ?_)
  refine r_swT (rfl) ?_
  refine r_go 2 rfl ?_ ?_
  · (first | exact trivial | assumption | (simp (disch := omega) [ab_all, ab_nz, *]; done))
  refine r_cn rfl rfl ((m_beg (nI 50) c hE.2.2 (by omega))) (by decide) ?_
  refine r_go 2 rfl ?_ ?_
  · (first | exact trivial | assumption | (simp (disch := omega) [ab_all, ab_nz, *]; done))
  refine r_cv rfl trivial ((m_ab 4 0 (by decide))) (by decide) ?_
  refine r_go 3 rfl ?_ ?_
  · (simp only [ab_all, ab_nz]; decide)
  refine r_cv rfl rfl ((lb0 _ (env_bg hE) hd hK eK (by omega))) (by decide) ?_
  refine r_ret rfl trivial ?_
  exact ⟨rfl, rfl⟩
theorem lbA (k : Nat) (hk : k < 7) {s : Vc} {d c K : Nat} {i : ab_I} (x : Int32) (hE : Env s d c i) (hd : d < 12) (hK : K < 7) (eK : dr s d 0 = nI K) (hc : c + 6 ≤ 30) : ab_K 12 230 [.ref 218, .int (nI k), .int x] i (ab_V (.int (flV (nI d) (dr s d 1) K k x)) (bgL (flL K k) c i)) := by
  have : k = 0 ∨ k = 1 ∨ k = 2 ∨ k = 3 ∨ k = 4 ∨ k = 5 ∨ k = 6 := by omega
  rcases this with rfl | rfl | rfl | rfl | rfl | rfl | rfl
  · exact k_deep (lb0 x hE hd hK eK (by omega)) (by decide)
  · exact k_deep (lb1 x hE hd hK eK (by omega)) (by decide)
  · exact k_deep (lb2 x hE hd hK eK (by omega)) (by decide)
  · exact k_deep (lb3 x hE hd hK eK hc) (by decide)
  · exact k_deep (lb4 x hE hd hK eK hc) (by decide)
  · exact k_deep (lb5 x hE hd hK eK (by omega)) (by decide)
  · exact k_deep (lb6 x hE hd hK eK (by omega)) (by decide)
theorem bgL_r : ∀ {l : List Int32} {c : Nat} {i : ab_I}, bgL l c i 227 = bgR l c (i 227)
  | [], _, _ => rfl
  | b :: l, c, i => by
    show bgL l (c + 1) (bg b c i) 227 = bgR l (c + 1) (upd (i 227) c b)
    rw [bgL_r]
    congr 1
    exact (up_row (by decide)).trans ab_up_row
theorem bgL_ne {q : Nat} (h1 : q ≠ 227) (h2 : q ≠ 218) : ∀ {l : List Int32} {c : Nat} {i : ab_I}, bgL l c i q = i q
  | [], _, _ => rfl
  | b :: l, c, i => by
    show bgL l (c + 1) (bg b c i) q = i q
    rw [bgL_ne h1 h2]
    exact (up_row h2).trans (up_row h1)
theorem bgL_8 {k : Nat} (h : k ≠ 16) : ∀ {l : List Int32} {c : Nat} {i : ab_I}, bgL l c i 218 k = i 218 k
  | [], _, _ => rfl
  | b :: l, c, i => by
    show bgL l (c + 1) (bg b c i) 218 k = i 218 k
    rw [bgL_8 h]
    exact (up_ne (by omega)).trans (up_ne (by omega))
/-- what a voice leaves -/
def VQ (N M : Int32) (l : List Int32) (c : Nat) (i j : ab_I) : Prop := j 227 = bgR l c (i 227) ∧ j 218 16 = nI (c + l.length) ∧ (∀ q, q ≠ 227 → q ≠ 218 → j q = i q) ∧ ∀ k, k ≠ 16 → k ≠ 18 → j 218 k = i 218 k
theorem VQ_L {N M : Int32} {s : Vc} {d : Nat} {l : List Int32} {c : Nat} {i : ab_I} (h : Env s d c i) : VQ N M l c i (bgL l c i) := ⟨bgL_r, (env_L h).2.2, fun q a b => bgL_ne a b, fun k a _ => bgL_8 a⟩
theorem bgR_app : ∀ {l1 l2 : List Int32} {c : Nat} {f : Vc}, bgR (l1 ++ l2) c f = bgR l2 (c + l1.length) (bgR l1 c f)
  | [], _, _, _ => rfl
  | b :: l1, l2, c, f => by
    show bgR (l1 ++ l2) (c + 1) (upd f c b) = bgR l2 (c + (b :: l1).length) (bgR l1 (c + 1) (upd f c b))
    rw [bgR_app, List.length_cons, show c + (l1.length + 1) = c + 1 + l1.length by omega]
theorem VQ_tr {N M : Int32} {l1 l2 : List Int32} {c : Nat} {i j k : ab_I} (h1 : VQ N M l1 c i j) (h2 : VQ N M l2 (c + l1.length) j k) : VQ N M (l1 ++ l2) c i k := by
  obtain ⟨a1, a2, a3, a4⟩ := h1
  obtain ⟨b1, b2, b3, b4⟩ := h2
  refine ⟨by rw [b1, a1, bgR_app], by rw [b2, List.length_append, Nat.add_assoc], fun q x y => (b3 q x y).trans (a3 q x y), fun q x y => (b4 q x y).trans (a4 q x y)⟩
