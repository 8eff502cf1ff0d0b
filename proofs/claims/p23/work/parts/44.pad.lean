/-! THE PAD -/
def nx (pl : Nat) (p : Nat → Int) (i : Nat) : Int := if i < pl then p i else -1
def PR (pl : Nat) (p : Nat → Int) : Prop := pl ≤ 60 ∧ ∀ i, i < pl → 0 ≤ p i ∧ p i ≤ 65535
def BP (m : Mem) (pl : Nat) (p : Nat → Int) : Prop := m.1 45 1 = pl ∧ ∀ i, i < pl → m.1 46 i = p i
def pp (m : Mem) (x : Int) : Mem := mwr m 45 7 x
theorem mwr_tw {m : Mem} {c k : Nat} {u v : Int} : mwr (mwr m c k u) c k v = mwr m c k v := by
  refine Prod.ext (funext fun j => ?_) rfl
  by_cases z : j = c
  · subst z
    funext q
    rw [mwr_self, mwr_self, mwr_self]
    by_cases y : q = k
    · rw [if_pos y, if_pos y]
    · rw [if_neg y, if_neg y, if_neg y]
  · rw [mwr_ne z, mwr_ne z, mwr_ne z]
theorem pp_w {m : Mem} {x y : Int} : mwr (pp m x) 45 7 y = pp m y := mwr_tw
section PS
variable {pl : Nat} {p : Nat → Int} {m : Mem}
theorem nx_lt {i : Nat} (h : 0 ≤ nx pl p i) : i < pl := by
  unfold nx at h
  by_cases z : i < pl
  · exact z
  · rw [if_neg z] at h; omega
theorem nx_at {i : Nat} (h : i < pl) : nx pl p i = p i := if_pos h
theorem nx_rg (hp : PR pl p) (i : Nat) : -1 ≤ nx pl p i ∧ nx pl p i ≤ 65535 := by
  unfold nx
  by_cases z : i < pl
  · rw [if_pos z]; have := hp.2 i z; omega
  · rw [if_neg z]; omega
theorem pp7 {x : Int} : (pp m x).1 45 7 = x := by unfold pp; rw [mwr_self, if_pos rfl]
theorem pp1 {x : Int} : (pp m x).1 45 1 = m.1 45 1 := by unfold pp; rw [mwr_self, if_neg (by decide)]
theorem pp6 {x : Int} : (pp m x).1 45 6 = m.1 45 6 := by unfold pp; rw [mwr_self, if_neg (by decide)]
theorem ppc {x : Int} {c : Nat} (h : c ≠ 45) : (pp m x).1 c = m.1 c := mwr_ne h
theorem c_next (hp : PR pl p) (hB : BP m pl p) (i : Nat) : f_X1_next (pp m i) = some (nx pl p i, pp m i) := by
  have h60 := hp.1
  unfold f_X1_next
  rw [pp7, pp1, hB.1, if_neg (by omega)]
  by_cases z : i < pl
  · rw [if_neg (by omega), mmK_p (by omega), ppc (by decide), tN, hB.2 i z, nx_at z]
  · rw [if_pos (by omega)]
    unfold nx
    rw [if_neg z]
theorem c_let_t (hp : PR pl p) (hB : BP m pl p) (i : Nat) (h : 65 ≤ nx pl p i ∧ nx pl p i ≤ 90) : f_X1_readLetter (pp m i) = some (nx pl p i - 65, pp m ((i + 1 : Nat) : Int)) := by
  have h60 := hp.1
  have hlt := nx_lt (show 0 ≤ nx pl p i by omega)
  unfold f_X1_readLetter
  rw [bd_ (c_next hp hB i)]
  dsimp only
  rw [if_neg (by omega), if_pos h.2, pp7, mmK_p (by constructor <;> omega), mmK_p (by constructor <;> omega), ci_1, pp_w]
theorem c_tk_t (hp : PR pl p) (hB : BP m pl p) (i : Nat) {c : Int} (hc : 0 ≤ c) (h : nx pl p i = c) : f_X1_takes c (pp m i) = some (1, pp m ((i + 1 : Nat) : Int)) := by
  have h60 := hp.1
  have hlt := nx_lt (show 0 ≤ nx pl p i by omega)
  unfold f_X1_takes
  rw [bd_ (c_next hp hB i)]
  dsimp only
  rw [if_pos h, pp7, mmK_p (by constructor <;> omega), ci_1, pp_w]
theorem c_tk_f (hp : PR pl p) (hB : BP m pl p) (i : Nat) {c : Int} (h : ¬ nx pl p i = c) : f_X1_takes c (pp m i) = some (0, pp m i) := by
  unfold f_X1_takes
  rw [bd_ (c_next hp hB i)]
  dsimp only
  rw [if_neg h]
theorem c_dig_t (hp : PR pl p) (hB : BP m pl p) (i : Nat) (h : 48 ≤ nx pl p i ∧ nx pl p i ≤ 57) : f_X1_nextDigit (pp m i) = some (nx pl p i - 48, pp m i) := by
  unfold f_X1_nextDigit
  rw [bd_ (c_next hp hB i)]
  dsimp only
  rw [if_neg (by omega), if_neg (by omega), mmK_p (by constructor <;> omega)]
theorem c_dig_f (hp : PR pl p) (hB : BP m pl p) (i : Nat) (h : ¬ (48 ≤ nx pl p i ∧ nx pl p i ≤ 57)) : f_X1_nextDigit (pp m i) = some (-1, pp m i) := by
  unfold f_X1_nextDigit
  rw [bd_ (c_next hp hB i)]
  dsimp only
  by_cases z : nx pl p i < 48
  · rw [if_pos z]
  · rw [if_neg z, if_pos (by omega)]
end PS
/-- a text on the pad, as a list -/
def nl (cs : List Int) (i : Nat) : Int := nx cs.length (fun j => cs.getD j 0) i
def BL (m : Mem) (cs : List Int) : Prop := BP m cs.length (fun j => cs.getD j 0)
def RG (cs : List Int) : Prop := cs.length ≤ 60 ∧ ∀ x ∈ cs, 0 ≤ x ∧ x ≤ 65535
def dg (v : Int) : List Int := if v ≤ 9 then [48 + v] else if v ≤ 99 then [48 + v / 10, 48 + v % 10] else if v ≤ 999 then [48 + v / 100, 48 + v / 10 % 10, 48 + v % 10] else [48 + v / 1000, 48 + v / 100 % 10, 48 + v / 10 % 10, 48 + v % 10]
theorem RG.pr {cs : List Int} (h : RG cs) : PR cs.length (fun j => cs.getD j 0) := by
  refine ⟨h.1, fun i hi => ?_⟩
  have e : cs.getD i 0 = cs[i] := by simp [List.getD, List.getElem?_eq_getElem hi]
  show 0 ≤ cs.getD i 0 ∧ cs.getD i 0 ≤ 65535
  rw [e]
  exact h.2 _ (List.getElem_mem hi)
theorem nl_0 (x : Int) (r : List Int) : nl (x :: r) 0 = x := by unfold nl nx; rw [if_pos (by simp)]; rfl
theorem nl_s (x : Int) (r : List Int) (t : Nat) : nl (x :: r) (t + 1) = nl r t := by
  unfold nl nx
  by_cases h : t < r.length
  · rw [if_pos h, if_pos (by simpa using h)]; rfl
  · rw [if_neg h, if_neg (by simpa using h)]
theorem nl_n (t : Nat) : nl [] t = -1 := by unfold nl nx; rw [if_neg (by simp)]
theorem nl_app (u v : List Int) (t : Nat) : nl (u ++ v) (u.length + t) = nl v t := by
  induction u with
  | nil => simp
  | cons x u ih =>
    rw [List.cons_append, List.length_cons, show u.length + 1 + t = (u.length + t) + 1 by omega, nl_s]
    exact ih
theorem dg_rg {v : Int} (h : 0 ≤ v ∧ v ≤ 9999) : ∀ x ∈ dg v, 0 ≤ x ∧ x ≤ 65535 := by
  intro x hx
  unfold dg at hx
  split at hx
  · simp at hx; omega
  · split at hx
    · simp at hx; omega
    · split at hx
      · simp at hx; omega
      · simp at hx; omega
theorem dg_len (v : Int) : 1 ≤ (dg v).length ∧ (dg v).length ≤ 4 := by
  unfold dg
  split
  · simp
  · split
    · simp
    · split <;> simp
/-- what the pad's calls leave -/
def PK (m m' : Mem) : Prop := (∀ c, c < 45 → m'.1 c = m.1 c) ∧ m'.2 = m.2
theorem PK.rf {m : Mem} : PK m m := ⟨fun _ _ => rfl, rfl⟩
theorem PK.tr {m m1 m2 : Mem} (h1 : PK m m1) (h2 : PK m1 m2) : PK m m2 := ⟨fun c h => (h2.1 c h).trans (h1.1 c h), h2.2.trans h1.2⟩
theorem PK.wr {m : Mem} {c k : Nat} {v : Int} (h : 45 ≤ c) : PK m (mwr m c k v) := ⟨fun j hj => mwr_ne (by omega), rfl⟩
theorem CS.pk {m m' : Mem} {a : AS} {hn : Nat} {H : Nat → AS} {sb : Int} {s : AS} (h : CS m a hn H sb s) (k : PK m m') : CS m' a hn H sb s := by
  obtain ⟨h1, h2, h3, h4⟩ := h
  exact ⟨h1.keep (fun c g1 g2 => k.1 c (by omega)), h2.keep (fun c g1 g2 => k.1 c (by omega)) k.2, by rw [k.1 0 (by decide)]; exact h3, fun e => (h4 e).keep (fun c g1 g2 => k.1 c (by omega))⟩
theorem clr_ok (m : Mem) : f_X3_clearPad m = some (m.1 45 1, mwr m 45 1 0) ∧ PK m (mwr m 45 1 0) ∧ BL (mwr m 45 1 0) [] := by
  refine ⟨rfl, PK.wr (by decide), ?_, fun i hi => absurd hi (by simp)⟩
  rw [mwr_self, if_pos rfl]
  rfl
theorem typ_ok {m : Mem} {cs : List Int} {c : Int} (h : BL m cs) (hl : cs.length < 60) (hc : 0 ≤ c ∧ c ≤ 65535) : ∃ m', f_X3_type c m = some ((cs.length : Int) + 1, m') ∧ PK m m' ∧ BL m' (cs ++ [c]) := by
  obtain ⟨p2, p4⟩ := h
  unfold f_X3_type f_X1_append
  rw [p2, if_pos (by omega), mmK_p (by omega), mmK_p (by omega), mmK_p (by constructor <;> omega)]
  refine ⟨mwr (mwr m 46 cs.length c) 45 1 ((cs.length : Int) + 1), rfl, (PK.wr (by decide)).tr (PK.wr (by decide)), ?_, fun i hi => ?_⟩
  · rw [mwr_self, if_pos rfl, List.length_append]
    simp
  · rw [List.length_append] at hi
    simp only [List.length_cons, List.length_nil] at hi
    rw [mwr_ne (by decide), mwr_self]
    by_cases z : i = cs.length
    · rw [if_pos z, z]; simp [List.getD]
    · rw [if_neg z, p4 i (by omega)]
      have hi2 : i < cs.length := by omega
      simp [List.getD, List.getElem?_append_left hi2]
section NR
variable {m : Mem} {lo hv : Int}
theorem rn_stop {cs : List Int} (hp : RG cs) (hB : BL m cs) (i : Nat) {fu : Nat} (hf : 0 < fu) {v t : Int} (hv9 : 0 ≤ v ∧ v ≤ 9999) (ht : 4 ≤ t ∨ ¬ (48 ≤ nl cs i ∧ nl cs i ≤ 57)) : f_X1_readNumber_L25 fu hv v t (pp m i) = some (v, pp m i) := by
  obtain ⟨f, rfl⟩ : ∃ f, fu = f + 1 := ⟨fu - 1, by omega⟩
  rw [f_X1_readNumber_L25]
  by_cases z : 4 ≤ t
  · rw [if_pos z]
  · rw [if_neg z, bd_ (c_dig_f hp.pr hB i (ht.resolve_left z))]
    dsimp only
    by_cases v0 : v = 0
    · rw [if_pos v0]
    · rw [if_neg v0, if_pos rfl]
theorem rn_go {cs : List Int} (hp : RG cs) (hB : BL m cs) (i : Nat) {f : Nat} {v t : Int} (hv9 : 1 ≤ v ∧ v * 10 + (nl cs i - 48) ≤ hv ∧ hv ≤ 9999) (ht : 0 ≤ t ∧ t < 4) (hd : 48 ≤ nl cs i ∧ nl cs i ≤ 57) : f_X1_readNumber_L25 (f + 1) hv v t (pp m i) = f_X1_readNumber_L25 f hv (v * 10 + (nl cs i - 48)) (t + 1) (pp m ((i + 1 : Nat) : Int)) := by
  have hlt := nx_lt (pl := cs.length) (p := fun j => cs.getD j 0) (show 0 ≤ nl cs i by omega)
  have h60 := hp.1
  have e := c_dig_t hp.pr hB i hd
  rw [f_X1_readNumber_L25, if_neg (by omega), bd_ e]
  dsimp only
  have en : nx cs.length (fun j => cs.getD j 0) i = nl cs i := rfl
  rw [en, if_neg (by omega), if_neg (by omega), mmK_p (by constructor <;> omega), mmK_p (by constructor <;> omega), if_pos (by omega), mmK_p (by constructor <;> omega), mmK_p (by constructor <;> omega), pp7, mmK_p (by constructor <;> omega), mmK_p (by constructor <;> omega), pp_w, ci_1]
theorem rn_in {cs : List Int} (hp : RG cs) (hB : BL m cs) (i : Nat) (hd : 48 + lo ≤ nl cs i ∧ nl cs i ≤ 57) (hl : 0 ≤ lo) : f_X1_readNumber lo hv (pp m i) = f_X1_readNumber_L25 mmFU hv (nl cs i - 48) 1 (pp m ((i + 1 : Nat) : Int)) := by
  have hlt := nx_lt (pl := cs.length) (p := fun j => cs.getD j 0) (show 0 ≤ nl cs i by omega)
  have h60 := hp.1
  have e := c_dig_t hp.pr hB i (by show 48 ≤ nl cs i ∧ nl cs i ≤ 57; omega)
  have en : nx cs.length (fun j => cs.getD j 0) i = nl cs i := rfl
  unfold f_X1_readNumber
  rw [bd_ e]
  dsimp only
  rw [en, if_pos (by omega), pp7, mmK_p (by constructor <;> omega), pp_w, ci_1]
theorem num_rd {u r : List Int} {v : Int} (hp : RG (u ++ (dg v ++ r))) (hB : BL m (u ++ (dg v ++ r))) (hv2 : lo ≤ v ∧ v ≤ hv ∧ hv ≤ 9999) (hl : 0 ≤ lo ∧ lo ≤ 1) (hr : ¬ (48 ≤ nl r 0 ∧ nl r 0 ≤ 57)) : f_X1_readNumber lo hv (pp m (u.length : Nat)) = some (v, pp m ((u.length + (dg v).length : Nat) : Int)) := by
  have at_ : ∀ t, nl (u ++ (dg v ++ r)) (u.length + t) = nl (dg v ++ r) t := fun t => nl_app u _ t
  have a0 := at_ 0
  rw [Nat.add_zero] at a0
  generalize u ++ (dg v ++ r) = cs at hp hB at_ a0
  unfold dg at *
  by_cases z1 : v ≤ 9
  · simp only [if_pos z1] at *
    have b1 := at_ 1
    simp only [List.cons_append, List.nil_append, nl_0, nl_s] at a0 b1
    rw [rn_in hp hB u.length (by rw [a0]; omega) hl.1, a0, rn_stop hp hB (u.length + 1) (by decide) (by omega) (Or.inr (by rw [b1]; exact hr))]
    refine congrArg some (Prod.ext ?_ rfl)
    dsimp only
    omega
  simp only [if_neg z1] at *
  by_cases z2 : v ≤ 99
  · simp only [if_pos z2] at *
    have b1 := at_ 1
    have b2 := at_ 2
    simp only [List.cons_append, List.nil_append, nl_0, nl_s] at a0 b1 b2
    rw [rn_in hp hB u.length (by rw [a0]; omega) hl.1, a0, show mmFU = 999 + 1 from rfl, rn_go hp hB (u.length + 1) (by rw [b1]; omega) (by omega) (by rw [b1]; omega), b1, rn_stop hp hB (u.length + 1 + 1) (by decide) (by omega) (Or.inr (by rw [b2]; exact hr))]
    refine congrArg some (Prod.ext ?_ rfl)
    dsimp only
    omega
  simp only [if_neg z2] at *
  by_cases z3 : v ≤ 999
  · simp only [if_pos z3] at *
    have b1 := at_ 1
    have b2 := at_ 2
    have b3 := at_ 3
    simp only [List.cons_append, List.nil_append, nl_0, nl_s] at a0 b1 b2 b3
    rw [rn_in hp hB u.length (by rw [a0]; omega) hl.1, a0, show mmFU = 998 + 1 + 1 from rfl, rn_go hp hB (u.length + 1) (by rw [b1]; omega) (by omega) (by rw [b1]; omega), b1, rn_go hp hB (u.length + 1 + 1) (by rw [b2]; omega) (by omega) (by rw [b2]; omega), b2, rn_stop hp hB (u.length + 1 + 1 + 1) (by decide) (by omega) (Or.inr (by rw [b3]; exact hr))]
    refine congrArg some (Prod.ext ?_ rfl)
    dsimp only
    omega
  simp only [if_neg z3] at *
  have b1 := at_ 1
  have b2 := at_ 2
  have b3 := at_ 3
  simp only [List.cons_append, List.nil_append, nl_0, nl_s] at a0 b1 b2 b3
  rw [rn_in hp hB u.length (by rw [a0]; omega) hl.1, a0, show mmFU = 997 + 1 + 1 + 1 from rfl, rn_go hp hB (u.length + 1) (by rw [b1]; omega) (by omega) (by rw [b1]; omega), b1, rn_go hp hB (u.length + 1 + 1) (by rw [b2]; omega) (by omega) (by rw [b2]; omega), b2, rn_go hp hB (u.length + 1 + 1 + 1) (by rw [b3]; omega) (by omega) (by rw [b3]; omega), b3, rn_stop hp hB (u.length + 1 + 1 + 1 + 1) (by decide) (by omega) (Or.inl (by decide))]
  refine congrArg some (Prod.ext ?_ rfl)
  dsimp only
  omega
end NR
