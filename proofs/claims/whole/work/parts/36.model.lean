/-! THE REFERENCE'S SIDE -/
def flE (e : Nat → Int) (k : Nat) : Int := if k = 1 then (if e 1 = -5 then 0 else 1) else if k = 5 then e 1 else e k
def flt (a : AS) (k r : Nat) : Int := flE (fun i => a.2.1 i r) k
theorem lt6 {k : Nat} (h : k < 6) : k = 0 ∨ k = 1 ∨ k = 2 ∨ k = 3 ∨ k = 4 ∨ k = 5 := by omega
theorem repF.col {g : Nat → Int} {b : Nat} {a : AS} (h : repF g b a) {k r : Nat} (hk : k < 6) (hr : r < a.1) : g (b + (5 + 6 * r + k)) = flt a k r := by
  obtain ⟨g0, g1, g2, g3, g4, g5⟩ := h.2.2.2.2.2 r hr
  rcases lt6 hk with rfl | rfl | rfl | rfl | rfl | rfl
  · exact g0
  · exact g1
  · exact g2
  · exact g3
  · exact g4
  · exact g5
theorem repF.mk6 {g : Nat → Int} {b : Nat} {a : AS} (h0 : g b = a.1) (h1 : g (b + 1) = a.2.2 0) (h2 : g (b + 2) = a.2.2 1) (h3 : g (b + 3) = a.2.2 2) (h4 : g (b + 4) = a.2.2 3) (hc : ∀ k r, k < 6 → r < a.1 → g (b + (5 + 6 * r + k)) = flt a k r) : repF g b a :=
  ⟨h0, h1, h2, h3, h4, fun r hr => ⟨hc 0 r (by omega) hr, hc 1 r (by omega) hr, hc 2 r (by omega) hr, hc 3 r (by omega) hr, hc 4 r (by omega) hr, hc 5 r (by omega) hr⟩⟩
theorem repF.cg {g : Nat → Int} {b : Nat} {a c : AS} (h : repF g b c) (h1 : c.1 = a.1) (h2 : ∀ k, c.2.2 k = a.2.2 k) (h3 : ∀ k j, k < 5 → j < a.1 → c.2.1 k j = a.2.1 k j) : repF g b a := by
  obtain ⟨q1, q2, q3, q4, q5, -⟩ := id h
  refine repF.mk6 (by rw [q1, h1]) (by rw [q2, h2]) (by rw [q3, h2]) (by rw [q4, h2]) (by rw [q5, h2]) (fun k r hk hr => ?_)
  rw [h.col hk (by rw [h1]; exact hr)]
  unfold flt flE
  simp only [h3 1 r (by omega) hr]
  rcases lt6 hk with rfl | rfl | rfl | rfl | rfl | rfl <;> simp <;> exact h3 _ r (by omega) hr
/-- only the rows 52 and 56 have changed -/
def fr2 (m m' : Mem) : Prop := (∀ c, c ≠ 52 → c ≠ 56 → m'.1 c = m.1 c) ∧ m'.2 = m.2
theorem fr2.rf {m : Mem} : fr2 m m := ⟨fun _ _ _ => rfl, rfl⟩
theorem fr2.tr {m m1 m2 : Mem} (h1 : fr2 m m1) (h2 : fr2 m1 m2) : fr2 m m2 := ⟨fun c a b => (h2.1 c a b).trans (h1.1 c a b), h2.2.trans h1.2⟩
theorem fr2.wr {m : Mem} {c k : Nat} {v : Int} (h : c = 52 ∨ c = 56) : fr2 m (mwr m c k v) := ⟨fun j a b => mwr_ne (by omega), rfl⟩
section MO
variable {m : Mem} {a : AS} {N : Int}
theorem cmp_lt (x y : Int) : mmCmp x y < 0 ↔ x < y := by unfold mmCmp; split <;> (try split) <;> omega
theorem cmp_gt (x y : Int) : 0 < mmCmp x y ↔ y < x := by unfold mmCmp; split <;> (try split) <;> omega
theorem in_t {x l h : Int} (q : l ≤ x ∧ x ≤ h) : f_X4_in x l h m = some (1, m) := by
  unfold f_X4_in
  rw [if_neg (fun z => by rw [cmp_lt] at z; omega), if_neg (fun z => by rw [cmp_gt] at z; omega)]
theorem in_f {x l h : Int} (q : ¬ (l ≤ x ∧ x ≤ h)) : f_X4_in x l h m = some (0, m) := by
  unfold f_X4_in
  by_cases h1 : x < l
  · rw [if_pos ((cmp_lt _ _).mpr h1)]
  · rw [if_neg (fun z => h1 ((cmp_lt _ _).mp z)), if_pos ((cmp_gt _ _).mpr (by omega))]
theorem isName4_t {x : Int} (h : 0 ≤ x ∧ x < 676) : f_X4_isName x m = some (1, m) := by
  unfold f_X4_isName
  rw [in_t (by omega)]
  simp only [Option.bind_some]
  rw [mmK_p (Or.inr trivial)]
theorem isName4_f {x : Int} (h : ¬ (0 ≤ x ∧ x < 676)) : f_X4_isName x m = some (0, m) := by
  unfold f_X4_isName
  rw [in_f (by omega)]
  simp only [Option.bind_some]
  rw [mmK_p (Or.inl trivial)]
theorem of_raw {x y : Int} (r k : Nat) (hx : x = r) (hy : y = k) (hr : r < 24) (hk : k < 6) : f_X4_of x y m = some (m.1 52 (5 + 6 * r + k), m) := by
  subst hx hy
  unfold f_X4_of
  rw [mmK_p (by constructor <;> omega), mmK_p (by constructor <;> omega), mmK_p (by constructor <;> omega), mmK_p (by omega)]
  rw [show (5 + 6 * (r : Int) + (k : Int)).toNat = 5 + 6 * r + k by omega]
theorem of_k {x y : Int} (h : repF (m.1 52) 0 a) (hn : a.1 ≤ 24) (r k : Nat) (hx : x = r) (hy : y = k) (hr : r < a.1) (hk : k < 6) : f_X4_of x y m = some (flt a k r, m) := by
  rw [of_raw r k hx hy (by omega) hk]
  have := h.col hk hr
  rw [Nat.zero_add] at this
  rw [this]
theorem sets_ok {x y v : Int} (r k : Nat) (hx : x = r) (hy : y = k) (hr : r < 24) (hk : k < 6) : f_X4_sets x y v m = some (mwr m 52 (5 + 6 * r + k) v) := by
  subst hx hy
  unfold f_X4_sets
  rw [mmK_p (by constructor <;> omega), mmK_p (by constructor <;> omega), mmK_p (by constructor <;> omega), mmK_p (by omega)]
  rw [show (5 + 6 * (r : Int) + (k : Int)).toNat = 5 + 6 * r + k by omega]
theorem of0 (h : repF (m.1 52) 0 a) (hn : a.1 ≤ 24) (r : Nat) (hr : r < a.1) : f_X4_of (r : Int) 0 m = some (a.2.1 0 r, m) := of_k h hn r 0 rfl rfl hr (by decide)
theorem of1 (h : repF (m.1 52) 0 a) (hn : a.1 ≤ 24) (r : Nat) (hr : r < a.1) : f_X4_of (r : Int) 1 m = some (if a.2.1 1 r = -5 then 0 else 1, m) := of_k h hn r 1 rfl rfl hr (by decide)
theorem of2 (h : repF (m.1 52) 0 a) (hn : a.1 ≤ 24) (r : Nat) (hr : r < a.1) : f_X4_of (r : Int) 2 m = some (a.2.1 2 r, m) := of_k h hn r 2 rfl rfl hr (by decide)
theorem of3 (h : repF (m.1 52) 0 a) (hn : a.1 ≤ 24) (r : Nat) (hr : r < a.1) : f_X4_of (r : Int) 3 m = some (a.2.1 3 r, m) := of_k h hn r 3 rfl rfl hr (by decide)
theorem of4 (h : repF (m.1 52) 0 a) (hn : a.1 ≤ 24) (r : Nat) (hr : r < a.1) : f_X4_of (r : Int) 4 m = some (a.2.1 4 r, m) := of_k h hn r 4 rfl rfl hr (by decide)
theorem of5 (h : repF (m.1 52) 0 a) (hn : a.1 ≤ 24) (r : Nat) (hr : r < a.1) : f_X4_of (r : Int) 5 m = some (a.2.1 1 r, m) := of_k h hn r 5 rfl rfl hr (by decide)
theorem flt0 (r : Nat) : flt a 0 r = a.2.1 0 r := rfl
theorem flt2 (r : Nat) : flt a 2 r = a.2.1 2 r := rfl
theorem flt3 (r : Nat) : flt a 3 r = a.2.1 3 r := rfl
theorem flt4 (r : Nat) : flt a 4 r = a.2.1 4 r := rfl
theorem flt5 (r : Nat) : flt a 5 r = a.2.1 1 r := rfl
theorem flt1 (r : Nat) : flt a 1 r = if a.2.1 1 r = -5 then 0 else 1 := rfl
theorem rank4L_some {x : Int} (h : repF (m.1 52) 0 a) (hn : a.1 ≤ 24) {r : Nat} (hr : r < a.1) (hx : a.2.1 0 r = x) (hl : ∀ j, j < r → ¬ a.2.1 0 j = x) : ∀ (d fu i : Nat), i + d = r → d < fu → f_X4_rankOf_L2 fu x i m = some ((r : Int), m) := by
  have h1 := h.1
  intro d
  induction d with
  | zero =>
    intro fu i hi hf
    obtain ⟨k, rfl⟩ : ∃ k, fu = k + 1 := ⟨fu - 1, by omega⟩
    have hir : i = r := by omega
    subst hir
    rw [f_X4_rankOf_L2, if_neg (by omega), of0 h hn i hr]
    simp only [Option.bind_some]
    rw [if_pos hx]
  | succ d ih =>
    intro fu i hi hf
    obtain ⟨k, rfl⟩ : ∃ k, fu = k + 1 := ⟨fu - 1, by omega⟩
    rw [f_X4_rankOf_L2, if_neg (by omega), of0 h hn i (by omega)]
    simp only [Option.bind_some]
    rw [if_neg (hl i (by omega)), mmK_p (by constructor <;> omega), ci_1]
    exact ih k (i + 1) (by omega) (by omega)
theorem rank4L_none {x : Int} (h : repF (m.1 52) 0 a) (hn : a.1 ≤ 24) (hl : ∀ j, j < a.1 → ¬ a.2.1 0 j = x) : ∀ (d fu i : Nat), i + d = a.1 → d < fu → f_X4_rankOf_L2 fu x i m = some (-5, m) := by
  have h1 := h.1
  intro d
  induction d with
  | zero =>
    intro fu i hi hf
    obtain ⟨k, rfl⟩ : ∃ k, fu = k + 1 := ⟨fu - 1, by omega⟩
    rw [f_X4_rankOf_L2, if_pos (by omega)]
  | succ d ih =>
    intro fu i hi hf
    obtain ⟨k, rfl⟩ : ∃ k, fu = k + 1 := ⟨fu - 1, by omega⟩
    rw [f_X4_rankOf_L2, if_neg (by omega), of0 h hn i (by omega)]
    simp only [Option.bind_some]
    rw [if_neg (hl i (by omega)), mmK_p (by constructor <;> omega), ci_1]
    exact ih k (i + 1) (by omega) (by omega)
theorem rank4_at {x : Int} (h : repF (m.1 52) 0 a) (w : wfA a N) (hx : hasN a x) : f_X4_rankOf x m = some ((blw a x : Int), m) :=
  rank4L_some h w.n24 (w.at_ hx).1 (w.at_ hx).2 (fun j hj e => by have := w.lo x j hj; omega) (blw a x) mmFU 0 (by omega) (by have := w.n24; have := blw_le a x; unfold mmFU; omega)
theorem rank4_no {x : Int} (h : repF (m.1 52) 0 a) (w : wfA a N) (hx : ¬ hasN a x) : f_X4_rankOf x m = some (-5, m) :=
  rank4L_none h w.n24 (fun j hj e => hx ⟨j, hj, e⟩) a.1 mmFU 0 (by omega) (by have := w.n24; unfold mmFU; omega)
theorem mem4_t {x : Int} (h : repF (m.1 52) 0 a) (w : wfA a N) (hx : memN a x) : f_X4_isMember (blw a x : Int) m = some (1, m) := by
  unfold f_X4_isMember
  rw [if_neg (by omega), of1 h w.n24 (blw a x) (w.at_ hx.1).1]
  simp only [Option.bind_some]
  rw [if_pos hx.2]
  rfl
theorem mem4_f {x : Int} (h : repF (m.1 52) 0 a) (w : wfA a N) (hh : hasN a x) (hx : ¬ memN a x) : f_X4_isMember (blw a x : Int) m = some (0, m) := by
  unfold f_X4_isMember
  rw [if_neg (by omega), of1 h w.n24 (blw a x) (w.at_ hh).1]
  simp only [Option.bind_some]
  rw [if_neg (fun e => hx ⟨hh, e⟩)]
  rfl
theorem mem4_n : f_X4_isMember (-5) m = some (0, m) := by
  unfold f_X4_isMember
  rw [if_pos rfl]
theorem full4_f (h : repF (m.1 52) 0 a) (w : wfA a N) (hx : (a.1 : Int) < 4 * a.2.2 0) : f_X4_isDirectoryFull m = some (0, m) := by
  obtain ⟨h1, h2, -⟩ := h
  rw [Nat.zero_add] at h2
  have := w.1
  unfold f_X4_isDirectoryFull
  rw [mmK_p (by constructor <;> omega), if_neg (by omega)]
theorem full4_t (h : repF (m.1 52) 0 a) (w : wfA a N) (hx : ¬ (a.1 : Int) < 4 * a.2.2 0) : f_X4_isDirectoryFull m = some (1, m) := by
  obtain ⟨h1, h2, -⟩ := h
  rw [Nat.zero_add] at h2
  have := w.1
  unfold f_X4_isDirectoryFull
  rw [mmK_p (by constructor <;> omega), if_pos (by omega)]
theorem room4_t {x : Int} (h : repF (m.1 52) 0 a) (w : wfA a N) (hx : 1 ≤ x ∧ x ≤ 40) (hr : a.2.2 1 + x ≤ 100) : f_X4_isRoomFor x m = some (1, m) := by
  obtain ⟨h1, h2, h3, -⟩ := h
  rw [Nat.zero_add] at h3
  have := w.1
  unfold f_X4_isRoomFor
  rw [mmK_p (by constructor <;> omega), if_neg (by omega)]
theorem room4_f {x : Int} (h : repF (m.1 52) 0 a) (w : wfA a N) (hx : 1 ≤ x ∧ x ≤ 40) (hr : ¬ a.2.2 1 + x ≤ 100) : f_X4_isRoomFor x m = some (0, m) := by
  obtain ⟨h1, h2, h3, -⟩ := h
  rw [Nat.zero_add] at h3
  have := w.1
  unfold f_X4_isRoomFor
  rw [mmK_p (by constructor <;> omega), if_pos (by omega)]
theorem tk43 {n : Nat} (hn : n < 24) : ∀ (d fu i : Nat) (m : Mem), m.1 52 0 = n → 5 ≤ i → i + d = 5 + 6 * n → d < fu → ∃ m1, f_X4_takesOut_L43 fu i m = some m1 ∧ (∀ c, c ≠ 52 → m1.1 c = m.1 c) ∧ m1.2 = m.2 ∧ ∀ q, m1.1 52 q = if i ≤ q ∧ q < 5 + 6 * n then m.1 52 (q + 6) else m.1 52 q := by
  intro d
  induction d with
  | zero =>
    intro fu i m h0 h5 hi hf
    obtain ⟨k, rfl⟩ : ∃ k, fu = k + 1 := ⟨fu - 1, by omega⟩
    rw [f_X4_takesOut_L43, mmK_p (by constructor <;> omega), mmK_p (by constructor <;> omega), if_pos (by omega)]
    exact ⟨m, rfl, fun _ _ => rfl, rfl, fun q => by rw [if_neg (by omega)]⟩
  | succ d ih =>
    intro fu i m h0 h5 hi hf
    obtain ⟨k, rfl⟩ : ∃ k, fu = k + 1 := ⟨fu - 1, by omega⟩
    rw [f_X4_takesOut_L43, mmK_p (by constructor <;> omega), mmK_p (by constructor <;> omega), if_neg (by omega), mmK_p (by constructor <;> omega), mmK_p (by omega), mmK_p (by omega), mmK_p (by constructor <;> omega), ci_1, tN, show ((i : Int) + 6).toNat = i + 6 by omega]
    obtain ⟨m1, e1, f1, f2, c1⟩ := ih k (i + 1) (mwr m 52 i (m.1 52 (i + 6))) (by rw [mwr_self, if_neg (by omega)]; exact h0) (by omega) (by omega) (by omega)
    refine ⟨m1, e1, fun c hc => (f1 c hc).trans (mwr_ne hc), f2, fun q => ?_⟩
    rw [c1 q]
    by_cases z : i + 1 ≤ q ∧ q < 5 + 6 * n
    · rw [if_pos z, if_pos (by omega), mwr_self, if_neg (by omega)]
    · rw [if_neg z, mwr_self]
      by_cases z2 : q = i
      · rw [if_pos z2, if_pos (by omega), z2]
      · rw [if_neg z2, if_neg (by omega)]
theorem tk2 {n r : Nat} (hn : n ≤ 24) (hr : r < n) : ∀ (d fu i : Nat) (m : Mem), m.1 52 0 = n → i + d = 6 → d < fu → ∃ m1, f_X4_takesOut_L2 fu (r : Int) i m = some m1 ∧ (∀ c, c ≠ 52 → c ≠ 56 → m1.1 c = m.1 c) ∧ m1.2 = m.2 ∧ (∀ q, m1.1 52 q = if q = 0 then ((n - 1 : Nat) : Int) else if 5 + 6 * r ≤ q ∧ q < 5 + 6 * (n - 1) then m.1 52 (q + 6) else m.1 52 q) ∧ ∀ q, q < 6 → m1.1 56 q = if i ≤ q then m.1 52 (5 + 6 * r + q) else m.1 56 q := by
  intro d
  induction d with
  | zero =>
    intro fu i m h0 hi hf
    obtain ⟨k, rfl⟩ : ∃ k, fu = k + 1 := ⟨fu - 1, by omega⟩
    rw [f_X4_takesOut_L2, if_pos (by omega), mmK_p (by constructor <;> omega), mmK_p (by constructor <;> omega), mmK_p (by constructor <;> omega)]
    obtain ⟨m1, e1, f1, f2, c1⟩ := tk43 (n := n - 1) (by omega) (6 * (n - 1) - 6 * r) mmFU (5 + 6 * r) (mwr m 52 0 (m.1 52 0 - 1)) (by rw [mwr_self, if_pos rfl]; omega) (by omega) (by omega) (by unfold mmFU; omega)
    rw [show (5 + 6 * (r : Int)) = ((5 + 6 * r : Nat) : Int) by omega, e1]
    refine ⟨m1, rfl, fun c hc _ => (f1 c hc).trans (mwr_ne hc), f2, fun q => ?_, fun q hq => ?_⟩
    · rw [c1 q]
      by_cases z : q = 0
      · rw [if_neg (by omega), if_pos z, mwr_self, if_pos z]; omega
      · rw [if_neg z]
        by_cases z2 : 5 + 6 * r ≤ q ∧ q < 5 + 6 * (n - 1)
        · rw [if_pos z2, if_pos z2, mwr_self, if_neg (by omega)]
        · rw [if_neg z2, if_neg z2, mwr_self, if_neg z]
    · rw [f1 56 (by decide), mwr_ne (by decide), if_neg (by omega)]
  | succ d ih =>
    intro fu i m h0 hi hf
    obtain ⟨k, rfl⟩ : ∃ k, fu = k + 1 := ⟨fu - 1, by omega⟩
    rw [f_X4_takesOut_L2, if_neg (by omega), of_raw r i rfl rfl (by omega) (by omega)]
    simp only [Option.bind_some]
    rw [mmK_p (by omega), mmK_p (by constructor <;> omega), ci_1, tN]
    obtain ⟨m1, e1, f1, f2, c1, c2⟩ := ih k (i + 1) (mwr m 56 i (m.1 52 (5 + 6 * r + i))) (by rw [mwr_ne (by decide)]; exact h0) (by omega) (by omega)
    refine ⟨m1, e1, fun c h1 h2 => (f1 c h1 h2).trans (mwr_ne h2), f2, fun q => ?_, fun q hq => ?_⟩
    · rw [c1 q, mwr_ne (by decide)]
    · rw [c2 q hq, mwr_ne (by decide), mwr_self]
      by_cases z : i + 1 ≤ q
      · rw [if_pos z, if_pos (by omega)]
      · rw [if_neg z]
        by_cases z2 : q = i
        · rw [if_pos z2, if_pos (by omega), z2]
        · rw [if_neg z2, if_neg (by omega)]
theorem flt_del (r k j : Nat) : flt (delA a r) k j = if j < r then flt a k j else flt a k (j + 1) := by
  unfold flt delA
  by_cases h : j < r
  · simp only [h, if_true]
  · simp only [h, if_false]
theorem flt_ins (r k j : Nat) (e : Nat → Int) : flt (insA a r e) k j = if j < r then flt a k j else if j = r then flE e k else flt a k (j - 1) := by
  unfold flt insA
  by_cases h : j < r
  · simp only [h, if_true]
  · by_cases h2 : j = r
    · simp only [h, h2, if_true, if_false]
      simp
    · simp only [h, h2, if_false]
theorem takes4_ok {x : Int} (h : repF (m.1 52) 0 a) (w : wfA a N) (r : Nat) (hx : x = r) (hr : r < a.1) : ∃ m1, f_X4_takesOut x m = some m1 ∧ fr2 m m1 ∧ repF (m1.1 52) 0 (delA a r) ∧ ∀ k, k < 6 → m1.1 56 k = flt a k r := by
  subst hx
  have hn := w.n24
  obtain ⟨q1, q2, q3, q4, q5, -⟩ := id h
  obtain ⟨m1, e1, f1, f2, c1, c2⟩ := tk2 hn hr 6 mmFU 0 m q1 rfl (by unfold mmFU; omega)
  refine ⟨m1, e1, ⟨f1, f2⟩, repF.mk6 ?_ ?_ ?_ ?_ ?_ (fun k j hk hj => ?_), fun k hk => ?_⟩
  · rw [c1, if_pos rfl]; rfl
  · rw [c1, if_neg (by omega), if_neg (by omega)]; exact q2
  · rw [c1, if_neg (by omega), if_neg (by omega)]; exact q3
  · rw [c1, if_neg (by omega), if_neg (by omega)]; exact q4
  · rw [c1, if_neg (by omega), if_neg (by omega)]; exact q5
  · have hj : j < a.1 - 1 := hj
    rw [c1, if_neg (by omega), flt_del]
    by_cases z : j < r
    · rw [if_neg (by omega), if_pos z]; exact h.col hk (by omega)
    · rw [if_pos (by omega), if_neg z, show 0 + (5 + 6 * j + k) + 6 = 0 + (5 + 6 * (j + 1) + k) by omega]
      exact h.col hk (by omega)
  · rw [c2 k hk, if_pos (by omega)]
    have := h.col hk hr
    rw [Nat.zero_add] at this
    exact this
end MO
