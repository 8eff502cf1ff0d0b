section MP
variable {m : Mem} {a : AS} {N : Int}
theorem pi90 {r : Nat} (hr : r < 24) : ∀ (d fu i : Nat) (m : Mem), i + d = 6 → d < fu → ∃ m1, f_X4_putsIn_L90 fu (r : Int) i m = some ((r : Int), m1) ∧ (∀ c, c ≠ 52 → m1.1 c = m.1 c) ∧ m1.2 = m.2 ∧ ∀ q, m1.1 52 q = if 5 + 6 * r + i ≤ q ∧ q < 5 + 6 * r + 6 then m.1 56 (q - (5 + 6 * r)) else m.1 52 q := by
  intro d
  induction d with
  | zero =>
    intro fu i m hi hf
    obtain ⟨k, rfl⟩ : ∃ k, fu = k + 1 := ⟨fu - 1, by omega⟩
    rw [f_X4_putsIn_L90, if_pos (by omega)]
    exact ⟨m, rfl, fun _ _ => rfl, rfl, fun q => by rw [if_neg (by omega)]⟩
  | succ d ih =>
    intro fu i m hi hf
    obtain ⟨k, rfl⟩ : ∃ k, fu = k + 1 := ⟨fu - 1, by omega⟩
    rw [f_X4_putsIn_L90, if_neg (by omega), mmK_p (by omega), tN, sets_ok r i rfl rfl hr (by omega)]
    simp only [Option.bind_some]
    rw [mmK_p (by constructor <;> omega), ci_1]
    obtain ⟨m1, e1, f1, f2, c1⟩ := ih k (i + 1) (mwr m 52 (5 + 6 * r + i) (m.1 56 i)) (by omega) (by omega)
    refine ⟨m1, e1, fun c hc => (f1 c hc).trans (mwr_ne hc), f2, fun q => ?_⟩
    rw [c1 q, mwr_ne (by decide), mwr_self]
    by_cases z : 5 + 6 * r + (i + 1) ≤ q ∧ q < 5 + 6 * r + 6
    · rw [if_pos z, if_pos (by omega)]
    · rw [if_neg z]
      by_cases z2 : q = 5 + 6 * r + i
      · rw [if_pos z2, if_pos (by omega), z2, show 5 + 6 * r + i - (5 + 6 * r) = i by omega]
      · rw [if_neg z2, if_neg (by omega)]
theorem pi47 {n r : Nat} (hn : n < 24) (hr : r ≤ n) : ∀ (d fu i : Nat) (m : Mem), m.1 52 0 = n → i = 4 + 6 * r + d → i < 5 + 6 * n → d < fu → ∃ m1, f_X4_putsIn_L47 fu (r : Int) i m = some ((r : Int), m1) ∧ (∀ c, c ≠ 52 → m1.1 c = m.1 c) ∧ m1.2 = m.2 ∧ ∀ q, m1.1 52 q = if q = 0 then ((n + 1 : Nat) : Int) else if 5 + 6 * r ≤ q ∧ q < 5 + 6 * r + 6 then m.1 56 (q - (5 + 6 * r)) else if 5 + 6 * r + 6 ≤ q ∧ q < i + 7 then m.1 52 (q - 6) else m.1 52 q := by
  intro d
  induction d with
  | zero =>
    intro fu i m h0 hi hi2 hf
    obtain ⟨k, rfl⟩ : ∃ k, fu = k + 1 := ⟨fu - 1, by omega⟩
    rw [f_X4_putsIn_L47, mmK_p (by constructor <;> omega), mmK_p (by constructor <;> omega), if_pos (by omega), mmK_p (by constructor <;> omega)]
    obtain ⟨m1, e1, f1, f2, c1⟩ := pi90 (r := r) (by omega) 6 mmFU 0 (mwr m 52 0 (m.1 52 0 + 1)) rfl (by unfold mmFU; omega)
    refine ⟨m1, e1, fun c hc => (f1 c hc).trans (mwr_ne hc), f2, fun q => ?_⟩
    rw [c1 q, mwr_ne (by decide), mwr_self]
    by_cases z : q = 0
    · rw [if_neg (by omega), if_pos z, if_pos z]; omega
    · rw [if_neg z, if_neg z]
      by_cases z2 : 5 + 6 * r ≤ q ∧ q < 5 + 6 * r + 6
      · rw [if_pos (by omega), if_pos z2]
      · rw [if_neg (by omega), if_neg z2, if_neg (by omega)]
  | succ d ih =>
    intro fu i m h0 hi hi2 hf
    obtain ⟨k, rfl⟩ : ∃ k, fu = k + 1 := ⟨fu - 1, by omega⟩
    rw [f_X4_putsIn_L47, mmK_p (by constructor <;> omega), mmK_p (by constructor <;> omega), if_neg (by omega), mmK_p (by constructor <;> omega), mmK_p (by omega), mmK_p (by omega), mmK_p (by constructor <;> omega), tN, show ((i : Int) + 6).toNat = i + 6 by omega, show (i : Int) + (-1) = ((i - 1 : Nat) : Int) by omega]
    obtain ⟨m1, e1, f1, f2, c1⟩ := ih k (i - 1) (mwr m 52 (i + 6) (m.1 52 i)) (by rw [mwr_self, if_neg (by omega)]; exact h0) (by omega) (by omega) (by omega)
    refine ⟨m1, e1, fun c hc => (f1 c hc).trans (mwr_ne hc), f2, fun q => ?_⟩
    rw [c1 q, mwr_ne (by decide)]
    by_cases z : q = 0
    · rw [if_pos z, if_pos z]
    · rw [if_neg z, if_neg z]
      by_cases z2 : 5 + 6 * r ≤ q ∧ q < 5 + 6 * r + 6
      · rw [if_pos z2, if_pos z2]
      · rw [if_neg z2, if_neg z2]
        by_cases z3 : 5 + 6 * r + 6 ≤ q ∧ q < i - 1 + 7
        · rw [if_pos z3, if_pos (by omega), mwr_self, if_neg (by omega)]
        · rw [if_neg z3, mwr_self]
          by_cases z4 : q = i + 6
          · rw [if_pos z4, if_pos (by omega), z4, show i + 6 - 6 = i by omega]
          · rw [if_neg z4, if_neg (by omega)]
theorem pi2 {x : Int} (h : repF (m.1 52) 0 a) (w : wfA a N) (hx : m.1 56 0 = x) : ∀ (d fu i : Nat), i + d = blw a x → d < fu → f_X4_putsIn_L2 fu i m = f_X4_putsIn_L33 (blw a x : Int) m := by
  have h1 := h.1
  have hlo := w.lo x
  have hhi := w.hi x (blw a x) (Nat.le_refl _)
  have hle := blw_le a x
  intro d
  induction d with
  | zero =>
    intro fu i hi hf
    obtain ⟨k, rfl⟩ : ∃ k, fu = k + 1 := ⟨fu - 1, by omega⟩
    have hir : i = blw a x := by omega
    subst hir
    rw [f_X4_putsIn_L2]
    by_cases z : blw a x < a.1
    · have := hhi z
      rw [if_neg (by omega), of0 h w.n24 (blw a x) z]
      simp only [Option.bind_some]
      rw [if_pos (by omega)]
    · rw [if_pos (by omega)]
  | succ d ih =>
    intro fu i hi hf
    obtain ⟨k, rfl⟩ : ∃ k, fu = k + 1 := ⟨fu - 1, by omega⟩
    have := hlo i (by omega)
    rw [f_X4_putsIn_L2, if_neg (by omega), of0 h w.n24 i (by omega)]
    simp only [Option.bind_some]
    have := w.n24
    rw [if_neg (by omega), mmK_p (by constructor <;> omega), ci_1]
    exact ih k (i + 1) (by omega) (by omega)
theorem puts_ok {x g s l v : Int} (h : repF (m.1 52) 0 a) (w : wfA a N) (hf : (a.1 : Int) < 24) (h0 : m.1 56 0 = x) (h1 : m.1 56 1 = if g = -5 then 0 else 1) (h2 : m.1 56 2 = s) (h3 : m.1 56 3 = l) (h4 : m.1 56 4 = v) (h5 : m.1 56 5 = g) :
    ∃ m1, f_X4_putsIn m = some ((blw a x : Int), m1) ∧ fr2 m m1 ∧ m1.1 56 = m.1 56 ∧ repF (m1.1 52) 0 (insA a (blw a x) (entA x g s l v)) := by
  have hn := w.n24
  have hle := blw_le a x
  obtain ⟨q1, q2, q3, q4, q5, -⟩ := id h
  unfold f_X4_putsIn
  have e0 := pi2 h w h0 (blw a x) mmFU 0 (by omega) (by unfold mmFU; omega)
  rw [show ((0 : Nat) : Int) = 0 from rfl] at e0
  rw [e0]
  unfold f_X4_putsIn_L33
  rw [mmK_p (by constructor <;> omega), mmK_p (by constructor <;> omega), mmK_p (by constructor <;> omega)]
  obtain ⟨m1, e1, f1, f2, c1⟩ := pi47 (n := a.1) (r := blw a x) (by omega) hle (6 * a.1 - 6 * blw a x) mmFU (4 + 6 * a.1) m q1 (by omega) (by omega) (by unfold mmFU; omega)
  rw [show 5 + 6 * m.1 52 0 - 1 = ((4 + 6 * a.1 : Nat) : Int) by omega, e1]
  refine ⟨m1, rfl, ⟨fun c hc _ => f1 c hc, f2⟩, f1 56 (by decide), repF.mk6 ?_ ?_ ?_ ?_ ?_ (fun k j hk hj => ?_)⟩
  · rw [c1, if_pos rfl]; rfl
  · rw [c1, if_neg (by omega), if_neg (by omega), if_neg (by omega)]; exact q2
  · rw [c1, if_neg (by omega), if_neg (by omega), if_neg (by omega)]; exact q3
  · rw [c1, if_neg (by omega), if_neg (by omega), if_neg (by omega)]; exact q4
  · rw [c1, if_neg (by omega), if_neg (by omega), if_neg (by omega)]; exact q5
  · have hj : j < a.1 + 1 := hj
    rw [c1, if_neg (by omega), flt_ins]
    by_cases z : j < blw a x
    · rw [if_neg (by omega), if_neg (by omega), if_pos z]; exact h.col hk (by omega)
    · rw [if_neg z]
      by_cases z2 : j = blw a x
      · rw [if_pos (by omega), if_pos z2, show 0 + (5 + 6 * j + k) - (5 + 6 * blw a x) = k by omega]
        rcases lt6 hk with rfl | rfl | rfl | rfl | rfl | rfl
        · exact h0
        · exact h1
        · exact h2
        · exact h3
        · exact h4
        · exact h5
      · rw [if_neg (by omega), if_pos (by omega), if_neg z2, show 0 + (5 + 6 * j + k) - 6 = 0 + (5 + 6 * (j - 1) + k) by omega]
        exact h.col hk (by omega)
theorem lays_ok {y l v : Int} (h : repF (m.1 52) 0 a) (hn : a.1 ≤ 24) (r : Nat) (hy : y = r) (hr : r < a.1) (he : 0 ≤ a.2.2 1 ∧ a.2.2 1 ≤ 100) (hl : 1 ≤ l ∧ l ≤ 40) :
    ∃ m1, f_X4_laysText y l v m = some m1 ∧ (∀ c, c ≠ 52 → m1.1 c = m.1 c) ∧ m1.2 = m.2 ∧ repF (m1.1 52) 0 (scA (setA a r (entA (a.2.1 0 r) (a.2.1 1 r) (a.2.2 1) l v)) 1 (a.2.2 1 + l)) := by
  subst hy
  obtain ⟨q1, q2, q3, q4, q5, -⟩ := id h
  have q3' : m.1 52 2 = a.2.2 1 := q3
  unfold f_X4_laysText
  have s2 : f_X4_sets (r : Int) 2 (m.1 52 2) m = _ := sets_ok r 2 rfl rfl (by omega) (by decide)
  rw [s2]
  simp only [Option.bind_some]
  have s3 : f_X4_sets (r : Int) 3 l (mwr m 52 (5 + 6 * r + 2) (m.1 52 2)) = _ := sets_ok r 3 rfl rfl (by omega) (by decide)
  rw [s3]
  simp only [Option.bind_some]
  have s4 : f_X4_sets (r : Int) 4 v (mwr (mwr m 52 (5 + 6 * r + 2) (m.1 52 2)) 52 (5 + 6 * r + 3) l) = _ := sets_ok r 4 rfl rfl (by omega) (by decide)
  rw [s4]
  simp only [Option.bind_some]
  have e2 : (mwr (mwr (mwr m 52 (5 + 6 * r + 2) (m.1 52 2)) 52 (5 + 6 * r + 3) l) 52 (5 + 6 * r + 4) v).1 52 2 = a.2.2 1 := by
    rw [mwr_self, if_neg (by omega), mwr_self, if_neg (by omega), mwr_self, if_neg (by omega)]; exact q3'
  rw [e2, mmK_p (by constructor <;> omega)]
  refine ⟨_, rfl, fun c hc => ?_, rfl, ?_⟩
  · rw [mwr_ne hc, mwr_ne hc, mwr_ne hc, mwr_ne hc]
  · have cell : ∀ q, (mwr (mwr (mwr (mwr m 52 (5 + 6 * r + 2) (m.1 52 2)) 52 (5 + 6 * r + 3) l) 52 (5 + 6 * r + 4) v) 52 2 (a.2.2 1 + l)).1 52 q = if q = 2 then a.2.2 1 + l else if q = 5 + 6 * r + 4 then v else if q = 5 + 6 * r + 3 then l else if q = 5 + 6 * r + 2 then a.2.2 1 else m.1 52 q := by
      intro q
      rw [mwr_self, mwr_self, mwr_self, mwr_self, q3']
    refine repF.mk6 ?_ ?_ ?_ ?_ ?_ (fun k j hk hj => ?_)
    · rw [cell, if_neg (by omega), if_neg (by omega), if_neg (by omega), if_neg (by omega)]; exact q1
    · rw [cell, if_neg (by omega), if_neg (by omega), if_neg (by omega), if_neg (by omega)]; exact q2
    · rw [cell, if_pos rfl]; rfl
    · rw [cell, if_neg (by omega), if_neg (by omega), if_neg (by omega), if_neg (by omega)]; exact q4
    · rw [cell, if_neg (by omega), if_neg (by omega), if_neg (by omega), if_neg (by omega)]; exact q5
    · have hj : j < a.1 := hj
      have hc := h.col hk hj
      rw [cell, if_neg (by omega)]
      by_cases z : j = r
      · subst z
        rcases lt6 hk with rfl | rfl | rfl | rfl | rfl | rfl
        · rw [if_neg (by omega), if_neg (by omega), if_neg (by omega), hc]; simp [flt, flE, scA, setA, entA]
        · rw [if_neg (by omega), if_neg (by omega), if_neg (by omega), hc]; simp [flt, flE, scA, setA, entA]
        · rw [if_neg (by omega), if_neg (by omega), if_pos (by omega)]; simp [flt, flE, scA, setA, entA]
        · rw [if_neg (by omega), if_pos (by omega)]; simp [flt, flE, scA, setA, entA]
        · rw [if_pos (by omega)]; simp [flt, flE, scA, setA, entA]
        · rw [if_neg (by omega), if_neg (by omega), if_neg (by omega), hc]; simp [flt, flE, scA, setA, entA]
      · rw [if_neg (by omega), if_neg (by omega), if_neg (by omega), hc]
        simp [flt, scA, setA, z]
/-- what an act of the reference does -/
def didF (f : Option (Int × Mem)) (m : Mem) (r : Int × AS) : Prop := ∃ m', f = some (r.1, m') ∧ fr2 m m' ∧ repF (m'.1 52) 0 r.2
theorem add_mod {x l k : Int} (h : repF (m.1 52) 0 a) (w : wfA a N) : didF (f_X4_doAdd x l k m) m (addF a x l k) := by
  have hw := w.1
  have hn := w.n24
  unfold didF addF f_X4_doAdd
  by_cases hx : 0 ≤ x ∧ x < 676
  · rw [isName4_t hx]
    simp only [Option.bind_some]
    rw [if_neg (by decide)]
    by_cases hl : 1 ≤ l ∧ l ≤ 40
    · rw [in_t hl]
      simp only [Option.bind_some]
      rw [if_neg (by decide)]
      by_cases hk : 0 ≤ k ∧ k ≤ 9999
      · rw [in_t hk]
        simp only [Option.bind_some]
        rw [if_neg (by decide), cIf_f (by omega)]
        by_cases hh : hasN a x
        · rw [rank4_at h w hh, cIf_t hh]
          simp only [Option.bind_some]
          rw [if_neg (by omega)]
          exact ⟨m, rfl, fr2.rf, h⟩
        · rw [rank4_no h w hh, cIf_f hh]
          simp only [Option.bind_some]
          rw [if_pos trivial]
          by_cases hf : (a.1 : Int) < 4 * a.2.2 0
          · rw [full4_f h w hf, cIf_f (by omega)]
            simp only [Option.bind_some]
            rw [if_pos trivial]
            by_cases hr : a.2.2 1 + l ≤ 100
            · rw [room4_t h w hl hr, cIf_f (by omega)]
              simp only [Option.bind_some]
              rw [if_neg (by decide)]
              have hm3 : repF ((mwr (mwr (mwr m 56 0 x) 56 1 0) 56 5 (-5)).1 52) 0 a := by
                rw [mwr_ne (by decide), mwr_ne (by decide), mwr_ne (by decide)]; exact h
              obtain ⟨m1, e1, f1, c1, r1⟩ := puts_ok (m := mwr (mwr (mwr m 56 0 x) 56 1 0) 56 5 (-5)) (x := x) (g := -5) hm3 w (by omega) (by simp [mwr_self]) (by simp [mwr_self]) rfl rfl rfl (by simp [mwr_self])
              rw [e1]
              simp only [Option.bind_some]
              have hlt := blw_le a x
              obtain ⟨m2, e2, f2, f3, r2⟩ := lays_ok (l := l) (v := k) r1 (by show a.1 + 1 ≤ 24; omega) (blw a x) rfl (by show blw a x < a.1 + 1; omega) ⟨hw.2.2.2.1, hw.2.2.2.2.1⟩ hl
              rw [e2]
              simp only [Option.bind_some]
              have hres : repF (m2.1 52) 0 (insA (scA a 1 (a.2.2 1 + l)) (blw a x) (entA x (-5) (a.2.2 1) l k)) := by
                refine r2.cg rfl (fun _ => rfl) (fun c j hc hj => ?_)
                by_cases z : j = blw a x
                · simp [scA, setA, insA, z, entA]
                · simp [scA, setA, insA, z]
              have ho := of2 hres (by show a.1 + 1 ≤ 24; omega) (blw a x) (by show blw a x < a.1 + 1; omega)
              rw [ho]
              simp only [Option.bind_some]
              refine ⟨m2, by simp [insA, entA], ?_, hres⟩
              exact (((fr2.wr (Or.inr rfl)).tr (fr2.wr (Or.inr rfl))).tr (fr2.wr (Or.inr rfl))).tr (f1.tr ⟨fun c hc _ => f2 c hc, f3⟩)
            · rw [room4_f h w hl hr, cIf_t hr]
              exact ⟨m, rfl, fr2.rf, h⟩
          · rw [full4_t h w hf, cIf_t hf]
            exact ⟨m, rfl, fr2.rf, h⟩
      · rw [in_f hk, cIf_t (Or.inr (Or.inr hk))]
        exact ⟨m, rfl, fr2.rf, h⟩
    · rw [in_f hl, cIf_t (Or.inr (Or.inl hl))]
      exact ⟨m, rfl, fr2.rf, h⟩
  · rw [isName4_f hx, cIf_t (Or.inl hx)]
    exact ⟨m, rfl, fr2.rf, h⟩
end MP
