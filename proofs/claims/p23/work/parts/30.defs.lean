/-! THE MATHEMATICS: a shelf's state as numbers: how many entries, their columns (0 name, 1 giver, 2 start, 3 length, 4 mark), and 0 blocks, 1 end, 2 squeezings, 3 units given back -/
abbrev AS : Type := Nat × (Nat → Nat → Int) × (Nat → Int)
/-- the State at the cell o holds it -/
def repS (m : Mem) (o : Nat) (a : AS) : Prop := m.1 o 5 = a.1 ∧ m.1 o 6 = a.2.2 0 ∧ m.1 o 7 = a.2.2 1 ∧ m.1 o 8 = a.2.2 2 ∧ m.1 o 9 = a.2.2 3 ∧ ∀ r, r < a.1 → m.1 (o + 1) r = a.2.1 0 r ∧ m.1 (o + 2) r = a.2.1 1 r ∧ m.1 (o + 3) r = a.2.1 2 r ∧ m.1 (o + 4) r = a.2.1 3 r ∧ m.1 (o + 5) r = a.2.1 4 r
/-- the reference's row holds it, from b on -/
def repF (g : Nat → Int) (b : Nat) (a : AS) : Prop := g b = a.1 ∧ g (b + 1) = a.2.2 0 ∧ g (b + 2) = a.2.2 1 ∧ g (b + 3) = a.2.2 2 ∧ g (b + 4) = a.2.2 3 ∧ ∀ r, r < a.1 → g (b + (5 + 6 * r)) = a.2.1 0 r ∧ g (b + (5 + 6 * r + 1)) = (if a.2.1 1 r = -5 then 0 else 1) ∧ g (b + (5 + 6 * r + 2)) = a.2.1 2 r ∧ g (b + (5 + 6 * r + 3)) = a.2.1 3 r ∧ g (b + (5 + 6 * r + 4)) = a.2.1 4 r ∧ g (b + (5 + 6 * r + 5)) = a.2.1 1 r
/-- what holds of every state -/
def wfA (a : AS) (N : Int) : Prop := ((a.1 : Int) ≤ 4 * a.2.2 0 ∧ 1 ≤ a.2.2 0 ∧ a.2.2 0 ≤ 6 ∧ 0 ≤ a.2.2 1 ∧ a.2.2 1 ≤ 100 ∧ 0 ≤ a.2.2 2 ∧ a.2.2 2 ≤ N ∧ 0 ≤ a.2.2 3 ∧ a.2.2 3 ≤ 100 * N) ∧
  (∀ i j, i < j → j < a.1 → a.2.1 0 i < a.2.1 0 j) ∧
  (∀ i, i < a.1 → 0 ≤ a.2.1 0 i ∧ a.2.1 0 i < 676 ∧ (a.2.1 1 i = -5 ∨ (0 ≤ a.2.1 1 i ∧ a.2.1 1 i < 676)) ∧ 0 ≤ a.2.1 2 i ∧ 1 ≤ a.2.1 3 i ∧ a.2.1 3 i ≤ 40 ∧ a.2.1 2 i + a.2.1 3 i ≤ a.2.2 1 ∧ 0 ≤ a.2.1 4 i ∧ a.2.1 4 i ≤ 9999) ∧
  (∀ i j, i < a.1 → j < a.1 → a.2.1 2 i = a.2.1 2 j → a.2.1 3 i = a.2.1 3 j) ∧
  (∀ i j, i < a.1 → j < a.1 → a.2.1 2 i < a.2.1 2 j → a.2.1 2 i + a.2.1 3 i ≤ a.2.1 2 j)
theorem wfA.n24 {a : AS} {N : Int} (h : wfA a N) : a.1 ≤ 24 := by have := h.1.1; have := h.1.2.2.1; omega
/-- only the cells from lo to hi have changed -/
def frm (lo hi : Nat) (m m' : Mem) : Prop := (∀ c, c < lo ∨ hi < c → m'.1 c = m.1 c) ∧ m'.2 = m.2
theorem frm.rf {lo hi : Nat} {m : Mem} : frm lo hi m m := ⟨fun _ _ => rfl, rfl⟩
theorem frm.tr {lo hi : Nat} {m m1 m2 : Mem} (h1 : frm lo hi m m1) (h2 : frm lo hi m1 m2) : frm lo hi m m2 := ⟨fun c hc => (h2.1 c hc).trans (h1.1 c hc), h2.2.trans h1.2⟩
theorem frm.wide {lo hi lo' hi' : Nat} {m m' : Mem} (h : frm lo hi m m') (h1 : lo' ≤ lo) (h2 : hi ≤ hi') : frm lo' hi' m m' := ⟨fun c hc => h.1 c (by omega), h.2⟩
theorem mcp_ne {m : Mem} {s sp d dp n j : Nat} (h : j ≠ d) : (mcp m s sp d dp n).1 j = m.1 j := by simp [mcp, h]
theorem frm.wr {lo hi c k : Nat} {m : Mem} {v : Int} (h1 : lo ≤ c) (h2 : c ≤ hi) : frm lo hi m (mwr m c k v) := ⟨fun j hj => mwr_ne (by omega), rfl⟩
theorem frm.cp {lo hi s sp d dp n : Nat} {m : Mem} (h1 : lo ≤ d) (h2 : d ≤ hi) : frm lo hi m (mcp m s sp d dp n) := ⟨fun j hj => mcp_ne (by omega), rfl⟩
theorem mcp_s {m : Mem} {s sp d dp n q : Nat} : (mcp m s sp d dp n).1 d q = if dp ≤ q ∧ q < dp + n then m.1 s (sp + (q - dp)) else m.1 d q := by simp [mcp, va_cpy]
theorem mwr_2 {m : Mem} {c k : Nat} {v : Int} : (mwr m c k v).2 = m.2 := rfl
theorem mcp_2 {m : Mem} {s sp d dp n : Nat} : (mcp m s sp d dp n).2 = m.2 := rfl
theorem repS.keep {m m' : Mem} {o : Nat} {a : AS} (h : repS m o a) (hs : ∀ c, o ≤ c → c ≤ o + 5 → m'.1 c = m.1 c) : repS m' o a := by
  obtain ⟨h1, h2, h3, h4, h5, h6⟩ := h
  have e0 := hs o (by omega) (by omega)
  have e1 := hs (o + 1) (by omega) (by omega)
  have e2 := hs (o + 2) (by omega) (by omega)
  have e3 := hs (o + 3) (by omega) (by omega)
  have e4 := hs (o + 4) (by omega) (by omega)
  have e5 := hs (o + 5) (by omega) (by omega)
  refine ⟨by rw [e0]; exact h1, by rw [e0]; exact h2, by rw [e0]; exact h3, by rw [e0]; exact h4, by rw [e0]; exact h5, fun r hr => ?_⟩
  rw [e1, e2, e3, e4, e5]
  exact h6 r hr
theorem repS.fr {m m' : Mem} {o lo hi : Nat} {a : AS} (h : repS m o a) (hf : frm lo hi m m') (hd : o + 5 < lo ∨ hi < o) : repS m' o a := h.keep (fun c h1 h2 => hf.1 c (by omega))
theorem repF.keep {g g' : Nat → Int} {b : Nat} {a : AS} (h : repF g b a) (hn : a.1 ≤ 24) (hs : ∀ i, b ≤ i → i < b + 149 → g' i = g i) : repF g' b a := by
  obtain ⟨h1, h2, h3, h4, h5, h6⟩ := h
  refine ⟨by rw [hs _ (by omega) (by omega)]; exact h1, by rw [hs _ (by omega) (by omega)]; exact h2, by rw [hs _ (by omega) (by omega)]; exact h3, by rw [hs _ (by omega) (by omega)]; exact h4, by rw [hs _ (by omega) (by omega)]; exact h5, fun r hr => ?_⟩
  rw [hs _ (by omega) (by omega), hs _ (by omega) (by omega), hs _ (by omega) (by omega), hs _ (by omega) (by omega), hs _ (by omega) (by omega), hs _ (by omega) (by omega)]
  exact h6 r hr
theorem ci_1 (i : Nat) : ((i : Int) + 1) = ((i + 1 : Nat) : Int) := rfl
theorem tN (i : Nat) : ((i : Int)).toNat = i := rfl
/-- the first rank with a name, or none -/
theorem fst_dec (p : Nat → Prop) (n : Nat) : (∃ r, r < n ∧ p r ∧ ∀ j, j < r → ¬ p j) ∨ (∀ j, j < n → ¬ p j) := by
  induction n with
  | zero => exact Or.inr (fun j hj => absurd hj (by omega))
  | succ n ih =>
    rcases ih with ⟨r, h1, h2, h3⟩ | h
    · exact Or.inl ⟨r, by omega, h2, h3⟩
    · by_cases hp : p n
      · exact Or.inl ⟨n, by omega, hp, h⟩
      · refine Or.inr (fun j hj => ?_)
        rcases Nat.lt_or_ge j n with q | q
        · exact h j q
        · have : j = n := by omega
          rw [this]; exact hp
def sumN (f : Nat → Int) : Nat → Int
  | 0 => 0
  | k + 1 => sumN f k + f k
theorem sumN_le {f : Nat → Int} {c : Int} (h : ∀ j, f j ≤ c) (n : Nat) : sumN f n ≤ c * n := by
  induction n with
  | zero => simp [sumN]
  | succ n ih => 
    have := h n
    simp only [sumN, Int.natCast_add, Int.mul_add]
    omega
theorem sumN_ge {f : Nat → Int} (n : Nat) (h : ∀ j, j < n → 0 ≤ f j) : 0 ≤ sumN f n := by
  induction n with
  | zero => simp [sumN]
  | succ n ih =>
    have := h n (by omega)
    have := ih (fun j hj => h j (by omega))
    simp only [sumN]
    omega
theorem sumN_congr {f g : Nat → Int} (n : Nat) (h : ∀ j, j < n → f j = g j) : sumN f n = sumN g n := by
  induction n with
  | zero => rfl
  | succ n ih => simp only [sumN]; rw [ih (fun j hj => h j (by omega)), h n (by omega)]
