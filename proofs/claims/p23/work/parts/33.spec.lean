noncomputable def cIf {α : Type} (c : Prop) (x y : α) : α := @ite α c (Classical.propDecidable c) x y
theorem cIf_t {α : Type} {c : Prop} {x y : α} (h : c) : cIf c x y = x := by unfold cIf; exact if_pos h
theorem cIf_f {α : Type} {c : Prop} {x y : α} (h : ¬ c) : cIf c x y = y := by unfold cIf; exact if_neg h
def cntB (f : Nat → Int) (x : Int) : Nat → Nat
  | 0 => 0
  | k + 1 => cntB f x k + (if f k < x then 1 else 0)
def blw (a : AS) (x : Int) : Nat := cntB (a.2.1 0) x a.1
def hasN (a : AS) (x : Int) : Prop := ∃ j, j < a.1 ∧ a.2.1 0 j = x
theorem cntB_le (f : Nat → Int) (x : Int) (n : Nat) : cntB f x n ≤ n := by
  induction n with
  | zero => exact Nat.le_refl 0
  | succ n ih => simp only [cntB]; split <;> omega
theorem cntB_srt {f : Nat → Int} {x : Int} {n : Nat} (h : ∀ i j, i < j → j < n → f i < f j) : (∀ j, j < cntB f x n → f j < x) ∧ (∀ j, cntB f x n ≤ j → j < n → ¬ f j < x) := by
  induction n with
  | zero => exact ⟨fun j hj => absurd hj (by simp [cntB]), fun j _ hj => absurd hj (by omega)⟩
  | succ n ih =>
    obtain ⟨h1, h2⟩ := ih (fun i j hij hj => h i j hij (by omega))
    have hle := cntB_le f x n
    simp only [cntB]
    by_cases q : f n < x
    · rw [if_pos q]
      -- all below
      have hall : cntB f x n = n := by
        rcases Nat.lt_or_ge (cntB f x n) n with z | z
        · have := h2 (cntB f x n) (Nat.le_refl _) z
          have := h (cntB f x n) n z (by omega)
          omega
        · omega
      refine ⟨fun j hj => ?_, fun j hj hj2 => absurd hj (by omega)⟩
      by_cases hjn : j = n
      · rw [hjn]; exact q
      · exact h1 j (by omega)
    · rw [if_neg q]
      refine ⟨fun j hj => h1 j (by omega), fun j hj hj2 => ?_⟩
      by_cases hjn : j = n
      · rw [hjn]; exact q
      · exact h2 j (by omega) (by omega)
theorem blw_le (a : AS) (x : Int) : blw a x ≤ a.1 := cntB_le _ _ _
theorem wfA.lo {a : AS} {N : Int} (w : wfA a N) (x : Int) : ∀ j, j < blw a x → a.2.1 0 j < x := (cntB_srt w.2.1).1
theorem wfA.hi {a : AS} {N : Int} (w : wfA a N) (x : Int) : ∀ j, blw a x ≤ j → j < a.1 → ¬ a.2.1 0 j < x := (cntB_srt w.2.1).2
theorem wfA.at_ {a : AS} {N x : Int} (w : wfA a N) (h : hasN a x) : blw a x < a.1 ∧ a.2.1 0 (blw a x) = x := by
  obtain ⟨j, hj, hx⟩ := h
  have h1 := w.lo x
  have h2 := w.hi x
  have : blw a x ≤ j := by
    rcases Nat.lt_or_ge j (blw a x) with q | q
    · have := h1 j q; omega
    · exact q
  have h3 := h2 (blw a x) (Nat.le_refl _) (by omega)
  rcases Nat.lt_or_ge (blw a x) j with q | q
  · have := w.2.1 (blw a x) j q hj
    omega
  · have : blw a x = j := by omega
    rw [this]; exact ⟨hj, hx⟩
theorem wfA.mono {a : AS} {N N' : Int} (w : wfA a N) (h : N ≤ N') : wfA a N' := by
  obtain ⟨⟨h1, h2, h3, h4, h5, h6, h7, h8, h9⟩, r⟩ := w
  exact ⟨⟨h1, h2, h3, h4, h5, h6, by omega, h8, by omega⟩, r⟩
theorem wf_end {a : AS} {N v : Int} (w : wfA a N) (h : a.2.2 1 ≤ v) (h2 : v ≤ 100) : wfA (scA a 1 v) N := by
  obtain ⟨⟨h1, h2, h3, h4, h5, h6, h7, h8, h9⟩, r1, r2, r3, r4⟩ := w
  refine ⟨?_, r1, fun i hi => ?_, r3, r4⟩
  · simp only [scA]
    refine ⟨h1, h2, h3, ?_, ?_, h6, h7, h8, h9⟩ <;> simp <;> omega
  · obtain ⟨g1, g2, g3, g4, g5, g6, g7, g8, g9⟩ := r2 i hi
    refine ⟨g1, g2, g3, g4, g5, g6, ?_, g8, g9⟩
    simp only [scA, if_true]
    omega
theorem wf_blk {a : AS} {N v : Int} (w : wfA a N) (h : 1 ≤ v ∧ v ≤ 6) (h2 : (a.1 : Int) ≤ 4 * v) : wfA (scA a 0 v) N := by
  obtain ⟨⟨h1, h2, h3, h4, h5, h6, h7, h8, h9⟩, r1, r2, r3, r4⟩ := w
  refine ⟨?_, r1, fun i hi => ?_, r3, r4⟩
  · simp only [scA]
    refine ⟨?_, ?_, ?_, h4, h5, h6, h7, h8, h9⟩ <;> simp <;> omega
  · exact r2 i hi
theorem wf_ins {a : AS} {N x g s l v : Int} (w : wfA a N) (hf : (a.1 : Int) < 4 * a.2.2 0) (hx : 0 ≤ x ∧ x < 676) (hg : g = -5 ∨ (0 ≤ g ∧ g < 676)) (hs : 0 ≤ s ∧ 1 ≤ l ∧ l ≤ 40 ∧ s + l ≤ a.2.2 1) (hv : 0 ≤ v ∧ v ≤ 9999) (hne : ¬ hasN a x) (t1 : ∀ j, j < a.1 → a.2.1 2 j = s → a.2.1 3 j = l) (t2 : ∀ j, j < a.1 → a.2.1 2 j < s → a.2.1 2 j + a.2.1 3 j ≤ s) (t3 : ∀ j, j < a.1 → s < a.2.1 2 j → s + l ≤ a.2.1 2 j) : wfA (insA a (blw a x) (entA x g s l v)) N := by
  have hlo := w.lo x
  have hhi := w.hi x
  have hle := blw_le a x
  obtain ⟨⟨h1, h2, h3, h4, h5, h6, h7, h8, h9⟩, r1, r2, r3, r4⟩ := w
  generalize hr : blw a x = r at hlo hhi hle
  have hxn : ∀ j, j < a.1 → a.2.1 0 j ≠ x := fun j hj e => hne ⟨j, hj, e⟩
  have idx : ∀ j, j < a.1 + 1 → j ≠ r → ∃ i, i < a.1 ∧ (∀ k, (insA a r (entA x g s l v)).2.1 k j = a.2.1 k i) ∧ i = (if j < r then j else j - 1) := by
    intro j hj hjr
    by_cases q : j < r
    · exact ⟨j, by omega, fun k => by simp [insA, q], by simp [q]⟩
    · exact ⟨j - 1, by omega, fun k => by simp [insA, q, hjr], by simp [q]⟩
  have atr : ∀ k, (insA a r (entA x g s l v)).2.1 k r = entA x g s l v k := fun k => by simp [insA]
  refine ⟨⟨?_, h2, h3, h4, h5, h6, h7, h8, h9⟩, ?_, ?_, ?_, ?_⟩
  · show ((a.1 + 1 : Nat) : Int) ≤ _; have : (insA a r (entA x g s l v)).2.2 0 = a.2.2 0 := rfl
    omega
  · intro i j hij hj
    have hj : j < a.1 + 1 := hj
    by_cases qi : i = r
    · have hjr : j ≠ r := by omega
      obtain ⟨j', p1, p2, p3⟩ := idx j hj hjr
      rw [qi, atr, p2]
      have := hhi j' (by rw [p3, if_neg (by omega)]; omega) p1
      have := hxn j' p1
      show x < _
      omega
    · obtain ⟨i', a1, a2, a3⟩ := idx i (by omega) qi
      rw [a2]
      by_cases qj : j = r
      · rw [qj, atr]
        have := hlo i' (by rw [a3, if_pos (by omega)]; omega)
        show _ < x
        exact this
      · obtain ⟨j', b1, b2, b3⟩ := idx j hj qj
        rw [b2]
        refine r1 i' j' ?_ b1
        rw [a3, b3]
        by_cases z1 : i < r
        · by_cases z2 : j < r
          · rw [if_pos z1, if_pos z2]; exact hij
          · rw [if_pos z1, if_neg z2]; omega
        · rw [if_neg z1, if_neg (by omega)]; omega
  · intro i hi
    have hi : i < a.1 + 1 := hi
    by_cases qi : i = r
    · rw [qi]
      simp only [atr]
      exact ⟨hx.1, hx.2, hg, hs.1, hs.2.1, hs.2.2.1, hs.2.2.2, hv.1, hv.2⟩
    · obtain ⟨i', a1, a2, a3⟩ := idx i hi qi
      simp only [a2]
      exact r2 i' a1
  · intro i j hi hj
    have hi : i < a.1 + 1 := hi
    have hj : j < a.1 + 1 := hj
    by_cases qi : i = r
    · by_cases qj : j = r
      · rw [qi, qj]; intro _; rfl
      · obtain ⟨j', b1, b2, b3⟩ := idx j hj qj
        rw [qi]
        simp only [atr, b2]
        intro e
        exact (t1 j' b1 e.symm).symm
    · obtain ⟨i', a1, a2, a3⟩ := idx i hi qi
      by_cases qj : j = r
      · rw [qj]
        simp only [atr, a2]
        exact fun e => t1 i' a1 e
      · obtain ⟨j', b1, b2, b3⟩ := idx j hj qj
        simp only [a2, b2]
        exact r3 i' j' a1 b1
  · intro i j hi hj
    have hi : i < a.1 + 1 := hi
    have hj : j < a.1 + 1 := hj
    by_cases qi : i = r
    · by_cases qj : j = r
      · rw [qi, qj]; intro h; omega
      · obtain ⟨j', b1, b2, b3⟩ := idx j hj qj
        rw [qi]
        simp only [atr, b2]
        exact fun e => t3 j' b1 e
    · obtain ⟨i', a1, a2, a3⟩ := idx i hi qi
      by_cases qj : j = r
      · rw [qj]
        simp only [atr, a2]
        exact fun e => t2 i' a1 e
      · obtain ⟨j', b1, b2, b3⟩ := idx j hj qj
        simp only [a2, b2]
        exact r4 i' j' a1 b1
theorem wf_del {a : AS} {N : Int} (w : wfA a N) (r : Nat) (hr : r < a.1) : wfA (delA a r) N := by
  obtain ⟨⟨h1, h2, h3, h4, h5, h6, h7, h8, h9⟩, r1, r2, r3, r4⟩ := w
  have idx : ∀ j, j < a.1 - 1 → ∃ i, i < a.1 ∧ (∀ k, (delA a r).2.1 k j = a.2.1 k i) ∧ i = (if j < r then j else j + 1) := by
    intro j hj
    by_cases q : j < r
    · exact ⟨j, by omega, fun k => by simp [delA, q], by simp [q]⟩
    · exact ⟨j + 1, by omega, fun k => by simp [delA, q], by simp [q]⟩
  refine ⟨⟨?_, h2, h3, h4, h5, h6, h7, h8, h9⟩, ?_, ?_, ?_, ?_⟩
  · show ((a.1 - 1 : Nat) : Int) ≤ _; have : (delA a r).2.2 0 = a.2.2 0 := rfl
    omega
  · intro i j hij hj
    have hj : j < a.1 - 1 := hj
    obtain ⟨i', a1, a2, a3⟩ := idx i (by omega)
    obtain ⟨j', b1, b2, b3⟩ := idx j hj
    rw [a2, b2]
    refine r1 i' j' ?_ b1
    rw [a3, b3]
    split <;> split <;> omega
  · intro i hi
    obtain ⟨i', a1, a2, a3⟩ := idx i hi
    simp only [a2]
    exact r2 i' a1
  · intro i j hi hj
    obtain ⟨i', a1, a2, a3⟩ := idx i hi
    obtain ⟨j', b1, b2, b3⟩ := idx j hj
    simp only [a2, b2]
    exact r3 i' j' a1 b1
  · intro i j hi hj
    obtain ⟨i', a1, a2, a3⟩ := idx i hi
    obtain ⟨j', b1, b2, b3⟩ := idx j hj
    simp only [a2, b2]
    exact r4 i' j' a1 b1
theorem wf_set {a : AS} {N x g s l v : Int} (w : wfA a N) (r : Nat) (hr : r < a.1) (hx : x = a.2.1 0 r) (hg : g = -5 ∨ (0 ≤ g ∧ g < 676)) (hs : 0 ≤ s ∧ 1 ≤ l ∧ l ≤ 40 ∧ s + l ≤ a.2.2 1) (hv : 0 ≤ v ∧ v ≤ 9999) (t1 : ∀ j, j < a.1 → a.2.1 2 j = s → a.2.1 3 j = l) (t2 : ∀ j, j < a.1 → a.2.1 2 j < s → a.2.1 2 j + a.2.1 3 j ≤ s) (t3 : ∀ j, j < a.1 → s < a.2.1 2 j → s + l ≤ a.2.1 2 j) : wfA (setA a r (entA x g s l v)) N := by
  obtain ⟨hw, r1, r2, r3, r4⟩ := w
  have nt : ∀ j k, j ≠ r → (setA a r (entA x g s l v)).2.1 k j = a.2.1 k j := fun j k h => by simp [setA, h]
  have atr : ∀ k, (setA a r (entA x g s l v)).2.1 k r = entA x g s l v k := fun k => by simp [setA]
  have nm : ∀ j, (setA a r (entA x g s l v)).2.1 0 j = a.2.1 0 j := by
    intro j
    by_cases q : j = r
    · rw [q, atr]; exact hx
    · exact nt j 0 q
  refine ⟨hw, fun i j hij hj => by rw [nm, nm]; exact r1 i j hij hj, fun i hi => ?_, fun i j hi hj => ?_, fun i j hi hj => ?_⟩
  · by_cases q : i = r
    · have hx2 := r2 r hr
      rw [q]
      simp only [atr]
      exact ⟨by show 0 ≤ x; rw [hx]; exact hx2.1, by show x < 676; rw [hx]; exact hx2.2.1, hg, hs.1, hs.2.1, hs.2.2.1, hs.2.2.2, hv.1, hv.2⟩
    · simp only [nt i _ q]
      exact r2 i hi
  · by_cases qi : i = r
    · by_cases qj : j = r
      · rw [qi, qj]; intro _; rfl
      · rw [qi]; simp only [atr, nt j _ qj]; exact fun e => (t1 j hj e.symm).symm
    · by_cases qj : j = r
      · rw [qj]; simp only [atr, nt i _ qi]; exact fun e => t1 i hi e
      · simp only [nt i _ qi, nt j _ qj]; exact r3 i j hi hj
  · by_cases qi : i = r
    · by_cases qj : j = r
      · rw [qi, qj]; intro h; omega
      · rw [qi]; simp only [atr, nt j _ qj]; exact fun e => t3 j hj e
    · by_cases qj : j = r
      · rw [qj]; simp only [atr, nt i _ qi]; exact fun e => t2 i hi e
      · simp only [nt i _ qi, nt j _ qj]; exact r4 i j hi hj
theorem wf_tel {a : AS} {N x y : Int} (w : wfA a N) (hy : 0 ≤ y ∧ y < 676) : wfA (telA a x y) N := by
  obtain ⟨hw, r1, r2, r3, r4⟩ := w
  refine ⟨hw, fun i j hij hj => ?_, fun i hi => ?_, fun i j hi hj => ?_, fun i j hi hj => ?_⟩
  · simpa [telA] using r1 i j hij hj
  · have := r2 i hi
    simp only [telA]
    simp only [show ¬ (0 = 1 ∧ a.2.1 1 i = x) by simp, show ¬ (2 = 1 ∧ a.2.1 1 i = x) by simp, show ¬ (3 = 1 ∧ a.2.1 1 i = x) by simp, show ¬ (4 = 1 ∧ a.2.1 1 i = x) by simp, if_false, true_and]
    refine ⟨this.1, this.2.1, ?_, this.2.2.2⟩
    split
    · exact Or.inr hy
    · exact this.2.2.1
  · simpa [telA] using r3 i j hi hj
  · simpa [telA] using r4 i j hi hj
