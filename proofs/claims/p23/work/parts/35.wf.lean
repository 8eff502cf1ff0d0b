section WFs
variable {a : AS} {N : Int}
theorem wf_addF {x l k : Int} (w : wfA a N) : wfA (addF a x l k).2 N := by
  unfold addF
  by_cases h1 : ¬ (0 ≤ x ∧ x < 676) ∨ ¬ (1 ≤ l ∧ l ≤ 40) ∨ ¬ (0 ≤ k ∧ k ≤ 9999)
  · rw [cIf_t h1]; exact w
  · rw [cIf_f h1]
    by_cases h2 : hasN a x
    · rw [cIf_t h2]; exact w
    · rw [cIf_f h2]
      by_cases h3 : ¬ (a.1 : Int) < 4 * a.2.2 0
      · rw [cIf_t h3]; exact w
      · rw [cIf_f h3]
        by_cases h4 : ¬ a.2.2 1 + l ≤ 100
        · rw [cIf_t h4]; exact w
        · rw [cIf_f h4]
          have hw := w.1
          have w1 : wfA (scA a 1 (a.2.2 1 + l)) N := wf_end w (by omega) (by omega)
          have key : ∀ j, j < a.1 → a.2.1 2 j + a.2.1 3 j ≤ a.2.2 1 ∧ 1 ≤ a.2.1 3 j := fun j hj => ⟨(w.2.2.1 j hj).2.2.2.2.2.2.1, (w.2.2.1 j hj).2.2.2.2.1⟩
          refine wf_ins w1 (by show (a.1 : Int) < 4 * a.2.2 0; omega) (by omega) (Or.inl rfl) ⟨by omega, by omega, by omega, by show a.2.2 1 + l ≤ a.2.2 1 + l; omega⟩ (by omega) h2 ?_ ?_ ?_
          · intro j hj e
            have := key j hj
            have e : a.2.1 2 j = a.2.2 1 := e
            omega
          · intro j hj _; exact (key j hj).1
          · intro j hj e
            have := key j hj
            have e : a.2.2 1 < a.2.1 2 j := e
            omega
theorem wf_repF' {x l k : Int} (w : wfA a N) : wfA (repF' a x l k).2 N := by
  unfold repF'
  by_cases h1 : ¬ memN a x
  · rw [cIf_t h1]; exact w
  · rw [cIf_f h1]
    have h1 := Classical.not_not.mp h1
    by_cases h2 : ¬ (1 ≤ l ∧ l ≤ 40) ∨ ¬ (0 ≤ k ∧ k ≤ 9999)
    · rw [cIf_t h2]; exact w
    · rw [cIf_f h2]
      by_cases h4 : ¬ a.2.2 1 + l ≤ 100
      · rw [cIf_t h4]; exact w
      · rw [cIf_f h4]
        have hw := w.1
        have w1 : wfA (scA a 1 (a.2.2 1 + l)) N := wf_end w (by omega) (by omega)
        have key : ∀ j, j < a.1 → a.2.1 2 j + a.2.1 3 j ≤ a.2.2 1 ∧ 1 ≤ a.2.1 3 j := fun j hj => ⟨(w.2.2.1 j hj).2.2.2.2.2.2.1, (w.2.2.1 j hj).2.2.2.2.1⟩
        refine wf_set w1 (blw a x) (w.at_ h1.1).1 (w.at_ h1.1).2.symm (Or.inl rfl) ⟨by omega, by omega, by omega, by show a.2.2 1 + l ≤ a.2.2 1 + l; omega⟩ (by omega) ?_ ?_ ?_
        · intro j hj e
          have := key j hj
          have e : a.2.1 2 j = a.2.2 1 := e
          omega
        · intro j hj _; exact (key j hj).1
        · intro j hj e
          have := key j hj
          have e : a.2.2 1 < a.2.1 2 j := e
          omega
theorem wf_remF {x : Int} (w : wfA a N) : wfA (remF a x).2 N := by
  unfold remF
  by_cases h1 : ¬ hasN a x
  · rw [cIf_t h1]; exact w
  · rw [cIf_f h1]
    exact wf_del w _ (w.at_ (Classical.not_not.mp h1)).1
theorem wf_renF {x y : Int} (w : wfA a N) : wfA (renF a x y).2 N := by
  unfold renF
  by_cases h1 : ¬ hasN a x
  · rw [cIf_t h1]; exact w
  · rw [cIf_f h1]
    have h1 := Classical.not_not.mp h1
    by_cases h2 : ¬ (0 ≤ y ∧ y < 676)
    · rw [cIf_t h2]; exact w
    · rw [cIf_f h2]
      by_cases h3 : y = x
      · rw [cIf_t h3]; exact w
      · rw [cIf_f h3]
        by_cases h4 : hasN a y
        · rw [cIf_t h4]; exact w
        · rw [cIf_f h4]
          have hlt := (w.at_ h1).1
          have wm := wf_renM (x := x) (y := y) w (by omega)
          obtain ⟨n1, n2⟩ := renM_n a x y
          have hb : blw a x < (renM a x y).1 := by rw [n1]; exact hlt
          have wd := wf_del wm (blw a x) hb
          have idx : ∀ j, j < (delA (renM a x y) (blw a x)).1 → ∃ i, i < a.1 ∧ ∀ k, k ≠ 1 → (delA (renM a x y) (blw a x)).2.1 k j = a.2.1 k i := by
            intro j hj
            have hj : j < (renM a x y).1 - 1 := hj
            rw [n1] at hj
            by_cases q : j < blw a x
            · exact ⟨j, by omega, fun k hk => by rw [← renM_c a x y k j hk]; simp [delA, q]⟩
            · exact ⟨j + 1, by omega, fun k hk => by rw [← renM_c a x y k (j + 1) hk]; simp [delA, q]⟩
          have hw := w.1
          obtain ⟨-, -, r2, r3, r4⟩ := id w
          have b := r2 (blw a x) hlt
          have bm := wm.2.2.1 (blw a x) hb
          refine wf_ins wd ?_ (by omega) bm.2.2.1 ⟨b.2.2.2.1, b.2.2.2.2.1, b.2.2.2.2.2.1, ?_⟩ ⟨b.2.2.2.2.2.2.2.1, b.2.2.2.2.2.2.2.2⟩ ?_ ?_ ?_ ?_
          · show (((renM a x y).1 - 1 : Nat) : Int) < 4 * (renM a x y).2.2 0
            rw [n1, n2]
            omega
          · show _ ≤ (renM a x y).2.2 1
            rw [n2]
            exact b.2.2.2.2.2.2.1
          · rintro ⟨j, hj, e⟩
            obtain ⟨i, hi, q⟩ := idx j hj
            rw [q 0 (by decide)] at e
            exact h4 ⟨i, hi, e⟩
          · intro j hj e
            obtain ⟨i, hi, q⟩ := idx j hj
            rw [q 2 (by decide)] at e
            rw [q 3 (by decide)]
            exact r3 i (blw a x) hi hlt e
          · intro j hj e
            obtain ⟨i, hi, q⟩ := idx j hj
            rw [q 2 (by decide)] at e ⊢
            rw [q 3 (by decide)]
            exact r4 i (blw a x) hi hlt e
          · intro j hj e
            obtain ⟨i, hi, q⟩ := idx j hj
            rw [q 2 (by decide)] at e ⊢
            exact r4 (blw a x) i hlt hi e
theorem wf_aliF {x g : Int} (w : wfA a N) : wfA (aliF a x g).2 N := by
  unfold aliF
  by_cases h1 : ¬ memN a g
  · rw [cIf_t h1]; exact w
  · rw [cIf_f h1]
    have h1 := Classical.not_not.mp h1
    obtain ⟨hltg, hgn⟩ := w.at_ h1.1
    obtain ⟨-, -, r2, r3, r4⟩ := id w
    have b := r2 (blw a g) hltg
    by_cases h2 : ¬ (0 ≤ x ∧ x < 676)
    · rw [cIf_t h2]; exact w
    · rw [cIf_f h2]
      by_cases h3 : memN a x
      · rw [cIf_t h3]; exact w
      · rw [cIf_f h3]
        by_cases h4 : hasN a x
        · rw [cIf_t h4]
          by_cases h5 : a.2.1 2 (blw a x) = a.2.1 2 (blw a g) ∧ a.2.1 1 (blw a x) = g
          · rw [cIf_t h5]; exact w
          · rw [cIf_f h5]
            exact wf_set w (blw a x) (w.at_ h4).1 (w.at_ h4).2.symm (Or.inr (by omega)) ⟨b.2.2.2.1, b.2.2.2.2.1, b.2.2.2.2.2.1, b.2.2.2.2.2.2.1⟩ ⟨b.2.2.2.2.2.2.2.1, b.2.2.2.2.2.2.2.2⟩ (fun j hj e => r3 j _ hj hltg e) (fun j hj e => r4 j _ hj hltg e) (fun j hj e => r4 _ j hltg hj e)
        · rw [cIf_f h4]
          by_cases h5 : ¬ (a.1 : Int) < 4 * a.2.2 0
          · rw [cIf_t h5]; exact w
          · rw [cIf_f h5]
            exact wf_ins w (Classical.not_not.mp h5) (by omega) (Or.inr (by omega)) ⟨b.2.2.2.1, b.2.2.2.2.1, b.2.2.2.2.2.1, b.2.2.2.2.2.2.1⟩ ⟨b.2.2.2.2.2.2.2.1, b.2.2.2.2.2.2.2.2⟩ h4 (fun j hj e => r3 j _ hj hltg e) (fun j hj e => r4 j _ hj hltg e) (fun j hj e => r4 _ j hltg hj e)
end WFs
