def CS (m : Mem) (a : AS) (hn : Nat) (H : Nat → AS) (sb : Int) (s : AS) : Prop := repS m 1 a ∧ CH m hn H ∧ m.1 0 3 = sb ∧ (sb = 1 → repS m 13 s)
def WS (a : AS) (hn : Nat) (H : Nat → AS) (sb : Int) (s : AS) (N : Int) : Prop := wfA a N ∧ (∀ i, i < hn → wfA (H i) N) ∧ (sb = 1 → wfA s N) ∧ (sb = 0 ∨ sb = 1) ∧ hn ≤ 4
/-- the class's calls leave the reference, and the pad -/
def CK (m m' : Mem) : Prop := ∀ c, 45 ≤ c → m'.1 c = m.1 c
theorem WS.push {a b : AS} {hn : Nat} {H : Nat → AS} {sb : Int} {s : AS} {N : Int} (h : WS a hn H sb s N) (w : wfA b N) : WS b (pushN hn) (pushH hn H a) sb s N := by
  obtain ⟨h1, h2, h3, h4, h5⟩ := h
  refine ⟨w, fun i hi => ?_, h3, h4, by unfold pushN; split <;> omega⟩
  unfold pushN at hi
  unfold pushH
  split at hi
  · rename_i e
    rw [if_pos e]
    split
    · exact h2 _ (by omega)
    · exact h1
  · rename_i e
    rw [if_neg e]
    split
    · exact h1
    · exact h2 _ (by omega)
theorem WS.mono {a : AS} {hn : Nat} {H : Nat → AS} {sb : Int} {s : AS} {N N' : Int} (h : WS a hn H sb s N) (hN : N ≤ N') : WS a hn H sb s N' := ⟨h.1.mono hN, fun i hi => (h.2.1 i hi).mono hN, fun e => (h.2.2.1 e).mono hN, h.2.2.2⟩
theorem CH.n24 {m : Mem} {hn : Nat} {H : Nat → AS} (h : CH m hn H) : hn ≤ 4 := by obtain ⟨q, _, h2, _⟩ := h; exact h2
section IV
variable {m : Mem} {a : AS} {hn : Nat} {H : Nat → AS} {sb : Int} {s : AS} {N : Int}
/-- the class's acts: on trial first -/
theorem settle_ok (h : CS m a hn H sb s) (h24 : a.1 ≤ 24) {b : AS} (hb : repS m 7 b) (hb24 : b.1 ≤ 24) (r : Int) : ∃ m', f_X3_settle r m = some (r, m') ∧ CK m m' ∧ (r < 0 → CS m' a hn H sb s) ∧ (0 ≤ r → CS m' b (pushN hn) (pushH hn H a) sb s) := by
  obtain ⟨h1, h2, h3, h4⟩ := id h
  unfold f_X3_settle
  by_cases z : r < 0
  · rw [if_pos z]
    exact ⟨m, rfl, fun _ _ => rfl, fun _ => h, fun q => by omega⟩
  · rw [if_neg z]
    obtain ⟨m1, e1, r1, f1⟩ := keep_ok h2 h1 h24
    rw [e1]
    simp only [Option.bind_some]
    obtain ⟨m2, e2, f2, r2⟩ := copy_ok 1 7 m1 (by omega)
    rw [e2]
    refine ⟨m2, rfl, fun c hc => by rw [f2.1 c (by omega), f1 c (by omega)], fun q => by omega, fun _ => ⟨r2 b hb24 (hb.keep (fun c g1 g2 => f1 c (by omega))), r1.keep (fun c g1 g2 => f2.1 c (by omega)) f2.2, by rw [f2.1 0 (by omega), f1 0 (by omega)]; exact h3, fun e => (h4 e).keep (fun c g1 g2 => by rw [f2.1 c (by omega), f1 c (by omega)])⟩⟩
theorem cls_act {op : Mem → Option (Int × Mem)} {R : Int × AS} (h : CS m a hn H sb s) (h24 : a.1 ≤ 24) (hR : R.2.1 ≤ 24) (hop : ∀ m1, repS m1 7 a → didS (op m1) m1 7 R) :
    ∃ m', (f_X2_copyFrom 7 1 m).bind (fun q1 => (op q1).bind (fun q3 => (f_X3_settle q3.1 q3.2).bind (fun q5 => some (q5.1, q5.2)))) = some (R.1, m') ∧ CK m m' ∧ (R.1 < 0 → CS m' a hn H sb s) ∧ (0 ≤ R.1 → CS m' R.2 (pushN hn) (pushH hn H a) sb s) := by
  obtain ⟨h1, h2, h3, h4⟩ := id h
  obtain ⟨m1, e1, f1, r1⟩ := copy_ok 7 1 m (by omega)
  rw [e1]
  simp only [Option.bind_some]
  obtain ⟨m2, e2, f2, r2⟩ := hop m1 (r1 a h24 h1)
  rw [e2]
  simp only [Option.bind_some]
  have f12 := f1.tr f2
  have hc : CS m2 a hn H sb s := ⟨h1.fr f12 (by omega), h2.keep (fun c g1 g2 => f12.1 c (by omega)) f12.2, by rw [f12.1 0 (by omega)]; exact h3, fun e => (h4 e).fr f12 (by omega)⟩
  obtain ⟨m3, e3, k3, n3, p3⟩ := settle_ok hc h24 r2 hR R.1
  rw [e3]
  exact ⟨m3, rfl, fun c hcc => by rw [k3 c hcc, f12.1 c (by omega)], n3, p3⟩
theorem add_neg {x l k : Int} (w : wfA a N) (h : (addF a x l k).1 < 0) : (addF a x l k).2 = a := by
  have hw := w.1
  unfold addF at h ⊢
  by_cases h1 : ¬ (0 ≤ x ∧ x < 676) ∨ ¬ (1 ≤ l ∧ l ≤ 40) ∨ ¬ (0 ≤ k ∧ k ≤ 9999)
  · rw [cIf_t h1]
  · rw [cIf_f h1] at h ⊢
    by_cases h2 : hasN a x
    · rw [cIf_t h2]
    · rw [cIf_f h2] at h ⊢
      by_cases h3 : ¬ (a.1 : Int) < 4 * a.2.2 0
      · rw [cIf_t h3]
      · rw [cIf_f h3] at h ⊢
        by_cases h4 : ¬ a.2.2 1 + l ≤ 100
        · rw [cIf_t h4]
        · rw [cIf_f h4] at h
          have h : a.2.2 1 < 0 := h
          omega
theorem ali_neg {x g : Int} (w : wfA a N) (h : (aliF a x g).1 < 0) : (aliF a x g).2 = a := by
  unfold aliF at h ⊢
  by_cases h1 : ¬ memN a g
  · rw [cIf_t h1]
  · rw [cIf_f h1] at h ⊢
    have b := (w.2.2.1 _ (w.at_ (Classical.not_not.mp h1).1).1).2.2.2.1
    by_cases h2 : ¬ (0 ≤ x ∧ x < 676)
    · rw [cIf_t h2]
    · rw [cIf_f h2] at h ⊢
      by_cases h3 : memN a x
      · rw [cIf_t h3]
      · rw [cIf_f h3] at h ⊢
        by_cases h4 : hasN a x
        · rw [cIf_t h4] at h ⊢
          by_cases h5 : a.2.1 2 (blw a x) = a.2.1 2 (blw a g) ∧ a.2.1 1 (blw a x) = g
          · rw [cIf_t h5]
          · rw [cIf_f h5] at h
            have h : a.2.1 2 (blw a g) < 0 := h
            omega
        · rw [cIf_f h4] at h ⊢
          by_cases h5 : ¬ (a.1 : Int) < 4 * a.2.2 0
          · rw [cIf_t h5]
          · rw [cIf_f h5] at h
            have h : a.2.1 2 (blw a g) < 0 := h
            omega
end IV
