/-! WHAT THE SECOND SHELF TELLS -/
def thr (x : Int) : Int := if x < 0 then x else if x = 1000 then x else x + 338
theorem thr_n {x : Int} (h : 0 ≤ x ∧ x < 338) : thr x = x + 338 := by unfold thr; rw [if_neg (by omega), if_neg (by omega)]
theorem thr_m {x : Int} (h : x < 0) : thr x = x := if_pos h
section S2
variable {a : AS} {N : Int}
theorem aliW_sh (l : lowA a) {i : Nat} (hi : i < a.1) : aliW (shA a) i = aliW a i := by
  have hg := giv_sh (l.g hi)
  unfold aliW
  by_cases z : a.2.1 1 i = -5
  · rw [cIf_t z, cIf_t (c := (shA a).2.1 1 i = -5) (hg.mpr z)]
  · rw [cIf_f z, cIf_f (c := (shA a).2.1 1 i = -5) (fun q => z (hg.mp q))]
theorem aliV_sh (l : lowA a) : aliV (shA a) = aliV a := sumN_congr a.1 (fun j hj => aliW_sh l hj)
theorem aofV_sh (l : lowA a) (s : Int) : aofV (shA a) s = aofV a s := by
  refine sumN_congr a.1 (fun j hj => ?_)
  have hg := giv_sh (l.g hj)
  by_cases z : a.2.1 2 j = s ∧ ¬ a.2.1 1 j = -5
  · rw [cIf_t z, cIf_t (c := (shA a).2.1 2 j = s ∧ ¬ (shA a).2.1 1 j = -5) ⟨z.1, fun q => z.2 (hg.mp q)⟩]
  · rw [cIf_f z, cIf_f (c := (shA a).2.1 2 j = s ∧ ¬ (shA a).2.1 1 j = -5) (fun q => z ⟨q.1, fun e => q.2 (hg.mpr e)⟩)]
theorem lst_sh (w : wfA a N) (l : lowA a) {i : Nat} (hi : i < a.1) : lstV (shA a) i = lstV a i := by
  have hg := giv_sh (l.g hi)
  have hl := (l i hi).2
  unfold lstV
  by_cases z : a.2.1 1 i = -5
  · rw [cIf_t (Or.inl (show (shA a).2.1 1 i = -5 from hg.mpr z)), cIf_t (Or.inl z)]
  · have e : (shA a).2.1 1 i = a.2.1 1 i + 338 := by
      show sh5 1 (a.2.1 1 i) = _
      rw [sh5_1, if_neg z]
    rw [e, blw_sh]
    by_cases z2 : memN a (a.2.1 1 i) ∧ a.2.1 2 (blw a (a.2.1 1 i)) = a.2.1 2 i
    · rw [cIf_t (Or.inr ⟨(mem_sh w l _).mpr z2.1, z2.2⟩), cIf_t (Or.inr z2)]
    · rw [cIf_f (fun q => q.elim (fun q => by omega) (fun q => z2 ⟨(mem_sh w l _).mp q.1, q.2⟩)), cIf_f (fun q => q.elim z z2)]
theorem losV_sh (w : wfA a N) (l : lowA a) : losV (shA a) = losV a := sumN_congr a.1 (fun j hj => lst_sh w l hj)
theorem cnt_sh (w : wfA a N) (l : lowA a) (x : Int) : cntV (shA a) x = cntV a x := by
  unfold cntV
  rw [aliV_sh l, losV_sh w l, livU_sh, livT_sh]
  rfl
theorem ent_n (x y : Int) (h : ¬ hasN a x) : entV a x y = -1 := cIf_f h
theorem ent_y (x y : Int) (h : hasN a x) : entV a x y = entR a (blw a x) y := cIf_t h
theorem entV_sh (w : wfA a N) (l : lowA a) (x y : Int) (h5 : y ≠ 5) (h7 : y ≠ 7) : entV (shA a) (x + 338) y = entV a x y := by
  by_cases h : hasN a x
  · have hlt := (w.at_ h).1
    rw [ent_y x y h, ent_y (a := shA a) _ y ((has_sh a x).mpr h), blw_sh]
    unfold entR
    rw [aliW_sh l hlt, lst_sh w l hlt, aofV_sh l, if_neg h5, if_neg h7, if_neg h5, if_neg h7]
    rfl
  · rw [ent_n x y h, ent_n (a := shA a) _ y (fun q => h ((has_sh a x).mp q))]
theorem entV_sh5 (x : Int) (h : hasN a x) : entV a x 5 = 9999 - entV (shA a) (x + 338) 5 := by
  rw [ent_y x 5 h, ent_y (a := shA a) _ 5 ((has_sh a x).mpr h), blw_sh]
  show a.2.1 4 (blw a x) = 9999 - (9999 - a.2.1 4 (blw a x))
  omega
theorem entV_sh7 (w : wfA a N) (l : lowA a) (x : Int) (h : hasN a x) : thr (entV a x 7) = entV (shA a) (x + 338) 7 := by
  have hl := (l _ (w.at_ h).1).2
  rw [ent_y x 7 h, ent_y (a := shA a) _ 7 ((has_sh a x).mpr h), blw_sh]
  show thr (a.2.1 1 (blw a x)) = sh5 1 (a.2.1 1 (blw a x))
  rw [sh5_1]
  by_cases z : a.2.1 1 (blw a x) = -5
  · rw [if_pos z, z]; decide
  · rw [if_neg z, thr_n (by omega)]
theorem namV_sh (w : wfA a N) (l : lowA a) (x : Int) : namV (shA a) x = thr (namV a x) := by
  unfold namV
  by_cases h0 : x < 0
  · rw [if_pos h0, if_pos h0]; decide
  · rw [if_neg h0, if_neg h0]
    by_cases h1 : x < a.1
    · rw [if_pos h1, if_pos (show x < (shA a).1 from h1), thr_n ⟨(w.2.2.1 _ (show x.toNat < a.1 by omega)).1, (l _ (show x.toNat < a.1 by omega)).1⟩]
      rfl
    · rw [if_neg h1, if_neg (show ¬ x < (shA a).1 from h1)]; decide
theorem unL_sh (w : wfA a N) (l : lowA a) (u : Int) : ∀ (d i : Nat), i + d = a.1 → unL (shA a) u d i = thr (unL a u d i) := by
  intro d
  induction d with
  | zero =>
    intro i _
    show (1000 : Int) = thr 1000
    decide
  | succ d ih =>
    intro i hi
    show (if a.2.1 2 i ≤ u ∧ u < a.2.1 2 i + a.2.1 3 i then a.2.1 0 i + 338 else unL (shA a) u d (i + 1)) = thr (if a.2.1 2 i ≤ u ∧ u < a.2.1 2 i + a.2.1 3 i then a.2.1 0 i else unL a u d (i + 1))
    by_cases z : a.2.1 2 i ≤ u ∧ u < a.2.1 2 i + a.2.1 3 i
    · rw [if_pos z, if_pos z, thr_n ⟨(w.2.2.1 i (by omega)).1, (l i (by omega)).1⟩]
    · rw [if_neg z, if_neg z]
      exact ih (i + 1) (by omega)
theorem unV_sh (w : wfA a N) (l : lowA a) (u : Int) : unV (shA a) u = thr (unV a u) := by
  unfold unV
  by_cases h0 : u < 0 ∨ 100 ≤ u
  · rw [if_pos h0, if_pos h0]; decide
  · rw [if_neg h0, if_neg h0]
    by_cases z : u < a.2.2 1
    · rw [if_pos z, if_pos (show u < (shA a).2.2 1 from z)]
      exact unL_sh w l u a.1 0 (by omega)
    · rw [if_neg z, if_neg (show ¬ u < (shA a).2.2 1 from z)]; decide
theorem begV_sh (w : wfA a N) (l : lowA a) (x y : Int) (hx : 0 ≤ x ∧ x < 13) (hy : 0 ≤ y) : begV (shA a) (x + 13) y = thr (begV a x y) := by
  unfold begV
  rw [if_neg (show ¬ (x + 13 < 0 ∨ 26 ≤ x + 13 ∨ y < 0) by omega), if_neg (show ¬ (x < 0 ∨ 26 ≤ x ∨ y < 0) by omega), show (x + 13 + 1) * 26 = (x + 1) * 26 + 338 by omega, show (x + 13) * 26 = x * 26 + 338 by omega, blw_sh, blw_sh]
  have hle := blw_le a ((x + 1) * 26)
  by_cases z : (blw a ((x + 1) * 26) : Int) - (blw a (x * 26) : Int) ≤ y
  · rw [if_pos z, if_pos z]; decide
  · rw [if_neg z, if_neg z, thr_n ⟨(w.2.2.1 _ (show ((blw a (x * 26) : Int) + y).toNat < a.1 by omega)).1, (l _ (show ((blw a (x * 26) : Int) + y).toNat < a.1 by omega)).1⟩]
    rfl
end S2
/-! WHAT STANDS: names below 338, no two members with one text -/
section KP
variable {a : AS} {N : Int}
theorem ins_r (a : AS) (r : Nat) (e : Nat → Int) (k : Nat) : (insA a r e).2.1 k r = e k := by simp [insA]
theorem ins_i (a : AS) (r : Nat) (e : Nat → Int) {j : Nat} (hr : r ≤ a.1) (hj : j < a.1 + 1) (hn : j ≠ r) : ∃ i, i < a.1 ∧ (∀ k, (insA a r e).2.1 k j = a.2.1 k i) ∧ i = (if j < r then j else j - 1) := by
  by_cases q : j < r
  · exact ⟨j, by omega, fun k => by simp [insA, q], by simp [q]⟩
  · exact ⟨j - 1, by omega, fun k => by simp [insA, q, hn], by simp [q]⟩
theorem del_i (a : AS) (r : Nat) {j : Nat} (hj : j < a.1 - 1) : ∃ i, i < a.1 ∧ (∀ k, (delA a r).2.1 k j = a.2.1 k i) ∧ i = (if j < r then j else j + 1) := by
  by_cases q : j < r
  · exact ⟨j, by omega, fun k => by simp [delA, q], by simp [q]⟩
  · exact ⟨j + 1, by omega, fun k => by simp [delA, q], by simp [q]⟩
theorem low_ins {r : Nat} {x g s l v : Int} (h : lowA a) (hr : r ≤ a.1) (hx : x < 338) (hg : g = -5 ∨ (0 ≤ g ∧ g < 338)) : lowA (insA a r (entA x g s l v)) := by
  intro i hi
  by_cases z : i = r
  · subst z
    rw [ins_r, ins_r]
    exact ⟨hx, hg⟩
  · obtain ⟨j, h1, h2, -⟩ := ins_i a r (entA x g s l v) hr hi z
    rw [h2, h2]
    exact h j h1
theorem low_del {r : Nat} (h : lowA a) : lowA (delA a r) := by
  intro i hi
  obtain ⟨j, h1, h2, -⟩ := del_i a r hi
  rw [h2, h2]
  exact h j h1
theorem set_r (a : AS) (r : Nat) (e : Nat → Int) (k : Nat) : (setA a r e).2.1 k r = e k := by simp [setA]
theorem set_n (a : AS) (r : Nat) (e : Nat → Int) (k j : Nat) (h : j ≠ r) : (setA a r e).2.1 k j = a.2.1 k j := by simp [setA, h]
theorem low_set {r : Nat} {x g s l v : Int} (h : lowA a) (hx : x < 338) (hg : g = -5 ∨ (0 ≤ g ∧ g < 338)) : lowA (setA a r (entA x g s l v)) := by
  intro i hi
  by_cases z : i = r
  · subst z
    rw [set_r, set_r]
    exact ⟨hx, hg⟩
  · rw [set_n _ _ _ _ _ z, set_n _ _ _ _ _ z]
    exact h i hi
theorem tel_0 (a : AS) (x y : Int) (k j : Nat) (h : k ≠ 1) : (telA a x y).2.1 k j = a.2.1 k j := by simp [telA, h]
theorem tel_1 (a : AS) (x y : Int) (j : Nat) : (telA a x y).2.1 1 j = if a.2.1 1 j = x then y else a.2.1 1 j := by simp [telA]
theorem low_tel {x y : Int} (h : lowA a) (hy : 0 ≤ y ∧ y < 338) : lowA (telA a x y) := by
  intro i hi
  have := h i hi
  rw [tel_0 _ _ _ 0 i (by decide), tel_1]
  refine ⟨this.1, ?_⟩
  split
  · exact Or.inr hy
  · exact this.2
theorem mb1_ins {r : Nat} {x g s l v : Int} (h : mb1 a) (hr : r ≤ a.1) (hg : g = -5 → ∀ j, j < a.1 → a.2.1 2 j = s → ¬ a.2.1 1 j = -5) : mb1 (insA a r (entA x g s l v)) := by
  have hg2 : ∀ j, j < a.1 → a.2.1 2 j = s → ¬ (g = -5 ∧ a.2.1 1 j = -5) := fun j hj e q => hg q.1 j hj e q.2
  intro i j hi hj hne
  by_cases zi : i = r
  · obtain ⟨j', h1, h2, -⟩ := ins_i a r (entA x g s l v) hr hj (by omega)
    rw [zi, ins_r, ins_r, h2, h2]
    intro e
    exact hg2 j' h1 e.symm
  · obtain ⟨i', g1, g2, g3⟩ := ins_i a r (entA x g s l v) hr hi zi
    by_cases zj : j = r
    · rw [zj, ins_r, ins_r, g2, g2]
      intro e q
      exact hg2 i' g1 e ⟨q.2, q.1⟩
    · obtain ⟨j', h1, h2, h3⟩ := ins_i a r (entA x g s l v) hr hj zj
      rw [g2, g2, h2, h2]
      refine h i' j' g1 h1 ?_
      rw [g3, h3]
      split <;> split <;> omega
theorem mb1_del {r : Nat} (h : mb1 a) : mb1 (delA a r) := by
  intro i j hi hj hne
  obtain ⟨i', g1, g2, g3⟩ := del_i a r hi
  obtain ⟨j', h1, h2, h3⟩ := del_i a r hj
  rw [g2, g2, h2, h2]
  refine h i' j' g1 h1 ?_
  rw [g3, h3]
  split <;> split <;> omega
theorem mb1_set {r : Nat} {x g s l v : Int} (h : mb1 a) (hg : g = -5 → ∀ j, j < a.1 → j ≠ r → a.2.1 2 j = s → ¬ a.2.1 1 j = -5) : mb1 (setA a r (entA x g s l v)) := by
  have hg2 : ∀ j, j < a.1 → j ≠ r → a.2.1 2 j = s → ¬ (g = -5 ∧ a.2.1 1 j = -5) := fun j hj n e q => hg q.1 j hj n e q.2
  intro i j hi hj hne
  by_cases zi : i = r
  · rw [zi, set_r, set_r, set_n _ _ _ _ j (by omega), set_n _ _ _ _ j (by omega)]
    intro e
    exact hg2 j hj (by omega) e.symm
  · by_cases zj : j = r
    · rw [zj, set_r, set_r, set_n _ _ _ _ i zi, set_n _ _ _ _ i zi]
      intro e q
      exact hg2 i hi zi e ⟨q.2, q.1⟩
    · rw [set_n _ _ _ _ i zi, set_n _ _ _ _ i zi, set_n _ _ _ _ j zj, set_n _ _ _ _ j zj]
      exact h i j hi hj hne
theorem mb1_tel {x y : Int} (h : mb1 a) (hx : 0 ≤ x) (hy : 0 ≤ y) : mb1 (telA a x y) := by
  have e : ∀ j, (telA a x y).2.1 1 j = -5 → a.2.1 1 j = -5 := by
    intro j
    rw [tel_1]
    split <;> omega
  intro i j hi hj hne
  rw [tel_0 _ _ _ 2 i (by decide), tel_0 _ _ _ 2 j (by decide)]
  intro q1 q2
  exact h i j hi hj hne q1 ⟨e i q2.1, e j q2.2⟩
theorem mk_ins {r : Nat} {x g s l v : Int} (h : mk1 a) (hr : r ≤ a.1) (hv : ∀ j, j < a.1 → a.2.1 2 j = s → a.2.1 4 j = v) : mk1 (insA a r (entA x g s l v)) := by
  intro i j hi hj
  by_cases zi : i = r
  · by_cases zj : j = r
    · rw [zi, zj]; intro _; rfl
    · obtain ⟨j', h1, h2, -⟩ := ins_i a r (entA x g s l v) hr hj zj
      rw [zi, ins_r, ins_r, h2, h2]
      intro e
      exact (hv j' h1 e.symm).symm
  · obtain ⟨i', g1, g2, -⟩ := ins_i a r (entA x g s l v) hr hi zi
    by_cases zj : j = r
    · rw [zj, ins_r, ins_r, g2, g2]
      exact hv i' g1
    · obtain ⟨j', h1, h2, -⟩ := ins_i a r (entA x g s l v) hr hj zj
      rw [g2, g2, h2, h2]
      exact h i' j' g1 h1
theorem mk_del {r : Nat} (h : mk1 a) : mk1 (delA a r) := by
  intro i j hi hj
  obtain ⟨i', g1, g2, -⟩ := del_i a r hi
  obtain ⟨j', h1, h2, -⟩ := del_i a r hj
  rw [g2, g2, h2, h2]
  exact h i' j' g1 h1
theorem mk_set {r : Nat} {x g s l v : Int} (h : mk1 a) (hv : ∀ j, j < a.1 → j ≠ r → a.2.1 2 j = s → a.2.1 4 j = v) : mk1 (setA a r (entA x g s l v)) := by
  intro i j hi hj
  by_cases zi : i = r
  · by_cases zj : j = r
    · rw [zi, zj]; intro _; rfl
    · rw [zi, set_r, set_r, set_n _ _ _ _ j zj, set_n _ _ _ _ j zj]
      intro e
      exact (hv j hj zj e.symm).symm
  · by_cases zj : j = r
    · rw [zj, set_r, set_r, set_n _ _ _ _ i zi, set_n _ _ _ _ i zi]
      exact hv i hi zi
    · rw [set_n _ _ _ _ i zi, set_n _ _ _ _ i zi, set_n _ _ _ _ j zj, set_n _ _ _ _ j zj]
      exact h i j hi hj
theorem mk_tel {x y : Int} (h : mk1 a) : mk1 (telA a x y) := by
  intro i j hi hj
  rw [tel_0 _ _ _ 2 i (by decide), tel_0 _ _ _ 2 j (by decide), tel_0 _ _ _ 4 i (by decide), tel_0 _ _ _ 4 j (by decide)]
  exact h i j hi hj
theorem mb_ins {r : Nat} {x g s l v : Int} (h : mbA a) (hr : r ≤ a.1) (hg : g = -5 → ∀ j, j < a.1 → a.2.1 2 j = s → ¬ a.2.1 1 j = -5) (hv : ∀ j, j < a.1 → a.2.1 2 j = s → a.2.1 4 j = v) : mbA (insA a r (entA x g s l v)) := ⟨mb1_ins h.1 hr hg, mk_ins h.2 hr hv⟩
theorem mb_del {r : Nat} (h : mbA a) : mbA (delA a r) := ⟨mb1_del h.1, mk_del h.2⟩
theorem mb_set {r : Nat} {x g s l v : Int} (h : mbA a) (hg : g = -5 → ∀ j, j < a.1 → j ≠ r → a.2.1 2 j = s → ¬ a.2.1 1 j = -5) (hv : ∀ j, j < a.1 → j ≠ r → a.2.1 2 j = s → a.2.1 4 j = v) : mbA (setA a r (entA x g s l v)) := ⟨mb1_set h.1 hg, mk_set h.2 hv⟩
theorem mb_tel {x y : Int} (h : mbA a) (hx : 0 ≤ x) (hy : 0 ≤ y) : mbA (telA a x y) := ⟨mb1_tel h.1 hx hy, mk_tel h.2⟩
theorem sq_2 (w : wfA a N) (j : Nat) (hj : j < a.1) : (sqA a).2.1 2 j = layW a (lenW a) (a.2.1 2 j).toNat := mid2 100 j (by have := st_rg w j hj; omega)
theorem sq_k (k j : Nat) (h : k ≠ 2) : (sqA a).2.1 k j = a.2.1 k j := midk 100 k j h
theorem sq_inj (w : wfA a N) (i j : Nat) (hi : i < a.1) (hj : j < a.1) (e : (sqA a).2.1 2 i = (sqA a).2.1 2 j) : a.2.1 2 i = a.2.1 2 j := by
  rw [sq_2 w i hi, sq_2 w j hj] at e
  have sep : ∀ i j, i < a.1 → j < a.1 → a.2.1 2 i < a.2.1 2 j → layW a (lenW a) (a.2.1 2 i).toNat + a.2.1 3 i ≤ layW a (lenW a) (a.2.1 2 j).toNat := by
    intro i j hi hj h
    have := st_rg w i hi
    have := st_rg w j hj
    rw [← lay_nx w i hi]
    exact lay_le w (by omega)
  have b1 := (w.2.2.1 i hi).2.2.2.2.1
  have b2 := (w.2.2.1 j hj).2.2.2.2.1
  rcases Int.lt_trichotomy (a.2.1 2 i) (a.2.1 2 j) with z | z | z
  · have := sep i j hi hj z; omega
  · exact z
  · have := sep j i hj hi z; omega
theorem w2_sq (w : wf2 a N) : wf2 (sqA a) (N + 1) := by
  obtain ⟨w1, l, mb⟩ := w
  refine ⟨wf_sq w1, fun i hi => ?_, fun i j hi hj hne e => ?_, fun i j hi hj e => ?_⟩
  · rw [sq_k 0 i (by decide), sq_k 1 i (by decide)]
    exact l i hi
  · rw [sq_k 1 i (by decide), sq_k 1 j (by decide)]
    exact mb.1 i j hi hj hne (sq_inj w1 i j hi hj e)
  · rw [sq_k 4 i (by decide), sq_k 4 j (by decide)]
    exact mb.2 i j hi hj (sq_inj w1 i j hi hj e)
theorem w2_add {x l k : Int} (w : wf2 a N) (hx : 0 ≤ x ∧ x < 338) : wf2 (addF a x l k).2 N := by
  refine ⟨wf_addF w.1, ?_⟩
  obtain ⟨w1, lo, mb⟩ := w
  unfold addF
  by_cases h1 : ¬ (0 ≤ x ∧ x < 676) ∨ ¬ (1 ≤ l ∧ l ≤ 40) ∨ ¬ (0 ≤ k ∧ k ≤ 9999)
  · rw [cIf_t h1]; exact ⟨lo, mb⟩
  rw [cIf_f h1]
  by_cases h2 : hasN a x
  · rw [cIf_t h2]; exact ⟨lo, mb⟩
  rw [cIf_f h2]
  by_cases h3 : ¬ (a.1 : Int) < 4 * a.2.2 0
  · rw [cIf_t h3]; exact ⟨lo, mb⟩
  rw [cIf_f h3]
  by_cases h4 : ¬ a.2.2 1 + l ≤ 100
  · rw [cIf_t h4]; exact ⟨lo, mb⟩
  rw [cIf_f h4]
  have no : ∀ j, j < a.1 → ¬ a.2.1 2 j = a.2.2 1 := fun j hj e => by
    have b := w1.2.2.1 j hj
    omega
  exact ⟨low_ins (a := scA a 1 (a.2.2 1 + l)) lo (blw_le a x) hx.2 (Or.inl rfl), mb_ins (a := scA a 1 (a.2.2 1 + l)) mb (blw_le a x) (fun _ j hj e => absurd e (no j hj)) (fun j hj e => absurd e (no j hj))⟩
theorem w2_rep {x l k : Int} (w : wf2 a N) (hx : 0 ≤ x ∧ x < 338) : wf2 (repF' a x l k).2 N := by
  refine ⟨wf_repF' w.1, ?_⟩
  obtain ⟨w1, lo, mb⟩ := w
  unfold repF'
  by_cases h1 : ¬ memN a x
  · rw [cIf_t h1]; exact ⟨lo, mb⟩
  rw [cIf_f h1]
  by_cases h2 : ¬ (1 ≤ l ∧ l ≤ 40) ∨ ¬ (0 ≤ k ∧ k ≤ 9999)
  · rw [cIf_t h2]; exact ⟨lo, mb⟩
  rw [cIf_f h2]
  by_cases h4 : ¬ a.2.2 1 + l ≤ 100
  · rw [cIf_t h4]; exact ⟨lo, mb⟩
  rw [cIf_f h4]
  have no : ∀ j, j < a.1 → ¬ a.2.1 2 j = a.2.2 1 := fun j hj e => by
    have b := w1.2.2.1 j hj
    omega
  exact ⟨low_set (a := scA a 1 (a.2.2 1 + l)) lo hx.2 (Or.inl rfl), mb_set (a := scA a 1 (a.2.2 1 + l)) mb (fun _ j hj _ e => absurd e (no j hj)) (fun j hj _ e => absurd e (no j hj))⟩
theorem w2_rem {x : Int} (w : wf2 a N) : wf2 (remF a x).2 N := by
  refine ⟨wf_remF w.1, ?_⟩
  obtain ⟨w1, lo, mb⟩ := w
  unfold remF
  by_cases h1 : ¬ hasN a x
  · rw [cIf_t h1]; exact ⟨lo, mb⟩
  rw [cIf_f h1]
  exact ⟨low_del lo, mb_del mb⟩
theorem w2_ren {x y : Int} (w : wf2 a N) (hx : 0 ≤ x ∧ x < 338) (hy : 0 ≤ y ∧ y < 338) : wf2 (renF a x y).2 N := by
  refine ⟨wf_renF w.1, ?_⟩
  obtain ⟨w1, lo, mb⟩ := w
  unfold renF
  by_cases h1 : ¬ hasN a x
  · rw [cIf_t h1]; exact ⟨lo, mb⟩
  rw [cIf_f h1]
  by_cases h2 : ¬ (0 ≤ y ∧ y < 676)
  · rw [cIf_t h2]; exact ⟨lo, mb⟩
  rw [cIf_f h2]
  by_cases h3 : y = x
  · rw [cIf_t h3]; exact ⟨lo, mb⟩
  rw [cIf_f h3]
  by_cases h4 : hasN a y
  · rw [cIf_t h4]; exact ⟨lo, mb⟩
  rw [cIf_f h4]
  have hlt := (w1.at_ (Classical.not_not.mp h1)).1
  have n1 := (renM_n a x y).1
  have lo2 : lowA (renM a x y) := by
    unfold renM
    by_cases hm : a.2.1 1 (blw a x) = -5
    · rw [cIf_t hm]; exact low_tel lo hy
    · rw [cIf_f hm]; exact lo
  have mb2 : mbA (renM a x y) := by
    unfold renM
    by_cases hm : a.2.1 1 (blw a x) = -5
    · rw [cIf_t hm]; exact mb_tel mb hx.1 hy.1
    · rw [cIf_f hm]; exact mb
  have hb : blw a x < (renM a x y).1 := by rw [n1]; exact hlt
  refine ⟨low_ins (low_del lo2) (blw_le _ _) hy.2 (lo2 _ hb).2, mb_ins (mb_del mb2) (blw_le _ _) (fun hg j hj e => ?_) (fun j hj e => ?_)⟩
  · obtain ⟨i, g1, g2, g3⟩ := del_i (renM a x y) (blw a x) hj
    rw [g2] at e ⊢
    rw [← renM_c a x y 2 (blw a x) (by decide)] at e
    have hne : i ≠ blw a x := by
      rw [g3]
      split <;> omega
    exact fun q => mb2.1 i (blw a x) g1 hb hne e ⟨q, hg⟩
  · obtain ⟨i, g1, g2, g3⟩ := del_i (renM a x y) (blw a x) hj
    rw [g2] at e ⊢
    rw [← renM_c a x y 2 (blw a x) (by decide)] at e
    rw [← renM_c a x y 4 (blw a x) (by decide)]
    exact mb2.2 i (blw a x) g1 hb e
theorem w2_ali {x g : Int} (w : wf2 a N) (hx : 0 ≤ x ∧ x < 338) (hg : 0 ≤ g ∧ g < 338) : wf2 (aliF a x g).2 N := by
  refine ⟨wf_aliF w.1, ?_⟩
  obtain ⟨w1, lo, mb⟩ := w
  unfold aliF
  by_cases h1 : ¬ memN a g
  · rw [cIf_t h1]; exact ⟨lo, mb⟩
  rw [cIf_f h1]
  have hlg := (w1.at_ (Classical.not_not.mp h1).1).1
  by_cases h2 : ¬ (0 ≤ x ∧ x < 676)
  · rw [cIf_t h2]; exact ⟨lo, mb⟩
  rw [cIf_f h2]
  by_cases h3 : memN a x
  · rw [cIf_t h3]; exact ⟨lo, mb⟩
  rw [cIf_f h3]
  by_cases h4 : hasN a x
  · rw [cIf_t h4]
    by_cases h5 : a.2.1 2 (blw a x) = a.2.1 2 (blw a g) ∧ a.2.1 1 (blw a x) = g
    · rw [cIf_t h5]; exact ⟨lo, mb⟩
    rw [cIf_f h5]
    exact ⟨low_set lo hx.2 (Or.inr hg), mb_set mb (fun q => by omega) (fun j hj _ e => mb.2 j _ hj hlg e)⟩
  rw [cIf_f h4]
  by_cases h5 : ¬ (a.1 : Int) < 4 * a.2.2 0
  · rw [cIf_t h5]; exact ⟨lo, mb⟩
  rw [cIf_f h5]
  exact ⟨low_ins lo (blw_le _ _) hx.2 (Or.inr hg), mb_ins mb (blw_le _ _) (fun q => by omega) (fun j hj e => mb.2 j _ hj hlg e)⟩
theorem w2_sqz (w : wf2 a N) : wf2 (sqzF a).2 (N + 1) := by
  unfold sqzF
  by_cases h : a.2.2 1 - layW a (lenW a) 100 = 0
  · rw [cIf_t h]; exact w.mono (by omega)
  · rw [cIf_f h]; exact w2_sq w
theorem w2_anw {l : Int} (w : wf2 a N) : wf2 (anwF a l).2 (N + 1) := by
  unfold anwF
  by_cases h1 : ¬ (1 ≤ l ∧ l ≤ 6)
  · rw [cIf_t h1]; exact w.mono (by omega)
  rw [cIf_f h1]
  by_cases h2 : ¬ (a.1 : Int) ≤ 4 * l
  · rw [cIf_t h2]; exact w.mono (by omega)
  rw [cIf_f h2]
  by_cases h3 : l = a.2.2 0
  · rw [cIf_t h3]; exact w.mono (by omega)
  rw [cIf_f h3]
  exact w2_sq (a := scA a 0 l) ⟨wf_blk w.1 (by omega) (by omega), w.2.1, w.2.2⟩
end KP
