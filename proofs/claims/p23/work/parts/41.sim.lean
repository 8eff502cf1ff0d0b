/-! THE SECOND SHELF: names and givers 338 farther, marks as 9999 less them -/
def sh5 (k : Nat) (v : Int) : Int := if k = 0 then v + 338 else if k = 1 then (if v = -5 then -5 else v + 338) else if k = 2 then v else if k = 3 then v else 9999 - v
def shA (a : AS) : AS := (a.1, fun k j => sh5 k (a.2.1 k j), a.2.2)
def shE (e : Nat → Int) : Nat → Int := fun k => sh5 k (e k)
theorem sh5_0 (v : Int) : sh5 0 v = v + 338 := rfl
theorem sh5_1 (v : Int) : sh5 1 v = if v = -5 then -5 else v + 338 := rfl
theorem sh5_2 (v : Int) : sh5 2 v = v := rfl
theorem sh5_3 (v : Int) : sh5 3 v = v := rfl
theorem sh5_4 (v : Int) : sh5 4 v = 9999 - v := rfl
def lowA (a : AS) : Prop := ∀ i, i < a.1 → a.2.1 0 i < 338 ∧ (a.2.1 1 i = -5 ∨ (0 ≤ a.2.1 1 i ∧ a.2.1 1 i < 338))
/-- no two members have one text; one text has one mark -/
def mb1 (a : AS) : Prop := ∀ i j, i < a.1 → j < a.1 → i ≠ j → a.2.1 2 i = a.2.1 2 j → ¬ (a.2.1 1 i = -5 ∧ a.2.1 1 j = -5)
def mk1 (a : AS) : Prop := ∀ i j, i < a.1 → j < a.1 → a.2.1 2 i = a.2.1 2 j → a.2.1 4 i = a.2.1 4 j
def mbA (a : AS) : Prop := mb1 a ∧ mk1 a
def wf2 (a : AS) (N : Int) : Prop := wfA a N ∧ lowA a ∧ mbA a
theorem wf2.mono {a : AS} {N N' : Int} (w : wf2 a N) (h : N ≤ N') : wf2 a N' := ⟨w.1.mono h, w.2.1, w.2.2⟩
theorem wf_sh {a : AS} {N : Int} (w : wfA a N) (l : lowA a) : wfA (shA a) N := by
  obtain ⟨h0, r1, r2, r3, r4⟩ := w
  refine ⟨h0, fun i j hij hj => ?_, fun i hi => ?_, fun i j hi hj => ?_, fun i j hi hj => ?_⟩
  · have := r1 i j hij hj
    show a.2.1 0 i + 338 < a.2.1 0 j + 338
    omega
  · obtain ⟨g1, g2, g3, g4, g5, g6, g7, g8, g9⟩ := r2 i hi
    have hl := l i hi
    refine ⟨?_, ?_, ?_, g4, g5, g6, g7, ?_, ?_⟩
    · show 0 ≤ a.2.1 0 i + 338
      omega
    · show a.2.1 0 i + 338 < 676
      omega
    · show (if a.2.1 1 i = -5 then (-5 : Int) else a.2.1 1 i + 338) = -5 ∨ (0 ≤ (if a.2.1 1 i = -5 then (-5 : Int) else a.2.1 1 i + 338) ∧ (if a.2.1 1 i = -5 then (-5 : Int) else a.2.1 1 i + 338) < 676)
      by_cases z : a.2.1 1 i = -5
      · rw [if_pos z]; exact Or.inl rfl
      · rw [if_neg z]; omega
    · show 0 ≤ 9999 - a.2.1 4 i
      omega
    · show 9999 - a.2.1 4 i ≤ 9999
      omega
  · exact r3 i j hi hj
  · exact r4 i j hi hj
theorem cntB_sh (f : Nat → Int) (x : Int) (n : Nat) : cntB (fun j => f j + 338) (x + 338) n = cntB f x n := by
  induction n with
  | zero => rfl
  | succ n ih =>
    simp only [cntB]
    rw [ih]
    by_cases z : f n < x
    · rw [if_pos z, if_pos (by omega)]
    · rw [if_neg z, if_neg (by omega)]
theorem blw_sh (a : AS) (x : Int) : blw (shA a) (x + 338) = blw a x := cntB_sh (a.2.1 0) x a.1
theorem has_sh (a : AS) (x : Int) : hasN (shA a) (x + 338) ↔ hasN a x := by
  constructor
  · rintro ⟨j, hj, e⟩
    have e : a.2.1 0 j + 338 = x + 338 := e
    exact ⟨j, hj, by omega⟩
  · rintro ⟨j, hj, e⟩
    exact ⟨j, hj, by show a.2.1 0 j + 338 = x + 338; omega⟩
theorem giv_sh {v : Int} (h : v = -5 ∨ 0 ≤ v) : sh5 1 v = -5 ↔ v = -5 := by
  rw [sh5_1]
  by_cases z : v = -5
  · rw [if_pos z]; exact ⟨fun _ => z, fun _ => rfl⟩
  · rw [if_neg z]; omega
section SM
variable {a : AS} {N : Int}
theorem lowA.g (l : lowA a) {i : Nat} (hi : i < a.1) : a.2.1 1 i = -5 ∨ 0 ≤ a.2.1 1 i := (l i hi).2.imp id (fun q => q.1)
theorem mem_sh (w : wfA a N) (l : lowA a) (x : Int) : memN (shA a) (x + 338) ↔ memN a x := by
  unfold memN
  rw [has_sh, blw_sh]
  constructor
  · rintro ⟨h, e⟩
    exact ⟨h, (giv_sh (l.g (w.at_ h).1)).mp e⟩
  · rintro ⟨h, e⟩
    exact ⟨h, (giv_sh (l.g (w.at_ h).1)).mpr e⟩
theorem as_ext {b c : AS} (h1 : b.1 = c.1) (h2 : ∀ k j, b.2.1 k j = c.2.1 k j) (h3 : ∀ k, b.2.2 k = c.2.2 k) : b = c := by
  obtain ⟨b1, b2, b3⟩ := b
  obtain ⟨c1, c2, c3⟩ := c
  have e1 : b1 = c1 := h1
  have e2 : b2 = c2 := funext fun k => funext fun j => h2 k j
  have e3 : b3 = c3 := funext fun k => h3 k
  rw [e1, e2, e3]
theorem ins_sh (a : AS) (r : Nat) (e : Nat → Int) : insA (shA a) r (shE e) = shA (insA a r e) := by
  refine as_ext rfl (fun k j => ?_) (fun _ => rfl)
  show (if j < r then sh5 k (a.2.1 k j) else if j = r then sh5 k (e k) else sh5 k (a.2.1 k (j - 1))) = sh5 k (if j < r then a.2.1 k j else if j = r then e k else a.2.1 k (j - 1))
  by_cases z : j < r
  · rw [if_pos z, if_pos z]
  · rw [if_neg z, if_neg z]
    by_cases z2 : j = r
    · rw [if_pos z2, if_pos z2]
    · rw [if_neg z2, if_neg z2]
theorem set_sh (a : AS) (r : Nat) (e : Nat → Int) : setA (shA a) r (shE e) = shA (setA a r e) := by
  refine as_ext rfl (fun k j => ?_) (fun _ => rfl)
  show (if j = r then sh5 k (e k) else sh5 k (a.2.1 k j)) = sh5 k (if j = r then e k else a.2.1 k j)
  by_cases z2 : j = r
  · rw [if_pos z2, if_pos z2]
  · rw [if_neg z2, if_neg z2]
theorem del_sh (a : AS) (r : Nat) : delA (shA a) r = shA (delA a r) := by
  refine as_ext rfl (fun k j => ?_) (fun _ => rfl)
  show (if j < r then sh5 k (a.2.1 k j) else sh5 k (a.2.1 k (j + 1))) = sh5 k (if j < r then a.2.1 k j else a.2.1 k (j + 1))
  by_cases z2 : j < r
  · rw [if_pos z2, if_pos z2]
  · rw [if_neg z2, if_neg z2]
theorem sc_sh (a : AS) (i : Nat) (v : Int) : scA (shA a) i v = shA (scA a i v) := rfl
theorem tel_sh (a : AS) {x y : Int} (hx : 0 ≤ x) (hy : 0 ≤ y) : telA (shA a) (x + 338) (y + 338) = shA (telA a x y) := by
  refine as_ext rfl (fun k j => ?_) (fun _ => rfl)
  show (if k = 1 ∧ sh5 1 (a.2.1 1 j) = x + 338 then y + 338 else sh5 k (a.2.1 k j)) = sh5 k (if k = 1 ∧ a.2.1 1 j = x then y else a.2.1 k j)
  by_cases zk : k = 1
  · subst zk
    by_cases z : a.2.1 1 j = x
    · rw [if_pos ⟨rfl, by rw [sh5_1, if_neg (by omega), z]⟩, if_pos ⟨rfl, z⟩, sh5_1, if_neg (by omega)]
    · have hn : ¬ sh5 1 (a.2.1 1 j) = x + 338 := by
        rw [sh5_1]
        split <;> omega
      rw [if_neg (fun q => hn q.2), if_neg (fun q => z q.2)]
  · rw [if_neg (fun q => zk q.1), if_neg (fun q => zk q.1)]
theorem ent_sh (x g s l v : Int) : entA (x + 338) (sh5 1 g) s l (9999 - v) = shE (entA x g s l v) := by
  funext k
  unfold shE entA
  by_cases z0 : k = 0
  · subst z0; rfl
  rw [if_neg z0, if_neg z0]
  by_cases z1 : k = 1
  · subst z1; rfl
  rw [if_neg z1, if_neg z1]
  by_cases z2 : k = 2
  · subst z2; rfl
  rw [if_neg z2, if_neg z2]
  by_cases z3 : k = 3
  · subst z3; rfl
  rw [if_neg z3, if_neg z3]
  unfold sh5
  rw [if_neg z0, if_neg z1, if_neg z2, if_neg z3]
theorem ent_sh5 (x s l v : Int) : entA (x + 338) (-5) s l (9999 - v) = shE (entA x (-5) s l v) := by
  have h := ent_sh x (-5) s l v
  rw [sh5_1, if_pos rfl] at h
  exact h
def shR (R : Int × AS) : Int × AS := (R.1, shA R.2)
theorem add_sh {x l k : Int} (hx : 0 ≤ x ∧ x < 338) (hk : 0 ≤ k ∧ k ≤ 9999) : addF (shA a) (x + 338) l (9999 - k) = shR (addF a x l k) := by
  unfold addF
  by_cases h1 : 1 ≤ l ∧ l ≤ 40
  · rw [cIf_f (show ¬ (¬ (0 ≤ x ∧ x < 676) ∨ ¬ (1 ≤ l ∧ l ≤ 40) ∨ ¬ (0 ≤ k ∧ k ≤ 9999)) by omega), cIf_f (show ¬ (¬ (0 ≤ x + 338 ∧ x + 338 < 676) ∨ ¬ (1 ≤ l ∧ l ≤ 40) ∨ ¬ (0 ≤ 9999 - k ∧ 9999 - k ≤ 9999)) by omega)]
    by_cases h2 : hasN a x
    · rw [cIf_t h2, cIf_t ((has_sh a x).mpr h2)]; rfl
    · rw [cIf_f h2, cIf_f (fun q => h2 ((has_sh a x).mp q))]
      by_cases h3 : ¬ (a.1 : Int) < 4 * a.2.2 0
      · rw [cIf_t h3, cIf_t (c := ¬ ((shA a).1 : Int) < 4 * (shA a).2.2 0) h3]; rfl
      · rw [cIf_f h3, cIf_f (c := ¬ ((shA a).1 : Int) < 4 * (shA a).2.2 0) h3]
        by_cases h4 : ¬ a.2.2 1 + l ≤ 100
        · rw [cIf_t h4, cIf_t (c := ¬ (shA a).2.2 1 + l ≤ 100) h4]; rfl
        · rw [cIf_f h4, cIf_f (c := ¬ (shA a).2.2 1 + l ≤ 100) h4, blw_sh, ent_sh5, sc_sh, ins_sh]; rfl
  · rw [cIf_t (Or.inr (Or.inl h1)), cIf_t (Or.inr (Or.inl h1))]; rfl
theorem rep_sh {x l k : Int} (w : wfA a N) (lo : lowA a) (hx : 0 ≤ x ∧ x < 338) (hk : 0 ≤ k ∧ k ≤ 9999) : repF' (shA a) (x + 338) l (9999 - k) = shR (repF' a x l k) := by
  unfold repF'
  by_cases h1 : memN a x
  · rw [cIf_f (Classical.not_not.mpr h1), cIf_f (Classical.not_not.mpr ((mem_sh w lo x).mpr h1))]
    by_cases h2 : 1 ≤ l ∧ l ≤ 40
    · rw [cIf_f (show ¬ (¬ (1 ≤ l ∧ l ≤ 40) ∨ ¬ (0 ≤ k ∧ k ≤ 9999)) by omega), cIf_f (show ¬ (¬ (1 ≤ l ∧ l ≤ 40) ∨ ¬ (0 ≤ 9999 - k ∧ 9999 - k ≤ 9999)) by omega)]
      by_cases h4 : ¬ a.2.2 1 + l ≤ 100
      · rw [cIf_t h4, cIf_t (c := ¬ (shA a).2.2 1 + l ≤ 100) h4]; rfl
      · rw [cIf_f h4, cIf_f (c := ¬ (shA a).2.2 1 + l ≤ 100) h4, blw_sh, ent_sh5, sc_sh, set_sh]; rfl
    · rw [cIf_t (Or.inl h2), cIf_t (Or.inl h2)]; rfl
  · rw [cIf_t h1, cIf_t (fun q => h1 ((mem_sh w lo x).mp q))]; rfl
theorem rem_sh {x : Int} : remF (shA a) (x + 338) = shR (remF a x) := by
  unfold remF
  by_cases h : hasN a x
  · rw [cIf_f (Classical.not_not.mpr h), cIf_f (Classical.not_not.mpr ((has_sh a x).mpr h)), blw_sh, del_sh]; rfl
  · rw [cIf_t h, cIf_t (fun q => h ((has_sh a x).mp q))]; rfl
theorem renM_sh {x y : Int} (w : wfA a N) (lo : lowA a) (hh : hasN a x) (hx : 0 ≤ x) (hy : 0 ≤ y) : renM (shA a) (x + 338) (y + 338) = shA (renM a x y) := by
  unfold renM
  rw [blw_sh]
  have hg := giv_sh (lo.g (w.at_ hh).1)
  by_cases z : a.2.1 1 (blw a x) = -5
  · rw [cIf_t z, cIf_t (c := (shA a).2.1 1 (blw a x) = -5) (hg.mpr z), tel_sh a hx hy]
  · rw [cIf_f z, cIf_f (c := (shA a).2.1 1 (blw a x) = -5) (fun q => z (hg.mp q))]
theorem ren_sh {x y : Int} (w : wfA a N) (lo : lowA a) (hx : 0 ≤ x ∧ x < 338) (hy : 0 ≤ y ∧ y < 338) : renF (shA a) (x + 338) (y + 338) = shR (renF a x y) := by
  unfold renF
  by_cases h : hasN a x
  · rw [cIf_f (Classical.not_not.mpr h), cIf_f (Classical.not_not.mpr ((has_sh a x).mpr h)), cIf_f (show ¬ ¬ (0 ≤ y ∧ y < 676) by omega), cIf_f (show ¬ ¬ (0 ≤ y + 338 ∧ y + 338 < 676) by omega)]
    by_cases h3 : y = x
    · rw [cIf_t h3, cIf_t (show y + 338 = x + 338 by omega)]; rfl
    · rw [cIf_f h3, cIf_f (show ¬ y + 338 = x + 338 by omega)]
      by_cases h4 : hasN a y
      · rw [cIf_t h4, cIf_t ((has_sh a y).mpr h4)]; rfl
      · rw [cIf_f h4, cIf_f (fun q => h4 ((has_sh a y).mp q)), renM_sh w lo h hx.1 hy.1, blw_sh, del_sh, blw_sh]
        show (_, insA (shA (delA (renM a x y) (blw a x))) _ (entA (y + 338) (sh5 1 ((renM a x y).2.1 1 (blw a x))) (a.2.1 2 (blw a x)) (a.2.1 3 (blw a x)) (9999 - a.2.1 4 (blw a x)))) = _
        rw [ent_sh, ins_sh]; rfl
  · rw [cIf_t h, cIf_t (fun q => h ((has_sh a x).mp q))]; rfl
theorem ali_sh {x g : Int} (w : wfA a N) (lo : lowA a) (hx : 0 ≤ x ∧ x < 338) (hg : 0 ≤ g ∧ g < 338) : aliF (shA a) (x + 338) (g + 338) = shR (aliF a x g) := by
  have eg : g + 338 = sh5 1 g := by rw [sh5_1, if_neg (by omega)]
  unfold aliF
  by_cases h1 : memN a g
  · rw [cIf_f (Classical.not_not.mpr h1), cIf_f (Classical.not_not.mpr ((mem_sh w lo g).mpr h1)), cIf_f (show ¬ ¬ (0 ≤ x ∧ x < 676) by omega), cIf_f (show ¬ ¬ (0 ≤ x + 338 ∧ x + 338 < 676) by omega)]
    by_cases h2 : memN a x
    · rw [cIf_t h2, cIf_t ((mem_sh w lo x).mpr h2)]; rfl
    · rw [cIf_f h2, cIf_f (fun q => h2 ((mem_sh w lo x).mp q))]
      by_cases h3 : hasN a x
      · rw [cIf_t h3, cIf_t ((has_sh a x).mpr h3), blw_sh, blw_sh]
        have hgv : (shA a).2.1 1 (blw a x) = g + 338 ↔ a.2.1 1 (blw a x) = g := by
          show sh5 1 (a.2.1 1 (blw a x)) = g + 338 ↔ _
          have := lo.g (w.at_ h3).1
          rw [sh5_1]
          split <;> omega
        by_cases h4 : a.2.1 2 (blw a x) = a.2.1 2 (blw a g) ∧ a.2.1 1 (blw a x) = g
        · rw [cIf_t h4, cIf_t (c := (shA a).2.1 2 (blw a x) = (shA a).2.1 2 (blw a g) ∧ (shA a).2.1 1 (blw a x) = g + 338) ⟨h4.1, hgv.mpr h4.2⟩]; rfl
        · rw [cIf_f h4, cIf_f (c := (shA a).2.1 2 (blw a x) = (shA a).2.1 2 (blw a g) ∧ (shA a).2.1 1 (blw a x) = g + 338) (fun q => h4 ⟨q.1, hgv.mp q.2⟩)]
          show (_, setA (shA a) (blw a x) (entA (x + 338) (g + 338) (a.2.1 2 (blw a g)) (a.2.1 3 (blw a g)) (9999 - a.2.1 4 (blw a g)))) = _
          rw [eg, ent_sh, set_sh]; rfl
      · rw [cIf_f h3, cIf_f (fun q => h3 ((has_sh a x).mp q)), blw_sh, blw_sh]
        by_cases h4 : ¬ (a.1 : Int) < 4 * a.2.2 0
        · rw [cIf_t h4, cIf_t (c := ¬ ((shA a).1 : Int) < 4 * (shA a).2.2 0) h4]; rfl
        · rw [cIf_f h4, cIf_f (c := ¬ ((shA a).1 : Int) < 4 * (shA a).2.2 0) h4]
          show (_, insA (shA a) (blw a x) (entA (x + 338) (g + 338) (a.2.1 2 (blw a g)) (a.2.1 3 (blw a g)) (9999 - a.2.1 4 (blw a g)))) = _
          rw [eg, ent_sh, ins_sh]; rfl
  · rw [cIf_t h1, cIf_t (fun q => h1 ((mem_sh w lo g).mp q))]; rfl
theorem lay_sh (a : AS) (n : Nat) : layW (shA a) (lenW (shA a)) n = layW a (lenW a) n := rfl
theorem livU_sh (a : AS) : livU (shA a) = livU a := rfl
theorem livT_sh (a : AS) : livT (shA a) = livT a := rfl
theorem mid_sh (a : AS) (b : Int) : midA (shA a) b = shA (midA a b) := by
  refine as_ext rfl (fun k j => ?_) (fun _ => rfl)
  show cIf (k = 2 ∧ a.2.1 2 j < b) (layW a (lenW a) (a.2.1 2 j).toNat) (sh5 k (a.2.1 k j)) = sh5 k (cIf (k = 2 ∧ a.2.1 2 j < b) (layW a (lenW a) (a.2.1 2 j).toNat) (a.2.1 k j))
  by_cases z : k = 2 ∧ a.2.1 2 j < b
  · rw [cIf_t z, cIf_t z, z.1, sh5_2]
  · rw [cIf_f z, cIf_f z]
theorem sq_sh (a : AS) : sqA (shA a) = shA (sqA a) := by
  refine as_ext rfl (fun k j => ?_) (fun _ => rfl)
  show (midA (shA a) 100).2.1 k j = (shA (midA a 100)).2.1 k j
  rw [mid_sh]
theorem sqz_sh (a : AS) : sqzF (shA a) = shR (sqzF a) := by
  unfold sqzF
  by_cases z : a.2.2 1 - layW a (lenW a) 100 = 0
  · rw [cIf_t z, cIf_t (c := (shA a).2.2 1 - layW (shA a) (lenW (shA a)) 100 = 0) z]; rfl
  · rw [cIf_f z, cIf_f (c := (shA a).2.2 1 - layW (shA a) (lenW (shA a)) 100 = 0) z, sq_sh]; rfl
theorem anw_sh (a : AS) (l : Int) : anwF (shA a) l = shR (anwF a l) := by
  unfold anwF
  by_cases h1 : ¬ (1 ≤ l ∧ l ≤ 6)
  · rw [cIf_t h1, cIf_t h1]; rfl
  rw [cIf_f h1, cIf_f h1]
  by_cases h2 : ¬ (a.1 : Int) ≤ 4 * l
  · rw [cIf_t h2, cIf_t (c := ¬ ((shA a).1 : Int) ≤ 4 * l) h2]; rfl
  rw [cIf_f h2, cIf_f (c := ¬ ((shA a).1 : Int) ≤ 4 * l) h2]
  by_cases h3 : l = a.2.2 0
  · rw [cIf_t h3, cIf_t (c := l = (shA a).2.2 0) h3]; rfl
  rw [cIf_f h3, cIf_f (c := l = (shA a).2.2 0) h3, sc_sh, sq_sh]; rfl
end SM
