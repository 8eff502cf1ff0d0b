section ST2
variable {m : Mem2} {a : AS} {hn : Nat} {H : Nat → AS} {N : Int}
theorem ren_v {x y : Int} (hy : 0 ≤ y ∧ y < 676) :
    (¬ hasN a x ∧ renF a x y = (-1, a)) ∨ (hasN a x ∧ y = x ∧ renF a x y = (-5, a)) ∨ (hasN a x ∧ ¬ y = x ∧ hasN a y ∧ renF a x y = (-7, a)) ∨ (hasN a x ∧ ¬ y = x ∧ ¬ hasN a y ∧ renF a x y = ((blw (delA (renM a x y) (blw a x)) y : Int), insA (delA (renM a x y) (blw a x)) (blw (delA (renM a x y) (blw a x)) y) (entA y ((renM a x y).2.1 1 (blw a x)) (a.2.1 2 (blw a x)) (a.2.1 3 (blw a x)) (a.2.1 4 (blw a x))))) := by
  unfold renF
  by_cases h1 : ¬ hasN a x
  · exact Or.inl ⟨h1, cIf_t h1⟩
  refine Or.inr ?_
  rw [cIf_f h1, cIf_f (Classical.not_not.mpr hy)]
  have h1 := Classical.not_not.mp h1
  by_cases h2 : y = x
  · exact Or.inl ⟨h1, h2, cIf_t h2⟩
  refine Or.inr ?_
  rw [cIf_f h2]
  by_cases h3 : hasN a y
  · exact Or.inl ⟨h1, h2, h3, cIf_t h3⟩
  · exact Or.inr ⟨h1, h2, h3, cIf_f h3⟩
theorem e0_has (x : Int) : entV a x 0 < 0 ↔ ¬ hasN a x := by
  constructor
  · intro q h
    rw [ent_y x 0 h, er0] at q
    omega
  · intro h
    rw [ent_n x 0 h]
    decide
theorem st_ren {l5 l6 : Int} (T : Two m a hn H N) (h5 : 0 ≤ l5 ∧ l5 < 338) (h6 : 0 ≤ l6 ∧ l6 < 338) : GD (f_L_isStep_L602 l5 l6 (a.1 : Int) (entV a l5 2) m) N := by
  have t4 := T.2.2.2.1
  have w := t4.1
  have h24 := w.n24
  have wR := w2_ren (x := l5) (y := l6) t4 h5 h6
  have aO := a_ren (x := l5) (y := l6) T.1 w
  have aP := a_ren (x := l5 + 338) (y := l6 + 338) T.2.1 T.wp
  rw [ren_sh w t4.2.1 h5 h6] at aP
  have hlo := sum1 (lst01 a) a.1
  obtain ⟨m1, m2, e1, e2, hneg, hpos⟩ := two_act (F := f_X3_rename l5 l6) (G := f_X3_rename (l5 + 338) (l6 + 338)) T aO aP wR (Int.le_refl N)
  have key : ∀ s0 : Int, (hasN a l6 → ¬ s0 = 0) → (¬ hasN a l6 → s0 = 0) → GD (f_L_isStep_L617 l5 l6 (a.1 : Int) (entV a l5 2) s0 m) N := by
    intro s0 hs1 hs2
    unfold f_L_isStep_L617
    rw [bd_ (o_ent T _ _)]
    dsimp only
    rw [bd_ (o_cnt T 3 (by decide) (by decide)), cv3]
    dsimp only
    rw [bd_ e1]
    dsimp only
    rw [bd_ (th_n l5 h5)]
    dsimp only
    rw [bd_ (th_n l6 h6)]
    dsimp only
    rw [bd_ e2]
    dsimp only
    rw [if_pos rfl]
    rcases ren_v (a := a) (x := l5) (y := l6) (by omega) with ⟨h1, e⟩ | ⟨h1, h2, e⟩ | ⟨h1, h2, h3, e⟩ | ⟨h1, h2, h3, e⟩
    · rw [e] at hneg ⊢
      have T2 := hneg (show (-1 : Int) < 0 by decide)
      rw [if_neg (fun q => h1 (k_has.mp q)), if_pos rfl]
      exact GD.mk_ rfl T2
    · rw [e] at hneg ⊢
      have T2 := hneg (show (-5 : Int) < 0 by decide)
      rw [if_pos (k_has.mpr h1), if_pos h2.symm, if_pos rfl]
      exact GD.mk_ rfl T2
    · rw [e] at hneg ⊢
      have T2 := hneg (show (-7 : Int) < 0 by decide)
      rw [if_pos (k_has.mpr h1), if_neg (fun q => h2 q.symm), if_neg (hs1 h3), if_pos rfl]
      exact GD.mk_ rfl T2
    · rw [e] at hpos wR ⊢
      have T2 := hpos (Int.natCast_nonneg _)
      have hlt := (w.at_ h1).1
      have n1 := (renM_n a l5 l6).1
      have hr := blw_le (delA (renM a l5 l6) (blw a l5)) l6
      have hcnt : (delA (renM a l5 l6) (blw a l5)).1 = a.1 - 1 := by show (renM a l5 l6).1 - 1 = _; rw [n1]
      have hi : blw (delA (renM a l5 l6) (blw a l5)) l6 < (delA (renM a l5 l6) (blw a l5)).1 + 1 := by omega
      have n0 : (insA (delA (renM a l5 l6) (blw a l5)) (blw (delA (renM a l5 l6) (blw a l5)) l6) (entA l6 ((renM a l5 l6).2.1 1 (blw a l5)) (a.2.1 2 (blw a l5)) (a.2.1 3 (blw a l5)) (a.2.1 4 (blw a l5)))).2.1 0 (blw (delA (renM a l5 l6) (blw a l5)) l6) = l6 := ins_r _ _ _ 0
      have ls := sum1 (lst01 (insA (delA (renM a l5 l6) (blw a l5)) (blw (delA (renM a l5 l6) (blw a l5)) l6) (entA l6 ((renM a l5 l6).2.1 1 (blw a l5)) (a.2.1 2 (blw a l5)) (a.2.1 3 (blw a l5)) (a.2.1 4 (blw a l5))))) ((delA (renM a l5 l6) (blw a l5)).1 + 1)
      rw [if_pos (k_has.mpr h1), if_neg (fun q => h2 q.symm), if_pos (hs2 h3), bd_ (o_ent T2 _ _), ent_at wR.1 hi n0, er0]
      dsimp only
      rw [if_pos rfl, bd_ (o_ent T2 _ _), ent_at wR.1 hi n0, er3, ins_r]
      dsimp only
      rw [if_pos (show entA l6 ((renM a l5 l6).2.1 1 (blw a l5)) (a.2.1 2 (blw a l5)) (a.2.1 3 (blw a l5)) (a.2.1 4 (blw a l5)) 2 = entV a l5 3 by rw [ent_y _ _ h1, er3]; rfl), bd_ (o_cnt T2 3 (by decide) (by decide)), cv3]
      dsimp only
      unfold losV
      rw [mmK_p (by constructor <;> omega), if_neg (by
        show ¬ sumN (lstV a) a.1 + (a.1 : Int) < sumN _ ((delA (renM a l5 l6) (blw a l5)).1 + 1)
        omega)]
      exact GD.mk_ rfl T2
  unfold f_L_isStep_L602
  rw [bd_ (o_ent T _ _)]
  dsimp only
  by_cases hh : hasN a l6
  · rw [if_neg (fun q => (e0_has l6).mp q hh)]
    exact key 1 (fun _ => by decide) (fun q => absurd hh q)
  · rw [if_pos ((e0_has l6).mpr hh)]
    exact key 0 (fun q => absurd q hh) (fun _ => rfl)
theorem ali_v {x g : Int} (hx : 0 ≤ x ∧ x < 676) :
    (¬ memN a g ∧ aliF a x g = (-1, a)) ∨ (memN a g ∧ memN a x ∧ aliF a x g = (-7, a)) ∨ (memN a g ∧ ¬ memN a x ∧ hasN a x ∧ a.2.1 2 (blw a x) = a.2.1 2 (blw a g) ∧ a.2.1 1 (blw a x) = g ∧ aliF a x g = (-5, a)) ∨
    (memN a g ∧ ¬ memN a x ∧ hasN a x ∧ aliF a x g = (a.2.1 2 (blw a g), setA a (blw a x) (entA x g (a.2.1 2 (blw a g)) (a.2.1 3 (blw a g)) (a.2.1 4 (blw a g))))) ∨
    (memN a g ∧ ¬ memN a x ∧ ¬ hasN a x ∧ ¬ (a.1 : Int) < 4 * a.2.2 0 ∧ aliF a x g = (-6, a)) ∨
    (memN a g ∧ ¬ memN a x ∧ ¬ hasN a x ∧ aliF a x g = (a.2.1 2 (blw a g), insA a (blw a x) (entA x g (a.2.1 2 (blw a g)) (a.2.1 3 (blw a g)) (a.2.1 4 (blw a g))))) := by
  unfold aliF
  by_cases h1 : ¬ memN a g
  · exact Or.inl ⟨h1, cIf_t h1⟩
  refine Or.inr ?_
  rw [cIf_f h1, cIf_f (Classical.not_not.mpr hx)]
  have h1 := Classical.not_not.mp h1
  by_cases h2 : memN a x
  · exact Or.inl ⟨h1, h2, cIf_t h2⟩
  refine Or.inr ?_
  rw [cIf_f h2]
  by_cases h3 : hasN a x
  · rw [cIf_t h3]
    by_cases h4 : a.2.1 2 (blw a x) = a.2.1 2 (blw a g) ∧ a.2.1 1 (blw a x) = g
    · exact Or.inl ⟨h1, h2, h3, h4.1, h4.2, cIf_t h4⟩
    · exact Or.inr (Or.inl ⟨h1, h2, h3, cIf_f h4⟩)
  · rw [cIf_f h3]
    refine Or.inr (Or.inr ?_)
    by_cases h4 : ¬ (a.1 : Int) < 4 * a.2.2 0
    · exact Or.inl ⟨h1, h2, h3, h4, cIf_t h4⟩
    · exact Or.inr ⟨h1, h2, h3, cIf_f h4⟩
/-- an alias that points to its member's text -/
theorem ali_4 {b : AS} (w : wfA b N) {x g s : Int} {i j : Nat} (hi : i < b.1) (hj : j < b.1) (e0 : b.2.1 0 i = x) (e1 : b.2.1 1 i = g) (e2 : b.2.1 2 i = s) (f0 : b.2.1 0 j = g) (f1 : b.2.1 1 j = -5) (f2 : b.2.1 2 j = s) : entV b x 3 = s ∧ entV b g 3 = s ∧ entV b x 7 = g ∧ entV b x 8 = 0 := by
  rw [ent_at w hi e0, ent_at w hj f0, ent_at w hi e0, ent_at w hi e0, er3, er3, er7, er8]
  refine ⟨e2, f2, e1, cIf_t (Or.inr ?_)⟩
  rw [e1, blw_at w hj f0, f2, e2]
  exact ⟨⟨⟨j, hj, f0⟩, by rw [blw_at w hj f0]; exact f1⟩, rfl⟩
theorem st_ali {l5 l6 : Int} (T : Two m a hn H N) (h5 : 0 ≤ l5 ∧ l5 < 338) (h6 : 0 ≤ l6 ∧ l6 < 338) : GD (f_L_isStep_L753 l5 l6 (a.1 : Int) (entV a l5 2) m) N := by
  have t4 := T.2.2.2.1
  have w := t4.1
  have hw := w.1
  have h24 := w.n24
  have wR := w2_ali (x := l5) (g := l6) t4 h5 h6
  have aO := a_ali (x := l5) (g := l6) T.1 w
  have aP := a_ali (x := l5 + 338) (g := l6 + 338) T.2.1 T.wp
  rw [ali_sh w t4.2.1 h5 h6] at aP
  obtain ⟨m1, m2, e1, e2, hneg, hpos⟩ := two_act (F := f_X3_alias l5 l6) (G := f_X3_alias (l5 + 338) (l6 + 338)) T aO aP wR (Int.le_refl N)
  unfold f_L_isStep_L753
  rw [bd_ (o_ent T _ _)]
  dsimp only
  rw [bd_ e1]
  dsimp only
  have go : ∀ s0 : Int, f_L_isStep_L789 l5 l6 (a.1 : Int) (entV a l5 2) (entV a l6 2) (aliF a l5 l6).1 s0 (m1, m.2) = (if entV a l6 2 = 0 then
(if entV a l5 2 = 0 then
(if (aliF a l5 l6).1 = (-7) then
(some (1, (m1, m2)))
else
(some (0, (m1, m2))))
else
(if s0 = 0 then
(if (aliF a l5 l6).1 = (-6) then
(if 0 ≤ entV a l5 2 then
(some (0, (m1, m2)))
else
((mmO (f_X3_count 4) (m1, m2)).bind (fun q183 => mmK (inR (4 * q183.1)) (if (a.1 : Int) = (4 * q183.1) then
(some (1, q183.2))
else
(some (0, q183.2))))))
else
(some (0, (m1, m2))))
else
((mmO (f_X3_entry l5 3) (m1, m2)).bind (fun q187 => (mmO (f_X3_entry l6 3) q187.2).bind (fun q189 => if q187.1 = q189.1 then
((mmO (f_X3_entry l5 7) q189.2).bind (fun q192 => if q192.1 = l6 then
((mmO (f_X3_entry l5 8) q192.2).bind (fun q195 => if q195.1 = 0 then
(some (1, q195.2))
else
(some (0, q195.2))))
else
(some (0, q192.2))))
else
(some (0, q189.2)))))))
else
(if (aliF a l5 l6).1 = (-1) then
(some (1, (m1, m2)))
else
(some (0, (m1, m2))))) := by
    intro s0
    unfold f_L_isStep_L789
    rw [bd_ (th_n l5 h5)]
    dsimp only
    rw [bd_ (th_n l6 h6)]
    dsimp only
    rw [bd_ e2]
    dsimp only
    rw [if_pos rfl]
  have well : ∀ (b : AS) (hn' : Nat) (H' : Nat → AS) (s : Int), Two (m1, m2) b hn' H' N → entV a l6 2 = 0 → ¬ entV a l5 2 = 0 → (entV b l5 3 = s ∧ entV b l6 3 = s ∧ entV b l5 7 = l6 ∧ entV b l5 8 = 0) → GD (f_L_isStep_L789 l5 l6 (a.1 : Int) (entV a l5 2) (entV a l6 2) (aliF a l5 l6).1 1 (m1, m.2)) N := by
    intro b hn' H' s T2 g1 g2 ⟨q1, q2, q3, q4⟩
    rw [go, if_pos g1, if_neg g2, if_neg (by decide), bd_ (o_ent T2 _ _)]
    dsimp only
    rw [bd_ (o_ent T2 _ _)]
    dsimp only
    rw [q1, q2, if_pos rfl, bd_ (o_ent T2 _ _)]
    dsimp only
    rw [q3, if_pos rfl, bd_ (o_ent T2 _ _)]
    dsimp only
    rw [q4, if_pos rfl]
    exact GD.mk_ rfl T2
  rcases ali_v (a := a) (x := l5) (g := l6) (by omega) with ⟨h1, e⟩ | ⟨h1, h2, e⟩ | ⟨h1, h2, h3, h4, h5', e⟩ | ⟨h1, h2, h3, e⟩ | ⟨h1, h2, h3, h4, e⟩ | ⟨h1, h2, h3, e⟩
  · rw [e] at hneg
    have T2 := hneg (show (-1 : Int) < 0 by decide)
    have ev : (aliF a l5 l6).1 = -1 := by rw [e]
    rw [if_neg (by omega), if_neg (by omega), go, if_neg (fun q => h1 (k_0.mp q)), if_pos ev]
    exact GD.mk_ rfl T2
  · rw [e] at hneg
    have T2 := hneg (show (-7 : Int) < 0 by decide)
    have ev : (aliF a l5 l6).1 = -7 := by rw [e]
    rw [if_neg (by omega), if_neg (by omega), go, if_pos (k_0.mpr h1), if_pos (k_0.mpr h2), if_pos ev]
    exact GD.mk_ rfl T2
  · rw [e] at hneg
    have T2 := hneg (show (-5 : Int) < 0 by decide)
    have ev : (aliF a l5 l6).1 = -5 := by rw [e]
    rw [if_neg (by omega), if_pos ev]
    unfold f_L_isStep_L784
    exact well a hn H _ T2 (k_0.mpr h1) (fun q => h2 (k_0.mp q)) (ali_4 w (w.at_ h3).1 (w.at_ h1.1).1 (w.at_ h3).2 h5' h4 (w.at_ h1.1).2 h1.2 rfl)
  · rw [e] at hpos wR
    have hr := (w.at_ h3).1
    have hg := (w.at_ h1.1).1
    have hs := (w.2.2.1 _ hg).2.2.2.1
    have T2 := hpos hs
    have hne : blw a l6 ≠ blw a l5 := fun q => h2 ⟨h3, by rw [← q]; exact h1.2⟩
    rw [if_pos (by rw [e]; exact hs)]
    unfold f_L_isStep_L784
    exact well _ _ _ _ T2 (k_0.mpr h1) (fun q => h2 (k_0.mp q)) (ali_4 wR.1 (i := blw a l5) (j := blw a l6) hr hg (set_r _ _ _ 0) (set_r _ _ _ 1) (set_r _ _ _ 2) ((set_n _ _ _ 0 _ hne).trans (w.at_ h1.1).2) ((set_n _ _ _ 1 _ hne).trans h1.2) (set_n _ _ _ 2 _ hne))
  · rw [e] at hneg
    have T2 := hneg (show (-6 : Int) < 0 by decide)
    have ev : (aliF a l5 l6).1 = -6 := by rw [e]
    rw [if_neg (by omega), if_neg (by omega), go, if_pos (k_0.mpr h1), if_neg (fun q => h2 (k_0.mp q)), if_pos rfl, if_pos ev, if_neg (fun q => h3 (k_has.mp q)), bd_ (o_cnt T2 4 (by decide) (by decide)), cv4]
    dsimp only
    rw [mmK_p (by constructor <;> omega), if_pos (by omega)]
    exact GD.mk_ rfl T2
  · rw [e] at hpos wR
    have hg := (w.at_ h1.1).1
    have hs := (w.2.2.1 _ hg).2.2.2.1
    have T2 := hpos hs
    have hr := blw_le a l5
    rw [if_pos (by rw [e]; exact hs)]
    unfold f_L_isStep_L784
    obtain ⟨j, hj1, hj2⟩ : ∃ j, j < a.1 + 1 ∧ ∀ k, (insA a (blw a l5) (entA l5 l6 (a.2.1 2 (blw a l6)) (a.2.1 3 (blw a l6)) (a.2.1 4 (blw a l6)))).2.1 k j = a.2.1 k (blw a l6) := by
      by_cases z : blw a l6 < blw a l5
      · exact ⟨blw a l6, by omega, fun k => by simp [insA, z]⟩
      · exact ⟨blw a l6 + 1, by omega, fun k => by simp [insA, show ¬ blw a l6 + 1 < blw a l5 by omega, show ¬ blw a l6 + 1 = blw a l5 by omega]⟩
    exact well _ _ _ _ T2 (k_0.mpr h1) (fun q => h2 (k_0.mp q)) (ali_4 wR.1 (i := blw a l5) (j := j) (by show blw a l5 < a.1 + 1; omega) hj1 (ins_r _ _ _ 0) (ins_r _ _ _ 1) (ins_r _ _ _ 2) ((hj2 0).trans (w.at_ h1.1).2) ((hj2 1).trans h1.2) (hj2 2))
theorem st_sqz (T : Two m a hn H N) (hN : N ≤ 1000000) : GD ((mmO (f_X3_count 8) m).bind (fun q204 => (mmO f_X3_squeeze q204.2).bind (fun q206 => (mmP f_X3_squeeze q206.2).bind (fun q208 => if q206.1 = q208.1 then
(if q204.1 = 0 then
(f_L_isStep_L955 (a.2.2 1) q204.1 (-5) q206.1 q208.2)
else
(f_L_isStep_L955 (a.2.2 1) q204.1 q204.1 q206.1 q208.2))
else
(some (0, q208.2)))))) (N + 1) := by
  have t4 := T.2.2.2.1
  have w := t4.1
  have hw := w.1
  have hrg := lay_rg w.n24 (len_rg w) 100
  have hend := lay_end w
  have wR := w2_sqz t4
  have aO := a_sqz T.1 w hN
  have aP := a_sqz T.2.1 T.wp hN
  rw [sqz_sh] at aP
  obtain ⟨m1, m2, e1, e2, hneg, hpos⟩ := two_act (F := f_X3_squeeze) (G := f_X3_squeeze) T aO aP wR (show N ≤ N + 1 by omega)
  rw [bd_ (o_cnt T 8 (by decide) (by decide)), cv8]
  dsimp only
  rw [bd_ e1]
  dsimp only
  rw [bd_ e2]
  dsimp only
  rw [if_pos rfl]
  unfold f_L_isStep_L955 livU
  by_cases z : a.2.2 1 - layW a (lenW a) 100 = 0
  · have e : sqzF a = (-5, a) := cIf_t z
    rw [e] at hneg ⊢
    have T2 := hneg (show (-5 : Int) < 0 by decide)
    rw [if_pos z, if_pos rfl, bd_ (o_cnt T2 6 (by decide) (by decide)), cv6]
    dsimp only
    rw [mmK_p (by constructor <;> omega), if_pos (by omega), bd_ (o_cnt T2 8 (by decide) (by decide)), cv8]
    dsimp only
    rw [if_pos (show a.2.2 1 - livU a = 0 from z)]
    exact GD.mk_ rfl T2
  · have e : sqzF a = (a.2.2 1 - layW a (lenW a) 100, sqA a) := cIf_f z
    rw [e] at hpos ⊢
    have T2 := hpos (show 0 ≤ a.2.2 1 - layW a (lenW a) 100 by omega)
    rw [if_neg z, if_pos rfl, bd_ (o_cnt T2 6 (by decide) (by decide)), cv6]
    dsimp only
    rw [mmK_p (by constructor <;> omega), if_pos (show (sqA a).2.2 1 = a.2.2 1 - (a.2.2 1 - layW a (lenW a) 100) by show layW a (lenW a) 100 = _; omega), bd_ (o_cnt T2 8 (by decide) (by decide))]
    dsimp only
    rw [sq_dead w, if_pos rfl]
    exact GD.mk_ rfl T2
theorem st_anw {l3 : Int} (T : Two m a hn H N) (hN : N ≤ 1000000) : GD ((f_L_up l3 6 m).bind (fun q221 => mmK (inR (1 + q221.1)) ((mmO (f_X3_count 4) q221.2).bind (fun q224 => (mmO (f_X3_makeAnew (1 + q221.1)) q224.2).bind (fun q226 => (mmP (f_X3_makeAnew (1 + q221.1)) q226.2).bind (fun q228 => if q226.1 = q228.1 then
(mmK (inR (4 * (1 + q221.1))) (if (a.1 : Int) ≤ (4 * (1 + q221.1)) then
(if q224.1 = (1 + q221.1) then
(f_L_isStep_L1053 q226.1 (-5) q226.1 q228.2)
else
(f_L_isStep_L1053 q226.1 q224.1 q226.1 q228.2))
else
(f_L_isStep_L1053 q226.1 (-6) q226.1 q228.2)))
else
(some (0, q228.2)))))))) (N + 1) := by
  have t4 := T.2.2.2.1
  have w := t4.1
  have hw := w.1
  have hv := up_rg l3 6 (by decide)
  rw [bd_ (up_ok _ 6 (by decide))]
  dsimp only
  generalize and7 l3 % 6 = v at hv ⊢
  have wR := w2_anw (l := 1 + v) t4
  have aO := a_anw (l := 1 + v) T.1 w hN
  have aP := a_anw (l := 1 + v) T.2.1 T.wp hN
  rw [anw_sh] at aP
  obtain ⟨m1, m2, e1, e2, hneg, hpos⟩ := two_act (F := f_X3_makeAnew (1 + v)) (G := f_X3_makeAnew (1 + v)) T aO aP wR (show N ≤ N + 1 by omega)
  rw [mmK_p (by constructor <;> omega), bd_ (o_cnt T 4 (by decide) (by decide)), cv4]
  dsimp only
  rw [bd_ e1]
  dsimp only
  rw [bd_ e2]
  dsimp only
  rw [if_pos rfl, mmK_p (by constructor <;> omega)]
  unfold f_L_isStep_L1053
  have e0 : anwF a (1 + v) = cIf (¬ (a.1 : Int) ≤ 4 * (1 + v)) (-6, a) (cIf (1 + v = a.2.2 0) (-5, a) (a.2.2 0, sqA (scA a 0 (1 + v)))) := cIf_f (by omega)
  by_cases z1 : (a.1 : Int) ≤ 4 * (1 + v)
  · rw [if_pos z1]
    rw [cIf_f (Classical.not_not.mpr z1)] at e0
    by_cases z2 : 1 + v = a.2.2 0
    · rw [cIf_t z2] at e0
      rw [e0] at hneg ⊢
      have T2 := hneg (show (-5 : Int) < 0 by decide)
      rw [if_pos z2.symm, if_pos rfl, if_pos (show (-5 : Int) < 0 by decide)]
      exact GD.mk_ rfl T2
    · rw [cIf_f z2] at e0
      rw [e0] at hpos ⊢
      have T2 := hpos (show 0 ≤ a.2.2 0 by omega)
      rw [if_neg (fun q => z2 q.symm), if_pos rfl, if_neg (show ¬ a.2.2 0 < 0 by omega), bd_ (o_cnt T2 8 (by decide) (by decide))]
      dsimp only
      rw [sq_dead (wf_blk w (by omega) (by omega)), if_pos rfl]
      exact GD.mk_ rfl T2
  · rw [if_neg z1]
    rw [cIf_t z1] at e0
    rw [e0] at hneg ⊢
    have T2 := hneg (show (-6 : Int) < 0 by decide)
    rw [if_pos rfl, if_pos (show (-6 : Int) < 0 by decide)]
    exact GD.mk_ rfl T2
theorem st_und (T : Two m a hn H N) : GD ((mmO (f_X3_count 13) m).bind (fun q239 => if q239.1 = 0 then
(some (1, q239.2))
else
((mmO f_X3_undo q239.2).bind (fun q242 => (mmP f_X3_undo q242.2).bind (fun q244 => if q242.1 = q244.1 then
(some (1, q244.2))
else
(some (0, q244.2))))))) N := by
  rw [bd_ (o_c13 T)]
  dsimp only
  cases hn with
  | zero =>
    rw [if_pos (show ((0 : Nat) : Int) = 0 from rfl)]
    exact GD.mk_ rfl T
  | succ k =>
    obtain ⟨t1, t2, t3, t4, t5⟩ := T
    obtain ⟨m1, e1, s1, k1⟩ := a_und t1
    obtain ⟨m2, e2, s2, k2⟩ := a_und t2
    rw [if_neg (by omega), bd_ (mmO_s (m := m) e1)]
    dsimp only
    rw [bd_ (mmP_s (m := (m1, m.2)) e2)]
    dsimp only
    rw [if_pos rfl]
    exact GD.mk_ rfl ⟨s1, s2, by rw [k2 45 (by decide)]; exact t3, t5 k (by omega), fun i hi => t5 i (by omega)⟩
theorem GD.up {f : Option (Int × Mem2)} {N' : Int} (h : GD f N) (hN : N ≤ N') : GD f N' := by
  obtain ⟨m', a, hn, H, e, T⟩ := h
  exact ⟨m', a, hn, H, e, T.mono hN⟩
theorem st_68 {l2 l3 l5 l6 s0 : Int} (T : Two m a hn H N) (hN : N ≤ 1000000) (h5 : 0 ≤ l5 ∧ l5 < 338) (h6 : 0 ≤ l6 ∧ l6 < 338) (hs : 1 ≤ s0 ∧ s0 ≤ 40) : GD (f_L_isStep_L68 l2 l3 l5 l6 s0 l3 1 m) (N + 1) := by
  have hN1 : N ≤ N + 1 := by omega
  have v1 := up_rg l3 s0 (by omega)
  have v2 := up_rg (shr l3 8) 10000 (by decide)
  have v3 := up_rg l2 15 (by decide)
  unfold f_L_isStep_L68
  rw [bd_ (up_ok _ s0 (by omega))]
  dsimp only
  rw [mmK_p (by constructor <;> omega), bd_ (up_ok _ 10000 (by decide))]
  dsimp only
  rw [bd_ (o_cnt T 0 (by decide) (by decide)), cv0]
  dsimp only
  rw [bd_ (o_cnt T 6 (by decide) (by decide)), cv6]
  dsimp only
  rw [bd_ (o_ent T _ _)]
  dsimp only
  rw [bd_ (up_ok _ 15 (by decide))]
  dsimp only
  generalize and7 l2 % 15 = u at v3 ⊢
  generalize and7 l3 % s0 = v at v1 ⊢
  generalize and7 (shr l3 8) % 10000 = k at v2 ⊢
  by_cases c0 : u = 0
  · rw [if_pos c0]; exact (st_add T h5 (by omega) (by omega)).up hN1
  rw [if_neg c0]
  by_cases c1 : u = 1
  · rw [if_pos c1]; exact (st_add T h5 (by omega) (by omega)).up hN1
  rw [if_neg c1]
  by_cases c2 : u = 2
  · rw [if_pos c2]; exact (st_add T h5 (by omega) (by omega)).up hN1
  rw [if_neg c2]
  by_cases c3 : u = 3
  · rw [if_pos c3]; exact (st_add T h5 (by omega) (by omega)).up hN1
  rw [if_neg c3]
  by_cases c4 : u = 4
  · rw [if_pos c4]; exact (st_rep T h5 (by omega) (by omega)).up hN1
  rw [if_neg c4]
  by_cases c5 : u = 5
  · rw [if_pos c5]; exact (st_rep T h5 (by omega) (by omega)).up hN1
  rw [if_neg c5]
  by_cases c6 : u = 6
  · rw [if_pos c6]; exact (st_rem T h5).up hN1
  rw [if_neg c6]
  by_cases c7 : u = 7
  · rw [if_pos c7]; exact (st_ren T h5 h6).up hN1
  rw [if_neg c7]
  by_cases c8 : u = 8
  · rw [if_pos c8]; exact (st_ren T h5 h6).up hN1
  rw [if_neg c8]
  by_cases c9 : u = 9
  · rw [if_pos c9]; exact (st_ali T h5 h6).up hN1
  rw [if_neg c9]
  by_cases c10 : u = 10
  · rw [if_pos c10]; exact (st_ali T h5 h6).up hN1
  rw [if_neg c10]
  by_cases c11 : u = 11
  · rw [if_pos c11]; exact (st_ali T h5 h6).up hN1
  rw [if_neg c11]
  by_cases c12 : u = 12
  · rw [if_pos c12]; exact st_sqz T hN
  rw [if_neg c12]
  by_cases c13 : u = 13
  · rw [if_pos c13]; exact st_anw T hN
  rw [if_neg c13]
  exact (st_und T).up hN1
/-- A STEP IS WELL -/
theorem st_ok {l2 l3 : Int} (T : Two m a hn H N) (hN : N ≤ 1000000) : GD (f_L_isStep l2 l3 m) (N + 1) := by
  have v1 := up_rg (shr l2 4) 3 (by decide)
  have v2 := up_rg (shr (shr l2 4) 2) 5 (by decide)
  have v3 := up_rg (shr (shr l2 4) 5) 3 (by decide)
  have v4 := up_rg (shr (shr l2 4) 7) 5 (by decide)
  have v5 := up_rg (shr l3 6) 3 (by decide)
  unfold f_L_isStep
  rw [bd_ (up_ok _ 3 (by decide))]
  dsimp only
  rw [mmK_p (by constructor <;> omega), bd_ (up_ok _ 5 (by decide))]
  dsimp only
  rw [mmK_p (by constructor <;> omega), bd_ (up_ok _ 3 (by decide))]
  dsimp only
  rw [mmK_p (by constructor <;> omega), bd_ (up_ok _ 5 (by decide))]
  dsimp only
  rw [mmK_p (by constructor <;> omega), bd_ (up_ok _ 3 (by decide))]
  dsimp only
  by_cases z : and7 (shr l3 6) % 3 = 0
  · rw [if_pos z]
    exact st_68 T hN (by omega) (by omega) (by decide)
  · rw [if_neg z]
    exact st_68 T hN (by omega) (by omega) (by decide)
end ST2
