noncomputable def addF (a : AS) (x l k : Int) : Int × AS := cIf (¬ (0 ≤ x ∧ x < 676) ∨ ¬ (1 ≤ l ∧ l ≤ 40) ∨ ¬ (0 ≤ k ∧ k ≤ 9999)) (-2, a) (cIf (hasN a x) (-7, a) (cIf (¬ (a.1 : Int) < 4 * a.2.2 0) (-6, a) (cIf (¬ a.2.2 1 + l ≤ 100) (-3, a) (a.2.2 1, insA (scA a 1 (a.2.2 1 + l)) (blw a x) (entA x (-5) (a.2.2 1) l k)))))
def memN (a : AS) (x : Int) : Prop := hasN a x ∧ a.2.1 1 (blw a x) = -5
noncomputable def repF' (a : AS) (x l k : Int) : Int × AS := cIf (¬ memN a x) (-1, a) (cIf (¬ (1 ≤ l ∧ l ≤ 40) ∨ ¬ (0 ≤ k ∧ k ≤ 9999)) (-2, a) (cIf (¬ a.2.2 1 + l ≤ 100) (-3, a) (a.2.2 1, setA (scA a 1 (a.2.2 1 + l)) (blw a x) (entA x (-5) (a.2.2 1) l k))))
noncomputable def remF (a : AS) (x : Int) : Int × AS := cIf (¬ hasN a x) (-1, a) (((a.1 - 1 : Nat) : Int), delA a (blw a x))
noncomputable def renM (a : AS) (x y : Int) : AS := cIf (a.2.1 1 (blw a x) = -5) (telA a x y) a
noncomputable def renF (a : AS) (x y : Int) : Int × AS := cIf (¬ hasN a x) (-1, a) (cIf (¬ (0 ≤ y ∧ y < 676)) (-2, a) (cIf (y = x) (-5, a) (cIf (hasN a y) (-7, a)
  ((blw (delA (renM a x y) (blw a x)) y : Int), insA (delA (renM a x y) (blw a x)) (blw (delA (renM a x y) (blw a x)) y) (entA y ((renM a x y).2.1 1 (blw a x)) (a.2.1 2 (blw a x)) (a.2.1 3 (blw a x)) (a.2.1 4 (blw a x)))))))
noncomputable def aliF (a : AS) (x g : Int) : Int × AS := cIf (¬ memN a g) (-1, a) (cIf (¬ (0 ≤ x ∧ x < 676)) (-2, a) (cIf (memN a x) (-7, a) (cIf (hasN a x)
  (cIf (a.2.1 2 (blw a x) = a.2.1 2 (blw a g) ∧ a.2.1 1 (blw a x) = g) (-5, a) (a.2.1 2 (blw a g), setA a (blw a x) (entA x g (a.2.1 2 (blw a g)) (a.2.1 3 (blw a g)) (a.2.1 4 (blw a g)))))
  (cIf (¬ (a.1 : Int) < 4 * a.2.2 0) (-6, a) (a.2.1 2 (blw a g), insA a (blw a x) (entA x g (a.2.1 2 (blw a g)) (a.2.1 3 (blw a g)) (a.2.1 4 (blw a g))))))))
/-- what an act of the class does: it answers, its State holds the new numbers, nothing else has changed -/
def didS (f : Option (Int × Mem)) (m : Mem) (o : Nat) (r : Int × AS) : Prop := ∃ m', f = some (r.1, m') ∧ frm o (o + 5) m m' ∧ repS m' o r.2
section AC
variable {m : Mem} {o : Nat} {a : AS} {N : Int}
theorem rank_at {x : Int} (h : repS m o a) (w : wfA a N) (hx : hasN a x) : f_X2_rankOf o x m = some ((blw a x : Int), m) :=
  rank_some h w.n24 (w.at_ hx).1 (w.at_ hx).2 (fun j hj e => by have := w.lo x j hj; omega)
theorem rank_no {x : Int} (h : repS m o a) (w : wfA a N) (hx : ¬ hasN a x) : f_X2_rankOf o x m = some (-1, m) :=
  rank_none h w.n24 (fun j hj e => hx ⟨j, hj, e⟩)
theorem add_cls {x l k : Int} (h : repS m o a) (w : wfA a N) : didS (f_X2_addMember o x l k m) m o (addF a x l k) := by
  unfold didS addF f_X2_addMember
  by_cases hx : 0 ≤ x ∧ x < 676
  · rw [isName_t hx]
    simp only [Option.bind_some]
    rw [if_neg (by decide)]
    by_cases hl : 1 ≤ l ∧ l ≤ 40
    · rw [isLength_t hl]
      simp only [Option.bind_some]
      rw [if_neg (by decide)]
      by_cases hk : 0 ≤ k ∧ k ≤ 9999
      · rw [isMark_t hk]
        simp only [Option.bind_some]
        rw [if_neg (by decide), cIf_f (by omega)]
        by_cases hh : hasN a x
        · rw [rank_at h w hh, cIf_t hh]
          simp only [Option.bind_some]
          rw [isRank_t h (by have := (w.at_ hh).1; omega)]
          exact ⟨m, rfl, frm.rf, h⟩
        · rw [rank_no h w hh, cIf_f hh]
          simp only [Option.bind_some]
          rw [isRank_f h (by omega)]
          simp only [Option.bind_some]
          rw [if_pos trivial]
          by_cases hf : (a.1 : Int) < 4 * a.2.2 0
          · rw [dirFull_f h w hf, cIf_f (by omega)]
            simp only [Option.bind_some]
            rw [if_pos trivial]
            by_cases hr : a.2.2 1 + l ≤ 100
            · rw [hasRoom_t h w hl hr, cIf_f (by omega)]
              simp only [Option.bind_some]
              rw [if_neg (by decide)]
              obtain ⟨m1, e1, f1, r1⟩ := layText_ok (x := l) h w hl
              rw [e1]
              simp only [Option.bind_some]
              have w1 : wfA (scA a 1 (a.2.2 1 + l)) N := wf_end w (by omega) hr
              obtain ⟨m2, e2, f2, r2⟩ := insert_ok r1 w1 (by simpa [scA] using hf) (blw a x) (blw_le a x) x (-5) (a.2.2 1) l k (w.lo x) (w.hi x)
              rw [e2]
              exact ⟨m2, rfl, f1.tr f2, r2⟩
            · rw [hasRoom_f h w hl hr, cIf_t hr]
              exact ⟨m, rfl, frm.rf, h⟩
          · rw [dirFull_t h w hf, cIf_t hf]
            exact ⟨m, rfl, frm.rf, h⟩
      · rw [isMark_f hk, cIf_t (Or.inr (Or.inr hk))]
        exact ⟨m, rfl, frm.rf, h⟩
    · rw [isLength_f hl, cIf_t (Or.inr (Or.inl hl))]
      exact ⟨m, rfl, frm.rf, h⟩
  · rw [isName_f hx, cIf_t (Or.inl hx)]
    exact ⟨m, rfl, frm.rf, h⟩
theorem mem_t {x : Int} (h : repS m o a) (w : wfA a N) (hx : memN a x) : f_X2_isMember o (blw a x : Int) m = some (1, m) := isMember_t h w.n24 (w.at_ hx.1).1 rfl hx.2
theorem mem_f {x : Int} (h : repS m o a) (w : wfA a N) (hh : hasN a x) (hx : ¬ memN a x) : f_X2_isMember o (blw a x : Int) m = some (0, m) := isMember_f h w.n24 (w.at_ hh).1 rfl (fun e => hx ⟨hh, e⟩)
theorem rep_cls {x l k : Int} (h : repS m o a) (w : wfA a N) : didS (f_X2_replaceText o x l k m) m o (repF' a x l k) := by
  unfold didS repF' f_X2_replaceText
  by_cases hh : hasN a x
  · rw [rank_at h w hh]
    simp only [Option.bind_some]
    by_cases hm : memN a x
    · rw [mem_t h w hm, cIf_f (Classical.not_not.mpr hm)]
      simp only [Option.bind_some]
      rw [if_neg (by decide)]
      by_cases hl : 1 ≤ l ∧ l ≤ 40
      · rw [isLength_t hl]
        simp only [Option.bind_some]
        rw [if_neg (by decide)]
        by_cases hk : 0 ≤ k ∧ k ≤ 9999
        · rw [isMark_t hk]
          simp only [Option.bind_some]
          rw [if_neg (by decide), cIf_f (by omega)]
          by_cases hr : a.2.2 1 + l ≤ 100
          · rw [hasRoom_t h w hl hr, cIf_f (by omega)]
            simp only [Option.bind_some]
            rw [if_neg (by decide)]
            obtain ⟨m1, e1, f1, r1⟩ := layText_ok (x := l) h w hl
            rw [e1]
            simp only [Option.bind_some]
            obtain ⟨m2, e2, f2, r2⟩ := set_ok (x := (blw a x : Int)) (blw a x) rfl r1 w.n24 (w.at_ hh).1 x (-5) (a.2.2 1) l k
            rw [e2]
            exact ⟨m2, rfl, f1.tr (f2.wide (by omega) (by omega)), r2⟩
          · rw [hasRoom_f h w hl hr, cIf_t hr]
            exact ⟨m, rfl, frm.rf, h⟩
        · rw [isMark_f hk, cIf_t (Or.inr hk)]
          exact ⟨m, rfl, frm.rf, h⟩
      · rw [isLength_f hl, cIf_t (Or.inl hl)]
        exact ⟨m, rfl, frm.rf, h⟩
    · rw [mem_f h w hh hm, cIf_t hm]
      exact ⟨m, rfl, frm.rf, h⟩
  · rw [rank_no h w hh, cIf_t (fun z => hh z.1)]
    simp only [Option.bind_some]
    rw [isMember_n h (by omega)]
    exact ⟨m, rfl, frm.rf, h⟩
theorem rem_cls {x : Int} (h : repS m o a) (w : wfA a N) : didS (f_X2_removeEntry o x m) m o (remF a x) := by
  unfold didS remF f_X2_removeEntry
  by_cases hh : hasN a x
  · have hlt := (w.at_ hh).1
    rw [rank_at h w hh, cIf_f (Classical.not_not.mpr hh)]
    simp only [Option.bind_some]
    rw [isRank_t h (by omega)]
    simp only [Option.bind_some]
    rw [if_neg (by decide)]
    obtain ⟨m1, e1, f1, r1⟩ := takeOut_ok h w (blw a x) rfl hlt
    rw [e1]
    simp only [Option.bind_some]
    exact ⟨m1, by rw [r1.1]; rfl, f1, r1⟩
  · rw [rank_no h w hh, cIf_t hh]
    simp only [Option.bind_some]
    rw [isRank_f h (by omega)]
    exact ⟨m, rfl, frm.rf, h⟩
theorem blw_renM (a : AS) (x y z : Int) : blw (renM a x y) z = blw a z := by
  unfold renM
  by_cases hm : a.2.1 1 (blw a x) = -5
  · rw [cIf_t hm]
    show cntB (fun j => if 0 = 1 ∧ a.2.1 1 j = x then y else a.2.1 0 j) z a.1 = cntB (a.2.1 0) z a.1
    simp
  · rw [cIf_f hm]
theorem wf_renM {x y : Int} (w : wfA a N) (hy : 0 ≤ y ∧ y < 676) : wfA (renM a x y) N := by
  unfold renM
  by_cases hm : a.2.1 1 (blw a x) = -5
  · rw [cIf_t hm]; exact wf_tel w hy
  · rw [cIf_f hm]; exact w
theorem renM_c (a : AS) (x y : Int) (k j : Nat) (hk : k ≠ 1) : (renM a x y).2.1 k j = a.2.1 k j := by
  unfold renM
  by_cases hm : a.2.1 1 (blw a x) = -5
  · rw [cIf_t hm]; simp [telA, hk]
  · rw [cIf_f hm]
theorem renM_n (a : AS) (x y : Int) : (renM a x y).1 = a.1 ∧ (renM a x y).2.2 = a.2.2 := by
  unfold renM
  by_cases hm : a.2.1 1 (blw a x) = -5
  · rw [cIf_t hm]; exact ⟨rfl, rfl⟩
  · rw [cIf_f hm]; exact ⟨rfl, rfl⟩
theorem ren68 {y : Int} (h : repS m o a) (w : wfA a N) (hy : ¬ hasN a y) (r : Nat) (hr : r < a.1) : ∃ m', f_X2_renameEntry_L68 o y (r : Int) m = some ((blw (delA a r) y : Int), m') ∧ frm o (o + 5) m m' ∧ repS m' o (insA (delA a r) (blw (delA a r) y) (entA y (a.2.1 1 r) (a.2.1 2 r) (a.2.1 3 r) (a.2.1 4 r))) := by
  have hn := w.n24
  obtain ⟨g1, g2, g3, g4, g5⟩ := h.2.2.2.2.2 r hr
  have wd := wf_del w r hr
  obtain ⟨m1, e1, f1, r1⟩ := takeOut_ok h w r rfl hr
  unfold f_X2_renameEntry_L68
  rw [mmK_p (by omega), mmK_p (by omega), mmK_p (by omega), mmK_p (by omega), e1]
  simp only [Option.bind_some]
  rw [tN, g2, g3, g4, g5]
  have hf : ((delA a r).1 : Int) < 4 * (delA a r).2.2 0 := by
    have := w.1.1
    show ((a.1 - 1 : Nat) : Int) < 4 * a.2.2 0
    omega
  obtain ⟨m2, e2, f2, r2⟩ := insert_ok r1 wd hf (blw (delA a r) y) (blw_le _ _) y (a.2.1 1 r) (a.2.1 2 r) (a.2.1 3 r) (a.2.1 4 r) (wd.lo y) (wd.hi y)
  rw [e2]
  exact ⟨m2, rfl, f1.tr f2, r2⟩
theorem ren_cls {x y : Int} (h : repS m o a) (w : wfA a N) : didS (f_X2_renameEntry o x y m) m o (renF a x y) := by
  unfold didS renF f_X2_renameEntry
  by_cases hh : hasN a x
  · have hlt := (w.at_ hh).1
    rw [rank_at h w hh, cIf_f (Classical.not_not.mpr hh)]
    simp only [Option.bind_some]
    rw [isRank_t h (by omega)]
    simp only [Option.bind_some]
    rw [if_neg (by decide)]
    by_cases hy : 0 ≤ y ∧ y < 676
    · rw [isName_t hy, cIf_f (Classical.not_not.mpr hy)]
      simp only [Option.bind_some]
      rw [if_neg (by decide)]
      by_cases hyx : y = x
      · subst hyx
        rw [rank_at h w hh, cIf_t rfl]
        simp only [Option.bind_some]
        rw [if_pos trivial]
        exact ⟨m, rfl, frm.rf, h⟩
      · rw [cIf_f hyx]
        by_cases hhy : hasN a y
        · have hlty := (w.at_ hhy).1
          rw [rank_at h w hhy, cIf_t hhy]
          simp only [Option.bind_some]
          rw [if_neg (by
            intro e
            have h1 := (w.at_ hhy).2
            have h2 := (w.at_ hh).2
            rw [show blw a y = blw a x by omega] at h1
            omega), isRank_t h (by omega)]
          exact ⟨m, rfl, frm.rf, h⟩
        · rw [rank_no h w hhy, cIf_f hhy]
          simp only [Option.bind_some]
          rw [if_neg (by omega), isRank_f h (by omega)]
          simp only [Option.bind_some]
          rw [if_pos trivial]
          have hny : ¬ hasN (renM a x y) y := by
            rintro ⟨j, hj, e⟩
            rw [renM_c a x y 0 j (by decide)] at e
            rw [(renM_n a x y).1] at hj
            exact hhy ⟨j, hj, e⟩
          have fin : ∀ m1, frm o (o + 5) m m1 → repS m1 o (renM a x y) → ∃ m', f_X2_renameEntry_L68 o y (blw a x : Int) m1 = some ((blw (delA (renM a x y) (blw a x)) y : Int), m') ∧ frm o (o + 5) m m' ∧ repS m' o (insA (delA (renM a x y) (blw a x)) (blw (delA (renM a x y) (blw a x)) y) (entA y ((renM a x y).2.1 1 (blw a x)) (a.2.1 2 (blw a x)) (a.2.1 3 (blw a x)) (a.2.1 4 (blw a x)))) := by
            intro m1 f1 r1
            obtain ⟨m2, e2, f2, r2⟩ := ren68 r1 (wf_renM w hy) hny (blw a x) (by rw [(renM_n a x y).1]; exact hlt)
            rw [renM_c a x y 2 _ (by decide), renM_c a x y 3 _ (by decide), renM_c a x y 4 _ (by decide)] at r2
            exact ⟨m2, e2, f1.tr f2, r2⟩
          by_cases hm : a.2.1 1 (blw a x) = -5
          · rw [isMember_t h w.n24 hlt rfl hm]
            simp only [Option.bind_some]
            rw [if_neg (by decide)]
            obtain ⟨m1, e1, f1, r1⟩ := tell_ok (x := x) (y := y) h w.n24
            rw [e1]
            simp only [Option.bind_some]
            exact fin m1 f1 (by unfold renM; rw [cIf_t hm]; exact r1)
          · rw [isMember_f h w.n24 hlt rfl hm]
            simp only [Option.bind_some]
            rw [if_pos trivial]
            exact fin m frm.rf (by unfold renM; rw [cIf_f hm]; exact h)
    · rw [isName_f hy, cIf_t hy]
      exact ⟨m, rfl, frm.rf, h⟩
  · rw [rank_no h w hh, cIf_t hh]
    simp only [Option.bind_some]
    rw [isRank_f h (by omega)]
    exact ⟨m, rfl, frm.rf, h⟩
theorem ali_cls {x g : Int} (h : repS m o a) (w : wfA a N) : didS (f_X2_giveAlias o x g m) m o (aliF a x g) := by
  have hn := w.n24
  unfold didS aliF f_X2_giveAlias
  by_cases hg : hasN a g
  · have hltg := (w.at_ hg).1
    obtain ⟨g1, g2, g3, g4, g5⟩ := h.2.2.2.2.2 (blw a g) hltg
    rw [rank_at h w hg]
    simp only [Option.bind_some]
    by_cases hm : memN a g
    · rw [mem_t h w hm, cIf_f (Classical.not_not.mpr hm)]
      simp only [Option.bind_some]
      rw [if_neg (by decide)]
      by_cases hx : 0 ≤ x ∧ x < 676
      · rw [isName_t hx, cIf_f (Classical.not_not.mpr hx)]
        simp only [Option.bind_some]
        rw [if_neg (by decide)]
        by_cases hh : hasN a x
        · have hlt := (w.at_ hh).1
          obtain ⟨q1, q2, q3, q4, q5⟩ := h.2.2.2.2.2 (blw a x) hlt
          rw [rank_at h w hh]
          simp only [Option.bind_some]
          by_cases hmx : memN a x
          · rw [mem_t h w hmx, cIf_t hmx]
            exact ⟨m, rfl, frm.rf, h⟩
          · rw [mem_f h w hh hmx, cIf_f hmx, cIf_t hh]
            simp only [Option.bind_some]
            rw [if_pos trivial, mmK_p (by omega), isRank_t h (by omega)]
            simp only [Option.bind_some]
            rw [if_neg (by decide), mmK_p (by omega), tN, tN, q3, g3]
            have l122 : ∃ m', f_X2_giveAlias_L122 o x g (blw a g : Int) (blw a x : Int) (a.2.1 2 (blw a g)) m = some (a.2.1 2 (blw a g), m') ∧ frm o (o + 5) m m' ∧ repS m' o (setA a (blw a x) (entA x g (a.2.1 2 (blw a g)) (a.2.1 3 (blw a g)) (a.2.1 4 (blw a g)))) := by
              unfold f_X2_giveAlias_L122
              rw [mmK_p (by omega), mmK_p (by omega), tN, g4, g5]
              obtain ⟨m2, e2, f2, r2⟩ := set_ok (x := (blw a x : Int)) (blw a x) rfl h w.n24 hlt x g (a.2.1 2 (blw a g)) (a.2.1 3 (blw a g)) (a.2.1 4 (blw a g))
              rw [e2]
              exact ⟨m2, rfl, f2.wide (by omega) (by omega), r2⟩
            by_cases hs : a.2.1 2 (blw a x) = a.2.1 2 (blw a g)
            · rw [if_pos hs, mmK_p (by omega), q2]
              by_cases hgv : a.2.1 1 (blw a x) = g
              · rw [if_pos hgv, cIf_t ⟨hs, hgv⟩]
                exact ⟨m, rfl, frm.rf, h⟩
              · rw [if_neg hgv, cIf_f (fun z => hgv z.2)]
                exact l122
            · rw [if_neg hs, cIf_f (fun z => hs z.1)]
              exact l122
        · rw [rank_no h w hh, cIf_f (fun z => hh z.1), cIf_f hh]
          simp only [Option.bind_some]
          rw [isMember_n h (by omega)]
          simp only [Option.bind_some]
          rw [if_pos trivial, mmK_p (by omega), isRank_f h (by omega)]
          simp only [Option.bind_some]
          rw [if_pos trivial]
          by_cases hf : (a.1 : Int) < 4 * a.2.2 0
          · rw [dirFull_f h w hf, cIf_f (by omega)]
            simp only [Option.bind_some]
            rw [if_pos trivial, mmK_p (by omega), mmK_p (by omega), tN, g3, g4, g5]
            obtain ⟨m2, e2, f2, r2⟩ := insert_ok h w hf (blw a x) (blw_le _ _) x g (a.2.1 2 (blw a g)) (a.2.1 3 (blw a g)) (a.2.1 4 (blw a g)) (w.lo x) (w.hi x)
            rw [e2]
            exact ⟨m2, rfl, f2, r2⟩
          · rw [dirFull_t h w hf, cIf_t hf]
            exact ⟨m, rfl, frm.rf, h⟩
      · rw [isName_f hx, cIf_t hx]
        exact ⟨m, rfl, frm.rf, h⟩
    · rw [mem_f h w hg hm, cIf_t hm]
      exact ⟨m, rfl, frm.rf, h⟩
  · rw [rank_no h w hg, cIf_t (fun z => hg z.1)]
    simp only [Option.bind_some]
    rw [isMember_n h (by omega)]
    exact ⟨m, rfl, frm.rf, h⟩
end AC
