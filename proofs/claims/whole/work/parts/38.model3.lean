theorem blw_uniq {a : AS} {N x : Int} (w : wfA a N) (r : Nat) (hr : r ≤ a.1) (h1 : ∀ j, j < r → a.2.1 0 j < x) (h2 : ∀ j, r ≤ j → j < a.1 → ¬ a.2.1 0 j < x) : blw a x = r := by
  have lo := w.lo x
  have hi := w.hi x
  have le := blw_le a x
  rcases Nat.lt_trichotomy (blw a x) r with q | q | q
  · exact absurd (h1 _ q) (hi _ (Nat.le_refl _) (by omega))
  · exact q
  · exact absurd (lo _ q) (h2 _ (Nat.le_refl _) (by omega))
theorem blw_del {a : AS} {N x : Int} (w : wfA a N) (h : hasN a x) : blw (delA a (blw a x)) x = blw a x := by
  obtain ⟨h1, h2⟩ := w.at_ h
  refine blw_uniq (wf_del w _ h1) _ (by show blw a x ≤ a.1 - 1; omega) (fun j hj => ?_) (fun j hj hj2 => ?_)
  · have : (delA a (blw a x)).2.1 0 j = a.2.1 0 j := by simp [delA, hj]
    rw [this]; exact w.lo x j hj
  · have hj2 : j < a.1 - 1 := hj2
    have : (delA a (blw a x)).2.1 0 j = a.2.1 0 (j + 1) := by simp [delA, show ¬ j < blw a x by omega]
    rw [this]; exact w.hi x (j + 1) (by omega) (by omega)
section MQ2
variable {m : Mem} {a : AS} {N : Int}
theorem al136 {x g s l v : Int} (h : repF (m.1 52) 0 a) (w : wfA a N) (hf : (a.1 : Int) < 24) (hg : ¬ g = -5) : ∃ m1, f_X4_doAlias_L136 x g s l v m = some (s, m1) ∧ fr2 m m1 ∧ repF (m1.1 52) 0 (insA a (blw a x) (entA x g s l v)) := by
  unfold f_X4_doAlias_L136
  have hm3 : repF ((mwr (mwr (mwr (mwr (mwr (mwr m 56 0 x) 56 1 1) 56 2 s) 56 3 l) 56 4 v) 56 5 g).1 52) 0 a := by
    rw [mwr_ne (by decide), mwr_ne (by decide), mwr_ne (by decide), mwr_ne (by decide), mwr_ne (by decide), mwr_ne (by decide)]; exact h
  obtain ⟨m1, e1, f1, c1, r1⟩ := puts_ok (x := x) (g := g) (s := s) (l := l) (v := v) hm3 w hf (by simp [mwr_self]) (by simp [mwr_self, hg]) (by simp [mwr_self]) (by simp [mwr_self]) (by simp [mwr_self]) (by simp [mwr_self])
  rw [e1]
  refine ⟨m1, rfl, ?_, r1⟩
  exact ((((((fr2.wr (Or.inr rfl)).tr (fr2.wr (Or.inr rfl))).tr (fr2.wr (Or.inr rfl))).tr (fr2.wr (Or.inr rfl))).tr (fr2.wr (Or.inr rfl))).tr (fr2.wr (Or.inr rfl))).tr f1
theorem ali_mod {x g : Int} (h : repF (m.1 52) 0 a) (w : wfA a N) : didF (f_X4_doAlias x g m) m (aliF a x g) := by
  have hn := w.n24
  have hw := w.1
  unfold didF aliF f_X4_doAlias
  by_cases hg : hasN a g
  · have hltg := (w.at_ hg).1
    rw [rank4_at h w hg]
    simp only [Option.bind_some]
    by_cases hm : memN a g
    · have hg0 : 0 ≤ g := by
        have := (w.2.2.1 _ hltg).1
        rw [(w.at_ hg).2] at this
        exact this
      rw [mem4_t h w hm, cIf_f (Classical.not_not.mpr hm)]
      simp only [Option.bind_some]
      rw [if_neg (by decide)]
      by_cases hx : 0 ≤ x ∧ x < 676
      · rw [isName4_t hx, cIf_f (Classical.not_not.mpr hx)]
        simp only [Option.bind_some]
        rw [if_neg (by decide)]
        by_cases hh : hasN a x
        · have hlt := (w.at_ hh).1
          rw [rank4_at h w hh]
          simp only [Option.bind_some]
          by_cases hmx : memN a x
          · rw [mem4_t h w hmx, cIf_t hmx]
            exact ⟨m, rfl, fr2.rf, h⟩
          · rw [mem4_f h w hh hmx, cIf_f hmx, cIf_t hh]
            simp only [Option.bind_some]
            rw [if_pos trivial, if_neg (by omega)]
            have l99 : ∃ m', f_X4_doAlias_L99 x g (blw a g : Int) (blw a x : Int) m = some (a.2.1 2 (blw a g), m') ∧ fr2 m m' ∧ repF (m'.1 52) 0 (setA a (blw a x) (entA x g (a.2.1 2 (blw a g)) (a.2.1 3 (blw a g)) (a.2.1 4 (blw a g)))) := by
              unfold f_X4_doAlias_L99
              rw [of2 h hn _ hltg]
              simp only [Option.bind_some]
              rw [of3 h hn _ hltg]
              simp only [Option.bind_some]
              rw [of4 h hn _ hltg]
              simp only [Option.bind_some]
              rw [if_neg (by omega)]
              obtain ⟨m1, e1, f1, r1, o1⟩ := takes4_ok h w (blw a x) rfl hlt
              rw [e1]
              simp only [Option.bind_some]
              obtain ⟨m2, e2, f2, r2⟩ := al136 (x := x) (g := g) (s := a.2.1 2 (blw a g)) (l := a.2.1 3 (blw a g)) (v := a.2.1 4 (blw a g)) r1 (wf_del w _ hlt) (by show ((a.1 - 1 : Nat) : Int) < 24; omega) (by omega)
              rw [blw_del w hh] at r2
              refine ⟨m2, e2, f1.tr f2, r2.cg (by show a.1 - 1 + 1 = a.1; omega) (fun _ => rfl) (fun c j hc hj => ?_)⟩
              have hj : j < a.1 := hj
              by_cases z : j < blw a x
              · simp [insA, delA, setA, z, show ¬ j = blw a x by omega]
              · by_cases z2 : j = blw a x
                · simp [insA, setA, z2]
                · simp [insA, delA, setA, z, z2, show ¬ j - 1 < blw a x by omega, show j - 1 + 1 = j by omega]
            unfold f_X4_doAlias_L62
            rw [if_neg (by omega), of2 h hn _ hlt]
            simp only [Option.bind_some]
            rw [of2 h hn _ hltg]
            simp only [Option.bind_some]
            by_cases hs : a.2.1 2 (blw a x) = a.2.1 2 (blw a g)
            · rw [if_pos hs, of5 h hn _ hlt]
              simp only [Option.bind_some]
              by_cases hgv : a.2.1 1 (blw a x) = g
              · rw [if_pos hgv, cIf_t ⟨hs, hgv⟩]
                exact ⟨m, rfl, fr2.rf, h⟩
              · rw [if_neg hgv, cIf_f (fun z => hgv z.2)]
                exact l99
            · rw [if_neg hs, cIf_f (fun z => hs z.1)]
              exact l99
        · rw [rank4_no h w hh, cIf_f (fun z => hh z.1), cIf_f hh]
          simp only [Option.bind_some]
          rw [mem4_n]
          simp only [Option.bind_some]
          rw [if_pos trivial, if_pos trivial]
          by_cases hf : (a.1 : Int) < 4 * a.2.2 0
          · rw [full4_f h w hf, cIf_f (by omega)]
            simp only [Option.bind_some]
            rw [if_pos trivial]
            unfold f_X4_doAlias_L62 f_X4_doAlias_L99
            rw [if_pos rfl, of2 h hn _ hltg]
            simp only [Option.bind_some]
            rw [of3 h hn _ hltg]
            simp only [Option.bind_some]
            rw [of4 h hn _ hltg]
            simp only [Option.bind_some]
            rw [if_pos trivial]
            exact al136 h w (by omega) (by omega)
          · rw [full4_t h w hf, cIf_t hf]
            exact ⟨m, rfl, fr2.rf, h⟩
      · rw [isName4_f hx, cIf_t hx]
        exact ⟨m, rfl, fr2.rf, h⟩
    · rw [mem4_f h w hg hm, cIf_t hm]
      exact ⟨m, rfl, fr2.rf, h⟩
  · rw [rank4_no h w hg, cIf_t (fun z => hg z.1)]
    simp only [Option.bind_some]
    rw [mem4_n]
    exact ⟨m, rfl, fr2.rf, h⟩
theorem rem_L : ∀ (d fu i : Nat) (m : Mem), i + d = 149 → d < fu → ∃ m1, f_X4_remember_L2 fu i m = some m1 ∧ (∀ c, c ≠ 53 → m1.1 c = m.1 c) ∧ m1.2 = m.2 ∧ ∀ q, m1.1 53 q = if i ≤ q ∧ q < 149 then m.1 52 q else m.1 53 q := by
  intro d
  induction d with
  | zero =>
    intro fu i m hi hf
    obtain ⟨k, rfl⟩ : ∃ k, fu = k + 1 := ⟨fu - 1, by omega⟩
    rw [f_X4_remember_L2, if_pos (by omega)]
    exact ⟨m, rfl, fun _ _ => rfl, rfl, fun q => by rw [if_neg (by omega)]⟩
  | succ d ih =>
    intro fu i m hi hf
    obtain ⟨k, rfl⟩ : ∃ k, fu = k + 1 := ⟨fu - 1, by omega⟩
    rw [f_X4_remember_L2, if_neg (by omega), mmK_p (by omega), mmK_p (by omega), mmK_p (by constructor <;> omega), ci_1, tN]
    obtain ⟨m1, e1, f1, f2, c1⟩ := ih k (i + 1) (mwr m 53 i (m.1 52 i)) (by omega) (by omega)
    refine ⟨m1, e1, fun c hc => (f1 c hc).trans (mwr_ne hc), f2, fun q => ?_⟩
    rw [c1 q, mwr_ne (by decide), mwr_self]
    by_cases z : i + 1 ≤ q ∧ q < 149
    · rw [if_pos z, if_pos (by omega)]
    · rw [if_neg z]
      by_cases z2 : q = i
      · rw [if_pos z2, if_pos (by omega), z2]
      · rw [if_neg z2, if_neg (by omega)]
theorem rem_ok (m : Mem) : ∃ m1, f_X4_remember m = some m1 ∧ (∀ c, c ≠ 53 → m1.1 c = m.1 c) ∧ m1.2 = m.2 ∧ ∀ q, q < 149 → m1.1 53 q = m.1 52 q := by
  obtain ⟨m1, e1, f1, f2, c1⟩ := rem_L 149 mmFU 0 m rfl (by unfold mmFU; omega)
  exact ⟨m1, e1, f1, f2, fun q hq => by rw [c1, if_pos (by omega)]⟩
theorem act51 (r : Int) (hn : Nat) (h4 : hn < 4) : ∀ (d fu i : Nat) (m : Mem), m.1 51 3 = hn → i + d = 149 → d < fu → ∃ m1, f_X4_acted_L51 fu r i m = some (r, m1) ∧ (∀ c, c ≠ 51 → c ≠ 54 → m1.1 c = m.1 c) ∧ m1.2 = m.2 ∧ (∀ k, k ≠ 3 → m1.1 51 k = m.1 51 k) ∧ m1.1 51 3 = ((hn + 1 : Nat) : Int) ∧ ∀ q, m1.1 54 q = if 149 * hn + i ≤ q ∧ q < 149 * hn + 149 then m.1 53 (q - 149 * hn) else m.1 54 q := by
  intro d
  induction d with
  | zero =>
    intro fu i m h0 hi hf
    obtain ⟨k, rfl⟩ : ∃ k, fu = k + 1 := ⟨fu - 1, by omega⟩
    rw [f_X4_acted_L51, if_pos (by omega), mmK_p (by constructor <;> omega)]
    exact ⟨_, rfl, fun c h1 _ => mwr_ne h1, rfl, fun k hk => by rw [mwr_self, if_neg hk], by rw [mwr_self, if_pos rfl]; omega, fun q => by rw [mwr_ne (by decide), if_neg (by omega)]⟩
  | succ d ih =>
    intro fu i m h0 hi hf
    obtain ⟨k, rfl⟩ : ∃ k, fu = k + 1 := ⟨fu - 1, by omega⟩
    rw [f_X4_acted_L51, if_neg (by omega), mmK_p (by constructor <;> omega), mmK_p (by constructor <;> omega), mmK_p (by omega), mmK_p (by omega), mmK_p (by constructor <;> omega), ci_1, tN, show (149 * m.1 51 3 + (i : Int)).toNat = 149 * hn + i by omega]
    obtain ⟨m1, e1, f1, f2, f3, f4, c1⟩ := ih k (i + 1) (mwr m 54 (149 * hn + i) (m.1 53 i)) (by rw [mwr_ne (by decide)]; exact h0) (by omega) (by omega)
    refine ⟨m1, e1, fun c h1 h2 => (f1 c h1 h2).trans (mwr_ne h2), f2, fun k hk => by rw [f3 k hk, mwr_ne (by decide)], f4, fun q => ?_⟩
    rw [c1 q, mwr_ne (by decide), mwr_self]
    by_cases z : 149 * hn + (i + 1) ≤ q ∧ q < 149 * hn + 149
    · rw [if_pos z, if_pos (by omega)]
    · rw [if_neg z]
      by_cases z2 : q = 149 * hn + i
      · rw [if_pos z2, if_pos (by omega), z2, show 149 * hn + i - 149 * hn = i by omega]
      · rw [if_neg z2, if_neg (by omega)]
theorem act10 (r : Int) : ∀ (d fu i : Nat) (m : Mem), m.1 51 3 = 4 → i + d = 447 → d < fu → ∃ m1, f_X4_acted_L10 fu r i m = some (r, m1) ∧ (∀ c, c ≠ 51 → c ≠ 54 → m1.1 c = m.1 c) ∧ m1.2 = m.2 ∧ (∀ k, k ≠ 3 → m1.1 51 k = m.1 51 k) ∧ m1.1 51 3 = 4 ∧ ∀ q, m1.1 54 q = if 447 ≤ q ∧ q < 596 then m.1 53 (q - 447) else if i ≤ q ∧ q < 447 then m.1 54 (q + 149) else m.1 54 q := by
  intro d
  induction d with
  | zero =>
    intro fu i m h0 hi hf
    obtain ⟨k, rfl⟩ : ∃ k, fu = k + 1 := ⟨fu - 1, by omega⟩
    rw [f_X4_acted_L10, if_pos (by omega), mmK_p (by constructor <;> omega)]
    obtain ⟨m1, e1, f1, f2, f3, f4, c1⟩ := act51 r 3 (by omega) 149 mmFU 0 (mwr m 51 3 (m.1 51 3 - 1)) (by rw [mwr_self, if_pos rfl]; omega) rfl (by unfold mmFU; omega)
    rw [show ((0 : Nat) : Int) = 0 from rfl] at e1
    refine ⟨m1, e1, fun c h1 h2 => (f1 c h1 h2).trans (mwr_ne h1), f2, fun k hk => by rw [f3 k hk, mwr_self, if_neg hk], f4, fun q => ?_⟩
    rw [c1 q, mwr_ne (by decide), mwr_ne (by decide)]
    by_cases z : 447 ≤ q ∧ q < 596
    · rw [if_pos (by omega), if_pos z]
    · rw [if_neg (by omega), if_neg z, if_neg (by omega)]
  | succ d ih =>
    intro fu i m h0 hi hf
    obtain ⟨k, rfl⟩ : ∃ k, fu = k + 1 := ⟨fu - 1, by omega⟩
    rw [f_X4_acted_L10, if_neg (by omega), mmK_p (by constructor <;> omega), mmK_p (by omega), mmK_p (by omega), mmK_p (by constructor <;> omega), ci_1, tN, show ((i : Int) + 149).toNat = i + 149 by omega]
    obtain ⟨m1, e1, f1, f2, f3, f4, c1⟩ := ih k (i + 1) (mwr m 54 i (m.1 54 (i + 149))) (by rw [mwr_ne (by decide)]; exact h0) (by omega) (by omega)
    refine ⟨m1, e1, fun c h1 h2 => (f1 c h1 h2).trans (mwr_ne h2), f2, fun k hk => by rw [f3 k hk, mwr_ne (by decide)], f4, fun q => ?_⟩
    rw [c1 q, mwr_ne (by decide), mwr_self, mwr_self]
    by_cases z : 447 ≤ q ∧ q < 596
    · rw [if_pos z, if_pos z]
    · rw [if_neg z, if_neg z]
      by_cases z2 : i + 1 ≤ q ∧ q < 447
      · rw [if_pos z2, if_neg (by omega), if_pos (by omega)]
      · rw [if_neg z2]
        by_cases z3 : q = i
        · rw [if_pos z3, if_pos (by omega), z3]
        · rw [if_neg z3, if_neg (by omega)]
/-- one state more -/
def pushN (hn : Nat) : Nat := if hn = 4 then 4 else hn + 1
def pushH (hn : Nat) (H : Nat → AS) (a : AS) : Nat → AS := fun i => if hn = 4 then (if i < 3 then H (i + 1) else a) else (if i = hn then a else H i)
theorem acted_ok (r : Int) (hn : Nat) (h4 : hn ≤ 4) (H : Nat → AS) (b : AS) (m : Mem) (h0 : m.1 51 3 = hn) (hH : ∀ i, i < hn → repF (m.1 54) (149 * i) (H i) ∧ (H i).1 ≤ 24) (hb : repF (m.1 53) 0 b) (hb24 : b.1 ≤ 24) :
    ∃ m1, f_X4_acted r m = some (r, m1) ∧ (∀ c, c ≠ 51 → c ≠ 54 → m1.1 c = m.1 c) ∧ m1.2 = m.2 ∧ (∀ k, k ≠ 3 → m1.1 51 k = m.1 51 k) ∧ m1.1 51 3 = (pushN hn : Int) ∧ ∀ i, i < pushN hn → repF (m1.1 54) (149 * i) (pushH hn H b i) := by
  have shift : ∀ (g g' : Nat → Int) (c b2 : Nat) (x : AS), repF g c x → x.1 ≤ 24 → (∀ i, i < 149 → g' (b2 + i) = g (c + i)) → repF g' b2 x := by
    intro g g' c b2 x hx hn hs
    obtain ⟨q1, q2, q3, q4, q5, -⟩ := id hx
    refine repF.mk6 ?_ ?_ ?_ ?_ ?_ (fun k j hk hj => ?_)
    · rw [← q1]; exact hs 0 (by omega)
    · rw [← q2]; exact hs 1 (by omega)
    · rw [← q3]; exact hs 2 (by omega)
    · rw [← q4]; exact hs 3 (by omega)
    · rw [← q5]; exact hs 4 (by omega)
    · rw [← hx.col hk hj]; exact hs _ (by omega)
  unfold f_X4_acted
  by_cases z : hn = 4
  · subst z
    rw [if_pos (show m.1 51 3 = 4 from h0)]
    obtain ⟨m1, e1, f1, f2, f3, f4, c1⟩ := act10 r 447 mmFU 0 m h0 rfl (by unfold mmFU; omega)
    rw [show ((0 : Nat) : Int) = 0 from rfl] at e1
    refine ⟨m1, e1, f1, f2, f3, f4, fun i hi => ?_⟩
    have hi : i < 4 := hi
    show repF _ _ (if i < 3 then H (i + 1) else b)
    by_cases z2 : i < 3
    · rw [if_pos z2]
      exact shift _ _ (149 * (i + 1)) _ _ (hH (i + 1) (by omega)).1 (hH (i + 1) (by omega)).2 (fun j hj => by rw [c1, if_neg (by omega), if_pos (by omega), show 149 * i + j + 149 = 149 * (i + 1) + j by omega])
    · rw [if_neg z2]
      exact shift _ _ 0 _ _ hb hb24 (fun j hj => by rw [c1, if_pos (by omega), show 149 * i + j - 447 = 0 + j by omega])
  · rw [if_neg (by omega)]
    obtain ⟨m1, e1, f1, f2, f3, f4, c1⟩ := act51 r hn (by omega) 149 mmFU 0 m h0 rfl (by unfold mmFU; omega)
    rw [show ((0 : Nat) : Int) = 0 from rfl] at e1
    have hp : pushN hn = hn + 1 := by unfold pushN; rw [if_neg z]
    refine ⟨m1, e1, f1, f2, f3, by rw [hp]; exact f4, fun i hi => ?_⟩
    rw [hp] at hi
    unfold pushH
    rw [if_neg z]
    by_cases z2 : i = hn
    · rw [if_pos z2]
      exact shift _ _ 0 _ _ hb hb24 (fun j hj => by rw [c1, if_pos (by omega), show 149 * i + j - 149 * hn = 0 + j by omega])
    · rw [if_neg z2]
      exact shift _ _ (149 * i) _ _ (hH i (by omega)).1 (hH i (by omega)).2 (fun j hj => by rw [c1, if_neg (by omega)])
end MQ2
