noncomputable def mkF (it : Nat → Nat → Int) : Nat → Nat → AS → Int × AS
  | 0, i, a => ((i : Int), a)
  | n + 1, i, a => cIf (0 ≤ (itF a (it 47 i) (it 48 i) (it 49 i) (it 50 i)).1 ∨ (itF a (it 47 i) (it 48 i) (it 49 i) (it 50 i)).1 = -5) (mkF it n (i + 1) (itF a (it 47 i) (it 48 i) (it 49 i) (it 50 i)).2) (itF a (it 47 i) (it 48 i) (it 49 i) (it 50 i))
def FM2 (m m' : Mem) : Prop := (∀ c, c ≠ 51 → c ≠ 52 → c ≠ 56 → m'.1 c = m.1 c) ∧ m'.2 = m.2 ∧ ∀ k, k < 9 → m'.1 51 k = m.1 51 k
theorem FM2.tr {m m1 m2 : Mem} (h1 : FM2 m m1) (h2 : FM2 m1 m2) : FM2 m m2 := ⟨fun c a b d => (h2.1 c a b d).trans (h1.1 c a b d), h2.2.1.trans h1.2.1, fun k hk => (h2.2.2 k hk).trans (h1.2.2 k hk)⟩
theorem FM2.q {m : Mem} {j x : Int} : FM2 m (qq m j x) := ⟨fun c h _ _ => qqc h, rfl, fun k hk => qqk (by omega) (by omega)⟩
/-- the reference's second reading -/
def P2 (pl : Nat) (p : Nat → Int) (i t n : Nat) (it : Nat → Nat → Int) : Prop := ∀ (m : Mem) (a : AS) (N : Int) (fu : Nat), n + 2 ≤ fu → t + n ≤ 12 → B4 m pl p → m.1 51 9 = i → wfA a N → repF (m.1 52) 0 a →
  (0 ≤ (mkF it n t a).1 → ∃ m', f_X4_addAll_L29 fu t 1 m = (f_X4_acted (mkF it n t a).1 m').bind (fun q => some (q.1, q.2)) ∧ FM2 m m' ∧ repF (m'.1 52) 0 (mkF it n t a).2) ∧
  ((mkF it n t a).1 < 0 → ∃ m', f_X4_addAll_L29 fu t 1 m = f_X4_addAll_L59 mmFU 0 m' ∧ FM2 m m' ∧ m'.1 51 11 = (mkF it n t a).1)
section AA
variable {pl : Nat} {p : Nat → Int} {m : Mem} {a : AS} {N : Int}
theorem wf_itF {x g l k : Int} (w : wfA a N) : wfA (itF a x g l k).2 N := by
  unfold itF
  by_cases h : g = -5
  · rw [cIf_t h]; exact wf_addF w
  · rw [cIf_f h]; exact wf_aliF w
theorem wf_mkF (it : Nat → Nat → Int) : ∀ (n i : Nat) (a : AS), wfA a N → wfA (mkF it n i a).2 N := by
  intro n
  induction n with
  | zero => intro i a w; exact w
  | succ n ih =>
    intro i a w
    unfold mkF
    by_cases h : 0 ≤ (itF a (it 47 i) (it 48 i) (it 49 i) (it 50 i)).1 ∨ (itF a (it 47 i) (it 48 i) (it 49 i) (it 50 i)).1 = -5
    · rw [cIf_t h]; exact ih _ _ (wf_itF w)
    · rw [cIf_f h]; exact wf_itF w
theorem p2_go {i j t : Nat} {x g l k : Int} (T : adT pl p i j x g l k) (hB : B4 m pl p) (h9 : m.1 51 9 = i) (w : wfA a N) (hr : repF (m.1 52) 0 a) (ht : t ≤ 12) (f : Nat) : ∃ m', FM1 m m' j ∧ m'.1 51 11 = (itF a x g l k).1 ∧ repF (m'.1 52) 0 (itF a x g l k).2 ∧ ((0 ≤ (itF a x g l k).1 ∨ (itF a x g l k).1 = -5) → f_X4_addAll_L29 (f + 1) t 1 m = (f_X4_takes 59 m').bind (fun q14 => f_X4_addAll_L29 f ((t + 1 : Nat) : Int) q14.1 q14.2)) ∧ (¬ (0 ≤ (itF a x g l k).1 ∨ (itF a x g l k).1 = -5) → f_X4_addAll_L29 (f + 1) t 1 m = f_X4_addAll_L59 mmFU 0 m') := by
  obtain ⟨m', e, F, told, r⟩ := T.2.2 m a N hB h9 w hr
  refine ⟨m', F, told, r, fun hR => ?_, fun hR => ?_⟩
  · rw [f_X4_addAll_L29, if_neg (by decide), bd_ e]
    dsimp only
    rw [told]
    by_cases z : 0 ≤ (itF a x g l k).1
    · rw [if_pos z, mmK_p (by constructor <;> omega), ci_1]
    · rw [if_neg z, if_pos (by omega), mmK_p (by constructor <;> omega), ci_1]
  · rw [f_X4_addAll_L29, if_neg (by decide), bd_ e]
    dsimp only
    rw [told, if_neg (by omega), if_neg (by omega)]
theorem B4.f1 {m m' : Mem} {j : Nat} (hB : B4 m pl p) (F : FM1 m m' j) : B4 m' pl p := ⟨by rw [F.2.2.2 8 (by decide)]; exact hB.1, fun i hi => by rw [F.2.1 57 (by decide) (by decide) (by decide)]; exact hB.2 i hi⟩
theorem B4.f2 {m m' : Mem} (hB : B4 m pl p) (F : FM2 m m') : B4 m' pl p := ⟨by rw [F.2.2 8 (by decide)]; exact hB.1, fun i hi => by rw [F.1 57 (by decide) (by decide) (by decide)]; exact hB.2 i hi⟩
theorem B4.f {m m' : Mem} {j : Nat} (hB : B4 m pl p) (F : FM m m' j) : B4 m' pl p := ⟨by rw [F.2.2.2 8 (by decide)]; exact hB.1, fun i hi => by rw [F.2.1 57 (by decide)]; exact hB.2 i hi⟩
theorem p2_one (hp : PR pl p) {i t : Nat} {x g l k : Int} {it : Nat → Nat → Int} (T : adT pl p i pl x g l k) (i1 : it 47 t = x) (i2 : it 48 t = g) (i3 : it 49 t = l) (i4 : it 50 t = k) : P2 pl p i t 1 it := by
  intro m a N fu hf ht hB h9 w hr
  obtain ⟨f, rfl⟩ : ∃ f, fu = f + 1 + 1 := ⟨fu - 2, by omega⟩
  obtain ⟨m', F, told, r, go, er⟩ := p2_go (t := t) T hB h9 w hr (by omega) (f + 1)
  have e1 : mkF it 1 t a = cIf (0 ≤ (itF a x g l k).1 ∨ (itF a x g l k).1 = -5) (((t + 1 : Nat) : Int), (itF a x g l k).2) (itF a x g l k) := by
    subst i1 i2 i3 i4
    rfl
  rw [e1]
  by_cases hR : 0 ≤ (itF a x g l k).1 ∨ (itF a x g l k).1 = -5
  · rw [cIf_t hR]
    refine ⟨fun _ => ?_, fun q => absurd q (by show ¬ ((t + 1 : Nat) : Int) < 0; omega)⟩
    have e9 : qq m' (pl : Int) (m'.1 51 10) = m' := qq_id F.1
    have tk := m_tk_f (x := m'.1 51 10) hp (hB.f1 F) pl (Nat.le_refl _) (show (0 : Int) ≤ 59 by decide) (by unfold nx; rw [if_neg (Nat.lt_irrefl _)]; decide)
    rw [e9] at tk
    refine ⟨m', ?_, ⟨F.2.1, F.2.2.1, F.2.2.2⟩, r⟩
    rw [go hR, bd_ tk]
    dsimp only
    rw [f_X4_addAll_L29, if_pos rfl]
  · rw [cIf_f hR]
    exact ⟨fun q => absurd (Or.inl q) hR, fun q => ⟨m', er hR, ⟨F.2.1, F.2.2.1, F.2.2.2⟩, told⟩⟩
theorem p2_cons (hp : PR pl p) {i j t n : Nat} {x g l k : Int} {it : Nat → Nat → Int} (T : adT pl p i j x g l k) (h59 : nx pl p j = 59) (i1 : it 47 t = x) (i2 : it 48 t = g) (i3 : it 49 t = l) (i4 : it 50 t = k) (P : P2 pl p (j + 1) (t + 1) n it) : P2 pl p i t (n + 1) it := by
  intro m a N fu hf ht hB h9 w hr
  obtain ⟨f, rfl⟩ : ∃ f, fu = f + 1 := ⟨fu - 1, by omega⟩
  obtain ⟨m', F, told, r, go, er⟩ := p2_go (t := t) T hB h9 w hr (by omega) f
  have e1 : mkF it (n + 1) t a = cIf (0 ≤ (itF a x g l k).1 ∨ (itF a x g l k).1 = -5) (mkF it n (t + 1) (itF a x g l k).2) (itF a x g l k) := by
    subst i1 i2 i3 i4
    rfl
  rw [e1]
  by_cases hR : 0 ≤ (itF a x g l k).1 ∨ (itF a x g l k).1 = -5
  · rw [cIf_t hR]
    have e9 : qq m' (j : Int) (m'.1 51 10) = m' := qq_id F.1
    have tk := m_tk_t (x := m'.1 51 10) hp (hB.f1 F) j (show (0 : Int) ≤ 59 by decide) h59
    rw [e9] at tk
    have e2 : f_X4_addAll_L29 (f + 1) t 1 m = f_X4_addAll_L29 f ((t + 1 : Nat) : Int) 1 (qq m' ((j + 1 : Nat) : Int) (m'.1 51 10)) := by
      rw [go hR, bd_ tk]
    have hF2 : FM2 m (qq m' ((j + 1 : Nat) : Int) (m'.1 51 10)) := FM2.tr ⟨F.2.1, F.2.2.1, F.2.2.2⟩ FM2.q
    obtain ⟨P1, P2'⟩ := P (qq m' ((j + 1 : Nat) : Int) (m'.1 51 10)) (itF a x g l k).2 N f (by omega) (by omega) (hB.f2 hF2) qq9 (wf_itF w) (by rw [qqc (by decide)]; exact r)
    rw [e2]
    refine ⟨fun q => ?_, fun q => ?_⟩
    · obtain ⟨m2, q1, q2, q3⟩ := P1 q
      exact ⟨m2, q1, hF2.tr q2, q3⟩
    · obtain ⟨m2, q1, q2, q3⟩ := P2' q
      exact ⟨m2, q1, hF2.tr q2, q3⟩
  · rw [cIf_f hR]
    exact ⟨fun q => absurd (Or.inl q) hR, fun q => ⟨m', er hR, ⟨F.2.1, F.2.2.1, F.2.2.2⟩, told⟩⟩
/-- the class's reading leaves the rest -/
def FC (m m' : Mem) : Prop := (∀ c, c < 45 ∨ 50 < c ∨ c = 46 → m'.1 c = m.1 c) ∧ m'.2 = m.2 ∧ m'.1 45 1 = m.1 45 1
theorem FC.tr {m m1 m2 : Mem} (h1 : FC m m1) (h2 : FC m1 m2) : FC m m2 := ⟨fun c h => (h2.1 c h).trans (h1.1 c h), h2.2.1.trans h1.2.1, h2.2.2.trans h1.2.2⟩
theorem FC.pd {m : Mem} {x : Int} : FC m (pp m x) := ⟨fun c h => ppc (by omega), rfl, pp1⟩
theorem FC.n {m : Mem} {n : Nat} {x g l k : Int} : FC m (ntd m n x g l k) := by
  refine ⟨fun c h => ?_, rfl, ?_⟩
  · unfold ntd; rw [mwr_ne (by omega), mwr_ne (by omega), mwr_ne (by omega), mwr_ne (by omega), mwr_ne (by omega)]
  · unfold ntd; rw [mwr_self, if_neg (by decide), mwr_ne (by decide), mwr_ne (by decide), mwr_ne (by decide), mwr_ne (by decide)]
theorem BP.f {m m' : Mem} (h : BP m pl p) (F : FC m m') : BP m' pl p := ⟨by rw [F.2.2]; exact h.1, by rw [F.1 46 (by omega)]; exact h.2⟩
theorem nd7 {n : Nat} {x g l k : Int} : (ntd m n x g l k).1 45 7 = m.1 45 7 := by unfold ntd; rw [mwr_self, if_neg (by decide), mwr_ne (by decide), mwr_ne (by decide), mwr_ne (by decide), mwr_ne (by decide)]
theorem nd6 {n : Nat} {x g l k : Int} : (ntd m n x g l k).1 45 6 = ((n + 1 : Nat) : Int) := by unfold ntd; rw [mwr_self, if_pos rfl]; rfl
theorem nd47 {n j : Nat} {x g l k : Int} : (ntd m n x g l k).1 47 j = if j = n then x else m.1 47 j := by unfold ntd; rw [mwr_ne (by decide), mwr_ne (by decide), mwr_ne (by decide), mwr_ne (by decide), mwr_self]
theorem nd48 {n j : Nat} {x g l k : Int} : (ntd m n x g l k).1 48 j = if j = n then g else m.1 48 j := by unfold ntd; rw [mwr_ne (by decide), mwr_ne (by decide), mwr_ne (by decide), mwr_self, mwr_ne (by decide)]
theorem nd49 {n j : Nat} {x g l k : Int} : (ntd m n x g l k).1 49 j = if j = n then l else m.1 49 j := by unfold ntd; rw [mwr_ne (by decide), mwr_ne (by decide), mwr_self, mwr_ne (by decide), mwr_ne (by decide)]
theorem nd50 {n j : Nat} {x g l k : Int} : (ntd m n x g l k).1 50 j = if j = n then k else m.1 50 j := by unfold ntd; rw [mwr_ne (by decide), mwr_self, mwr_ne (by decide), mwr_ne (by decide), mwr_ne (by decide)]
theorem nd_o {n j c : Nat} {x g l k : Int} (hc : 47 ≤ c ∧ c ≤ 50) (hj : j ≠ n) : (ntd m n x g l k).1 c j = m.1 c j := by
  rcases (show c = 47 ∨ c = 48 ∨ c = 49 ∨ c = 50 by omega) with rfl | rfl | rfl | rfl
  · rw [nd47, if_neg hj]
  · rw [nd48, if_neg hj]
  · rw [nd49, if_neg hj]
  · rw [nd50, if_neg hj]
theorem fa_T {i j fu : Nat} {x g l k : Int} (T : adT pl p i j x g l k) (hB : B4 m pl p) (h9 : m.1 51 9 = i) : ∃ m', FM m m' j ∧ f_X4_fault_L7 (fu + 1) 1 m = (f_X4_takes 59 m').bind (fun q9 => f_X4_fault_L7 fu q9.1 q9.2) := by
  obtain ⟨m', e, F⟩ := T.2.1 m hB h9
  refine ⟨m', F, ?_⟩
  rw [f_X4_fault_L7, if_neg (by decide), bd_ e]
  dsimp only
  rw [if_neg (by decide)]
theorem read_L (hp : PR pl p) : ∀ (d fc fm t i : Nat) (m : Mem), t + d = 13 → d < fc → d + 2 ≤ fm → 5 * t ≤ i → i ≤ pl → BP m pl p → m.1 45 7 = i → m.1 45 6 = t →
    (∃ (m' : Mem) (n : Nat), f_X1_readAdditions_L12 fc t m = some (-1, m') ∧ m'.1 45 6 = ((t + n : Nat) : Int) ∧ t + n ≤ 12 ∧ FC m m' ∧ (∀ c, 47 ≤ c ∧ c ≤ 50 → ∀ j, j < t → m'.1 c j = m.1 c j) ∧ (∀ M, B4 M pl p → M.1 51 9 = i → ∃ M' j, f_X4_fault_L7 fm 1 M = some (-5, M') ∧ FM M M' j) ∧ P2 pl p i t n m'.1) ∨
    (∃ (m' : Mem) (v : Nat), v ≤ 60 ∧ f_X1_readAdditions_L12 fc t m = some ((v : Int), m') ∧ FC m m' ∧ (∀ M, B4 M pl p → M.1 51 9 = i → ∃ M' j, f_X4_fault_L7 fm 1 M = some ((v : Int), M') ∧ FM M M' j)) := by
  have h60 := hp.1
  intro d
  induction d with
  | zero => intro fc fm t i m h1 _ _ h4 h5; omega
  | succ d ih =>
    intro fc fm t i m h1 h2 h3 h4 h5 hB h7 h6
    obtain ⟨c, rfl⟩ : ∃ c, fc = c + 1 := ⟨fc - 1, by omega⟩
    obtain ⟨f, rfl⟩ : ∃ f, fm = f + 1 + 1 := ⟨fm - 2, by omega⟩
    rcases ad_ex hp i h5 with ⟨j, x, g, l, k, j1, j2, T⟩ | ⟨j, j1, j2, A⟩
    · have eC := T.1 m t hB h7 h6 (by omega)
      have hF1 : FC m (ntd (pp m (j : Int)) t x g l k) := FC.pd.tr FC.n
      have hB1 := hB.f hF1
      have e7 : (ntd (pp m (j : Int)) t x g l k).1 45 7 = j := by rw [nd7, pp7]
      have hpp := pp_id e7
      have same : ∀ c, 47 ≤ c ∧ c ≤ 50 → ∀ q, q < t → (ntd (pp m (j : Int)) t x g l k).1 c q = m.1 c q := fun c hc q hq => by rw [nd_o hc (by omega), ppc (by omega)]
      by_cases zj : j < pl
      · have stepC : f_X1_readAdditions_L12 (c + 1) t m = (f_X1_takes 59 (ntd (pp m (j : Int)) t x g l k)).bind (fun q9 => if q9.1 = 0 then (some ((q9.2.1 45 7), q9.2)) else (mmK (inR ((t : Int) + 1)) (f_X1_readAdditions_L12 c ((t : Int) + 1) q9.2))) := by
          rw [f_X1_readAdditions_L12, if_neg (by omega), bd_ eC]
          dsimp only
          rw [if_neg (by decide), e7, hB1.1, if_pos (by omega)]
        by_cases z59 : nx pl p j = 59
        · have tk := c_tk_t hp hB1 j (show (0 : Int) ≤ 59 by decide) z59
          rw [hpp] at tk
          have eC2 : f_X1_readAdditions_L12 (c + 1) t m = f_X1_readAdditions_L12 c ((t + 1 : Nat) : Int) (pp (ntd (pp m (j : Int)) t x g l k) ((j + 1 : Nat) : Int)) := by
            rw [stepC, bd_ tk]
            dsimp only
            rw [if_neg (by decide), mmK_p (by constructor <;> omega), ci_1]
          have eM2 : ∀ M, B4 M pl p → M.1 51 9 = i → ∃ M1, FM M M1 (j + 1) ∧ f_X4_fault_L7 (f + 1 + 1) 1 M = f_X4_fault_L7 (f + 1) 1 M1 := by
            intro M hM h9
            obtain ⟨M0, F, e⟩ := fa_T (fu := f + 1) T hM h9
            have tk4 := m_tk_t (x := M0.1 51 10) hp (hM.f F) j (show (0 : Int) ≤ 59 by decide) z59
            rw [qq_id F.1] at tk4
            refine ⟨_, ?_, by rw [e, bd_ tk4]⟩
            exact ⟨qq9, fun c hc => (qqc hc).trans (F.2.1 c hc), F.2.2.1, fun k hk => (qqk (by omega) (by omega)).trans (F.2.2.2 k hk)⟩
          have hF2 := hF1.tr (FC.pd (m := ntd (pp m (j : Int)) t x g l k) (x := ((j + 1 : Nat) : Int)))
          rcases ih c (f + 1) (t + 1) (j + 1) (pp (ntd (pp m (j : Int)) t x g l k) ((j + 1 : Nat) : Int)) (by omega) (by omega) (by omega) (by omega) (by omega) (hB.f hF2) pp7 (by rw [pp6, nd6]) with ⟨m', n, r1, r2, r3, r4, r5, r6, r7⟩ | ⟨m', v, r1, r2, r3, r4⟩
          · refine Or.inl ⟨m', n + 1, eC2.trans r1, by rw [r2, show t + 1 + n = t + (n + 1) by omega], by omega, hF2.tr r4, fun q hq y hy => ?_, fun M hM h9 => ?_, ?_⟩
            · rw [r5 q hq y (by omega), ppc (by omega), same q hq y hy]
            · obtain ⟨M1, F, e⟩ := eM2 M hM h9
              obtain ⟨M', j', e', F'⟩ := r6 M1 (hM.f F) F.1
              exact ⟨M', j', e.trans e', F'.1, fun c hc => (F'.2.1 c hc).trans (F.2.1 c hc), F'.2.2.1.trans F.2.2.1, fun k hk => (F'.2.2.2 k hk).trans (F.2.2.2 k hk)⟩
            · refine p2_cons hp T z59 ?_ ?_ ?_ ?_ r7
              · rw [r5 47 (by omega) t (by omega), ppc (by decide), nd47, if_pos rfl]
              · rw [r5 48 (by omega) t (by omega), ppc (by decide), nd48, if_pos rfl]
              · rw [r5 49 (by omega) t (by omega), ppc (by decide), nd49, if_pos rfl]
              · rw [r5 50 (by omega) t (by omega), ppc (by decide), nd50, if_pos rfl]
          · refine Or.inr ⟨m', v, r1, eC2.trans r2, hF2.tr r3, fun M hM h9 => ?_⟩
            obtain ⟨M1, F, e⟩ := eM2 M hM h9
            obtain ⟨M', j', e', F'⟩ := r4 M1 (hM.f F) F.1
            exact ⟨M', j', e.trans e', F'.1, fun c hc => (F'.2.1 c hc).trans (F.2.1 c hc), F'.2.2.1.trans F.2.2.1, fun k hk => (F'.2.2.2 k hk).trans (F.2.2.2 k hk)⟩
        · have tk := c_tk_f hp hB1 j z59
          rw [hpp] at tk
          refine Or.inr ⟨ntd (pp m (j : Int)) t x g l k, j, by omega, ?_, hF1, fun M hM h9 => ?_⟩
          · rw [stepC, bd_ tk]
            dsimp only
            rw [if_pos rfl, e7]
          · obtain ⟨M0, F, e⟩ := fa_T (fu := f + 1) T hM h9
            have tk4 := m_tk_f (x := M0.1 51 10) hp (hM.f F) j j2 (show (0 : Int) ≤ 59 by decide) z59
            rw [qq_id F.1] at tk4
            refine ⟨M0, j, ?_, F⟩
            have hl : M0.1 51 8 = pl := (hM.f F).1
            rw [e, bd_ tk4]
            dsimp only
            rw [f_X4_fault_L7, if_pos rfl, F.1, hl, if_neg (by omega)]
      · obtain rfl : j = pl := by omega
        refine Or.inl ⟨ntd (pp m (j : Int)) t x g l k, 1, ?_, by rw [nd6], by omega, hF1, same, fun M hM h9 => ?_, ?_⟩
        · rw [f_X1_readAdditions_L12, if_neg (by omega), bd_ eC]
          dsimp only
          rw [if_neg (by decide), e7, hB1.1, if_neg (by omega)]
        · obtain ⟨M0, F, e⟩ := fa_T (fu := f + 1) T hM h9
          have tk4 := m_tk_f (x := M0.1 51 10) hp (hM.f F) j j2 (show (0 : Int) ≤ 59 by decide) (by unfold nx; rw [if_neg (Nat.lt_irrefl _)]; decide)
          rw [qq_id F.1] at tk4
          refine ⟨M0, j, ?_, F⟩
          have hl : M0.1 51 8 = (j : Int) := (hM.f F).1
          rw [e, bd_ tk4]
          dsimp only
          rw [f_X4_fault_L7, if_pos rfl, F.1, hl, if_pos rfl]
        · exact p2_one hp T (by rw [nd47, if_pos rfl]) (by rw [nd48, if_pos rfl]) (by rw [nd49, if_pos rfl]) (by rw [nd50, if_pos rfl])
    · refine Or.inr ⟨pp m (j : Int), j, by omega, ?_, FC.pd, fun M hM h9 => ?_⟩
      · rw [f_X1_readAdditions_L12, if_neg (by omega), bd_ (A.1 m hB h7)]
        dsimp only
        rw [if_pos rfl, pp7]
      · obtain ⟨M', e, F⟩ := A.2 M hM h9
        refine ⟨M', j, ?_, F⟩
        rw [f_X4_fault_L7, if_neg (by decide), bd_ e]
        dsimp only
        rw [if_pos rfl, F.1]
theorem mk_ok (it : Nat → Nat → Int) : ∀ (n i fu : Nat) (m : Mem) (a : AS), n < fu → m.1 45 6 = ((i + n : Nat) : Int) → i + n ≤ 12 → (∀ c, 47 ≤ c ∧ c ≤ 50 → m.1 c = it c) → wfA a N → repS m 7 a → ∃ m', f_X1_makeAdditions_L2 fu 7 i m = some ((mkF it n i a).1, m') ∧ frm 7 12 m m' ∧ repS m' 7 (mkF it n i a).2 := by
  intro n
  induction n with
  | zero =>
    intro i fu m a hf h6 hi hc w hr
    obtain ⟨f, rfl⟩ : ∃ f, fu = f + 1 := ⟨fu - 1, by omega⟩
    rw [f_X1_makeAdditions_L2, if_pos (by omega), h6]
    exact ⟨m, rfl, frm.rf, hr⟩
  | succ n ih =>
    intro i fu m a hf h6 hi hc w hr
    obtain ⟨f, rfl⟩ : ∃ f, fu = f + 1 := ⟨fu - 1, by omega⟩
    have go : ∀ (m2 : Mem) (R : Int × AS), R = itF a (it 47 i) (it 48 i) (it 49 i) (it 50 i) → frm 7 12 m m2 → repS m2 7 R.2 → ∃ m', (if 0 ≤ R.1 then (mmK (inR ((i : Int) + 1)) (f_X1_makeAdditions_L2 f 7 ((i : Int) + 1) m2)) else (if R.1 = (-5) then (mmK (inR ((i : Int) + 1)) (f_X1_makeAdditions_L2 f 7 ((i : Int) + 1) m2)) else (some (R.1, m2)))) = some ((mkF it (n + 1) i a).1, m') ∧ frm 7 12 m m' ∧ repS m' 7 (mkF it (n + 1) i a).2 := by
      intro m2 R hR f2 r2
      have em : mkF it (n + 1) i a = cIf (0 ≤ R.1 ∨ R.1 = -5) (mkF it n (i + 1) R.2) R := by
        subst hR
        rfl
      have wR : wfA R.2 N := by rw [hR]; exact wf_itF w
      rw [em]
      by_cases z : 0 ≤ R.1 ∨ R.1 = -5
      · obtain ⟨m3, e3, f3, r3⟩ := ih (i + 1) f m2 R.2 (by omega) (by rw [f2.1 45 (by omega), h6, show i + (n + 1) = i + 1 + n by omega]) (by omega) (fun c q => by rw [f2.1 c (by omega)]; exact hc c q) wR r2
        rw [cIf_t z]
        refine ⟨m3, ?_, f2.tr f3, r3⟩
        by_cases y : 0 ≤ R.1
        · rw [if_pos y, mmK_p (by constructor <;> omega), ci_1]; exact e3
        · rw [if_neg y, if_pos (by omega), mmK_p (by constructor <;> omega), ci_1]; exact e3
      · rw [cIf_f z, if_neg (by omega), if_neg (by omega)]
        exact ⟨m2, rfl, f2, r2⟩
    rw [f_X1_makeAdditions_L2, if_neg (by omega), if_neg (by omega), mmK_p (by omega), tN, hc 48 (by omega)]
    by_cases zg : it 48 i = -5
    · rw [if_pos zg, mmK_p (by omega), mmK_p (by omega), mmK_p (by omega), hc 47 (by omega), hc 49 (by omega), hc 50 (by omega)]
      obtain ⟨m2, e2, f2, r2⟩ := add_cls (x := it 47 i) (l := it 49 i) (k := it 50 i) hr w
      rw [bd_ e2]
      exact go m2 _ (cIf_t zg).symm f2 r2
    · rw [if_neg zg, mmK_p (by omega), mmK_p (by omega), hc 47 (by omega)]
      obtain ⟨m2, e2, f2, r2⟩ := ali_cls (x := it 47 i) (g := it 48 i) hr w
      rw [bd_ e2]
      exact go m2 _ (cIf_f zg).symm f2 r2
theorem r59 : ∀ (d fu i : Nat) (m : Mem), i + d = 149 → d < fu → ∃ m2, f_X4_addAll_L59 fu i m = some (m.1 51 11, m2) ∧ (∀ c, c ≠ 52 → m2.1 c = m.1 c) ∧ m2.2 = m.2 ∧ ∀ q, m2.1 52 q = if i ≤ q ∧ q < 149 then m.1 53 q else m.1 52 q := by
  intro d
  induction d with
  | zero =>
    intro fu i m hi hf
    obtain ⟨z, rfl⟩ : ∃ z, fu = z + 1 := ⟨fu - 1, by omega⟩
    rw [f_X4_addAll_L59, if_pos (by omega)]
    exact ⟨m, rfl, fun _ _ => rfl, rfl, fun q => by rw [if_neg (by omega)]⟩
  | succ d ih =>
    intro fu i m hi hf
    obtain ⟨z, rfl⟩ : ∃ z, fu = z + 1 := ⟨fu - 1, by omega⟩
    rw [f_X4_addAll_L59, if_neg (by omega), mmK_p (by omega), mmK_p (by omega), mmK_p (by constructor <;> omega), ci_1, tN]
    obtain ⟨m1, e1, f1, f2, c1⟩ := ih z (i + 1) (mwr m 52 i (m.1 53 i)) (by omega) (by omega)
    rw [show (mwr m 52 i (m.1 53 i)).1 51 = m.1 51 from mwr_ne (by decide)] at e1
    refine ⟨m1, e1, fun c hc => (f1 c hc).trans (mwr_ne hc), f2, fun q => ?_⟩
    rw [c1 q, mwr_ne (by decide), mwr_self]
    by_cases z : i + 1 ≤ q ∧ q < 149
    · rw [if_pos z, if_pos (by omega)]
    · rw [if_neg z]
      by_cases z2 : q = i
      · rw [if_pos z2, if_pos (by omega), z2]
      · rw [if_neg z2, if_neg (by omega)]
end AA
