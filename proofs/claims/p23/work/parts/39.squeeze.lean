noncomputable def midA (a : AS) (b : Int) : AS := (a.1, fun k j => cIf (k = 2 ∧ a.2.1 2 j < b) (layW a (lenW a) (a.2.1 2 j).toNat) (a.2.1 k j), a.2.2)
noncomputable def sqA (a : AS) : AS := (a.1, (midA a 100).2.1, fun k => if k = 1 then layW a (lenW a) 100 else if k = 2 then a.2.2 2 + 1 else if k = 3 then a.2.2 3 + (a.2.2 1 - layW a (lenW a) 100) else a.2.2 k)
noncomputable def setF (c : AS) (u t : Int) (i : Nat) : AS := (c.1, fun k j => cIf (k = 2 ∧ j < i ∧ c.2.1 2 j = u) t (c.2.1 k j), c.2.2)
section SQ
variable {m : Mem} {o : Nat} {a : AS} {N : Int}
theorem lay_B (w : wfA a N) : ∀ (u : Nat) (B : Int), 0 ≤ B → (∀ j, j < a.1 → a.2.1 2 j < u → a.2.1 2 j + a.2.1 3 j ≤ B) → layW a (lenW a) u ≤ B := by
  intro u
  induction u with
  | zero => intro B hB _; exact hB
  | succ u ih =>
    intro B hB h
    rw [lay_s]
    by_cases z : ∃ j, j < a.1 ∧ a.2.1 2 j = (u : Int)
    · obtain ⟨j, hj, e⟩ := z
      rw [tx_at (len_cg w) j hj e]
      have h1 := ih (u : Int) (by omega) (fun i hi hlt => by
        have := w.2.2.2.2 i j hi hj (by omega)
        omega)
      have h2 := h j hj (by omega)
      unfold lenW at *
      omega
    · rw [tx_no (fun j hj e => z ⟨j, hj, e⟩)]
      have := ih B hB (fun j hj hlt => h j hj (by omega))
      omega
theorem lay_st (w : wfA a N) (j : Nat) (hj : j < a.1) : layW a (lenW a) (a.2.1 2 j).toNat ≤ a.2.1 2 j := by
  have := st_rg w j hj
  exact lay_B w _ _ (by omega) (fun i hi hlt => w.2.2.2.2 i j hi hj (by omega))
theorem lay_end (w : wfA a N) : layW a (lenW a) 100 ≤ a.2.2 1 := lay_B w 100 _ w.1.2.2.2.1 (fun j hj _ => (w.2.2.1 j hj).2.2.2.2.2.2.1)
theorem lay_nx (w : wfA a N) (j : Nat) (hj : j < a.1) : layW a (lenW a) ((a.2.1 2 j).toNat + 1) = layW a (lenW a) (a.2.1 2 j).toNat + a.2.1 3 j := by
  have := st_rg w j hj
  rw [lay_s, tx_at (len_cg w) j hj (by omega)]
  rfl
theorem lay_le (w : wfA a N) {b c : Nat} (h : b ≤ c) : layW a (lenW a) b ≤ layW a (lenW a) c := by
  obtain ⟨d, rfl⟩ : ∃ d, c = b + d := ⟨c - b, by omega⟩
  exact lay_mo w.n24 (len_rg w) b d
theorem mid2 (b : Int) (j : Nat) (h : a.2.1 2 j < b) : (midA a b).2.1 2 j = layW a (lenW a) (a.2.1 2 j).toNat := cIf_t ⟨rfl, h⟩
theorem mid2n (b : Int) (j : Nat) (h : ¬ a.2.1 2 j < b) : (midA a b).2.1 2 j = a.2.1 2 j := cIf_f (fun q => h q.2)
theorem midk (b : Int) (k j : Nat) (h : k ≠ 2) : (midA a b).2.1 k j = a.2.1 k j := cIf_f (fun q => h q.1)
theorem wf_sq (w : wfA a N) : wfA (sqA a) (N + 1) := by
  have hw := w.1
  have hrg := lay_rg w.n24 (len_rg w) 100
  have hend := lay_end w
  have m2 : ∀ j, j < a.1 → (sqA a).2.1 2 j = layW a (lenW a) (a.2.1 2 j).toNat := fun j hj => mid2 100 j (by have := st_rg w j hj; omega)
  have mk : ∀ k j, k ≠ 2 → (sqA a).2.1 k j = a.2.1 k j := fun k j h => midk 100 k j h
  have e1 : (sqA a).1 = a.1 := rfl
  have s0 : (sqA a).2.2 0 = a.2.2 0 := rfl
  have s1 : (sqA a).2.2 1 = layW a (lenW a) 100 := rfl
  have s2 : (sqA a).2.2 2 = a.2.2 2 + 1 := rfl
  have s3 : (sqA a).2.2 3 = a.2.2 3 + (a.2.2 1 - layW a (lenW a) 100) := rfl
  have sep : ∀ i j, i < a.1 → j < a.1 → a.2.1 2 i < a.2.1 2 j → layW a (lenW a) (a.2.1 2 i).toNat + a.2.1 3 i ≤ layW a (lenW a) (a.2.1 2 j).toNat := by
    intro i j hi hj h
    have := st_rg w i hi
    have := st_rg w j hj
    rw [← lay_nx w i hi]
    exact lay_le w (by omega)
  refine ⟨⟨by rw [e1, s0]; exact hw.1, by rw [s0]; exact hw.2.1, by rw [s0]; exact hw.2.2.1, by rw [s1]; exact hrg.1, by rw [s1]; omega, by rw [s2]; omega, by rw [s2]; omega, by rw [s3]; omega, by rw [s3]; omega⟩, ?_, ?_, ?_, ?_⟩
  · intro i j hij hj
    rw [mk 0 i (by decide), mk 0 j (by decide)]
    exact w.2.1 i j hij hj
  · intro i hi
    have hi : i < a.1 := hi
    obtain ⟨g1, g2, g3, g4, g5, g6, g7, g8, g9⟩ := w.2.2.1 i hi
    have hs := st_rg w i hi
    have hl := lay_nx w i hi
    have hle := lay_le w (show (a.2.1 2 i).toNat + 1 ≤ 100 by omega)
    have h0 := (lay_rg w.n24 (len_rg w) (a.2.1 2 i).toNat).1
    rw [mk 0 i (by decide), mk 1 i (by decide), m2 i hi, mk 3 i (by decide), mk 4 i (by decide), s1]
    exact ⟨g1, g2, g3, h0, g5, g6, by omega, g8, g9⟩
  · intro i j hi hj
    have hi : i < a.1 := hi
    have hj : j < a.1 := hj
    rw [m2 i hi, m2 j hj, mk 3 i (by decide), mk 3 j (by decide)]
    intro e
    have b1 := (w.2.2.1 i hi).2.2.2.2.1
    have b2 := (w.2.2.1 j hj).2.2.2.2.1
    rcases Int.lt_trichotomy (a.2.1 2 i) (a.2.1 2 j) with z | z | z
    · have := sep i j hi hj z; omega
    · exact w.2.2.2.1 i j hi hj z
    · have := sep j i hj hi z; omega
  · intro i j hi hj
    have hi : i < a.1 := hi
    have hj : j < a.1 := hj
    rw [m2 i hi, m2 j hj, mk 3 i (by decide)]
    intro e
    have b1 := (w.2.2.1 i hi).2.2.2.2.1
    have b2 := (w.2.2.1 j hj).2.2.2.2.1
    rcases Int.lt_trichotomy (a.2.1 2 i) (a.2.1 2 j) with z | z | z
    · exact sep i j hi hj z
    · rw [z] at e; omega
    · have := sep j i hj hi z; omega
/-- the class's side -/
theorem mv_L {c : AS} (hn : c.1 ≤ 24) (u t L : Int) (hL : ∀ j, j < c.1 → c.2.1 2 j = u → c.2.1 3 j = L) : ∀ (d fu i : Nat) (m : Mem), i + d = c.1 → d < fu → repS m o (setF c u t i) → ∃ m', f_X2_moveText_L5 fu o u t (cIf (∃ j, j < i ∧ c.2.1 2 j = u) L 0) i m = some (cIf (∃ j, j < c.1 ∧ c.2.1 2 j = u) L 0, m') ∧ frm o (o + 5) m m' ∧ repS m' o (setF c u t c.1) := by
  intro d
  induction d with
  | zero =>
    intro fu i m hi hf hr
    obtain ⟨k, rfl⟩ : ∃ k, fu = k + 1 := ⟨fu - 1, by omega⟩
    have h1 := hr.1
    have e1 : (setF c u t i).1 = c.1 := rfl
    rw [f_X2_moveText_L5, if_pos (by omega)]
    rw [show i = c.1 by omega] at hr ⊢
    exact ⟨m, rfl, frm.rf, hr⟩
  | succ d ih =>
    intro fu i m hi hf hr
    obtain ⟨k, rfl⟩ : ∃ k, fu = k + 1 := ⟨fu - 1, by omega⟩
    have h1 := hr.1
    have e1 : (setF c u t i).1 = c.1 := rfl
    have hil : i < c.1 := by omega
    have g3 : m.1 (o + 3) i = c.2.1 2 i := by
      have := (hr.2.2.2.2.2 i hil).2.2.1
      rw [this]
      exact cIf_f (fun q => absurd q.2.1 (Nat.lt_irrefl i))
    have g4 : m.1 (o + 4) i = c.2.1 3 i := by
      have := (hr.2.2.2.2.2 i hil).2.2.2.1
      rw [this]
      exact cIf_f (fun q => absurd q.1 (by decide))
    rw [f_X2_moveText_L5, if_neg (by omega), mmK_p (by omega), tN, g3]
    by_cases z : c.2.1 2 i = u
    · rw [if_pos z, mmK_p (by omega), mmK_p (by omega), mmK_p (by constructor <;> omega), ci_1, mwr_ne (by omega), g4, hL i hil z]
      have hr' : repS (mwr m (o + 3) i t) o (setF c u t (i + 1)) := by
        obtain ⟨q1, q2, q3, q4, q5, -⟩ := id hr
        refine repS.mk5 (by rw [mwr_ne (by omega)]; exact q1) (by rw [mwr_ne (by omega)]; exact q2) (by rw [mwr_ne (by omega)]; exact q3) (by rw [mwr_ne (by omega)]; exact q4) (by rw [mwr_ne (by omega)]; exact q5) (fun k j hk hj => ?_)
        have hj : j < c.1 := hj
        have hcol := hr.col hk (r := j) hj
        by_cases zk : k = 2
        · subst zk
          by_cases zj : j = i
          · rw [show o + (2 + 1) = o + 3 from rfl, mwr_self, if_pos zj]
            exact (cIf_t ⟨rfl, by omega, by rw [zj]; exact z⟩).symm
          · rw [show o + (2 + 1) = o + 3 from rfl, mwr_self, if_neg zj]
            refine hcol.trans ?_
            by_cases zc : j < i ∧ c.2.1 2 j = u
            · exact (cIf_t ⟨rfl, zc⟩).trans (cIf_t ⟨rfl, by omega, zc.2⟩).symm
            · exact (cIf_f (fun q => zc q.2)).trans (cIf_f (fun q => zc ⟨by omega, q.2.2⟩)).symm
        · rw [mwr_ne (by omega)]
          exact hcol.trans ((cIf_f (fun q => zk q.1)).trans (cIf_f (fun q => zk q.1)).symm)
      obtain ⟨m', e', f', r'⟩ := ih k (i + 1) _ (by omega) (by omega) hr'
      rw [cIf_t ⟨i, by omega, z⟩] at e'
      exact ⟨m', e', (frm.wr (by omega) (by omega)).tr f', r'⟩
    · rw [if_neg z, mmK_p (by constructor <;> omega), ci_1]
      have hr' : repS m o (setF c u t (i + 1)) := hr.cg rfl (fun _ => rfl) (fun k j hk hj => by
        by_cases zc : k = 2 ∧ j < i ∧ c.2.1 2 j = u
        · exact (cIf_t zc).trans (cIf_t ⟨zc.1, by omega, zc.2.2⟩).symm
        · refine (cIf_f zc).trans (cIf_f (fun q => ?_)).symm
          rcases Nat.lt_or_ge j i with y | y
          · exact zc ⟨q.1, y, q.2.2⟩
          · exact z (by rw [show i = j by omega]; exact q.2.2))
      obtain ⟨m', e', f', r'⟩ := ih k (i + 1) _ (by omega) (by omega) hr'
      refine ⟨m', ?_, f', r'⟩
      rw [← e']
      congr 1
      by_cases zc : ∃ j, j < i ∧ c.2.1 2 j = u
      · obtain ⟨j, j1, j2⟩ := id zc
        rw [cIf_t zc, cIf_t ⟨j, by omega, j2⟩]
      · rw [cIf_f zc, cIf_f (by
          rintro ⟨j, j1, j2⟩
          rcases Nat.lt_or_ge j i with y | y
          · exact zc ⟨j, y, j2⟩
          · exact z (by rw [show i = j by omega]; exact j2))]
theorem setF0 (c : AS) (u t : Int) (h : repS m o c) : repS m o (setF c u t 0) := h.cg rfl (fun _ => rfl) (fun k j _ _ => (cIf_f (fun q => absurd q.2.1 (Nat.not_lt_zero j))).symm)
theorem mv_mid (w : wfA a N) (u : Nat) (hu : u < 100) (h : repS m o (midA a u)) : ∃ m', f_X2_moveText o u (layW a (lenW a) u) m = some (txW a (lenW a) u, m') ∧ frm o (o + 5) m m' ∧ repS m' o (midA a ((u + 1 : Nat) : Int)) := by
  have hcst : ∀ j, j < a.1 → ((midA a u).2.1 2 j = (u : Int) ↔ a.2.1 2 j = (u : Int)) := by
    intro j hj
    by_cases z : a.2.1 2 j < (u : Int)
    · rw [mid2 _ j z]
      have := lay_st w j hj
      omega
    · rw [mid2n _ j z]
  by_cases zt : ∃ j, j < a.1 ∧ a.2.1 2 j = (u : Int)
  · obtain ⟨j0, hj0, e0⟩ := zt
    have hL : ∀ j, j < (midA a u).1 → (midA a u).2.1 2 j = (u : Int) → (midA a u).2.1 3 j = txW a (lenW a) u := by
      intro j hj e
      rw [midk _ 3 j (by decide), tx_at (len_cg w) j hj ((hcst j hj).mp e)]
      rfl
    obtain ⟨m', e', f', r'⟩ := mv_L (o := o) (c := midA a u) w.n24 u (layW a (lenW a) u) (txW a (lenW a) u) hL a.1 mmFU 0 m (by show 0 + a.1 = a.1; omega) (by have := w.n24; unfold mmFU; omega) (setF0 _ _ _ h)
    rw [cIf_f (by rintro ⟨j, j1, _⟩; exact absurd j1 (Nat.not_lt_zero j)), cIf_t ⟨j0, hj0, (hcst j0 hj0).mpr e0⟩] at e'
    refine ⟨m', e', f', r'.cg rfl (fun _ => rfl) (fun k j hk hj => ?_)⟩
    have hj : j < a.1 := hj
    by_cases zk : k = 2
    · subst zk
      by_cases ze : a.2.1 2 j = (u : Int)
      · rw [mid2 _ j (by omega)]
        refine (cIf_t ⟨rfl, hj, (hcst j hj).mpr ze⟩).trans ?_
        rw [show (a.2.1 2 j).toNat = u by omega]
      · refine (cIf_f (fun q => ze ((hcst j hj).mp q.2.2))).trans ?_
        by_cases zl : a.2.1 2 j < (u : Int)
        · rw [mid2 _ j zl, mid2 _ j (by omega)]
        · rw [mid2n _ j zl, mid2n _ j (by omega)]
    · refine (cIf_f (fun q => zk q.1)).trans ?_
      rw [midk _ k j zk, midk _ k j zk]
  · have hL : ∀ j, j < (midA a u).1 → (midA a u).2.1 2 j = (u : Int) → (midA a u).2.1 3 j = 0 := fun j hj e => absurd ⟨j, hj, (hcst j hj).mp e⟩ zt
    obtain ⟨m', e', f', r'⟩ := mv_L (o := o) (c := midA a u) w.n24 u (layW a (lenW a) u) 0 hL a.1 mmFU 0 m (by show 0 + a.1 = a.1; omega) (by have := w.n24; unfold mmFU; omega) (setF0 _ _ _ h)
    rw [cIf_f (by rintro ⟨j, j1, _⟩; exact absurd j1 (Nat.not_lt_zero j)), cIf_f (by rintro ⟨j, j1, j2⟩; exact zt ⟨j, j1, (hcst j j1).mp j2⟩)] at e'
    rw [tx_no (fun j hj e => zt ⟨j, hj, e⟩)]
    refine ⟨m', e', f', r'.cg rfl (fun _ => rfl) (fun k j hk hj => ?_)⟩
    have hj : j < a.1 := hj
    by_cases zk : k = 2
    · subst zk
      have ze : ¬ a.2.1 2 j = (u : Int) := fun e => zt ⟨j, hj, e⟩
      refine (cIf_f (fun q => ze ((hcst j hj).mp q.2.2))).trans ?_
      by_cases zl : a.2.1 2 j < (u : Int)
      · rw [mid2 _ j zl, mid2 _ j (by omega)]
      · rw [mid2n _ j zl, mid2n _ j (by omega)]
    · refine (cIf_f (fun q => zk q.1)).trans ?_
      rw [midk _ k j zk, midk _ k j zk]
theorem cu_L (w : wfA a N) (hN : N ≤ 1000000) : ∀ (d fu u : Nat) (m : Mem), u + d = 100 → d < fu → repS m o (midA a u) → ∃ m', f_X2_closeUp_L4 fu o (layW a (lenW a) u) u m = some (a.2.2 1 - layW a (lenW a) 100, m') ∧ frm o (o + 5) m m' ∧ repS m' o (sqA a) := by
  have hw := w.1
  intro d
  induction d with
  | zero =>
    intro fu u m hu hf hr
    obtain ⟨k, rfl⟩ : ∃ k, fu = k + 1 := ⟨fu - 1, by omega⟩
    obtain rfl : u = 100 := by omega
    obtain ⟨q1, q2, q3, q4, q5, -⟩ := id hr
    have hrg := lay_rg w.n24 (len_rg w) 100
    have hend := lay_end w
    have q2' : m.1 o 6 = a.2.2 0 := q2
    have q3' : m.1 o 7 = a.2.2 1 := q3
    have q4' : m.1 o 8 = a.2.2 2 := q4
    have q5' : m.1 o 9 = a.2.2 3 := q5
    rw [f_X2_closeUp_L4, if_pos (by omega), q3', q4', q5', mmK_p (by constructor <;> omega), mmK_p (by constructor <;> omega), mmK_p (by constructor <;> omega)]
    refine ⟨_, rfl, ((frm.wr (by omega) (by omega)).tr (frm.wr (by omega) (by omega))).tr (frm.wr (by omega) (by omega)), ?_⟩
    refine repS.mk5 ?_ ?_ ?_ ?_ ?_ (fun k j hk hj => ?_)
    · rw [mwr_self, if_neg (by decide), mwr_self, if_neg (by decide), mwr_self, if_neg (by decide)]; exact q1
    · rw [mwr_self, if_neg (by decide), mwr_self, if_neg (by decide), mwr_self, if_neg (by decide)]; exact q2
    · rw [mwr_self, if_neg (by decide), mwr_self, if_neg (by decide), mwr_self, if_pos rfl]; rfl
    · rw [mwr_self, if_neg (by decide), mwr_self, if_pos rfl]; rfl
    · rw [mwr_self, if_pos rfl]; rfl
    · rw [mwr_ne (by omega), mwr_ne (by omega), mwr_ne (by omega)]
      exact hr.col hk hj
  | succ d ih =>
    intro fu u m hu hf hr
    obtain ⟨k, rfl⟩ : ∃ k, fu = k + 1 := ⟨fu - 1, by omega⟩
    have hrg := lay_rg w.n24 (len_rg w) u
    have htx := tx_rg w.n24 (len_rg w) u
    obtain ⟨m1, e1, f1, r1⟩ := mv_mid w u (by omega) hr
    obtain ⟨m2, e2, f2, r2⟩ := ih k (u + 1) m1 (by omega) (by omega) r1
    rw [lay_s] at e2
    rw [f_X2_closeUp_L4, if_neg (by omega), bd_ e1]
    dsimp only
    rw [mmK_p (by constructor <;> omega), mmK_p (by constructor <;> omega), ci_1]
    exact ⟨m2, e2, f1.tr f2, r2⟩
theorem mid0 (w : wfA a N) (h : repS m o a) : repS m o (midA a ((0 : Nat) : Int)) := h.cg rfl (fun _ => rfl) (fun k j _ hj => (cIf_f (fun q => by have := st_rg w j hj; omega)).symm)
theorem cu_ok (w : wfA a N) (hN : N ≤ 1000000) (h : repS m o a) : ∃ m', f_X2_closeUp o m = some (a.2.2 1 - layW a (lenW a) 100, m') ∧ frm o (o + 5) m m' ∧ repS m' o (sqA a) :=
  cu_L w hN 100 mmFU 0 m (by omega) (by unfold mmFU; omega) (mid0 w h)
end SQ
section SQ2
variable {a : AS} {N : Int} {m : Mem}
noncomputable def sqzF (a : AS) : Int × AS := cIf (a.2.2 1 - layW a (lenW a) 100 = 0) (-5, a) (a.2.2 1 - layW a (lenW a) 100, sqA a)
noncomputable def anwF (a : AS) (l : Int) : Int × AS := cIf (¬ (1 ≤ l ∧ l ≤ 6)) (-2, a) (cIf (¬ (a.1 : Int) ≤ 4 * l) (-6, a) (cIf (l = a.2.2 0) (-5, a) (a.2.2 0, sqA (scA a 0 l))))
theorem wf_sqzF (w : wfA a N) : wfA (sqzF a).2 (N + 1) := by
  unfold sqzF
  by_cases h : a.2.2 1 - layW a (lenW a) 100 = 0
  · rw [cIf_t h]; exact w.mono (by omega)
  · rw [cIf_f h]; exact wf_sq w
theorem wf_anwF {l : Int} (w : wfA a N) : wfA (anwF a l).2 (N + 1) := by
  unfold anwF
  by_cases h1 : ¬ (1 ≤ l ∧ l ≤ 6)
  · rw [cIf_t h1]; exact w.mono (by omega)
  rw [cIf_f h1]
  by_cases h2 : ¬ (a.1 : Int) ≤ 4 * l
  · rw [cIf_t h2]; exact w.mono (by omega)
  rw [cIf_f h2]
  by_cases h3 : l = a.2.2 0
  · rw [cIf_t h3]; exact w.mono (by omega)
  rw [cIf_f h3]
  exact wf_sq (wf_blk w (by omega) (by omega))
theorem sqz_cls {o : Nat} (w : wfA a N) (hN : N ≤ 1000000) (h : repS m o a) : didS (f_X2_giveBackDeadRoom o m) m o (sqzF a) := by
  have hw := w.1
  have hrg := lay_rg w.n24 (len_rg w) 100
  have hend := lay_end w
  have ed : f_X2_deadUnits o m = some (a.2.2 1 - layW a (lenW a) 100, m) := by
    unfold f_X2_deadUnits
    rw [bd_ (lvu_c h w), h.2.2.1]
    dsimp only
    rw [mmK_p (by constructor <;> omega)]
  unfold f_X2_giveBackDeadRoom didS sqzF
  rw [bd_ ed]
  dsimp only
  by_cases z : a.2.2 1 - layW a (lenW a) 100 = 0
  · rw [if_pos z, cIf_t z]
    exact ⟨m, rfl, frm.rf, h⟩
  · rw [if_neg z, cIf_f z]
    obtain ⟨m', e', f', r'⟩ := cu_ok w hN h
    rw [bd_ e']
    exact ⟨m', rfl, f', r'⟩
theorem anw_cls {o : Nat} {l : Int} (w : wfA a N) (hN : N ≤ 1000000) (h : repS m o a) : didS (f_X2_changeBlocks o l m) m o (anwF a l) := by
  have hw := w.1
  have h24 := w.n24
  obtain ⟨q1, q2, q3, q4, q5, -⟩ := id h
  unfold f_X2_changeBlocks didS anwF
  by_cases h1 : 1 ≤ l ∧ l ≤ 6
  · rw [if_neg (by omega), if_pos (by omega), cIf_f (Classical.not_not.mpr h1), mmK_p (by constructor <;> omega), q1, q2]
    by_cases h2 : (a.1 : Int) ≤ 4 * l
    · rw [if_pos (by omega), cIf_f (Classical.not_not.mpr h2)]
      by_cases h3 : l = a.2.2 0
      · rw [if_pos h3, cIf_t h3]
        exact ⟨m, rfl, frm.rf, h⟩
      · rw [if_neg h3, cIf_f h3]
        have hr : repS (mwr m o 6 l) o (scA a 0 l) := by
          refine repS.mk5 ?_ ?_ ?_ ?_ ?_ (fun k j hk hj => ?_)
          · rw [mwr_self, if_neg (by decide)]; exact q1
          · rw [mwr_self, if_pos rfl]; rfl
          · rw [mwr_self, if_neg (by decide)]; exact q3
          · rw [mwr_self, if_neg (by decide)]; exact q4
          · rw [mwr_self, if_neg (by decide)]; exact q5
          · rw [mwr_ne (by omega)]; exact h.col hk hj
        obtain ⟨m', e', f', r'⟩ := cu_ok (wf_blk w (by omega) (by omega)) hN hr
        rw [bd_ e']
        exact ⟨m', rfl, (frm.wr (by omega) (by omega)).tr f', r'⟩
    · rw [if_neg (by omega), cIf_t h2]
      exact ⟨m, rfl, frm.rf, h⟩
  · rw [cIf_t h1]
    by_cases h0 : l < 1
    · rw [if_pos h0]; exact ⟨m, rfl, frm.rf, h⟩
    · rw [if_neg h0, if_neg (by omega)]; exact ⟨m, rfl, frm.rf, h⟩
end SQ2
