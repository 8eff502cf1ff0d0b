/-! TEXTS IN THEIR ORDER -/
theorem sumN_zero {f : Nat → Int} (n : Nat) (h : ∀ j, j < n → f j = 0) : sumN f n = 0 := by
  induction n with
  | zero => rfl
  | succ n ih => simp only [sumN]; rw [ih (fun j hj => h j (by omega)), h n (by omega)]; rfl
theorem sumN_one {f : Nat → Int} (n r : Nat) (hr : r < n) (h : ∀ j, j < n → j ≠ r → f j = 0) : sumN f n = f r := by
  induction n with
  | zero => omega
  | succ n ih =>
    simp only [sumN]
    by_cases z : r = n
    · subst z
      rw [sumN_zero r (fun j hj => h j (by omega) (by omega))]; omega
    · rw [ih (by omega) (fun j hj hne => h j (by omega) hne), h n (by omega) (by omega)]; omega
theorem sumN_lt {f : Nat → Int} {c : Int} (n : Nat) (h : ∀ j, j < n → f j ≤ c) : sumN f n ≤ c * n := by
  induction n with
  | zero => simp [sumN]
  | succ n ih =>
    have := h n (by omega)
    have := ih (fun j hj => h j (by omega))
    simp only [sumN, Int.natCast_add, Int.mul_add]
    omega
theorem sumN_add {f g : Nat → Int} (n : Nat) : sumN (fun j => f j + g j) n = sumN f n + sumN g n := by
  induction n with
  | zero => rfl
  | succ n ih => simp only [sumN]; rw [ih]; omega
def fstT (a : AS) (j : Nat) : Prop := ∀ i, i < j → ¬ a.2.1 2 i = a.2.1 2 j
noncomputable def txW (a : AS) (w : Nat → Int) (u : Int) : Int := sumN (fun j => cIf (fstT a j ∧ a.2.1 2 j = u) (w j) 0) a.1
noncomputable def layW (a : AS) (w : Nat → Int) (k : Nat) : Int := sumN (fun u => txW a w u) k
theorem tx_no {a : AS} {w : Nat → Int} {u : Int} (h : ∀ j, j < a.1 → ¬ a.2.1 2 j = u) : txW a w u = 0 := sumN_zero _ (fun j hj => cIf_f (fun q => h j hj q.2))
theorem tx_at {a : AS} {w : Nat → Int} {u : Int} (hw : ∀ i j, i < a.1 → j < a.1 → a.2.1 2 i = a.2.1 2 j → w i = w j) (j : Nat) (hj : j < a.1) (hu : a.2.1 2 j = u) : txW a w u = w j := by
  rcases fst_dec (fun i => a.2.1 2 i = u) a.1 with ⟨r, h1, h2, h3⟩ | h
  · unfold txW
    rw [sumN_one a.1 r h1 (fun i hi hne => ?_), cIf_t ⟨fun i hi q => h3 i hi (q.trans h2), h2⟩]
    · exact hw r j h1 hj (h2.trans hu.symm)
    · refine cIf_f (fun q => ?_)
      rcases Nat.lt_trichotomy i r with z | z | z
      · exact h3 i z q.2
      · exact hne z
      · exact q.1 r z (h2.trans q.2.symm)
  · exact absurd hu (h j hj)
theorem lay_ex {n K : Nat} {P : Nat → Prop} {s w : Nat → Int} (h : ∀ j, j < n → 0 ≤ s j ∧ s j < K) : sumN (fun u => sumN (fun j => cIf (P j ∧ s j = (u : Int)) (w j) 0) n) K = sumN (fun j => cIf (P j) (w j) 0) n := by
  induction n with
  | zero => exact sumN_zero _ (fun j _ => rfl)
  | succ n ih =>
    have e1 : sumN (fun u => sumN (fun j => cIf (P j ∧ s j = ((u : Nat) : Int)) (w j) 0) (n + 1)) K = sumN (fun u => sumN (fun j => cIf (P j ∧ s j = ((u : Nat) : Int)) (w j) 0) n + cIf (P n ∧ s n = ((u : Nat) : Int)) (w n) 0) K := rfl
    rw [e1, sumN_add, ih (fun j hj => h j (by omega))]
    have hn := h n (by omega)
    have e2 : sumN (fun u => cIf (P n ∧ s n = ((u : Nat) : Int)) (w n) 0) K = cIf (P n) (w n) 0 := by
      rw [sumN_one K (s n).toNat (by omega) (fun j hj hne => cIf_f (fun q => hne (by omega)))]
      by_cases z : P n
      · rw [cIf_t z, cIf_t ⟨z, by omega⟩]
      · rw [cIf_f z, cIf_f (fun q => z q.1)]
    rw [e2]
    rfl
theorem lay_gap {a : AS} {w : Nat → Int} (b : Nat) : ∀ d, (∀ j, j < a.1 → ¬ ((b : Int) ≤ a.2.1 2 j ∧ a.2.1 2 j < (b + d : Nat))) → layW a w (b + d) = layW a w b := by
  intro d
  induction d with
  | zero => intro _; rfl
  | succ d ih =>
    intro h
    have e1 : layW a w (b + (d + 1)) = layW a w (b + d) + txW a w ((b + d : Nat) : Int) := rfl
    rw [e1, ih (fun j hj q => h j hj ⟨q.1, by omega⟩), tx_no (fun j hj q => h j hj ⟨by omega, by omega⟩)]
    omega
theorem lay_gap2 {a : AS} {w : Nat → Int} (b c : Nat) (hbc : b ≤ c) (h : ∀ j, j < a.1 → ¬ ((b : Int) ≤ a.2.1 2 j ∧ a.2.1 2 j < (c : Nat))) : layW a w c = layW a w b := by
  obtain ⟨d, rfl⟩ : ∃ d, c = b + d := ⟨c - b, by omega⟩
  exact lay_gap b d h
theorem lay_s (a : AS) (w : Nat → Int) (k : Nat) : layW a w (k + 1) = layW a w k + txW a w (k : Int) := rfl
theorem tx_rg {a : AS} {w : Nat → Int} (h24 : a.1 ≤ 24) (hw : ∀ j, j < a.1 → 0 ≤ w j ∧ w j ≤ 40) (u : Int) : 0 ≤ txW a w u ∧ txW a w u ≤ 960 := by
  have p : ∀ j, j < a.1 → 0 ≤ cIf (fstT a j ∧ a.2.1 2 j = u) (w j) 0 ∧ cIf (fstT a j ∧ a.2.1 2 j = u) (w j) 0 ≤ 40 := by
    intro j hj
    by_cases z : fstT a j ∧ a.2.1 2 j = u
    · rw [cIf_t z]; exact hw j hj
    · rw [cIf_f z]; omega
  have := sumN_lt (c := 40) a.1 (fun j hj => (p j hj).2)
  refine ⟨sumN_ge a.1 (fun j hj => (p j hj).1), ?_⟩
  unfold txW
  omega
theorem lay_rg {a : AS} {w : Nat → Int} (h24 : a.1 ≤ 24) (hw : ∀ j, j < a.1 → 0 ≤ w j ∧ w j ≤ 40) (k : Nat) : 0 ≤ layW a w k ∧ layW a w k ≤ 960 * k :=
  ⟨sumN_ge k (fun j _ => (tx_rg h24 hw _).1), sumN_lt (c := 960) k (fun j _ => (tx_rg h24 hw _).2)⟩
theorem lay_mo {a : AS} {w : Nat → Int} (h24 : a.1 ≤ 24) (hw : ∀ j, j < a.1 → 0 ≤ w j ∧ w j ≤ 40) (b d : Nat) : layW a w b ≤ layW a w (b + d) := by
  induction d with
  | zero => exact Int.le_refl _
  | succ d ih =>
    have e1 : layW a w (b + (d + 1)) = layW a w (b + d) + txW a w ((b + d : Nat) : Int) := rfl
    have := (tx_rg h24 hw ((b + d : Nat) : Int)).1
    omega
def lenW (a : AS) : Nat → Int := a.2.1 3
def oneW : Nat → Int := fun _ => 1
section LV
variable {m : Mem} {o : Nat} {a : AS} {N : Int}
theorem len_rg (w : wfA a N) : ∀ j, j < a.1 → 0 ≤ lenW a j ∧ lenW a j ≤ 40 := fun j hj => by have := w.2.2.1 j hj; unfold lenW; omega
theorem one_rg : ∀ j, j < a.1 → 0 ≤ oneW j ∧ oneW j ≤ 40 := fun j _ => by unfold oneW; omega
theorem len_cg (w : wfA a N) : ∀ i j, i < a.1 → j < a.1 → a.2.1 2 i = a.2.1 2 j → lenW a i = lenW a j := w.2.2.2.1
theorem one_cg : ∀ i j, i < a.1 → j < a.1 → a.2.1 2 i = a.2.1 2 j → oneW i = oneW j := fun _ _ _ _ _ => rfl
theorem st_rg (w : wfA a N) : ∀ j, j < a.1 → 0 ≤ a.2.1 2 j ∧ a.2.1 2 j < (100 : Nat) := fun j hj => by have := w.2.2.1 j hj; have := w.1; omega
/-- the class's side: the first entry of each text -/
theorem fst_L (h : repS m o a) (hn : a.1 ≤ 24) (j : Nat) (hj : j < a.1) : ∀ (d fu i : Nat), i + d = j → d < fu → f_X2_isFirstOfText_L12 fu o j i m = some (cIf (∃ q, i ≤ q ∧ q < j ∧ a.2.1 2 q = a.2.1 2 j) 0 1, m) := by
  have h1 := h.1
  intro d
  induction d with
  | zero =>
    intro fu i hi hf
    obtain ⟨k, rfl⟩ : ∃ k, fu = k + 1 := ⟨fu - 1, by omega⟩
    rw [f_X2_isFirstOfText_L12, if_pos (by omega), cIf_f (by rintro ⟨q, q1, q2, _⟩; omega)]
  | succ d ih =>
    intro fu i hi hf
    obtain ⟨k, rfl⟩ : ∃ k, fu = k + 1 := ⟨fu - 1, by omega⟩
    obtain ⟨-, -, g3, -, -⟩ := h.2.2.2.2.2 i (by omega)
    obtain ⟨-, -, p3, -, -⟩ := h.2.2.2.2.2 j hj
    rw [f_X2_isFirstOfText_L12, if_neg (by omega), mmK_p (by omega), mmK_p (by omega), tN, tN, g3, p3]
    by_cases z : a.2.1 2 i = a.2.1 2 j
    · rw [if_pos z, cIf_t ⟨i, by omega, by omega, z⟩]
    · rw [if_neg z, mmK_p (by constructor <;> omega), ci_1, ih k (i + 1) (by omega) (by omega)]
      by_cases z2 : ∃ q, i + 1 ≤ q ∧ q < j ∧ a.2.1 2 q = a.2.1 2 j
      · obtain ⟨q, q1, q2, q3⟩ := id z2
        rw [cIf_t z2, cIf_t ⟨q, by omega, q2, q3⟩]
      · rw [cIf_f z2, cIf_f (by
          rintro ⟨q, q1, q2, q3⟩
          rcases Nat.lt_or_ge i q with y | y
          · exact z2 ⟨q, by omega, q2, q3⟩
          · exact z (by rw [show i = q by omega]; exact q3))]
theorem fst_t (h : repS m o a) (hn : a.1 ≤ 24) (j : Nat) (hj : j < a.1) (hp : fstT a j) : f_X2_isFirstOfText o j m = some (1, m) := by
  have e := fst_L h hn j hj j mmFU 0 (by omega) (by unfold mmFU; omega)
  rw [cIf_f (by rintro ⟨q, _, q2, q3⟩; exact hp q q2 q3)] at e
  unfold f_X2_isFirstOfText
  rw [bd_ (isRank_t h (x := (j : Int)) (by omega))]
  dsimp only
  rw [if_neg (by decide)]
  exact e
theorem fst_f (h : repS m o a) (hn : a.1 ≤ 24) (j : Nat) (hj : j < a.1) (hp : ¬ fstT a j) : f_X2_isFirstOfText o j m = some (0, m) := by
  have e := fst_L h hn j hj j mmFU 0 (by omega) (by unfold mmFU; omega)
  have : ∃ q, 0 ≤ q ∧ q < j ∧ a.2.1 2 q = a.2.1 2 j := by
    refine Classical.byContradiction (fun z => hp (fun q hq e => z ⟨q, by omega, hq, e⟩))
  rw [cIf_t this] at e
  unfold f_X2_isFirstOfText
  rw [bd_ (isRank_t h (x := (j : Int)) (by omega))]
  dsimp only
  rw [if_neg (by decide)]
  exact e
theorem sum40 {P : Nat → Prop} {w : Nat → Int} (hw : ∀ j, j < a.1 → 0 ≤ w j ∧ w j ≤ 40) (i : Nat) (hi : i ≤ a.1) : 0 ≤ sumN (fun j => cIf (P j) (w j) 0) i ∧ sumN (fun j => cIf (P j) (w j) 0) i ≤ 40 * i := by
  have p : ∀ j, j < i → 0 ≤ cIf (P j) (w j) 0 ∧ cIf (P j) (w j) 0 ≤ 40 := by
    intro j hj
    by_cases z : P j
    · rw [cIf_t z]; exact hw j (by omega)
    · rw [cIf_f z]; omega
  exact ⟨sumN_ge i (fun j hj => (p j hj).1), sumN_lt i (fun j hj => (p j hj).2)⟩
theorem lvu_L (h : repS m o a) (w : wfA a N) : ∀ (d fu i : Nat), i + d = a.1 → d < fu → f_X2_livingUnits_L4 fu o (sumN (fun j => cIf (fstT a j) (lenW a j) 0) i) i m = some (sumN (fun j => cIf (fstT a j) (lenW a j) 0) a.1, m) := by
  have hn := w.n24
  have h1 := h.1
  intro d
  induction d with
  | zero =>
    intro fu i hi hf
    obtain ⟨k, rfl⟩ : ∃ k, fu = k + 1 := ⟨fu - 1, by omega⟩
    rw [f_X2_livingUnits_L4, if_pos (by omega), show i = a.1 by omega]
  | succ d ih =>
    intro fu i hi hf
    obtain ⟨k, rfl⟩ : ∃ k, fu = k + 1 := ⟨fu - 1, by omega⟩
    have hil : i < a.1 := by omega
    obtain ⟨-, -, -, g4, -⟩ := h.2.2.2.2.2 i hil
    have hb := sum40 (P := fstT a) (len_rg w) i (by omega)
    have hl := len_rg w i hil
    have e1 : sumN (fun j => cIf (fstT a j) (lenW a j) 0) (i + 1) = sumN (fun j => cIf (fstT a j) (lenW a j) 0) i + cIf (fstT a i) (lenW a i) 0 := rfl
    have ih' := ih k (i + 1) (by omega) (by omega)
    rw [e1] at ih'
    rw [f_X2_livingUnits_L4, if_neg (by omega)]
    by_cases z : fstT a i
    · rw [cIf_t z] at ih'
      rw [bd_ (fst_t h hn i hil z)]
      dsimp only
      rw [if_neg (by decide), mmK_p (by omega), tN, g4, show a.2.1 3 i = lenW a i from rfl, mmK_p (by constructor <;> omega), mmK_p (by constructor <;> omega), ci_1]
      exact ih'
    · rw [cIf_f z, Int.add_zero] at ih'
      rw [bd_ (fst_f h hn i hil z)]
      dsimp only
      rw [if_pos rfl, mmK_p (by constructor <;> omega), ci_1]
      exact ih'
theorem lvt_L (h : repS m o a) (w : wfA a N) : ∀ (d fu i : Nat), i + d = a.1 → d < fu → f_X2_livingTexts_L4 fu o (sumN (fun j => cIf (fstT a j) (oneW j) 0) i) i m = some (sumN (fun j => cIf (fstT a j) (oneW j) 0) a.1, m) := by
  have hn := w.n24
  have h1 := h.1
  intro d
  induction d with
  | zero =>
    intro fu i hi hf
    obtain ⟨k, rfl⟩ : ∃ k, fu = k + 1 := ⟨fu - 1, by omega⟩
    rw [f_X2_livingTexts_L4, if_pos (by omega), show i = a.1 by omega]
  | succ d ih =>
    intro fu i hi hf
    obtain ⟨k, rfl⟩ : ∃ k, fu = k + 1 := ⟨fu - 1, by omega⟩
    have hil : i < a.1 := by omega
    have hb := sum40 (P := fstT a) (one_rg (a := a)) i (by omega)
    have e1 : sumN (fun j => cIf (fstT a j) (oneW j) 0) (i + 1) = sumN (fun j => cIf (fstT a j) (oneW j) 0) i + cIf (fstT a i) (oneW i) 0 := rfl
    have ih' := ih k (i + 1) (by omega) (by omega)
    rw [e1] at ih'
    rw [f_X2_livingTexts_L4, if_neg (by omega)]
    by_cases z : fstT a i
    · rw [cIf_t z, show oneW i = 1 from rfl] at ih'
      rw [bd_ (fst_t h hn i hil z)]
      dsimp only
      rw [if_neg (by decide), mmK_p (by constructor <;> omega), mmK_p (by constructor <;> omega), ci_1]
      exact ih'
    · rw [cIf_f z, Int.add_zero] at ih'
      rw [bd_ (fst_f h hn i hil z)]
      dsimp only
      rw [if_pos rfl, mmK_p (by constructor <;> omega), ci_1]
      exact ih'
theorem lay_sum (w : wfA a N) (v : Nat → Int) : layW a v 100 = sumN (fun j => cIf (fstT a j) (v j) 0) a.1 := by
  unfold layW txW
  exact lay_ex (st_rg w)
theorem lvu_c (h : repS m o a) (w : wfA a N) : f_X2_livingUnits o m = some (layW a (lenW a) 100, m) := by
  rw [lay_sum w]
  exact lvu_L h w a.1 mmFU 0 (by omega) (by have := w.n24; unfold mmFU; omega)
theorem lvt_c (h : repS m o a) (w : wfA a N) : f_X2_livingTexts o m = some (layW a oneW 100, m) := by
  rw [lay_sum w]
  exact lvt_L h w a.1 mmFU 0 (by omega) (by have := w.n24; unfold mmFU; omega)
end LV
