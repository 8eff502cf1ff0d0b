def lenW (a : AS) : Nat → Int := a.2.1 3
def oneW : Nat → Int := fun _ => 1
section LV
variable {m : Mem} {o : Nat} {a : AS} {N : Int}
theorem len_rg (w : wfA a N) : ∀ j, j < a.1 → 0 ≤ lenW a j ∧ lenW a j ≤ 40 := fun j hj => by have := w.2.2.1 j hj; unfold lenW; omega
theorem one_rg : ∀ j, j < a.1 → 0 ≤ oneW j ∧ oneW j ≤ 40 := fun j _ => by unfold oneW; omega
theorem len_cg (w : wfA a N) : ∀ i j, i < a.1 → j < a.1 → a.2.1 2 i = a.2.1 2 j → lenW a i = lenW a j := w.2.2.2.1
theorem one_cg : ∀ i j, i < a.1 → j < a.1 → a.2.1 2 i = a.2.1 2 j → oneW i = oneW j := fun _ _ _ _ _ => rfl
theorem st_rg (w : wfA a N) : ∀ j, j < a.1 → 0 ≤ a.2.1 2 j ∧ a.2.1 2 j < (100 : Nat) := fun j hj => by have := w.2.2.1 j hj; have := w.1; omega
/-- the class's side: the first entry of each text -/
theorem fst_L (h : repS m o a) (hn : a.1 ≤ 24) (j : Nat) (hj : j < a.1) : ∀ (d fu i : Nat), i + d = j → d < fu → f_X2_isFirstOfText_L12 fu o j i m = some (cIf (∃ q, i ≤ q ∧ q < j ∧ a.2.1 2 q = a.2.1 2 j) 0 1, m) := by
  have h1 := h.1
  intro d
  induction d with
  | zero =>
    intro fu i hi hf
    obtain ⟨k, rfl⟩ : ∃ k, fu = k + 1 := ⟨fu - 1, by omega⟩
    rw [f_X2_isFirstOfText_L12, if_pos (by omega), cIf_f (by rintro ⟨q, q1, q2, _⟩; omega)]
  | succ d ih =>
    intro fu i hi hf
    obtain ⟨k, rfl⟩ : ∃ k, fu = k + 1 := ⟨fu - 1, by omega⟩
    obtain ⟨-, -, g3, -, -⟩ := h.2.2.2.2.2 i (by omega)
    obtain ⟨-, -, p3, -, -⟩ := h.2.2.2.2.2 j hj
    rw [f_X2_isFirstOfText_L12, if_neg (by omega), mmK_p (by omega), mmK_p (by omega), tN, tN, g3, p3]
    by_cases z : a.2.1 2 i = a.2.1 2 j
    · rw [if_pos z, cIf_t ⟨i, by omega, by omega, z⟩]
    · rw [if_neg z, mmK_p (by constructor <;> omega), ci_1, ih k (i + 1) (by omega) (by omega)]
      by_cases z2 : ∃ q, i + 1 ≤ q ∧ q < j ∧ a.2.1 2 q = a.2.1 2 j
      · obtain ⟨q, q1, q2, q3⟩ := id z2
        rw [cIf_t z2, cIf_t ⟨q, by omega, q2, q3⟩]
      · rw [cIf_f z2, cIf_f (by
          rintro ⟨q, q1, q2, q3⟩
          rcases Nat.lt_or_ge i q with y | y
          · exact z2 ⟨q, by omega, q2, q3⟩
          · exact z (by rw [show i = q by omega]; exact q3))]
theorem fst_t (h : repS m o a) (hn : a.1 ≤ 24) (j : Nat) (hj : j < a.1) (hp : fstT a j) : f_X2_isFirstOfText o j m = some (1, m) := by
  have e := fst_L h hn j hj j mmFU 0 (by omega) (by unfold mmFU; omega)
  rw [cIf_f (by rintro ⟨q, _, q2, q3⟩; exact hp q q2 q3)] at e
  unfold f_X2_isFirstOfText
  rw [bd_ (isRank_t h (x := (j : Int)) (by omega))]
  dsimp only
  rw [if_neg (by decide)]
  exact e
theorem fst_f (h : repS m o a) (hn : a.1 ≤ 24) (j : Nat) (hj : j < a.1) (hp : ¬ fstT a j) : f_X2_isFirstOfText o j m = some (0, m) := by
  have e := fst_L h hn j hj j mmFU 0 (by omega) (by unfold mmFU; omega)
  have : ∃ q, 0 ≤ q ∧ q < j ∧ a.2.1 2 q = a.2.1 2 j := by
    refine Classical.byContradiction (fun z => hp (fun q hq e => z ⟨q, by omega, hq, e⟩))
  rw [cIf_t this] at e
  unfold f_X2_isFirstOfText
  rw [bd_ (isRank_t h (x := (j : Int)) (by omega))]
  dsimp only
  rw [if_neg (by decide)]
  exact e
theorem sum40 {P : Nat → Prop} {w : Nat → Int} (hw : ∀ j, j < a.1 → 0 ≤ w j ∧ w j ≤ 40) (i : Nat) (hi : i ≤ a.1) : 0 ≤ sumN (fun j => cIf (P j) (w j) 0) i ∧ sumN (fun j => cIf (P j) (w j) 0) i ≤ 40 * i := by
  have p : ∀ j, j < i → 0 ≤ cIf (P j) (w j) 0 ∧ cIf (P j) (w j) 0 ≤ 40 := by
    intro j hj
    by_cases z : P j
    · rw [cIf_t z]; exact hw j (by omega)
    · rw [cIf_f z]; omega
  exact ⟨sumN_ge i (fun j hj => (p j hj).1), sumN_lt i (fun j hj => (p j hj).2)⟩
theorem lvu_L (h : repS m o a) (w : wfA a N) : ∀ (d fu i : Nat), i + d = a.1 → d < fu → f_X2_livingUnits_L4 fu o (sumN (fun j => cIf (fstT a j) (lenW a j) 0) i) i m = some (sumN (fun j => cIf (fstT a j) (lenW a j) 0) a.1, m) := by
  have hn := w.n24
  have h1 := h.1
  intro d
  induction d with
  | zero =>
    intro fu i hi hf
    obtain ⟨k, rfl⟩ : ∃ k, fu = k + 1 := ⟨fu - 1, by omega⟩
    rw [f_X2_livingUnits_L4, if_pos (by omega), show i = a.1 by omega]
  | succ d ih =>
    intro fu i hi hf
    obtain ⟨k, rfl⟩ : ∃ k, fu = k + 1 := ⟨fu - 1, by omega⟩
    have hil : i < a.1 := by omega
    obtain ⟨-, -, -, g4, -⟩ := h.2.2.2.2.2 i hil
    have hb := sum40 (P := fstT a) (len_rg w) i (by omega)
    have hl := len_rg w i hil
    have e1 : sumN (fun j => cIf (fstT a j) (lenW a j) 0) (i + 1) = sumN (fun j => cIf (fstT a j) (lenW a j) 0) i + cIf (fstT a i) (lenW a i) 0 := rfl
    have ih' := ih k (i + 1) (by omega) (by omega)
    rw [e1] at ih'
    rw [f_X2_livingUnits_L4, if_neg (by omega)]
    by_cases z : fstT a i
    · rw [cIf_t z] at ih'
      rw [bd_ (fst_t h hn i hil z)]
      dsimp only
      rw [if_neg (by decide), mmK_p (by omega), tN, g4, show a.2.1 3 i = lenW a i from rfl, mmK_p (by constructor <;> omega), mmK_p (by constructor <;> omega), ci_1]
      exact ih'
    · rw [cIf_f z, Int.add_zero] at ih'
      rw [bd_ (fst_f h hn i hil z)]
      dsimp only
      rw [if_pos rfl, mmK_p (by constructor <;> omega), ci_1]
      exact ih'
theorem lvt_L (h : repS m o a) (w : wfA a N) : ∀ (d fu i : Nat), i + d = a.1 → d < fu → f_X2_livingTexts_L4 fu o (sumN (fun j => cIf (fstT a j) (oneW j) 0) i) i m = some (sumN (fun j => cIf (fstT a j) (oneW j) 0) a.1, m) := by
  have hn := w.n24
  have h1 := h.1
  intro d
  induction d with
  | zero =>
    intro fu i hi hf
    obtain ⟨k, rfl⟩ : ∃ k, fu = k + 1 := ⟨fu - 1, by omega⟩
    rw [f_X2_livingTexts_L4, if_pos (by omega), show i = a.1 by omega]
  | succ d ih =>
    intro fu i hi hf
    obtain ⟨k, rfl⟩ : ∃ k, fu = k + 1 := ⟨fu - 1, by omega⟩
    have hil : i < a.1 := by omega
    have hb := sum40 (P := fstT a) (one_rg (a := a)) i (by omega)
    have e1 : sumN (fun j => cIf (fstT a j) (oneW j) 0) (i + 1) = sumN (fun j => cIf (fstT a j) (oneW j) 0) i + cIf (fstT a i) (oneW i) 0 := rfl
    have ih' := ih k (i + 1) (by omega) (by omega)
    rw [e1] at ih'
    rw [f_X2_livingTexts_L4, if_neg (by omega)]
    by_cases z : fstT a i
    · rw [cIf_t z, show oneW i = 1 from rfl] at ih'
      rw [bd_ (fst_t h hn i hil z)]
      dsimp only
      rw [if_neg (by decide), mmK_p (by constructor <;> omega), mmK_p (by constructor <;> omega), ci_1]
      exact ih'
    · rw [cIf_f z, Int.add_zero] at ih'
      rw [bd_ (fst_f h hn i hil z)]
      dsimp only
      rw [if_pos rfl, mmK_p (by constructor <;> omega), ci_1]
      exact ih'
theorem lay_sum (w : wfA a N) (v : Nat → Int) : layW a v 100 = sumN (fun j => cIf (fstT a j) (v j) 0) a.1 := by
  unfold layW txW
  exact lay_ex (st_rg w)
theorem lvu_c (h : repS m o a) (w : wfA a N) : f_X2_livingUnits o m = some (layW a (lenW a) 100, m) := by
  rw [lay_sum w]
  exact lvu_L h w a.1 mmFU 0 (by omega) (by have := w.n24; unfold mmFU; omega)
theorem lvt_c (h : repS m o a) (w : wfA a N) : f_X2_livingTexts o m = some (layW a oneW 100, m) := by
  rw [lay_sum w]
  exact lvt_L h w a.1 mmFU 0 (by omega) (by have := w.n24; unfold mmFU; omega)
/-- the reference's side: the next text from a unit on -/
def NX (s : Nat → Int) (n : Nat) (b v : Int) : Prop := (v = -5 ∧ ∀ j, j < n → s j < b) ∨ ∃ r : Nat, v = r ∧ r < n ∧ b ≤ s r ∧ ∀ j, j < n → b ≤ s j → s r ≤ s j
theorem nx_L {b : Int} (hf : repF (m.1 52) 0 a) (hn : a.1 ≤ 24) : ∀ (d fu i : Nat) (v : Int), i + d = a.1 → d < fu → NX (a.2.1 2) i b v → ∃ v', f_X4_nextText_L5 fu b v i m = some (v', m) ∧ NX (a.2.1 2) a.1 b v' := by
  have k1 : m.1 52 0 = a.1 := hf.1
  intro d
  induction d with
  | zero =>
    intro fu i v hi hf2 hx
    obtain ⟨k, rfl⟩ : ∃ k, fu = k + 1 := ⟨fu - 1, by omega⟩
    rw [f_X4_nextText_L5, if_pos (by omega)]
    exact ⟨v, rfl, by rw [← show i = a.1 by omega]; exact hx⟩
  | succ d ih =>
    intro fu i v hi hf2 hx
    obtain ⟨k, rfl⟩ : ∃ k, fu = k + 1 := ⟨fu - 1, by omega⟩
    have hil : i < a.1 := by omega
    rw [f_X4_nextText_L5, if_neg (by omega), bd_ (of2 hf hn i hil)]
    dsimp only
    by_cases z1 : a.2.1 2 i < b
    · rw [if_pos z1, mmK_p (by constructor <;> omega), ci_1]
      refine ih k (i + 1) v (by omega) (by omega) ?_
      rcases hx with ⟨rfl, hx⟩ | ⟨r, rfl, r1, r2, r3⟩
      · refine Or.inl ⟨rfl, fun j hj => ?_⟩
        rcases Nat.lt_or_ge j i with y | y
        · exact hx j y
        · rw [show j = i by omega]; exact z1
      · refine Or.inr ⟨r, rfl, by omega, r2, fun j hj hb => ?_⟩
        rcases Nat.lt_or_ge j i with y | y
        · exact r3 j y hb
        · rw [show j = i by omega] at hb; omega
    · rw [if_neg z1]
      have good : (∀ j, j < i → b ≤ a.2.1 2 j → a.2.1 2 i ≤ a.2.1 2 j) → ∃ v', f_X4_nextText_L46 (f_X4_nextText_L5 k) b v i m = some (v', m) ∧ NX (a.2.1 2) a.1 b v' := by
        intro hg
        unfold f_X4_nextText_L46
        rw [mmK_p (by constructor <;> omega), ci_1]
        refine ih k (i + 1) i (by omega) (by omega) (Or.inr ⟨i, rfl, by omega, by omega, fun j hj hb => ?_⟩)
        rcases Nat.lt_or_ge j i with y | y
        · exact hg j y hb
        · rw [show j = i by omega]; exact Int.le_refl _
      rcases hx with ⟨rfl, hx⟩ | ⟨r, rfl, r1, r2, r3⟩
      · rw [if_pos rfl]
        exact good (fun j hj hb => by have := hx j hj; omega)
      · rw [if_neg (by omega), bd_ (of2 hf hn i hil)]
        dsimp only
        rw [bd_ (of2 hf hn r (by omega))]
        dsimp only
        by_cases z2 : a.2.1 2 r ≤ a.2.1 2 i
        · rw [if_pos z2, mmK_p (by constructor <;> omega), ci_1]
          refine ih k (i + 1) r (by omega) (by omega) (Or.inr ⟨r, rfl, by omega, r2, fun j hj hb => ?_⟩)
          rcases Nat.lt_or_ge j i with y | y
          · exact r3 j y hb
          · rw [show j = i by omega]; exact z2
        · rw [if_neg z2]
          exact good (fun j hj hb => by have := r3 j hj hb; omega)
theorem nx_ok {b : Int} (hf : repF (m.1 52) 0 a) (hn : a.1 ≤ 24) : ∃ v', f_X4_nextText b m = some (v', m) ∧ NX (a.2.1 2) a.1 b v' :=
  nx_L hf hn a.1 mmFU 0 (-5) (by omega) (by unfold mmFU; omega) (Or.inl ⟨rfl, fun j hj => absurd hj (by omega)⟩)
theorem liv_L (hf : repF (m.1 52) 0 a) (w : wfA a N) (l : Int) (v : Nat → Int) (hv : ∀ j, j < a.1 → 0 ≤ v j ∧ v j ≤ 40) (hc : ∀ i j, i < a.1 → j < a.1 → a.2.1 2 i = a.2.1 2 j → v i = v j) (hl : l = 0 ∧ v = oneW ∨ l = 1 ∧ v = lenW a) : ∀ (d fu b : Nat) (r : Int), b + d = 100 → d < fu → NX (a.2.1 2) a.1 b r → f_X4_living_L8 fu l (layW a v b) r m = some (layW a v 100, m) := by
  have hn := w.n24
  intro d
  induction d using Nat.strongRecOn with
  | ind d ih =>
    intro fu b r hb hf2 hx
    obtain ⟨k, rfl⟩ : ∃ k, fu = k + 1 := ⟨fu - 1, by omega⟩
    rcases hx with ⟨rfl, hx⟩ | ⟨r, rfl, r1, r2, r3⟩
    · rw [f_X4_living_L8, if_pos rfl, lay_gap2 b 100 (by omega) (fun j hj q => by have := hx j hj; omega)]
    · have hs := st_rg w r r1
      have g1 : layW a v (a.2.1 2 r).toNat = layW a v b := lay_gap2 b _ (by omega) (fun j hj q => by have := r3 j hj q.1; omega)
      have g2 : layW a v ((a.2.1 2 r).toNat + 1) = layW a v b + v r := by
        rw [lay_s, g1, tx_at hc r r1 (by omega)]
      have hr := lay_rg hn hv b
      have hvr := hv r r1
      have cont : f_X4_living_L29 (f_X4_living_L8 k) l r (v r) (layW a v b) m = some (layW a v 100, m) := by
        unfold f_X4_living_L29
        rw [mmK_p (by constructor <;> omega), bd_ (of2 hf hn r r1)]
        dsimp only
        rw [mmK_p (by constructor <;> omega)]
        obtain ⟨v', e', x'⟩ := nx_ok (b := a.2.1 2 r + 1) hf hn
        rw [bd_ e']
        dsimp only
        rw [← g2]
        refine ih (100 - ((a.2.1 2 r).toNat + 1)) (by omega) k _ v' (by omega) (by omega) ?_
        rw [show (((a.2.1 2 r).toNat + 1 : Nat) : Int) = a.2.1 2 r + 1 by omega]
        exact x'
      rw [f_X4_living_L8, if_neg (by omega)]
      rcases hl with ⟨rfl, rfl⟩ | ⟨rfl, rfl⟩
      · rw [if_pos rfl]
        exact cont
      · rw [if_neg (by decide), bd_ (of3 hf hn r r1)]
        exact cont
theorem liv_u (hf : repF (m.1 52) 0 a) (w : wfA a N) : f_X4_living 1 m = some (layW a (lenW a) 100, m) := by
  obtain ⟨v', e', x'⟩ := nx_ok (b := 0) hf w.n24
  unfold f_X4_living
  rw [bd_ e']
  exact liv_L hf w 1 (lenW a) (len_rg w) (len_cg w) (Or.inr ⟨rfl, rfl⟩) 100 mmFU 0 v' (by omega) (by unfold mmFU; omega) x'
theorem liv_t (hf : repF (m.1 52) 0 a) (w : wfA a N) : f_X4_living 0 m = some (layW a oneW 100, m) := by
  obtain ⟨v', e', x'⟩ := nx_ok (b := 0) hf w.n24
  unfold f_X4_living
  rw [bd_ e']
  exact liv_L hf w 0 oneW (one_rg (a := a)) (one_cg (a := a)) (Or.inl ⟨rfl, rfl⟩) 100 mmFU 0 v' (by omega) (by unfold mmFU; omega) x'
theorem fit_q {x : Int} (h : repS m o a) (hf : repF (m.1 52) 0 a) (w : wfA a N) : both2 (f_X2_tellFit o x m) (f_X4_fits x m) m := by
  have hr := lay_rg w.n24 (len_rg w) 100
  unfold f_X2_tellFit f_X4_fits
  by_cases hx : 1 ≤ x ∧ x ≤ 40
  · rw [bd_ (isLength_t hx), bd_ (in_t hx)]
    dsimp only
    rw [if_neg (by decide)]
    by_cases hq : a.2.2 1 + x ≤ 100
    · rw [bd_ (hasRoom_t h w hx hq), bd_ (room4_t hf w hx hq)]
      dsimp only
      rw [if_neg (by decide)]
      exact ⟨_, rfl, rfl⟩
    · rw [bd_ (hasRoom_f h w hx hq), bd_ (room4_f hf w hx hq)]
      dsimp only
      rw [if_pos rfl, bd_ (lvu_c h w), bd_ (liv_u hf w)]
      dsimp only
      rw [mmK_p (by constructor <;> omega)]
      by_cases z : 100 < layW a (lenW a) 100 + x
      · rw [if_pos z]; exact ⟨_, rfl, rfl⟩
      · rw [if_neg z]; exact ⟨_, rfl, rfl⟩
  · rw [bd_ (isLength_f hx), bd_ (in_f hx)]
    dsimp only
    rw [if_pos rfl]
    exact ⟨_, rfl, rfl⟩
theorem cnt_q {x : Int} (h : repS m o a) (hf : repF (m.1 52) 0 a) (w : wfA a N) (hN : N ≤ 1000000) (h13 : ¬ x = 13) (h14 : ¬ x = 14) : both2 (f_X2_tellCount o x m) (f_X4_count x m) m := by
  have hr := lay_rg w.n24 (len_rg w) 100
  have hn := w.n24
  have hw := w.1
  obtain ⟨h1, h2, h3, h4, h5, -⟩ := id h
  obtain ⟨k1, k2, k3, k4, k5, -⟩ := id hf
  rw [Nat.zero_add] at k2 k3 k4 k5
  obtain ⟨v, v0, v1, c1, c2⟩ := ali_q h hf w
  unfold f_X2_tellCount f_X4_count
  rw [h1, h2, h3, h4, h5, k1, k2, k3, k4, k5]
  by_cases q0 : x = 0
  · rw [if_pos q0, if_pos q0]; exact ⟨_, rfl, rfl⟩
  rw [if_neg q0, if_neg q0]
  by_cases q1 : x = 1
  · rw [if_pos q1, if_pos q1]
    exact b2_v ((a.1 : Int) - v) (by rw [bd_ c1]; exact mmK_p (by constructor <;> (dsimp only; omega))) (by rw [bd_ c2])
  rw [if_neg q1, if_neg q1]
  by_cases q2 : x = 2
  · rw [if_pos q2, if_pos q2]
    exact b2_v v (by rw [bd_ c1]) (by
      rw [bd_ c2]
      dsimp only
      rw [mmK_p (by constructor <;> omega), show (a.1 : Int) - ((a.1 : Int) - v) = v by omega])
  rw [if_neg q2, if_neg q2]
  by_cases q3 : x = 3
  · rw [if_pos q3, if_pos q3]; exact b2_fin (los_q h hf w)
  rw [if_neg q3, if_neg q3]
  by_cases q4 : x = 4
  · rw [if_pos q4, if_pos q4]; exact ⟨_, rfl, rfl⟩
  rw [if_neg q4, if_neg q4]
  by_cases q5 : x = 5
  · rw [if_pos q5, if_pos q5, show a.2.2 0 * 4 = 4 * a.2.2 0 by omega, mmK_p (by constructor <;> omega), mmK_p (by constructor <;> omega)]
    exact ⟨_, rfl, rfl⟩
  rw [if_neg q5, if_neg q5]
  by_cases q6 : x = 6
  · rw [if_pos q6, if_pos q6]; exact ⟨_, rfl, rfl⟩
  rw [if_neg q6, if_neg q6]
  by_cases q7 : x = 7
  · rw [if_pos q7, if_pos q7]; exact b2_fin ⟨_, lvu_c h w, liv_u hf w⟩
  rw [if_neg q7, if_neg q7]
  by_cases q8 : x = 8
  · rw [if_pos q8, if_pos q8]
    refine b2_v (a.2.2 1 - layW a (lenW a) 100) ?_ ?_
    · unfold f_X2_deadUnits
      rw [bd_ (lvu_c h w), h3]
      dsimp only
      rw [mmK_p (by constructor <;> omega)]
      rfl
    · rw [bd_ (liv_u hf w)]
      dsimp only
      rw [mmK_p (by constructor <;> omega)]
  rw [if_neg q8, if_neg q8]
  by_cases q9 : x = 9
  · rw [if_pos q9, if_pos q9, mmK_p (by constructor <;> omega)]; exact ⟨_, rfl, rfl⟩
  rw [if_neg q9, if_neg q9]
  by_cases q10 : x = 10
  · rw [if_pos q10, if_pos q10]; exact b2_fin ⟨_, lvt_c h w, liv_t hf w⟩
  rw [if_neg q10, if_neg q10]
  by_cases q11 : x = 11
  · rw [if_pos q11, if_pos q11]; exact ⟨_, rfl, rfl⟩
  rw [if_neg q11, if_neg q11]
  by_cases q12 : x = 12
  · rw [if_pos q12, if_pos q12]; exact ⟨_, rfl, rfl⟩
  rw [if_neg q12, if_neg q12, if_neg h13, if_neg h14]
  exact ⟨_, rfl, rfl⟩
end LV
