section QV
variable {m : Mem} {o : Nat} {a : AS} {N : Int}
theorem beg_L {x : Int} (hf : repF (m.1 52) 0 a) (w : wfA a N) (hx : 0 ≤ x ∧ x < 26) : ∀ (d fu i : Nat) (y : Int), 0 ≤ y ∧ y ≤ 2147483647 → i + d = a.1 → d < fu → f_X4_beginning_L24 fu x y i m = some (if (blw a ((x + 1) * 26) : Int) ≤ (max i (blw a (x * 26)) : Nat) + y then -5 else a.2.1 0 ((max i (blw a (x * 26)) : Nat) + y).toNat, m) := by
  have hn := w.n24
  have k1 : m.1 52 0 = a.1 := hf.1
  have lo1 := w.lo (x * 26)
  have lo2 := w.hi (x * 26)
  have hi1 := w.lo ((x + 1) * 26)
  have hi2 := w.hi ((x + 1) * 26)
  have hle := blw_le a ((x + 1) * 26)
  generalize blw a (x * 26) = lo at *
  generalize blw a ((x + 1) * 26) = hi at *
  intro d
  induction d with
  | zero =>
    intro fu i y hy hi hf2
    obtain ⟨k, rfl⟩ : ∃ k, fu = k + 1 := ⟨fu - 1, by omega⟩
    rw [f_X4_beginning_L24, if_pos (by omega), if_pos (by omega)]
  | succ d ih =>
    intro fu i y hy hi' hf2
    obtain ⟨k, rfl⟩ : ∃ k, fu = k + 1 := ⟨fu - 1, by omega⟩
    have hil : i < a.1 := by omega
    have hb := w.2.2.1 i hil
    rw [f_X4_beginning_L24, if_neg (by omega), bd_ (of0 hf hn i hil)]
    dsimp only
    rw [mmK_p (by omega), mmK_p (by constructor <;> omega)]
    by_cases z1 : i < lo
    · have := lo1 i z1
      rw [if_neg (by omega), mmK_p (by constructor <;> omega), ci_1, ih k (i + 1) y hy (by omega) (by omega), show max (i + 1) lo = max i lo by omega]
    · have := lo2 i (by omega) hil
      by_cases z2 : i < hi
      · have := hi1 i z2
        rw [if_pos (by omega)]
        by_cases z3 : y = 0
        · rw [if_pos z3, bd_ (of0 hf hn i hil), if_neg (by omega), show ((max i lo : Nat) + y).toNat = i by omega]
        · rw [if_neg z3, mmK_p (by constructor <;> omega), mmK_p (by constructor <;> omega), ci_1, ih k (i + 1) (y + -1) (by omega) (by omega) (by omega), show ((max (i + 1) lo : Nat) : Int) + (y + -1) = (max i lo : Nat) + y by omega]
      · have := hi2 i (by omega) hil
        rw [if_neg (by omega), mmK_p (by constructor <;> omega), ci_1, ih k (i + 1) y hy (by omega) (by omega), if_pos (by omega), if_pos (by omega)]
theorem blo_t {x : Int} (h : repS m o a) (w : wfA a N) : f_X2_namesBelow o x m = some ((blw a x : Int), m) := below_t h w.n24 (blw_le a x) (w.lo x) (w.hi x)
theorem beg_q {x y : Int} (hyR : y ≤ 2147483647) (h : repS m o a) (hf : repF (m.1 52) 0 a) (w : wfA a N) : both2 (f_X2_tellBeginning o x y m) (f_X4_beginning x y m) m := by
  have hn := w.n24
  by_cases hx : 0 ≤ x ∧ x ≤ 25
  · by_cases hy : 0 ≤ y
    · have e4 : f_X4_beginning x y m = f_X4_beginning_L24 mmFU x y 0 m := by
        unfold f_X4_beginning
        rw [bd_ (in_t hx)]
        dsimp only
        rw [if_neg (by decide), if_pos hy]
      have eL := beg_L hf w (x := x) (by omega) a.1 mmFU 0 y ⟨hy, hyR⟩ (by omega) (by unfold mmFU; omega)
      rw [show ((0 : Nat) : Int) = 0 from rfl] at eL
      have hle := blw_le a ((x + 1) * 26)
      have hle2 := blw_le a (x * 26)
      refine b2_v _ ?_ (e4.trans eL)
      unfold f_X2_tellBeginning
      rw [if_neg (by omega), if_neg (by omega), if_pos hy, mmK_p (by constructor <;> omega), bd_ (blo_t h w)]
      dsimp only
      rw [mmK_p (by constructor <;> omega), mmK_p (by constructor <;> omega), bd_ (blo_t h w)]
      dsimp only
      rw [mmK_p (by constructor <;> omega)]
      by_cases z : (blw a ((x + 1) * 26) : Int) - (blw a (x * 26) : Int) ≤ y
      · rw [if_pos z, if_pos (by omega)]
      · rw [if_neg z, if_neg (by omega), mmK_p (by constructor <;> omega), bd_ (nm_t h w (show 0 ≤ (blw a (x * 26) : Int) + y ∧ (blw a (x * 26) : Int) + y < a.1 by omega)), show max 0 (blw a (x * 26)) = blw a (x * 26) by omega]
    · refine b2_v (-2) ?_ ?_
      · unfold f_X2_tellBeginning
        rw [if_neg (by omega), if_neg (by omega), if_neg hy]
      · unfold f_X4_beginning
        rw [bd_ (in_t hx)]
        dsimp only
        rw [if_neg (by decide), if_neg hy]
  · refine b2_v (-2) ?_ ?_
    · unfold f_X2_tellBeginning
      by_cases h0 : x < 0
      · rw [if_pos h0]
      · rw [if_neg h0, if_pos (by omega)]
    · unfold f_X4_beginning
      rw [bd_ (in_f hx)]
      dsimp only
      rw [if_pos rfl]
theorem ali_L (h : repS m o a) (hf : repF (m.1 52) 0 a) (w : wfA a N) : ∀ (d fu i : Nat) (acc : Int), i + d = a.1 → d < fu → 0 ≤ acc ∧ acc ≤ i → ∃ v : Int, 0 ≤ v ∧ v ≤ a.1 ∧ f_X2_aliases_L4 fu o acc i m = some (v, m) ∧ f_X4_members_L4 fu (i - acc) i m = some ((a.1 : Int) - v, m) := by
  have hn := w.n24
  have h1 := h.1
  have k1 : m.1 52 0 = a.1 := hf.1
  intro d
  induction d with
  | zero =>
    intro fu i acc hi hf2 hb
    obtain ⟨k, rfl⟩ : ∃ k, fu = k + 1 := ⟨fu - 1, by omega⟩
    exact ⟨acc, by omega, by omega, by rw [f_X2_aliases_L4, if_pos (by omega)], by rw [f_X4_members_L4, if_pos (by omega), show (i : Int) = a.1 by omega]⟩
  | succ d ih =>
    intro fu i acc hi hf2 hb
    obtain ⟨k, rfl⟩ : ∃ k, fu = k + 1 := ⟨fu - 1, by omega⟩
    have hil : i < a.1 := by omega
    by_cases zg : a.2.1 1 i = -5
    · obtain ⟨v, v0, v1, e1, e2⟩ := ih k (i + 1) acc (by omega) (by omega) (by omega)
      refine ⟨v, v0, v1, ?_, ?_⟩
      · rw [f_X2_aliases_L4, if_neg (by omega), bd_ (isMember_t h hn hil rfl zg)]
        dsimp only
        rw [if_neg (by decide), mmK_p (by constructor <;> omega), ci_1, e1]
      · rw [f_X4_members_L4, if_neg (by omega), bd_ (of1 hf hn i hil)]
        dsimp only
        rw [if_pos zg, mmK_p (by constructor <;> omega), mmK_p (by constructor <;> omega), mmK_p (by constructor <;> omega), show (i : Int) - acc + (1 - 0) = ((i + 1 : Nat) : Int) - acc by omega, ci_1, e2]
    · obtain ⟨v, v0, v1, e1, e2⟩ := ih k (i + 1) (acc + 1) (by omega) (by omega) (by omega)
      refine ⟨v, v0, v1, ?_, ?_⟩
      · rw [f_X2_aliases_L4, if_neg (by omega), bd_ (isMember_f h hn hil rfl zg)]
        dsimp only
        rw [if_pos rfl, mmK_p (by constructor <;> omega), mmK_p (by constructor <;> omega), ci_1, e1]
      · rw [f_X4_members_L4, if_neg (by omega), bd_ (of1 hf hn i hil)]
        dsimp only
        rw [if_neg zg, mmK_p (by constructor <;> omega), mmK_p (by constructor <;> omega), mmK_p (by constructor <;> omega), show (i : Int) - acc + (1 - 1) = ((i + 1 : Nat) : Int) - (acc + 1) by omega, ci_1, e2]
theorem ali_q (h : repS m o a) (hf : repF (m.1 52) 0 a) (w : wfA a N) : ∃ v : Int, 0 ≤ v ∧ v ≤ a.1 ∧ f_X2_aliases o m = some (v, m) ∧ f_X4_members m = some ((a.1 : Int) - v, m) :=
  ali_L h hf w a.1 mmFU 0 0 (by omega) (by have := w.n24; unfold mmFU; omega) (by omega)
theorem los_L (h : repS m o a) (hf : repF (m.1 52) 0 a) (w : wfA a N) : ∀ (d fu i : Nat) (acc : Int), i + d = a.1 → d < fu → 0 ≤ acc ∧ acc ≤ i → both2 (f_X2_lostAliases_L4 fu o acc i m) (f_X4_lostOnes_L4 fu acc i m) m := by
  have hn := w.n24
  have h1 := h.1
  have k1 : m.1 52 0 = a.1 := hf.1
  intro d
  induction d with
  | zero =>
    intro fu i acc hi hf2 hb
    obtain ⟨k, rfl⟩ : ∃ k, fu = k + 1 := ⟨fu - 1, by omega⟩
    exact b2_v acc (by rw [f_X2_lostAliases_L4, if_pos (by omega)]) (by rw [f_X4_lostOnes_L4, if_pos (by omega)])
  | succ d ih =>
    intro fu i acc hi hf2 hb
    obtain ⟨k, rfl⟩ : ∃ k, fu = k + 1 := ⟨fu - 1, by omega⟩
    have hil : i < a.1 := by omega
    obtain ⟨v, e1, e2⟩ := lost_q h hf w i hil
    by_cases z : v = 0
    · exact b2_eq (by
        rw [f_X2_lostAliases_L4, if_neg (by omega), bd_ e1]
        dsimp only
        rw [if_pos z, mmK_p (by constructor <;> omega), ci_1]) (by
        rw [f_X4_lostOnes_L4, if_neg (by omega), bd_ e2]
        dsimp only
        rw [if_pos z, mmK_p (by constructor <;> omega), mmK_p (by constructor <;> omega), Int.add_zero, ci_1]) (ih k (i + 1) acc (by omega) (by omega) (by omega))
    · exact b2_eq (by
        rw [f_X2_lostAliases_L4, if_neg (by omega), bd_ e1]
        dsimp only
        rw [if_neg z, mmK_p (by constructor <;> omega), mmK_p (by constructor <;> omega), ci_1]) (by
        rw [f_X4_lostOnes_L4, if_neg (by omega), bd_ e2]
        dsimp only
        rw [if_neg z, mmK_p (by constructor <;> omega), mmK_p (by constructor <;> omega), ci_1]) (ih k (i + 1) (acc + 1) (by omega) (by omega) (by omega))
theorem los_q (h : repS m o a) (hf : repF (m.1 52) 0 a) (w : wfA a N) : both2 (f_X2_lostAliases o m) (f_X4_lostOnes m) m :=
  los_L h hf w a.1 mmFU 0 0 (by omega) (by have := w.n24; unfold mmFU; omega) (by omega)
end QV
/-! TEXTS IN THEIR ORDER -/
theorem sumN_zero {f : Nat → Int} (n : Nat) (h : ∀ j, j < n → f j = 0) : sumN f n = 0 := by
  induction n with
  | zero => rfl
  | succ n ih => simp only [sumN]; rw [ih (fun j hj => h j (by omega)), h n (by omega)]; rfl
theorem sumN_one {f : Nat → Int} (n r : Nat) (hr : r < n) (h : ∀ j, j < n → j ≠ r → f j = 0) : sumN f n = f r := by
  induction n with
  | zero => omega
  | succ n ih =>
    simp only [sumN]
    by_cases z : r = n
    · subst z
      rw [sumN_zero r (fun j hj => h j (by omega) (by omega))]; omega
    · rw [ih (by omega) (fun j hj hne => h j (by omega) hne), h n (by omega) (by omega)]; omega
theorem sumN_lt {f : Nat → Int} {c : Int} (n : Nat) (h : ∀ j, j < n → f j ≤ c) : sumN f n ≤ c * n := by
  induction n with
  | zero => simp [sumN]
  | succ n ih =>
    have := h n (by omega)
    have := ih (fun j hj => h j (by omega))
    simp only [sumN, Int.natCast_add, Int.mul_add]
    omega
theorem sumN_add {f g : Nat → Int} (n : Nat) : sumN (fun j => f j + g j) n = sumN f n + sumN g n := by
  induction n with
  | zero => rfl
  | succ n ih => simp only [sumN]; rw [ih]; omega
def fstT (a : AS) (j : Nat) : Prop := ∀ i, i < j → ¬ a.2.1 2 i = a.2.1 2 j
noncomputable def txW (a : AS) (w : Nat → Int) (u : Int) : Int := sumN (fun j => cIf (fstT a j ∧ a.2.1 2 j = u) (w j) 0) a.1
noncomputable def layW (a : AS) (w : Nat → Int) (k : Nat) : Int := sumN (fun u => txW a w u) k
theorem tx_no {a : AS} {w : Nat → Int} {u : Int} (h : ∀ j, j < a.1 → ¬ a.2.1 2 j = u) : txW a w u = 0 := sumN_zero _ (fun j hj => cIf_f (fun q => h j hj q.2))
theorem tx_at {a : AS} {w : Nat → Int} {u : Int} (hw : ∀ i j, i < a.1 → j < a.1 → a.2.1 2 i = a.2.1 2 j → w i = w j) (j : Nat) (hj : j < a.1) (hu : a.2.1 2 j = u) : txW a w u = w j := by
  rcases fst_dec (fun i => a.2.1 2 i = u) a.1 with ⟨r, h1, h2, h3⟩ | h
  · unfold txW
    rw [sumN_one a.1 r h1 (fun i hi hne => ?_), cIf_t ⟨fun i hi q => h3 i hi (q.trans h2), h2⟩]
    · exact hw r j h1 hj (h2.trans hu.symm)
    · refine cIf_f (fun q => ?_)
      rcases Nat.lt_trichotomy i r with z | z | z
      · exact h3 i z q.2
      · exact hne z
      · exact q.1 r z (h2.trans q.2.symm)
  · exact absurd hu (h j hj)
theorem lay_ex {n K : Nat} {P : Nat → Prop} {s w : Nat → Int} (h : ∀ j, j < n → 0 ≤ s j ∧ s j < K) : sumN (fun u => sumN (fun j => cIf (P j ∧ s j = (u : Int)) (w j) 0) n) K = sumN (fun j => cIf (P j) (w j) 0) n := by
  induction n with
  | zero => exact sumN_zero _ (fun j _ => rfl)
  | succ n ih =>
    have e1 : sumN (fun u => sumN (fun j => cIf (P j ∧ s j = ((u : Nat) : Int)) (w j) 0) (n + 1)) K = sumN (fun u => sumN (fun j => cIf (P j ∧ s j = ((u : Nat) : Int)) (w j) 0) n + cIf (P n ∧ s n = ((u : Nat) : Int)) (w n) 0) K := rfl
    rw [e1, sumN_add, ih (fun j hj => h j (by omega))]
    have hn := h n (by omega)
    have e2 : sumN (fun u => cIf (P n ∧ s n = ((u : Nat) : Int)) (w n) 0) K = cIf (P n) (w n) 0 := by
      rw [sumN_one K (s n).toNat (by omega) (fun j hj hne => cIf_f (fun q => hne (by omega)))]
      by_cases z : P n
      · rw [cIf_t z, cIf_t ⟨z, by omega⟩]
      · rw [cIf_f z, cIf_f (fun q => z q.1)]
    rw [e2]
    rfl
theorem lay_gap {a : AS} {w : Nat → Int} (b : Nat) : ∀ d, (∀ j, j < a.1 → ¬ ((b : Int) ≤ a.2.1 2 j ∧ a.2.1 2 j < (b + d : Nat))) → layW a w (b + d) = layW a w b := by
  intro d
  induction d with
  | zero => intro _; rfl
  | succ d ih =>
    intro h
    have e1 : layW a w (b + (d + 1)) = layW a w (b + d) + txW a w ((b + d : Nat) : Int) := rfl
    rw [e1, ih (fun j hj q => h j hj ⟨q.1, by omega⟩), tx_no (fun j hj q => h j hj ⟨by omega, by omega⟩)]
    omega
theorem lay_gap2 {a : AS} {w : Nat → Int} (b c : Nat) (hbc : b ≤ c) (h : ∀ j, j < a.1 → ¬ ((b : Int) ≤ a.2.1 2 j ∧ a.2.1 2 j < (c : Nat))) : layW a w c = layW a w b := by
  obtain ⟨d, rfl⟩ : ∃ d, c = b + d := ⟨c - b, by omega⟩
  exact lay_gap b d h
theorem lay_s (a : AS) (w : Nat → Int) (k : Nat) : layW a w (k + 1) = layW a w k + txW a w (k : Int) := rfl
theorem tx_rg {a : AS} {w : Nat → Int} (h24 : a.1 ≤ 24) (hw : ∀ j, j < a.1 → 0 ≤ w j ∧ w j ≤ 40) (u : Int) : 0 ≤ txW a w u ∧ txW a w u ≤ 960 := by
  have p : ∀ j, j < a.1 → 0 ≤ cIf (fstT a j ∧ a.2.1 2 j = u) (w j) 0 ∧ cIf (fstT a j ∧ a.2.1 2 j = u) (w j) 0 ≤ 40 := by
    intro j hj
    by_cases z : fstT a j ∧ a.2.1 2 j = u
    · rw [cIf_t z]; exact hw j hj
    · rw [cIf_f z]; omega
  have := sumN_lt (c := 40) a.1 (fun j hj => (p j hj).2)
  refine ⟨sumN_ge a.1 (fun j hj => (p j hj).1), ?_⟩
  unfold txW
  omega
theorem lay_rg {a : AS} {w : Nat → Int} (h24 : a.1 ≤ 24) (hw : ∀ j, j < a.1 → 0 ≤ w j ∧ w j ≤ 40) (k : Nat) : 0 ≤ layW a w k ∧ layW a w k ≤ 960 * k :=
  ⟨sumN_ge k (fun j _ => (tx_rg h24 hw _).1), sumN_lt (c := 960) k (fun j _ => (tx_rg h24 hw _).2)⟩
theorem lay_mo {a : AS} {w : Nat → Int} (h24 : a.1 ≤ 24) (hw : ∀ j, j < a.1 → 0 ≤ w j ∧ w j ≤ 40) (b d : Nat) : layW a w b ≤ layW a w (b + d) := by
  induction d with
  | zero => exact Int.le_refl _
  | succ d ih =>
    have e1 : layW a w (b + (d + 1)) = layW a w (b + d) + txW a w ((b + d : Nat) : Int) := rfl
    have := (tx_rg h24 hw ((b + d : Nat) : Int)).1
    omega
