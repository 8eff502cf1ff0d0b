/-! THE TWO SHELVES ARE ALIKE -/
section AK
variable {m : Mem2} {a : AS} {hn : Nat} {H : Nat → AS} {N : Int}
theorem beg_le (w : wfA a N) (x y : Int) (hy : 0 ≤ y) : begV a x y ≤ 1000 := by
  have hle := blw_le a ((x + 1) * 26)
  unfold begV
  by_cases h1 : x < 0 ∨ 26 ≤ x ∨ y < 0
  · rw [if_pos h1]; decide
  rw [if_neg h1]
  by_cases h2 : (blw a ((x + 1) * 26) : Int) - (blw a (x * 26) : Int) ≤ y
  · rw [if_pos h2]; decide
  rw [if_neg h2]
  have := (w.2.2.1 _ (show ((blw a (x * 26) : Int) + y).toNat < a.1 by omega)).2.1
  omega
theorem unL_le (w : wfA a N) (u : Int) : ∀ d i, i + d = a.1 → unL a u d i ≤ 1000 := by
  intro d
  induction d with
  | zero => intro i _; exact Int.le_refl _
  | succ d ih =>
    intro i hi
    have := (w.2.2.1 i (by omega)).2.1
    rw [unL]
    split
    · omega
    · exact ih (i + 1) (by omega)
theorem unV_le (w : wfA a N) (u : Int) : unV a u ≤ 1000 := by
  unfold unV
  by_cases h1 : u < 0 ∨ 100 ≤ u
  · rw [if_pos h1]; decide
  rw [if_neg h1]
  by_cases h2 : u < a.2.2 1
  · rw [if_pos h2]; exact unL_le w u a.1 0 (by omega)
  · rw [if_neg h2]; decide
theorem namV_at (r : Nat) (hr : r < a.1) : namV a (r : Int) = a.2.1 0 r := by
  unfold namV
  rw [if_neg (by omega), if_pos (by omega)]
  rfl
theorem ent7_le (w : wfA a N) (x : Int) : entV a x 7 ≤ 1000 := by
  by_cases h : hasN a x
  · rw [ent_y x 7 h, er7]
    have := (w.2.2.1 _ (w.at_ h).1).2.2.1
    omega
  · rw [ent_n x 7 h]; decide
theorem ak_238 (T : Two m a hn H N) : ∀ (d fu i : Nat), i + d = 13 → d < fu → f_L_areAlike_L238 fu 1 (i : Int) m = some (1, m) := by
  have w := T.2.2.2.1.1
  have lo := T.2.2.2.1.2.1
  intro d
  induction d with
  | zero =>
    intro fu i hi hf
    obtain ⟨k, rfl⟩ : ∃ k, fu = k + 1 := ⟨fu - 1, by omega⟩
    rw [f_L_areAlike_L238, if_pos (by omega), mmK_p (Or.inr rfl)]
  | succ d ih =>
    intro fu i hi hf
    obtain ⟨k, rfl⟩ : ∃ k, fu = k + 1 := ⟨fu - 1, by omega⟩
    have hb := beg_le w (i : Int) 1 (by decide)
    rw [f_L_areAlike_L238, if_neg (by omega), if_neg (by decide), bd_ (o_beg T _)]
    dsimp only
    rw [bd_ (there_ok _ (by omega))]
    dsimp only
    rw [mmK_p (by constructor <;> omega), bd_ (p_beg T _)]
    dsimp only
    rw [if_pos (begV_sh w lo (i : Int) 1 (by omega) (by decide)).symm, mmK_p (by constructor <;> omega), ci_1]
    exact ih k (i + 1) (by omega) (by omega)
theorem ak_198 (T : Two m a hn H N) : ∀ (d fu i : Nat), 100 ≤ i + 3 * d → i ≤ 200 → d < fu → f_L_areAlike_L198 fu 1 (i : Int) m = some (1, m) := by
  have w := T.2.2.2.1.1
  have lo := T.2.2.2.1.2.1
  have fin := ak_238 T 13 mmFU 0 (by omega) (by decide)
  intro d
  induction d with
  | zero =>
    intro fu i hi hi2 hf
    obtain ⟨k, rfl⟩ : ∃ k, fu = k + 1 := ⟨fu - 1, by omega⟩
    rw [f_L_areAlike_L198, if_pos (by omega)]
    exact fin
  | succ d ih =>
    intro fu i hi hi2 hf
    obtain ⟨k, rfl⟩ : ∃ k, fu = k + 1 := ⟨fu - 1, by omega⟩
    by_cases z : 100 ≤ i
    · rw [f_L_areAlike_L198, if_pos (by omega)]
      exact fin
    · have hb := unV_le w (i : Int)
      rw [f_L_areAlike_L198, if_neg (by omega), if_neg (by decide), bd_ (o_at T _)]
      dsimp only
      rw [bd_ (there_ok _ (by omega))]
      dsimp only
      rw [bd_ (p_at T _)]
      dsimp only
      rw [if_pos (unV_sh w lo (i : Int)).symm, mmK_p (by constructor <;> omega), show (i : Int) + 3 = ((i + 3 : Nat) : Int) from rfl]
      exact ih k (i + 3) (by omega) (by omega) (by omega)
theorem ak_132 (T : Two m a hn H N) (k41 : Int → Int → Mem2 → Option (Int × Mem2)) (r : Nat) (hr : r < a.1) (x : Int) (hx : 0 ≤ x ∧ x < 338) : ∀ (d fu j : Nat), j + d = 9 → d < fu → f_L_areAlike_L132 k41 fu 1 (r : Int) x (j : Int) m = k41 1 ((r + 1 : Nat) : Int) m := by
  have w := T.2.2.2.1.1
  have lo := T.2.2.2.1.2.1
  have h24 := w.n24
  intro d
  induction d with
  | zero =>
    intro fu i hi hf
    obtain ⟨k, rfl⟩ : ∃ k, fu = k + 1 := ⟨fu - 1, by omega⟩
    rw [f_L_areAlike_L132, if_pos (by omega), mmK_p (by constructor <;> omega), ci_1]
  | succ d ih =>
    intro fu j hj hf
    obtain ⟨k, rfl⟩ : ∃ k, fu = k + 1 := ⟨fu - 1, by omega⟩
    rw [f_L_areAlike_L132, if_neg (by omega), if_neg (by decide)]
    by_cases z5 : (j : Int) = 5
    · rw [if_pos z5, mmK_p (by constructor <;> omega), ci_1]
      exact ih k (j + 1) (by omega) (by omega)
    rw [if_neg z5]
    by_cases z7 : (j : Int) = 7
    · rw [if_pos z7, mmK_p (by constructor <;> omega), ci_1]
      exact ih k (j + 1) (by omega) (by omega)
    rw [if_neg z7, bd_ (o_ent T _ _)]
    dsimp only
    rw [bd_ (th_n x hx)]
    dsimp only
    rw [bd_ (p_ent T _ _)]
    dsimp only
    rw [if_pos (entV_sh w lo x (j : Int) z5 z7).symm, mmK_p (by constructor <;> omega), ci_1]
    exact ih k (j + 1) (by omega) (by omega)
theorem ak_41 (T : Two m a hn H N) : ∀ (d fu r : Nat), r + d = a.1 → d < fu → f_L_areAlike_L41 fu 1 (r : Int) m = some (1, m) := by
  have w := T.2.2.2.1.1
  have lo := T.2.2.2.1.2.1
  have fin := ak_198 T 34 mmFU 0 (by omega) (by omega) (by decide)
  intro d
  induction d with
  | zero =>
    intro fu r hr hf
    obtain ⟨k, rfl⟩ : ∃ k, fu = k + 1 := ⟨fu - 1, by omega⟩
    rw [f_L_areAlike_L41, bd_ (o_cnt T 0 (by decide) (by decide)), cv0]
    dsimp only
    rw [if_pos (by omega)]
    exact fin
  | succ d ih =>
    intro fu r hr hf
    obtain ⟨k, rfl⟩ : ∃ k, fu = k + 1 := ⟨fu - 1, by omega⟩
    have hrl : r < a.1 := by omega
    have hx : 0 ≤ a.2.1 0 r ∧ a.2.1 0 r < 338 := ⟨(w.2.2.1 r hrl).1, (lo r hrl).1⟩
    have hh : hasN a (a.2.1 0 r) := ⟨r, hrl, rfl⟩
    have h7 := ent7_le w (a.2.1 0 r)
    have h5 := entV_sh5 (a := a) (a.2.1 0 r) hh
    have hm : 0 ≤ entV a (a.2.1 0 r) 5 ∧ entV a (a.2.1 0 r) 5 ≤ 9999 := by
      rw [ent_y _ 5 hh, er5]
      have := w.2.2.1 _ (w.at_ hh).1
      exact this.2.2.2.2.2.2.2
    rw [f_L_areAlike_L41, bd_ (o_cnt T 0 (by decide) (by decide)), cv0]
    dsimp only
    rw [if_neg (by omega), if_neg (by decide), bd_ (o_nam T _), namV_at r hrl]
    dsimp only
    rw [bd_ (th_n _ hx)]
    dsimp only
    rw [bd_ (p_nam T _), namV_sh w lo, namV_at r hrl, thr_n hx]
    dsimp only
    rw [if_pos rfl, bd_ (o_ent T _ _)]
    dsimp only
    rw [bd_ (there_ok _ (by omega))]
    dsimp only
    rw [bd_ (th_n _ hx)]
    dsimp only
    rw [bd_ (p_ent T _ _)]
    dsimp only
    rw [if_pos (entV_sh7 w lo _ hh), bd_ (o_ent T _ _)]
    dsimp only
    rw [bd_ (th_n _ hx)]
    dsimp only
    rw [bd_ (p_ent T _ _)]
    dsimp only
    rw [mmK_p (by constructor <;> omega), if_pos h5]
    have := ak_132 T (f_L_areAlike_L41 k) r hrl (a.2.1 0 r) hx 9 mmFU 0 (by omega) (by decide)
    rw [show ((0 : Nat) : Int) = 0 from rfl] at this
    rw [this]
    exact ih k (r + 1) (by omega) (by omega)
theorem ak_4 (T : Two m a hn H N) : ∀ (d fu j : Nat), j + d = 14 → d < fu → f_L_areAlike_L4 fu 1 (j : Int) m = some (1, m) := by
  have w := T.2.2.2.1.1
  have lo := T.2.2.2.1.2.1
  have fin := ak_41 T a.1 mmFU 0 (by omega) (by have := w.n24; unfold mmFU; omega)
  intro d
  induction d with
  | zero =>
    intro fu j hj hf
    obtain ⟨k, rfl⟩ : ∃ k, fu = k + 1 := ⟨fu - 1, by omega⟩
    rw [f_L_areAlike_L4, if_pos (by omega)]
    exact fin
  | succ d ih =>
    intro fu j hj hf
    obtain ⟨k, rfl⟩ : ∃ k, fu = k + 1 := ⟨fu - 1, by omega⟩
    have go := ih k (j + 1) (by omega) (by omega)
    rw [f_L_areAlike_L4, if_neg (by omega), if_neg (by decide)]
    by_cases z : (j : Int) = 13
    · rw [z, bd_ (o_c13 T)]
      dsimp only
      rw [bd_ (p_c13 T)]
      dsimp only
      rw [if_pos rfl, mmK_p (by decide), show (13 : Int) + 1 = ((j + 1 : Nat) : Int) by omega]
      exact go
    · rw [bd_ (o_cnt T _ z (by omega))]
      dsimp only
      rw [bd_ (p_cnt T _ z (by omega)), cnt_sh w lo]
      dsimp only
      rw [if_pos rfl, mmK_p (by constructor <;> omega), ci_1]
      exact go
theorem ak_ok (T : Two m a hn H N) : f_L_areAlike m = some (1, m) := ak_4 T 14 mmFU 0 (by omega) (by decide)
end AK
