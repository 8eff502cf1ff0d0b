/-! THE LAW -/
def as0 : AS := (0, fun _ _ => 0, fun k => if k = 0 then 2 else 0)
theorem so_0 (a : AS) (h1 : a.1 = 0) (h2 : a.2.2 = as0.2.2) (H : Nat → AS) : SO mmM0 a 0 H := by
  have e1 : ∀ k, mmM0.1 1 k = if k = 6 then 2 else 0 := fun k => rfl
  refine ⟨a, ⟨?_, ?_, ?_, ?_, ?_, fun r hr => by omega⟩, ⟨fun i => 21 + 6 * i, rfl, by decide, fun i hi => ?_, fun i j _ _ e => by have e : 21 + 6 * i = 21 + 6 * j := e; omega, fun i hi => absurd hi (Nat.not_lt_zero i)⟩, rfl, fun e => absurd e (by decide)⟩
  · rw [e1, h1]; rfl
  · rw [e1, h2]; rfl
  · rw [e1, h2]; rfl
  · rw [e1, h2]; rfl
  · rw [e1, h2]; rfl
  · rcases (show i = 0 ∨ i = 1 ∨ i = 2 ∨ i = 3 by omega) with rfl | rfl | rfl | rfl
    · exact ⟨rfl, Or.inl rfl⟩
    · exact ⟨rfl, Or.inr (Or.inl rfl)⟩
    · exact ⟨rfl, Or.inr (Or.inr (Or.inl rfl))⟩
    · exact ⟨rfl, Or.inr (Or.inr (Or.inr rfl))⟩
theorem two_0 : Two (mmM0, mmM0) as0 0 (fun _ => as0) 0 := by
  have no : ∀ i : Nat, ¬ i < as0.1 := fun i h => absurd h (Nat.not_lt_zero i)
  refine ⟨so_0 as0 rfl rfl _, so_0 (shA as0) rfl rfl _, Int.le_refl _, ⟨⟨?_, fun i j _ h => absurd h (no j), fun i h => absurd h (no i), fun i j h => absurd h (no i), fun i j h => absurd h (no i)⟩, fun i h => absurd h (no i), fun i j h => absurd h (no i), fun i j h => absurd h (no i)⟩, fun i h => absurd h (Nat.not_lt_zero i)⟩
  show ((0 : Nat) : Int) ≤ 4 * (if 0 = 0 then 2 else 0) ∧ (1 : Int) ≤ (if 0 = 0 then 2 else 0) ∧ (if 0 = 0 then (2 : Int) else 0) ≤ 6 ∧ (0 : Int) ≤ (if 1 = 0 then 2 else 0) ∧ (if 1 = 0 then (2 : Int) else 0) ≤ 100 ∧ (0 : Int) ≤ (if 2 = 0 then 2 else 0) ∧ (if 2 = 0 then (2 : Int) else 0) ≤ 0 ∧ (0 : Int) ≤ (if 3 = 0 then 2 else 0) ∧ (if 3 = 0 then (2 : Int) else 0) ≤ 100 * 0
  decide
section LW
variable {L : Nat} {xs : Nat → Int32}
theorem law_82 {m : Mem2} {a : AS} {hn : Nat} {H : Nat → AS} {N : Int} (T : Two m a hn H N) : f_L_law_L82 L xs 1 m = some (1, m) := by
  unfold f_L_law_L82
  rw [if_neg (by decide), bd_ (well_ok T)]
  dsimp only
  rw [if_neg (by decide), bd_ (ak_ok T)]
  dsimp only
  rw [if_neg (by decide)]
theorem law_21 : ∀ (d fu k : Nat) (m : Mem2) (a : AS) (hn : Nat) (H : Nat → AS), k + d = 52 → d < fu → Two m a hn H (k : Int) → ∃ m', f_L_law_L21 L xs fu 1 (k : Int) m = some (1, m') := by
  intro d
  induction d with
  | zero =>
    intro fu k m a hn H hk hf T
    obtain ⟨q, rfl⟩ : ∃ q, fu = q + 1 := ⟨fu - 1, by omega⟩
    rw [f_L_law_L21, if_pos (by omega)]
    exact ⟨m, law_82 T⟩
  | succ d ih =>
    intro fu k m a hn H hk hf T
    obtain ⟨q, rfl⟩ : ∃ q, fu = q + 1 := ⟨fu - 1, by omega⟩
    obtain ⟨m1, a1, hn1, H1, e1, T1⟩ := st_ok (l2 := cellV L xs (k : Int)) (l3 := shr (cellV L xs ((k : Int) + 1)) 2) T (by omega)
    rw [f_L_law_L21, if_neg (by omega), if_neg (by decide), mmK_p (by omega), mmK_p (by constructor <;> omega), mmK_p (by omega), bd_ e1]
    dsimp only
    rw [if_neg (by decide), mmK_p (by omega)]
    have go := ih q (k + 1) m1 a1 hn1 H1 (by omega) (by omega) T1
    by_cases z : 0 < (k : Int) % 3
    · rw [if_pos z, mmK_p (by constructor <;> omega), ci_1]
      exact go
    · rw [if_neg z, bd_ (well_ok T1)]
      dsimp only
      rw [if_neg (by decide), mmK_p (by constructor <;> omega), ci_1]
      exact go
theorem law_fin (hL : L ≤ 260) : ∃ m', f_L_law_L21 L xs mmFU 1 0 (mmM0, mmM0) = some (1, m') := law_21 52 mmFU 0 _ _ _ _ (by omega) (by decide) two_0
end LW
