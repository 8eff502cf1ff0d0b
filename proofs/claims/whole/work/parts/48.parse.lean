/-! THE PAD, READ BY BOTH SIDES -/
def nx (pl : Nat) (p : Nat → Int) (i : Nat) : Int := if i < pl then p i else -1
def PR (pl : Nat) (p : Nat → Int) : Prop := pl ≤ 60 ∧ ∀ i, i < pl → 0 ≤ p i ∧ p i ≤ 65535
def BP (m : Mem) (pl : Nat) (p : Nat → Int) : Prop := m.1 45 1 = pl ∧ ∀ i, i < pl → m.1 46 i = p i
def B4 (m : Mem) (pl : Nat) (p : Nat → Int) : Prop := m.1 51 8 = pl ∧ ∀ i, i < pl → m.1 57 i = p i
def pp (m : Mem) (x : Int) : Mem := mwr m 45 7 x
def qq (m : Mem) (s x : Int) : Mem := mwr (mwr m 51 9 s) 51 10 x
theorem mwr_tw {m : Mem} {c k : Nat} {u v : Int} : mwr (mwr m c k u) c k v = mwr m c k v := by
  refine Prod.ext (funext fun j => ?_) rfl
  by_cases z : j = c
  · subst z
    funext q
    rw [mwr_self, mwr_self, mwr_self]
    by_cases y : q = k
    · rw [if_pos y, if_pos y]
    · rw [if_neg y, if_neg y, if_neg y]
  · rw [mwr_ne z, mwr_ne z, mwr_ne z]
theorem mwr_cm {m : Mem} {c k l : Nat} {u v : Int} (h : k ≠ l) : mwr (mwr m c k u) c l v = mwr (mwr m c l v) c k u := by
  refine Prod.ext (funext fun j => ?_) rfl
  by_cases z : j = c
  · subst z
    funext q
    rw [mwr_self, mwr_self, mwr_self, mwr_self]
    by_cases y : q = l
    · rw [if_pos y, if_neg (fun e => h (e.symm.trans y)), if_pos y]
    · rw [if_neg y, if_neg y]
  · rw [mwr_ne z, mwr_ne z, mwr_ne z, mwr_ne z]
theorem mwr_id {m : Mem} {c k : Nat} : mwr m c k (m.1 c k) = m := by
  refine Prod.ext (funext fun j => ?_) rfl
  by_cases z : j = c
  · subst z
    funext q
    rw [mwr_self]
    by_cases y : q = k
    · rw [if_pos y, y]
    · rw [if_neg y]
  · rw [mwr_ne z]
theorem pp_w {m : Mem} {x y : Int} : mwr (pp m x) 45 7 y = pp m y := mwr_tw
theorem qq_9 {m : Mem} {s x y : Int} : mwr (qq m s x) 51 9 y = qq m y x := by
  unfold qq
  rw [mwr_cm (by decide), mwr_tw]
theorem qq_10 {m : Mem} {s x y : Int} : mwr (qq m s x) 51 10 y = qq m s y := mwr_tw
theorem pp_id {m : Mem} {x : Int} (h : m.1 45 7 = x) : pp m x = m := by rw [← h]; exact mwr_id
theorem qq_id {m : Mem} {s : Int} (h : m.1 51 9 = s) : qq m s (m.1 51 10) = m := by
  unfold qq
  rw [← h, mwr_id, mwr_id]
section PS
variable {pl : Nat} {p : Nat → Int} {m : Mem}
theorem nx_lt {i : Nat} (h : 0 ≤ nx pl p i) : i < pl := by
  unfold nx at h
  by_cases z : i < pl
  · exact z
  · rw [if_neg z] at h; omega
theorem nx_at {i : Nat} (h : i < pl) : nx pl p i = p i := if_pos h
theorem nx_rg (hp : PR pl p) (i : Nat) : -1 ≤ nx pl p i ∧ nx pl p i ≤ 65535 := by
  unfold nx
  by_cases z : i < pl
  · rw [if_pos z]; have := hp.2 i z; omega
  · rw [if_neg z]; omega
theorem pp7 {x : Int} : (pp m x).1 45 7 = x := by unfold pp; rw [mwr_self, if_pos rfl]
theorem pp1 {x : Int} : (pp m x).1 45 1 = m.1 45 1 := by unfold pp; rw [mwr_self, if_neg (by decide)]
theorem pp6 {x : Int} : (pp m x).1 45 6 = m.1 45 6 := by unfold pp; rw [mwr_self, if_neg (by decide)]
theorem ppc {x : Int} {c : Nat} (h : c ≠ 45) : (pp m x).1 c = m.1 c := mwr_ne h
theorem qq9 {s x : Int} : (qq m s x).1 51 9 = s := by unfold qq; rw [mwr_self, if_neg (by decide), mwr_self, if_pos rfl]
theorem qq10 {s x : Int} : (qq m s x).1 51 10 = x := by unfold qq; rw [mwr_self, if_pos rfl]
theorem qqk {s x : Int} {k : Nat} (h : k ≠ 9) (h2 : k ≠ 10) : (qq m s x).1 51 k = m.1 51 k := by unfold qq; rw [mwr_self, if_neg h2, mwr_self, if_neg h]
theorem qqc {s x : Int} {c : Nat} (h : c ≠ 51) : (qq m s x).1 c = m.1 c := by unfold qq; rw [mwr_ne h, mwr_ne h]
theorem c_next (hp : PR pl p) (hB : BP m pl p) (i : Nat) : f_X1_next (pp m i) = some (nx pl p i, pp m i) := by
  have h60 := hp.1
  unfold f_X1_next
  rw [pp7, pp1, hB.1, if_neg (by omega)]
  by_cases z : i < pl
  · rw [if_neg (by omega), mmK_p (by omega), ppc (by decide), tN, hB.2 i z, nx_at z]
  · rw [if_pos (by omega)]
    unfold nx
    rw [if_neg z]
theorem c_let_t (hp : PR pl p) (hB : BP m pl p) (i : Nat) (h : 65 ≤ nx pl p i ∧ nx pl p i ≤ 90) : f_X1_readLetter (pp m i) = some (nx pl p i - 65, pp m ((i + 1 : Nat) : Int)) := by
  have h60 := hp.1
  have hlt := nx_lt (show 0 ≤ nx pl p i by omega)
  unfold f_X1_readLetter
  rw [bd_ (c_next hp hB i)]
  dsimp only
  rw [if_neg (by omega), if_pos h.2, pp7, mmK_p (by constructor <;> omega), mmK_p (by constructor <;> omega), ci_1, pp_w]
theorem c_let_f (hp : PR pl p) (hB : BP m pl p) (i : Nat) (h : ¬ (65 ≤ nx pl p i ∧ nx pl p i ≤ 90)) : f_X1_readLetter (pp m i) = some (-1, pp m i) := by
  unfold f_X1_readLetter
  rw [bd_ (c_next hp hB i)]
  dsimp only
  by_cases z : nx pl p i < 65
  · rw [if_pos z]
  · rw [if_neg z, if_neg (by omega)]
theorem c_tk_t (hp : PR pl p) (hB : BP m pl p) (i : Nat) {c : Int} (hc : 0 ≤ c) (h : nx pl p i = c) : f_X1_takes c (pp m i) = some (1, pp m ((i + 1 : Nat) : Int)) := by
  have h60 := hp.1
  have hlt := nx_lt (show 0 ≤ nx pl p i by omega)
  unfold f_X1_takes
  rw [bd_ (c_next hp hB i)]
  dsimp only
  rw [if_pos h, pp7, mmK_p (by constructor <;> omega), ci_1, pp_w]
theorem c_tk_f (hp : PR pl p) (hB : BP m pl p) (i : Nat) {c : Int} (h : ¬ nx pl p i = c) : f_X1_takes c (pp m i) = some (0, pp m i) := by
  unfold f_X1_takes
  rw [bd_ (c_next hp hB i)]
  dsimp only
  rw [if_neg h]
theorem c_dig_t (hp : PR pl p) (hB : BP m pl p) (i : Nat) (h : 48 ≤ nx pl p i ∧ nx pl p i ≤ 57) : f_X1_nextDigit (pp m i) = some (nx pl p i - 48, pp m i) := by
  unfold f_X1_nextDigit
  rw [bd_ (c_next hp hB i)]
  dsimp only
  rw [if_neg (by omega), if_neg (by omega), mmK_p (by constructor <;> omega)]
theorem c_dig_f (hp : PR pl p) (hB : BP m pl p) (i : Nat) (h : ¬ (48 ≤ nx pl p i ∧ nx pl p i ≤ 57)) : f_X1_nextDigit (pp m i) = some (-1, pp m i) := by
  unfold f_X1_nextDigit
  rw [bd_ (c_next hp hB i)]
  dsimp only
  by_cases z : nx pl p i < 48
  · rw [if_pos z]
  · rw [if_neg z, if_pos (by omega)]
theorem m_h (hp : PR pl p) (hB : B4 m pl p) (i : Nat) {x lo hi : Int} (hlo : 0 ≤ lo) : f_X4_isHere lo hi (qq m i x) = some (cIf (lo ≤ nx pl p i ∧ nx pl p i ≤ hi) 1 0, qq m i x) := by
  have h60 := hp.1
  unfold f_X4_isHere
  rw [qqk (by decide) (by decide), qq9, hB.1]
  by_cases z : i < pl
  · rw [if_neg (by omega), mmK_p (by omega), qqc (by decide), tN, hB.2 i z, ← nx_at (p := p) z]
    by_cases y : lo ≤ nx pl p i ∧ nx pl p i ≤ hi
    · rw [bd_ (in_t y), cIf_t y]
      dsimp only
      rw [if_neg (by decide)]
    · rw [bd_ (in_f y), cIf_f y]
      dsimp only
      rw [if_pos rfl]
  · rw [if_pos (by omega), cIf_f (fun q => z (nx_lt (p := p) (by omega)))]
theorem m_h_t (hp : PR pl p) (hB : B4 m pl p) (i : Nat) {x lo hi : Int} (hlo : 0 ≤ lo) (h : lo ≤ nx pl p i ∧ nx pl p i ≤ hi) : f_X4_isHere lo hi (qq m i x) = some (1, qq m i x) := by rw [m_h hp hB i hlo, cIf_t h]
theorem m_h_f (hp : PR pl p) (hB : B4 m pl p) (i : Nat) {x lo hi : Int} (hlo : 0 ≤ lo) (h : ¬ (lo ≤ nx pl p i ∧ nx pl p i ≤ hi)) : f_X4_isHere lo hi (qq m i x) = some (0, qq m i x) := by rw [m_h hp hB i hlo, cIf_f h]
theorem m_tk_t (hp : PR pl p) (hB : B4 m pl p) (i : Nat) {x c : Int} (hc : 0 ≤ c) (h : nx pl p i = c) : f_X4_takes c (qq m i x) = some (1, qq m ((i + 1 : Nat) : Int) x) := by
  have h60 := hp.1
  have hlt := nx_lt (show 0 ≤ nx pl p i by omega)
  unfold f_X4_takes
  rw [bd_ (m_h_t hp hB i hc (by omega))]
  dsimp only
  rw [if_neg (by decide), qq9, mmK_p (by constructor <;> omega), mmK_p (Or.inr rfl), ci_1, qq_9]
theorem m_tk_f (hp : PR pl p) (hB : B4 m pl p) (i : Nat) (hi : i ≤ pl) {x c : Int} (hc : 0 ≤ c) (h : ¬ nx pl p i = c) : f_X4_takes c (qq m i x) = some (0, qq m i x) := by
  have h60 := hp.1
  unfold f_X4_takes
  rw [bd_ (m_h_f hp hB i hc (by omega))]
  dsimp only
  rw [if_pos rfl, qq9, mmK_p (by constructor <;> omega), mmK_p (Or.inl rfl), Int.add_zero, qq_9]
/-- a name, read by both sides -/
theorem nm_ex (hp : PR pl p) (i : Nat) (hi : i ≤ pl) : (∃ v : Int, i + 2 ≤ pl ∧ 0 ≤ v ∧ v < 676 ∧ (∀ m, BP m pl p → f_X1_readName (pp m i) = some (v, pp m ((i + 2 : Nat) : Int))) ∧ (∀ m x, B4 m pl p → f_X4_readsName (qq m i x) = some (1, qq m ((i + 2 : Nat) : Int) v))) ∨ (∃ j : Nat, i ≤ j ∧ j ≤ pl ∧ (∀ m, BP m pl p → f_X1_readName (pp m i) = some (-1, pp m (j : Int))) ∧ (∀ m x, B4 m pl p → ∃ x', f_X4_readsName (qq m i x) = some (0, qq m (j : Int) x'))) := by
  have h60 := hp.1
  have st : ∀ (m : Mem) (k : Nat) (t : Int) (x : Int) (j : Nat), B4 m pl p → (0 ≤ x ∧ x ≤ 25) → (0 ≤ t ∧ t ≤ 1) → (65 ≤ nx pl p j ∧ nx pl p j ≤ 90) → f_X4_readsName_L7 (k + 1) t (qq m j x) = f_X4_readsName_L7 k (t + 1) (qq m ((j + 1 : Nat) : Int) (26 * x + nx pl p j - 65)) := by
    intro m k t x j hB hx ht hn
    have hlt := nx_lt (show 0 ≤ nx pl p j by omega)
    rw [f_X4_readsName_L7, if_neg (by omega), bd_ (m_h_t hp hB j (by decide) hn)]
    dsimp only
    rw [if_neg (by decide), qq10, qq9, qqc (by decide), tN, hB.2 j hlt, ← nx_at (p := p) hlt, mmK_p (by constructor <;> omega), mmK_p (by omega), mmK_p (by constructor <;> omega), mmK_p (by constructor <;> omega), mmK_p (by constructor <;> omega), mmK_p (by constructor <;> omega), qq_10, qq_9, ci_1]
  have fl : ∀ (m : Mem) (k : Nat) (t : Int) (x : Int) (j : Nat), B4 m pl p → (0 ≤ t ∧ t ≤ 1) → ¬ (65 ≤ nx pl p j ∧ nx pl p j ≤ 90) → f_X4_readsName_L7 (k + 1) t (qq m j x) = some (0, qq m j x) := by
    intro m k t x j hB ht hn
    rw [f_X4_readsName_L7, if_neg (by omega), bd_ (m_h_f hp hB j (by decide) hn)]
    dsimp only
    rw [if_pos rfl]
  by_cases z1 : 65 ≤ nx pl p i ∧ nx pl p i ≤ 90
  · have l1 := nx_lt (show 0 ≤ nx pl p i by omega)
    by_cases z2 : 65 ≤ nx pl p (i + 1) ∧ nx pl p (i + 1) ≤ 90
    · have l2 := nx_lt (show 0 ≤ nx pl p (i + 1) by omega)
      refine Or.inl ⟨(nx pl p i - 65) * 26 + (nx pl p (i + 1) - 65), by omega, by omega, by omega, fun m hB => ?_, fun m x hB => ?_⟩
      · unfold f_X1_readName
        rw [bd_ (c_let_t hp hB i z1)]
        dsimp only
        rw [if_neg (by omega), bd_ (c_let_t hp hB (i + 1) z2)]
        dsimp only
        rw [if_neg (by omega), mmK_p (by constructor <;> omega), mmK_p (by constructor <;> omega)]
      · unfold f_X4_readsName
        rw [qq_10, show mmFU = 997 + 1 + 1 + 1 from rfl, st m _ 0 0 i hB (by omega) (by omega) z1, st m _ (0 + 1) _ (i + 1) hB (by omega) (by omega) z2, f_X4_readsName_L7, if_pos (by decide), show 26 * (26 * 0 + nx pl p i - 65) + nx pl p (i + 1) - 65 = (nx pl p i - 65) * 26 + (nx pl p (i + 1) - 65) by omega]
    · refine Or.inr ⟨i + 1, by omega, by omega, fun m hB => ?_, fun m x hB => ⟨26 * 0 + nx pl p i - 65, ?_⟩⟩
      · unfold f_X1_readName
        rw [bd_ (c_let_t hp hB i z1)]
        dsimp only
        rw [if_neg (by omega), bd_ (c_let_f hp hB (i + 1) z2)]
        dsimp only
        rw [if_pos rfl]
      · unfold f_X4_readsName
        rw [qq_10, show mmFU = 997 + 1 + 1 + 1 from rfl, st m _ 0 0 i hB (by omega) (by omega) z1, fl m _ (0 + 1) _ (i + 1) hB (by omega) z2]
  · refine Or.inr ⟨i, by omega, hi, fun m hB => ?_, fun m x hB => ⟨0, ?_⟩⟩
    · unfold f_X1_readName
      rw [bd_ (c_let_f hp hB i z1)]
      dsimp only
      rw [if_pos rfl]
    · unfold f_X4_readsName
      rw [qq_10, show mmFU = 999 + 1 from rfl, fl m _ 0 0 i hB (by omega) z1]
end PS
