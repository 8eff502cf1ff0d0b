section CL
variable {m : Mem} {o : Nat} {a : AS}
theorem isName_t {x : Int} (h : 0 ≤ x ∧ x < 676) : f_X2_isName x m = some (1, m) := by unfold f_X2_isName; rw [if_neg (by omega), if_neg (by omega)]
theorem isName_f {x : Int} (h : ¬ (0 ≤ x ∧ x < 676)) : f_X2_isName x m = some (0, m) := by
  unfold f_X2_isName
  by_cases h1 : x < 0
  · rw [if_pos h1]
  · rw [if_neg h1, if_pos (by omega)]
theorem isLength_t {x : Int} (h : 1 ≤ x ∧ x ≤ 40) : f_X2_isLength x m = some (1, m) := by unfold f_X2_isLength; rw [if_neg (by omega), if_neg (by omega)]
theorem isLength_f {x : Int} (h : ¬ (1 ≤ x ∧ x ≤ 40)) : f_X2_isLength x m = some (0, m) := by
  unfold f_X2_isLength
  by_cases h1 : x < 1
  · rw [if_pos h1]
  · rw [if_neg h1, if_pos (by omega)]
theorem isMark_t {x : Int} (h : 0 ≤ x ∧ x ≤ 9999) : f_X2_isMark x m = some (1, m) := by unfold f_X2_isMark; rw [if_neg (by omega), if_neg (by omega)]
theorem isMark_f {x : Int} (h : ¬ (0 ≤ x ∧ x ≤ 9999)) : f_X2_isMark x m = some (0, m) := by
  unfold f_X2_isMark
  by_cases h1 : x < 0
  · rw [if_pos h1]
  · rw [if_neg h1, if_pos (by omega)]
theorem isRank_t {x : Int} (h : repS m o a) (hx : 0 ≤ x ∧ x < a.1) : f_X2_isRank o x m = some (1, m) := by
  have := h.1
  unfold f_X2_isRank; rw [if_neg (by omega), if_neg (by omega)]
theorem isRank_f {x : Int} (h : repS m o a) (hx : ¬ (0 ≤ x ∧ x < a.1)) : f_X2_isRank o x m = some (0, m) := by
  have := h.1
  unfold f_X2_isRank
  by_cases h1 : x < 0
  · rw [if_pos h1]
  · rw [if_neg h1, if_pos (by omega)]
theorem dirFull_f {N : Int} (h : repS m o a) (w : wfA a N) (hx : (a.1 : Int) < 4 * a.2.2 0) : f_X2_isDirectoryFull o m = some (0, m) := by
  obtain ⟨h1, h2, -⟩ := h
  have := w.1
  unfold f_X2_isDirectoryFull
  rw [mmK_p (by constructor <;> omega), if_pos (by omega)]
theorem dirFull_t {N : Int} (h : repS m o a) (w : wfA a N) (hx : ¬ (a.1 : Int) < 4 * a.2.2 0) : f_X2_isDirectoryFull o m = some (1, m) := by
  obtain ⟨h1, h2, -⟩ := h
  have := w.1
  unfold f_X2_isDirectoryFull
  rw [mmK_p (by constructor <;> omega), if_neg (by omega)]
theorem hasRoom_t {N x : Int} (h : repS m o a) (w : wfA a N) (hx : 1 ≤ x ∧ x ≤ 40) (hr : a.2.2 1 + x ≤ 100) : f_X2_hasRoom o x m = some (1, m) := by
  obtain ⟨h1, h2, h3, -⟩ := h
  have := w.1
  unfold f_X2_hasRoom
  rw [mmK_p (by constructor <;> omega), if_neg (by omega)]
theorem hasRoom_f {N x : Int} (h : repS m o a) (w : wfA a N) (hx : 1 ≤ x ∧ x ≤ 40) (hr : ¬ a.2.2 1 + x ≤ 100) : f_X2_hasRoom o x m = some (0, m) := by
  obtain ⟨h1, h2, h3, -⟩ := h
  have := w.1
  unfold f_X2_hasRoom
  rw [mmK_p (by constructor <;> omega), if_pos (by omega)]
theorem rankL_some {x : Int} (h : repS m o a) (hn : a.1 ≤ 24) {r : Nat} (hr : r < a.1) (hx : a.2.1 0 r = x) (hl : ∀ j, j < r → ¬ a.2.1 0 j = x) : ∀ (d fu i : Nat), i + d = r → d < fu → f_X2_rankOf_L2 fu o x i m = some ((r : Int), m) := by
  obtain ⟨h1, -, -, -, -, h6⟩ := h
  intro d
  induction d with
  | zero =>
    intro fu i hi hf
    obtain ⟨k, rfl⟩ : ∃ k, fu = k + 1 := ⟨fu - 1, by omega⟩
    have hir : i = r := by omega
    subst hir
    rw [f_X2_rankOf_L2, if_neg (by omega), mmK_p (by omega), tN, (h6 i hr).1, if_pos hx]
  | succ d ih =>
    intro fu i hi hf
    obtain ⟨k, rfl⟩ : ∃ k, fu = k + 1 := ⟨fu - 1, by omega⟩
    rw [f_X2_rankOf_L2, if_neg (by omega), mmK_p (by omega), tN, (h6 i (by omega)).1, if_neg (hl i (by omega)), mmK_p (by constructor <;> omega), ci_1]
    exact ih k (i + 1) (by omega) (by omega)
theorem rankL_none {x : Int} (h : repS m o a) (hn : a.1 ≤ 24) (hl : ∀ j, j < a.1 → ¬ a.2.1 0 j = x) : ∀ (d fu i : Nat), i + d = a.1 → d < fu → f_X2_rankOf_L2 fu o x i m = some (-1, m) := by
  obtain ⟨h1, -, -, -, -, h6⟩ := h
  intro d
  induction d with
  | zero =>
    intro fu i hi hf
    obtain ⟨k, rfl⟩ : ∃ k, fu = k + 1 := ⟨fu - 1, by omega⟩
    rw [f_X2_rankOf_L2, if_pos (by omega)]
  | succ d ih =>
    intro fu i hi hf
    obtain ⟨k, rfl⟩ : ∃ k, fu = k + 1 := ⟨fu - 1, by omega⟩
    rw [f_X2_rankOf_L2, if_neg (by omega), mmK_p (by omega), tN, (h6 i (by omega)).1, if_neg (hl i (by omega)), mmK_p (by constructor <;> omega), ci_1]
    exact ih k (i + 1) (by omega) (by omega)
theorem rank_some {x : Int} (h : repS m o a) (hn : a.1 ≤ 24) {r : Nat} (hr : r < a.1) (hx : a.2.1 0 r = x) (hl : ∀ j, j < r → ¬ a.2.1 0 j = x) : f_X2_rankOf o x m = some ((r : Int), m) := rankL_some h hn hr hx hl r mmFU 0 (by omega) (by unfold mmFU; omega)
theorem rank_none {x : Int} (h : repS m o a) (hn : a.1 ≤ 24) (hl : ∀ j, j < a.1 → ¬ a.2.1 0 j = x) : f_X2_rankOf o x m = some (-1, m) := rankL_none h hn hl a.1 mmFU 0 (by omega) (by unfold mmFU; omega)
theorem below_L {x : Int} (h : repS m o a) (hn : a.1 ≤ 24) {r : Nat} (hr : r ≤ a.1) (h1 : ∀ j, j < r → a.2.1 0 j < x) (h2 : ∀ j, r ≤ j → j < a.1 → ¬ a.2.1 0 j < x) : ∀ (d fu i : Nat), i + d = a.1 → d < fu → f_X2_namesBelow_L4 fu o x (if i ≤ r then (i : Int) else (r : Int)) i m = some ((r : Int), m) := by
  obtain ⟨e1, -, -, -, -, h6⟩ := h
  intro d
  induction d with
  | zero =>
    intro fu i hi hf
    obtain ⟨k, rfl⟩ : ∃ k, fu = k + 1 := ⟨fu - 1, by omega⟩
    rw [f_X2_namesBelow_L4, if_pos (by omega)]
    by_cases q : i ≤ r
    · rw [if_pos q]; have : i = r := by omega
      rw [this]
    · rw [if_neg q]
  | succ d ih =>
    intro fu i hi hf
    obtain ⟨k, rfl⟩ : ∃ k, fu = k + 1 := ⟨fu - 1, by omega⟩
    have hI := ih k (i + 1) (by omega) (by omega)
    rw [f_X2_namesBelow_L4, if_neg (by omega), mmK_p (by omega), tN, (h6 i (by omega)).1]
    by_cases q : i < r
    · have := h1 i q
      rw [if_neg (by omega), if_pos (by omega), mmK_p (by constructor <;> omega), mmK_p (by constructor <;> omega), ci_1]
      rw [if_pos (by omega)] at hI
      exact hI
    · have := h2 i (by omega) (by omega)
      rw [if_pos (by omega), mmK_p (by constructor <;> omega), ci_1]
      rw [if_neg (by omega)] at hI
      by_cases q2 : i ≤ r
      · have : i = r := by omega
        rw [if_pos q2, this]
        rw [this] at hI
        exact hI
      · rw [if_neg q2]
        exact hI
theorem below_t {x : Int} (h : repS m o a) (hn : a.1 ≤ 24) {r : Nat} (hr : r ≤ a.1) (h1 : ∀ j, j < r → a.2.1 0 j < x) (h2 : ∀ j, r ≤ j → j < a.1 → ¬ a.2.1 0 j < x) : f_X2_namesBelow o x m = some ((r : Int), m) := by
  have := below_L h hn hr h1 h2 a.1 mmFU 0 (by omega) (by unfold mmFU; omega)
  rw [if_pos (by omega)] at this
  exact this
theorem isMember_t {x : Int} (h : repS m o a) (hn : a.1 ≤ 24) {r : Nat} (hr : r < a.1) (hx : x = r) (hg : a.2.1 1 r = -5) : f_X2_isMember o x m = some (1, m) := by
  unfold f_X2_isMember
  rw [isRank_t h (by omega)]
  simp only [Option.bind_some]
  rw [if_neg (by decide), mmK_p (by omega), hx, tN, (h.2.2.2.2.2 r hr).2.1, if_pos hg]
theorem isMember_f {x : Int} (h : repS m o a) (hn : a.1 ≤ 24) {r : Nat} (hr : r < a.1) (hx : x = r) (hg : ¬ a.2.1 1 r = -5) : f_X2_isMember o x m = some (0, m) := by
  unfold f_X2_isMember
  rw [isRank_t h (by omega)]
  simp only [Option.bind_some]
  rw [if_neg (by decide), mmK_p (by omega), hx, tN, (h.2.2.2.2.2 r hr).2.1, if_neg hg]
theorem isMember_n {x : Int} (h : repS m o a) (hx : ¬ (0 ≤ x ∧ x < a.1)) : f_X2_isMember o x m = some (0, m) := by
  unfold f_X2_isMember
  rw [isRank_f h hx]
  rfl
end CL
