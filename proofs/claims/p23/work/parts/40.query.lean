/-! WHAT IS TOLD, AS NUMBERS -/
noncomputable def aofV (a : AS) (s : Int) : Int := sumN (fun j => cIf (a.2.1 2 j = s ∧ ¬ a.2.1 1 j = -5) 1 0) a.1
noncomputable def lstV (a : AS) (i : Nat) : Int := cIf (a.2.1 1 i = -5 ∨ (memN a (a.2.1 1 i) ∧ a.2.1 2 (blw a (a.2.1 1 i)) = a.2.1 2 i)) 0 1
noncomputable def aliW (a : AS) (j : Nat) : Int := cIf (a.2.1 1 j = -5) 0 1
noncomputable def aliV (a : AS) : Int := sumN (aliW a) a.1
noncomputable def losV (a : AS) : Int := sumN (lstV a) a.1
noncomputable def entR (a : AS) (r : Nat) (y : Int) : Int := if y = 0 then (r : Int) else if y = 1 then (r : Int) / 4 else if y = 2 then aliW a r else if y = 3 then a.2.1 2 r else if y = 4 then a.2.1 3 r else if y = 5 then a.2.1 4 r else if y = 6 then aofV a (a.2.1 2 r) else if y = 7 then a.2.1 1 r else if y = 8 then lstV a r else -2
noncomputable def entV (a : AS) (x y : Int) : Int := cIf (hasN a x) (entR a (blw a x) y) (-1)
def namV (a : AS) (x : Int) : Int := if x < 0 then -2 else if x < a.1 then a.2.1 0 x.toNat else -5
def unL (a : AS) (u : Int) : Nat → Nat → Int
  | 0, _ => 1000
  | d + 1, i => if a.2.1 2 i ≤ u ∧ u < a.2.1 2 i + a.2.1 3 i then a.2.1 0 i else unL a u d (i + 1)
def unV (a : AS) (u : Int) : Int := if u < 0 ∨ 100 ≤ u then -1 else if u < a.2.2 1 then unL a u a.1 0 else -5
noncomputable def livU (a : AS) : Int := layW a (lenW a) 100
noncomputable def livT (a : AS) : Int := layW a oneW 100
noncomputable def fitV (a : AS) (x : Int) : Int := if ¬ (1 ≤ x ∧ x ≤ 40) then -2 else if a.2.2 1 + x ≤ 100 then 0 else if 100 < livU a + x then 2 else 1
def begV (a : AS) (x y : Int) : Int := if x < 0 ∨ 26 ≤ x ∨ y < 0 then -2 else if (blw a ((x + 1) * 26) : Int) - (blw a (x * 26) : Int) ≤ y then -5 else a.2.1 0 ((blw a (x * 26) : Int) + y).toNat
noncomputable def cntV (a : AS) (x : Int) : Int := if x = 0 then (a.1 : Int) else if x = 1 then (a.1 : Int) - aliV a else if x = 2 then aliV a else if x = 3 then losV a else if x = 4 then a.2.2 0 else if x = 5 then a.2.2 0 * 4 - a.1 else if x = 6 then a.2.2 1 else if x = 7 then livU a else if x = 8 then a.2.2 1 - livU a else if x = 9 then 100 - a.2.2 1 else if x = 10 then livT a else if x = 11 then a.2.2 2 else if x = 12 then a.2.2 3 else -2
theorem c01 {P : Prop} : 0 ≤ cIf P (1 : Int) 0 ∧ cIf P (1 : Int) 0 ≤ 1 := by
  by_cases h : P
  · rw [cIf_t h]; decide
  · rw [cIf_f h]; decide
theorem c10 {P : Prop} : 0 ≤ cIf P (0 : Int) 1 ∧ cIf P (0 : Int) 1 ≤ 1 := by
  by_cases h : P
  · rw [cIf_t h]; decide
  · rw [cIf_f h]; decide
theorem sum1 {f : Nat → Int} (h : ∀ j, 0 ≤ f j ∧ f j ≤ 1) (n : Nat) : 0 ≤ sumN f n ∧ sumN f n ≤ n := by
  have := sumN_le (f := f) (c := 1) (fun j => (h j).2) n
  exact ⟨sumN_ge n (fun j _ => (h j).1), by omega⟩
section QC
variable {m : Mem} {o : Nat} {a : AS} {N : Int}
theorem aof_L {s : Int} (h : repS m o a) (hn : a.1 ≤ 24) : ∀ (d fu i : Nat), i + d = a.1 → d < fu → f_X2_aliasesOf_L4 fu o s (sumN (fun j => cIf (a.2.1 2 j = s ∧ ¬ a.2.1 1 j = -5) 1 0) i) i m = some (aofV a s, m) := by
  have h1 := h.1
  intro d
  induction d with
  | zero =>
    intro fu i hi hf
    obtain ⟨k, rfl⟩ : ∃ k, fu = k + 1 := ⟨fu - 1, by omega⟩
    rw [f_X2_aliasesOf_L4, if_pos (by omega), show i = a.1 by omega]
    rfl
  | succ d ih =>
    intro fu i hi hf
    obtain ⟨k, rfl⟩ : ∃ k, fu = k + 1 := ⟨fu - 1, by omega⟩
    have hil : i < a.1 := by omega
    obtain ⟨g1, g2, g3, g4, g5⟩ := h.2.2.2.2.2 i hil
    have hb := sum1 (f := fun j => cIf (a.2.1 2 j = s ∧ ¬ a.2.1 1 j = -5) 1 0) (fun j => c01) i
    have e1 : sumN (fun j => cIf (a.2.1 2 j = s ∧ ¬ a.2.1 1 j = -5) (1 : Int) 0) (i + 1) = sumN (fun j => cIf (a.2.1 2 j = s ∧ ¬ a.2.1 1 j = -5) 1 0) i + cIf (a.2.1 2 i = s ∧ ¬ a.2.1 1 i = -5) 1 0 := rfl
    have ih' := ih k (i + 1) (by omega) (by omega)
    rw [e1] at ih'
    rw [f_X2_aliasesOf_L4, if_neg (by omega), mmK_p (by omega), tN, g3]
    by_cases z1 : a.2.1 2 i = s
    · rw [if_pos z1]
      by_cases z2 : a.2.1 1 i = -5
      · rw [cIf_f (fun q => q.2 z2), Int.add_zero] at ih'
        rw [bd_ (isMember_t h hn hil rfl z2)]
        dsimp only
        rw [if_neg (by decide), mmK_p (by constructor <;> omega), ci_1]
        exact ih'
      · rw [cIf_t ⟨z1, z2⟩] at ih'
        rw [bd_ (isMember_f h hn hil rfl z2)]
        dsimp only
        rw [if_pos rfl, mmK_p (by constructor <;> omega), mmK_p (by constructor <;> omega), ci_1]
        exact ih'
    · rw [cIf_f (fun q => z1 q.1), Int.add_zero] at ih'
      rw [if_neg z1, mmK_p (by constructor <;> omega), ci_1]
      exact ih'
theorem aof_c {s : Int} (h : repS m o a) (hn : a.1 ≤ 24) : f_X2_aliasesOf o s m = some (aofV a s, m) := aof_L h hn a.1 mmFU 0 (by omega) (by unfold mmFU; omega)
theorem lost_c (h : repS m o a) (w : wfA a N) (i : Nat) (hi : i < a.1) : f_X2_isLost o (i : Int) m = some (lstV a i, m) := by
  have hn := w.n24
  obtain ⟨g1, g2, g3, g4, g5⟩ := h.2.2.2.2.2 i hi
  unfold f_X2_isLost lstV
  rw [bd_ (isRank_t h (x := (i : Int)) ⟨by omega, by omega⟩)]
  dsimp only
  rw [if_neg (by decide)]
  by_cases zg : a.2.1 1 i = -5
  · rw [bd_ (isMember_t h hn hi rfl zg), cIf_t (Or.inl zg)]
    dsimp only
    rw [if_neg (by decide)]
  · rw [bd_ (isMember_f h hn hi rfl zg)]
    dsimp only
    rw [if_pos rfl, mmK_p (by omega), tN, g2]
    by_cases hh : hasN a (a.2.1 1 i)
    · have hlt := (w.at_ hh).1
      obtain ⟨p1, p2, p3, p4, p5⟩ := h.2.2.2.2.2 _ hlt
      rw [bd_ (rank_at h w hh)]
      dsimp only
      by_cases hm : memN a (a.2.1 1 i)
      · rw [bd_ (mem_t h w hm)]
        dsimp only
        rw [if_neg (by decide), mmK_p (by omega), mmK_p (by omega), tN, p3, g3]
        by_cases zs : a.2.1 2 (blw a (a.2.1 1 i)) = a.2.1 2 i
        · rw [if_pos zs, cIf_t (Or.inr ⟨hm, zs⟩)]
        · rw [if_neg zs, cIf_f (fun q => q.elim zg (fun q => zs q.2))]
      · rw [bd_ (mem_f h w hh hm), cIf_f (fun q => q.elim zg (fun q => hm q.1))]
        dsimp only
        rw [if_pos rfl]
    · rw [bd_ (rank_no h w hh), cIf_f (fun q => q.elim zg (fun q => hh q.1.1))]
      dsimp only
      rw [bd_ (isMember_n h (by omega))]
      dsimp only
      rw [if_pos rfl]
theorem lst01 (a : AS) (j : Nat) : 0 ≤ lstV a j ∧ lstV a j ≤ 1 := c10
theorem ali01 (a : AS) (j : Nat) : 0 ≤ aliW a j ∧ aliW a j ≤ 1 := c10
theorem ent_c {x y : Int} (h : repS m o a) (w : wfA a N) : f_X2_tellEntry o x y m = some (entV a x y, m) := by
  have hn := w.n24
  unfold f_X2_tellEntry entV
  by_cases hh : hasN a x
  · have hlt := (w.at_ hh).1
    obtain ⟨g1, g2, g3, g4, g5⟩ := h.2.2.2.2.2 _ hlt
    rw [bd_ (rank_at h w hh), cIf_t hh]
    dsimp only
    rw [bd_ (isRank_t h ⟨by omega, by omega⟩)]
    dsimp only
    rw [if_neg (by decide)]
    unfold entR
    by_cases q0 : y = 0
    · rw [if_pos q0, if_pos q0]
    rw [if_neg q0, if_neg q0]
    by_cases q1 : y = 1
    · rw [if_pos q1, if_pos q1, mmK_p (by omega), mmK_p (by constructor <;> omega)]
    rw [if_neg q1, if_neg q1]
    by_cases q2 : y = 2
    · rw [if_pos q2, if_pos q2]
      unfold aliW
      by_cases zg : a.2.1 1 (blw a x) = -5
      · rw [bd_ (isMember_t h hn hlt rfl zg), cIf_t zg]
        dsimp only
        rw [if_neg (by decide)]
      · rw [bd_ (isMember_f h hn hlt rfl zg), cIf_f zg]
        dsimp only
        rw [if_pos rfl]
    rw [if_neg q2, if_neg q2]
    by_cases q3 : y = 3
    · rw [if_pos q3, if_pos q3, mmK_p (by omega), tN, g3]
    rw [if_neg q3, if_neg q3]
    by_cases q4 : y = 4
    · rw [if_pos q4, if_pos q4, mmK_p (by omega), tN, g4]
    rw [if_neg q4, if_neg q4]
    by_cases q5 : y = 5
    · rw [if_pos q5, if_pos q5, mmK_p (by omega), tN, g5]
    rw [if_neg q5, if_neg q5]
    by_cases q6 : y = 6
    · rw [if_pos q6, if_pos q6, mmK_p (by omega), tN, g3, bd_ (aof_c h hn)]
    rw [if_neg q6, if_neg q6]
    by_cases q7 : y = 7
    · rw [if_pos q7, if_pos q7, mmK_p (by omega), tN, g2]
    rw [if_neg q7, if_neg q7]
    by_cases q8 : y = 8
    · rw [if_pos q8, if_pos q8, bd_ (lost_c h w _ hlt)]
      dsimp only
      have := lst01 a (blw a x)
      by_cases z : lstV a (blw a x) = 0
      · rw [if_pos z, z]
      · rw [if_neg z, show lstV a (blw a x) = 1 by omega]
    rw [if_neg q8, if_neg q8]
  · rw [bd_ (rank_no h w hh), cIf_f hh]
    dsimp only
    rw [bd_ (isRank_f h (by omega))]
    dsimp only
    rw [if_pos rfl]
theorem nam_c {x : Int} (h : repS m o a) (w : wfA a N) : f_X2_tellName o x m = some (namV a x, m) := by
  have hn := w.n24
  unfold f_X2_tellName namV
  by_cases h0 : x < 0
  · rw [if_neg (by omega), if_pos h0]
  · rw [if_pos (by omega), if_neg h0]
    by_cases hx : x < a.1
    · rw [bd_ (isRank_t h ⟨by omega, hx⟩), if_pos hx]
      dsimp only
      rw [if_neg (by decide), mmK_p (by omega), (h.2.2.2.2.2 x.toNat (by omega)).1]
    · rw [bd_ (isRank_f h (by omega)), if_neg hx]
      dsimp only
      rw [if_pos rfl]
theorem un_L {u : Int} (h : repS m o a) (w : wfA a N) : ∀ (d fu i : Nat), i + d = a.1 → d < fu → f_X2_tellUnit_L25 fu o u i m = some (unL a u d i, m) := by
  have hn := w.n24
  have h1 := h.1
  intro d
  induction d with
  | zero =>
    intro fu i hi hf2
    obtain ⟨k, rfl⟩ : ∃ k, fu = k + 1 := ⟨fu - 1, by omega⟩
    rw [f_X2_tellUnit_L25, if_pos (by omega)]
    rfl
  | succ d ih =>
    intro fu i hi hf2
    obtain ⟨k, rfl⟩ : ∃ k, fu = k + 1 := ⟨fu - 1, by omega⟩
    have hil : i < a.1 := by omega
    obtain ⟨g1, g2, g3, g4, g5⟩ := h.2.2.2.2.2 i hil
    have hb := w.2.2.1 i hil
    have hw := w.1
    rw [f_X2_tellUnit_L25, if_neg (by omega), mmK_p (by omega), tN, g3, unL]
    by_cases z1 : u < a.2.1 2 i
    · rw [if_pos z1, if_neg (by omega), mmK_p (by constructor <;> omega), ci_1]
      exact ih k (i + 1) (by omega) (by omega)
    · rw [if_neg z1, mmK_p (by omega), mmK_p (by omega), g4, mmK_p (by constructor <;> omega)]
      by_cases z2 : a.2.1 2 i + a.2.1 3 i ≤ u
      · rw [if_pos z2, if_neg (by omega), mmK_p (by constructor <;> omega), ci_1]
        exact ih k (i + 1) (by omega) (by omega)
      · rw [if_neg z2, if_pos (by omega), mmK_p (by omega), g1]
theorem un_c {u : Int} (h : repS m o a) (w : wfA a N) : f_X2_tellUnit o u m = some (unV a u, m) := by
  have hn := w.n24
  have h3 := h.2.2.1
  unfold f_X2_tellUnit unV
  by_cases h0 : u < 0
  · rw [if_pos h0, if_pos (Or.inl h0)]
  · rw [if_neg h0]
    by_cases h1 : u < 100
    · rw [if_pos h1, h3, if_neg (show ¬ (u < 0 ∨ 100 ≤ u) by omega)]
      by_cases z : u < a.2.2 1
      · rw [if_pos z, if_pos z]
        exact un_L h w a.1 mmFU 0 (by omega) (by unfold mmFU; omega)
      · rw [if_neg z, if_neg z]
    · rw [if_neg h1, if_pos (by omega)]
theorem fit_c {x : Int} (h : repS m o a) (w : wfA a N) : f_X2_tellFit o x m = some (fitV a x, m) := by
  have hr := lay_rg w.n24 (len_rg w) 100
  unfold f_X2_tellFit fitV livU
  by_cases hx : 1 ≤ x ∧ x ≤ 40
  · rw [bd_ (isLength_t hx), if_neg (Classical.not_not.mpr hx)]
    dsimp only
    rw [if_neg (by decide)]
    by_cases hq : a.2.2 1 + x ≤ 100
    · rw [bd_ (hasRoom_t h w hx hq), if_pos hq]
      dsimp only
      rw [if_neg (by decide)]
    · rw [bd_ (hasRoom_f h w hx hq), if_neg hq]
      dsimp only
      rw [if_pos rfl, bd_ (lvu_c h w)]
      dsimp only
      rw [mmK_p (by constructor <;> omega)]
      by_cases z : 100 < layW a (lenW a) 100 + x
      · rw [if_pos z, if_pos z]
      · rw [if_neg z, if_neg z]
  · rw [bd_ (isLength_f hx), if_pos hx]
    dsimp only
    rw [if_pos rfl]
theorem blo_t {x : Int} (h : repS m o a) (w : wfA a N) : f_X2_namesBelow o x m = some ((blw a x : Int), m) := below_t h w.n24 (blw_le a x) (w.lo x) (w.hi x)
theorem beg_c {x y : Int} (hyR : y ≤ 2147483000) (h : repS m o a) (w : wfA a N) : f_X2_tellBeginning o x y m = some (begV a x y, m) := by
  have hn := w.n24
  unfold f_X2_tellBeginning begV
  by_cases h0 : x < 0
  · rw [if_pos h0, if_pos (Or.inl h0)]
  rw [if_neg h0]
  by_cases h1 : 26 ≤ x
  · rw [if_pos h1, if_pos (Or.inr (Or.inl h1))]
  rw [if_neg h1]
  by_cases h2 : 0 ≤ y
  · rw [if_pos h2, if_neg (by omega)]
    have hle := blw_le a ((x + 1) * 26)
    have hle2 := blw_le a (x * 26)
    rw [mmK_p (by constructor <;> omega), bd_ (blo_t h w)]
    dsimp only
    rw [mmK_p (by constructor <;> omega), mmK_p (by constructor <;> omega), bd_ (blo_t h w)]
    dsimp only
    rw [mmK_p (by constructor <;> omega)]
    by_cases z : (blw a ((x + 1) * 26) : Int) - (blw a (x * 26) : Int) ≤ y
    · rw [if_pos z, if_pos z]
    · rw [if_neg z, if_neg z, mmK_p (by constructor <;> omega), bd_ (nam_c h w)]
      unfold namV
      rw [if_neg (by omega), if_pos (by omega)]
  · rw [if_neg h2, if_pos (Or.inr (Or.inr (by omega)))]
theorem ali_L (h : repS m o a) (hn : a.1 ≤ 24) : ∀ (d fu i : Nat), i + d = a.1 → d < fu → f_X2_aliases_L4 fu o (sumN (aliW a) i) i m = some (aliV a, m) := by
  have h1 := h.1
  intro d
  induction d with
  | zero =>
    intro fu i hi hf
    obtain ⟨k, rfl⟩ : ∃ k, fu = k + 1 := ⟨fu - 1, by omega⟩
    rw [f_X2_aliases_L4, if_pos (by omega), show i = a.1 by omega]
    rfl
  | succ d ih =>
    intro fu i hi hf
    obtain ⟨k, rfl⟩ : ∃ k, fu = k + 1 := ⟨fu - 1, by omega⟩
    have hil : i < a.1 := by omega
    have hb := sum1 (ali01 a) i
    have e1 : sumN (aliW a) (i + 1) = sumN (aliW a) i + aliW a i := rfl
    have ih' := ih k (i + 1) (by omega) (by omega)
    rw [e1] at ih'
    unfold aliW at ih' ⊢
    unfold aliW at hb
    rw [f_X2_aliases_L4, if_neg (by omega)]
    by_cases z2 : a.2.1 1 i = -5
    · rw [cIf_t z2, Int.add_zero] at ih'
      rw [bd_ (isMember_t h hn hil rfl z2)]
      dsimp only
      rw [if_neg (by decide), mmK_p (by constructor <;> omega), ci_1]
      exact ih'
    · rw [cIf_f z2] at ih'
      rw [bd_ (isMember_f h hn hil rfl z2)]
      dsimp only
      rw [if_pos rfl, mmK_p (by constructor <;> omega), mmK_p (by constructor <;> omega), ci_1]
      exact ih'
theorem ali_c (h : repS m o a) (hn : a.1 ≤ 24) : f_X2_aliases o m = some (aliV a, m) := ali_L h hn a.1 mmFU 0 (by omega) (by unfold mmFU; omega)
theorem los_L (h : repS m o a) (w : wfA a N) : ∀ (d fu i : Nat), i + d = a.1 → d < fu → f_X2_lostAliases_L4 fu o (sumN (lstV a) i) i m = some (losV a, m) := by
  have hn := w.n24
  have h1 := h.1
  intro d
  induction d with
  | zero =>
    intro fu i hi hf
    obtain ⟨k, rfl⟩ : ∃ k, fu = k + 1 := ⟨fu - 1, by omega⟩
    rw [f_X2_lostAliases_L4, if_pos (by omega), show i = a.1 by omega]
    rfl
  | succ d ih =>
    intro fu i hi hf
    obtain ⟨k, rfl⟩ : ∃ k, fu = k + 1 := ⟨fu - 1, by omega⟩
    have hil : i < a.1 := by omega
    have hb := sum1 (lst01 a) i
    have h01 := lst01 a i
    have e1 : sumN (lstV a) (i + 1) = sumN (lstV a) i + lstV a i := rfl
    have ih' := ih k (i + 1) (by omega) (by omega)
    rw [e1] at ih'
    rw [f_X2_lostAliases_L4, if_neg (by omega), bd_ (lost_c h w i hil)]
    dsimp only
    by_cases z : lstV a i = 0
    · rw [z, Int.add_zero] at ih'
      rw [if_pos z, mmK_p (by constructor <;> omega), ci_1]
      exact ih'
    · rw [show lstV a i = 1 by omega] at ih'
      rw [if_neg z, mmK_p (by constructor <;> omega), mmK_p (by constructor <;> omega), ci_1]
      exact ih'
theorem los_c (h : repS m o a) (w : wfA a N) : f_X2_lostAliases o m = some (losV a, m) := los_L h w a.1 mmFU 0 (by omega) (by have := w.n24; unfold mmFU; omega)
theorem cnt_c {x : Int} (h : repS m o a) (w : wfA a N) : f_X2_tellCount o x m = some (cntV a x, m) := by
  have hr := lay_rg w.n24 (len_rg w) 100
  have hn := w.n24
  have hw := w.1
  have hal := sum1 (ali01 a) a.1
  obtain ⟨h1, h2, h3, h4, h5, -⟩ := id h
  unfold f_X2_tellCount cntV
  rw [h1, h2, h3, h4, h5]
  by_cases q0 : x = 0
  · rw [if_pos q0, if_pos q0]
  rw [if_neg q0, if_neg q0]
  by_cases q1 : x = 1
  · rw [if_pos q1, if_pos q1, bd_ (ali_c h hn)]
    unfold aliV
    exact mmK_p (by constructor <;> (dsimp only; omega))
  rw [if_neg q1, if_neg q1]
  by_cases q2 : x = 2
  · rw [if_pos q2, if_pos q2, bd_ (ali_c h hn)]
  rw [if_neg q2, if_neg q2]
  by_cases q3 : x = 3
  · rw [if_pos q3, if_pos q3, bd_ (los_c h w)]
  rw [if_neg q3, if_neg q3]
  by_cases q4 : x = 4
  · rw [if_pos q4, if_pos q4]
  rw [if_neg q4, if_neg q4]
  by_cases q5 : x = 5
  · rw [if_pos q5, if_pos q5, mmK_p (by constructor <;> omega), mmK_p (by constructor <;> omega)]
  rw [if_neg q5, if_neg q5]
  by_cases q6 : x = 6
  · rw [if_pos q6, if_pos q6]
  rw [if_neg q6, if_neg q6]
  by_cases q7 : x = 7
  · rw [if_pos q7, if_pos q7, bd_ (lvu_c h w)]
    rfl
  rw [if_neg q7, if_neg q7]
  by_cases q8 : x = 8
  · rw [if_pos q8, if_pos q8]
    unfold f_X2_deadUnits livU
    rw [bd_ (lvu_c h w), h3]
    dsimp only
    rw [mmK_p (by constructor <;> omega)]
    rfl
  rw [if_neg q8, if_neg q8]
  by_cases q9 : x = 9
  · rw [if_pos q9, if_pos q9, mmK_p (by constructor <;> omega)]
  rw [if_neg q9, if_neg q9]
  by_cases q10 : x = 10
  · rw [if_pos q10, if_pos q10, bd_ (lvt_c h w)]
    rfl
  rw [if_neg q10, if_neg q10]
  by_cases q11 : x = 11
  · rw [if_pos q11, if_pos q11]
  rw [if_neg q11, if_neg q11]
  by_cases q12 : x = 12
  · rw [if_pos q12, if_pos q12]
  rw [if_neg q12, if_neg q12]
end QC
/-! THE SHELF'S CALLS -/
section XQ
variable {m : Mem} {a : AS} {hn : Nat} {H : Nat → AS} {sb : Int} {s : AS} {N : Int}
theorem x_ent {x y : Int} (h : CS m a hn H sb s) (w : wfA a N) : f_X3_entry x y m = some (entV a x y, m) := by unfold f_X3_entry; rw [bd_ (ent_c h.1 w)]
theorem x_nam {x : Int} (h : CS m a hn H sb s) (w : wfA a N) : f_X3_named x m = some (namV a x, m) := by unfold f_X3_named; rw [bd_ (nam_c h.1 w)]
theorem x_at {x : Int} (h : CS m a hn H sb s) (w : wfA a N) : f_X3_at x m = some (unV a x, m) := by unfold f_X3_at; rw [bd_ (un_c h.1 w)]
theorem x_fit {x : Int} (h : CS m a hn H sb s) (w : wfA a N) : f_X3_fits x m = some (fitV a x, m) := by unfold f_X3_fits; rw [bd_ (fit_c h.1 w)]
theorem x_beg {x y : Int} (hy : y ≤ 2147483000) (h : CS m a hn H sb s) (w : wfA a N) : f_X3_beginning x y m = some (begV a x y, m) := by unfold f_X3_beginning; rw [bd_ (beg_c hy h.1 w)]
theorem x_cnt {x : Int} (h : CS m a hn H sb s) (w : wfA a N) (h13 : ¬ x = 13) (h14 : ¬ x = 14) : f_X3_count x m = some (cntV a x, m) := by unfold f_X3_count; rw [if_neg h13, if_neg h14, bd_ (cnt_c h.1 w)]
theorem x_c13 (h : CS m a hn H sb s) : f_X3_count 13 m = some ((hn : Int), m) := by
  obtain ⟨q, q1, -⟩ := h.2.1
  unfold f_X3_count f_X0_size
  rw [if_pos rfl, q1]
  rfl
end XQ
