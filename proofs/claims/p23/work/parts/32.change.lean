def insA (a : AS) (r : Nat) (e : Nat → Int) : AS := (a.1 + 1, fun k j => if j < r then a.2.1 k j else if j = r then e k else a.2.1 k (j - 1), a.2.2)
def delA (a : AS) (r : Nat) : AS := (a.1 - 1, fun k j => if j < r then a.2.1 k j else a.2.1 k (j + 1), a.2.2)
def setA (a : AS) (r : Nat) (e : Nat → Int) : AS := (a.1, fun k j => if j = r then e k else a.2.1 k j, a.2.2)
def scA (a : AS) (i : Nat) (v : Int) : AS := (a.1, a.2.1, fun k => if k = i then v else a.2.2 k)
def telA (a : AS) (x y : Int) : AS := (a.1, fun k j => if k = 1 ∧ a.2.1 1 j = x then y else a.2.1 k j, a.2.2)
def entA (x g s l k : Int) : Nat → Int := fun i => if i = 0 then x else if i = 1 then g else if i = 2 then s else if i = 3 then l else k
section CH
variable {m : Mem} {o : Nat} {a : AS}
theorem move_ok (f t c : Nat) (h1 : f + c ≤ 24) (h2 : t + c ≤ 24) : ∃ m1, f_X2_moveEntries o f t c m = some m1 ∧ frm (o + 1) (o + 5) m m1 ∧
    (∀ q, m1.1 (o + 1) q = if t ≤ q ∧ q < t + c then m.1 (o + 1) (f + (q - t)) else m.1 (o + 1) q) ∧ (∀ q, m1.1 (o + 2) q = if t ≤ q ∧ q < t + c then m.1 (o + 2) (f + (q - t)) else m.1 (o + 2) q) ∧
    (∀ q, m1.1 (o + 3) q = if t ≤ q ∧ q < t + c then m.1 (o + 3) (f + (q - t)) else m.1 (o + 3) q) ∧ (∀ q, m1.1 (o + 4) q = if t ≤ q ∧ q < t + c then m.1 (o + 4) (f + (q - t)) else m.1 (o + 4) q) ∧
    (∀ q, m1.1 (o + 5) q = if t ≤ q ∧ q < t + c then m.1 (o + 5) (f + (q - t)) else m.1 (o + 5) q) := by
  unfold f_X2_moveEntries
  rw [if_neg (by omega), if_neg (by omega), if_neg (by omega), mmK_p (by constructor <;> omega), if_pos (by omega)]
  rw [mmK_p (by omega), mmK_p (by omega), mmK_p (by omega), mmK_p (by omega), mmK_p (by omega)]
  refine ⟨_, rfl, ?_, ?_, ?_, ?_, ?_, ?_⟩
  · exact ((((frm.cp (by omega) (by omega)).tr (frm.cp (by omega) (by omega))).tr (frm.cp (by omega) (by omega))).tr (frm.cp (by omega) (by omega))).tr (frm.cp (by omega) (by omega))
  · intro q
    rw [mcp_ne (by omega), mcp_ne (by omega), mcp_ne (by omega), mcp_ne (by omega), mcp_s]
    rfl
  · intro q
    rw [mcp_ne (by omega), mcp_ne (by omega), mcp_ne (by omega), mcp_s, mcp_ne (by omega)]
    rfl
  · intro q
    rw [mcp_ne (by omega), mcp_ne (by omega), mcp_s, mcp_ne (by omega), mcp_ne (by omega)]
    rfl
  · intro q
    rw [mcp_ne (by omega), mcp_s, mcp_ne (by omega), mcp_ne (by omega), mcp_ne (by omega)]
    rfl
  · intro q
    rw [mcp_s, mcp_ne (by omega), mcp_ne (by omega), mcp_ne (by omega), mcp_ne (by omega)]
    rfl
theorem set_ok {x : Int} (r : Nat) (hx : x = r) (h : repS m o a) (hn : a.1 ≤ 24) (hr : r < a.1) (v1 v2 v3 v4 v5 : Int) : ∃ m1, f_X2_setEntry o x v1 v2 v3 v4 v5 m = some m1 ∧ frm (o + 1) (o + 5) m m1 ∧ repS m1 o (setA a r (entA v1 v2 v3 v4 v5)) := by
  subst hx
  obtain ⟨h1, h2, h3, h4, h5, h6⟩ := id h
  unfold f_X2_setEntry
  rw [isRank_t h (by omega)]
  simp only [Option.bind_some]
  rw [if_neg (by decide), mmK_p (by omega), mmK_p (by omega), mmK_p (by omega), mmK_p (by omega), mmK_p (by omega)]
  refine ⟨_, rfl, ?_, ?_⟩
  · exact ((((frm.wr (by omega) (by omega)).tr (frm.wr (by omega) (by omega))).tr (frm.wr (by omega) (by omega))).tr (frm.wr (by omega) (by omega))).tr (frm.wr (by omega) (by omega))
  · have e0 : ∀ j, j = o → (mwr (mwr (mwr (mwr (mwr m (o + 1) (r : Int).toNat v1) (o + 2) (r : Int).toNat v2) (o + 3) (r : Int).toNat v3) (o + 4) (r : Int).toNat v4) (o + 5) (r : Int).toNat v5).1 j = m.1 j := by
      intro j hj
      rw [mwr_ne (by omega), mwr_ne (by omega), mwr_ne (by omega), mwr_ne (by omega), mwr_ne (by omega)]
    refine ⟨by rw [e0 o rfl]; exact h1, by rw [e0 o rfl]; exact h2, by rw [e0 o rfl]; exact h3, by rw [e0 o rfl]; exact h4, by rw [e0 o rfl]; exact h5, fun j hj => ?_⟩
    obtain ⟨g1, g2, g3, g4, g5⟩ := h6 j hj
    refine ⟨?_, ?_, ?_, ?_, ?_⟩
    · rw [mwr_ne (by omega), mwr_ne (by omega), mwr_ne (by omega), mwr_ne (by omega), mwr_self, tN]
      simp only [setA, entA, g1, if_true]
    · rw [mwr_ne (by omega), mwr_ne (by omega), mwr_ne (by omega), mwr_self, tN, mwr_ne (by omega)]
      simp [setA, entA, g2]
    · rw [mwr_ne (by omega), mwr_ne (by omega), mwr_self, tN, mwr_ne (by omega), mwr_ne (by omega)]
      simp [setA, entA, g3]
    · rw [mwr_ne (by omega), mwr_self, tN, mwr_ne (by omega), mwr_ne (by omega), mwr_ne (by omega)]
      simp [setA, entA, g4]
    · rw [mwr_self, tN, mwr_ne (by omega), mwr_ne (by omega), mwr_ne (by omega), mwr_ne (by omega)]
      simp [setA, entA, g5]
theorem sz_ok (h : repS m o a) (n : Nat) (v : Int) (hv : v = n) (cs : Nat → Nat → Int) (hc : ∀ r, r < n → m.1 (o + 1) r = cs 0 r ∧ m.1 (o + 2) r = cs 1 r ∧ m.1 (o + 3) r = cs 2 r ∧ m.1 (o + 4) r = cs 3 r ∧ m.1 (o + 5) r = cs 4 r) : repS (mwr m o 5 v) o (n, cs, a.2.2) := by
  obtain ⟨h1, h2, h3, h4, h5, h6⟩ := h
  refine ⟨by rw [mwr_self]; simp [hv], by rw [mwr_self]; simpa using h2, by rw [mwr_self]; simpa using h3, by rw [mwr_self]; simpa using h4, by rw [mwr_self]; simpa using h5, fun r hr => ?_⟩
  rw [mwr_ne (by omega), mwr_ne (by omega), mwr_ne (by omega), mwr_ne (by omega), mwr_ne (by omega)]
  exact hc r hr
theorem lt5 {k : Nat} (h : k < 5) : k = 0 ∨ k = 1 ∨ k = 2 ∨ k = 3 ∨ k = 4 := by omega
theorem repS.col (h : repS m o a) {k r : Nat} (hk : k < 5) (hr : r < a.1) : m.1 (o + (k + 1)) r = a.2.1 k r := by
  obtain ⟨g1, g2, g3, g4, g5⟩ := h.2.2.2.2.2 r hr
  rcases lt5 hk with rfl | rfl | rfl | rfl | rfl
  · exact g1
  · exact g2
  · exact g3
  · exact g4
  · exact g5
theorem repS.mk5 (h0 : m.1 o 5 = a.1) (h1 : m.1 o 6 = a.2.2 0) (h2 : m.1 o 7 = a.2.2 1) (h3 : m.1 o 8 = a.2.2 2) (h4 : m.1 o 9 = a.2.2 3) (hc : ∀ k r, k < 5 → r < a.1 → m.1 (o + (k + 1)) r = a.2.1 k r) : repS m o a :=
  ⟨h0, h1, h2, h3, h4, fun r hr => ⟨hc 0 r (by omega) hr, hc 1 r (by omega) hr, hc 2 r (by omega) hr, hc 3 r (by omega) hr, hc 4 r (by omega) hr⟩⟩
theorem repS.cg {b : AS} (h : repS m o b) (h1 : b.1 = a.1) (h2 : ∀ k, b.2.2 k = a.2.2 k) (h3 : ∀ k j, k < 5 → j < a.1 → b.2.1 k j = a.2.1 k j) : repS m o a := by
  obtain ⟨q1, q2, q3, q4, q5, -⟩ := id h
  refine repS.mk5 (by rw [q1, h1]) (by rw [q2, h2]) (by rw [q3, h2]) (by rw [q4, h2]) (by rw [q5, h2]) (fun k r hk hr => ?_)
  rw [h.col hk (by rw [h1]; exact hr), h3 k r hk hr]
theorem moveK_ok (f t c : Nat) (h1 : f + c ≤ 24) (h2 : t + c ≤ 24) : ∃ m1, f_X2_moveEntries o f t c m = some m1 ∧ frm (o + 1) (o + 5) m m1 ∧ ∀ k, k < 5 → ∀ q, m1.1 (o + (k + 1)) q = if t ≤ q ∧ q < t + c then m.1 (o + (k + 1)) (f + (q - t)) else m.1 (o + (k + 1)) q := by
  obtain ⟨m1, e, fr, c1, c2, c3, c4, c5⟩ := move_ok (m := m) (o := o) f t c h1 h2
  refine ⟨m1, e, fr, fun k hk => ?_⟩
  rcases lt5 hk with rfl | rfl | rfl | rfl | rfl
  · exact c1
  · exact c2
  · exact c3
  · exact c4
  · exact c5

theorem insert_ok {N : Int} (h : repS m o a) (w : wfA a N) (hf : (a.1 : Int) < 4 * a.2.2 0) (r : Nat) (hr : r ≤ a.1) (x g s l v : Int) (h1 : ∀ j, j < r → a.2.1 0 j < x) (h2 : ∀ j, r ≤ j → j < a.1 → ¬ a.2.1 0 j < x) : ∃ m1, f_X2_insertEntry o x g s l v m = some ((r : Int), m1) ∧ frm o (o + 5) m m1 ∧ repS m1 o (insA a r (entA x g s l v)) := by
  have hn := w.n24
  have w1 := w.1
  obtain ⟨m1, e1, f1, c1⟩ := moveK_ok (m := m) (o := o) r (r + 1) (a.1 - r) (by omega) (by omega)
  have e0 : m1.1 o = m.1 o := f1.1 o (by omega)
  have hm1 : m1.1 o 5 = a.1 := by rw [e0]; exact h.1
  obtain ⟨q1, q2, q3, q4, q5, -⟩ := id h
  have hr2 : repS (mwr m1 o 5 (m1.1 o 5 + 1)) o (a.1 + 1, fun k j => m1.1 (o + (k + 1)) j, a.2.2) := by
    refine repS.mk5 ?_ ?_ ?_ ?_ ?_ (fun k j hk hj => ?_)
    · rw [mwr_self, if_pos rfl, hm1]; rfl
    · rw [mwr_self, if_neg (by decide), e0]; exact q2
    · rw [mwr_self, if_neg (by decide), e0]; exact q3
    · rw [mwr_self, if_neg (by decide), e0]; exact q4
    · rw [mwr_self, if_neg (by decide), e0]; exact q5
    · rw [mwr_ne (by omega)]
  obtain ⟨m2, e2, f2, hr3⟩ := set_ok (x := (r : Int)) r rfl hr2 (by show a.1 + 1 ≤ 24; omega) (by show r < a.1 + 1; omega) x g s l v
  refine ⟨m2, ?_, ((f1.wide (by omega) (by omega)).tr (frm.wr (by omega) (by omega))).tr (f2.wide (by omega) (by omega)), hr3.cg rfl (fun _ => rfl) (fun k j hk hj => ?_)⟩
  · unfold f_X2_insertEntry
    rw [dirFull_f h w hf]
    simp only [Option.bind_some]
    rw [below_t h hn hr h1 h2]
    simp only [Option.bind_some]
    rw [mmK_p (by constructor <;> omega), mmK_p (by constructor <;> omega), ci_1, show m.1 o 5 - (r : Int) = ((a.1 - r : Nat) : Int) by omega, e1]
    simp only [Option.bind_some]
    rw [mmK_p (by constructor <;> omega), e2]
    rfl
  · by_cases q : j = r
    · simp [setA, insA, q]
    · have hj2 : j < a.1 + 1 := hj
      simp only [setA, insA, q, if_false]
      rw [c1 k hk j]
      by_cases q2 : j < r
      · rw [if_neg (by omega), if_pos q2]
        exact h.col hk (by omega)
      · rw [if_pos (by omega), if_neg q2, show r + (j - (r + 1)) = j - 1 by omega]
        exact h.col hk (by omega)

theorem takeOut_ok {N x : Int} (h : repS m o a) (w : wfA a N) (r : Nat) (hx : x = r) (hr : r < a.1) : ∃ m1, f_X2_takeOut o x m = some m1 ∧ frm o (o + 5) m m1 ∧ repS m1 o (delA a r) := by
  subst hx
  have hn := w.n24
  obtain ⟨m1, e1, f1, c1⟩ := moveK_ok (m := m) (o := o) (r + 1) r (a.1 - r - 1) (by omega) (by omega)
  have e0 : m1.1 o = m.1 o := f1.1 o (by omega)
  have hm1 : m1.1 o 5 = a.1 := by rw [e0]; exact h.1
  obtain ⟨q1, q2, q3, q4, q5, -⟩ := id h
  unfold f_X2_takeOut
  rw [isRank_t h (by omega)]
  simp only [Option.bind_some]
  rw [if_neg (by decide), mmK_p (by constructor <;> omega), mmK_p (by constructor <;> omega), mmK_p (by constructor <;> omega), ci_1, show m.1 o 5 - (r : Int) - 1 = ((a.1 - r - 1 : Nat) : Int) by omega, e1]
  simp only [Option.bind_some]
  rw [mmK_p (by constructor <;> omega)]
  refine ⟨_, rfl, (f1.wide (by omega) (by omega)).tr (frm.wr (by omega) (by omega)), repS.mk5 ?_ ?_ ?_ ?_ ?_ (fun k j hk hj => ?_)⟩
  · rw [mwr_self, if_pos rfl, hm1]; show _ = ((a.1 - 1 : Nat) : Int); omega
  · rw [mwr_self, if_neg (by decide), e0]; exact q2
  · rw [mwr_self, if_neg (by decide), e0]; exact q3
  · rw [mwr_self, if_neg (by decide), e0]; exact q4
  · rw [mwr_self, if_neg (by decide), e0]; exact q5
  · have hj2 : j < a.1 - 1 := hj
    rw [mwr_ne (by omega), c1 k hk j]
    show _ = if j < r then a.2.1 k j else a.2.1 k (j + 1)
    by_cases q : j < r
    · rw [if_neg (by omega), if_pos q]
      exact h.col hk (by omega)
    · rw [if_pos (by omega), if_neg q, show r + 1 + (j - r) = j + 1 by omega]
      exact h.col hk (by omega)
theorem layText_ok {N x : Int} (h : repS m o a) (w : wfA a N) (hx : 1 ≤ x ∧ x ≤ 40) : ∃ m1, f_X2_layText o x m = some (a.2.2 1, m1) ∧ frm o (o + 5) m m1 ∧ repS m1 o (scA a 1 (a.2.2 1 + x)) := by
  obtain ⟨q1, q2, q3, q4, q5, -⟩ := id h
  have := w.1
  unfold f_X2_layText
  rw [mmK_p (by constructor <;> omega), q3]
  refine ⟨_, rfl, frm.wr (by omega) (by omega), repS.mk5 ?_ ?_ ?_ ?_ ?_ (fun k j hk hj => ?_)⟩
  · rw [mwr_self, if_neg (by decide)]; exact q1
  · rw [mwr_self, if_neg (by decide)]; exact q2
  · rw [mwr_self, if_pos rfl]; simp [scA]
  · rw [mwr_self, if_neg (by decide)]; exact q4
  · rw [mwr_self, if_neg (by decide)]; exact q5
  · rw [mwr_ne (by omega)]; exact h.col hk hj
theorem tell_L {x y : Int} (hn : a.1 ≤ 24) : ∀ (d fu i : Nat) (m : Mem), i + d = a.1 → d < fu → repS m o (a.1, fun k j => if k = 1 ∧ j < i ∧ a.2.1 1 j = x then y else a.2.1 k j, a.2.2) → ∃ m1, f_X2_tellAliases_L2 fu o x y i m = some m1 ∧ frm o (o + 5) m m1 ∧ repS m1 o (telA a x y) := by
  intro d
  induction d with
  | zero =>
    intro fu i m hi hf h
    obtain ⟨k, rfl⟩ : ∃ k, fu = k + 1 := ⟨fu - 1, by omega⟩
    have h1 := h.1
    rw [f_X2_tellAliases_L2, if_pos (by show m.1 o 5 ≤ _; rw [h1]; show ((a.1 : Nat) : Int) ≤ _; omega)]
    refine ⟨m, rfl, frm.rf, h.cg rfl (fun _ => rfl) (fun k j hk hj => ?_)⟩
    have hj2 : j < a.1 := hj
    show (if k = 1 ∧ j < i ∧ a.2.1 1 j = x then y else a.2.1 k j) = if k = 1 ∧ a.2.1 1 j = x then y else a.2.1 k j
    simp only [show (j < i) = True from eq_true (by omega), true_and]
  | succ d ih =>
    intro fu i m hi hf h
    obtain ⟨k, rfl⟩ : ∃ k, fu = k + 1 := ⟨fu - 1, by omega⟩
    have h1 : m.1 o 5 = (a.1 : Int) := h.1
    have hc : m.1 (o + 2) i = a.2.1 1 i := by
      have := h.col (k := 1) (r := i) (by omega) (by show i < a.1; omega)
      rw [this]
      simp
    rw [f_X2_tellAliases_L2, if_neg (by omega), mmK_p (by omega), tN, hc]
    by_cases q : a.2.1 1 i = x
    · rw [if_pos q, mmK_p (by omega), mmK_p (by constructor <;> omega), ci_1]
      obtain ⟨q1, q2, q3, q4, q5, -⟩ := id h
      obtain ⟨m1, e1, f1, r1⟩ := ih k (i + 1) (mwr m (o + 2) i y) (by omega) (by omega) (by
        refine repS.mk5 ?_ ?_ ?_ ?_ ?_ (fun c j hk hj => ?_)
        · rw [mwr_ne (by omega)]; exact q1
        · rw [mwr_ne (by omega)]; exact q2
        · rw [mwr_ne (by omega)]; exact q3
        · rw [mwr_ne (by omega)]; exact q4
        · rw [mwr_ne (by omega)]; exact q5
        · have hcol := h.col hk (r := j) hj
          show _ = if c = 1 ∧ j < i + 1 ∧ a.2.1 1 j = x then y else a.2.1 c j
          by_cases hc1 : c = 1
          · subst hc1
            rw [mwr_self]
            by_cases hji : j = i
            · subst hji; simp [q]
            · rw [if_neg hji, hcol]
              simp only [true_and]
              by_cases h5 : j < i
              · simp [h5, show j < i + 1 by omega]
              · simp [h5, show ¬ j < i + 1 by omega]
          · rw [mwr_ne (by omega), hcol]
            simp [hc1])
      exact ⟨m1, e1, (frm.wr (by omega) (by omega)).tr f1, r1⟩
    · rw [if_neg q, mmK_p (by constructor <;> omega), ci_1]
      obtain ⟨m1, e1, f1, r1⟩ := ih k (i + 1) m (by omega) (by omega) (h.cg rfl (fun _ => rfl) (fun c j hk hj => by
        show (if c = 1 ∧ j < i ∧ a.2.1 1 j = x then y else a.2.1 c j) = if c = 1 ∧ j < i + 1 ∧ a.2.1 1 j = x then y else a.2.1 c j
        by_cases hji : j = i
        · subst hji; simp [q]
        · by_cases h5 : j < i
          · simp [h5, show j < i + 1 by omega]
          · simp [h5, show ¬ j < i + 1 by omega]))
      exact ⟨m1, e1, f1, r1⟩
theorem tell_ok {x y : Int} (h : repS m o a) (hn : a.1 ≤ 24) : ∃ m1, f_X2_tellAliases o x y m = some m1 ∧ frm o (o + 5) m m1 ∧ repS m1 o (telA a x y) :=
  tell_L hn a.1 mmFU 0 m (by omega) (by unfold mmFU; omega) (h.cg rfl (fun _ => rfl) (fun k j _ _ => by simp))
end CH
