/-- both sides answer the same, and nothing changes -/
def both2 (f g : Option (Int × Mem)) (m : Mem) : Prop := ∃ v, f = some (v, m) ∧ g = some (v, m)
theorem b2_bd {f g : Option (Int × Mem)} {F G : Int × Mem → Option (Int × Mem)} {m : Mem} (h : both2 f g m) (k : ∀ v, both2 (F (v, m)) (G (v, m)) m) : both2 (f.bind F) (g.bind G) m := by
  obtain ⟨v, e1, e2⟩ := h
  rw [bd_ e1, bd_ e2]
  exact k v
theorem b2_fin {f g : Option (Int × Mem)} {m : Mem} (h : both2 f g m) : both2 (f.bind (fun q => some (q.1, q.2))) (g.bind (fun q => some (q.1, q.2))) m := b2_bd h (fun v => ⟨v, rfl, rfl⟩)
theorem b2_l {f g : Option (Int × Mem)} {m : Mem} (h : both2 f g m) : both2 (f.bind (fun q => some (q.1, q.2))) g m := by
  obtain ⟨v, e1, e2⟩ := h
  exact ⟨v, by rw [bd_ e1], e2⟩
theorem b2_eq {f f' g g' : Option (Int × Mem)} {m : Mem} (e1 : f = f') (e2 : g = g') (h : both2 f' g' m) : both2 f g m := by rw [e1, e2]; exact h
theorem b2_v {f g : Option (Int × Mem)} {m : Mem} (v : Int) (e1 : f = some (v, m)) (e2 : g = some (v, m)) : both2 f g m := ⟨v, e1, e2⟩
section QU
variable {m : Mem} {o : Nat} {a : AS} {N : Int}
theorem aof_L {s : Int} (h : repS m o a) (hf : repF (m.1 52) 0 a) (w : wfA a N) : ∀ (d fu i : Nat) (acc : Int), i + d = a.1 → d < fu → 0 ≤ acc ∧ acc ≤ i → both2 (f_X2_aliasesOf_L4 fu o s acc i m) (f_X4_aliasesOf_L4 fu s acc i m) m := by
  have hn := w.n24
  have h1 := h.1
  have k1 : m.1 52 0 = a.1 := hf.1
  intro d
  induction d with
  | zero =>
    intro fu i acc hi hf2 hb
    obtain ⟨k, rfl⟩ : ∃ k, fu = k + 1 := ⟨fu - 1, by omega⟩
    rw [f_X2_aliasesOf_L4, if_pos (by omega), f_X4_aliasesOf_L4, if_pos (by omega)]
    exact ⟨_, rfl, rfl⟩
  | succ d ih =>
    intro fu i acc hi hf2 hb
    obtain ⟨k, rfl⟩ : ∃ k, fu = k + 1 := ⟨fu - 1, by omega⟩
    have hil : i < a.1 := by omega
    obtain ⟨g1, g2, g3, g4, g5⟩ := h.2.2.2.2.2 i hil
    by_cases zg : a.2.1 1 i = -5
    · exact b2_eq (by
        rw [f_X2_aliasesOf_L4, if_neg (by omega), mmK_p (by omega), tN, g3]
        by_cases zs : a.2.1 2 i = s
        · rw [if_pos zs, bd_ (isMember_t h hn hil rfl zg)]
          dsimp only
          rw [if_neg (by decide), mmK_p (by constructor <;> omega), ci_1]
        · rw [if_neg zs, mmK_p (by constructor <;> omega), ci_1]) (by
        rw [f_X4_aliasesOf_L4, if_neg (by omega), bd_ (of1 hf hn i hil)]
        dsimp only
        rw [if_pos zg, if_neg (by decide), mmK_p (by constructor <;> omega), mmK_p (by constructor <;> omega), Int.add_zero, ci_1]) (ih k (i + 1) acc (by omega) (by omega) (by omega))
    · by_cases zs : a.2.1 2 i = s
      · exact b2_eq (by
          rw [f_X2_aliasesOf_L4, if_neg (by omega), mmK_p (by omega), tN, g3, if_pos zs, bd_ (isMember_f h hn hil rfl zg)]
          dsimp only
          rw [if_pos rfl, mmK_p (by constructor <;> omega), mmK_p (by constructor <;> omega), ci_1]) (by
          rw [f_X4_aliasesOf_L4, if_neg (by omega), bd_ (of1 hf hn i hil)]
          dsimp only
          rw [if_neg zg, if_pos rfl, bd_ (of2 hf hn i hil)]
          dsimp only
          rw [if_pos zs, mmK_p (by constructor <;> omega), mmK_p (by constructor <;> omega), ci_1]) (ih k (i + 1) (acc + 1) (by omega) (by omega) (by omega))
      · exact b2_eq (by
          rw [f_X2_aliasesOf_L4, if_neg (by omega), mmK_p (by omega), tN, g3, if_neg zs, mmK_p (by constructor <;> omega), ci_1]) (by
          rw [f_X4_aliasesOf_L4, if_neg (by omega), bd_ (of1 hf hn i hil)]
          dsimp only
          rw [if_neg zg, if_pos rfl, bd_ (of2 hf hn i hil)]
          dsimp only
          rw [if_neg zs, mmK_p (by constructor <;> omega), mmK_p (by constructor <;> omega), Int.add_zero, ci_1]) (ih k (i + 1) acc (by omega) (by omega) (by omega))
theorem aof_q {s : Int} (h : repS m o a) (hf : repF (m.1 52) 0 a) (w : wfA a N) : both2 (f_X2_aliasesOf o s m) (f_X4_aliasesOf s m) m :=
  aof_L h hf w a.1 mmFU 0 0 (by omega) (by have := w.n24; unfold mmFU; omega) (by omega)
theorem lost_q (h : repS m o a) (hf : repF (m.1 52) 0 a) (w : wfA a N) (i : Nat) (hi : i < a.1) : both2 (f_X2_isLost o i m) (f_X4_isLost i m) m := by
  have hn := w.n24
  obtain ⟨g1, g2, g3, g4, g5⟩ := h.2.2.2.2.2 i hi
  have cls : ∀ v : Int, ((if (0 : Int) = 0 then (mmK (0 ≤ (i : Int) ∧ (i : Int) < 24) ((f_X2_rankOf o (m.1 (o + 2) (i : Int).toNat) m).bind (fun q9 => (f_X2_isMember o q9.1 q9.2).bind (fun q11 => if q11.1 = 0 then (some (1, q11.2)) else (mmK (0 ≤ q9.1 ∧ q9.1 < 24) (mmK (0 ≤ (i : Int) ∧ (i : Int) < 24) (if (q11.2.1 (o + 3) (q9.1).toNat) = (q11.2.1 (o + 3) (i : Int).toNat) then (some (0, q11.2)) else (some (1, q11.2))))))))) else (some (0, m))) = some (v, m)) → ¬ a.2.1 1 i = -5 → f_X2_isLost o i m = some (v, m) := by
    intro v e zg
    unfold f_X2_isLost
    rw [bd_ (isRank_t h ⟨by omega, by omega⟩)]
    dsimp only
    rw [if_neg (by decide), bd_ (isMember_f h hn hi rfl zg)]
    exact e
  have mdl : ∀ (g v : Int), ¬ a.2.1 1 i = -5 → f_X4_rankOf (a.2.1 1 i) m = some (g, m) → (f_X4_isMember g m).bind (fun q8 => if q8.1 = 0 then (some (1, q8.2)) else ((f_X4_of g 2 q8.2).bind (fun q11 => (f_X4_of (i : Int) 2 q11.2).bind (fun q13 => if q11.1 = q13.1 then (some (0, q13.2)) else (some (1, q13.2)))))) = some (v, m) → f_X4_isLost i m = some (v, m) := by
    intro g v zg e1 e
    unfold f_X4_isLost
    rw [bd_ (of5 hf hn i hi)]
    dsimp only
    rw [bd_ e1]
    dsimp only
    rw [bd_ (of1 hf hn i hi)]
    dsimp only
    rw [if_neg zg, if_pos rfl]
    exact e
  by_cases zg : a.2.1 1 i = -5
  · have hno : ¬ hasN a (a.2.1 1 i) := by
      rintro ⟨j, hj, e⟩
      have := (w.2.2.1 j hj).1
      omega
    refine b2_v 0 ?_ ?_
    · unfold f_X2_isLost
      rw [bd_ (isRank_t h ⟨by omega, by omega⟩)]
      dsimp only
      rw [if_neg (by decide), bd_ (isMember_t h hn hi rfl zg)]
      dsimp only
      rw [if_neg (by decide)]
    · unfold f_X4_isLost
      rw [bd_ (of5 hf hn i hi)]
      dsimp only
      rw [bd_ (rank4_no hf w hno)]
      dsimp only
      rw [bd_ (of1 hf hn i hi)]
      dsimp only
      rw [if_pos zg, if_neg (by decide)]
  · by_cases hh : hasN a (a.2.1 1 i)
    · have hlt := (w.at_ hh).1
      obtain ⟨p1, p2, p3, p4, p5⟩ := h.2.2.2.2.2 _ hlt
      by_cases hm : memN a (a.2.1 1 i)
      · by_cases zs : a.2.1 2 (blw a (a.2.1 1 i)) = a.2.1 2 i
        · refine b2_v 0 (cls _ ?_ zg) (mdl _ _ zg (rank4_at hf w hh) ?_)
          · rw [if_pos rfl, mmK_p (by omega), tN, g2, bd_ (rank_at h w hh)]
            dsimp only
            rw [bd_ (mem_t h w hm)]
            dsimp only
            rw [if_neg (by decide), mmK_p (by omega), mmK_p (by omega), tN, p3, g3, if_pos zs]
          · rw [bd_ (mem4_t hf w hm)]
            dsimp only
            rw [if_neg (by decide), bd_ (of2 hf hn _ hlt)]
            dsimp only
            rw [bd_ (of2 hf hn i hi)]
            dsimp only
            rw [if_pos zs]
        · refine b2_v 1 (cls _ ?_ zg) (mdl _ _ zg (rank4_at hf w hh) ?_)
          · rw [if_pos rfl, mmK_p (by omega), tN, g2, bd_ (rank_at h w hh)]
            dsimp only
            rw [bd_ (mem_t h w hm)]
            dsimp only
            rw [if_neg (by decide), mmK_p (by omega), mmK_p (by omega), tN, p3, g3, if_neg zs]
          · rw [bd_ (mem4_t hf w hm)]
            dsimp only
            rw [if_neg (by decide), bd_ (of2 hf hn _ hlt)]
            dsimp only
            rw [bd_ (of2 hf hn i hi)]
            dsimp only
            rw [if_neg zs]
      · refine b2_v 1 (cls _ ?_ zg) (mdl _ _ zg (rank4_at hf w hh) ?_)
        · rw [if_pos rfl, mmK_p (by omega), tN, g2, bd_ (rank_at h w hh)]
          dsimp only
          rw [bd_ (mem_f h w hh hm)]
          dsimp only
          rw [if_pos rfl]
        · rw [bd_ (mem4_f hf w hh hm)]
          dsimp only
          rw [if_pos rfl]
    · refine b2_v 1 (cls _ ?_ zg) (mdl _ _ zg (rank4_no hf w hh) ?_)
      · rw [if_pos rfl, mmK_p (by omega), tN, g2, bd_ (rank_no h w hh)]
        dsimp only
        rw [bd_ (isMember_n h (by omega))]
        dsimp only
        rw [if_pos rfl]
      · rw [bd_ mem4_n]
        dsimp only
        rw [if_pos rfl]
theorem ent_q {x y : Int} (h : repS m o a) (hf : repF (m.1 52) 0 a) (w : wfA a N) : both2 (f_X2_tellEntry o x y m) (f_X4_entry x y m) m := by
  have hn := w.n24
  unfold f_X2_tellEntry f_X4_entry
  by_cases hh : hasN a x
  · have hlt := (w.at_ hh).1
    obtain ⟨g1, g2, g3, g4, g5⟩ := h.2.2.2.2.2 _ hlt
    rw [bd_ (rank_at h w hh), bd_ (rank4_at hf w hh)]
    dsimp only
    rw [bd_ (isRank_t h ⟨by omega, by omega⟩)]
    dsimp only
    rw [if_neg (by decide), if_neg (show ¬ ((blw a x : Nat) : Int) = -5 by omega)]
    by_cases q0 : y = 0
    · rw [if_pos q0, if_pos q0]; exact ⟨_, rfl, rfl⟩
    rw [if_neg q0, if_neg q0]
    by_cases q1 : y = 1
    · rw [if_pos q1, if_pos q1, mmK_p (by omega), mmK_p (by constructor <;> omega)]; exact ⟨_, rfl, rfl⟩
    rw [if_neg q1, if_neg q1]
    by_cases q2 : y = 2
    · rw [if_pos q2, if_pos q2, bd_ (of1 hf hn _ hlt)]
      dsimp only
      by_cases zg : a.2.1 1 (blw a x) = -5
      · rw [if_pos zg, bd_ (isMember_t h hn hlt rfl zg)]
        dsimp only
        rw [if_neg (by decide)]
        exact ⟨_, rfl, rfl⟩
      · rw [if_neg zg, bd_ (isMember_f h hn hlt rfl zg)]
        dsimp only
        rw [if_pos rfl]
        exact ⟨_, rfl, rfl⟩
    rw [if_neg q2, if_neg q2]
    by_cases q3 : y = 3
    · rw [if_pos q3, if_pos q3, mmK_p (by omega), tN, g3, mmK_p (by constructor <;> omega), mmK_p (by constructor <;> omega), show 2 + y - 3 = 2 by omega, bd_ (of2 hf hn _ hlt)]
      exact ⟨_, rfl, rfl⟩
    rw [if_neg q3, if_neg q3]
    by_cases q4 : y = 4
    · rw [if_pos q4, if_pos q4, mmK_p (by omega), tN, g4, mmK_p (by constructor <;> omega), mmK_p (by constructor <;> omega), show 2 + y - 3 = 3 by omega, bd_ (of3 hf hn _ hlt)]
      exact ⟨_, rfl, rfl⟩
    rw [if_neg q4, if_neg q4]
    by_cases q5 : y = 5
    · rw [if_pos q5, if_pos q5, mmK_p (by omega), tN, g5, mmK_p (by constructor <;> omega), mmK_p (by constructor <;> omega), show 2 + y - 3 = 4 by omega, bd_ (of4 hf hn _ hlt)]
      exact ⟨_, rfl, rfl⟩
    rw [if_neg q5, if_neg q5]
    by_cases q6 : y = 6
    · rw [if_pos q6, if_pos q6, mmK_p (by omega), tN, g3, bd_ (of2 hf hn _ hlt)]
      exact b2_fin (aof_q h hf w)
    rw [if_neg q6, if_neg q6]
    by_cases q7 : y = 7
    · rw [if_pos q7, if_pos q7, mmK_p (by omega), tN, g2, bd_ (of5 hf hn _ hlt)]
      exact ⟨_, rfl, rfl⟩
    rw [if_neg q7, if_neg q7]
    by_cases q8 : y = 8
    · rw [if_pos q8, if_pos q8]
      refine b2_bd (lost_q h hf w _ hlt) (fun v => ?_)
      dsimp only
      by_cases z : v = 0
      · rw [if_pos z]; exact ⟨_, rfl, rfl⟩
      · rw [if_neg z]; exact ⟨_, rfl, rfl⟩
    rw [if_neg q8, if_neg q8]
    exact ⟨_, rfl, rfl⟩
  · rw [bd_ (rank_no h w hh), bd_ (rank4_no hf w hh)]
    dsimp only
    rw [bd_ (isRank_f h (by omega))]
    dsimp only
    rw [if_pos rfl, if_pos rfl]
    exact ⟨_, rfl, rfl⟩
theorem nm_t {x : Int} (h : repS m o a) (w : wfA a N) (hx : 0 ≤ x ∧ x < a.1) : f_X2_tellName o x m = some (a.2.1 0 x.toNat, m) := by
  have hn := w.n24
  unfold f_X2_tellName
  rw [if_pos (by omega), bd_ (isRank_t h hx)]
  dsimp only
  rw [if_neg (by decide), mmK_p (by omega), (h.2.2.2.2.2 x.toNat (by omega)).1]
theorem nm_n {x : Int} (h : repS m o a) (hx : 0 ≤ x ∧ ¬ x < a.1) : f_X2_tellName o x m = some (-5, m) := by
  unfold f_X2_tellName
  rw [if_pos (by omega), bd_ (isRank_f h (by omega))]
  dsimp only
  rw [if_pos rfl]
theorem o4_t {x : Int} (hf : repF (m.1 52) 0 a) (w : wfA a N) (hx : 0 ≤ x ∧ x < a.1) : f_X4_of x 0 m = some (a.2.1 0 x.toNat, m) := of_k hf w.n24 x.toNat 0 (by omega) rfl (by omega) (by decide)
theorem nam_q {x : Int} (h : repS m o a) (hf : repF (m.1 52) 0 a) (w : wfA a N) : both2 (f_X2_tellName o x m) (f_X4_named x m) m := by
  have k1 : m.1 52 0 = a.1 := hf.1
  unfold f_X4_named
  by_cases h0 : 0 ≤ x
  · rw [if_pos h0]
    by_cases h2 : x < a.1
    · rw [nm_t h w ⟨h0, h2⟩, if_neg (by omega), bd_ (o4_t hf w ⟨h0, h2⟩)]
      exact ⟨_, rfl, rfl⟩
    · rw [nm_n h ⟨h0, h2⟩, if_pos (by omega)]
      exact ⟨_, rfl, rfl⟩
  · rw [if_neg h0]
    unfold f_X2_tellName
    rw [if_neg h0]
    exact ⟨_, rfl, rfl⟩
def blkV (a : AS) (x y c : Int) : Int := if y = 0 then c else if y = 1 then (if c = 0 then -5 else a.2.1 0 (x * 4).toNat) else if y = 2 then (if c = 0 then -5 else a.2.1 0 (x * 4 + c - 1).toNat) else -2
theorem blkC {x y c : Int} (h : repS m o a) (w : wfA a N) (hb : 0 ≤ x ∧ x < a.2.2 0) (hc : c = max 0 (min 4 ((a.1 : Int) - x * 4))) : f_X2_tellBlock o x y m = some (blkV a x y c, m) := by
  have hn := w.n24
  have hw := w.1
  obtain ⟨h1, h2, -⟩ := id h
  unfold f_X2_tellBlock blkV
  rw [if_neg (by omega), if_pos (by omega), h1, mmK_p (by constructor <;> omega), mmK_p (by constructor <;> omega), ← hc]
  by_cases q0 : y = 0
  · rw [if_pos q0, if_pos q0]
  rw [if_neg q0, if_neg q0]
  by_cases q1 : y = 1
  · rw [if_pos q1, if_pos q1]
    by_cases c0 : c = 0
    · rw [if_pos c0, bd_ (nm_n h (by omega))]
    · rw [if_neg c0, bd_ (nm_t h w (show 0 ≤ x * 4 ∧ x * 4 < a.1 by omega))]
  rw [if_neg q1, if_neg q1]
  by_cases q2 : y = 2
  · rw [if_pos q2, if_pos q2]
    by_cases c0 : c = 0
    · rw [if_pos c0, if_pos c0]
    · rw [if_neg c0, if_neg c0, mmK_p (by constructor <;> omega), mmK_p (by constructor <;> omega), bd_ (nm_t h w (show 0 ≤ x * 4 + c - 1 ∧ x * 4 + c - 1 < a.1 by omega))]
  rw [if_neg q2, if_neg q2]
theorem blkM70 {x y c : Int} (hf : repF (m.1 52) 0 a) (w : wfA a N) (hb : 0 ≤ x ∧ x < a.2.2 0) (hc : c = max 0 (min 4 ((a.1 : Int) - x * 4))) (hy : 0 ≤ y ∧ y ≤ 2) : f_X4_block_L70 y (4 * x) c m = some (blkV a x y c, m) := by
  have hn := w.n24
  have hw := w.1
  unfold f_X4_block_L70 blkV
  by_cases q0 : y = 0
  · rw [if_pos q0, if_pos q0]
  rw [if_neg q0, if_neg q0]
  by_cases c0 : c = 0
  · rw [if_pos c0]
    by_cases q1 : y = 1
    · rw [if_pos q1, if_pos c0]
    · rw [if_neg q1, if_pos (show y = 2 by omega), if_pos c0]
  · rw [if_neg c0, show 4 * x = x * 4 by omega]
    by_cases q1 : y = 1
    · rw [if_pos q1, if_pos q1, if_neg c0, bd_ (o4_t hf w (show 0 ≤ x * 4 ∧ x * 4 < a.1 by omega))]
    · rw [if_neg q1, if_neg q1, if_pos (show y = 2 by omega), if_neg c0, mmK_p (by constructor <;> omega), mmK_p (by constructor <;> omega), bd_ (o4_t hf w (show 0 ≤ x * 4 + c - 1 ∧ x * 4 + c - 1 < a.1 by omega))]
theorem blkM {x y c : Int} (hf : repF (m.1 52) 0 a) (w : wfA a N) (hb : 0 ≤ x ∧ x < a.2.2 0) (hc : c = max 0 (min 4 ((a.1 : Int) - x * 4))) : f_X4_block x y m = some (blkV a x y c, m) := by
  have hn := w.n24
  have hw := w.1
  obtain ⟨k1, k2, -⟩ := id hf
  rw [Nat.zero_add] at k2
  unfold f_X4_block
  rw [k2, mmK_p (by constructor <;> omega), bd_ (in_t (show 0 ≤ x ∧ x ≤ a.2.2 0 - 1 by omega))]
  dsimp only
  rw [if_neg (by decide)]
  by_cases hy : 0 ≤ y ∧ y ≤ 2
  · rw [bd_ (in_t hy)]
    dsimp only
    rw [if_neg (by decide), mmK_p (by constructor <;> omega), k1, mmK_p (by constructor <;> omega)]
    by_cases c1 : 0 ≤ (a.1 : Int) - 4 * x
    · rw [if_pos c1]
      by_cases c2 : 4 ≤ (a.1 : Int) - 4 * x
      · rw [if_pos c2, blkM70 (x := x) hf w hb (show 4 = max 0 (min 4 ((a.1 : Int) - x * 4)) by omega) hy, show c = 4 by omega]
      · rw [if_neg c2, blkM70 (x := x) hf w hb (show (a.1 : Int) - 4 * x = max 0 (min 4 ((a.1 : Int) - x * 4)) by omega) hy, show c = (a.1 : Int) - 4 * x by omega]
    · rw [if_neg c1, blkM70 (x := x) hf w hb (show 0 = max 0 (min 4 ((a.1 : Int) - x * 4)) by omega) hy, show c = 0 by omega]
  · rw [bd_ (in_f hy)]
    dsimp only
    rw [if_pos rfl]
    unfold blkV
    rw [if_neg (by omega), if_neg (by omega), if_neg (by omega)]
theorem blk_q {x y : Int} (h : repS m o a) (hf : repF (m.1 52) 0 a) (w : wfA a N) : both2 (f_X2_tellBlock o x y m) (f_X4_block x y m) m := by
  by_cases hb : 0 ≤ x ∧ x < a.2.2 0
  · exact ⟨_, blkC h w hb rfl, blkM hf w hb rfl⟩
  · have hw := w.1
    obtain ⟨h1, h2, -⟩ := id h
    obtain ⟨k1, k2, -⟩ := id hf
    rw [Nat.zero_add] at k2
    refine b2_v (-1) ?_ ?_
    · unfold f_X2_tellBlock
      by_cases hx : x < 0
      · rw [if_pos hx]
      · rw [if_neg hx, if_neg (by omega)]
    · unfold f_X4_block
      rw [k2, mmK_p (by constructor <;> omega), bd_ (in_f (show ¬ (0 ≤ x ∧ x ≤ a.2.2 0 - 1) by omega))]
      dsimp only
      rw [if_pos rfl]
theorem atM_f {u : Int} (hf : repF (m.1 52) 0 a) (w : wfA a N) (i k : Nat) (hi : i < a.1) (hu : ¬ (a.2.1 2 i ≤ u ∧ u ≤ a.2.1 2 i + a.2.1 3 i - 1)) : f_X4_at_L29 (k + 1) u i m = f_X4_at_L29 k u ((i + 1 : Nat) : Int) m := by
  have hn := w.n24
  have k1 : m.1 52 0 = a.1 := hf.1
  have hb := w.2.2.1 i hi
  have hw := w.1
  rw [f_X4_at_L29, if_neg (by omega), bd_ (of2 hf hn i hi)]
  dsimp only
  rw [bd_ (of2 hf hn i hi)]
  dsimp only
  rw [bd_ (of3 hf hn i hi)]
  dsimp only
  rw [mmK_p (by constructor <;> omega), mmK_p (by constructor <;> omega), bd_ (in_f hu)]
  dsimp only
  rw [if_pos rfl, mmK_p (by constructor <;> omega), ci_1]
theorem atM_t {u : Int} (hf : repF (m.1 52) 0 a) (w : wfA a N) (i k : Nat) (hi : i < a.1) (hu : a.2.1 2 i ≤ u ∧ u ≤ a.2.1 2 i + a.2.1 3 i - 1) : f_X4_at_L29 (k + 1) u i m = some (a.2.1 0 i, m) := by
  have hn := w.n24
  have k1 : m.1 52 0 = a.1 := hf.1
  have hb := w.2.2.1 i hi
  have hw := w.1
  rw [f_X4_at_L29, if_neg (by omega), bd_ (of2 hf hn i hi)]
  dsimp only
  rw [bd_ (of2 hf hn i hi)]
  dsimp only
  rw [bd_ (of3 hf hn i hi)]
  dsimp only
  rw [mmK_p (by constructor <;> omega), mmK_p (by constructor <;> omega), bd_ (in_t hu)]
  dsimp only
  rw [if_neg (by decide), bd_ (of0 hf hn i hi)]
theorem at_L {u : Int} (h : repS m o a) (hf : repF (m.1 52) 0 a) (w : wfA a N) : ∀ (d fu i : Nat), i + d = a.1 → d < fu → both2 (f_X2_tellUnit_L25 fu o u i m) (f_X4_at_L29 fu u i m) m := by
  have hn := w.n24
  have h1 := h.1
  have k1 : m.1 52 0 = a.1 := hf.1
  intro d
  induction d with
  | zero =>
    intro fu i hi hf2
    obtain ⟨k, rfl⟩ : ∃ k, fu = k + 1 := ⟨fu - 1, by omega⟩
    rw [f_X2_tellUnit_L25, if_pos (by omega), f_X4_at_L29, if_pos (by omega)]
    exact ⟨_, rfl, rfl⟩
  | succ d ih =>
    intro fu i hi hf2
    obtain ⟨k, rfl⟩ : ∃ k, fu = k + 1 := ⟨fu - 1, by omega⟩
    have hil : i < a.1 := by omega
    obtain ⟨g1, g2, g3, g4, g5⟩ := h.2.2.2.2.2 i hil
    have hb := w.2.2.1 i hil
    have hw := w.1
    by_cases z1 : u < a.2.1 2 i
    · exact b2_eq (by rw [f_X2_tellUnit_L25, if_neg (by omega), mmK_p (by omega), tN, g3, if_pos z1, mmK_p (by constructor <;> omega), ci_1]) (atM_f hf w i k hil (by omega)) (ih k (i + 1) (by omega) (by omega))
    · by_cases z2 : a.2.1 2 i + a.2.1 3 i ≤ u
      · exact b2_eq (by rw [f_X2_tellUnit_L25, if_neg (by omega), mmK_p (by omega), tN, g3, if_neg z1, mmK_p (by omega), mmK_p (by omega), g4, mmK_p (by constructor <;> omega), if_pos z2, mmK_p (by constructor <;> omega), ci_1]) (atM_f hf w i k hil (by omega)) (ih k (i + 1) (by omega) (by omega))
      · exact b2_v _ (by rw [f_X2_tellUnit_L25, if_neg (by omega), mmK_p (by omega), tN, g3, if_neg z1, mmK_p (by omega), mmK_p (by omega), g4, mmK_p (by constructor <;> omega), if_neg z2, mmK_p (by omega), g1]) (atM_t hf w i k hil (by omega))
theorem at_q {u : Int} (h : repS m o a) (hf : repF (m.1 52) 0 a) (w : wfA a N) : both2 (f_X2_tellUnit o u m) (f_X4_at u m) m := by
  have hn := w.n24
  have h3 := h.2.2.1
  have k3 : m.1 52 2 = a.2.2 1 := hf.2.2.1
  by_cases hu : 0 ≤ u ∧ u ≤ 99
  · by_cases z : u < a.2.2 1
    · exact b2_eq (by unfold f_X2_tellUnit; rw [if_neg (by omega), if_pos (by omega), h3, if_pos z]; rfl) (by
        unfold f_X4_at
        rw [bd_ (in_t hu)]
        dsimp only
        rw [if_neg (by decide), k3, if_pos z]
        rfl) (at_L h hf w a.1 mmFU 0 (by omega) (by unfold mmFU; omega))
    · exact b2_v (-5) (by unfold f_X2_tellUnit; rw [if_neg (by omega), if_pos (by omega), h3, if_neg z]) (by
        unfold f_X4_at
        rw [bd_ (in_t hu)]
        dsimp only
        rw [if_neg (by decide), k3, if_neg z])
  · refine b2_v (-1) ?_ ?_
    · unfold f_X2_tellUnit
      by_cases hx : u < 0
      · rw [if_pos hx]
      · rw [if_neg hx, if_neg (by omega)]
    · unfold f_X4_at
      rw [bd_ (in_f hu)]
      dsimp only
      rw [if_pos rfl]
end QU
