section AD
variable {m : Mem} {a : AS} {hn : Nat} {H : Nat → AS} {sb : Int} {s : AS} {N : Int}
theorem CS.ab {m' : Mem} {b : AS} (h : CS m a hn H sb s) (k : MK m m') : CS m' a hn H sb s := h.mk_ k
theorem repF.sh {g g' : Nat → Int} {b b' : Nat} {a : AS} (h : repF g b a) (hn : a.1 ≤ 24) (hs : ∀ i, i < 149 → g' (b' + i) = g (b + i)) : repF g' b' a := by
  obtain ⟨q1, q2, q3, q4, q5, -⟩ := id h
  refine repF.mk6 ?_ ?_ ?_ ?_ ?_ (fun k j hk hj => ?_)
  · rw [← q1]; exact hs 0 (by omega)
  · rw [← q2]; exact hs 1 (by omega)
  · rw [← q3]; exact hs 2 (by omega)
  · rw [← q4]; exact hs 3 (by omega)
  · rw [← q5]; exact hs 4 (by omega)
  · rw [← h.col hk hj]; exact hs _ (by omega)
theorem und_L {k : Nat} (hk : k < 4) : ∀ (d fu i : Nat) (m : Mem), m.1 51 3 = k → i + d = 149 → d < fu → ∃ m2, f_X4_undo_L22 fu i m = some ((k : Int), m2) ∧ (∀ c, c ≠ 52 → m2.1 c = m.1 c) ∧ m2.2 = m.2 ∧ ∀ q, m2.1 52 q = if i ≤ q ∧ q < 149 then m.1 54 (149 * k + q) else m.1 52 q := by
  intro d
  induction d with
  | zero =>
    intro fu i m h0 hi hf
    obtain ⟨z, rfl⟩ : ∃ z, fu = z + 1 := ⟨fu - 1, by omega⟩
    rw [f_X4_undo_L22, if_pos (by omega), h0]
    exact ⟨m, rfl, fun _ _ => rfl, rfl, fun q => by rw [if_neg (by omega)]⟩
  | succ d ih =>
    intro fu i m h0 hi hf
    obtain ⟨z, rfl⟩ : ∃ z, fu = z + 1 := ⟨fu - 1, by omega⟩
    rw [f_X4_undo_L22, if_neg (by omega), h0, mmK_p (by constructor <;> omega), mmK_p (by constructor <;> omega), mmK_p (by omega), mmK_p (by omega), mmK_p (by constructor <;> omega), ci_1, tN, show (149 * (k : Int) + (i : Int)).toNat = 149 * k + i by omega]
    obtain ⟨m1, e1, f1, f2, c1⟩ := ih z (i + 1) (mwr m 52 i (m.1 54 (149 * k + i))) (by rw [mwr_ne (by decide)]; exact h0) (by omega) (by omega)
    refine ⟨m1, e1, fun c hc => (f1 c hc).trans (mwr_ne hc), f2, fun q => ?_⟩
    rw [c1 q, mwr_ne (by decide), mwr_self]
    by_cases z : i + 1 ≤ q ∧ q < 149
    · rw [if_pos z, if_pos (by omega)]
    · rw [if_neg z]
      by_cases z2 : q = i
      · rw [if_pos z2, if_pos (by omega), z2]
      · rw [if_neg z2, if_neg (by omega)]
theorem keep_L : ∀ (d fu i : Nat) (m : Mem), i + d = 149 → d < fu → ∃ m2, f_X4_keep_L2 fu i m = some (m.1 52 0, m2) ∧ (∀ c, c ≠ 51 → c ≠ 55 → m2.1 c = m.1 c) ∧ m2.2 = m.2 ∧ (∀ k, m2.1 51 k = if k = 5 then 1 else m.1 51 k) ∧ ∀ q, m2.1 55 q = if i ≤ q ∧ q < 149 then m.1 52 q else m.1 55 q := by
  intro d
  induction d with
  | zero =>
    intro fu i m hi hf
    obtain ⟨z, rfl⟩ : ∃ z, fu = z + 1 := ⟨fu - 1, by omega⟩
    rw [f_X4_keep_L2, if_pos (by omega)]
    exact ⟨_, rfl, fun _ h _ => mwr_ne h, rfl, fun k => mwr_self, fun q => by rw [mwr_ne (by decide), if_neg (by omega)]⟩
  | succ d ih =>
    intro fu i m hi hf
    obtain ⟨z, rfl⟩ : ∃ z, fu = z + 1 := ⟨fu - 1, by omega⟩
    rw [f_X4_keep_L2, if_neg (by omega), mmK_p (by omega), mmK_p (by omega), mmK_p (by constructor <;> omega), ci_1, tN]
    obtain ⟨m1, e1, f1, f2, f3, c1⟩ := ih z (i + 1) (mwr m 55 i (m.1 52 i)) (by omega) (by omega)
    rw [show (mwr m 55 i (m.1 52 i)).1 52 = m.1 52 from mwr_ne (by decide)] at e1
    refine ⟨m1, e1, fun c h1 h2 => (f1 c h1 h2).trans (mwr_ne h2), f2, fun k => by rw [f3, mwr_ne (by decide)], fun q => ?_⟩
    rw [c1 q, mwr_ne (by decide), mwr_self]
    by_cases z : i + 1 ≤ q ∧ q < 149
    · rw [if_pos z, if_pos (by omega)]
    · rw [if_neg z]
      by_cases z2 : q = i
      · rw [if_pos z2, if_pos (by omega), z2]
      · rw [if_neg z2, if_neg (by omega)]
theorem rst_L : ∀ (d fu i : Nat) (m : Mem), i + d = 149 → d < fu → ∃ m2, f_X4_restore_L16 fu i m = (f_X4_acted (m2.1 52 0) m2).bind (fun q => some (q.1, q.2)) ∧ (∀ c, c ≠ 52 → m2.1 c = m.1 c) ∧ m2.2 = m.2 ∧ ∀ q, m2.1 52 q = if i ≤ q ∧ q < 149 then m.1 55 q else m.1 52 q := by
  intro d
  induction d with
  | zero =>
    intro fu i m hi hf
    obtain ⟨z, rfl⟩ : ∃ z, fu = z + 1 := ⟨fu - 1, by omega⟩
    rw [f_X4_restore_L16, if_pos (by omega)]
    exact ⟨m, rfl, fun _ _ => rfl, rfl, fun q => by rw [if_neg (by omega)]⟩
  | succ d ih =>
    intro fu i m hi hf
    obtain ⟨z, rfl⟩ : ∃ z, fu = z + 1 := ⟨fu - 1, by omega⟩
    rw [f_X4_restore_L16, if_neg (by omega), mmK_p (by omega), mmK_p (by omega), mmK_p (by constructor <;> omega), ci_1, tN]
    obtain ⟨m1, e1, f1, f2, c1⟩ := ih z (i + 1) (mwr m 52 i (m.1 55 i)) (by omega) (by omega)
    refine ⟨m1, e1, fun c hc => (f1 c hc).trans (mwr_ne hc), f2, fun q => ?_⟩
    rw [c1 q, mwr_ne (by decide), mwr_self]
    by_cases z : i + 1 ≤ q ∧ q < 149
    · rw [if_pos z, if_pos (by omega)]
    · rw [if_neg z]
      by_cases z2 : q = i
      · rw [if_pos z2, if_pos (by omega), z2]
      · rw [if_neg z2, if_neg (by omega)]
theorem und_both (h : Inv m N) : ∃ v m1 m2, f_X3_undo m = some (v, m1) ∧ f_X4_undo m1 = some (v, m2) ∧ Inv m2 N := by
  obtain ⟨a, hn, H, sb, s, h1, h2, h3, h4⟩ := id h
  obtain ⟨c1, c2, c3, c4⟩ := id h1
  obtain ⟨d1, d2, d3, d4, d5⟩ := id h2
  obtain ⟨w1, w2, w3, w4, w5⟩ := id h3
  unfold f_X3_undo f_X4_undo
  cases hn with
  | zero =>
    refine ⟨-5, m, m, ?_, ?_, h⟩
    · rw [bd_ (give_no c2)]
      rfl
    · rw [if_pos (by omega)]
  | succ k =>
    obtain ⟨m1, e1, g1, g2, g3⟩ := give_ok c2
    have hck : CK m m1 := fun c hc => g3 c (by omega)
    obtain ⟨e1', e2', e3', e4', e5'⟩ := h2.ck hck
    obtain ⟨m2, e2, f2, f2', b2⟩ := und_L (k := k) (by omega) 149 mmFU 0 (mwr m1 51 3 (m1.1 51 3 - 1)) (by rw [mwr_self, if_pos rfl]; omega) rfl (by unfold mmFU; omega)
    rw [show ((0 : Nat) : Int) = 0 from rfl] at e2
    refine ⟨(k : Int), m1, m2, ?_, ?_, ?_⟩
    · rw [bd_ e1]
      rw [if_neg (by show ¬ (1 : Int) = 0; decide)]
      unfold f_X0_size
      obtain ⟨q, q1, -⟩ := g1
      show some (m1.1 19 1, m1) = _
      rw [q1]
    · rw [if_neg (by omega), mmK_p (by constructor <;> omega)]
      exact e2
    · have hk2 : MK m1 m2 := ⟨fun c hc => by rw [f2 c (by omega), mwr_ne (by omega)], by rw [f2', mwr_2], by rw [f2 57 (by decide), mwr_ne (by decide)], by rw [f2 51 (by decide), mwr_self, if_neg (by decide)]⟩
      have hcs : CS m1 (H k) k H sb s := ⟨g2, g1, by rw [g3 0 (by omega)]; exact c3, fun e => (c4 e).keep (fun c q1 q2 => g3 c (by omega))⟩
      refine ⟨H k, k, H, sb, s, hcs.mk_ hk2, ⟨?_, ?_, ?_, ?_, ?_⟩, ⟨w2 k (by omega), fun i hi => w2 i (by omega), w3, w4, by omega⟩, (h4.ck hck).mk_ hk2⟩
      · refine (e3' k (by omega)).sh (w2 k (by omega)).n24 (fun i hi => ?_)
        rw [b2, if_pos (by omega), mwr_ne (by decide), Nat.zero_add]
      · rw [f2 51 (by decide), mwr_self, if_pos rfl]; omega
      · intro i hi
        rw [f2 54 (by decide), mwr_ne (by decide)]
        exact e3' i (by omega)
      · rw [f2 51 (by decide), mwr_self, if_neg (by decide)]; exact e4'
      · rw [f2 55 (by decide), mwr_ne (by decide)]; exact e5'
theorem keep_both (h : Inv m N) : ∃ v m1 m2, f_X3_keep m = some (v, m1) ∧ f_X4_keep m1 = some (v, m2) ∧ Inv m2 N := by
  obtain ⟨a, hn, H, sb, s, h1, h2, h3, h4⟩ := id h
  obtain ⟨c1, c2, c3, c4⟩ := id h1
  obtain ⟨w1, w2, w3, w4, w5⟩ := id h3
  unfold f_X3_keep f_X4_keep
  obtain ⟨m1, e1, f1, r1⟩ := copy_ok 13 1 m (by omega)
  have hck : CK m (mwr m1 0 3 1) := fun c hc => by rw [mwr_ne (by omega), f1.1 c (by omega)]
  obtain ⟨e1', e2', e3', e4', e5'⟩ := h2.ck hck
  obtain ⟨m2, e2, f2, f2', f3, b2⟩ := keep_L 149 mmFU 0 (mwr m1 0 3 1) rfl (by unfold mmFU; omega)
  rw [show ((0 : Nat) : Int) = 0 from rfl, show (mwr m1 0 3 1).1 52 0 = (a.1 : Int) from e1'.1] at e2
  have hcs1 : repS (mwr m1 0 3 1) 1 a := (c1.fr f1 (by omega)).keep (fun c q1 q2 => mwr_ne (by omega))
  have hcs : CS (mwr m1 0 3 1) a hn H 1 a := ⟨hcs1, (c2.keep (fun c q1 q2 => f1.1 c (by omega)) f1.2).keep (fun c q1 q2 => mwr_ne (by omega)) rfl, by rw [mwr_self, if_pos rfl], fun _ => (r1 a w1.n24 c1).keep (fun c q1 q2 => mwr_ne (by omega))⟩
  have hk2 : MK (mwr m1 0 3 1) m2 := ⟨fun c hc => f2 c (by omega) (by omega), f2', f2 57 (by decide) (by decide), by rw [f3, if_neg (by decide)]⟩
  refine ⟨(a.1 : Int), mwr m1 0 3 1, m2, ?_, e2, a, hn, H, 1, a, hcs.mk_ hk2, ⟨?_, ?_, ?_, ?_, ?_⟩, ⟨w1, w2, fun _ => w1, Or.inr rfl, w5⟩, (h4.ck hck).mk_ hk2⟩
  · rw [bd_ e1]
    show some ((mwr m1 0 3 1).1 1 5, mwr m1 0 3 1) = _
    rw [hcs1.1]
  · rw [f2 52 (by decide) (by decide)]; exact e1'
  · rw [f3, if_neg (by decide)]; exact e2'
  · rw [f2 54 (by decide) (by decide)]; exact e3'
  · rw [f3, if_pos rfl]
  · intro _
    refine e1'.sh w1.n24 (fun i hi => ?_)
    rw [b2, if_pos (by omega)]
theorem rst_both (h : Inv m N) : ∃ v m1 m2, f_X3_restore m = some (v, m1) ∧ f_X4_restore m1 = some (v, m2) ∧ Inv m2 N := by
  obtain ⟨a, hn, H, sb, s, h1, h2, h3, h4⟩ := id h
  obtain ⟨c1, c2, c3, c4⟩ := id h1
  obtain ⟨w1, w2, w3, w4, w5⟩ := id h3
  obtain ⟨d1, d2, d3, d4, d5⟩ := id h2
  rcases w4 with rfl | rfl
  · unfold f_X3_restore f_X4_restore
    exact ⟨-5, m, m, by rw [if_pos c3], by rw [if_pos d4], h⟩
  · have ws := w3 rfl
    refine both_act (R := ((s.1 : Int), s)) h1 h2 h3 h4 ws ?_ ?_
    · unfold f_X3_restore
      rw [if_neg (by omega)]
      obtain ⟨m1, e1, f1, r1⟩ := copy_ok 7 13 m (by omega)
      have hs := r1 s ws.n24 (c4 rfl)
      have hc : CS m1 a hn H 1 s := ⟨c1.fr f1 (by omega), c2.keep (fun c g1 g2 => f1.1 c (by omega)) f1.2, by rw [f1.1 0 (by omega)]; exact c3, fun e => (c4 e).fr f1 (by omega)⟩
      obtain ⟨m3, e3, k3, n3, p3⟩ := settle_ok hc w1.n24 hs ws.n24 (s.1 : Int)
      have e2 : f_X2_size 7 m1 = some ((s.1 : Int), m1) := by
        unfold f_X2_size
        rw [hs.1]
      rw [bd_ e1, bd_ e2, bd_ e3]
      exact ⟨m3, rfl, fun c hcc => by rw [k3 c hcc, f1.1 c (by omega)], n3, p3⟩
    · intro m0 hm
      unfold f_X4_restore
      rw [if_neg (by rw [hm.2.2.2.1]; decide)]
      obtain ⟨m1, e1, r1, r2, r3⟩ := rem_ok m0
      obtain ⟨m2, e2, f2, f2', b2⟩ := rst_L 149 mmFU 0 m1 rfl (by unfold mmFU; omega)
      rw [show ((0 : Nat) : Int) = 0 from rfl] at e2
      have hk1 : MK m0 m1 := ⟨fun c hc => r1 c (by omega), r2, r1 57 (by decide), by rw [r1 51 (by decide)]⟩
      have hb : repF (m2.1 52) 0 s := (hm.2.2.2.2 rfl).sh ws.n24 (fun i hi => by rw [b2, if_pos (by omega), r1 55 (by decide)])
      obtain ⟨m3, e3, k3, s3⟩ := mod_fin hm h3 r1 r2 r3 (fun c _ g1 g2 => f2 c g1) (fun k _ => by rw [f2 51 (by decide)]) f2' hb (s.1 : Int)
      rw [bd_ e1, e2, show m2.1 52 0 = (s.1 : Int) from hb.1, bd_ e3]
      exact ⟨m3, rfl, k3, fun q => absurd q (by show ¬ (s.1 : Int) < 0; omega), fun _ => s3⟩
theorem typ_both {x : Int} (hx : 0 ≤ x ∧ x ≤ 65535) (h : Inv m N) : ∃ v m1 m2, f_X3_type x m = some (v, m1) ∧ f_X4_type x m1 = some (v, m2) ∧ Inv m2 N := by
  obtain ⟨a, hn, H, sb, s, h1, h2, h3, pl, p1, p2, p3, p4⟩ := id h
  unfold f_X3_type f_X4_type f_X1_append
  by_cases z : pl < 60
  · rw [if_pos (by omega), p2, mmK_p (by omega), mmK_p (by omega), mmK_p (by constructor <;> omega)]
    have e8 : ∀ k, (mwr (mwr m 46 (pl : Int).toNat x) 45 1 ((pl : Int) + 1)).1 51 k = m.1 51 k := fun k => by rw [mwr_ne (by decide), mwr_ne (by decide)]
    refine ⟨(pl : Int) + 1, mwr (mwr m 46 pl x) 45 1 ((pl : Int) + 1), mwr (mwr (mwr (mwr m 46 pl x) 45 1 ((pl : Int) + 1)) 57 pl x) 51 8 ((pl : Int) + 1), rfl, ?_, ?_⟩
    · rw [tN] at e8
      rw [if_neg (by rw [e8]; omega), e8, p3, mmK_p (by omega), mmK_p (by constructor <;> omega)]
      rfl
    · have fr : ∀ c, c ≠ 45 → c ≠ 46 → c ≠ 51 → c ≠ 57 → (mwr (mwr (mwr (mwr m 46 pl x) 45 1 ((pl : Int) + 1)) 57 pl x) 51 8 ((pl : Int) + 1)).1 c = m.1 c := fun c g1 g2 g3 g4 => by
        rw [mwr_ne g3, mwr_ne g4, mwr_ne g1, mwr_ne g2]
      have f51 : ∀ k, k ≠ 8 → (mwr (mwr (mwr (mwr m 46 pl x) 45 1 ((pl : Int) + 1)) 57 pl x) 51 8 ((pl : Int) + 1)).1 51 k = m.1 51 k := fun k hk => by
        rw [mwr_self, if_neg hk, mwr_ne (by decide), mwr_ne (by decide), mwr_ne (by decide)]
      obtain ⟨c1, c2, c3, c4⟩ := h1
      obtain ⟨d1, d2, d3, d4, d5⟩ := h2
      refine ⟨a, hn, H, sb, s, ⟨c1.keep (fun c q1 q2 => fr c (by omega) (by omega) (by omega) (by omega)), c2.keep (fun c q1 q2 => fr c (by omega) (by omega) (by omega) (by omega)) rfl, by rw [fr 0 (by decide) (by decide) (by decide) (by decide)]; exact c3, fun e => (c4 e).keep (fun c q1 q2 => fr c (by omega) (by omega) (by omega) (by omega))⟩, ⟨?_, ?_, ?_, ?_, ?_⟩, h3, pl + 1, by omega, ?_, ?_, fun i hi => ?_⟩
      · rw [fr 52 (by decide) (by decide) (by decide) (by decide)]; exact d1
      · rw [f51 3 (by decide)]; exact d2
      · rw [fr 54 (by decide) (by decide) (by decide) (by decide)]; exact d3
      · rw [f51 5 (by decide)]; exact d4
      · rw [fr 55 (by decide) (by decide) (by decide) (by decide)]; exact d5
      · rw [mwr_ne (by decide), mwr_ne (by decide), mwr_self, if_pos rfl]; rfl
      · rw [mwr_self, if_pos rfl]; rfl
      · rw [mwr_ne (by decide), mwr_ne (by decide), mwr_ne (by decide), mwr_self, mwr_ne (by decide), mwr_self, mwr_ne (by decide), mwr_ne (by decide)]
        by_cases zi : i = pl
        · rw [if_pos zi, if_pos zi]; exact ⟨rfl, hx⟩
        · rw [if_neg zi, if_neg zi]; exact p4 i (by omega)
  · rw [if_neg (by omega)]
    exact ⟨-3, m, m, rfl, by rw [if_pos (by omega)], h⟩
theorem clr_both (h : Inv m N) : ∃ v m1 m2, f_X3_clearPad m = some (v, m1) ∧ f_X4_clearPad m1 = some (v, m2) ∧ Inv m2 N := by
  obtain ⟨a, hn, H, sb, s, h1, h2, h3, pl, p1, p2, p3, p4⟩ := id h
  unfold f_X3_clearPad f_X4_clearPad f_X1_empty
  refine ⟨(pl : Int), mwr m 45 1 0, mwr (mwr m 45 1 0) 51 8 0, by rw [p2]; rfl, by rw [mwr_ne (by decide), p3], ?_⟩
  have fr : ∀ c, c ≠ 45 → c ≠ 51 → (mwr (mwr m 45 1 0) 51 8 0).1 c = m.1 c := fun c g1 g2 => by rw [mwr_ne g2, mwr_ne g1]
  have f51 : ∀ k, k ≠ 8 → (mwr (mwr m 45 1 0) 51 8 0).1 51 k = m.1 51 k := fun k hk => by rw [mwr_self, if_neg hk, mwr_ne (by decide)]
  obtain ⟨c1, c2, c3, c4⟩ := h1
  obtain ⟨d1, d2, d3, d4, d5⟩ := h2
  refine ⟨a, hn, H, sb, s, ⟨c1.keep (fun c q1 q2 => fr c (by omega) (by omega)), c2.keep (fun c q1 q2 => fr c (by omega) (by omega)) rfl, by rw [fr 0 (by decide) (by decide)]; exact c3, fun e => (c4 e).keep (fun c q1 q2 => fr c (by omega) (by omega))⟩, ⟨?_, ?_, ?_, ?_, ?_⟩, h3, 0, by omega, ?_, ?_, fun i hi => absurd hi (by omega)⟩
  · rw [fr 52 (by decide) (by decide)]; exact d1
  · rw [f51 3 (by decide)]; exact d2
  · rw [fr 54 (by decide) (by decide)]; exact d3
  · rw [f51 5 (by decide)]; exact d4
  · rw [fr 55 (by decide) (by decide)]; exact d5
  · rw [mwr_ne (by decide), mwr_self, if_pos rfl]; rfl
  · rw [mwr_self, if_pos rfl]; rfl
end AD
