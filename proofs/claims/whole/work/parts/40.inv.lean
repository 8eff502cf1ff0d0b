def CS (m : Mem) (a : AS) (hn : Nat) (H : Nat → AS) (sb : Int) (s : AS) : Prop := repS m 1 a ∧ CH m hn H ∧ m.1 0 3 = sb ∧ (sb = 1 → repS m 13 s)
def MS (m : Mem) (a : AS) (hn : Nat) (H : Nat → AS) (sb : Int) (s : AS) : Prop := repF (m.1 52) 0 a ∧ m.1 51 3 = hn ∧ (∀ i, i < hn → repF (m.1 54) (149 * i) (H i)) ∧ m.1 51 5 = sb ∧ (sb = 1 → repF (m.1 55) 0 s)
def PD (m : Mem) : Prop := ∃ pl : Nat, pl ≤ 60 ∧ m.1 45 1 = pl ∧ m.1 51 8 = pl ∧ ∀ i, i < pl → m.1 46 i = m.1 57 i ∧ 0 ≤ m.1 57 i ∧ m.1 57 i ≤ 65535
def WS (a : AS) (hn : Nat) (H : Nat → AS) (sb : Int) (s : AS) (N : Int) : Prop := wfA a N ∧ (∀ i, i < hn → wfA (H i) N) ∧ (sb = 1 → wfA s N) ∧ (sb = 0 ∨ sb = 1) ∧ hn ≤ 4
def Inv (m : Mem) (N : Int) : Prop := ∃ (a : AS) (hn : Nat) (H : Nat → AS) (sb : Int) (s : AS), CS m a hn H sb s ∧ MS m a hn H sb s ∧ WS a hn H sb s N ∧ PD m
/-- the reference's calls leave the class, and the pad -/
def MK (m m' : Mem) : Prop := (∀ c, c < 51 → m'.1 c = m.1 c) ∧ m'.2 = m.2 ∧ m'.1 57 = m.1 57 ∧ m'.1 51 8 = m.1 51 8
theorem MK.rf {m : Mem} : MK m m := ⟨fun _ _ => rfl, rfl, rfl, rfl⟩
theorem MK.tr {m m1 m2 : Mem} (h1 : MK m m1) (h2 : MK m1 m2) : MK m m2 := ⟨fun c h => (h2.1 c h).trans (h1.1 c h), h2.2.1.trans h1.2.1, h2.2.2.1.trans h1.2.2.1, h2.2.2.2.trans h1.2.2.2⟩
theorem MK.fr2 {m m' : Mem} (h : fr2 m m') : MK m m' := ⟨fun c hc => h.1 c (by omega) (by omega), h.2, h.1 57 (by decide) (by decide), by rw [h.1 51 (by decide) (by decide)]⟩
/-- the class's calls leave the reference, and the pad -/
def CK (m m' : Mem) : Prop := ∀ c, 45 ≤ c → m'.1 c = m.1 c
theorem CS.mk_ {m m' : Mem} {a : AS} {hn : Nat} {H : Nat → AS} {sb : Int} {s : AS} (h : CS m a hn H sb s) (k : MK m m') : CS m' a hn H sb s := by
  obtain ⟨h1, h2, h3, h4⟩ := h
  exact ⟨h1.keep (fun c g1 g2 => k.1 c (by omega)), h2.keep (fun c g1 g2 => k.1 c (by omega)) k.2.1, by rw [k.1 0 (by decide)]; exact h3, fun e => (h4 e).keep (fun c g1 g2 => k.1 c (by omega))⟩
theorem MS.ck {m m' : Mem} {a : AS} {hn : Nat} {H : Nat → AS} {sb : Int} {s : AS} (h : MS m a hn H sb s) (k : CK m m') : MS m' a hn H sb s := by
  obtain ⟨h1, h2, h3, h4, h5⟩ := h
  exact ⟨by rw [k 52 (by decide)]; exact h1, by rw [k 51 (by decide)]; exact h2, by rw [k 54 (by decide)]; exact h3, by rw [k 51 (by decide)]; exact h4, by rw [k 55 (by decide)]; exact h5⟩
theorem PD.ck {m m' : Mem} (h : PD m) (k : CK m m') : PD m' := by
  obtain ⟨pl, h1, h2, h3, h4⟩ := h
  exact ⟨pl, h1, by rw [k 45 (by decide)]; exact h2, by rw [k 51 (by decide)]; exact h3, by rw [k 46 (by decide), k 57 (by decide)]; exact h4⟩
theorem PD.mk_ {m m' : Mem} (h : PD m) (k : MK m m') : PD m' := by
  obtain ⟨pl, h1, h2, h3, h4⟩ := h
  exact ⟨pl, h1, by rw [k.1 45 (by decide)]; exact h2, by rw [k.2.2.2]; exact h3, by rw [k.1 46 (by decide), k.2.2.1]; exact h4⟩
theorem WS.push {a b : AS} {hn : Nat} {H : Nat → AS} {sb : Int} {s : AS} {N : Int} (h : WS a hn H sb s N) (w : wfA b N) : WS b (pushN hn) (pushH hn H a) sb s N := by
  obtain ⟨h1, h2, h3, h4, h5⟩ := h
  refine ⟨w, fun i hi => ?_, h3, h4, by unfold pushN; split <;> omega⟩
  unfold pushN at hi
  unfold pushH
  split at hi
  · rename_i e
    rw [if_pos e]
    split
    · exact h2 _ (by omega)
    · exact h1
  · rename_i e
    rw [if_neg e]
    split
    · exact h1
    · exact h2 _ (by omega)
theorem WS.mono {a : AS} {hn : Nat} {H : Nat → AS} {sb : Int} {s : AS} {N N' : Int} (h : WS a hn H sb s N) (hN : N ≤ N') : WS a hn H sb s N' := ⟨h.1.mono hN, fun i hi => (h.2.1 i hi).mono hN, fun e => (h.2.2.1 e).mono hN, h.2.2.2⟩
theorem CH.n24 {m : Mem} {hn : Nat} {H : Nat → AS} (h : CH m hn H) : hn ≤ 4 := by obtain ⟨q, _, h2, _⟩ := h; exact h2
section IV
variable {m : Mem} {a : AS} {hn : Nat} {H : Nat → AS} {sb : Int} {s : AS} {N : Int}
/-- the class's acts: on trial first -/
theorem settle_ok (h : CS m a hn H sb s) (h24 : a.1 ≤ 24) {b : AS} (hb : repS m 7 b) (hb24 : b.1 ≤ 24) (r : Int) : ∃ m', f_X3_settle r m = some (r, m') ∧ CK m m' ∧ (r < 0 → CS m' a hn H sb s) ∧ (0 ≤ r → CS m' b (pushN hn) (pushH hn H a) sb s) := by
  obtain ⟨h1, h2, h3, h4⟩ := id h
  unfold f_X3_settle
  by_cases z : r < 0
  · rw [if_pos z]
    exact ⟨m, rfl, fun _ _ => rfl, fun _ => h, fun q => by omega⟩
  · rw [if_neg z]
    obtain ⟨m1, e1, r1, f1⟩ := keep_ok h2 h1 h24
    rw [e1]
    simp only [Option.bind_some]
    obtain ⟨m2, e2, f2, r2⟩ := copy_ok 1 7 m1 (by omega)
    rw [e2]
    refine ⟨m2, rfl, fun c hc => by rw [f2.1 c (by omega), f1 c (by omega)], fun q => by omega, fun _ => ⟨r2 b hb24 (hb.keep (fun c g1 g2 => f1 c (by omega))), r1.keep (fun c g1 g2 => f2.1 c (by omega)) f2.2, by rw [f2.1 0 (by omega), f1 0 (by omega)]; exact h3, fun e => (h4 e).keep (fun c g1 g2 => by rw [f2.1 c (by omega), f1 c (by omega)])⟩⟩
theorem cls_act {op : Mem → Option (Int × Mem)} {R : Int × AS} (h : CS m a hn H sb s) (h24 : a.1 ≤ 24) (hR : R.2.1 ≤ 24) (hop : ∀ m1, repS m1 7 a → didS (op m1) m1 7 R) :
    ∃ m', (f_X2_copyFrom 7 1 m).bind (fun q1 => (op q1).bind (fun q3 => (f_X3_settle q3.1 q3.2).bind (fun q5 => some (q5.1, q5.2)))) = some (R.1, m') ∧ CK m m' ∧ (R.1 < 0 → CS m' a hn H sb s) ∧ (0 ≤ R.1 → CS m' R.2 (pushN hn) (pushH hn H a) sb s) := by
  obtain ⟨h1, h2, h3, h4⟩ := id h
  obtain ⟨m1, e1, f1, r1⟩ := copy_ok 7 1 m (by omega)
  rw [e1]
  simp only [Option.bind_some]
  obtain ⟨m2, e2, f2, r2⟩ := hop m1 (r1 a h24 h1)
  rw [e2]
  simp only [Option.bind_some]
  have f12 := f1.tr f2
  have hc : CS m2 a hn H sb s := ⟨h1.fr f12 (by omega), h2.keep (fun c g1 g2 => f12.1 c (by omega)) f12.2, by rw [f12.1 0 (by omega)]; exact h3, fun e => (h4 e).fr f12 (by omega)⟩
  obtain ⟨m3, e3, k3, n3, p3⟩ := settle_ok hc h24 r2 hR R.1
  rw [e3]
  exact ⟨m3, rfl, fun c hcc => by rw [k3 c hcc, f12.1 c (by omega)], n3, p3⟩
/-- the reference's acts: what was remembered goes into the history -/
theorem mod_fin (h : MS m a hn H sb s) (w : WS a hn H sb s N) {m1 m2 : Mem} (r1 : ∀ c, c ≠ 53 → m1.1 c = m.1 c) (r2 : m1.2 = m.2) (r3 : ∀ q, q < 149 → m1.1 53 q = m.1 52 q) (f : ∀ c, c ≠ 51 → c ≠ 52 → c ≠ 56 → m2.1 c = m1.1 c) (f51 : ∀ k, k < 9 → m2.1 51 k = m1.1 51 k) (f2 : m2.2 = m1.2) {b : AS} (hb : repF (m2.1 52) 0 b) (r : Int) : ∃ m3, f_X4_acted r m2 = some (r, m3) ∧ MK m m3 ∧ MS m3 b (pushN hn) (pushH hn H a) sb s := by
  obtain ⟨h1, h2, h3, h4, h5⟩ := h
  obtain ⟨w1, w2, w3, w4, w5⟩ := w
  have e54 : m2.1 54 = m.1 54 := by rw [f 54 (by decide) (by decide) (by decide), r1 54 (by decide)]
  have hk : repF (m2.1 53) 0 a := by
    rw [f 53 (by decide) (by decide) (by decide)]
    exact h1.keep w1.n24 (fun i _ hi => r3 i (by omega))
  obtain ⟨m3, e3, g1, g2, g3, g4, g5⟩ := acted_ok r hn w5 H a m2 (by rw [f51 3 (by decide), r1 51 (by decide)]; exact h2) (fun i hi => ⟨by rw [e54]; exact h3 i hi, (w2 i hi).n24⟩) hk w1.n24
  refine ⟨m3, e3, ⟨fun c hc => by rw [g1 c (by omega) (by omega), f c (by omega) (by omega) (by omega), r1 c (by omega)], by rw [g2, f2, r2], by rw [g1 57 (by decide) (by decide), f 57 (by decide) (by decide) (by decide), r1 57 (by decide)], by rw [g3 8 (by decide), f51 8 (by decide), r1 51 (by decide)]⟩, by rw [g1 52 (by decide) (by decide)]; exact hb, g4, g5, by rw [g3 5 (by decide), f51 5 (by decide), r1 51 (by decide)]; exact h4, fun e => ?_⟩
  rw [g1 55 (by decide) (by decide), f 55 (by decide) (by decide) (by decide), r1 55 (by decide)]
  exact h5 e
theorem MS.fr {m' : Mem} (h : MS m a hn H sb s) (f : ∀ c, c ≠ 51 → c ≠ 53 → c ≠ 56 → m'.1 c = m.1 c) (f51 : ∀ k, k < 9 → m'.1 51 k = m.1 51 k) : MS m' a hn H sb s := by
  obtain ⟨h1, h2, h3, h4, h5⟩ := h
  exact ⟨by rw [f 52 (by decide) (by decide) (by decide)]; exact h1, by rw [f51 3 (by decide)]; exact h2, by rw [f 54 (by decide) (by decide) (by decide)]; exact h3, by rw [f51 5 (by decide)]; exact h4, by rw [f 55 (by decide) (by decide) (by decide)]; exact h5⟩
/-- both sides of an act, put together -/
theorem both_act {F3 F4 : Mem → Option (Int × Mem)} {R : Int × AS} (h1 : CS m a hn H sb s) (h2 : MS m a hn H sb s) (h3 : WS a hn H sb s N) (h4 : PD m) (hw : wfA R.2 N)
    (hc : ∃ m', F3 m = some (R.1, m') ∧ CK m m' ∧ (R.1 < 0 → CS m' a hn H sb s) ∧ (0 ≤ R.1 → CS m' R.2 (pushN hn) (pushH hn H a) sb s))
    (hm : ∀ m1, MS m1 a hn H sb s → ∃ m', F4 m1 = some (R.1, m') ∧ MK m1 m' ∧ (R.1 < 0 → MS m' a hn H sb s) ∧ (0 ≤ R.1 → MS m' R.2 (pushN hn) (pushH hn H a) sb s)) : ∃ v m1 m2, F3 m = some (v, m1) ∧ F4 m1 = some (v, m2) ∧ Inv m2 N := by
  obtain ⟨m1, e1, k1, n1, p1⟩ := hc
  obtain ⟨m2, e2, k2, n2, p2⟩ := hm m1 (h2.ck k1)
  refine ⟨R.1, m1, m2, e1, e2, ?_⟩
  by_cases z : R.1 < 0
  · exact ⟨a, hn, H, sb, s, (n1 z).mk_ k2, n2 z, h3, (h4.ck k1).mk_ k2⟩
  · exact ⟨R.2, pushN hn, pushH hn H a, sb, s, (p1 (by omega)).mk_ k2, p2 (by omega), h3.push hw, (h4.ck k1).mk_ k2⟩
theorem add_neg {x l k : Int} (w : wfA a N) (h : (addF a x l k).1 < 0) : (addF a x l k).2 = a := by
  have hw := w.1
  unfold addF at h ⊢
  by_cases h1 : ¬ (0 ≤ x ∧ x < 676) ∨ ¬ (1 ≤ l ∧ l ≤ 40) ∨ ¬ (0 ≤ k ∧ k ≤ 9999)
  · rw [cIf_t h1]
  · rw [cIf_f h1] at h ⊢
    by_cases h2 : hasN a x
    · rw [cIf_t h2]
    · rw [cIf_f h2] at h ⊢
      by_cases h3 : ¬ (a.1 : Int) < 4 * a.2.2 0
      · rw [cIf_t h3]
      · rw [cIf_f h3] at h ⊢
        by_cases h4 : ¬ a.2.2 1 + l ≤ 100
        · rw [cIf_t h4]
        · rw [cIf_f h4] at h
          have h : a.2.2 1 < 0 := h
          omega
theorem ali_neg {x g : Int} (w : wfA a N) (h : (aliF a x g).1 < 0) : (aliF a x g).2 = a := by
  unfold aliF at h ⊢
  by_cases h1 : ¬ memN a g
  · rw [cIf_t h1]
  · rw [cIf_f h1] at h ⊢
    have b := (w.2.2.1 _ (w.at_ (Classical.not_not.mp h1).1).1).2.2.2.1
    by_cases h2 : ¬ (0 ≤ x ∧ x < 676)
    · rw [cIf_t h2]
    · rw [cIf_f h2] at h ⊢
      by_cases h3 : memN a x
      · rw [cIf_t h3]
      · rw [cIf_f h3] at h ⊢
        by_cases h4 : hasN a x
        · rw [cIf_t h4] at h ⊢
          by_cases h5 : a.2.1 2 (blw a x) = a.2.1 2 (blw a g) ∧ a.2.1 1 (blw a x) = g
          · rw [cIf_t h5]
          · rw [cIf_f h5] at h
            have h : a.2.1 2 (blw a g) < 0 := h
            omega
        · rw [cIf_f h4] at h ⊢
          by_cases h5 : ¬ (a.1 : Int) < 4 * a.2.2 0
          · rw [cIf_t h5]
          · rw [cIf_f h5] at h
            have h : a.2.1 2 (blw a g) < 0 := h
            omega
theorem mod_told {F : Mem → Option (Int × Mem)} {R : Int × AS} (h : MS m a hn H sb s) (w : WS a hn H sb s N) (hF : ∀ m1, repF (m1.1 52) 0 a → didF (F m1) m1 R) (hneg : R.1 < 0 → R.2 = a) :
    ∃ m', (f_X4_remember m).bind (fun q1 => (F q1).bind (fun q3 => if 0 ≤ q3.1 then ((f_X4_acted q3.1 q3.2).bind (fun q6 => some (q6.1, q6.2))) else (some (q3.1, q3.2)))) = some (R.1, m') ∧ MK m m' ∧ (R.1 < 0 → MS m' a hn H sb s) ∧ (0 ≤ R.1 → MS m' R.2 (pushN hn) (pushH hn H a) sb s) := by
  obtain ⟨m1, e1, r1, r2, r3⟩ := rem_ok m
  rw [e1]
  simp only [Option.bind_some]
  obtain ⟨m2, e2, f2, b2⟩ := hF m1 (by rw [r1 52 (by decide)]; exact h.1)
  rw [e2]
  simp only [Option.bind_some]
  have hk1 : MK m m1 := ⟨fun c hc => r1 c (by omega), r2, r1 57 (by decide), by rw [r1 51 (by decide)]⟩
  by_cases z : R.1 < 0
  · rw [if_neg (by omega)]
    refine ⟨m2, rfl, hk1.tr (MK.fr2 f2), fun _ => ?_, fun q => by omega⟩
    have h1 : MS m1 a hn H sb s := h.fr (fun c _ g _ => r1 c g) (fun k _ => by rw [r1 51 (by decide)])
    obtain ⟨g1, g2, g3, g4, g5⟩ := h1
    rw [hneg z] at b2
    exact ⟨b2, by rw [f2.1 51 (by decide) (by decide)]; exact g2, by rw [f2.1 54 (by decide) (by decide)]; exact g3, by rw [f2.1 51 (by decide) (by decide)]; exact g4, by rw [f2.1 55 (by decide) (by decide)]; exact g5⟩
  · rw [if_pos (by omega)]
    obtain ⟨m3, e3, k3, s3⟩ := mod_fin h w r1 r2 r3 (fun c _ g1 g2 => f2.1 c g1 g2) (fun k _ => by rw [f2.1 51 (by decide) (by decide)]) f2.2 b2 R.1
    rw [e3]
    exact ⟨m3, rfl, k3, fun q => by omega, fun _ => s3⟩
theorem add_both {x l k : Int} (h : Inv m N) : ∃ v m1 m2, f_X3_add x l k m = some (v, m1) ∧ f_X4_add x l k m1 = some (v, m2) ∧ Inv m2 N := by
  obtain ⟨a, hn, H, sb, s, h1, h2, h3, h4⟩ := h
  have w := h3.1
  have wR := wf_addF (x := x) (l := l) (k := k) w
  exact both_act h1 h2 h3 h4 wR (cls_act (op := f_X2_addMember 7 x l k) h1 w.n24 wR.n24 (fun m1 hr => add_cls hr w)) (fun m1 hm => mod_told (F := f_X4_doAdd x l k) hm h3 (fun m2 hr => add_mod hr w) (add_neg w))
theorem ali_both {x g : Int} (h : Inv m N) : ∃ v m1 m2, f_X3_alias x g m = some (v, m1) ∧ f_X4_alias x g m1 = some (v, m2) ∧ Inv m2 N := by
  obtain ⟨a, hn, H, sb, s, h1, h2, h3, h4⟩ := h
  have w := h3.1
  have wR := wf_aliF (x := x) (g := g) w
  exact both_act h1 h2 h3 h4 wR (cls_act (op := f_X2_giveAlias 7 x g) h1 w.n24 wR.n24 (fun m1 hr => ali_cls hr w)) (fun m1 hm => mod_told (F := f_X4_doAlias x g) hm h3 (fun m2 hr => ali_mod hr w) (ali_neg w))
end IV
