section AE
variable {m : Mem} {a : AS} {hn : Nat} {H : Nat → AS} {sb : Int} {s : AS} {N : Int}
theorem CS.fc {m' : Mem} (h : CS m a hn H sb s) (k : FC m m') : CS m' a hn H sb s := by
  obtain ⟨h1, h2, h3, h4⟩ := h
  exact ⟨h1.keep (fun c g1 g2 => k.1 c (by omega)), h2.keep (fun c g1 g2 => k.1 c (by omega)) k.2.1, by rw [k.1 0 (by omega)]; exact h3, fun e => (h4 e).keep (fun c g1 g2 => k.1 c (by omega))⟩
/-- the class's calls leave the reference and what the pad holds -/
def CK2 (m m' : Mem) : Prop := (∀ c, 51 ≤ c ∨ c = 46 → m'.1 c = m.1 c) ∧ m'.1 45 1 = m.1 45 1
theorem MS.ck2 {m' : Mem} (h : MS m a hn H sb s) (k : CK2 m m') : MS m' a hn H sb s := by
  obtain ⟨h1, h2, h3, h4, h5⟩ := h
  exact ⟨by rw [k.1 52 (by omega)]; exact h1, by rw [k.1 51 (by omega)]; exact h2, by rw [k.1 54 (by omega)]; exact h3, by rw [k.1 51 (by omega)]; exact h4, by rw [k.1 55 (by omega)]; exact h5⟩
theorem PD.ck2 {m' : Mem} (h : PD m) (k : CK2 m m') : PD m' := by
  obtain ⟨pl, h1, h2, h3, h4⟩ := h
  exact ⟨pl, h1, by rw [k.2]; exact h2, by rw [k.1 51 (by omega)]; exact h3, by rw [k.1 46 (by omega), k.1 57 (by omega)]; exact h4⟩
theorem MK.fm {m' : Mem} {j : Nat} (F : FM m m' j) : MK m m' := ⟨fun c hc => F.2.1 c (by omega), F.2.2.1, F.2.1 57 (by decide), F.2.2.2 8 (by decide)⟩
theorem MS.fm {m' : Mem} {j : Nat} (h : MS m a hn H sb s) (F : FM m m' j) : MS m' a hn H sb s := by
  obtain ⟨h1, h2, h3, h4, h5⟩ := h
  exact ⟨by rw [F.2.1 52 (by decide)]; exact h1, by rw [F.2.2.2 3 (by decide)]; exact h2, by rw [F.2.1 54 (by decide)]; exact h3, by rw [F.2.2.2 5 (by decide)]; exact h4, by rw [F.2.1 55 (by decide)]; exact h5⟩
theorem cls_act2 {op : Mem → Option (Int × Mem)} {R : Int × AS} (h : CS m a hn H sb s) (h24 : a.1 ≤ 24) (hR : R.2.1 ≤ 24) (hop : ∀ m1, frm 7 12 m m1 → repS m1 7 a → didS (op m1) m1 7 R) :
    ∃ m', (f_X2_copyFrom 7 1 m).bind (fun q1 => (op q1).bind (fun q3 => (f_X3_settle q3.1 q3.2).bind (fun q5 => some (q5.1, q5.2)))) = some (R.1, m') ∧ CK m m' ∧ (R.1 < 0 → CS m' a hn H sb s) ∧ (0 ≤ R.1 → CS m' R.2 (pushN hn) (pushH hn H a) sb s) := by
  obtain ⟨h1, h2, h3, h4⟩ := id h
  obtain ⟨m1, e1, f1, r1⟩ := copy_ok 7 1 m (by omega)
  obtain ⟨m2, e2, f2, r2⟩ := hop m1 f1 (r1 a h24 h1)
  have f12 := f1.tr f2
  have hc : CS m2 a hn H sb s := ⟨h1.fr f12 (by omega), h2.keep (fun c g1 g2 => f12.1 c (by omega)) f12.2, by rw [f12.1 0 (by omega)]; exact h3, fun e => (h4 e).fr f12 (by omega)⟩
  obtain ⟨m3, e3, k3, n3, p3⟩ := settle_ok hc h24 r2 hR R.1
  rw [bd_ e1, bd_ e2, bd_ e3]
  exact ⟨m3, rfl, fun c hcc => by rw [k3 c hcc, f12.1 c (by omega)], n3, p3⟩
theorem all_both (h : Inv m N) : ∃ v m1 m2, f_X3_addAll m = some (v, m1) ∧ f_X4_addAll m1 = some (v, m2) ∧ Inv m2 N := by
  obtain ⟨a, hn, H, sb, s, h1, h2, h3, h4⟩ := h
  have w := h3.1
  obtain ⟨pl, p1, p2, p3, p4⟩ := id h4
  have hp : PR pl (m.1 57) := ⟨p1, fun i hi => (p4 i hi).2⟩
  have hB : BP m pl (m.1 57) := ⟨p2, fun i hi => (p4 i hi).1⟩
  have hM : ∀ m', CK2 m m' → B4 m' pl (m.1 57) := fun m' k => ⟨by rw [k.1 51 (by omega)]; exact p3, fun i hi => by rw [k.1 57 (by omega)]⟩
  obtain ⟨mc, hmc⟩ : ∃ mc, mc = mwr (mwr m 45 6 0) 45 7 0 := ⟨_, rfl⟩
  have hF0 : FC m mc := by
    rw [hmc]
    exact ⟨fun c hc => by rw [mwr_ne (by omega), mwr_ne (by omega)], rfl, by rw [mwr_self, if_neg (by decide), mwr_self, if_neg (by decide)]⟩
  have h7 : mc.1 45 7 = ((0 : Nat) : Int) := by rw [hmc, mwr_self, if_pos rfl]; rfl
  have h6 : mc.1 45 6 = ((0 : Nat) : Int) := by rw [hmc, mwr_self, if_neg (by decide), mwr_self, if_pos rfl]; rfl
  have eRA : ∀ r, f_X1_readAdditions_L12 mmFU ((0 : Nat) : Int) mc = r → f_X1_readAdditions m = r := fun r e => by
    unfold f_X1_readAdditions
    rw [← hmc]
    exact e
  have fault9 : ∀ M : Mem, B4 M pl (m.1 57) → B4 (mwr M 51 9 0) pl (m.1 57) ∧ (mwr M 51 9 0).1 51 9 = ((0 : Nat) : Int) ∧ FM M (mwr M 51 9 0) 0 := fun M hM => by
    have F : FM M (mwr M 51 9 0) 0 := ⟨by rw [mwr_self, if_pos rfl]; rfl, fun c hc => mwr_ne hc, rfl, fun k hk => by rw [mwr_self, if_neg (by omega)]⟩
    exact ⟨hM.f F, F.1, F⟩
  have FMtr : ∀ {M M1 M2 : Mem} {i j : Nat}, FM M M1 i → FM M1 M2 j → FM M M2 j := fun F G => ⟨G.1, fun c hc => (G.2.1 c hc).trans (F.2.1 c hc), G.2.2.1.trans F.2.2.1, fun k hk => (G.2.2.2 k hk).trans (F.2.2.2 k hk)⟩
  rcases read_L hp 13 mmFU mmFU 0 0 mc (by omega) (by unfold mmFU; omega) (by unfold mmFU; omega) (by omega) (by omega) (hB.f hF0) h7 h6 with ⟨m', n, r1, r2, r3, r4, -, r6, r7⟩ | ⟨m', v, r1, r2, r3, r4⟩
  · have hF := hF0.tr r4
    have hck : CK2 m m' := ⟨fun c hc => hF.1 c (by omega), hF.2.2⟩
    have hC := h1.fc hF
    have wR := wf_mkF m'.1 n 0 a w
    rw [Nat.zero_add] at r2 r3
    generalize hR : mkF m'.1 n 0 a = R at wR
    obtain ⟨m1, e1, k1, n1, q1⟩ := cls_act2 (op := f_X1_makeAdditions 7) (R := R) hC w.n24 wR.n24 (fun m2 f2 hr => by
      obtain ⟨m3, e3, f3, b3⟩ := mk_ok (N := N) m'.1 n 0 mmFU m2 a (by unfold mmFU; omega) (by rw [f2.1 45 (by omega), r2, Nat.zero_add]) (by omega) (fun c hc => f2.1 c (by omega)) w hr
      rw [hR] at e3 b3
      exact ⟨m3, e3, f3, b3⟩)
    have hck1 : CK2 m m1 := ⟨fun c hc => (k1 c (by omega)).trans (hck.1 c hc), (by rw [k1 45 (by omega)]; exact hck.2)⟩
    obtain ⟨b1, b2, b3⟩ := fault9 m1 (hM m1 hck1)
    obtain ⟨M', j, e', F'⟩ := r6 (mwr m1 51 9 0) b1 b2
    have F := FMtr b3 F'
    have hMS := (h2.ck2 hck1).fm F
    obtain ⟨mr, er, s1, s2, s3⟩ := rem_ok M'
    have hBr : B4 (mwr mr 51 9 0) pl (m.1 57) := by
      refine (fault9 mr ?_).1
      have hb := (hM m1 hck1).f F
      exact ⟨by rw [s1 51 (by decide)]; exact hb.1, fun i hi => by rw [s1 57 (by decide)]; exact hb.2 i hi⟩
    have hrr : repF ((mwr mr 51 9 0).1 52) 0 a := by rw [mwr_ne (by decide), s1 52 (by decide)]; exact hMS.1
    obtain ⟨P1, P3⟩ := r7 (mwr mr 51 9 0) a N mmFU (by unfold mmFU; omega) (by omega) hBr (by rw [mwr_self, if_pos rfl]; rfl) w hrr
    rw [hR] at P1 P3
    have eC : f_X3_addAll m = some (R.1, m1) := by
      unfold f_X3_addAll
      rw [bd_ (eRA _ r1)]
      dsimp only
      rw [if_pos rfl]
      exact e1
    have eM : f_X4_addAll m1 = f_X4_addAll_L29 mmFU ((0 : Nat) : Int) 1 (mwr mr 51 9 0) := by
      unfold f_X4_addAll f_X4_fault
      rw [bd_ e']
      dsimp only
      rw [if_pos rfl, bd_ er]
      rfl
    by_cases z : R.1 < 0
    · obtain ⟨mx, ex, G, told⟩ := P3 z
      obtain ⟨my, ey, g1, g2, g3⟩ := r59 149 mmFU 0 mx rfl (by unfold mmFU; omega)
      have c1 : ∀ c, c < 51 ∨ c = 53 ∨ c = 54 ∨ c = 55 ∨ c = 57 → my.1 c = mr.1 c := fun c hc => by rw [g1 c (by omega), G.1 c (by omega) (by omega) (by omega), mwr_ne (by omega)]
      have c51 : ∀ k, k < 9 → my.1 51 k = M'.1 51 k := fun k hk => by rw [g1 51 (by decide), G.2.2 k hk, mwr_self, if_neg (by omega), s1 51 (by decide)]
      have hMK : MK M' my := ⟨fun c hc => by rw [c1 c (by omega), s1 c (by omega)], by rw [g2, G.2.1, mwr_2, s2], by rw [c1 57 (by omega), s1 57 (by decide)], c51 8 (by decide)⟩
      refine ⟨R.1, m1, my, eC, ?_, a, hn, H, sb, s, (((n1 z).mk_ (MK.fm F)).mk_ hMK), ?_, h3, ((h4.ck2 hck1).mk_ (MK.fm F)).mk_ hMK⟩
      · rw [eM, ex, ← told]
        exact ey
      · obtain ⟨y1, y2, y3, y4, y5⟩ := hMS
        refine ⟨y1.keep w.n24 (fun i _ hi => ?_), by rw [c51 3 (by decide)]; exact y2, by rw [c1 54 (by omega), s1 54 (by decide)]; exact y3, by rw [c51 5 (by decide)]; exact y4, by rw [c1 55 (by omega), s1 55 (by decide)]; exact y5⟩
        rw [g3, if_pos (by omega), G.1 53 (by decide) (by decide) (by decide), mwr_ne (by decide), s3 i (by omega)]
    · obtain ⟨mx, ex, G, hb⟩ := P1 (by omega)
      obtain ⟨m3, e3, k3, t3⟩ := mod_fin hMS h3 s1 s2 s3 (fun c y1 y2 y3 => by rw [G.1 c y1 y2 y3, mwr_ne y1]) (fun k hk => by rw [G.2.2 k hk, mwr_self, if_neg (by omega)]) (by rw [G.2.1, mwr_2]) hb R.1
      refine ⟨R.1, m1, m3, eC, ?_, R.2, pushN hn, pushH hn H a, sb, s, ((q1 (by omega)).mk_ (MK.fm F)).mk_ k3, t3, h3.push wR, ((h4.ck2 hck1).mk_ (MK.fm F)).mk_ k3⟩
      rw [eM, ex, bd_ e3]
  · have hF := hF0.tr r3
    have hck : CK2 m m' := ⟨fun c hc => hF.1 c (by omega), hF.2.2⟩
    obtain ⟨b1, b2, b3⟩ := fault9 m' (hM m' hck)
    obtain ⟨M', j, e', F'⟩ := r4 (mwr m' 51 9 0) b1 b2
    have F := FMtr b3 F'
    refine ⟨-100 - (v : Int), m', M', ?_, ?_, a, hn, H, sb, s, (h1.fc hF).mk_ (MK.fm F), (h2.ck2 hck).fm F, h3, (h4.ck2 hck).mk_ (MK.fm F)⟩
    · unfold f_X3_addAll
      rw [bd_ (eRA _ r2)]
      dsimp only
      rw [if_neg (by omega), mmK_p (by constructor <;> omega)]
    · unfold f_X4_addAll f_X4_fault
      rw [bd_ e']
      dsimp only
      rw [if_neg (by omega), mmK_p (by constructor <;> omega)]
end AE
