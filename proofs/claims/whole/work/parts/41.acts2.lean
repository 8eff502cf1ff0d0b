section AB
variable {m : Mem} {a : AS} {hn : Nat} {H : Nat → AS} {sb : Int} {s : AS} {N : Int}
def didM (f : Option (Int × Mem)) (m : Mem) (a : AS) (hn : Nat) (H : Nat → AS) (sb : Int) (s : AS) (R : Int × AS) : Prop := ∃ m', f = some (R.1, m') ∧ MK m m' ∧ (R.1 < 0 → MS m' a hn H sb s) ∧ (0 ≤ R.1 → MS m' R.2 (pushN hn) (pushH hn H a) sb s)
theorem did_no {r : Int} {b : AS} (h : MS m a hn H sb s) (hr : r < 0) : didM (some (r, m)) m a hn H sb s (r, b) :=
  ⟨m, rfl, MK.rf, fun _ => h, fun q => absurd hr (Int.not_lt.mpr q)⟩
theorem did_yes {K : Mem → Option (Int × Mem)} {R : Int × AS} (h : MS m a hn H sb s) (w : WS a hn H sb s N) (hr : 0 ≤ R.1) (hK : ∀ m1, repF (m1.1 52) 0 a → ∃ m2, K m1 = (f_X4_acted R.1 m2).bind (fun q => some (q.1, q.2)) ∧ fr2 m1 m2 ∧ repF (m2.1 52) 0 R.2) : didM ((f_X4_remember m).bind K) m a hn H sb s R := by
  obtain ⟨m1, e1, r1, r2, r3⟩ := rem_ok m
  rw [e1]
  simp only [Option.bind_some]
  have h1 : MS m1 a hn H sb s := h.fr (fun c _ g _ => r1 c g) (fun k _ => by rw [r1 51 (by decide)])
  obtain ⟨m2, e2, f2, b2⟩ := hK m1 h1.1
  rw [e2]
  have hk1 : MK m m1 := ⟨fun c hc => r1 c (by omega), r2, r1 57 (by decide), by rw [r1 51 (by decide)]⟩
  obtain ⟨m3, e3, k3, s3⟩ := mod_fin h w r1 r2 r3 (fun c _ g1 g2 => f2.1 c g1 g2) (fun k _ => by rw [f2.1 51 (by decide) (by decide)]) f2.2 b2 R.1
  rw [e3]
  exact ⟨m3, rfl, k3, fun q => absurd q (Int.not_lt.mpr hr), fun _ => s3⟩
theorem rep_mod {x l k : Int} (h : MS m a hn H sb s) (w : WS a hn H sb s N) : didM (f_X4_replace x l k m) m a hn H sb s (repF' a x l k) := by
  have w1 := w.1
  have hw := w1.1
  have hr := h.1
  unfold repF' f_X4_replace
  by_cases hm : memN a x
  · rw [rank4_at hr w1 hm.1, cIf_f (Classical.not_not.mpr hm)]
    simp only [Option.bind_some]
    rw [mem4_t hr w1 hm]
    simp only [Option.bind_some]
    rw [if_neg (by decide)]
    by_cases hl : 1 ≤ l ∧ l ≤ 40
    · rw [in_t hl]
      simp only [Option.bind_some]
      rw [if_neg (by decide)]
      by_cases hk : 0 ≤ k ∧ k ≤ 9999
      · rw [in_t hk, cIf_f (by omega)]
        simp only [Option.bind_some]
        rw [if_neg (by decide)]
        by_cases hq : a.2.2 1 + l ≤ 100
        · rw [room4_t hr w1 hl hq, cIf_f (by omega)]
          simp only [Option.bind_some]
          rw [if_neg (by decide)]
          refine did_yes h w hw.2.2.2.1 (fun m1 h1 => ?_)
          have hlt := (w1.at_ hm.1).1
          obtain ⟨m2, e2, f2, f3, b2⟩ := lays_ok (l := l) (v := k) h1 w1.n24 (blw a x) rfl hlt ⟨hw.2.2.2.1, hw.2.2.2.2.1⟩ hl
          refine ⟨m2, ?_, ⟨fun c hc _ => f2 c hc, f3⟩, ?_⟩
          · rw [e2]
            simp only [Option.bind_some]
            have ho := of2 b2 w1.n24 (blw a x) hlt
            rw [ho]
            simp only [Option.bind_some]
            simp [scA, setA, entA]
          · refine b2.cg rfl (fun _ => rfl) (fun c j hc hj => ?_)
            rw [(w1.at_ hm.1).2, hm.2]
            rfl
        · rw [room4_f hr w1 hl hq, cIf_t hq]
          exact did_no h (by decide)
      · rw [in_f hk, cIf_t (Or.inr hk)]
        exact did_no h (by decide)
    · rw [in_f hl, cIf_t (Or.inl hl)]
      exact did_no h (by decide)
  · rw [cIf_t hm]
    by_cases hh : hasN a x
    · rw [rank4_at hr w1 hh]
      simp only [Option.bind_some]
      rw [mem4_f hr w1 hh hm]
      exact did_no h (by decide)
    · rw [rank4_no hr w1 hh]
      simp only [Option.bind_some]
      rw [mem4_n]
      exact did_no h (by decide)
theorem rem_mod {x : Int} (h : MS m a hn H sb s) (w : WS a hn H sb s N) : didM (f_X4_remove x m) m a hn H sb s (remF a x) := by
  have w1 := w.1
  have hr := h.1
  unfold remF f_X4_remove
  by_cases hh : hasN a x
  · have hlt := (w1.at_ hh).1
    rw [rank4_at hr w1 hh, cIf_f (Classical.not_not.mpr hh)]
    simp only [Option.bind_some]
    rw [if_neg (by omega)]
    refine did_yes h w (by show 0 ≤ ((a.1 - 1 : Nat) : Int); omega) (fun m1 h1 => ?_)
    obtain ⟨m2, e2, f2, b2, _⟩ := takes4_ok h1 w1 (blw a x) rfl hlt
    refine ⟨m2, ?_, f2, b2⟩
    rw [e2]
    simp only [Option.bind_some]
    rw [show m2.1 52 0 = ((a.1 - 1 : Nat) : Int) from b2.1]
  · rw [rank4_no hr w1 hh, cIf_t hh]
    exact did_no h (by decide)
theorem ofr5 {m : Mem} (r : Nat) (hr : r < 24) : f_X4_of (r : Int) 5 m = some (m.1 52 (5 + 6 * r + 5), m) := of_raw r 5 rfl rfl hr (by decide)
theorem sets5 {m : Mem} {v : Int} (r : Nat) (hr : r < 24) : f_X4_sets (r : Int) 5 v m = some (mwr m 52 (5 + 6 * r + 5) v) := sets_ok r 5 rfl rfl hr (by decide)
theorem rn77_0 {x y r : Int} {n : Nat} (hn : n ≤ 24) : ∀ (d fu i : Nat) (m : Mem), m.1 52 0 = n → i + d = n → d < fu → ∃ m2, f_X4_rename_L77 fu x y 0 r i m = (f_X4_acted r m2).bind (fun q => some (q.1, q.2)) ∧ (∀ c, c ≠ 52 → m2.1 c = m.1 c) ∧ m2.2 = m.2 ∧ ∀ q, m2.1 52 q = m.1 52 q := by
  intro d
  induction d with
  | zero =>
    intro fu i m h0 hi hf
    obtain ⟨k, rfl⟩ : ∃ k, fu = k + 1 := ⟨fu - 1, by omega⟩
    rw [f_X4_rename_L77, if_pos (by omega)]
    exact ⟨m, rfl, fun _ _ => rfl, rfl, fun q => rfl⟩
  | succ d ih =>
    intro fu i m h0 hi hf
    obtain ⟨k, rfl⟩ : ∃ k, fu = k + 1 := ⟨fu - 1, by omega⟩
    rw [f_X4_rename_L77, if_neg (by omega), if_pos rfl, ofr5 i (by omega)]
    simp only [Option.bind_some]
    rw [sets5 i (by omega)]
    simp only [Option.bind_some]
    rw [mmK_p (by constructor <;> omega), ci_1]
    obtain ⟨m1, e1, f1, f2, c1⟩ := ih k (i + 1) (mwr m 52 (5 + 6 * i + 5) (m.1 52 (5 + 6 * i + 5))) (by rw [mwr_self, if_neg (by omega)]; exact h0) (by omega) (by omega)
    refine ⟨m1, e1, fun c hc => (f1 c hc).trans (mwr_ne hc), f2, fun q => ?_⟩
    rw [c1 q, mwr_self]
    by_cases z : q = 5 + 6 * i + 5
    · rw [if_pos z, z]
    · rw [if_neg z]
theorem rn77_1 {x y r : Int} {n : Nat} (hn : n ≤ 24) : ∀ (d fu i : Nat) (m : Mem), m.1 52 0 = n → i + d = n → d < fu → ∃ m2, f_X4_rename_L77 fu x y 1 r i m = (f_X4_acted r m2).bind (fun q => some (q.1, q.2)) ∧ (∀ c, c ≠ 52 → m2.1 c = m.1 c) ∧ m2.2 = m.2 ∧ (∀ q, q < 5 ∨ (q - 5) % 6 ≠ 5 → m2.1 52 q = m.1 52 q) ∧ ∀ j, j < n → m2.1 52 (5 + 6 * j + 5) = if i ≤ j ∧ m.1 52 (5 + 6 * j + 5) = x then y else m.1 52 (5 + 6 * j + 5) := by
  intro d
  induction d with
  | zero =>
    intro fu i m h0 hi hf
    obtain ⟨k, rfl⟩ : ∃ k, fu = k + 1 := ⟨fu - 1, by omega⟩
    rw [f_X4_rename_L77, if_pos (by omega)]
    exact ⟨m, rfl, fun _ _ => rfl, rfl, fun q _ => rfl, fun j hj => by rw [if_neg (by omega)]⟩
  | succ d ih =>
    intro fu i m h0 hi hf
    obtain ⟨k, rfl⟩ : ∃ k, fu = k + 1 := ⟨fu - 1, by omega⟩
    rw [f_X4_rename_L77, if_neg (by omega), if_neg (by decide), ofr5 i (by omega)]
    simp only [Option.bind_some]
    have step : ∀ v, (m.1 52 (5 + 6 * i + 5) = x → v = y) → (¬ m.1 52 (5 + 6 * i + 5) = x → v = m.1 52 (5 + 6 * i + 5)) → ∃ m2, f_X4_rename_L77 k x y 1 r ((i + 1 : Nat) : Int) (mwr m 52 (5 + 6 * i + 5) v) = (f_X4_acted r m2).bind (fun q => some (q.1, q.2)) ∧ (∀ c, c ≠ 52 → m2.1 c = m.1 c) ∧ m2.2 = m.2 ∧ (∀ q, q < 5 ∨ (q - 5) % 6 ≠ 5 → m2.1 52 q = m.1 52 q) ∧ ∀ j, j < n → m2.1 52 (5 + 6 * j + 5) = if i ≤ j ∧ m.1 52 (5 + 6 * j + 5) = x then y else m.1 52 (5 + 6 * j + 5) := by
      intro v v1 v2
      obtain ⟨m1, e1, f1, f2, c1, c2⟩ := ih k (i + 1) (mwr m 52 (5 + 6 * i + 5) v) (by rw [mwr_self, if_neg (by omega)]; exact h0) (by omega) (by omega)
      refine ⟨m1, e1, fun c hc => (f1 c hc).trans (mwr_ne hc), f2, fun q hq => ?_, fun j hj => ?_⟩
      · rw [c1 q hq, mwr_self, if_neg (by omega)]
      · rw [c2 j hj, mwr_self]
        by_cases z : j = i
        · subst z
          rw [if_pos rfl, if_neg (by omega)]
          by_cases zx : m.1 52 (5 + 6 * j + 5) = x
          · rw [if_pos ⟨by omega, zx⟩]; exact v1 zx
          · rw [if_neg (fun q => zx q.2)]; exact v2 zx
        · rw [if_neg (show ¬ 5 + 6 * j + 5 = 5 + 6 * i + 5 by omega)]
          by_cases zx : m.1 52 (5 + 6 * j + 5) = x
          · by_cases zi : i ≤ j
            · rw [if_pos ⟨by omega, zx⟩, if_pos ⟨zi, zx⟩]
            · rw [if_neg (by omega), if_neg (by omega)]
          · rw [if_neg (fun q => zx q.2), if_neg (fun q => zx q.2)]
    by_cases zx : m.1 52 (5 + 6 * i + 5) = x
    · rw [if_pos zx, sets5 i (by omega)]
      simp only [Option.bind_some]
      rw [mmK_p (by constructor <;> omega), ci_1]
      exact step y (fun _ => rfl) (fun q => absurd zx q)
    · rw [if_neg zx, ofr5 i (by omega)]
      simp only [Option.bind_some]
      rw [sets5 i (by omega)]
      simp only [Option.bind_some]
      rw [mmK_p (by constructor <;> omega), ci_1]
      exact step _ (fun q => absurd q zx) (fun _ => rfl)
theorem blw_cg {a b : AS} {y : Int} (h1 : a.1 = b.1) (h2 : ∀ j, a.2.1 0 j = b.2.1 0 j) : blw a y = blw b y := by
  unfold blw
  rw [h1, show a.2.1 0 = b.2.1 0 from funext h2]
theorem tel_ins (a : AS) (r r' : Nat) (x y s l v : Int) (hg : ¬ a.2.1 1 r = x) (k j : Nat) : (telA (insA (delA a r) r' (entA y (a.2.1 1 r) s l v)) x y).2.1 k j = (insA (delA (telA a x y) r) r' (entA y ((telA a x y).2.1 1 r) s l v)).2.1 k j := by
  simp only [telA, insA, delA, entA]
  by_cases zk : k = 1
  · subst zk
    by_cases z1 : j < r'
    · by_cases z2 : j < r <;> simp [z1, z2]
    · by_cases z3 : j = r'
      · simp [z3, hg]
      · by_cases z2 : j - 1 < r <;> simp [z1, z2, z3]
  · simp [zk]
theorem bd_ {α β : Type} {A : Option α} {v : α} {f : α → Option β} (h : A = some v) : A.bind f = f v := by rw [h]; rfl
theorem ren_K {m1 : Mem} {x y : Int} (h1 : repF (m1.1 52) 0 a) (w1 : wfA a N) (hh : hasN a x) (hy : 0 ≤ y ∧ y < 676) : ∃ m2, ((f_X4_isMember ((blw a x : Nat) : Int) m1).bind (fun q13 => (f_X4_takesOut ((blw a x : Nat) : Int) q13.2).bind (fun q15 => (f_X4_putsIn (mwr q15 56 0 y)).bind (fun q18 => f_X4_rename_L77 mmFU x y q13.1 q18.1 0 q18.2)))) = (f_X4_acted ((blw (delA a (blw a x)) y : Nat) : Int) m2).bind (fun q => some (q.1, q.2)) ∧ fr2 m1 m2 ∧ repF (m2.1 52) 0 (insA (delA (renM a x y) (blw a x)) (blw (delA a (blw a x)) y) (entA y ((renM a x y).2.1 1 (blw a x)) (a.2.1 2 (blw a x)) (a.2.1 3 (blw a x)) (a.2.1 4 (blw a x)))) := by
  have h24 := w1.n24
  have hlt := (w1.at_ hh).1
  have hx0 : 0 ≤ x := by
    have := (w1.2.2.1 _ hlt).1
    rw [(w1.at_ hh).2] at this
    exact this
  obtain ⟨m2, e2, f2, b2, g2⟩ := takes4_ok h1 w1 (blw a x) rfl hlt
  have wd := wf_del w1 _ hlt
  have b3 : repF ((mwr m2 56 0 y).1 52) 0 (delA a (blw a x)) := by rw [mwr_ne (by decide)]; exact b2
  obtain ⟨m3, e3, f3, -, b4⟩ := puts_ok (x := y) (g := a.2.1 1 (blw a x)) (s := a.2.1 2 (blw a x)) (l := a.2.1 3 (blw a x)) (v := a.2.1 4 (blw a x)) b3 wd (by show ((a.1 - 1 : Nat) : Int) < 24; omega) (by rw [mwr_self, if_pos rfl]) (by rw [mwr_self, if_neg (by decide), g2 1 (by decide), flt1]) (by rw [mwr_self, if_neg (by decide), g2 2 (by decide), flt2]) (by rw [mwr_self, if_neg (by decide), g2 3 (by decide), flt3]) (by rw [mwr_self, if_neg (by decide), g2 4 (by decide), flt4]) (by rw [mwr_self, if_neg (by decide), g2 5 (by decide), flt5])
  have f23 : fr2 m1 m3 := (f2.tr (fr2.wr (Or.inr rfl))).tr f3
  have hn3 : (insA (delA a (blw a x)) (blw (delA a (blw a x)) y) (entA y (a.2.1 1 (blw a x)) (a.2.1 2 (blw a x)) (a.2.1 3 (blw a x)) (a.2.1 4 (blw a x)))).1 ≤ 24 := by
    show a.1 - 1 + 1 ≤ 24
    omega
  generalize hb : insA (delA a (blw a x)) (blw (delA a (blw a x)) y) (entA y (a.2.1 1 (blw a x)) (a.2.1 2 (blw a x)) (a.2.1 3 (blw a x)) (a.2.1 4 (blw a x))) = b at b4 hn3
  have b40 : m3.1 52 0 = b.1 := b4.1
  by_cases hm : a.2.1 1 (blw a x) = -5
  · rw [bd_ (mem4_t h1 w1 ⟨hh, hm⟩), bd_ e2, bd_ e3]
    obtain ⟨m4, e4, f4, f5, c1, c2⟩ := rn77_1 (x := x) (y := y) (r := ((blw (delA a (blw a x)) y : Nat) : Int)) hn3 b.1 mmFU 0 m3 b40 (by omega) (by unfold mmFU; omega)
    rw [show ((0 : Nat) : Int) = 0 from rfl] at e4
    refine ⟨m4, e4, f23.tr ⟨fun c hc _ => f4 c hc, f5⟩, ?_⟩
    have b5 : repF (m4.1 52) 0 (telA b x y) := by
      obtain ⟨q1, q2, q3, q4, q5, -⟩ := id b4
      refine repF.mk6 ?_ ?_ ?_ ?_ ?_ (fun k j hk hj => ?_)
      · rw [c1 _ (by omega)]; exact q1
      · rw [c1 _ (by omega)]; exact q2
      · rw [c1 _ (by omega)]; exact q3
      · rw [c1 _ (by omega)]; exact q4
      · rw [c1 _ (by omega)]; exact q5
      · have hc := b4.col hk hj
        have hc5 := b4.col (k := 5) (by decide) hj
        rw [Nat.zero_add] at hc hc5 ⊢
        rw [flt5] at hc5
        by_cases zk : k = 5
        · subst zk
          rw [c2 j hj, hc5, flt5]
          simp [telA]
        · rw [c1 _ (by omega), hc]
          unfold flt flE telA
          by_cases zk1 : k = 1
          · subst zk1
            by_cases zg : b.2.1 1 j = x
            · simp [zg, show ¬ x = -5 by omega, show ¬ y = -5 by omega]
            · simp [zg]
          · simp [zk1, zk]
    refine b5.cg ?_ (fun k => ?_) (fun k j hk hj => ?_)
    · rw [← hb]
      show a.1 - 1 + 1 = (renM a x y).1 - 1 + 1
      rw [(renM_n a x y).1]
    · rw [← hb]
      show a.2.2 k = (renM a x y).2.2 k
      rw [(renM_n a x y).2]
    · rw [← hb]
      have hrm : renM a x y = telA a x y := by unfold renM; rw [cIf_t hm]
      rw [hrm]
      exact tel_ins a _ _ x y _ _ _ (by omega) k j
  · rw [bd_ (mem4_f h1 w1 hh (fun q => hm q.2)), bd_ e2, bd_ e3]
    obtain ⟨m4, e4, f4, f5, c1⟩ := rn77_0 (x := x) (y := y) (r := ((blw (delA a (blw a x)) y : Nat) : Int)) hn3 b.1 mmFU 0 m3 b40 (by omega) (by unfold mmFU; omega)
    rw [show ((0 : Nat) : Int) = 0 from rfl] at e4
    refine ⟨m4, e4, f23.tr ⟨fun c hc _ => f4 c hc, f5⟩, ?_⟩
    have : renM a x y = a := by unfold renM; rw [cIf_f hm]
    rw [this]
    show repF (m4.1 52) 0 (insA (delA a (blw a x)) (blw (delA a (blw a x)) y) (entA y (a.2.1 1 (blw a x)) (a.2.1 2 (blw a x)) (a.2.1 3 (blw a x)) (a.2.1 4 (blw a x))))
    rw [hb]
    exact b4.keep hn3 (fun i _ _ => c1 i)
theorem ren_mod {x y : Int} (h : MS m a hn H sb s) (w : WS a hn H sb s N) : didM (f_X4_rename x y m) m a hn H sb s (renF a x y) := by
  have w1 := w.1
  have hw := w1.1
  have hr := h.1
  have h24 := w1.n24
  unfold renF f_X4_rename
  by_cases hh : hasN a x
  · have hlt := (w1.at_ hh).1
    have hx0 : 0 ≤ x := by
      have := (w1.2.2.1 _ hlt).1
      rw [(w1.at_ hh).2] at this
      exact this
    rw [rank4_at hr w1 hh, cIf_f (Classical.not_not.mpr hh)]
    simp only [Option.bind_some]
    rw [if_neg (by omega)]
    by_cases hy : 0 ≤ y ∧ y < 676
    · rw [isName4_t hy, cIf_f (Classical.not_not.mpr hy)]
      simp only [Option.bind_some]
      rw [if_neg (by decide)]
      by_cases hyx : y = x
      · rw [if_pos hyx, cIf_t hyx]
        exact did_no h (by decide)
      · rw [if_neg hyx, cIf_f hyx]
        by_cases hhy : hasN a y
        · rw [rank4_at hr w1 hhy, cIf_t hhy]
          simp only [Option.bind_some]
          rw [if_neg (by omega)]
          exact did_no h (by decide)
        · rw [rank4_no hr w1 hhy, cIf_f hhy]
          simp only [Option.bind_some]
          rw [if_pos trivial]
          have hbl : blw (delA (renM a x y) (blw a x)) y = blw (delA a (blw a x)) y := by
            refine blw_cg (show (renM a x y).1 - 1 = a.1 - 1 by rw [(renM_n a x y).1]) (fun j => ?_)
            show (if j < blw a x then (renM a x y).2.1 0 j else (renM a x y).2.1 0 (j + 1)) = (if j < blw a x then a.2.1 0 j else a.2.1 0 (j + 1))
            rw [renM_c a x y 0 j (by decide), renM_c a x y 0 (j + 1) (by decide)]
          rw [hbl]
          refine did_yes h w (by show 0 ≤ ((blw (delA a (blw a x)) y : Nat) : Int); omega) (fun m1 h1 => ?_)
          exact ren_K h1 w1 hh hy
    · rw [isName4_f hy, cIf_t hy]
      exact did_no h (by decide)
  · rw [rank4_no hr w1 hh, cIf_t hh]
    exact did_no h (by decide)
theorem rep_both {x l k : Int} (h : Inv m N) : ∃ v m1 m2, f_X3_replace x l k m = some (v, m1) ∧ f_X4_replace x l k m1 = some (v, m2) ∧ Inv m2 N := by
  obtain ⟨a, hn, H, sb, s, h1, h2, h3, h4⟩ := h
  have w := h3.1
  have wR := wf_repF' (x := x) (l := l) (k := k) w
  exact both_act h1 h2 h3 h4 wR (cls_act (op := f_X2_replaceText 7 x l k) h1 w.n24 wR.n24 (fun m1 hr => rep_cls hr w)) (fun m1 hm => rep_mod hm h3)
theorem rem_both {x : Int} (h : Inv m N) : ∃ v m1 m2, f_X3_remove x m = some (v, m1) ∧ f_X4_remove x m1 = some (v, m2) ∧ Inv m2 N := by
  obtain ⟨a, hn, H, sb, s, h1, h2, h3, h4⟩ := h
  have w := h3.1
  have wR := wf_remF (x := x) w
  exact both_act h1 h2 h3 h4 wR (cls_act (op := f_X2_removeEntry 7 x) h1 w.n24 wR.n24 (fun m1 hr => rem_cls hr w)) (fun m1 hm => rem_mod hm h3)
theorem ren_both {x y : Int} (h : Inv m N) : ∃ v m1 m2, f_X3_rename x y m = some (v, m1) ∧ f_X4_rename x y m1 = some (v, m2) ∧ Inv m2 N := by
  obtain ⟨a, hn, H, sb, s, h1, h2, h3, h4⟩ := h
  have w := h3.1
  have wR := wf_renF (x := x) (y := y) w
  exact both_act h1 h2 h3 h4 wR (cls_act (op := f_X2_renameEntry 7 x y) h1 w.n24 wR.n24 (fun m1 hr => ren_cls hr w)) (fun m1 hm => ren_mod hm h3)
end AB
