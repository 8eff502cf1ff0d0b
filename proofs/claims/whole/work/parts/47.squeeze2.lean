section SR
variable {m : Mem} {a : AS} {hn : Nat} {H : Nat → AS} {sb : Int} {s : AS} {N : Int}
theorem flt_setF (c : AS) (u t : Int) (i k j : Nat) (hk : k ≠ 2) : flt (setF c u t i) k j = flt c k j := by
  have e : ∀ k', k' ≠ 2 → (setF c u t i).2.1 k' j = c.2.1 k' j := fun k' h => cIf_f (fun q => h q.1)
  unfold flt flE
  simp only [e 1 (by decide), e k hk]
theorem sq40 {c : AS} (hn : c.1 ≤ 24) (K : Int → Int → Int → Mem → Option (Int × Mem)) (l1 t u l5 : Int) : ∀ (d fu i : Nat) (m : Mem), i + d = c.1 → d < fu → repF (m.1 52) 0 (setF c u t i) → ∃ m2, f_X4_squeezes_L40 K fu l1 t u l5 i m = mmK (inR (t + l5)) (mmK (inR (u + l5)) ((f_X4_nextText (u + l5) m2).bind (fun q26 => K l1 (t + l5) q26.1 q26.2))) ∧ (∀ c, c ≠ 52 → m2.1 c = m.1 c) ∧ m2.2 = m.2 ∧ repF (m2.1 52) 0 (setF c u t c.1) := by
  intro d
  induction d with
  | zero =>
    intro fu i m hi hf hr
    obtain ⟨k, rfl⟩ : ∃ k, fu = k + 1 := ⟨fu - 1, by omega⟩
    have h1 : m.1 52 0 = c.1 := hr.1
    rw [f_X4_squeezes_L40, if_pos (by omega)]
    rw [show i = c.1 by omega] at hr
    exact ⟨m, rfl, fun _ _ => rfl, rfl, hr⟩
  | succ d ih =>
    intro fu i m hi hf hr
    obtain ⟨k, rfl⟩ : ∃ k, fu = k + 1 := ⟨fu - 1, by omega⟩
    have h1 : m.1 52 0 = c.1 := hr.1
    have hil : i < c.1 := by omega
    have eo : f_X4_of (i : Int) 2 m = some (c.2.1 2 i, m) := by
      have := of2 hr hn i hil
      rw [show (setF c u t i).2.1 2 i = c.2.1 2 i from cIf_f (fun q => absurd q.2.1 (Nat.lt_irrefl i))] at this
      exact this
    have es : ∀ v, f_X4_sets (i : Int) 2 v m = some (mwr m 52 (5 + 6 * i + 2) v) := fun v => sets_ok i 2 rfl rfl (by omega) (by decide)
    have step : ∀ v, (c.2.1 2 i = u → v = t) → (¬ c.2.1 2 i = u → v = c.2.1 2 i) → ∃ m2, f_X4_squeezes_L40 K k l1 t u l5 ((i + 1 : Nat) : Int) (mwr m 52 (5 + 6 * i + 2) v) = mmK (inR (t + l5)) (mmK (inR (u + l5)) ((f_X4_nextText (u + l5) m2).bind (fun q26 => K l1 (t + l5) q26.1 q26.2))) ∧ (∀ c, c ≠ 52 → m2.1 c = m.1 c) ∧ m2.2 = m.2 ∧ repF (m2.1 52) 0 (setF c u t c.1) := by
      intro v v1 v2
      have hr' : repF ((mwr m 52 (5 + 6 * i + 2) v).1 52) 0 (setF c u t (i + 1)) := by
        obtain ⟨q1, q2, q3, q4, q5, -⟩ := id hr
        refine repF.mk6 ?_ ?_ ?_ ?_ ?_ (fun k j hk hj => ?_)
        · rw [mwr_self, if_neg (by omega)]; exact q1
        · rw [mwr_self, if_neg (by omega)]; exact q2
        · rw [mwr_self, if_neg (by omega)]; exact q3
        · rw [mwr_self, if_neg (by omega)]; exact q4
        · rw [mwr_self, if_neg (by omega)]; exact q5
        · have hj : j < c.1 := hj
          have hcol := hr.col hk hj
          by_cases zk : k = 2
          · subst zk
            rw [flt2] at hcol ⊢
            by_cases zj : j = i
            · rw [mwr_self, if_pos (by omega), zj]
              by_cases zc : c.2.1 2 i = u
              · rw [v1 zc]
                exact (cIf_t ⟨rfl, by omega, zc⟩).symm
              · rw [v2 zc]
                exact (cIf_f (fun q => zc q.2.2)).symm
            · rw [mwr_self, if_neg (by omega), hcol]
              by_cases zc : j < i ∧ c.2.1 2 j = u
              · exact (cIf_t ⟨rfl, zc⟩).trans (cIf_t ⟨rfl, by omega, zc.2⟩).symm
              · exact (cIf_f (fun q => zc q.2)).trans (cIf_f (fun q => zc ⟨by omega, q.2.2⟩)).symm
          · rw [mwr_self, if_neg (by omega), hcol, flt_setF c u t i k j zk, flt_setF c u t (i + 1) k j zk]
      obtain ⟨m2, e2, f2, f3, r2⟩ := ih k (i + 1) _ (by omega) (by omega) hr'
      exact ⟨m2, e2, fun c hc => (f2 c hc).trans (mwr_ne hc), f3, r2⟩
    rw [f_X4_squeezes_L40, if_neg (by omega), bd_ eo]
    dsimp only
    by_cases z : c.2.1 2 i = u
    · rw [if_pos z, bd_ (es t), mmK_p (by constructor <;> omega), ci_1]
      exact step t (fun _ => rfl) (fun q => absurd z q)
    · rw [if_neg z, bd_ eo]
      dsimp only
      rw [bd_ (es _), mmK_p (by constructor <;> omega), ci_1]
      exact step _ (fun q => absurd q z) (fun _ => rfl)
theorem setF0F {c : AS} (u t : Int) (h : repF (m.1 52) 0 c) : repF (m.1 52) 0 (setF c u t 0) := h.cg rfl (fun _ => rfl) (fun k j _ _ => (cIf_f (fun q => absurd q.2.1 (Nat.not_lt_zero j))).symm)
theorem nx_mid (w : wfA a N) {c : AS} (b v : Int) (h1 : c.1 = a.1) (h2 : ∀ j, j < a.1 → c.2.1 2 j = (midA a b).2.1 2 j) (h : NX (c.2.1 2) c.1 b v) : NX (a.2.1 2) a.1 b v := by
  rw [h1] at h
  have big : ∀ j, j < a.1 → b ≤ a.2.1 2 j → c.2.1 2 j = a.2.1 2 j := fun j hj hb => by rw [h2 j hj, mid2n b j (by omega)]
  have sml : ∀ j, j < a.1 → b ≤ c.2.1 2 j → b ≤ a.2.1 2 j := by
    intro j hj hb
    rcases Int.lt_or_le (a.2.1 2 j) b with z | z
    · rw [h2 j hj, mid2 b j z] at hb
      have := lay_st w j hj
      omega
    · exact z
  rcases h with ⟨e, h⟩ | ⟨r, e, r1, r2, r3⟩
  · refine Or.inl ⟨e, fun j hj => ?_⟩
    rcases Int.lt_or_le (a.2.1 2 j) b with z | z
    · exact z
    · have := h j hj
      rw [big j hj z] at this
      exact this
  · have hb := sml r r1 r2
    rw [big r r1 hb] at r2 r3
    exact Or.inr ⟨r, e, r1, r2, fun j hj q => by have := r3 j hj (by rw [big j hj q]; exact q); rw [big j hj q] at this; exact this⟩
theorem sq15 (w : wfA a N) (hN : N ≤ 1000000) : ∀ (d fu b : Nat) (r : Int) (m : Mem), b + d = 100 → d < fu → repF (m.1 52) 0 (midA a b) → NX (a.2.1 2) a.1 b r → ∃ m', f_X4_squeezes_L15 fu (a.2.2 1) (layW a (lenW a) b) r m = some (a.2.2 1 - layW a (lenW a) 100, m') ∧ (∀ c, c ≠ 52 → m'.1 c = m.1 c) ∧ m'.2 = m.2 ∧ repF (m'.1 52) 0 (sqA a) := by
  have h24 := w.n24
  have hw := w.1
  have hrg := lay_rg w.n24 (len_rg w) 100
  have hend := lay_end w
  intro d
  induction d using Nat.strongRecOn with
  | ind d ih =>
    intro fu b r m hb hf hr hx
    obtain ⟨k, rfl⟩ : ∃ k, fu = k + 1 := ⟨fu - 1, by omega⟩
    rcases hx with ⟨rfl, hx⟩ | ⟨r, rfl, r1, r2, r3⟩
    · obtain ⟨q1, q2, q3, q4, q5, -⟩ := id hr
      have q4' : m.1 52 3 = a.2.2 2 := q4
      have q5' : m.1 52 4 = a.2.2 3 := q5
      have hg : layW a (lenW a) b = layW a (lenW a) 100 := (lay_gap2 b 100 (by omega) (fun j hj q => by have := hx j hj; omega)).symm
      rw [f_X4_squeezes_L15, if_pos rfl, q4', q5', hg, mmK_p (by constructor <;> omega), mmK_p (by constructor <;> omega), mmK_p (by constructor <;> omega), mmK_p (by constructor <;> omega)]
      refine ⟨_, rfl, fun c hc => by rw [mwr_ne hc, mwr_ne hc, mwr_ne hc], rfl, ?_⟩
      have cell : ∀ q, (mwr (mwr (mwr m 52 2 (layW a (lenW a) 100)) 52 3 (a.2.2 2 + 1)) 52 4 (a.2.2 3 + (a.2.2 1 - layW a (lenW a) 100))).1 52 q = if q = 4 then a.2.2 3 + (a.2.2 1 - layW a (lenW a) 100) else if q = 3 then a.2.2 2 + 1 else if q = 2 then layW a (lenW a) 100 else m.1 52 q := fun q => by rw [mwr_self, mwr_self, mwr_self]
      have hc : repF ((mwr (mwr (mwr m 52 2 (layW a (lenW a) 100)) 52 3 (a.2.2 2 + 1)) 52 4 (a.2.2 3 + (a.2.2 1 - layW a (lenW a) 100))).1 52) 0 (a.1, (midA a b).2.1, (sqA a).2.2) := by
        refine repF.mk6 ?_ ?_ ?_ ?_ ?_ (fun k j hk hj => ?_)
        · rw [cell, if_neg (by omega), if_neg (by omega), if_neg (by omega)]; exact q1
        · rw [cell, if_neg (by omega), if_neg (by omega), if_neg (by omega)]; exact q2
        · rw [cell, if_neg (by omega), if_neg (by omega), if_pos (by omega)]; rfl
        · rw [cell, if_neg (by omega), if_pos (by omega)]; rfl
        · rw [cell, if_pos (by omega)]; rfl
        · rw [cell, if_neg (by omega), if_neg (by omega), if_neg (by omega)]
          exact hr.col hk hj
      refine hc.cg rfl (fun _ => rfl) (fun k j hk hj => ?_)
      show (midA a b).2.1 k j = (midA a 100).2.1 k j
      by_cases zk : k = 2
      · subst zk
        rw [mid2 _ j (hx j hj), mid2 _ j (by have := st_rg w j hj; omega)]
      · rw [midk _ k j zk, midk _ k j zk]
    · have hs := st_rg w r r1
      have hbr := w.2.2.1 r r1
      have hlb := lay_rg w.n24 (len_rg w) b
      have er2 : (midA a (b : Int)).2.1 2 r = a.2.1 2 r := mid2n _ r (by omega)
      have er3 : (midA a (b : Int)).2.1 3 r = a.2.1 3 r := midk _ 3 r (by decide)
      have o2 := of2 hr h24 r r1
      have o3 := of3 hr h24 r r1
      rw [er2] at o2
      rw [er3] at o3
      have gp : layW a (lenW a) (a.2.1 2 r).toNat = layW a (lenW a) b := lay_gap2 b _ (by omega) (fun j hj q => by have := r3 j hj q.1; omega)
      obtain ⟨m2, e2, f2, f3, b2⟩ := sq40 (c := midA a b) h24 (f_X4_squeezes_L15 k) (a.2.2 1) (layW a (lenW a) b) (a.2.1 2 r) (a.2.1 3 r) a.1 mmFU 0 m (by show 0 + a.1 = a.1; omega) (by unfold mmFU; omega) (setF0F _ _ hr)
      have e2n : ((a.2.1 2 r + a.2.1 3 r).toNat : Int) = a.2.1 2 r + a.2.1 3 r := by omega
      have pt : ∀ k j, j < a.1 → (setF (midA a b) (a.2.1 2 r) (layW a (lenW a) b) a.1).2.1 k j = (midA a (a.2.1 2 r + a.2.1 3 r)).2.1 k j := by
        intro k j hj
        by_cases zk : k = 2
        · subst zk
          by_cases zb : a.2.1 2 j < (b : Int)
          · have hl := lay_st w j hj
            rw [mid2 _ j (by omega)]
            refine (cIf_f (fun q => ?_)).trans (mid2 _ j zb)
            have q3 := q.2.2
            rw [mid2 _ j zb] at q3
            omega
          · have hj3 := r3 j hj (by omega)
            by_cases ze : a.2.1 2 j = a.2.1 2 r
            · rw [mid2 _ j (by omega), ze, gp]
              exact cIf_t ⟨rfl, hj, by rw [mid2n _ j zb]; exact ze⟩
            · have hd := w.2.2.2.2 r j r1 hj (by omega)
              rw [mid2n _ j (by omega)]
              refine (cIf_f (fun q => ze ?_)).trans (mid2n _ j zb)
              have q3 := q.2.2
              rw [mid2n _ j zb] at q3
              exact q3
        · rw [midk _ k j zk]
          exact (cIf_f (fun q => zk q.1)).trans (midk _ k j zk)
      obtain ⟨v', ev, xv⟩ := nx_ok (b := a.2.1 2 r + a.2.1 3 r) b2 h24
      have xv2 := nx_mid w (c := setF (midA a (b : Int)) (a.2.1 2 r) (layW a (lenW a) b) a.1) _ _ rfl (fun j hj => pt 2 j hj) xv
      have b3 : repF (m2.1 52) 0 (midA a (((a.2.1 2 r + a.2.1 3 r).toNat : Nat) : Int)) := by
        rw [e2n]
        exact b2.cg rfl (fun _ => rfl) (fun k j _ hj => pt k j hj)
      have el : layW a (lenW a) (a.2.1 2 r + a.2.1 3 r).toNat = layW a (lenW a) b + a.2.1 3 r := by
        rw [← gp, ← lay_nx w r r1]
        refine lay_gap2 ((a.2.1 2 r).toNat + 1) _ (by omega) (fun j hj q => ?_)
        have := w.2.2.2.2 r j r1 hj (by omega)
        omega
      obtain ⟨m3, e3, f4, f5, b4⟩ := ih (100 - (a.2.1 2 r + a.2.1 3 r).toNat) (by omega) k _ v' m2 (by omega) (by omega) b3 (by rw [e2n]; exact xv2)
      rw [el] at e3
      rw [show ((0 : Nat) : Int) = 0 from rfl] at e2
      refine ⟨m3, ?_, fun c hc => (f4 c hc).trans (f2 c hc), f5.trans f3, b4⟩
      rw [f_X4_squeezes_L15, if_neg (by omega), bd_ o2]
      dsimp only
      rw [bd_ o3]
      dsimp only
      rw [e2, mmK_p (by constructor <;> omega), mmK_p (by constructor <;> omega), bd_ ev]
      exact e3
theorem sqz_ok (w : wfA a N) (hN : N ≤ 1000000) (h : repF (m.1 52) 0 a) : ∃ m', f_X4_squeezes m = some (a.2.2 1 - layW a (lenW a) 100, m') ∧ (∀ c, c ≠ 52 → m'.1 c = m.1 c) ∧ m'.2 = m.2 ∧ repF (m'.1 52) 0 (sqA a) := by
  obtain ⟨v', ev, xv⟩ := nx_ok (b := 0) h w.n24
  have k3 : m.1 52 2 = a.2.2 1 := h.2.2.1
  unfold f_X4_squeezes
  rw [bd_ ev, k3]
  exact sq15 w hN 100 mmFU 0 v' m (by omega) (by unfold mmFU; omega) (h.cg rfl (fun _ => rfl) (fun k j _ hj => (cIf_f (fun q => by have := st_rg w j hj; omega)).symm)) xv
noncomputable def sqzF (a : AS) : Int × AS := cIf (a.2.2 1 - layW a (lenW a) 100 = 0) (-5, a) (a.2.2 1 - layW a (lenW a) 100, sqA a)
noncomputable def anwF (a : AS) (l : Int) : Int × AS := cIf (¬ (1 ≤ l ∧ l ≤ 6)) (-2, a) (cIf (¬ (a.1 : Int) ≤ 4 * l) (-6, a) (cIf (l = a.2.2 0) (-5, a) (a.2.2 0, sqA (scA a 0 l))))
theorem wf_sqzF (w : wfA a N) : wfA (sqzF a).2 (N + 1) := by
  unfold sqzF
  by_cases h : a.2.2 1 - layW a (lenW a) 100 = 0
  · rw [cIf_t h]; exact w.mono (by omega)
  · rw [cIf_f h]; exact wf_sq w
theorem wf_anwF {l : Int} (w : wfA a N) : wfA (anwF a l).2 (N + 1) := by
  unfold anwF
  by_cases h1 : ¬ (1 ≤ l ∧ l ≤ 6)
  · rw [cIf_t h1]; exact w.mono (by omega)
  rw [cIf_f h1]
  by_cases h2 : ¬ (a.1 : Int) ≤ 4 * l
  · rw [cIf_t h2]; exact w.mono (by omega)
  rw [cIf_f h2]
  by_cases h3 : l = a.2.2 0
  · rw [cIf_t h3]; exact w.mono (by omega)
  rw [cIf_f h3]
  exact wf_sq (wf_blk w (by omega) (by omega))
theorem sqz_cls {o : Nat} (w : wfA a N) (hN : N ≤ 1000000) (h : repS m o a) : didS (f_X2_giveBackDeadRoom o m) m o (sqzF a) := by
  have hw := w.1
  have hrg := lay_rg w.n24 (len_rg w) 100
  have hend := lay_end w
  have ed : f_X2_deadUnits o m = some (a.2.2 1 - layW a (lenW a) 100, m) := by
    unfold f_X2_deadUnits
    rw [bd_ (lvu_c h w), h.2.2.1]
    dsimp only
    rw [mmK_p (by constructor <;> omega)]
  unfold f_X2_giveBackDeadRoom didS sqzF
  rw [bd_ ed]
  dsimp only
  by_cases z : a.2.2 1 - layW a (lenW a) 100 = 0
  · rw [if_pos z, cIf_t z]
    exact ⟨m, rfl, frm.rf, h⟩
  · rw [if_neg z, cIf_f z]
    obtain ⟨m', e', f', r'⟩ := cu_ok w hN h
    rw [bd_ e']
    exact ⟨m', rfl, f', r'⟩
theorem anw_cls {o : Nat} {l : Int} (w : wfA a N) (hN : N ≤ 1000000) (h : repS m o a) : didS (f_X2_changeBlocks o l m) m o (anwF a l) := by
  have hw := w.1
  have h24 := w.n24
  obtain ⟨q1, q2, q3, q4, q5, -⟩ := id h
  unfold f_X2_changeBlocks didS anwF
  by_cases h1 : 1 ≤ l ∧ l ≤ 6
  · rw [if_neg (by omega), if_pos (by omega), cIf_f (Classical.not_not.mpr h1), mmK_p (by constructor <;> omega), q1, q2]
    by_cases h2 : (a.1 : Int) ≤ 4 * l
    · rw [if_pos (by omega), cIf_f (Classical.not_not.mpr h2)]
      by_cases h3 : l = a.2.2 0
      · rw [if_pos h3, cIf_t h3]
        exact ⟨m, rfl, frm.rf, h⟩
      · rw [if_neg h3, cIf_f h3]
        have hr : repS (mwr m o 6 l) o (scA a 0 l) := by
          refine repS.mk5 ?_ ?_ ?_ ?_ ?_ (fun k j hk hj => ?_)
          · rw [mwr_self, if_neg (by decide)]; exact q1
          · rw [mwr_self, if_pos rfl]; rfl
          · rw [mwr_self, if_neg (by decide)]; exact q3
          · rw [mwr_self, if_neg (by decide)]; exact q4
          · rw [mwr_self, if_neg (by decide)]; exact q5
          · rw [mwr_ne (by omega)]; exact h.col hk hj
        obtain ⟨m', e', f', r'⟩ := cu_ok (wf_blk w (by omega) (by omega)) hN hr
        rw [bd_ e']
        exact ⟨m', rfl, (frm.wr (by omega) (by omega)).tr f', r'⟩
    · rw [if_neg (by omega), cIf_t h2]
      exact ⟨m, rfl, frm.rf, h⟩
  · rw [cIf_t h1]
    by_cases h0 : l < 1
    · rw [if_pos h0]; exact ⟨m, rfl, frm.rf, h⟩
    · rw [if_neg h0, if_neg (by omega)]; exact ⟨m, rfl, frm.rf, h⟩
theorem sqz_mod (hN : N ≤ 1000000) (h : MS m a hn H sb s) (w : WS a hn H sb s N) : didM (f_X4_squeeze m) m a hn H sb s (sqzF a) := by
  have w1 := w.1
  have hend := lay_end w1
  have k3 : m.1 52 2 = a.2.2 1 := h.1.2.2.1
  unfold f_X4_squeeze sqzF
  rw [bd_ (liv_u h.1 w1)]
  dsimp only
  rw [k3]
  by_cases z : a.2.2 1 - layW a (lenW a) 100 = 0
  · rw [if_pos (by omega), cIf_t z]
    exact did_no h (by decide)
  · rw [if_neg (by omega), cIf_f z]
    refine did_yes h w (by show 0 ≤ a.2.2 1 - layW a (lenW a) 100; omega) (fun m1 h1 => ?_)
    obtain ⟨m2, e2, f2, f3, b2⟩ := sqz_ok w1 hN h1
    exact ⟨m2, by rw [bd_ e2], ⟨fun c hc _ => f2 c hc, f3⟩, b2⟩
theorem anw_mod {l : Int} (hN : N ≤ 1000000) (h : MS m a hn H sb s) (w : WS a hn H sb s N) : didM (f_X4_makeAnew l m) m a hn H sb s (anwF a l) := by
  have w1 := w.1
  have hw := w1.1
  have h24 := w1.n24
  obtain ⟨k1, k2, -⟩ := h.1
  rw [Nat.zero_add] at k2
  unfold f_X4_makeAnew anwF
  by_cases h1 : 1 ≤ l ∧ l ≤ 6
  · rw [bd_ (in_t h1), cIf_f (Classical.not_not.mpr h1)]
    dsimp only
    rw [if_neg (by decide), mmK_p (by constructor <;> omega), k1, k2]
    by_cases h2 : (a.1 : Int) ≤ 4 * l
    · rw [if_pos h2, cIf_f (Classical.not_not.mpr h2)]
      by_cases h3 : l = a.2.2 0
      · rw [if_pos h3.symm, cIf_t h3]
        exact did_no h (by decide)
      · rw [if_neg (fun q => h3 q.symm), cIf_f h3]
        refine did_yes h w (by show 0 ≤ a.2.2 0; omega) (fun m1 hm1 => ?_)
        have hr : repF ((mwr m1 52 1 l).1 52) 0 (scA a 0 l) := by
          obtain ⟨q1, q2, q3, q4, q5, -⟩ := id hm1
          refine repF.mk6 ?_ ?_ ?_ ?_ ?_ (fun k j hk hj => ?_)
          · rw [mwr_self, if_neg (by decide)]; exact q1
          · rw [mwr_self, if_pos (by decide)]; rfl
          · rw [mwr_self, if_neg (by decide)]; exact q3
          · rw [mwr_self, if_neg (by decide)]; exact q4
          · rw [mwr_self, if_neg (by decide)]; exact q5
          · rw [mwr_self, if_neg (by omega)]
            exact hm1.col hk hj
        obtain ⟨m2, e2, f2, f3, b2⟩ := sqz_ok (wf_blk w1 (by omega) (by omega)) hN hr
        exact ⟨m2, by rw [bd_ e2], ⟨fun c hc _ => (f2 c hc).trans (mwr_ne hc), f3⟩, b2⟩
    · rw [if_neg h2, cIf_t h2]
      exact did_no h (by decide)
  · rw [bd_ (in_f h1), cIf_t h1]
    exact did_no h (by decide)
theorem sqz_both (hN : N ≤ 1000000) (h : Inv m N) : ∃ v m1 m2, f_X3_squeeze m = some (v, m1) ∧ f_X4_squeeze m1 = some (v, m2) ∧ Inv m2 (N + 1) := by
  obtain ⟨a, hn, H, sb, s, h1, h2, h3, h4⟩ := h
  have w := h3.1
  have wR := wf_sqzF w
  exact both_act h1 h2 (h3.mono (by omega)) h4 wR (cls_act (op := f_X2_giveBackDeadRoom 7) h1 w.n24 wR.n24 (fun m1 hr => sqz_cls w hN hr)) (fun m1 hm => sqz_mod hN hm h3)
theorem anw_both {l : Int} (hN : N ≤ 1000000) (h : Inv m N) : ∃ v m1 m2, f_X3_makeAnew l m = some (v, m1) ∧ f_X4_makeAnew l m1 = some (v, m2) ∧ Inv m2 (N + 1) := by
  obtain ⟨a, hn, H, sb, s, h1, h2, h3, h4⟩ := h
  have w := h3.1
  have wR := wf_anwF (l := l) w
  exact both_act h1 h2 (h3.mono (by omega)) h4 wR (cls_act (op := f_X2_changeBlocks 7 l) h1 w.n24 wR.n24 (fun m1 hr => anw_cls w hN hr)) (fun m1 hm => anw_mod hN hm h3)
end SR
