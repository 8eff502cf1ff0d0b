/-! A STEP OF THE LAW -/
def GD (f : Option (Int × Mem2)) (N : Int) : Prop := ∃ m' a hn H, f = some (1, m') ∧ Two m' a hn H N
section EV
variable {a : AS} {N : Int}
theorem blw_at (w : wfA a N) {i : Nat} (hi : i < a.1) {x : Int} (e : a.2.1 0 i = x) : blw a x = i := by
  have h := w.at_ ⟨i, hi, e⟩
  rcases Nat.lt_trichotomy (blw a x) i with z | z | z
  · have := w.2.1 _ _ z hi; omega
  · exact z
  · have := w.2.1 _ _ z h.1; omega
theorem ent_at (w : wfA a N) {i : Nat} (hi : i < a.1) {x : Int} (e : a.2.1 0 i = x) (y : Int) : entV a x y = entR a i y := by rw [ent_y x y ⟨i, hi, e⟩, blw_at w hi e]
theorem er0 (a : AS) (i : Nat) : entR a i 0 = i := by simp [entR]
theorem er1 (a : AS) (i : Nat) : entR a i 1 = (i : Int) / 4 := by simp [entR]
theorem er2 (a : AS) (i : Nat) : entR a i 2 = aliW a i := by simp [entR]
theorem er3 (a : AS) (i : Nat) : entR a i 3 = a.2.1 2 i := by simp [entR]
theorem er4 (a : AS) (i : Nat) : entR a i 4 = a.2.1 3 i := by simp [entR]
theorem er5 (a : AS) (i : Nat) : entR a i 5 = a.2.1 4 i := by simp [entR]
theorem er6 (a : AS) (i : Nat) : entR a i 6 = aofV a (a.2.1 2 i) := by simp [entR]
theorem er7 (a : AS) (i : Nat) : entR a i 7 = a.2.1 1 i := by simp [entR]
theorem er8 (a : AS) (i : Nat) : entR a i 8 = lstV a i := by simp [entR]
theorem cv0 (a : AS) : cntV a 0 = a.1 := by simp [cntV]
theorem cv1 (a : AS) : cntV a 1 = (a.1 : Int) - aliV a := by simp [cntV]
theorem cv2 (a : AS) : cntV a 2 = aliV a := by simp [cntV]
theorem cv3 (a : AS) : cntV a 3 = losV a := by simp [cntV]
theorem cv4 (a : AS) : cntV a 4 = a.2.2 0 := by simp [cntV]
theorem cv5 (a : AS) : cntV a 5 = a.2.2 0 * 4 - a.1 := by simp [cntV]
theorem cv6 (a : AS) : cntV a 6 = a.2.2 1 := by simp [cntV]
theorem cv7 (a : AS) : cntV a 7 = livU a := by simp [cntV]
theorem cv8 (a : AS) : cntV a 8 = a.2.2 1 - livU a := by simp [cntV]
theorem cv9 (a : AS) : cntV a 9 = 100 - a.2.2 1 := by simp [cntV]
theorem cv10 (a : AS) : cntV a 10 = livT a := by simp [cntV]
theorem k_mem {x : Int} (h : memN a x) : entV a x 2 = 0 := by
  rw [ent_y x 2 h.1, er2]
  exact cIf_t h.2
theorem k_ali {x : Int} (h : hasN a x) (h2 : ¬ memN a x) : entV a x 2 = 1 := by
  rw [ent_y x 2 h, er2]
  exact cIf_f (fun q => h2 ⟨h, q⟩)
theorem k_no {x : Int} (h : ¬ hasN a x) : entV a x 2 = -1 := ent_n x 2 h
theorem k_has {x : Int} : 0 ≤ entV a x 2 ↔ hasN a x := by
  constructor
  · intro q
    refine Classical.byContradiction (fun h => ?_)
    rw [k_no h] at q
    omega
  · intro h
    by_cases z : memN a x
    · rw [k_mem z]; decide
    · rw [k_ali h z]; decide
theorem k_0 {x : Int} : entV a x 2 = 0 ↔ memN a x := by
  constructor
  · intro q
    refine Classical.byContradiction (fun h => ?_)
    by_cases z : hasN a x
    · rw [k_ali z h] at q; omega
    · rw [k_no z] at q; omega
  · exact k_mem
theorem add_v {x l k : Int} (w : wfA a N) (hx : 0 ≤ x ∧ x < 338) (hl : 1 ≤ l ∧ l ≤ 40) (hk : 0 ≤ k ∧ k ≤ 9999) :
    (hasN a x ∧ addF a x l k = (-7, a)) ∨ (¬ hasN a x ∧ (a.1 : Int) = 4 * a.2.2 0 ∧ addF a x l k = (-6, a)) ∨ (¬ hasN a x ∧ (a.1 : Int) < 4 * a.2.2 0 ∧ 100 < a.2.2 1 + l ∧ addF a x l k = (-3, a)) ∨ (¬ hasN a x ∧ (a.1 : Int) < 4 * a.2.2 0 ∧ a.2.2 1 + l ≤ 100 ∧ addF a x l k = (a.2.2 1, insA (scA a 1 (a.2.2 1 + l)) (blw a x) (entA x (-5) (a.2.2 1) l k))) := by
  have hw := w.1
  unfold addF
  rw [cIf_f (show ¬ (¬ (0 ≤ x ∧ x < 676) ∨ ¬ (1 ≤ l ∧ l ≤ 40) ∨ ¬ (0 ≤ k ∧ k ≤ 9999)) by omega)]
  by_cases h2 : hasN a x
  · exact Or.inl ⟨h2, cIf_t h2⟩
  refine Or.inr ?_
  rw [cIf_f h2]
  by_cases h3 : ¬ (a.1 : Int) < 4 * a.2.2 0
  · exact Or.inl ⟨h2, by omega, cIf_t h3⟩
  refine Or.inr ?_
  rw [cIf_f h3]
  by_cases h4 : ¬ a.2.2 1 + l ≤ 100
  · exact Or.inl ⟨h2, by omega, by omega, cIf_t h4⟩
  · exact Or.inr ⟨h2, by omega, by omega, cIf_f h4⟩
theorem rep_v {x l k : Int} (hl : 1 ≤ l ∧ l ≤ 40) (hk : 0 ≤ k ∧ k ≤ 9999) :
    (¬ memN a x ∧ repF' a x l k = (-1, a)) ∨ (memN a x ∧ 100 < a.2.2 1 + l ∧ repF' a x l k = (-3, a)) ∨ (memN a x ∧ a.2.2 1 + l ≤ 100 ∧ repF' a x l k = (a.2.2 1, setA (scA a 1 (a.2.2 1 + l)) (blw a x) (entA x (-5) (a.2.2 1) l k))) := by
  unfold repF'
  by_cases h2 : ¬ memN a x
  · exact Or.inl ⟨h2, cIf_t h2⟩
  refine Or.inr ?_
  rw [cIf_f h2, cIf_f (show ¬ (¬ (1 ≤ l ∧ l ≤ 40) ∨ ¬ (0 ≤ k ∧ k ≤ 9999)) by omega)]
  have h2 := Classical.not_not.mp h2
  by_cases h4 : ¬ a.2.2 1 + l ≤ 100
  · exact Or.inl ⟨h2, by omega, cIf_t h4⟩
  · exact Or.inr ⟨h2, by omega, cIf_f h4⟩
theorem livU_sq (w : wfA a N) : livU (sqA a) = livU a := by
  have w' := wf_sq w
  unfold livU
  rw [lay_sum w', lay_sum w]
  refine sumN_congr a.1 (fun j hj => ?_)
  have e3 : lenW (sqA a) j = lenW a j := sq_k 3 j (by decide)
  rw [e3]
  have hf : fstT (sqA a) j ↔ fstT a j := by
    constructor
    · intro h i hi e
      refine h i hi ?_
      rw [sq_2 w i (by omega), sq_2 w j hj, e]
    · intro h i hi e
      exact h i hi (sq_inj w i j (by omega) hj e)
  by_cases z : fstT a j
  · rw [cIf_t z, cIf_t (hf.mpr z)]
  · rw [cIf_f z, cIf_f (fun q => z (hf.mp q))]
theorem sq_dead (w : wfA a N) : cntV (sqA a) 8 = 0 := by
  rw [cv8, livU_sq w]
  show livU a - livU a = 0
  omega
end EV
section ST
variable {m : Mem2} {a : AS} {hn : Nat} {H : Nat → AS} {N : Int}
theorem GD.mk_ {f : Option (Int × Mem2)} (h : f = some (1, m)) (T : Two m a hn H N) : GD f N := ⟨m, a, hn, H, h, T⟩
theorem L343_ok {a' : AS} {x l k : Int} (T : Two m a' hn H N) {N0 : Int} (w : wfA a N0) (hx : 0 ≤ x ∧ x < 338) (hl : 1 ≤ l ∧ l ≤ 40) (hk : 0 ≤ k ∧ k ≤ 9999) (hb : a'.2.2 0 = a.2.2 0) : f_L_isStep_L343 l (a.1 : Int) (a.2.2 1) (entV a x 2) (addF a x l k).1 (addF a x l k).1 m = some (1, m) := by
  have hw := w.1
  have w' := T.2.2.2.1.1.1
  unfold f_L_isStep_L343
  rcases add_v w hx hl hk with ⟨h1, e⟩ | ⟨h1, h2, e⟩ | ⟨h1, h2, h3, e⟩ | ⟨h1, h2, h3, e⟩
  · rw [if_neg (by have := k_has.mpr h1; omega), e]
    unfold f_L_isStep_L353
    rw [if_pos rfl, if_neg (by decide), if_pos rfl]
  · rw [k_no h1, if_pos (by decide), e]
    unfold f_L_isStep_L353
    rw [if_pos rfl, if_pos rfl, bd_ (o_cnt T 4 (by decide) (by decide)), cv4]
    dsimp only
    rw [mmK_p (by constructor <;> omega), if_pos (by omega), if_pos rfl]
  · rw [k_no h1, if_pos (by decide), e]
    unfold f_L_isStep_L353
    rw [if_pos rfl, if_pos rfl, bd_ (o_cnt T 4 (by decide) (by decide)), cv4]
    dsimp only
    rw [mmK_p (by constructor <;> omega), if_neg (by omega), mmK_p (by constructor <;> omega), if_neg (by omega), if_pos rfl]
  · rw [k_no h1, if_pos (by decide), e]
    unfold f_L_isStep_L353
    rw [if_pos rfl, if_pos rfl, bd_ (o_cnt T 4 (by decide) (by decide)), cv4]
    dsimp only
    rw [mmK_p (by constructor <;> omega), if_neg (by omega), mmK_p (by constructor <;> omega), if_pos (by omega), if_pos rfl]
theorem add_b {x l k : Int} (w : wfA a N) (hx : 0 ≤ x ∧ x < 338) (hl : 1 ≤ l ∧ l ≤ 40) (hk : 0 ≤ k ∧ k ≤ 9999) : (addF a x l k).2.2.2 0 = a.2.2 0 := by
  rcases add_v w hx hl hk with ⟨h1, e⟩ | ⟨h1, h2, e⟩ | ⟨h1, h2, h3, e⟩ | ⟨h1, h2, h3, e⟩ <;> rw [e] <;> rfl
theorem add_e {x l k : Int} (w : wfA a N) (hx : 0 ≤ x ∧ x < 338) (hl : 1 ≤ l ∧ l ≤ 40) (hk : 0 ≤ k ∧ k ≤ 9999) (h0 : 0 ≤ (addF a x l k).1) : entV (addF a x l k).2 x 3 = (addF a x l k).1 := by
  have w' := wf_addF (x := x) (l := l) (k := k) w
  rcases add_v w hx hl hk with ⟨h1, e⟩ | ⟨h1, h2, e⟩ | ⟨h1, h2, h3, e⟩ | ⟨h1, h2, h3, e⟩
  · rw [e] at h0; exact absurd h0 (by show ¬ (0 : Int) ≤ -7; decide)
  · rw [e] at h0; exact absurd h0 (by show ¬ (0 : Int) ≤ -6; decide)
  · rw [e] at h0; exact absurd h0 (by show ¬ (0 : Int) ≤ -3; decide)
  · rw [e] at w' ⊢
    have hr := blw_le a x
    rw [ent_at w' (i := blw a x) (by show blw a x < a.1 + 1; omega) (x := x) (ins_r _ _ _ 0), er3]
    exact ins_r _ _ _ 2
theorem st_add {l3 l5 l7 l8 : Int} (T : Two m a hn H N) (h5 : 0 ≤ l5 ∧ l5 < 338) (h7 : 1 ≤ l7 ∧ l7 ≤ 40) (h8 : 0 ≤ l8 ∧ l8 ≤ 9999) : GD (f_L_isStep_L188 l3 l5 l7 l8 (a.1 : Int) (a.2.2 1) (entV a l5 2) m) N := by
  have t4 := T.2.2.2.1
  have w := t4.1
  have wR := w2_add (x := l5) (l := l7) (k := l8) t4 h5
  have hb := add_b (N := N) (x := l5) (l := l7) (k := l8) w h5 h7 h8
  have sh := add_sh (a := a) (x := l5) (l := l7) (k := l8) h5 h8
  have hv := up_rg (shr l3 3) 2 (by decide)
  have aO := a_add (x := l5) (l := l7) (k := l8) T.1 w
  unfold f_L_isStep_L188
  by_cases hz : and7 (shr l3 3) % 2 = 0
  · have aP := a_add (x := l5 + 338) (l := l7) (k := 9999 - l8) T.2.1 T.wp
    rw [sh] at aP
    obtain ⟨m1, m2, e1, e2, hneg, hpos⟩ := two_act (F := f_X3_add l5 l7 l8) (G := f_X3_add (l5 + 338) l7 (9999 - l8)) T aO aP wR (Int.le_refl N)
    have fin : ∀ a' hn' H', Two (m1, m2) a' hn' H' N → a'.2.2 0 = a.2.2 0 → f_L_isStep_L343 l7 (a.1 : Int) (a.2.2 1) (entV a l5 2) (addF a l5 l7 l8).1 (addF a l5 l7 l8).1 (m1, m2) = some (1, (m1, m2)) := fun a' hn' H' T' hb' => L343_ok T' w h5 h7 h8 hb'
    rw [bd_ e1]
    dsimp only
    rw [bd_ (up_ok _ 2 (by decide))]
    dsimp only
    rw [if_pos hz, bd_ (th_n l5 h5)]
    dsimp only
    rw [mmK_p (by constructor <;> omega), bd_ e2]
    dsimp only
    unfold f_L_isStep_L231
    rw [bd_ (up_ok _ 2 (by decide))]
    dsimp only
    rw [if_pos (by omega)]
    by_cases hR : (addF a l5 l7 l8).1 < 0
    · exact GD.mk_ (fin _ _ _ (hneg hR) rfl) (hneg hR)
    · exact GD.mk_ (fin _ _ _ (hpos (by omega)) hb) (hpos (by omega))
  · obtain ⟨m1, e1, k1, n1, p1⟩ := aO
    obtain ⟨s, hP⟩ := T.2.1
    obtain ⟨c1, c2, c3⟩ := clr_ok m.2
    obtain ⟨q1, d1, d2, d3⟩ := name_ok (m := (m1, mwr m.2 45 1 0)) (X := l5 + 338) c3 (by decide) (by omega)
    obtain ⟨q2, f1, f2, f3⟩ := typP (m := (m1, q1)) (c := 61) d3 (by simp) (by decide)
    obtain ⟨q3, g1, g2, g3⟩ := number_ok (m := (m1, q2)) (v := l7) f3 (by simp) (by omega)
    have hl7 := dg_len l7
    have hl8 := dg_len (9999 - l8)
    obtain ⟨q4, i1, i2, i3⟩ := typP (m := (m1, q3)) (c := 44) g3 (by simp; omega) (by decide)
    obtain ⟨q5, j1, j2, j3⟩ := number_ok (m := (m1, q4)) (v := 9999 - l8) i3 (by simp; omega) (by omega)
    have hB : BL q5 (txt (l5 + 338) l7 (9999 - l8)) := by
      have e : txt (l5 + 338) l7 (9999 - l8) = [] ++ [65 + (l5 + 338) / 26] ++ [65 + (l5 + 338) % 26] ++ [61] ++ dg l7 ++ [44] ++ dg (9999 - l8) := by simp [txt]
      rw [e]
      exact j3
    have hS : SO q5 (shA a) hn (shH H) := ⟨s, hP.pk (((((c2.tr d2).tr f2).tr g2).tr i2).tr j2)⟩
    obtain ⟨q6, o1, o2, o3, o4⟩ := adl_ok (X := l5 + 338) (l := l7) (K := 9999 - l8) hS T.wp (by omega) h7 (by omega) hB
    rw [sh] at o1 o3 o4
    have h45 : 0 ≤ q6.1 45 1 := by
      rw [o2, hB.1]
      exact Int.natCast_nonneg _
    rw [bd_ (mmO_s (m := m) (f := f_X3_add l5 l7 l8) e1)]
    dsimp only
    rw [bd_ (up_ok _ 2 (by decide))]
    dsimp only
    rw [if_neg hz]
    unfold f_L_isStep_L231
    rw [bd_ (up_ok _ 2 (by decide))]
    dsimp only
    rw [if_neg (by omega), bd_ (mmP_s (m := (m1, m.2)) c1)]
    dsimp only
    rw [if_neg (by have := T.2.2.1; omega), bd_ (th_n l5 h5)]
    dsimp only
    rw [bd_ d1]
    dsimp only
    rw [if_neg (by decide), bd_ f1]
    dsimp only
    rw [if_neg (by omega), bd_ g1]
    dsimp only
    rw [if_neg (by decide), bd_ i1]
    dsimp only
    rw [if_neg (by omega), mmK_p (by constructor <;> omega), bd_ j1]
    dsimp only
    rw [if_neg (by decide)]
    unfold f_L_isStep_L307
    rw [bd_ (mmP_s (m := (m1, q5)) o1)]
    dsimp only
    rw [if_neg (by decide)]
    by_cases hR : (addF a l5 l7 l8).1 < 0
    · have T2 : Two (m1, q6) a hn H N := ⟨n1 hR, o3 hR, h45, t4, T.2.2.2.2⟩
      rw [show (shR (addF a l5 l7 l8)).1 = (addF a l5 l7 l8).1 from rfl, cIf_t hR, if_neg (by omega)]
      exact GD.mk_ (L343_ok T2 w h5 h7 h8 rfl) T2
    · have hR0 : 0 ≤ (addF a l5 l7 l8).1 := by omega
      have hSp := o4 hR0
      rw [push_sh] at hSp
      have T2 : Two (m1, q6) (addF a l5 l7 l8).2 (pushN hn) (pushH hn H a) N := ⟨p1 hR0, hSp, h45, wR, w2_push t4 T.2.2.2.2⟩
      rw [show (shR (addF a l5 l7 l8)).1 = (addF a l5 l7 l8).1 from rfl, cIf_f hR, if_pos rfl, bd_ (th_n l5 h5)]
      dsimp only
      rw [bd_ (p_ent T2 _ _)]
      dsimp only
      rw [entV_sh wR.1 wR.2.1 l5 3 (by decide) (by decide), add_e w h5 h7 h8 hR0]
      exact GD.mk_ (L343_ok T2 w h5 h7 h8 hb) T2
theorem st_rep {l5 l7 l8 : Int} (T : Two m a hn H N) (h5 : 0 ≤ l5 ∧ l5 < 338) (h7 : 1 ≤ l7 ∧ l7 ≤ 40) (h8 : 0 ≤ l8 ∧ l8 ≤ 9999) : GD (f_L_isStep_L417 l5 l7 l8 (a.2.2 1) (entV a l5 2) m) N := by
  have t4 := T.2.2.2.1
  have w := t4.1
  have hw := w.1
  have wR := w2_rep (x := l5) (l := l7) (k := l8) t4 h5
  have sh := rep_sh (a := a) (x := l5) (l := l7) (k := l8) w t4.2.1 h5 h8
  have aO := a_rep (x := l5) (l := l7) (k := l8) T.1 w
  have aP := a_rep (x := l5 + 338) (l := l7) (k := 9999 - l8) T.2.1 T.wp
  rw [sh] at aP
  obtain ⟨m1, m2, e1, e2, hneg, hpos⟩ := two_act (F := f_X3_replace l5 l7 l8) (G := f_X3_replace (l5 + 338) l7 (9999 - l8)) T aO aP wR (Int.le_refl N)
  unfold f_L_isStep_L417
  rw [bd_ (o_fit T l7)]
  dsimp only
  rw [bd_ e1]
  dsimp only
  rw [bd_ (th_n l5 h5)]
  dsimp only
  rw [mmK_p (by constructor <;> omega), bd_ e2]
  dsimp only
  rw [if_pos rfl]
  unfold f_L_isStep_L482
  rcases rep_v (a := a) (x := l5) h7 h8 with ⟨h1, e⟩ | ⟨h1, h2, e⟩ | ⟨h1, h2, e⟩
  · rw [e] at hneg ⊢
    have T2 := hneg (show (-1 : Int) < 0 by decide)
    rw [if_neg (fun q => h1 (k_0.mp q)), if_pos rfl, if_pos (show (-1 : Int) < 0 by decide)]
    exact GD.mk_ rfl T2
  · rw [e] at hneg ⊢
    have T2 := hneg (show (-3 : Int) < 0 by decide)
    have hf : ¬ fitV a l7 ≤ 0 := by
      unfold fitV
      rw [if_neg (Classical.not_not.mpr h7), if_neg (by omega)]
      split <;> decide
    rw [if_pos (k_0.mpr h1), if_neg hf, if_pos rfl, if_pos (show (-3 : Int) < 0 by decide)]
    exact GD.mk_ rfl T2
  · rw [e] at hpos wR ⊢
    have T2 := hpos hw.2.2.2.1
    have hf : fitV a l7 ≤ 0 := by
      unfold fitV
      rw [if_neg (Classical.not_not.mpr h7), if_pos h2]
      decide
    have hi := (w.at_ h1.1).1
    have n0 : (setA (scA a 1 (a.2.2 1 + l7)) (blw a l5) (entA l5 (-5) (a.2.2 1) l7 l8)).2.1 0 (blw a l5) = l5 := set_r _ _ _ 0
    rw [if_pos (k_0.mpr h1), if_pos hf, if_pos rfl, if_neg (show ¬ a.2.2 1 < 0 by omega), bd_ (o_ent T2 _ _)]
    dsimp only
    rw [ent_at wR.1 (i := blw a l5) hi n0, er4, set_r, if_pos (show entA l5 (-5) (a.2.2 1) l7 l8 3 = l7 from rfl), bd_ (o_ent T2 _ _)]
    dsimp only
    rw [ent_at wR.1 (i := blw a l5) hi n0, er5, set_r, if_pos (show entA l5 (-5) (a.2.2 1) l7 l8 4 = l8 from rfl), bd_ (o_cnt T2 6 (by decide) (by decide)), cv6]
    dsimp only
    rw [mmK_p (by constructor <;> omega), if_pos (show (setA (scA a 1 (a.2.2 1 + l7)) (blw a l5) (entA l5 (-5) (a.2.2 1) l7 l8)).2.2 1 = a.2.2 1 + l7 from rfl)]
    exact GD.mk_ rfl T2
theorem st_rem {l5 : Int} (T : Two m a hn H N) (h5 : 0 ≤ l5 ∧ l5 < 338) : GD ((mmO (f_X3_remove l5) m).bind (fun q115 => (f_L_there l5 q115.2).bind (fun q117 => (mmP (f_X3_remove q117.1) q117.2).bind (fun q119 => if q115.1 = q119.1 then
(if 0 ≤ (entV a l5 2) then
(mmK (inR ((a.1 : Int) - 1)) (f_L_isStep_L571 l5 (a.2.2 1) ((a.1 : Int) - 1) q115.1 q119.2))
else
(f_L_isStep_L571 l5 (a.2.2 1) (-1) q115.1 q119.2))
else
(some (0, q119.2)))))) N := by
  have t4 := T.2.2.2.1
  have w := t4.1
  have h24 := w.n24
  have wR := w2_rem (x := l5) t4
  have aO := a_rem (x := l5) T.1 w
  have aP := a_rem (x := l5 + 338) T.2.1 T.wp
  rw [rem_sh] at aP
  obtain ⟨m1, m2, e1, e2, hneg, hpos⟩ := two_act (F := f_X3_remove l5) (G := f_X3_remove (l5 + 338)) T aO aP wR (Int.le_refl N)
  rw [bd_ e1]
  dsimp only
  rw [bd_ (th_n l5 h5)]
  dsimp only
  rw [bd_ e2]
  dsimp only
  rw [if_pos rfl]
  unfold f_L_isStep_L571
  by_cases hh : hasN a l5
  · have hR : remF a l5 = (((a.1 - 1 : Nat) : Int), delA a (blw a l5)) := cIf_f (Classical.not_not.mpr hh)
    have hi := (w.at_ hh).1
    have hx := (w.at_ hh).2
    rw [hR] at hpos ⊢
    have T2 := hpos (Int.natCast_nonneg _)
    have hno : ¬ hasN (delA a (blw a l5)) l5 := by
      rintro ⟨j, hj, e⟩
      obtain ⟨i, g1, g2, g3⟩ := del_i a (blw a l5) hj
      rw [g2] at e
      have := blw_at w g1 e
      rw [g3] at this
      split at this <;> omega
    rw [if_pos (k_has.mpr hh), mmK_p (by constructor <;> omega), if_pos (show ((a.1 - 1 : Nat) : Int) = (a.1 : Int) - 1 by omega), bd_ (o_ent T2 _ _), ent_n _ _ hno]
    dsimp only
    rw [if_pos rfl, bd_ (o_cnt T2 6 (by decide) (by decide)), cv6]
    dsimp only
    rw [if_pos (show (delA a (blw a l5)).2.2 1 = a.2.2 1 from rfl)]
    exact GD.mk_ rfl T2
  · have hR : remF a l5 = (-1, a) := cIf_t hh
    rw [hR] at hneg ⊢
    have T2 := hneg (show (-1 : Int) < 0 by decide)
    rw [if_neg (fun q => hh (k_has.mp q)), if_pos rfl, bd_ (o_ent T2 _ _), ent_n _ _ hh]
    dsimp only
    rw [if_pos rfl, bd_ (o_cnt T2 6 (by decide) (by decide)), cv6]
    dsimp only
    rw [if_pos rfl]
    exact GD.mk_ rfl T2
end ST
