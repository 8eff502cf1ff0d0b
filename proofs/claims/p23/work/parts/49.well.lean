/-! THE FIRST SHELF IS WELL -/
noncomputable def T4 (a : AS) (r : Nat) : Int := sumN (fun j => cIf (fstT a j) (oneW j) 0) r
noncomputable def U5 (a : AS) (r : Nat) : Int := sumN (fun j => cIf (fstT a j) (lenW a j) 0) r
def Pk (a : AS) (r k : Nat) : Prop := ∀ i, i < k → i < r → ¬ a.2.1 2 i = a.2.1 2 r
noncomputable def fk (a : AS) (r k : Nat) : Int := cIf (Pk a r k) 1 0
noncomputable def ck (a : AS) (r k : Nat) : Int := sumN (fun j => cIf (a.2.1 2 j = a.2.1 2 r ∧ ¬ a.2.1 1 j = -5) 1 0) k
section WL
variable {m : Mem2} {a : AS} {hn : Nat} {H : Nat → AS} {N : Int}
theorem ck_rg (a : AS) (r k : Nat) : 0 ≤ ck a r k ∧ ck a r k ≤ k := sum1 (fun j => c01) k
theorem fk_s (a : AS) (r k : Nat) : fk a r (k + 1) = if fk a r k = 0 then 0 else if a.2.1 2 k = a.2.1 2 r ∧ k < r then 0 else 1 := by
  unfold fk
  by_cases h : Pk a r k
  · rw [cIf_t h, if_neg (by decide)]
    by_cases z : a.2.1 2 k = a.2.1 2 r ∧ k < r
    · rw [if_pos z, cIf_f (fun q => q k (by omega) z.2 z.1)]
    · have hp : Pk a r (k + 1) := by
        intro i hi hr e
        by_cases y : i = k
        · subst y; exact z ⟨e, hr⟩
        · exact h i (by omega) hr e
      rw [if_neg z, cIf_t hp]
  · rw [cIf_f h, if_pos rfl, cIf_f (fun q => h (fun i hi hr => q i (by omega) hr))]
theorem fk_e (r : Nat) (hr : r < a.1) : fk a r a.1 = cIf (fstT a r) 1 0 := by
  unfold fk
  by_cases h : fstT a r
  · have hp : Pk a r a.1 := fun i _ hi => h i hi
    rw [cIf_t h, cIf_t hp]
  · rw [cIf_f h, cIf_f (fun q => h (fun i hi => q i (by omega) hi))]
theorem nam_b (T : Two m a hn H N) (r : Nat) (hr : r < a.1) : mmO (f_X3_named (r : Int)) m = some (a.2.1 0 r, m) := by rw [o_nam T, namV_at r hr]
theorem ent_b (T : Two m a hn H N) (r : Nat) (hr : r < a.1) (y : Int) : mmO (f_X3_entry (a.2.1 0 r) y) m = some (entR a r y, m) := by rw [o_ent T, ent_at T.2.2.2.1.1 hr rfl]
/-- one text beside another -/
theorem in_s (T : Two m a hn H N) (k104 : Int → Int → Int → Int → Int → Int → Int → Mem2 → Option (Int × Mem2)) (fu r k : Nat) (hr : r < a.1) (hk : k < a.1) (l2 l3 l4 l5 : Int) : f_L_isWell_L220 k104 (fu + 1) (a.1 : Int) l2 l3 l4 l5 1 (r : Int) (a.2.1 0 r) (a.2.1 2 r) (a.2.1 3 r) (fk a r k) (ck a r k) (k : Int) m = f_L_isWell_L220 k104 fu (a.1 : Int) l2 l3 l4 l5 1 (r : Int) (a.2.1 0 r) (a.2.1 2 r) (a.2.1 3 r) (fk a r (k + 1)) (ck a r (k + 1)) ((k + 1 : Nat) : Int) m := by
  have w := T.2.2.2.1.1
  have mb := T.2.2.2.1.2.2
  have h24 := w.n24
  have hw := w.1
  have hbr := w.2.2.1 r hr
  have hbk := w.2.2.1 k hk
  have hck := ck_rg a r k
  -- the sum's end
  have add : ∀ (f v : Int), 0 ≤ v ∧ v ≤ 1 → f_L_isWell_L309 k104 (f_L_isWell_L220 k104 fu) (a.1 : Int) l2 l3 l4 l5 (r : Int) (a.2.1 0 r) (a.2.1 2 r) (a.2.1 3 r) f (k : Int) (a.2.1 0 k) (a.2.1 2 k) (if a.2.1 2 k = a.2.1 2 r then 1 else 0) v (ck a r k) m = f_L_isWell_L220 k104 fu (a.1 : Int) l2 l3 l4 l5 1 (r : Int) (a.2.1 0 r) (a.2.1 2 r) (a.2.1 3 r) f (ck a r k + v) ((k + 1 : Nat) : Int) m := by
    intro f v hv01
    unfold f_L_isWell_L309
    rw [mmK_p (show inR (ck a r k + v) by constructor <;> omega)]
    by_cases z : a.2.1 2 k = a.2.1 2 r
    · have e3 := w.2.2.2.1 k r hk hr z
      have e4 := mb.2 k r hk hr z
      rw [if_pos z, if_neg (by decide), bd_ (ent_b T k hk 4), er4]
      dsimp only
      rw [if_pos e3, bd_ (ent_b T k hk 5), er5]
      dsimp only
      rw [bd_ (ent_b T r hr 5), er5]
      dsimp only
      rw [if_pos e4]
      by_cases y : (k : Int) = r
      · rw [if_pos y, mmK_p (by constructor <;> omega), ci_1]
      · have h1 := ali01 a k
        have h2 := ali01 a r
        have h3 : ¬ aliW a k + aliW a r ≤ 0 := by
          intro q
          have q1 : aliW a k = 0 := by omega
          have q2 : aliW a r = 0 := by omega
          have g : ∀ j, aliW a j = 0 → a.2.1 1 j = -5 := fun j e => Classical.byContradiction (fun n => by
            have : aliW a j = 1 := cIf_f n
            omega)
          exact mb.1 k r hk hr (by omega) z ⟨g k q1, g r q2⟩
        rw [if_neg y, bd_ (ent_b T k hk 2), er2]
        dsimp only
        rw [bd_ (ent_b T r hr 2), er2]
        dsimp only
        rw [mmK_p (by constructor <;> omega), if_neg h3, mmK_p (by constructor <;> omega), ci_1]
    · rw [if_neg z, if_pos rfl, mmK_p (show inR (a.2.1 2 r + a.2.1 3 r) by constructor <;> omega)]
      by_cases y : a.2.1 2 r + a.2.1 3 r ≤ a.2.1 2 k
      · rw [if_pos y, mmK_p (show inR ((k : Int) + 1) by constructor <;> omega), ci_1]
      · have y2 : a.2.1 2 k + a.2.1 3 k ≤ a.2.1 2 r := by
          rcases Int.lt_trichotomy (a.2.1 2 k) (a.2.1 2 r) with q | q | q
          · exact w.2.2.2.2 k r hk hr q
          · exact absurd q z
          · exact absurd (w.2.2.2.2 r k hr hk q) y
        rw [if_neg y, bd_ (ent_b T k hk 4), er4]
        dsimp only
        rw [mmK_p (show inR (a.2.1 2 k + a.2.1 3 k) by constructor <;> omega), if_neg (by omega), mmK_p (show inR ((k : Int) + 1) by constructor <;> omega), ci_1]
  have cs : ck a r (k + 1) = ck a r k + cIf (a.2.1 2 k = a.2.1 2 r ∧ ¬ a.2.1 1 k = -5) 1 0 := rfl
  -- its aliases
  have its : ∀ f : Int, f_L_isWell_L284 k104 (f_L_isWell_L220 k104 fu) (a.1 : Int) l2 l3 l4 l5 (r : Int) (a.2.1 0 r) (a.2.1 2 r) (a.2.1 3 r) (ck a r k) (k : Int) (a.2.1 0 k) (a.2.1 2 k) (if a.2.1 2 k = a.2.1 2 r then 1 else 0) f m = f_L_isWell_L220 k104 fu (a.1 : Int) l2 l3 l4 l5 1 (r : Int) (a.2.1 0 r) (a.2.1 2 r) (a.2.1 3 r) f (ck a r (k + 1)) ((k + 1 : Nat) : Int) m := by
    intro f
    unfold f_L_isWell_L284 f_L_isWell_L308
    rw [cs]
    by_cases z : a.2.1 2 k = a.2.1 2 r
    · rw [if_neg (by rw [if_pos z]; decide), bd_ (ent_b T k hk 2), er2]
      dsimp only
      by_cases y : a.2.1 1 k = -5
      · rw [show aliW a k = 0 from cIf_t y, if_neg (by decide), add _ _ (by decide), cIf_f (fun q => q.2 y)]
      · rw [show aliW a k = 1 from cIf_f y, if_pos rfl, add _ _ (by decide), cIf_t ⟨z, y⟩]
    · rw [if_pos (by rw [if_neg z]), add _ _ (by decide), cIf_f (fun q => z q.1)]
  rw [f_L_isWell_L220, if_neg (by omega), if_neg (by decide), bd_ (nam_b T k hk)]
  dsimp only
  rw [bd_ (ent_b T k hk 3), er3]
  dsimp only
  rw [fk_s]
  unfold f_L_isWell_L260 f_L_isWell_L283 f_L_isWell_L279
  by_cases z : a.2.1 2 k = a.2.1 2 r
  · have e1 : (if a.2.1 2 k = a.2.1 2 r then (1 : Int) else 0) = 1 := if_pos z
    rw [e1] at its
    rw [if_pos z]
    by_cases f0 : fk a r k = 0
    · rw [if_pos f0, if_pos f0]
      exact its 0
    · rw [if_neg f0, if_neg f0, if_neg (by decide)]
      by_cases y : k < r
      · rw [if_pos (by omega), if_pos ⟨z, y⟩]
        exact its 0
      · rw [if_neg (by omega), if_neg (fun q => y q.2)]
        exact its 1
  · have e1 : (if a.2.1 2 k = a.2.1 2 r then (1 : Int) else 0) = 0 := if_neg z
    rw [e1] at its
    rw [if_neg z]
    by_cases f0 : fk a r k = 0
    · rw [if_pos f0, if_pos f0]
      exact its 0
    · rw [if_neg f0, if_neg f0, if_pos rfl, if_neg (fun q => z q.1)]
      exact its 1
theorem in_l (T : Two m a hn H N) (k104 : Int → Int → Int → Int → Int → Int → Int → Mem2 → Option (Int × Mem2)) (r : Nat) (hr : r < a.1) (l2 l3 l4 l5 : Int) : ∀ (d fu k : Nat), k + d = a.1 → d < fu → f_L_isWell_L220 k104 fu (a.1 : Int) l2 l3 l4 l5 1 (r : Int) (a.2.1 0 r) (a.2.1 2 r) (a.2.1 3 r) (fk a r k) (ck a r k) (k : Int) m = f_L_isWell_L417 k104 (a.1 : Int) l2 l3 l4 l5 1 (r : Int) (a.2.1 0 r) (a.2.1 2 r) (a.2.1 3 r) (fk a r a.1) (ck a r a.1) m := by
  intro d
  induction d with
  | zero =>
    intro fu k hk hf
    obtain ⟨q, rfl⟩ : ∃ q, fu = q + 1 := ⟨fu - 1, by omega⟩
    rw [f_L_isWell_L220, if_pos (by omega), show k = a.1 by omega]
  | succ d ih =>
    intro fu k hk hf
    obtain ⟨q, rfl⟩ : ∃ q, fu = q + 1 := ⟨fu - 1, by omega⟩
    rw [in_s T k104 q r k hr (by omega)]
    exact ih q (k + 1) (by omega) (by omega)
theorem unL_r (w : wfA a N) (r : Nat) (hr : r < a.1) : ∀ (d i : Nat), i + d = a.1 → i ≤ r → unL a (a.2.1 2 r) d i ≤ a.2.1 0 r := by
  have hb := w.2.2.1 r hr
  intro d
  induction d with
  | zero => intro i hi hir; omega
  | succ d ih =>
    intro i hi hir
    rw [unL]
    by_cases z : a.2.1 2 i ≤ a.2.1 2 r ∧ a.2.1 2 r < a.2.1 2 i + a.2.1 3 i
    · rw [if_pos z]
      by_cases y : i = r
      · rw [y]; exact Int.le_refl _
      · have := w.2.1 i r (by omega) hr; omega
    · rw [if_neg z]
      by_cases y : i = r
      · subst y; omega
      · exact ih (i + 1) (by omega) (by omega)
theorem unV_r (w : wfA a N) (r : Nat) (hr : r < a.1) : unV a (a.2.1 2 r) ≤ a.2.1 0 r := by
  have hb := w.2.2.1 r hr
  have hw := w.1
  unfold unV
  rw [if_neg (by omega), if_pos (by omega)]
  exact unL_r w r hr a.1 0 (by omega) (by omega)
/-- an entry's own end -/
theorem out_e (T : Two m a hn H N) (k104 : Int → Int → Int → Int → Int → Int → Int → Mem2 → Option (Int × Mem2)) (r : Nat) (hr : r < a.1) : f_L_isWell_L417 k104 (a.1 : Int) (sumN (aliW a) r) (sumN (lstV a) r) (T4 a r) (U5 a r) 1 (r : Int) (a.2.1 0 r) (a.2.1 2 r) (a.2.1 3 r) (fk a r a.1) (ck a r a.1) m = k104 (a.1 : Int) (sumN (aliW a) (r + 1)) (sumN (lstV a) (r + 1)) (T4 a (r + 1)) (U5 a (r + 1)) 1 ((r + 1 : Nat) : Int) m := by
  have w := T.2.2.2.1.1
  have h24 := w.n24
  have hw := w.1
  have hb := w.2.2.1 r hr
  have hal := sum1 (ali01 a) r
  have hls := sum1 (lst01 a) r
  have hal1 := ali01 a r
  have hls1 := lst01 a r
  have ht4 := sum40 (a := a) (P := fstT a) (one_rg (a := a)) r (by omega)
  have hu5 := sum40 (P := fstT a) (len_rg w) r (by omega)
  have e2 : sumN (aliW a) (r + 1) = sumN (aliW a) r + aliW a r := rfl
  have e3 : sumN (lstV a) (r + 1) = sumN (lstV a) r + lstV a r := rfl
  have e4 : T4 a (r + 1) = T4 a r + cIf (fstT a r) 1 0 := rfl
  have e5 : U5 a (r + 1) = U5 a r + cIf (fstT a r) (a.2.1 3 r) 0 := rfl
  have hU := unV_r w r hr
  have last : ∀ (u4 u5 v5 : Int), inR (u5 + v5) → f_L_isWell_L445 k104 (a.1 : Int) (sumN (aliW a) r) (sumN (lstV a) r) u4 1 (r : Int) (a.2.1 0 r) (a.2.1 2 r) (ck a r a.1) v5 u5 m = k104 (a.1 : Int) (sumN (aliW a) r + aliW a r) (sumN (lstV a) r + lstV a r) u4 (u5 + v5) 1 ((r + 1 : Nat) : Int) m := by
    intro u4 u5 v5 hin
    unfold f_L_isWell_L445
    rw [mmK_p hin, bd_ (ent_b T r hr 2), er2]
    dsimp only
    rw [mmK_p (by constructor <;> omega), bd_ (ent_b T r hr 8), er8]
    dsimp only
    rw [mmK_p (by constructor <;> omega), bd_ (ent_b T r hr 7), er7]
    dsimp only
    rw [if_neg (by decide), bd_ (ent_b T r hr 6), er6]
    dsimp only
    rw [if_pos (show aofV a (a.2.1 2 r) = ck a r a.1 from rfl), bd_ (o_at T _)]
    dsimp only
    rw [if_neg (by omega), bd_ (ent_b T r hr 2), er2]
    dsimp only
    by_cases zg : a.2.1 1 r = -5
    · have a0 : aliW a r = 0 := cIf_t zg
      have s0 : lstV a r = 0 := cIf_t (Or.inl zg)
      rw [if_pos a0, if_pos zg, bd_ (ent_b T r hr 8), er8]
      dsimp only
      rw [if_pos s0, mmK_p (by constructor <;> omega), ci_1]
    · have a1 : aliW a r = 1 := cIf_f zg
      rw [if_neg (by omega), bd_ (ent_b T r hr 8), er8]
      dsimp only
      unfold f_L_isWell_L555
      by_cases zs : lstV a r = 0
      · have q : memN a (a.2.1 1 r) ∧ a.2.1 2 (blw a (a.2.1 1 r)) = a.2.1 2 r := Classical.byContradiction (fun n => by
          have : lstV a r = 1 := cIf_f (fun q => q.elim zg n)
          omega)
        rw [if_pos zs, bd_ (o_ent T _ _), k_mem q.1]
        dsimp only
        rw [if_pos rfl, bd_ (o_ent T _ _), ent_y _ _ q.1.1, er3]
        dsimp only
        rw [if_pos q.2, if_pos rfl, mmK_p (by constructor <;> omega), ci_1]
      · have q : ¬ (memN a (a.2.1 1 r) ∧ a.2.1 2 (blw a (a.2.1 1 r)) = a.2.1 2 r) := fun n => zs (cIf_t (Or.inr n))
        rw [if_neg zs, bd_ (o_ent T _ _)]
        dsimp only
        by_cases zm : memN a (a.2.1 1 r)
        · rw [if_pos (k_mem zm), bd_ (o_ent T _ _), ent_y _ _ zm.1, er3]
          dsimp only
          rw [if_neg (fun e => q ⟨zm, e⟩), if_pos rfl, mmK_p (by constructor <;> omega), ci_1]
        · rw [if_neg (fun e => zm (k_0.mp e)), if_pos rfl, mmK_p (by constructor <;> omega), ci_1]
  have ht4' : 0 ≤ T4 a r ∧ T4 a r ≤ 40 * r := ht4
  have hu5' : 0 ≤ U5 a r ∧ U5 a r ≤ 40 * r := hu5
  unfold f_L_isWell_L417 f_L_isWell_L429
  rw [fk_e r hr, e2, e3, e4, e5]
  by_cases z : fstT a r
  · rw [cIf_t z, cIf_t z, if_neg (by decide), mmK_p (by constructor <;> omega), if_neg (by decide)]
    exact last _ _ _ (by constructor <;> omega)
  · rw [cIf_f z, cIf_f z, if_pos rfl, mmK_p (by constructor <;> omega), if_pos rfl]
    exact last _ _ _ (by constructor <;> omega)
theorem out_l (T : Two m a hn H N) : ∀ (d fu r : Nat), r + d = a.1 → d < fu → f_L_isWell_L104 fu (a.1 : Int) (sumN (aliW a) r) (sumN (lstV a) r) (T4 a r) (U5 a r) 1 (r : Int) m = some (1, m) := by
  have w := T.2.2.2.1.1
  have h24 := w.n24
  have hw := w.1
  have hal := sum1 (ali01 a) a.1
  intro d
  induction d with
  | zero =>
    intro fu r hr hf
    obtain ⟨q, rfl⟩ : ∃ q, fu = q + 1 := ⟨fu - 1, by omega⟩
    have hra : r = a.1 := by omega
    subst hra
    rw [f_L_isWell_L104, if_pos (Int.le_refl _)]
    unfold f_L_isWell_L598
    rw [if_neg (by decide), bd_ (o_cnt T 2 (by decide) (by decide)), cv2]
    dsimp only
    rw [if_pos (show sumN (aliW a) a.1 = aliV a from rfl), mmK_p (by constructor <;> omega), bd_ (o_cnt T 1 (by decide) (by decide)), cv1]
    dsimp only
    rw [if_pos (show (a.1 : Int) - sumN (aliW a) a.1 = (a.1 : Int) - aliV a from rfl), bd_ (o_cnt T 3 (by decide) (by decide)), cv3]
    dsimp only
    rw [if_pos (show sumN (lstV a) a.1 = losV a from rfl), bd_ (o_cnt T 10 (by decide) (by decide)), cv10]
    dsimp only
    rw [if_pos (show T4 a a.1 = livT a from (lay_sum w oneW).symm), bd_ (o_cnt T 7 (by decide) (by decide)), cv7]
    dsimp only
    rw [if_pos (show U5 a a.1 = livU a from (lay_sum w (lenW a)).symm)]
  | succ d ih =>
    intro fu r hr hf
    obtain ⟨q, rfl⟩ : ∃ q, fu = q + 1 := ⟨fu - 1, by omega⟩
    have hrl : r < a.1 := by omega
    have hb := w.2.2.1 r hrl
    have f0 : fk a r 0 = 1 := cIf_t (fun i hi => absurd hi (Nat.not_lt_zero i))
    have c0 : ck a r 0 = 0 := rfl
    have inner := in_l T (f_L_isWell_L104 q) r hrl (sumN (aliW a) r) (sumN (lstV a) r) (T4 a r) (U5 a r) a.1 mmFU 0 (by omega) (by unfold mmFU; omega)
    rw [f0, c0, show ((0 : Nat) : Int) = 0 from rfl, out_e T _ r hrl, ih q (r + 1) (by omega) (by omega)] at inner
    have l191 : f_L_isWell_L191 (f_L_isWell_L104 q) (a.1 : Int) (sumN (aliW a) r) (sumN (lstV a) r) (T4 a r) (U5 a r) (r : Int) (a.2.1 0 r) (a.2.1 2 r) (a.2.1 3 r) 1 0 m = some (1, m) := by
      unfold f_L_isWell_L191
      rw [if_neg (by omega), mmK_p (by constructor <;> omega), bd_ (o_cnt T 6 (by decide) (by decide)), cv6]
      dsimp only
      rw [if_neg (by omega)]
      exact inner
    rw [f_L_isWell_L104, if_neg (by omega), if_neg (by decide), bd_ (nam_b T r hrl)]
    dsimp only
    rw [bd_ (ent_b T r hrl 3), er3]
    dsimp only
    rw [bd_ (ent_b T r hrl 4), er4]
    dsimp only
    rw [bd_ (ent_b T r hrl 0), er0]
    dsimp only
    rw [if_pos rfl, bd_ (ent_b T r hrl 1), er1]
    dsimp only
    rw [mmK_p (by omega), mmK_p (by constructor <;> omega), if_pos rfl]
    by_cases z : (r : Int) = 0
    · rw [if_pos z]
      exact l191
    · have hs := w.2.1 (r - 1) r (by omega) hrl
      rw [if_neg z, mmK_p (by constructor <;> omega), show (r : Int) - 1 = ((r - 1 : Nat) : Int) by omega, bd_ (nam_b T (r - 1) (by omega))]
      dsimp only
      rw [if_neg (by omega)]
      exact l191
theorem well_ok (T : Two m a hn H N) : f_L_isWell m = some (1, m) := by
  have w := T.2.2.2.1.1
  have h24 := w.n24
  have hw := w.1
  have hrg := lay_rg w.n24 (len_rg w) 100
  have fin := out_l T a.1 mmFU 0 (by omega) (by unfold mmFU; omega)
  unfold f_L_isWell
  rw [bd_ (o_cnt T 0 (by decide) (by decide)), cv0]
  dsimp only
  rw [bd_ (o_cnt T 4 (by decide) (by decide)), cv4]
  dsimp only
  rw [mmK_p (by constructor <;> omega), if_neg (by omega), bd_ (o_cnt T 5 (by decide) (by decide)), cv5]
  dsimp only
  rw [bd_ (o_cnt T 4 (by decide) (by decide)), cv4]
  dsimp only
  rw [mmK_p (by constructor <;> omega), mmK_p (by constructor <;> omega), if_pos (by omega), bd_ (o_cnt T 9 (by decide) (by decide)), cv9]
  dsimp only
  rw [bd_ (o_cnt T 6 (by decide) (by decide)), cv6]
  dsimp only
  rw [mmK_p (by constructor <;> omega), if_pos rfl, bd_ (o_cnt T 8 (by decide) (by decide)), cv8]
  dsimp only
  rw [bd_ (o_cnt T 6 (by decide) (by decide)), cv6]
  dsimp only
  rw [bd_ (o_cnt T 7 (by decide) (by decide)), cv7]
  dsimp only
  have hn5 : namV a (a.1 : Int) = -5 := by
    unfold namV
    rw [if_neg (by omega), if_neg (by omega)]
  unfold livU
  rw [mmK_p (by constructor <;> omega), if_pos rfl, bd_ (o_nam T _), hn5]
  dsimp only
  rw [if_pos rfl]
  exact fin
end WL
