
/-! THE LAW'S MACHINE: two shelves, o's 51 cells and p's 51 behind them; the script is the cell 102 -/
abbrev Mem2 : Type := Mem × Mem
def ad2 (ad : Nat → Nat) : Nat → Nat := fun i => ad (i + 51)
def mm2R (m : Mem2) : Prop := mmR m.1 ∧ mmR m.2
def cell2 (cy : ClassId × ClassId × ClassId) (ad : Nat → Nat) (m : Mem2) (i : Nat) : va_E := if i < 51 then mmCell cy ad m.1 i else mmCell cy (ad2 ad) m.2 (i - 51)
def mmW2 (cy : ClassId × ClassId × ClassId) (ad : Nat → Nat) (m : Mem2) : va_W := mmW cy ad m.1 ++ mmW cy (ad2 ad) m.2
theorem mmW2_len (cy : ClassId × ClassId × ClassId) (ad : Nat → Nat) (m : Mem2) : (mmW2 cy ad m).length = 102 := by
  unfold mmW2
  rw [List.length_append, mmW_len, mmW_len]
theorem W2l {cy : ClassId × ClassId × ClassId} {ad : Nat → Nat} {m : Mem2} {k : Nat} {q : Nat × va_E} (h : (mmW cy ad m.1)[k]? = some q) : (mmW2 cy ad m)[k]? = some q := by
  unfold mmW2
  rw [List.getElem?_append_left (List.getElem?_eq_some_iff.mp h).1]
  exact h
theorem W2r {cy : ClassId × ClassId × ClassId} {ad : Nat → Nat} {m : Mem2} {k : Nat} {q : Nat × va_E} (h : (mmW cy (ad2 ad) m.2)[k]? = some q) : (mmW2 cy ad m)[k + 51]? = some q := by
  unfold mmW2
  rw [List.getElem?_append_right (by rw [mmW_len]; omega), mmW_len, Nat.add_sub_cancel]
  exact h
theorem W2c {cy : ClassId × ClassId × ClassId} {ad : Nat → Nat} {m : Mem2} {k : Nat} {q : Nat × va_E} (h : (mmW2 cy ad m)[k]? = some q) : (k < 51 ∧ (mmW cy ad m.1)[k]? = some q) ∨ (51 ≤ k ∧ (mmW cy (ad2 ad) m.2)[k - 51]? = some q) := by
  unfold mmW2 at h
  rcases Nat.lt_or_ge k 51 with z | z
  · rw [List.getElem?_append_left (by rw [mmW_len]; exact z)] at h
    exact Or.inl ⟨z, h⟩
  · rw [List.getElem?_append_right (by rw [mmW_len]; exact z), mmW_len] at h
    exact Or.inr ⟨z, h⟩
theorem mmW2_at (cy : ClassId × ClassId × ClassId) (ad : Nat → Nat) (m : Mem2) {i : Nat} (h : i < 102) : (mmW2 cy ad m)[i]? = some (ad i, cell2 cy ad m i) := by
  unfold cell2
  by_cases z : i < 51
  · rw [if_pos z]
    exact W2l (mmW_at cy ad m.1 z)
  · rw [if_neg z]
    have h2 := W2r (mmW_at cy (ad2 ad) m.2 (i := i - 51) (by omega))
    have e : i - 51 + 51 = i := by omega
    have e2 : ad2 ad (i - 51) = ad i := by unfold ad2; rw [e]
    rw [e, e2] at h2
    exact h2
theorem W2Do {A : Nat → Prop} {cy : ClassId × ClassId × ClassId} {ad : Nat → Nat} {m : Mem2} (h : va_D A (mmW2 cy ad m)) : va_D A (mmW cy ad m.1) := ⟨fun i j p q hi hj e => h.1 i j p q (W2l hi) (W2l hj) e, fun k q hk => h.2 k q (W2l hk)⟩
theorem W2Dp {A : Nat → Prop} {cy : ClassId × ClassId × ClassId} {ad : Nat → Nat} {m : Mem2} (h : va_D A (mmW2 cy ad m)) : va_D A (mmW cy (ad2 ad) m.2) := ⟨fun i j p q hi hj e => by have := h.1 _ _ p q (W2r hi) (W2r hj) e; omega, fun k q hk => h.2 _ q (W2r hk)⟩
theorem W2Po {D : va_G} {cl : List vw_C} {H : Heap} {cy : ClassId × ClassId × ClassId} {ad : Nat → Nat} {m : Mem2} (h : va_P D cl (mmW2 cy ad m) H) : va_P D cl (mmW cy ad m.1) H := fun k q hk => h k q (W2l hk)
theorem W2Pp {D : va_G} {cl : List vw_C} {H : Heap} {cy : ClassId × ClassId × ClassId} {ad : Nat → Nat} {m : Mem2} (h : va_P D cl (mmW2 cy ad m) H) : va_P D cl (mmW cy (ad2 ad) m.2) H := fun k q hk => h _ q (W2r hk)
/-- the frame rule: the other shelf's cells stand as they stood -/
theorem W2So {A : Nat → Prop} {D : va_G} {cl : List vw_C} {H H1 : Heap} {cy : ClassId × ClassId × ClassId} {ad : Nat → Nat} {m : Mem2} {r : Mem} (hP : va_P D cl (mmW2 cy ad m) H) (hD : va_D A (mmW2 cy ad m)) (hk : ∀ q : Nat, q < H.size → ¬ va_A (mmW cy ad m.1) H.size q → H1[q]? = H[q]?) (hB : va_P D cl (mmW cy ad r) H1) : va_P D cl (mmW2 cy ad (r, m.2)) H1 := by
  intro k q hq
  rcases W2c hq with ⟨z, h⟩ | ⟨z, h⟩
  · exact hB k q h
  · have h2 : (mmW2 cy ad m)[k]? = some q := by
      have := W2r (m := m) h
      rwa [show k - 51 + 51 = k by omega] at this
    have hl := (hP k q h2).lt
    refine (hP k q h2).kept (hk q.1 hl ?_)
    rintro (⟨k2, e, h3⟩ | h3)
    · have h4 := (List.getElem?_eq_some_iff.mp h3).1
      rw [mmW_len] at h4
      have := hD.1 k k2 q (q.1, e) h2 (W2l h3) rfl
      omega
    · omega
theorem W2Sp {A : Nat → Prop} {D : va_G} {cl : List vw_C} {H H1 : Heap} {cy : ClassId × ClassId × ClassId} {ad : Nat → Nat} {m : Mem2} {r : Mem} (hP : va_P D cl (mmW2 cy ad m) H) (hD : va_D A (mmW2 cy ad m)) (hk : ∀ q : Nat, q < H.size → ¬ va_A (mmW cy (ad2 ad) m.2) H.size q → H1[q]? = H[q]?) (hB : va_P D cl (mmW cy (ad2 ad) r) H1) : va_P D cl (mmW2 cy ad (m.1, r)) H1 := by
  intro k q hq
  rcases W2c hq with ⟨z, h⟩ | ⟨z, h⟩
  · have h2 : (mmW2 cy ad m)[k]? = some q := W2l h
    have hl := (hP k q h2).lt
    refine (hP k q h2).kept (hk q.1 hl ?_)
    rintro (⟨k2, e, h3⟩ | h3)
    · have := hD.1 k (k2 + 51) q (q.1, e) h2 (W2r h3) rfl
      omega
    · omega
  · exact hB (k - 51) q h
/-- a shelf's function, of o or of p -/
def w32 (x : Int) : Int := (Int32.ofInt x).toInt
def and7 (x : Int) : Int := (Int32.ofInt x &&& Int32.ofInt 2147483647).toInt
def shr (x y : Int) : Int := (Int32.ofInt x >>> (Int32.ofInt y &&& 31)).toInt
def mmO (f : Mem → Option (Int × Mem)) (m : Mem2) : Option (Int × Mem2) := (f m.1).map (fun r => (r.1, (r.2, m.2)))
def mmP (f : Mem → Option (Int × Mem)) (m : Mem2) : Option (Int × Mem2) := (f m.2).map (fun r => (r.1, (m.1, r.2)))
theorem mmO_e {f : Mem → Option (Int × Mem)} {m : Mem2} {q : Int × Mem2} (h : mmO f m = some q) : ∃ r, f m.1 = some r ∧ q = (r.1, (r.2, m.2)) := by
  unfold mmO at h
  cases hf : f m.1 with
  | none => rw [hf] at h; cases h
  | some r => rw [hf] at h; cases h; exact ⟨r, rfl, rfl⟩
theorem mmP_e {f : Mem → Option (Int × Mem)} {m : Mem2} {q : Int × Mem2} (h : mmP f m = some q) : ∃ r, f m.2 = some r ∧ q = (r.1, (m.1, r.2)) := by
  unfold mmP at h
  cases hf : f m.2 with
  | none => rw [hf] at h; cases h
  | some r => rw [hf] at h; cases h; exact ⟨r, rfl, rfl⟩
abbrev GT : Type := State → (Nat → Prop) → (Nat → Nat) → Prop
/-- what a callee is told of the script, out of what its caller knows -/
def GP (G' G : GT) : Prop := ∀ ⦃s U : State⦄ ⦃A : Nat → Prop⦄ ⦃ad : Nat → Nat⦄ ⦃H : Heap⦄ ⦃locs : List Loc⦄ ⦃cy : ClassId × ClassId × ClassId⦄ ⦃m : Mem2⦄, G' s A ad → va_S A s.heap H locs → (∀ q, va_A (mmW2 cy ad m) H.size q → A q) → U.heap = H → s.WarmedH U.vm → G U (va_A (mmW2 cy ad m) H.size) ad
def GB (G : GT) : Prop := ∀ ⦃U : State⦄ ⦃g : JFrame⦄ ⦃mk : MethodId⦄ ⦃a : Array Value⦄ ⦃A : Nat → Prop⦄ ⦃ad : Nat → Nat⦄, G U A ad → G (U.calling g mk a) A ad
theorem GP0 (G' : GT) : GP G' mmG0 := fun _ _ _ _ _ _ _ _ _ _ _ _ _ => trivial
theorem GB0 : GB mmG0 := fun _ _ _ _ _ _ _ => trivial
def mm2L (L : Nat) (xs : Nat → Int32) : GT := fun s A ad => va_X (ad 102) L xs s s.heap ∧ ad 102 < s.heap.size ∧ ¬ A (ad 102)
theorem GPL {L : Nat} {xs : Nat → Int32} : GP (mm2L L xs) (mm2L L xs) := by
  intro s U A ad H locs cy m h hS hF hU hW
  obtain ⟨h1, h2, h3⟩ := h
  subst hU
  exact ⟨(h1.kept (hS.2.1 _ h2 h3)).moved hW.alike, Nat.lt_of_lt_of_le h2 hS.1, fun z => h3 (hF _ z)⟩
theorem GBL {L : Nat} {xs : Nat → Int32} : GB (mm2L L xs) := by
  intro U g mk a A ad h
  obtain ⟨h1, h2, h3⟩ := h
  exact ⟨h1.moved (u := U) (U := U.calling g mk a) (Vm.Alike.refl U.vm), h2, h3⟩
theorem inR_t (x : Int32) : inR x.toInt := by have := x.le_toInt; have := x.toInt_lt; constructor <;> omega
theorem inR_L {L : Nat} (h : L ≤ 260) : inR (L : Int) := by constructor <;> omega
theorem inR_mod32 (x : Int) : inR (x % 32) := by constructor <;> omega
theorem inR_modc (x : Int) : inR (x % 65536) := by constructor <;> omega
theorem oi_natmod (x : Int) (k : Nat) (hk : k ≤ 16) : ((Int32.ofInt x).toBitVec.toNat % 2 ^ k : Nat) = (x % (2 ^ k : Nat)).toNat := by
  have h1 : (Int32.ofInt x).toBitVec.toNat = (x % 2 ^ 32).toNat := by
    show (BitVec.ofInt 32 x).toNat = _
    rw [BitVec.toNat_ofInt]
    rfl
  rw [h1]
  have h2 : (0 : Int) ≤ x % 2 ^ 32 := Int.emod_nonneg _ (by decide)
  have h3 : ((2 : Int) ^ 32) = (2 ^ k : Nat) * (2 ^ (32 - k) : Nat) := by
    rw [← Int.natCast_mul, ← Nat.pow_add]
    have : k + (32 - k) = 32 := by omega
    rw [this]; rfl
  have h4 : x % 2 ^ 32 % (2 ^ k : Nat) = x % (2 ^ k : Nat) := Int.emod_emod_of_dvd _ ⟨_, h3⟩
  apply Int.ofNat.inj
  show ((((x % 2 ^ 32).toNat % 2 ^ k : Nat)) : Int) = (((x % (2 ^ k : Nat)).toNat : Nat) : Int)
  rw [Int.natCast_emod, Int.toNat_of_nonneg h2, h4, Int.toNat_of_nonneg (Int.emod_nonneg _ (by have : 0 < 2 ^ k := Nat.two_pow_pos k; omega))]
theorem nI_oi {n : Int} (h : 0 ≤ n) : nI n.toNat = Int32.ofInt n := by
  obtain ⟨k, rfl⟩ := Int.eq_ofNat_of_zero_le h
  rw [Int32.ofInt_eq_ofNat]; rfl
theorem inR_w32 (x : Int) : inR (w32 x) := inR_t _
theorem inR_and7 (x : Int) : inR (and7 x) := inR_t _
theorem inR_shr (x y : Int) : inR (shr x y) := inR_t _
theorem inR_rem {x y : Int} (hx : inR y) (h : 0 ≤ x ∧ 0 < y) : inR (x % y) := by
  have h1 := Int.emod_nonneg x (show y ≠ 0 by omega)
  have h2 := Int.emod_lt_of_pos x h.2
  have := hx.2
  constructor <;> omega
/-- what stands through a method -/
def mm2C (own : String) (cc : ByteArray) (nL : Nat) (R : Room) (G : State → (Nat → Prop) → (Nat → Nat) → Prop) (Po : Option Value → Mem2 → Prop) (p : Program) (l : Launch) (e : Env) (s : State) (mi : MethodId) (args : Array Value) (below : List Frame) (meth : Method) (c : Code) (cells slots : Nat) (Q : State → Prop) (D : va_G) (cy : ClassId × ClassId × ClassId) (ad : Nat → Nat) (A : Nat → Prop) : Prop :=
  p.tables.exec = Jvm.exec ∧ c.code = cc ∧ c.maxLocals = nL ∧ s.vm.findClass own = some mi.cls ∧ (∀ w ∈ mm_tb, w.before args s = true) ∧ (cells ≤ R.cells ∧ slots ≤ R.slots) ∧ (∀ q, s.heap.size ≤ q → A q) ∧ va_K D vwCl (mmT cy) s ∧ (∀ m, va_D A (mmW2 cy ad m)) ∧ G s A ad ∧
  (∀ (v : Option Value) (m' : Mem2) (H' : Heap) (locs' : List Loc) (ls' : Array Slot) (pc' : Nat), Po v m' → mm2R m' → mmRet cc pc' v → va_P D vwCl (mmW2 cy ad m') H' → va_S A s.heap H' locs' → W p l e R s mi args below meth c H' locs' cells slots Q (F0 mi pc' ls' (v.toList.map (mmV ad))))
def V2 (own : String) (cc : ByteArray) (nL : Nat) (R : Room) (G : State → (Nat → Prop) → (Nat → Nat) → Prop) (Po : Option Value → Mem2 → Prop) (pc : Nat) (lv : List (Nat × Value)) (st : List Value) (m : Mem2) : Prop :=
  ∀ ⦃p : Program⦄ ⦃l : Launch⦄ ⦃e : Env⦄ ⦃s : State⦄ ⦃mi : MethodId⦄ ⦃args : Array Value⦄ ⦃below : List Frame⦄ ⦃meth : Method⦄ ⦃c : Code⦄ ⦃cells slots : Nat⦄ ⦃Q : State → Prop⦄ ⦃D : va_G⦄ ⦃cy : ClassId × ClassId × ClassId⦄ ⦃ad : Nat → Nat⦄ ⦃A : Nat → Prop⦄,
    mm2C own cc nL R G Po p l e s mi args below meth c cells slots Q D cy ad A → ∀ ⦃H : Heap⦄ ⦃locs : List Loc⦄ ⦃ls : Array Slot⦄, mm2R m → va_P D vwCl (mmW2 cy ad m) H → va_S A s.heap H locs → lv_has ls nL (mmL ad lv) →
    W p l e R s mi args below meth c H locs cells slots Q (F0 mi pc ls (st.map (mmV ad)))
section RULES
variable {own : String} {cc : ByteArray} {nL : Nat} {R : Room} {G : State → (Nat → Prop) → (Nat → Nat) → Prop} {Po : Option Value → Mem2 → Prop} {pc : Nat} {lv : List (Nat × Value)} {st : List Value} {m : Mem2}
theorem X_iconst {n : Int} {v : Int} (hd : decode cc pc = .ok (.iconst n, 1)) (hv : n = v) (k : V2 own cc nL R G Po (pc + 1) lv (vi v :: st) m) : V2 own cc nL R G Po pc lv st m := by
  intro p l e s mi args below meth c cells slots Q D cy ad A C H locs ls hR hP hS hl
  subst hv
  exact lv_iconst C.1 C.2.1 hd rfl (k C hR hP hS hl)
theorem X_bipush {n : Int} {v : Int} (hd : decode cc pc = .ok (.bipush n, 2)) (hv : (Int8.ofInt n).toInt32 = Int32.ofInt v) (k : V2 own cc nL R G Po (pc + 2) lv (vi v :: st) m) : V2 own cc nL R G Po pc lv st m := by
  intro p l e s mi args below meth c cells slots Q D cy ad A C H locs ls hR hP hS hl
  exact lv_bipush C.1 C.2.1 hd hv (k C hR hP hS hl)
theorem X_sipush {n : Int} {v : Int} (hd : decode cc pc = .ok (.sipush n, 3)) (hv : (Int16.ofInt n).toInt32 = Int32.ofInt v) (k : V2 own cc nL R G Po (pc + 3) lv (vi v :: st) m) : V2 own cc nL R G Po pc lv st m := by
  intro p l e s mi args below meth c cells slots Q D cy ad A C H locs ls hR hP hS hl
  exact lv_sipush C.1 C.2.1 hd hv (k C hR hP hS hl)
theorem X_iload_n {k' : Fin 4} {x : Int} (j : Nat) (hd : decode cc pc = .ok (.iload_n k', 1)) (hk : lv[j]? = some ((k' : Nat), vi x)) (k : V2 own cc nL R G Po (pc + 1) lv (vi x :: st) m) : V2 own cc nL R G Po pc lv st m := by
  intro p l e s mi args below meth c cells slots Q D cy ad A C H locs ls hR hP hS hl
  exact lv_iload_n C.1 C.2.1 hd rfl (lv_at hl j (mmL_at hk)) (k C hR hP hS hl)
theorem X_iload {i : Nat} {x : Int} (j : Nat) (hd : decode cc pc = .ok (.iload i, 2)) (hk : lv[j]? = some (i, vi x)) (k : V2 own cc nL R G Po (pc + 2) lv (vi x :: st) m) : V2 own cc nL R G Po pc lv st m := by
  intro p l e s mi args below meth c cells slots Q D cy ad A C H locs ls hR hP hS hl
  exact lv_iload C.1 C.2.1 hd (lv_at hl j (mmL_at hk)) (k C hR hP hS hl)
theorem X_aload_n {k' : Fin 4} {x : Nat} (j : Nat) (hd : decode cc pc = .ok (.aload_n k', 1)) (hk : lv[j]? = some ((k' : Nat), .ref x)) (k : V2 own cc nL R G Po (pc + 1) lv (.ref x :: st) m) : V2 own cc nL R G Po pc lv st m := by
  intro p l e s mi args below meth c cells slots Q D cy ad A C H locs ls hR hP hS hl
  exact lv_aload_n C.1 C.2.1 hd rfl (lv_at hl j (mmL_at hk)) (k C hR hP hS hl)
theorem X_aload {i : Nat} {x : Nat} (j : Nat) (hd : decode cc pc = .ok (.aload i, 2)) (hk : lv[j]? = some (i, .ref x)) (k : V2 own cc nL R G Po (pc + 2) lv (.ref x :: st) m) : V2 own cc nL R G Po pc lv st m := by
  intro p l e s mi args below meth c cells slots Q D cy ad A C H locs ls hR hP hS hl
  exact lv_aload C.1 C.2.1 hd (lv_at hl j (mmL_at hk)) (k C hR hP hS hl)
theorem X_istore_n {k' : Fin 4} {i : Nat} {x : Int} {lv' : List (Nat × Value)} (hd : decode cc pc = .ok (.istore_n k', 1)) (hi : (k' : Nat) = i) (ho : (mmOrd lv && (mmOne lv && decide (i < nL))) = true) (hl' : mmIns i (vi x) lv = lv') (k : V2 own cc nL R G Po (pc + 1) lv' st m) : V2 own cc nL R G Po pc lv (vi x :: st) m := by
  intro p l e s mi args below meth c cells slots Q D cy ad A C H locs ls hR hP hS hl
  subst hl'
  simp only [Bool.and_eq_true, decide_eq_true_eq] at ho
  exact lv_istore_n C.1 C.2.1 hd hi hl ho.2.2 rfl (fun ls2 hl2 => k C hR hP hS (mmL_store ho.1 ho.2.1 hl2))
theorem X_istore {i : Nat} {x : Int} {lv' : List (Nat × Value)} (hd : decode cc pc = .ok (.istore i, 2)) (ho : (mmOrd lv && (mmOne lv && decide (i < nL))) = true) (hl' : mmIns i (vi x) lv = lv') (k : V2 own cc nL R G Po (pc + 2) lv' st m) : V2 own cc nL R G Po pc lv (vi x :: st) m := by
  intro p l e s mi args below meth c cells slots Q D cy ad A C H locs ls hR hP hS hl
  subst hl'
  simp only [Bool.and_eq_true, decide_eq_true_eq] at ho
  exact lv_istore C.1 C.2.1 hd hl ho.2.2 rfl (fun ls2 hl2 => k C hR hP hS (mmL_store ho.1 ho.2.1 hl2))
theorem X_iinc {i : Nat} {n : Int} {x v : Int} {lv' : List (Nat × Value)} (j : Nat) (hd : decode cc pc = .ok (.iinc i n, 3)) (hk : lv[j]? = some (i, vi x)) (hv : x + n = v) (ho : (mmOrd lv && (mmOne lv && decide (i < nL))) = true) (hl' : mmIns i (vi v) lv = lv') (k : V2 own cc nL R G Po (pc + 3) lv' st m) : V2 own cc nL R G Po pc lv st m := by
  intro p l e s mi args below meth c cells slots Q D cy ad A C H locs ls hR hP hS hl
  subst hl' hv
  simp only [Bool.and_eq_true, decide_eq_true_eq] at ho
  exact lv_iinc C.1 C.2.1 hd hl (k := j) (v := Int32.ofInt (x + n)) (mmL_at hk) (by rw [Int32.ofInt_add]) ho.2.2 rfl (fun ls2 hl2 => k C hR hP hS (mmL_store (v := vi (x + n)) ho.1 ho.2.1 hl2))
theorem X_sub {lv' : List (Nat × Value)} (ks : List Nat) (hl' : lv_pick lv ks = lv') (k : V2 own cc nL R G Po pc lv' st m) : V2 own cc nL R G Po pc lv st m := by
  intro p l e s mi args below meth c cells slots Q D cy ad A C H locs ls hR hP hS hl
  exact k C hR hP hS (lv_sub hl ks (mmL_pick ks hl'))
theorem X_iadd {x y : Int} (hd : decode cc pc = .ok (.iadd, 1)) (k : V2 own cc nL R G Po (pc + 1) lv (vi (x + y) :: st) m) : V2 own cc nL R G Po pc lv (vi y :: vi x :: st) m := by
  intro p l e s mi args below meth c cells slots Q D cy ad A C H locs ls hR hP hS hl
  refine lv_iadd C.1 C.2.1 hd ?_
  rw [← Int32.ofInt_add]
  exact k C hR hP hS hl
theorem X_isub {x y : Int} (hd : decode cc pc = .ok (.isub, 1)) (k : V2 own cc nL R G Po (pc + 1) lv (vi (x - y) :: st) m) : V2 own cc nL R G Po pc lv (vi y :: vi x :: st) m := by
  intro p l e s mi args below meth c cells slots Q D cy ad A C H locs ls hR hP hS hl
  refine lv_isub C.1 C.2.1 hd ?_
  rw [← Int32.ofInt_sub]
  exact k C hR hP hS hl
theorem X_imul {x y : Int} (hd : decode cc pc = .ok (.imul, 1)) (k : V2 own cc nL R G Po (pc + 1) lv (vi (x * y) :: st) m) : V2 own cc nL R G Po pc lv (vi y :: vi x :: st) m := by
  intro p l e s mi args below meth c cells slots Q D cy ad A C H locs ls hR hP hS hl
  refine lv_imul C.1 C.2.1 hd ?_
  rw [← Int32.ofInt_mul]
  exact k C hR hP hS hl
theorem X_idiv {x y : Int} (hd : decode cc pc = .ok (.idiv, 1)) (hx : inR x) (hy : inR y) (h : 0 ≤ x ∧ 0 < y) (k : V2 own cc nL R G Po (pc + 1) lv (vi (x / y) :: st) m) : V2 own cc nL R G Po pc lv (vi y :: vi x :: st) m := by
  intro p l e s mi args below meth c cells slots Q D cy ad A C H locs ls hR hP hS hl
  refine lv_idiv C.1 C.2.1 hd (by rw [oi_0, oi_eq hy inR0]; omega) ?_
  rw [oi_div hx hy h]
  exact k C hR hP hS hl
theorem X_goto {off : Int} (tgt : Nat) (hd : decode cc pc = .ok (.goto off, 3)) (ht : (pc : Int) + off = (tgt : Int)) (k : V2 own cc nL R G Po tgt lv st m) : V2 own cc nL R G Po pc lv st m := by
  intro p l e s mi args below meth c cells slots Q D cy ad A C H locs ls hR hP hS hl
  exact lv_goto C.1 C.2.1 hd ht (k C hR hP hS hl)
theorem X_icmp_eq {x y : Int} {off : Int} (tgt : Nat) (hd : decode cc pc = .ok (.if_icmp .eq off, 3)) (ht : (pc : Int) + off = (tgt : Int)) (hx : inR x) (hy : inR y) (kt : x = y → V2 own cc nL R G Po tgt lv st m) (kf : ¬ x = y → V2 own cc nL R G Po (pc + 3) lv st m) : V2 own cc nL R G Po pc lv (vi y :: vi x :: st) m := by
  intro p l e s mi args below meth c cells slots Q D cy ad A C H locs ls hR hP hS hl
  exact lv_icmp_eq C.1 C.2.1 hd ht (fun z => kt ((oi_eq hx hy).mp z) C hR hP hS hl) (fun z => kf (fun q => z ((oi_eq hx hy).mpr q)) C hR hP hS hl)
theorem X_if_eq {x : Int} {off : Int} (tgt : Nat) (hd : decode cc pc = .ok (.ifCond .eq off, 3)) (ht : (pc : Int) + off = (tgt : Int)) (hx : inR x) (kt : x = 0 → V2 own cc nL R G Po tgt lv st m) (kf : ¬ x = 0 → V2 own cc nL R G Po (pc + 3) lv st m) : V2 own cc nL R G Po pc lv (vi x :: st) m := by
  intro p l e s mi args below meth c cells slots Q D cy ad A C H locs ls hR hP hS hl
  exact lv_if_eq C.1 C.2.1 hd ht (fun z => kt ((oi_eq hx inR0).mp z) C hR hP hS hl) (fun z => kf (fun q => z ((oi_eq hx inR0).mpr q)) C hR hP hS hl)
theorem X_icmp_ne {x y : Int} {off : Int} (tgt : Nat) (hd : decode cc pc = .ok (.if_icmp .ne off, 3)) (ht : (pc : Int) + off = (tgt : Int)) (hx : inR x) (hy : inR y) (kt : ¬ x = y → V2 own cc nL R G Po tgt lv st m) (kf : x = y → V2 own cc nL R G Po (pc + 3) lv st m) : V2 own cc nL R G Po pc lv (vi y :: vi x :: st) m := by
  intro p l e s mi args below meth c cells slots Q D cy ad A C H locs ls hR hP hS hl
  exact lv_icmp_ne C.1 C.2.1 hd ht (fun z => kt (fun q => z ((oi_eq hx hy).mpr q)) C hR hP hS hl) (fun z => kf ((oi_eq hx hy).mp (z)) C hR hP hS hl)
theorem X_if_ne {x : Int} {off : Int} (tgt : Nat) (hd : decode cc pc = .ok (.ifCond .ne off, 3)) (ht : (pc : Int) + off = (tgt : Int)) (hx : inR x) (kt : ¬ x = 0 → V2 own cc nL R G Po tgt lv st m) (kf : x = 0 → V2 own cc nL R G Po (pc + 3) lv st m) : V2 own cc nL R G Po pc lv (vi x :: st) m := by
  intro p l e s mi args below meth c cells slots Q D cy ad A C H locs ls hR hP hS hl
  exact lv_if_ne C.1 C.2.1 hd ht (fun z => kt (fun q => z ((oi_eq hx inR0).mpr q)) C hR hP hS hl) (fun z => kf ((oi_eq hx inR0).mp (z)) C hR hP hS hl)
theorem X_icmp_lt {x y : Int} {off : Int} (tgt : Nat) (hd : decode cc pc = .ok (.if_icmp .lt off, 3)) (ht : (pc : Int) + off = (tgt : Int)) (hx : inR x) (hy : inR y) (kt : x < y → V2 own cc nL R G Po tgt lv st m) (kf : ¬ x < y → V2 own cc nL R G Po (pc + 3) lv st m) : V2 own cc nL R G Po pc lv (vi y :: vi x :: st) m := by
  intro p l e s mi args below meth c cells slots Q D cy ad A C H locs ls hR hP hS hl
  exact lv_icmp_lt C.1 C.2.1 hd ht (fun z => kt ((oi_lt hx hy).mp z) C hR hP hS hl) (fun z => kf (fun q => z ((oi_lt hx hy).mpr q)) C hR hP hS hl)
theorem X_if_lt {x : Int} {off : Int} (tgt : Nat) (hd : decode cc pc = .ok (.ifCond .lt off, 3)) (ht : (pc : Int) + off = (tgt : Int)) (hx : inR x) (kt : x < 0 → V2 own cc nL R G Po tgt lv st m) (kf : ¬ x < 0 → V2 own cc nL R G Po (pc + 3) lv st m) : V2 own cc nL R G Po pc lv (vi x :: st) m := by
  intro p l e s mi args below meth c cells slots Q D cy ad A C H locs ls hR hP hS hl
  exact lv_if_lt C.1 C.2.1 hd ht (fun z => kt ((oi_lt hx inR0).mp z) C hR hP hS hl) (fun z => kf (fun q => z ((oi_lt hx inR0).mpr q)) C hR hP hS hl)
theorem X_icmp_ge {x y : Int} {off : Int} (tgt : Nat) (hd : decode cc pc = .ok (.if_icmp .ge off, 3)) (ht : (pc : Int) + off = (tgt : Int)) (hx : inR x) (hy : inR y) (kt : y ≤ x → V2 own cc nL R G Po tgt lv st m) (kf : ¬ y ≤ x → V2 own cc nL R G Po (pc + 3) lv st m) : V2 own cc nL R G Po pc lv (vi y :: vi x :: st) m := by
  intro p l e s mi args below meth c cells slots Q D cy ad A C H locs ls hR hP hS hl
  exact lv_icmp_ge C.1 C.2.1 hd ht (fun z => kt ((oi_le hy hx).mp z) C hR hP hS hl) (fun z => kf (fun q => z ((oi_le hy hx).mpr q)) C hR hP hS hl)
theorem X_if_ge {x : Int} {off : Int} (tgt : Nat) (hd : decode cc pc = .ok (.ifCond .ge off, 3)) (ht : (pc : Int) + off = (tgt : Int)) (hx : inR x) (kt : 0 ≤ x → V2 own cc nL R G Po tgt lv st m) (kf : ¬ 0 ≤ x → V2 own cc nL R G Po (pc + 3) lv st m) : V2 own cc nL R G Po pc lv (vi x :: st) m := by
  intro p l e s mi args below meth c cells slots Q D cy ad A C H locs ls hR hP hS hl
  exact lv_if_ge C.1 C.2.1 hd ht (fun z => kt ((oi_le inR0 hx).mp z) C hR hP hS hl) (fun z => kf (fun q => z ((oi_le inR0 hx).mpr q)) C hR hP hS hl)
theorem X_icmp_gt {x y : Int} {off : Int} (tgt : Nat) (hd : decode cc pc = .ok (.if_icmp .gt off, 3)) (ht : (pc : Int) + off = (tgt : Int)) (hx : inR x) (hy : inR y) (kt : y < x → V2 own cc nL R G Po tgt lv st m) (kf : ¬ y < x → V2 own cc nL R G Po (pc + 3) lv st m) : V2 own cc nL R G Po pc lv (vi y :: vi x :: st) m := by
  intro p l e s mi args below meth c cells slots Q D cy ad A C H locs ls hR hP hS hl
  exact lv_icmp_gt C.1 C.2.1 hd ht (fun z => kt ((oi_lt hy hx).mp z) C hR hP hS hl) (fun z => kf (fun q => z ((oi_lt hy hx).mpr q)) C hR hP hS hl)
theorem X_if_gt {x : Int} {off : Int} (tgt : Nat) (hd : decode cc pc = .ok (.ifCond .gt off, 3)) (ht : (pc : Int) + off = (tgt : Int)) (hx : inR x) (kt : 0 < x → V2 own cc nL R G Po tgt lv st m) (kf : ¬ 0 < x → V2 own cc nL R G Po (pc + 3) lv st m) : V2 own cc nL R G Po pc lv (vi x :: st) m := by
  intro p l e s mi args below meth c cells slots Q D cy ad A C H locs ls hR hP hS hl
  exact lv_if_gt C.1 C.2.1 hd ht (fun z => kt ((oi_lt inR0 hx).mp z) C hR hP hS hl) (fun z => kf (fun q => z ((oi_lt inR0 hx).mpr q)) C hR hP hS hl)
theorem X_icmp_le {x y : Int} {off : Int} (tgt : Nat) (hd : decode cc pc = .ok (.if_icmp .le off, 3)) (ht : (pc : Int) + off = (tgt : Int)) (hx : inR x) (hy : inR y) (kt : x ≤ y → V2 own cc nL R G Po tgt lv st m) (kf : ¬ x ≤ y → V2 own cc nL R G Po (pc + 3) lv st m) : V2 own cc nL R G Po pc lv (vi y :: vi x :: st) m := by
  intro p l e s mi args below meth c cells slots Q D cy ad A C H locs ls hR hP hS hl
  exact lv_icmp_le C.1 C.2.1 hd ht (fun z => kt ((oi_le hx hy).mp z) C hR hP hS hl) (fun z => kf (fun q => z ((oi_le hx hy).mpr q)) C hR hP hS hl)
theorem X_if_le {x : Int} {off : Int} (tgt : Nat) (hd : decode cc pc = .ok (.ifCond .le off, 3)) (ht : (pc : Int) + off = (tgt : Int)) (hx : inR x) (kt : x ≤ 0 → V2 own cc nL R G Po tgt lv st m) (kf : ¬ x ≤ 0 → V2 own cc nL R G Po (pc + 3) lv st m) : V2 own cc nL R G Po pc lv (vi x :: st) m := by
  intro p l e s mi args below meth c cells slots Q D cy ad A C H locs ls hR hP hS hl
  exact lv_if_le C.1 C.2.1 hd ht (fun z => kt ((oi_le hx inR0).mp z) C hR hP hS hl) (fun z => kf (fun q => z ((oi_le hx inR0).mpr q)) C hR hP hS hl)
theorem X_tableOut {dflt lo hi : Int} {offs : Array Int} {len : Nat} {x : Int} (tgt : Nat) (hd : decode cc pc = .ok (.tableswitch dflt lo hi offs, len)) (hx : inR x) (h : x < lo ∨ hi < x) (ht : (pc : Int) + dflt = (tgt : Int)) (k : V2 own cc nL R G Po tgt lv st m) : V2 own cc nL R G Po pc lv (vi x :: st) m := by
  intro p l e s mi args below meth c cells slots Q D cy ad A C H locs ls hR hP hS hl
  exact lv_tableOut C.1 C.2.1 hd (by rw [Int32.toInt_ofInt_of_le (inR_lo hx).1 (inR_lo hx).2]; exact h) ht (k C hR hP hS hl)
theorem X_tableIn {dflt lo hi : Int} {offs : Array Int} {len : Nat} {x : Int} {off : Int} (v : Int) (tgt : Nat) (hd : decode cc pc = .ok (.tableswitch dflt lo hi offs, len)) (hx : x = v) (hv : inR v) (h : lo ≤ v ∧ v ≤ hi) (ho : offs[(v - lo).toNat]? = some off) (ht : (pc : Int) + off = (tgt : Int)) (k : V2 own cc nL R G Po tgt lv st m) : V2 own cc nL R G Po pc lv (vi x :: st) m := by
  intro p l e s mi args below meth c cells slots Q D cy ad A C H locs ls hR hP hS hl
  subst hx
  have e := Int32.toInt_ofInt_of_le (inR_lo hv).1 (inR_lo hv).2
  exact lv_tableIn C.1 C.2.1 hd (by rw [e]; omega) (by rw [e]; omega) (by rw [e]; exact ho) ht (k C hR hP hS hl)
theorem X_ret {v : Option Value} (hr : mmRet cc pc v) (hq : Po v m) : V2 own cc nL R G Po pc lv v.toList m := by
  intro p l e s mi args below meth c cells slots Q D cy ad A C H locs ls hR hP hS hl
  exact C.2.2.2.2.2.2.2.2.2.2 v m H locs ls pc hq hR hr hP hS
theorem X_reti {x : Int} (hd : decode cc pc = .ok (.ireturn, 1)) (hq : Po (some (vi x)) m) : V2 own cc nL R G Po pc lv [vi x] m := X_ret (v := some (vi x)) (Or.inl ⟨x, rfl, hd⟩) hq
theorem X_ldc {index : Nat} {v : Int} (hd : decode cc pc = .ok (.ldc index, 2)) (hw : Jvm.Cond.constant own index (Int32.ofInt v) ∈ mm_tb) (k : V2 own cc nL R G Po (pc + 2) lv (vi v :: st) m) : V2 own cc nL R G Po pc lv st m := by
  intro p l e s mi args below meth c cells slots Q D cy ad A C H locs ls hR hP hS hl
  exact lv_ldc C.1 C.2.1 C.2.2.2.1 (C.2.2.2.2.1 _ hw) hd (k C hR hP hS hl)
theorem X_ishr {x y : Int} (hd : decode cc pc = .ok (.ishr, 1)) (k : V2 own cc nL R G Po (pc + 1) lv (vi (shr x y) :: st) m) : V2 own cc nL R G Po pc lv (vi y :: vi x :: st) m := by
  intro p l e s mi args below meth c cells slots Q D cy ad A C H locs ls hR hP hS hl
  refine lv_ishr C.1 C.2.1 hd ?_
  have e : Int32.ofInt (shr x y) = Int32.ofInt x >>> (Int32.ofInt y &&& 31) := by unfold shr; rw [Int32.ofInt_toInt]
  rw [← e]
  exact k C hR hP hS hl
theorem X_iand {x : Int} (hd : decode cc pc = .ok (.iand, 1)) (k : V2 own cc nL R G Po (pc + 1) lv (vi (and7 x) :: st) m) : V2 own cc nL R G Po pc lv (vi 2147483647 :: vi x :: st) m := by
  intro p l e s mi args below meth c cells slots Q D cy ad A C H locs ls hR hP hS hl
  refine lv_iand C.1 C.2.1 hd ?_
  have e : Int32.ofInt (and7 x) = Int32.ofInt x &&& Int32.ofInt 2147483647 := by unfold and7; rw [Int32.ofInt_toInt]
  rw [← e]
  exact k C hR hP hS hl
theorem X_irem {x y : Int} (hd : decode cc pc = .ok (.irem, 1)) (hx : inR x) (hy : inR y) (h : 0 ≤ x ∧ 0 < y) (k : V2 own cc nL R G Po (pc + 1) lv (vi (x % y) :: st) m) : V2 own cc nL R G Po pc lv (vi y :: vi x :: st) m := by
  intro p l e s mi args below meth c cells slots Q D cy ad A C H locs ls hR hP hS hl
  refine lv_irem C.1 C.2.1 hd (by rw [oi_0, oi_eq hy inR0]; omega) ?_
  have e : Int32.ofInt x - Int32.ofInt x / Int32.ofInt y * Int32.ofInt y = Int32.ofInt (x % y) := by
    rw [oi_div hx hy h, ← Int32.ofInt_mul, ← Int32.ofInt_sub, Int.emod_def, Int.mul_comm y]
  rw [e]
  exact k C hR hP hS hl
theorem X_imulw {x y : Int} (hd : decode cc pc = .ok (.imul, 1)) (k : V2 own cc nL R G Po (pc + 1) lv (vi (w32 (x * y)) :: st) m) : V2 own cc nL R G Po pc lv (vi y :: vi x :: st) m := by
  intro p l e s mi args below meth c cells slots Q D cy ad A C H locs ls hR hP hS hl
  refine lv_imul C.1 C.2.1 hd ?_
  have e : Int32.ofInt (w32 (x * y)) = Int32.ofInt x * Int32.ofInt y := by unfold w32; rw [Int32.ofInt_toInt, Int32.ofInt_mul]
  rw [← e]
  exact k C hR hP hS hl
theorem X_i2c {x : Int} (hd : decode cc pc = .ok (.i2c, 1)) (k : V2 own cc nL R G Po (pc + 1) lv (vi (x % 65536) :: st) m) : V2 own cc nL R G Po pc lv (vi x :: st) m := by
  intro p l e s mi args below meth c cells slots Q D cy ad A C H locs ls hR hP hS hl
  have e : ((Int32.ofInt x).toUInt32 % 65536).toInt32 = Int32.ofInt (x % 65536) := by
    rw [pk_char, show (65536 : Nat) = 2 ^ 16 from rfl, oi_natmod x 16 (by decide)]
    exact nI_oi (Int.emod_nonneg _ (by decide))
  exact lv_i2c C.1 C.2.1 hd e (k C hR hP hS hl)
end RULES
def mm2Pre (G : GT) (D : va_G) (cy : ClassId × ClassId × ClassId) (ad : Nat → Nat) (as : List Value) (m : Mem2) (sz : Nat) : Array Value → State → Prop := va_Pc (as.map (mmV ad)) (fun U => U.heap.size = sz ∧ va_P D vwCl (mmW2 cy ad m) U.heap ∧ va_K D vwCl (mmT cy) U ∧ va_D (fun _ => True) (mmW2 cy ad m) ∧ G U (va_A (mmW2 cy ad m) sz) ad)
def CT2 (G : GT) (y : MethodName) (cc : ByteArray) (nL : Nat) (ret : Option FieldType) (rm : Room) (as : List Value) (m : Mem2) (r : Int × Mem2) : Prop := mm2R m → ∀ (l : Launch) (D : va_G) (cy : ClassId × ClassId × ClassId) (ad : Nat → Nat) (sz : Nat),
  Met l y (mmWs y cc nL ret) rm (mm2Pre G D cy ad as m sz) (va_Qi (fun (r2 : Int32) (_ : Unit) => r2 = Int32.ofInt r.1 ∧ inR r.1 ∧ mm2R r.2) (fun _ t => va_P D vwCl (mmW2 cy ad r.2) t.heap) (va_A (mmW2 cy ad m) sz)) 0 0 (va_A (mmW2 cy ad m) sz)
theorem mm2A_in {cy : ClassId × ClassId × ClassId} {ad : Nat → Nat} {m : Mem2} {A : Nat → Prop} {H0 H : Heap} {locs : List Loc} (hD : va_D A (mmW2 cy ad m)) (hS : va_S A H0 H locs) (hA : ∀ q, H0.size ≤ q → A q) : ∀ q, va_A (mmW2 cy ad m) H.size q → A q := by
  intro q h
  rcases h with ⟨k, e, h⟩ | h
  · exact hD.2 k (q, e) h
  · exact hA q (Nat.le_trans hS.1 h)
theorem mm2Blind {G : GT} (hGb : GB G) (D : va_G) (cy : ClassId × ClassId × ClassId) (ad : Nat → Nat) (as : List Value) (m : Mem2) (sz : Nat) : FrameBlind (mm2Pre G D cy ad as m sz) := fun a U g mk q => by
  obtain ⟨q0, q1, qP, qK, qD, qG⟩ := q
  exact ⟨q0, q1, qP, va_K.moved (u := U) (U := U.calling g mk a) (Vm.Alike.refl U.vm) qK, qD, hGb qG⟩
section RULES
variable {own : String} {cc : ByteArray} {nL : Nat} {R : Room} {G : State → (Nat → Prop) → (Nat → Nat) → Prop} {Po : Option Value → Mem2 → Prop} {pc : Nat} {lv : List (Nat × Value)} {st : List Value} {m : Mem2}
theorem X_callO {y : MethodName} {rm : Room} {zs : List Int} {st0 : List Value} {f : Mem → Option (Int × Mem)} {q : Int × Mem2} {bytes : ByteArray} {maxL index : Nat} {ret : Option FieldType} (n : Nat)
    (hd : decode cc pc = .ok (.invokevirtual index, 3)) (hq : mmO f m = some q) (hM : ∀ r, f m.1 = some r → CTi y bytes maxL ret rm (.ref 0 :: zs.map vi) m.1 r) (gl : Cond.methodLink own index y ∈ mm_tb) (gi : Cond.instanceMethod y ∈ mm_tb) (gs : Cond.selects RX3 y y ∈ mm_tb) (gt : Cond.initialized RX3 ∈ mm_tb) (gc : Cond.code y bytes maxL ret ∈ mm_tb)
    (hy : y.cls = RX3 ∧ y.cls ≠ "java/lang/invoke/MethodHandle" ∧ y.cls ≠ "java/lang/invoke/VarHandle" ∧ (parseMethodDescriptor y.desc).map (fun d => d.parameters.length) = some n)
    (hrm : rm.cells = 0 ∧ rm.slots = 0 ∧ rm.frames + 1 ≤ R.frames ∧ 8 + (maxL + 11) + rm.locals ≤ R.locals) (hn : zs.length = n)
    (hst : st0 = (zs.map vi).reverse ++ .ref 0 :: st) (hcat : (st.map fun v => v.category).sum ≤ 8) (kk : inR q.1 → V2 own cc nL R G Po (pc + 3) lv (vi q.1 :: st) q.2) : V2 own cc nL R G Po pc lv st0 m := by
  intro p l e s mi args below meth c cells slots Q D cy ad A C H locs ls hR hP hS hl
  subst hst
  obtain ⟨r, hf, rfl⟩ := mmO_e hq
  obtain ⟨hx, hb, hml, hown, hts, hcs, hA, hK, hD, hG, hfin⟩ := id C
  have hDc := W2Do (hD m)
  have hPc := W2Po hP
  have hFc := mmA_in hDc hS hA
  have hs0 : mmSh[0]? = some (.inl 3) := by decide +kernel
  have he := W2l (mmW_at cy ad m.1 (i := 0) (by decide))
  rw [mmCell_obj hs0] at he
  have ea : (zs.map vi).map (mmV ad) = zs.map vi := by rw [List.map_map]; rfl
  have ea2 : (zs.map vi).map (mmV ad) = zs.map vi := by rw [List.map_map]; rfl
  have hrun := va_runV (As := zs.map vi) (rest := st.map (mmV ad)) (b := ad 0) (C := RX3) (H := H) (locs := locs) (cells := cells) (slots := slots) (p := p) (e := e) (below := below) (meth := meth) (R := R) (g := F0 mi pc ls (((zs.map vi).reverse ++ Value.ref 0 :: st).map (mmV ad))) ⟨hx, hb, hml, hown, hts⟩ (hM r hf hR.1 l D cy ad H.size) (cwV n hts (mmGV gl gi gs gt gc) rfl hrm.1 hrm.2.1 hy ⟨hrm.2.2.1, hrm.2.2.2⟩)
    ⟨mmBlind D cy ad _ m.1 H.size, va_recv (q := (RX3, TX3, 6)) hK hP rfl he, fun U hU hW => ⟨by rw [List.map_cons, ea2]; rfl, by rw [hU], by rw [hU]; exact hPc, va_K.moved hW.alike hK, hDc.weaken (fun _ _ _ _ => trivial)⟩⟩
    rfl (by rw [List.length_map]; exact hn) hl.1 (by rw [List.map_append, List.map_reverse, ea]; rfl) (lv_room (by rw [mmV_cats]; exact hcat)) hd ⟨by omega, by omega⟩
  refine va_calli hrun hS (fun q _ h => hFc q h) hFc (fun r1 u t H1 locs1 ht hvm hpo hB hz1 hk1 hS1 => ?_)
  obtain ⟨rfl, hr1, hr2⟩ := hpo
  rw [ht] at hB
  exact kk hr1 C ⟨hr2, hR.2⟩ (W2So hP (hD m) hk1 hB) hS1 hl
theorem X_callP {y : MethodName} {rm : Room} {zs : List Int} {st0 : List Value} {f : Mem → Option (Int × Mem)} {q : Int × Mem2} {bytes : ByteArray} {maxL index : Nat} {ret : Option FieldType} (n : Nat)
    (hd : decode cc pc = .ok (.invokevirtual index, 3)) (hq : mmP f m = some q) (hM : ∀ r, f m.2 = some r → CTi y bytes maxL ret rm (.ref 0 :: zs.map vi) m.2 r) (gl : Cond.methodLink own index y ∈ mm_tb) (gi : Cond.instanceMethod y ∈ mm_tb) (gs : Cond.selects RX3 y y ∈ mm_tb) (gt : Cond.initialized RX3 ∈ mm_tb) (gc : Cond.code y bytes maxL ret ∈ mm_tb)
    (hy : y.cls = RX3 ∧ y.cls ≠ "java/lang/invoke/MethodHandle" ∧ y.cls ≠ "java/lang/invoke/VarHandle" ∧ (parseMethodDescriptor y.desc).map (fun d => d.parameters.length) = some n)
    (hrm : rm.cells = 0 ∧ rm.slots = 0 ∧ rm.frames + 1 ≤ R.frames ∧ 8 + (maxL + 11) + rm.locals ≤ R.locals) (hn : zs.length = n)
    (hst : st0 = (zs.map vi).reverse ++ .ref 51 :: st) (hcat : (st.map fun v => v.category).sum ≤ 8) (kk : inR q.1 → V2 own cc nL R G Po (pc + 3) lv (vi q.1 :: st) q.2) : V2 own cc nL R G Po pc lv st0 m := by
  intro p l e s mi args below meth c cells slots Q D cy ad A C H locs ls hR hP hS hl
  subst hst
  obtain ⟨r, hf, rfl⟩ := mmP_e hq
  obtain ⟨hx, hb, hml, hown, hts, hcs, hA, hK, hD, hG, hfin⟩ := id C
  have hDc := W2Dp (hD m)
  have hPc := W2Pp hP
  have hFc := mmA_in hDc hS hA
  have hs0 : mmSh[0]? = some (.inl 3) := by decide +kernel
  have he := W2r (mmW_at cy (ad2 ad) m.2 (i := 0) (by decide))
  rw [mmCell_obj hs0] at he
  have ea : (zs.map vi).map (mmV ad) = zs.map vi := by rw [List.map_map]; rfl
  have ea2 : (zs.map vi).map (mmV (ad2 ad)) = zs.map vi := by rw [List.map_map]; rfl
  have hrun := va_runV (As := zs.map vi) (rest := st.map (mmV ad)) (b := ad 51) (C := RX3) (H := H) (locs := locs) (cells := cells) (slots := slots) (p := p) (e := e) (below := below) (meth := meth) (R := R) (g := F0 mi pc ls (((zs.map vi).reverse ++ Value.ref 51 :: st).map (mmV ad))) ⟨hx, hb, hml, hown, hts⟩ (hM r hf hR.2 l D cy (ad2 ad) H.size) (cwV n hts (mmGV gl gi gs gt gc) rfl hrm.1 hrm.2.1 hy ⟨hrm.2.2.1, hrm.2.2.2⟩)
    ⟨mmBlind D cy (ad2 ad) _ m.2 H.size, va_recv (q := (RX3, TX3, 6)) hK hP rfl he, fun U hU hW => ⟨by rw [List.map_cons, ea2]; rfl, by rw [hU], by rw [hU]; exact hPc, va_K.moved hW.alike hK, hDc.weaken (fun _ _ _ _ => trivial)⟩⟩
    rfl (by rw [List.length_map]; exact hn) hl.1 (by rw [List.map_append, List.map_reverse, ea]; rfl) (lv_room (by rw [mmV_cats]; exact hcat)) hd ⟨by omega, by omega⟩
  refine va_calli hrun hS (fun q _ h => hFc q h) hFc (fun r1 u t H1 locs1 ht hvm hpo hB hz1 hk1 hS1 => ?_)
  obtain ⟨rfl, hr1, hr2⟩ := hpo
  rw [ht] at hB
  exact kk hr1 C ⟨hR.1, hr2⟩ (W2Sp hP (hD m) hk1 hB) hS1 hl
theorem X_callS {G2 : GT} (hGp : GP G G2) (hGb : GB G2) {y : MethodName} {rm : Room} {as st0 : List Value} {r : Int × Mem2} {bytes : ByteArray} {maxL index : Nat} {ret : Option FieldType} (n : Nat)
    (hd : decode cc pc = .ok (.invokestatic index, 3)) (hM : CT2 G2 y bytes maxL ret rm as m r) (gl : Cond.methodLink own index y ∈ mm_tb) (gi : Cond.static y ∈ mm_tb) (gt : Cond.initialized y.cls ∈ mm_tb) (gc : Cond.code y bytes maxL ret ∈ mm_tb)
    (hy : y.cls ≠ "java/lang/invoke/MethodHandle" ∧ y.cls ≠ "java/lang/invoke/VarHandle" ∧ (parseMethodDescriptor y.desc).map (fun d => d.parameters.length) = some n)
    (hrm : rm.cells = 0 ∧ rm.slots = 0 ∧ rm.frames + 1 ≤ R.frames ∧ 8 + (maxL + 11) + rm.locals ≤ R.locals) (hn : as.length = n)
    (hst : st0 = as.reverse ++ st) (hcat : (st.map fun v => v.category).sum ≤ 8) (kk : inR r.1 → V2 own cc nL R G Po (pc + 3) lv (vi r.1 :: st) r.2) : V2 own cc nL R G Po pc lv st0 m := by
  intro p l e s mi args below meth c cells slots Q D cy ad A C H locs ls hR hP hS hl
  subst hst
  obtain ⟨hx, hb, hml, hown, hts, hcs, hA, hK, hD, hG, hfin⟩ := id C
  have hFc := mm2A_in (hD m) hS hA
  have hrun := va_runS (As := as.map (mmV ad)) (rest := st.map (mmV ad)) (H := H) (locs := locs) (cells := cells) (slots := slots) (p := p) (e := e) (below := below) (meth := meth) (R := R) (g := F0 mi pc ls ((as.reverse ++ st).map (mmV ad))) ⟨hx, hb, hml, hown, hts⟩ (hM hR l D cy ad H.size) (va_cwS n hts (mmGS gl gi gt gc) rfl hrm.1 hrm.2.1 hy ⟨hrm.2.2.1, hrm.2.2.2⟩)
    ⟨mm2Blind hGb D cy ad _ m H.size, fun U hU hW => ⟨rfl, by rw [hU], by rw [hU]; exact hP, va_K.moved hW.alike hK, (hD m).weaken (fun _ _ _ _ => trivial), hGp hG hS hFc hU hW⟩⟩
    rfl (by rw [List.length_map]; exact hn) hl.1 (by simp) (lv_room (by rw [mmV_cats]; exact hcat)) hd ⟨by omega, by omega⟩
  refine va_calli hrun hS (fun q _ h => hFc q h) hFc (fun r1 u t H1 locs1 ht hvm hpo hB hz1 hk1 hS1 => ?_)
  obtain ⟨rfl, hr1, hr2⟩ := hpo
  rw [ht] at hB
  exact kk hr1 C hr2 hB hS1 hl
end RULES
def mm2Pi (r : Int × Mem2) : Option Value → Mem2 → Prop := fun v m' => v = some (vi r.1) ∧ m' = r.2 ∧ inR r.1
def mm2Pz (r : Int × Mem2) : Option Value → Mem2 → Prop := fun v m' => v = some (vi r.1) ∧ m' = r.2 ∧ (r.1 = 0 ∨ r.1 = 1)
def mm2Pv (r : Mem2) : Option Value → Mem2 → Prop := fun v m' => v = none ∧ m' = r
theorem CT_i2 {G : GT} {y : MethodName} {rm : Room} {as : List Value} {m : Mem2} {r : Int × Mem2} {cc : ByteArray} {nL : Nat} {own : String} (hy : plainName y.cls = true) (hown : y.cls = own) (hn : (lg_sl as).length ≤ nL) (h : V2 own cc nL rm G (mm2Pi r) 0 (lv_args 0 as) [] m) : CT2 G y cc nL (some .int) rm as m r := by
  intro hmR l D cy ad sz
  refine Met.ofW (cc := cc) (maxL := nL) (ret := some .int) hy rfl ?_
  intro p e s mi args below meth c s₁ B hml hv
  obtain ⟨rfl, hsz, hP, hK, hD0, hG0⟩ := hv
  subst hsz hown
  have hD : ∀ m2, va_D (va_A (mmW2 cy ad m) s.heap.size) (mmW2 cy ad m2) := fun m2 => ⟨fun i j p q hi hj hpq => by
      have hi2 := (List.getElem?_eq_some_iff.mp hi).1
      have hj2 := (List.getElem?_eq_some_iff.mp hj).1
      rw [mmW2_len] at hi2 hj2
      rw [mmW2_at cy ad m2 hi2] at hi
      rw [mmW2_at cy ad m2 hj2] at hj
      cases hi; cases hj
      exact hD0.1 i j _ _ (mmW2_at cy ad m hi2) (mmW2_at cy ad m hj2) hpq, fun k q hk => by
      have hk2 := (List.getElem?_eq_some_iff.mp hk).1
      rw [mmW2_len] at hk2
      rw [mmW2_at cy ad m2 hk2] at hk
      cases hk
      exact Or.inl ⟨k, _, mmW2_at cy ad m hk2⟩⟩
  rw [lg_entry_eq]
  refine h (ad := ad) (cy := cy) (D := D) (A := va_A (mmW2 cy ad m) s.heap.size) ⟨B.exec, B.bytes, hml, findClass_of_methodNamed B.named, fun w hw => atoms_spec (ws := mmWs y cc nL (some .int)) B.pre w (List.mem_cons_of_mem _ hw), ⟨Nat.zero_le _, Nat.zero_le _⟩, fun q hq => Or.inr hq, hK, hD, hG0, ?_⟩ hmR hP va_S.rf ?_
  · intro v m' H' locs' ls' pc' hpo hR' hret hP' hS'
    obtain ⟨rfl, rfl, hr⟩ := hpo
    rcases hret with ⟨x, hx, hdg⟩ | ⟨hx, _⟩
    · exact W.iret B.exec B.bytes B.returns (fun t ht hW => ⟨⟨_, (), rfl, ⟨rfl, hr, hR'⟩, by show va_P _ _ _ _; rw [ht]; exact hP'⟩, hS'.F ht⟩) hS'.2.2 hdg B.notSynchronized
    · cases hx
  · have := lv_entry (as.map (mmV ad)) (n := nL) (by rw [mm_slots]; exact hn)
    rw [mm_args] at this
    exact this
theorem CT_z2 {G : GT} {y : MethodName} {rm : Room} {as : List Value} {m : Mem2} {r : Int × Mem2} {cc : ByteArray} {nL : Nat} {own : String} (hy : plainName y.cls = true) (hown : y.cls = own) (hn : (lg_sl as).length ≤ nL) (h : V2 own cc nL rm G (mm2Pz r) 0 (lv_args 0 as) [] m) : CT2 G y cc nL (some .boolean) rm as m r := by
  intro hmR l D cy ad sz
  refine Met.ofW (cc := cc) (maxL := nL) (ret := some .boolean) hy rfl ?_
  intro p e s mi args below meth c s₁ B hml hv
  obtain ⟨rfl, hsz, hP, hK, hD0, hG0⟩ := hv
  subst hsz hown
  have hD : ∀ m2, va_D (va_A (mmW2 cy ad m) s.heap.size) (mmW2 cy ad m2) := fun m2 => ⟨fun i j p q hi hj hpq => by
      have hi2 := (List.getElem?_eq_some_iff.mp hi).1
      have hj2 := (List.getElem?_eq_some_iff.mp hj).1
      rw [mmW2_len] at hi2 hj2
      rw [mmW2_at cy ad m2 hi2] at hi
      rw [mmW2_at cy ad m2 hj2] at hj
      cases hi; cases hj
      exact hD0.1 i j _ _ (mmW2_at cy ad m hi2) (mmW2_at cy ad m hj2) hpq, fun k q hk => by
      have hk2 := (List.getElem?_eq_some_iff.mp hk).1
      rw [mmW2_len] at hk2
      rw [mmW2_at cy ad m2 hk2] at hk
      cases hk
      exact Or.inl ⟨k, _, mmW2_at cy ad m hk2⟩⟩
  rw [lg_entry_eq]
  refine h (ad := ad) (cy := cy) (D := D) (A := va_A (mmW2 cy ad m) s.heap.size) ⟨B.exec, B.bytes, hml, findClass_of_methodNamed B.named, fun w hw => atoms_spec (ws := mmWs y cc nL (some .boolean)) B.pre w (List.mem_cons_of_mem _ hw), ⟨Nat.zero_le _, Nat.zero_le _⟩, fun q hq => Or.inr hq, hK, hD, hG0, ?_⟩ hmR hP va_S.rf ?_
  · intro v m' H' locs' ls' pc' hpo hR' hret hP' hS'
    obtain ⟨rfl, rfl, hr⟩ := hpo
    rcases hret with ⟨x, hx, hdg⟩ | ⟨hx, _⟩
    · exact W.zret B.exec B.bytes B.returns (mm_narZ hr) (fun t ht hW => ⟨⟨_, (), rfl, ⟨rfl, by rcases hr with hr | hr <;> rw [hr] <;> decide, hR'⟩, by show va_P _ _ _ _; rw [ht]; exact hP'⟩, hS'.F ht⟩) hS'.2.2 hdg B.notSynchronized
    · cases hx
  · have := lv_entry (as.map (mmV ad)) (n := nL) (by rw [mm_slots]; exact hn)
    rw [mm_args] at this
    exact this
