
/-! THE SMALL MACHINE: a memory is one function of ints by cell and place, and the one row of references; a judgement VV over it, rule by rule from the kit's rows -/
/-- the table's words that every method may carry along -/
def mm_tb : List Cond := lw_tbl.filter goodWord
theorem mm_in {w : Cond} (i : Nat) (h : lw_tbl[i]? = some w) (hg : goodWord w = true) : w ∈ mm_tb := List.mem_filter.mpr ⟨List.mem_of_getElem? h, hg⟩
theorem mm_inU {C : String} {T : u_T} {N : Nat} (h : ∀ w ∈ u_ws C T N, w ∈ lw_tbl) (hg : ∀ w ∈ u_ws C T N, goodWord w = true) : ∀ w ∈ u_ws C T N, w ∈ mm_tb := fun w hw => List.mem_filter.mpr ⟨h w hw, hg w hw⟩
abbrev Mem : Type := (Nat → Nat → Int) × (Nat → Option Nat)
abbrev inR (x : Int) : Prop := -2147483648 ≤ x ∧ x ≤ 2147483647
abbrev inL (x : Int) : Prop := -9223372036854775808 ≤ x ∧ x ≤ 9223372036854775807
def mwr (m : Mem) (c k : Nat) (v : Int) : Mem := (fun j => if j = c then fun q => if q = k then v else m.1 c q else m.1 j, m.2)
def mwq (m : Mem) (k : Nat) (v : Nat) : Mem := (m.1, va_up m.2 k (some v))
def mcp (m : Mem) (src sp dst dp n : Nat) : Mem := (fun j => if j = dst then va_cpy (m.1 src) (m.1 dst) sp dp n else m.1 j, m.2)
def mmR (m : Mem) : Prop := ∀ c k, inR (m.1 c k)
def mmCmp (x y : Int) : Int := if y < x then 1 else if x = y then 0 else -1
abbrev vi (x : Int) : Value := .int (Int32.ofInt x)
abbrev vl (x : Int) : Value := .long (Int64.ofInt x)
def mmSt (i : Nat) : List (Nat ⊕ (Nat × Nat)) := if i = 0 then [.inl 2, .inr (0, 24), .inr (0, 24), .inr (0, 24), .inr (0, 24), .inr (0, 24)] else []
/-- which cell is what: objects by their class, rows by their kind and length -/
def mmSh : List (Nat ⊕ (Nat × Nat)) :=
  [.inl 3] ++ (mmSt 0 ++ (mmSt 0 ++ (mmSt 0 ++ ([.inl 0, .inr (2, 4)] ++ (mmSt 0 ++ (mmSt 0 ++ (mmSt 0 ++ (mmSt 0 ++
  [.inl 1, .inr (1, 60), .inr (0, 12), .inr (0, 12), .inr (0, 12), .inr (0, 12)]))))))))
/-- an object's fields: a reference to the cell so far on, or an int -/
def mmOff : Nat → List (Option Nat)
  | 0 => [some 1, none]
  | 1 => [some 1, none, some 2, some 3, some 4, some 5, none, none]
  | 2 => [some 1, some 2, some 3, some 4, some 5, none, none, none, none, none]
  | _ => [some 1, some 7, some 13, none, some 19, some 45]
def mmK2 : Option (Nat ⊕ (Nat × Nat)) → Bool
  | some (.inr (2, _)) => false
  | _ => true
def mmKd : Option (Nat ⊕ (Nat × Nat)) → Bool
  | some (.inr (t, _)) => t == 0 || (t == 1 || t == 2)
  | _ => true
def mmFv (ad : Nat → Nat) (m : Mem) (i : Nat) (k : Nat) (o : Option Nat) : Value := match o with
  | some d => .ref (ad (i + d))
  | none => vi (m.1 i k)
def mmF (ad : Nat → Nat) (m : Mem) (i ci : Nat) : List Value := (mmOff ci).mapIdx (mmFv ad m i)
def mmRow (m : Mem) (i : Nat) : Nat → Int32 := fun k => Int32.ofInt (m.1 i k)
def mmCell (cy : ClassId × ClassId × ClassId) (ad : Nat → Nat) (m : Mem) (i : Nat) : va_E := match mmSh[i]? with
  | some (.inl ci) => .inr (ci, mmF ad m i ci)
  | some (.inr (0, n)) => .inl (cy.1, n, .inl (mmRow m i))
  | some (.inr (1, n)) => .inl (cy.2.1, n, .inl (mmRow m i))
  | some (.inr (_, n)) => .inl (cy.2.2, n, .inr (.inr (.inr (.inr (fun k => (m.2 k).map ad)))))
  | none => .inl (cy.1, 0, .inl (mmRow m i))
def mmW (cy : ClassId × ClassId × ClassId) (ad : Nat → Nat) (m : Mem) : va_W := (List.range 51).map fun i => (ad i, mmCell cy ad m i)
abbrev mmT (cy : ClassId × ClassId × ClassId) : List (ClassId × FieldType) := [(cy.1, .int), (cy.2.1, .char), (cy.2.2, .object RX2)]
def mmV (ad : Nat → Nat) (v : Value) : Value := match v with
  | .ref i => .ref (ad i)
  | w => w
theorem mmV_cat (ad : Nat → Nat) (v : Value) : (mmV ad v).category = v.category := by cases v <;> rfl
theorem mmV_cats (ad : Nat → Nat) (st : List Value) : ((st.map (mmV ad)).map fun v => v.category).sum = (st.map fun v => v.category).sum := by
  rw [List.map_map]
  exact congrArg List.sum (List.map_congr_left fun v _ => mmV_cat ad v)
theorem mmSh_len : mmSh.length = 51 := by decide +kernel
theorem mmSh_lt {i : Nat} {x : Nat ⊕ (Nat × Nat)} (h : mmSh[i]? = some x) : i < 51 := by
  have := (List.getElem?_eq_some_iff.mp h).1
  rw [mmSh_len] at this
  exact this
theorem mmW_at (cy : ClassId × ClassId × ClassId) (ad : Nat → Nat) (m : Mem) {i : Nat} (h : i < 51) : (mmW cy ad m)[i]? = some (ad i, mmCell cy ad m i) := by
  simp [mmW, List.getElem?_map, List.getElem?_range, h]
theorem mmW_len (cy : ClassId × ClassId × ClassId) (ad : Nat → Nat) (m : Mem) : (mmW cy ad m).length = 51 := by simp [mmW]
theorem mmW_set (cy : ClassId × ClassId × ClassId) (ad : Nat → Nat) (m m' : Mem) {i : Nat} (h : i < 51) {e : va_E} (he : mmCell cy ad m' i = e) (ho : ∀ j, j < 51 → j ≠ i → mmCell cy ad m' j = mmCell cy ad m j) : (mmW cy ad m).set i (ad i, e) = mmW cy ad m' := by
  apply List.ext_getElem?
  intro j
  by_cases hj : j = i
  · subst hj
    rw [List.getElem?_set_self (by rw [mmW_len]; exact h), mmW_at cy ad m' h, he]
  · rw [List.getElem?_set_ne (Ne.symm hj)]
    by_cases hl : j < 51
    · rw [mmW_at cy ad m hl, mmW_at cy ad m' hl, ho j hl hj]
    · rw [List.getElem?_eq_none (by rw [mmW_len]; omega), List.getElem?_eq_none (by rw [mmW_len]; omega)]
theorem mmCell_obj {cy : ClassId × ClassId × ClassId} {ad : Nat → Nat} {m : Mem} {i ci : Nat} (h : mmSh[i]? = some (.inl ci)) : mmCell cy ad m i = .inr (ci, mmF ad m i ci) := by simp only [mmCell, h]
theorem mmCell_int {cy : ClassId × ClassId × ClassId} {ad : Nat → Nat} {m : Mem} {i n : Nat} (h : mmSh[i]? = some (.inr (0, n))) : mmCell cy ad m i = .inl (cy.1, n, .inl (mmRow m i)) := by simp only [mmCell, h]
theorem mmCell_chr {cy : ClassId × ClassId × ClassId} {ad : Nat → Nat} {m : Mem} {i n : Nat} (h : mmSh[i]? = some (.inr (1, n))) : mmCell cy ad m i = .inl (cy.2.1, n, .inl (mmRow m i)) := by simp only [mmCell, h]
theorem mmCell_ref {cy : ClassId × ClassId × ClassId} {ad : Nat → Nat} {m : Mem} {i n : Nat} (h : mmSh[i]? = some (.inr (2, n))) : mmCell cy ad m i = .inl (cy.2.2, n, .inr (.inr (.inr (.inr (fun k => (m.2 k).map ad))))) := by simp only [mmCell, h]
theorem mmF_at {ad : Nat → Nat} {m : Mem} {i ci k : Nat} {o : Option Nat} (h : (mmOff ci)[k]? = some o) : (mmF ad m i ci)[k]? = some (mmFv ad m i k o) := by
  simp [mmF, List.getElem?_mapIdx, h]
/-- a cell that a write doesn't touch -/
theorem mmCell_same {cy : ClassId × ClassId × ClassId} {ad : Nat → Nat} {m m' : Mem} {j : Nat} (h1 : m'.1 j = m.1 j) (h2 : m'.2 = m.2) : mmCell cy ad m' j = mmCell cy ad m j := by
  have e1 : ∀ ci, mmF ad m' j ci = mmF ad m j ci := fun ci => by
    unfold mmF
    congr 1
    funext k o
    cases o <;> simp [mmFv, h1]
  have e2 : mmRow m' j = mmRow m j := by funext k; simp [mmRow, h1]
  unfold mmCell
  split <;> simp only [e1, e2, h2]
theorem mwr_ne {m : Mem} {c k j : Nat} {v : Int} (h : j ≠ c) : (mwr m c k v).1 j = m.1 j := by simp [mwr, h]
theorem mwr_self {m : Mem} {c k q : Nat} {v : Int} : (mwr m c k v).1 c q = if q = k then v else m.1 c q := by simp [mwr]
theorem mwr_R {m : Mem} {c k : Nat} {v : Int} (h : mmR m) (hv : inR v) : mmR (mwr m c k v) := by
  intro j q
  by_cases hj : j = c
  · subst hj
    rw [mwr_self]
    split
    · exact hv
    · exact h _ _
  · rw [mwr_ne hj]; exact h _ _
theorem mcp_R {m : Mem} {src sp dst dp n : Nat} (h : mmR m) : mmR (mcp m src sp dst dp n) := by
  intro j q
  unfold mcp va_cpy
  by_cases hj : j = dst
  · simp only [hj, if_pos]
    split
    · exact h _ _
    · exact h _ _
  · simp only [hj, if_false]
    exact h _ _
theorem mmF_set {ad : Nat → Nat} {m : Mem} {i ci k : Nat} {v : Int} (h : (mmOff ci)[k]? = some none) : (mmF ad m i ci).set k (vi v) = mmF ad (mwr m i k v) i ci := by
  have hl := (List.getElem?_eq_some_iff.mp h).1
  apply List.ext_getElem?
  intro j
  by_cases hj : j = k
  · subst hj
    rw [List.getElem?_set_self (by simpa [mmF] using hl), mmF_at h]
    simp [mmFv, mwr_self]
  · rw [List.getElem?_set_ne (Ne.symm hj)]
    cases ho : (mmOff ci)[j]? with
    | none =>
      have : (mmOff ci).length ≤ j := List.getElem?_eq_none_iff.mp ho
      rw [List.getElem?_eq_none (by simpa [mmF] using this), List.getElem?_eq_none (by simpa [mmF] using this)]
    | some o =>
      rw [mmF_at ho, mmF_at ho]
      cases o with
      | none => simp [mmFv, mwr_self, hj]
      | some d => rfl
theorem mmRow_wr {m : Mem} {i k : Nat} {v : Int} : upd (mmRow m i) k (Int32.ofInt v) = mmRow (mwr m i k v) i := by
  funext q
  by_cases hq : q = k
  · subst hq; simp [upd, mmRow, mwr_self]
  · simp [upd, mmRow, mwr_self, hq]
theorem mmRow_cp {m : Mem} {src sp dst dp n : Nat} : va_cpy (mmRow m src) (mmRow m dst) sp dp n = mmRow (mcp m src sp dst dp n) dst := by
  funext q
  simp only [va_cpy, mmRow, mcp, if_pos]
  split <;> rfl
theorem inR_lo {x : Int} (h : inR x) : -2 ^ 31 ≤ x ∧ x < 2 ^ 31 := by have := h.1; have := h.2; omega
theorem oi_lt {x y : Int} (hx : inR x) (hy : inR y) : Int32.ofInt x < Int32.ofInt y ↔ x < y := by
  rw [Int32.lt_iff_toInt_lt, Int32.toInt_ofInt_of_le (inR_lo hx).1 (inR_lo hx).2, Int32.toInt_ofInt_of_le (inR_lo hy).1 (inR_lo hy).2]
theorem oi_le {x y : Int} (hx : inR x) (hy : inR y) : Int32.ofInt x ≤ Int32.ofInt y ↔ x ≤ y := by
  rw [Int32.le_iff_toInt_le, Int32.toInt_ofInt_of_le (inR_lo hx).1 (inR_lo hx).2, Int32.toInt_ofInt_of_le (inR_lo hy).1 (inR_lo hy).2]
theorem oi_eq {x y : Int} (hx : inR x) (hy : inR y) : Int32.ofInt x = Int32.ofInt y ↔ x = y := by
  rw [← Int32.toInt_inj, Int32.toInt_ofInt_of_le (inR_lo hx).1 (inR_lo hx).2, Int32.toInt_ofInt_of_le (inR_lo hy).1 (inR_lo hy).2]
theorem inR0 : inR 0 := by decide
theorem oi_0 : (0 : Int32) = Int32.ofInt 0 := by decide
theorem oi_cl {x : Int} (h : inR x) : (Int32.ofInt x).toNatClampNeg = x.toNat := Int32.toNatClampNeg_ofInt_of_le (inR_lo h).1 (inR_lo h).2
theorem oi_in {x : Int} {n : Nat} (hx : inR x) (h : 0 ≤ x ∧ x < n) : vp_in (Int32.ofInt x) n := by
  unfold vp_in
  rw [oi_cl hx, oi_0, oi_lt hx inR0]
  omega
theorem ol_i2l {x : Int} (h : inR x) : (Int32.ofInt x).toInt64 = Int64.ofInt x := by
  rw [← Int32.ofInt_toInt (Int32.ofInt x), Int32.toInt_ofInt_of_le (inR_lo h).1 (inR_lo h).2, ← Int64.ofInt_int32ToInt, Int32.toInt_ofInt_of_le (inR_lo h).1 (inR_lo h).2]
theorem ol_t {x : Int} (h : inL x) : (Int64.ofInt x).toInt = x := Int64.toInt_ofInt_of_le (by have := h.1; omega) (by have := h.2; omega)
theorem ol_cmp {x y : Int} (hx : inL x) (hy : inL y) : lg_cmp (Int64.ofInt x) (Int64.ofInt y) = Int32.ofInt (mmCmp x y) := by
  unfold lg_cmp mmCmp
  simp only [gt_iff_lt, Int64.lt_iff_toInt_lt, ← Int64.toInt_inj, ol_t hx, ol_t hy]
  split
  · decide
  · split <;> decide
theorem mmCmp_R (x y : Int) : inR (mmCmp x y) := by
  unfold mmCmp
  split
  · decide
  · split <;> decide
theorem oi_div {x y : Int} (hx : inR x) (hy : inR y) (h : 0 ≤ x ∧ 0 < y) : Int32.ofInt x / Int32.ofInt y = Int32.ofInt (x / y) := by
  apply Int32.toInt_inj.mp
  have e1 := Int32.toInt_ofInt_of_le (inR_lo hx).1 (inR_lo hx).2
  have e2 := Int32.toInt_ofInt_of_le (inR_lo hy).1 (inR_lo hy).2
  have h1 : 0 ≤ x / y := Int.ediv_nonneg h.1 (by omega)
  have h2 : x / y ≤ x := Int.ediv_le_self _ h.1
  have hx2 := hx.2
  rw [lg_idiv_nonneg (by rw [e1]; exact h.1) (by rw [e2]; exact h.2), e1, e2, Int32.toInt_ofInt_of_le (by omega) (by omega)]
noncomputable def mmK {α : Type} (c : Prop) (X : Option α) : Option α := @ite (Option α) c (Classical.propDecidable c) X none
theorem mmK_p {α : Type} {c : Prop} {X : Option α} (h : c) : mmK c X = X := by unfold mmK; exact if_pos h
theorem mmK_n {α : Type} {c : Prop} {X : Option α} (h : ¬ c) : mmK c X = none := by unfold mmK; exact if_neg h
theorem mmK_e {α : Type} {c : Prop} {X : Option α} {r : α} (h : mmK c X = some r) : c ∧ X = some r := by
  by_cases hc : c
  · rw [mmK_p hc] at h; exact ⟨hc, h⟩
  · rw [mmK_n hc] at h; cases h
theorem mmI_t {α : Type} {c : Prop} [Decidable c] {X Y : Option α} {r : α} (hc : c) (h : (if c then X else Y) = some r) : X = some r := by rwa [if_pos hc] at h
theorem mmI_f {α : Type} {c : Prop} [Decidable c] {X Y : Option α} {r : α} (hc : ¬ c) (h : (if c then X else Y) = some r) : Y = some r := by rwa [if_neg hc] at h
theorem mmB_e {α β : Type} {X : Option α} {K : α → Option β} {r : β} (h : X.bind K = some r) : ∃ q, X = some q ∧ K q = some r := by
  cases X with
  | none => cases h
  | some q => exact ⟨q, rfl, h⟩
/-- the fuel of the loops -/
def mmFU : Nat := 1000
def mmG0 : State → (Nat → Prop) → (Nat → Nat) → Prop := fun _ _ _ => True
def mmRet (cc : ByteArray) (pc : Nat) (v : Option Value) : Prop := (∃ x : Int, v = some (vi x) ∧ decode cc pc = .ok (.ireturn, 1)) ∨ (v = none ∧ decode cc pc = .ok (.return_, 1))
/-- what stands through a method -/
def mmC (own : String) (cc : ByteArray) (nL : Nat) (R : Room) (G : State → (Nat → Prop) → (Nat → Nat) → Prop) (Po : Option Value → Mem → Prop) (p : Program) (l : Launch) (e : Env) (s : State) (mi : MethodId) (args : Array Value) (below : List Frame) (meth : Method) (c : Code) (cells slots : Nat) (Q : State → Prop) (D : va_G) (cy : ClassId × ClassId × ClassId) (ad : Nat → Nat) (A : Nat → Prop) : Prop :=
  p.tables.exec = Jvm.exec ∧ c.code = cc ∧ c.maxLocals = nL ∧ s.vm.findClass own = some mi.cls ∧ (∀ w ∈ mm_tb, w.before args s = true) ∧ (cells ≤ R.cells ∧ slots ≤ R.slots) ∧ (∀ q, s.heap.size ≤ q → A q) ∧ va_K D vwCl (mmT cy) s ∧ (∀ m, va_D A (mmW cy ad m)) ∧ G s A ad ∧
  (∀ (v : Option Value) (m' : Mem) (H' : Heap) (locs' : List Loc) (ls' : Array Slot) (pc' : Nat), Po v m' → mmR m' → mmRet cc pc' v → va_P D vwCl (mmW cy ad m') H' → va_S A s.heap H' locs' → W p l e R s mi args below meth c H' locs' cells slots Q (F0 mi pc' ls' (v.toList.map (mmV ad))))
def mmL (ad : Nat → Nat) (lv : List (Nat × Value)) : List (Nat × Value) := lv.map fun q => (q.1, mmV ad q.2)
def VV (own : String) (cc : ByteArray) (nL : Nat) (R : Room) (G : State → (Nat → Prop) → (Nat → Nat) → Prop) (Po : Option Value → Mem → Prop) (pc : Nat) (lv : List (Nat × Value)) (st : List Value) (m : Mem) : Prop :=
  ∀ ⦃p : Program⦄ ⦃l : Launch⦄ ⦃e : Env⦄ ⦃s : State⦄ ⦃mi : MethodId⦄ ⦃args : Array Value⦄ ⦃below : List Frame⦄ ⦃meth : Method⦄ ⦃c : Code⦄ ⦃cells slots : Nat⦄ ⦃Q : State → Prop⦄ ⦃D : va_G⦄ ⦃cy : ClassId × ClassId × ClassId⦄ ⦃ad : Nat → Nat⦄ ⦃A : Nat → Prop⦄,
    mmC own cc nL R G Po p l e s mi args below meth c cells slots Q D cy ad A → ∀ ⦃H : Heap⦄ ⦃locs : List Loc⦄ ⦃ls : Array Slot⦄, mmR m → va_P D vwCl (mmW cy ad m) H → va_S A s.heap H locs → lv_has ls nL (mmL ad lv) →
    W p l e R s mi args below meth c H locs cells slots Q (F0 mi pc ls (st.map (mmV ad)))
theorem mmL_at {ad : Nat → Nat} {lv : List (Nat × Value)} {k i : Nat} {v : Value} (h : lv[k]? = some (i, v)) : (mmL ad lv)[k]? = some (i, mmV ad v) := by
  simp [mmL, List.getElem?_map, h]
/-- the list of locals behind a store: in the order of their places -/
def mmIns (i : Nat) (v : Value) : List (Nat × Value) → List (Nat × Value)
  | [] => [(i, v)]
  | q :: r => if i < q.1 then (i, v) :: q :: r else if i = q.1 then (i, v) :: r else q :: mmIns i v r
theorem mmIns_mem {i : Nat} {v : Value} {lv : List (Nat × Value)} {q : Nat × Value} (h : q ∈ mmIns i v lv) : q = (i, v) ∨ q ∈ lv := by
  induction lv with
  | nil => exact Or.inl (List.mem_singleton.mp h)
  | cons a r ih =>
    unfold mmIns at h
    split at h
    · rcases List.mem_cons.mp h with h | h
      · exact Or.inl h
      · exact Or.inr h
    · split at h
      · rcases List.mem_cons.mp h with h | h
        · exact Or.inl h
        · exact Or.inr (List.mem_cons_of_mem _ h)
      · rcases List.mem_cons.mp h with h | h
        · exact Or.inr (by rw [h]; exact List.mem_cons_self)
        · rcases ih h with h | h
          · exact Or.inl h
          · exact Or.inr (List.mem_cons_of_mem _ h)
/-- places in order -/
def mmOrd : List (Nat × Value) → Bool
  | [] => true
  | q :: r => (r.all fun z => decide (q.1 < z.1)) && mmOrd r
def mmOne (lv : List (Nat × Value)) : Bool := lv.all fun q => q.2.category == 1
theorem mmIns_pl {i : Nat} {v : Value} {lv : List (Nat × Value)} (ho : mmOrd lv = true) {q : Nat × Value} (h : q ∈ mmIns i v lv) : q = (i, v) ∨ (q ∈ lv ∧ q.1 ≠ i) := by
  induction lv with
  | nil => exact Or.inl (List.mem_singleton.mp h)
  | cons a r ih =>
    simp only [mmOrd, Bool.and_eq_true, List.all_eq_true, decide_eq_true_eq] at ho
    unfold mmIns at h
    split at h
    · rcases List.mem_cons.mp h with h | h
      · exact Or.inl h
      · refine Or.inr ⟨h, ?_⟩
        rcases List.mem_cons.mp h with h | h
        · subst h; omega
        · have := ho.1 q h; omega
    · split at h
      · rcases List.mem_cons.mp h with h | h
        · exact Or.inl h
        · refine Or.inr ⟨List.mem_cons_of_mem _ h, ?_⟩
          have := ho.1 q h; omega
      · rcases List.mem_cons.mp h with h | h
        · subst h
          exact Or.inr ⟨List.mem_cons_self, fun z => by omega⟩
        · rcases ih ho.2 h with h | h
          · exact Or.inl h
          · exact Or.inr ⟨List.mem_cons_of_mem _ h.1, h.2⟩
theorem mmL_store {ad : Nat → Nat} {lv : List (Nat × Value)} {i nL : Nat} {v : Value} {ls : Array Slot} (ho : mmOrd lv = true) (h1 : mmOne lv = true)
    (h : lv_has ls nL ((i, mmV ad v) :: (mmL ad lv).filter (fun q => !(q.1 == i) && !(q.1 + 1 == i && q.2.category == 2)))) : lv_has ls nL (mmL ad (mmIns i v lv)) := by
  refine ⟨h.1, h.2.1, fun q hq => ?_⟩
  obtain ⟨z, hz, rfl⟩ := List.mem_map.mp hq
  rcases mmIns_pl ho hz with rfl | ⟨h2, h3⟩
  · exact h.2.2 _ List.mem_cons_self
  · refine h.2.2 _ (List.mem_cons_of_mem _ (List.mem_filter.mpr ⟨List.mem_map.mpr ⟨z, h2, rfl⟩, ?_⟩))
    have h4 := List.all_eq_true.mp h1 z h2
    simp only [beq_iff_eq] at h4
    simp [h3, mmV_cat, h4]
theorem mmL_pick {ad : Nat → Nat} {lv lv' : List (Nat × Value)} (ks : List Nat) (h : lv_pick lv ks = lv') : lv_pick (mmL ad lv) ks = mmL ad lv' := by
  subst h
  unfold lv_pick mmL
  rw [List.map_filterMap]
  congr 1
  funext k
  rw [List.getElem?_map]
section RULES
variable {own : String} {cc : ByteArray} {nL : Nat} {R : Room} {G : State → (Nat → Prop) → (Nat → Nat) → Prop} {Po : Option Value → Mem → Prop} {pc : Nat} {lv : List (Nat × Value)} {st : List Value} {m : Mem}
theorem V_iconst {n : Int} {v : Int} (hd : decode cc pc = .ok (.iconst n, 1)) (hv : n = v) (k : VV own cc nL R G Po (pc + 1) lv (vi v :: st) m) : VV own cc nL R G Po pc lv st m := by
  intro p l e s mi args below meth c cells slots Q D cy ad A C H locs ls hR hP hS hl
  subst hv
  exact lv_iconst C.1 C.2.1 hd rfl (k C hR hP hS hl)
theorem V_bipush {n : Int} {v : Int} (hd : decode cc pc = .ok (.bipush n, 2)) (hv : (Int8.ofInt n).toInt32 = Int32.ofInt v) (k : VV own cc nL R G Po (pc + 2) lv (vi v :: st) m) : VV own cc nL R G Po pc lv st m := by
  intro p l e s mi args below meth c cells slots Q D cy ad A C H locs ls hR hP hS hl
  exact lv_bipush C.1 C.2.1 hd hv (k C hR hP hS hl)
theorem V_sipush {n : Int} {v : Int} (hd : decode cc pc = .ok (.sipush n, 3)) (hv : (Int16.ofInt n).toInt32 = Int32.ofInt v) (k : VV own cc nL R G Po (pc + 3) lv (vi v :: st) m) : VV own cc nL R G Po pc lv st m := by
  intro p l e s mi args below meth c cells slots Q D cy ad A C H locs ls hR hP hS hl
  exact lv_sipush C.1 C.2.1 hd hv (k C hR hP hS hl)
theorem V_lconst {n : Fin 2} {v : Int} (hd : decode cc pc = .ok (.lconst n, 1)) (hv : Int64.ofNat (n : Nat) = Int64.ofInt v) (k : VV own cc nL R G Po (pc + 1) lv (vl v :: st) m) : VV own cc nL R G Po pc lv st m := by
  intro p l e s mi args below meth c cells slots Q D cy ad A C H locs ls hR hP hS hl
  exact lv_lconst C.1 C.2.1 hd hv (k C hR hP hS hl)
theorem V_ldc2 {index : Nat} {z : Int64} {v : Int} (hd : decode cc pc = .ok (.ldc2_w index, 3)) (hw : Jvm.Cond.constantLong own index z ∈ mm_tb) (hv : z = Int64.ofInt v) (k : VV own cc nL R G Po (pc + 3) lv (vl v :: st) m) : VV own cc nL R G Po pc lv st m := by
  intro p l e s mi args below meth c cells slots Q D cy ad A C H locs ls hR hP hS hl
  subst hv
  exact lv_ldc2 C.1 C.2.1 C.2.2.2.1 (C.2.2.2.2.1 _ hw) hd (k C hR hP hS hl)
theorem V_iload_n {k' : Fin 4} {x : Int} (j : Nat) (hd : decode cc pc = .ok (.iload_n k', 1)) (hk : lv[j]? = some ((k' : Nat), vi x)) (k : VV own cc nL R G Po (pc + 1) lv (vi x :: st) m) : VV own cc nL R G Po pc lv st m := by
  intro p l e s mi args below meth c cells slots Q D cy ad A C H locs ls hR hP hS hl
  exact lv_iload_n C.1 C.2.1 hd rfl (lv_at hl j (mmL_at hk)) (k C hR hP hS hl)
theorem V_iload {i : Nat} {x : Int} (j : Nat) (hd : decode cc pc = .ok (.iload i, 2)) (hk : lv[j]? = some (i, vi x)) (k : VV own cc nL R G Po (pc + 2) lv (vi x :: st) m) : VV own cc nL R G Po pc lv st m := by
  intro p l e s mi args below meth c cells slots Q D cy ad A C H locs ls hR hP hS hl
  exact lv_iload C.1 C.2.1 hd (lv_at hl j (mmL_at hk)) (k C hR hP hS hl)
theorem V_lload_n {k' : Fin 4} {x : Int} (j : Nat) (hd : decode cc pc = .ok (.lload_n k', 1)) (hk : lv[j]? = some ((k' : Nat), vl x)) (k : VV own cc nL R G Po (pc + 1) lv (vl x :: st) m) : VV own cc nL R G Po pc lv st m := by
  intro p l e s mi args below meth c cells slots Q D cy ad A C H locs ls hR hP hS hl
  exact lv_lload_n C.1 C.2.1 hd rfl (lv_at hl j (mmL_at hk)) (k C hR hP hS hl)
theorem V_lload {i : Nat} {x : Int} (j : Nat) (hd : decode cc pc = .ok (.lload i, 2)) (hk : lv[j]? = some (i, vl x)) (k : VV own cc nL R G Po (pc + 2) lv (vl x :: st) m) : VV own cc nL R G Po pc lv st m := by
  intro p l e s mi args below meth c cells slots Q D cy ad A C H locs ls hR hP hS hl
  exact lv_lload C.1 C.2.1 hd (lv_at hl j (mmL_at hk)) (k C hR hP hS hl)
theorem V_aload_n {k' : Fin 4} {x : Nat} (j : Nat) (hd : decode cc pc = .ok (.aload_n k', 1)) (hk : lv[j]? = some ((k' : Nat), .ref x)) (k : VV own cc nL R G Po (pc + 1) lv (.ref x :: st) m) : VV own cc nL R G Po pc lv st m := by
  intro p l e s mi args below meth c cells slots Q D cy ad A C H locs ls hR hP hS hl
  exact lv_aload_n C.1 C.2.1 hd rfl (lv_at hl j (mmL_at hk)) (k C hR hP hS hl)
theorem V_aload {i : Nat} {x : Nat} (j : Nat) (hd : decode cc pc = .ok (.aload i, 2)) (hk : lv[j]? = some (i, .ref x)) (k : VV own cc nL R G Po (pc + 2) lv (.ref x :: st) m) : VV own cc nL R G Po pc lv st m := by
  intro p l e s mi args below meth c cells slots Q D cy ad A C H locs ls hR hP hS hl
  exact lv_aload C.1 C.2.1 hd (lv_at hl j (mmL_at hk)) (k C hR hP hS hl)
theorem V_istore_n {k' : Fin 4} {i : Nat} {x : Int} {lv' : List (Nat × Value)} (hd : decode cc pc = .ok (.istore_n k', 1)) (hi : (k' : Nat) = i) (ho : (mmOrd lv && (mmOne lv && decide (i < nL))) = true) (hl' : mmIns i (vi x) lv = lv') (k : VV own cc nL R G Po (pc + 1) lv' st m) : VV own cc nL R G Po pc lv (vi x :: st) m := by
  intro p l e s mi args below meth c cells slots Q D cy ad A C H locs ls hR hP hS hl
  subst hl'
  simp only [Bool.and_eq_true, decide_eq_true_eq] at ho
  exact lv_istore_n C.1 C.2.1 hd hi hl ho.2.2 rfl (fun ls2 hl2 => k C hR hP hS (mmL_store ho.1 ho.2.1 hl2))
theorem V_istore {i : Nat} {x : Int} {lv' : List (Nat × Value)} (hd : decode cc pc = .ok (.istore i, 2)) (ho : (mmOrd lv && (mmOne lv && decide (i < nL))) = true) (hl' : mmIns i (vi x) lv = lv') (k : VV own cc nL R G Po (pc + 2) lv' st m) : VV own cc nL R G Po pc lv (vi x :: st) m := by
  intro p l e s mi args below meth c cells slots Q D cy ad A C H locs ls hR hP hS hl
  subst hl'
  simp only [Bool.and_eq_true, decide_eq_true_eq] at ho
  exact lv_istore C.1 C.2.1 hd hl ho.2.2 rfl (fun ls2 hl2 => k C hR hP hS (mmL_store ho.1 ho.2.1 hl2))
theorem V_astore_n {k' : Fin 4} {i : Nat} {x : Nat} {lv' : List (Nat × Value)} (hd : decode cc pc = .ok (.astore_n k', 1)) (hi : (k' : Nat) = i) (ho : (mmOrd lv && (mmOne lv && decide (i < nL))) = true) (hl' : mmIns i (.ref x) lv = lv') (k : VV own cc nL R G Po (pc + 1) lv' st m) : VV own cc nL R G Po pc lv (.ref x :: st) m := by
  intro p l e s mi args below meth c cells slots Q D cy ad A C H locs ls hR hP hS hl
  subst hl'
  simp only [Bool.and_eq_true, decide_eq_true_eq] at ho
  exact lv_astore_n C.1 C.2.1 hd hi hl ho.2.2 rfl (fun ls2 hl2 => k C hR hP hS (mmL_store ho.1 ho.2.1 hl2))
theorem V_astore {i : Nat} {x : Nat} {lv' : List (Nat × Value)} (hd : decode cc pc = .ok (.astore i, 2)) (ho : (mmOrd lv && (mmOne lv && decide (i < nL))) = true) (hl' : mmIns i (.ref x) lv = lv') (k : VV own cc nL R G Po (pc + 2) lv' st m) : VV own cc nL R G Po pc lv (.ref x :: st) m := by
  intro p l e s mi args below meth c cells slots Q D cy ad A C H locs ls hR hP hS hl
  subst hl'
  simp only [Bool.and_eq_true, decide_eq_true_eq] at ho
  exact lv_astore C.1 C.2.1 hd hl ho.2.2 rfl (fun ls2 hl2 => k C hR hP hS (mmL_store ho.1 ho.2.1 hl2))
theorem V_iinc {i : Nat} {n : Int} {x v : Int} {lv' : List (Nat × Value)} (j : Nat) (hd : decode cc pc = .ok (.iinc i n, 3)) (hk : lv[j]? = some (i, vi x)) (hv : x + n = v) (ho : (mmOrd lv && (mmOne lv && decide (i < nL))) = true) (hl' : mmIns i (vi v) lv = lv') (k : VV own cc nL R G Po (pc + 3) lv' st m) : VV own cc nL R G Po pc lv st m := by
  intro p l e s mi args below meth c cells slots Q D cy ad A C H locs ls hR hP hS hl
  subst hl' hv
  simp only [Bool.and_eq_true, decide_eq_true_eq] at ho
  exact lv_iinc C.1 C.2.1 hd hl (k := j) (v := Int32.ofInt (x + n)) (mmL_at hk) (by rw [Int32.ofInt_add]) ho.2.2 rfl (fun ls2 hl2 => k C hR hP hS (mmL_store (v := vi (x + n)) ho.1 ho.2.1 hl2))
theorem V_sub {lv' : List (Nat × Value)} (ks : List Nat) (hl' : lv_pick lv ks = lv') (k : VV own cc nL R G Po pc lv' st m) : VV own cc nL R G Po pc lv st m := by
  intro p l e s mi args below meth c cells slots Q D cy ad A C H locs ls hR hP hS hl
  exact k C hR hP hS (lv_sub hl ks (mmL_pick ks hl'))
theorem V_iadd {x y : Int} (hd : decode cc pc = .ok (.iadd, 1)) (k : VV own cc nL R G Po (pc + 1) lv (vi (x + y) :: st) m) : VV own cc nL R G Po pc lv (vi y :: vi x :: st) m := by
  intro p l e s mi args below meth c cells slots Q D cy ad A C H locs ls hR hP hS hl
  refine lv_iadd C.1 C.2.1 hd ?_
  rw [← Int32.ofInt_add]
  exact k C hR hP hS hl
theorem V_isub {x y : Int} (hd : decode cc pc = .ok (.isub, 1)) (k : VV own cc nL R G Po (pc + 1) lv (vi (x - y) :: st) m) : VV own cc nL R G Po pc lv (vi y :: vi x :: st) m := by
  intro p l e s mi args below meth c cells slots Q D cy ad A C H locs ls hR hP hS hl
  refine lv_isub C.1 C.2.1 hd ?_
  rw [← Int32.ofInt_sub]
  exact k C hR hP hS hl
theorem V_imul {x y : Int} (hd : decode cc pc = .ok (.imul, 1)) (k : VV own cc nL R G Po (pc + 1) lv (vi (x * y) :: st) m) : VV own cc nL R G Po pc lv (vi y :: vi x :: st) m := by
  intro p l e s mi args below meth c cells slots Q D cy ad A C H locs ls hR hP hS hl
  refine lv_imul C.1 C.2.1 hd ?_
  rw [← Int32.ofInt_mul]
  exact k C hR hP hS hl
theorem V_lsub {x y : Int} (hd : decode cc pc = .ok (.lsub, 1)) (k : VV own cc nL R G Po (pc + 1) lv (vl (x - y) :: st) m) : VV own cc nL R G Po pc lv (vl y :: vl x :: st) m := by
  intro p l e s mi args below meth c cells slots Q D cy ad A C H locs ls hR hP hS hl
  refine lv_lsub C.1 C.2.1 hd ?_
  rw [← Int64.ofInt_sub]
  exact k C hR hP hS hl
theorem V_idiv {x y : Int} (hd : decode cc pc = .ok (.idiv, 1)) (hx : inR x) (hy : inR y) (h : 0 ≤ x ∧ 0 < y) (k : VV own cc nL R G Po (pc + 1) lv (vi (x / y) :: st) m) : VV own cc nL R G Po pc lv (vi y :: vi x :: st) m := by
  intro p l e s mi args below meth c cells slots Q D cy ad A C H locs ls hR hP hS hl
  refine lv_idiv C.1 C.2.1 hd (by rw [oi_0, oi_eq hy inR0]; omega) ?_
  rw [oi_div hx hy h]
  exact k C hR hP hS hl
theorem V_i2l {x : Int} (hd : decode cc pc = .ok (.i2l, 1)) (hx : inR x) (k : VV own cc nL R G Po (pc + 1) lv (vl x :: st) m) : VV own cc nL R G Po pc lv (vi x :: st) m := by
  intro p l e s mi args below meth c cells slots Q D cy ad A C H locs ls hR hP hS hl
  exact lv_i2l C.1 C.2.1 hd (ol_i2l hx) (k C hR hP hS hl)
theorem V_lcmp {x y : Int} (hd : decode cc pc = .ok (.lcmp, 1)) (hx : inL x) (hy : inL y) (k : VV own cc nL R G Po (pc + 1) lv (vi (mmCmp x y) :: st) m) : VV own cc nL R G Po pc lv (vl y :: vl x :: st) m := by
  intro p l e s mi args below meth c cells slots Q D cy ad A C H locs ls hR hP hS hl
  refine W.lcmp C.1 C.2.1 hd ?_
  rw [ol_cmp hx hy]
  exact k C hR hP hS hl
theorem V_dupi {x : Int} (hd : decode cc pc = .ok (.dup, 1)) (k : VV own cc nL R G Po (pc + 1) lv (vi x :: vi x :: st) m) : VV own cc nL R G Po pc lv (vi x :: st) m := by
  intro p l e s mi args below meth c cells slots Q D cy ad A C H locs ls hR hP hS hl
  exact lv_dup C.1 C.2.1 hd rfl (k C hR hP hS hl)
theorem V_dupa {x : Nat} (hd : decode cc pc = .ok (.dup, 1)) (k : VV own cc nL R G Po (pc + 1) lv (.ref x :: .ref x :: st) m) : VV own cc nL R G Po pc lv (.ref x :: st) m := by
  intro p l e s mi args below meth c cells slots Q D cy ad A C H locs ls hR hP hS hl
  exact lv_dup C.1 C.2.1 hd rfl (k C hR hP hS hl)
theorem V_dup2 {x : Int} {a : Nat} (hd : decode cc pc = .ok (.dup2, 1)) (k : VV own cc nL R G Po (pc + 1) lv (vi x :: .ref a :: vi x :: .ref a :: st) m) : VV own cc nL R G Po pc lv (vi x :: .ref a :: st) m := by
  intro p l e s mi args below meth c cells slots Q D cy ad A C H locs ls hR hP hS hl
  exact lv_dup2_11 C.1 C.2.1 hd rfl rfl (k C hR hP hS hl)
theorem V_popi {x : Int} (hd : decode cc pc = .ok (.pop, 1)) (k : VV own cc nL R G Po (pc + 1) lv st m) : VV own cc nL R G Po pc lv (vi x :: st) m := by
  intro p l e s mi args below meth c cells slots Q D cy ad A C H locs ls hR hP hS hl
  exact lv_pop C.1 C.2.1 hd rfl (k C hR hP hS hl)
theorem V_goto {off : Int} (tgt : Nat) (hd : decode cc pc = .ok (.goto off, 3)) (ht : (pc : Int) + off = (tgt : Int)) (k : VV own cc nL R G Po tgt lv st m) : VV own cc nL R G Po pc lv st m := by
  intro p l e s mi args below meth c cells slots Q D cy ad A C H locs ls hR hP hS hl
  exact lv_goto C.1 C.2.1 hd ht (k C hR hP hS hl)
theorem V_ifnull {x : Nat} {off : Int} (hd : decode cc pc = .ok (.ifnull off, 3)) (k : VV own cc nL R G Po (pc + 3) lv st m) : VV own cc nL R G Po pc lv (.ref x :: st) m := by
  intro p l e s mi args below meth c cells slots Q D cy ad A C H locs ls hR hP hS hl
  exact lv_ifnull C.1 C.2.1 hd (k C hR hP hS hl)
theorem V_ifnonnull {x : Nat} {off : Int} (tgt : Nat) (hd : decode cc pc = .ok (.ifnonnull off, 3)) (ht : (pc : Int) + off = (tgt : Int)) (k : VV own cc nL R G Po tgt lv st m) : VV own cc nL R G Po pc lv (.ref x :: st) m := by
  intro p l e s mi args below meth c cells slots Q D cy ad A C H locs ls hR hP hS hl
  exact lv_ifnonnull C.1 C.2.1 hd ht (k C hR hP hS hl)
theorem V_icmp_eq {x y : Int} {off : Int} (tgt : Nat) (hd : decode cc pc = .ok (.if_icmp .eq off, 3)) (ht : (pc : Int) + off = (tgt : Int)) (hx : inR x) (hy : inR y) (kt : x = y → VV own cc nL R G Po tgt lv st m) (kf : ¬ x = y → VV own cc nL R G Po (pc + 3) lv st m) : VV own cc nL R G Po pc lv (vi y :: vi x :: st) m := by
  intro p l e s mi args below meth c cells slots Q D cy ad A C H locs ls hR hP hS hl
  exact lv_icmp_eq C.1 C.2.1 hd ht (fun z => kt ((oi_eq hx hy).mp z) C hR hP hS hl) (fun z => kf (fun q => z ((oi_eq hx hy).mpr q)) C hR hP hS hl)
theorem V_if_eq {x : Int} {off : Int} (tgt : Nat) (hd : decode cc pc = .ok (.ifCond .eq off, 3)) (ht : (pc : Int) + off = (tgt : Int)) (hx : inR x) (kt : x = 0 → VV own cc nL R G Po tgt lv st m) (kf : ¬ x = 0 → VV own cc nL R G Po (pc + 3) lv st m) : VV own cc nL R G Po pc lv (vi x :: st) m := by
  intro p l e s mi args below meth c cells slots Q D cy ad A C H locs ls hR hP hS hl
  exact lv_if_eq C.1 C.2.1 hd ht (fun z => kt ((oi_eq hx inR0).mp z) C hR hP hS hl) (fun z => kf (fun q => z ((oi_eq hx inR0).mpr q)) C hR hP hS hl)
theorem V_icmp_ne {x y : Int} {off : Int} (tgt : Nat) (hd : decode cc pc = .ok (.if_icmp .ne off, 3)) (ht : (pc : Int) + off = (tgt : Int)) (hx : inR x) (hy : inR y) (kt : ¬ x = y → VV own cc nL R G Po tgt lv st m) (kf : x = y → VV own cc nL R G Po (pc + 3) lv st m) : VV own cc nL R G Po pc lv (vi y :: vi x :: st) m := by
  intro p l e s mi args below meth c cells slots Q D cy ad A C H locs ls hR hP hS hl
  exact lv_icmp_ne C.1 C.2.1 hd ht (fun z => kt (fun q => z ((oi_eq hx hy).mpr q)) C hR hP hS hl) (fun z => kf ((oi_eq hx hy).mp (z)) C hR hP hS hl)
theorem V_if_ne {x : Int} {off : Int} (tgt : Nat) (hd : decode cc pc = .ok (.ifCond .ne off, 3)) (ht : (pc : Int) + off = (tgt : Int)) (hx : inR x) (kt : ¬ x = 0 → VV own cc nL R G Po tgt lv st m) (kf : x = 0 → VV own cc nL R G Po (pc + 3) lv st m) : VV own cc nL R G Po pc lv (vi x :: st) m := by
  intro p l e s mi args below meth c cells slots Q D cy ad A C H locs ls hR hP hS hl
  exact lv_if_ne C.1 C.2.1 hd ht (fun z => kt (fun q => z ((oi_eq hx inR0).mpr q)) C hR hP hS hl) (fun z => kf ((oi_eq hx inR0).mp (z)) C hR hP hS hl)
theorem V_icmp_lt {x y : Int} {off : Int} (tgt : Nat) (hd : decode cc pc = .ok (.if_icmp .lt off, 3)) (ht : (pc : Int) + off = (tgt : Int)) (hx : inR x) (hy : inR y) (kt : x < y → VV own cc nL R G Po tgt lv st m) (kf : ¬ x < y → VV own cc nL R G Po (pc + 3) lv st m) : VV own cc nL R G Po pc lv (vi y :: vi x :: st) m := by
  intro p l e s mi args below meth c cells slots Q D cy ad A C H locs ls hR hP hS hl
  exact lv_icmp_lt C.1 C.2.1 hd ht (fun z => kt ((oi_lt hx hy).mp z) C hR hP hS hl) (fun z => kf (fun q => z ((oi_lt hx hy).mpr q)) C hR hP hS hl)
theorem V_if_lt {x : Int} {off : Int} (tgt : Nat) (hd : decode cc pc = .ok (.ifCond .lt off, 3)) (ht : (pc : Int) + off = (tgt : Int)) (hx : inR x) (kt : x < 0 → VV own cc nL R G Po tgt lv st m) (kf : ¬ x < 0 → VV own cc nL R G Po (pc + 3) lv st m) : VV own cc nL R G Po pc lv (vi x :: st) m := by
  intro p l e s mi args below meth c cells slots Q D cy ad A C H locs ls hR hP hS hl
  exact lv_if_lt C.1 C.2.1 hd ht (fun z => kt ((oi_lt hx inR0).mp z) C hR hP hS hl) (fun z => kf (fun q => z ((oi_lt hx inR0).mpr q)) C hR hP hS hl)
theorem V_icmp_ge {x y : Int} {off : Int} (tgt : Nat) (hd : decode cc pc = .ok (.if_icmp .ge off, 3)) (ht : (pc : Int) + off = (tgt : Int)) (hx : inR x) (hy : inR y) (kt : y ≤ x → VV own cc nL R G Po tgt lv st m) (kf : ¬ y ≤ x → VV own cc nL R G Po (pc + 3) lv st m) : VV own cc nL R G Po pc lv (vi y :: vi x :: st) m := by
  intro p l e s mi args below meth c cells slots Q D cy ad A C H locs ls hR hP hS hl
  exact lv_icmp_ge C.1 C.2.1 hd ht (fun z => kt ((oi_le hy hx).mp z) C hR hP hS hl) (fun z => kf (fun q => z ((oi_le hy hx).mpr q)) C hR hP hS hl)
theorem V_if_ge {x : Int} {off : Int} (tgt : Nat) (hd : decode cc pc = .ok (.ifCond .ge off, 3)) (ht : (pc : Int) + off = (tgt : Int)) (hx : inR x) (kt : 0 ≤ x → VV own cc nL R G Po tgt lv st m) (kf : ¬ 0 ≤ x → VV own cc nL R G Po (pc + 3) lv st m) : VV own cc nL R G Po pc lv (vi x :: st) m := by
  intro p l e s mi args below meth c cells slots Q D cy ad A C H locs ls hR hP hS hl
  exact lv_if_ge C.1 C.2.1 hd ht (fun z => kt ((oi_le inR0 hx).mp z) C hR hP hS hl) (fun z => kf (fun q => z ((oi_le inR0 hx).mpr q)) C hR hP hS hl)
theorem V_icmp_gt {x y : Int} {off : Int} (tgt : Nat) (hd : decode cc pc = .ok (.if_icmp .gt off, 3)) (ht : (pc : Int) + off = (tgt : Int)) (hx : inR x) (hy : inR y) (kt : y < x → VV own cc nL R G Po tgt lv st m) (kf : ¬ y < x → VV own cc nL R G Po (pc + 3) lv st m) : VV own cc nL R G Po pc lv (vi y :: vi x :: st) m := by
  intro p l e s mi args below meth c cells slots Q D cy ad A C H locs ls hR hP hS hl
  exact lv_icmp_gt C.1 C.2.1 hd ht (fun z => kt ((oi_lt hy hx).mp z) C hR hP hS hl) (fun z => kf (fun q => z ((oi_lt hy hx).mpr q)) C hR hP hS hl)
theorem V_if_gt {x : Int} {off : Int} (tgt : Nat) (hd : decode cc pc = .ok (.ifCond .gt off, 3)) (ht : (pc : Int) + off = (tgt : Int)) (hx : inR x) (kt : 0 < x → VV own cc nL R G Po tgt lv st m) (kf : ¬ 0 < x → VV own cc nL R G Po (pc + 3) lv st m) : VV own cc nL R G Po pc lv (vi x :: st) m := by
  intro p l e s mi args below meth c cells slots Q D cy ad A C H locs ls hR hP hS hl
  exact lv_if_gt C.1 C.2.1 hd ht (fun z => kt ((oi_lt inR0 hx).mp z) C hR hP hS hl) (fun z => kf (fun q => z ((oi_lt inR0 hx).mpr q)) C hR hP hS hl)
theorem V_icmp_le {x y : Int} {off : Int} (tgt : Nat) (hd : decode cc pc = .ok (.if_icmp .le off, 3)) (ht : (pc : Int) + off = (tgt : Int)) (hx : inR x) (hy : inR y) (kt : x ≤ y → VV own cc nL R G Po tgt lv st m) (kf : ¬ x ≤ y → VV own cc nL R G Po (pc + 3) lv st m) : VV own cc nL R G Po pc lv (vi y :: vi x :: st) m := by
  intro p l e s mi args below meth c cells slots Q D cy ad A C H locs ls hR hP hS hl
  exact lv_icmp_le C.1 C.2.1 hd ht (fun z => kt ((oi_le hx hy).mp z) C hR hP hS hl) (fun z => kf (fun q => z ((oi_le hx hy).mpr q)) C hR hP hS hl)
theorem V_if_le {x : Int} {off : Int} (tgt : Nat) (hd : decode cc pc = .ok (.ifCond .le off, 3)) (ht : (pc : Int) + off = (tgt : Int)) (hx : inR x) (kt : x ≤ 0 → VV own cc nL R G Po tgt lv st m) (kf : ¬ x ≤ 0 → VV own cc nL R G Po (pc + 3) lv st m) : VV own cc nL R G Po pc lv (vi x :: st) m := by
  intro p l e s mi args below meth c cells slots Q D cy ad A C H locs ls hR hP hS hl
  exact lv_if_le C.1 C.2.1 hd ht (fun z => kt ((oi_le hx inR0).mp z) C hR hP hS hl) (fun z => kf (fun q => z ((oi_le hx inR0).mpr q)) C hR hP hS hl)
theorem V_tableOut {dflt lo hi : Int} {offs : Array Int} {len : Nat} {x : Int} (tgt : Nat) (hd : decode cc pc = .ok (.tableswitch dflt lo hi offs, len)) (hx : inR x) (h : x < lo ∨ hi < x) (ht : (pc : Int) + dflt = (tgt : Int)) (k : VV own cc nL R G Po tgt lv st m) : VV own cc nL R G Po pc lv (vi x :: st) m := by
  intro p l e s mi args below meth c cells slots Q D cy ad A C H locs ls hR hP hS hl
  exact lv_tableOut C.1 C.2.1 hd (by rw [Int32.toInt_ofInt_of_le (inR_lo hx).1 (inR_lo hx).2]; exact h) ht (k C hR hP hS hl)
theorem V_tableIn {dflt lo hi : Int} {offs : Array Int} {len : Nat} {x : Int} {off : Int} (v : Int) (tgt : Nat) (hd : decode cc pc = .ok (.tableswitch dflt lo hi offs, len)) (hx : x = v) (hv : inR v) (h : lo ≤ v ∧ v ≤ hi) (ho : offs[(v - lo).toNat]? = some off) (ht : (pc : Int) + off = (tgt : Int)) (k : VV own cc nL R G Po tgt lv st m) : VV own cc nL R G Po pc lv (vi x :: st) m := by
  intro p l e s mi args below meth c cells slots Q D cy ad A C H locs ls hR hP hS hl
  subst hx
  have e := Int32.toInt_ofInt_of_le (inR_lo hv).1 (inR_lo hv).2
  exact lv_tableIn C.1 C.2.1 hd (by rw [e]; omega) (by rw [e]; omega) (by rw [e]; exact ho) ht (k C hR hP hS hl)
theorem V_lookup {dflt : Int} {ps : Array (Int × Int)} {len : Nat} {x : Int} {off : Int} (tgt : Nat) (hd : decode cc pc = .ok (.lookupswitch dflt ps, len)) (hx : inR x) (hp : (ps.toList.zip (ps.toList.drop 1)).all (fun (a, next) => a.1 < next.1) = true) (ho : Op.lookupswitch.offset ps.toList dflt x = off) (ht : (pc : Int) + off = (tgt : Int)) (k : VV own cc nL R G Po tgt lv st m) : VV own cc nL R G Po pc lv (vi x :: st) m := by
  intro p l e s mi args below meth c cells slots Q D cy ad A C H locs ls hR hP hS hl
  exact lv_lookup C.1 C.2.1 hd hp (by rw [Int32.toInt_ofInt_of_le (inR_lo hx).1 (inR_lo hx).2]; exact ho) ht (k C hR hP hS hl)
theorem V_geti {index ci k N : Nat} {T : u_T} {Cn : String} {o : Nat} (hd : decode cc pc = .ok (.getfield index, 3)) (hin : ∀ w ∈ u_ws Cn T N, w ∈ mm_tb) (hw : Cond.fieldLink own index (T k).1 (T k).2.1 (T k).2.2.1 ∈ mm_tb) (hc : vwCl[ci]? = some (Cn, T, N)) (hk : k < N) (hf : (mmOff ci)[k]? = some none) (hs : mmSh[o]? = some (.inl ci)) {v : Int} (hv : m.1 o k = v) (kk : inR v → VV own cc nL R G Po (pc + 3) lv (vi v :: st) m) : VV own cc nL R G Po pc lv (.ref o :: st) m := by
  intro p l e s mi args below meth c cells slots Q D cy ad A C H locs ls hR hP hS hl
  subst hv
  exact va_get (D := D) (ci := ci) C.1 C.2.1 C.2.2.2.2.1 hin C.2.2.2.1 C.2.2.2.2.2.2.2.1 hP o ((mmW_at cy ad m (mmSh_lt hs)).trans (by rw [mmCell_obj hs])) hc k hk (C.2.2.2.2.1 _ hw) (fun _ h9 => h9) (mmF_at hf) hd (kk (hR o k) C hR hP hS hl)
theorem V_geta {index ci k N d : Nat} {T : u_T} {Cn : String} {o : Nat} (hd : decode cc pc = .ok (.getfield index, 3)) (hin : ∀ w ∈ u_ws Cn T N, w ∈ mm_tb) (hw : Cond.fieldLink own index (T k).1 (T k).2.1 (T k).2.2.1 ∈ mm_tb) (hc : vwCl[ci]? = some (Cn, T, N)) (hk : k < N) (hf : (mmOff ci)[k]? = some (some d)) (hs : mmSh[o]? = some (.inl ci)) {o' : Nat} (ho : o + d = o') (kk : VV own cc nL R G Po (pc + 3) lv (.ref o' :: st) m) : VV own cc nL R G Po pc lv (.ref o :: st) m := by
  intro p l e s mi args below meth c cells slots Q D cy ad A C H locs ls hR hP hS hl
  exact va_get (D := D) (ci := ci) C.1 C.2.1 C.2.2.2.2.1 hin C.2.2.2.1 C.2.2.2.2.2.2.2.1 hP o ((mmW_at cy ad m (mmSh_lt hs)).trans (by rw [mmCell_obj hs])) hc k hk (C.2.2.2.2.1 _ hw) (fun _ h9 => h9) (mmF_at hf) hd (by subst ho; exact kk C hR hP hS hl)
theorem V_put {index ci k N : Nat} {T : u_T} {Cn : String} {o : Nat} {x : Int} {ty : FieldType} (ty0 : Nat → FieldType) (hd : decode cc pc = .ok (.putfield index, 3)) (hin : ∀ w ∈ u_ws Cn T N, w ∈ mm_tb) (hty : ∀ k, k < N → parseFieldDescriptor (T k).2.2.1 = some (ty0 k)) (hnm : ∀ a, a < N → ∀ b, b < N → a ≠ b → (T a).2.1 ≠ (T b).2.1) (hw : Cond.fieldLink own index (T k).1 (T k).2.1 (T k).2.2.1 ∈ mm_tb) (hc : vwCl[ci]? = some (Cn, T, N)) (hk : k < N) (hf : (mmOff ci)[k]? = some none) (hs : mmSh[o]? = some (.inl ci)) (hfin : (T k).2.2.2 = false) (hpd : parseFieldDescriptor (T k).2.2.1 = some ty) (hn : narrow ty (vi x) = vi x) (hfit : fits ty (vi x) = true) (hx : inR x) (kk : VV own cc nL R G Po (pc + 3) lv st (mwr m o k x)) : VV own cc nL R G Po pc lv (vi x :: .ref o :: st) m := by
  intro p l e s mi args below meth c cells slots Q D cy ad A C H locs ls hR hP hS hl
  have he := (mmW_at cy ad m (mmSh_lt hs)).trans (by rw [mmCell_obj hs])
  refine va_put (D := D) (ci := ci) C.1 C.2.1 C.2.2.2.2.1 hin ty0 hty hnm C.2.2.2.1 C.2.2.2.2.2.2.2.1 hP (C.2.2.2.2.2.2.2.2.1 m) hS o he hc k hk (C.2.2.2.2.1 _ hw) (fun _ h9 => h9) hfin hpd hn hfit (by have := (List.getElem?_eq_some_iff.mp hf).1; simpa [mmF] using this) hd (fun H1 locs1 hP1 _ hS1 => ?_)
  rw [show mmV ad (vi x) = vi x from rfl, mmF_set hf, mmW_set cy ad m (mwr m o k x) (mmSh_lt hs) (mmCell_obj hs) (fun j _ hj => mmCell_same (mwr_ne hj) rfl)] at hP1
  exact kk C (mwr_R hR hx) hP1 hS1 hl
theorem V_iald {n a : Nat} {i : Int} (hd : decode cc pc = .ok (.iaload, 1)) (hs : mmSh[a]? = some (.inr (0, n))) (hi : inR i) (hin : 0 ≤ i ∧ i < n) {j : Nat} (hj : i.toNat = j) {v : Int} (hv : m.1 a j = v) (kk : inR v → VV own cc nL R G Po (pc + 1) lv (vi v :: st) m) : VV own cc nL R G Po pc lv (vi i :: .ref a :: st) m := by
  intro p l e s mi args below meth c cells slots Q D cy ad A C H locs ls hR hP hS hl
  subst hj hv
  refine va_iald C.1 C.2.1 C.2.2.2.2.2.2.2.1 hP a 0 ((mmW_at cy ad m (mmSh_lt hs)).trans (by rw [mmCell_int hs])) rfl (oi_in hi hin) hd ?_
  rw [oi_cl hi]
  exact kk (hR a i.toNat) C hR hP hS hl
theorem V_cald {n a : Nat} {i : Int} (hd : decode cc pc = .ok (.caload, 1)) (hs : mmSh[a]? = some (.inr (1, n))) (hi : inR i) (hin : 0 ≤ i ∧ i < n) {j : Nat} (hj : i.toNat = j) {v : Int} (hv : m.1 a j = v) (kk : inR v → VV own cc nL R G Po (pc + 1) lv (vi v :: st) m) : VV own cc nL R G Po pc lv (vi i :: .ref a :: st) m := by
  intro p l e s mi args below meth c cells slots Q D cy ad A C H locs ls hR hP hS hl
  subst hj hv
  refine va_cald C.1 C.2.1 C.2.2.2.2.2.2.2.1 hP a 1 ((mmW_at cy ad m (mmSh_lt hs)).trans (by rw [mmCell_chr hs])) rfl (oi_in hi hin) hd ?_
  rw [oi_cl hi]
  exact kk (hR a i.toNat) C hR hP hS hl
theorem V_iast {n a : Nat} {i x : Int} (hd : decode cc pc = .ok (.iastore, 1)) (hs : mmSh[a]? = some (.inr (0, n))) (hi : inR i) (hx : inR x) (hin : 0 ≤ i ∧ i < n) {j : Nat} (hj : i.toNat = j) (kk : VV own cc nL R G Po (pc + 1) lv st (mwr m a j x)) : VV own cc nL R G Po pc lv (vi x :: vi i :: .ref a :: st) m := by
  intro p l e s mi args below meth c cells slots Q D cy ad A C H locs ls hR hP hS hl
  subst hj
  refine va_iast C.1 C.2.1 C.2.2.2.2.2.2.2.1 hP (C.2.2.2.2.2.2.2.2.1 m) hS a 0 ((mmW_at cy ad m (mmSh_lt hs)).trans (by rw [mmCell_int hs])) rfl (oi_in hi hin) hd (fun H1 locs1 hP1 _ hS1 => ?_)
  rw [oi_cl hi, mmRow_wr, mmW_set cy ad m (mwr m a i.toNat x) (mmSh_lt hs) (mmCell_int hs) (fun j _ hj => mmCell_same (mwr_ne hj) rfl)] at hP1
  exact kk C (mwr_R hR hx) hP1 hS1 hl
theorem V_cast {n a : Nat} {i x : Int} (hd : decode cc pc = .ok (.castore, 1)) (hs : mmSh[a]? = some (.inr (1, n))) (hi : inR i) (hx : inR x) (hin : 0 ≤ i ∧ i < n) (hc : 0 ≤ x ∧ x ≤ 65535) {j : Nat} (hj : i.toNat = j) (kk : VV own cc nL R G Po (pc + 1) lv st (mwr m a j x)) : VV own cc nL R G Po pc lv (vi x :: vi i :: .ref a :: st) m := by
  intro p l e s mi args below meth c cells slots Q D cy ad A C H locs ls hR hP hS hl
  subst hj
  have e := Int32.toInt_ofInt_of_le (inR_lo hx).1 (inR_lo hx).2
  have hn : vp_nar .char (Int32.ofInt x) = Int32.ofInt x := by
    show (Int32.ofInt x).toUInt32.toUInt16.toUInt32.toInt32 = _
    exact lg_i2c_small (by rw [e]; exact hc.1) (by rw [e]; omega)
  refine va_cast C.1 C.2.1 C.2.2.2.2.2.2.2.1 hP (C.2.2.2.2.2.2.2.2.1 m) hS a 1 ((mmW_at cy ad m (mmSh_lt hs)).trans (by rw [mmCell_chr hs])) rfl (oi_in hi hin) hd (fun H1 locs1 hP1 _ hS1 => ?_)
  rw [hn, oi_cl hi, mmRow_wr, mmW_set cy ad m (mwr m a i.toNat x) (mmSh_lt hs) (mmCell_chr hs) (fun j _ hj => mmCell_same (mwr_ne hj) rfl)] at hP1
  exact kk C (mwr_R hR hx) hP1 hS1 hl
theorem V_aald {n a q : Nat} {i : Int} (hd : decode cc pc = .ok (.aaload, 1)) (hs : mmSh[a]? = some (.inr (2, n))) (hi : inR i) (hin : 0 ≤ i ∧ i < n) {j : Nat} (hj : i.toNat = j) (hq : m.2 j = some q) (kk : VV own cc nL R G Po (pc + 1) lv (.ref q :: st) m) : VV own cc nL R G Po pc lv (vi i :: .ref a :: st) m := by
  intro p l e s mi args below meth c cells slots Q D cy ad A C H locs ls hR hP hS hl
  subst hj
  refine va_aldq C.1 C.2.1 C.2.2.2.2.2.2.2.1 hP a 2 ((mmW_at cy ad m (mmSh_lt hs)).trans (by rw [mmCell_ref hs])) rfl (oi_in hi hin) hd ?_
  rw [oi_cl hi, hq]
  exact kk C hR hP hS hl
/-- the one row of references is at the cell 20 -/
theorem V_aast {q : Nat} {i : Int} (hd : decode cc pc = .ok (.aastore, 1)) (hi : inR i) (hin : 0 ≤ i ∧ i < 4) (hs : mmSh[q]? = some (.inl 2)) {j : Nat} (hj : i.toNat = j) (kk : VV own cc nL R G Po (pc + 1) lv st (mwq m j q)) : VV own cc nL R G Po pc lv (.ref q :: vi i :: .ref 20 :: st) m := by
  intro p l e s mi args below meth c cells slots Q D cy ad A C H locs ls hR hP hS hl
  subst hj
  have h20 : mmSh[20]? = some (.inr (2, 4)) := by decide +kernel
  refine va_astq C.1 C.2.1 C.2.2.2.2.2.2.2.1 hP (C.2.2.2.2.2.2.2.2.1 m) hS 20 2 q 2 (r := (RX2, TX2, 10)) ((mmW_at cy ad m (mmSh_lt h20)).trans (by rw [mmCell_ref h20])) rfl ((mmW_at cy ad m (mmSh_lt hs)).trans (by rw [mmCell_obj hs])) rfl (oi_in hi hin) hd (fun H1 locs1 hP1 _ hS1 => ?_)
  have e : va_up (fun k => (m.2 k).map ad) i.toNat (some (ad q)) = fun k => ((mwq m i.toNat q).2 k).map ad := by
    funext k
    by_cases hk : k = i.toNat
    · simp [va_up, mwq, hk]
    · simp [va_up, mwq, hk]
  have h51 : ∀ j, j < 51 → j ≠ 20 → ∀ n, mmSh[j]? ≠ some (.inr (2, n)) := by
    intro j hj hne n hn
    have h2 : ∀ j, j < 51 → j ≠ 20 → mmK2 mmSh[j]? = true := by decide +kernel
    have h3 := h2 j hj hne
    rw [hn] at h3
    cases h3
  rw [oi_cl hi, e, mmW_set cy ad m (mwq m i.toNat q) (mmSh_lt h20) (mmCell_ref h20) (fun j hj hne => ?_)] at hP1
  · exact kk C hR hP1 hS1 hl
  · have hh := h51 j hj hne
    have h3 : ∀ j, j < 51 → ∀ t n, mmSh[j]? = some (.inr (t, n)) → t = 0 ∨ t = 1 ∨ t = 2 := by
      intro j hj t n hn
      have h4 : ∀ j, j < 51 → mmKd mmSh[j]? = true := by decide +kernel
      have h5 := h4 j hj
      rw [hn] at h5
      simpa [mmKd, or_assoc] using h5
    cases hz : mmSh[j]? with
    | none => exact absurd hz (by rw [List.getElem?_eq_some_iff.mpr ⟨by rw [mmSh_len]; exact hj, rfl⟩]; exact fun h => by cases h)
    | some z =>
      cases z with
      | inl ci => rw [mmCell_obj hz, mmCell_obj hz]; rfl
      | inr tn =>
        obtain ⟨t, n⟩ := tn
        rcases h3 j hj t n hz with rfl | rfl | rfl
        · rw [mmCell_int hz, mmCell_int hz]; rfl
        · rw [mmCell_chr hz, mmCell_chr hz]; rfl
        · exact absurd hz (hh n)
theorem V_ret {v : Option Value} (hr : mmRet cc pc v) (hq : Po v m) : VV own cc nL R G Po pc lv v.toList m := by
  intro p l e s mi args below meth c cells slots Q D cy ad A C H locs ls hR hP hS hl
  exact C.2.2.2.2.2.2.2.2.2.2 v m H locs ls pc hq hR hr hP hS
theorem V_reti {x : Int} (hd : decode cc pc = .ok (.ireturn, 1)) (hq : Po (some (vi x)) m) : VV own cc nL R G Po pc lv [vi x] m := V_ret (v := some (vi x)) (Or.inl ⟨x, rfl, hd⟩) hq
theorem V_retv (hd : decode cc pc = .ok (.return_, 1)) (hq : Po none m) : VV own cc nL R G Po pc lv [] m := V_ret (v := none) (Or.inr ⟨rfl, hd⟩) hq
/-- an exact contract over the whole memory: an int, or nothing, is answered -/
def mmPre (D : va_G) (cy : ClassId × ClassId × ClassId) (ad : Nat → Nat) (as : List Value) (m : Mem) (sz : Nat) : Array Value → State → Prop := va_Pc (as.map (mmV ad)) (fun U => U.heap.size = sz ∧ va_P D vwCl (mmW cy ad m) U.heap ∧ va_K D vwCl (mmT cy) U ∧ va_D (fun _ => True) (mmW cy ad m))
def mmWs (y : MethodName) (cc : ByteArray) (nL : Nat) (ret : Option FieldType) : List Cond := Cond.code y cc nL ret :: mm_tb
def CTi (y : MethodName) (cc : ByteArray) (nL : Nat) (ret : Option FieldType) (rm : Room) (as : List Value) (m : Mem) (r : Int × Mem) : Prop := mmR m → ∀ (l : Launch) (D : va_G) (cy : ClassId × ClassId × ClassId) (ad : Nat → Nat) (sz : Nat),
  Met l y (mmWs y cc nL ret) rm (mmPre D cy ad as m sz) (va_Qi (fun (r2 : Int32) (_ : Unit) => r2 = Int32.ofInt r.1 ∧ inR r.1 ∧ mmR r.2) (fun _ t => va_P D vwCl (mmW cy ad r.2) t.heap) (va_A (mmW cy ad m) sz)) 0 0 (va_A (mmW cy ad m) sz)
def CTv (y : MethodName) (cc : ByteArray) (nL : Nat) (rm : Room) (as : List Value) (m : Mem) (m' : Mem) : Prop := mmR m → ∀ (l : Launch) (D : va_G) (cy : ClassId × ClassId × ClassId) (ad : Nat → Nat) (sz : Nat),
  Met l y (mmWs y cc nL none) rm (mmPre D cy ad as m sz) (va_Qv (fun (_ : Unit) => mmR m') (fun _ t => va_P D vwCl (mmW cy ad m') t.heap) (va_A (mmW cy ad m) sz)) 0 0 (va_A (mmW cy ad m) sz)
theorem mmA_in {cy : ClassId × ClassId × ClassId} {ad : Nat → Nat} {m : Mem} {A : Nat → Prop} {H0 H : Heap} {locs : List Loc} (hD : va_D A (mmW cy ad m)) (hS : va_S A H0 H locs) (hA : ∀ q, H0.size ≤ q → A q) : ∀ q, va_A (mmW cy ad m) H.size q → A q := by
  intro q h
  rcases h with ⟨k, e, h⟩ | h
  · exact hD.2 k (q, e) h
  · exact hA q (Nat.le_trans hS.1 h)
theorem mmBlind (D : va_G) (cy : ClassId × ClassId × ClassId) (ad : Nat → Nat) (as : List Value) (m : Mem) (sz : Nat) : FrameBlind (mmPre D cy ad as m sz) := fun a U g mk q => by
  obtain ⟨q0, q1, qP, qK, qD⟩ := q
  exact ⟨q0, q1, qP, va_K.moved (u := U) (U := U.calling g mk a) (Vm.Alike.refl U.vm) qK, qD⟩
theorem mm_ok {w : Cond} (h : w ∈ mm_tb) : (w.onTables && w.keeps) = true ∨ ∃ ty, w = .arrayClass ty := good_of_word (List.mem_filter.mp h).2
theorem mmGV {own Cn : String} {index : Nat} {y : MethodName} {cc : ByteArray} {nL : Nat} {ret : Option FieldType} (gl : Cond.methodLink own index y ∈ mm_tb) (gi : Cond.instanceMethod y ∈ mm_tb) (gs : Cond.selects Cn y y ∈ mm_tb) (gt : Cond.initialized Cn ∈ mm_tb) (gc : Cond.code y cc nL ret ∈ mm_tb) : GoodIn mm_tb (wsV own index Cn y (mmWs y cc nL ret)) := by
  intro w hw
  have hm : w ∈ mm_tb := by
    simp only [wsV, mmWs, List.cons_append, List.nil_append, List.mem_cons] at hw
    rcases hw with rfl | rfl | rfl | rfl | rfl | hw <;> assumption
  exact ⟨hm, mm_ok hm⟩
theorem mmGS {own : String} {index : Nat} {y : MethodName} {cc : ByteArray} {nL : Nat} {ret : Option FieldType} (gl : Cond.methodLink own index y ∈ mm_tb) (gi : Cond.static y ∈ mm_tb) (gt : Cond.initialized y.cls ∈ mm_tb) (gc : Cond.code y cc nL ret ∈ mm_tb) : GoodIn mm_tb (va_wsS own index y (mmWs y cc nL ret)) := by
  intro w hw
  have hm : w ∈ mm_tb := by
    simp only [va_wsS, mmWs, List.cons_append, List.nil_append, List.mem_cons] at hw
    rcases hw with rfl | rfl | rfl | rfl | hw <;> assumption
  exact ⟨hm, mm_ok hm⟩
theorem V_callV {y : MethodName} {rm : Room} {as st0 : List Value} {r : Int × Mem} {bytes : ByteArray} {maxL index ci : Nat} {ret : Option FieldType} {Cn : String} {q : vw_C} {o : Nat} (n : Nat)
    (hd : decode cc pc = .ok (.invokevirtual index, 3)) (hM : CTi y bytes maxL ret rm (.ref o :: as) m r) (gl : Cond.methodLink own index y ∈ mm_tb) (gi : Cond.instanceMethod y ∈ mm_tb) (gs : Cond.selects Cn y y ∈ mm_tb) (gt : Cond.initialized Cn ∈ mm_tb) (gc : Cond.code y bytes maxL ret ∈ mm_tb)
    (hy : y.cls = Cn ∧ y.cls ≠ "java/lang/invoke/MethodHandle" ∧ y.cls ≠ "java/lang/invoke/VarHandle" ∧ (parseMethodDescriptor y.desc).map (fun d => d.parameters.length) = some n)
    (hrm : rm.cells = 0 ∧ rm.slots = 0 ∧ rm.frames + 1 ≤ R.frames ∧ 8 + (maxL + 11) + rm.locals ≤ R.locals) (hs : mmSh[o]? = some (.inl ci)) (hc : vwCl[ci]? = some q) (hq : q.1 = Cn) (hn : as.length = n)
    (hst : st0 = as.reverse ++ .ref o :: st) (hcat : (st.map fun v => v.category).sum ≤ 8) (kk : inR r.1 → VV own cc nL R G Po (pc + 3) lv (vi r.1 :: st) r.2) : VV own cc nL R G Po pc lv st0 m := by
  intro p l e s mi args below meth c cells slots Q D cy ad A C H locs ls hR hP hS hl
  subst hst
  obtain ⟨hx, hb, hml, hown, hts, hcs, hA, hK, hD, hG, hfin⟩ := id C
  have hFc := mmA_in (hD m) hS hA
  have he := (mmW_at cy ad m (mmSh_lt hs)).trans (by rw [mmCell_obj hs])
  have hrun := va_runV (As := as.map (mmV ad)) (rest := st.map (mmV ad)) (b := ad o) (C := Cn) (H := H) (locs := locs) (cells := cells) (slots := slots) (p := p) (e := e) (below := below) (meth := meth) (R := R) (g := F0 mi pc ls ((as.reverse ++ Value.ref o :: st).map (mmV ad))) ⟨hx, hb, hml, hown, hts⟩ (hM hR l D cy ad H.size) (cwV n hts (mmGV gl gi gs gt gc) rfl hrm.1 hrm.2.1 hy ⟨hrm.2.2.1, hrm.2.2.2⟩)
    ⟨mmBlind D cy ad _ m H.size, by rw [← hq]; exact va_recv hK hP hc he, fun U hU hW => ⟨rfl, by rw [hU], by rw [hU]; exact hP, va_K.moved hW.alike hK, (hD m).weaken (fun _ _ _ _ => trivial)⟩⟩
    rfl (by rw [List.length_map]; exact hn) hl.1 (by simp [mmV]) (lv_room (by rw [mmV_cats]; exact hcat)) hd ⟨by omega, by omega⟩
  refine va_calli hrun hS (fun q _ h => hFc q h) hFc (fun r1 u t H1 locs1 ht hvm hpo hB hz1 hk1 hS1 => ?_)
  obtain ⟨rfl, hr1, hr2⟩ := hpo
  rw [ht] at hB
  exact kk hr1 C hr2 hB hS1 hl
theorem V_callVv {y : MethodName} {rm : Room} {as st0 : List Value} {m' : Mem} {bytes : ByteArray} {maxL index ci : Nat} {Cn : String} {q : vw_C} {o : Nat} (n : Nat)
    (hd : decode cc pc = .ok (.invokevirtual index, 3)) (hM : CTv y bytes maxL rm (.ref o :: as) m m') (gl : Cond.methodLink own index y ∈ mm_tb) (gi : Cond.instanceMethod y ∈ mm_tb) (gs : Cond.selects Cn y y ∈ mm_tb) (gt : Cond.initialized Cn ∈ mm_tb) (gc : Cond.code y bytes maxL none ∈ mm_tb)
    (hy : y.cls = Cn ∧ y.cls ≠ "java/lang/invoke/MethodHandle" ∧ y.cls ≠ "java/lang/invoke/VarHandle" ∧ (parseMethodDescriptor y.desc).map (fun d => d.parameters.length) = some n)
    (hrm : rm.cells = 0 ∧ rm.slots = 0 ∧ rm.frames + 1 ≤ R.frames ∧ 8 + (maxL + 11) + rm.locals ≤ R.locals) (hs : mmSh[o]? = some (.inl ci)) (hc : vwCl[ci]? = some q) (hq : q.1 = Cn) (hn : as.length = n)
    (hst : st0 = as.reverse ++ .ref o :: st) (hcat : (st.map fun v => v.category).sum ≤ 8) (kk : VV own cc nL R G Po (pc + 3) lv st m') : VV own cc nL R G Po pc lv st0 m := by
  intro p l e s mi args below meth c cells slots Q D cy ad A C H locs ls hR hP hS hl
  subst hst
  obtain ⟨hx, hb, hml, hown, hts, hcs, hA, hK, hD, hG, hfin⟩ := id C
  have hFc := mmA_in (hD m) hS hA
  have he := (mmW_at cy ad m (mmSh_lt hs)).trans (by rw [mmCell_obj hs])
  have hrun := va_runV (As := as.map (mmV ad)) (rest := st.map (mmV ad)) (b := ad o) (C := Cn) (H := H) (locs := locs) (cells := cells) (slots := slots) (p := p) (e := e) (below := below) (meth := meth) (R := R) (g := F0 mi pc ls ((as.reverse ++ Value.ref o :: st).map (mmV ad))) ⟨hx, hb, hml, hown, hts⟩ (hM hR l D cy ad H.size) (cwV n hts (mmGV gl gi gs gt gc) rfl hrm.1 hrm.2.1 hy ⟨hrm.2.2.1, hrm.2.2.2⟩)
    ⟨mmBlind D cy ad _ m H.size, by rw [← hq]; exact va_recv hK hP hc he, fun U hU hW => ⟨rfl, by rw [hU], by rw [hU]; exact hP, va_K.moved hW.alike hK, (hD m).weaken (fun _ _ _ _ => trivial)⟩⟩
    rfl (by rw [List.length_map]; exact hn) hl.1 (by simp [mmV]) (lv_room (by rw [mmV_cats]; exact hcat)) hd ⟨by omega, by omega⟩
  refine va_callv hrun hS (fun q _ h => hFc q h) hFc (fun u t H1 locs1 ht hvm hpo hB hz1 hk1 hS1 => ?_)
  rw [ht] at hB
  exact kk C hpo hB hS1 hl
theorem V_callS {y : MethodName} {rm : Room} {as st0 : List Value} {r : Int × Mem} {bytes : ByteArray} {maxL index : Nat} {ret : Option FieldType} (n : Nat)
    (hd : decode cc pc = .ok (.invokestatic index, 3)) (hM : CTi y bytes maxL ret rm as m r) (gl : Cond.methodLink own index y ∈ mm_tb) (gi : Cond.static y ∈ mm_tb) (gt : Cond.initialized y.cls ∈ mm_tb) (gc : Cond.code y bytes maxL ret ∈ mm_tb)
    (hy : y.cls ≠ "java/lang/invoke/MethodHandle" ∧ y.cls ≠ "java/lang/invoke/VarHandle" ∧ (parseMethodDescriptor y.desc).map (fun d => d.parameters.length) = some n)
    (hrm : rm.cells = 0 ∧ rm.slots = 0 ∧ rm.frames + 1 ≤ R.frames ∧ 8 + (maxL + 11) + rm.locals ≤ R.locals) (hn : as.length = n)
    (hst : st0 = as.reverse ++ st) (hcat : (st.map fun v => v.category).sum ≤ 8) (kk : inR r.1 → VV own cc nL R G Po (pc + 3) lv (vi r.1 :: st) r.2) : VV own cc nL R G Po pc lv st0 m := by
  intro p l e s mi args below meth c cells slots Q D cy ad A C H locs ls hR hP hS hl
  subst hst
  obtain ⟨hx, hb, hml, hown, hts, hcs, hA, hK, hD, hG, hfin⟩ := id C
  have hFc := mmA_in (hD m) hS hA
  have hrun := va_runS (As := as.map (mmV ad)) (rest := st.map (mmV ad)) (H := H) (locs := locs) (cells := cells) (slots := slots) (p := p) (e := e) (below := below) (meth := meth) (R := R) (g := F0 mi pc ls ((as.reverse ++ st).map (mmV ad))) ⟨hx, hb, hml, hown, hts⟩ (hM hR l D cy ad H.size) (va_cwS n hts (mmGS gl gi gt gc) rfl hrm.1 hrm.2.1 hy ⟨hrm.2.2.1, hrm.2.2.2⟩)
    ⟨mmBlind D cy ad _ m H.size, fun U hU hW => ⟨rfl, by rw [hU], by rw [hU]; exact hP, va_K.moved hW.alike hK, (hD m).weaken (fun _ _ _ _ => trivial)⟩⟩
    rfl (by rw [List.length_map]; exact hn) hl.1 (by simp) (lv_room (by rw [mmV_cats]; exact hcat)) hd ⟨by omega, by omega⟩
  refine va_calli hrun hS (fun q _ h => hFc q h) hFc (fun r1 u t H1 locs1 ht hvm hpo hB hz1 hk1 hS1 => ?_)
  obtain ⟨rfl, hr1, hr2⟩ := hpo
  rw [ht] at hB
  exact kk hr1 C hr2 hB hS1 hl
theorem V_max {index : Nat} {x y : Int} (hd : decode cc pc = .ok (.invokestatic index, 3)) (hl1 : Cond.methodLink own index Lib.Math.max.name ∈ mm_tb) (hl2 : Cond.static Lib.Math.max.name ∈ mm_tb) (hl3 : Cond.initialized "java/lang/Math" ∈ mm_tb) (hl4 : Cond.code Lib.Math.max.name Lib.Math.max.code 2 (some .int) ∈ mm_tb) (hx : inR x) (hy : inR y) (hrm : 1 ≤ R.frames ∧ 21 ≤ R.locals) (hcat : (st.map fun v => v.category).sum ≤ 8) (kk : VV own cc nL R G Po (pc + 3) lv (vi (max x y) :: st) m) : VV own cc nL R G Po pc lv (vi y :: vi x :: st) m := by
  intro p l e s mi args below meth c cells slots Q D cy ad A C H locs ls hR hP hS hl
  refine va_mmax C.1 C.2.1 (C.2.2.1.trans hl.1.symm) C.2.2.2.1 (C.2.2.2.2.1 _ hl1) (C.2.2.2.2.1 _ hl2) (C.2.2.2.2.1 _ hl3) (C.2.2.2.2.1 _ hl4) hrm.1 (by rw [mmV_cats]; omega) C.2.2.2.2.2.1.1 C.2.2.2.2.2.1.2 hd ?_
  have e : (if Int32.ofInt x < Int32.ofInt y then Int32.ofInt y else Int32.ofInt x) = Int32.ofInt (max x y) := by
    by_cases h : x < y
    · rw [show max x y = y by omega, if_pos ((oi_lt hx hy).mpr h)]
    · rw [show max x y = x by omega, if_neg (fun z => h ((oi_lt hx hy).mp z))]
  rw [e]
  exact kk C hR hP hS hl
theorem V_min {index : Nat} {x y : Int} (hd : decode cc pc = .ok (.invokestatic index, 3)) (hl1 : Cond.methodLink own index Lib.Math.min.name ∈ mm_tb) (hl2 : Cond.static Lib.Math.min.name ∈ mm_tb) (hl3 : Cond.initialized "java/lang/Math" ∈ mm_tb) (hl4 : Cond.code Lib.Math.min.name Lib.Math.min.code 2 (some .int) ∈ mm_tb) (hx : inR x) (hy : inR y) (hrm : 1 ≤ R.frames ∧ 21 ≤ R.locals) (hcat : (st.map fun v => v.category).sum ≤ 8) (kk : VV own cc nL R G Po (pc + 3) lv (vi (min x y) :: st) m) : VV own cc nL R G Po pc lv (vi y :: vi x :: st) m := by
  intro p l e s mi args below meth c cells slots Q D cy ad A C H locs ls hR hP hS hl
  refine va_mmin C.1 C.2.1 (C.2.2.1.trans hl.1.symm) C.2.2.2.1 (C.2.2.2.2.1 _ hl1) (C.2.2.2.2.1 _ hl2) (C.2.2.2.2.1 _ hl3) (C.2.2.2.2.1 _ hl4) hrm.1 (by rw [mmV_cats]; omega) C.2.2.2.2.2.1.1 C.2.2.2.2.2.1.2 hd ?_
  have e : (if Int32.ofInt y < Int32.ofInt x then Int32.ofInt y else Int32.ofInt x) = Int32.ofInt (min x y) := by
    by_cases h : y < x
    · rw [show min x y = y by omega, if_pos ((oi_lt hy hx).mpr h)]
    · rw [show min x y = x by omega, if_neg (fun z => h ((oi_lt hy hx).mp z))]
  rw [e]
  exact kk C hR hP hS hl
theorem V_copy {index : Nat} {a0 a n0 n1 : Nat} {sp dp n : Int} (hd : decode cc pc = .ok (.invokestatic index, 3)) (hl1 : Cond.methodLink own index arraycopyName ∈ mm_tb) (hl2 : Cond.native arraycopyName ∈ mm_tb) (hl3 : Cond.static arraycopyName ∈ mm_tb) (hl4 : Cond.initialized "java/lang/System" ∈ mm_tb) (hs0 : mmSh[a0]? = some (.inr (0, n0))) (hs1 : mmSh[a]? = some (.inr (0, n1))) (h1 : inR sp) (h2 : inR dp) (h3 : inR n) (h4 : 0 ≤ sp ∧ 0 ≤ dp ∧ 0 ≤ n ∧ sp + n ≤ n0 ∧ dp + n ≤ n1) (hrm : 1 ≤ R.frames ∧ nativeFrameWords "java/lang/System" "arraycopy" 5 + 19 ≤ R.locals) (hcat : (st.map fun v => v.category).sum ≤ 8) {js jd jn : Nat} (hjs : sp.toNat = js) (hjd : dp.toNat = jd) (hjn : n.toNat = jn) (kk : VV own cc nL R G Po (pc + 3) lv st (mcp m a0 js a jd jn)) : VV own cc nL R G Po pc lv (vi n :: vi dp :: .ref a :: vi sp :: .ref a0 :: st) m := by
  intro p l e s mi args below meth c cells slots Q D cy ad A C H locs ls hR hP hS hl
  subst hjs hjd hjn
  have nn : ∀ z : Int, inR z → 0 ≤ z → ¬ Int32.ofInt z < 0 := fun z hz h => by rw [oi_0, oi_lt hz inR0]; omega
  refine va_copyi C.1 C.2.1 (C.2.2.1.trans hl.1.symm) C.2.2.2.1 (C.2.2.2.2.1 _ hl1) (C.2.2.2.2.1 _ hl2) (C.2.2.2.2.1 _ hl3) (C.2.2.2.2.1 _ hl4) C.2.2.2.2.2.2.2.1 hP (C.2.2.2.2.2.2.2.2.1 m) hS a0 a 0 0 ((mmW_at cy ad m (mmSh_lt hs0)).trans (by rw [mmCell_int hs0])) ((mmW_at cy ad m (mmSh_lt hs1)).trans (by rw [mmCell_int hs1])) rfl rfl rfl (nn _ h1 h4.1) (nn _ h2 h4.2.1) (nn _ h3 h4.2.2.1) (by rw [oi_cl h1, oi_cl h3]; omega) (by rw [oi_cl h2, oi_cl h3]; omega) (fun _ _ => rfl) hrm.1 (by rw [mmV_cats]; omega) hd (fun H1 locs1 hP1 _ hS1 => ?_)
  rw [oi_cl h1, oi_cl h2, oi_cl h3, mmRow_cp, mmW_set cy ad m (mcp m a0 sp.toNat a dp.toNat n.toNat) (mmSh_lt hs1) (mmCell_int hs1) (fun j _ hj => mmCell_same (by simp [mcp, hj]) rfl)] at hP1
  exact kk C (mcp_R hR) hP1 hS1 hl
end RULES

/-- a contract out of a judgement at the entry -/
theorem mm_narZ {x : Int} (h : x = 0 ∨ x = 1) : narrow .boolean (vi x) = vi x := by rcases h with rfl | rfl <;> decide +kernel
def mmPi (r : Int × Mem) : Option Value → Mem → Prop := fun v m' => v = some (vi r.1) ∧ m' = r.2 ∧ inR r.1
def mmPz (r : Int × Mem) : Option Value → Mem → Prop := fun v m' => v = some (vi r.1) ∧ m' = r.2 ∧ (r.1 = 0 ∨ r.1 = 1)
def mmPv (r : Mem) : Option Value → Mem → Prop := fun v m' => v = none ∧ m' = r
theorem mm_args (ad : Nat → Nat) (as : List Value) : ∀ i, lv_args i (as.map (mmV ad)) = mmL ad (lv_args i as) := by
  induction as with
  | nil => intro i; rfl
  | cons a t ih =>
    intro i
    simp only [List.map_cons, lv_args, mmL, mmV_cat]
    rw [ih]
    rfl
theorem mm_slots (ad : Nat → Nat) (as : List Value) : (lg_sl (as.map (mmV ad))).length = (lg_sl as).length := by
  induction as with
  | nil => rfl
  | cons a t ih =>
    simp only [lg_sl, List.map_cons, List.flatMap_cons, List.length_append, mmV_cat] at ih ⊢
    rw [ih]
    split <;> rfl
theorem CT_i {y : MethodName} {rm : Room} {as : List Value} {m : Mem} {r : Int × Mem} {cc : ByteArray} {nL : Nat} {own : String} (hy : plainName y.cls = true) (hown : y.cls = own) (hn : (lg_sl as).length ≤ nL) (h : VV own cc nL rm mmG0 (mmPi r) 0 (lv_args 0 as) [] m) : CTi y cc nL (some .int) rm as m r := by
  intro hmR l D cy ad sz
  refine Met.ofW (cc := cc) (maxL := nL) (ret := some .int) hy rfl ?_
  intro p e s mi args below meth c s₁ B hml hv
  obtain ⟨rfl, hsz, hP, hK, hD0⟩ := hv
  subst hsz hown
  have hD : ∀ m2, va_D (va_A (mmW cy ad m) s.heap.size) (mmW cy ad m2) := fun m2 => ⟨fun i j p q hi hj hpq => by
      have hi2 := (List.getElem?_eq_some_iff.mp hi).1
      have hj2 := (List.getElem?_eq_some_iff.mp hj).1
      rw [mmW_len] at hi2 hj2
      rw [mmW_at cy ad m2 hi2] at hi
      rw [mmW_at cy ad m2 hj2] at hj
      cases hi; cases hj
      exact hD0.1 i j _ _ (mmW_at cy ad m hi2) (mmW_at cy ad m hj2) hpq, fun k q hk => by
      have hk2 := (List.getElem?_eq_some_iff.mp hk).1
      rw [mmW_len] at hk2
      rw [mmW_at cy ad m2 hk2] at hk
      cases hk
      exact Or.inl ⟨k, _, mmW_at cy ad m hk2⟩⟩
  rw [lg_entry_eq]
  refine h (ad := ad) (cy := cy) (D := D) (A := va_A (mmW cy ad m) s.heap.size) ⟨B.exec, B.bytes, hml, findClass_of_methodNamed B.named, fun w hw => atoms_spec (ws := mmWs y cc nL (some .int)) B.pre w (List.mem_cons_of_mem _ hw), ⟨Nat.zero_le _, Nat.zero_le _⟩, fun q hq => Or.inr hq, hK, hD, trivial, ?_⟩ hmR hP va_S.rf ?_
  · intro v m' H' locs' ls' pc' hpo hR' hret hP' hS'
    obtain ⟨rfl, rfl, hr⟩ := hpo
    rcases hret with ⟨x, hx, hdg⟩ | ⟨hx, _⟩
    · exact W.iret B.exec B.bytes B.returns (fun t ht hW => ⟨⟨_, (), rfl, ⟨rfl, hr, hR'⟩, by show va_P _ _ _ _; rw [ht]; exact hP'⟩, hS'.F ht⟩) hS'.2.2 hdg B.notSynchronized
    · cases hx
  · have := lv_entry (as.map (mmV ad)) (n := nL) (by rw [mm_slots]; exact hn)
    rw [mm_args] at this
    exact this
theorem CT_z {y : MethodName} {rm : Room} {as : List Value} {m : Mem} {r : Int × Mem} {cc : ByteArray} {nL : Nat} {own : String} (hy : plainName y.cls = true) (hown : y.cls = own) (hn : (lg_sl as).length ≤ nL) (h : VV own cc nL rm mmG0 (mmPz r) 0 (lv_args 0 as) [] m) : CTi y cc nL (some .boolean) rm as m r := by
  intro hmR l D cy ad sz
  refine Met.ofW (cc := cc) (maxL := nL) (ret := some .boolean) hy rfl ?_
  intro p e s mi args below meth c s₁ B hml hv
  obtain ⟨rfl, hsz, hP, hK, hD0⟩ := hv
  subst hsz hown
  have hD : ∀ m2, va_D (va_A (mmW cy ad m) s.heap.size) (mmW cy ad m2) := fun m2 => ⟨fun i j p q hi hj hpq => by
      have hi2 := (List.getElem?_eq_some_iff.mp hi).1
      have hj2 := (List.getElem?_eq_some_iff.mp hj).1
      rw [mmW_len] at hi2 hj2
      rw [mmW_at cy ad m2 hi2] at hi
      rw [mmW_at cy ad m2 hj2] at hj
      cases hi; cases hj
      exact hD0.1 i j _ _ (mmW_at cy ad m hi2) (mmW_at cy ad m hj2) hpq, fun k q hk => by
      have hk2 := (List.getElem?_eq_some_iff.mp hk).1
      rw [mmW_len] at hk2
      rw [mmW_at cy ad m2 hk2] at hk
      cases hk
      exact Or.inl ⟨k, _, mmW_at cy ad m hk2⟩⟩
  rw [lg_entry_eq]
  refine h (ad := ad) (cy := cy) (D := D) (A := va_A (mmW cy ad m) s.heap.size) ⟨B.exec, B.bytes, hml, findClass_of_methodNamed B.named, fun w hw => atoms_spec (ws := mmWs y cc nL (some .boolean)) B.pre w (List.mem_cons_of_mem _ hw), ⟨Nat.zero_le _, Nat.zero_le _⟩, fun q hq => Or.inr hq, hK, hD, trivial, ?_⟩ hmR hP va_S.rf ?_
  · intro v m' H' locs' ls' pc' hpo hR' hret hP' hS'
    obtain ⟨rfl, rfl, hr⟩ := hpo
    rcases hret with ⟨x, hx, hdg⟩ | ⟨hx, _⟩
    · exact W.zret B.exec B.bytes B.returns (mm_narZ hr) (fun t ht hW => ⟨⟨_, (), rfl, ⟨rfl, by rcases hr with hr | hr <;> rw [hr] <;> decide, hR'⟩, by show va_P _ _ _ _; rw [ht]; exact hP'⟩, hS'.F ht⟩) hS'.2.2 hdg B.notSynchronized
    · cases hx
  · have := lv_entry (as.map (mmV ad)) (n := nL) (by rw [mm_slots]; exact hn)
    rw [mm_args] at this
    exact this
theorem CT_v {y : MethodName} {rm : Room} {as : List Value} {m : Mem} {r : Mem} {cc : ByteArray} {nL : Nat} {own : String} (hy : plainName y.cls = true) (hown : y.cls = own) (hn : (lg_sl as).length ≤ nL) (h : VV own cc nL rm mmG0 (mmPv r) 0 (lv_args 0 as) [] m) : CTv y cc nL rm as m r := by
  intro hmR l D cy ad sz
  refine Met.ofW (cc := cc) (maxL := nL) (ret := none) hy rfl ?_
  intro p e s mi args below meth c s₁ B hml hv
  obtain ⟨rfl, hsz, hP, hK, hD0⟩ := hv
  subst hsz hown
  have hD : ∀ m2, va_D (va_A (mmW cy ad m) s.heap.size) (mmW cy ad m2) := fun m2 => ⟨fun i j p q hi hj hpq => by
      have hi2 := (List.getElem?_eq_some_iff.mp hi).1
      have hj2 := (List.getElem?_eq_some_iff.mp hj).1
      rw [mmW_len] at hi2 hj2
      rw [mmW_at cy ad m2 hi2] at hi
      rw [mmW_at cy ad m2 hj2] at hj
      cases hi; cases hj
      exact hD0.1 i j _ _ (mmW_at cy ad m hi2) (mmW_at cy ad m hj2) hpq, fun k q hk => by
      have hk2 := (List.getElem?_eq_some_iff.mp hk).1
      rw [mmW_len] at hk2
      rw [mmW_at cy ad m2 hk2] at hk
      cases hk
      exact Or.inl ⟨k, _, mmW_at cy ad m hk2⟩⟩
  rw [lg_entry_eq]
  refine h (ad := ad) (cy := cy) (D := D) (A := va_A (mmW cy ad m) s.heap.size) ⟨B.exec, B.bytes, hml, findClass_of_methodNamed B.named, fun w hw => atoms_spec (ws := mmWs y cc nL none) B.pre w (List.mem_cons_of_mem _ hw), ⟨Nat.zero_le _, Nat.zero_le _⟩, fun q hq => Or.inr hq, hK, hD, trivial, ?_⟩ hmR hP va_S.rf ?_
  · intro v m' H' locs' ls' pc' hpo hR' hret hP' hS'
    obtain ⟨rfl, rfl⟩ := hpo
    rcases hret with ⟨x, hx, _⟩ | ⟨hx, hdg⟩
    · cases hx
    · exact W.vret B.exec B.bytes B.returns (fun t ht hW => ⟨⟨(), rfl, hR', by show va_P _ _ _ _; rw [ht]; exact hP'⟩, hS'.F ht⟩) hS'.2.2 hdg B.notSynchronized
  · have := lv_entry (as.map (mmV ad)) (n := nL) (by rw [mm_slots]; exact hn)
    rw [mm_args] at this
    exact this
