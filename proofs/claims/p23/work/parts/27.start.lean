def R_law : String := "MemberShelfLaw"
def lw_P (b : Addr) (xs : List Int32) (args : Array Value) (s : State) : Prop := args = #[.ref b] ∧ s.IntsAt b xs ∧ xs.length ≤ 260 ∧ (Jvm.Cond.and given_1 narrow_1).before args s = true
def lw_Q (_ : Array Value) (s : State) (o : Outcome) (t : State) : Prop := o = .returned (some (.int 1)) ∧ Framed s o t [] 600000 7302250
def lw_Z (below : List Frame) (a : Array Value) (s : State) : State → Prop := fun t => ∃ o, t.status = .running ∧ Ended t below o ∧ lw_Q a s o t
/-- the law's own end, with 1 on the stack, nothing written that was there before, its room as the claim has it -/
theorem lw_ret {p : Program} {l : Launch} {e : Env} {s : State} {m : MethodId} {below : List Frame} {meth : Method} {c : Code} {b : Nat} (hx : p.tables.exec = Jvm.exec) (hb : c.code = code) (hr : meth.sig.returnType = ret) (hlocks : meth.locks = false) {pc : Nat} {H : Heap} {ls : Array Slot} (hdg : decode code pc = .ok (.ireturn, 1)) : W p l e room_1 s m #[Value.ref b] below meth c H [] 600000 7302250 (lw_Z below #[Value.ref b] s) (F0 m pc ls [.int 1]) := by
  intro T hT X
  obtain ⟨fs, hret, hrun, hended, hW, hframe⟩ := X.leave (v := some (.int 1)) (hlocks := hlocks) (fun h => by rw [hr] at h; cases h)
  have hmeth' : T.vm.method? m = some meth := X.method'
  refine ⟨T.setFrames fs, ?_, .returned (some (.int 1)), hrun, hended, rfl, ⟨_, rfl⟩, hW, hframe⟩
  jvm_step X.here [X.here.top, hx, hb, hdg, hmeth', hr, ret, narrow_b1]
  (try refine ⟨rfl, ?_⟩); (try refine ⟨rfl, ?_⟩)
  first | (intro acts; rw [hret _ acts rfl rfl rfl]) | rw [hret _ _ rfl rfl rfl]
  exact Steps.refl _
/-- what holds at the law's entry: the machine, the code, the tables' words (any of lw_tbl by 'hts w (by decide +kernel)'), the script of L ints xs at the cell b, what the Statement gives of the start (any of its parts by flat_of_before) -/
def lw_At (p : Program) (s : State) (m : MethodId) (meth : Method) (c : Code) (b L : Nat) (xs : Nat → Int32) : Prop :=
  p.tables.exec = Jvm.exec ∧ c.code = code ∧ meth.sig.returnType = ret ∧ c.maxLocals = 5 ∧ s.vm.findClass R_law = some m.cls ∧ (∀ w ∈ lw_tbl, w.before #[Value.ref b] s = true) ∧ va_X b L xs s s.heap ∧ b < s.heap.size ∧ meth.locks = false ∧ (Jvm.Cond.and given_1 narrow_1).before #[Value.ref b] s = true
theorem sh_2 : mmSh[2]? = some (.inr (0, 24)) := by decide +kernel
theorem sh_3 : mmSh[3]? = some (.inr (0, 24)) := by decide +kernel
theorem sh_4 : mmSh[4]? = some (.inr (0, 24)) := by decide +kernel
theorem sh_5 : mmSh[5]? = some (.inr (0, 24)) := by decide +kernel
theorem sh_6 : mmSh[6]? = some (.inr (0, 24)) := by decide +kernel
theorem sh_8 : mmSh[8]? = some (.inr (0, 24)) := by decide +kernel
theorem sh_9 : mmSh[9]? = some (.inr (0, 24)) := by decide +kernel
theorem sh_10 : mmSh[10]? = some (.inr (0, 24)) := by decide +kernel
theorem sh_11 : mmSh[11]? = some (.inr (0, 24)) := by decide +kernel
theorem sh_12 : mmSh[12]? = some (.inr (0, 24)) := by decide +kernel
theorem sh_13 : mmSh[13]? = some (.inl 2) := by decide +kernel
theorem sh_14 : mmSh[14]? = some (.inr (0, 24)) := by decide +kernel
theorem sh_15 : mmSh[15]? = some (.inr (0, 24)) := by decide +kernel
theorem sh_16 : mmSh[16]? = some (.inr (0, 24)) := by decide +kernel
theorem sh_17 : mmSh[17]? = some (.inr (0, 24)) := by decide +kernel
theorem sh_18 : mmSh[18]? = some (.inr (0, 24)) := by decide +kernel
theorem sh_21 : mmSh[21]? = some (.inl 2) := by decide +kernel
theorem sh_22 : mmSh[22]? = some (.inr (0, 24)) := by decide +kernel
theorem sh_23 : mmSh[23]? = some (.inr (0, 24)) := by decide +kernel
theorem sh_24 : mmSh[24]? = some (.inr (0, 24)) := by decide +kernel
theorem sh_25 : mmSh[25]? = some (.inr (0, 24)) := by decide +kernel
theorem sh_26 : mmSh[26]? = some (.inr (0, 24)) := by decide +kernel
theorem sh_27 : mmSh[27]? = some (.inl 2) := by decide +kernel
theorem sh_28 : mmSh[28]? = some (.inr (0, 24)) := by decide +kernel
theorem sh_29 : mmSh[29]? = some (.inr (0, 24)) := by decide +kernel
theorem sh_30 : mmSh[30]? = some (.inr (0, 24)) := by decide +kernel
theorem sh_31 : mmSh[31]? = some (.inr (0, 24)) := by decide +kernel
theorem sh_32 : mmSh[32]? = some (.inr (0, 24)) := by decide +kernel
theorem sh_33 : mmSh[33]? = some (.inl 2) := by decide +kernel
theorem sh_34 : mmSh[34]? = some (.inr (0, 24)) := by decide +kernel
theorem sh_35 : mmSh[35]? = some (.inr (0, 24)) := by decide +kernel
theorem sh_36 : mmSh[36]? = some (.inr (0, 24)) := by decide +kernel
theorem sh_37 : mmSh[37]? = some (.inr (0, 24)) := by decide +kernel
theorem sh_38 : mmSh[38]? = some (.inr (0, 24)) := by decide +kernel
theorem sh_39 : mmSh[39]? = some (.inl 2) := by decide +kernel
theorem sh_40 : mmSh[40]? = some (.inr (0, 24)) := by decide +kernel
theorem sh_41 : mmSh[41]? = some (.inr (0, 24)) := by decide +kernel
theorem sh_42 : mmSh[42]? = some (.inr (0, 24)) := by decide +kernel
theorem sh_43 : mmSh[43]? = some (.inr (0, 24)) := by decide +kernel
theorem sh_44 : mmSh[44]? = some (.inr (0, 24)) := by decide +kernel
theorem cl_XL_12 : Cond.classLink RL 12 RX3 ∈ mm_tb := mm_in 41 (by decide +kernel) (by decide +kernel)
theorem in_X3 : Cond.instantiable RX3 6 ∈ mm_tb := mm_in 42 (by decide +kernel) (by decide +kernel)
theorem ml_XL_82 : Cond.methodLink RL 82 yX3_init ∈ mm_tb := mm_in 43 (by decide +kernel) (by decide +kernel)
theorem im_X3_init : Cond.instanceMethod yX3_init ∈ mm_tb := mm_in 44 (by decide +kernel) (by decide +kernel)
theorem cd_X3_init : Cond.code yX3_init cX3_init 1 none ∈ mm_tb := mm_in 45 (by decide +kernel) (by decide +kernel)

/-- the memory of a new shelf -/
def mmM0 : Mem := (fun i => if i = 1 ∨ i = 7 ∨ i = 13 ∨ i = 21 ∨ i = 27 ∨ i = 33 ∨ i = 39 then fun k => if k = 6 then 2 else 0 else fun _ => 0, fun k => if k = 0 then some 21 else if k = 1 then some 27 else if k = 2 then some 33 else if k = 3 then some 39 else none)
theorem mmM0_R : mmR mmM0 := by
  intro i k
  unfold mmM0
  dsimp only
  split
  · show inR (if k = 6 then 2 else 0)
    split <;> decide
  · show inR 0
    decide
theorem mmRow0 {i : Nat} (h : ∀ k, mmM0.1 i k = 0) : mmRow mmM0 i = fun _ => 0 := by
  funext k
  simp only [mmRow, h k]
  decide
def mmAd (b a0 a1 : Nat) (q q' : Nat → Nat) : Nat → Nat := fun i => if i = 0 then a0 else if i < 51 then q i else if i = 51 then a1 else if i = 102 then b else q' (i - 51)

theorem w0_0 (cy : ClassId × ClassId × ClassId) (ad : Nat → Nat) : (ad 0, (.inr (3, mmF ad mmM0 0 3) : va_E)) = (ad 0, mmCell cy ad mmM0 0) := by rw [mmCell_obj sh_0]
theorem w0_1 (cy : ClassId × ClassId × ClassId) (ad : Nat → Nat) : (ad 1, (.inr (2, mmF ad mmM0 1 2) : va_E)) = (ad 1, mmCell cy ad mmM0 1) := by rw [mmCell_obj sh_1]
theorem w0_2 (cy : ClassId × ClassId × ClassId) (ad : Nat → Nat) : (ad 2, zI cy 24) = (ad 2, mmCell cy ad mmM0 2) := by rw [mmCell_int sh_2, mmRow0 (fun _ => rfl)]; rfl
theorem w0_3 (cy : ClassId × ClassId × ClassId) (ad : Nat → Nat) : (ad 3, zI cy 24) = (ad 3, mmCell cy ad mmM0 3) := by rw [mmCell_int sh_3, mmRow0 (fun _ => rfl)]; rfl
theorem w0_4 (cy : ClassId × ClassId × ClassId) (ad : Nat → Nat) : (ad 4, zI cy 24) = (ad 4, mmCell cy ad mmM0 4) := by rw [mmCell_int sh_4, mmRow0 (fun _ => rfl)]; rfl
theorem w0_5 (cy : ClassId × ClassId × ClassId) (ad : Nat → Nat) : (ad 5, zI cy 24) = (ad 5, mmCell cy ad mmM0 5) := by rw [mmCell_int sh_5, mmRow0 (fun _ => rfl)]; rfl
theorem w0_6 (cy : ClassId × ClassId × ClassId) (ad : Nat → Nat) : (ad 6, zI cy 24) = (ad 6, mmCell cy ad mmM0 6) := by rw [mmCell_int sh_6, mmRow0 (fun _ => rfl)]; rfl
theorem w0_7 (cy : ClassId × ClassId × ClassId) (ad : Nat → Nat) : (ad 7, (.inr (2, mmF ad mmM0 7 2) : va_E)) = (ad 7, mmCell cy ad mmM0 7) := by rw [mmCell_obj sh_7]
theorem w0_8 (cy : ClassId × ClassId × ClassId) (ad : Nat → Nat) : (ad 8, zI cy 24) = (ad 8, mmCell cy ad mmM0 8) := by rw [mmCell_int sh_8, mmRow0 (fun _ => rfl)]; rfl
theorem w0_9 (cy : ClassId × ClassId × ClassId) (ad : Nat → Nat) : (ad 9, zI cy 24) = (ad 9, mmCell cy ad mmM0 9) := by rw [mmCell_int sh_9, mmRow0 (fun _ => rfl)]; rfl
theorem w0_10 (cy : ClassId × ClassId × ClassId) (ad : Nat → Nat) : (ad 10, zI cy 24) = (ad 10, mmCell cy ad mmM0 10) := by rw [mmCell_int sh_10, mmRow0 (fun _ => rfl)]; rfl
theorem w0_11 (cy : ClassId × ClassId × ClassId) (ad : Nat → Nat) : (ad 11, zI cy 24) = (ad 11, mmCell cy ad mmM0 11) := by rw [mmCell_int sh_11, mmRow0 (fun _ => rfl)]; rfl
theorem w0_12 (cy : ClassId × ClassId × ClassId) (ad : Nat → Nat) : (ad 12, zI cy 24) = (ad 12, mmCell cy ad mmM0 12) := by rw [mmCell_int sh_12, mmRow0 (fun _ => rfl)]; rfl
theorem w0_13 (cy : ClassId × ClassId × ClassId) (ad : Nat → Nat) : (ad 13, (.inr (2, mmF ad mmM0 13 2) : va_E)) = (ad 13, mmCell cy ad mmM0 13) := by rw [mmCell_obj sh_13]
theorem w0_14 (cy : ClassId × ClassId × ClassId) (ad : Nat → Nat) : (ad 14, zI cy 24) = (ad 14, mmCell cy ad mmM0 14) := by rw [mmCell_int sh_14, mmRow0 (fun _ => rfl)]; rfl
theorem w0_15 (cy : ClassId × ClassId × ClassId) (ad : Nat → Nat) : (ad 15, zI cy 24) = (ad 15, mmCell cy ad mmM0 15) := by rw [mmCell_int sh_15, mmRow0 (fun _ => rfl)]; rfl
theorem w0_16 (cy : ClassId × ClassId × ClassId) (ad : Nat → Nat) : (ad 16, zI cy 24) = (ad 16, mmCell cy ad mmM0 16) := by rw [mmCell_int sh_16, mmRow0 (fun _ => rfl)]; rfl
theorem w0_17 (cy : ClassId × ClassId × ClassId) (ad : Nat → Nat) : (ad 17, zI cy 24) = (ad 17, mmCell cy ad mmM0 17) := by rw [mmCell_int sh_17, mmRow0 (fun _ => rfl)]; rfl
theorem w0_18 (cy : ClassId × ClassId × ClassId) (ad : Nat → Nat) : (ad 18, zI cy 24) = (ad 18, mmCell cy ad mmM0 18) := by rw [mmCell_int sh_18, mmRow0 (fun _ => rfl)]; rfl
theorem w0_19 (cy : ClassId × ClassId × ClassId) (ad : Nat → Nat) : (ad 19, (.inr (0, mmF ad mmM0 19 0) : va_E)) = (ad 19, mmCell cy ad mmM0 19) := by rw [mmCell_obj sh_19]
theorem w0_20 (cy : ClassId × ClassId × ClassId) (ad : Nat → Nat) : (ad 20, zQ cy 4 (va_up (va_up (va_up (va_up (fun _ => none) 0 (some (ad 21))) 1 (some (ad 27))) 2 (some (ad 33))) 3 (some (ad 39)))) = (ad 20, mmCell cy ad mmM0 20) := by
  rw [mmCell_ref sh_20]
  have e : (va_up (va_up (va_up (va_up (fun _ => none) 0 (some (ad 21))) 1 (some (ad 27))) 2 (some (ad 33))) 3 (some (ad 39))) = fun k => (mmM0.2 k).map ad := by
    funext k
    match k with
    | 0 => rfl
    | 1 => rfl
    | 2 => rfl
    | 3 => rfl
    | k + 4 => rfl
  unfold zQ
  rw [e]
theorem w0_21 (cy : ClassId × ClassId × ClassId) (ad : Nat → Nat) : (ad 21, (.inr (2, mmF ad mmM0 21 2) : va_E)) = (ad 21, mmCell cy ad mmM0 21) := by rw [mmCell_obj sh_21]
theorem w0_22 (cy : ClassId × ClassId × ClassId) (ad : Nat → Nat) : (ad 22, zI cy 24) = (ad 22, mmCell cy ad mmM0 22) := by rw [mmCell_int sh_22, mmRow0 (fun _ => rfl)]; rfl
theorem w0_23 (cy : ClassId × ClassId × ClassId) (ad : Nat → Nat) : (ad 23, zI cy 24) = (ad 23, mmCell cy ad mmM0 23) := by rw [mmCell_int sh_23, mmRow0 (fun _ => rfl)]; rfl
theorem w0_24 (cy : ClassId × ClassId × ClassId) (ad : Nat → Nat) : (ad 24, zI cy 24) = (ad 24, mmCell cy ad mmM0 24) := by rw [mmCell_int sh_24, mmRow0 (fun _ => rfl)]; rfl
theorem w0_25 (cy : ClassId × ClassId × ClassId) (ad : Nat → Nat) : (ad 25, zI cy 24) = (ad 25, mmCell cy ad mmM0 25) := by rw [mmCell_int sh_25, mmRow0 (fun _ => rfl)]; rfl
theorem w0_26 (cy : ClassId × ClassId × ClassId) (ad : Nat → Nat) : (ad 26, zI cy 24) = (ad 26, mmCell cy ad mmM0 26) := by rw [mmCell_int sh_26, mmRow0 (fun _ => rfl)]; rfl
theorem w0_27 (cy : ClassId × ClassId × ClassId) (ad : Nat → Nat) : (ad 27, (.inr (2, mmF ad mmM0 27 2) : va_E)) = (ad 27, mmCell cy ad mmM0 27) := by rw [mmCell_obj sh_27]
theorem w0_28 (cy : ClassId × ClassId × ClassId) (ad : Nat → Nat) : (ad 28, zI cy 24) = (ad 28, mmCell cy ad mmM0 28) := by rw [mmCell_int sh_28, mmRow0 (fun _ => rfl)]; rfl
theorem w0_29 (cy : ClassId × ClassId × ClassId) (ad : Nat → Nat) : (ad 29, zI cy 24) = (ad 29, mmCell cy ad mmM0 29) := by rw [mmCell_int sh_29, mmRow0 (fun _ => rfl)]; rfl
theorem w0_30 (cy : ClassId × ClassId × ClassId) (ad : Nat → Nat) : (ad 30, zI cy 24) = (ad 30, mmCell cy ad mmM0 30) := by rw [mmCell_int sh_30, mmRow0 (fun _ => rfl)]; rfl
theorem w0_31 (cy : ClassId × ClassId × ClassId) (ad : Nat → Nat) : (ad 31, zI cy 24) = (ad 31, mmCell cy ad mmM0 31) := by rw [mmCell_int sh_31, mmRow0 (fun _ => rfl)]; rfl
theorem w0_32 (cy : ClassId × ClassId × ClassId) (ad : Nat → Nat) : (ad 32, zI cy 24) = (ad 32, mmCell cy ad mmM0 32) := by rw [mmCell_int sh_32, mmRow0 (fun _ => rfl)]; rfl
theorem w0_33 (cy : ClassId × ClassId × ClassId) (ad : Nat → Nat) : (ad 33, (.inr (2, mmF ad mmM0 33 2) : va_E)) = (ad 33, mmCell cy ad mmM0 33) := by rw [mmCell_obj sh_33]
theorem w0_34 (cy : ClassId × ClassId × ClassId) (ad : Nat → Nat) : (ad 34, zI cy 24) = (ad 34, mmCell cy ad mmM0 34) := by rw [mmCell_int sh_34, mmRow0 (fun _ => rfl)]; rfl
theorem w0_35 (cy : ClassId × ClassId × ClassId) (ad : Nat → Nat) : (ad 35, zI cy 24) = (ad 35, mmCell cy ad mmM0 35) := by rw [mmCell_int sh_35, mmRow0 (fun _ => rfl)]; rfl
theorem w0_36 (cy : ClassId × ClassId × ClassId) (ad : Nat → Nat) : (ad 36, zI cy 24) = (ad 36, mmCell cy ad mmM0 36) := by rw [mmCell_int sh_36, mmRow0 (fun _ => rfl)]; rfl
theorem w0_37 (cy : ClassId × ClassId × ClassId) (ad : Nat → Nat) : (ad 37, zI cy 24) = (ad 37, mmCell cy ad mmM0 37) := by rw [mmCell_int sh_37, mmRow0 (fun _ => rfl)]; rfl
theorem w0_38 (cy : ClassId × ClassId × ClassId) (ad : Nat → Nat) : (ad 38, zI cy 24) = (ad 38, mmCell cy ad mmM0 38) := by rw [mmCell_int sh_38, mmRow0 (fun _ => rfl)]; rfl
theorem w0_39 (cy : ClassId × ClassId × ClassId) (ad : Nat → Nat) : (ad 39, (.inr (2, mmF ad mmM0 39 2) : va_E)) = (ad 39, mmCell cy ad mmM0 39) := by rw [mmCell_obj sh_39]
theorem w0_40 (cy : ClassId × ClassId × ClassId) (ad : Nat → Nat) : (ad 40, zI cy 24) = (ad 40, mmCell cy ad mmM0 40) := by rw [mmCell_int sh_40, mmRow0 (fun _ => rfl)]; rfl
theorem w0_41 (cy : ClassId × ClassId × ClassId) (ad : Nat → Nat) : (ad 41, zI cy 24) = (ad 41, mmCell cy ad mmM0 41) := by rw [mmCell_int sh_41, mmRow0 (fun _ => rfl)]; rfl
theorem w0_42 (cy : ClassId × ClassId × ClassId) (ad : Nat → Nat) : (ad 42, zI cy 24) = (ad 42, mmCell cy ad mmM0 42) := by rw [mmCell_int sh_42, mmRow0 (fun _ => rfl)]; rfl
theorem w0_43 (cy : ClassId × ClassId × ClassId) (ad : Nat → Nat) : (ad 43, zI cy 24) = (ad 43, mmCell cy ad mmM0 43) := by rw [mmCell_int sh_43, mmRow0 (fun _ => rfl)]; rfl
theorem w0_44 (cy : ClassId × ClassId × ClassId) (ad : Nat → Nat) : (ad 44, zI cy 24) = (ad 44, mmCell cy ad mmM0 44) := by rw [mmCell_int sh_44, mmRow0 (fun _ => rfl)]; rfl
theorem w0_45 (cy : ClassId × ClassId × ClassId) (ad : Nat → Nat) : (ad 45, (.inr (1, mmF ad mmM0 45 1) : va_E)) = (ad 45, mmCell cy ad mmM0 45) := by rw [mmCell_obj sh_45]
theorem w0_46 (cy : ClassId × ClassId × ClassId) (ad : Nat → Nat) : (ad 46, zC cy 60) = (ad 46, mmCell cy ad mmM0 46) := by rw [mmCell_chr sh_46, mmRow0 (fun _ => rfl)]; rfl
theorem w0_47 (cy : ClassId × ClassId × ClassId) (ad : Nat → Nat) : (ad 47, zI cy 12) = (ad 47, mmCell cy ad mmM0 47) := by rw [mmCell_int sh_47, mmRow0 (fun _ => rfl)]; rfl
theorem w0_48 (cy : ClassId × ClassId × ClassId) (ad : Nat → Nat) : (ad 48, zI cy 12) = (ad 48, mmCell cy ad mmM0 48) := by rw [mmCell_int sh_48, mmRow0 (fun _ => rfl)]; rfl
theorem w0_49 (cy : ClassId × ClassId × ClassId) (ad : Nat → Nat) : (ad 49, zI cy 12) = (ad 49, mmCell cy ad mmM0 49) := by rw [mmCell_int sh_49, mmRow0 (fun _ => rfl)]; rfl
theorem w0_50 (cy : ClassId × ClassId × ClassId) (ad : Nat → Nat) : (ad 50, zI cy 12) = (ad 50, mmCell cy ad mmM0 50) := by rw [mmCell_int sh_50, mmRow0 (fun _ => rfl)]; rfl
set_option maxRecDepth 100000 in
set_option maxHeartbeats 4000000 in
theorem w0_X (cy : ClassId × ClassId × ClassId) (ad : Nat → Nat) : mkX3 (ad 0) cy ad = mmW cy ad mmM0 := by
  have hr : List.range 51 = [0, 1, 2, 3, 4, 5, 6, 7, 8, 9, 10, 11, 12, 13, 14, 15, 16, 17, 18, 19, 20, 21, 22, 23, 24, 25, 26, 27, 28, 29, 30, 31, 32, 33, 34, 35, 36, 37, 38, 39, 40, 41, 42, 43, 44, 45, 46, 47, 48, 49, 50] := by decide
  have e : mmW cy ad mmM0 = [0, 1, 2, 3, 4, 5, 6, 7, 8, 9, 10, 11, 12, 13, 14, 15, 16, 17, 18, 19, 20, 21, 22, 23, 24, 25, 26, 27, 28, 29, 30, 31, 32, 33, 34, 35, 36, 37, 38, 39, 40, 41, 42, 43, 44, 45, 46, 47, 48, 49, 50].map (fun i => (ad i, mmCell cy ad mmM0 i)) := by unfold mmW; rw [hr]
  rw [e]
  exact List.cons_eq_cons.mpr ⟨w0_0 cy ad, List.cons_eq_cons.mpr ⟨w0_1 cy ad, List.cons_eq_cons.mpr ⟨w0_2 cy ad, List.cons_eq_cons.mpr ⟨w0_3 cy ad, List.cons_eq_cons.mpr ⟨w0_4 cy ad, List.cons_eq_cons.mpr ⟨w0_5 cy ad, List.cons_eq_cons.mpr ⟨w0_6 cy ad, List.cons_eq_cons.mpr ⟨w0_7 cy ad, List.cons_eq_cons.mpr ⟨w0_8 cy ad, List.cons_eq_cons.mpr ⟨w0_9 cy ad, List.cons_eq_cons.mpr ⟨w0_10 cy ad, List.cons_eq_cons.mpr ⟨w0_11 cy ad, List.cons_eq_cons.mpr ⟨w0_12 cy ad, List.cons_eq_cons.mpr ⟨w0_13 cy ad, List.cons_eq_cons.mpr ⟨w0_14 cy ad, List.cons_eq_cons.mpr ⟨w0_15 cy ad, List.cons_eq_cons.mpr ⟨w0_16 cy ad, List.cons_eq_cons.mpr ⟨w0_17 cy ad, List.cons_eq_cons.mpr ⟨w0_18 cy ad, List.cons_eq_cons.mpr ⟨w0_19 cy ad, List.cons_eq_cons.mpr ⟨w0_20 cy ad, List.cons_eq_cons.mpr ⟨w0_21 cy ad, List.cons_eq_cons.mpr ⟨w0_22 cy ad, List.cons_eq_cons.mpr ⟨w0_23 cy ad, List.cons_eq_cons.mpr ⟨w0_24 cy ad, List.cons_eq_cons.mpr ⟨w0_25 cy ad, List.cons_eq_cons.mpr ⟨w0_26 cy ad, List.cons_eq_cons.mpr ⟨w0_27 cy ad, List.cons_eq_cons.mpr ⟨w0_28 cy ad, List.cons_eq_cons.mpr ⟨w0_29 cy ad, List.cons_eq_cons.mpr ⟨w0_30 cy ad, List.cons_eq_cons.mpr ⟨w0_31 cy ad, List.cons_eq_cons.mpr ⟨w0_32 cy ad, List.cons_eq_cons.mpr ⟨w0_33 cy ad, List.cons_eq_cons.mpr ⟨w0_34 cy ad, List.cons_eq_cons.mpr ⟨w0_35 cy ad, List.cons_eq_cons.mpr ⟨w0_36 cy ad, List.cons_eq_cons.mpr ⟨w0_37 cy ad, List.cons_eq_cons.mpr ⟨w0_38 cy ad, List.cons_eq_cons.mpr ⟨w0_39 cy ad, List.cons_eq_cons.mpr ⟨w0_40 cy ad, List.cons_eq_cons.mpr ⟨w0_41 cy ad, List.cons_eq_cons.mpr ⟨w0_42 cy ad, List.cons_eq_cons.mpr ⟨w0_43 cy ad, List.cons_eq_cons.mpr ⟨w0_44 cy ad, List.cons_eq_cons.mpr ⟨w0_45 cy ad, List.cons_eq_cons.mpr ⟨w0_46 cy ad, List.cons_eq_cons.mpr ⟨w0_47 cy ad, List.cons_eq_cons.mpr ⟨w0_48 cy ad, List.cons_eq_cons.mpr ⟨w0_49 cy ad, List.cons_eq_cons.mpr ⟨w0_50 cy ad, rfl⟩⟩⟩⟩⟩⟩⟩⟩⟩⟩⟩⟩⟩⟩⟩⟩⟩⟩⟩⟩⟩⟩⟩⟩⟩⟩⟩⟩⟩⟩⟩⟩⟩⟩⟩⟩⟩⟩⟩⟩⟩⟩⟩⟩⟩⟩⟩⟩⟩⟩⟩
set_option maxRecDepth 100000 in
set_option maxHeartbeats 4000000 in
theorem w0_all (cy : ClassId × ClassId × ClassId) (b a0 a1 : Nat) (q q' : Nat → Nat) : mkX3 a0 cy q ++ mkX3 a1 cy q' = mmW2 cy (mmAd b a0 a1 q q') (mmM0, mmM0) := by
  have e1 : mkX3 a0 cy q = mkX3 (mmAd b a0 a1 q q' 0) cy (mmAd b a0 a1 q q') := rfl
  have e2 : mkX3 a1 cy q' = mkX3 (ad2 (mmAd b a0 a1 q q') 0) cy (ad2 (mmAd b a0 a1 q q')) := rfl
  unfold mmW2
  rw [← w0_X, ← w0_X, e1, e2]

/-- the law's own start: both objects are made -/
def mmPL (b : Nat) (cy : ClassId × ClassId × ClassId) : Nat → List (Nat × Value) → List Value → va_W → Prop := fun pc lv st ws => pc = 16 ∧ st = [] ∧ ∃ (a0 a1 : Nat) (q q' : Nat → Nat), lv = [(2, .ref a1), (1, .ref a0), (0, .ref b)] ∧ ws = mkX3 a0 cy q ++ mkX3 a1 cy q'
set_option maxRecDepth 100000 in
set_option maxHeartbeats 4000000 in
theorem law_start (b : Nat) (cy : ClassId × ClassId × ClassId) : VA RL cL_law 5 room_1 none cy (mmPL b cy) 102 2076 0 [(0, .ref b)] [] [] 0 0 := by
  refine VA_new (ci := 3) (N := 6) (T := TX3) (Cn := RX3) (fs := [.null, .null, .null, .int 0, .null, .null]) tyX3 dL_law_0 iuX3 tyX3_ok cl_XL_12 in_X3 it_X3 rfl (fun j hj => by rcases (show j = 0 ∨ j = 1 ∨ j = 2 ∨ j = 3 ∨ j = 4 ∨ j = 5 by omega) with rfl | rfl | rfl | rfl | rfl | rfl <;> rfl) (Nat.le_of_ble_eq_true rfl) (Nat.le_of_ble_eq_true rfl) (fun a0 => ?_)
  refine VA_dup dL_law_3 ?_
  refine VA_init (wr := []) [] 0 dL_law_4 (ci_X3 a0) ml_XL_82 im_X3_init it_X3 cd_X3_init rfl (by decide +kernel) ⟨rfl, rfl, by decide, by decide⟩ ⟨(Nat.le_of_ble_eq_true rfl), (Nat.le_of_ble_eq_true rfl)⟩ rfl rfl (by decide) (by decide) (Nat.le_of_ble_eq_true rfl) (fun q => ?_)
  refine VA_astore (i := 1) (lv' := [(1, .ref a0), (0, .ref b)]) dL_law_7 rfl (by decide) rfl ?_
  refine VA_new (ci := 3) (N := 6) (T := TX3) (Cn := RX3) (fs := [.null, .null, .null, .int 0, .null, .null]) tyX3 dL_law_8 iuX3 tyX3_ok cl_XL_12 in_X3 it_X3 rfl (fun j hj => by rcases (show j = 0 ∨ j = 1 ∨ j = 2 ∨ j = 3 ∨ j = 4 ∨ j = 5 by omega) with rfl | rfl | rfl | rfl | rfl | rfl <;> rfl) (Nat.le_of_ble_eq_true rfl) (Nat.le_of_ble_eq_true rfl) (fun a1 => ?_)
  refine VA_dup dL_law_11 ?_
  refine VA_init (wr := mkX3 a0 cy q) [0, 1, 2, 3, 4, 5, 6, 7, 8, 9, 10, 11, 12, 13, 14, 15, 16, 17, 18, 19, 20, 21, 22, 23, 24, 25, 26, 27, 28, 29, 30, 31, 32, 33, 34, 35, 36, 37, 38, 39, 40, 41, 42, 43, 44, 45, 46, 47, 48, 49, 50] 51 dL_law_12 (ci_X3 a1) ml_XL_82 im_X3_init it_X3 cd_X3_init rfl (by decide +kernel) ⟨rfl, rfl, by decide, by decide⟩ ⟨(Nat.le_of_ble_eq_true rfl), (Nat.le_of_ble_eq_true rfl)⟩ rfl rfl (by decide) (by decide) (Nat.le_of_ble_eq_true rfl) (fun q' => ?_)
  refine VA_astore (i := 2) (lv' := [(2, .ref a1), (1, .ref a0), (0, .ref b)]) dL_law_15 rfl (by decide) rfl ?_
  exact VA_end ⟨rfl, rfl, a0, a1, q, q', rfl, rfl⟩ ⟨(Nat.le_of_ble_eq_true rfl), (Nat.le_of_ble_eq_true rfl)⟩
theorem ok_L_law_16 {L : Nat} {xs : Nat → Int32} (hL : L ≤ 260) {r : Int × Mem2} (m : Mem2) (E : f_L_law_L21 L xs mmFU 1 0 m = some r) : V2 RL cL_law 5 room_1 (mm2L L xs) (mm2Pz r) 16 [(0, .ref 102), (1, .ref 0), (2, .ref 51)] [] m := by
  refine X_iconst dL_law_16 rfl ?_
  refine X_istore_n (i := 3) (lv' := [(0, .ref 102), (1, .ref 0), (2, .ref 51), (3, vi 1)]) dL_law_17 rfl rfl rfl ?_
  refine X_iconst dL_law_18 rfl ?_
  refine X_istore (lv' := [(0, .ref 102), (1, .ref 0), (2, .ref 51), (3, vi 1), (4, vi 0)]) dL_law_19 rfl rfl ?_
  exact ok_L_law_L21 hL mmFU 1 0 m ir_1 ir_0 E

theorem mmD_all {cy : ClassId × ClassId × ClassId} {ad : Nat → Nat} {A : Nat → Prop} {m0 : Mem2} (h : va_D A (mmW2 cy ad m0)) : ∀ m, va_D A (mmW2 cy ad m) := fun m2 => ⟨fun i j p q hi hj hpq => by
    have hi2 := (List.getElem?_eq_some_iff.mp hi).1
    have hj2 := (List.getElem?_eq_some_iff.mp hj).1
    rw [mmW2_len] at hi2 hj2
    rw [mmW2_at cy ad m2 hi2] at hi
    rw [mmW2_at cy ad m2 hj2] at hj
    cases hi; cases hj
    exact h.1 i j _ _ (mmW2_at cy ad m0 hi2) (mmW2_at cy ad m0 hj2) hpq, fun k q hk => by
    have hk2 := (List.getElem?_eq_some_iff.mp hk).1
    rw [mmW2_len] at hk2
    rw [mmW2_at cy ad m2 hk2] at hk
    cases hk
    exact h.2 k (ad k, cell2 cy ad m0 k) (mmW2_at cy ad m0 hk2)⟩

theorem mm_aK {s : State} {args : Array Value} {ty : FieldType} (h : (Cond.arrayClass ty).before args s = true) (hn : ∀ C, ty ≠ .object C) : ∃ c, ArrOfT s c ty ∧ va_RA s c ty := by
  obtain ⟨c, k, comp, h1, h2, h3⟩ := Cond.arrayClass_spec h
  refine ⟨c, fun n z => ⟨fun k h => (by cases h), k, h2, comp, h3⟩, ?_⟩
  cases ty with
  | object C => exact absurd rfl (hn C)
  | _ => exact h1
theorem mm_aQ {s : State} {args : Array Value} {C : String} (h : (Cond.arrayOver (.object C)).before args s = true) : ∃ c, ArrOfT s c (.object C) ∧ va_RA s c (.object C) := by
  obtain ⟨comp, c, k, h1, h2, h3, h4, h5⟩ := Cond.arrayOver_spec h
  exact ⟨c, fun n z => ⟨fun k h => (by cases h), k, h3, comp, h4⟩, k, comp, h3, h4, h1, h5⟩

set_option maxHeartbeats 4000000 in
set_option maxRecDepth 100000 in
/-- THE LAW, from its entry, if its function says one -/
theorem whole_start_open {p : Program} {e : Env} {s : State} {m : MethodId} {below : List Frame} {meth : Method} {c : Code} (l : Launch) {b L : Nat} {xs : Nat → Int32} (hL : L ≤ 260) (hfn : ∃ m', f_L_law_L21 L xs mmFU 1 0 (mmM0, mmM0) = some (1, m')) (C0 : lw_At p s m meth c b L xs) : W p l e room_1 s m #[Value.ref b] below meth c s.heap [] 0 0 (lw_Z below #[Value.ref b] s) (entryFrame m ([Value.ref b] : List Value).toArray 5) := by
  obtain ⟨hx, hb, hr, hml, hown, hts, hX, hbl, hlocks, hgv⟩ := id C0
  obtain ⟨mz, hfn⟩ := hfn
  have hA : ∀ q : Nat, s.heap.size ≤ q → (fun q : Nat => s.heap.size ≤ q) q := fun _ h => h
  have htb : ∀ w ∈ mm_tb, w.before #[Value.ref b] s = true := fun w hw => hts w (List.mem_filter.mp hw).1
  obtain ⟨c0, iS0, hKn0⟩ := u_known (C := RX0) (T := TX0) (N := 2) (n := 2) htb iuX0 (htb _ in_X0)
  obtain ⟨c1, iS1, hKn1⟩ := u_known (C := RX1) (T := TX1) (N := 8) (n := 8) htb iuX1 (htb _ in_X1)
  obtain ⟨c2, iS2, hKn2⟩ := u_known (C := RX2) (T := TX2) (N := 10) (n := 10) htb iuX2 (htb _ in_X2)
  obtain ⟨c3, iS3, hKn3⟩ := u_known (C := RX3) (T := TX3) (N := 6) (n := 6) htb iuX3 (htb _ in_X3)
  have hAO : (Cond.arrayOver (.object RX2)).before #[Value.ref b] s = true := hts _ (List.mem_of_getElem? (i := 94) (by decide +kernel))
  obtain ⟨yI, hI1, hI2⟩ := mm_aK (ty := .int) (htb _ ac_int) (fun C h => by cases h)
  obtain ⟨yC, hC1, hC2⟩ := mm_aK (ty := .char) (htb _ ac_char) (fun C h => by cases h)
  obtain ⟨yQ, hQ1, hQ2⟩ := mm_aQ hAO
  obtain ⟨dC, dI, hKc⟩ : ∃ (dC : Nat → ClassId) (dI : Nat → Nat → Nat), ∀ (k : Nat) (q : vw_C), vwCl[k]? = some q → u_Kn s q.1 q.2.1 q.2.2 (dC k) (dI k) := by
    refine ⟨fun k => if k = 0 then c0 else if k = 1 then c1 else if k = 2 then c2 else c3, fun k => if k = 0 then iS0 else if k = 1 then iS1 else if k = 2 then iS2 else iS3, ?_⟩
    intro k q hq
    match k, hq with
    | 0, hq => cases hq; exact hKn0
    | 1, hq => cases hq; exact hKn1
    | 2, hq => cases hq; exact hKn2
    | 3, hq => cases hq; exact hKn3
    | k + 4, hq => simp [vwCl] at hq
  have hK : va_K (dC, dI) vwCl (mmT (yI, yC, yQ)) s := by
    refine ⟨hKc, fun k q h => ?_⟩
    match k, h with
    | 0, h => cases h; exact ⟨hI1, hI2⟩
    | 1, h => cases h; exact ⟨hC1, hC2⟩
    | 2, h => cases h; exact ⟨hQ1, hQ2⟩
    | k + 3, h => simp [mmT] at h
  have hNw : mmNw s := ⟨va_AO.of hAO, va_Nw.of rfl (hts _ (List.mem_of_getElem? (i := 95) (by decide +kernel))), va_Nw.of rfl (hts _ (List.mem_of_getElem? (i := 51) (by decide +kernel))), va_Nw.of rfl (hts _ (List.mem_of_getElem? (i := 105) (by decide +kernel)))⟩
  have hP : va_P (dC, dI) vwCl [] s.heap := fun k q h => by simp at h
  have hD : va_D (fun q : Nat => s.heap.size ≤ q) [] := ⟨fun i j p q h => by simp at h, fun k q h => by simp at h⟩
  have hl := lv_entry ([.ref b]) (n := 5) (Nat.le_of_ble_eq_true rfl)
  rw [lg_entry_eq]
  refine law_start b (yI, yC, yQ) (D := (dC, dI)) (A := fun q : Nat => s.heap.size ≤ q) ⟨hx, hb, hml, hown, htb, fun z hz => (by cases hz), hA, ⟨hK, hNw⟩, ?_⟩ hP hD va_S.rf hl
  intro pc lv st ws H locs ls hpo hP' hD' hS' hl'
  obtain ⟨rfl, rfl, a0, a1, q, q', rfl, rfl⟩ := hpo
  rw [w0_all (b := b)] at hP' hD'
  have hV := ok_L_law_16 hL (r := (1, mz)) (mmM0, mmM0) hfn
  unfold V2 at hV
  refine hV (p := p) (l := l) (e := e) (s := s) (mi := m) (args := #[Value.ref b]) (below := below) (meth := meth) (c := c) (cells := 102) (slots := 2076) (D := (dC, dI)) (cy := (yI, yC, yQ)) (ad := mmAd b a0 a1 q q') (A := fun q : Nat => s.heap.size ≤ q) ⟨hx, hb, hml, hown, htb, ⟨(Nat.le_of_ble_eq_true rfl), (Nat.le_of_ble_eq_true rfl)⟩, hA, hK, mmD_all hD', ⟨hX, hbl, Nat.not_le.mpr hbl⟩, ?_⟩ ⟨mmM0_R, mmM0_R⟩ hP' hS' (lv_sub hl' [2, 1, 0] rfl)
  intro v m' H' locs' ls' pc' hpo hR' hret hP2 hS2
  obtain ⟨rfl, rfl, hr9⟩ := hpo
  rcases hret with ⟨x, hx2, hdg⟩ | ⟨hx2, _⟩
  · refine va_forget (fun q hq => hS2.2.2 q hq) ?_
    refine W.widen (k := 600000) (n := 7302250) (Nat.le_of_ble_eq_true rfl) (Nat.le_of_ble_eq_true rfl) ?_
    exact lw_ret hx hb hr hlocks hdg
  · cases hx2
