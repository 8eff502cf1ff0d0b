def R_law : String := "MemberShelfLaw"
def lw_P (b : Addr) (xs : List Int32) (args : Array Value) (s : State) : Prop := args = #[.ref b] ∧ s.IntsAt b xs ∧ xs.length ≤ 2048 ∧ (Jvm.Cond.and given_1 narrow_1).before args s = true
def lw_Q (_ : Array Value) (s : State) (o : Outcome) (t : State) : Prop := o = .returned (some (.int 1)) ∧ Framed s o t [] 600000 7302250
def lw_Z (below : List Frame) (a : Array Value) (s : State) : State → Prop := fun t => ∃ o, t.status = .running ∧ Ended t below o ∧ lw_Q a s o t
/-- the law's own end, with 1 on the stack, nothing written that was there before, its room as the claim has it -/
theorem lw_ret {p : Program} {l : Launch} {e : Env} {s : State} {m : MethodId} {below : List Frame} {meth : Method} {c : Code} {b : Nat} (hx : p.tables.exec = Jvm.exec) (hb : c.code = code) (hr : meth.sig.returnType = ret) (hlocks : meth.locks = false) {pc : Nat} {H : Heap} {ls : Array Slot} (hdg : decode code pc = .ok (.ireturn, 1)) : W p l e room_1 s m #[Value.ref b] below meth c H [] 600000 7302250 (lw_Z below #[Value.ref b] s) (F0 m pc ls [.int 1]) := by
  intro T hT X
  obtain ⟨fs, hret, hrun, hended, hW, hframe⟩ := X.leave (v := some (.int 1)) (hlocks := hlocks) (fun h => by rw [hr] at h; cases h)
  have hmeth' : T.vm.method? m = some meth := X.method'
  refine ⟨T.setFrames fs, ?_, .returned (some (.int 1)), hrun, hended, rfl, ⟨_, rfl⟩, hW, hframe⟩
  jvm_step X.here [X.here.top, hx, hb, hdg, hmeth', hr, ret, narrow_b1]
  (try refine ⟨rfl, ?_⟩); (try refine ⟨rfl, ?_⟩)
  first | (intro acts; rw [hret _ acts rfl rfl rfl]) | rw [hret _ _ rfl rfl rfl]
  exact Steps.refl _
/-- what holds at the law's entry: the machine, the code, the tables' words (any of lw_tbl by 'hts w (by decide +kernel)'), the script of L ints xs at the cell b, what the Statement gives of the start (any of its parts by flat_of_before) -/
def lw_At (p : Program) (s : State) (m : MethodId) (meth : Method) (c : Code) (b L : Nat) (xs : Nat → Int32) : Prop :=
  p.tables.exec = Jvm.exec ∧ c.code = code ∧ meth.sig.returnType = ret ∧ c.maxLocals = 4 ∧ s.vm.findClass R_law = some m.cls ∧ (∀ w ∈ lw_tbl, w.before #[Value.ref b] s = true) ∧ va_X b L xs s s.heap ∧ b < s.heap.size ∧ meth.locks = false ∧ (Jvm.Cond.and given_1 narrow_1).before #[Value.ref b] s = true
theorem sh_2 : mmSh[2]? = some (.inr (0, 24)) := by decide +kernel
theorem sh_3 : mmSh[3]? = some (.inr (0, 24)) := by decide +kernel
theorem sh_4 : mmSh[4]? = some (.inr (0, 24)) := by decide +kernel
theorem sh_5 : mmSh[5]? = some (.inr (0, 24)) := by decide +kernel
theorem sh_6 : mmSh[6]? = some (.inr (0, 24)) := by decide +kernel
theorem sh_8 : mmSh[8]? = some (.inr (0, 24)) := by decide +kernel
theorem sh_9 : mmSh[9]? = some (.inr (0, 24)) := by decide +kernel
theorem sh_10 : mmSh[10]? = some (.inr (0, 24)) := by decide +kernel
theorem sh_11 : mmSh[11]? = some (.inr (0, 24)) := by decide +kernel
theorem sh_12 : mmSh[12]? = some (.inr (0, 24)) := by decide +kernel
theorem sh_14 : mmSh[14]? = some (.inr (0, 24)) := by decide +kernel
theorem sh_15 : mmSh[15]? = some (.inr (0, 24)) := by decide +kernel
theorem sh_16 : mmSh[16]? = some (.inr (0, 24)) := by decide +kernel
theorem sh_17 : mmSh[17]? = some (.inr (0, 24)) := by decide +kernel
theorem sh_18 : mmSh[18]? = some (.inr (0, 24)) := by decide +kernel
theorem sh_21 : mmSh[21]? = some (.inl 2) := by decide +kernel
theorem sh_22 : mmSh[22]? = some (.inr (0, 24)) := by decide +kernel
theorem sh_23 : mmSh[23]? = some (.inr (0, 24)) := by decide +kernel
theorem sh_24 : mmSh[24]? = some (.inr (0, 24)) := by decide +kernel
theorem sh_25 : mmSh[25]? = some (.inr (0, 24)) := by decide +kernel
theorem sh_26 : mmSh[26]? = some (.inr (0, 24)) := by decide +kernel
theorem sh_27 : mmSh[27]? = some (.inl 2) := by decide +kernel
theorem sh_28 : mmSh[28]? = some (.inr (0, 24)) := by decide +kernel
theorem sh_29 : mmSh[29]? = some (.inr (0, 24)) := by decide +kernel
theorem sh_30 : mmSh[30]? = some (.inr (0, 24)) := by decide +kernel
theorem sh_31 : mmSh[31]? = some (.inr (0, 24)) := by decide +kernel
theorem sh_32 : mmSh[32]? = some (.inr (0, 24)) := by decide +kernel
theorem sh_33 : mmSh[33]? = some (.inl 2) := by decide +kernel
theorem sh_34 : mmSh[34]? = some (.inr (0, 24)) := by decide +kernel
theorem sh_35 : mmSh[35]? = some (.inr (0, 24)) := by decide +kernel
theorem sh_36 : mmSh[36]? = some (.inr (0, 24)) := by decide +kernel
theorem sh_37 : mmSh[37]? = some (.inr (0, 24)) := by decide +kernel
theorem sh_38 : mmSh[38]? = some (.inr (0, 24)) := by decide +kernel
theorem sh_39 : mmSh[39]? = some (.inl 2) := by decide +kernel
theorem sh_40 : mmSh[40]? = some (.inr (0, 24)) := by decide +kernel
theorem sh_41 : mmSh[41]? = some (.inr (0, 24)) := by decide +kernel
theorem sh_42 : mmSh[42]? = some (.inr (0, 24)) := by decide +kernel
theorem sh_43 : mmSh[43]? = some (.inr (0, 24)) := by decide +kernel
theorem sh_44 : mmSh[44]? = some (.inr (0, 24)) := by decide +kernel
theorem cl_XL_7 : Cond.classLink RL 7 RX3 ∈ mm_tb := mm_in 68 (by decide +kernel) (by decide +kernel)
theorem cl_XL_10 : Cond.classLink RL 10 RX4 ∈ mm_tb := mm_in 515 (by decide +kernel) (by decide +kernel)
theorem in_X3 : Cond.instantiable RX3 6 ∈ mm_tb := mm_in 69 (by decide +kernel) (by decide +kernel)
theorem in_X4 : Cond.instantiable RX4 12 ∈ mm_tb := mm_in 516 (by decide +kernel) (by decide +kernel)
theorem ml_XL_9 : Cond.methodLink RL 9 yX3_init ∈ mm_tb := mm_in 70 (by decide +kernel) (by decide +kernel)
theorem ml_XL_12 : Cond.methodLink RL 12 yX4_init ∈ mm_tb := mm_in 517 (by decide +kernel) (by decide +kernel)
theorem im_X3_init : Cond.instanceMethod yX3_init ∈ mm_tb := mm_in 71 (by decide +kernel) (by decide +kernel)
theorem im_X4_init : Cond.instanceMethod yX4_init ∈ mm_tb := mm_in 518 (by decide +kernel) (by decide +kernel)
theorem cd_X3_init : Cond.code yX3_init cX3_init 1 none ∈ mm_tb := mm_in 72 (by decide +kernel) (by decide +kernel)
theorem cd_X4_init : Cond.code yX4_init cX4_init 1 none ∈ mm_tb := mm_in 519 (by decide +kernel) (by decide +kernel)

/-- the memory at the start -/
def mmM0 : Mem := (fun i => if i = 52 then fun k => if k = 1 then 2 else 0 else if i = 1 ∨ i = 7 ∨ i = 13 ∨ i = 21 ∨ i = 27 ∨ i = 33 ∨ i = 39 then fun k => if k = 6 then 2 else 0 else fun _ => 0, fun k => if k = 0 then some 21 else if k = 1 then some 27 else if k = 2 then some 33 else if k = 3 then some 39 else none)
theorem mmM0_R : mmR mmM0 := by
  intro i k
  unfold mmM0
  dsimp only
  split
  · show inR (if k = 1 then 2 else 0)
    split <;> decide
  · split
    · show inR (if k = 6 then 2 else 0)
      split <;> decide
    · show inR 0
      decide
theorem mmRow0 {i : Nat} (h : ∀ k, mmM0.1 i k = 0) : mmRow mmM0 i = fun _ => 0 := by
  funext k
  simp only [mmRow, h k]
  decide
def mmAd (a0 a1 : Nat) (q q' : Nat → Nat) : Nat → Nat := fun i => if i = 0 then a0 else if i < 51 then q i else if i = 51 then a1 else q' (i - 51)

theorem w0_0 (cy : ClassId × ClassId × ClassId) (a0 a1 : Nat) (q q' : Nat → Nat) : (mmAd a0 a1 q q' 0, (.inr (3, mmF (mmAd a0 a1 q q') mmM0 0 3) : va_E)) = (mmAd a0 a1 q q' 0, mmCell cy (mmAd a0 a1 q q') mmM0 0) := by rw [mmCell_obj sh_0]
theorem w0_1 (cy : ClassId × ClassId × ClassId) (a0 a1 : Nat) (q q' : Nat → Nat) : (mmAd a0 a1 q q' 1, (.inr (2, mmF (mmAd a0 a1 q q') mmM0 1 2) : va_E)) = (mmAd a0 a1 q q' 1, mmCell cy (mmAd a0 a1 q q') mmM0 1) := by rw [mmCell_obj sh_1]
theorem w0_2 (cy : ClassId × ClassId × ClassId) (a0 a1 : Nat) (q q' : Nat → Nat) : (q 2, zI cy 24) = (mmAd a0 a1 q q' 2, mmCell cy (mmAd a0 a1 q q') mmM0 2) := by rw [mmCell_int sh_2, mmRow0 (fun _ => rfl)]; rfl
theorem w0_3 (cy : ClassId × ClassId × ClassId) (a0 a1 : Nat) (q q' : Nat → Nat) : (q 3, zI cy 24) = (mmAd a0 a1 q q' 3, mmCell cy (mmAd a0 a1 q q') mmM0 3) := by rw [mmCell_int sh_3, mmRow0 (fun _ => rfl)]; rfl
theorem w0_4 (cy : ClassId × ClassId × ClassId) (a0 a1 : Nat) (q q' : Nat → Nat) : (q 4, zI cy 24) = (mmAd a0 a1 q q' 4, mmCell cy (mmAd a0 a1 q q') mmM0 4) := by rw [mmCell_int sh_4, mmRow0 (fun _ => rfl)]; rfl
theorem w0_5 (cy : ClassId × ClassId × ClassId) (a0 a1 : Nat) (q q' : Nat → Nat) : (q 5, zI cy 24) = (mmAd a0 a1 q q' 5, mmCell cy (mmAd a0 a1 q q') mmM0 5) := by rw [mmCell_int sh_5, mmRow0 (fun _ => rfl)]; rfl
theorem w0_6 (cy : ClassId × ClassId × ClassId) (a0 a1 : Nat) (q q' : Nat → Nat) : (q 6, zI cy 24) = (mmAd a0 a1 q q' 6, mmCell cy (mmAd a0 a1 q q') mmM0 6) := by rw [mmCell_int sh_6, mmRow0 (fun _ => rfl)]; rfl
theorem w0_7 (cy : ClassId × ClassId × ClassId) (a0 a1 : Nat) (q q' : Nat → Nat) : (mmAd a0 a1 q q' 7, (.inr (2, mmF (mmAd a0 a1 q q') mmM0 7 2) : va_E)) = (mmAd a0 a1 q q' 7, mmCell cy (mmAd a0 a1 q q') mmM0 7) := by rw [mmCell_obj sh_7]
theorem w0_8 (cy : ClassId × ClassId × ClassId) (a0 a1 : Nat) (q q' : Nat → Nat) : (q 8, zI cy 24) = (mmAd a0 a1 q q' 8, mmCell cy (mmAd a0 a1 q q') mmM0 8) := by rw [mmCell_int sh_8, mmRow0 (fun _ => rfl)]; rfl
theorem w0_9 (cy : ClassId × ClassId × ClassId) (a0 a1 : Nat) (q q' : Nat → Nat) : (q 9, zI cy 24) = (mmAd a0 a1 q q' 9, mmCell cy (mmAd a0 a1 q q') mmM0 9) := by rw [mmCell_int sh_9, mmRow0 (fun _ => rfl)]; rfl
theorem w0_10 (cy : ClassId × ClassId × ClassId) (a0 a1 : Nat) (q q' : Nat → Nat) : (q 10, zI cy 24) = (mmAd a0 a1 q q' 10, mmCell cy (mmAd a0 a1 q q') mmM0 10) := by rw [mmCell_int sh_10, mmRow0 (fun _ => rfl)]; rfl
theorem w0_11 (cy : ClassId × ClassId × ClassId) (a0 a1 : Nat) (q q' : Nat → Nat) : (q 11, zI cy 24) = (mmAd a0 a1 q q' 11, mmCell cy (mmAd a0 a1 q q') mmM0 11) := by rw [mmCell_int sh_11, mmRow0 (fun _ => rfl)]; rfl
theorem w0_12 (cy : ClassId × ClassId × ClassId) (a0 a1 : Nat) (q q' : Nat → Nat) : (q 12, zI cy 24) = (mmAd a0 a1 q q' 12, mmCell cy (mmAd a0 a1 q q') mmM0 12) := by rw [mmCell_int sh_12, mmRow0 (fun _ => rfl)]; rfl
theorem w0_13 (cy : ClassId × ClassId × ClassId) (a0 a1 : Nat) (q q' : Nat → Nat) : (mmAd a0 a1 q q' 13, (.inr (2, mmF (mmAd a0 a1 q q') mmM0 13 2) : va_E)) = (mmAd a0 a1 q q' 13, mmCell cy (mmAd a0 a1 q q') mmM0 13) := by rw [mmCell_obj sh_13]
theorem w0_14 (cy : ClassId × ClassId × ClassId) (a0 a1 : Nat) (q q' : Nat → Nat) : (q 14, zI cy 24) = (mmAd a0 a1 q q' 14, mmCell cy (mmAd a0 a1 q q') mmM0 14) := by rw [mmCell_int sh_14, mmRow0 (fun _ => rfl)]; rfl
theorem w0_15 (cy : ClassId × ClassId × ClassId) (a0 a1 : Nat) (q q' : Nat → Nat) : (q 15, zI cy 24) = (mmAd a0 a1 q q' 15, mmCell cy (mmAd a0 a1 q q') mmM0 15) := by rw [mmCell_int sh_15, mmRow0 (fun _ => rfl)]; rfl
theorem w0_16 (cy : ClassId × ClassId × ClassId) (a0 a1 : Nat) (q q' : Nat → Nat) : (q 16, zI cy 24) = (mmAd a0 a1 q q' 16, mmCell cy (mmAd a0 a1 q q') mmM0 16) := by rw [mmCell_int sh_16, mmRow0 (fun _ => rfl)]; rfl
theorem w0_17 (cy : ClassId × ClassId × ClassId) (a0 a1 : Nat) (q q' : Nat → Nat) : (q 17, zI cy 24) = (mmAd a0 a1 q q' 17, mmCell cy (mmAd a0 a1 q q') mmM0 17) := by rw [mmCell_int sh_17, mmRow0 (fun _ => rfl)]; rfl
theorem w0_18 (cy : ClassId × ClassId × ClassId) (a0 a1 : Nat) (q q' : Nat → Nat) : (q 18, zI cy 24) = (mmAd a0 a1 q q' 18, mmCell cy (mmAd a0 a1 q q') mmM0 18) := by rw [mmCell_int sh_18, mmRow0 (fun _ => rfl)]; rfl
theorem w0_19 (cy : ClassId × ClassId × ClassId) (a0 a1 : Nat) (q q' : Nat → Nat) : (mmAd a0 a1 q q' 19, (.inr (0, mmF (mmAd a0 a1 q q') mmM0 19 0) : va_E)) = (mmAd a0 a1 q q' 19, mmCell cy (mmAd a0 a1 q q') mmM0 19) := by rw [mmCell_obj sh_19]
theorem w0_20 (cy : ClassId × ClassId × ClassId) (a0 a1 : Nat) (q q' : Nat → Nat) : (q 20, zQ cy 4 (va_up (va_up (va_up (va_up (fun _ => none) 0 (some (q 21))) 1 (some (q 27))) 2 (some (q 33))) 3 (some (q 39)))) = (mmAd a0 a1 q q' 20, mmCell cy (mmAd a0 a1 q q') mmM0 20) := by
  rw [mmCell_ref sh_20]
  have e : (va_up (va_up (va_up (va_up (fun _ => none) 0 (some (q 21))) 1 (some (q 27))) 2 (some (q 33))) 3 (some (q 39))) = fun k => (mmM0.2 k).map (mmAd a0 a1 q q') := by
    funext k
    match k with
    | 0 => rfl
    | 1 => rfl
    | 2 => rfl
    | 3 => rfl
    | k + 4 => rfl
  unfold zQ
  rw [e]
  rfl
theorem w0_21 (cy : ClassId × ClassId × ClassId) (a0 a1 : Nat) (q q' : Nat → Nat) : (mmAd a0 a1 q q' 21, (.inr (2, mmF (mmAd a0 a1 q q') mmM0 21 2) : va_E)) = (mmAd a0 a1 q q' 21, mmCell cy (mmAd a0 a1 q q') mmM0 21) := by rw [mmCell_obj sh_21]
theorem w0_22 (cy : ClassId × ClassId × ClassId) (a0 a1 : Nat) (q q' : Nat → Nat) : (q 22, zI cy 24) = (mmAd a0 a1 q q' 22, mmCell cy (mmAd a0 a1 q q') mmM0 22) := by rw [mmCell_int sh_22, mmRow0 (fun _ => rfl)]; rfl
theorem w0_23 (cy : ClassId × ClassId × ClassId) (a0 a1 : Nat) (q q' : Nat → Nat) : (q 23, zI cy 24) = (mmAd a0 a1 q q' 23, mmCell cy (mmAd a0 a1 q q') mmM0 23) := by rw [mmCell_int sh_23, mmRow0 (fun _ => rfl)]; rfl
theorem w0_24 (cy : ClassId × ClassId × ClassId) (a0 a1 : Nat) (q q' : Nat → Nat) : (q 24, zI cy 24) = (mmAd a0 a1 q q' 24, mmCell cy (mmAd a0 a1 q q') mmM0 24) := by rw [mmCell_int sh_24, mmRow0 (fun _ => rfl)]; rfl
theorem w0_25 (cy : ClassId × ClassId × ClassId) (a0 a1 : Nat) (q q' : Nat → Nat) : (q 25, zI cy 24) = (mmAd a0 a1 q q' 25, mmCell cy (mmAd a0 a1 q q') mmM0 25) := by rw [mmCell_int sh_25, mmRow0 (fun _ => rfl)]; rfl
theorem w0_26 (cy : ClassId × ClassId × ClassId) (a0 a1 : Nat) (q q' : Nat → Nat) : (q 26, zI cy 24) = (mmAd a0 a1 q q' 26, mmCell cy (mmAd a0 a1 q q') mmM0 26) := by rw [mmCell_int sh_26, mmRow0 (fun _ => rfl)]; rfl
theorem w0_27 (cy : ClassId × ClassId × ClassId) (a0 a1 : Nat) (q q' : Nat → Nat) : (mmAd a0 a1 q q' 27, (.inr (2, mmF (mmAd a0 a1 q q') mmM0 27 2) : va_E)) = (mmAd a0 a1 q q' 27, mmCell cy (mmAd a0 a1 q q') mmM0 27) := by rw [mmCell_obj sh_27]
theorem w0_28 (cy : ClassId × ClassId × ClassId) (a0 a1 : Nat) (q q' : Nat → Nat) : (q 28, zI cy 24) = (mmAd a0 a1 q q' 28, mmCell cy (mmAd a0 a1 q q') mmM0 28) := by rw [mmCell_int sh_28, mmRow0 (fun _ => rfl)]; rfl
theorem w0_29 (cy : ClassId × ClassId × ClassId) (a0 a1 : Nat) (q q' : Nat → Nat) : (q 29, zI cy 24) = (mmAd a0 a1 q q' 29, mmCell cy (mmAd a0 a1 q q') mmM0 29) := by rw [mmCell_int sh_29, mmRow0 (fun _ => rfl)]; rfl
theorem w0_30 (cy : ClassId × ClassId × ClassId) (a0 a1 : Nat) (q q' : Nat → Nat) : (q 30, zI cy 24) = (mmAd a0 a1 q q' 30, mmCell cy (mmAd a0 a1 q q') mmM0 30) := by rw [mmCell_int sh_30, mmRow0 (fun _ => rfl)]; rfl
theorem w0_31 (cy : ClassId × ClassId × ClassId) (a0 a1 : Nat) (q q' : Nat → Nat) : (q 31, zI cy 24) = (mmAd a0 a1 q q' 31, mmCell cy (mmAd a0 a1 q q') mmM0 31) := by rw [mmCell_int sh_31, mmRow0 (fun _ => rfl)]; rfl
theorem w0_32 (cy : ClassId × ClassId × ClassId) (a0 a1 : Nat) (q q' : Nat → Nat) : (q 32, zI cy 24) = (mmAd a0 a1 q q' 32, mmCell cy (mmAd a0 a1 q q') mmM0 32) := by rw [mmCell_int sh_32, mmRow0 (fun _ => rfl)]; rfl
theorem w0_33 (cy : ClassId × ClassId × ClassId) (a0 a1 : Nat) (q q' : Nat → Nat) : (mmAd a0 a1 q q' 33, (.inr (2, mmF (mmAd a0 a1 q q') mmM0 33 2) : va_E)) = (mmAd a0 a1 q q' 33, mmCell cy (mmAd a0 a1 q q') mmM0 33) := by rw [mmCell_obj sh_33]
theorem w0_34 (cy : ClassId × ClassId × ClassId) (a0 a1 : Nat) (q q' : Nat → Nat) : (q 34, zI cy 24) = (mmAd a0 a1 q q' 34, mmCell cy (mmAd a0 a1 q q') mmM0 34) := by rw [mmCell_int sh_34, mmRow0 (fun _ => rfl)]; rfl
theorem w0_35 (cy : ClassId × ClassId × ClassId) (a0 a1 : Nat) (q q' : Nat → Nat) : (q 35, zI cy 24) = (mmAd a0 a1 q q' 35, mmCell cy (mmAd a0 a1 q q') mmM0 35) := by rw [mmCell_int sh_35, mmRow0 (fun _ => rfl)]; rfl
theorem w0_36 (cy : ClassId × ClassId × ClassId) (a0 a1 : Nat) (q q' : Nat → Nat) : (q 36, zI cy 24) = (mmAd a0 a1 q q' 36, mmCell cy (mmAd a0 a1 q q') mmM0 36) := by rw [mmCell_int sh_36, mmRow0 (fun _ => rfl)]; rfl
theorem w0_37 (cy : ClassId × ClassId × ClassId) (a0 a1 : Nat) (q q' : Nat → Nat) : (q 37, zI cy 24) = (mmAd a0 a1 q q' 37, mmCell cy (mmAd a0 a1 q q') mmM0 37) := by rw [mmCell_int sh_37, mmRow0 (fun _ => rfl)]; rfl
theorem w0_38 (cy : ClassId × ClassId × ClassId) (a0 a1 : Nat) (q q' : Nat → Nat) : (q 38, zI cy 24) = (mmAd a0 a1 q q' 38, mmCell cy (mmAd a0 a1 q q') mmM0 38) := by rw [mmCell_int sh_38, mmRow0 (fun _ => rfl)]; rfl
theorem w0_39 (cy : ClassId × ClassId × ClassId) (a0 a1 : Nat) (q q' : Nat → Nat) : (mmAd a0 a1 q q' 39, (.inr (2, mmF (mmAd a0 a1 q q') mmM0 39 2) : va_E)) = (mmAd a0 a1 q q' 39, mmCell cy (mmAd a0 a1 q q') mmM0 39) := by rw [mmCell_obj sh_39]
theorem w0_40 (cy : ClassId × ClassId × ClassId) (a0 a1 : Nat) (q q' : Nat → Nat) : (q 40, zI cy 24) = (mmAd a0 a1 q q' 40, mmCell cy (mmAd a0 a1 q q') mmM0 40) := by rw [mmCell_int sh_40, mmRow0 (fun _ => rfl)]; rfl
theorem w0_41 (cy : ClassId × ClassId × ClassId) (a0 a1 : Nat) (q q' : Nat → Nat) : (q 41, zI cy 24) = (mmAd a0 a1 q q' 41, mmCell cy (mmAd a0 a1 q q') mmM0 41) := by rw [mmCell_int sh_41, mmRow0 (fun _ => rfl)]; rfl
theorem w0_42 (cy : ClassId × ClassId × ClassId) (a0 a1 : Nat) (q q' : Nat → Nat) : (q 42, zI cy 24) = (mmAd a0 a1 q q' 42, mmCell cy (mmAd a0 a1 q q') mmM0 42) := by rw [mmCell_int sh_42, mmRow0 (fun _ => rfl)]; rfl
theorem w0_43 (cy : ClassId × ClassId × ClassId) (a0 a1 : Nat) (q q' : Nat → Nat) : (q 43, zI cy 24) = (mmAd a0 a1 q q' 43, mmCell cy (mmAd a0 a1 q q') mmM0 43) := by rw [mmCell_int sh_43, mmRow0 (fun _ => rfl)]; rfl
theorem w0_44 (cy : ClassId × ClassId × ClassId) (a0 a1 : Nat) (q q' : Nat → Nat) : (q 44, zI cy 24) = (mmAd a0 a1 q q' 44, mmCell cy (mmAd a0 a1 q q') mmM0 44) := by rw [mmCell_int sh_44, mmRow0 (fun _ => rfl)]; rfl
theorem w0_45 (cy : ClassId × ClassId × ClassId) (a0 a1 : Nat) (q q' : Nat → Nat) : (mmAd a0 a1 q q' 45, (.inr (1, mmF (mmAd a0 a1 q q') mmM0 45 1) : va_E)) = (mmAd a0 a1 q q' 45, mmCell cy (mmAd a0 a1 q q') mmM0 45) := by rw [mmCell_obj sh_45]
theorem w0_46 (cy : ClassId × ClassId × ClassId) (a0 a1 : Nat) (q q' : Nat → Nat) : (q 46, zC cy 60) = (mmAd a0 a1 q q' 46, mmCell cy (mmAd a0 a1 q q') mmM0 46) := by rw [mmCell_chr sh_46, mmRow0 (fun _ => rfl)]; rfl
theorem w0_47 (cy : ClassId × ClassId × ClassId) (a0 a1 : Nat) (q q' : Nat → Nat) : (q 47, zI cy 12) = (mmAd a0 a1 q q' 47, mmCell cy (mmAd a0 a1 q q') mmM0 47) := by rw [mmCell_int sh_47, mmRow0 (fun _ => rfl)]; rfl
theorem w0_48 (cy : ClassId × ClassId × ClassId) (a0 a1 : Nat) (q q' : Nat → Nat) : (q 48, zI cy 12) = (mmAd a0 a1 q q' 48, mmCell cy (mmAd a0 a1 q q') mmM0 48) := by rw [mmCell_int sh_48, mmRow0 (fun _ => rfl)]; rfl
theorem w0_49 (cy : ClassId × ClassId × ClassId) (a0 a1 : Nat) (q q' : Nat → Nat) : (q 49, zI cy 12) = (mmAd a0 a1 q q' 49, mmCell cy (mmAd a0 a1 q q') mmM0 49) := by rw [mmCell_int sh_49, mmRow0 (fun _ => rfl)]; rfl
theorem w0_50 (cy : ClassId × ClassId × ClassId) (a0 a1 : Nat) (q q' : Nat → Nat) : (q 50, zI cy 12) = (mmAd a0 a1 q q' 50, mmCell cy (mmAd a0 a1 q q') mmM0 50) := by rw [mmCell_int sh_50, mmRow0 (fun _ => rfl)]; rfl
theorem w0_51 (cy : ClassId × ClassId × ClassId) (a0 a1 : Nat) (q q' : Nat → Nat) : (mmAd a0 a1 q q' 51, (.inr (4, mmF (mmAd a0 a1 q q') mmM0 51 4) : va_E)) = (mmAd a0 a1 q q' 51, mmCell cy (mmAd a0 a1 q q') mmM0 51) := by rw [mmCell_obj sh_51]
theorem w0_52 (cy : ClassId × ClassId × ClassId) (a0 a1 : Nat) (q q' : Nat → Nat) : (q' 1, (.inl (cy.1, 149, .inl (upd (fun _ => 0) 1 2)) : va_E)) = (mmAd a0 a1 q q' 52, mmCell cy (mmAd a0 a1 q q') mmM0 52) := by
  rw [mmCell_int sh_52]
  have e : upd (fun _ => 0) 1 2 = mmRow mmM0 52 := by
    funext k
    by_cases hk : k = 1
    · subst hk; decide
    · have h1 : mmM0.1 52 k = 0 := by simp [mmM0, hk]
      simp only [upd, hk, if_false, mmRow, h1]
      decide
  rw [e]
  rfl
theorem w0_53 (cy : ClassId × ClassId × ClassId) (a0 a1 : Nat) (q q' : Nat → Nat) : (q' 2, zI cy 149) = (mmAd a0 a1 q q' 53, mmCell cy (mmAd a0 a1 q q') mmM0 53) := by rw [mmCell_int sh_53, mmRow0 (fun _ => rfl)]; rfl
theorem w0_54 (cy : ClassId × ClassId × ClassId) (a0 a1 : Nat) (q q' : Nat → Nat) : (q' 3, zI cy 596) = (mmAd a0 a1 q q' 54, mmCell cy (mmAd a0 a1 q q') mmM0 54) := by rw [mmCell_int sh_54, mmRow0 (fun _ => rfl)]; rfl
theorem w0_55 (cy : ClassId × ClassId × ClassId) (a0 a1 : Nat) (q q' : Nat → Nat) : (q' 4, zI cy 149) = (mmAd a0 a1 q q' 55, mmCell cy (mmAd a0 a1 q q') mmM0 55) := by rw [mmCell_int sh_55, mmRow0 (fun _ => rfl)]; rfl
theorem w0_56 (cy : ClassId × ClassId × ClassId) (a0 a1 : Nat) (q q' : Nat → Nat) : (q' 5, zI cy 6) = (mmAd a0 a1 q q' 56, mmCell cy (mmAd a0 a1 q q') mmM0 56) := by rw [mmCell_int sh_56, mmRow0 (fun _ => rfl)]; rfl
theorem w0_57 (cy : ClassId × ClassId × ClassId) (a0 a1 : Nat) (q q' : Nat → Nat) : (q' 6, zI cy 60) = (mmAd a0 a1 q q' 57, mmCell cy (mmAd a0 a1 q q') mmM0 57) := by rw [mmCell_int sh_57, mmRow0 (fun _ => rfl)]; rfl
set_option maxRecDepth 100000 in
set_option maxHeartbeats 4000000 in
theorem w0_all (cy : ClassId × ClassId × ClassId) (a0 a1 : Nat) (q q' : Nat → Nat) : mkX3 a0 cy q ++ mkX4 a1 cy q' = mmW cy (mmAd a0 a1 q q') mmM0 := by
  have hr : List.range 58 = [0, 1, 2, 3, 4, 5, 6, 7, 8, 9, 10, 11, 12, 13, 14, 15, 16, 17, 18, 19, 20, 21, 22, 23, 24, 25, 26, 27, 28, 29, 30, 31, 32, 33, 34, 35, 36, 37, 38, 39, 40, 41, 42, 43, 44, 45, 46, 47, 48, 49, 50, 51, 52, 53, 54, 55, 56, 57] := by decide
  have e : mmW cy (mmAd a0 a1 q q') mmM0 = [0, 1, 2, 3, 4, 5, 6, 7, 8, 9, 10, 11, 12, 13, 14, 15, 16, 17, 18, 19, 20, 21, 22, 23, 24, 25, 26, 27, 28, 29, 30, 31, 32, 33, 34, 35, 36, 37, 38, 39, 40, 41, 42, 43, 44, 45, 46, 47, 48, 49, 50, 51, 52, 53, 54, 55, 56, 57].map (fun i => (mmAd a0 a1 q q' i, mmCell cy (mmAd a0 a1 q q') mmM0 i)) := by unfold mmW; rw [hr]
  rw [e]
  exact List.cons_eq_cons.mpr ⟨w0_0 cy a0 a1 q q', List.cons_eq_cons.mpr ⟨w0_1 cy a0 a1 q q', List.cons_eq_cons.mpr ⟨w0_2 cy a0 a1 q q', List.cons_eq_cons.mpr ⟨w0_3 cy a0 a1 q q', List.cons_eq_cons.mpr ⟨w0_4 cy a0 a1 q q', List.cons_eq_cons.mpr ⟨w0_5 cy a0 a1 q q', List.cons_eq_cons.mpr ⟨w0_6 cy a0 a1 q q', List.cons_eq_cons.mpr ⟨w0_7 cy a0 a1 q q', List.cons_eq_cons.mpr ⟨w0_8 cy a0 a1 q q', List.cons_eq_cons.mpr ⟨w0_9 cy a0 a1 q q', List.cons_eq_cons.mpr ⟨w0_10 cy a0 a1 q q', List.cons_eq_cons.mpr ⟨w0_11 cy a0 a1 q q', List.cons_eq_cons.mpr ⟨w0_12 cy a0 a1 q q', List.cons_eq_cons.mpr ⟨w0_13 cy a0 a1 q q', List.cons_eq_cons.mpr ⟨w0_14 cy a0 a1 q q', List.cons_eq_cons.mpr ⟨w0_15 cy a0 a1 q q', List.cons_eq_cons.mpr ⟨w0_16 cy a0 a1 q q', List.cons_eq_cons.mpr ⟨w0_17 cy a0 a1 q q', List.cons_eq_cons.mpr ⟨w0_18 cy a0 a1 q q', List.cons_eq_cons.mpr ⟨w0_19 cy a0 a1 q q', List.cons_eq_cons.mpr ⟨w0_20 cy a0 a1 q q', List.cons_eq_cons.mpr ⟨w0_21 cy a0 a1 q q', List.cons_eq_cons.mpr ⟨w0_22 cy a0 a1 q q', List.cons_eq_cons.mpr ⟨w0_23 cy a0 a1 q q', List.cons_eq_cons.mpr ⟨w0_24 cy a0 a1 q q', List.cons_eq_cons.mpr ⟨w0_25 cy a0 a1 q q', List.cons_eq_cons.mpr ⟨w0_26 cy a0 a1 q q', List.cons_eq_cons.mpr ⟨w0_27 cy a0 a1 q q', List.cons_eq_cons.mpr ⟨w0_28 cy a0 a1 q q', List.cons_eq_cons.mpr ⟨w0_29 cy a0 a1 q q', List.cons_eq_cons.mpr ⟨w0_30 cy a0 a1 q q', List.cons_eq_cons.mpr ⟨w0_31 cy a0 a1 q q', List.cons_eq_cons.mpr ⟨w0_32 cy a0 a1 q q', List.cons_eq_cons.mpr ⟨w0_33 cy a0 a1 q q', List.cons_eq_cons.mpr ⟨w0_34 cy a0 a1 q q', List.cons_eq_cons.mpr ⟨w0_35 cy a0 a1 q q', List.cons_eq_cons.mpr ⟨w0_36 cy a0 a1 q q', List.cons_eq_cons.mpr ⟨w0_37 cy a0 a1 q q', List.cons_eq_cons.mpr ⟨w0_38 cy a0 a1 q q', List.cons_eq_cons.mpr ⟨w0_39 cy a0 a1 q q', List.cons_eq_cons.mpr ⟨w0_40 cy a0 a1 q q', List.cons_eq_cons.mpr ⟨w0_41 cy a0 a1 q q', List.cons_eq_cons.mpr ⟨w0_42 cy a0 a1 q q', List.cons_eq_cons.mpr ⟨w0_43 cy a0 a1 q q', List.cons_eq_cons.mpr ⟨w0_44 cy a0 a1 q q', List.cons_eq_cons.mpr ⟨w0_45 cy a0 a1 q q', List.cons_eq_cons.mpr ⟨w0_46 cy a0 a1 q q', List.cons_eq_cons.mpr ⟨w0_47 cy a0 a1 q q', List.cons_eq_cons.mpr ⟨w0_48 cy a0 a1 q q', List.cons_eq_cons.mpr ⟨w0_49 cy a0 a1 q q', List.cons_eq_cons.mpr ⟨w0_50 cy a0 a1 q q', List.cons_eq_cons.mpr ⟨w0_51 cy a0 a1 q q', List.cons_eq_cons.mpr ⟨w0_52 cy a0 a1 q q', List.cons_eq_cons.mpr ⟨w0_53 cy a0 a1 q q', List.cons_eq_cons.mpr ⟨w0_54 cy a0 a1 q q', List.cons_eq_cons.mpr ⟨w0_55 cy a0 a1 q q', List.cons_eq_cons.mpr ⟨w0_56 cy a0 a1 q q', List.cons_eq_cons.mpr ⟨w0_57 cy a0 a1 q q', rfl⟩⟩⟩⟩⟩⟩⟩⟩⟩⟩⟩⟩⟩⟩⟩⟩⟩⟩⟩⟩⟩⟩⟩⟩⟩⟩⟩⟩⟩⟩⟩⟩⟩⟩⟩⟩⟩⟩⟩⟩⟩⟩⟩⟩⟩⟩⟩⟩⟩⟩⟩⟩⟩⟩⟩⟩⟩⟩

/-- the law's own start: both objects are made -/
def mmPL (b : Nat) (cy : ClassId × ClassId × ClassId) : Nat → List (Nat × Value) → List Value → va_W → Prop := fun pc lv st ws => pc = 18 ∧ st = [] ∧ ∃ (a0 a1 : Nat) (q q' : Nat → Nat), lv = [(3, .int 0), (2, .ref a1), (1, .ref a0), (0, .ref b)] ∧ ws = mkX3 a0 cy q ++ mkX4 a1 cy q'
set_option maxRecDepth 100000 in
set_option maxHeartbeats 4000000 in
theorem law_start (b : Nat) (cy : ClassId × ClassId × ClassId) : VA RL cL_law 4 room_1 none cy (mmPL b cy) 58 2159 0 [(0, .ref b)] [] [] 0 0 := by
  refine VA_new (ci := 3) (N := 6) (T := TX3) (Cn := RX3) (fs := [.null, .null, .null, .int 0, .null, .null]) tyX3 dL_law_0 iuX3 tyX3_ok cl_XL_7 in_X3 it_X3 rfl (fun j hj => by rcases (show j = 0 ∨ j = 1 ∨ j = 2 ∨ j = 3 ∨ j = 4 ∨ j = 5 by omega) with rfl | rfl | rfl | rfl | rfl | rfl <;> rfl) (Nat.le_of_ble_eq_true rfl) (Nat.le_of_ble_eq_true rfl) (fun a0 => ?_)
  refine VA_dup dL_law_3 ?_
  refine VA_init (wr := []) [] 0 dL_law_4 (ci_X3 a0) ml_XL_9 im_X3_init it_X3 cd_X3_init rfl (by decide +kernel) ⟨rfl, rfl, by decide, by decide⟩ ⟨(Nat.le_of_ble_eq_true rfl), (Nat.le_of_ble_eq_true rfl)⟩ rfl rfl (by decide) (by decide) (Nat.le_of_ble_eq_true rfl) (fun q => ?_)
  refine VA_astore (i := 1) (lv' := [(1, .ref a0), (0, .ref b)]) dL_law_7 rfl (by decide) rfl ?_
  refine VA_new (ci := 4) (N := 12) (T := TX4) (Cn := RX4) (fs := [.null, .null, .null, .int 0, .null, .int 0, .null, .null, .int 0, .int 0, .int 0, .int 0]) tyX4 dL_law_8 iuX4 tyX4_ok cl_XL_10 in_X4 it_X4 rfl (fun j hj => by rcases (show j = 0 ∨ j = 1 ∨ j = 2 ∨ j = 3 ∨ j = 4 ∨ j = 5 ∨ j = 6 ∨ j = 7 ∨ j = 8 ∨ j = 9 ∨ j = 10 ∨ j = 11 by omega) with rfl | rfl | rfl | rfl | rfl | rfl | rfl | rfl | rfl | rfl | rfl | rfl <;> rfl) (Nat.le_of_ble_eq_true rfl) (Nat.le_of_ble_eq_true rfl) (fun a1 => ?_)
  refine VA_dup dL_law_11 ?_
  refine VA_init (wr := mkX3 a0 cy q) [0, 1, 2, 3, 4, 5, 6, 7, 8, 9, 10, 11, 12, 13, 14, 15, 16, 17, 18, 19, 20, 21, 22, 23, 24, 25, 26, 27, 28, 29, 30, 31, 32, 33, 34, 35, 36, 37, 38, 39, 40, 41, 42, 43, 44, 45, 46, 47, 48, 49, 50] 51 dL_law_12 (ci_X4 a1) ml_XL_12 im_X4_init it_X4 cd_X4_init rfl (by decide +kernel) ⟨rfl, rfl, by decide, by decide⟩ ⟨(Nat.le_of_ble_eq_true rfl), (Nat.le_of_ble_eq_true rfl)⟩ rfl rfl (by decide) (by decide) (Nat.le_of_ble_eq_true rfl) (fun q' => ?_)
  refine VA_astore (i := 2) (lv' := [(2, .ref a1), (1, .ref a0), (0, .ref b)]) dL_law_15 rfl (by decide) rfl ?_
  refine VA_iconst (v := 0) dL_law_16 (by decide) ?_
  refine VA_istore (i := 3) (lv' := [(3, .int 0), (2, .ref a1), (1, .ref a0), (0, .ref b)]) dL_law_17 rfl (by decide) rfl ?_
  exact VA_end ⟨rfl, rfl, a0, a1, q, q', rfl, rfl⟩ ⟨(Nat.le_of_ble_eq_true rfl), (Nat.le_of_ble_eq_true rfl)⟩

theorem mmD_all {cy : ClassId × ClassId × ClassId} {ad : Nat → Nat} {A : Nat → Prop} {m0 : Mem} (h : va_D A (mmW cy ad m0)) : ∀ m, va_D A (mmW cy ad m) := fun m2 => ⟨fun i j p q hi hj hpq => by
    have hi2 := (List.getElem?_eq_some_iff.mp hi).1
    have hj2 := (List.getElem?_eq_some_iff.mp hj).1
    rw [mmW_len] at hi2 hj2
    rw [mmW_at cy ad m2 hi2] at hi
    rw [mmW_at cy ad m2 hj2] at hj
    cases hi; cases hj
    exact h.1 i j _ _ (mmW_at cy ad m0 hi2) (mmW_at cy ad m0 hj2) hpq, fun k q hk => by
    have hk2 := (List.getElem?_eq_some_iff.mp hk).1
    rw [mmW_len] at hk2
    rw [mmW_at cy ad m2 hk2] at hk
    cases hk
    exact h.2 k (ad k, mmCell cy ad m0 k) (mmW_at cy ad m0 hk2)⟩
def mmOk1 (i : Nat) : Option Nat → Bool
  | some d => decide (i + d < 58)
  | none => true
def mmOk (i : Nat) : Option (Nat ⊕ (Nat × Nat)) → Bool
  | some (.inl ci) => (mmOff ci).all (mmOk1 i)
  | _ => true
theorem mmOff_lt : ∀ i : Nat, i < 58 → ∀ ci : Nat, mmSh[i]? = some (.inl ci) → ∀ k d : Nat, (mmOff ci)[k]? = some (some d) → i + d < 58 := by
  have h : ∀ i, i < 58 → mmOk i mmSh[i]? = true := by decide +kernel
  intro i hi ci hs k d hk
  have h1 := h i hi
  rw [hs] at h1
  have h2 := List.all_eq_true.mp h1 _ (List.mem_of_getElem? hk)
  simpa [mmOk1] using h2
theorem mmW_ad {cy : ClassId × ClassId × ClassId} {ad ad' : Nat → Nat} {m : Mem} (h : ∀ i, i < 58 → ad' i = ad i) (hm : ∀ k j, m.2 k = some j → j < 58) : mmW cy ad' m = mmW cy ad m := by
  unfold mmW
  refine List.map_congr_left fun i hi => ?_
  have hi := List.mem_range.mp hi
  have e1 : (fun k => (m.2 k).map ad') = fun k => (m.2 k).map ad := by
    funext k
    cases hk : m.2 k with
    | none => rfl
    | some j => simp [h j (hm k j hk)]
  have e2 : ∀ ci, mmSh[i]? = some (.inl ci) → mmF ad' m i ci = mmF ad m i ci := by
    intro ci hs
    unfold mmF
    apply List.ext_getElem?
    intro k
    rw [List.getElem?_mapIdx, List.getElem?_mapIdx]
    cases ho : (mmOff ci)[k]? with
    | none => rfl
    | some o =>
      cases o with
      | none => rfl
      | some d =>
        have hb : i + d < 58 := mmOff_lt i hi ci hs k d ho
        simp [mmFv, h _ hb]
  rw [h i hi]
  congr 1
  unfold mmCell
  split
  · rename_i ci hs
    rw [e2 ci hs]
  · rfl
  · rfl
  · rw [e1]
  · rfl

theorem mm_aK {s : State} {args : Array Value} {ty : FieldType} (h : (Cond.arrayClass ty).before args s = true) (hn : ∀ C, ty ≠ .object C) : ∃ c, ArrOfT s c ty ∧ va_RA s c ty := by
  obtain ⟨c, k, comp, h1, h2, h3⟩ := Cond.arrayClass_spec h
  refine ⟨c, fun n z => ⟨fun k h => (by cases h), k, h2, comp, h3⟩, ?_⟩
  cases ty with
  | object C => exact absurd rfl (hn C)
  | _ => exact h1
theorem mm_aQ {s : State} {args : Array Value} {C : String} (h : (Cond.arrayOver (.object C)).before args s = true) : ∃ c, ArrOfT s c (.object C) ∧ va_RA s c (.object C) := by
  obtain ⟨comp, c, k, h1, h2, h3, h4, h5⟩ := Cond.arrayOver_spec h
  exact ⟨c, fun n z => ⟨fun k h => (by cases h), k, h3, comp, h4⟩, k, comp, h3, h4, h1, h5⟩

set_option maxHeartbeats 4000000 in
set_option maxRecDepth 100000 in
/-- THE LAW, from its entry, if its function says one -/
theorem whole_start_open {p : Program} {e : Env} {s : State} {m : MethodId} {below : List Frame} {meth : Method} {c : Code} (l : Launch) {b L : Nat} {xs : Nat → Int32} (hL : L ≤ 2048) (hfn : ∃ m', f_L_law_L18 L xs mmFU 0 mmM0 = some (1, m')) (C0 : lw_At p s m meth c b L xs) : W p l e room_1 s m #[Value.ref b] below meth c s.heap [] 0 0 (lw_Z below #[Value.ref b] s) (entryFrame m ([Value.ref b] : List Value).toArray 4) := by
  obtain ⟨hx, hb, hr, hml, hown, hts, hX, hbl, hlocks, hgv⟩ := id C0
  obtain ⟨mz, hfn⟩ := hfn
  have hA : ∀ q : Nat, s.heap.size ≤ q → (fun q : Nat => s.heap.size ≤ q) q := fun _ h => h
  have htb : ∀ w ∈ mm_tb, w.before #[Value.ref b] s = true := fun w hw => hts w (List.mem_filter.mp hw).1
  obtain ⟨c0, iS0, hKn0⟩ := u_known (C := RX0) (T := TX0) (N := 2) (n := 2) htb iuX0 (htb _ in_X0)
  obtain ⟨c1, iS1, hKn1⟩ := u_known (C := RX1) (T := TX1) (N := 8) (n := 8) htb iuX1 (htb _ in_X1)
  obtain ⟨c2, iS2, hKn2⟩ := u_known (C := RX2) (T := TX2) (N := 10) (n := 10) htb iuX2 (htb _ in_X2)
  obtain ⟨c3, iS3, hKn3⟩ := u_known (C := RX3) (T := TX3) (N := 6) (n := 6) htb iuX3 (htb _ in_X3)
  obtain ⟨c4, iS4, hKn4⟩ := u_known (C := RX4) (T := TX4) (N := 12) (n := 12) htb iuX4 (htb _ in_X4)
  have hAO : (Cond.arrayOver (.object RX2)).before #[Value.ref b] s = true := hts _ (List.mem_of_getElem? (i := 121) (by decide +kernel))
  obtain ⟨yI, hI1, hI2⟩ := mm_aK (ty := .int) (htb _ ac_int) (fun C h => by cases h)
  obtain ⟨yC, hC1, hC2⟩ := mm_aK (ty := .char) (htb _ ac_char) (fun C h => by cases h)
  obtain ⟨yQ, hQ1, hQ2⟩ := mm_aQ hAO
  obtain ⟨dC, dI, hKc⟩ : ∃ (dC : Nat → ClassId) (dI : Nat → Nat → Nat), ∀ (k : Nat) (q : vw_C), vwCl[k]? = some q → u_Kn s q.1 q.2.1 q.2.2 (dC k) (dI k) := by
    refine ⟨fun k => if k = 0 then c0 else if k = 1 then c1 else if k = 2 then c2 else if k = 3 then c3 else c4, fun k => if k = 0 then iS0 else if k = 1 then iS1 else if k = 2 then iS2 else if k = 3 then iS3 else iS4, ?_⟩
    intro k q hq
    match k, hq with
    | 0, hq => cases hq; exact hKn0
    | 1, hq => cases hq; exact hKn1
    | 2, hq => cases hq; exact hKn2
    | 3, hq => cases hq; exact hKn3
    | 4, hq => cases hq; exact hKn4
    | k + 5, hq => simp [vwCl] at hq
  have hK : va_K (dC, dI) vwCl (mmT (yI, yC, yQ)) s := by
    refine ⟨hKc, fun k q h => ?_⟩
    match k, h with
    | 0, h => cases h; exact ⟨hI1, hI2⟩
    | 1, h => cases h; exact ⟨hC1, hC2⟩
    | 2, h => cases h; exact ⟨hQ1, hQ2⟩
    | k + 3, h => simp [mmT] at h
  have hNw : mmNw s := ⟨va_AO.of hAO, va_Nw.of rfl (hts _ (List.mem_of_getElem? (i := 122) (by decide +kernel))), va_Nw.of rfl (hts _ (List.mem_of_getElem? (i := 78) (by decide +kernel))), va_Nw.of rfl (hts _ (List.mem_of_getElem? (i := 132) (by decide +kernel)))⟩
  have hP : va_P (dC, dI) vwCl [] s.heap := fun k q h => by simp at h
  have hD : va_D (fun q : Nat => s.heap.size ≤ q) [] := ⟨fun i j p q h => by simp at h, fun k q h => by simp at h⟩
  have hl := lv_entry ([.ref b]) (n := 4) (Nat.le_of_ble_eq_true rfl)
  rw [lg_entry_eq]
  refine law_start b (yI, yC, yQ) (D := (dC, dI)) (A := fun q : Nat => s.heap.size ≤ q) ⟨hx, hb, hml, hown, htb, fun z hz => (by cases hz), hA, ⟨hK, hNw⟩, ?_⟩ hP hD va_S.rf hl
  intro pc lv st ws H locs ls hpo hP' hD' hS' hl'
  obtain ⟨rfl, rfl, a0, a1, q, q', rfl, rfl⟩ := hpo
  rw [w0_all] at hP' hD'
  -- the script is the cell 58
  have hm2 : ∀ k j, mmM0.2 k = some j → j < 58 := by
    intro k j hk
    unfold mmM0 at hk
    dsimp only at hk
    split at hk
    · cases hk; decide
    · split at hk
      · cases hk; decide
      · split at hk
        · cases hk; decide
        · split at hk
          · cases hk; decide
          · cases hk
  have had : ∀ i, i < 58 → (fun i => if i = 58 then b else mmAd a0 a1 q q' i) i = mmAd a0 a1 q q' i := fun i hi => if_neg (by omega)
  rw [← mmW_ad had hm2] at hP' hD'
  have hV := ok_L_law_L18 hL (r := (1, mz)) mmFU 0 mmM0 (by decide) hfn
  unfold VV at hV
  refine hV (p := p) (l := l) (e := e) (s := s) (mi := m) (args := #[Value.ref b]) (below := below) (meth := meth) (c := c) (cells := 58) (slots := 2159) (D := (dC, dI)) (cy := (yI, yC, yQ)) (ad := fun i => if i = 58 then b else mmAd a0 a1 q q' i) (A := fun q : Nat => s.heap.size ≤ q) ⟨hx, hb, hml, hown, htb, ⟨(Nat.le_of_ble_eq_true rfl), (Nat.le_of_ble_eq_true rfl)⟩, hA, hK, mmD_all hD', ⟨hX, hbl, Nat.not_le.mpr hbl⟩, ?_⟩ mmM0_R hP' hS' (lv_sub hl' [3, 2, 1, 0] rfl)
  intro v m' H' locs' ls' pc' hpo hR' hret hP2 hS2
  obtain ⟨rfl, rfl, hr9⟩ := hpo
  rcases hret with ⟨x, hx2, hdg⟩ | ⟨hx2, _⟩
  · refine va_forget (fun q hq => hS2.2.2 q hq) ?_
    refine W.widen (k := 600000) (n := 7302250) (Nat.le_of_ble_eq_true rfl) (Nat.le_of_ble_eq_true rfl) ?_
    exact lw_ret hx hb hr hlocks hdg
  · cases hx2
