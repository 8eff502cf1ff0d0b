/-! TWO SHELVES SIDE BY SIDE -/
def shH (H : Nat → AS) : Nat → AS := fun i => shA (H i)
theorem push_sh (hn : Nat) (H : Nat → AS) (a : AS) : pushH hn (shH H) (shA a) = shH (pushH hn H a) := by
  funext i
  unfold pushH shH
  by_cases z : hn = 4
  · by_cases y : i < 3 <;> simp [z, y]
  · by_cases y : i = hn <;> simp [z, y]
def SO (m : Mem) (a : AS) (hn : Nat) (H : Nat → AS) : Prop := ∃ s, CS m a hn H 0 s
def Two (m : Mem2) (a : AS) (hn : Nat) (H : Nat → AS) (N : Int) : Prop := SO m.1 a hn H ∧ SO m.2 (shA a) hn (shH H) ∧ 0 ≤ m.2.1 45 1 ∧ wf2 a N ∧ ∀ i, i < hn → wf2 (H i) N
def ACT (f : Option (Int × Mem)) (m : Mem) (a : AS) (hn : Nat) (H : Nat → AS) (R : Int × AS) : Prop := ∃ m', f = some (R.1, m') ∧ CK m m' ∧ (R.1 < 0 → SO m' a hn H) ∧ (0 ≤ R.1 → SO m' R.2 (pushN hn) (pushH hn H a))
section TW
variable {m : Mem} {a : AS} {hn : Nat} {H : Nat → AS} {N N' : Int}
theorem act_ {op : Mem → Option (Int × Mem)} {R : Int × AS} (h : SO m a hn H) (w : wfA a N) (wR : wfA R.2 N') (hop : ∀ m1, repS m1 7 a → didS (op m1) m1 7 R) : ACT ((f_X2_copyFrom 7 1 m).bind (fun q1 => (op q1).bind (fun q3 => (f_X3_settle q3.1 q3.2).bind (fun q5 => some (q5.1, q5.2))))) m a hn H R := by
  obtain ⟨s, h⟩ := h
  obtain ⟨m', e, k, n, p⟩ := cls_act (op := op) h w.n24 wR.n24 hop
  exact ⟨m', e, k, fun q => ⟨s, n q⟩, fun q => ⟨s, p q⟩⟩
theorem a_add {x l k : Int} (h : SO m a hn H) (w : wfA a N) : ACT (f_X3_add x l k m) m a hn H (addF a x l k) := act_ (op := f_X2_addMember 7 x l k) h w (wf_addF w) (fun m1 hr => add_cls hr w)
theorem a_rep {x l k : Int} (h : SO m a hn H) (w : wfA a N) : ACT (f_X3_replace x l k m) m a hn H (repF' a x l k) := act_ (op := f_X2_replaceText 7 x l k) h w (wf_repF' w) (fun m1 hr => rep_cls hr w)
theorem a_rem {x : Int} (h : SO m a hn H) (w : wfA a N) : ACT (f_X3_remove x m) m a hn H (remF a x) := act_ (op := f_X2_removeEntry 7 x) h w (wf_remF w) (fun m1 hr => rem_cls hr w)
theorem a_ren {x y : Int} (h : SO m a hn H) (w : wfA a N) : ACT (f_X3_rename x y m) m a hn H (renF a x y) := act_ (op := f_X2_renameEntry 7 x y) h w (wf_renF w) (fun m1 hr => ren_cls hr w)
theorem a_ali {x g : Int} (h : SO m a hn H) (w : wfA a N) : ACT (f_X3_alias x g m) m a hn H (aliF a x g) := act_ (op := f_X2_giveAlias 7 x g) h w (wf_aliF w) (fun m1 hr => ali_cls hr w)
theorem a_sqz (h : SO m a hn H) (w : wfA a N) (hN : N ≤ 1000000) : ACT (f_X3_squeeze m) m a hn H (sqzF a) := act_ (op := f_X2_giveBackDeadRoom 7) h w (wf_sqzF w) (fun m1 hr => sqz_cls w hN hr)
theorem a_anw {l : Int} (h : SO m a hn H) (w : wfA a N) (hN : N ≤ 1000000) : ACT (f_X3_makeAnew l m) m a hn H (anwF a l) := act_ (op := f_X2_changeBlocks 7 l) h w (wf_anwF w) (fun m1 hr => anw_cls w hN hr)
theorem a_und {k : Nat} (h : SO m a (k + 1) H) : ∃ m1, f_X3_undo m = some ((k : Int), m1) ∧ SO m1 (H k) k H ∧ CK m m1 := by
  obtain ⟨s, c1, c2, c3, c4⟩ := h
  obtain ⟨m1, e1, g1, g2, g3⟩ := give_ok c2
  refine ⟨m1, ?_, ⟨s, g2, g1, by rw [g3 0 (by omega)]; exact c3, fun e => absurd e (by decide)⟩, fun c hc => g3 c (by omega)⟩
  unfold f_X3_undo
  rw [bd_ e1]
  rw [if_neg (by show ¬ (1 : Int) = 0; decide)]
  unfold f_X0_size
  obtain ⟨q, q1, -⟩ := g1
  show some (m1.1 19 1, m1) = _
  rw [q1]
end TW
section TM
variable {m : Mem2} {a : AS} {hn : Nat} {H : Nat → AS} {N N' : Int}
theorem qO {f : Mem → Option (Int × Mem)} {v : Int} (h : f m.1 = some (v, m.1)) : mmO f m = some (v, m) := by unfold mmO; rw [h]; rfl
theorem qP {f : Mem → Option (Int × Mem)} {v : Int} (h : f m.2 = some (v, m.2)) : mmP f m = some (v, m) := by unfold mmP; rw [h]; rfl
theorem mmO_s {f : Mem → Option (Int × Mem)} {v : Int} {m1 : Mem} (h : f m.1 = some (v, m1)) : mmO f m = some (v, (m1, m.2)) := by unfold mmO; rw [h]; rfl
theorem mmP_s {f : Mem → Option (Int × Mem)} {v : Int} {m1 : Mem} (h : f m.2 = some (v, m1)) : mmP f m = some (v, (m.1, m1)) := by unfold mmP; rw [h]; rfl
theorem Two.wp (T : Two m a hn H N) : wfA (shA a) N := wf_sh T.2.2.2.1.1 T.2.2.2.1.2.1
theorem o_ent (T : Two m a hn H N) (x y : Int) : mmO (f_X3_entry x y) m = some (entV a x y, m) := by obtain ⟨s, h⟩ := T.1; exact qO (x_ent h T.2.2.2.1.1)
theorem o_nam (T : Two m a hn H N) (x : Int) : mmO (f_X3_named x) m = some (namV a x, m) := by obtain ⟨s, h⟩ := T.1; exact qO (x_nam h T.2.2.2.1.1)
theorem o_at (T : Two m a hn H N) (x : Int) : mmO (f_X3_at x) m = some (unV a x, m) := by obtain ⟨s, h⟩ := T.1; exact qO (x_at h T.2.2.2.1.1)
theorem o_fit (T : Two m a hn H N) (x : Int) : mmO (f_X3_fits x) m = some (fitV a x, m) := by obtain ⟨s, h⟩ := T.1; exact qO (x_fit h T.2.2.2.1.1)
theorem o_beg (T : Two m a hn H N) (x : Int) : mmO (f_X3_beginning x 1) m = some (begV a x 1, m) := by obtain ⟨s, h⟩ := T.1; exact qO (x_beg (by decide) h T.2.2.2.1.1)
theorem o_cnt (T : Two m a hn H N) (x : Int) (h13 : ¬ x = 13) (h14 : ¬ x = 14) : mmO (f_X3_count x) m = some (cntV a x, m) := by obtain ⟨s, h⟩ := T.1; exact qO (x_cnt h T.2.2.2.1.1 h13 h14)
theorem o_c13 (T : Two m a hn H N) : mmO (f_X3_count 13) m = some ((hn : Int), m) := by obtain ⟨s, h⟩ := T.1; exact qO (x_c13 h)
theorem p_ent (T : Two m a hn H N) (x y : Int) : mmP (f_X3_entry x y) m = some (entV (shA a) x y, m) := by obtain ⟨s, h⟩ := T.2.1; exact qP (x_ent h T.wp)
theorem p_nam (T : Two m a hn H N) (x : Int) : mmP (f_X3_named x) m = some (namV (shA a) x, m) := by obtain ⟨s, h⟩ := T.2.1; exact qP (x_nam h T.wp)
theorem p_at (T : Two m a hn H N) (x : Int) : mmP (f_X3_at x) m = some (unV (shA a) x, m) := by obtain ⟨s, h⟩ := T.2.1; exact qP (x_at h T.wp)
theorem p_beg (T : Two m a hn H N) (x : Int) : mmP (f_X3_beginning x 1) m = some (begV (shA a) x 1, m) := by obtain ⟨s, h⟩ := T.2.1; exact qP (x_beg (by decide) h T.wp)
theorem p_cnt (T : Two m a hn H N) (x : Int) (h13 : ¬ x = 13) (h14 : ¬ x = 14) : mmP (f_X3_count x) m = some (cntV (shA a) x, m) := by obtain ⟨s, h⟩ := T.2.1; exact qP (x_cnt h T.wp h13 h14)
theorem p_c13 (T : Two m a hn H N) : mmP (f_X3_count 13) m = some ((hn : Int), m) := by obtain ⟨s, h⟩ := T.2.1; exact qP (x_c13 h)
theorem w2_push (w : wf2 a N) (h : ∀ i, i < hn → wf2 (H i) N) : ∀ i, i < pushN hn → wf2 (pushH hn H a i) N := by
  intro i hi
  unfold pushN at hi
  unfold pushH
  split at hi
  · rename_i e
    rw [if_pos e]
    split
    · exact h _ (by omega)
    · exact w
  · rename_i e
    rw [if_neg e]
    split
    · exact w
    · exact h _ (by omega)
theorem Two.mono (T : Two m a hn H N) (h : N ≤ N') : Two m a hn H N' := ⟨T.1, T.2.1, T.2.2.1, T.2.2.2.1.mono h, fun i hi => (T.2.2.2.2 i hi).mono h⟩
/-- the same act on both -/
theorem two_act {F G : Mem → Option (Int × Mem)} {R : Int × AS} (T : Two m a hn H N) (hF : ACT (F m.1) m.1 a hn H R) (hG : ACT (G m.2) m.2 (shA a) hn (shH H) (shR R)) (wR : wf2 R.2 N') (hN : N ≤ N') : ∃ m1 m2, mmO F m = some (R.1, (m1, m.2)) ∧ mmP G (m1, m.2) = some (R.1, (m1, m2)) ∧ (R.1 < 0 → Two (m1, m2) a hn H N') ∧ (0 ≤ R.1 → Two (m1, m2) R.2 (pushN hn) (pushH hn H a) N') := by
  obtain ⟨t1, t2, t3, t4, t5⟩ := T
  obtain ⟨m1, e1, k1, n1, p1⟩ := hF
  obtain ⟨m2, e2, k2, n2, p2⟩ := hG
  have h3 : 0 ≤ m2.1 45 1 := by rw [k2 45 (by decide)]; exact t3
  refine ⟨m1, m2, mmO_s e1, mmP_s (m := (m1, m.2)) e2, fun q => ⟨n1 q, n2 q, h3, t4.mono hN, fun i hi => (t5 i hi).mono hN⟩, fun q => ⟨p1 q, ?_, h3, wR, w2_push (t4.mono hN) (fun i hi => (t5 i hi).mono hN)⟩⟩
  have := p2 q
  rw [push_sh] at this
  exact this
theorem and7_rg (x : Int) : 0 ≤ and7 x := by
  unfold and7
  obtain ⟨j, hj, e⟩ := pk_andE (Int32.ofInt x) (m := Int32.ofInt 2147483647) 31 (by decide)
  rw [e, show nI j = Int32.ofInt (j : Int) from nI_oi (n := (j : Int)) (by omega), Int32.toInt_ofInt_of_le (by omega) (by omega)]
  omega
theorem up_ok (v n : Int) (hn : 0 < n) : f_L_up v n m = some (and7 v % n, m) := by
  unfold f_L_up
  rw [mmK_p ⟨and7_rg v, hn⟩]
theorem up_rg (v n : Int) (hn : 0 < n) : 0 ≤ and7 v % n ∧ and7 v % n < n := ⟨Int.emod_nonneg _ (by omega), Int.emod_lt_of_pos _ hn⟩
theorem there_ok (x : Int) (h : x ≤ 2147480000) : f_L_there x m = some (thr x, m) := by
  unfold f_L_there thr
  by_cases h0 : x < 0
  · rw [if_pos h0, if_pos h0]
  · rw [if_neg h0, if_neg h0]
    by_cases h1 : x = 1000
    · rw [if_pos h1, if_pos h1]
    · rw [if_neg h1, if_neg h1, mmK_p (by constructor <;> omega)]
theorem th_n (x : Int) (h : 0 ≤ x ∧ x < 338) : f_L_there x m = some (x + 338, m) := by rw [there_ok x (by omega), thr_n h]
end TM
