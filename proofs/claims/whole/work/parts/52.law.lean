section LF
variable {m : Mem} {N : Int}
theorem Inv.mono {N' : Int} (h : Inv m N) (hN : N ≤ N') : Inv m N' := by
  obtain ⟨a, hn, H, sb, s, h1, h2, h3, h4⟩ := h
  exact ⟨a, hn, H, sb, s, h1, h2, h3.mono hN, h4⟩
theorem up1 {f : Option (Int × Mem)} {g : Mem → Option (Int × Mem)} (h : ∃ v m1 m2, f = some (v, m1) ∧ g m1 = some (v, m2) ∧ Inv m2 N) : ∃ v m1 m2, f = some (v, m1) ∧ g m1 = some (v, m2) ∧ Inv m2 (N + 1) := by
  obtain ⟨v, m1, m2, e1, e2, I⟩ := h
  exact ⟨v, m1, m2, e1, e2, I.mono (by omega)⟩
theorem qry {f : Option (Int × Mem)} {g : Mem → Option (Int × Mem)} (h : Inv m N) (hq : ∀ a, repS m 1 a → repF (m.1 52) 0 a → wfA a N → both2 f (g m) m) : ∃ v m1 m2, f.bind (fun q => some (q.1, q.2)) = some (v, m1) ∧ g m1 = some (v, m2) ∧ Inv m2 N := by
  obtain ⟨a, hn, H, sb, s, h1, h2, h3, h4⟩ := id h
  obtain ⟨v, e1, e2⟩ := hq a h1.1 h2.1 h3.1
  exact ⟨v, m, m, by rw [bd_ e1], e2, h⟩
theorem cnt_both {x : Int} (hN : N ≤ 1000000) (h : Inv m N) : ∃ v m1 m2, f_X3_count x m = some (v, m1) ∧ f_X4_count x m1 = some (v, m2) ∧ Inv m2 N := by
  unfold f_X3_count
  by_cases z13 : x = 13
  · obtain ⟨a, hn, H, sb, s, h1, h2, h3, h4⟩ := id h
    obtain ⟨q, q1, -⟩ := h1.2.1
    rw [if_pos z13]
    refine ⟨(hn : Int), m, m, ?_, ?_, h⟩
    · unfold f_X0_size
      rw [q1]
      rfl
    · unfold f_X4_count
      rw [if_neg (by omega), if_neg (by omega), if_neg (by omega), if_neg (by omega), if_neg (by omega), if_neg (by omega), if_neg (by omega), if_neg (by omega), if_neg (by omega), if_neg (by omega), if_neg (by omega), if_neg (by omega), if_neg (by omega), if_pos z13, h2.2.1]
  · rw [if_neg z13]
    by_cases z14 : x = 14
    · obtain ⟨a, hn, H, sb, s, h1, h2, h3, pl, p1, p2, p3, p4⟩ := id h
      rw [if_pos z14]
      refine ⟨(pl : Int), m, m, ?_, ?_, h⟩
      · unfold f_X1_length
        rw [p2]
        rfl
      · unfold f_X4_count
        rw [if_neg (by omega), if_neg (by omega), if_neg (by omega), if_neg (by omega), if_neg (by omega), if_neg (by omega), if_neg (by omega), if_neg (by omega), if_neg (by omega), if_neg (by omega), if_neg (by omega), if_neg (by omega), if_neg (by omega), if_neg (by omega), if_pos z14, p3]
    · rw [if_neg z14]
      exact qry (g := f_X4_count x) h (fun a hr hf w => cnt_q hr hf w hN z13 z14)
theorem inv0 : Inv mmM0 0 := by
  have w0 : wfA ((0, fun _ _ => 0, fun k => if k = 0 then 2 else 0) : AS) 0 :=
    ⟨⟨by decide, by decide, by decide, by decide, by decide, by decide, by decide, by decide, by decide⟩, fun i j _ hj => absurd hj (Nat.not_lt_zero j), fun i hi => absurd hi (Nat.not_lt_zero i), fun i j hi => absurd hi (Nat.not_lt_zero i), fun i j hi => absurd hi (Nat.not_lt_zero i)⟩
  refine ⟨(0, fun _ _ => 0, fun k => if k = 0 then 2 else 0), 0, fun _ => (0, fun _ _ => 0, fun _ => 0), 0, (0, fun _ _ => 0, fun _ => 0), ⟨⟨rfl, rfl, rfl, rfl, rfl, fun r hr => absurd hr (Nat.not_lt_zero r)⟩, ⟨fun i => if i = 0 then 21 else if i = 1 then 27 else if i = 2 then 33 else 39, rfl, by omega, ?_, ?_, fun i hi => absurd hi (Nat.not_lt_zero i)⟩, rfl, fun e => absurd e (by decide)⟩, ⟨⟨rfl, rfl, rfl, rfl, rfl, fun r hr => absurd hr (Nat.not_lt_zero r)⟩, rfl, fun i hi => absurd hi (Nat.not_lt_zero i), rfl, fun e => absurd e (by decide)⟩, ⟨w0, fun i hi => absurd hi (Nat.not_lt_zero i), fun e => absurd e (by decide), Or.inl rfl, by omega⟩, ⟨0, by omega, rfl, rfl, fun i hi => absurd hi (Nat.not_lt_zero i)⟩⟩
  · intro i hi
    rcases (show i = 0 ∨ i = 1 ∨ i = 2 ∨ i = 3 by omega) with rfl | rfl | rfl | rfl
    · exact ⟨rfl, Or.inl rfl⟩
    · exact ⟨rfl, Or.inr (Or.inl rfl)⟩
    · exact ⟨rfl, Or.inr (Or.inr (Or.inl rfl))⟩
    · exact ⟨rfl, Or.inr (Or.inr (Or.inr rfl))⟩
  · intro i j hi hj e
    rcases (show i = 0 ∨ i = 1 ∨ i = 2 ∨ i = 3 by omega) with rfl | rfl | rfl | rfl <;> rcases (show j = 0 ∨ j = 1 ∨ j = 2 ∨ j = 3 by omega) with rfl | rfl | rfl | rfl <;> first | rfl | (simp at e)
set_option maxHeartbeats 4000000 in
theorem law_ok {L : Nat} {xs : Nat → Int32} (hL : L ≤ 2048) : ∀ (d fu i : Nat) (m : Mem) (N : Int), L < i + 4 * d + 4 → i ≤ L + 4 → d < fu → N + d ≤ 1000 → Inv m N → ∃ m', f_L_law_L18 L xs fu i m = some (1, m') := by
  intro d
  induction d with
  | zero =>
    intro fu i m N h1 h2 h3 h4 h
    obtain ⟨k, rfl⟩ : ∃ k, fu = k + 1 := ⟨fu - 1, by omega⟩
    rw [f_L_law_L18, mmK_p (by constructor <;> omega), if_pos (by omega)]
    exact ⟨m, rfl⟩
  | succ d ih =>
    intro fu i m N h1 h2 h3 h4 h
    obtain ⟨k, rfl⟩ : ∃ k, fu = k + 1 := ⟨fu - 1, by omega⟩
    by_cases hx : (L : Int) - 4 < i
    · rw [f_L_law_L18, mmK_p (by constructor <;> omega), if_pos hx]
      exact ⟨m, rfl⟩
    have hN : N ≤ 1000000 := by omega
    have fin : ∀ (v : Int) (m2 : Mem), Inv m2 (N + 1) → ∃ m', (if v = v then (mmK (inR ((i : Int) + 4)) (f_L_law_L18 L xs k ((i : Int) + 4) m2)) else (some (0, m2))) = some (1, m') := by
      intro v m2 I
      obtain ⟨m', e⟩ := ih k (i + 4) m2 (N + 1) (by omega) (by omega) (by omega) (by omega) I
      refine ⟨m', ?_⟩
      rw [if_pos rfl, mmK_p (by constructor <;> omega), show (i : Int) + 4 = ((i + 4 : Nat) : Int) from rfl]
      exact e
    have a1 : inR ((i : Int) + 1) := by constructor <;> omega
    have b1 : 0 ≤ (i : Int) + 1 ∧ (i : Int) + 1 < (L : Int) := by omega
    have a2 : inR ((i : Int) + 2) := by constructor <;> omega
    have b2 : 0 ≤ (i : Int) + 2 ∧ (i : Int) + 2 < (L : Int) := by omega
    have a3 : inR ((i : Int) + 3) := by constructor <;> omega
    have b3 : 0 ≤ (i : Int) + 3 ∧ (i : Int) + 3 < (L : Int) := by omega
    rw [f_L_law_L18, mmK_p (by constructor <;> omega), if_neg hx, mmK_p (by omega)]
    generalize (xs ((i : Int)).toNat).toInt % 32 = op
    generalize hx1 : (xs ((i : Int) + 1).toNat).toInt = x1
    generalize hx2 : (xs ((i : Int) + 2).toNat).toInt = x2
    generalize hx3 : (xs ((i : Int) + 3).toNat).toInt = x3
    have hr2 : x2 ≤ 2147483647 := by
      have := (xs ((i : Int) + 2).toNat).toInt_lt
      omega
    by_cases c0 : op = 0
    · have hb : ∃ v m1 m2, f_X3_add x1 x2 x3 m = some (v, m1) ∧ f_X4_add x1 x2 x3 m1 = some (v, m2) ∧ Inv m2 (N + 1) := up1 (add_both (x := x1) (l := x2) (k := x3) h)
      obtain ⟨v, m1, m2, e1, e2, I⟩ := hb
      rw [if_pos c0]
      rw [mmK_p a1, mmK_p b1, mmK_p a2, mmK_p b2, mmK_p a3, mmK_p b3, bd_ e1]
      dsimp only
      rw [mmK_p a1, mmK_p b1, mmK_p a2, mmK_p b2, mmK_p a3, mmK_p b3, bd_ e2]
      exact fin v m2 I
    rw [if_neg c0]
    by_cases c1 : op = 1
    · have hb : ∃ v m1 m2, f_X3_replace x1 x2 x3 m = some (v, m1) ∧ f_X4_replace x1 x2 x3 m1 = some (v, m2) ∧ Inv m2 (N + 1) := up1 (rep_both (x := x1) (l := x2) (k := x3) h)
      obtain ⟨v, m1, m2, e1, e2, I⟩ := hb
      rw [if_pos c1]
      rw [mmK_p a1, mmK_p b1, mmK_p a2, mmK_p b2, mmK_p a3, mmK_p b3, bd_ e1]
      dsimp only
      rw [mmK_p a1, mmK_p b1, mmK_p a2, mmK_p b2, mmK_p a3, mmK_p b3, bd_ e2]
      exact fin v m2 I
    rw [if_neg c1]
    by_cases c2 : op = 2
    · have hb : ∃ v m1 m2, f_X3_remove x1 m = some (v, m1) ∧ f_X4_remove x1 m1 = some (v, m2) ∧ Inv m2 (N + 1) := up1 (rem_both (x := x1) h)
      obtain ⟨v, m1, m2, e1, e2, I⟩ := hb
      rw [if_pos c2]
      rw [mmK_p a1, mmK_p b1, bd_ e1]
      dsimp only
      rw [mmK_p a1, mmK_p b1, bd_ e2]
      exact fin v m2 I
    rw [if_neg c2]
    by_cases c3 : op = 3
    · have hb : ∃ v m1 m2, f_X3_rename x1 x2 m = some (v, m1) ∧ f_X4_rename x1 x2 m1 = some (v, m2) ∧ Inv m2 (N + 1) := up1 (ren_both (x := x1) (y := x2) h)
      obtain ⟨v, m1, m2, e1, e2, I⟩ := hb
      rw [if_pos c3]
      rw [mmK_p a1, mmK_p b1, mmK_p a2, mmK_p b2, bd_ e1]
      dsimp only
      rw [mmK_p a1, mmK_p b1, mmK_p a2, mmK_p b2, bd_ e2]
      exact fin v m2 I
    rw [if_neg c3]
    by_cases c4 : op = 4
    · have hb : ∃ v m1 m2, f_X3_alias x1 x2 m = some (v, m1) ∧ f_X4_alias x1 x2 m1 = some (v, m2) ∧ Inv m2 (N + 1) := up1 (ali_both (x := x1) (g := x2) h)
      obtain ⟨v, m1, m2, e1, e2, I⟩ := hb
      rw [if_pos c4]
      rw [mmK_p a1, mmK_p b1, mmK_p a2, mmK_p b2, bd_ e1]
      dsimp only
      rw [mmK_p a1, mmK_p b1, mmK_p a2, mmK_p b2, bd_ e2]
      exact fin v m2 I
    rw [if_neg c4]
    by_cases c5 : op = 5
    · have hb : ∃ v m1 m2, f_X3_addAll m = some (v, m1) ∧ f_X4_addAll m1 = some (v, m2) ∧ Inv m2 (N + 1) := up1 (all_both h)
      obtain ⟨v, m1, m2, e1, e2, I⟩ := hb
      rw [if_pos c5]
      rw [bd_ e1]
      dsimp only
      rw [bd_ e2]
      exact fin v m2 I
    rw [if_neg c5]
    by_cases c6 : op = 6
    · have hb : ∃ v m1 m2, f_X3_squeeze m = some (v, m1) ∧ f_X4_squeeze m1 = some (v, m2) ∧ Inv m2 (N + 1) := sqz_both hN h
      obtain ⟨v, m1, m2, e1, e2, I⟩ := hb
      rw [if_pos c6]
      rw [bd_ e1]
      dsimp only
      rw [bd_ e2]
      exact fin v m2 I
    rw [if_neg c6]
    by_cases c7 : op = 7
    · have hb : ∃ v m1 m2, f_X3_makeAnew x1 m = some (v, m1) ∧ f_X4_makeAnew x1 m1 = some (v, m2) ∧ Inv m2 (N + 1) := anw_both (l := x1) hN h
      obtain ⟨v, m1, m2, e1, e2, I⟩ := hb
      rw [if_pos c7]
      rw [mmK_p a1, mmK_p b1, bd_ e1]
      dsimp only
      rw [mmK_p a1, mmK_p b1, bd_ e2]
      exact fin v m2 I
    rw [if_neg c7]
    by_cases c8 : op = 8
    · have hb : ∃ v m1 m2, f_X3_type (x1 % 65536) m = some (v, m1) ∧ f_X4_type (x1 % 65536) m1 = some (v, m2) ∧ Inv m2 (N + 1) := up1 (typ_both (x := x1 % 65536) (by omega) h)
      obtain ⟨v, m1, m2, e1, e2, I⟩ := hb
      rw [if_pos c8]
      rw [mmK_p a1, mmK_p b1, bd_ e1]
      dsimp only
      rw [mmK_p a1, mmK_p b1, bd_ e2]
      exact fin v m2 I
    rw [if_neg c8]
    by_cases c9 : op = 9
    · have hb : ∃ v m1 m2, f_X3_clearPad m = some (v, m1) ∧ f_X4_clearPad m1 = some (v, m2) ∧ Inv m2 (N + 1) := up1 (clr_both h)
      obtain ⟨v, m1, m2, e1, e2, I⟩ := hb
      rw [if_pos c9]
      rw [bd_ e1]
      dsimp only
      rw [bd_ e2]
      exact fin v m2 I
    rw [if_neg c9]
    by_cases c10 : op = 10
    · have hb : ∃ v m1 m2, f_X3_undo m = some (v, m1) ∧ f_X4_undo m1 = some (v, m2) ∧ Inv m2 (N + 1) := up1 (und_both h)
      obtain ⟨v, m1, m2, e1, e2, I⟩ := hb
      rw [if_pos c10]
      rw [bd_ e1]
      dsimp only
      rw [bd_ e2]
      exact fin v m2 I
    rw [if_neg c10]
    by_cases c11 : op = 11
    · have hb : ∃ v m1 m2, f_X3_keep m = some (v, m1) ∧ f_X4_keep m1 = some (v, m2) ∧ Inv m2 (N + 1) := up1 (keep_both h)
      obtain ⟨v, m1, m2, e1, e2, I⟩ := hb
      rw [if_pos c11]
      rw [bd_ e1]
      dsimp only
      rw [bd_ e2]
      exact fin v m2 I
    rw [if_neg c11]
    by_cases c12 : op = 12
    · have hb : ∃ v m1 m2, f_X3_restore m = some (v, m1) ∧ f_X4_restore m1 = some (v, m2) ∧ Inv m2 (N + 1) := up1 (rst_both h)
      obtain ⟨v, m1, m2, e1, e2, I⟩ := hb
      rw [if_pos c12]
      rw [bd_ e1]
      dsimp only
      rw [bd_ e2]
      exact fin v m2 I
    rw [if_neg c12]
    by_cases c13 : op = 13
    · have hb : ∃ v m1 m2, f_X3_entry x1 x2 m = some (v, m1) ∧ f_X4_entry x1 x2 m1 = some (v, m2) ∧ Inv m2 (N + 1) := up1 (qry (g := f_X4_entry x1 x2) h (fun a hr hf w => ent_q hr hf w))
      obtain ⟨v, m1, m2, e1, e2, I⟩ := hb
      rw [if_pos c13]
      rw [mmK_p a1, mmK_p b1, mmK_p a2, mmK_p b2, bd_ e1]
      dsimp only
      rw [mmK_p a1, mmK_p b1, mmK_p a2, mmK_p b2, bd_ e2]
      exact fin v m2 I
    rw [if_neg c13]
    by_cases c14 : op = 14
    · have hb : ∃ v m1 m2, f_X3_named x1 m = some (v, m1) ∧ f_X4_named x1 m1 = some (v, m2) ∧ Inv m2 (N + 1) := up1 (qry (g := f_X4_named x1) h (fun a hr hf w => nam_q hr hf w))
      obtain ⟨v, m1, m2, e1, e2, I⟩ := hb
      rw [if_pos c14]
      rw [mmK_p a1, mmK_p b1, bd_ e1]
      dsimp only
      rw [mmK_p a1, mmK_p b1, bd_ e2]
      exact fin v m2 I
    rw [if_neg c14]
    by_cases c15 : op = 15
    · have hb : ∃ v m1 m2, f_X3_block x1 x2 m = some (v, m1) ∧ f_X4_block x1 x2 m1 = some (v, m2) ∧ Inv m2 (N + 1) := up1 (qry (g := f_X4_block x1 x2) h (fun a hr hf w => blk_q hr hf w))
      obtain ⟨v, m1, m2, e1, e2, I⟩ := hb
      rw [if_pos c15]
      rw [mmK_p a1, mmK_p b1, mmK_p a2, mmK_p b2, bd_ e1]
      dsimp only
      rw [mmK_p a1, mmK_p b1, mmK_p a2, mmK_p b2, bd_ e2]
      exact fin v m2 I
    rw [if_neg c15]
    by_cases c16 : op = 16
    · have hb : ∃ v m1 m2, f_X3_at x1 m = some (v, m1) ∧ f_X4_at x1 m1 = some (v, m2) ∧ Inv m2 (N + 1) := up1 (qry (g := f_X4_at x1) h (fun a hr hf w => at_q hr hf w))
      obtain ⟨v, m1, m2, e1, e2, I⟩ := hb
      rw [if_pos c16]
      rw [mmK_p a1, mmK_p b1, bd_ e1]
      dsimp only
      rw [mmK_p a1, mmK_p b1, bd_ e2]
      exact fin v m2 I
    rw [if_neg c16]
    by_cases c17 : op = 17
    · have hb : ∃ v m1 m2, f_X3_fits x1 m = some (v, m1) ∧ f_X4_fits x1 m1 = some (v, m2) ∧ Inv m2 (N + 1) := up1 (qry (g := f_X4_fits x1) h (fun a hr hf w => fit_q hr hf w))
      obtain ⟨v, m1, m2, e1, e2, I⟩ := hb
      rw [if_pos c17]
      rw [mmK_p a1, mmK_p b1, bd_ e1]
      dsimp only
      rw [mmK_p a1, mmK_p b1, bd_ e2]
      exact fin v m2 I
    rw [if_neg c17]
    by_cases c18 : op = 18
    · have hb : ∃ v m1 m2, f_X3_beginning x1 x2 m = some (v, m1) ∧ f_X4_beginning x1 x2 m1 = some (v, m2) ∧ Inv m2 (N + 1) := up1 (qry (g := f_X4_beginning x1 x2) h (fun a hr hf w => beg_q hr2 hr hf w))
      obtain ⟨v, m1, m2, e1, e2, I⟩ := hb
      rw [if_pos c18]
      rw [mmK_p a1, mmK_p b1, mmK_p a2, mmK_p b2, bd_ e1]
      dsimp only
      rw [mmK_p a1, mmK_p b1, mmK_p a2, mmK_p b2, bd_ e2]
      exact fin v m2 I
    rw [if_neg c18]
    by_cases c19 : op = 19
    · have hb : ∃ v m1 m2, f_X3_count x1 m = some (v, m1) ∧ f_X4_count x1 m1 = some (v, m2) ∧ Inv m2 (N + 1) := up1 (cnt_both (x := x1) hN h)
      obtain ⟨v, m1, m2, e1, e2, I⟩ := hb
      rw [if_pos c19]
      rw [mmK_p a1, mmK_p b1, bd_ e1]
      dsimp only
      rw [mmK_p a1, mmK_p b1, bd_ e2]
      exact fin v m2 I
    rw [if_neg c19]
    have e := fin 0 m (h.mono (by omega))
    rw [if_pos rfl] at e
    exact e
theorem law_fin {L : Nat} {xs : Nat → Int32} (hL : L ≤ 2048) : ∃ m', f_L_law_L18 L xs mmFU 0 mmM0 = some (1, m') := law_ok hL 512 mmFU 0 mmM0 0 (by omega) (by omega) (by unfold mmFU; omega) (by omega) inv0
end LF
