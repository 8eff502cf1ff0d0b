abbrev rm_X3_clearPad : Room := { frames := 1, cells := 0, slots := 0, locals := 21 }
noncomputable def f_X3_clearPad (m : Mem) : Option (Int × Mem) :=
  (f_X1_empty m).bind (fun q1 => some (q1.1, q1.2))
set_option maxRecDepth 100000 in
set_option maxHeartbeats 4000000 in
theorem ok_X3_clearPad {r : Int × Mem} : ∀ (m : Mem), f_X3_clearPad m = some r → VV RX3 cX3_clearPad 1 rm_X3_clearPad mmG0 (mmPi r) 0 [(0, .ref 0)] [] m := by
  intro m E
  unfold f_X3_clearPad at E
  refine V_aload_n 0 dX3_clearPad_0 rfl ?_
  refine V_geta (ci := 3) (k := 5) (N := 6) (T := TX3) (o' := 45) dX3_clearPad_1 iuX3 fl_X3_36 rfl (by decide) rfl sh_0 rfl ?_
  obtain ⟨q1, hq1, E⟩ := mmB_e E
  refine V_callV (ci := 1) (q := (RX1, TX1, 8)) (Cn := RX1) (st := []) 0 dX3_clearPad_4 (ct_X1_empty hq1) ml_X3_83 im_X1_empty sl_X1_empty it_X1 cd_X1_empty hy_X1_empty ⟨rfl, rfl, by decide, by decide⟩ sh_45 rfl rfl rfl rfl (Nat.le_of_ble_eq_true rfl) (fun hv2 => ?_)
  obtain rfl := Option.some.inj E
  exact V_reti dX3_clearPad_7 ⟨rfl, rfl, hv2⟩
theorem ct_X3_clearPad {m : Mem} {r : Int × Mem} (E : f_X3_clearPad m = some r) : CTi yX3_clearPad cX3_clearPad 1 (some .int) rm_X3_clearPad [.ref 0] m r := CT_i (by decide +kernel) rfl (Nat.le_of_ble_eq_true rfl) (ok_X3_clearPad  _  E)
theorem hy_X3_clearPad : yX3_clearPad.cls = RX3 ∧ yX3_clearPad.cls ≠ "java/lang/invoke/MethodHandle" ∧ yX3_clearPad.cls ≠ "java/lang/invoke/VarHandle" ∧ (parseMethodDescriptor yX3_clearPad.desc).map (fun d => d.parameters.length) = some 0 := by decide +kernel
abbrev rm_X3_undo : Room := { frames := 3, cells := 0, slots := 0, locals := 69 }
noncomputable def f_X3_undo (m : Mem) : Option (Int × Mem) :=
  (f_X0_giveLatestTo 1 m).bind (fun q1 => if q1.1 = 0 then
(some ((-5), q1.2))
else
((f_X0_size q1.2).bind (fun q4 => some (q4.1, q4.2))))
set_option maxRecDepth 100000 in
set_option maxHeartbeats 4000000 in
theorem ok_X3_undo {r : Int × Mem} : ∀ (m : Mem), f_X3_undo m = some r → VV RX3 cX3_undo 1 rm_X3_undo mmG0 (mmPi r) 0 [(0, .ref 0)] [] m := by
  intro m E
  unfold f_X3_undo at E
  refine V_aload_n 0 dX3_undo_0 rfl ?_
  refine V_geta (ci := 3) (k := 4) (N := 6) (T := TX3) (o' := 19) dX3_undo_1 iuX3 fl_X3_29 rfl (by decide) rfl sh_0 rfl ?_
  refine V_aload_n 0 dX3_undo_4 rfl ?_
  refine V_geta (ci := 3) (k := 0) (N := 6) (T := TX3) (o' := 1) dX3_undo_5 iuX3 fl_X3_12 rfl (by decide) rfl sh_0 rfl ?_
  obtain ⟨q1, hq1, E⟩ := mmB_e E
  refine V_callV (ci := 0) (q := (RX0, TX0, 2)) (Cn := RX0) (st := []) 1 dX3_undo_8 (ct_X0_giveLatestTo sh_1 hq1) ml_X3_86 im_X0_giveLatestTo sl_X0_giveLatestTo it_X0 cd_X0_giveLatestTo hy_X0_giveLatestTo ⟨rfl, rfl, by decide, by decide⟩ sh_19 rfl rfl rfl rfl (Nat.le_of_ble_eq_true rfl) (fun hv2 => ?_)
  refine V_if_ne 17 dX3_undo_11 (by decide) hv2 (fun c3 => ?_) (fun c3 => ?_)
  · replace E := mmI_f c3 E
    refine V_aload_n 0 dX3_undo_17 rfl ?_
    refine V_geta (ci := 3) (k := 4) (N := 6) (T := TX3) (o' := 19) dX3_undo_18 iuX3 fl_X3_29 rfl (by decide) rfl sh_0 rfl ?_
    obtain ⟨q4, hq4, E⟩ := mmB_e E
    refine V_callV (ci := 0) (q := (RX0, TX0, 2)) (Cn := RX0) (st := []) 0 dX3_undo_21 (ct_X0_size hq4) ml_X3_90 im_X0_size sl_X0_size it_X0 cd_X0_size hy_X0_size ⟨rfl, rfl, by decide, by decide⟩ sh_19 rfl rfl rfl rfl (Nat.le_of_ble_eq_true rfl) (fun hv5 => ?_)
    obtain rfl := Option.some.inj E
    exact V_reti dX3_undo_24 ⟨rfl, rfl, hv5⟩
  · replace E := mmI_t c3 E
    refine V_bipush (v := (-5)) dX3_undo_14 (by decide) ?_
    obtain rfl := Option.some.inj E
    exact V_reti dX3_undo_16 ⟨rfl, rfl, ir_m5⟩
theorem ct_X3_undo {m : Mem} {r : Int × Mem} (E : f_X3_undo m = some r) : CTi yX3_undo cX3_undo 1 (some .int) rm_X3_undo [.ref 0] m r := CT_i (by decide +kernel) rfl (Nat.le_of_ble_eq_true rfl) (ok_X3_undo  _  E)
theorem hy_X3_undo : yX3_undo.cls = RX3 ∧ yX3_undo.cls ≠ "java/lang/invoke/MethodHandle" ∧ yX3_undo.cls ≠ "java/lang/invoke/VarHandle" ∧ (parseMethodDescriptor yX3_undo.desc).map (fun d => d.parameters.length) = some 0 := by decide +kernel
abbrev rm_X3_entry : Room := { frames := 4, cells := 0, slots := 0, locals := 88 }
noncomputable def f_X3_entry (l1 : Int) (l2 : Int) (m : Mem) : Option (Int × Mem) :=
  (f_X2_tellEntry 1 l1 l2 m).bind (fun q1 => some (q1.1, q1.2))
set_option maxRecDepth 100000 in
set_option maxHeartbeats 4000000 in
theorem ok_X3_entry {r : Int × Mem} : ∀ (l1 : Int) (l2 : Int) (m : Mem), inR l1 → inR l2 → f_X3_entry l1 l2 m = some r → VV RX3 cX3_entry 3 rm_X3_entry mmG0 (mmPi r) 0 [(0, .ref 0), (1, vi l1), (2, vi l2)] [] m := by
  intro l1 l2 m hr1 hr2 E
  unfold f_X3_entry at E
  refine V_aload_n 0 dX3_entry_0 rfl ?_
  refine V_geta (ci := 3) (k := 0) (N := 6) (T := TX3) (o' := 1) dX3_entry_1 iuX3 fl_X3_12 rfl (by decide) rfl sh_0 rfl ?_
  refine V_iload_n 1 dX3_entry_4 rfl ?_
  refine V_iload_n 2 dX3_entry_5 rfl ?_
  obtain ⟨q1, hq1, E⟩ := mmB_e E
  refine V_callV (ci := 2) (q := (RX2, TX2, 10)) (Cn := RX2) (st := []) 2 dX3_entry_6 (ct_X2_tellEntry sh_1 hr1 hr2 hq1) ml_X3_94 im_X2_tellEntry sl_X2_tellEntry it_X2 cd_X2_tellEntry hy_X2_tellEntry ⟨rfl, rfl, by decide, by decide⟩ sh_1 rfl rfl rfl rfl (Nat.le_of_ble_eq_true rfl) (fun hv2 => ?_)
  obtain rfl := Option.some.inj E
  exact V_reti dX3_entry_9 ⟨rfl, rfl, hv2⟩
theorem ct_X3_entry {l1 : Int} {l2 : Int} {m : Mem} {r : Int × Mem} (hr1 : inR l1) (hr2 : inR l2) (E : f_X3_entry l1 l2 m = some r) : CTi yX3_entry cX3_entry 3 (some .int) rm_X3_entry [.ref 0, vi l1, vi l2] m r := CT_i (by decide +kernel) rfl (Nat.le_of_ble_eq_true rfl) (ok_X3_entry _ _ _ hr1 hr2 E)
theorem hy_X3_entry : yX3_entry.cls = RX3 ∧ yX3_entry.cls ≠ "java/lang/invoke/MethodHandle" ∧ yX3_entry.cls ≠ "java/lang/invoke/VarHandle" ∧ (parseMethodDescriptor yX3_entry.desc).map (fun d => d.parameters.length) = some 2 := by decide +kernel
abbrev rm_X3_named : Room := { frames := 2, cells := 0, slots := 0, locals := 42 }
noncomputable def f_X3_named (l1 : Int) (m : Mem) : Option (Int × Mem) :=
  (f_X2_tellName 1 l1 m).bind (fun q1 => some (q1.1, q1.2))
set_option maxRecDepth 100000 in
set_option maxHeartbeats 4000000 in
theorem ok_X3_named {r : Int × Mem} : ∀ (l1 : Int) (m : Mem), inR l1 → f_X3_named l1 m = some r → VV RX3 cX3_named 2 rm_X3_named mmG0 (mmPi r) 0 [(0, .ref 0), (1, vi l1)] [] m := by
  intro l1 m hr1 E
  unfold f_X3_named at E
  refine V_aload_n 0 dX3_named_0 rfl ?_
  refine V_geta (ci := 3) (k := 0) (N := 6) (T := TX3) (o' := 1) dX3_named_1 iuX3 fl_X3_12 rfl (by decide) rfl sh_0 rfl ?_
  refine V_iload_n 1 dX3_named_4 rfl ?_
  obtain ⟨q1, hq1, E⟩ := mmB_e E
  refine V_callV (ci := 2) (q := (RX2, TX2, 10)) (Cn := RX2) (st := []) 1 dX3_named_5 (ct_X2_tellName sh_1 hr1 hq1) ml_X3_97 im_X2_tellName sl_X2_tellName it_X2 cd_X2_tellName hy_X2_tellName ⟨rfl, rfl, by decide, by decide⟩ sh_1 rfl rfl rfl rfl (Nat.le_of_ble_eq_true rfl) (fun hv2 => ?_)
  obtain rfl := Option.some.inj E
  exact V_reti dX3_named_8 ⟨rfl, rfl, hv2⟩
theorem ct_X3_named {l1 : Int} {m : Mem} {r : Int × Mem} (hr1 : inR l1) (E : f_X3_named l1 m = some r) : CTi yX3_named cX3_named 2 (some .int) rm_X3_named [.ref 0, vi l1] m r := CT_i (by decide +kernel) rfl (Nat.le_of_ble_eq_true rfl) (ok_X3_named _ _ hr1 E)
theorem hy_X3_named : yX3_named.cls = RX3 ∧ yX3_named.cls ≠ "java/lang/invoke/MethodHandle" ∧ yX3_named.cls ≠ "java/lang/invoke/VarHandle" ∧ (parseMethodDescriptor yX3_named.desc).map (fun d => d.parameters.length) = some 1 := by decide +kernel
abbrev rm_X3_at : Room := { frames := 1, cells := 0, slots := 0, locals := 22 }
noncomputable def f_X3_at (l1 : Int) (m : Mem) : Option (Int × Mem) :=
  (f_X2_tellUnit 1 l1 m).bind (fun q1 => some (q1.1, q1.2))
set_option maxRecDepth 100000 in
set_option maxHeartbeats 4000000 in
theorem ok_X3_at {r : Int × Mem} : ∀ (l1 : Int) (m : Mem), inR l1 → f_X3_at l1 m = some r → VV RX3 cX3_at 2 rm_X3_at mmG0 (mmPi r) 0 [(0, .ref 0), (1, vi l1)] [] m := by
  intro l1 m hr1 E
  unfold f_X3_at at E
  refine V_aload_n 0 dX3_at_0 rfl ?_
  refine V_geta (ci := 3) (k := 0) (N := 6) (T := TX3) (o' := 1) dX3_at_1 iuX3 fl_X3_12 rfl (by decide) rfl sh_0 rfl ?_
  refine V_iload_n 1 dX3_at_4 rfl ?_
  obtain ⟨q1, hq1, E⟩ := mmB_e E
  refine V_callV (ci := 2) (q := (RX2, TX2, 10)) (Cn := RX2) (st := []) 1 dX3_at_5 (ct_X2_tellUnit sh_1 hr1 hq1) ml_X3_103 im_X2_tellUnit sl_X2_tellUnit it_X2 cd_X2_tellUnit hy_X2_tellUnit ⟨rfl, rfl, by decide, by decide⟩ sh_1 rfl rfl rfl rfl (Nat.le_of_ble_eq_true rfl) (fun hv2 => ?_)
  obtain rfl := Option.some.inj E
  exact V_reti dX3_at_8 ⟨rfl, rfl, hv2⟩
theorem ct_X3_at {l1 : Int} {m : Mem} {r : Int × Mem} (hr1 : inR l1) (E : f_X3_at l1 m = some r) : CTi yX3_at cX3_at 2 (some .int) rm_X3_at [.ref 0, vi l1] m r := CT_i (by decide +kernel) rfl (Nat.le_of_ble_eq_true rfl) (ok_X3_at _ _ hr1 E)
theorem hy_X3_at : yX3_at.cls = RX3 ∧ yX3_at.cls ≠ "java/lang/invoke/MethodHandle" ∧ yX3_at.cls ≠ "java/lang/invoke/VarHandle" ∧ (parseMethodDescriptor yX3_at.desc).map (fun d => d.parameters.length) = some 1 := by decide +kernel
abbrev rm_X3_fits : Room := { frames := 4, cells := 0, slots := 0, locals := 86 }
noncomputable def f_X3_fits (l1 : Int) (m : Mem) : Option (Int × Mem) :=
  (f_X2_tellFit 1 l1 m).bind (fun q1 => some (q1.1, q1.2))
set_option maxRecDepth 100000 in
set_option maxHeartbeats 4000000 in
theorem ok_X3_fits {r : Int × Mem} : ∀ (l1 : Int) (m : Mem), inR l1 → f_X3_fits l1 m = some r → VV RX3 cX3_fits 2 rm_X3_fits mmG0 (mmPi r) 0 [(0, .ref 0), (1, vi l1)] [] m := by
  intro l1 m hr1 E
  unfold f_X3_fits at E
  refine V_aload_n 0 dX3_fits_0 rfl ?_
  refine V_geta (ci := 3) (k := 0) (N := 6) (T := TX3) (o' := 1) dX3_fits_1 iuX3 fl_X3_12 rfl (by decide) rfl sh_0 rfl ?_
  refine V_iload_n 1 dX3_fits_4 rfl ?_
  obtain ⟨q1, hq1, E⟩ := mmB_e E
  refine V_callV (ci := 2) (q := (RX2, TX2, 10)) (Cn := RX2) (st := []) 1 dX3_fits_5 (ct_X2_tellFit sh_1 hr1 hq1) ml_X3_106 im_X2_tellFit sl_X2_tellFit it_X2 cd_X2_tellFit hy_X2_tellFit ⟨rfl, rfl, by decide, by decide⟩ sh_1 rfl rfl rfl rfl (Nat.le_of_ble_eq_true rfl) (fun hv2 => ?_)
  obtain rfl := Option.some.inj E
  exact V_reti dX3_fits_8 ⟨rfl, rfl, hv2⟩
theorem ct_X3_fits {l1 : Int} {m : Mem} {r : Int × Mem} (hr1 : inR l1) (E : f_X3_fits l1 m = some r) : CTi yX3_fits cX3_fits 2 (some .int) rm_X3_fits [.ref 0, vi l1] m r := CT_i (by decide +kernel) rfl (Nat.le_of_ble_eq_true rfl) (ok_X3_fits _ _ hr1 E)
theorem hy_X3_fits : yX3_fits.cls = RX3 ∧ yX3_fits.cls ≠ "java/lang/invoke/MethodHandle" ∧ yX3_fits.cls ≠ "java/lang/invoke/VarHandle" ∧ (parseMethodDescriptor yX3_fits.desc).map (fun d => d.parameters.length) = some 1 := by decide +kernel
abbrev rm_X3_beginning : Room := { frames := 3, cells := 0, slots := 0, locals := 66 }
noncomputable def f_X3_beginning (l1 : Int) (l2 : Int) (m : Mem) : Option (Int × Mem) :=
  (f_X2_tellBeginning 1 l1 l2 m).bind (fun q1 => some (q1.1, q1.2))
set_option maxRecDepth 100000 in
set_option maxHeartbeats 4000000 in
theorem ok_X3_beginning {r : Int × Mem} : ∀ (l1 : Int) (l2 : Int) (m : Mem), inR l1 → inR l2 → f_X3_beginning l1 l2 m = some r → VV RX3 cX3_beginning 3 rm_X3_beginning mmG0 (mmPi r) 0 [(0, .ref 0), (1, vi l1), (2, vi l2)] [] m := by
  intro l1 l2 m hr1 hr2 E
  unfold f_X3_beginning at E
  refine V_aload_n 0 dX3_beginning_0 rfl ?_
  refine V_geta (ci := 3) (k := 0) (N := 6) (T := TX3) (o' := 1) dX3_beginning_1 iuX3 fl_X3_12 rfl (by decide) rfl sh_0 rfl ?_
  refine V_iload_n 1 dX3_beginning_4 rfl ?_
  refine V_iload_n 2 dX3_beginning_5 rfl ?_
  obtain ⟨q1, hq1, E⟩ := mmB_e E
  refine V_callV (ci := 2) (q := (RX2, TX2, 10)) (Cn := RX2) (st := []) 2 dX3_beginning_6 (ct_X2_tellBeginning sh_1 hr1 hr2 hq1) ml_X3_109 im_X2_tellBeginning sl_X2_tellBeginning it_X2 cd_X2_tellBeginning hy_X2_tellBeginning ⟨rfl, rfl, by decide, by decide⟩ sh_1 rfl rfl rfl rfl (Nat.le_of_ble_eq_true rfl) (fun hv2 => ?_)
  obtain rfl := Option.some.inj E
  exact V_reti dX3_beginning_9 ⟨rfl, rfl, hv2⟩
theorem ct_X3_beginning {l1 : Int} {l2 : Int} {m : Mem} {r : Int × Mem} (hr1 : inR l1) (hr2 : inR l2) (E : f_X3_beginning l1 l2 m = some r) : CTi yX3_beginning cX3_beginning 3 (some .int) rm_X3_beginning [.ref 0, vi l1, vi l2] m r := CT_i (by decide +kernel) rfl (Nat.le_of_ble_eq_true rfl) (ok_X3_beginning _ _ _ hr1 hr2 E)
theorem hy_X3_beginning : yX3_beginning.cls = RX3 ∧ yX3_beginning.cls ≠ "java/lang/invoke/MethodHandle" ∧ yX3_beginning.cls ≠ "java/lang/invoke/VarHandle" ∧ (parseMethodDescriptor yX3_beginning.desc).map (fun d => d.parameters.length) = some 2 := by decide +kernel
abbrev rm_X3_count : Room := { frames := 5, cells := 0, slots := 0, locals := 107 }
noncomputable def f_X3_count (l1 : Int) (m : Mem) : Option (Int × Mem) :=
  if l1 = 13 then
((f_X0_size m).bind (fun q2 => some (q2.1, q2.2)))
else (
if l1 = 14 then
((f_X1_length m).bind (fun q5 => some (q5.1, q5.2)))
else (
((f_X2_tellCount 1 l1 m).bind (fun q7 => some (q7.1, q7.2)))))
set_option maxRecDepth 100000 in
set_option maxHeartbeats 4000000 in
theorem ok_X3_count {r : Int × Mem} : ∀ (l1 : Int) (m : Mem), inR l1 → f_X3_count l1 m = some r → VV RX3 cX3_count 2 rm_X3_count mmG0 (mmPi r) 0 [(0, .ref 0), (1, vi l1)] [] m := by
  intro l1 m hr1 E
  unfold f_X3_count at E
  refine V_iload_n 1 dX3_count_0 rfl ?_
  by_cases c1 : l1 = 13
  · replace E := mmI_t c1 E
    refine V_lookup (off := 27) 28 dX3_count_1 hr1 (by decide) (by first | (rw [c1]; done) | (rw [c1]; rfl)) (by decide) ?_
    refine V_aload_n 0 dX3_count_28 rfl ?_
    refine V_geta (ci := 3) (k := 4) (N := 6) (T := TX3) (o' := 19) dX3_count_29 iuX3 fl_X3_29 rfl (by decide) rfl sh_0 rfl ?_
    obtain ⟨q2, hq2, E⟩ := mmB_e E
    refine V_callV (ci := 0) (q := (RX0, TX0, 2)) (Cn := RX0) (st := []) 0 dX3_count_32 (ct_X0_size hq2) ml_X3_90 im_X0_size sl_X0_size it_X0 cd_X0_size hy_X0_size ⟨rfl, rfl, by decide, by decide⟩ sh_19 rfl rfl rfl rfl (Nat.le_of_ble_eq_true rfl) (fun hv3 => ?_)
    obtain rfl := Option.some.inj E
    exact V_reti dX3_count_35 ⟨rfl, rfl, hv3⟩
  replace E := mmI_f c1 E
  by_cases c4 : l1 = 14
  · replace E := mmI_t c4 E
    refine V_lookup (off := 35) 36 dX3_count_1 hr1 (by decide) (by first | (rw [c4]; done) | (rw [c4]; rfl)) (by decide) ?_
    refine V_aload_n 0 dX3_count_36 rfl ?_
    refine V_geta (ci := 3) (k := 5) (N := 6) (T := TX3) (o' := 45) dX3_count_37 iuX3 fl_X3_36 rfl (by decide) rfl sh_0 rfl ?_
    obtain ⟨q5, hq5, E⟩ := mmB_e E
    refine V_callV (ci := 1) (q := (RX1, TX1, 8)) (Cn := RX1) (st := []) 0 dX3_count_40 (ct_X1_length hq5) ml_X3_112 im_X1_length sl_X1_length it_X1 cd_X1_length hy_X1_length ⟨rfl, rfl, by decide, by decide⟩ sh_45 rfl rfl rfl rfl (Nat.le_of_ble_eq_true rfl) (fun hv6 => ?_)
    obtain rfl := Option.some.inj E
    exact V_reti dX3_count_43 ⟨rfl, rfl, hv6⟩
  replace E := mmI_f c4 E
  refine V_lookup (off := 43) 44 dX3_count_1 hr1 (by decide) (by simp only [Op.lookupswitch.offset]; rw [if_neg (fun z => c1 z.symm)]; rw [if_neg (fun z => c4 z.symm)]) (by decide) ?_
  refine V_aload_n 0 dX3_count_44 rfl ?_
  refine V_geta (ci := 3) (k := 0) (N := 6) (T := TX3) (o' := 1) dX3_count_45 iuX3 fl_X3_12 rfl (by decide) rfl sh_0 rfl ?_
  refine V_iload_n 1 dX3_count_48 rfl ?_
  obtain ⟨q7, hq7, E⟩ := mmB_e E
  refine V_callV (ci := 2) (q := (RX2, TX2, 10)) (Cn := RX2) (st := []) 1 dX3_count_49 (ct_X2_tellCount sh_1 hr1 hq7) ml_X3_115 im_X2_tellCount sl_X2_tellCount it_X2 cd_X2_tellCount hy_X2_tellCount ⟨rfl, rfl, by decide, by decide⟩ sh_1 rfl rfl rfl rfl (Nat.le_of_ble_eq_true rfl) (fun hv8 => ?_)
  obtain rfl := Option.some.inj E
  exact V_reti dX3_count_52 ⟨rfl, rfl, hv8⟩
theorem ct_X3_count {l1 : Int} {m : Mem} {r : Int × Mem} (hr1 : inR l1) (E : f_X3_count l1 m = some r) : CTi yX3_count cX3_count 2 (some .int) rm_X3_count [.ref 0, vi l1] m r := CT_i (by decide +kernel) rfl (Nat.le_of_ble_eq_true rfl) (ok_X3_count _ _ hr1 E)
theorem hy_X3_count : yX3_count.cls = RX3 ∧ yX3_count.cls ≠ "java/lang/invoke/MethodHandle" ∧ yX3_count.cls ≠ "java/lang/invoke/VarHandle" ∧ (parseMethodDescriptor yX3_count.desc).map (fun d => d.parameters.length) = some 1 := by decide +kernel
