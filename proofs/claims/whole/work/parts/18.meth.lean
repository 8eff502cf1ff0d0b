abbrev rm_X4_type : Room := { frames := 0, cells := 0, slots := 0, locals := 0 }
noncomputable def f_X4_type (l1 : Int) (m : Mem) : Option (Int × Mem) :=
  if (m.1 51 8) = 60 then
(some ((-3), m))
else
(mmK (0 ≤ (m.1 51 8) ∧ (m.1 51 8) < 60) (mmK (inR ((m.1 51 8) + 1)) (some (((m.1 51 8) + 1), (mwr (mwr m 57 ((m.1 51 8)).toNat l1) 51 8 ((m.1 51 8) + 1))))))
set_option maxRecDepth 100000 in
set_option maxHeartbeats 4000000 in
theorem ok_X4_type {r : Int × Mem} : ∀ (l1 : Int) (m : Mem), inR l1 → f_X4_type l1 m = some r → VV RX4 cX4_type 2 rm_X4_type mmG0 (mmPi r) 0 [(0, .ref 51), (1, vi l1)] [] m := by
  intro l1 m hr1 E
  unfold f_X4_type at E
  refine V_aload_n 0 dX4_type_0 rfl ?_
  refine V_geti (ci := 4) (k := 8) (N := 12) (T := TX4) (v := (m.1 51 8)) dX4_type_1 iuX4 fl_X4_95 rfl (by decide) rfl sh_51 rfl (fun hv1 => ?_)
  refine V_bipush (v := 60) dX4_type_4 (by decide) ?_
  refine V_icmp_ne 12 dX4_type_6 (by decide) hv1 ir_60 (fun c2 => ?_) (fun c2 => ?_)
  · replace E := mmI_f c2 E
    refine V_aload_n 0 dX4_type_12 rfl ?_
    refine V_geta (ci := 4) (k := 7) (N := 12) (T := TX4) (o' := 57) dX4_type_13 iuX4 fl_X4_25 rfl (by decide) rfl sh_51 rfl ?_
    refine V_aload_n 0 dX4_type_16 rfl ?_
    refine V_geti (ci := 4) (k := 8) (N := 12) (T := TX4) (v := (m.1 51 8)) dX4_type_17 iuX4 fl_X4_95 rfl (by decide) rfl sh_51 rfl (fun hv3 => ?_)
    refine V_iload_n 1 dX4_type_20 rfl ?_
    obtain ⟨hv4, E⟩ := mmK_e E
    refine V_iast (n := 60) (j := ((m.1 51 8)).toNat) dX4_type_21 sh_57 hv3 hr1 hv4 rfl ?_
    refine V_aload_n 0 dX4_type_22 rfl ?_
    refine V_dupa dX4_type_23 ?_
    refine V_geti (ci := 4) (k := 8) (N := 12) (T := TX4) (v := (m.1 51 8)) dX4_type_24 iuX4 fl_X4_95 rfl (by decide) rfl sh_51 rfl (fun hv5 => ?_)
    refine V_iconst dX4_type_27 rfl ?_
    obtain ⟨hv6, E⟩ := mmK_e E
    refine V_iadd dX4_type_28 ?_
    refine V_put (ci := 4) (k := 8) (N := 12) (T := TX4) (x := ((m.1 51 8) + 1)) (ty := .int) tyX4 dX4_type_29 iuX4 tyX4_ok nmX4 fl_X4_95 rfl (by decide) rfl sh_51 rfl (by decide +kernel) rfl rfl hv6 ?_
    refine V_aload_n 0 dX4_type_32 rfl ?_
    refine V_geti (ci := 4) (k := 8) (N := 12) (T := TX4) (v := ((m.1 51 8) + 1)) dX4_type_33 iuX4 fl_X4_95 rfl (by decide) rfl sh_51 rfl (fun hv7 => ?_)
    obtain rfl := Option.some.inj E
    exact V_reti dX4_type_36 ⟨rfl, rfl, hv7⟩
  · replace E := mmI_t c2 E
    refine V_bipush (v := (-3)) dX4_type_9 (by decide) ?_
    obtain rfl := Option.some.inj E
    exact V_reti dX4_type_11 ⟨rfl, rfl, ir_m3⟩
theorem ct_X4_type {l1 : Int} {m : Mem} {r : Int × Mem} (hr1 : inR l1) (E : f_X4_type l1 m = some r) : CTi yX4_type cX4_type 2 (some .int) rm_X4_type [.ref 51, vi l1] m r := CT_i (by decide +kernel) rfl (Nat.le_of_ble_eq_true rfl) (ok_X4_type _ _ hr1 E)
theorem hy_X4_type : yX4_type.cls = RX4 ∧ yX4_type.cls ≠ "java/lang/invoke/MethodHandle" ∧ yX4_type.cls ≠ "java/lang/invoke/VarHandle" ∧ (parseMethodDescriptor yX4_type.desc).map (fun d => d.parameters.length) = some 1 := by decide +kernel
abbrev rm_X4_clearPad : Room := { frames := 0, cells := 0, slots := 0, locals := 0 }
noncomputable def f_X4_clearPad (m : Mem) : Option (Int × Mem) :=
  some ((m.1 51 8), (mwr m 51 8 0))
set_option maxRecDepth 100000 in
set_option maxHeartbeats 4000000 in
theorem ok_X4_clearPad {r : Int × Mem} : ∀ (m : Mem), f_X4_clearPad m = some r → VV RX4 cX4_clearPad 2 rm_X4_clearPad mmG0 (mmPi r) 0 [(0, .ref 51)] [] m := by
  intro m E
  unfold f_X4_clearPad at E
  refine V_aload_n 0 dX4_clearPad_0 rfl ?_
  refine V_geti (ci := 4) (k := 8) (N := 12) (T := TX4) (v := (m.1 51 8)) dX4_clearPad_1 iuX4 fl_X4_95 rfl (by decide) rfl sh_51 rfl (fun hv1 => ?_)
  refine V_istore_n (i := 1) (lv' := [(0, .ref 51), (1, vi (m.1 51 8))]) dX4_clearPad_4 rfl rfl rfl ?_
  refine V_aload_n 0 dX4_clearPad_5 rfl ?_
  refine V_iconst dX4_clearPad_6 rfl ?_
  refine V_put (ci := 4) (k := 8) (N := 12) (T := TX4) (x := 0) (ty := .int) tyX4 dX4_clearPad_7 iuX4 tyX4_ok nmX4 fl_X4_95 rfl (by decide) rfl sh_51 rfl (by decide +kernel) rfl rfl ir_0 ?_
  refine V_iload_n 1 dX4_clearPad_10 rfl ?_
  obtain rfl := Option.some.inj E
  exact V_reti dX4_clearPad_11 ⟨rfl, rfl, hv1⟩
theorem ct_X4_clearPad {m : Mem} {r : Int × Mem} (E : f_X4_clearPad m = some r) : CTi yX4_clearPad cX4_clearPad 2 (some .int) rm_X4_clearPad [.ref 51] m r := CT_i (by decide +kernel) rfl (Nat.le_of_ble_eq_true rfl) (ok_X4_clearPad  _  E)
theorem hy_X4_clearPad : yX4_clearPad.cls = RX4 ∧ yX4_clearPad.cls ≠ "java/lang/invoke/MethodHandle" ∧ yX4_clearPad.cls ≠ "java/lang/invoke/VarHandle" ∧ (parseMethodDescriptor yX4_clearPad.desc).map (fun d => d.parameters.length) = some 0 := by decide +kernel
abbrev rm_X4_isHere : Room := { frames := 1, cells := 0, slots := 0, locals := 25 }
noncomputable def f_X4_isHere (l1 : Int) (l2 : Int) (m : Mem) : Option (Int × Mem) :=
  if (m.1 51 8) ≤ (m.1 51 9) then
(some (0, m))
else
(mmK (0 ≤ (m.1 51 9) ∧ (m.1 51 9) < 60) ((f_X4_in (m.1 57 ((m.1 51 9)).toNat) l1 l2 m).bind (fun q7 => if q7.1 = 0 then
(some (0, q7.2))
else
(some (1, q7.2)))))
set_option maxRecDepth 100000 in
set_option maxHeartbeats 4000000 in
theorem ok_X4_isHere {r : Int × Mem} : ∀ (l1 : Int) (l2 : Int) (m : Mem), inR l1 → inR l2 → f_X4_isHere l1 l2 m = some r → VV RX4 cX4_isHere 3 rm_X4_isHere mmG0 (mmPz r) 0 [(0, .ref 51), (1, vi l1), (2, vi l2)] [] m := by
  intro l1 l2 m hr1 hr2 E
  unfold f_X4_isHere at E
  refine V_aload_n 0 dX4_isHere_0 rfl ?_
  refine V_geti (ci := 4) (k := 9) (N := 12) (T := TX4) (v := (m.1 51 9)) dX4_isHere_1 iuX4 fl_X4_98 rfl (by decide) rfl sh_51 rfl (fun hv1 => ?_)
  refine V_aload_n 0 dX4_isHere_4 rfl ?_
  refine V_geti (ci := 4) (k := 8) (N := 12) (T := TX4) (v := (m.1 51 8)) dX4_isHere_5 iuX4 fl_X4_95 rfl (by decide) rfl sh_51 rfl (fun hv2 => ?_)
  refine V_icmp_ge 35 dX4_isHere_8 (by decide) hv1 hv2 (fun c3 => ?_) (fun c3 => ?_)
  · replace E := mmI_t c3 E
    refine V_iconst dX4_isHere_35 rfl ?_
    obtain rfl := Option.some.inj E
    exact V_reti dX4_isHere_36 ⟨rfl, rfl, (Or.inl rfl)⟩
  · replace E := mmI_f c3 E
    refine V_aload_n 0 dX4_isHere_11 rfl ?_
    refine V_geta (ci := 4) (k := 7) (N := 12) (T := TX4) (o' := 57) dX4_isHere_12 iuX4 fl_X4_25 rfl (by decide) rfl sh_51 rfl ?_
    refine V_aload_n 0 dX4_isHere_15 rfl ?_
    refine V_geti (ci := 4) (k := 9) (N := 12) (T := TX4) (v := (m.1 51 9)) dX4_isHere_16 iuX4 fl_X4_98 rfl (by decide) rfl sh_51 rfl (fun hv4 => ?_)
    obtain ⟨hv5, E⟩ := mmK_e E
    refine V_iald (n := 60) (j := ((m.1 51 9)).toNat) (v := (m.1 57 ((m.1 51 9)).toNat)) dX4_isHere_19 sh_57 hv4 hv5 rfl rfl (fun hv6 => ?_)
    refine V_i2l dX4_isHere_20 hv6 ?_
    refine V_iload_n 1 dX4_isHere_21 rfl ?_
    refine V_i2l dX4_isHere_22 hr1 ?_
    refine V_iload_n 2 dX4_isHere_23 rfl ?_
    refine V_i2l dX4_isHere_24 hr2 ?_
    obtain ⟨q7, hq7, E⟩ := mmB_e E
    refine V_callS (st := []) 3 dX4_isHere_25 (ct_X4_in (inRL hv6) (inRL hr1) (inRL hr2) hq7) ml_X4_34 st_X4_in it_X4 cd_X4_in hz_X4_in ⟨rfl, rfl, by decide, by decide⟩ rfl rfl (Nat.le_of_ble_eq_true rfl) (fun hv8 => ?_)
    refine V_if_eq 35 dX4_isHere_28 (by decide) hv8 (fun c9 => ?_) (fun c9 => ?_)
    · replace E := mmI_t c9 E
      refine V_iconst dX4_isHere_35 rfl ?_
      obtain rfl := Option.some.inj E
      exact V_reti dX4_isHere_36 ⟨rfl, rfl, (Or.inl rfl)⟩
    · replace E := mmI_f c9 E
      refine V_iconst dX4_isHere_31 rfl ?_
      refine V_goto 36 dX4_isHere_32 (by decide) ?_
      obtain rfl := Option.some.inj E
      exact V_reti dX4_isHere_36 ⟨rfl, rfl, (Or.inr rfl)⟩
theorem ct_X4_isHere {l1 : Int} {l2 : Int} {m : Mem} {r : Int × Mem} (hr1 : inR l1) (hr2 : inR l2) (E : f_X4_isHere l1 l2 m = some r) : CTi yX4_isHere cX4_isHere 3 (some .boolean) rm_X4_isHere [.ref 51, vi l1, vi l2] m r := CT_z (by decide +kernel) rfl (Nat.le_of_ble_eq_true rfl) (ok_X4_isHere _ _ _ hr1 hr2 E)
theorem hy_X4_isHere : yX4_isHere.cls = RX4 ∧ yX4_isHere.cls ≠ "java/lang/invoke/MethodHandle" ∧ yX4_isHere.cls ≠ "java/lang/invoke/VarHandle" ∧ (parseMethodDescriptor yX4_isHere.desc).map (fun d => d.parameters.length) = some 2 := by decide +kernel
abbrev rm_X4_takes : Room := { frames := 2, cells := 0, slots := 0, locals := 47 }
noncomputable def f_X4_takes (l1 : Int) (m : Mem) : Option (Int × Mem) :=
  (f_X4_isHere l1 l1 m).bind (fun q1 => if q1.1 = 0 then
(mmK (inR ((q1.2.1 51 9) + 0)) (mmK (q1.1 = 0 ∨ q1.1 = 1) (some (q1.1, (mwr q1.2 51 9 ((q1.2.1 51 9) + 0))))))
else
(mmK (inR ((q1.2.1 51 9) + 1)) (mmK (q1.1 = 0 ∨ q1.1 = 1) (some (q1.1, (mwr q1.2 51 9 ((q1.2.1 51 9) + 1)))))))
set_option maxRecDepth 100000 in
set_option maxHeartbeats 4000000 in
theorem ok_X4_takes {r : Int × Mem} : ∀ (l1 : Int) (m : Mem), inR l1 → f_X4_takes l1 m = some r → VV RX4 cX4_takes 3 rm_X4_takes mmG0 (mmPz r) 0 [(0, .ref 51), (1, vi l1)] [] m := by
  intro l1 m hr1 E
  unfold f_X4_takes at E
  refine V_aload_n 0 dX4_takes_0 rfl ?_
  refine V_iload_n 1 dX4_takes_1 rfl ?_
  refine V_iload_n 1 dX4_takes_2 rfl ?_
  obtain ⟨q1, hq1, E⟩ := mmB_e E
  refine V_callV (ci := 4) (q := (RX4, TX4, 12)) (Cn := RX4) (st := []) 2 dX4_takes_3 (ct_X4_isHere hr1 hr1 hq1) ml_X4_101 im_X4_isHere sl_X4_isHere it_X4 cd_X4_isHere hy_X4_isHere ⟨rfl, rfl, by decide, by decide⟩ sh_51 rfl rfl rfl rfl (Nat.le_of_ble_eq_true rfl) (fun hv2 => ?_)
  refine V_istore_n (i := 2) (lv' := [(0, .ref 51), (1, vi l1), (2, vi q1.1)]) dX4_takes_6 rfl rfl rfl ?_
  refine V_aload_n 0 dX4_takes_7 rfl ?_
  refine V_dupa dX4_takes_8 ?_
  refine V_geti (ci := 4) (k := 9) (N := 12) (T := TX4) (v := (q1.2.1 51 9)) dX4_takes_9 iuX4 fl_X4_98 rfl (by decide) rfl sh_51 rfl (fun hv3 => ?_)
  refine V_iload_n 2 dX4_takes_12 rfl ?_
  refine V_if_eq 20 dX4_takes_13 (by decide) hv2 (fun c4 => ?_) (fun c4 => ?_)
  · replace E := mmI_t c4 E
    refine V_iconst dX4_takes_20 rfl ?_
    obtain ⟨hv5, E⟩ := mmK_e E
    refine V_iadd dX4_takes_21 ?_
    refine V_put (ci := 4) (k := 9) (N := 12) (T := TX4) (x := ((q1.2.1 51 9) + 0)) (ty := .int) tyX4 dX4_takes_22 iuX4 tyX4_ok nmX4 fl_X4_98 rfl (by decide) rfl sh_51 rfl (by decide +kernel) rfl rfl hv5 ?_
    refine V_iload_n 2 dX4_takes_25 rfl ?_
    obtain ⟨hz6, E⟩ := mmK_e E
    obtain rfl := Option.some.inj E
    exact V_reti dX4_takes_26 ⟨rfl, rfl, hz6⟩
  · replace E := mmI_f c4 E
    refine V_iconst dX4_takes_16 rfl ?_
    refine V_goto 21 dX4_takes_17 (by decide) ?_
    obtain ⟨hv7, E⟩ := mmK_e E
    refine V_iadd dX4_takes_21 ?_
    refine V_put (ci := 4) (k := 9) (N := 12) (T := TX4) (x := ((q1.2.1 51 9) + 1)) (ty := .int) tyX4 dX4_takes_22 iuX4 tyX4_ok nmX4 fl_X4_98 rfl (by decide) rfl sh_51 rfl (by decide +kernel) rfl rfl hv7 ?_
    refine V_iload_n 2 dX4_takes_25 rfl ?_
    obtain ⟨hz8, E⟩ := mmK_e E
    obtain rfl := Option.some.inj E
    exact V_reti dX4_takes_26 ⟨rfl, rfl, hz8⟩
theorem ct_X4_takes {l1 : Int} {m : Mem} {r : Int × Mem} (hr1 : inR l1) (E : f_X4_takes l1 m = some r) : CTi yX4_takes cX4_takes 3 (some .boolean) rm_X4_takes [.ref 51, vi l1] m r := CT_z (by decide +kernel) rfl (Nat.le_of_ble_eq_true rfl) (ok_X4_takes _ _ hr1 E)
theorem hy_X4_takes : yX4_takes.cls = RX4 ∧ yX4_takes.cls ≠ "java/lang/invoke/MethodHandle" ∧ yX4_takes.cls ≠ "java/lang/invoke/VarHandle" ∧ (parseMethodDescriptor yX4_takes.desc).map (fun d => d.parameters.length) = some 1 := by decide +kernel
abbrev rm_X4_readsNumber : Room := { frames := 2, cells := 0, slots := 0, locals := 47 }
noncomputable def f_X4_readsNumber_L41 : Nat → Int → Mem → Option (Int × Mem)
  | 0, _, _ => none
  | n + 1, l2, m =>
    if (m.1 51 10) ≤ 0 then
(some (1, m))
else
((f_X4_isHere 48 57 m).bind (fun q13 => if q13.1 = 0 then
(some (1, q13.2))
else
(mmK (inR (10 * (q13.2.1 51 10))) (mmK (0 ≤ (q13.2.1 51 9) ∧ (q13.2.1 51 9) < 60) (mmK (inR ((10 * (q13.2.1 51 10)) + (q13.2.1 57 ((q13.2.1 51 9)).toNat))) (mmK (inR (((10 * (q13.2.1 51 10)) + (q13.2.1 57 ((q13.2.1 51 9)).toNat)) - 48)) (if l2 < (((10 * (q13.2.1 51 10)) + (q13.2.1 57 ((q13.2.1 51 9)).toNat)) - 48) then
(some (1, q13.2))
else
(mmK (inR (10 * (q13.2.1 51 10))) (mmK (0 ≤ (q13.2.1 51 9) ∧ (q13.2.1 51 9) < 60) (mmK (inR ((10 * (q13.2.1 51 10)) + (q13.2.1 57 ((q13.2.1 51 9)).toNat))) (mmK (inR (((10 * (q13.2.1 51 10)) + (q13.2.1 57 ((q13.2.1 51 9)).toNat)) - 48)) (mmK (inR ((q13.2.1 51 9) + 1)) (f_X4_readsNumber_L41 n l2 (mwr (mwr q13.2 51 10 (((10 * (q13.2.1 51 10)) + (q13.2.1 57 ((q13.2.1 51 9)).toNat)) - 48)) 51 9 ((q13.2.1 51 9) + 1)))))))))))))))
set_option maxRecDepth 100000 in
set_option maxHeartbeats 4000000 in
theorem ok_X4_readsNumber_L41 {r : Int × Mem} : ∀ (n : Nat), ∀ (l2 : Int) (m : Mem), inR l2 → f_X4_readsNumber_L41 n l2 m = some r → VV RX4 cX4_readsNumber 3 rm_X4_readsNumber mmG0 (mmPz r) 41 [(0, .ref 51), (2, vi l2)] [] m := by
  intro n
  induction n with
  | zero =>
    intro l2 m hr2 E
    cases E
  | succ n ih =>
    intro l2 m hr2 E
    rw [f_X4_readsNumber_L41] at E
    refine V_aload_n 0 dX4_readsNumber_41 rfl ?_
    refine V_geti (ci := 4) (k := 10) (N := 12) (T := TX4) (v := (m.1 51 10)) dX4_readsNumber_42 iuX4 fl_X4_105 rfl (by decide) rfl sh_51 rfl (fun hv11 => ?_)
    refine V_if_le 120 dX4_readsNumber_45 (by decide) hv11 (fun c12 => ?_) (fun c12 => ?_)
    · replace E := mmI_t c12 E
      refine V_iconst dX4_readsNumber_120 rfl ?_
      obtain rfl := Option.some.inj E
      exact V_reti dX4_readsNumber_121 ⟨rfl, rfl, (Or.inr rfl)⟩
    · replace E := mmI_f c12 E
      refine V_aload_n 0 dX4_readsNumber_48 rfl ?_
      refine V_bipush (v := 48) dX4_readsNumber_49 (by decide) ?_
      refine V_bipush (v := 57) dX4_readsNumber_51 (by decide) ?_
      obtain ⟨q13, hq13, E⟩ := mmB_e E
      refine V_callV (ci := 4) (q := (RX4, TX4, 12)) (Cn := RX4) (st := []) 2 dX4_readsNumber_53 (ct_X4_isHere ir_48 ir_57 hq13) ml_X4_101 im_X4_isHere sl_X4_isHere it_X4 cd_X4_isHere hy_X4_isHere ⟨rfl, rfl, by decide, by decide⟩ sh_51 rfl rfl rfl rfl (Nat.le_of_ble_eq_true rfl) (fun hv14 => ?_)
      refine V_if_eq 120 dX4_readsNumber_56 (by decide) hv14 (fun c15 => ?_) (fun c15 => ?_)
      · replace E := mmI_t c15 E
        refine V_iconst dX4_readsNumber_120 rfl ?_
        obtain rfl := Option.some.inj E
        exact V_reti dX4_readsNumber_121 ⟨rfl, rfl, (Or.inr rfl)⟩
      · replace E := mmI_f c15 E
        refine V_bipush (v := 10) dX4_readsNumber_59 (by decide) ?_
        refine V_aload_n 0 dX4_readsNumber_61 rfl ?_
        refine V_geti (ci := 4) (k := 10) (N := 12) (T := TX4) (v := (q13.2.1 51 10)) dX4_readsNumber_62 iuX4 fl_X4_105 rfl (by decide) rfl sh_51 rfl (fun hv16 => ?_)
        obtain ⟨hv17, E⟩ := mmK_e E
        refine V_imul dX4_readsNumber_65 ?_
        refine V_aload_n 0 dX4_readsNumber_66 rfl ?_
        refine V_geta (ci := 4) (k := 7) (N := 12) (T := TX4) (o' := 57) dX4_readsNumber_67 iuX4 fl_X4_25 rfl (by decide) rfl sh_51 rfl ?_
        refine V_aload_n 0 dX4_readsNumber_70 rfl ?_
        refine V_geti (ci := 4) (k := 9) (N := 12) (T := TX4) (v := (q13.2.1 51 9)) dX4_readsNumber_71 iuX4 fl_X4_98 rfl (by decide) rfl sh_51 rfl (fun hv18 => ?_)
        obtain ⟨hv19, E⟩ := mmK_e E
        refine V_iald (n := 60) (j := ((q13.2.1 51 9)).toNat) (v := (q13.2.1 57 ((q13.2.1 51 9)).toNat)) dX4_readsNumber_74 sh_57 hv18 hv19 rfl rfl (fun hv20 => ?_)
        obtain ⟨hv21, E⟩ := mmK_e E
        refine V_iadd dX4_readsNumber_75 ?_
        refine V_bipush (v := 48) dX4_readsNumber_76 (by decide) ?_
        obtain ⟨hv22, E⟩ := mmK_e E
        refine V_isub dX4_readsNumber_78 ?_
        refine V_iload_n 1 dX4_readsNumber_79 rfl ?_
        refine V_icmp_gt 120 dX4_readsNumber_80 (by decide) hv22 hr2 (fun c23 => ?_) (fun c23 => ?_)
        · replace E := mmI_t c23 E
          refine V_iconst dX4_readsNumber_120 rfl ?_
          obtain rfl := Option.some.inj E
          exact V_reti dX4_readsNumber_121 ⟨rfl, rfl, (Or.inr rfl)⟩
        · replace E := mmI_f c23 E
          refine V_aload_n 0 dX4_readsNumber_83 rfl ?_
          refine V_bipush (v := 10) dX4_readsNumber_84 (by decide) ?_
          refine V_aload_n 0 dX4_readsNumber_86 rfl ?_
          refine V_geti (ci := 4) (k := 10) (N := 12) (T := TX4) (v := (q13.2.1 51 10)) dX4_readsNumber_87 iuX4 fl_X4_105 rfl (by decide) rfl sh_51 rfl (fun hv24 => ?_)
          obtain ⟨hv25, E⟩ := mmK_e E
          refine V_imul dX4_readsNumber_90 ?_
          refine V_aload_n 0 dX4_readsNumber_91 rfl ?_
          refine V_geta (ci := 4) (k := 7) (N := 12) (T := TX4) (o' := 57) dX4_readsNumber_92 iuX4 fl_X4_25 rfl (by decide) rfl sh_51 rfl ?_
          refine V_aload_n 0 dX4_readsNumber_95 rfl ?_
          refine V_geti (ci := 4) (k := 9) (N := 12) (T := TX4) (v := (q13.2.1 51 9)) dX4_readsNumber_96 iuX4 fl_X4_98 rfl (by decide) rfl sh_51 rfl (fun hv26 => ?_)
          obtain ⟨hv27, E⟩ := mmK_e E
          refine V_iald (n := 60) (j := ((q13.2.1 51 9)).toNat) (v := (q13.2.1 57 ((q13.2.1 51 9)).toNat)) dX4_readsNumber_99 sh_57 hv26 hv27 rfl rfl (fun hv28 => ?_)
          obtain ⟨hv29, E⟩ := mmK_e E
          refine V_iadd dX4_readsNumber_100 ?_
          refine V_bipush (v := 48) dX4_readsNumber_101 (by decide) ?_
          obtain ⟨hv30, E⟩ := mmK_e E
          refine V_isub dX4_readsNumber_103 ?_
          refine V_put (ci := 4) (k := 10) (N := 12) (T := TX4) (x := (((10 * (q13.2.1 51 10)) + (q13.2.1 57 ((q13.2.1 51 9)).toNat)) - 48)) (ty := .int) tyX4 dX4_readsNumber_104 iuX4 tyX4_ok nmX4 fl_X4_105 rfl (by decide) rfl sh_51 rfl (by decide +kernel) rfl rfl hv30 ?_
          refine V_aload_n 0 dX4_readsNumber_107 rfl ?_
          refine V_dupa dX4_readsNumber_108 ?_
          refine V_geti (ci := 4) (k := 9) (N := 12) (T := TX4) (v := (q13.2.1 51 9)) dX4_readsNumber_109 iuX4 fl_X4_98 rfl (by decide) rfl sh_51 rfl (fun hv31 => ?_)
          refine V_iconst dX4_readsNumber_112 rfl ?_
          obtain ⟨hv32, E⟩ := mmK_e E
          refine V_iadd dX4_readsNumber_113 ?_
          refine V_put (ci := 4) (k := 9) (N := 12) (T := TX4) (x := ((q13.2.1 51 9) + 1)) (ty := .int) tyX4 dX4_readsNumber_114 iuX4 tyX4_ok nmX4 fl_X4_98 rfl (by decide) rfl sh_51 rfl (by decide +kernel) rfl rfl hv32 ?_
          refine V_goto 41 dX4_readsNumber_117 (by decide) ?_
          exact ih _ _ hr2 E
noncomputable def f_X4_readsNumber (l1 : Int) (l2 : Int) (m : Mem) : Option (Int × Mem) :=
  mmK (inR (48 + l1)) ((f_X4_isHere (48 + l1) 57 m).bind (fun q2 => if q2.1 = 0 then
(some (0, q2.2))
else
(mmK (0 ≤ (q2.2.1 51 9) ∧ (q2.2.1 51 9) < 60) (mmK (inR ((q2.2.1 57 ((q2.2.1 51 9)).toNat) - 48)) (mmK (inR ((q2.2.1 51 9) + 1)) (f_X4_readsNumber_L41 mmFU l2 (mwr (mwr q2.2 51 10 ((q2.2.1 57 ((q2.2.1 51 9)).toNat) - 48)) 51 9 ((q2.2.1 51 9) + 1))))))))
set_option maxRecDepth 100000 in
set_option maxHeartbeats 4000000 in
theorem ok_X4_readsNumber {r : Int × Mem} : ∀ (l1 : Int) (l2 : Int) (m : Mem), inR l1 → inR l2 → f_X4_readsNumber l1 l2 m = some r → VV RX4 cX4_readsNumber 3 rm_X4_readsNumber mmG0 (mmPz r) 0 [(0, .ref 51), (1, vi l1), (2, vi l2)] [] m := by
  intro l1 l2 m hr1 hr2 E
  unfold f_X4_readsNumber at E
  refine V_aload_n 0 dX4_readsNumber_0 rfl ?_
  refine V_bipush (v := 48) dX4_readsNumber_1 (by decide) ?_
  refine V_iload_n 1 dX4_readsNumber_3 rfl ?_
  obtain ⟨hv1, E⟩ := mmK_e E
  refine V_iadd dX4_readsNumber_4 ?_
  refine V_bipush (v := 57) dX4_readsNumber_5 (by decide) ?_
  obtain ⟨q2, hq2, E⟩ := mmB_e E
  refine V_callV (ci := 4) (q := (RX4, TX4, 12)) (Cn := RX4) (st := []) 2 dX4_readsNumber_7 (ct_X4_isHere hv1 ir_57 hq2) ml_X4_101 im_X4_isHere sl_X4_isHere it_X4 cd_X4_isHere hy_X4_isHere ⟨rfl, rfl, by decide, by decide⟩ sh_51 rfl rfl rfl rfl (Nat.le_of_ble_eq_true rfl) (fun hv3 => ?_)
  refine V_if_ne 15 dX4_readsNumber_10 (by decide) hv3 (fun c4 => ?_) (fun c4 => ?_)
  · replace E := mmI_f c4 E
    refine V_aload_n 0 dX4_readsNumber_15 rfl ?_
    refine V_aload_n 0 dX4_readsNumber_16 rfl ?_
    refine V_geta (ci := 4) (k := 7) (N := 12) (T := TX4) (o' := 57) dX4_readsNumber_17 iuX4 fl_X4_25 rfl (by decide) rfl sh_51 rfl ?_
    refine V_aload_n 0 dX4_readsNumber_20 rfl ?_
    refine V_geti (ci := 4) (k := 9) (N := 12) (T := TX4) (v := (q2.2.1 51 9)) dX4_readsNumber_21 iuX4 fl_X4_98 rfl (by decide) rfl sh_51 rfl (fun hv5 => ?_)
    obtain ⟨hv6, E⟩ := mmK_e E
    refine V_iald (n := 60) (j := ((q2.2.1 51 9)).toNat) (v := (q2.2.1 57 ((q2.2.1 51 9)).toNat)) dX4_readsNumber_24 sh_57 hv5 hv6 rfl rfl (fun hv7 => ?_)
    refine V_bipush (v := 48) dX4_readsNumber_25 (by decide) ?_
    obtain ⟨hv8, E⟩ := mmK_e E
    refine V_isub dX4_readsNumber_27 ?_
    refine V_put (ci := 4) (k := 10) (N := 12) (T := TX4) (x := ((q2.2.1 57 ((q2.2.1 51 9)).toNat) - 48)) (ty := .int) tyX4 dX4_readsNumber_28 iuX4 tyX4_ok nmX4 fl_X4_105 rfl (by decide) rfl sh_51 rfl (by decide +kernel) rfl rfl hv8 ?_
    refine V_aload_n 0 dX4_readsNumber_31 rfl ?_
    refine V_dupa dX4_readsNumber_32 ?_
    refine V_geti (ci := 4) (k := 9) (N := 12) (T := TX4) (v := (q2.2.1 51 9)) dX4_readsNumber_33 iuX4 fl_X4_98 rfl (by decide) rfl sh_51 rfl (fun hv9 => ?_)
    refine V_iconst dX4_readsNumber_36 rfl ?_
    obtain ⟨hv10, E⟩ := mmK_e E
    refine V_iadd dX4_readsNumber_37 ?_
    refine V_put (ci := 4) (k := 9) (N := 12) (T := TX4) (x := ((q2.2.1 51 9) + 1)) (ty := .int) tyX4 dX4_readsNumber_38 iuX4 tyX4_ok nmX4 fl_X4_98 rfl (by decide) rfl sh_51 rfl (by decide +kernel) rfl rfl hv10 ?_
    refine V_sub [0, 2] rfl ?_
    exact ok_X4_readsNumber_L41 mmFU _ _ hr2 E
  · replace E := mmI_t c4 E
    refine V_iconst dX4_readsNumber_13 rfl ?_
    obtain rfl := Option.some.inj E
    exact V_reti dX4_readsNumber_14 ⟨rfl, rfl, (Or.inl rfl)⟩
theorem ct_X4_readsNumber {l1 : Int} {l2 : Int} {m : Mem} {r : Int × Mem} (hr1 : inR l1) (hr2 : inR l2) (E : f_X4_readsNumber l1 l2 m = some r) : CTi yX4_readsNumber cX4_readsNumber 3 (some .boolean) rm_X4_readsNumber [.ref 51, vi l1, vi l2] m r := CT_z (by decide +kernel) rfl (Nat.le_of_ble_eq_true rfl) (ok_X4_readsNumber _ _ _ hr1 hr2 E)
theorem hy_X4_readsNumber : yX4_readsNumber.cls = RX4 ∧ yX4_readsNumber.cls ≠ "java/lang/invoke/MethodHandle" ∧ yX4_readsNumber.cls ≠ "java/lang/invoke/VarHandle" ∧ (parseMethodDescriptor yX4_readsNumber.desc).map (fun d => d.parameters.length) = some 2 := by decide +kernel
abbrev rm_X4_readsName : Room := { frames := 2, cells := 0, slots := 0, locals := 47 }
noncomputable def f_X4_readsName_L7 : Nat → Int → Mem → Option (Int × Mem)
  | 0, _, _ => none
  | n + 1, l1, m =>
    if 2 ≤ l1 then
(some (1, m))
else
((f_X4_isHere 65 90 m).bind (fun q2 => if q2.1 = 0 then
(some (0, q2.2))
else
(mmK (inR (26 * (q2.2.1 51 10))) (mmK (0 ≤ (q2.2.1 51 9) ∧ (q2.2.1 51 9) < 60) (mmK (inR ((26 * (q2.2.1 51 10)) + (q2.2.1 57 ((q2.2.1 51 9)).toNat))) (mmK (inR (((26 * (q2.2.1 51 10)) + (q2.2.1 57 ((q2.2.1 51 9)).toNat)) - 65)) (mmK (inR ((q2.2.1 51 9) + 1)) (mmK (inR (l1 + 1)) (f_X4_readsName_L7 n (l1 + 1) (mwr (mwr q2.2 51 10 (((26 * (q2.2.1 51 10)) + (q2.2.1 57 ((q2.2.1 51 9)).toNat)) - 65)) 51 9 ((q2.2.1 51 9) + 1)))))))))))
set_option maxRecDepth 100000 in
set_option maxHeartbeats 4000000 in
theorem ok_X4_readsName_L7 {r : Int × Mem} : ∀ (n : Nat), ∀ (l1 : Int) (m : Mem), inR l1 → f_X4_readsName_L7 n l1 m = some r → VV RX4 cX4_readsName 2 rm_X4_readsName mmG0 (mmPz r) 7 [(0, .ref 51), (1, vi l1)] [] m := by
  intro n
  induction n with
  | zero =>
    intro l1 m hr1 E
    cases E
  | succ n ih =>
    intro l1 m hr1 E
    rw [f_X4_readsName_L7] at E
    refine V_iload_n 1 dX4_readsName_7 rfl ?_
    refine V_iconst dX4_readsName_8 rfl ?_
    refine V_icmp_ge 65 dX4_readsName_9 (by decide) hr1 ir_2 (fun c1 => ?_) (fun c1 => ?_)
    · replace E := mmI_t c1 E
      refine V_iconst dX4_readsName_65 rfl ?_
      obtain rfl := Option.some.inj E
      exact V_reti dX4_readsName_66 ⟨rfl, rfl, (Or.inr rfl)⟩
    · replace E := mmI_f c1 E
      refine V_aload_n 0 dX4_readsName_12 rfl ?_
      refine V_bipush (v := 65) dX4_readsName_13 (by decide) ?_
      refine V_bipush (v := 90) dX4_readsName_15 (by decide) ?_
      obtain ⟨q2, hq2, E⟩ := mmB_e E
      refine V_callV (ci := 4) (q := (RX4, TX4, 12)) (Cn := RX4) (st := []) 2 dX4_readsName_17 (ct_X4_isHere ir_65 ir_90 hq2) ml_X4_101 im_X4_isHere sl_X4_isHere it_X4 cd_X4_isHere hy_X4_isHere ⟨rfl, rfl, by decide, by decide⟩ sh_51 rfl rfl rfl rfl (Nat.le_of_ble_eq_true rfl) (fun hv3 => ?_)
      refine V_if_ne 25 dX4_readsName_20 (by decide) hv3 (fun c4 => ?_) (fun c4 => ?_)
      · replace E := mmI_f c4 E
        refine V_aload_n 0 dX4_readsName_25 rfl ?_
        refine V_bipush (v := 26) dX4_readsName_26 (by decide) ?_
        refine V_aload_n 0 dX4_readsName_28 rfl ?_
        refine V_geti (ci := 4) (k := 10) (N := 12) (T := TX4) (v := (q2.2.1 51 10)) dX4_readsName_29 iuX4 fl_X4_105 rfl (by decide) rfl sh_51 rfl (fun hv5 => ?_)
        obtain ⟨hv6, E⟩ := mmK_e E
        refine V_imul dX4_readsName_32 ?_
        refine V_aload_n 0 dX4_readsName_33 rfl ?_
        refine V_geta (ci := 4) (k := 7) (N := 12) (T := TX4) (o' := 57) dX4_readsName_34 iuX4 fl_X4_25 rfl (by decide) rfl sh_51 rfl ?_
        refine V_aload_n 0 dX4_readsName_37 rfl ?_
        refine V_geti (ci := 4) (k := 9) (N := 12) (T := TX4) (v := (q2.2.1 51 9)) dX4_readsName_38 iuX4 fl_X4_98 rfl (by decide) rfl sh_51 rfl (fun hv7 => ?_)
        obtain ⟨hv8, E⟩ := mmK_e E
        refine V_iald (n := 60) (j := ((q2.2.1 51 9)).toNat) (v := (q2.2.1 57 ((q2.2.1 51 9)).toNat)) dX4_readsName_41 sh_57 hv7 hv8 rfl rfl (fun hv9 => ?_)
        obtain ⟨hv10, E⟩ := mmK_e E
        refine V_iadd dX4_readsName_42 ?_
        refine V_bipush (v := 65) dX4_readsName_43 (by decide) ?_
        obtain ⟨hv11, E⟩ := mmK_e E
        refine V_isub dX4_readsName_45 ?_
        refine V_put (ci := 4) (k := 10) (N := 12) (T := TX4) (x := (((26 * (q2.2.1 51 10)) + (q2.2.1 57 ((q2.2.1 51 9)).toNat)) - 65)) (ty := .int) tyX4 dX4_readsName_46 iuX4 tyX4_ok nmX4 fl_X4_105 rfl (by decide) rfl sh_51 rfl (by decide +kernel) rfl rfl hv11 ?_
        refine V_aload_n 0 dX4_readsName_49 rfl ?_
        refine V_dupa dX4_readsName_50 ?_
        refine V_geti (ci := 4) (k := 9) (N := 12) (T := TX4) (v := (q2.2.1 51 9)) dX4_readsName_51 iuX4 fl_X4_98 rfl (by decide) rfl sh_51 rfl (fun hv12 => ?_)
        refine V_iconst dX4_readsName_54 rfl ?_
        obtain ⟨hv13, E⟩ := mmK_e E
        refine V_iadd dX4_readsName_55 ?_
        refine V_put (ci := 4) (k := 9) (N := 12) (T := TX4) (x := ((q2.2.1 51 9) + 1)) (ty := .int) tyX4 dX4_readsName_56 iuX4 tyX4_ok nmX4 fl_X4_98 rfl (by decide) rfl sh_51 rfl (by decide +kernel) rfl rfl hv13 ?_
        obtain ⟨hv14, E⟩ := mmK_e E
        refine V_iinc (v := (l1 + 1)) (lv' := [(0, .ref 51), (1, vi (l1 + 1))]) 1 dX4_readsName_59 rfl rfl rfl rfl ?_
        refine V_goto 7 dX4_readsName_62 (by decide) ?_
        exact ih _ _ hv14 E
      · replace E := mmI_t c4 E
        refine V_iconst dX4_readsName_23 rfl ?_
        obtain rfl := Option.some.inj E
        exact V_reti dX4_readsName_24 ⟨rfl, rfl, (Or.inl rfl)⟩
noncomputable def f_X4_readsName (m : Mem) : Option (Int × Mem) :=
  f_X4_readsName_L7 mmFU 0 (mwr m 51 10 0)
set_option maxRecDepth 100000 in
set_option maxHeartbeats 4000000 in
theorem ok_X4_readsName {r : Int × Mem} : ∀ (m : Mem), f_X4_readsName m = some r → VV RX4 cX4_readsName 2 rm_X4_readsName mmG0 (mmPz r) 0 [(0, .ref 51)] [] m := by
  intro m E
  unfold f_X4_readsName at E
  refine V_aload_n 0 dX4_readsName_0 rfl ?_
  refine V_iconst dX4_readsName_1 rfl ?_
  refine V_put (ci := 4) (k := 10) (N := 12) (T := TX4) (x := 0) (ty := .int) tyX4 dX4_readsName_2 iuX4 tyX4_ok nmX4 fl_X4_105 rfl (by decide) rfl sh_51 rfl (by decide +kernel) rfl rfl ir_0 ?_
  refine V_iconst dX4_readsName_5 rfl ?_
  refine V_istore_n (i := 1) (lv' := [(0, .ref 51), (1, vi 0)]) dX4_readsName_6 rfl rfl rfl ?_
  exact ok_X4_readsName_L7 mmFU _ _ ir_0 E
theorem ct_X4_readsName {m : Mem} {r : Int × Mem} (E : f_X4_readsName m = some r) : CTi yX4_readsName cX4_readsName 2 (some .boolean) rm_X4_readsName [.ref 51] m r := CT_z (by decide +kernel) rfl (Nat.le_of_ble_eq_true rfl) (ok_X4_readsName  _  E)
theorem hy_X4_readsName : yX4_readsName.cls = RX4 ∧ yX4_readsName.cls ≠ "java/lang/invoke/MethodHandle" ∧ yX4_readsName.cls ≠ "java/lang/invoke/VarHandle" ∧ (parseMethodDescriptor yX4_readsName.desc).map (fun d => d.parameters.length) = some 0 := by decide +kernel
abbrev rm_X4_readsAddition : Room := { frames := 3, cells := 0, slots := 0, locals := 73 }
noncomputable def f_X4_readsAddition_L111 (l1 : Int) (l2 : Int) (l3 : Int) (s0 : Int) (m : Mem) : Option (Int × Mem) :=
  if s0 = 0 then
(mmK (s0 = 0 ∨ s0 = 1) (some (s0, (mwr m 51 11 0))))
else
(if l1 = 0 then
(mmK (s0 = 0 ∨ s0 = 1) (some (s0, (mwr m 51 11 0))))
else
((f_X4_doAdd l2 l3 (m.1 51 10) m).bind (fun q23 => mmK (s0 = 0 ∨ s0 = 1) (some (s0, (mwr q23.2 51 11 q23.1))))))
set_option maxRecDepth 100000 in
set_option maxHeartbeats 4000000 in
theorem ok_X4_readsAddition_L111 {r : Int × Mem} : ∀ (l1 : Int) (l2 : Int) (l3 : Int) (s0 : Int) (m : Mem), inR l1 → inR l2 → inR l3 → inR s0 → f_X4_readsAddition_L111 l1 l2 l3 s0 m = some r → VV RX4 cX4_readsAddition 5 rm_X4_readsAddition mmG0 (mmPz r) 111 [(0, .ref 51), (1, vi l1), (2, vi l2), (3, vi l3)] [vi s0] m := by
  intro l1 l2 l3 s0 m hr1 hr2 hr3 hrs0 E
  unfold f_X4_readsAddition_L111 at E
  refine V_istore (lv' := [(0, .ref 51), (1, vi l1), (2, vi l2), (3, vi l3), (4, vi s0)]) dX4_readsAddition_111 rfl rfl ?_
  refine V_aload_n 0 dX4_readsAddition_113 rfl ?_
  refine V_iload 4 dX4_readsAddition_114 rfl ?_
  refine V_if_eq 136 dX4_readsAddition_116 (by decide) hrs0 (fun c18 => ?_) (fun c18 => ?_)
  · replace E := mmI_t c18 E
    refine V_iconst dX4_readsAddition_136 rfl ?_
    refine V_put (ci := 4) (k := 11) (N := 12) (T := TX4) (x := 0) (ty := .int) tyX4 dX4_readsAddition_137 iuX4 tyX4_ok nmX4 fl_X4_114 rfl (by decide) rfl sh_51 rfl (by decide +kernel) rfl rfl ir_0 ?_
    refine V_iload 4 dX4_readsAddition_140 rfl ?_
    obtain ⟨hz19, E⟩ := mmK_e E
    obtain rfl := Option.some.inj E
    exact V_reti dX4_readsAddition_142 ⟨rfl, rfl, hz19⟩
  · replace E := mmI_f c18 E
    refine V_iload_n 1 dX4_readsAddition_119 rfl ?_
    refine V_if_eq 136 dX4_readsAddition_120 (by decide) hr1 (fun c20 => ?_) (fun c20 => ?_)
    · replace E := mmI_t c20 E
      refine V_iconst dX4_readsAddition_136 rfl ?_
      refine V_put (ci := 4) (k := 11) (N := 12) (T := TX4) (x := 0) (ty := .int) tyX4 dX4_readsAddition_137 iuX4 tyX4_ok nmX4 fl_X4_114 rfl (by decide) rfl sh_51 rfl (by decide +kernel) rfl rfl ir_0 ?_
      refine V_iload 4 dX4_readsAddition_140 rfl ?_
      obtain ⟨hz21, E⟩ := mmK_e E
      obtain rfl := Option.some.inj E
      exact V_reti dX4_readsAddition_142 ⟨rfl, rfl, hz21⟩
    · replace E := mmI_f c20 E
      refine V_aload_n 0 dX4_readsAddition_123 rfl ?_
      refine V_iload_n 2 dX4_readsAddition_124 rfl ?_
      refine V_iload_n 3 dX4_readsAddition_125 rfl ?_
      refine V_aload_n 0 dX4_readsAddition_126 rfl ?_
      refine V_geti (ci := 4) (k := 10) (N := 12) (T := TX4) (v := (m.1 51 10)) dX4_readsAddition_127 iuX4 fl_X4_105 rfl (by decide) rfl sh_51 rfl (fun hv22 => ?_)
      obtain ⟨q23, hq23, E⟩ := mmB_e E
      refine V_callV (ci := 4) (q := (RX4, TX4, 12)) (Cn := RX4) (st := [.ref 51]) 3 dX4_readsAddition_130 (ct_X4_doAdd hr2 hr3 hv22 hq23) ml_X4_85 im_X4_doAdd sl_X4_doAdd it_X4 cd_X4_doAdd hy_X4_doAdd ⟨rfl, rfl, by decide, by decide⟩ sh_51 rfl rfl rfl rfl (Nat.le_of_ble_eq_true rfl) (fun hv24 => ?_)
      refine V_goto 137 dX4_readsAddition_133 (by decide) ?_
      refine V_put (ci := 4) (k := 11) (N := 12) (T := TX4) (x := q23.1) (ty := .int) tyX4 dX4_readsAddition_137 iuX4 tyX4_ok nmX4 fl_X4_114 rfl (by decide) rfl sh_51 rfl (by decide +kernel) rfl rfl hv24 ?_
      refine V_iload 4 dX4_readsAddition_140 rfl ?_
      obtain ⟨hz25, E⟩ := mmK_e E
      obtain rfl := Option.some.inj E
      exact V_reti dX4_readsAddition_142 ⟨rfl, rfl, hz25⟩
noncomputable def f_X4_readsAddition_L106 (l1 : Int) (l2 : Int) (l3 : Int) (m : Mem) : Option (Int × Mem) :=
  f_X4_readsAddition_L111 l1 l2 l3 1 m
set_option maxRecDepth 100000 in
set_option maxHeartbeats 4000000 in
theorem ok_X4_readsAddition_L106 {r : Int × Mem} : ∀ (l1 : Int) (l2 : Int) (l3 : Int) (m : Mem), inR l1 → inR l2 → inR l3 → f_X4_readsAddition_L106 l1 l2 l3 m = some r → VV RX4 cX4_readsAddition 5 rm_X4_readsAddition mmG0 (mmPz r) 106 [(0, .ref 51), (1, vi l1), (2, vi l2), (3, vi l3)] [] m := by
  intro l1 l2 l3 m hr1 hr2 hr3 E
  unfold f_X4_readsAddition_L106 at E
  refine V_iconst dX4_readsAddition_106 rfl ?_
  refine V_goto 111 dX4_readsAddition_107 (by decide) ?_
  exact ok_X4_readsAddition_L111 _ _ _ _ _ hr1 hr2 hr3 ir_1 E
noncomputable def f_X4_readsAddition (l1 : Int) (m : Mem) : Option (Int × Mem) :=
  (f_X4_readsName m).bind (fun q1 => if q1.1 = 0 then
(some (0, q1.2))
else
((f_X4_takes 62 q1.2).bind (fun q5 => if q5.1 = 0 then
((f_X4_takes 61 q5.2).bind (fun q8 => if q8.1 = 0 then
(some (0, q8.2))
else
((f_X4_readsNumber 1 40 q8.2).bind (fun q11 => if q11.1 = 0 then
(some (0, q11.2))
else
((f_X4_takes 44 (mwr q11.2 51 10 0)).bind (fun q15 => if q15.1 = 0 then
(f_X4_readsAddition_L106 l1 (q1.2.1 51 10) (q11.2.1 51 10) q15.2)
else
((f_X4_readsNumber 0 9999 q15.2).bind (fun q26 => if q26.1 = 0 then
(f_X4_readsAddition_L111 l1 (q1.2.1 51 10) (q11.2.1 51 10) 0 q26.2)
else
(f_X4_readsAddition_L106 l1 (q1.2.1 51 10) (q11.2.1 51 10) q26.2)))))))))
else
((f_X4_readsName q5.2).bind (fun q29 => if q29.1 = 0 then
(mmK (q29.1 = 0 ∨ q29.1 = 1) (some (q29.1, (mwr q29.2 51 11 0))))
else
(if l1 = 0 then
(mmK (q29.1 = 0 ∨ q29.1 = 1) (some (q29.1, (mwr q29.2 51 11 0))))
else
((f_X4_doAlias (q1.2.1 51 10) (q29.2.1 51 10) q29.2).bind (fun q36 => mmK (q29.1 = 0 ∨ q29.1 = 1) (some (q29.1, (mwr q36.2 51 11 q36.1)))))))))))
set_option maxRecDepth 100000 in
set_option maxHeartbeats 4000000 in
theorem ok_X4_readsAddition {r : Int × Mem} : ∀ (l1 : Int) (m : Mem), inR l1 → f_X4_readsAddition l1 m = some r → VV RX4 cX4_readsAddition 5 rm_X4_readsAddition mmG0 (mmPz r) 0 [(0, .ref 51), (1, vi l1)] [] m := by
  intro l1 m hr1 E
  unfold f_X4_readsAddition at E
  refine V_aload_n 0 dX4_readsAddition_0 rfl ?_
  obtain ⟨q1, hq1, E⟩ := mmB_e E
  refine V_callV (ci := 4) (q := (RX4, TX4, 12)) (Cn := RX4) (st := []) 0 dX4_readsAddition_1 (ct_X4_readsName hq1) ml_X4_108 im_X4_readsName sl_X4_readsName it_X4 cd_X4_readsName hy_X4_readsName ⟨rfl, rfl, by decide, by decide⟩ sh_51 rfl rfl rfl rfl (Nat.le_of_ble_eq_true rfl) (fun hv2 => ?_)
  refine V_if_ne 9 dX4_readsAddition_4 (by decide) hv2 (fun c3 => ?_) (fun c3 => ?_)
  · replace E := mmI_f c3 E
    refine V_aload_n 0 dX4_readsAddition_9 rfl ?_
    refine V_geti (ci := 4) (k := 10) (N := 12) (T := TX4) (v := (q1.2.1 51 10)) dX4_readsAddition_10 iuX4 fl_X4_105 rfl (by decide) rfl sh_51 rfl (fun hv4 => ?_)
    refine V_istore_n (i := 2) (lv' := [(0, .ref 51), (1, vi l1), (2, vi (q1.2.1 51 10))]) dX4_readsAddition_13 rfl rfl rfl ?_
    refine V_aload_n 0 dX4_readsAddition_14 rfl ?_
    refine V_bipush (v := 62) dX4_readsAddition_15 (by decide) ?_
    obtain ⟨q5, hq5, E⟩ := mmB_e E
    refine V_callV (ci := 4) (q := (RX4, TX4, 12)) (Cn := RX4) (st := []) 1 dX4_readsAddition_17 (ct_X4_takes ir_62 hq5) ml_X4_111 im_X4_takes sl_X4_takes it_X4 cd_X4_takes hy_X4_takes ⟨rfl, rfl, by decide, by decide⟩ sh_51 rfl rfl rfl rfl (Nat.le_of_ble_eq_true rfl) (fun hv6 => ?_)
    refine V_if_eq 55 dX4_readsAddition_20 (by decide) hv6 (fun c7 => ?_) (fun c7 => ?_)
    · replace E := mmI_t c7 E
      refine V_aload_n 0 dX4_readsAddition_55 rfl ?_
      refine V_bipush (v := 61) dX4_readsAddition_56 (by decide) ?_
      obtain ⟨q8, hq8, E⟩ := mmB_e E
      refine V_callV (ci := 4) (q := (RX4, TX4, 12)) (Cn := RX4) (st := []) 1 dX4_readsAddition_58 (ct_X4_takes ir_61 hq8) ml_X4_111 im_X4_takes sl_X4_takes it_X4 cd_X4_takes hy_X4_takes ⟨rfl, rfl, by decide, by decide⟩ sh_51 rfl rfl rfl rfl (Nat.le_of_ble_eq_true rfl) (fun hv9 => ?_)
      refine V_if_eq 74 dX4_readsAddition_61 (by decide) hv9 (fun c10 => ?_) (fun c10 => ?_)
      · replace E := mmI_t c10 E
        refine V_iconst dX4_readsAddition_74 rfl ?_
        obtain rfl := Option.some.inj E
        exact V_reti dX4_readsAddition_75 ⟨rfl, rfl, (Or.inl rfl)⟩
      · replace E := mmI_f c10 E
        refine V_aload_n 0 dX4_readsAddition_64 rfl ?_
        refine V_iconst dX4_readsAddition_65 rfl ?_
        refine V_bipush (v := 40) dX4_readsAddition_66 (by decide) ?_
        obtain ⟨q11, hq11, E⟩ := mmB_e E
        refine V_callV (ci := 4) (q := (RX4, TX4, 12)) (Cn := RX4) (st := []) 2 dX4_readsAddition_68 (ct_X4_readsNumber ir_1 ir_40 hq11) ml_X4_117 im_X4_readsNumber sl_X4_readsNumber it_X4 cd_X4_readsNumber hy_X4_readsNumber ⟨rfl, rfl, by decide, by decide⟩ sh_51 rfl rfl rfl rfl (Nat.le_of_ble_eq_true rfl) (fun hv12 => ?_)
        refine V_if_ne 76 dX4_readsAddition_71 (by decide) hv12 (fun c13 => ?_) (fun c13 => ?_)
        · replace E := mmI_f c13 E
          refine V_aload_n 0 dX4_readsAddition_76 rfl ?_
          refine V_geti (ci := 4) (k := 10) (N := 12) (T := TX4) (v := (q11.2.1 51 10)) dX4_readsAddition_77 iuX4 fl_X4_105 rfl (by decide) rfl sh_51 rfl (fun hv14 => ?_)
          refine V_istore_n (i := 3) (lv' := [(0, .ref 51), (1, vi l1), (2, vi (q1.2.1 51 10)), (3, vi (q11.2.1 51 10))]) dX4_readsAddition_80 rfl rfl rfl ?_
          refine V_aload_n 0 dX4_readsAddition_81 rfl ?_
          refine V_iconst dX4_readsAddition_82 rfl ?_
          refine V_put (ci := 4) (k := 10) (N := 12) (T := TX4) (x := 0) (ty := .int) tyX4 dX4_readsAddition_83 iuX4 tyX4_ok nmX4 fl_X4_105 rfl (by decide) rfl sh_51 rfl (by decide +kernel) rfl rfl ir_0 ?_
          refine V_aload_n 0 dX4_readsAddition_86 rfl ?_
          refine V_bipush (v := 44) dX4_readsAddition_87 (by decide) ?_
          obtain ⟨q15, hq15, E⟩ := mmB_e E
          refine V_callV (ci := 4) (q := (RX4, TX4, 12)) (Cn := RX4) (st := []) 1 dX4_readsAddition_89 (ct_X4_takes ir_44 hq15) ml_X4_111 im_X4_takes sl_X4_takes it_X4 cd_X4_takes hy_X4_takes ⟨rfl, rfl, by decide, by decide⟩ sh_51 rfl rfl rfl rfl (Nat.le_of_ble_eq_true rfl) (fun hv16 => ?_)
          refine V_if_eq 106 dX4_readsAddition_92 (by decide) hv16 (fun c17 => ?_) (fun c17 => ?_)
          · replace E := mmI_t c17 E
            exact ok_X4_readsAddition_L106 _ _ _ _ hr1 hv4 hv14 E
          · replace E := mmI_f c17 E
            refine V_aload_n 0 dX4_readsAddition_95 rfl ?_
            refine V_iconst dX4_readsAddition_96 rfl ?_
            refine V_sipush (v := 9999) dX4_readsAddition_97 (by decide) ?_
            obtain ⟨q26, hq26, E⟩ := mmB_e E
            refine V_callV (ci := 4) (q := (RX4, TX4, 12)) (Cn := RX4) (st := []) 2 dX4_readsAddition_100 (ct_X4_readsNumber ir_0 ir_9999 hq26) ml_X4_117 im_X4_readsNumber sl_X4_readsNumber it_X4 cd_X4_readsNumber hy_X4_readsNumber ⟨rfl, rfl, by decide, by decide⟩ sh_51 rfl rfl rfl rfl (Nat.le_of_ble_eq_true rfl) (fun hv27 => ?_)
            refine V_if_eq 110 dX4_readsAddition_103 (by decide) hv27 (fun c28 => ?_) (fun c28 => ?_)
            · replace E := mmI_t c28 E
              refine V_iconst dX4_readsAddition_110 rfl ?_
              exact ok_X4_readsAddition_L111 _ _ _ _ _ hr1 hv4 hv14 ir_0 E
            · replace E := mmI_f c28 E
              exact ok_X4_readsAddition_L106 _ _ _ _ hr1 hv4 hv14 E
        · replace E := mmI_t c13 E
          refine V_iconst dX4_readsAddition_74 rfl ?_
          obtain rfl := Option.some.inj E
          exact V_reti dX4_readsAddition_75 ⟨rfl, rfl, (Or.inl rfl)⟩
    · replace E := mmI_f c7 E
      refine V_aload_n 0 dX4_readsAddition_23 rfl ?_
      obtain ⟨q29, hq29, E⟩ := mmB_e E
      refine V_callV (ci := 4) (q := (RX4, TX4, 12)) (Cn := RX4) (st := []) 0 dX4_readsAddition_24 (ct_X4_readsName hq29) ml_X4_108 im_X4_readsName sl_X4_readsName it_X4 cd_X4_readsName hy_X4_readsName ⟨rfl, rfl, by decide, by decide⟩ sh_51 rfl rfl rfl rfl (Nat.le_of_ble_eq_true rfl) (fun hv30 => ?_)
      refine V_istore_n (i := 3) (lv' := [(0, .ref 51), (1, vi l1), (2, vi (q1.2.1 51 10)), (3, vi q29.1)]) dX4_readsAddition_27 rfl rfl rfl ?_
      refine V_aload_n 0 dX4_readsAddition_28 rfl ?_
      refine V_iload_n 3 dX4_readsAddition_29 rfl ?_
      refine V_if_eq 49 dX4_readsAddition_30 (by decide) hv30 (fun c31 => ?_) (fun c31 => ?_)
      · replace E := mmI_t c31 E
        refine V_iconst dX4_readsAddition_49 rfl ?_
        refine V_put (ci := 4) (k := 11) (N := 12) (T := TX4) (x := 0) (ty := .int) tyX4 dX4_readsAddition_50 iuX4 tyX4_ok nmX4 fl_X4_114 rfl (by decide) rfl sh_51 rfl (by decide +kernel) rfl rfl ir_0 ?_
        refine V_iload_n 3 dX4_readsAddition_53 rfl ?_
        obtain ⟨hz32, E⟩ := mmK_e E
        obtain rfl := Option.some.inj E
        exact V_reti dX4_readsAddition_54 ⟨rfl, rfl, hz32⟩
      · replace E := mmI_f c31 E
        refine V_iload_n 1 dX4_readsAddition_33 rfl ?_
        refine V_if_eq 49 dX4_readsAddition_34 (by decide) hr1 (fun c33 => ?_) (fun c33 => ?_)
        · replace E := mmI_t c33 E
          refine V_iconst dX4_readsAddition_49 rfl ?_
          refine V_put (ci := 4) (k := 11) (N := 12) (T := TX4) (x := 0) (ty := .int) tyX4 dX4_readsAddition_50 iuX4 tyX4_ok nmX4 fl_X4_114 rfl (by decide) rfl sh_51 rfl (by decide +kernel) rfl rfl ir_0 ?_
          refine V_iload_n 3 dX4_readsAddition_53 rfl ?_
          obtain ⟨hz34, E⟩ := mmK_e E
          obtain rfl := Option.some.inj E
          exact V_reti dX4_readsAddition_54 ⟨rfl, rfl, hz34⟩
        · replace E := mmI_f c33 E
          refine V_aload_n 0 dX4_readsAddition_37 rfl ?_
          refine V_iload_n 2 dX4_readsAddition_38 rfl ?_
          refine V_aload_n 0 dX4_readsAddition_39 rfl ?_
          refine V_geti (ci := 4) (k := 10) (N := 12) (T := TX4) (v := (q29.2.1 51 10)) dX4_readsAddition_40 iuX4 fl_X4_105 rfl (by decide) rfl sh_51 rfl (fun hv35 => ?_)
          obtain ⟨q36, hq36, E⟩ := mmB_e E
          refine V_callV (ci := 4) (q := (RX4, TX4, 12)) (Cn := RX4) (st := [.ref 51]) 2 dX4_readsAddition_43 (ct_X4_doAlias hv4 hv35 hq36) ml_X4_92 im_X4_doAlias sl_X4_doAlias it_X4 cd_X4_doAlias hy_X4_doAlias ⟨rfl, rfl, by decide, by decide⟩ sh_51 rfl rfl rfl rfl (Nat.le_of_ble_eq_true rfl) (fun hv37 => ?_)
          refine V_goto 50 dX4_readsAddition_46 (by decide) ?_
          refine V_put (ci := 4) (k := 11) (N := 12) (T := TX4) (x := q36.1) (ty := .int) tyX4 dX4_readsAddition_50 iuX4 tyX4_ok nmX4 fl_X4_114 rfl (by decide) rfl sh_51 rfl (by decide +kernel) rfl rfl hv37 ?_
          refine V_iload_n 3 dX4_readsAddition_53 rfl ?_
          obtain ⟨hz38, E⟩ := mmK_e E
          obtain rfl := Option.some.inj E
          exact V_reti dX4_readsAddition_54 ⟨rfl, rfl, hz38⟩
  · replace E := mmI_t c3 E
    refine V_iconst dX4_readsAddition_7 rfl ?_
    obtain rfl := Option.some.inj E
    exact V_reti dX4_readsAddition_8 ⟨rfl, rfl, (Or.inl rfl)⟩
theorem ct_X4_readsAddition {l1 : Int} {m : Mem} {r : Int × Mem} (hr1 : inR l1) (E : f_X4_readsAddition l1 m = some r) : CTi yX4_readsAddition cX4_readsAddition 5 (some .boolean) rm_X4_readsAddition [.ref 51, vi l1] m r := CT_z (by decide +kernel) rfl (Nat.le_of_ble_eq_true rfl) (ok_X4_readsAddition _ _ hr1 E)
theorem hy_X4_readsAddition : yX4_readsAddition.cls = RX4 ∧ yX4_readsAddition.cls ≠ "java/lang/invoke/MethodHandle" ∧ yX4_readsAddition.cls ≠ "java/lang/invoke/VarHandle" ∧ (parseMethodDescriptor yX4_readsAddition.desc).map (fun d => d.parameters.length) = some 1 := by decide +kernel
abbrev rm_X4_fault : Room := { frames := 4, cells := 0, slots := 0, locals := 97 }
noncomputable def f_X4_fault_L7 : Nat → Int → Mem → Option (Int × Mem)
  | 0, _, _ => none
  | n + 1, l1, m =>
    if l1 = 0 then
(if (m.1 51 9) = (m.1 51 8) then
(some ((-5), m))
else
(some ((m.1 51 9), m)))
else
((f_X4_readsAddition 0 m).bind (fun q6 => if q6.1 = 0 then
(some ((q6.2.1 51 9), q6.2))
else
((f_X4_takes 59 q6.2).bind (fun q9 => f_X4_fault_L7 n q9.1 q9.2))))
set_option maxRecDepth 100000 in
set_option maxHeartbeats 4000000 in
theorem ok_X4_fault_L7 {r : Int × Mem} : ∀ (n : Nat), ∀ (l1 : Int) (m : Mem), inR l1 → f_X4_fault_L7 n l1 m = some r → VV RX4 cX4_fault 2 rm_X4_fault mmG0 (mmPi r) 7 [(0, .ref 51), (1, vi l1)] [] m := by
  intro n
  induction n with
  | zero =>
    intro l1 m hr1 E
    cases E
  | succ n ih =>
    intro l1 m hr1 E
    rw [f_X4_fault_L7] at E
    refine V_iload_n 1 dX4_fault_7 rfl ?_
    refine V_if_eq 34 dX4_fault_8 (by decide) hr1 (fun c1 => ?_) (fun c1 => ?_)
    · replace E := mmI_t c1 E
      refine V_aload_n 0 dX4_fault_34 rfl ?_
      refine V_geti (ci := 4) (k := 9) (N := 12) (T := TX4) (v := (m.1 51 9)) dX4_fault_35 iuX4 fl_X4_98 rfl (by decide) rfl sh_51 rfl (fun hv2 => ?_)
      refine V_aload_n 0 dX4_fault_38 rfl ?_
      refine V_geti (ci := 4) (k := 8) (N := 12) (T := TX4) (v := (m.1 51 8)) dX4_fault_39 iuX4 fl_X4_95 rfl (by decide) rfl sh_51 rfl (fun hv3 => ?_)
      refine V_icmp_ne 50 dX4_fault_42 (by decide) hv2 hv3 (fun c4 => ?_) (fun c4 => ?_)
      · replace E := mmI_f c4 E
        refine V_aload_n 0 dX4_fault_50 rfl ?_
        refine V_geti (ci := 4) (k := 9) (N := 12) (T := TX4) (v := (m.1 51 9)) dX4_fault_51 iuX4 fl_X4_98 rfl (by decide) rfl sh_51 rfl (fun hv5 => ?_)
        obtain rfl := Option.some.inj E
        exact V_reti dX4_fault_54 ⟨rfl, rfl, hv5⟩
      · replace E := mmI_t c4 E
        refine V_bipush (v := (-5)) dX4_fault_45 (by decide) ?_
        refine V_goto 54 dX4_fault_47 (by decide) ?_
        obtain rfl := Option.some.inj E
        exact V_reti dX4_fault_54 ⟨rfl, rfl, ir_m5⟩
    · replace E := mmI_f c1 E
      refine V_aload_n 0 dX4_fault_11 rfl ?_
      refine V_iconst dX4_fault_12 rfl ?_
      obtain ⟨q6, hq6, E⟩ := mmB_e E
      refine V_callV (ci := 4) (q := (RX4, TX4, 12)) (Cn := RX4) (st := []) 1 dX4_fault_13 (ct_X4_readsAddition ir_0 hq6) ml_X4_120 im_X4_readsAddition sl_X4_readsAddition it_X4 cd_X4_readsAddition hy_X4_readsAddition ⟨rfl, rfl, by decide, by decide⟩ sh_51 rfl rfl rfl rfl (Nat.le_of_ble_eq_true rfl) (fun hv7 => ?_)
      refine V_if_ne 24 dX4_fault_16 (by decide) hv7 (fun c8 => ?_) (fun c8 => ?_)
      · replace E := mmI_f c8 E
        refine V_aload_n 0 dX4_fault_24 rfl ?_
        refine V_bipush (v := 59) dX4_fault_25 (by decide) ?_
        obtain ⟨q9, hq9, E⟩ := mmB_e E
        refine V_callV (ci := 4) (q := (RX4, TX4, 12)) (Cn := RX4) (st := []) 1 dX4_fault_27 (ct_X4_takes ir_59 hq9) ml_X4_111 im_X4_takes sl_X4_takes it_X4 cd_X4_takes hy_X4_takes ⟨rfl, rfl, by decide, by decide⟩ sh_51 rfl rfl rfl rfl (Nat.le_of_ble_eq_true rfl) (fun hv10 => ?_)
        refine V_istore_n (i := 1) (lv' := [(0, .ref 51), (1, vi q9.1)]) dX4_fault_30 rfl rfl rfl ?_
        refine V_goto 7 dX4_fault_31 (by decide) ?_
        exact ih _ _ hv10 E
      · replace E := mmI_t c8 E
        refine V_aload_n 0 dX4_fault_19 rfl ?_
        refine V_geti (ci := 4) (k := 9) (N := 12) (T := TX4) (v := (q6.2.1 51 9)) dX4_fault_20 iuX4 fl_X4_98 rfl (by decide) rfl sh_51 rfl (fun hv11 => ?_)
        obtain rfl := Option.some.inj E
        exact V_reti dX4_fault_23 ⟨rfl, rfl, hv11⟩
noncomputable def f_X4_fault (m : Mem) : Option (Int × Mem) :=
  f_X4_fault_L7 mmFU 1 (mwr m 51 9 0)
set_option maxRecDepth 100000 in
set_option maxHeartbeats 4000000 in
theorem ok_X4_fault {r : Int × Mem} : ∀ (m : Mem), f_X4_fault m = some r → VV RX4 cX4_fault 2 rm_X4_fault mmG0 (mmPi r) 0 [(0, .ref 51)] [] m := by
  intro m E
  unfold f_X4_fault at E
  refine V_aload_n 0 dX4_fault_0 rfl ?_
  refine V_iconst dX4_fault_1 rfl ?_
  refine V_put (ci := 4) (k := 9) (N := 12) (T := TX4) (x := 0) (ty := .int) tyX4 dX4_fault_2 iuX4 tyX4_ok nmX4 fl_X4_98 rfl (by decide) rfl sh_51 rfl (by decide +kernel) rfl rfl ir_0 ?_
  refine V_iconst dX4_fault_5 rfl ?_
  refine V_istore_n (i := 1) (lv' := [(0, .ref 51), (1, vi 1)]) dX4_fault_6 rfl rfl rfl ?_
  exact ok_X4_fault_L7 mmFU _ _ ir_1 E
theorem ct_X4_fault {m : Mem} {r : Int × Mem} (E : f_X4_fault m = some r) : CTi yX4_fault cX4_fault 2 (some .int) rm_X4_fault [.ref 51] m r := CT_i (by decide +kernel) rfl (Nat.le_of_ble_eq_true rfl) (ok_X4_fault  _  E)
theorem hy_X4_fault : yX4_fault.cls = RX4 ∧ yX4_fault.cls ≠ "java/lang/invoke/MethodHandle" ∧ yX4_fault.cls ≠ "java/lang/invoke/VarHandle" ∧ (parseMethodDescriptor yX4_fault.desc).map (fun d => d.parameters.length) = some 0 := by decide +kernel
abbrev rm_X4_addAll : Room := { frames := 5, cells := 0, slots := 0, locals := 118 }
noncomputable def f_X4_addAll_L59 : Nat → Int → Mem → Option (Int × Mem)
  | 0, _, _ => none
  | n + 1, l5, m =>
    if 149 ≤ l5 then
(some ((m.1 51 11), m))
else
(mmK (0 ≤ l5 ∧ l5 < 149) (mmK (0 ≤ l5 ∧ l5 < 149) (mmK (inR (l5 + 1)) (f_X4_addAll_L59 n (l5 + 1) (mwr m 52 (l5).toNat (m.1 53 (l5).toNat))))))
set_option maxRecDepth 100000 in
set_option maxHeartbeats 4000000 in
theorem ok_X4_addAll_L59 {r : Int × Mem} : ∀ (n : Nat), ∀ (l5 : Int) (m : Mem), inR l5 → f_X4_addAll_L59 n l5 m = some r → VV RX4 cX4_addAll 6 rm_X4_addAll mmG0 (mmPi r) 59 [(0, .ref 51), (5, vi l5)] [] m := by
  intro n
  induction n with
  | zero =>
    intro l5 m hr5 E
    cases E
  | succ n ih =>
    intro l5 m hr5 E
    rw [f_X4_addAll_L59] at E
    refine V_iload 1 dX4_addAll_59 rfl ?_
    refine V_sipush (v := 149) dX4_addAll_61 (by decide) ?_
    refine V_icmp_ge 87 dX4_addAll_64 (by decide) hr5 ir_149 (fun c21 => ?_) (fun c21 => ?_)
    · replace E := mmI_t c21 E
      refine V_aload_n 0 dX4_addAll_87 rfl ?_
      refine V_geti (ci := 4) (k := 11) (N := 12) (T := TX4) (v := (m.1 51 11)) dX4_addAll_88 iuX4 fl_X4_114 rfl (by decide) rfl sh_51 rfl (fun hv22 => ?_)
      obtain rfl := Option.some.inj E
      exact V_reti dX4_addAll_91 ⟨rfl, rfl, hv22⟩
    · replace E := mmI_f c21 E
      refine V_aload_n 0 dX4_addAll_67 rfl ?_
      refine V_geta (ci := 4) (k := 0) (N := 12) (T := TX4) (o' := 52) dX4_addAll_68 iuX4 fl_X4_7 rfl (by decide) rfl sh_51 rfl ?_
      refine V_iload 1 dX4_addAll_71 rfl ?_
      refine V_aload_n 0 dX4_addAll_73 rfl ?_
      refine V_geta (ci := 4) (k := 1) (N := 12) (T := TX4) (o' := 53) dX4_addAll_74 iuX4 fl_X4_13 rfl (by decide) rfl sh_51 rfl ?_
      refine V_iload 1 dX4_addAll_77 rfl ?_
      obtain ⟨hv23, E⟩ := mmK_e E
      refine V_iald (n := 149) (j := (l5).toNat) (v := (m.1 53 (l5).toNat)) dX4_addAll_79 sh_53 hr5 hv23 rfl rfl (fun hv24 => ?_)
      obtain ⟨hv25, E⟩ := mmK_e E
      refine V_iast (n := 149) (j := (l5).toNat) dX4_addAll_80 sh_52 hr5 hv24 hv25 rfl ?_
      obtain ⟨hv26, E⟩ := mmK_e E
      refine V_iinc (v := (l5 + 1)) (lv' := [(0, .ref 51), (5, vi (l5 + 1))]) 1 dX4_addAll_81 rfl rfl rfl rfl ?_
      refine V_goto 59 dX4_addAll_84 (by decide) ?_
      exact ih _ _ hv26 E
noncomputable def f_X4_addAll_L29 : Nat → Int → Int → Mem → Option (Int × Mem)
  | 0, _, _, _ => none
  | n + 1, l2, l3, m =>
    if l3 = 0 then
((f_X4_acted l2 m).bind (fun q7 => some (q7.1, q7.2)))
else
((f_X4_readsAddition 1 m).bind (fun q9 => if 0 ≤ (q9.2.1 51 11) then
(mmK (inR (l2 + 1)) ((f_X4_takes 59 q9.2).bind (fun q14 => f_X4_addAll_L29 n (l2 + 1) q14.1 q14.2)))
else
(if (q9.2.1 51 11) = (-5) then
(mmK (inR (l2 + 1)) ((f_X4_takes 59 q9.2).bind (fun q19 => f_X4_addAll_L29 n (l2 + 1) q19.1 q19.2)))
else
(f_X4_addAll_L59 mmFU 0 q9.2))))
set_option maxRecDepth 100000 in
set_option maxHeartbeats 4000000 in
theorem ok_X4_addAll_L29 {r : Int × Mem} : ∀ (n : Nat), ∀ (l2 : Int) (l3 : Int) (m : Mem), inR l2 → inR l3 → f_X4_addAll_L29 n l2 l3 m = some r → VV RX4 cX4_addAll 6 rm_X4_addAll mmG0 (mmPi r) 29 [(0, .ref 51), (2, vi l2), (3, vi l3)] [] m := by
  intro n
  induction n with
  | zero =>
    intro l2 l3 m hr2 hr3 E
    cases E
  | succ n ih =>
    intro l2 l3 m hr2 hr3 E
    rw [f_X4_addAll_L29] at E
    refine V_iload_n 2 dX4_addAll_29 rfl ?_
    refine V_if_eq 105 dX4_addAll_30 (by decide) hr3 (fun c6 => ?_) (fun c6 => ?_)
    · replace E := mmI_t c6 E
      refine V_aload_n 0 dX4_addAll_105 rfl ?_
      refine V_iload_n 1 dX4_addAll_106 rfl ?_
      obtain ⟨q7, hq7, E⟩ := mmB_e E
      refine V_callV (ci := 4) (q := (RX4, TX4, 12)) (Cn := RX4) (st := []) 1 dX4_addAll_107 (ct_X4_acted hr2 hq7) ml_X4_89 im_X4_acted sl_X4_acted it_X4 cd_X4_acted hy_X4_acted ⟨rfl, rfl, by decide, by decide⟩ sh_51 rfl rfl rfl rfl (Nat.le_of_ble_eq_true rfl) (fun hv8 => ?_)
      obtain rfl := Option.some.inj E
      exact V_reti dX4_addAll_110 ⟨rfl, rfl, hv8⟩
    · replace E := mmI_f c6 E
      refine V_aload_n 0 dX4_addAll_33 rfl ?_
      refine V_iconst dX4_addAll_34 rfl ?_
      obtain ⟨q9, hq9, E⟩ := mmB_e E
      refine V_callV (ci := 4) (q := (RX4, TX4, 12)) (Cn := RX4) (st := []) 1 dX4_addAll_35 (ct_X4_readsAddition ir_1 hq9) ml_X4_120 im_X4_readsAddition sl_X4_readsAddition it_X4 cd_X4_readsAddition hy_X4_readsAddition ⟨rfl, rfl, by decide, by decide⟩ sh_51 rfl rfl rfl rfl (Nat.le_of_ble_eq_true rfl) (fun hv10 => ?_)
      refine V_istore (lv' := [(0, .ref 51), (2, vi l2), (3, vi l3), (4, vi q9.1)]) dX4_addAll_38 rfl rfl ?_
      refine V_aload_n 0 dX4_addAll_40 rfl ?_
      refine V_geti (ci := 4) (k := 11) (N := 12) (T := TX4) (v := (q9.2.1 51 11)) dX4_addAll_41 iuX4 fl_X4_114 rfl (by decide) rfl sh_51 rfl (fun hv11 => ?_)
      refine V_if_ge 92 dX4_addAll_44 (by decide) hv11 (fun c12 => ?_) (fun c12 => ?_)
      · replace E := mmI_t c12 E
        obtain ⟨hv13, E⟩ := mmK_e E
        refine V_iinc (v := (l2 + 1)) (lv' := [(0, .ref 51), (2, vi (l2 + 1)), (3, vi l3), (4, vi q9.1)]) 1 dX4_addAll_92 rfl rfl rfl rfl ?_
        refine V_aload_n 0 dX4_addAll_95 rfl ?_
        refine V_bipush (v := 59) dX4_addAll_96 (by decide) ?_
        obtain ⟨q14, hq14, E⟩ := mmB_e E
        refine V_callV (ci := 4) (q := (RX4, TX4, 12)) (Cn := RX4) (st := []) 1 dX4_addAll_98 (ct_X4_takes ir_59 hq14) ml_X4_111 im_X4_takes sl_X4_takes it_X4 cd_X4_takes hy_X4_takes ⟨rfl, rfl, by decide, by decide⟩ sh_51 rfl rfl rfl rfl (Nat.le_of_ble_eq_true rfl) (fun hv15 => ?_)
        refine V_istore_n (i := 3) (lv' := [(0, .ref 51), (2, vi (l2 + 1)), (3, vi q14.1), (4, vi q9.1)]) dX4_addAll_101 rfl rfl rfl ?_
        refine V_goto 29 dX4_addAll_102 (by decide) ?_
        refine V_sub [0, 1, 2] rfl ?_
        exact ih _ _ _ hv13 hv15 E
      · replace E := mmI_f c12 E
        refine V_aload_n 0 dX4_addAll_47 rfl ?_
        refine V_geti (ci := 4) (k := 11) (N := 12) (T := TX4) (v := (q9.2.1 51 11)) dX4_addAll_48 iuX4 fl_X4_114 rfl (by decide) rfl sh_51 rfl (fun hv16 => ?_)
        refine V_bipush (v := (-5)) dX4_addAll_51 (by decide) ?_
        refine V_icmp_eq 92 dX4_addAll_53 (by decide) hv16 ir_m5 (fun c17 => ?_) (fun c17 => ?_)
        · replace E := mmI_t c17 E
          obtain ⟨hv18, E⟩ := mmK_e E
          refine V_iinc (v := (l2 + 1)) (lv' := [(0, .ref 51), (2, vi (l2 + 1)), (3, vi l3), (4, vi q9.1)]) 1 dX4_addAll_92 rfl rfl rfl rfl ?_
          refine V_aload_n 0 dX4_addAll_95 rfl ?_
          refine V_bipush (v := 59) dX4_addAll_96 (by decide) ?_
          obtain ⟨q19, hq19, E⟩ := mmB_e E
          refine V_callV (ci := 4) (q := (RX4, TX4, 12)) (Cn := RX4) (st := []) 1 dX4_addAll_98 (ct_X4_takes ir_59 hq19) ml_X4_111 im_X4_takes sl_X4_takes it_X4 cd_X4_takes hy_X4_takes ⟨rfl, rfl, by decide, by decide⟩ sh_51 rfl rfl rfl rfl (Nat.le_of_ble_eq_true rfl) (fun hv20 => ?_)
          refine V_istore_n (i := 3) (lv' := [(0, .ref 51), (2, vi (l2 + 1)), (3, vi q19.1), (4, vi q9.1)]) dX4_addAll_101 rfl rfl rfl ?_
          refine V_goto 29 dX4_addAll_102 (by decide) ?_
          refine V_sub [0, 1, 2] rfl ?_
          exact ih _ _ _ hv18 hv20 E
        · replace E := mmI_f c17 E
          refine V_iconst dX4_addAll_56 rfl ?_
          refine V_istore (lv' := [(0, .ref 51), (2, vi l2), (3, vi l3), (4, vi q9.1), (5, vi 0)]) dX4_addAll_57 rfl rfl ?_
          refine V_sub [0, 4] rfl ?_
          exact ok_X4_addAll_L59 mmFU _ _ ir_0 E
noncomputable def f_X4_addAll (m : Mem) : Option (Int × Mem) :=
  (f_X4_fault m).bind (fun q1 => if q1.1 = (-5) then
((f_X4_remember q1.2).bind (fun q4 => f_X4_addAll_L29 mmFU 0 1 (mwr q4 51 9 0)))
else
(mmK (inR ((-100) - q1.1)) (some (((-100) - q1.1), q1.2))))
set_option maxRecDepth 100000 in
set_option maxHeartbeats 4000000 in
theorem ok_X4_addAll {r : Int × Mem} : ∀ (m : Mem), f_X4_addAll m = some r → VV RX4 cX4_addAll 6 rm_X4_addAll mmG0 (mmPi r) 0 [(0, .ref 51)] [] m := by
  intro m E
  unfold f_X4_addAll at E
  refine V_aload_n 0 dX4_addAll_0 rfl ?_
  obtain ⟨q1, hq1, E⟩ := mmB_e E
  refine V_callV (ci := 4) (q := (RX4, TX4, 12)) (Cn := RX4) (st := []) 0 dX4_addAll_1 (ct_X4_fault hq1) ml_X4_124 im_X4_fault sl_X4_fault it_X4 cd_X4_fault hy_X4_fault ⟨rfl, rfl, by decide, by decide⟩ sh_51 rfl rfl rfl rfl (Nat.le_of_ble_eq_true rfl) (fun hv2 => ?_)
  refine V_istore_n (i := 1) (lv' := [(0, .ref 51), (1, vi q1.1)]) dX4_addAll_4 rfl rfl rfl ?_
  refine V_iload_n 1 dX4_addAll_5 rfl ?_
  refine V_bipush (v := (-5)) dX4_addAll_6 (by decide) ?_
  refine V_icmp_eq 16 dX4_addAll_8 (by decide) hv2 ir_m5 (fun c3 => ?_) (fun c3 => ?_)
  · replace E := mmI_t c3 E
    refine V_aload_n 0 dX4_addAll_16 rfl ?_
    obtain ⟨q4, hq4, E⟩ := mmB_e E
    refine V_callVv (ci := 4) (q := (RX4, TX4, 12)) (Cn := RX4) (st := []) 0 dX4_addAll_17 (ct_X4_remember hq4) ml_X4_82 im_X4_remember sl_X4_remember it_X4 cd_X4_remember hy_X4_remember ⟨rfl, rfl, by decide, by decide⟩ sh_51 rfl rfl rfl rfl (Nat.le_of_ble_eq_true rfl) ?_
    refine V_aload_n 0 dX4_addAll_20 rfl ?_
    refine V_iconst dX4_addAll_21 rfl ?_
    refine V_put (ci := 4) (k := 9) (N := 12) (T := TX4) (x := 0) (ty := .int) tyX4 dX4_addAll_22 iuX4 tyX4_ok nmX4 fl_X4_98 rfl (by decide) rfl sh_51 rfl (by decide +kernel) rfl rfl ir_0 ?_
    refine V_iconst dX4_addAll_25 rfl ?_
    refine V_istore_n (i := 2) (lv' := [(0, .ref 51), (1, vi q1.1), (2, vi 0)]) dX4_addAll_26 rfl rfl rfl ?_
    refine V_iconst dX4_addAll_27 rfl ?_
    refine V_istore_n (i := 3) (lv' := [(0, .ref 51), (1, vi q1.1), (2, vi 0), (3, vi 1)]) dX4_addAll_28 rfl rfl rfl ?_
    refine V_sub [0, 2, 3] rfl ?_
    exact ok_X4_addAll_L29 mmFU _ _ _ ir_0 ir_1 E
  · replace E := mmI_f c3 E
    refine V_bipush (v := (-100)) dX4_addAll_11 (by decide) ?_
    refine V_iload_n 1 dX4_addAll_13 rfl ?_
    obtain ⟨hv27, E⟩ := mmK_e E
    refine V_isub dX4_addAll_14 ?_
    obtain rfl := Option.some.inj E
    exact V_reti dX4_addAll_15 ⟨rfl, rfl, hv27⟩
theorem ct_X4_addAll {m : Mem} {r : Int × Mem} (E : f_X4_addAll m = some r) : CTi yX4_addAll cX4_addAll 6 (some .int) rm_X4_addAll [.ref 51] m r := CT_i (by decide +kernel) rfl (Nat.le_of_ble_eq_true rfl) (ok_X4_addAll  _  E)
theorem hy_X4_addAll : yX4_addAll.cls = RX4 ∧ yX4_addAll.cls ≠ "java/lang/invoke/MethodHandle" ∧ yX4_addAll.cls ≠ "java/lang/invoke/VarHandle" ∧ (parseMethodDescriptor yX4_addAll.desc).map (fun d => d.parameters.length) = some 0 := by decide +kernel
abbrev rm_X4_squeeze : Room := { frames := 3, cells := 0, slots := 0, locals := 72 }
noncomputable def f_X4_squeeze (m : Mem) : Option (Int × Mem) :=
  (f_X4_living 1 m).bind (fun q1 => if q1.1 = (q1.2.1 52 2) then
(some ((-5), q1.2))
else
((f_X4_remember q1.2).bind (fun q6 => (f_X4_squeezes q6).bind (fun q8 => (f_X4_acted q8.1 q8.2).bind (fun q10 => some (q10.1, q10.2))))))
set_option maxRecDepth 100000 in
set_option maxHeartbeats 4000000 in
theorem ok_X4_squeeze {r : Int × Mem} : ∀ (m : Mem), f_X4_squeeze m = some r → VV RX4 cX4_squeeze 1 rm_X4_squeeze mmG0 (mmPi r) 0 [(0, .ref 51)] [] m := by
  intro m E
  unfold f_X4_squeeze at E
  refine V_aload_n 0 dX4_squeeze_0 rfl ?_
  refine V_iconst dX4_squeeze_1 rfl ?_
  obtain ⟨q1, hq1, E⟩ := mmB_e E
  refine V_callV (ci := 4) (q := (RX4, TX4, 12)) (Cn := RX4) (st := []) 1 dX4_squeeze_2 (ct_X4_living ir_1 hq1) ml_X4_127 im_X4_living sl_X4_living it_X4 cd_X4_living hy_X4_living ⟨rfl, rfl, by decide, by decide⟩ sh_51 rfl rfl rfl rfl (Nat.le_of_ble_eq_true rfl) (fun hv2 => ?_)
  refine V_aload_n 0 dX4_squeeze_5 rfl ?_
  refine V_geta (ci := 4) (k := 0) (N := 12) (T := TX4) (o' := 52) dX4_squeeze_6 iuX4 fl_X4_7 rfl (by decide) rfl sh_51 rfl ?_
  refine V_iconst dX4_squeeze_9 rfl ?_
  refine V_iald (n := 149) (j := 2) (v := (q1.2.1 52 2)) dX4_squeeze_10 sh_52 ir_2 (by decide) rfl rfl (fun hv4 => ?_)
  refine V_icmp_ne 17 dX4_squeeze_11 (by decide) hv2 hv4 (fun c5 => ?_) (fun c5 => ?_)
  · replace E := mmI_f c5 E
    refine V_aload_n 0 dX4_squeeze_17 rfl ?_
    obtain ⟨q6, hq6, E⟩ := mmB_e E
    refine V_callVv (ci := 4) (q := (RX4, TX4, 12)) (Cn := RX4) (st := []) 0 dX4_squeeze_18 (ct_X4_remember hq6) ml_X4_82 im_X4_remember sl_X4_remember it_X4 cd_X4_remember hy_X4_remember ⟨rfl, rfl, by decide, by decide⟩ sh_51 rfl rfl rfl rfl (Nat.le_of_ble_eq_true rfl) ?_
    refine V_aload_n 0 dX4_squeeze_21 rfl ?_
    refine V_aload_n 0 dX4_squeeze_22 rfl ?_
    obtain ⟨q8, hq8, E⟩ := mmB_e E
    refine V_callV (ci := 4) (q := (RX4, TX4, 12)) (Cn := RX4) (st := [.ref 51]) 0 dX4_squeeze_23 (ct_X4_squeezes hq8) ml_X4_131 im_X4_squeezes sl_X4_squeezes it_X4 cd_X4_squeezes hy_X4_squeezes ⟨rfl, rfl, by decide, by decide⟩ sh_51 rfl rfl rfl rfl (Nat.le_of_ble_eq_true rfl) (fun hv9 => ?_)
    obtain ⟨q10, hq10, E⟩ := mmB_e E
    refine V_callV (ci := 4) (q := (RX4, TX4, 12)) (Cn := RX4) (st := []) 1 dX4_squeeze_26 (ct_X4_acted hv9 hq10) ml_X4_89 im_X4_acted sl_X4_acted it_X4 cd_X4_acted hy_X4_acted ⟨rfl, rfl, by decide, by decide⟩ sh_51 rfl rfl rfl rfl (Nat.le_of_ble_eq_true rfl) (fun hv11 => ?_)
    obtain rfl := Option.some.inj E
    exact V_reti dX4_squeeze_29 ⟨rfl, rfl, hv11⟩
  · replace E := mmI_t c5 E
    refine V_bipush (v := (-5)) dX4_squeeze_14 (by decide) ?_
    obtain rfl := Option.some.inj E
    exact V_reti dX4_squeeze_16 ⟨rfl, rfl, ir_m5⟩
theorem ct_X4_squeeze {m : Mem} {r : Int × Mem} (E : f_X4_squeeze m = some r) : CTi yX4_squeeze cX4_squeeze 1 (some .int) rm_X4_squeeze [.ref 51] m r := CT_i (by decide +kernel) rfl (Nat.le_of_ble_eq_true rfl) (ok_X4_squeeze  _  E)
theorem hy_X4_squeeze : yX4_squeeze.cls = RX4 ∧ yX4_squeeze.cls ≠ "java/lang/invoke/MethodHandle" ∧ yX4_squeeze.cls ≠ "java/lang/invoke/VarHandle" ∧ (parseMethodDescriptor yX4_squeeze.desc).map (fun d => d.parameters.length) = some 0 := by decide +kernel
