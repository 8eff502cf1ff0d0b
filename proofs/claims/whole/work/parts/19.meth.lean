abbrev rm_X4_makeAnew : Room := { frames := 3, cells := 0, slots := 0, locals := 72 }
noncomputable def f_X4_makeAnew (l1 : Int) (m : Mem) : Option (Int × Mem) :=
  (f_X4_in l1 1 6 m).bind (fun q1 => if q1.1 = 0 then
(some ((-2), q1.2))
else
(mmK (inR (4 * l1)) (if (q1.2.1 52 0) ≤ (4 * l1) then
(if (q1.2.1 52 1) = l1 then
(some ((-5), q1.2))
else
((f_X4_remember q1.2).bind (fun q11 => (f_X4_squeezes (mwr q11 52 1 l1)).bind (fun q14 => (f_X4_acted (q1.2.1 52 1) q14.2).bind (fun q16 => some (q16.1, q16.2))))))
else
(some ((-6), q1.2)))))
set_option maxRecDepth 100000 in
set_option maxHeartbeats 4000000 in
theorem ok_X4_makeAnew {r : Int × Mem} : ∀ (l1 : Int) (m : Mem), inR l1 → f_X4_makeAnew l1 m = some r → VV RX4 cX4_makeAnew 4 rm_X4_makeAnew mmG0 (mmPi r) 0 [(0, .ref 51), (1, vi l1)] [] m := by
  intro l1 m hr1 E
  unfold f_X4_makeAnew at E
  refine V_iload_n 1 dX4_makeAnew_0 rfl ?_
  refine V_i2l dX4_makeAnew_1 hr1 ?_
  refine V_lconst (v := 1) dX4_makeAnew_2 (by decide) ?_
  refine V_ldc2 (v := 6) dX4_makeAnew_3 kl_X4_134 (by decide) ?_
  obtain ⟨q1, hq1, E⟩ := mmB_e E
  refine V_callS (st := []) 3 dX4_makeAnew_6 (ct_X4_in (inRL hr1) (by decide) (by decide) hq1) ml_X4_34 st_X4_in it_X4 cd_X4_in hz_X4_in ⟨rfl, rfl, by decide, by decide⟩ rfl rfl (Nat.le_of_ble_eq_true rfl) (fun hv2 => ?_)
  refine V_if_ne 15 dX4_makeAnew_9 (by decide) hv2 (fun c3 => ?_) (fun c3 => ?_)
  · replace E := mmI_f c3 E
    refine V_aload_n 0 dX4_makeAnew_15 rfl ?_
    refine V_geta (ci := 4) (k := 0) (N := 12) (T := TX4) (o' := 52) dX4_makeAnew_16 iuX4 fl_X4_7 rfl (by decide) rfl sh_51 rfl ?_
    refine V_iconst dX4_makeAnew_19 rfl ?_
    refine V_iald (n := 149) (j := 0) (v := (q1.2.1 52 0)) dX4_makeAnew_20 sh_52 ir_0 (by decide) rfl rfl (fun hv5 => ?_)
    refine V_iconst dX4_makeAnew_21 rfl ?_
    refine V_iload_n 1 dX4_makeAnew_22 rfl ?_
    obtain ⟨hv6, E⟩ := mmK_e E
    refine V_imul dX4_makeAnew_23 ?_
    refine V_icmp_le 30 dX4_makeAnew_24 (by decide) hv5 hv6 (fun c7 => ?_) (fun c7 => ?_)
    · replace E := mmI_t c7 E
      refine V_aload_n 0 dX4_makeAnew_30 rfl ?_
      refine V_geta (ci := 4) (k := 0) (N := 12) (T := TX4) (o' := 52) dX4_makeAnew_31 iuX4 fl_X4_7 rfl (by decide) rfl sh_51 rfl ?_
      refine V_iconst dX4_makeAnew_34 rfl ?_
      refine V_iald (n := 149) (j := 1) (v := (q1.2.1 52 1)) dX4_makeAnew_35 sh_52 ir_1 (by decide) rfl rfl (fun hv9 => ?_)
      refine V_istore_n (i := 2) (lv' := [(0, .ref 51), (1, vi l1), (2, vi (q1.2.1 52 1))]) dX4_makeAnew_36 rfl rfl rfl ?_
      refine V_iload_n 2 dX4_makeAnew_37 rfl ?_
      refine V_iload_n 1 dX4_makeAnew_38 rfl ?_
      refine V_icmp_ne 45 dX4_makeAnew_39 (by decide) hv9 hr1 (fun c10 => ?_) (fun c10 => ?_)
      · replace E := mmI_f c10 E
        refine V_aload_n 0 dX4_makeAnew_45 rfl ?_
        obtain ⟨q11, hq11, E⟩ := mmB_e E
        refine V_callVv (ci := 4) (q := (RX4, TX4, 12)) (Cn := RX4) (st := []) 0 dX4_makeAnew_46 (ct_X4_remember hq11) ml_X4_82 im_X4_remember sl_X4_remember it_X4 cd_X4_remember hy_X4_remember ⟨rfl, rfl, by decide, by decide⟩ sh_51 rfl rfl rfl rfl (Nat.le_of_ble_eq_true rfl) ?_
        refine V_aload_n 0 dX4_makeAnew_49 rfl ?_
        refine V_geta (ci := 4) (k := 0) (N := 12) (T := TX4) (o' := 52) dX4_makeAnew_50 iuX4 fl_X4_7 rfl (by decide) rfl sh_51 rfl ?_
        refine V_iconst dX4_makeAnew_53 rfl ?_
        refine V_iload_n 1 dX4_makeAnew_54 rfl ?_
        refine V_iast (n := 149) (j := 1) dX4_makeAnew_55 sh_52 ir_1 hr1 (by decide) rfl ?_
        refine V_aload_n 0 dX4_makeAnew_56 rfl ?_
        obtain ⟨q14, hq14, E⟩ := mmB_e E
        refine V_callV (ci := 4) (q := (RX4, TX4, 12)) (Cn := RX4) (st := []) 0 dX4_makeAnew_57 (ct_X4_squeezes hq14) ml_X4_131 im_X4_squeezes sl_X4_squeezes it_X4 cd_X4_squeezes hy_X4_squeezes ⟨rfl, rfl, by decide, by decide⟩ sh_51 rfl rfl rfl rfl (Nat.le_of_ble_eq_true rfl) (fun hv15 => ?_)
        refine V_istore_n (i := 3) (lv' := [(0, .ref 51), (1, vi l1), (2, vi (q1.2.1 52 1)), (3, vi q14.1)]) dX4_makeAnew_60 rfl rfl rfl ?_
        refine V_aload_n 0 dX4_makeAnew_61 rfl ?_
        refine V_iload_n 2 dX4_makeAnew_62 rfl ?_
        obtain ⟨q16, hq16, E⟩ := mmB_e E
        refine V_callV (ci := 4) (q := (RX4, TX4, 12)) (Cn := RX4) (st := []) 1 dX4_makeAnew_63 (ct_X4_acted hv9 hq16) ml_X4_89 im_X4_acted sl_X4_acted it_X4 cd_X4_acted hy_X4_acted ⟨rfl, rfl, by decide, by decide⟩ sh_51 rfl rfl rfl rfl (Nat.le_of_ble_eq_true rfl) (fun hv17 => ?_)
        obtain rfl := Option.some.inj E
        exact V_reti dX4_makeAnew_66 ⟨rfl, rfl, hv17⟩
      · replace E := mmI_t c10 E
        refine V_bipush (v := (-5)) dX4_makeAnew_42 (by decide) ?_
        obtain rfl := Option.some.inj E
        exact V_reti dX4_makeAnew_44 ⟨rfl, rfl, ir_m5⟩
    · replace E := mmI_f c7 E
      refine V_bipush (v := (-6)) dX4_makeAnew_27 (by decide) ?_
      obtain rfl := Option.some.inj E
      exact V_reti dX4_makeAnew_29 ⟨rfl, rfl, ir_m6⟩
  · replace E := mmI_t c3 E
    refine V_bipush (v := (-2)) dX4_makeAnew_12 (by decide) ?_
    obtain rfl := Option.some.inj E
    exact V_reti dX4_makeAnew_14 ⟨rfl, rfl, ir_m2⟩
theorem ct_X4_makeAnew {l1 : Int} {m : Mem} {r : Int × Mem} (hr1 : inR l1) (E : f_X4_makeAnew l1 m = some r) : CTi yX4_makeAnew cX4_makeAnew 4 (some .int) rm_X4_makeAnew [.ref 51, vi l1] m r := CT_i (by decide +kernel) rfl (Nat.le_of_ble_eq_true rfl) (ok_X4_makeAnew _ _ hr1 E)
theorem hy_X4_makeAnew : yX4_makeAnew.cls = RX4 ∧ yX4_makeAnew.cls ≠ "java/lang/invoke/MethodHandle" ∧ yX4_makeAnew.cls ≠ "java/lang/invoke/VarHandle" ∧ (parseMethodDescriptor yX4_makeAnew.desc).map (fun d => d.parameters.length) = some 1 := by decide +kernel
abbrev rm_X4_undo : Room := { frames := 0, cells := 0, slots := 0, locals := 0 }
noncomputable def f_X4_undo_L22 : Nat → Int → Mem → Option (Int × Mem)
  | 0, _, _ => none
  | n + 1, l1, m =>
    if 149 ≤ l1 then
(some ((m.1 51 3), m))
else
(mmK (inR (149 * (m.1 51 3))) (mmK (inR ((149 * (m.1 51 3)) + l1)) (mmK (0 ≤ ((149 * (m.1 51 3)) + l1) ∧ ((149 * (m.1 51 3)) + l1) < 596) (mmK (0 ≤ l1 ∧ l1 < 149) (mmK (inR (l1 + 1)) (f_X4_undo_L22 n (l1 + 1) (mwr m 52 (l1).toNat (m.1 54 (((149 * (m.1 51 3)) + l1)).toNat))))))))
set_option maxRecDepth 100000 in
set_option maxHeartbeats 4000000 in
theorem ok_X4_undo_L22 {r : Int × Mem} : ∀ (n : Nat), ∀ (l1 : Int) (m : Mem), inR l1 → f_X4_undo_L22 n l1 m = some r → VV RX4 cX4_undo 2 rm_X4_undo mmG0 (mmPi r) 22 [(0, .ref 51), (1, vi l1)] [] m := by
  intro n
  induction n with
  | zero =>
    intro l1 m hr1 E
    cases E
  | succ n ih =>
    intro l1 m hr1 E
    rw [f_X4_undo_L22] at E
    refine V_iload_n 1 dX4_undo_22 rfl ?_
    refine V_sipush (v := 149) dX4_undo_23 (by decide) ?_
    refine V_icmp_ge 56 dX4_undo_26 (by decide) hr1 ir_149 (fun c5 => ?_) (fun c5 => ?_)
    · replace E := mmI_t c5 E
      refine V_aload_n 0 dX4_undo_56 rfl ?_
      refine V_geti (ci := 4) (k := 3) (N := 12) (T := TX4) (v := (m.1 51 3)) dX4_undo_57 iuX4 fl_X4_28 rfl (by decide) rfl sh_51 rfl (fun hv6 => ?_)
      obtain rfl := Option.some.inj E
      exact V_reti dX4_undo_60 ⟨rfl, rfl, hv6⟩
    · replace E := mmI_f c5 E
      refine V_aload_n 0 dX4_undo_29 rfl ?_
      refine V_geta (ci := 4) (k := 0) (N := 12) (T := TX4) (o' := 52) dX4_undo_30 iuX4 fl_X4_7 rfl (by decide) rfl sh_51 rfl ?_
      refine V_iload_n 1 dX4_undo_33 rfl ?_
      refine V_aload_n 0 dX4_undo_34 rfl ?_
      refine V_geta (ci := 4) (k := 2) (N := 12) (T := TX4) (o' := 54) dX4_undo_35 iuX4 fl_X4_16 rfl (by decide) rfl sh_51 rfl ?_
      refine V_sipush (v := 149) dX4_undo_38 (by decide) ?_
      refine V_aload_n 0 dX4_undo_41 rfl ?_
      refine V_geti (ci := 4) (k := 3) (N := 12) (T := TX4) (v := (m.1 51 3)) dX4_undo_42 iuX4 fl_X4_28 rfl (by decide) rfl sh_51 rfl (fun hv7 => ?_)
      obtain ⟨hv8, E⟩ := mmK_e E
      refine V_imul dX4_undo_45 ?_
      refine V_iload_n 1 dX4_undo_46 rfl ?_
      obtain ⟨hv9, E⟩ := mmK_e E
      refine V_iadd dX4_undo_47 ?_
      obtain ⟨hv10, E⟩ := mmK_e E
      refine V_iald (n := 596) (j := (((149 * (m.1 51 3)) + l1)).toNat) (v := (m.1 54 (((149 * (m.1 51 3)) + l1)).toNat)) dX4_undo_48 sh_54 hv9 hv10 rfl rfl (fun hv11 => ?_)
      obtain ⟨hv12, E⟩ := mmK_e E
      refine V_iast (n := 149) (j := (l1).toNat) dX4_undo_49 sh_52 hr1 hv11 hv12 rfl ?_
      obtain ⟨hv13, E⟩ := mmK_e E
      refine V_iinc (v := (l1 + 1)) (lv' := [(0, .ref 51), (1, vi (l1 + 1))]) 1 dX4_undo_50 rfl rfl rfl rfl ?_
      refine V_goto 22 dX4_undo_53 (by decide) ?_
      exact ih _ _ hv13 E
noncomputable def f_X4_undo (m : Mem) : Option (Int × Mem) :=
  if (m.1 51 3) = 0 then
(some ((-5), m))
else
(mmK (inR ((m.1 51 3) - 1)) (f_X4_undo_L22 mmFU 0 (mwr m 51 3 ((m.1 51 3) - 1))))
set_option maxRecDepth 100000 in
set_option maxHeartbeats 4000000 in
theorem ok_X4_undo {r : Int × Mem} : ∀ (m : Mem), f_X4_undo m = some r → VV RX4 cX4_undo 2 rm_X4_undo mmG0 (mmPi r) 0 [(0, .ref 51)] [] m := by
  intro m E
  unfold f_X4_undo at E
  refine V_aload_n 0 dX4_undo_0 rfl ?_
  refine V_geti (ci := 4) (k := 3) (N := 12) (T := TX4) (v := (m.1 51 3)) dX4_undo_1 iuX4 fl_X4_28 rfl (by decide) rfl sh_51 rfl (fun hv1 => ?_)
  refine V_if_ne 10 dX4_undo_4 (by decide) hv1 (fun c2 => ?_) (fun c2 => ?_)
  · replace E := mmI_f c2 E
    refine V_aload_n 0 dX4_undo_10 rfl ?_
    refine V_dupa dX4_undo_11 ?_
    refine V_geti (ci := 4) (k := 3) (N := 12) (T := TX4) (v := (m.1 51 3)) dX4_undo_12 iuX4 fl_X4_28 rfl (by decide) rfl sh_51 rfl (fun hv3 => ?_)
    refine V_iconst dX4_undo_15 rfl ?_
    obtain ⟨hv4, E⟩ := mmK_e E
    refine V_isub dX4_undo_16 ?_
    refine V_put (ci := 4) (k := 3) (N := 12) (T := TX4) (x := ((m.1 51 3) - 1)) (ty := .int) tyX4 dX4_undo_17 iuX4 tyX4_ok nmX4 fl_X4_28 rfl (by decide) rfl sh_51 rfl (by decide +kernel) rfl rfl hv4 ?_
    refine V_iconst dX4_undo_20 rfl ?_
    refine V_istore_n (i := 1) (lv' := [(0, .ref 51), (1, vi 0)]) dX4_undo_21 rfl rfl rfl ?_
    exact ok_X4_undo_L22 mmFU _ _ ir_0 E
  · replace E := mmI_t c2 E
    refine V_bipush (v := (-5)) dX4_undo_7 (by decide) ?_
    obtain rfl := Option.some.inj E
    exact V_reti dX4_undo_9 ⟨rfl, rfl, ir_m5⟩
theorem ct_X4_undo {m : Mem} {r : Int × Mem} (E : f_X4_undo m = some r) : CTi yX4_undo cX4_undo 2 (some .int) rm_X4_undo [.ref 51] m r := CT_i (by decide +kernel) rfl (Nat.le_of_ble_eq_true rfl) (ok_X4_undo  _  E)
theorem hy_X4_undo : yX4_undo.cls = RX4 ∧ yX4_undo.cls ≠ "java/lang/invoke/MethodHandle" ∧ yX4_undo.cls ≠ "java/lang/invoke/VarHandle" ∧ (parseMethodDescriptor yX4_undo.desc).map (fun d => d.parameters.length) = some 0 := by decide +kernel
abbrev rm_X4_keep : Room := { frames := 0, cells := 0, slots := 0, locals := 0 }
noncomputable def f_X4_keep_L2 : Nat → Int → Mem → Option (Int × Mem)
  | 0, _, _ => none
  | n + 1, l1, m =>
    if 149 ≤ l1 then
(some ((m.1 52 0), (mwr m 51 5 1)))
else
(mmK (0 ≤ l1 ∧ l1 < 149) (mmK (0 ≤ l1 ∧ l1 < 149) (mmK (inR (l1 + 1)) (f_X4_keep_L2 n (l1 + 1) (mwr m 55 (l1).toNat (m.1 52 (l1).toNat))))))
set_option maxRecDepth 100000 in
set_option maxHeartbeats 4000000 in
theorem ok_X4_keep_L2 {r : Int × Mem} : ∀ (n : Nat), ∀ (l1 : Int) (m : Mem), inR l1 → f_X4_keep_L2 n l1 m = some r → VV RX4 cX4_keep 2 rm_X4_keep mmG0 (mmPi r) 2 [(0, .ref 51), (1, vi l1)] [] m := by
  intro n
  induction n with
  | zero =>
    intro l1 m hr1 E
    cases E
  | succ n ih =>
    intro l1 m hr1 E
    rw [f_X4_keep_L2] at E
    refine V_iload_n 1 dX4_keep_2 rfl ?_
    refine V_sipush (v := 149) dX4_keep_3 (by decide) ?_
    refine V_icmp_ge 27 dX4_keep_6 (by decide) hr1 ir_149 (fun c1 => ?_) (fun c1 => ?_)
    · replace E := mmI_t c1 E
      refine V_aload_n 0 dX4_keep_27 rfl ?_
      refine V_iconst dX4_keep_28 rfl ?_
      refine V_put (ci := 4) (k := 5) (N := 12) (T := TX4) (x := 1) (ty := .int) tyX4 dX4_keep_29 iuX4 tyX4_ok nmX4 fl_X4_136 rfl (by decide) rfl sh_51 rfl (by decide +kernel) rfl rfl ir_1 ?_
      refine V_aload_n 0 dX4_keep_32 rfl ?_
      refine V_geta (ci := 4) (k := 0) (N := 12) (T := TX4) (o' := 52) dX4_keep_33 iuX4 fl_X4_7 rfl (by decide) rfl sh_51 rfl ?_
      refine V_iconst dX4_keep_36 rfl ?_
      refine V_iald (n := 149) (j := 0) (v := (m.1 52 0)) dX4_keep_37 sh_52 ir_0 (by decide) rfl rfl (fun hv3 => ?_)
      obtain rfl := Option.some.inj E
      exact V_reti dX4_keep_38 ⟨rfl, rfl, hv3⟩
    · replace E := mmI_f c1 E
      refine V_aload_n 0 dX4_keep_9 rfl ?_
      refine V_geta (ci := 4) (k := 4) (N := 12) (T := TX4) (o' := 55) dX4_keep_10 iuX4 fl_X4_19 rfl (by decide) rfl sh_51 rfl ?_
      refine V_iload_n 1 dX4_keep_13 rfl ?_
      refine V_aload_n 0 dX4_keep_14 rfl ?_
      refine V_geta (ci := 4) (k := 0) (N := 12) (T := TX4) (o' := 52) dX4_keep_15 iuX4 fl_X4_7 rfl (by decide) rfl sh_51 rfl ?_
      refine V_iload_n 1 dX4_keep_18 rfl ?_
      obtain ⟨hv4, E⟩ := mmK_e E
      refine V_iald (n := 149) (j := (l1).toNat) (v := (m.1 52 (l1).toNat)) dX4_keep_19 sh_52 hr1 hv4 rfl rfl (fun hv5 => ?_)
      obtain ⟨hv6, E⟩ := mmK_e E
      refine V_iast (n := 149) (j := (l1).toNat) dX4_keep_20 sh_55 hr1 hv5 hv6 rfl ?_
      obtain ⟨hv7, E⟩ := mmK_e E
      refine V_iinc (v := (l1 + 1)) (lv' := [(0, .ref 51), (1, vi (l1 + 1))]) 1 dX4_keep_21 rfl rfl rfl rfl ?_
      refine V_goto 2 dX4_keep_24 (by decide) ?_
      exact ih _ _ hv7 E
noncomputable def f_X4_keep (m : Mem) : Option (Int × Mem) :=
  f_X4_keep_L2 mmFU 0 m
set_option maxRecDepth 100000 in
set_option maxHeartbeats 4000000 in
theorem ok_X4_keep {r : Int × Mem} : ∀ (m : Mem), f_X4_keep m = some r → VV RX4 cX4_keep 2 rm_X4_keep mmG0 (mmPi r) 0 [(0, .ref 51)] [] m := by
  intro m E
  unfold f_X4_keep at E
  refine V_iconst dX4_keep_0 rfl ?_
  refine V_istore_n (i := 1) (lv' := [(0, .ref 51), (1, vi 0)]) dX4_keep_1 rfl rfl rfl ?_
  exact ok_X4_keep_L2 mmFU _ _ ir_0 E
theorem ct_X4_keep {m : Mem} {r : Int × Mem} (E : f_X4_keep m = some r) : CTi yX4_keep cX4_keep 2 (some .int) rm_X4_keep [.ref 51] m r := CT_i (by decide +kernel) rfl (Nat.le_of_ble_eq_true rfl) (ok_X4_keep  _  E)
theorem hy_X4_keep : yX4_keep.cls = RX4 ∧ yX4_keep.cls ≠ "java/lang/invoke/MethodHandle" ∧ yX4_keep.cls ≠ "java/lang/invoke/VarHandle" ∧ (parseMethodDescriptor yX4_keep.desc).map (fun d => d.parameters.length) = some 0 := by decide +kernel
abbrev rm_X4_restore : Room := { frames := 1, cells := 0, slots := 0, locals := 22 }
noncomputable def f_X4_restore_L16 : Nat → Int → Mem → Option (Int × Mem)
  | 0, _, _ => none
  | n + 1, l1, m =>
    if 149 ≤ l1 then
((f_X4_acted (m.1 52 0) m).bind (fun q8 => some (q8.1, q8.2)))
else
(mmK (0 ≤ l1 ∧ l1 < 149) (mmK (0 ≤ l1 ∧ l1 < 149) (mmK (inR (l1 + 1)) (f_X4_restore_L16 n (l1 + 1) (mwr m 52 (l1).toNat (m.1 55 (l1).toNat))))))
set_option maxRecDepth 100000 in
set_option maxHeartbeats 4000000 in
theorem ok_X4_restore_L16 {r : Int × Mem} : ∀ (n : Nat), ∀ (l1 : Int) (m : Mem), inR l1 → f_X4_restore_L16 n l1 m = some r → VV RX4 cX4_restore 2 rm_X4_restore mmG0 (mmPi r) 16 [(0, .ref 51), (1, vi l1)] [] m := by
  intro n
  induction n with
  | zero =>
    intro l1 m hr1 E
    cases E
  | succ n ih =>
    intro l1 m hr1 E
    rw [f_X4_restore_L16] at E
    refine V_iload_n 1 dX4_restore_16 rfl ?_
    refine V_sipush (v := 149) dX4_restore_17 (by decide) ?_
    refine V_icmp_ge 41 dX4_restore_20 (by decide) hr1 ir_149 (fun c5 => ?_) (fun c5 => ?_)
    · replace E := mmI_t c5 E
      refine V_aload_n 0 dX4_restore_41 rfl ?_
      refine V_aload_n 0 dX4_restore_42 rfl ?_
      refine V_geta (ci := 4) (k := 0) (N := 12) (T := TX4) (o' := 52) dX4_restore_43 iuX4 fl_X4_7 rfl (by decide) rfl sh_51 rfl ?_
      refine V_iconst dX4_restore_46 rfl ?_
      refine V_iald (n := 149) (j := 0) (v := (m.1 52 0)) dX4_restore_47 sh_52 ir_0 (by decide) rfl rfl (fun hv7 => ?_)
      obtain ⟨q8, hq8, E⟩ := mmB_e E
      refine V_callV (ci := 4) (q := (RX4, TX4, 12)) (Cn := RX4) (st := []) 1 dX4_restore_48 (ct_X4_acted hv7 hq8) ml_X4_89 im_X4_acted sl_X4_acted it_X4 cd_X4_acted hy_X4_acted ⟨rfl, rfl, by decide, by decide⟩ sh_51 rfl rfl rfl rfl (Nat.le_of_ble_eq_true rfl) (fun hv9 => ?_)
      obtain rfl := Option.some.inj E
      exact V_reti dX4_restore_51 ⟨rfl, rfl, hv9⟩
    · replace E := mmI_f c5 E
      refine V_aload_n 0 dX4_restore_23 rfl ?_
      refine V_geta (ci := 4) (k := 0) (N := 12) (T := TX4) (o' := 52) dX4_restore_24 iuX4 fl_X4_7 rfl (by decide) rfl sh_51 rfl ?_
      refine V_iload_n 1 dX4_restore_27 rfl ?_
      refine V_aload_n 0 dX4_restore_28 rfl ?_
      refine V_geta (ci := 4) (k := 4) (N := 12) (T := TX4) (o' := 55) dX4_restore_29 iuX4 fl_X4_19 rfl (by decide) rfl sh_51 rfl ?_
      refine V_iload_n 1 dX4_restore_32 rfl ?_
      obtain ⟨hv10, E⟩ := mmK_e E
      refine V_iald (n := 149) (j := (l1).toNat) (v := (m.1 55 (l1).toNat)) dX4_restore_33 sh_55 hr1 hv10 rfl rfl (fun hv11 => ?_)
      obtain ⟨hv12, E⟩ := mmK_e E
      refine V_iast (n := 149) (j := (l1).toNat) dX4_restore_34 sh_52 hr1 hv11 hv12 rfl ?_
      obtain ⟨hv13, E⟩ := mmK_e E
      refine V_iinc (v := (l1 + 1)) (lv' := [(0, .ref 51), (1, vi (l1 + 1))]) 1 dX4_restore_35 rfl rfl rfl rfl ?_
      refine V_goto 16 dX4_restore_38 (by decide) ?_
      exact ih _ _ hv13 E
noncomputable def f_X4_restore (m : Mem) : Option (Int × Mem) :=
  if (m.1 51 5) = 0 then
(some ((-5), m))
else
((f_X4_remember m).bind (fun q3 => f_X4_restore_L16 mmFU 0 q3))
set_option maxRecDepth 100000 in
set_option maxHeartbeats 4000000 in
theorem ok_X4_restore {r : Int × Mem} : ∀ (m : Mem), f_X4_restore m = some r → VV RX4 cX4_restore 2 rm_X4_restore mmG0 (mmPi r) 0 [(0, .ref 51)] [] m := by
  intro m E
  unfold f_X4_restore at E
  refine V_aload_n 0 dX4_restore_0 rfl ?_
  refine V_geti (ci := 4) (k := 5) (N := 12) (T := TX4) (v := (m.1 51 5)) dX4_restore_1 iuX4 fl_X4_136 rfl (by decide) rfl sh_51 rfl (fun hv1 => ?_)
  refine V_if_ne 10 dX4_restore_4 (by decide) hv1 (fun c2 => ?_) (fun c2 => ?_)
  · replace E := mmI_f c2 E
    refine V_aload_n 0 dX4_restore_10 rfl ?_
    obtain ⟨q3, hq3, E⟩ := mmB_e E
    refine V_callVv (ci := 4) (q := (RX4, TX4, 12)) (Cn := RX4) (st := []) 0 dX4_restore_11 (ct_X4_remember hq3) ml_X4_82 im_X4_remember sl_X4_remember it_X4 cd_X4_remember hy_X4_remember ⟨rfl, rfl, by decide, by decide⟩ sh_51 rfl rfl rfl rfl (Nat.le_of_ble_eq_true rfl) ?_
    refine V_iconst dX4_restore_14 rfl ?_
    refine V_istore_n (i := 1) (lv' := [(0, .ref 51), (1, vi 0)]) dX4_restore_15 rfl rfl rfl ?_
    exact ok_X4_restore_L16 mmFU _ _ ir_0 E
  · replace E := mmI_t c2 E
    refine V_bipush (v := (-5)) dX4_restore_7 (by decide) ?_
    obtain rfl := Option.some.inj E
    exact V_reti dX4_restore_9 ⟨rfl, rfl, ir_m5⟩
theorem ct_X4_restore {m : Mem} {r : Int × Mem} (E : f_X4_restore m = some r) : CTi yX4_restore cX4_restore 2 (some .int) rm_X4_restore [.ref 51] m r := CT_i (by decide +kernel) rfl (Nat.le_of_ble_eq_true rfl) (ok_X4_restore  _  E)
theorem hy_X4_restore : yX4_restore.cls = RX4 ∧ yX4_restore.cls ≠ "java/lang/invoke/MethodHandle" ∧ yX4_restore.cls ≠ "java/lang/invoke/VarHandle" ∧ (parseMethodDescriptor yX4_restore.desc).map (fun d => d.parameters.length) = some 0 := by decide +kernel
abbrev rm_X4_entry : Room := { frames := 3, cells := 0, slots := 0, locals := 66 }
noncomputable def f_X4_entry (l1 : Int) (l2 : Int) (m : Mem) : Option (Int × Mem) :=
  (f_X4_rankOf l1 m).bind (fun q1 => if q1.1 = (-5) then
(some ((-1), q1.2))
else
(if l2 = 0 then
(some (q1.1, q1.2))
else (
if l2 = 1 then
(mmK (0 ≤ q1.1 ∧ 0 < (4 : Int)) (mmK (inR (q1.1 / 4)) (some ((q1.1 / 4), q1.2))))
else (
if l2 = 2 then
((f_X4_of q1.1 1 q1.2).bind (fun q9 => some (q9.1, q9.2)))
else (
if l2 = 3 then
(mmK (inR (2 + l2)) (mmK (inR ((2 + l2) - 3)) ((f_X4_of q1.1 ((2 + l2) - 3) q1.2).bind (fun q14 => some (q14.1, q14.2)))))
else (
if l2 = 4 then
(mmK (inR (2 + l2)) (mmK (inR ((2 + l2) - 3)) ((f_X4_of q1.1 ((2 + l2) - 3) q1.2).bind (fun q19 => some (q19.1, q19.2)))))
else (
if l2 = 5 then
(mmK (inR (2 + l2)) (mmK (inR ((2 + l2) - 3)) ((f_X4_of q1.1 ((2 + l2) - 3) q1.2).bind (fun q24 => some (q24.1, q24.2)))))
else (
if l2 = 6 then
((f_X4_of q1.1 2 q1.2).bind (fun q27 => (f_X4_aliasesOf q27.1 q27.2).bind (fun q29 => some (q29.1, q29.2))))
else (
if l2 = 7 then
((f_X4_of q1.1 5 q1.2).bind (fun q32 => some (q32.1, q32.2)))
else (
if l2 = 8 then
((f_X4_isLost q1.1 q1.2).bind (fun q35 => if q35.1 = 0 then
(some (0, q35.2))
else
(some (1, q35.2))))
else (
(some ((-2), q1.2)))))))))))))
set_option maxRecDepth 100000 in
set_option maxHeartbeats 4000000 in
theorem ok_X4_entry {r : Int × Mem} : ∀ (l1 : Int) (l2 : Int) (m : Mem), inR l1 → inR l2 → f_X4_entry l1 l2 m = some r → VV RX4 cX4_entry 4 rm_X4_entry mmG0 (mmPi r) 0 [(0, .ref 51), (1, vi l1), (2, vi l2)] [] m := by
  intro l1 l2 m hr1 hr2 E
  unfold f_X4_entry at E
  refine V_aload_n 0 dX4_entry_0 rfl ?_
  refine V_iload_n 1 dX4_entry_1 rfl ?_
  obtain ⟨q1, hq1, E⟩ := mmB_e E
  refine V_callV (ci := 4) (q := (RX4, TX4, 12)) (Cn := RX4) (st := []) 1 dX4_entry_2 (ct_X4_rankOf hr1 hq1) ml_X4_50 im_X4_rankOf sl_X4_rankOf it_X4 cd_X4_rankOf hy_X4_rankOf ⟨rfl, rfl, by decide, by decide⟩ sh_51 rfl rfl rfl rfl (Nat.le_of_ble_eq_true rfl) (fun hv2 => ?_)
  refine V_istore_n (i := 3) (lv' := [(0, .ref 51), (1, vi l1), (2, vi l2), (3, vi q1.1)]) dX4_entry_5 rfl rfl rfl ?_
  refine V_iload_n 3 dX4_entry_6 rfl ?_
  refine V_bipush (v := (-5)) dX4_entry_7 (by decide) ?_
  refine V_icmp_ne 14 dX4_entry_9 (by decide) hv2 ir_m5 (fun c3 => ?_) (fun c3 => ?_)
  · replace E := mmI_f c3 E
    refine V_iload_n 2 dX4_entry_14 rfl ?_
    by_cases c4 : l2 = 0
    · replace E := mmI_t c4 E
      refine V_tableIn 0 64 dX4_entry_15 c4 (by decide) (by decide) rfl (by decide) ?_
      refine V_iload_n 3 dX4_entry_64 rfl ?_
      obtain rfl := Option.some.inj E
      exact V_reti dX4_entry_65 ⟨rfl, rfl, hv2⟩
    replace E := mmI_f c4 E
    by_cases c5 : l2 = 1
    · replace E := mmI_t c5 E
      refine V_tableIn 1 66 dX4_entry_15 c5 (by decide) (by decide) rfl (by decide) ?_
      refine V_iload_n 3 dX4_entry_66 rfl ?_
      refine V_iconst dX4_entry_67 rfl ?_
      obtain ⟨hv6, E⟩ := mmK_e E
      obtain ⟨hv7, E⟩ := mmK_e E
      refine V_idiv dX4_entry_68 hv2 ir_4 hv6 ?_
      obtain rfl := Option.some.inj E
      exact V_reti dX4_entry_69 ⟨rfl, rfl, hv7⟩
    replace E := mmI_f c5 E
    by_cases c8 : l2 = 2
    · replace E := mmI_t c8 E
      refine V_tableIn 2 70 dX4_entry_15 c8 (by decide) (by decide) rfl (by decide) ?_
      refine V_aload_n 0 dX4_entry_70 rfl ?_
      refine V_iload_n 3 dX4_entry_71 rfl ?_
      refine V_iconst dX4_entry_72 rfl ?_
      obtain ⟨q9, hq9, E⟩ := mmB_e E
      refine V_callV (ci := 4) (q := (RX4, TX4, 12)) (Cn := RX4) (st := []) 2 dX4_entry_73 (ct_X4_of hv2 ir_1 hq9) ml_X4_38 im_X4_of sl_X4_of it_X4 cd_X4_of hy_X4_of ⟨rfl, rfl, by decide, by decide⟩ sh_51 rfl rfl rfl rfl (Nat.le_of_ble_eq_true rfl) (fun hv10 => ?_)
      obtain rfl := Option.some.inj E
      exact V_reti dX4_entry_76 ⟨rfl, rfl, hv10⟩
    replace E := mmI_f c8 E
    by_cases c11 : l2 = 3
    · replace E := mmI_t c11 E
      refine V_tableIn 3 77 dX4_entry_15 c11 (by decide) (by decide) rfl (by decide) ?_
      refine V_aload_n 0 dX4_entry_77 rfl ?_
      refine V_iload_n 3 dX4_entry_78 rfl ?_
      refine V_iconst dX4_entry_79 rfl ?_
      refine V_iload_n 2 dX4_entry_80 rfl ?_
      obtain ⟨hv12, E⟩ := mmK_e E
      refine V_iadd dX4_entry_81 ?_
      refine V_iconst dX4_entry_82 rfl ?_
      obtain ⟨hv13, E⟩ := mmK_e E
      refine V_isub dX4_entry_83 ?_
      obtain ⟨q14, hq14, E⟩ := mmB_e E
      refine V_callV (ci := 4) (q := (RX4, TX4, 12)) (Cn := RX4) (st := []) 2 dX4_entry_84 (ct_X4_of hv2 hv13 hq14) ml_X4_38 im_X4_of sl_X4_of it_X4 cd_X4_of hy_X4_of ⟨rfl, rfl, by decide, by decide⟩ sh_51 rfl rfl rfl rfl (Nat.le_of_ble_eq_true rfl) (fun hv15 => ?_)
      obtain rfl := Option.some.inj E
      exact V_reti dX4_entry_87 ⟨rfl, rfl, hv15⟩
    replace E := mmI_f c11 E
    by_cases c16 : l2 = 4
    · replace E := mmI_t c16 E
      refine V_tableIn 4 77 dX4_entry_15 c16 (by decide) (by decide) rfl (by decide) ?_
      refine V_aload_n 0 dX4_entry_77 rfl ?_
      refine V_iload_n 3 dX4_entry_78 rfl ?_
      refine V_iconst dX4_entry_79 rfl ?_
      refine V_iload_n 2 dX4_entry_80 rfl ?_
      obtain ⟨hv17, E⟩ := mmK_e E
      refine V_iadd dX4_entry_81 ?_
      refine V_iconst dX4_entry_82 rfl ?_
      obtain ⟨hv18, E⟩ := mmK_e E
      refine V_isub dX4_entry_83 ?_
      obtain ⟨q19, hq19, E⟩ := mmB_e E
      refine V_callV (ci := 4) (q := (RX4, TX4, 12)) (Cn := RX4) (st := []) 2 dX4_entry_84 (ct_X4_of hv2 hv18 hq19) ml_X4_38 im_X4_of sl_X4_of it_X4 cd_X4_of hy_X4_of ⟨rfl, rfl, by decide, by decide⟩ sh_51 rfl rfl rfl rfl (Nat.le_of_ble_eq_true rfl) (fun hv20 => ?_)
      obtain rfl := Option.some.inj E
      exact V_reti dX4_entry_87 ⟨rfl, rfl, hv20⟩
    replace E := mmI_f c16 E
    by_cases c21 : l2 = 5
    · replace E := mmI_t c21 E
      refine V_tableIn 5 77 dX4_entry_15 c21 (by decide) (by decide) rfl (by decide) ?_
      refine V_aload_n 0 dX4_entry_77 rfl ?_
      refine V_iload_n 3 dX4_entry_78 rfl ?_
      refine V_iconst dX4_entry_79 rfl ?_
      refine V_iload_n 2 dX4_entry_80 rfl ?_
      obtain ⟨hv22, E⟩ := mmK_e E
      refine V_iadd dX4_entry_81 ?_
      refine V_iconst dX4_entry_82 rfl ?_
      obtain ⟨hv23, E⟩ := mmK_e E
      refine V_isub dX4_entry_83 ?_
      obtain ⟨q24, hq24, E⟩ := mmB_e E
      refine V_callV (ci := 4) (q := (RX4, TX4, 12)) (Cn := RX4) (st := []) 2 dX4_entry_84 (ct_X4_of hv2 hv23 hq24) ml_X4_38 im_X4_of sl_X4_of it_X4 cd_X4_of hy_X4_of ⟨rfl, rfl, by decide, by decide⟩ sh_51 rfl rfl rfl rfl (Nat.le_of_ble_eq_true rfl) (fun hv25 => ?_)
      obtain rfl := Option.some.inj E
      exact V_reti dX4_entry_87 ⟨rfl, rfl, hv25⟩
    replace E := mmI_f c21 E
    by_cases c26 : l2 = 6
    · replace E := mmI_t c26 E
      refine V_tableIn 6 88 dX4_entry_15 c26 (by decide) (by decide) rfl (by decide) ?_
      refine V_aload_n 0 dX4_entry_88 rfl ?_
      refine V_aload_n 0 dX4_entry_89 rfl ?_
      refine V_iload_n 3 dX4_entry_90 rfl ?_
      refine V_iconst dX4_entry_91 rfl ?_
      obtain ⟨q27, hq27, E⟩ := mmB_e E
      refine V_callV (ci := 4) (q := (RX4, TX4, 12)) (Cn := RX4) (st := [.ref 51]) 2 dX4_entry_92 (ct_X4_of hv2 ir_2 hq27) ml_X4_38 im_X4_of sl_X4_of it_X4 cd_X4_of hy_X4_of ⟨rfl, rfl, by decide, by decide⟩ sh_51 rfl rfl rfl rfl (Nat.le_of_ble_eq_true rfl) (fun hv28 => ?_)
      obtain ⟨q29, hq29, E⟩ := mmB_e E
      refine V_callV (ci := 4) (q := (RX4, TX4, 12)) (Cn := RX4) (st := []) 1 dX4_entry_95 (ct_X4_aliasesOf hv28 hq29) ml_X4_139 im_X4_aliasesOf sl_X4_aliasesOf it_X4 cd_X4_aliasesOf hy_X4_aliasesOf ⟨rfl, rfl, by decide, by decide⟩ sh_51 rfl rfl rfl rfl (Nat.le_of_ble_eq_true rfl) (fun hv30 => ?_)
      obtain rfl := Option.some.inj E
      exact V_reti dX4_entry_98 ⟨rfl, rfl, hv30⟩
    replace E := mmI_f c26 E
    by_cases c31 : l2 = 7
    · replace E := mmI_t c31 E
      refine V_tableIn 7 99 dX4_entry_15 c31 (by decide) (by decide) rfl (by decide) ?_
      refine V_aload_n 0 dX4_entry_99 rfl ?_
      refine V_iload_n 3 dX4_entry_100 rfl ?_
      refine V_iconst dX4_entry_101 rfl ?_
      obtain ⟨q32, hq32, E⟩ := mmB_e E
      refine V_callV (ci := 4) (q := (RX4, TX4, 12)) (Cn := RX4) (st := []) 2 dX4_entry_102 (ct_X4_of hv2 ir_5 hq32) ml_X4_38 im_X4_of sl_X4_of it_X4 cd_X4_of hy_X4_of ⟨rfl, rfl, by decide, by decide⟩ sh_51 rfl rfl rfl rfl (Nat.le_of_ble_eq_true rfl) (fun hv33 => ?_)
      obtain rfl := Option.some.inj E
      exact V_reti dX4_entry_105 ⟨rfl, rfl, hv33⟩
    replace E := mmI_f c31 E
    by_cases c34 : l2 = 8
    · replace E := mmI_t c34 E
      refine V_tableIn 8 106 dX4_entry_15 c34 (by decide) (by decide) rfl (by decide) ?_
      refine V_aload_n 0 dX4_entry_106 rfl ?_
      refine V_iload_n 3 dX4_entry_107 rfl ?_
      obtain ⟨q35, hq35, E⟩ := mmB_e E
      refine V_callV (ci := 4) (q := (RX4, TX4, 12)) (Cn := RX4) (st := []) 1 dX4_entry_108 (ct_X4_isLost hv2 hq35) ml_X4_142 im_X4_isLost sl_X4_isLost it_X4 cd_X4_isLost hy_X4_isLost ⟨rfl, rfl, by decide, by decide⟩ sh_51 rfl rfl rfl rfl (Nat.le_of_ble_eq_true rfl) (fun hv36 => ?_)
      refine V_if_eq 118 dX4_entry_111 (by decide) hv36 (fun c37 => ?_) (fun c37 => ?_)
      · replace E := mmI_t c37 E
        refine V_iconst dX4_entry_118 rfl ?_
        obtain rfl := Option.some.inj E
        exact V_reti dX4_entry_119 ⟨rfl, rfl, ir_0⟩
      · replace E := mmI_f c37 E
        refine V_iconst dX4_entry_114 rfl ?_
        refine V_goto 119 dX4_entry_115 (by decide) ?_
        obtain rfl := Option.some.inj E
        exact V_reti dX4_entry_119 ⟨rfl, rfl, ir_1⟩
    replace E := mmI_f c34 E
    refine V_tableOut 120 dX4_entry_15 hr2 (by omega) (by decide) ?_
    refine V_bipush (v := (-2)) dX4_entry_120 (by decide) ?_
    obtain rfl := Option.some.inj E
    exact V_reti dX4_entry_122 ⟨rfl, rfl, ir_m2⟩
  · replace E := mmI_t c3 E
    refine V_iconst dX4_entry_12 rfl ?_
    obtain rfl := Option.some.inj E
    exact V_reti dX4_entry_13 ⟨rfl, rfl, ir_m1⟩
theorem ct_X4_entry {l1 : Int} {l2 : Int} {m : Mem} {r : Int × Mem} (hr1 : inR l1) (hr2 : inR l2) (E : f_X4_entry l1 l2 m = some r) : CTi yX4_entry cX4_entry 4 (some .int) rm_X4_entry [.ref 51, vi l1, vi l2] m r := CT_i (by decide +kernel) rfl (Nat.le_of_ble_eq_true rfl) (ok_X4_entry _ _ _ hr1 hr2 E)
theorem hy_X4_entry : yX4_entry.cls = RX4 ∧ yX4_entry.cls ≠ "java/lang/invoke/MethodHandle" ∧ yX4_entry.cls ≠ "java/lang/invoke/VarHandle" ∧ (parseMethodDescriptor yX4_entry.desc).map (fun d => d.parameters.length) = some 2 := by decide +kernel
abbrev rm_X4_named : Room := { frames := 1, cells := 0, slots := 0, locals := 22 }
noncomputable def f_X4_named (l1 : Int) (m : Mem) : Option (Int × Mem) :=
  if 0 ≤ l1 then
(if (m.1 52 0) ≤ l1 then
(some ((-5), m))
else
((f_X4_of l1 0 m).bind (fun q5 => some (q5.1, q5.2))))
else
(some ((-2), m))
set_option maxRecDepth 100000 in
set_option maxHeartbeats 4000000 in
theorem ok_X4_named {r : Int × Mem} : ∀ (l1 : Int) (m : Mem), inR l1 → f_X4_named l1 m = some r → VV RX4 cX4_named 2 rm_X4_named mmG0 (mmPi r) 0 [(0, .ref 51), (1, vi l1)] [] m := by
  intro l1 m hr1 E
  unfold f_X4_named at E
  refine V_iload_n 1 dX4_named_0 rfl ?_
  refine V_if_ge 7 dX4_named_1 (by decide) hr1 (fun c1 => ?_) (fun c1 => ?_)
  · replace E := mmI_t c1 E
    refine V_iload_n 1 dX4_named_7 rfl ?_
    refine V_aload_n 0 dX4_named_8 rfl ?_
    refine V_geta (ci := 4) (k := 0) (N := 12) (T := TX4) (o' := 52) dX4_named_9 iuX4 fl_X4_7 rfl (by decide) rfl sh_51 rfl ?_
    refine V_iconst dX4_named_12 rfl ?_
    refine V_iald (n := 149) (j := 0) (v := (m.1 52 0)) dX4_named_13 sh_52 ir_0 (by decide) rfl rfl (fun hv3 => ?_)
    refine V_icmp_ge 26 dX4_named_14 (by decide) hr1 hv3 (fun c4 => ?_) (fun c4 => ?_)
    · replace E := mmI_t c4 E
      refine V_bipush (v := (-5)) dX4_named_26 (by decide) ?_
      obtain rfl := Option.some.inj E
      exact V_reti dX4_named_28 ⟨rfl, rfl, ir_m5⟩
    · replace E := mmI_f c4 E
      refine V_aload_n 0 dX4_named_17 rfl ?_
      refine V_iload_n 1 dX4_named_18 rfl ?_
      refine V_iconst dX4_named_19 rfl ?_
      obtain ⟨q5, hq5, E⟩ := mmB_e E
      refine V_callV (ci := 4) (q := (RX4, TX4, 12)) (Cn := RX4) (st := []) 2 dX4_named_20 (ct_X4_of hr1 ir_0 hq5) ml_X4_38 im_X4_of sl_X4_of it_X4 cd_X4_of hy_X4_of ⟨rfl, rfl, by decide, by decide⟩ sh_51 rfl rfl rfl rfl (Nat.le_of_ble_eq_true rfl) (fun hv6 => ?_)
      refine V_goto 28 dX4_named_23 (by decide) ?_
      obtain rfl := Option.some.inj E
      exact V_reti dX4_named_28 ⟨rfl, rfl, hv6⟩
  · replace E := mmI_f c1 E
    refine V_bipush (v := (-2)) dX4_named_4 (by decide) ?_
    obtain rfl := Option.some.inj E
    exact V_reti dX4_named_6 ⟨rfl, rfl, ir_m2⟩
theorem ct_X4_named {l1 : Int} {m : Mem} {r : Int × Mem} (hr1 : inR l1) (E : f_X4_named l1 m = some r) : CTi yX4_named cX4_named 2 (some .int) rm_X4_named [.ref 51, vi l1] m r := CT_i (by decide +kernel) rfl (Nat.le_of_ble_eq_true rfl) (ok_X4_named _ _ hr1 E)
theorem hy_X4_named : yX4_named.cls = RX4 ∧ yX4_named.cls ≠ "java/lang/invoke/MethodHandle" ∧ yX4_named.cls ≠ "java/lang/invoke/VarHandle" ∧ (parseMethodDescriptor yX4_named.desc).map (fun d => d.parameters.length) = some 1 := by decide +kernel
abbrev rm_X4_block : Room := { frames := 1, cells := 0, slots := 0, locals := 25 }
noncomputable def f_X4_block_L70 (l2 : Int) (l3 : Int) (s0 : Int) (m : Mem) : Option (Int × Mem) :=
  if l2 = 0 then
(some (s0, m))
else
(if s0 = 0 then
(some ((-5), m))
else
(if l2 = 1 then
((f_X4_of l3 0 m).bind (fun q23 => some (q23.1, q23.2)))
else
(mmK (inR (l3 + s0)) (mmK (inR ((l3 + s0) - 1)) ((f_X4_of ((l3 + s0) - 1) 0 m).bind (fun q21 => some (q21.1, q21.2)))))))
set_option maxRecDepth 100000 in
set_option maxHeartbeats 4000000 in
theorem ok_X4_block_L70 {r : Int × Mem} : ∀ (l2 : Int) (l3 : Int) (s0 : Int) (m : Mem), inR l2 → inR l3 → inR s0 → f_X4_block_L70 l2 l3 s0 m = some r → VV RX4 cX4_block 6 rm_X4_block mmG0 (mmPi r) 70 [(0, .ref 51), (2, vi l2), (3, vi l3)] [vi s0] m := by
  intro l2 l3 s0 m hr2 hr3 hrs0 E
  unfold f_X4_block_L70 at E
  refine V_istore (lv' := [(0, .ref 51), (2, vi l2), (3, vi l3), (5, vi s0)]) dX4_block_70 rfl rfl ?_
  refine V_iload_n 1 dX4_block_72 rfl ?_
  refine V_if_ne 81 dX4_block_73 (by decide) hr2 (fun c16 => ?_) (fun c16 => ?_)
  · replace E := mmI_f c16 E
    refine V_iload 3 dX4_block_81 rfl ?_
    refine V_if_ne 91 dX4_block_83 (by decide) hrs0 (fun c17 => ?_) (fun c17 => ?_)
    · replace E := mmI_f c17 E
      refine V_aload_n 0 dX4_block_91 rfl ?_
      refine V_iload_n 1 dX4_block_92 rfl ?_
      refine V_iconst dX4_block_93 rfl ?_
      refine V_icmp_ne 101 dX4_block_94 (by decide) hr2 ir_1 (fun c18 => ?_) (fun c18 => ?_)
      · replace E := mmI_f c18 E
        refine V_iload_n 2 dX4_block_101 rfl ?_
        refine V_iload 3 dX4_block_102 rfl ?_
        obtain ⟨hv19, E⟩ := mmK_e E
        refine V_iadd dX4_block_104 ?_
        refine V_iconst dX4_block_105 rfl ?_
        obtain ⟨hv20, E⟩ := mmK_e E
        refine V_isub dX4_block_106 ?_
        refine V_iconst dX4_block_107 rfl ?_
        obtain ⟨q21, hq21, E⟩ := mmB_e E
        refine V_callV (ci := 4) (q := (RX4, TX4, 12)) (Cn := RX4) (st := []) 2 dX4_block_108 (ct_X4_of hv20 ir_0 hq21) ml_X4_38 im_X4_of sl_X4_of it_X4 cd_X4_of hy_X4_of ⟨rfl, rfl, by decide, by decide⟩ sh_51 rfl rfl rfl rfl (Nat.le_of_ble_eq_true rfl) (fun hv22 => ?_)
        obtain rfl := Option.some.inj E
        exact V_reti dX4_block_111 ⟨rfl, rfl, hv22⟩
      · replace E := mmI_t c18 E
        refine V_iload_n 2 dX4_block_97 rfl ?_
        refine V_goto 107 dX4_block_98 (by decide) ?_
        refine V_iconst dX4_block_107 rfl ?_
        obtain ⟨q23, hq23, E⟩ := mmB_e E
        refine V_callV (ci := 4) (q := (RX4, TX4, 12)) (Cn := RX4) (st := []) 2 dX4_block_108 (ct_X4_of hr3 ir_0 hq23) ml_X4_38 im_X4_of sl_X4_of it_X4 cd_X4_of hy_X4_of ⟨rfl, rfl, by decide, by decide⟩ sh_51 rfl rfl rfl rfl (Nat.le_of_ble_eq_true rfl) (fun hv24 => ?_)
        obtain rfl := Option.some.inj E
        exact V_reti dX4_block_111 ⟨rfl, rfl, hv24⟩
    · replace E := mmI_t c17 E
      refine V_bipush (v := (-5)) dX4_block_86 (by decide) ?_
      refine V_goto 111 dX4_block_88 (by decide) ?_
      obtain rfl := Option.some.inj E
      exact V_reti dX4_block_111 ⟨rfl, rfl, ir_m5⟩
  · replace E := mmI_t c16 E
    refine V_iload 3 dX4_block_76 rfl ?_
    refine V_goto 111 dX4_block_78 (by decide) ?_
    obtain rfl := Option.some.inj E
    exact V_reti dX4_block_111 ⟨rfl, rfl, hrs0⟩
noncomputable def f_X4_block (l1 : Int) (l2 : Int) (m : Mem) : Option (Int × Mem) :=
  mmK (inL ((m.1 52 1) - 1)) ((f_X4_in l1 0 ((m.1 52 1) - 1) m).bind (fun q4 => if q4.1 = 0 then
(some ((-1), q4.2))
else
((f_X4_in l2 0 2 q4.2).bind (fun q7 => if q7.1 = 0 then
(some ((-2), q7.2))
else
(mmK (inR (4 * l1)) (mmK (inR ((q7.2.1 52 0) - (4 * l1))) (if 0 ≤ ((q7.2.1 52 0) - (4 * l1)) then
(if 4 ≤ ((q7.2.1 52 0) - (4 * l1)) then
(f_X4_block_L70 l2 (4 * l1) 4 q7.2)
else
(f_X4_block_L70 l2 (4 * l1) ((q7.2.1 52 0) - (4 * l1)) q7.2))
else
(f_X4_block_L70 l2 (4 * l1) 0 q7.2))))))))
set_option maxRecDepth 100000 in
set_option maxHeartbeats 4000000 in
theorem ok_X4_block {r : Int × Mem} : ∀ (l1 : Int) (l2 : Int) (m : Mem), inR l1 → inR l2 → f_X4_block l1 l2 m = some r → VV RX4 cX4_block 6 rm_X4_block mmG0 (mmPi r) 0 [(0, .ref 51), (1, vi l1), (2, vi l2)] [] m := by
  intro l1 l2 m hr1 hr2 E
  unfold f_X4_block at E
  refine V_iload_n 1 dX4_block_0 rfl ?_
  refine V_i2l dX4_block_1 hr1 ?_
  refine V_lconst (v := 0) dX4_block_2 (by decide) ?_
  refine V_aload_n 0 dX4_block_3 rfl ?_
  refine V_geta (ci := 4) (k := 0) (N := 12) (T := TX4) (o' := 52) dX4_block_4 iuX4 fl_X4_7 rfl (by decide) rfl sh_51 rfl ?_
  refine V_iconst dX4_block_7 rfl ?_
  refine V_iald (n := 149) (j := 1) (v := (m.1 52 1)) dX4_block_8 sh_52 ir_1 (by decide) rfl rfl (fun hv2 => ?_)
  refine V_i2l dX4_block_9 hv2 ?_
  refine V_lconst (v := 1) dX4_block_10 (by decide) ?_
  obtain ⟨hv3, E⟩ := mmK_e E
  refine V_lsub dX4_block_11 ?_
  obtain ⟨q4, hq4, E⟩ := mmB_e E
  refine V_callS (st := []) 3 dX4_block_12 (ct_X4_in (inRL hr1) (by decide) hv3 hq4) ml_X4_34 st_X4_in it_X4 cd_X4_in hz_X4_in ⟨rfl, rfl, by decide, by decide⟩ rfl rfl (Nat.le_of_ble_eq_true rfl) (fun hv5 => ?_)
  refine V_if_ne 20 dX4_block_15 (by decide) hv5 (fun c6 => ?_) (fun c6 => ?_)
  · replace E := mmI_f c6 E
    refine V_iload_n 2 dX4_block_20 rfl ?_
    refine V_i2l dX4_block_21 hr2 ?_
    refine V_lconst (v := 0) dX4_block_22 (by decide) ?_
    refine V_ldc2 (v := 2) dX4_block_23 kl_X4_145 (by decide) ?_
    obtain ⟨q7, hq7, E⟩ := mmB_e E
    refine V_callS (st := []) 3 dX4_block_26 (ct_X4_in (inRL hr2) (by decide) (by decide) hq7) ml_X4_34 st_X4_in it_X4 cd_X4_in hz_X4_in ⟨rfl, rfl, by decide, by decide⟩ rfl rfl (Nat.le_of_ble_eq_true rfl) (fun hv8 => ?_)
    refine V_if_ne 35 dX4_block_29 (by decide) hv8 (fun c9 => ?_) (fun c9 => ?_)
    · replace E := mmI_f c9 E
      refine V_iconst dX4_block_35 rfl ?_
      refine V_iload_n 1 dX4_block_36 rfl ?_
      obtain ⟨hv10, E⟩ := mmK_e E
      refine V_imul dX4_block_37 ?_
      refine V_istore_n (i := 3) (lv' := [(0, .ref 51), (1, vi l1), (2, vi l2), (3, vi (4 * l1))]) dX4_block_38 rfl rfl rfl ?_
      refine V_aload_n 0 dX4_block_39 rfl ?_
      refine V_geta (ci := 4) (k := 0) (N := 12) (T := TX4) (o' := 52) dX4_block_40 iuX4 fl_X4_7 rfl (by decide) rfl sh_51 rfl ?_
      refine V_iconst dX4_block_43 rfl ?_
      refine V_iald (n := 149) (j := 0) (v := (q7.2.1 52 0)) dX4_block_44 sh_52 ir_0 (by decide) rfl rfl (fun hv12 => ?_)
      refine V_iload_n 3 dX4_block_45 rfl ?_
      obtain ⟨hv13, E⟩ := mmK_e E
      refine V_isub dX4_block_46 ?_
      refine V_istore (lv' := [(0, .ref 51), (1, vi l1), (2, vi l2), (3, vi (4 * l1)), (4, vi ((q7.2.1 52 0) - (4 * l1)))]) dX4_block_47 rfl rfl ?_
      refine V_iload 4 dX4_block_49 rfl ?_
      refine V_if_ge 58 dX4_block_51 (by decide) hv13 (fun c14 => ?_) (fun c14 => ?_)
      · replace E := mmI_t c14 E
        refine V_iload 4 dX4_block_58 rfl ?_
        refine V_iconst dX4_block_60 rfl ?_
        refine V_icmp_ge 69 dX4_block_61 (by decide) hv13 ir_4 (fun c15 => ?_) (fun c15 => ?_)
        · replace E := mmI_t c15 E
          refine V_iconst dX4_block_69 rfl ?_
          refine V_sub [0, 2, 3] rfl ?_
          exact ok_X4_block_L70 _ _ _ _ hr2 hv10 ir_4 E
        · replace E := mmI_f c15 E
          refine V_iload 4 dX4_block_64 rfl ?_
          refine V_goto 70 dX4_block_66 (by decide) ?_
          refine V_sub [0, 2, 3] rfl ?_
          exact ok_X4_block_L70 _ _ _ _ hr2 hv10 hv13 E
      · replace E := mmI_f c14 E
        refine V_iconst dX4_block_54 rfl ?_
        refine V_goto 70 dX4_block_55 (by decide) ?_
        refine V_sub [0, 2, 3] rfl ?_
        exact ok_X4_block_L70 _ _ _ _ hr2 hv10 ir_0 E
    · replace E := mmI_t c9 E
      refine V_bipush (v := (-2)) dX4_block_32 (by decide) ?_
      obtain rfl := Option.some.inj E
      exact V_reti dX4_block_34 ⟨rfl, rfl, ir_m2⟩
  · replace E := mmI_t c6 E
    refine V_iconst dX4_block_18 rfl ?_
    obtain rfl := Option.some.inj E
    exact V_reti dX4_block_19 ⟨rfl, rfl, ir_m1⟩
theorem ct_X4_block {l1 : Int} {l2 : Int} {m : Mem} {r : Int × Mem} (hr1 : inR l1) (hr2 : inR l2) (E : f_X4_block l1 l2 m = some r) : CTi yX4_block cX4_block 6 (some .int) rm_X4_block [.ref 51, vi l1, vi l2] m r := CT_i (by decide +kernel) rfl (Nat.le_of_ble_eq_true rfl) (ok_X4_block _ _ _ hr1 hr2 E)
theorem hy_X4_block : yX4_block.cls = RX4 ∧ yX4_block.cls ≠ "java/lang/invoke/MethodHandle" ∧ yX4_block.cls ≠ "java/lang/invoke/VarHandle" ∧ (parseMethodDescriptor yX4_block.desc).map (fun d => d.parameters.length) = some 2 := by decide +kernel
abbrev rm_X4_at : Room := { frames := 1, cells := 0, slots := 0, locals := 25 }
noncomputable def f_X4_at_L29 : Nat → Int → Int → Mem → Option (Int × Mem)
  | 0, _, _, _ => none
  | n + 1, l1, l2, m =>
    if (m.1 52 0) ≤ l2 then
(some (1000, m))
else
((f_X4_of l2 2 m).bind (fun q10 => (f_X4_of l2 2 q10.2).bind (fun q12 => (f_X4_of l2 3 q12.2).bind (fun q14 => mmK (inR (q12.1 + q14.1)) (mmK (inL ((q12.1 + q14.1) - 1)) ((f_X4_in l1 q10.1 ((q12.1 + q14.1) - 1) q14.2).bind (fun q18 => if q18.1 = 0 then
(mmK (inR (l2 + 1)) (f_X4_at_L29 n l1 (l2 + 1) q18.2))
else
((f_X4_of l2 0 q18.2).bind (fun q22 => some (q22.1, q22.2))))))))))
set_option maxRecDepth 100000 in
set_option maxHeartbeats 4000000 in
theorem ok_X4_at_L29 {r : Int × Mem} : ∀ (n : Nat), ∀ (l1 : Int) (l2 : Int) (m : Mem), inR l1 → inR l2 → f_X4_at_L29 n l1 l2 m = some r → VV RX4 cX4_at 3 rm_X4_at mmG0 (mmPi r) 29 [(0, .ref 51), (1, vi l1), (2, vi l2)] [] m := by
  intro n
  induction n with
  | zero =>
    intro l1 l2 m hr1 hr2 E
    cases E
  | succ n ih =>
    intro l1 l2 m hr1 hr2 E
    rw [f_X4_at_L29] at E
    refine V_iload_n 2 dX4_at_29 rfl ?_
    refine V_aload_n 0 dX4_at_30 rfl ?_
    refine V_geta (ci := 4) (k := 0) (N := 12) (T := TX4) (o' := 52) dX4_at_31 iuX4 fl_X4_7 rfl (by decide) rfl sh_51 rfl ?_
    refine V_iconst dX4_at_34 rfl ?_
    refine V_iald (n := 149) (j := 0) (v := (m.1 52 0)) dX4_at_35 sh_52 ir_0 (by decide) rfl rfl (fun hv8 => ?_)
    refine V_icmp_ge 83 dX4_at_36 (by decide) hr2 hv8 (fun c9 => ?_) (fun c9 => ?_)
    · replace E := mmI_t c9 E
      refine V_sipush (v := 1000) dX4_at_83 (by decide) ?_
      obtain rfl := Option.some.inj E
      exact V_reti dX4_at_86 ⟨rfl, rfl, ir_1000⟩
    · replace E := mmI_f c9 E
      refine V_iload_n 1 dX4_at_39 rfl ?_
      refine V_i2l dX4_at_40 hr1 ?_
      refine V_aload_n 0 dX4_at_41 rfl ?_
      refine V_iload_n 2 dX4_at_42 rfl ?_
      refine V_iconst dX4_at_43 rfl ?_
      obtain ⟨q10, hq10, E⟩ := mmB_e E
      refine V_callV (ci := 4) (q := (RX4, TX4, 12)) (Cn := RX4) (st := [vl l1]) 2 dX4_at_44 (ct_X4_of hr2 ir_2 hq10) ml_X4_38 im_X4_of sl_X4_of it_X4 cd_X4_of hy_X4_of ⟨rfl, rfl, by decide, by decide⟩ sh_51 rfl rfl rfl rfl (Nat.le_of_ble_eq_true rfl) (fun hv11 => ?_)
      refine V_i2l dX4_at_47 hv11 ?_
      refine V_aload_n 0 dX4_at_48 rfl ?_
      refine V_iload_n 2 dX4_at_49 rfl ?_
      refine V_iconst dX4_at_50 rfl ?_
      obtain ⟨q12, hq12, E⟩ := mmB_e E
      refine V_callV (ci := 4) (q := (RX4, TX4, 12)) (Cn := RX4) (st := [vl q10.1, vl l1]) 2 dX4_at_51 (ct_X4_of hr2 ir_2 hq12) ml_X4_38 im_X4_of sl_X4_of it_X4 cd_X4_of hy_X4_of ⟨rfl, rfl, by decide, by decide⟩ sh_51 rfl rfl rfl rfl (Nat.le_of_ble_eq_true rfl) (fun hv13 => ?_)
      refine V_aload_n 0 dX4_at_54 rfl ?_
      refine V_iload_n 2 dX4_at_55 rfl ?_
      refine V_iconst dX4_at_56 rfl ?_
      obtain ⟨q14, hq14, E⟩ := mmB_e E
      refine V_callV (ci := 4) (q := (RX4, TX4, 12)) (Cn := RX4) (st := [vi q12.1, vl q10.1, vl l1]) 2 dX4_at_57 (ct_X4_of hr2 ir_3 hq14) ml_X4_38 im_X4_of sl_X4_of it_X4 cd_X4_of hy_X4_of ⟨rfl, rfl, by decide, by decide⟩ sh_51 rfl rfl rfl rfl (Nat.le_of_ble_eq_true rfl) (fun hv15 => ?_)
      obtain ⟨hv16, E⟩ := mmK_e E
      refine V_iadd dX4_at_60 ?_
      refine V_i2l dX4_at_61 hv16 ?_
      refine V_lconst (v := 1) dX4_at_62 (by decide) ?_
      obtain ⟨hv17, E⟩ := mmK_e E
      refine V_lsub dX4_at_63 ?_
      obtain ⟨q18, hq18, E⟩ := mmB_e E
      refine V_callS (st := []) 3 dX4_at_64 (ct_X4_in (inRL hr1) (inRL hv11) hv17 hq18) ml_X4_34 st_X4_in it_X4 cd_X4_in hz_X4_in ⟨rfl, rfl, by decide, by decide⟩ rfl rfl (Nat.le_of_ble_eq_true rfl) (fun hv19 => ?_)
      refine V_if_eq 77 dX4_at_67 (by decide) hv19 (fun c20 => ?_) (fun c20 => ?_)
      · replace E := mmI_t c20 E
        obtain ⟨hv21, E⟩ := mmK_e E
        refine V_iinc (v := (l2 + 1)) (lv' := [(0, .ref 51), (1, vi l1), (2, vi (l2 + 1))]) 2 dX4_at_77 rfl rfl rfl rfl ?_
        refine V_goto 29 dX4_at_80 (by decide) ?_
        exact ih _ _ _ hr1 hv21 E
      · replace E := mmI_f c20 E
        refine V_aload_n 0 dX4_at_70 rfl ?_
        refine V_iload_n 2 dX4_at_71 rfl ?_
        refine V_iconst dX4_at_72 rfl ?_
        obtain ⟨q22, hq22, E⟩ := mmB_e E
        refine V_callV (ci := 4) (q := (RX4, TX4, 12)) (Cn := RX4) (st := []) 2 dX4_at_73 (ct_X4_of hr2 ir_0 hq22) ml_X4_38 im_X4_of sl_X4_of it_X4 cd_X4_of hy_X4_of ⟨rfl, rfl, by decide, by decide⟩ sh_51 rfl rfl rfl rfl (Nat.le_of_ble_eq_true rfl) (fun hv23 => ?_)
        obtain rfl := Option.some.inj E
        exact V_reti dX4_at_76 ⟨rfl, rfl, hv23⟩
noncomputable def f_X4_at (l1 : Int) (m : Mem) : Option (Int × Mem) :=
  (f_X4_in l1 0 99 m).bind (fun q1 => if q1.1 = 0 then
(some ((-1), q1.2))
else
(if l1 < (q1.2.1 52 2) then
(f_X4_at_L29 mmFU l1 0 q1.2)
else
(some ((-5), q1.2))))
set_option maxRecDepth 100000 in
set_option maxHeartbeats 4000000 in
theorem ok_X4_at {r : Int × Mem} : ∀ (l1 : Int) (m : Mem), inR l1 → f_X4_at l1 m = some r → VV RX4 cX4_at 3 rm_X4_at mmG0 (mmPi r) 0 [(0, .ref 51), (1, vi l1)] [] m := by
  intro l1 m hr1 E
  unfold f_X4_at at E
  refine V_iload_n 1 dX4_at_0 rfl ?_
  refine V_i2l dX4_at_1 hr1 ?_
  refine V_lconst (v := 0) dX4_at_2 (by decide) ?_
  refine V_ldc2 (v := 99) dX4_at_3 kl_X4_147 (by decide) ?_
  obtain ⟨q1, hq1, E⟩ := mmB_e E
  refine V_callS (st := []) 3 dX4_at_6 (ct_X4_in (inRL hr1) (by decide) (by decide) hq1) ml_X4_34 st_X4_in it_X4 cd_X4_in hz_X4_in ⟨rfl, rfl, by decide, by decide⟩ rfl rfl (Nat.le_of_ble_eq_true rfl) (fun hv2 => ?_)
  refine V_if_ne 14 dX4_at_9 (by decide) hv2 (fun c3 => ?_) (fun c3 => ?_)
  · replace E := mmI_f c3 E
    refine V_iload_n 1 dX4_at_14 rfl ?_
    refine V_aload_n 0 dX4_at_15 rfl ?_
    refine V_geta (ci := 4) (k := 0) (N := 12) (T := TX4) (o' := 52) dX4_at_16 iuX4 fl_X4_7 rfl (by decide) rfl sh_51 rfl ?_
    refine V_iconst dX4_at_19 rfl ?_
    refine V_iald (n := 149) (j := 2) (v := (q1.2.1 52 2)) dX4_at_20 sh_52 ir_2 (by decide) rfl rfl (fun hv5 => ?_)
    refine V_icmp_lt 27 dX4_at_21 (by decide) hr1 hv5 (fun c6 => ?_) (fun c6 => ?_)
    · replace E := mmI_t c6 E
      refine V_iconst dX4_at_27 rfl ?_
      refine V_istore_n (i := 2) (lv' := [(0, .ref 51), (1, vi l1), (2, vi 0)]) dX4_at_28 rfl rfl rfl ?_
      exact ok_X4_at_L29 mmFU _ _ _ hr1 ir_0 E
    · replace E := mmI_f c6 E
      refine V_bipush (v := (-5)) dX4_at_24 (by decide) ?_
      obtain rfl := Option.some.inj E
      exact V_reti dX4_at_26 ⟨rfl, rfl, ir_m5⟩
  · replace E := mmI_t c3 E
    refine V_iconst dX4_at_12 rfl ?_
    obtain rfl := Option.some.inj E
    exact V_reti dX4_at_13 ⟨rfl, rfl, ir_m1⟩
theorem ct_X4_at {l1 : Int} {m : Mem} {r : Int × Mem} (hr1 : inR l1) (E : f_X4_at l1 m = some r) : CTi yX4_at cX4_at 3 (some .int) rm_X4_at [.ref 51, vi l1] m r := CT_i (by decide +kernel) rfl (Nat.le_of_ble_eq_true rfl) (ok_X4_at _ _ hr1 E)
theorem hy_X4_at : yX4_at.cls = RX4 ∧ yX4_at.cls ≠ "java/lang/invoke/MethodHandle" ∧ yX4_at.cls ≠ "java/lang/invoke/VarHandle" ∧ (parseMethodDescriptor yX4_at.desc).map (fun d => d.parameters.length) = some 1 := by decide +kernel
abbrev rm_X4_fits : Room := { frames := 3, cells := 0, slots := 0, locals := 69 }
noncomputable def f_X4_fits (l1 : Int) (m : Mem) : Option (Int × Mem) :=
  (f_X4_in l1 1 40 m).bind (fun q1 => if q1.1 = 0 then
(some ((-2), q1.2))
else
((f_X4_isRoomFor l1 q1.2).bind (fun q4 => if q4.1 = 0 then
((f_X4_living 1 q4.2).bind (fun q7 => mmK (inR (q7.1 + l1)) (if 100 < (q7.1 + l1) then
(some (2, q7.2))
else
(some (1, q7.2)))))
else
(some (0, q4.2)))))
set_option maxRecDepth 100000 in
set_option maxHeartbeats 4000000 in
theorem ok_X4_fits {r : Int × Mem} : ∀ (l1 : Int) (m : Mem), inR l1 → f_X4_fits l1 m = some r → VV RX4 cX4_fits 2 rm_X4_fits mmG0 (mmPi r) 0 [(0, .ref 51), (1, vi l1)] [] m := by
  intro l1 m hr1 E
  unfold f_X4_fits at E
  refine V_iload_n 1 dX4_fits_0 rfl ?_
  refine V_i2l dX4_fits_1 hr1 ?_
  refine V_lconst (v := 1) dX4_fits_2 (by decide) ?_
  refine V_ldc2 (v := 40) dX4_fits_3 kl_X4_60 (by decide) ?_
  obtain ⟨q1, hq1, E⟩ := mmB_e E
  refine V_callS (st := []) 3 dX4_fits_6 (ct_X4_in (inRL hr1) (by decide) (by decide) hq1) ml_X4_34 st_X4_in it_X4 cd_X4_in hz_X4_in ⟨rfl, rfl, by decide, by decide⟩ rfl rfl (Nat.le_of_ble_eq_true rfl) (fun hv2 => ?_)
  refine V_if_ne 15 dX4_fits_9 (by decide) hv2 (fun c3 => ?_) (fun c3 => ?_)
  · replace E := mmI_f c3 E
    refine V_aload_n 0 dX4_fits_15 rfl ?_
    refine V_iload_n 1 dX4_fits_16 rfl ?_
    obtain ⟨q4, hq4, E⟩ := mmB_e E
    refine V_callV (ci := 4) (q := (RX4, TX4, 12)) (Cn := RX4) (st := []) 1 dX4_fits_17 (ct_X4_isRoomFor hr1 hq4) ml_X4_68 im_X4_isRoomFor sl_X4_isRoomFor it_X4 cd_X4_isRoomFor hy_X4_isRoomFor ⟨rfl, rfl, by decide, by decide⟩ sh_51 rfl rfl rfl rfl (Nat.le_of_ble_eq_true rfl) (fun hv5 => ?_)
    refine V_if_eq 27 dX4_fits_20 (by decide) hv5 (fun c6 => ?_) (fun c6 => ?_)
    · replace E := mmI_t c6 E
      refine V_aload_n 0 dX4_fits_27 rfl ?_
      refine V_iconst dX4_fits_28 rfl ?_
      obtain ⟨q7, hq7, E⟩ := mmB_e E
      refine V_callV (ci := 4) (q := (RX4, TX4, 12)) (Cn := RX4) (st := []) 1 dX4_fits_29 (ct_X4_living ir_1 hq7) ml_X4_127 im_X4_living sl_X4_living it_X4 cd_X4_living hy_X4_living ⟨rfl, rfl, by decide, by decide⟩ sh_51 rfl rfl rfl rfl (Nat.le_of_ble_eq_true rfl) (fun hv8 => ?_)
      refine V_iload_n 1 dX4_fits_32 rfl ?_
      obtain ⟨hv9, E⟩ := mmK_e E
      refine V_iadd dX4_fits_33 ?_
      refine V_bipush (v := 100) dX4_fits_34 (by decide) ?_
      refine V_icmp_gt 43 dX4_fits_36 (by decide) hv9 ir_100 (fun c10 => ?_) (fun c10 => ?_)
      · replace E := mmI_t c10 E
        refine V_iconst dX4_fits_43 rfl ?_
        obtain rfl := Option.some.inj E
        exact V_reti dX4_fits_44 ⟨rfl, rfl, ir_2⟩
      · replace E := mmI_f c10 E
        refine V_iconst dX4_fits_39 rfl ?_
        refine V_goto 44 dX4_fits_40 (by decide) ?_
        obtain rfl := Option.some.inj E
        exact V_reti dX4_fits_44 ⟨rfl, rfl, ir_1⟩
    · replace E := mmI_f c6 E
      refine V_iconst dX4_fits_23 rfl ?_
      refine V_goto 44 dX4_fits_24 (by decide) ?_
      obtain rfl := Option.some.inj E
      exact V_reti dX4_fits_44 ⟨rfl, rfl, ir_0⟩
  · replace E := mmI_t c3 E
    refine V_bipush (v := (-2)) dX4_fits_12 (by decide) ?_
    obtain rfl := Option.some.inj E
    exact V_reti dX4_fits_14 ⟨rfl, rfl, ir_m2⟩
theorem ct_X4_fits {l1 : Int} {m : Mem} {r : Int × Mem} (hr1 : inR l1) (E : f_X4_fits l1 m = some r) : CTi yX4_fits cX4_fits 2 (some .int) rm_X4_fits [.ref 51, vi l1] m r := CT_i (by decide +kernel) rfl (Nat.le_of_ble_eq_true rfl) (ok_X4_fits _ _ hr1 E)
theorem hy_X4_fits : yX4_fits.cls = RX4 ∧ yX4_fits.cls ≠ "java/lang/invoke/MethodHandle" ∧ yX4_fits.cls ≠ "java/lang/invoke/VarHandle" ∧ (parseMethodDescriptor yX4_fits.desc).map (fun d => d.parameters.length) = some 1 := by decide +kernel
abbrev rm_X4_beginning : Room := { frames := 1, cells := 0, slots := 0, locals := 25 }
noncomputable def f_X4_beginning_L24 : Nat → Int → Int → Int → Mem → Option (Int × Mem)
  | 0, _, _, _, _ => none
  | n + 1, l1, l3, l4, m =>
    if (m.1 52 0) ≤ l4 then
(some ((-5), m))
else
((f_X4_of l4 0 m).bind (fun q8 => mmK (0 ≤ q8.1 ∧ 0 < (26 : Int)) (mmK (inR (q8.1 / 26)) (if (q8.1 / 26) = l1 then
(if l3 = 0 then
((f_X4_of l4 0 q8.2).bind (fun q17 => some (q17.1, q17.2)))
else
(mmK (inR (l3 + (-1))) (mmK (inR (l4 + 1)) (f_X4_beginning_L24 n l1 (l3 + (-1)) (l4 + 1) q8.2))))
else
(mmK (inR (l4 + 1)) (f_X4_beginning_L24 n l1 l3 (l4 + 1) q8.2))))))
set_option maxRecDepth 100000 in
set_option maxHeartbeats 4000000 in
theorem ok_X4_beginning_L24 {r : Int × Mem} : ∀ (n : Nat), ∀ (l1 : Int) (l3 : Int) (l4 : Int) (m : Mem), inR l1 → inR l3 → inR l4 → f_X4_beginning_L24 n l1 l3 l4 m = some r → VV RX4 cX4_beginning 5 rm_X4_beginning mmG0 (mmPi r) 24 [(0, .ref 51), (1, vi l1), (3, vi l3), (4, vi l4)] [] m := by
  intro n
  induction n with
  | zero =>
    intro l1 l3 l4 m hr1 hr3 hr4 E
    cases E
  | succ n ih =>
    intro l1 l3 l4 m hr1 hr3 hr4 E
    rw [f_X4_beginning_L24] at E
    refine V_iload 3 dX4_beginning_24 rfl ?_
    refine V_aload_n 0 dX4_beginning_26 rfl ?_
    refine V_geta (ci := 4) (k := 0) (N := 12) (T := TX4) (o' := 52) dX4_beginning_27 iuX4 fl_X4_7 rfl (by decide) rfl sh_51 rfl ?_
    refine V_iconst dX4_beginning_30 rfl ?_
    refine V_iald (n := 149) (j := 0) (v := (m.1 52 0)) dX4_beginning_31 sh_52 ir_0 (by decide) rfl rfl (fun hv6 => ?_)
    refine V_icmp_ge 70 dX4_beginning_32 (by decide) hr4 hv6 (fun c7 => ?_) (fun c7 => ?_)
    · replace E := mmI_t c7 E
      refine V_bipush (v := (-5)) dX4_beginning_70 (by decide) ?_
      obtain rfl := Option.some.inj E
      exact V_reti dX4_beginning_72 ⟨rfl, rfl, ir_m5⟩
    · replace E := mmI_f c7 E
      refine V_aload_n 0 dX4_beginning_35 rfl ?_
      refine V_iload 3 dX4_beginning_36 rfl ?_
      refine V_iconst dX4_beginning_38 rfl ?_
      obtain ⟨q8, hq8, E⟩ := mmB_e E
      refine V_callV (ci := 4) (q := (RX4, TX4, 12)) (Cn := RX4) (st := []) 2 dX4_beginning_39 (ct_X4_of hr4 ir_0 hq8) ml_X4_38 im_X4_of sl_X4_of it_X4 cd_X4_of hy_X4_of ⟨rfl, rfl, by decide, by decide⟩ sh_51 rfl rfl rfl rfl (Nat.le_of_ble_eq_true rfl) (fun hv9 => ?_)
      refine V_bipush (v := 26) dX4_beginning_42 (by decide) ?_
      obtain ⟨hv10, E⟩ := mmK_e E
      obtain ⟨hv11, E⟩ := mmK_e E
      refine V_idiv dX4_beginning_44 hv9 ir_26 hv10 ?_
      refine V_iload_n 1 dX4_beginning_45 rfl ?_
      refine V_icmp_ne 64 dX4_beginning_46 (by decide) hv11 hr1 (fun c12 => ?_) (fun c12 => ?_)
      · replace E := mmI_f c12 E
        obtain ⟨hv13, E⟩ := mmK_e E
        refine V_iinc (v := (l4 + 1)) (lv' := [(0, .ref 51), (1, vi l1), (3, vi l3), (4, vi (l4 + 1))]) 3 dX4_beginning_64 rfl rfl rfl rfl ?_
        refine V_goto 24 dX4_beginning_67 (by decide) ?_
        exact ih _ _ _ _ hr1 hr3 hv13 E
      · replace E := mmI_t c12 E
        refine V_iload_n 2 dX4_beginning_49 rfl ?_
        refine V_if_ne 61 dX4_beginning_50 (by decide) hr3 (fun c14 => ?_) (fun c14 => ?_)
        · replace E := mmI_f c14 E
          obtain ⟨hv15, E⟩ := mmK_e E
          refine V_iinc (v := (l3 + (-1))) (lv' := [(0, .ref 51), (1, vi l1), (3, vi (l3 + (-1))), (4, vi l4)]) 2 dX4_beginning_61 rfl rfl rfl rfl ?_
          obtain ⟨hv16, E⟩ := mmK_e E
          refine V_iinc (v := (l4 + 1)) (lv' := [(0, .ref 51), (1, vi l1), (3, vi (l3 + (-1))), (4, vi (l4 + 1))]) 3 dX4_beginning_64 rfl rfl rfl rfl ?_
          refine V_goto 24 dX4_beginning_67 (by decide) ?_
          exact ih _ _ _ _ hr1 hv15 hv16 E
        · replace E := mmI_t c14 E
          refine V_aload_n 0 dX4_beginning_53 rfl ?_
          refine V_iload 3 dX4_beginning_54 rfl ?_
          refine V_iconst dX4_beginning_56 rfl ?_
          obtain ⟨q17, hq17, E⟩ := mmB_e E
          refine V_callV (ci := 4) (q := (RX4, TX4, 12)) (Cn := RX4) (st := []) 2 dX4_beginning_57 (ct_X4_of hr4 ir_0 hq17) ml_X4_38 im_X4_of sl_X4_of it_X4 cd_X4_of hy_X4_of ⟨rfl, rfl, by decide, by decide⟩ sh_51 rfl rfl rfl rfl (Nat.le_of_ble_eq_true rfl) (fun hv18 => ?_)
          obtain rfl := Option.some.inj E
          exact V_reti dX4_beginning_60 ⟨rfl, rfl, hv18⟩
noncomputable def f_X4_beginning (l1 : Int) (l2 : Int) (m : Mem) : Option (Int × Mem) :=
  (f_X4_in l1 0 25 m).bind (fun q1 => if q1.1 = 0 then
(some ((-2), q1.2))
else
(if 0 ≤ l2 then
(f_X4_beginning_L24 mmFU l1 l2 0 q1.2)
else
(some ((-2), q1.2))))
set_option maxRecDepth 100000 in
set_option maxHeartbeats 4000000 in
theorem ok_X4_beginning {r : Int × Mem} : ∀ (l1 : Int) (l2 : Int) (m : Mem), inR l1 → inR l2 → f_X4_beginning l1 l2 m = some r → VV RX4 cX4_beginning 5 rm_X4_beginning mmG0 (mmPi r) 0 [(0, .ref 51), (1, vi l1), (2, vi l2)] [] m := by
  intro l1 l2 m hr1 hr2 E
  unfold f_X4_beginning at E
  refine V_iload_n 1 dX4_beginning_0 rfl ?_
  refine V_i2l dX4_beginning_1 hr1 ?_
  refine V_lconst (v := 0) dX4_beginning_2 (by decide) ?_
  refine V_ldc2 (v := 25) dX4_beginning_3 kl_X4_149 (by decide) ?_
  obtain ⟨q1, hq1, E⟩ := mmB_e E
  refine V_callS (st := []) 3 dX4_beginning_6 (ct_X4_in (inRL hr1) (by decide) (by decide) hq1) ml_X4_34 st_X4_in it_X4 cd_X4_in hz_X4_in ⟨rfl, rfl, by decide, by decide⟩ rfl rfl (Nat.le_of_ble_eq_true rfl) (fun hv2 => ?_)
  refine V_if_eq 16 dX4_beginning_9 (by decide) hv2 (fun c3 => ?_) (fun c3 => ?_)
  · replace E := mmI_t c3 E
    refine V_bipush (v := (-2)) dX4_beginning_16 (by decide) ?_
    obtain rfl := Option.some.inj E
    exact V_reti dX4_beginning_18 ⟨rfl, rfl, ir_m2⟩
  · replace E := mmI_f c3 E
    refine V_iload_n 2 dX4_beginning_12 rfl ?_
    refine V_if_ge 19 dX4_beginning_13 (by decide) hr2 (fun c4 => ?_) (fun c4 => ?_)
    · replace E := mmI_t c4 E
      refine V_iload_n 2 dX4_beginning_19 rfl ?_
      refine V_istore_n (i := 3) (lv' := [(0, .ref 51), (1, vi l1), (2, vi l2), (3, vi l2)]) dX4_beginning_20 rfl rfl rfl ?_
      refine V_iconst dX4_beginning_21 rfl ?_
      refine V_istore (lv' := [(0, .ref 51), (1, vi l1), (2, vi l2), (3, vi l2), (4, vi 0)]) dX4_beginning_22 rfl rfl ?_
      refine V_sub [0, 1, 3, 4] rfl ?_
      exact ok_X4_beginning_L24 mmFU _ _ _ _ hr1 hr2 ir_0 E
    · replace E := mmI_f c4 E
      refine V_bipush (v := (-2)) dX4_beginning_16 (by decide) ?_
      obtain rfl := Option.some.inj E
      exact V_reti dX4_beginning_18 ⟨rfl, rfl, ir_m2⟩
theorem ct_X4_beginning {l1 : Int} {l2 : Int} {m : Mem} {r : Int × Mem} (hr1 : inR l1) (hr2 : inR l2) (E : f_X4_beginning l1 l2 m = some r) : CTi yX4_beginning cX4_beginning 5 (some .int) rm_X4_beginning [.ref 51, vi l1, vi l2] m r := CT_i (by decide +kernel) rfl (Nat.le_of_ble_eq_true rfl) (ok_X4_beginning _ _ _ hr1 hr2 E)
theorem hy_X4_beginning : yX4_beginning.cls = RX4 ∧ yX4_beginning.cls ≠ "java/lang/invoke/MethodHandle" ∧ yX4_beginning.cls ≠ "java/lang/invoke/VarHandle" ∧ (parseMethodDescriptor yX4_beginning.desc).map (fun d => d.parameters.length) = some 2 := by decide +kernel
abbrev rm_X4_members : Room := { frames := 1, cells := 0, slots := 0, locals := 22 }
noncomputable def f_X4_members_L4 : Nat → Int → Int → Mem → Option (Int × Mem)
  | 0, _, _, _ => none
  | n + 1, l1, l2, m =>
    if (m.1 52 0) ≤ l2 then
(some (l1, m))
else
((f_X4_of l2 1 m).bind (fun q4 => mmK (inR (1 - q4.1)) (mmK (inR (l1 + (1 - q4.1))) (mmK (inR (l2 + 1)) (f_X4_members_L4 n (l1 + (1 - q4.1)) (l2 + 1) q4.2)))))
set_option maxRecDepth 100000 in
set_option maxHeartbeats 4000000 in
theorem ok_X4_members_L4 {r : Int × Mem} : ∀ (n : Nat), ∀ (l1 : Int) (l2 : Int) (m : Mem), inR l1 → inR l2 → f_X4_members_L4 n l1 l2 m = some r → VV RX4 cX4_members 3 rm_X4_members mmG0 (mmPi r) 4 [(0, .ref 51), (1, vi l1), (2, vi l2)] [] m := by
  intro n
  induction n with
  | zero =>
    intro l1 l2 m hr1 hr2 E
    cases E
  | succ n ih =>
    intro l1 l2 m hr1 hr2 E
    rw [f_X4_members_L4] at E
    refine V_iload_n 2 dX4_members_4 rfl ?_
    refine V_aload_n 0 dX4_members_5 rfl ?_
    refine V_geta (ci := 4) (k := 0) (N := 12) (T := TX4) (o' := 52) dX4_members_6 iuX4 fl_X4_7 rfl (by decide) rfl sh_51 rfl ?_
    refine V_iconst dX4_members_9 rfl ?_
    refine V_iald (n := 149) (j := 0) (v := (m.1 52 0)) dX4_members_10 sh_52 ir_0 (by decide) rfl rfl (fun hv2 => ?_)
    refine V_icmp_ge 31 dX4_members_11 (by decide) hr2 hv2 (fun c3 => ?_) (fun c3 => ?_)
    · replace E := mmI_t c3 E
      refine V_iload_n 1 dX4_members_31 rfl ?_
      obtain rfl := Option.some.inj E
      exact V_reti dX4_members_32 ⟨rfl, rfl, hr1⟩
    · replace E := mmI_f c3 E
      refine V_iload_n 1 dX4_members_14 rfl ?_
      refine V_iconst dX4_members_15 rfl ?_
      refine V_aload_n 0 dX4_members_16 rfl ?_
      refine V_iload_n 2 dX4_members_17 rfl ?_
      refine V_iconst dX4_members_18 rfl ?_
      obtain ⟨q4, hq4, E⟩ := mmB_e E
      refine V_callV (ci := 4) (q := (RX4, TX4, 12)) (Cn := RX4) (st := [vi 1, vi l1]) 2 dX4_members_19 (ct_X4_of hr2 ir_1 hq4) ml_X4_38 im_X4_of sl_X4_of it_X4 cd_X4_of hy_X4_of ⟨rfl, rfl, by decide, by decide⟩ sh_51 rfl rfl rfl rfl (Nat.le_of_ble_eq_true rfl) (fun hv5 => ?_)
      obtain ⟨hv6, E⟩ := mmK_e E
      refine V_isub dX4_members_22 ?_
      obtain ⟨hv7, E⟩ := mmK_e E
      refine V_iadd dX4_members_23 ?_
      refine V_istore_n (i := 1) (lv' := [(0, .ref 51), (1, vi (l1 + (1 - q4.1))), (2, vi l2)]) dX4_members_24 rfl rfl rfl ?_
      obtain ⟨hv8, E⟩ := mmK_e E
      refine V_iinc (v := (l2 + 1)) (lv' := [(0, .ref 51), (1, vi (l1 + (1 - q4.1))), (2, vi (l2 + 1))]) 2 dX4_members_25 rfl rfl rfl rfl ?_
      refine V_goto 4 dX4_members_28 (by decide) ?_
      exact ih _ _ _ hv7 hv8 E
noncomputable def f_X4_members (m : Mem) : Option (Int × Mem) :=
  f_X4_members_L4 mmFU 0 0 m
set_option maxRecDepth 100000 in
set_option maxHeartbeats 4000000 in
theorem ok_X4_members {r : Int × Mem} : ∀ (m : Mem), f_X4_members m = some r → VV RX4 cX4_members 3 rm_X4_members mmG0 (mmPi r) 0 [(0, .ref 51)] [] m := by
  intro m E
  unfold f_X4_members at E
  refine V_iconst dX4_members_0 rfl ?_
  refine V_istore_n (i := 1) (lv' := [(0, .ref 51), (1, vi 0)]) dX4_members_1 rfl rfl rfl ?_
  refine V_iconst dX4_members_2 rfl ?_
  refine V_istore_n (i := 2) (lv' := [(0, .ref 51), (1, vi 0), (2, vi 0)]) dX4_members_3 rfl rfl rfl ?_
  exact ok_X4_members_L4 mmFU _ _ _ ir_0 ir_0 E
theorem ct_X4_members {m : Mem} {r : Int × Mem} (E : f_X4_members m = some r) : CTi yX4_members cX4_members 3 (some .int) rm_X4_members [.ref 51] m r := CT_i (by decide +kernel) rfl (Nat.le_of_ble_eq_true rfl) (ok_X4_members  _  E)
theorem hy_X4_members : yX4_members.cls = RX4 ∧ yX4_members.cls ≠ "java/lang/invoke/MethodHandle" ∧ yX4_members.cls ≠ "java/lang/invoke/VarHandle" ∧ (parseMethodDescriptor yX4_members.desc).map (fun d => d.parameters.length) = some 0 := by decide +kernel
