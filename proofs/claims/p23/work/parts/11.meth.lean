abbrev rm_X1_noteAddition : Room := { frames := 0, cells := 0, slots := 0, locals := 0 }
noncomputable def f_X1_noteAddition (l1 : Int) (l2 : Int) (l3 : Int) (l4 : Int) (m : Mem) : Option (Int × Mem) :=
  if (m.1 45 6) < 12 then
(mmK (0 ≤ (m.1 45 6) ∧ (m.1 45 6) < 12) (mmK (0 ≤ (m.1 45 6) ∧ (m.1 45 6) < 12) (mmK (0 ≤ (m.1 45 6) ∧ (m.1 45 6) < 12) (mmK (0 ≤ (m.1 45 6) ∧ (m.1 45 6) < 12) (mmK (inR ((m.1 45 6) + 1)) (some (1, (mwr (mwr (mwr (mwr (mwr m 47 ((m.1 45 6)).toNat l1) 48 ((m.1 45 6)).toNat l2) 49 ((m.1 45 6)).toNat l3) 50 ((m.1 45 6)).toNat l4) 45 6 ((m.1 45 6) + 1)))))))))
else
(some (0, m))
set_option maxRecDepth 100000 in
set_option maxHeartbeats 4000000 in
theorem ok_X1_noteAddition {r : Int × Mem} : ∀ (l1 : Int) (l2 : Int) (l3 : Int) (l4 : Int) (m : Mem), inR l1 → inR l2 → inR l3 → inR l4 → f_X1_noteAddition l1 l2 l3 l4 m = some r → VV RX1 cX1_noteAddition 5 rm_X1_noteAddition mmG0 (mmPz r) 0 [(0, .ref 45), (1, vi l1), (2, vi l2), (3, vi l3), (4, vi l4)] [] m := by
  intro l1 l2 l3 l4 m hr1 hr2 hr3 hr4 E
  unfold f_X1_noteAddition at E
  refine V_aload_n 0 dX1_noteAddition_0 rfl ?_
  refine V_geti (ci := 1) (k := 6) (N := 8) (T := TX1) (v := (m.1 45 6)) dX1_noteAddition_1 iuX1 fl_X1_32 rfl (by decide) rfl sh_45 rfl (fun hv1 => ?_)
  refine V_bipush (v := 12) dX1_noteAddition_4 (by decide) ?_
  refine V_icmp_lt 11 dX1_noteAddition_6 (by decide) hv1 ir_12 (fun c2 => ?_) (fun c2 => ?_)
  · replace E := mmI_t c2 E
    refine V_aload_n 0 dX1_noteAddition_11 rfl ?_
    refine V_geta (ci := 1) (k := 2) (N := 8) (T := TX1) (o' := 47) dX1_noteAddition_12 iuX1 fl_X1_19 rfl (by decide) rfl sh_45 rfl ?_
    refine V_aload_n 0 dX1_noteAddition_15 rfl ?_
    refine V_geti (ci := 1) (k := 6) (N := 8) (T := TX1) (v := (m.1 45 6)) dX1_noteAddition_16 iuX1 fl_X1_32 rfl (by decide) rfl sh_45 rfl (fun hv3 => ?_)
    refine V_iload_n 1 dX1_noteAddition_19 rfl ?_
    obtain ⟨hv4, E⟩ := mmK_e E
    refine V_iast (n := 12) (j := ((m.1 45 6)).toNat) dX1_noteAddition_20 sh_47 hv3 hr1 hv4 rfl ?_
    refine V_aload_n 0 dX1_noteAddition_21 rfl ?_
    refine V_geta (ci := 1) (k := 3) (N := 8) (T := TX1) (o' := 48) dX1_noteAddition_22 iuX1 fl_X1_23 rfl (by decide) rfl sh_45 rfl ?_
    refine V_aload_n 0 dX1_noteAddition_25 rfl ?_
    refine V_geti (ci := 1) (k := 6) (N := 8) (T := TX1) (v := (m.1 45 6)) dX1_noteAddition_26 iuX1 fl_X1_32 rfl (by decide) rfl sh_45 rfl (fun hv5 => ?_)
    refine V_iload_n 2 dX1_noteAddition_29 rfl ?_
    obtain ⟨hv6, E⟩ := mmK_e E
    refine V_iast (n := 12) (j := ((m.1 45 6)).toNat) dX1_noteAddition_30 sh_48 hv5 hr2 hv6 rfl ?_
    refine V_aload_n 0 dX1_noteAddition_31 rfl ?_
    refine V_geta (ci := 1) (k := 4) (N := 8) (T := TX1) (o' := 49) dX1_noteAddition_32 iuX1 fl_X1_26 rfl (by decide) rfl sh_45 rfl ?_
    refine V_aload_n 0 dX1_noteAddition_35 rfl ?_
    refine V_geti (ci := 1) (k := 6) (N := 8) (T := TX1) (v := (m.1 45 6)) dX1_noteAddition_36 iuX1 fl_X1_32 rfl (by decide) rfl sh_45 rfl (fun hv7 => ?_)
    refine V_iload_n 3 dX1_noteAddition_39 rfl ?_
    obtain ⟨hv8, E⟩ := mmK_e E
    refine V_iast (n := 12) (j := ((m.1 45 6)).toNat) dX1_noteAddition_40 sh_49 hv7 hr3 hv8 rfl ?_
    refine V_aload_n 0 dX1_noteAddition_41 rfl ?_
    refine V_geta (ci := 1) (k := 5) (N := 8) (T := TX1) (o' := 50) dX1_noteAddition_42 iuX1 fl_X1_29 rfl (by decide) rfl sh_45 rfl ?_
    refine V_aload_n 0 dX1_noteAddition_45 rfl ?_
    refine V_geti (ci := 1) (k := 6) (N := 8) (T := TX1) (v := (m.1 45 6)) dX1_noteAddition_46 iuX1 fl_X1_32 rfl (by decide) rfl sh_45 rfl (fun hv9 => ?_)
    refine V_iload 4 dX1_noteAddition_49 rfl ?_
    obtain ⟨hv10, E⟩ := mmK_e E
    refine V_iast (n := 12) (j := ((m.1 45 6)).toNat) dX1_noteAddition_51 sh_50 hv9 hr4 hv10 rfl ?_
    refine V_aload_n 0 dX1_noteAddition_52 rfl ?_
    refine V_dupa dX1_noteAddition_53 ?_
    refine V_geti (ci := 1) (k := 6) (N := 8) (T := TX1) (v := (m.1 45 6)) dX1_noteAddition_54 iuX1 fl_X1_32 rfl (by decide) rfl sh_45 rfl (fun hv11 => ?_)
    refine V_iconst dX1_noteAddition_57 rfl ?_
    obtain ⟨hv12, E⟩ := mmK_e E
    refine V_iadd dX1_noteAddition_58 ?_
    refine V_put (ci := 1) (k := 6) (N := 8) (T := TX1) (x := ((m.1 45 6) + 1)) (ty := .int) tyX1 dX1_noteAddition_59 iuX1 tyX1_ok nmX1 fl_X1_32 rfl (by decide) rfl sh_45 rfl (by decide +kernel) rfl rfl hv12 ?_
    refine V_iconst dX1_noteAddition_62 rfl ?_
    obtain rfl := Option.some.inj E
    exact V_reti dX1_noteAddition_63 ⟨rfl, rfl, (Or.inr rfl)⟩
  · replace E := mmI_f c2 E
    refine V_iconst dX1_noteAddition_9 rfl ?_
    obtain rfl := Option.some.inj E
    exact V_reti dX1_noteAddition_10 ⟨rfl, rfl, (Or.inl rfl)⟩
theorem ct_X1_noteAddition {l1 : Int} {l2 : Int} {l3 : Int} {l4 : Int} {m : Mem} {r : Int × Mem} (hr1 : inR l1) (hr2 : inR l2) (hr3 : inR l3) (hr4 : inR l4) (E : f_X1_noteAddition l1 l2 l3 l4 m = some r) : CTi yX1_noteAddition cX1_noteAddition 5 (some .boolean) rm_X1_noteAddition [.ref 45, vi l1, vi l2, vi l3, vi l4] m r := CT_z (by decide +kernel) rfl (Nat.le_of_ble_eq_true rfl) (ok_X1_noteAddition _ _ _ _ _ hr1 hr2 hr3 hr4 E)
theorem hy_X1_noteAddition : yX1_noteAddition.cls = RX1 ∧ yX1_noteAddition.cls ≠ "java/lang/invoke/MethodHandle" ∧ yX1_noteAddition.cls ≠ "java/lang/invoke/VarHandle" ∧ (parseMethodDescriptor yX1_noteAddition.desc).map (fun d => d.parameters.length) = some 4 := by decide +kernel
abbrev rm_X1_readMember : Room := { frames := 3, cells := 0, slots := 0, locals := 66 }
noncomputable def f_X1_readMember_L35 (l1 : Int) (l2 : Int) (l3 : Int) (m : Mem) : Option (Int × Mem) :=
  if l3 = (-1) then
(some (0, m))
else
((f_X1_noteAddition l1 (-5) l2 l3 m).bind (fun q8 => if q8.1 = 0 then
(some (0, q8.2))
else
(some (1, q8.2))))
set_option maxRecDepth 100000 in
set_option maxHeartbeats 4000000 in
theorem ok_X1_readMember_L35 {r : Int × Mem} : ∀ (l1 : Int) (l2 : Int) (l3 : Int) (m : Mem), inR l1 → inR l2 → inR l3 → f_X1_readMember_L35 l1 l2 l3 m = some r → VV RX1 cX1_readMember 4 rm_X1_readMember mmG0 (mmPz r) 35 [(0, .ref 45), (1, vi l1), (2, vi l2), (3, vi l3)] [] m := by
  intro l1 l2 l3 m hr1 hr2 hr3 E
  unfold f_X1_readMember_L35 at E
  refine V_iload_n 3 dX1_readMember_35 rfl ?_
  refine V_iconst dX1_readMember_36 rfl ?_
  refine V_icmp_eq 56 dX1_readMember_37 (by decide) hr3 ir_m1 (fun c7 => ?_) (fun c7 => ?_)
  · replace E := mmI_t c7 E
    refine V_iconst dX1_readMember_56 rfl ?_
    obtain rfl := Option.some.inj E
    exact V_reti dX1_readMember_57 ⟨rfl, rfl, (Or.inl rfl)⟩
  · replace E := mmI_f c7 E
    refine V_aload_n 0 dX1_readMember_40 rfl ?_
    refine V_iload_n 1 dX1_readMember_41 rfl ?_
    refine V_bipush (v := (-5)) dX1_readMember_42 (by decide) ?_
    refine V_iload_n 2 dX1_readMember_44 rfl ?_
    refine V_iload_n 3 dX1_readMember_45 rfl ?_
    obtain ⟨q8, hq8, E⟩ := mmB_e E
    refine V_callV (ci := 1) (q := (RX1, TX1, 8)) (Cn := RX1) (st := []) 4 dX1_readMember_46 (ct_X1_noteAddition hr1 ir_m5 hr2 hr3 hq8) ml_X1_70 im_X1_noteAddition sl_X1_noteAddition it_X1 cd_X1_noteAddition hy_X1_noteAddition ⟨rfl, rfl, by decide, by decide⟩ sh_45 rfl rfl rfl rfl (Nat.le_of_ble_eq_true rfl) (fun hv9 => ?_)
    refine V_if_eq 56 dX1_readMember_49 (by decide) hv9 (fun c10 => ?_) (fun c10 => ?_)
    · replace E := mmI_t c10 E
      refine V_iconst dX1_readMember_56 rfl ?_
      obtain rfl := Option.some.inj E
      exact V_reti dX1_readMember_57 ⟨rfl, rfl, (Or.inl rfl)⟩
    · replace E := mmI_f c10 E
      refine V_iconst dX1_readMember_52 rfl ?_
      refine V_goto 57 dX1_readMember_53 (by decide) ?_
      obtain rfl := Option.some.inj E
      exact V_reti dX1_readMember_57 ⟨rfl, rfl, (Or.inr rfl)⟩
noncomputable def f_X1_readMember (l1 : Int) (m : Mem) : Option (Int × Mem) :=
  (f_X1_readNumber 1 40 m).bind (fun q1 => if q1.1 = (-1) then
(some (0, q1.2))
else
((f_X1_takes 44 q1.2).bind (fun q4 => if q4.1 = 0 then
(f_X1_readMember_L35 l1 q1.1 0 q4.2)
else
((f_X1_readNumber 0 9999 q4.2).bind (fun q11 => f_X1_readMember_L35 l1 q1.1 q11.1 q11.2)))))
set_option maxRecDepth 100000 in
set_option maxHeartbeats 4000000 in
theorem ok_X1_readMember {r : Int × Mem} : ∀ (l1 : Int) (m : Mem), inR l1 → f_X1_readMember l1 m = some r → VV RX1 cX1_readMember 4 rm_X1_readMember mmG0 (mmPz r) 0 [(0, .ref 45), (1, vi l1)] [] m := by
  intro l1 m hr1 E
  unfold f_X1_readMember at E
  refine V_aload_n 0 dX1_readMember_0 rfl ?_
  refine V_iconst dX1_readMember_1 rfl ?_
  refine V_bipush (v := 40) dX1_readMember_2 (by decide) ?_
  obtain ⟨q1, hq1, E⟩ := mmB_e E
  refine V_callV (ci := 1) (q := (RX1, TX1, 8)) (Cn := RX1) (st := []) 2 dX1_readMember_4 (ct_X1_readNumber ir_1 ir_40 hq1) ml_X1_67 im_X1_readNumber sl_X1_readNumber it_X1 cd_X1_readNumber hy_X1_readNumber ⟨rfl, rfl, by decide, by decide⟩ sh_45 rfl rfl rfl rfl (Nat.le_of_ble_eq_true rfl) (fun hv2 => ?_)
  refine V_istore_n (i := 2) (lv' := [(0, .ref 45), (1, vi l1), (2, vi q1.1)]) dX1_readMember_7 rfl rfl rfl ?_
  refine V_iload_n 2 dX1_readMember_8 rfl ?_
  refine V_iconst dX1_readMember_9 rfl ?_
  refine V_icmp_ne 15 dX1_readMember_10 (by decide) hv2 ir_m1 (fun c3 => ?_) (fun c3 => ?_)
  · replace E := mmI_f c3 E
    refine V_iconst dX1_readMember_15 rfl ?_
    refine V_istore_n (i := 3) (lv' := [(0, .ref 45), (1, vi l1), (2, vi q1.1), (3, vi 0)]) dX1_readMember_16 rfl rfl rfl ?_
    refine V_aload_n 0 dX1_readMember_17 rfl ?_
    refine V_bipush (v := 44) dX1_readMember_18 (by decide) ?_
    obtain ⟨q4, hq4, E⟩ := mmB_e E
    refine V_callV (ci := 1) (q := (RX1, TX1, 8)) (Cn := RX1) (st := []) 1 dX1_readMember_20 (ct_X1_takes ir_44 hq4) ml_X1_42 im_X1_takes sl_X1_takes it_X1 cd_X1_takes hy_X1_takes ⟨rfl, rfl, by decide, by decide⟩ sh_45 rfl rfl rfl rfl (Nat.le_of_ble_eq_true rfl) (fun hv5 => ?_)
    refine V_if_eq 35 dX1_readMember_23 (by decide) hv5 (fun c6 => ?_) (fun c6 => ?_)
    · replace E := mmI_t c6 E
      exact ok_X1_readMember_L35 _ _ _ _ hr1 hv2 ir_0 E
    · replace E := mmI_f c6 E
      refine V_aload_n 0 dX1_readMember_26 rfl ?_
      refine V_iconst dX1_readMember_27 rfl ?_
      refine V_sipush (v := 9999) dX1_readMember_28 (by decide) ?_
      obtain ⟨q11, hq11, E⟩ := mmB_e E
      refine V_callV (ci := 1) (q := (RX1, TX1, 8)) (Cn := RX1) (st := []) 2 dX1_readMember_31 (ct_X1_readNumber ir_0 ir_9999 hq11) ml_X1_67 im_X1_readNumber sl_X1_readNumber it_X1 cd_X1_readNumber hy_X1_readNumber ⟨rfl, rfl, by decide, by decide⟩ sh_45 rfl rfl rfl rfl (Nat.le_of_ble_eq_true rfl) (fun hv12 => ?_)
      refine V_istore_n (i := 3) (lv' := [(0, .ref 45), (1, vi l1), (2, vi q1.1), (3, vi q11.1)]) dX1_readMember_34 rfl rfl rfl ?_
      exact ok_X1_readMember_L35 _ _ _ _ hr1 hv2 hv12 E
  · replace E := mmI_t c3 E
    refine V_iconst dX1_readMember_13 rfl ?_
    obtain rfl := Option.some.inj E
    exact V_reti dX1_readMember_14 ⟨rfl, rfl, (Or.inl rfl)⟩
theorem ct_X1_readMember {l1 : Int} {m : Mem} {r : Int × Mem} (hr1 : inR l1) (E : f_X1_readMember l1 m = some r) : CTi yX1_readMember cX1_readMember 4 (some .boolean) rm_X1_readMember [.ref 45, vi l1] m r := CT_z (by decide +kernel) rfl (Nat.le_of_ble_eq_true rfl) (ok_X1_readMember _ _ hr1 E)
theorem hy_X1_readMember : yX1_readMember.cls = RX1 ∧ yX1_readMember.cls ≠ "java/lang/invoke/MethodHandle" ∧ yX1_readMember.cls ≠ "java/lang/invoke/VarHandle" ∧ (parseMethodDescriptor yX1_readMember.desc).map (fun d => d.parameters.length) = some 1 := by decide +kernel
abbrev rm_X1_readAlias : Room := { frames := 3, cells := 0, slots := 0, locals := 63 }
noncomputable def f_X1_readAlias (l1 : Int) (m : Mem) : Option (Int × Mem) :=
  (f_X1_readName m).bind (fun q1 => if q1.1 = (-1) then
(some (0, q1.2))
else
((f_X1_noteAddition l1 q1.1 0 0 q1.2).bind (fun q4 => if q4.1 = 0 then
(some (0, q4.2))
else
(some (1, q4.2)))))
set_option maxRecDepth 100000 in
set_option maxHeartbeats 4000000 in
theorem ok_X1_readAlias {r : Int × Mem} : ∀ (l1 : Int) (m : Mem), inR l1 → f_X1_readAlias l1 m = some r → VV RX1 cX1_readAlias 3 rm_X1_readAlias mmG0 (mmPz r) 0 [(0, .ref 45), (1, vi l1)] [] m := by
  intro l1 m hr1 E
  unfold f_X1_readAlias at E
  refine V_aload_n 0 dX1_readAlias_0 rfl ?_
  obtain ⟨q1, hq1, E⟩ := mmB_e E
  refine V_callV (ci := 1) (q := (RX1, TX1, 8)) (Cn := RX1) (st := []) 0 dX1_readAlias_1 (ct_X1_readName hq1) ml_X1_56 im_X1_readName sl_X1_readName it_X1 cd_X1_readName hy_X1_readName ⟨rfl, rfl, by decide, by decide⟩ sh_45 rfl rfl rfl rfl (Nat.le_of_ble_eq_true rfl) (fun hv2 => ?_)
  refine V_istore_n (i := 2) (lv' := [(0, .ref 45), (1, vi l1), (2, vi q1.1)]) dX1_readAlias_4 rfl rfl rfl ?_
  refine V_iload_n 2 dX1_readAlias_5 rfl ?_
  refine V_iconst dX1_readAlias_6 rfl ?_
  refine V_icmp_eq 25 dX1_readAlias_7 (by decide) hv2 ir_m1 (fun c3 => ?_) (fun c3 => ?_)
  · replace E := mmI_t c3 E
    refine V_iconst dX1_readAlias_25 rfl ?_
    obtain rfl := Option.some.inj E
    exact V_reti dX1_readAlias_26 ⟨rfl, rfl, (Or.inl rfl)⟩
  · replace E := mmI_f c3 E
    refine V_aload_n 0 dX1_readAlias_10 rfl ?_
    refine V_iload_n 1 dX1_readAlias_11 rfl ?_
    refine V_iload_n 2 dX1_readAlias_12 rfl ?_
    refine V_iconst dX1_readAlias_13 rfl ?_
    refine V_iconst dX1_readAlias_14 rfl ?_
    obtain ⟨q4, hq4, E⟩ := mmB_e E
    refine V_callV (ci := 1) (q := (RX1, TX1, 8)) (Cn := RX1) (st := []) 4 dX1_readAlias_15 (ct_X1_noteAddition hr1 hv2 ir_0 ir_0 hq4) ml_X1_70 im_X1_noteAddition sl_X1_noteAddition it_X1 cd_X1_noteAddition hy_X1_noteAddition ⟨rfl, rfl, by decide, by decide⟩ sh_45 rfl rfl rfl rfl (Nat.le_of_ble_eq_true rfl) (fun hv5 => ?_)
    refine V_if_eq 25 dX1_readAlias_18 (by decide) hv5 (fun c6 => ?_) (fun c6 => ?_)
    · replace E := mmI_t c6 E
      refine V_iconst dX1_readAlias_25 rfl ?_
      obtain rfl := Option.some.inj E
      exact V_reti dX1_readAlias_26 ⟨rfl, rfl, (Or.inl rfl)⟩
    · replace E := mmI_f c6 E
      refine V_iconst dX1_readAlias_21 rfl ?_
      refine V_goto 26 dX1_readAlias_22 (by decide) ?_
      obtain rfl := Option.some.inj E
      exact V_reti dX1_readAlias_26 ⟨rfl, rfl, (Or.inr rfl)⟩
theorem ct_X1_readAlias {l1 : Int} {m : Mem} {r : Int × Mem} (hr1 : inR l1) (E : f_X1_readAlias l1 m = some r) : CTi yX1_readAlias cX1_readAlias 3 (some .boolean) rm_X1_readAlias [.ref 45, vi l1] m r := CT_z (by decide +kernel) rfl (Nat.le_of_ble_eq_true rfl) (ok_X1_readAlias _ _ hr1 E)
theorem hy_X1_readAlias : yX1_readAlias.cls = RX1 ∧ yX1_readAlias.cls ≠ "java/lang/invoke/MethodHandle" ∧ yX1_readAlias.cls ≠ "java/lang/invoke/VarHandle" ∧ (parseMethodDescriptor yX1_readAlias.desc).map (fun d => d.parameters.length) = some 1 := by decide +kernel
abbrev rm_X1_readAddition : Room := { frames := 4, cells := 0, slots := 0, locals := 89 }
noncomputable def f_X1_readAddition (m : Mem) : Option (Int × Mem) :=
  (f_X1_readName m).bind (fun q1 => if q1.1 = (-1) then
(some (0, q1.2))
else
((f_X1_takes 61 q1.2).bind (fun q4 => if q4.1 = 0 then
((f_X1_takes 62 q4.2).bind (fun q7 => if q7.1 = 0 then
(some (0, q7.2))
else
((f_X1_readAlias q1.1 q7.2).bind (fun q10 => if q10.1 = 0 then
(some (0, q10.2))
else
(some (1, q10.2))))))
else
((f_X1_readMember q1.1 q4.2).bind (fun q13 => mmK (q13.1 = 0 ∨ q13.1 = 1) (some (q13.1, q13.2)))))))
set_option maxRecDepth 100000 in
set_option maxHeartbeats 4000000 in
theorem ok_X1_readAddition {r : Int × Mem} : ∀ (m : Mem), f_X1_readAddition m = some r → VV RX1 cX1_readAddition 2 rm_X1_readAddition mmG0 (mmPz r) 0 [(0, .ref 45)] [] m := by
  intro m E
  unfold f_X1_readAddition at E
  refine V_aload_n 0 dX1_readAddition_0 rfl ?_
  obtain ⟨q1, hq1, E⟩ := mmB_e E
  refine V_callV (ci := 1) (q := (RX1, TX1, 8)) (Cn := RX1) (st := []) 0 dX1_readAddition_1 (ct_X1_readName hq1) ml_X1_56 im_X1_readName sl_X1_readName it_X1 cd_X1_readName hy_X1_readName ⟨rfl, rfl, by decide, by decide⟩ sh_45 rfl rfl rfl rfl (Nat.le_of_ble_eq_true rfl) (fun hv2 => ?_)
  refine V_istore_n (i := 1) (lv' := [(0, .ref 45), (1, vi q1.1)]) dX1_readAddition_4 rfl rfl rfl ?_
  refine V_iload_n 1 dX1_readAddition_5 rfl ?_
  refine V_iconst dX1_readAddition_6 rfl ?_
  refine V_icmp_ne 12 dX1_readAddition_7 (by decide) hv2 ir_m1 (fun c3 => ?_) (fun c3 => ?_)
  · replace E := mmI_f c3 E
    refine V_aload_n 0 dX1_readAddition_12 rfl ?_
    refine V_bipush (v := 61) dX1_readAddition_13 (by decide) ?_
    obtain ⟨q4, hq4, E⟩ := mmB_e E
    refine V_callV (ci := 1) (q := (RX1, TX1, 8)) (Cn := RX1) (st := []) 1 dX1_readAddition_15 (ct_X1_takes ir_61 hq4) ml_X1_42 im_X1_takes sl_X1_takes it_X1 cd_X1_takes hy_X1_takes ⟨rfl, rfl, by decide, by decide⟩ sh_45 rfl rfl rfl rfl (Nat.le_of_ble_eq_true rfl) (fun hv5 => ?_)
    refine V_if_eq 27 dX1_readAddition_18 (by decide) hv5 (fun c6 => ?_) (fun c6 => ?_)
    · replace E := mmI_t c6 E
      refine V_aload_n 0 dX1_readAddition_27 rfl ?_
      refine V_bipush (v := 62) dX1_readAddition_28 (by decide) ?_
      obtain ⟨q7, hq7, E⟩ := mmB_e E
      refine V_callV (ci := 1) (q := (RX1, TX1, 8)) (Cn := RX1) (st := []) 1 dX1_readAddition_30 (ct_X1_takes ir_62 hq7) ml_X1_42 im_X1_takes sl_X1_takes it_X1 cd_X1_takes hy_X1_takes ⟨rfl, rfl, by decide, by decide⟩ sh_45 rfl rfl rfl rfl (Nat.le_of_ble_eq_true rfl) (fun hv8 => ?_)
      refine V_if_eq 48 dX1_readAddition_33 (by decide) hv8 (fun c9 => ?_) (fun c9 => ?_)
      · replace E := mmI_t c9 E
        refine V_iconst dX1_readAddition_48 rfl ?_
        obtain rfl := Option.some.inj E
        exact V_reti dX1_readAddition_49 ⟨rfl, rfl, (Or.inl rfl)⟩
      · replace E := mmI_f c9 E
        refine V_aload_n 0 dX1_readAddition_36 rfl ?_
        refine V_iload_n 1 dX1_readAddition_37 rfl ?_
        obtain ⟨q10, hq10, E⟩ := mmB_e E
        refine V_callV (ci := 1) (q := (RX1, TX1, 8)) (Cn := RX1) (st := []) 1 dX1_readAddition_38 (ct_X1_readAlias hv2 hq10) ml_X1_64 im_X1_readAlias sl_X1_readAlias it_X1 cd_X1_readAlias hy_X1_readAlias ⟨rfl, rfl, by decide, by decide⟩ sh_45 rfl rfl rfl rfl (Nat.le_of_ble_eq_true rfl) (fun hv11 => ?_)
        refine V_if_eq 48 dX1_readAddition_41 (by decide) hv11 (fun c12 => ?_) (fun c12 => ?_)
        · replace E := mmI_t c12 E
          refine V_iconst dX1_readAddition_48 rfl ?_
          obtain rfl := Option.some.inj E
          exact V_reti dX1_readAddition_49 ⟨rfl, rfl, (Or.inl rfl)⟩
        · replace E := mmI_f c12 E
          refine V_iconst dX1_readAddition_44 rfl ?_
          refine V_goto 49 dX1_readAddition_45 (by decide) ?_
          obtain rfl := Option.some.inj E
          exact V_reti dX1_readAddition_49 ⟨rfl, rfl, (Or.inr rfl)⟩
    · replace E := mmI_f c6 E
      refine V_aload_n 0 dX1_readAddition_21 rfl ?_
      refine V_iload_n 1 dX1_readAddition_22 rfl ?_
      obtain ⟨q13, hq13, E⟩ := mmB_e E
      refine V_callV (ci := 1) (q := (RX1, TX1, 8)) (Cn := RX1) (st := []) 1 dX1_readAddition_23 (ct_X1_readMember hv2 hq13) ml_X1_60 im_X1_readMember sl_X1_readMember it_X1 cd_X1_readMember hy_X1_readMember ⟨rfl, rfl, by decide, by decide⟩ sh_45 rfl rfl rfl rfl (Nat.le_of_ble_eq_true rfl) (fun hv14 => ?_)
      obtain ⟨hz15, E⟩ := mmK_e E
      obtain rfl := Option.some.inj E
      exact V_reti dX1_readAddition_26 ⟨rfl, rfl, hz15⟩
  · replace E := mmI_t c3 E
    refine V_iconst dX1_readAddition_10 rfl ?_
    obtain rfl := Option.some.inj E
    exact V_reti dX1_readAddition_11 ⟨rfl, rfl, (Or.inl rfl)⟩
theorem ct_X1_readAddition {m : Mem} {r : Int × Mem} (E : f_X1_readAddition m = some r) : CTi yX1_readAddition cX1_readAddition 2 (some .boolean) rm_X1_readAddition [.ref 45] m r := CT_z (by decide +kernel) rfl (Nat.le_of_ble_eq_true rfl) (ok_X1_readAddition  _  E)
theorem hy_X1_readAddition : yX1_readAddition.cls = RX1 ∧ yX1_readAddition.cls ≠ "java/lang/invoke/MethodHandle" ∧ yX1_readAddition.cls ≠ "java/lang/invoke/VarHandle" ∧ (parseMethodDescriptor yX1_readAddition.desc).map (fun d => d.parameters.length) = some 0 := by decide +kernel
abbrev rm_X1_readAdditions : Room := { frames := 5, cells := 0, slots := 0, locals := 110 }
noncomputable def f_X1_readAdditions_L12 : Nat → Int → Mem → Option (Int × Mem)
  | 0, _, _ => none
  | n + 1, l1, m =>
    if 12 < l1 then
(some ((m.1 45 7), m))
else
((f_X1_readAddition m).bind (fun q3 => if q3.1 = 0 then
(some ((q3.2.1 45 7), q3.2))
else
(if (q3.2.1 45 7) < (q3.2.1 45 1) then
((f_X1_takes 59 q3.2).bind (fun q9 => if q9.1 = 0 then
(some ((q9.2.1 45 7), q9.2))
else
(mmK (inR (l1 + 1)) (f_X1_readAdditions_L12 n (l1 + 1) q9.2))))
else
(some ((-1), q3.2)))))
set_option maxRecDepth 100000 in
set_option maxHeartbeats 4000000 in
theorem ok_X1_readAdditions_L12 {r : Int × Mem} : ∀ (n : Nat), ∀ (l1 : Int) (m : Mem), inR l1 → f_X1_readAdditions_L12 n l1 m = some r → VV RX1 cX1_readAdditions 2 rm_X1_readAdditions mmG0 (mmPi r) 12 [(0, .ref 45), (1, vi l1)] [] m := by
  intro n
  induction n with
  | zero =>
    intro l1 m hr1 E
    cases E
  | succ n ih =>
    intro l1 m hr1 E
    rw [f_X1_readAdditions_L12] at E
    refine V_iload_n 1 dX1_readAdditions_12 rfl ?_
    refine V_bipush (v := 12) dX1_readAdditions_13 (by decide) ?_
    refine V_icmp_gt 63 dX1_readAdditions_15 (by decide) hr1 ir_12 (fun c1 => ?_) (fun c1 => ?_)
    · replace E := mmI_t c1 E
      refine V_aload_n 0 dX1_readAdditions_63 rfl ?_
      refine V_geti (ci := 1) (k := 7) (N := 8) (T := TX1) (v := (m.1 45 7)) dX1_readAdditions_64 iuX1 fl_X1_35 rfl (by decide) rfl sh_45 rfl (fun hv2 => ?_)
      obtain rfl := Option.some.inj E
      exact V_reti dX1_readAdditions_67 ⟨rfl, rfl, hv2⟩
    · replace E := mmI_f c1 E
      refine V_aload_n 0 dX1_readAdditions_18 rfl ?_
      obtain ⟨q3, hq3, E⟩ := mmB_e E
      refine V_callV (ci := 1) (q := (RX1, TX1, 8)) (Cn := RX1) (st := []) 0 dX1_readAdditions_19 (ct_X1_readAddition hq3) ml_X1_38 im_X1_readAddition sl_X1_readAddition it_X1 cd_X1_readAddition hy_X1_readAddition ⟨rfl, rfl, by decide, by decide⟩ sh_45 rfl rfl rfl rfl (Nat.le_of_ble_eq_true rfl) (fun hv4 => ?_)
      refine V_if_ne 30 dX1_readAdditions_22 (by decide) hv4 (fun c5 => ?_) (fun c5 => ?_)
      · replace E := mmI_f c5 E
        refine V_aload_n 0 dX1_readAdditions_30 rfl ?_
        refine V_geti (ci := 1) (k := 7) (N := 8) (T := TX1) (v := (q3.2.1 45 7)) dX1_readAdditions_31 iuX1 fl_X1_35 rfl (by decide) rfl sh_45 rfl (fun hv6 => ?_)
        refine V_aload_n 0 dX1_readAdditions_34 rfl ?_
        refine V_geti (ci := 1) (k := 1) (N := 8) (T := TX1) (v := (q3.2.1 45 1)) dX1_readAdditions_35 iuX1 fl_X1_15 rfl (by decide) rfl sh_45 rfl (fun hv7 => ?_)
        refine V_icmp_lt 43 dX1_readAdditions_38 (by decide) hv6 hv7 (fun c8 => ?_) (fun c8 => ?_)
        · replace E := mmI_t c8 E
          refine V_aload_n 0 dX1_readAdditions_43 rfl ?_
          refine V_bipush (v := 59) dX1_readAdditions_44 (by decide) ?_
          obtain ⟨q9, hq9, E⟩ := mmB_e E
          refine V_callV (ci := 1) (q := (RX1, TX1, 8)) (Cn := RX1) (st := []) 1 dX1_readAdditions_46 (ct_X1_takes ir_59 hq9) ml_X1_42 im_X1_takes sl_X1_takes it_X1 cd_X1_takes hy_X1_takes ⟨rfl, rfl, by decide, by decide⟩ sh_45 rfl rfl rfl rfl (Nat.le_of_ble_eq_true rfl) (fun hv10 => ?_)
          refine V_if_ne 57 dX1_readAdditions_49 (by decide) hv10 (fun c11 => ?_) (fun c11 => ?_)
          · replace E := mmI_f c11 E
            obtain ⟨hv12, E⟩ := mmK_e E
            refine V_iinc (v := (l1 + 1)) (lv' := [(0, .ref 45), (1, vi (l1 + 1))]) 1 dX1_readAdditions_57 rfl rfl rfl rfl ?_
            refine V_goto 12 dX1_readAdditions_60 (by decide) ?_
            exact ih _ _ hv12 E
          · replace E := mmI_t c11 E
            refine V_aload_n 0 dX1_readAdditions_52 rfl ?_
            refine V_geti (ci := 1) (k := 7) (N := 8) (T := TX1) (v := (q9.2.1 45 7)) dX1_readAdditions_53 iuX1 fl_X1_35 rfl (by decide) rfl sh_45 rfl (fun hv13 => ?_)
            obtain rfl := Option.some.inj E
            exact V_reti dX1_readAdditions_56 ⟨rfl, rfl, hv13⟩
        · replace E := mmI_f c8 E
          refine V_iconst dX1_readAdditions_41 rfl ?_
          obtain rfl := Option.some.inj E
          exact V_reti dX1_readAdditions_42 ⟨rfl, rfl, ir_m1⟩
      · replace E := mmI_t c5 E
        refine V_aload_n 0 dX1_readAdditions_25 rfl ?_
        refine V_geti (ci := 1) (k := 7) (N := 8) (T := TX1) (v := (q3.2.1 45 7)) dX1_readAdditions_26 iuX1 fl_X1_35 rfl (by decide) rfl sh_45 rfl (fun hv14 => ?_)
        obtain rfl := Option.some.inj E
        exact V_reti dX1_readAdditions_29 ⟨rfl, rfl, hv14⟩
noncomputable def f_X1_readAdditions (m : Mem) : Option (Int × Mem) :=
  f_X1_readAdditions_L12 mmFU 0 (mwr (mwr m 45 6 0) 45 7 0)
set_option maxRecDepth 100000 in
set_option maxHeartbeats 4000000 in
theorem ok_X1_readAdditions {r : Int × Mem} : ∀ (m : Mem), f_X1_readAdditions m = some r → VV RX1 cX1_readAdditions 2 rm_X1_readAdditions mmG0 (mmPi r) 0 [(0, .ref 45)] [] m := by
  intro m E
  unfold f_X1_readAdditions at E
  refine V_aload_n 0 dX1_readAdditions_0 rfl ?_
  refine V_iconst dX1_readAdditions_1 rfl ?_
  refine V_put (ci := 1) (k := 6) (N := 8) (T := TX1) (x := 0) (ty := .int) tyX1 dX1_readAdditions_2 iuX1 tyX1_ok nmX1 fl_X1_32 rfl (by decide) rfl sh_45 rfl (by decide +kernel) rfl rfl ir_0 ?_
  refine V_aload_n 0 dX1_readAdditions_5 rfl ?_
  refine V_iconst dX1_readAdditions_6 rfl ?_
  refine V_put (ci := 1) (k := 7) (N := 8) (T := TX1) (x := 0) (ty := .int) tyX1 dX1_readAdditions_7 iuX1 tyX1_ok nmX1 fl_X1_35 rfl (by decide) rfl sh_45 rfl (by decide +kernel) rfl rfl ir_0 ?_
  refine V_iconst dX1_readAdditions_10 rfl ?_
  refine V_istore_n (i := 1) (lv' := [(0, .ref 45), (1, vi 0)]) dX1_readAdditions_11 rfl rfl rfl ?_
  exact ok_X1_readAdditions_L12 mmFU _ _ ir_0 E
theorem ct_X1_readAdditions {m : Mem} {r : Int × Mem} (E : f_X1_readAdditions m = some r) : CTi yX1_readAdditions cX1_readAdditions 2 (some .int) rm_X1_readAdditions [.ref 45] m r := CT_i (by decide +kernel) rfl (Nat.le_of_ble_eq_true rfl) (ok_X1_readAdditions  _  E)
theorem hy_X1_readAdditions : yX1_readAdditions.cls = RX1 ∧ yX1_readAdditions.cls ≠ "java/lang/invoke/MethodHandle" ∧ yX1_readAdditions.cls ≠ "java/lang/invoke/VarHandle" ∧ (parseMethodDescriptor yX1_readAdditions.desc).map (fun d => d.parameters.length) = some 0 := by decide +kernel
abbrev rm_X2_isName : Room := { frames := 0, cells := 0, slots := 0, locals := 0 }
noncomputable def f_X2_isName (l0 : Int) (m : Mem) : Option (Int × Mem) :=
  if l0 < 0 then
(some (0, m))
else
(if 676 ≤ l0 then
(some (0, m))
else
(some (1, m)))
set_option maxRecDepth 100000 in
set_option maxHeartbeats 4000000 in
theorem ok_X2_isName {r : Int × Mem} : ∀ (l0 : Int) (m : Mem), inR l0 → f_X2_isName l0 m = some r → VV RX2 cX2_isName 1 rm_X2_isName mmG0 (mmPz r) 0 [(0, vi l0)] [] m := by
  intro l0 m hr0 E
  unfold f_X2_isName at E
  refine V_iload_n 0 dX2_isName_0 rfl ?_
  refine V_if_lt 15 dX2_isName_1 (by decide) hr0 (fun c1 => ?_) (fun c1 => ?_)
  · replace E := mmI_t c1 E
    refine V_iconst dX2_isName_15 rfl ?_
    obtain rfl := Option.some.inj E
    exact V_reti dX2_isName_16 ⟨rfl, rfl, (Or.inl rfl)⟩
  · replace E := mmI_f c1 E
    refine V_iload_n 0 dX2_isName_4 rfl ?_
    refine V_sipush (v := 676) dX2_isName_5 (by decide) ?_
    refine V_icmp_ge 15 dX2_isName_8 (by decide) hr0 ir_676 (fun c2 => ?_) (fun c2 => ?_)
    · replace E := mmI_t c2 E
      refine V_iconst dX2_isName_15 rfl ?_
      obtain rfl := Option.some.inj E
      exact V_reti dX2_isName_16 ⟨rfl, rfl, (Or.inl rfl)⟩
    · replace E := mmI_f c2 E
      refine V_iconst dX2_isName_11 rfl ?_
      refine V_goto 16 dX2_isName_12 (by decide) ?_
      obtain rfl := Option.some.inj E
      exact V_reti dX2_isName_16 ⟨rfl, rfl, (Or.inr rfl)⟩
theorem ct_X2_isName {l0 : Int} {m : Mem} {r : Int × Mem} (hr0 : inR l0) (E : f_X2_isName l0 m = some r) : CTi yX2_isName cX2_isName 1 (some .boolean) rm_X2_isName [vi l0] m r := CT_z (by decide +kernel) rfl (Nat.le_of_ble_eq_true rfl) (ok_X2_isName _ _ hr0 E)
theorem hz_X2_isName : yX2_isName.cls ≠ "java/lang/invoke/MethodHandle" ∧ yX2_isName.cls ≠ "java/lang/invoke/VarHandle" ∧ (parseMethodDescriptor yX2_isName.desc).map (fun d => d.parameters.length) = some 1 := by decide +kernel
abbrev rm_X2_isLength : Room := { frames := 0, cells := 0, slots := 0, locals := 0 }
noncomputable def f_X2_isLength (l0 : Int) (m : Mem) : Option (Int × Mem) :=
  if l0 < 1 then
(some (0, m))
else
(if 40 < l0 then
(some (0, m))
else
(some (1, m)))
set_option maxRecDepth 100000 in
set_option maxHeartbeats 4000000 in
theorem ok_X2_isLength {r : Int × Mem} : ∀ (l0 : Int) (m : Mem), inR l0 → f_X2_isLength l0 m = some r → VV RX2 cX2_isLength 1 rm_X2_isLength mmG0 (mmPz r) 0 [(0, vi l0)] [] m := by
  intro l0 m hr0 E
  unfold f_X2_isLength at E
  refine V_iload_n 0 dX2_isLength_0 rfl ?_
  refine V_iconst dX2_isLength_1 rfl ?_
  refine V_icmp_lt 15 dX2_isLength_2 (by decide) hr0 ir_1 (fun c1 => ?_) (fun c1 => ?_)
  · replace E := mmI_t c1 E
    refine V_iconst dX2_isLength_15 rfl ?_
    obtain rfl := Option.some.inj E
    exact V_reti dX2_isLength_16 ⟨rfl, rfl, (Or.inl rfl)⟩
  · replace E := mmI_f c1 E
    refine V_iload_n 0 dX2_isLength_5 rfl ?_
    refine V_bipush (v := 40) dX2_isLength_6 (by decide) ?_
    refine V_icmp_gt 15 dX2_isLength_8 (by decide) hr0 ir_40 (fun c2 => ?_) (fun c2 => ?_)
    · replace E := mmI_t c2 E
      refine V_iconst dX2_isLength_15 rfl ?_
      obtain rfl := Option.some.inj E
      exact V_reti dX2_isLength_16 ⟨rfl, rfl, (Or.inl rfl)⟩
    · replace E := mmI_f c2 E
      refine V_iconst dX2_isLength_11 rfl ?_
      refine V_goto 16 dX2_isLength_12 (by decide) ?_
      obtain rfl := Option.some.inj E
      exact V_reti dX2_isLength_16 ⟨rfl, rfl, (Or.inr rfl)⟩
theorem ct_X2_isLength {l0 : Int} {m : Mem} {r : Int × Mem} (hr0 : inR l0) (E : f_X2_isLength l0 m = some r) : CTi yX2_isLength cX2_isLength 1 (some .boolean) rm_X2_isLength [vi l0] m r := CT_z (by decide +kernel) rfl (Nat.le_of_ble_eq_true rfl) (ok_X2_isLength _ _ hr0 E)
theorem hz_X2_isLength : yX2_isLength.cls ≠ "java/lang/invoke/MethodHandle" ∧ yX2_isLength.cls ≠ "java/lang/invoke/VarHandle" ∧ (parseMethodDescriptor yX2_isLength.desc).map (fun d => d.parameters.length) = some 1 := by decide +kernel
abbrev rm_X2_isMark : Room := { frames := 0, cells := 0, slots := 0, locals := 0 }
noncomputable def f_X2_isMark (l0 : Int) (m : Mem) : Option (Int × Mem) :=
  if l0 < 0 then
(some (0, m))
else
(if 9999 < l0 then
(some (0, m))
else
(some (1, m)))
set_option maxRecDepth 100000 in
set_option maxHeartbeats 4000000 in
theorem ok_X2_isMark {r : Int × Mem} : ∀ (l0 : Int) (m : Mem), inR l0 → f_X2_isMark l0 m = some r → VV RX2 cX2_isMark 1 rm_X2_isMark mmG0 (mmPz r) 0 [(0, vi l0)] [] m := by
  intro l0 m hr0 E
  unfold f_X2_isMark at E
  refine V_iload_n 0 dX2_isMark_0 rfl ?_
  refine V_if_lt 15 dX2_isMark_1 (by decide) hr0 (fun c1 => ?_) (fun c1 => ?_)
  · replace E := mmI_t c1 E
    refine V_iconst dX2_isMark_15 rfl ?_
    obtain rfl := Option.some.inj E
    exact V_reti dX2_isMark_16 ⟨rfl, rfl, (Or.inl rfl)⟩
  · replace E := mmI_f c1 E
    refine V_iload_n 0 dX2_isMark_4 rfl ?_
    refine V_sipush (v := 9999) dX2_isMark_5 (by decide) ?_
    refine V_icmp_gt 15 dX2_isMark_8 (by decide) hr0 ir_9999 (fun c2 => ?_) (fun c2 => ?_)
    · replace E := mmI_t c2 E
      refine V_iconst dX2_isMark_15 rfl ?_
      obtain rfl := Option.some.inj E
      exact V_reti dX2_isMark_16 ⟨rfl, rfl, (Or.inl rfl)⟩
    · replace E := mmI_f c2 E
      refine V_iconst dX2_isMark_11 rfl ?_
      refine V_goto 16 dX2_isMark_12 (by decide) ?_
      obtain rfl := Option.some.inj E
      exact V_reti dX2_isMark_16 ⟨rfl, rfl, (Or.inr rfl)⟩
theorem ct_X2_isMark {l0 : Int} {m : Mem} {r : Int × Mem} (hr0 : inR l0) (E : f_X2_isMark l0 m = some r) : CTi yX2_isMark cX2_isMark 1 (some .boolean) rm_X2_isMark [vi l0] m r := CT_z (by decide +kernel) rfl (Nat.le_of_ble_eq_true rfl) (ok_X2_isMark _ _ hr0 E)
theorem hz_X2_isMark : yX2_isMark.cls ≠ "java/lang/invoke/MethodHandle" ∧ yX2_isMark.cls ≠ "java/lang/invoke/VarHandle" ∧ (parseMethodDescriptor yX2_isMark.desc).map (fun d => d.parameters.length) = some 1 := by decide +kernel
abbrev rm_X2_rankOf : Room := { frames := 0, cells := 0, slots := 0, locals := 0 }
noncomputable def f_X2_rankOf_L2 : Nat → Nat → Int → Int → Mem → Option (Int × Mem)
  | 0, _, _, _, _ => none
  | n + 1, l0, l1, l2, m =>
    if (m.1 l0 5) ≤ l2 then
(some ((-1), m))
else
(mmK (0 ≤ l2 ∧ l2 < 24) (if (m.1 (l0 + 1) (l2).toNat) = l1 then
(some (l2, m))
else
(mmK (inR (l2 + 1)) (f_X2_rankOf_L2 n l0 l1 (l2 + 1) m))))
set_option maxRecDepth 100000 in
set_option maxHeartbeats 4000000 in
theorem ok_X2_rankOf_L2 {r : Int × Mem} : ∀ (n : Nat), ∀ (l0 : Nat) (l1 : Int) (l2 : Int) (m : Mem), mmSh[l0]? = some (.inl 2) → inR l1 → inR l2 → f_X2_rankOf_L2 n l0 l1 l2 m = some r → VV RX2 cX2_rankOf 3 rm_X2_rankOf mmG0 (mmPi r) 2 [(0, .ref l0), (1, vi l1), (2, vi l2)] [] m := by
  intro n
  induction n with
  | zero =>
    intro l0 l1 l2 m hs0 hr1 hr2 E
    cases E
  | succ n ih =>
    intro l0 l1 l2 m hs0 hr1 hr2 E
    rw [f_X2_rankOf_L2] at E
    refine V_iload_n 2 dX2_rankOf_2 rfl ?_
    refine V_aload_n 0 dX2_rankOf_3 rfl ?_
    refine V_geti (ci := 2) (k := 5) (N := 10) (T := TX2) (v := (m.1 l0 5)) dX2_rankOf_4 iuX2 fl_X2_27 rfl (by decide) rfl hs0 (by first | rfl | simp [mwr]) (fun hv1 => ?_)
    refine V_icmp_ge 28 dX2_rankOf_7 (by decide) hr2 hv1 (fun c2 => ?_) (fun c2 => ?_)
    · replace E := mmI_t c2 E
      refine V_iconst dX2_rankOf_28 rfl ?_
      obtain rfl := Option.some.inj E
      exact V_reti dX2_rankOf_29 ⟨rfl, rfl, ir_m1⟩
    · replace E := mmI_f c2 E
      refine V_aload_n 0 dX2_rankOf_10 rfl ?_
      refine V_geta (ci := 2) (k := 0) (N := 10) (T := TX2) (o' := (l0 + 1)) dX2_rankOf_11 iuX2 fl_X2_9 rfl (by decide) rfl hs0 rfl ?_
      refine V_iload_n 2 dX2_rankOf_14 rfl ?_
      obtain ⟨hv3, E⟩ := mmK_e E
      refine V_iald (n := 24) (j := (l2).toNat) (v := (m.1 (l0 + 1) (l2).toNat)) dX2_rankOf_15 (mmS1 hs0) hr2 hv3 rfl (by first | rfl | simp [mwr]) (fun hv4 => ?_)
      refine V_iload_n 1 dX2_rankOf_16 rfl ?_
      refine V_icmp_ne 22 dX2_rankOf_17 (by decide) hv4 hr1 (fun c5 => ?_) (fun c5 => ?_)
      · replace E := mmI_f c5 E
        obtain ⟨hv6, E⟩ := mmK_e E
        refine V_iinc (v := (l2 + 1)) (lv' := [(0, .ref l0), (1, vi l1), (2, vi (l2 + 1))]) 2 dX2_rankOf_22 rfl rfl rfl rfl ?_
        refine V_goto 2 dX2_rankOf_25 (by decide) ?_
        exact ih _ _ _ _ hs0 hr1 hv6 E
      · replace E := mmI_t c5 E
        refine V_iload_n 2 dX2_rankOf_20 rfl ?_
        obtain rfl := Option.some.inj E
        exact V_reti dX2_rankOf_21 ⟨rfl, rfl, hr2⟩
noncomputable def f_X2_rankOf (l0 : Nat) (l1 : Int) (m : Mem) : Option (Int × Mem) :=
  f_X2_rankOf_L2 mmFU l0 l1 0 m
set_option maxRecDepth 100000 in
set_option maxHeartbeats 4000000 in
theorem ok_X2_rankOf {r : Int × Mem} : ∀ (l0 : Nat) (l1 : Int) (m : Mem), mmSh[l0]? = some (.inl 2) → inR l1 → f_X2_rankOf l0 l1 m = some r → VV RX2 cX2_rankOf 3 rm_X2_rankOf mmG0 (mmPi r) 0 [(0, .ref l0), (1, vi l1)] [] m := by
  intro l0 l1 m hs0 hr1 E
  unfold f_X2_rankOf at E
  refine V_iconst dX2_rankOf_0 rfl ?_
  refine V_istore_n (i := 2) (lv' := [(0, .ref l0), (1, vi l1), (2, vi 0)]) dX2_rankOf_1 rfl rfl rfl ?_
  exact ok_X2_rankOf_L2 mmFU _ _ _ _ hs0 hr1 ir_0 E
theorem ct_X2_rankOf {l0 : Nat} {l1 : Int} {m : Mem} {r : Int × Mem} (hs0 : mmSh[l0]? = some (.inl 2)) (hr1 : inR l1) (E : f_X2_rankOf l0 l1 m = some r) : CTi yX2_rankOf cX2_rankOf 3 (some .int) rm_X2_rankOf [.ref l0, vi l1] m r := CT_i (by decide +kernel) rfl (Nat.le_of_ble_eq_true rfl) (ok_X2_rankOf _ _ _ hs0 hr1 E)
theorem hy_X2_rankOf : yX2_rankOf.cls = RX2 ∧ yX2_rankOf.cls ≠ "java/lang/invoke/MethodHandle" ∧ yX2_rankOf.cls ≠ "java/lang/invoke/VarHandle" ∧ (parseMethodDescriptor yX2_rankOf.desc).map (fun d => d.parameters.length) = some 1 := by decide +kernel
abbrev rm_X2_isRank : Room := { frames := 0, cells := 0, slots := 0, locals := 0 }
noncomputable def f_X2_isRank (l0 : Nat) (l1 : Int) (m : Mem) : Option (Int × Mem) :=
  if l1 < 0 then
(some (0, m))
else
(if (m.1 l0 5) ≤ l1 then
(some (0, m))
else
(some (1, m)))
set_option maxRecDepth 100000 in
set_option maxHeartbeats 4000000 in
theorem ok_X2_isRank {r : Int × Mem} : ∀ (l0 : Nat) (l1 : Int) (m : Mem), mmSh[l0]? = some (.inl 2) → inR l1 → f_X2_isRank l0 l1 m = some r → VV RX2 cX2_isRank 2 rm_X2_isRank mmG0 (mmPz r) 0 [(0, .ref l0), (1, vi l1)] [] m := by
  intro l0 l1 m hs0 hr1 E
  unfold f_X2_isRank at E
  refine V_iload_n 1 dX2_isRank_0 rfl ?_
  refine V_if_lt 16 dX2_isRank_1 (by decide) hr1 (fun c1 => ?_) (fun c1 => ?_)
  · replace E := mmI_t c1 E
    refine V_iconst dX2_isRank_16 rfl ?_
    obtain rfl := Option.some.inj E
    exact V_reti dX2_isRank_17 ⟨rfl, rfl, (Or.inl rfl)⟩
  · replace E := mmI_f c1 E
    refine V_iload_n 1 dX2_isRank_4 rfl ?_
    refine V_aload_n 0 dX2_isRank_5 rfl ?_
    refine V_geti (ci := 2) (k := 5) (N := 10) (T := TX2) (v := (m.1 l0 5)) dX2_isRank_6 iuX2 fl_X2_27 rfl (by decide) rfl hs0 (by first | rfl | simp [mwr]) (fun hv2 => ?_)
    refine V_icmp_ge 16 dX2_isRank_9 (by decide) hr1 hv2 (fun c3 => ?_) (fun c3 => ?_)
    · replace E := mmI_t c3 E
      refine V_iconst dX2_isRank_16 rfl ?_
      obtain rfl := Option.some.inj E
      exact V_reti dX2_isRank_17 ⟨rfl, rfl, (Or.inl rfl)⟩
    · replace E := mmI_f c3 E
      refine V_iconst dX2_isRank_12 rfl ?_
      refine V_goto 17 dX2_isRank_13 (by decide) ?_
      obtain rfl := Option.some.inj E
      exact V_reti dX2_isRank_17 ⟨rfl, rfl, (Or.inr rfl)⟩
theorem ct_X2_isRank {l0 : Nat} {l1 : Int} {m : Mem} {r : Int × Mem} (hs0 : mmSh[l0]? = some (.inl 2)) (hr1 : inR l1) (E : f_X2_isRank l0 l1 m = some r) : CTi yX2_isRank cX2_isRank 2 (some .boolean) rm_X2_isRank [.ref l0, vi l1] m r := CT_z (by decide +kernel) rfl (Nat.le_of_ble_eq_true rfl) (ok_X2_isRank _ _ _ hs0 hr1 E)
theorem hy_X2_isRank : yX2_isRank.cls = RX2 ∧ yX2_isRank.cls ≠ "java/lang/invoke/MethodHandle" ∧ yX2_isRank.cls ≠ "java/lang/invoke/VarHandle" ∧ (parseMethodDescriptor yX2_isRank.desc).map (fun d => d.parameters.length) = some 1 := by decide +kernel
abbrev rm_X2_isDirectoryFull : Room := { frames := 0, cells := 0, slots := 0, locals := 0 }
noncomputable def f_X2_isDirectoryFull (l0 : Nat) (m : Mem) : Option (Int × Mem) :=
  mmK (inR ((m.1 l0 6) * 4)) (if (m.1 l0 5) < ((m.1 l0 6) * 4) then
(some (0, m))
else
(some (1, m)))
set_option maxRecDepth 100000 in
set_option maxHeartbeats 4000000 in
theorem ok_X2_isDirectoryFull {r : Int × Mem} : ∀ (l0 : Nat) (m : Mem), mmSh[l0]? = some (.inl 2) → f_X2_isDirectoryFull l0 m = some r → VV RX2 cX2_isDirectoryFull 1 rm_X2_isDirectoryFull mmG0 (mmPz r) 0 [(0, .ref l0)] [] m := by
  intro l0 m hs0 E
  unfold f_X2_isDirectoryFull at E
  refine V_aload_n 0 dX2_isDirectoryFull_0 rfl ?_
  refine V_geti (ci := 2) (k := 5) (N := 10) (T := TX2) (v := (m.1 l0 5)) dX2_isDirectoryFull_1 iuX2 fl_X2_27 rfl (by decide) rfl hs0 (by first | rfl | simp [mwr]) (fun hv1 => ?_)
  refine V_aload_n 0 dX2_isDirectoryFull_4 rfl ?_
  refine V_geti (ci := 2) (k := 6) (N := 10) (T := TX2) (v := (m.1 l0 6)) dX2_isDirectoryFull_5 iuX2 fl_X2_31 rfl (by decide) rfl hs0 (by first | rfl | simp [mwr]) (fun hv2 => ?_)
  refine V_iconst dX2_isDirectoryFull_8 rfl ?_
  obtain ⟨hv3, E⟩ := mmK_e E
  refine V_imul dX2_isDirectoryFull_9 ?_
  refine V_icmp_lt 17 dX2_isDirectoryFull_10 (by decide) hv1 hv3 (fun c4 => ?_) (fun c4 => ?_)
  · replace E := mmI_t c4 E
    refine V_iconst dX2_isDirectoryFull_17 rfl ?_
    obtain rfl := Option.some.inj E
    exact V_reti dX2_isDirectoryFull_18 ⟨rfl, rfl, (Or.inl rfl)⟩
  · replace E := mmI_f c4 E
    refine V_iconst dX2_isDirectoryFull_13 rfl ?_
    refine V_goto 18 dX2_isDirectoryFull_14 (by decide) ?_
    obtain rfl := Option.some.inj E
    exact V_reti dX2_isDirectoryFull_18 ⟨rfl, rfl, (Or.inr rfl)⟩
theorem ct_X2_isDirectoryFull {l0 : Nat} {m : Mem} {r : Int × Mem} (hs0 : mmSh[l0]? = some (.inl 2)) (E : f_X2_isDirectoryFull l0 m = some r) : CTi yX2_isDirectoryFull cX2_isDirectoryFull 1 (some .boolean) rm_X2_isDirectoryFull [.ref l0] m r := CT_z (by decide +kernel) rfl (Nat.le_of_ble_eq_true rfl) (ok_X2_isDirectoryFull _ _ hs0 E)
theorem hy_X2_isDirectoryFull : yX2_isDirectoryFull.cls = RX2 ∧ yX2_isDirectoryFull.cls ≠ "java/lang/invoke/MethodHandle" ∧ yX2_isDirectoryFull.cls ≠ "java/lang/invoke/VarHandle" ∧ (parseMethodDescriptor yX2_isDirectoryFull.desc).map (fun d => d.parameters.length) = some 0 := by decide +kernel
abbrev rm_X2_hasRoom : Room := { frames := 0, cells := 0, slots := 0, locals := 0 }
noncomputable def f_X2_hasRoom (l0 : Nat) (l1 : Int) (m : Mem) : Option (Int × Mem) :=
  mmK (inR ((m.1 l0 7) + l1)) (if 100 < ((m.1 l0 7) + l1) then
(some (0, m))
else
(some (1, m)))
set_option maxRecDepth 100000 in
set_option maxHeartbeats 4000000 in
theorem ok_X2_hasRoom {r : Int × Mem} : ∀ (l0 : Nat) (l1 : Int) (m : Mem), mmSh[l0]? = some (.inl 2) → inR l1 → f_X2_hasRoom l0 l1 m = some r → VV RX2 cX2_hasRoom 2 rm_X2_hasRoom mmG0 (mmPz r) 0 [(0, .ref l0), (1, vi l1)] [] m := by
  intro l0 l1 m hs0 hr1 E
  unfold f_X2_hasRoom at E
  refine V_aload_n 0 dX2_hasRoom_0 rfl ?_
  refine V_geti (ci := 2) (k := 7) (N := 10) (T := TX2) (v := (m.1 l0 7)) dX2_hasRoom_1 iuX2 fl_X2_34 rfl (by decide) rfl hs0 (by first | rfl | simp [mwr]) (fun hv1 => ?_)
  refine V_iload_n 1 dX2_hasRoom_4 rfl ?_
  obtain ⟨hv2, E⟩ := mmK_e E
  refine V_iadd dX2_hasRoom_5 ?_
  refine V_bipush (v := 100) dX2_hasRoom_6 (by decide) ?_
  refine V_icmp_gt 15 dX2_hasRoom_8 (by decide) hv2 ir_100 (fun c3 => ?_) (fun c3 => ?_)
  · replace E := mmI_t c3 E
    refine V_iconst dX2_hasRoom_15 rfl ?_
    obtain rfl := Option.some.inj E
    exact V_reti dX2_hasRoom_16 ⟨rfl, rfl, (Or.inl rfl)⟩
  · replace E := mmI_f c3 E
    refine V_iconst dX2_hasRoom_11 rfl ?_
    refine V_goto 16 dX2_hasRoom_12 (by decide) ?_
    obtain rfl := Option.some.inj E
    exact V_reti dX2_hasRoom_16 ⟨rfl, rfl, (Or.inr rfl)⟩
theorem ct_X2_hasRoom {l0 : Nat} {l1 : Int} {m : Mem} {r : Int × Mem} (hs0 : mmSh[l0]? = some (.inl 2)) (hr1 : inR l1) (E : f_X2_hasRoom l0 l1 m = some r) : CTi yX2_hasRoom cX2_hasRoom 2 (some .boolean) rm_X2_hasRoom [.ref l0, vi l1] m r := CT_z (by decide +kernel) rfl (Nat.le_of_ble_eq_true rfl) (ok_X2_hasRoom _ _ _ hs0 hr1 E)
theorem hy_X2_hasRoom : yX2_hasRoom.cls = RX2 ∧ yX2_hasRoom.cls ≠ "java/lang/invoke/MethodHandle" ∧ yX2_hasRoom.cls ≠ "java/lang/invoke/VarHandle" ∧ (parseMethodDescriptor yX2_hasRoom.desc).map (fun d => d.parameters.length) = some 1 := by decide +kernel
abbrev rm_X2_layText : Room := { frames := 0, cells := 0, slots := 0, locals := 0 }
noncomputable def f_X2_layText (l0 : Nat) (l1 : Int) (m : Mem) : Option (Int × Mem) :=
  mmK (inR ((m.1 l0 7) + l1)) (some ((m.1 l0 7), (mwr m l0 7 ((m.1 l0 7) + l1))))
set_option maxRecDepth 100000 in
set_option maxHeartbeats 4000000 in
theorem ok_X2_layText {r : Int × Mem} : ∀ (l0 : Nat) (l1 : Int) (m : Mem), mmSh[l0]? = some (.inl 2) → inR l1 → f_X2_layText l0 l1 m = some r → VV RX2 cX2_layText 3 rm_X2_layText mmG0 (mmPi r) 0 [(0, .ref l0), (1, vi l1)] [] m := by
  intro l0 l1 m hs0 hr1 E
  unfold f_X2_layText at E
  refine V_aload_n 0 dX2_layText_0 rfl ?_
  refine V_geti (ci := 2) (k := 7) (N := 10) (T := TX2) (v := (m.1 l0 7)) dX2_layText_1 iuX2 fl_X2_34 rfl (by decide) rfl hs0 (by first | rfl | simp [mwr]) (fun hv1 => ?_)
  refine V_istore_n (i := 2) (lv' := [(0, .ref l0), (1, vi l1), (2, vi (m.1 l0 7))]) dX2_layText_4 rfl rfl rfl ?_
  refine V_aload_n 0 dX2_layText_5 rfl ?_
  refine V_dupa dX2_layText_6 ?_
  refine V_geti (ci := 2) (k := 7) (N := 10) (T := TX2) (v := (m.1 l0 7)) dX2_layText_7 iuX2 fl_X2_34 rfl (by decide) rfl hs0 (by first | rfl | simp [mwr]) (fun hv2 => ?_)
  refine V_iload_n 1 dX2_layText_10 rfl ?_
  obtain ⟨hv3, E⟩ := mmK_e E
  refine V_iadd dX2_layText_11 ?_
  refine V_put (ci := 2) (k := 7) (N := 10) (T := TX2) (x := ((m.1 l0 7) + l1)) (ty := .int) tyX2 dX2_layText_12 iuX2 tyX2_ok nmX2 fl_X2_34 rfl (by decide) rfl hs0 rfl (by decide +kernel) rfl rfl hv3 ?_
  refine V_iload_n 2 dX2_layText_15 rfl ?_
  obtain rfl := Option.some.inj E
  exact V_reti dX2_layText_16 ⟨rfl, rfl, hv1⟩
theorem ct_X2_layText {l0 : Nat} {l1 : Int} {m : Mem} {r : Int × Mem} (hs0 : mmSh[l0]? = some (.inl 2)) (hr1 : inR l1) (E : f_X2_layText l0 l1 m = some r) : CTi yX2_layText cX2_layText 3 (some .int) rm_X2_layText [.ref l0, vi l1] m r := CT_i (by decide +kernel) rfl (Nat.le_of_ble_eq_true rfl) (ok_X2_layText _ _ _ hs0 hr1 E)
theorem hy_X2_layText : yX2_layText.cls = RX2 ∧ yX2_layText.cls ≠ "java/lang/invoke/MethodHandle" ∧ yX2_layText.cls ≠ "java/lang/invoke/VarHandle" ∧ (parseMethodDescriptor yX2_layText.desc).map (fun d => d.parameters.length) = some 1 := by decide +kernel
abbrev rm_X2_namesBelow : Room := { frames := 0, cells := 0, slots := 0, locals := 0 }
noncomputable def f_X2_namesBelow_L4 : Nat → Nat → Int → Int → Int → Mem → Option (Int × Mem)
  | 0, _, _, _, _, _ => none
  | n + 1, l0, l1, l2, l3, m =>
    if (m.1 l0 5) ≤ l3 then
(some (l2, m))
else
(mmK (0 ≤ l3 ∧ l3 < 24) (if l1 ≤ (m.1 (l0 + 1) (l3).toNat) then
(mmK (inR (l3 + 1)) (f_X2_namesBelow_L4 n l0 l1 l2 (l3 + 1) m))
else
(mmK (inR (l2 + 1)) (mmK (inR (l3 + 1)) (f_X2_namesBelow_L4 n l0 l1 (l2 + 1) (l3 + 1) m)))))
set_option maxRecDepth 100000 in
set_option maxHeartbeats 4000000 in
theorem ok_X2_namesBelow_L4 {r : Int × Mem} : ∀ (n : Nat), ∀ (l0 : Nat) (l1 : Int) (l2 : Int) (l3 : Int) (m : Mem), mmSh[l0]? = some (.inl 2) → inR l1 → inR l2 → inR l3 → f_X2_namesBelow_L4 n l0 l1 l2 l3 m = some r → VV RX2 cX2_namesBelow 4 rm_X2_namesBelow mmG0 (mmPi r) 4 [(0, .ref l0), (1, vi l1), (2, vi l2), (3, vi l3)] [] m := by
  intro n
  induction n with
  | zero =>
    intro l0 l1 l2 l3 m hs0 hr1 hr2 hr3 E
    cases E
  | succ n ih =>
    intro l0 l1 l2 l3 m hs0 hr1 hr2 hr3 E
    rw [f_X2_namesBelow_L4] at E
    refine V_iload_n 3 dX2_namesBelow_4 rfl ?_
    refine V_aload_n 0 dX2_namesBelow_5 rfl ?_
    refine V_geti (ci := 2) (k := 5) (N := 10) (T := TX2) (v := (m.1 l0 5)) dX2_namesBelow_6 iuX2 fl_X2_27 rfl (by decide) rfl hs0 (by first | rfl | simp [mwr]) (fun hv1 => ?_)
    refine V_icmp_ge 31 dX2_namesBelow_9 (by decide) hr3 hv1 (fun c2 => ?_) (fun c2 => ?_)
    · replace E := mmI_t c2 E
      refine V_iload_n 2 dX2_namesBelow_31 rfl ?_
      obtain rfl := Option.some.inj E
      exact V_reti dX2_namesBelow_32 ⟨rfl, rfl, hr2⟩
    · replace E := mmI_f c2 E
      refine V_aload_n 0 dX2_namesBelow_12 rfl ?_
      refine V_geta (ci := 2) (k := 0) (N := 10) (T := TX2) (o' := (l0 + 1)) dX2_namesBelow_13 iuX2 fl_X2_9 rfl (by decide) rfl hs0 rfl ?_
      refine V_iload_n 3 dX2_namesBelow_16 rfl ?_
      obtain ⟨hv3, E⟩ := mmK_e E
      refine V_iald (n := 24) (j := (l3).toNat) (v := (m.1 (l0 + 1) (l3).toNat)) dX2_namesBelow_17 (mmS1 hs0) hr3 hv3 rfl (by first | rfl | simp [mwr]) (fun hv4 => ?_)
      refine V_iload_n 1 dX2_namesBelow_18 rfl ?_
      refine V_icmp_ge 25 dX2_namesBelow_19 (by decide) hv4 hr1 (fun c5 => ?_) (fun c5 => ?_)
      · replace E := mmI_t c5 E
        obtain ⟨hv6, E⟩ := mmK_e E
        refine V_iinc (v := (l3 + 1)) (lv' := [(0, .ref l0), (1, vi l1), (2, vi l2), (3, vi (l3 + 1))]) 3 dX2_namesBelow_25 rfl rfl rfl rfl ?_
        refine V_goto 4 dX2_namesBelow_28 (by decide) ?_
        exact ih _ _ _ _ _ hs0 hr1 hr2 hv6 E
      · replace E := mmI_f c5 E
        obtain ⟨hv7, E⟩ := mmK_e E
        refine V_iinc (v := (l2 + 1)) (lv' := [(0, .ref l0), (1, vi l1), (2, vi (l2 + 1)), (3, vi l3)]) 2 dX2_namesBelow_22 rfl rfl rfl rfl ?_
        obtain ⟨hv8, E⟩ := mmK_e E
        refine V_iinc (v := (l3 + 1)) (lv' := [(0, .ref l0), (1, vi l1), (2, vi (l2 + 1)), (3, vi (l3 + 1))]) 3 dX2_namesBelow_25 rfl rfl rfl rfl ?_
        refine V_goto 4 dX2_namesBelow_28 (by decide) ?_
        exact ih _ _ _ _ _ hs0 hr1 hv7 hv8 E
noncomputable def f_X2_namesBelow (l0 : Nat) (l1 : Int) (m : Mem) : Option (Int × Mem) :=
  f_X2_namesBelow_L4 mmFU l0 l1 0 0 m
set_option maxRecDepth 100000 in
set_option maxHeartbeats 4000000 in
theorem ok_X2_namesBelow {r : Int × Mem} : ∀ (l0 : Nat) (l1 : Int) (m : Mem), mmSh[l0]? = some (.inl 2) → inR l1 → f_X2_namesBelow l0 l1 m = some r → VV RX2 cX2_namesBelow 4 rm_X2_namesBelow mmG0 (mmPi r) 0 [(0, .ref l0), (1, vi l1)] [] m := by
  intro l0 l1 m hs0 hr1 E
  unfold f_X2_namesBelow at E
  refine V_iconst dX2_namesBelow_0 rfl ?_
  refine V_istore_n (i := 2) (lv' := [(0, .ref l0), (1, vi l1), (2, vi 0)]) dX2_namesBelow_1 rfl rfl rfl ?_
  refine V_iconst dX2_namesBelow_2 rfl ?_
  refine V_istore_n (i := 3) (lv' := [(0, .ref l0), (1, vi l1), (2, vi 0), (3, vi 0)]) dX2_namesBelow_3 rfl rfl rfl ?_
  exact ok_X2_namesBelow_L4 mmFU _ _ _ _ _ hs0 hr1 ir_0 ir_0 E
theorem ct_X2_namesBelow {l0 : Nat} {l1 : Int} {m : Mem} {r : Int × Mem} (hs0 : mmSh[l0]? = some (.inl 2)) (hr1 : inR l1) (E : f_X2_namesBelow l0 l1 m = some r) : CTi yX2_namesBelow cX2_namesBelow 4 (some .int) rm_X2_namesBelow [.ref l0, vi l1] m r := CT_i (by decide +kernel) rfl (Nat.le_of_ble_eq_true rfl) (ok_X2_namesBelow _ _ _ hs0 hr1 E)
theorem hy_X2_namesBelow : yX2_namesBelow.cls = RX2 ∧ yX2_namesBelow.cls ≠ "java/lang/invoke/MethodHandle" ∧ yX2_namesBelow.cls ≠ "java/lang/invoke/VarHandle" ∧ (parseMethodDescriptor yX2_namesBelow.desc).map (fun d => d.parameters.length) = some 1 := by decide +kernel
abbrev rm_X2_moveEntries : Room := { frames := 1, cells := 0, slots := 0, locals := 26 }
noncomputable def f_X2_moveEntries (l0 : Nat) (l1 : Int) (l2 : Int) (l3 : Int) (m : Mem) : Option (Mem) :=
  if l1 < 0 then
(some m)
else
(if l2 < 0 then
(some m)
else
(if l3 < 0 then
(some m)
else
(mmK (inR (24 - l3)) (if (max l1 l2) ≤ (24 - l3) then
(mmK (0 ≤ l1 ∧ 0 ≤ l2 ∧ 0 ≤ l3 ∧ l1 + l3 ≤ 24 ∧ l2 + l3 ≤ 24) (mmK (0 ≤ l1 ∧ 0 ≤ l2 ∧ 0 ≤ l3 ∧ l1 + l3 ≤ 24 ∧ l2 + l3 ≤ 24) (mmK (0 ≤ l1 ∧ 0 ≤ l2 ∧ 0 ≤ l3 ∧ l1 + l3 ≤ 24 ∧ l2 + l3 ≤ 24) (mmK (0 ≤ l1 ∧ 0 ≤ l2 ∧ 0 ≤ l3 ∧ l1 + l3 ≤ 24 ∧ l2 + l3 ≤ 24) (mmK (0 ≤ l1 ∧ 0 ≤ l2 ∧ 0 ≤ l3 ∧ l1 + l3 ≤ 24 ∧ l2 + l3 ≤ 24) (some (mcp (mcp (mcp (mcp (mcp m (l0 + 1) (l1).toNat (l0 + 1) (l2).toNat (l3).toNat) (l0 + 2) (l1).toNat (l0 + 2) (l2).toNat (l3).toNat) (l0 + 3) (l1).toNat (l0 + 3) (l2).toNat (l3).toNat) (l0 + 4) (l1).toNat (l0 + 4) (l2).toNat (l3).toNat) (l0 + 5) (l1).toNat (l0 + 5) (l2).toNat (l3).toNat)))))))
else
(some m)))))
set_option maxRecDepth 100000 in
set_option maxHeartbeats 4000000 in
theorem ok_X2_moveEntries {r : Mem} : ∀ (l0 : Nat) (l1 : Int) (l2 : Int) (l3 : Int) (m : Mem), mmSh[l0]? = some (.inl 2) → inR l1 → inR l2 → inR l3 → f_X2_moveEntries l0 l1 l2 l3 m = some r → VV RX2 cX2_moveEntries 4 rm_X2_moveEntries mmG0 (mmPv r) 0 [(0, .ref l0), (1, vi l1), (2, vi l2), (3, vi l3)] [] m := by
  intro l0 l1 l2 l3 m hs0 hr1 hr2 hr3 E
  unfold f_X2_moveEntries at E
  refine V_iload_n 1 dX2_moveEntries_0 rfl ?_
  refine V_if_lt 24 dX2_moveEntries_1 (by decide) hr1 (fun c1 => ?_) (fun c1 => ?_)
  · replace E := mmI_t c1 E
    obtain rfl := Option.some.inj E
    exact V_retv dX2_moveEntries_24 ⟨rfl, rfl⟩
  · replace E := mmI_f c1 E
    refine V_iload_n 2 dX2_moveEntries_4 rfl ?_
    refine V_if_lt 24 dX2_moveEntries_5 (by decide) hr2 (fun c2 => ?_) (fun c2 => ?_)
    · replace E := mmI_t c2 E
      obtain rfl := Option.some.inj E
      exact V_retv dX2_moveEntries_24 ⟨rfl, rfl⟩
    · replace E := mmI_f c2 E
      refine V_iload_n 3 dX2_moveEntries_8 rfl ?_
      refine V_if_lt 24 dX2_moveEntries_9 (by decide) hr3 (fun c3 => ?_) (fun c3 => ?_)
      · replace E := mmI_t c3 E
        obtain rfl := Option.some.inj E
        exact V_retv dX2_moveEntries_24 ⟨rfl, rfl⟩
      · replace E := mmI_f c3 E
        refine V_iload_n 1 dX2_moveEntries_12 rfl ?_
        refine V_iload_n 2 dX2_moveEntries_13 rfl ?_
        refine V_max dX2_moveEntries_14 ml_X2_114 st_max it_Math cd_max hr1 hr2 ⟨by decide, by decide⟩ (Nat.le_of_ble_eq_true rfl) ?_
        refine V_bipush (v := 24) dX2_moveEntries_17 (by decide) ?_
        refine V_iload_n 3 dX2_moveEntries_19 rfl ?_
        obtain ⟨hv4, E⟩ := mmK_e E
        refine V_isub dX2_moveEntries_20 ?_
        refine V_icmp_le 25 dX2_moveEntries_21 (by decide) (inR_max hr1 hr2) hv4 (fun c5 => ?_) (fun c5 => ?_)
        · replace E := mmI_t c5 E
          refine V_aload_n 0 dX2_moveEntries_25 rfl ?_
          refine V_geta (ci := 2) (k := 0) (N := 10) (T := TX2) (o' := (l0 + 1)) dX2_moveEntries_26 iuX2 fl_X2_9 rfl (by decide) rfl hs0 rfl ?_
          refine V_iload_n 1 dX2_moveEntries_29 rfl ?_
          refine V_aload_n 0 dX2_moveEntries_30 rfl ?_
          refine V_geta (ci := 2) (k := 0) (N := 10) (T := TX2) (o' := (l0 + 1)) dX2_moveEntries_31 iuX2 fl_X2_9 rfl (by decide) rfl hs0 rfl ?_
          refine V_iload_n 2 dX2_moveEntries_34 rfl ?_
          refine V_iload_n 3 dX2_moveEntries_35 rfl ?_
          obtain ⟨hv6, E⟩ := mmK_e E
          refine V_copy (n0 := 24) (n1 := 24) (js := (l1).toNat) (jd := (l2).toNat) (jn := (l3).toNat) dX2_moveEntries_36 ml_X2_43 na_copy st_copy it_System (mmS1 hs0) (mmS1 hs0) hr1 hr2 hr3 hv6 ⟨by decide, by decide⟩ (Nat.le_of_ble_eq_true rfl) rfl rfl rfl ?_
          refine V_aload_n 0 dX2_moveEntries_39 rfl ?_
          refine V_geta (ci := 2) (k := 1) (N := 10) (T := TX2) (o' := (l0 + 2)) dX2_moveEntries_40 iuX2 fl_X2_15 rfl (by decide) rfl hs0 rfl ?_
          refine V_iload_n 1 dX2_moveEntries_43 rfl ?_
          refine V_aload_n 0 dX2_moveEntries_44 rfl ?_
          refine V_geta (ci := 2) (k := 1) (N := 10) (T := TX2) (o' := (l0 + 2)) dX2_moveEntries_45 iuX2 fl_X2_15 rfl (by decide) rfl hs0 rfl ?_
          refine V_iload_n 2 dX2_moveEntries_48 rfl ?_
          refine V_iload_n 3 dX2_moveEntries_49 rfl ?_
          obtain ⟨hv7, E⟩ := mmK_e E
          refine V_copy (n0 := 24) (n1 := 24) (js := (l1).toNat) (jd := (l2).toNat) (jn := (l3).toNat) dX2_moveEntries_50 ml_X2_43 na_copy st_copy it_System (mmS2 hs0) (mmS2 hs0) hr1 hr2 hr3 hv7 ⟨by decide, by decide⟩ (Nat.le_of_ble_eq_true rfl) rfl rfl rfl ?_
          refine V_aload_n 0 dX2_moveEntries_53 rfl ?_
          refine V_geta (ci := 2) (k := 2) (N := 10) (T := TX2) (o' := (l0 + 3)) dX2_moveEntries_54 iuX2 fl_X2_18 rfl (by decide) rfl hs0 rfl ?_
          refine V_iload_n 1 dX2_moveEntries_57 rfl ?_
          refine V_aload_n 0 dX2_moveEntries_58 rfl ?_
          refine V_geta (ci := 2) (k := 2) (N := 10) (T := TX2) (o' := (l0 + 3)) dX2_moveEntries_59 iuX2 fl_X2_18 rfl (by decide) rfl hs0 rfl ?_
          refine V_iload_n 2 dX2_moveEntries_62 rfl ?_
          refine V_iload_n 3 dX2_moveEntries_63 rfl ?_
          obtain ⟨hv8, E⟩ := mmK_e E
          refine V_copy (n0 := 24) (n1 := 24) (js := (l1).toNat) (jd := (l2).toNat) (jn := (l3).toNat) dX2_moveEntries_64 ml_X2_43 na_copy st_copy it_System (mmS3 hs0) (mmS3 hs0) hr1 hr2 hr3 hv8 ⟨by decide, by decide⟩ (Nat.le_of_ble_eq_true rfl) rfl rfl rfl ?_
          refine V_aload_n 0 dX2_moveEntries_67 rfl ?_
          refine V_geta (ci := 2) (k := 3) (N := 10) (T := TX2) (o' := (l0 + 4)) dX2_moveEntries_68 iuX2 fl_X2_21 rfl (by decide) rfl hs0 rfl ?_
          refine V_iload_n 1 dX2_moveEntries_71 rfl ?_
          refine V_aload_n 0 dX2_moveEntries_72 rfl ?_
          refine V_geta (ci := 2) (k := 3) (N := 10) (T := TX2) (o' := (l0 + 4)) dX2_moveEntries_73 iuX2 fl_X2_21 rfl (by decide) rfl hs0 rfl ?_
          refine V_iload_n 2 dX2_moveEntries_76 rfl ?_
          refine V_iload_n 3 dX2_moveEntries_77 rfl ?_
          obtain ⟨hv9, E⟩ := mmK_e E
          refine V_copy (n0 := 24) (n1 := 24) (js := (l1).toNat) (jd := (l2).toNat) (jn := (l3).toNat) dX2_moveEntries_78 ml_X2_43 na_copy st_copy it_System (mmS4 hs0) (mmS4 hs0) hr1 hr2 hr3 hv9 ⟨by decide, by decide⟩ (Nat.le_of_ble_eq_true rfl) rfl rfl rfl ?_
          refine V_aload_n 0 dX2_moveEntries_81 rfl ?_
          refine V_geta (ci := 2) (k := 4) (N := 10) (T := TX2) (o' := (l0 + 5)) dX2_moveEntries_82 iuX2 fl_X2_24 rfl (by decide) rfl hs0 rfl ?_
          refine V_iload_n 1 dX2_moveEntries_85 rfl ?_
          refine V_aload_n 0 dX2_moveEntries_86 rfl ?_
          refine V_geta (ci := 2) (k := 4) (N := 10) (T := TX2) (o' := (l0 + 5)) dX2_moveEntries_87 iuX2 fl_X2_24 rfl (by decide) rfl hs0 rfl ?_
          refine V_iload_n 2 dX2_moveEntries_90 rfl ?_
          refine V_iload_n 3 dX2_moveEntries_91 rfl ?_
          obtain ⟨hv10, E⟩ := mmK_e E
          refine V_copy (n0 := 24) (n1 := 24) (js := (l1).toNat) (jd := (l2).toNat) (jn := (l3).toNat) dX2_moveEntries_92 ml_X2_43 na_copy st_copy it_System (mmS5 hs0) (mmS5 hs0) hr1 hr2 hr3 hv10 ⟨by decide, by decide⟩ (Nat.le_of_ble_eq_true rfl) rfl rfl rfl ?_
          obtain rfl := Option.some.inj E
          exact V_retv dX2_moveEntries_95 ⟨rfl, rfl⟩
        · replace E := mmI_f c5 E
          obtain rfl := Option.some.inj E
          exact V_retv dX2_moveEntries_24 ⟨rfl, rfl⟩
theorem ct_X2_moveEntries {l0 : Nat} {l1 : Int} {l2 : Int} {l3 : Int} {m : Mem} {r : Mem} (hs0 : mmSh[l0]? = some (.inl 2)) (hr1 : inR l1) (hr2 : inR l2) (hr3 : inR l3) (E : f_X2_moveEntries l0 l1 l2 l3 m = some r) : CTv yX2_moveEntries cX2_moveEntries 4 rm_X2_moveEntries [.ref l0, vi l1, vi l2, vi l3] m r := CT_v (by decide +kernel) rfl (Nat.le_of_ble_eq_true rfl) (ok_X2_moveEntries _ _ _ _ _ hs0 hr1 hr2 hr3 E)
theorem hy_X2_moveEntries : yX2_moveEntries.cls = RX2 ∧ yX2_moveEntries.cls ≠ "java/lang/invoke/MethodHandle" ∧ yX2_moveEntries.cls ≠ "java/lang/invoke/VarHandle" ∧ (parseMethodDescriptor yX2_moveEntries.desc).map (fun d => d.parameters.length) = some 3 := by decide +kernel
abbrev rm_X2_setEntry : Room := { frames := 1, cells := 0, slots := 0, locals := 21 }
noncomputable def f_X2_setEntry (l0 : Nat) (l1 : Int) (l2 : Int) (l3 : Int) (l4 : Int) (l5 : Int) (l6 : Int) (m : Mem) : Option (Mem) :=
  (f_X2_isRank l0 l1 m).bind (fun q1 => if q1.1 = 0 then
(some q1.2)
else
(mmK (0 ≤ l1 ∧ l1 < 24) (mmK (0 ≤ l1 ∧ l1 < 24) (mmK (0 ≤ l1 ∧ l1 < 24) (mmK (0 ≤ l1 ∧ l1 < 24) (mmK (0 ≤ l1 ∧ l1 < 24) (some (mwr (mwr (mwr (mwr (mwr q1.2 (l0 + 1) (l1).toNat l2) (l0 + 2) (l1).toNat l3) (l0 + 3) (l1).toNat l4) (l0 + 4) (l1).toNat l5) (l0 + 5) (l1).toNat l6))))))))
set_option maxRecDepth 100000 in
set_option maxHeartbeats 4000000 in
theorem ok_X2_setEntry {r : Mem} : ∀ (l0 : Nat) (l1 : Int) (l2 : Int) (l3 : Int) (l4 : Int) (l5 : Int) (l6 : Int) (m : Mem), mmSh[l0]? = some (.inl 2) → inR l1 → inR l2 → inR l3 → inR l4 → inR l5 → inR l6 → f_X2_setEntry l0 l1 l2 l3 l4 l5 l6 m = some r → VV RX2 cX2_setEntry 7 rm_X2_setEntry mmG0 (mmPv r) 0 [(0, .ref l0), (1, vi l1), (2, vi l2), (3, vi l3), (4, vi l4), (5, vi l5), (6, vi l6)] [] m := by
  intro l0 l1 l2 l3 l4 l5 l6 m hs0 hr1 hr2 hr3 hr4 hr5 hr6 E
  unfold f_X2_setEntry at E
  refine V_aload_n 0 dX2_setEntry_0 rfl ?_
  refine V_iload_n 1 dX2_setEntry_1 rfl ?_
  obtain ⟨q1, hq1, E⟩ := mmB_e E
  refine V_callV (ci := 2) (q := (RX2, TX2, 10)) (Cn := RX2) (st := []) 1 dX2_setEntry_2 (ct_X2_isRank hs0 hr1 hq1) ml_X2_63 im_X2_isRank sl_X2_isRank it_X2 cd_X2_isRank hy_X2_isRank ⟨rfl, rfl, by decide, by decide⟩ hs0 rfl rfl rfl rfl (Nat.le_of_ble_eq_true rfl) (fun hv2 => ?_)
  refine V_if_eq 46 dX2_setEntry_5 (by decide) hv2 (fun c3 => ?_) (fun c3 => ?_)
  · replace E := mmI_t c3 E
    obtain rfl := Option.some.inj E
    exact V_retv dX2_setEntry_46 ⟨rfl, rfl⟩
  · replace E := mmI_f c3 E
    refine V_aload_n 0 dX2_setEntry_8 rfl ?_
    refine V_geta (ci := 2) (k := 0) (N := 10) (T := TX2) (o' := (l0 + 1)) dX2_setEntry_9 iuX2 fl_X2_9 rfl (by decide) rfl hs0 rfl ?_
    refine V_iload_n 1 dX2_setEntry_12 rfl ?_
    refine V_iload_n 2 dX2_setEntry_13 rfl ?_
    obtain ⟨hv4, E⟩ := mmK_e E
    refine V_iast (n := 24) (j := (l1).toNat) dX2_setEntry_14 (mmS1 hs0) hr1 hr2 hv4 rfl ?_
    refine V_aload_n 0 dX2_setEntry_15 rfl ?_
    refine V_geta (ci := 2) (k := 1) (N := 10) (T := TX2) (o' := (l0 + 2)) dX2_setEntry_16 iuX2 fl_X2_15 rfl (by decide) rfl hs0 rfl ?_
    refine V_iload_n 1 dX2_setEntry_19 rfl ?_
    refine V_iload_n 3 dX2_setEntry_20 rfl ?_
    obtain ⟨hv5, E⟩ := mmK_e E
    refine V_iast (n := 24) (j := (l1).toNat) dX2_setEntry_21 (mmS2 hs0) hr1 hr3 hv5 rfl ?_
    refine V_aload_n 0 dX2_setEntry_22 rfl ?_
    refine V_geta (ci := 2) (k := 2) (N := 10) (T := TX2) (o' := (l0 + 3)) dX2_setEntry_23 iuX2 fl_X2_18 rfl (by decide) rfl hs0 rfl ?_
    refine V_iload_n 1 dX2_setEntry_26 rfl ?_
    refine V_iload 4 dX2_setEntry_27 rfl ?_
    obtain ⟨hv6, E⟩ := mmK_e E
    refine V_iast (n := 24) (j := (l1).toNat) dX2_setEntry_29 (mmS3 hs0) hr1 hr4 hv6 rfl ?_
    refine V_aload_n 0 dX2_setEntry_30 rfl ?_
    refine V_geta (ci := 2) (k := 3) (N := 10) (T := TX2) (o' := (l0 + 4)) dX2_setEntry_31 iuX2 fl_X2_21 rfl (by decide) rfl hs0 rfl ?_
    refine V_iload_n 1 dX2_setEntry_34 rfl ?_
    refine V_iload 5 dX2_setEntry_35 rfl ?_
    obtain ⟨hv7, E⟩ := mmK_e E
    refine V_iast (n := 24) (j := (l1).toNat) dX2_setEntry_37 (mmS4 hs0) hr1 hr5 hv7 rfl ?_
    refine V_aload_n 0 dX2_setEntry_38 rfl ?_
    refine V_geta (ci := 2) (k := 4) (N := 10) (T := TX2) (o' := (l0 + 5)) dX2_setEntry_39 iuX2 fl_X2_24 rfl (by decide) rfl hs0 rfl ?_
    refine V_iload_n 1 dX2_setEntry_42 rfl ?_
    refine V_iload 6 dX2_setEntry_43 rfl ?_
    obtain ⟨hv8, E⟩ := mmK_e E
    refine V_iast (n := 24) (j := (l1).toNat) dX2_setEntry_45 (mmS5 hs0) hr1 hr6 hv8 rfl ?_
    obtain rfl := Option.some.inj E
    exact V_retv dX2_setEntry_46 ⟨rfl, rfl⟩
theorem ct_X2_setEntry {l0 : Nat} {l1 : Int} {l2 : Int} {l3 : Int} {l4 : Int} {l5 : Int} {l6 : Int} {m : Mem} {r : Mem} (hs0 : mmSh[l0]? = some (.inl 2)) (hr1 : inR l1) (hr2 : inR l2) (hr3 : inR l3) (hr4 : inR l4) (hr5 : inR l5) (hr6 : inR l6) (E : f_X2_setEntry l0 l1 l2 l3 l4 l5 l6 m = some r) : CTv yX2_setEntry cX2_setEntry 7 rm_X2_setEntry [.ref l0, vi l1, vi l2, vi l3, vi l4, vi l5, vi l6] m r := CT_v (by decide +kernel) rfl (Nat.le_of_ble_eq_true rfl) (ok_X2_setEntry _ _ _ _ _ _ _ _ hs0 hr1 hr2 hr3 hr4 hr5 hr6 E)
theorem hy_X2_setEntry : yX2_setEntry.cls = RX2 ∧ yX2_setEntry.cls ≠ "java/lang/invoke/MethodHandle" ∧ yX2_setEntry.cls ≠ "java/lang/invoke/VarHandle" ∧ (parseMethodDescriptor yX2_setEntry.desc).map (fun d => d.parameters.length) = some 6 := by decide +kernel
