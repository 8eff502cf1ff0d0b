abbrev rm_X3_rename : Room := { frames := 4, cells := 0, slots := 0, locals := 103 }
noncomputable def f_X3_rename (l1 : Int) (l2 : Int) (m : Mem) : Option (Int × Mem) :=
  (f_X2_copyFrom 7 1 m).bind (fun q1 => (f_X2_renameEntry 7 l1 l2 q1).bind (fun q3 => (f_X3_settle q3.1 q3.2).bind (fun q5 => some (q5.1, q5.2))))
set_option maxRecDepth 100000 in
set_option maxHeartbeats 4000000 in
theorem ok_X3_rename {r : Int × Mem} : ∀ (l1 : Int) (l2 : Int) (m : Mem), inR l1 → inR l2 → f_X3_rename l1 l2 m = some r → VV RX3 cX3_rename 3 rm_X3_rename mmG0 (mmPi r) 0 [(0, .ref 0), (1, vi l1), (2, vi l2)] [] m := by
  intro l1 l2 m hr1 hr2 E
  unfold f_X3_rename at E
  refine V_aload_n 0 dX3_rename_0 rfl ?_
  refine V_geta (ci := 3) (k := 1) (N := 6) (T := TX3) (o' := 7) dX3_rename_1 iuX3 fl_X3_16 rfl (by decide) rfl sh_0 rfl ?_
  refine V_aload_n 0 dX3_rename_4 rfl ?_
  refine V_geta (ci := 3) (k := 0) (N := 6) (T := TX3) (o' := 1) dX3_rename_5 iuX3 fl_X3_12 rfl (by decide) rfl sh_0 rfl ?_
  obtain ⟨q1, hq1, E⟩ := mmB_e E
  refine V_callVv (ci := 2) (q := (RX2, TX2, 10)) (Cn := RX2) (st := []) 1 dX3_rename_8 (ct_X2_copyFrom sh_7 sh_1 hq1) ml_X3_40 im_X2_copyFrom sl_X2_copyFrom it_X2 cd_X2_copyFrom hy_X2_copyFrom ⟨rfl, rfl, by decide, by decide⟩ sh_7 rfl rfl rfl rfl (Nat.le_of_ble_eq_true rfl) ?_
  refine V_aload_n 0 dX3_rename_11 rfl ?_
  refine V_aload_n 0 dX3_rename_12 rfl ?_
  refine V_geta (ci := 3) (k := 1) (N := 6) (T := TX3) (o' := 7) dX3_rename_13 iuX3 fl_X3_16 rfl (by decide) rfl sh_0 rfl ?_
  refine V_iload_n 1 dX3_rename_16 rfl ?_
  refine V_iload_n 2 dX3_rename_17 rfl ?_
  obtain ⟨q3, hq3, E⟩ := mmB_e E
  refine V_callV (ci := 2) (q := (RX2, TX2, 10)) (Cn := RX2) (st := [.ref 0]) 2 dX3_rename_18 (ct_X2_renameEntry sh_7 hr1 hr2 hq3) ml_X3_58 im_X2_renameEntry sl_X2_renameEntry it_X2 cd_X2_renameEntry hy_X2_renameEntry ⟨rfl, rfl, by decide, by decide⟩ sh_7 rfl rfl rfl rfl (Nat.le_of_ble_eq_true rfl) (fun hv4 => ?_)
  obtain ⟨q5, hq5, E⟩ := mmB_e E
  refine V_callV (ci := 3) (q := (RX3, TX3, 6)) (Cn := RX3) (st := []) 1 dX3_rename_21 (ct_X3_settle hv4 hq5) ml_X3_48 im_X3_settle sl_X3_settle it_X3 cd_X3_settle hy_X3_settle ⟨rfl, rfl, by decide, by decide⟩ sh_0 rfl rfl rfl rfl (Nat.le_of_ble_eq_true rfl) (fun hv6 => ?_)
  obtain rfl := Option.some.inj E
  exact V_reti dX3_rename_24 ⟨rfl, rfl, hv6⟩
theorem ct_X3_rename {l1 : Int} {l2 : Int} {m : Mem} {r : Int × Mem} (hr1 : inR l1) (hr2 : inR l2) (E : f_X3_rename l1 l2 m = some r) : CTi yX3_rename cX3_rename 3 (some .int) rm_X3_rename [.ref 0, vi l1, vi l2] m r := CT_i (by decide +kernel) rfl (Nat.le_of_ble_eq_true rfl) (ok_X3_rename _ _ _ hr1 hr2 E)
theorem hy_X3_rename : yX3_rename.cls = RX3 ∧ yX3_rename.cls ≠ "java/lang/invoke/MethodHandle" ∧ yX3_rename.cls ≠ "java/lang/invoke/VarHandle" ∧ (parseMethodDescriptor yX3_rename.desc).map (fun d => d.parameters.length) = some 2 := by decide +kernel
abbrev rm_X3_alias : Room := { frames := 4, cells := 0, slots := 0, locals := 100 }
noncomputable def f_X3_alias (l1 : Int) (l2 : Int) (m : Mem) : Option (Int × Mem) :=
  (f_X2_copyFrom 7 1 m).bind (fun q1 => (f_X2_giveAlias 7 l1 l2 q1).bind (fun q3 => (f_X3_settle q3.1 q3.2).bind (fun q5 => some (q5.1, q5.2))))
set_option maxRecDepth 100000 in
set_option maxHeartbeats 4000000 in
theorem ok_X3_alias {r : Int × Mem} : ∀ (l1 : Int) (l2 : Int) (m : Mem), inR l1 → inR l2 → f_X3_alias l1 l2 m = some r → VV RX3 cX3_alias 3 rm_X3_alias mmG0 (mmPi r) 0 [(0, .ref 0), (1, vi l1), (2, vi l2)] [] m := by
  intro l1 l2 m hr1 hr2 E
  unfold f_X3_alias at E
  refine V_aload_n 0 dX3_alias_0 rfl ?_
  refine V_geta (ci := 3) (k := 1) (N := 6) (T := TX3) (o' := 7) dX3_alias_1 iuX3 fl_X3_16 rfl (by decide) rfl sh_0 rfl ?_
  refine V_aload_n 0 dX3_alias_4 rfl ?_
  refine V_geta (ci := 3) (k := 0) (N := 6) (T := TX3) (o' := 1) dX3_alias_5 iuX3 fl_X3_12 rfl (by decide) rfl sh_0 rfl ?_
  obtain ⟨q1, hq1, E⟩ := mmB_e E
  refine V_callVv (ci := 2) (q := (RX2, TX2, 10)) (Cn := RX2) (st := []) 1 dX3_alias_8 (ct_X2_copyFrom sh_7 sh_1 hq1) ml_X3_40 im_X2_copyFrom sl_X2_copyFrom it_X2 cd_X2_copyFrom hy_X2_copyFrom ⟨rfl, rfl, by decide, by decide⟩ sh_7 rfl rfl rfl rfl (Nat.le_of_ble_eq_true rfl) ?_
  refine V_aload_n 0 dX3_alias_11 rfl ?_
  refine V_aload_n 0 dX3_alias_12 rfl ?_
  refine V_geta (ci := 3) (k := 1) (N := 6) (T := TX3) (o' := 7) dX3_alias_13 iuX3 fl_X3_16 rfl (by decide) rfl sh_0 rfl ?_
  refine V_iload_n 1 dX3_alias_16 rfl ?_
  refine V_iload_n 2 dX3_alias_17 rfl ?_
  obtain ⟨q3, hq3, E⟩ := mmB_e E
  refine V_callV (ci := 2) (q := (RX2, TX2, 10)) (Cn := RX2) (st := [.ref 0]) 2 dX3_alias_18 (ct_X2_giveAlias sh_7 hr1 hr2 hq3) ml_X3_62 im_X2_giveAlias sl_X2_giveAlias it_X2 cd_X2_giveAlias hy_X2_giveAlias ⟨rfl, rfl, by decide, by decide⟩ sh_7 rfl rfl rfl rfl (Nat.le_of_ble_eq_true rfl) (fun hv4 => ?_)
  obtain ⟨q5, hq5, E⟩ := mmB_e E
  refine V_callV (ci := 3) (q := (RX3, TX3, 6)) (Cn := RX3) (st := []) 1 dX3_alias_21 (ct_X3_settle hv4 hq5) ml_X3_48 im_X3_settle sl_X3_settle it_X3 cd_X3_settle hy_X3_settle ⟨rfl, rfl, by decide, by decide⟩ sh_0 rfl rfl rfl rfl (Nat.le_of_ble_eq_true rfl) (fun hv6 => ?_)
  obtain rfl := Option.some.inj E
  exact V_reti dX3_alias_24 ⟨rfl, rfl, hv6⟩
theorem ct_X3_alias {l1 : Int} {l2 : Int} {m : Mem} {r : Int × Mem} (hr1 : inR l1) (hr2 : inR l2) (E : f_X3_alias l1 l2 m = some r) : CTi yX3_alias cX3_alias 3 (some .int) rm_X3_alias [.ref 0, vi l1, vi l2] m r := CT_i (by decide +kernel) rfl (Nat.le_of_ble_eq_true rfl) (ok_X3_alias _ _ _ hr1 hr2 E)
theorem hy_X3_alias : yX3_alias.cls = RX3 ∧ yX3_alias.cls ≠ "java/lang/invoke/MethodHandle" ∧ yX3_alias.cls ≠ "java/lang/invoke/VarHandle" ∧ (parseMethodDescriptor yX3_alias.desc).map (fun d => d.parameters.length) = some 2 := by decide +kernel
abbrev rm_X3_addAll : Room := { frames := 6, cells := 0, slots := 0, locals := 131 }
noncomputable def f_X3_addAll (m : Mem) : Option (Int × Mem) :=
  (f_X1_readAdditions m).bind (fun q1 => if q1.1 = (-1) then
((f_X2_copyFrom 7 1 q1.2).bind (fun q4 => (f_X1_makeAdditions 7 q4).bind (fun q6 => (f_X3_settle q6.1 q6.2).bind (fun q8 => some (q8.1, q8.2)))))
else
(mmK (inR ((-100) - q1.1)) (some (((-100) - q1.1), q1.2))))
set_option maxRecDepth 100000 in
set_option maxHeartbeats 4000000 in
theorem ok_X3_addAll {r : Int × Mem} : ∀ (m : Mem), f_X3_addAll m = some r → VV RX3 cX3_addAll 2 rm_X3_addAll mmG0 (mmPi r) 0 [(0, .ref 0)] [] m := by
  intro m E
  unfold f_X3_addAll at E
  refine V_aload_n 0 dX3_addAll_0 rfl ?_
  refine V_geta (ci := 3) (k := 5) (N := 6) (T := TX3) (o' := 45) dX3_addAll_1 iuX3 fl_X3_36 rfl (by decide) rfl sh_0 rfl ?_
  obtain ⟨q1, hq1, E⟩ := mmB_e E
  refine V_callV (ci := 1) (q := (RX1, TX1, 8)) (Cn := RX1) (st := []) 0 dX3_addAll_4 (ct_X1_readAdditions hq1) ml_X3_65 im_X1_readAdditions sl_X1_readAdditions it_X1 cd_X1_readAdditions hy_X1_readAdditions ⟨rfl, rfl, by decide, by decide⟩ sh_45 rfl rfl rfl rfl (Nat.le_of_ble_eq_true rfl) (fun hv2 => ?_)
  refine V_istore_n (i := 1) (lv' := [(0, .ref 0), (1, vi q1.1)]) dX3_addAll_7 rfl rfl rfl ?_
  refine V_iload_n 1 dX3_addAll_8 rfl ?_
  refine V_iconst dX3_addAll_9 rfl ?_
  refine V_icmp_eq 18 dX3_addAll_10 (by decide) hv2 ir_m1 (fun c3 => ?_) (fun c3 => ?_)
  · replace E := mmI_t c3 E
    refine V_aload_n 0 dX3_addAll_18 rfl ?_
    refine V_geta (ci := 3) (k := 1) (N := 6) (T := TX3) (o' := 7) dX3_addAll_19 iuX3 fl_X3_16 rfl (by decide) rfl sh_0 rfl ?_
    refine V_aload_n 0 dX3_addAll_22 rfl ?_
    refine V_geta (ci := 3) (k := 0) (N := 6) (T := TX3) (o' := 1) dX3_addAll_23 iuX3 fl_X3_12 rfl (by decide) rfl sh_0 rfl ?_
    obtain ⟨q4, hq4, E⟩ := mmB_e E
    refine V_callVv (ci := 2) (q := (RX2, TX2, 10)) (Cn := RX2) (st := []) 1 dX3_addAll_26 (ct_X2_copyFrom sh_7 sh_1 hq4) ml_X3_40 im_X2_copyFrom sl_X2_copyFrom it_X2 cd_X2_copyFrom hy_X2_copyFrom ⟨rfl, rfl, by decide, by decide⟩ sh_7 rfl rfl rfl rfl (Nat.le_of_ble_eq_true rfl) ?_
    refine V_aload_n 0 dX3_addAll_29 rfl ?_
    refine V_aload_n 0 dX3_addAll_30 rfl ?_
    refine V_geta (ci := 3) (k := 5) (N := 6) (T := TX3) (o' := 45) dX3_addAll_31 iuX3 fl_X3_36 rfl (by decide) rfl sh_0 rfl ?_
    refine V_aload_n 0 dX3_addAll_34 rfl ?_
    refine V_geta (ci := 3) (k := 1) (N := 6) (T := TX3) (o' := 7) dX3_addAll_35 iuX3 fl_X3_16 rfl (by decide) rfl sh_0 rfl ?_
    obtain ⟨q6, hq6, E⟩ := mmB_e E
    refine V_callV (ci := 1) (q := (RX1, TX1, 8)) (Cn := RX1) (st := [.ref 0]) 1 dX3_addAll_38 (ct_X1_makeAdditions sh_7 hq6) ml_X3_69 im_X1_makeAdditions sl_X1_makeAdditions it_X1 cd_X1_makeAdditions hy_X1_makeAdditions ⟨rfl, rfl, by decide, by decide⟩ sh_45 rfl rfl rfl rfl (Nat.le_of_ble_eq_true rfl) (fun hv7 => ?_)
    obtain ⟨q8, hq8, E⟩ := mmB_e E
    refine V_callV (ci := 3) (q := (RX3, TX3, 6)) (Cn := RX3) (st := []) 1 dX3_addAll_41 (ct_X3_settle hv7 hq8) ml_X3_48 im_X3_settle sl_X3_settle it_X3 cd_X3_settle hy_X3_settle ⟨rfl, rfl, by decide, by decide⟩ sh_0 rfl rfl rfl rfl (Nat.le_of_ble_eq_true rfl) (fun hv9 => ?_)
    obtain rfl := Option.some.inj E
    exact V_reti dX3_addAll_44 ⟨rfl, rfl, hv9⟩
  · replace E := mmI_f c3 E
    refine V_bipush (v := (-100)) dX3_addAll_13 (by decide) ?_
    refine V_iload_n 1 dX3_addAll_15 rfl ?_
    obtain ⟨hv10, E⟩ := mmK_e E
    refine V_isub dX3_addAll_16 ?_
    obtain rfl := Option.some.inj E
    exact V_reti dX3_addAll_17 ⟨rfl, rfl, hv10⟩
theorem ct_X3_addAll {m : Mem} {r : Int × Mem} (E : f_X3_addAll m = some r) : CTi yX3_addAll cX3_addAll 2 (some .int) rm_X3_addAll [.ref 0] m r := CT_i (by decide +kernel) rfl (Nat.le_of_ble_eq_true rfl) (ok_X3_addAll  _  E)
theorem hy_X3_addAll : yX3_addAll.cls = RX3 ∧ yX3_addAll.cls ≠ "java/lang/invoke/MethodHandle" ∧ yX3_addAll.cls ≠ "java/lang/invoke/VarHandle" ∧ (parseMethodDescriptor yX3_addAll.desc).map (fun d => d.parameters.length) = some 0 := by decide +kernel
abbrev rm_X3_squeeze : Room := { frames := 5, cells := 0, slots := 0, locals := 105 }
noncomputable def f_X3_squeeze (m : Mem) : Option (Int × Mem) :=
  (f_X2_copyFrom 7 1 m).bind (fun q1 => (f_X2_giveBackDeadRoom 7 q1).bind (fun q3 => (f_X3_settle q3.1 q3.2).bind (fun q5 => some (q5.1, q5.2))))
set_option maxRecDepth 100000 in
set_option maxHeartbeats 4000000 in
theorem ok_X3_squeeze {r : Int × Mem} : ∀ (m : Mem), f_X3_squeeze m = some r → VV RX3 cX3_squeeze 1 rm_X3_squeeze mmG0 (mmPi r) 0 [(0, .ref 0)] [] m := by
  intro m E
  unfold f_X3_squeeze at E
  refine V_aload_n 0 dX3_squeeze_0 rfl ?_
  refine V_geta (ci := 3) (k := 1) (N := 6) (T := TX3) (o' := 7) dX3_squeeze_1 iuX3 fl_X3_16 rfl (by decide) rfl sh_0 rfl ?_
  refine V_aload_n 0 dX3_squeeze_4 rfl ?_
  refine V_geta (ci := 3) (k := 0) (N := 6) (T := TX3) (o' := 1) dX3_squeeze_5 iuX3 fl_X3_12 rfl (by decide) rfl sh_0 rfl ?_
  obtain ⟨q1, hq1, E⟩ := mmB_e E
  refine V_callVv (ci := 2) (q := (RX2, TX2, 10)) (Cn := RX2) (st := []) 1 dX3_squeeze_8 (ct_X2_copyFrom sh_7 sh_1 hq1) ml_X3_40 im_X2_copyFrom sl_X2_copyFrom it_X2 cd_X2_copyFrom hy_X2_copyFrom ⟨rfl, rfl, by decide, by decide⟩ sh_7 rfl rfl rfl rfl (Nat.le_of_ble_eq_true rfl) ?_
  refine V_aload_n 0 dX3_squeeze_11 rfl ?_
  refine V_aload_n 0 dX3_squeeze_12 rfl ?_
  refine V_geta (ci := 3) (k := 1) (N := 6) (T := TX3) (o' := 7) dX3_squeeze_13 iuX3 fl_X3_16 rfl (by decide) rfl sh_0 rfl ?_
  obtain ⟨q3, hq3, E⟩ := mmB_e E
  refine V_callV (ci := 2) (q := (RX2, TX2, 10)) (Cn := RX2) (st := [.ref 0]) 0 dX3_squeeze_16 (ct_X2_giveBackDeadRoom sh_7 hq3) ml_X3_73 im_X2_giveBackDeadRoom sl_X2_giveBackDeadRoom it_X2 cd_X2_giveBackDeadRoom hy_X2_giveBackDeadRoom ⟨rfl, rfl, by decide, by decide⟩ sh_7 rfl rfl rfl rfl (Nat.le_of_ble_eq_true rfl) (fun hv4 => ?_)
  obtain ⟨q5, hq5, E⟩ := mmB_e E
  refine V_callV (ci := 3) (q := (RX3, TX3, 6)) (Cn := RX3) (st := []) 1 dX3_squeeze_19 (ct_X3_settle hv4 hq5) ml_X3_48 im_X3_settle sl_X3_settle it_X3 cd_X3_settle hy_X3_settle ⟨rfl, rfl, by decide, by decide⟩ sh_0 rfl rfl rfl rfl (Nat.le_of_ble_eq_true rfl) (fun hv6 => ?_)
  obtain rfl := Option.some.inj E
  exact V_reti dX3_squeeze_22 ⟨rfl, rfl, hv6⟩
theorem ct_X3_squeeze {m : Mem} {r : Int × Mem} (E : f_X3_squeeze m = some r) : CTi yX3_squeeze cX3_squeeze 1 (some .int) rm_X3_squeeze [.ref 0] m r := CT_i (by decide +kernel) rfl (Nat.le_of_ble_eq_true rfl) (ok_X3_squeeze  _  E)
theorem hy_X3_squeeze : yX3_squeeze.cls = RX3 ∧ yX3_squeeze.cls ≠ "java/lang/invoke/MethodHandle" ∧ yX3_squeeze.cls ≠ "java/lang/invoke/VarHandle" ∧ (parseMethodDescriptor yX3_squeeze.desc).map (fun d => d.parameters.length) = some 0 := by decide +kernel
abbrev rm_X3_makeAnew : Room := { frames := 4, cells := 0, slots := 0, locals := 90 }
noncomputable def f_X3_makeAnew (l1 : Int) (m : Mem) : Option (Int × Mem) :=
  (f_X2_copyFrom 7 1 m).bind (fun q1 => (f_X2_changeBlocks 7 l1 q1).bind (fun q3 => (f_X3_settle q3.1 q3.2).bind (fun q5 => some (q5.1, q5.2))))
set_option maxRecDepth 100000 in
set_option maxHeartbeats 4000000 in
theorem ok_X3_makeAnew {r : Int × Mem} : ∀ (l1 : Int) (m : Mem), inR l1 → f_X3_makeAnew l1 m = some r → VV RX3 cX3_makeAnew 2 rm_X3_makeAnew mmG0 (mmPi r) 0 [(0, .ref 0), (1, vi l1)] [] m := by
  intro l1 m hr1 E
  unfold f_X3_makeAnew at E
  refine V_aload_n 0 dX3_makeAnew_0 rfl ?_
  refine V_geta (ci := 3) (k := 1) (N := 6) (T := TX3) (o' := 7) dX3_makeAnew_1 iuX3 fl_X3_16 rfl (by decide) rfl sh_0 rfl ?_
  refine V_aload_n 0 dX3_makeAnew_4 rfl ?_
  refine V_geta (ci := 3) (k := 0) (N := 6) (T := TX3) (o' := 1) dX3_makeAnew_5 iuX3 fl_X3_12 rfl (by decide) rfl sh_0 rfl ?_
  obtain ⟨q1, hq1, E⟩ := mmB_e E
  refine V_callVv (ci := 2) (q := (RX2, TX2, 10)) (Cn := RX2) (st := []) 1 dX3_makeAnew_8 (ct_X2_copyFrom sh_7 sh_1 hq1) ml_X3_40 im_X2_copyFrom sl_X2_copyFrom it_X2 cd_X2_copyFrom hy_X2_copyFrom ⟨rfl, rfl, by decide, by decide⟩ sh_7 rfl rfl rfl rfl (Nat.le_of_ble_eq_true rfl) ?_
  refine V_aload_n 0 dX3_makeAnew_11 rfl ?_
  refine V_aload_n 0 dX3_makeAnew_12 rfl ?_
  refine V_geta (ci := 3) (k := 1) (N := 6) (T := TX3) (o' := 7) dX3_makeAnew_13 iuX3 fl_X3_16 rfl (by decide) rfl sh_0 rfl ?_
  refine V_iload_n 1 dX3_makeAnew_16 rfl ?_
  obtain ⟨q3, hq3, E⟩ := mmB_e E
  refine V_callV (ci := 2) (q := (RX2, TX2, 10)) (Cn := RX2) (st := [.ref 0]) 1 dX3_makeAnew_17 (ct_X2_changeBlocks sh_7 hr1 hq3) ml_X3_76 im_X2_changeBlocks sl_X2_changeBlocks it_X2 cd_X2_changeBlocks hy_X2_changeBlocks ⟨rfl, rfl, by decide, by decide⟩ sh_7 rfl rfl rfl rfl (Nat.le_of_ble_eq_true rfl) (fun hv4 => ?_)
  obtain ⟨q5, hq5, E⟩ := mmB_e E
  refine V_callV (ci := 3) (q := (RX3, TX3, 6)) (Cn := RX3) (st := []) 1 dX3_makeAnew_20 (ct_X3_settle hv4 hq5) ml_X3_48 im_X3_settle sl_X3_settle it_X3 cd_X3_settle hy_X3_settle ⟨rfl, rfl, by decide, by decide⟩ sh_0 rfl rfl rfl rfl (Nat.le_of_ble_eq_true rfl) (fun hv6 => ?_)
  obtain rfl := Option.some.inj E
  exact V_reti dX3_makeAnew_23 ⟨rfl, rfl, hv6⟩
theorem ct_X3_makeAnew {l1 : Int} {m : Mem} {r : Int × Mem} (hr1 : inR l1) (E : f_X3_makeAnew l1 m = some r) : CTi yX3_makeAnew cX3_makeAnew 2 (some .int) rm_X3_makeAnew [.ref 0, vi l1] m r := CT_i (by decide +kernel) rfl (Nat.le_of_ble_eq_true rfl) (ok_X3_makeAnew _ _ hr1 E)
theorem hy_X3_makeAnew : yX3_makeAnew.cls = RX3 ∧ yX3_makeAnew.cls ≠ "java/lang/invoke/MethodHandle" ∧ yX3_makeAnew.cls ≠ "java/lang/invoke/VarHandle" ∧ (parseMethodDescriptor yX3_makeAnew.desc).map (fun d => d.parameters.length) = some 1 := by decide +kernel
abbrev rm_X3_type : Room := { frames := 1, cells := 0, slots := 0, locals := 21 }
noncomputable def f_X3_type (l1 : Int) (m : Mem) : Option (Int × Mem) :=
  (f_X1_append l1 m).bind (fun q1 => some (q1.1, q1.2))
set_option maxRecDepth 100000 in
set_option maxHeartbeats 4000000 in
theorem ok_X3_type {r : Int × Mem} : ∀ (l1 : Int) (m : Mem), inR l1 → f_X3_type l1 m = some r → VV RX3 cX3_type 2 rm_X3_type mmG0 (mmPi r) 0 [(0, .ref 0), (1, vi l1)] [] m := by
  intro l1 m hr1 E
  unfold f_X3_type at E
  refine V_aload_n 0 dX3_type_0 rfl ?_
  refine V_geta (ci := 3) (k := 5) (N := 6) (T := TX3) (o' := 45) dX3_type_1 iuX3 fl_X3_36 rfl (by decide) rfl sh_0 rfl ?_
  refine V_iload_n 1 dX3_type_4 rfl ?_
  obtain ⟨q1, hq1, E⟩ := mmB_e E
  refine V_callV (ci := 1) (q := (RX1, TX1, 8)) (Cn := RX1) (st := []) 1 dX3_type_5 (ct_X1_append hr1 hq1) ml_X3_79 im_X1_append sl_X1_append it_X1 cd_X1_append hy_X1_append ⟨rfl, rfl, by decide, by decide⟩ sh_45 rfl rfl rfl rfl (Nat.le_of_ble_eq_true rfl) (fun hv2 => ?_)
  obtain rfl := Option.some.inj E
  exact V_reti dX3_type_8 ⟨rfl, rfl, hv2⟩
theorem ct_X3_type {l1 : Int} {m : Mem} {r : Int × Mem} (hr1 : inR l1) (E : f_X3_type l1 m = some r) : CTi yX3_type cX3_type 2 (some .int) rm_X3_type [.ref 0, vi l1] m r := CT_i (by decide +kernel) rfl (Nat.le_of_ble_eq_true rfl) (ok_X3_type _ _ hr1 E)
theorem hy_X3_type : yX3_type.cls = RX3 ∧ yX3_type.cls ≠ "java/lang/invoke/MethodHandle" ∧ yX3_type.cls ≠ "java/lang/invoke/VarHandle" ∧ (parseMethodDescriptor yX3_type.desc).map (fun d => d.parameters.length) = some 1 := by decide +kernel
abbrev rm_X3_clearPad : Room := { frames := 1, cells := 0, slots := 0, locals := 21 }
noncomputable def f_X3_clearPad (m : Mem) : Option (Int × Mem) :=
  (f_X1_empty m).bind (fun q1 => some (q1.1, q1.2))
set_option maxRecDepth 100000 in
set_option maxHeartbeats 4000000 in
theorem ok_X3_clearPad {r : Int × Mem} : ∀ (m : Mem), f_X3_clearPad m = some r → VV RX3 cX3_clearPad 1 rm_X3_clearPad mmG0 (mmPi r) 0 [(0, .ref 0)] [] m := by
  intro m E
  unfold f_X3_clearPad at E
  refine V_aload_n 0 dX3_clearPad_0 rfl ?_
  refine V_geta (ci := 3) (k := 5) (N := 6) (T := TX3) (o' := 45) dX3_clearPad_1 iuX3 fl_X3_36 rfl (by decide) rfl sh_0 rfl ?_
  obtain ⟨q1, hq1, E⟩ := mmB_e E
  refine V_callV (ci := 1) (q := (RX1, TX1, 8)) (Cn := RX1) (st := []) 0 dX3_clearPad_4 (ct_X1_empty hq1) ml_X3_83 im_X1_empty sl_X1_empty it_X1 cd_X1_empty hy_X1_empty ⟨rfl, rfl, by decide, by decide⟩ sh_45 rfl rfl rfl rfl (Nat.le_of_ble_eq_true rfl) (fun hv2 => ?_)
  obtain rfl := Option.some.inj E
  exact V_reti dX3_clearPad_7 ⟨rfl, rfl, hv2⟩
theorem ct_X3_clearPad {m : Mem} {r : Int × Mem} (E : f_X3_clearPad m = some r) : CTi yX3_clearPad cX3_clearPad 1 (some .int) rm_X3_clearPad [.ref 0] m r := CT_i (by decide +kernel) rfl (Nat.le_of_ble_eq_true rfl) (ok_X3_clearPad  _  E)
theorem hy_X3_clearPad : yX3_clearPad.cls = RX3 ∧ yX3_clearPad.cls ≠ "java/lang/invoke/MethodHandle" ∧ yX3_clearPad.cls ≠ "java/lang/invoke/VarHandle" ∧ (parseMethodDescriptor yX3_clearPad.desc).map (fun d => d.parameters.length) = some 0 := by decide +kernel
abbrev rm_X3_undo : Room := { frames := 3, cells := 0, slots := 0, locals := 69 }
noncomputable def f_X3_undo (m : Mem) : Option (Int × Mem) :=
  (f_X0_giveLatestTo 1 m).bind (fun q1 => if q1.1 = 0 then
(some ((-5), q1.2))
else
((f_X0_size q1.2).bind (fun q4 => some (q4.1, q4.2))))
set_option maxRecDepth 100000 in
set_option maxHeartbeats 4000000 in
theorem ok_X3_undo {r : Int × Mem} : ∀ (m : Mem), f_X3_undo m = some r → VV RX3 cX3_undo 1 rm_X3_undo mmG0 (mmPi r) 0 [(0, .ref 0)] [] m := by
  intro m E
  unfold f_X3_undo at E
  refine V_aload_n 0 dX3_undo_0 rfl ?_
  refine V_geta (ci := 3) (k := 4) (N := 6) (T := TX3) (o' := 19) dX3_undo_1 iuX3 fl_X3_29 rfl (by decide) rfl sh_0 rfl ?_
  refine V_aload_n 0 dX3_undo_4 rfl ?_
  refine V_geta (ci := 3) (k := 0) (N := 6) (T := TX3) (o' := 1) dX3_undo_5 iuX3 fl_X3_12 rfl (by decide) rfl sh_0 rfl ?_
  obtain ⟨q1, hq1, E⟩ := mmB_e E
  refine V_callV (ci := 0) (q := (RX0, TX0, 2)) (Cn := RX0) (st := []) 1 dX3_undo_8 (ct_X0_giveLatestTo sh_1 hq1) ml_X3_86 im_X0_giveLatestTo sl_X0_giveLatestTo it_X0 cd_X0_giveLatestTo hy_X0_giveLatestTo ⟨rfl, rfl, by decide, by decide⟩ sh_19 rfl rfl rfl rfl (Nat.le_of_ble_eq_true rfl) (fun hv2 => ?_)
  refine V_if_ne 17 dX3_undo_11 (by decide) hv2 (fun c3 => ?_) (fun c3 => ?_)
  · replace E := mmI_f c3 E
    refine V_aload_n 0 dX3_undo_17 rfl ?_
    refine V_geta (ci := 3) (k := 4) (N := 6) (T := TX3) (o' := 19) dX3_undo_18 iuX3 fl_X3_29 rfl (by decide) rfl sh_0 rfl ?_
    obtain ⟨q4, hq4, E⟩ := mmB_e E
    refine V_callV (ci := 0) (q := (RX0, TX0, 2)) (Cn := RX0) (st := []) 0 dX3_undo_21 (ct_X0_size hq4) ml_X3_90 im_X0_size sl_X0_size it_X0 cd_X0_size hy_X0_size ⟨rfl, rfl, by decide, by decide⟩ sh_19 rfl rfl rfl rfl (Nat.le_of_ble_eq_true rfl) (fun hv5 => ?_)
    obtain rfl := Option.some.inj E
    exact V_reti dX3_undo_24 ⟨rfl, rfl, hv5⟩
  · replace E := mmI_t c3 E
    refine V_bipush (v := (-5)) dX3_undo_14 (by decide) ?_
    obtain rfl := Option.some.inj E
    exact V_reti dX3_undo_16 ⟨rfl, rfl, ir_m5⟩
theorem ct_X3_undo {m : Mem} {r : Int × Mem} (E : f_X3_undo m = some r) : CTi yX3_undo cX3_undo 1 (some .int) rm_X3_undo [.ref 0] m r := CT_i (by decide +kernel) rfl (Nat.le_of_ble_eq_true rfl) (ok_X3_undo  _  E)
theorem hy_X3_undo : yX3_undo.cls = RX3 ∧ yX3_undo.cls ≠ "java/lang/invoke/MethodHandle" ∧ yX3_undo.cls ≠ "java/lang/invoke/VarHandle" ∧ (parseMethodDescriptor yX3_undo.desc).map (fun d => d.parameters.length) = some 0 := by decide +kernel
abbrev rm_X3_keep : Room := { frames := 2, cells := 0, slots := 0, locals := 47 }
noncomputable def f_X3_keep (m : Mem) : Option (Int × Mem) :=
  (f_X2_copyFrom 13 1 m).bind (fun q1 => (f_X2_size 1 (mwr q1 0 3 1)).bind (fun q3 => some (q3.1, q3.2)))
set_option maxRecDepth 100000 in
set_option maxHeartbeats 4000000 in
theorem ok_X3_keep {r : Int × Mem} : ∀ (m : Mem), f_X3_keep m = some r → VV RX3 cX3_keep 1 rm_X3_keep mmG0 (mmPi r) 0 [(0, .ref 0)] [] m := by
  intro m E
  unfold f_X3_keep at E
  refine V_aload_n 0 dX3_keep_0 rfl ?_
  refine V_geta (ci := 3) (k := 2) (N := 6) (T := TX3) (o' := 13) dX3_keep_1 iuX3 fl_X3_19 rfl (by decide) rfl sh_0 rfl ?_
  refine V_aload_n 0 dX3_keep_4 rfl ?_
  refine V_geta (ci := 3) (k := 0) (N := 6) (T := TX3) (o' := 1) dX3_keep_5 iuX3 fl_X3_12 rfl (by decide) rfl sh_0 rfl ?_
  obtain ⟨q1, hq1, E⟩ := mmB_e E
  refine V_callVv (ci := 2) (q := (RX2, TX2, 10)) (Cn := RX2) (st := []) 1 dX3_keep_8 (ct_X2_copyFrom sh_13 sh_1 hq1) ml_X3_40 im_X2_copyFrom sl_X2_copyFrom it_X2 cd_X2_copyFrom hy_X2_copyFrom ⟨rfl, rfl, by decide, by decide⟩ sh_13 rfl rfl rfl rfl (Nat.le_of_ble_eq_true rfl) ?_
  refine V_aload_n 0 dX3_keep_11 rfl ?_
  refine V_iconst dX3_keep_12 rfl ?_
  refine V_put (ci := 3) (k := 3) (N := 6) (T := TX3) (x := 1) (ty := .boolean) tyX3 dX3_keep_13 iuX3 tyX3_ok nmX3 fl_X3_22 rfl (by decide) rfl sh_0 rfl (by decide +kernel) (by decide +kernel) (by decide +kernel) ir_1 ?_
  refine V_aload_n 0 dX3_keep_16 rfl ?_
  refine V_geta (ci := 3) (k := 0) (N := 6) (T := TX3) (o' := 1) dX3_keep_17 iuX3 fl_X3_12 rfl (by decide) rfl sh_0 rfl ?_
  obtain ⟨q3, hq3, E⟩ := mmB_e E
  refine V_callV (ci := 2) (q := (RX2, TX2, 10)) (Cn := RX2) (st := []) 0 dX3_keep_20 (ct_X2_size sh_1 hq3) ml_X3_93 im_X2_size sl_X2_size it_X2 cd_X2_size hy_X2_size ⟨rfl, rfl, by decide, by decide⟩ sh_1 rfl rfl rfl rfl (Nat.le_of_ble_eq_true rfl) (fun hv4 => ?_)
  obtain rfl := Option.some.inj E
  exact V_reti dX3_keep_23 ⟨rfl, rfl, hv4⟩
theorem ct_X3_keep {m : Mem} {r : Int × Mem} (E : f_X3_keep m = some r) : CTi yX3_keep cX3_keep 1 (some .int) rm_X3_keep [.ref 0] m r := CT_i (by decide +kernel) rfl (Nat.le_of_ble_eq_true rfl) (ok_X3_keep  _  E)
theorem hy_X3_keep : yX3_keep.cls = RX3 ∧ yX3_keep.cls ≠ "java/lang/invoke/MethodHandle" ∧ yX3_keep.cls ≠ "java/lang/invoke/VarHandle" ∧ (parseMethodDescriptor yX3_keep.desc).map (fun d => d.parameters.length) = some 0 := by decide +kernel
abbrev rm_X3_restore : Room := { frames := 4, cells := 0, slots := 0, locals := 90 }
noncomputable def f_X3_restore (m : Mem) : Option (Int × Mem) :=
  if (m.1 0 3) = 0 then
(some ((-5), m))
else
((f_X2_copyFrom 7 13 m).bind (fun q3 => (f_X2_size 7 q3).bind (fun q5 => (f_X3_settle q5.1 q5.2).bind (fun q7 => some (q7.1, q7.2)))))
set_option maxRecDepth 100000 in
set_option maxHeartbeats 4000000 in
theorem ok_X3_restore {r : Int × Mem} : ∀ (m : Mem), f_X3_restore m = some r → VV RX3 cX3_restore 1 rm_X3_restore mmG0 (mmPi r) 0 [(0, .ref 0)] [] m := by
  intro m E
  unfold f_X3_restore at E
  refine V_aload_n 0 dX3_restore_0 rfl ?_
  refine V_geti (ci := 3) (k := 3) (N := 6) (T := TX3) (v := (m.1 0 3)) dX3_restore_1 iuX3 fl_X3_22 rfl (by decide) rfl sh_0 rfl (fun hv1 => ?_)
  refine V_if_ne 10 dX3_restore_4 (by decide) hv1 (fun c2 => ?_) (fun c2 => ?_)
  · replace E := mmI_f c2 E
    refine V_aload_n 0 dX3_restore_10 rfl ?_
    refine V_geta (ci := 3) (k := 1) (N := 6) (T := TX3) (o' := 7) dX3_restore_11 iuX3 fl_X3_16 rfl (by decide) rfl sh_0 rfl ?_
    refine V_aload_n 0 dX3_restore_14 rfl ?_
    refine V_geta (ci := 3) (k := 2) (N := 6) (T := TX3) (o' := 13) dX3_restore_15 iuX3 fl_X3_19 rfl (by decide) rfl sh_0 rfl ?_
    obtain ⟨q3, hq3, E⟩ := mmB_e E
    refine V_callVv (ci := 2) (q := (RX2, TX2, 10)) (Cn := RX2) (st := []) 1 dX3_restore_18 (ct_X2_copyFrom sh_7 sh_13 hq3) ml_X3_40 im_X2_copyFrom sl_X2_copyFrom it_X2 cd_X2_copyFrom hy_X2_copyFrom ⟨rfl, rfl, by decide, by decide⟩ sh_7 rfl rfl rfl rfl (Nat.le_of_ble_eq_true rfl) ?_
    refine V_aload_n 0 dX3_restore_21 rfl ?_
    refine V_aload_n 0 dX3_restore_22 rfl ?_
    refine V_geta (ci := 3) (k := 1) (N := 6) (T := TX3) (o' := 7) dX3_restore_23 iuX3 fl_X3_16 rfl (by decide) rfl sh_0 rfl ?_
    obtain ⟨q5, hq5, E⟩ := mmB_e E
    refine V_callV (ci := 2) (q := (RX2, TX2, 10)) (Cn := RX2) (st := [.ref 0]) 0 dX3_restore_26 (ct_X2_size sh_7 hq5) ml_X3_93 im_X2_size sl_X2_size it_X2 cd_X2_size hy_X2_size ⟨rfl, rfl, by decide, by decide⟩ sh_7 rfl rfl rfl rfl (Nat.le_of_ble_eq_true rfl) (fun hv6 => ?_)
    obtain ⟨q7, hq7, E⟩ := mmB_e E
    refine V_callV (ci := 3) (q := (RX3, TX3, 6)) (Cn := RX3) (st := []) 1 dX3_restore_29 (ct_X3_settle hv6 hq7) ml_X3_48 im_X3_settle sl_X3_settle it_X3 cd_X3_settle hy_X3_settle ⟨rfl, rfl, by decide, by decide⟩ sh_0 rfl rfl rfl rfl (Nat.le_of_ble_eq_true rfl) (fun hv8 => ?_)
    obtain rfl := Option.some.inj E
    exact V_reti dX3_restore_32 ⟨rfl, rfl, hv8⟩
  · replace E := mmI_t c2 E
    refine V_bipush (v := (-5)) dX3_restore_7 (by decide) ?_
    obtain rfl := Option.some.inj E
    exact V_reti dX3_restore_9 ⟨rfl, rfl, ir_m5⟩
theorem ct_X3_restore {m : Mem} {r : Int × Mem} (E : f_X3_restore m = some r) : CTi yX3_restore cX3_restore 1 (some .int) rm_X3_restore [.ref 0] m r := CT_i (by decide +kernel) rfl (Nat.le_of_ble_eq_true rfl) (ok_X3_restore  _  E)
theorem hy_X3_restore : yX3_restore.cls = RX3 ∧ yX3_restore.cls ≠ "java/lang/invoke/MethodHandle" ∧ yX3_restore.cls ≠ "java/lang/invoke/VarHandle" ∧ (parseMethodDescriptor yX3_restore.desc).map (fun d => d.parameters.length) = some 0 := by decide +kernel
abbrev rm_X3_entry : Room := { frames := 4, cells := 0, slots := 0, locals := 88 }
noncomputable def f_X3_entry (l1 : Int) (l2 : Int) (m : Mem) : Option (Int × Mem) :=
  (f_X2_tellEntry 1 l1 l2 m).bind (fun q1 => some (q1.1, q1.2))
set_option maxRecDepth 100000 in
set_option maxHeartbeats 4000000 in
theorem ok_X3_entry {r : Int × Mem} : ∀ (l1 : Int) (l2 : Int) (m : Mem), inR l1 → inR l2 → f_X3_entry l1 l2 m = some r → VV RX3 cX3_entry 3 rm_X3_entry mmG0 (mmPi r) 0 [(0, .ref 0), (1, vi l1), (2, vi l2)] [] m := by
  intro l1 l2 m hr1 hr2 E
  unfold f_X3_entry at E
  refine V_aload_n 0 dX3_entry_0 rfl ?_
  refine V_geta (ci := 3) (k := 0) (N := 6) (T := TX3) (o' := 1) dX3_entry_1 iuX3 fl_X3_12 rfl (by decide) rfl sh_0 rfl ?_
  refine V_iload_n 1 dX3_entry_4 rfl ?_
  refine V_iload_n 2 dX3_entry_5 rfl ?_
  obtain ⟨q1, hq1, E⟩ := mmB_e E
  refine V_callV (ci := 2) (q := (RX2, TX2, 10)) (Cn := RX2) (st := []) 2 dX3_entry_6 (ct_X2_tellEntry sh_1 hr1 hr2 hq1) ml_X3_94 im_X2_tellEntry sl_X2_tellEntry it_X2 cd_X2_tellEntry hy_X2_tellEntry ⟨rfl, rfl, by decide, by decide⟩ sh_1 rfl rfl rfl rfl (Nat.le_of_ble_eq_true rfl) (fun hv2 => ?_)
  obtain rfl := Option.some.inj E
  exact V_reti dX3_entry_9 ⟨rfl, rfl, hv2⟩
theorem ct_X3_entry {l1 : Int} {l2 : Int} {m : Mem} {r : Int × Mem} (hr1 : inR l1) (hr2 : inR l2) (E : f_X3_entry l1 l2 m = some r) : CTi yX3_entry cX3_entry 3 (some .int) rm_X3_entry [.ref 0, vi l1, vi l2] m r := CT_i (by decide +kernel) rfl (Nat.le_of_ble_eq_true rfl) (ok_X3_entry _ _ _ hr1 hr2 E)
theorem hy_X3_entry : yX3_entry.cls = RX3 ∧ yX3_entry.cls ≠ "java/lang/invoke/MethodHandle" ∧ yX3_entry.cls ≠ "java/lang/invoke/VarHandle" ∧ (parseMethodDescriptor yX3_entry.desc).map (fun d => d.parameters.length) = some 2 := by decide +kernel
abbrev rm_X3_named : Room := { frames := 2, cells := 0, slots := 0, locals := 42 }
noncomputable def f_X3_named (l1 : Int) (m : Mem) : Option (Int × Mem) :=
  (f_X2_tellName 1 l1 m).bind (fun q1 => some (q1.1, q1.2))
set_option maxRecDepth 100000 in
set_option maxHeartbeats 4000000 in
theorem ok_X3_named {r : Int × Mem} : ∀ (l1 : Int) (m : Mem), inR l1 → f_X3_named l1 m = some r → VV RX3 cX3_named 2 rm_X3_named mmG0 (mmPi r) 0 [(0, .ref 0), (1, vi l1)] [] m := by
  intro l1 m hr1 E
  unfold f_X3_named at E
  refine V_aload_n 0 dX3_named_0 rfl ?_
  refine V_geta (ci := 3) (k := 0) (N := 6) (T := TX3) (o' := 1) dX3_named_1 iuX3 fl_X3_12 rfl (by decide) rfl sh_0 rfl ?_
  refine V_iload_n 1 dX3_named_4 rfl ?_
  obtain ⟨q1, hq1, E⟩ := mmB_e E
  refine V_callV (ci := 2) (q := (RX2, TX2, 10)) (Cn := RX2) (st := []) 1 dX3_named_5 (ct_X2_tellName sh_1 hr1 hq1) ml_X3_97 im_X2_tellName sl_X2_tellName it_X2 cd_X2_tellName hy_X2_tellName ⟨rfl, rfl, by decide, by decide⟩ sh_1 rfl rfl rfl rfl (Nat.le_of_ble_eq_true rfl) (fun hv2 => ?_)
  obtain rfl := Option.some.inj E
  exact V_reti dX3_named_8 ⟨rfl, rfl, hv2⟩
theorem ct_X3_named {l1 : Int} {m : Mem} {r : Int × Mem} (hr1 : inR l1) (E : f_X3_named l1 m = some r) : CTi yX3_named cX3_named 2 (some .int) rm_X3_named [.ref 0, vi l1] m r := CT_i (by decide +kernel) rfl (Nat.le_of_ble_eq_true rfl) (ok_X3_named _ _ hr1 E)
theorem hy_X3_named : yX3_named.cls = RX3 ∧ yX3_named.cls ≠ "java/lang/invoke/MethodHandle" ∧ yX3_named.cls ≠ "java/lang/invoke/VarHandle" ∧ (parseMethodDescriptor yX3_named.desc).map (fun d => d.parameters.length) = some 1 := by decide +kernel
abbrev rm_X3_block : Room := { frames := 3, cells := 0, slots := 0, locals := 66 }
noncomputable def f_X3_block (l1 : Int) (l2 : Int) (m : Mem) : Option (Int × Mem) :=
  (f_X2_tellBlock 1 l1 l2 m).bind (fun q1 => some (q1.1, q1.2))
set_option maxRecDepth 100000 in
set_option maxHeartbeats 4000000 in
theorem ok_X3_block {r : Int × Mem} : ∀ (l1 : Int) (l2 : Int) (m : Mem), inR l1 → inR l2 → f_X3_block l1 l2 m = some r → VV RX3 cX3_block 3 rm_X3_block mmG0 (mmPi r) 0 [(0, .ref 0), (1, vi l1), (2, vi l2)] [] m := by
  intro l1 l2 m hr1 hr2 E
  unfold f_X3_block at E
  refine V_aload_n 0 dX3_block_0 rfl ?_
  refine V_geta (ci := 3) (k := 0) (N := 6) (T := TX3) (o' := 1) dX3_block_1 iuX3 fl_X3_12 rfl (by decide) rfl sh_0 rfl ?_
  refine V_iload_n 1 dX3_block_4 rfl ?_
  refine V_iload_n 2 dX3_block_5 rfl ?_
  obtain ⟨q1, hq1, E⟩ := mmB_e E
  refine V_callV (ci := 2) (q := (RX2, TX2, 10)) (Cn := RX2) (st := []) 2 dX3_block_6 (ct_X2_tellBlock sh_1 hr1 hr2 hq1) ml_X3_100 im_X2_tellBlock sl_X2_tellBlock it_X2 cd_X2_tellBlock hy_X2_tellBlock ⟨rfl, rfl, by decide, by decide⟩ sh_1 rfl rfl rfl rfl (Nat.le_of_ble_eq_true rfl) (fun hv2 => ?_)
  obtain rfl := Option.some.inj E
  exact V_reti dX3_block_9 ⟨rfl, rfl, hv2⟩
theorem ct_X3_block {l1 : Int} {l2 : Int} {m : Mem} {r : Int × Mem} (hr1 : inR l1) (hr2 : inR l2) (E : f_X3_block l1 l2 m = some r) : CTi yX3_block cX3_block 3 (some .int) rm_X3_block [.ref 0, vi l1, vi l2] m r := CT_i (by decide +kernel) rfl (Nat.le_of_ble_eq_true rfl) (ok_X3_block _ _ _ hr1 hr2 E)
theorem hy_X3_block : yX3_block.cls = RX3 ∧ yX3_block.cls ≠ "java/lang/invoke/MethodHandle" ∧ yX3_block.cls ≠ "java/lang/invoke/VarHandle" ∧ (parseMethodDescriptor yX3_block.desc).map (fun d => d.parameters.length) = some 2 := by decide +kernel
abbrev rm_X3_at : Room := { frames := 1, cells := 0, slots := 0, locals := 22 }
noncomputable def f_X3_at (l1 : Int) (m : Mem) : Option (Int × Mem) :=
  (f_X2_tellUnit 1 l1 m).bind (fun q1 => some (q1.1, q1.2))
set_option maxRecDepth 100000 in
set_option maxHeartbeats 4000000 in
theorem ok_X3_at {r : Int × Mem} : ∀ (l1 : Int) (m : Mem), inR l1 → f_X3_at l1 m = some r → VV RX3 cX3_at 2 rm_X3_at mmG0 (mmPi r) 0 [(0, .ref 0), (1, vi l1)] [] m := by
  intro l1 m hr1 E
  unfold f_X3_at at E
  refine V_aload_n 0 dX3_at_0 rfl ?_
  refine V_geta (ci := 3) (k := 0) (N := 6) (T := TX3) (o' := 1) dX3_at_1 iuX3 fl_X3_12 rfl (by decide) rfl sh_0 rfl ?_
  refine V_iload_n 1 dX3_at_4 rfl ?_
  obtain ⟨q1, hq1, E⟩ := mmB_e E
  refine V_callV (ci := 2) (q := (RX2, TX2, 10)) (Cn := RX2) (st := []) 1 dX3_at_5 (ct_X2_tellUnit sh_1 hr1 hq1) ml_X3_103 im_X2_tellUnit sl_X2_tellUnit it_X2 cd_X2_tellUnit hy_X2_tellUnit ⟨rfl, rfl, by decide, by decide⟩ sh_1 rfl rfl rfl rfl (Nat.le_of_ble_eq_true rfl) (fun hv2 => ?_)
  obtain rfl := Option.some.inj E
  exact V_reti dX3_at_8 ⟨rfl, rfl, hv2⟩
theorem ct_X3_at {l1 : Int} {m : Mem} {r : Int × Mem} (hr1 : inR l1) (E : f_X3_at l1 m = some r) : CTi yX3_at cX3_at 2 (some .int) rm_X3_at [.ref 0, vi l1] m r := CT_i (by decide +kernel) rfl (Nat.le_of_ble_eq_true rfl) (ok_X3_at _ _ hr1 E)
theorem hy_X3_at : yX3_at.cls = RX3 ∧ yX3_at.cls ≠ "java/lang/invoke/MethodHandle" ∧ yX3_at.cls ≠ "java/lang/invoke/VarHandle" ∧ (parseMethodDescriptor yX3_at.desc).map (fun d => d.parameters.length) = some 1 := by decide +kernel
abbrev rm_X3_fits : Room := { frames := 4, cells := 0, slots := 0, locals := 86 }
noncomputable def f_X3_fits (l1 : Int) (m : Mem) : Option (Int × Mem) :=
  (f_X2_tellFit 1 l1 m).bind (fun q1 => some (q1.1, q1.2))
set_option maxRecDepth 100000 in
set_option maxHeartbeats 4000000 in
theorem ok_X3_fits {r : Int × Mem} : ∀ (l1 : Int) (m : Mem), inR l1 → f_X3_fits l1 m = some r → VV RX3 cX3_fits 2 rm_X3_fits mmG0 (mmPi r) 0 [(0, .ref 0), (1, vi l1)] [] m := by
  intro l1 m hr1 E
  unfold f_X3_fits at E
  refine V_aload_n 0 dX3_fits_0 rfl ?_
  refine V_geta (ci := 3) (k := 0) (N := 6) (T := TX3) (o' := 1) dX3_fits_1 iuX3 fl_X3_12 rfl (by decide) rfl sh_0 rfl ?_
  refine V_iload_n 1 dX3_fits_4 rfl ?_
  obtain ⟨q1, hq1, E⟩ := mmB_e E
  refine V_callV (ci := 2) (q := (RX2, TX2, 10)) (Cn := RX2) (st := []) 1 dX3_fits_5 (ct_X2_tellFit sh_1 hr1 hq1) ml_X3_106 im_X2_tellFit sl_X2_tellFit it_X2 cd_X2_tellFit hy_X2_tellFit ⟨rfl, rfl, by decide, by decide⟩ sh_1 rfl rfl rfl rfl (Nat.le_of_ble_eq_true rfl) (fun hv2 => ?_)
  obtain rfl := Option.some.inj E
  exact V_reti dX3_fits_8 ⟨rfl, rfl, hv2⟩
theorem ct_X3_fits {l1 : Int} {m : Mem} {r : Int × Mem} (hr1 : inR l1) (E : f_X3_fits l1 m = some r) : CTi yX3_fits cX3_fits 2 (some .int) rm_X3_fits [.ref 0, vi l1] m r := CT_i (by decide +kernel) rfl (Nat.le_of_ble_eq_true rfl) (ok_X3_fits _ _ hr1 E)
theorem hy_X3_fits : yX3_fits.cls = RX3 ∧ yX3_fits.cls ≠ "java/lang/invoke/MethodHandle" ∧ yX3_fits.cls ≠ "java/lang/invoke/VarHandle" ∧ (parseMethodDescriptor yX3_fits.desc).map (fun d => d.parameters.length) = some 1 := by decide +kernel
abbrev rm_X3_beginning : Room := { frames := 3, cells := 0, slots := 0, locals := 66 }
noncomputable def f_X3_beginning (l1 : Int) (l2 : Int) (m : Mem) : Option (Int × Mem) :=
  (f_X2_tellBeginning 1 l1 l2 m).bind (fun q1 => some (q1.1, q1.2))
set_option maxRecDepth 100000 in
set_option maxHeartbeats 4000000 in
theorem ok_X3_beginning {r : Int × Mem} : ∀ (l1 : Int) (l2 : Int) (m : Mem), inR l1 → inR l2 → f_X3_beginning l1 l2 m = some r → VV RX3 cX3_beginning 3 rm_X3_beginning mmG0 (mmPi r) 0 [(0, .ref 0), (1, vi l1), (2, vi l2)] [] m := by
  intro l1 l2 m hr1 hr2 E
  unfold f_X3_beginning at E
  refine V_aload_n 0 dX3_beginning_0 rfl ?_
  refine V_geta (ci := 3) (k := 0) (N := 6) (T := TX3) (o' := 1) dX3_beginning_1 iuX3 fl_X3_12 rfl (by decide) rfl sh_0 rfl ?_
  refine V_iload_n 1 dX3_beginning_4 rfl ?_
  refine V_iload_n 2 dX3_beginning_5 rfl ?_
  obtain ⟨q1, hq1, E⟩ := mmB_e E
  refine V_callV (ci := 2) (q := (RX2, TX2, 10)) (Cn := RX2) (st := []) 2 dX3_beginning_6 (ct_X2_tellBeginning sh_1 hr1 hr2 hq1) ml_X3_109 im_X2_tellBeginning sl_X2_tellBeginning it_X2 cd_X2_tellBeginning hy_X2_tellBeginning ⟨rfl, rfl, by decide, by decide⟩ sh_1 rfl rfl rfl rfl (Nat.le_of_ble_eq_true rfl) (fun hv2 => ?_)
  obtain rfl := Option.some.inj E
  exact V_reti dX3_beginning_9 ⟨rfl, rfl, hv2⟩
theorem ct_X3_beginning {l1 : Int} {l2 : Int} {m : Mem} {r : Int × Mem} (hr1 : inR l1) (hr2 : inR l2) (E : f_X3_beginning l1 l2 m = some r) : CTi yX3_beginning cX3_beginning 3 (some .int) rm_X3_beginning [.ref 0, vi l1, vi l2] m r := CT_i (by decide +kernel) rfl (Nat.le_of_ble_eq_true rfl) (ok_X3_beginning _ _ _ hr1 hr2 E)
theorem hy_X3_beginning : yX3_beginning.cls = RX3 ∧ yX3_beginning.cls ≠ "java/lang/invoke/MethodHandle" ∧ yX3_beginning.cls ≠ "java/lang/invoke/VarHandle" ∧ (parseMethodDescriptor yX3_beginning.desc).map (fun d => d.parameters.length) = some 2 := by decide +kernel
abbrev rm_X3_count : Room := { frames := 5, cells := 0, slots := 0, locals := 107 }
noncomputable def f_X3_count (l1 : Int) (m : Mem) : Option (Int × Mem) :=
  if l1 = 13 then
((f_X0_size m).bind (fun q2 => some (q2.1, q2.2)))
else (
if l1 = 14 then
((f_X1_length m).bind (fun q5 => some (q5.1, q5.2)))
else (
((f_X2_tellCount 1 l1 m).bind (fun q7 => some (q7.1, q7.2)))))
set_option maxRecDepth 100000 in
set_option maxHeartbeats 4000000 in
theorem ok_X3_count {r : Int × Mem} : ∀ (l1 : Int) (m : Mem), inR l1 → f_X3_count l1 m = some r → VV RX3 cX3_count 2 rm_X3_count mmG0 (mmPi r) 0 [(0, .ref 0), (1, vi l1)] [] m := by
  intro l1 m hr1 E
  unfold f_X3_count at E
  refine V_iload_n 1 dX3_count_0 rfl ?_
  by_cases c1 : l1 = 13
  · replace E := mmI_t c1 E
    refine V_lookup (off := 27) 28 dX3_count_1 hr1 (by decide) (by first | (rw [c1]; done) | (rw [c1]; rfl)) (by decide) ?_
    refine V_aload_n 0 dX3_count_28 rfl ?_
    refine V_geta (ci := 3) (k := 4) (N := 6) (T := TX3) (o' := 19) dX3_count_29 iuX3 fl_X3_29 rfl (by decide) rfl sh_0 rfl ?_
    obtain ⟨q2, hq2, E⟩ := mmB_e E
    refine V_callV (ci := 0) (q := (RX0, TX0, 2)) (Cn := RX0) (st := []) 0 dX3_count_32 (ct_X0_size hq2) ml_X3_90 im_X0_size sl_X0_size it_X0 cd_X0_size hy_X0_size ⟨rfl, rfl, by decide, by decide⟩ sh_19 rfl rfl rfl rfl (Nat.le_of_ble_eq_true rfl) (fun hv3 => ?_)
    obtain rfl := Option.some.inj E
    exact V_reti dX3_count_35 ⟨rfl, rfl, hv3⟩
  replace E := mmI_f c1 E
  by_cases c4 : l1 = 14
  · replace E := mmI_t c4 E
    refine V_lookup (off := 35) 36 dX3_count_1 hr1 (by decide) (by first | (rw [c4]; done) | (rw [c4]; rfl)) (by decide) ?_
    refine V_aload_n 0 dX3_count_36 rfl ?_
    refine V_geta (ci := 3) (k := 5) (N := 6) (T := TX3) (o' := 45) dX3_count_37 iuX3 fl_X3_36 rfl (by decide) rfl sh_0 rfl ?_
    obtain ⟨q5, hq5, E⟩ := mmB_e E
    refine V_callV (ci := 1) (q := (RX1, TX1, 8)) (Cn := RX1) (st := []) 0 dX3_count_40 (ct_X1_length hq5) ml_X3_112 im_X1_length sl_X1_length it_X1 cd_X1_length hy_X1_length ⟨rfl, rfl, by decide, by decide⟩ sh_45 rfl rfl rfl rfl (Nat.le_of_ble_eq_true rfl) (fun hv6 => ?_)
    obtain rfl := Option.some.inj E
    exact V_reti dX3_count_43 ⟨rfl, rfl, hv6⟩
  replace E := mmI_f c4 E
  refine V_lookup (off := 43) 44 dX3_count_1 hr1 (by decide) (by simp only [Op.lookupswitch.offset]; rw [if_neg (fun z => c1 z.symm)]; rw [if_neg (fun z => c4 z.symm)]) (by decide) ?_
  refine V_aload_n 0 dX3_count_44 rfl ?_
  refine V_geta (ci := 3) (k := 0) (N := 6) (T := TX3) (o' := 1) dX3_count_45 iuX3 fl_X3_12 rfl (by decide) rfl sh_0 rfl ?_
  refine V_iload_n 1 dX3_count_48 rfl ?_
  obtain ⟨q7, hq7, E⟩ := mmB_e E
  refine V_callV (ci := 2) (q := (RX2, TX2, 10)) (Cn := RX2) (st := []) 1 dX3_count_49 (ct_X2_tellCount sh_1 hr1 hq7) ml_X3_115 im_X2_tellCount sl_X2_tellCount it_X2 cd_X2_tellCount hy_X2_tellCount ⟨rfl, rfl, by decide, by decide⟩ sh_1 rfl rfl rfl rfl (Nat.le_of_ble_eq_true rfl) (fun hv8 => ?_)
  obtain rfl := Option.some.inj E
  exact V_reti dX3_count_52 ⟨rfl, rfl, hv8⟩
theorem ct_X3_count {l1 : Int} {m : Mem} {r : Int × Mem} (hr1 : inR l1) (E : f_X3_count l1 m = some r) : CTi yX3_count cX3_count 2 (some .int) rm_X3_count [.ref 0, vi l1] m r := CT_i (by decide +kernel) rfl (Nat.le_of_ble_eq_true rfl) (ok_X3_count _ _ hr1 E)
theorem hy_X3_count : yX3_count.cls = RX3 ∧ yX3_count.cls ≠ "java/lang/invoke/MethodHandle" ∧ yX3_count.cls ≠ "java/lang/invoke/VarHandle" ∧ (parseMethodDescriptor yX3_count.desc).map (fun d => d.parameters.length) = some 1 := by decide +kernel
abbrev rm_X4_in : Room := { frames := 0, cells := 0, slots := 0, locals := 0 }
noncomputable def f_X4_in (l0 : Int) (l2 : Int) (l4 : Int) (m : Mem) : Option (Int × Mem) :=
  if (mmCmp l0 l2) < 0 then
(some (0, m))
else
(if 0 < (mmCmp l0 l4) then
(some (0, m))
else
(some (1, m)))
set_option maxRecDepth 100000 in
set_option maxHeartbeats 4000000 in
theorem ok_X4_in {r : Int × Mem} : ∀ (l0 : Int) (l2 : Int) (l4 : Int) (m : Mem), inL l0 → inL l2 → inL l4 → f_X4_in l0 l2 l4 m = some r → VV RX4 cX4_in 6 rm_X4_in mmG0 (mmPz r) 0 [(0, vl l0), (2, vl l2), (4, vl l4)] [] m := by
  intro l0 l2 l4 m hr0 hr2 hr4 E
  unfold f_X4_in at E
  refine V_lload_n 0 dX4_in_0 rfl ?_
  refine V_lload_n 1 dX4_in_1 rfl ?_
  refine V_lcmp dX4_in_2 hr0 hr2 ?_
  refine V_if_lt 17 dX4_in_3 (by decide) (mmCmp_R l0 l2) (fun c1 => ?_) (fun c1 => ?_)
  · replace E := mmI_t c1 E
    refine V_iconst dX4_in_17 rfl ?_
    obtain rfl := Option.some.inj E
    exact V_reti dX4_in_18 ⟨rfl, rfl, (Or.inl rfl)⟩
  · replace E := mmI_f c1 E
    refine V_lload_n 0 dX4_in_6 rfl ?_
    refine V_lload 2 dX4_in_7 rfl ?_
    refine V_lcmp dX4_in_9 hr0 hr4 ?_
    refine V_if_gt 17 dX4_in_10 (by decide) (mmCmp_R l0 l4) (fun c2 => ?_) (fun c2 => ?_)
    · replace E := mmI_t c2 E
      refine V_iconst dX4_in_17 rfl ?_
      obtain rfl := Option.some.inj E
      exact V_reti dX4_in_18 ⟨rfl, rfl, (Or.inl rfl)⟩
    · replace E := mmI_f c2 E
      refine V_iconst dX4_in_13 rfl ?_
      refine V_goto 18 dX4_in_14 (by decide) ?_
      obtain rfl := Option.some.inj E
      exact V_reti dX4_in_18 ⟨rfl, rfl, (Or.inr rfl)⟩
theorem ct_X4_in {l0 : Int} {l2 : Int} {l4 : Int} {m : Mem} {r : Int × Mem} (hr0 : inL l0) (hr2 : inL l2) (hr4 : inL l4) (E : f_X4_in l0 l2 l4 m = some r) : CTi yX4_in cX4_in 6 (some .boolean) rm_X4_in [vl l0, vl l2, vl l4] m r := CT_z (by decide +kernel) rfl (Nat.le_of_ble_eq_true rfl) (ok_X4_in _ _ _ _ hr0 hr2 hr4 E)
theorem hz_X4_in : yX4_in.cls ≠ "java/lang/invoke/MethodHandle" ∧ yX4_in.cls ≠ "java/lang/invoke/VarHandle" ∧ (parseMethodDescriptor yX4_in.desc).map (fun d => d.parameters.length) = some 3 := by decide +kernel
abbrev rm_X4_remember : Room := { frames := 0, cells := 0, slots := 0, locals := 0 }
noncomputable def f_X4_remember_L2 : Nat → Int → Mem → Option (Mem)
  | 0, _, _ => none
  | n + 1, l1, m =>
    if 149 ≤ l1 then
(some m)
else
(mmK (0 ≤ l1 ∧ l1 < 149) (mmK (0 ≤ l1 ∧ l1 < 149) (mmK (inR (l1 + 1)) (f_X4_remember_L2 n (l1 + 1) (mwr m 53 (l1).toNat (m.1 52 (l1).toNat))))))
set_option maxRecDepth 100000 in
set_option maxHeartbeats 4000000 in
theorem ok_X4_remember_L2 {r : Mem} : ∀ (n : Nat), ∀ (l1 : Int) (m : Mem), inR l1 → f_X4_remember_L2 n l1 m = some r → VV RX4 cX4_remember 2 rm_X4_remember mmG0 (mmPv r) 2 [(0, .ref 51), (1, vi l1)] [] m := by
  intro n
  induction n with
  | zero =>
    intro l1 m hr1 E
    cases E
  | succ n ih =>
    intro l1 m hr1 E
    rw [f_X4_remember_L2] at E
    refine V_iload_n 1 dX4_remember_2 rfl ?_
    refine V_sipush (v := 149) dX4_remember_3 (by decide) ?_
    refine V_icmp_ge 27 dX4_remember_6 (by decide) hr1 ir_149 (fun c1 => ?_) (fun c1 => ?_)
    · replace E := mmI_t c1 E
      obtain rfl := Option.some.inj E
      exact V_retv dX4_remember_27 ⟨rfl, rfl⟩
    · replace E := mmI_f c1 E
      refine V_aload_n 0 dX4_remember_9 rfl ?_
      refine V_geta (ci := 4) (k := 1) (N := 12) (T := TX4) (o' := 53) dX4_remember_10 iuX4 fl_X4_13 rfl (by decide) rfl sh_51 rfl ?_
      refine V_iload_n 1 dX4_remember_13 rfl ?_
      refine V_aload_n 0 dX4_remember_14 rfl ?_
      refine V_geta (ci := 4) (k := 0) (N := 12) (T := TX4) (o' := 52) dX4_remember_15 iuX4 fl_X4_7 rfl (by decide) rfl sh_51 rfl ?_
      refine V_iload_n 1 dX4_remember_18 rfl ?_
      obtain ⟨hv2, E⟩ := mmK_e E
      refine V_iald (n := 149) (j := (l1).toNat) (v := (m.1 52 (l1).toNat)) dX4_remember_19 sh_52 hr1 hv2 rfl rfl (fun hv3 => ?_)
      obtain ⟨hv4, E⟩ := mmK_e E
      refine V_iast (n := 149) (j := (l1).toNat) dX4_remember_20 sh_53 hr1 hv3 hv4 rfl ?_
      obtain ⟨hv5, E⟩ := mmK_e E
      refine V_iinc (v := (l1 + 1)) (lv' := [(0, .ref 51), (1, vi (l1 + 1))]) 1 dX4_remember_21 rfl rfl rfl rfl ?_
      refine V_goto 2 dX4_remember_24 (by decide) ?_
      exact ih _ _ hv5 E
noncomputable def f_X4_remember (m : Mem) : Option (Mem) :=
  f_X4_remember_L2 mmFU 0 m
set_option maxRecDepth 100000 in
set_option maxHeartbeats 4000000 in
theorem ok_X4_remember {r : Mem} : ∀ (m : Mem), f_X4_remember m = some r → VV RX4 cX4_remember 2 rm_X4_remember mmG0 (mmPv r) 0 [(0, .ref 51)] [] m := by
  intro m E
  unfold f_X4_remember at E
  refine V_iconst dX4_remember_0 rfl ?_
  refine V_istore_n (i := 1) (lv' := [(0, .ref 51), (1, vi 0)]) dX4_remember_1 rfl rfl rfl ?_
  exact ok_X4_remember_L2 mmFU _ _ ir_0 E
theorem ct_X4_remember {m : Mem} {r : Mem} (E : f_X4_remember m = some r) : CTv yX4_remember cX4_remember 2 rm_X4_remember [.ref 51] m r := CT_v (by decide +kernel) rfl (Nat.le_of_ble_eq_true rfl) (ok_X4_remember  _  E)
theorem hy_X4_remember : yX4_remember.cls = RX4 ∧ yX4_remember.cls ≠ "java/lang/invoke/MethodHandle" ∧ yX4_remember.cls ≠ "java/lang/invoke/VarHandle" ∧ (parseMethodDescriptor yX4_remember.desc).map (fun d => d.parameters.length) = some 0 := by decide +kernel
abbrev rm_X4_acted : Room := { frames := 0, cells := 0, slots := 0, locals := 0 }
noncomputable def f_X4_acted_L51 : Nat → Int → Int → Mem → Option (Int × Mem)
  | 0, _, _, _ => none
  | n + 1, l1, l2, m =>
    if 149 ≤ l2 then
(mmK (inR ((m.1 51 3) + 1)) (some (l1, (mwr m 51 3 ((m.1 51 3) + 1)))))
else
(mmK (inR (149 * (m.1 51 3))) (mmK (inR ((149 * (m.1 51 3)) + l2)) (mmK (0 ≤ l2 ∧ l2 < 149) (mmK (0 ≤ ((149 * (m.1 51 3)) + l2) ∧ ((149 * (m.1 51 3)) + l2) < 596) (mmK (inR (l2 + 1)) (f_X4_acted_L51 n l1 (l2 + 1) (mwr m 54 (((149 * (m.1 51 3)) + l2)).toNat (m.1 53 (l2).toNat))))))))
set_option maxRecDepth 100000 in
set_option maxHeartbeats 4000000 in
theorem ok_X4_acted_L51 {r : Int × Mem} : ∀ (n : Nat), ∀ (l1 : Int) (l2 : Int) (m : Mem), inR l1 → inR l2 → f_X4_acted_L51 n l1 l2 m = some r → VV RX4 cX4_acted 3 rm_X4_acted mmG0 (mmPi r) 51 [(0, .ref 51), (1, vi l1), (2, vi l2)] [] m := by
  intro n
  induction n with
  | zero =>
    intro l1 l2 m hr1 hr2 E
    cases E
  | succ n ih =>
    intro l1 l2 m hr1 hr2 E
    rw [f_X4_acted_L51] at E
    refine V_iload_n 2 dX4_acted_51 rfl ?_
    refine V_sipush (v := 149) dX4_acted_52 (by decide) ?_
    refine V_icmp_ge 85 dX4_acted_55 (by decide) hr2 ir_149 (fun c3 => ?_) (fun c3 => ?_)
    · replace E := mmI_t c3 E
      refine V_aload_n 0 dX4_acted_85 rfl ?_
      refine V_dupa dX4_acted_86 ?_
      refine V_geti (ci := 4) (k := 3) (N := 12) (T := TX4) (v := (m.1 51 3)) dX4_acted_87 iuX4 fl_X4_28 rfl (by decide) rfl sh_51 rfl (fun hv4 => ?_)
      refine V_iconst dX4_acted_90 rfl ?_
      obtain ⟨hv5, E⟩ := mmK_e E
      refine V_iadd dX4_acted_91 ?_
      refine V_put (ci := 4) (k := 3) (N := 12) (T := TX4) (x := ((m.1 51 3) + 1)) (ty := .int) tyX4 dX4_acted_92 iuX4 tyX4_ok nmX4 fl_X4_28 rfl (by decide) rfl sh_51 rfl (by decide +kernel) rfl rfl hv5 ?_
      refine V_iload_n 1 dX4_acted_95 rfl ?_
      obtain rfl := Option.some.inj E
      exact V_reti dX4_acted_96 ⟨rfl, rfl, hr1⟩
    · replace E := mmI_f c3 E
      refine V_aload_n 0 dX4_acted_58 rfl ?_
      refine V_geta (ci := 4) (k := 2) (N := 12) (T := TX4) (o' := 54) dX4_acted_59 iuX4 fl_X4_16 rfl (by decide) rfl sh_51 rfl ?_
      refine V_sipush (v := 149) dX4_acted_62 (by decide) ?_
      refine V_aload_n 0 dX4_acted_65 rfl ?_
      refine V_geti (ci := 4) (k := 3) (N := 12) (T := TX4) (v := (m.1 51 3)) dX4_acted_66 iuX4 fl_X4_28 rfl (by decide) rfl sh_51 rfl (fun hv6 => ?_)
      obtain ⟨hv7, E⟩ := mmK_e E
      refine V_imul dX4_acted_69 ?_
      refine V_iload_n 2 dX4_acted_70 rfl ?_
      obtain ⟨hv8, E⟩ := mmK_e E
      refine V_iadd dX4_acted_71 ?_
      refine V_aload_n 0 dX4_acted_72 rfl ?_
      refine V_geta (ci := 4) (k := 1) (N := 12) (T := TX4) (o' := 53) dX4_acted_73 iuX4 fl_X4_13 rfl (by decide) rfl sh_51 rfl ?_
      refine V_iload_n 2 dX4_acted_76 rfl ?_
      obtain ⟨hv9, E⟩ := mmK_e E
      refine V_iald (n := 149) (j := (l2).toNat) (v := (m.1 53 (l2).toNat)) dX4_acted_77 sh_53 hr2 hv9 rfl rfl (fun hv10 => ?_)
      obtain ⟨hv11, E⟩ := mmK_e E
      refine V_iast (n := 596) (j := (((149 * (m.1 51 3)) + l2)).toNat) dX4_acted_78 sh_54 hv8 hv10 hv11 rfl ?_
      obtain ⟨hv12, E⟩ := mmK_e E
      refine V_iinc (v := (l2 + 1)) (lv' := [(0, .ref 51), (1, vi l1), (2, vi (l2 + 1))]) 2 dX4_acted_79 rfl rfl rfl rfl ?_
      refine V_goto 51 dX4_acted_82 (by decide) ?_
      exact ih _ _ _ hr1 hv12 E
noncomputable def f_X4_acted_L10 : Nat → Int → Int → Mem → Option (Int × Mem)
  | 0, _, _, _ => none
  | n + 1, l1, l2, m =>
    if 447 ≤ l2 then
(mmK (inR ((m.1 51 3) - 1)) (f_X4_acted_L51 mmFU l1 0 (mwr m 51 3 ((m.1 51 3) - 1))))
else
(mmK (inR (l2 + 149)) (mmK (0 ≤ (l2 + 149) ∧ (l2 + 149) < 596) (mmK (0 ≤ l2 ∧ l2 < 596) (mmK (inR (l2 + 1)) (f_X4_acted_L10 n l1 (l2 + 1) (mwr m 54 (l2).toNat (m.1 54 ((l2 + 149)).toNat)))))))
set_option maxRecDepth 100000 in
set_option maxHeartbeats 4000000 in
theorem ok_X4_acted_L10 {r : Int × Mem} : ∀ (n : Nat), ∀ (l1 : Int) (l2 : Int) (m : Mem), inR l1 → inR l2 → f_X4_acted_L10 n l1 l2 m = some r → VV RX4 cX4_acted 3 rm_X4_acted mmG0 (mmPi r) 10 [(0, .ref 51), (1, vi l1), (2, vi l2)] [] m := by
  intro n
  induction n with
  | zero =>
    intro l1 l2 m hr1 hr2 E
    cases E
  | succ n ih =>
    intro l1 l2 m hr1 hr2 E
    rw [f_X4_acted_L10] at E
    refine V_iload_n 2 dX4_acted_10 rfl ?_
    refine V_sipush (v := 447) dX4_acted_11 (by decide) ?_
    refine V_icmp_ge 39 dX4_acted_14 (by decide) hr2 ir_447 (fun c13 => ?_) (fun c13 => ?_)
    · replace E := mmI_t c13 E
      refine V_aload_n 0 dX4_acted_39 rfl ?_
      refine V_dupa dX4_acted_40 ?_
      refine V_geti (ci := 4) (k := 3) (N := 12) (T := TX4) (v := (m.1 51 3)) dX4_acted_41 iuX4 fl_X4_28 rfl (by decide) rfl sh_51 rfl (fun hv14 => ?_)
      refine V_iconst dX4_acted_44 rfl ?_
      obtain ⟨hv15, E⟩ := mmK_e E
      refine V_isub dX4_acted_45 ?_
      refine V_put (ci := 4) (k := 3) (N := 12) (T := TX4) (x := ((m.1 51 3) - 1)) (ty := .int) tyX4 dX4_acted_46 iuX4 tyX4_ok nmX4 fl_X4_28 rfl (by decide) rfl sh_51 rfl (by decide +kernel) rfl rfl hv15 ?_
      refine V_iconst dX4_acted_49 rfl ?_
      refine V_istore_n (i := 2) (lv' := [(0, .ref 51), (1, vi l1), (2, vi 0)]) dX4_acted_50 rfl rfl rfl ?_
      exact ok_X4_acted_L51 mmFU _ _ _ hr1 ir_0 E
    · replace E := mmI_f c13 E
      refine V_aload_n 0 dX4_acted_17 rfl ?_
      refine V_geta (ci := 4) (k := 2) (N := 12) (T := TX4) (o' := 54) dX4_acted_18 iuX4 fl_X4_16 rfl (by decide) rfl sh_51 rfl ?_
      refine V_iload_n 2 dX4_acted_21 rfl ?_
      refine V_aload_n 0 dX4_acted_22 rfl ?_
      refine V_geta (ci := 4) (k := 2) (N := 12) (T := TX4) (o' := 54) dX4_acted_23 iuX4 fl_X4_16 rfl (by decide) rfl sh_51 rfl ?_
      refine V_iload_n 2 dX4_acted_26 rfl ?_
      refine V_sipush (v := 149) dX4_acted_27 (by decide) ?_
      obtain ⟨hv16, E⟩ := mmK_e E
      refine V_iadd dX4_acted_30 ?_
      obtain ⟨hv17, E⟩ := mmK_e E
      refine V_iald (n := 596) (j := ((l2 + 149)).toNat) (v := (m.1 54 ((l2 + 149)).toNat)) dX4_acted_31 sh_54 hv16 hv17 rfl rfl (fun hv18 => ?_)
      obtain ⟨hv19, E⟩ := mmK_e E
      refine V_iast (n := 596) (j := (l2).toNat) dX4_acted_32 sh_54 hr2 hv18 hv19 rfl ?_
      obtain ⟨hv20, E⟩ := mmK_e E
      refine V_iinc (v := (l2 + 1)) (lv' := [(0, .ref 51), (1, vi l1), (2, vi (l2 + 1))]) 2 dX4_acted_33 rfl rfl rfl rfl ?_
      refine V_goto 10 dX4_acted_36 (by decide) ?_
      exact ih _ _ _ hr1 hv20 E
noncomputable def f_X4_acted (l1 : Int) (m : Mem) : Option (Int × Mem) :=
  if (m.1 51 3) = 4 then
(f_X4_acted_L10 mmFU l1 0 m)
else
(f_X4_acted_L51 mmFU l1 0 m)
set_option maxRecDepth 100000 in
set_option maxHeartbeats 4000000 in
theorem ok_X4_acted {r : Int × Mem} : ∀ (l1 : Int) (m : Mem), inR l1 → f_X4_acted l1 m = some r → VV RX4 cX4_acted 3 rm_X4_acted mmG0 (mmPi r) 0 [(0, .ref 51), (1, vi l1)] [] m := by
  intro l1 m hr1 E
  unfold f_X4_acted at E
  refine V_aload_n 0 dX4_acted_0 rfl ?_
  refine V_geti (ci := 4) (k := 3) (N := 12) (T := TX4) (v := (m.1 51 3)) dX4_acted_1 iuX4 fl_X4_28 rfl (by decide) rfl sh_51 rfl (fun hv1 => ?_)
  refine V_iconst dX4_acted_4 rfl ?_
  refine V_icmp_ne 49 dX4_acted_5 (by decide) hv1 ir_4 (fun c2 => ?_) (fun c2 => ?_)
  · replace E := mmI_f c2 E
    refine V_iconst dX4_acted_49 rfl ?_
    refine V_istore_n (i := 2) (lv' := [(0, .ref 51), (1, vi l1), (2, vi 0)]) dX4_acted_50 rfl rfl rfl ?_
    exact ok_X4_acted_L51 mmFU _ _ _ hr1 ir_0 E
  · replace E := mmI_t c2 E
    refine V_iconst dX4_acted_8 rfl ?_
    refine V_istore_n (i := 2) (lv' := [(0, .ref 51), (1, vi l1), (2, vi 0)]) dX4_acted_9 rfl rfl rfl ?_
    exact ok_X4_acted_L10 mmFU _ _ _ hr1 ir_0 E
theorem ct_X4_acted {l1 : Int} {m : Mem} {r : Int × Mem} (hr1 : inR l1) (E : f_X4_acted l1 m = some r) : CTi yX4_acted cX4_acted 3 (some .int) rm_X4_acted [.ref 51, vi l1] m r := CT_i (by decide +kernel) rfl (Nat.le_of_ble_eq_true rfl) (ok_X4_acted _ _ hr1 E)
theorem hy_X4_acted : yX4_acted.cls = RX4 ∧ yX4_acted.cls ≠ "java/lang/invoke/MethodHandle" ∧ yX4_acted.cls ≠ "java/lang/invoke/VarHandle" ∧ (parseMethodDescriptor yX4_acted.desc).map (fun d => d.parameters.length) = some 1 := by decide +kernel
abbrev rm_X4_of : Room := { frames := 0, cells := 0, slots := 0, locals := 0 }
noncomputable def f_X4_of (l1 : Int) (l2 : Int) (m : Mem) : Option (Int × Mem) :=
  mmK (inR (6 * l1)) (mmK (inR (5 + (6 * l1))) (mmK (inR ((5 + (6 * l1)) + l2)) (mmK (0 ≤ ((5 + (6 * l1)) + l2) ∧ ((5 + (6 * l1)) + l2) < 149) (some ((m.1 52 (((5 + (6 * l1)) + l2)).toNat), m)))))
set_option maxRecDepth 100000 in
set_option maxHeartbeats 4000000 in
theorem ok_X4_of {r : Int × Mem} : ∀ (l1 : Int) (l2 : Int) (m : Mem), inR l1 → inR l2 → f_X4_of l1 l2 m = some r → VV RX4 cX4_of 3 rm_X4_of mmG0 (mmPi r) 0 [(0, .ref 51), (1, vi l1), (2, vi l2)] [] m := by
  intro l1 l2 m hr1 hr2 E
  unfold f_X4_of at E
  refine V_aload_n 0 dX4_of_0 rfl ?_
  refine V_geta (ci := 4) (k := 0) (N := 12) (T := TX4) (o' := 52) dX4_of_1 iuX4 fl_X4_7 rfl (by decide) rfl sh_51 rfl ?_
  refine V_iconst dX4_of_4 rfl ?_
  refine V_bipush (v := 6) dX4_of_5 (by decide) ?_
  refine V_iload_n 1 dX4_of_7 rfl ?_
  obtain ⟨hv1, E⟩ := mmK_e E
  refine V_imul dX4_of_8 ?_
  obtain ⟨hv2, E⟩ := mmK_e E
  refine V_iadd dX4_of_9 ?_
  refine V_iload_n 2 dX4_of_10 rfl ?_
  obtain ⟨hv3, E⟩ := mmK_e E
  refine V_iadd dX4_of_11 ?_
  obtain ⟨hv4, E⟩ := mmK_e E
  refine V_iald (n := 149) (j := (((5 + (6 * l1)) + l2)).toNat) (v := (m.1 52 (((5 + (6 * l1)) + l2)).toNat)) dX4_of_12 sh_52 hv3 hv4 rfl rfl (fun hv5 => ?_)
  obtain rfl := Option.some.inj E
  exact V_reti dX4_of_13 ⟨rfl, rfl, hv5⟩
theorem ct_X4_of {l1 : Int} {l2 : Int} {m : Mem} {r : Int × Mem} (hr1 : inR l1) (hr2 : inR l2) (E : f_X4_of l1 l2 m = some r) : CTi yX4_of cX4_of 3 (some .int) rm_X4_of [.ref 51, vi l1, vi l2] m r := CT_i (by decide +kernel) rfl (Nat.le_of_ble_eq_true rfl) (ok_X4_of _ _ _ hr1 hr2 E)
theorem hy_X4_of : yX4_of.cls = RX4 ∧ yX4_of.cls ≠ "java/lang/invoke/MethodHandle" ∧ yX4_of.cls ≠ "java/lang/invoke/VarHandle" ∧ (parseMethodDescriptor yX4_of.desc).map (fun d => d.parameters.length) = some 2 := by decide +kernel
abbrev rm_X4_sets : Room := { frames := 0, cells := 0, slots := 0, locals := 0 }
noncomputable def f_X4_sets (l1 : Int) (l2 : Int) (l3 : Int) (m : Mem) : Option (Mem) :=
  mmK (inR (6 * l1)) (mmK (inR (5 + (6 * l1))) (mmK (inR ((5 + (6 * l1)) + l2)) (mmK (0 ≤ ((5 + (6 * l1)) + l2) ∧ ((5 + (6 * l1)) + l2) < 149) (some (mwr m 52 (((5 + (6 * l1)) + l2)).toNat l3)))))
set_option maxRecDepth 100000 in
set_option maxHeartbeats 4000000 in
theorem ok_X4_sets {r : Mem} : ∀ (l1 : Int) (l2 : Int) (l3 : Int) (m : Mem), inR l1 → inR l2 → inR l3 → f_X4_sets l1 l2 l3 m = some r → VV RX4 cX4_sets 4 rm_X4_sets mmG0 (mmPv r) 0 [(0, .ref 51), (1, vi l1), (2, vi l2), (3, vi l3)] [] m := by
  intro l1 l2 l3 m hr1 hr2 hr3 E
  unfold f_X4_sets at E
  refine V_aload_n 0 dX4_sets_0 rfl ?_
  refine V_geta (ci := 4) (k := 0) (N := 12) (T := TX4) (o' := 52) dX4_sets_1 iuX4 fl_X4_7 rfl (by decide) rfl sh_51 rfl ?_
  refine V_iconst dX4_sets_4 rfl ?_
  refine V_bipush (v := 6) dX4_sets_5 (by decide) ?_
  refine V_iload_n 1 dX4_sets_7 rfl ?_
  obtain ⟨hv1, E⟩ := mmK_e E
  refine V_imul dX4_sets_8 ?_
  obtain ⟨hv2, E⟩ := mmK_e E
  refine V_iadd dX4_sets_9 ?_
  refine V_iload_n 2 dX4_sets_10 rfl ?_
  obtain ⟨hv3, E⟩ := mmK_e E
  refine V_iadd dX4_sets_11 ?_
  refine V_iload_n 3 dX4_sets_12 rfl ?_
  obtain ⟨hv4, E⟩ := mmK_e E
  refine V_iast (n := 149) (j := (((5 + (6 * l1)) + l2)).toNat) dX4_sets_13 sh_52 hv3 hr3 hv4 rfl ?_
  obtain rfl := Option.some.inj E
  exact V_retv dX4_sets_14 ⟨rfl, rfl⟩
theorem ct_X4_sets {l1 : Int} {l2 : Int} {l3 : Int} {m : Mem} {r : Mem} (hr1 : inR l1) (hr2 : inR l2) (hr3 : inR l3) (E : f_X4_sets l1 l2 l3 m = some r) : CTv yX4_sets cX4_sets 4 rm_X4_sets [.ref 51, vi l1, vi l2, vi l3] m r := CT_v (by decide +kernel) rfl (Nat.le_of_ble_eq_true rfl) (ok_X4_sets _ _ _ _ hr1 hr2 hr3 E)
theorem hy_X4_sets : yX4_sets.cls = RX4 ∧ yX4_sets.cls ≠ "java/lang/invoke/MethodHandle" ∧ yX4_sets.cls ≠ "java/lang/invoke/VarHandle" ∧ (parseMethodDescriptor yX4_sets.desc).map (fun d => d.parameters.length) = some 3 := by decide +kernel
abbrev rm_X4_isName : Room := { frames := 1, cells := 0, slots := 0, locals := 25 }
noncomputable def f_X4_isName (l0 : Int) (m : Mem) : Option (Int × Mem) :=
  (f_X4_in l0 0 675 m).bind (fun q1 => mmK (q1.1 = 0 ∨ q1.1 = 1) (some (q1.1, q1.2)))
set_option maxRecDepth 100000 in
set_option maxHeartbeats 4000000 in
theorem ok_X4_isName {r : Int × Mem} : ∀ (l0 : Int) (m : Mem), inR l0 → f_X4_isName l0 m = some r → VV RX4 cX4_isName 1 rm_X4_isName mmG0 (mmPz r) 0 [(0, vi l0)] [] m := by
  intro l0 m hr0 E
  unfold f_X4_isName at E
  refine V_iload_n 0 dX4_isName_0 rfl ?_
  refine V_i2l dX4_isName_1 hr0 ?_
  refine V_lconst (v := 0) dX4_isName_2 (by decide) ?_
  refine V_ldc2 (v := 675) dX4_isName_3 kl_X4_32 (by decide) ?_
  obtain ⟨q1, hq1, E⟩ := mmB_e E
  refine V_callS (st := []) 3 dX4_isName_6 (ct_X4_in (inRL hr0) (by decide) (by decide) hq1) ml_X4_34 st_X4_in it_X4 cd_X4_in hz_X4_in ⟨rfl, rfl, by decide, by decide⟩ rfl rfl (Nat.le_of_ble_eq_true rfl) (fun hv2 => ?_)
  obtain ⟨hz3, E⟩ := mmK_e E
  obtain rfl := Option.some.inj E
  exact V_reti dX4_isName_9 ⟨rfl, rfl, hz3⟩
theorem ct_X4_isName {l0 : Int} {m : Mem} {r : Int × Mem} (hr0 : inR l0) (E : f_X4_isName l0 m = some r) : CTi yX4_isName cX4_isName 1 (some .boolean) rm_X4_isName [vi l0] m r := CT_z (by decide +kernel) rfl (Nat.le_of_ble_eq_true rfl) (ok_X4_isName _ _ hr0 E)
theorem hz_X4_isName : yX4_isName.cls ≠ "java/lang/invoke/MethodHandle" ∧ yX4_isName.cls ≠ "java/lang/invoke/VarHandle" ∧ (parseMethodDescriptor yX4_isName.desc).map (fun d => d.parameters.length) = some 1 := by decide +kernel
abbrev rm_X4_rankOf : Room := { frames := 1, cells := 0, slots := 0, locals := 22 }
noncomputable def f_X4_rankOf_L2 : Nat → Int → Int → Mem → Option (Int × Mem)
  | 0, _, _, _ => none
  | n + 1, l1, l2, m =>
    if (m.1 52 0) ≤ l2 then
(some ((-5), m))
else
((f_X4_of l2 0 m).bind (fun q4 => if q4.1 = l1 then
(some (l2, q4.2))
else
(mmK (inR (l2 + 1)) (f_X4_rankOf_L2 n l1 (l2 + 1) q4.2))))
set_option maxRecDepth 100000 in
set_option maxHeartbeats 4000000 in
theorem ok_X4_rankOf_L2 {r : Int × Mem} : ∀ (n : Nat), ∀ (l1 : Int) (l2 : Int) (m : Mem), inR l1 → inR l2 → f_X4_rankOf_L2 n l1 l2 m = some r → VV RX4 cX4_rankOf 3 rm_X4_rankOf mmG0 (mmPi r) 2 [(0, .ref 51), (1, vi l1), (2, vi l2)] [] m := by
  intro n
  induction n with
  | zero =>
    intro l1 l2 m hr1 hr2 E
    cases E
  | succ n ih =>
    intro l1 l2 m hr1 hr2 E
    rw [f_X4_rankOf_L2] at E
    refine V_iload_n 2 dX4_rankOf_2 rfl ?_
    refine V_aload_n 0 dX4_rankOf_3 rfl ?_
    refine V_geta (ci := 4) (k := 0) (N := 12) (T := TX4) (o' := 52) dX4_rankOf_4 iuX4 fl_X4_7 rfl (by decide) rfl sh_51 rfl ?_
    refine V_iconst dX4_rankOf_7 rfl ?_
    refine V_iald (n := 149) (j := 0) (v := (m.1 52 0)) dX4_rankOf_8 sh_52 ir_0 (by decide) rfl rfl (fun hv2 => ?_)
    refine V_icmp_ge 30 dX4_rankOf_9 (by decide) hr2 hv2 (fun c3 => ?_) (fun c3 => ?_)
    · replace E := mmI_t c3 E
      refine V_bipush (v := (-5)) dX4_rankOf_30 (by decide) ?_
      obtain rfl := Option.some.inj E
      exact V_reti dX4_rankOf_32 ⟨rfl, rfl, ir_m5⟩
    · replace E := mmI_f c3 E
      refine V_aload_n 0 dX4_rankOf_12 rfl ?_
      refine V_iload_n 2 dX4_rankOf_13 rfl ?_
      refine V_iconst dX4_rankOf_14 rfl ?_
      obtain ⟨q4, hq4, E⟩ := mmB_e E
      refine V_callV (ci := 4) (q := (RX4, TX4, 12)) (Cn := RX4) (st := []) 2 dX4_rankOf_15 (ct_X4_of hr2 ir_0 hq4) ml_X4_38 im_X4_of sl_X4_of it_X4 cd_X4_of hy_X4_of ⟨rfl, rfl, by decide, by decide⟩ sh_51 rfl rfl rfl rfl (Nat.le_of_ble_eq_true rfl) (fun hv5 => ?_)
      refine V_iload_n 1 dX4_rankOf_18 rfl ?_
      refine V_icmp_ne 24 dX4_rankOf_19 (by decide) hv5 hr1 (fun c6 => ?_) (fun c6 => ?_)
      · replace E := mmI_f c6 E
        obtain ⟨hv7, E⟩ := mmK_e E
        refine V_iinc (v := (l2 + 1)) (lv' := [(0, .ref 51), (1, vi l1), (2, vi (l2 + 1))]) 2 dX4_rankOf_24 rfl rfl rfl rfl ?_
        refine V_goto 2 dX4_rankOf_27 (by decide) ?_
        exact ih _ _ _ hr1 hv7 E
      · replace E := mmI_t c6 E
        refine V_iload_n 2 dX4_rankOf_22 rfl ?_
        obtain rfl := Option.some.inj E
        exact V_reti dX4_rankOf_23 ⟨rfl, rfl, hr2⟩
noncomputable def f_X4_rankOf (l1 : Int) (m : Mem) : Option (Int × Mem) :=
  f_X4_rankOf_L2 mmFU l1 0 m
set_option maxRecDepth 100000 in
set_option maxHeartbeats 4000000 in
theorem ok_X4_rankOf {r : Int × Mem} : ∀ (l1 : Int) (m : Mem), inR l1 → f_X4_rankOf l1 m = some r → VV RX4 cX4_rankOf 3 rm_X4_rankOf mmG0 (mmPi r) 0 [(0, .ref 51), (1, vi l1)] [] m := by
  intro l1 m hr1 E
  unfold f_X4_rankOf at E
  refine V_iconst dX4_rankOf_0 rfl ?_
  refine V_istore_n (i := 2) (lv' := [(0, .ref 51), (1, vi l1), (2, vi 0)]) dX4_rankOf_1 rfl rfl rfl ?_
  exact ok_X4_rankOf_L2 mmFU _ _ _ hr1 ir_0 E
theorem ct_X4_rankOf {l1 : Int} {m : Mem} {r : Int × Mem} (hr1 : inR l1) (E : f_X4_rankOf l1 m = some r) : CTi yX4_rankOf cX4_rankOf 3 (some .int) rm_X4_rankOf [.ref 51, vi l1] m r := CT_i (by decide +kernel) rfl (Nat.le_of_ble_eq_true rfl) (ok_X4_rankOf _ _ hr1 E)
theorem hy_X4_rankOf : yX4_rankOf.cls = RX4 ∧ yX4_rankOf.cls ≠ "java/lang/invoke/MethodHandle" ∧ yX4_rankOf.cls ≠ "java/lang/invoke/VarHandle" ∧ (parseMethodDescriptor yX4_rankOf.desc).map (fun d => d.parameters.length) = some 1 := by decide +kernel
