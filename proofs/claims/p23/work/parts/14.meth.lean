abbrev rm_X2_tellFit : Room := { frames := 3, cells := 0, slots := 0, locals := 65 }
noncomputable def f_X2_tellFit (l0 : Nat) (l1 : Int) (m : Mem) : Option (Int × Mem) :=
  (f_X2_isLength l1 m).bind (fun q1 => if q1.1 = 0 then
(some ((-2), q1.2))
else
((f_X2_hasRoom l0 l1 q1.2).bind (fun q4 => if q4.1 = 0 then
((f_X2_livingUnits l0 q4.2).bind (fun q7 => mmK (inR (q7.1 + l1)) (if 100 < (q7.1 + l1) then
(some (2, q7.2))
else
(some (1, q7.2)))))
else
(some (0, q4.2)))))
set_option maxRecDepth 100000 in
set_option maxHeartbeats 4000000 in
theorem ok_X2_tellFit {r : Int × Mem} : ∀ (l0 : Nat) (l1 : Int) (m : Mem), mmSh[l0]? = some (.inl 2) → inR l1 → f_X2_tellFit l0 l1 m = some r → VV RX2 cX2_tellFit 2 rm_X2_tellFit mmG0 (mmPi r) 0 [(0, .ref l0), (1, vi l1)] [] m := by
  intro l0 l1 m hs0 hr1 E
  unfold f_X2_tellFit at E
  refine V_iload_n 1 dX2_tellFit_0 rfl ?_
  obtain ⟨q1, hq1, E⟩ := mmB_e E
  refine V_callS (st := []) 1 dX2_tellFit_1 (ct_X2_isLength hr1 hq1) ml_X2_53 st_X2_isLength it_X2 cd_X2_isLength hz_X2_isLength ⟨rfl, rfl, by decide, by decide⟩ rfl rfl (Nat.le_of_ble_eq_true rfl) (fun hv2 => ?_)
  refine V_if_ne 10 dX2_tellFit_4 (by decide) hv2 (fun c3 => ?_) (fun c3 => ?_)
  · replace E := mmI_f c3 E
    refine V_aload_n 0 dX2_tellFit_10 rfl ?_
    refine V_iload_n 1 dX2_tellFit_11 rfl ?_
    obtain ⟨q4, hq4, E⟩ := mmB_e E
    refine V_callV (ci := 2) (q := (RX2, TX2, 10)) (Cn := RX2) (st := []) 1 dX2_tellFit_12 (ct_X2_hasRoom hs0 hr1 hq4) ml_X2_70 im_X2_hasRoom sl_X2_hasRoom it_X2 cd_X2_hasRoom hy_X2_hasRoom ⟨rfl, rfl, by decide, by decide⟩ hs0 rfl rfl rfl rfl (Nat.le_of_ble_eq_true rfl) (fun hv5 => ?_)
    refine V_if_eq 20 dX2_tellFit_15 (by decide) hv5 (fun c6 => ?_) (fun c6 => ?_)
    · replace E := mmI_t c6 E
      refine V_aload_n 0 dX2_tellFit_20 rfl ?_
      obtain ⟨q7, hq7, E⟩ := mmB_e E
      refine V_callV (ci := 2) (q := (RX2, TX2, 10)) (Cn := RX2) (st := []) 0 dX2_tellFit_21 (ct_X2_livingUnits hs0 hq7) ml_X2_120 im_X2_livingUnits sl_X2_livingUnits it_X2 cd_X2_livingUnits hy_X2_livingUnits ⟨rfl, rfl, by decide, by decide⟩ hs0 rfl rfl rfl rfl (Nat.le_of_ble_eq_true rfl) (fun hv8 => ?_)
      refine V_iload_n 1 dX2_tellFit_24 rfl ?_
      obtain ⟨hv9, E⟩ := mmK_e E
      refine V_iadd dX2_tellFit_25 ?_
      refine V_bipush (v := 100) dX2_tellFit_26 (by decide) ?_
      refine V_icmp_gt 35 dX2_tellFit_28 (by decide) hv9 ir_100 (fun c10 => ?_) (fun c10 => ?_)
      · replace E := mmI_t c10 E
        refine V_iconst dX2_tellFit_35 rfl ?_
        obtain rfl := Option.some.inj E
        exact V_reti dX2_tellFit_36 ⟨rfl, rfl, ir_2⟩
      · replace E := mmI_f c10 E
        refine V_iconst dX2_tellFit_31 rfl ?_
        refine V_goto 36 dX2_tellFit_32 (by decide) ?_
        obtain rfl := Option.some.inj E
        exact V_reti dX2_tellFit_36 ⟨rfl, rfl, ir_1⟩
    · replace E := mmI_f c6 E
      refine V_iconst dX2_tellFit_18 rfl ?_
      obtain rfl := Option.some.inj E
      exact V_reti dX2_tellFit_19 ⟨rfl, rfl, ir_0⟩
  · replace E := mmI_t c3 E
    refine V_bipush (v := (-2)) dX2_tellFit_7 (by decide) ?_
    obtain rfl := Option.some.inj E
    exact V_reti dX2_tellFit_9 ⟨rfl, rfl, ir_m2⟩
theorem ct_X2_tellFit {l0 : Nat} {l1 : Int} {m : Mem} {r : Int × Mem} (hs0 : mmSh[l0]? = some (.inl 2)) (hr1 : inR l1) (E : f_X2_tellFit l0 l1 m = some r) : CTi yX2_tellFit cX2_tellFit 2 (some .int) rm_X2_tellFit [.ref l0, vi l1] m r := CT_i (by decide +kernel) rfl (Nat.le_of_ble_eq_true rfl) (ok_X2_tellFit _ _ _ hs0 hr1 E)
theorem hy_X2_tellFit : yX2_tellFit.cls = RX2 ∧ yX2_tellFit.cls ≠ "java/lang/invoke/MethodHandle" ∧ yX2_tellFit.cls ≠ "java/lang/invoke/VarHandle" ∧ (parseMethodDescriptor yX2_tellFit.desc).map (fun d => d.parameters.length) = some 1 := by decide +kernel
abbrev rm_X2_tellBeginning : Room := { frames := 2, cells := 0, slots := 0, locals := 42 }
noncomputable def f_X2_tellBeginning (l0 : Nat) (l1 : Int) (l2 : Int) (m : Mem) : Option (Int × Mem) :=
  if l1 < 0 then
(some ((-2), m))
else
(if 26 ≤ l1 then
(some ((-2), m))
else
(if 0 ≤ l2 then
(mmK (inR (l1 * 26)) ((f_X2_namesBelow l0 (l1 * 26) m).bind (fun q5 => mmK (inR (l1 + 1)) (mmK (inR ((l1 + 1) * 26)) ((f_X2_namesBelow l0 ((l1 + 1) * 26) q5.2).bind (fun q9 => mmK (inR (q9.1 - q5.1)) (if (q9.1 - q5.1) ≤ l2 then
(some ((-5), q9.2))
else
(mmK (inR (q5.1 + l2)) ((f_X2_tellName l0 (q5.1 + l2) q9.2).bind (fun q14 => some (q14.1, q14.2)))))))))))
else
(some ((-2), m))))
set_option maxRecDepth 100000 in
set_option maxHeartbeats 4000000 in
theorem ok_X2_tellBeginning {r : Int × Mem} : ∀ (l0 : Nat) (l1 : Int) (l2 : Int) (m : Mem), mmSh[l0]? = some (.inl 2) → inR l1 → inR l2 → f_X2_tellBeginning l0 l1 l2 m = some r → VV RX2 cX2_tellBeginning 5 rm_X2_tellBeginning mmG0 (mmPi r) 0 [(0, .ref l0), (1, vi l1), (2, vi l2)] [] m := by
  intro l0 l1 l2 m hs0 hr1 hr2 E
  unfold f_X2_tellBeginning at E
  refine V_iload_n 1 dX2_tellBeginning_0 rfl ?_
  refine V_if_lt 14 dX2_tellBeginning_1 (by decide) hr1 (fun c1 => ?_) (fun c1 => ?_)
  · replace E := mmI_t c1 E
    refine V_bipush (v := (-2)) dX2_tellBeginning_14 (by decide) ?_
    obtain rfl := Option.some.inj E
    exact V_reti dX2_tellBeginning_16 ⟨rfl, rfl, ir_m2⟩
  · replace E := mmI_f c1 E
    refine V_iload_n 1 dX2_tellBeginning_4 rfl ?_
    refine V_bipush (v := 26) dX2_tellBeginning_5 (by decide) ?_
    refine V_icmp_ge 14 dX2_tellBeginning_7 (by decide) hr1 ir_26 (fun c2 => ?_) (fun c2 => ?_)
    · replace E := mmI_t c2 E
      refine V_bipush (v := (-2)) dX2_tellBeginning_14 (by decide) ?_
      obtain rfl := Option.some.inj E
      exact V_reti dX2_tellBeginning_16 ⟨rfl, rfl, ir_m2⟩
    · replace E := mmI_f c2 E
      refine V_iload_n 2 dX2_tellBeginning_10 rfl ?_
      refine V_if_ge 17 dX2_tellBeginning_11 (by decide) hr2 (fun c3 => ?_) (fun c3 => ?_)
      · replace E := mmI_t c3 E
        refine V_aload_n 0 dX2_tellBeginning_17 rfl ?_
        refine V_iload_n 1 dX2_tellBeginning_18 rfl ?_
        refine V_bipush (v := 26) dX2_tellBeginning_19 (by decide) ?_
        obtain ⟨hv4, E⟩ := mmK_e E
        refine V_imul dX2_tellBeginning_21 ?_
        obtain ⟨q5, hq5, E⟩ := mmB_e E
        refine V_callV (ci := 2) (q := (RX2, TX2, 10)) (Cn := RX2) (st := []) 1 dX2_tellBeginning_22 (ct_X2_namesBelow hs0 hv4 hq5) ml_X2_123 im_X2_namesBelow sl_X2_namesBelow it_X2 cd_X2_namesBelow hy_X2_namesBelow ⟨rfl, rfl, by decide, by decide⟩ hs0 rfl rfl rfl rfl (Nat.le_of_ble_eq_true rfl) (fun hv6 => ?_)
        refine V_istore_n (i := 3) (lv' := [(0, .ref l0), (1, vi l1), (2, vi l2), (3, vi q5.1)]) dX2_tellBeginning_25 rfl rfl rfl ?_
        refine V_aload_n 0 dX2_tellBeginning_26 rfl ?_
        refine V_iload_n 1 dX2_tellBeginning_27 rfl ?_
        refine V_iconst dX2_tellBeginning_28 rfl ?_
        obtain ⟨hv7, E⟩ := mmK_e E
        refine V_iadd dX2_tellBeginning_29 ?_
        refine V_bipush (v := 26) dX2_tellBeginning_30 (by decide) ?_
        obtain ⟨hv8, E⟩ := mmK_e E
        refine V_imul dX2_tellBeginning_32 ?_
        obtain ⟨q9, hq9, E⟩ := mmB_e E
        refine V_callV (ci := 2) (q := (RX2, TX2, 10)) (Cn := RX2) (st := []) 1 dX2_tellBeginning_33 (ct_X2_namesBelow hs0 hv8 hq9) ml_X2_123 im_X2_namesBelow sl_X2_namesBelow it_X2 cd_X2_namesBelow hy_X2_namesBelow ⟨rfl, rfl, by decide, by decide⟩ hs0 rfl rfl rfl rfl (Nat.le_of_ble_eq_true rfl) (fun hv10 => ?_)
        refine V_iload_n 3 dX2_tellBeginning_36 rfl ?_
        obtain ⟨hv11, E⟩ := mmK_e E
        refine V_isub dX2_tellBeginning_37 ?_
        refine V_istore (lv' := [(0, .ref l0), (1, vi l1), (2, vi l2), (3, vi q5.1), (4, vi (q9.1 - q5.1))]) dX2_tellBeginning_38 rfl rfl ?_
        refine V_iload_n 2 dX2_tellBeginning_40 rfl ?_
        refine V_iload 4 dX2_tellBeginning_41 rfl ?_
        refine V_icmp_ge 56 dX2_tellBeginning_43 (by decide) hr2 hv11 (fun c12 => ?_) (fun c12 => ?_)
        · replace E := mmI_t c12 E
          refine V_bipush (v := (-5)) dX2_tellBeginning_56 (by decide) ?_
          obtain rfl := Option.some.inj E
          exact V_reti dX2_tellBeginning_58 ⟨rfl, rfl, ir_m5⟩
        · replace E := mmI_f c12 E
          refine V_aload_n 0 dX2_tellBeginning_46 rfl ?_
          refine V_iload_n 3 dX2_tellBeginning_47 rfl ?_
          refine V_iload_n 2 dX2_tellBeginning_48 rfl ?_
          obtain ⟨hv13, E⟩ := mmK_e E
          refine V_iadd dX2_tellBeginning_49 ?_
          obtain ⟨q14, hq14, E⟩ := mmB_e E
          refine V_callV (ci := 2) (q := (RX2, TX2, 10)) (Cn := RX2) (st := []) 1 dX2_tellBeginning_50 (ct_X2_tellName hs0 hv13 hq14) ml_X2_117 im_X2_tellName sl_X2_tellName it_X2 cd_X2_tellName hy_X2_tellName ⟨rfl, rfl, by decide, by decide⟩ hs0 rfl rfl rfl rfl (Nat.le_of_ble_eq_true rfl) (fun hv15 => ?_)
          refine V_goto 58 dX2_tellBeginning_53 (by decide) ?_
          obtain rfl := Option.some.inj E
          exact V_reti dX2_tellBeginning_58 ⟨rfl, rfl, hv15⟩
      · replace E := mmI_f c3 E
        refine V_bipush (v := (-2)) dX2_tellBeginning_14 (by decide) ?_
        obtain rfl := Option.some.inj E
        exact V_reti dX2_tellBeginning_16 ⟨rfl, rfl, ir_m2⟩
theorem ct_X2_tellBeginning {l0 : Nat} {l1 : Int} {l2 : Int} {m : Mem} {r : Int × Mem} (hs0 : mmSh[l0]? = some (.inl 2)) (hr1 : inR l1) (hr2 : inR l2) (E : f_X2_tellBeginning l0 l1 l2 m = some r) : CTi yX2_tellBeginning cX2_tellBeginning 5 (some .int) rm_X2_tellBeginning [.ref l0, vi l1, vi l2] m r := CT_i (by decide +kernel) rfl (Nat.le_of_ble_eq_true rfl) (ok_X2_tellBeginning _ _ _ _ hs0 hr1 hr2 E)
theorem hy_X2_tellBeginning : yX2_tellBeginning.cls = RX2 ∧ yX2_tellBeginning.cls ≠ "java/lang/invoke/MethodHandle" ∧ yX2_tellBeginning.cls ≠ "java/lang/invoke/VarHandle" ∧ (parseMethodDescriptor yX2_tellBeginning.desc).map (fun d => d.parameters.length) = some 2 := by decide +kernel
abbrev rm_X2_aliases : Room := { frames := 2, cells := 0, slots := 0, locals := 42 }
noncomputable def f_X2_aliases_L4 : Nat → Nat → Int → Int → Mem → Option (Int × Mem)
  | 0, _, _, _, _ => none
  | n + 1, l0, l1, l2, m =>
    if (m.1 l0 5) ≤ l2 then
(some (l1, m))
else
((f_X2_isMember l0 l2 m).bind (fun q3 => if q3.1 = 0 then
(mmK (inR (l1 + 1)) (mmK (inR (l2 + 1)) (f_X2_aliases_L4 n l0 (l1 + 1) (l2 + 1) q3.2)))
else
(mmK (inR (l2 + 1)) (f_X2_aliases_L4 n l0 l1 (l2 + 1) q3.2))))
set_option maxRecDepth 100000 in
set_option maxHeartbeats 4000000 in
theorem ok_X2_aliases_L4 {r : Int × Mem} : ∀ (n : Nat), ∀ (l0 : Nat) (l1 : Int) (l2 : Int) (m : Mem), mmSh[l0]? = some (.inl 2) → inR l1 → inR l2 → f_X2_aliases_L4 n l0 l1 l2 m = some r → VV RX2 cX2_aliases 3 rm_X2_aliases mmG0 (mmPi r) 4 [(0, .ref l0), (1, vi l1), (2, vi l2)] [] m := by
  intro n
  induction n with
  | zero =>
    intro l0 l1 l2 m hs0 hr1 hr2 E
    cases E
  | succ n ih =>
    intro l0 l1 l2 m hs0 hr1 hr2 E
    rw [f_X2_aliases_L4] at E
    refine V_iload_n 2 dX2_aliases_4 rfl ?_
    refine V_aload_n 0 dX2_aliases_5 rfl ?_
    refine V_geti (ci := 2) (k := 5) (N := 10) (T := TX2) (v := (m.1 l0 5)) dX2_aliases_6 iuX2 fl_X2_27 rfl (by decide) rfl hs0 (by first | rfl | simp [mwr]) (fun hv1 => ?_)
    refine V_icmp_ge 29 dX2_aliases_9 (by decide) hr2 hv1 (fun c2 => ?_) (fun c2 => ?_)
    · replace E := mmI_t c2 E
      refine V_iload_n 1 dX2_aliases_29 rfl ?_
      obtain rfl := Option.some.inj E
      exact V_reti dX2_aliases_30 ⟨rfl, rfl, hr1⟩
    · replace E := mmI_f c2 E
      refine V_aload_n 0 dX2_aliases_12 rfl ?_
      refine V_iload_n 2 dX2_aliases_13 rfl ?_
      obtain ⟨q3, hq3, E⟩ := mmB_e E
      refine V_callV (ci := 2) (q := (RX2, TX2, 10)) (Cn := RX2) (st := []) 1 dX2_aliases_14 (ct_X2_isMember hs0 hr2 hq3) ml_X2_80 im_X2_isMember sl_X2_isMember it_X2 cd_X2_isMember hy_X2_isMember ⟨rfl, rfl, by decide, by decide⟩ hs0 rfl rfl rfl rfl (Nat.le_of_ble_eq_true rfl) (fun hv4 => ?_)
      refine V_if_ne 23 dX2_aliases_17 (by decide) hv4 (fun c5 => ?_) (fun c5 => ?_)
      · replace E := mmI_f c5 E
        obtain ⟨hv6, E⟩ := mmK_e E
        refine V_iinc (v := (l2 + 1)) (lv' := [(0, .ref l0), (1, vi l1), (2, vi (l2 + 1))]) 2 dX2_aliases_23 rfl rfl rfl rfl ?_
        refine V_goto 4 dX2_aliases_26 (by decide) ?_
        exact ih _ _ _ _ hs0 hr1 hv6 E
      · replace E := mmI_t c5 E
        obtain ⟨hv7, E⟩ := mmK_e E
        refine V_iinc (v := (l1 + 1)) (lv' := [(0, .ref l0), (1, vi (l1 + 1)), (2, vi l2)]) 1 dX2_aliases_20 rfl rfl rfl rfl ?_
        obtain ⟨hv8, E⟩ := mmK_e E
        refine V_iinc (v := (l2 + 1)) (lv' := [(0, .ref l0), (1, vi (l1 + 1)), (2, vi (l2 + 1))]) 2 dX2_aliases_23 rfl rfl rfl rfl ?_
        refine V_goto 4 dX2_aliases_26 (by decide) ?_
        exact ih _ _ _ _ hs0 hv7 hv8 E
noncomputable def f_X2_aliases (l0 : Nat) (m : Mem) : Option (Int × Mem) :=
  f_X2_aliases_L4 mmFU l0 0 0 m
set_option maxRecDepth 100000 in
set_option maxHeartbeats 4000000 in
theorem ok_X2_aliases {r : Int × Mem} : ∀ (l0 : Nat) (m : Mem), mmSh[l0]? = some (.inl 2) → f_X2_aliases l0 m = some r → VV RX2 cX2_aliases 3 rm_X2_aliases mmG0 (mmPi r) 0 [(0, .ref l0)] [] m := by
  intro l0 m hs0 E
  unfold f_X2_aliases at E
  refine V_iconst dX2_aliases_0 rfl ?_
  refine V_istore_n (i := 1) (lv' := [(0, .ref l0), (1, vi 0)]) dX2_aliases_1 rfl rfl rfl ?_
  refine V_iconst dX2_aliases_2 rfl ?_
  refine V_istore_n (i := 2) (lv' := [(0, .ref l0), (1, vi 0), (2, vi 0)]) dX2_aliases_3 rfl rfl rfl ?_
  exact ok_X2_aliases_L4 mmFU _ _ _ _ hs0 ir_0 ir_0 E
theorem ct_X2_aliases {l0 : Nat} {m : Mem} {r : Int × Mem} (hs0 : mmSh[l0]? = some (.inl 2)) (E : f_X2_aliases l0 m = some r) : CTi yX2_aliases cX2_aliases 3 (some .int) rm_X2_aliases [.ref l0] m r := CT_i (by decide +kernel) rfl (Nat.le_of_ble_eq_true rfl) (ok_X2_aliases _ _ hs0 E)
theorem hy_X2_aliases : yX2_aliases.cls = RX2 ∧ yX2_aliases.cls ≠ "java/lang/invoke/MethodHandle" ∧ yX2_aliases.cls ≠ "java/lang/invoke/VarHandle" ∧ (parseMethodDescriptor yX2_aliases.desc).map (fun d => d.parameters.length) = some 0 := by decide +kernel
abbrev rm_X2_lostAliases : Room := { frames := 3, cells := 0, slots := 0, locals := 64 }
noncomputable def f_X2_lostAliases_L4 : Nat → Nat → Int → Int → Mem → Option (Int × Mem)
  | 0, _, _, _, _ => none
  | n + 1, l0, l1, l2, m =>
    if (m.1 l0 5) ≤ l2 then
(some (l1, m))
else
((f_X2_isLost l0 l2 m).bind (fun q3 => if q3.1 = 0 then
(mmK (inR (l2 + 1)) (f_X2_lostAliases_L4 n l0 l1 (l2 + 1) q3.2))
else
(mmK (inR (l1 + 1)) (mmK (inR (l2 + 1)) (f_X2_lostAliases_L4 n l0 (l1 + 1) (l2 + 1) q3.2)))))
set_option maxRecDepth 100000 in
set_option maxHeartbeats 4000000 in
theorem ok_X2_lostAliases_L4 {r : Int × Mem} : ∀ (n : Nat), ∀ (l0 : Nat) (l1 : Int) (l2 : Int) (m : Mem), mmSh[l0]? = some (.inl 2) → inR l1 → inR l2 → f_X2_lostAliases_L4 n l0 l1 l2 m = some r → VV RX2 cX2_lostAliases 3 rm_X2_lostAliases mmG0 (mmPi r) 4 [(0, .ref l0), (1, vi l1), (2, vi l2)] [] m := by
  intro n
  induction n with
  | zero =>
    intro l0 l1 l2 m hs0 hr1 hr2 E
    cases E
  | succ n ih =>
    intro l0 l1 l2 m hs0 hr1 hr2 E
    rw [f_X2_lostAliases_L4] at E
    refine V_iload_n 2 dX2_lostAliases_4 rfl ?_
    refine V_aload_n 0 dX2_lostAliases_5 rfl ?_
    refine V_geti (ci := 2) (k := 5) (N := 10) (T := TX2) (v := (m.1 l0 5)) dX2_lostAliases_6 iuX2 fl_X2_27 rfl (by decide) rfl hs0 (by first | rfl | simp [mwr]) (fun hv1 => ?_)
    refine V_icmp_ge 29 dX2_lostAliases_9 (by decide) hr2 hv1 (fun c2 => ?_) (fun c2 => ?_)
    · replace E := mmI_t c2 E
      refine V_iload_n 1 dX2_lostAliases_29 rfl ?_
      obtain rfl := Option.some.inj E
      exact V_reti dX2_lostAliases_30 ⟨rfl, rfl, hr1⟩
    · replace E := mmI_f c2 E
      refine V_aload_n 0 dX2_lostAliases_12 rfl ?_
      refine V_iload_n 2 dX2_lostAliases_13 rfl ?_
      obtain ⟨q3, hq3, E⟩ := mmB_e E
      refine V_callV (ci := 2) (q := (RX2, TX2, 10)) (Cn := RX2) (st := []) 1 dX2_lostAliases_14 (ct_X2_isLost hs0 hr2 hq3) ml_X2_105 im_X2_isLost sl_X2_isLost it_X2 cd_X2_isLost hy_X2_isLost ⟨rfl, rfl, by decide, by decide⟩ hs0 rfl rfl rfl rfl (Nat.le_of_ble_eq_true rfl) (fun hv4 => ?_)
      refine V_if_eq 23 dX2_lostAliases_17 (by decide) hv4 (fun c5 => ?_) (fun c5 => ?_)
      · replace E := mmI_t c5 E
        obtain ⟨hv6, E⟩ := mmK_e E
        refine V_iinc (v := (l2 + 1)) (lv' := [(0, .ref l0), (1, vi l1), (2, vi (l2 + 1))]) 2 dX2_lostAliases_23 rfl rfl rfl rfl ?_
        refine V_goto 4 dX2_lostAliases_26 (by decide) ?_
        exact ih _ _ _ _ hs0 hr1 hv6 E
      · replace E := mmI_f c5 E
        obtain ⟨hv7, E⟩ := mmK_e E
        refine V_iinc (v := (l1 + 1)) (lv' := [(0, .ref l0), (1, vi (l1 + 1)), (2, vi l2)]) 1 dX2_lostAliases_20 rfl rfl rfl rfl ?_
        obtain ⟨hv8, E⟩ := mmK_e E
        refine V_iinc (v := (l2 + 1)) (lv' := [(0, .ref l0), (1, vi (l1 + 1)), (2, vi (l2 + 1))]) 2 dX2_lostAliases_23 rfl rfl rfl rfl ?_
        refine V_goto 4 dX2_lostAliases_26 (by decide) ?_
        exact ih _ _ _ _ hs0 hv7 hv8 E
noncomputable def f_X2_lostAliases (l0 : Nat) (m : Mem) : Option (Int × Mem) :=
  f_X2_lostAliases_L4 mmFU l0 0 0 m
set_option maxRecDepth 100000 in
set_option maxHeartbeats 4000000 in
theorem ok_X2_lostAliases {r : Int × Mem} : ∀ (l0 : Nat) (m : Mem), mmSh[l0]? = some (.inl 2) → f_X2_lostAliases l0 m = some r → VV RX2 cX2_lostAliases 3 rm_X2_lostAliases mmG0 (mmPi r) 0 [(0, .ref l0)] [] m := by
  intro l0 m hs0 E
  unfold f_X2_lostAliases at E
  refine V_iconst dX2_lostAliases_0 rfl ?_
  refine V_istore_n (i := 1) (lv' := [(0, .ref l0), (1, vi 0)]) dX2_lostAliases_1 rfl rfl rfl ?_
  refine V_iconst dX2_lostAliases_2 rfl ?_
  refine V_istore_n (i := 2) (lv' := [(0, .ref l0), (1, vi 0), (2, vi 0)]) dX2_lostAliases_3 rfl rfl rfl ?_
  exact ok_X2_lostAliases_L4 mmFU _ _ _ _ hs0 ir_0 ir_0 E
theorem ct_X2_lostAliases {l0 : Nat} {m : Mem} {r : Int × Mem} (hs0 : mmSh[l0]? = some (.inl 2)) (E : f_X2_lostAliases l0 m = some r) : CTi yX2_lostAliases cX2_lostAliases 3 (some .int) rm_X2_lostAliases [.ref l0] m r := CT_i (by decide +kernel) rfl (Nat.le_of_ble_eq_true rfl) (ok_X2_lostAliases _ _ hs0 E)
theorem hy_X2_lostAliases : yX2_lostAliases.cls = RX2 ∧ yX2_lostAliases.cls ≠ "java/lang/invoke/MethodHandle" ∧ yX2_lostAliases.cls ≠ "java/lang/invoke/VarHandle" ∧ (parseMethodDescriptor yX2_lostAliases.desc).map (fun d => d.parameters.length) = some 0 := by decide +kernel
abbrev rm_X2_livingTexts : Room := { frames := 2, cells := 0, slots := 0, locals := 43 }
noncomputable def f_X2_livingTexts_L4 : Nat → Nat → Int → Int → Mem → Option (Int × Mem)
  | 0, _, _, _, _ => none
  | n + 1, l0, l1, l2, m =>
    if (m.1 l0 5) ≤ l2 then
(some (l1, m))
else
((f_X2_isFirstOfText l0 l2 m).bind (fun q3 => if q3.1 = 0 then
(mmK (inR (l2 + 1)) (f_X2_livingTexts_L4 n l0 l1 (l2 + 1) q3.2))
else
(mmK (inR (l1 + 1)) (mmK (inR (l2 + 1)) (f_X2_livingTexts_L4 n l0 (l1 + 1) (l2 + 1) q3.2)))))
set_option maxRecDepth 100000 in
set_option maxHeartbeats 4000000 in
theorem ok_X2_livingTexts_L4 {r : Int × Mem} : ∀ (n : Nat), ∀ (l0 : Nat) (l1 : Int) (l2 : Int) (m : Mem), mmSh[l0]? = some (.inl 2) → inR l1 → inR l2 → f_X2_livingTexts_L4 n l0 l1 l2 m = some r → VV RX2 cX2_livingTexts 3 rm_X2_livingTexts mmG0 (mmPi r) 4 [(0, .ref l0), (1, vi l1), (2, vi l2)] [] m := by
  intro n
  induction n with
  | zero =>
    intro l0 l1 l2 m hs0 hr1 hr2 E
    cases E
  | succ n ih =>
    intro l0 l1 l2 m hs0 hr1 hr2 E
    rw [f_X2_livingTexts_L4] at E
    refine V_iload_n 2 dX2_livingTexts_4 rfl ?_
    refine V_aload_n 0 dX2_livingTexts_5 rfl ?_
    refine V_geti (ci := 2) (k := 5) (N := 10) (T := TX2) (v := (m.1 l0 5)) dX2_livingTexts_6 iuX2 fl_X2_27 rfl (by decide) rfl hs0 (by first | rfl | simp [mwr]) (fun hv1 => ?_)
    refine V_icmp_ge 29 dX2_livingTexts_9 (by decide) hr2 hv1 (fun c2 => ?_) (fun c2 => ?_)
    · replace E := mmI_t c2 E
      refine V_iload_n 1 dX2_livingTexts_29 rfl ?_
      obtain rfl := Option.some.inj E
      exact V_reti dX2_livingTexts_30 ⟨rfl, rfl, hr1⟩
    · replace E := mmI_f c2 E
      refine V_aload_n 0 dX2_livingTexts_12 rfl ?_
      refine V_iload_n 2 dX2_livingTexts_13 rfl ?_
      obtain ⟨q3, hq3, E⟩ := mmB_e E
      refine V_callV (ci := 2) (q := (RX2, TX2, 10)) (Cn := RX2) (st := []) 1 dX2_livingTexts_14 (ct_X2_isFirstOfText hs0 hr2 hq3) ml_X2_135 im_X2_isFirstOfText sl_X2_isFirstOfText it_X2 cd_X2_isFirstOfText hy_X2_isFirstOfText ⟨rfl, rfl, by decide, by decide⟩ hs0 rfl rfl rfl rfl (Nat.le_of_ble_eq_true rfl) (fun hv4 => ?_)
      refine V_if_eq 23 dX2_livingTexts_17 (by decide) hv4 (fun c5 => ?_) (fun c5 => ?_)
      · replace E := mmI_t c5 E
        obtain ⟨hv6, E⟩ := mmK_e E
        refine V_iinc (v := (l2 + 1)) (lv' := [(0, .ref l0), (1, vi l1), (2, vi (l2 + 1))]) 2 dX2_livingTexts_23 rfl rfl rfl rfl ?_
        refine V_goto 4 dX2_livingTexts_26 (by decide) ?_
        exact ih _ _ _ _ hs0 hr1 hv6 E
      · replace E := mmI_f c5 E
        obtain ⟨hv7, E⟩ := mmK_e E
        refine V_iinc (v := (l1 + 1)) (lv' := [(0, .ref l0), (1, vi (l1 + 1)), (2, vi l2)]) 1 dX2_livingTexts_20 rfl rfl rfl rfl ?_
        obtain ⟨hv8, E⟩ := mmK_e E
        refine V_iinc (v := (l2 + 1)) (lv' := [(0, .ref l0), (1, vi (l1 + 1)), (2, vi (l2 + 1))]) 2 dX2_livingTexts_23 rfl rfl rfl rfl ?_
        refine V_goto 4 dX2_livingTexts_26 (by decide) ?_
        exact ih _ _ _ _ hs0 hv7 hv8 E
noncomputable def f_X2_livingTexts (l0 : Nat) (m : Mem) : Option (Int × Mem) :=
  f_X2_livingTexts_L4 mmFU l0 0 0 m
set_option maxRecDepth 100000 in
set_option maxHeartbeats 4000000 in
theorem ok_X2_livingTexts {r : Int × Mem} : ∀ (l0 : Nat) (m : Mem), mmSh[l0]? = some (.inl 2) → f_X2_livingTexts l0 m = some r → VV RX2 cX2_livingTexts 3 rm_X2_livingTexts mmG0 (mmPi r) 0 [(0, .ref l0)] [] m := by
  intro l0 m hs0 E
  unfold f_X2_livingTexts at E
  refine V_iconst dX2_livingTexts_0 rfl ?_
  refine V_istore_n (i := 1) (lv' := [(0, .ref l0), (1, vi 0)]) dX2_livingTexts_1 rfl rfl rfl ?_
  refine V_iconst dX2_livingTexts_2 rfl ?_
  refine V_istore_n (i := 2) (lv' := [(0, .ref l0), (1, vi 0), (2, vi 0)]) dX2_livingTexts_3 rfl rfl rfl ?_
  exact ok_X2_livingTexts_L4 mmFU _ _ _ _ hs0 ir_0 ir_0 E
theorem ct_X2_livingTexts {l0 : Nat} {m : Mem} {r : Int × Mem} (hs0 : mmSh[l0]? = some (.inl 2)) (E : f_X2_livingTexts l0 m = some r) : CTi yX2_livingTexts cX2_livingTexts 3 (some .int) rm_X2_livingTexts [.ref l0] m r := CT_i (by decide +kernel) rfl (Nat.le_of_ble_eq_true rfl) (ok_X2_livingTexts _ _ hs0 E)
theorem hy_X2_livingTexts : yX2_livingTexts.cls = RX2 ∧ yX2_livingTexts.cls ≠ "java/lang/invoke/MethodHandle" ∧ yX2_livingTexts.cls ≠ "java/lang/invoke/VarHandle" ∧ (parseMethodDescriptor yX2_livingTexts.desc).map (fun d => d.parameters.length) = some 0 := by decide +kernel
abbrev rm_X2_tellCount : Room := { frames := 4, cells := 0, slots := 0, locals := 86 }
noncomputable def f_X2_tellCount (l0 : Nat) (l1 : Int) (m : Mem) : Option (Int × Mem) :=
  if l1 = 0 then
(some ((m.1 l0 5), m))
else (
if l1 = 1 then
((f_X2_aliases l0 m).bind (fun q5 => mmK (inR ((m.1 l0 5) - q5.1)) (some (((m.1 l0 5) - q5.1), q5.2))))
else (
if l1 = 2 then
((f_X2_aliases l0 m).bind (fun q9 => some (q9.1, q9.2)))
else (
if l1 = 3 then
((f_X2_lostAliases l0 m).bind (fun q12 => some (q12.1, q12.2)))
else (
if l1 = 4 then
(some ((m.1 l0 6), m))
else (
if l1 = 5 then
(mmK (inR ((m.1 l0 6) * 4)) (mmK (inR (((m.1 l0 6) * 4) - (m.1 l0 5))) (some ((((m.1 l0 6) * 4) - (m.1 l0 5)), m))))
else (
if l1 = 6 then
(some ((m.1 l0 7), m))
else (
if l1 = 7 then
((f_X2_livingUnits l0 m).bind (fun q24 => some (q24.1, q24.2)))
else (
if l1 = 8 then
((f_X2_deadUnits l0 m).bind (fun q27 => some (q27.1, q27.2)))
else (
if l1 = 9 then
(mmK (inR (100 - (m.1 l0 7))) (some ((100 - (m.1 l0 7)), m)))
else (
if l1 = 10 then
((f_X2_livingTexts l0 m).bind (fun q33 => some (q33.1, q33.2)))
else (
if l1 = 11 then
(some ((m.1 l0 8), m))
else (
if l1 = 12 then
(some ((m.1 l0 9), m))
else (
(some ((-2), m)))))))))))))))
set_option maxRecDepth 100000 in
set_option maxHeartbeats 4000000 in
theorem ok_X2_tellCount {r : Int × Mem} : ∀ (l0 : Nat) (l1 : Int) (m : Mem), mmSh[l0]? = some (.inl 2) → inR l1 → f_X2_tellCount l0 l1 m = some r → VV RX2 cX2_tellCount 2 rm_X2_tellCount mmG0 (mmPi r) 0 [(0, .ref l0), (1, vi l1)] [] m := by
  intro l0 l1 m hs0 hr1 E
  unfold f_X2_tellCount at E
  refine V_iload_n 1 dX2_tellCount_0 rfl ?_
  by_cases c1 : l1 = 0
  · replace E := mmI_t c1 E
    refine V_tableIn 0 68 dX2_tellCount_1 c1 (by decide) (by decide) rfl (by decide) ?_
    refine V_aload_n 0 dX2_tellCount_68 rfl ?_
    refine V_geti (ci := 2) (k := 5) (N := 10) (T := TX2) (v := (m.1 l0 5)) dX2_tellCount_69 iuX2 fl_X2_27 rfl (by decide) rfl hs0 (by first | rfl | simp [mwr]) (fun hv2 => ?_)
    obtain rfl := Option.some.inj E
    exact V_reti dX2_tellCount_72 ⟨rfl, rfl, hv2⟩
  replace E := mmI_f c1 E
  by_cases c3 : l1 = 1
  · replace E := mmI_t c3 E
    refine V_tableIn 1 73 dX2_tellCount_1 c3 (by decide) (by decide) rfl (by decide) ?_
    refine V_aload_n 0 dX2_tellCount_73 rfl ?_
    refine V_geti (ci := 2) (k := 5) (N := 10) (T := TX2) (v := (m.1 l0 5)) dX2_tellCount_74 iuX2 fl_X2_27 rfl (by decide) rfl hs0 (by first | rfl | simp [mwr]) (fun hv4 => ?_)
    refine V_aload_n 0 dX2_tellCount_77 rfl ?_
    obtain ⟨q5, hq5, E⟩ := mmB_e E
    refine V_callV (ci := 2) (q := (RX2, TX2, 10)) (Cn := RX2) (st := [vi (m.1 l0 5)]) 0 dX2_tellCount_78 (ct_X2_aliases hs0 hq5) ml_X2_126 im_X2_aliases sl_X2_aliases it_X2 cd_X2_aliases hy_X2_aliases ⟨rfl, rfl, by decide, by decide⟩ hs0 rfl rfl rfl rfl (Nat.le_of_ble_eq_true rfl) (fun hv6 => ?_)
    obtain ⟨hv7, E⟩ := mmK_e E
    refine V_isub dX2_tellCount_81 ?_
    obtain rfl := Option.some.inj E
    exact V_reti dX2_tellCount_82 ⟨rfl, rfl, hv7⟩
  replace E := mmI_f c3 E
  by_cases c8 : l1 = 2
  · replace E := mmI_t c8 E
    refine V_tableIn 2 83 dX2_tellCount_1 c8 (by decide) (by decide) rfl (by decide) ?_
    refine V_aload_n 0 dX2_tellCount_83 rfl ?_
    obtain ⟨q9, hq9, E⟩ := mmB_e E
    refine V_callV (ci := 2) (q := (RX2, TX2, 10)) (Cn := RX2) (st := []) 0 dX2_tellCount_84 (ct_X2_aliases hs0 hq9) ml_X2_126 im_X2_aliases sl_X2_aliases it_X2 cd_X2_aliases hy_X2_aliases ⟨rfl, rfl, by decide, by decide⟩ hs0 rfl rfl rfl rfl (Nat.le_of_ble_eq_true rfl) (fun hv10 => ?_)
    obtain rfl := Option.some.inj E
    exact V_reti dX2_tellCount_87 ⟨rfl, rfl, hv10⟩
  replace E := mmI_f c8 E
  by_cases c11 : l1 = 3
  · replace E := mmI_t c11 E
    refine V_tableIn 3 88 dX2_tellCount_1 c11 (by decide) (by decide) rfl (by decide) ?_
    refine V_aload_n 0 dX2_tellCount_88 rfl ?_
    obtain ⟨q12, hq12, E⟩ := mmB_e E
    refine V_callV (ci := 2) (q := (RX2, TX2, 10)) (Cn := RX2) (st := []) 0 dX2_tellCount_89 (ct_X2_lostAliases hs0 hq12) ml_X2_129 im_X2_lostAliases sl_X2_lostAliases it_X2 cd_X2_lostAliases hy_X2_lostAliases ⟨rfl, rfl, by decide, by decide⟩ hs0 rfl rfl rfl rfl (Nat.le_of_ble_eq_true rfl) (fun hv13 => ?_)
    obtain rfl := Option.some.inj E
    exact V_reti dX2_tellCount_92 ⟨rfl, rfl, hv13⟩
  replace E := mmI_f c11 E
  by_cases c14 : l1 = 4
  · replace E := mmI_t c14 E
    refine V_tableIn 4 93 dX2_tellCount_1 c14 (by decide) (by decide) rfl (by decide) ?_
    refine V_aload_n 0 dX2_tellCount_93 rfl ?_
    refine V_geti (ci := 2) (k := 6) (N := 10) (T := TX2) (v := (m.1 l0 6)) dX2_tellCount_94 iuX2 fl_X2_31 rfl (by decide) rfl hs0 (by first | rfl | simp [mwr]) (fun hv15 => ?_)
    obtain rfl := Option.some.inj E
    exact V_reti dX2_tellCount_97 ⟨rfl, rfl, hv15⟩
  replace E := mmI_f c14 E
  by_cases c16 : l1 = 5
  · replace E := mmI_t c16 E
    refine V_tableIn 5 98 dX2_tellCount_1 c16 (by decide) (by decide) rfl (by decide) ?_
    refine V_aload_n 0 dX2_tellCount_98 rfl ?_
    refine V_geti (ci := 2) (k := 6) (N := 10) (T := TX2) (v := (m.1 l0 6)) dX2_tellCount_99 iuX2 fl_X2_31 rfl (by decide) rfl hs0 (by first | rfl | simp [mwr]) (fun hv17 => ?_)
    refine V_iconst dX2_tellCount_102 rfl ?_
    obtain ⟨hv18, E⟩ := mmK_e E
    refine V_imul dX2_tellCount_103 ?_
    refine V_aload_n 0 dX2_tellCount_104 rfl ?_
    refine V_geti (ci := 2) (k := 5) (N := 10) (T := TX2) (v := (m.1 l0 5)) dX2_tellCount_105 iuX2 fl_X2_27 rfl (by decide) rfl hs0 (by first | rfl | simp [mwr]) (fun hv19 => ?_)
    obtain ⟨hv20, E⟩ := mmK_e E
    refine V_isub dX2_tellCount_108 ?_
    obtain rfl := Option.some.inj E
    exact V_reti dX2_tellCount_109 ⟨rfl, rfl, hv20⟩
  replace E := mmI_f c16 E
  by_cases c21 : l1 = 6
  · replace E := mmI_t c21 E
    refine V_tableIn 6 110 dX2_tellCount_1 c21 (by decide) (by decide) rfl (by decide) ?_
    refine V_aload_n 0 dX2_tellCount_110 rfl ?_
    refine V_geti (ci := 2) (k := 7) (N := 10) (T := TX2) (v := (m.1 l0 7)) dX2_tellCount_111 iuX2 fl_X2_34 rfl (by decide) rfl hs0 (by first | rfl | simp [mwr]) (fun hv22 => ?_)
    obtain rfl := Option.some.inj E
    exact V_reti dX2_tellCount_114 ⟨rfl, rfl, hv22⟩
  replace E := mmI_f c21 E
  by_cases c23 : l1 = 7
  · replace E := mmI_t c23 E
    refine V_tableIn 7 115 dX2_tellCount_1 c23 (by decide) (by decide) rfl (by decide) ?_
    refine V_aload_n 0 dX2_tellCount_115 rfl ?_
    obtain ⟨q24, hq24, E⟩ := mmB_e E
    refine V_callV (ci := 2) (q := (RX2, TX2, 10)) (Cn := RX2) (st := []) 0 dX2_tellCount_116 (ct_X2_livingUnits hs0 hq24) ml_X2_120 im_X2_livingUnits sl_X2_livingUnits it_X2 cd_X2_livingUnits hy_X2_livingUnits ⟨rfl, rfl, by decide, by decide⟩ hs0 rfl rfl rfl rfl (Nat.le_of_ble_eq_true rfl) (fun hv25 => ?_)
    obtain rfl := Option.some.inj E
    exact V_reti dX2_tellCount_119 ⟨rfl, rfl, hv25⟩
  replace E := mmI_f c23 E
  by_cases c26 : l1 = 8
  · replace E := mmI_t c26 E
    refine V_tableIn 8 120 dX2_tellCount_1 c26 (by decide) (by decide) rfl (by decide) ?_
    refine V_aload_n 0 dX2_tellCount_120 rfl ?_
    obtain ⟨q27, hq27, E⟩ := mmB_e E
    refine V_callV (ci := 2) (q := (RX2, TX2, 10)) (Cn := RX2) (st := []) 0 dX2_tellCount_121 (ct_X2_deadUnits hs0 hq27) ml_X2_95 im_X2_deadUnits sl_X2_deadUnits it_X2 cd_X2_deadUnits hy_X2_deadUnits ⟨rfl, rfl, by decide, by decide⟩ hs0 rfl rfl rfl rfl (Nat.le_of_ble_eq_true rfl) (fun hv28 => ?_)
    obtain rfl := Option.some.inj E
    exact V_reti dX2_tellCount_124 ⟨rfl, rfl, hv28⟩
  replace E := mmI_f c26 E
  by_cases c29 : l1 = 9
  · replace E := mmI_t c29 E
    refine V_tableIn 9 125 dX2_tellCount_1 c29 (by decide) (by decide) rfl (by decide) ?_
    refine V_bipush (v := 100) dX2_tellCount_125 (by decide) ?_
    refine V_aload_n 0 dX2_tellCount_127 rfl ?_
    refine V_geti (ci := 2) (k := 7) (N := 10) (T := TX2) (v := (m.1 l0 7)) dX2_tellCount_128 iuX2 fl_X2_34 rfl (by decide) rfl hs0 (by first | rfl | simp [mwr]) (fun hv30 => ?_)
    obtain ⟨hv31, E⟩ := mmK_e E
    refine V_isub dX2_tellCount_131 ?_
    obtain rfl := Option.some.inj E
    exact V_reti dX2_tellCount_132 ⟨rfl, rfl, hv31⟩
  replace E := mmI_f c29 E
  by_cases c32 : l1 = 10
  · replace E := mmI_t c32 E
    refine V_tableIn 10 133 dX2_tellCount_1 c32 (by decide) (by decide) rfl (by decide) ?_
    refine V_aload_n 0 dX2_tellCount_133 rfl ?_
    obtain ⟨q33, hq33, E⟩ := mmB_e E
    refine V_callV (ci := 2) (q := (RX2, TX2, 10)) (Cn := RX2) (st := []) 0 dX2_tellCount_134 (ct_X2_livingTexts hs0 hq33) ml_X2_132 im_X2_livingTexts sl_X2_livingTexts it_X2 cd_X2_livingTexts hy_X2_livingTexts ⟨rfl, rfl, by decide, by decide⟩ hs0 rfl rfl rfl rfl (Nat.le_of_ble_eq_true rfl) (fun hv34 => ?_)
    obtain rfl := Option.some.inj E
    exact V_reti dX2_tellCount_137 ⟨rfl, rfl, hv34⟩
  replace E := mmI_f c32 E
  by_cases c35 : l1 = 11
  · replace E := mmI_t c35 E
    refine V_tableIn 11 138 dX2_tellCount_1 c35 (by decide) (by decide) rfl (by decide) ?_
    refine V_aload_n 0 dX2_tellCount_138 rfl ?_
    refine V_geti (ci := 2) (k := 8) (N := 10) (T := TX2) (v := (m.1 l0 8)) dX2_tellCount_139 iuX2 fl_X2_37 rfl (by decide) rfl hs0 (by first | rfl | simp [mwr]) (fun hv36 => ?_)
    obtain rfl := Option.some.inj E
    exact V_reti dX2_tellCount_142 ⟨rfl, rfl, hv36⟩
  replace E := mmI_f c35 E
  by_cases c37 : l1 = 12
  · replace E := mmI_t c37 E
    refine V_tableIn 12 143 dX2_tellCount_1 c37 (by decide) (by decide) rfl (by decide) ?_
    refine V_aload_n 0 dX2_tellCount_143 rfl ?_
    refine V_geti (ci := 2) (k := 9) (N := 10) (T := TX2) (v := (m.1 l0 9)) dX2_tellCount_144 iuX2 fl_X2_40 rfl (by decide) rfl hs0 (by first | rfl | simp [mwr]) (fun hv38 => ?_)
    obtain rfl := Option.some.inj E
    exact V_reti dX2_tellCount_147 ⟨rfl, rfl, hv38⟩
  replace E := mmI_f c37 E
  refine V_tableOut 148 dX2_tellCount_1 hr1 (by omega) (by decide) ?_
  refine V_bipush (v := (-2)) dX2_tellCount_148 (by decide) ?_
  obtain rfl := Option.some.inj E
  exact V_reti dX2_tellCount_150 ⟨rfl, rfl, ir_m2⟩
theorem ct_X2_tellCount {l0 : Nat} {l1 : Int} {m : Mem} {r : Int × Mem} (hs0 : mmSh[l0]? = some (.inl 2)) (hr1 : inR l1) (E : f_X2_tellCount l0 l1 m = some r) : CTi yX2_tellCount cX2_tellCount 2 (some .int) rm_X2_tellCount [.ref l0, vi l1] m r := CT_i (by decide +kernel) rfl (Nat.le_of_ble_eq_true rfl) (ok_X2_tellCount _ _ _ hs0 hr1 E)
theorem hy_X2_tellCount : yX2_tellCount.cls = RX2 ∧ yX2_tellCount.cls ≠ "java/lang/invoke/MethodHandle" ∧ yX2_tellCount.cls ≠ "java/lang/invoke/VarHandle" ∧ (parseMethodDescriptor yX2_tellCount.desc).map (fun d => d.parameters.length) = some 1 := by decide +kernel
abbrev rm_X3_settle : Room := { frames := 3, cells := 0, slots := 0, locals := 69 }
noncomputable def f_X3_settle (l1 : Int) (m : Mem) : Option (Int × Mem) :=
  if l1 < 0 then
(some (l1, m))
else
((f_X0_keepState 1 m).bind (fun q2 => (f_X2_copyFrom 1 7 q2).bind (fun q4 => some (l1, q4))))
set_option maxRecDepth 100000 in
set_option maxHeartbeats 4000000 in
theorem ok_X3_settle {r : Int × Mem} : ∀ (l1 : Int) (m : Mem), inR l1 → f_X3_settle l1 m = some r → VV RX3 cX3_settle 2 rm_X3_settle mmG0 (mmPi r) 0 [(0, .ref 0), (1, vi l1)] [] m := by
  intro l1 m hr1 E
  unfold f_X3_settle at E
  refine V_iload_n 1 dX3_settle_0 rfl ?_
  refine V_if_lt 26 dX3_settle_1 (by decide) hr1 (fun c1 => ?_) (fun c1 => ?_)
  · replace E := mmI_t c1 E
    refine V_iload_n 1 dX3_settle_26 rfl ?_
    obtain rfl := Option.some.inj E
    exact V_reti dX3_settle_27 ⟨rfl, rfl, hr1⟩
  · replace E := mmI_f c1 E
    refine V_aload_n 0 dX3_settle_4 rfl ?_
    refine V_geta (ci := 3) (k := 4) (N := 6) (T := TX3) (o' := 19) dX3_settle_5 iuX3 fl_X3_29 rfl (by decide) rfl sh_0 rfl ?_
    refine V_aload_n 0 dX3_settle_8 rfl ?_
    refine V_geta (ci := 3) (k := 0) (N := 6) (T := TX3) (o' := 1) dX3_settle_9 iuX3 fl_X3_12 rfl (by decide) rfl sh_0 rfl ?_
    obtain ⟨q2, hq2, E⟩ := mmB_e E
    refine V_callVv (ci := 0) (q := (RX0, TX0, 2)) (Cn := RX0) (st := []) 1 dX3_settle_12 (ct_X0_keepState sh_1 hq2) ml_X3_118 im_X0_keepState sl_X0_keepState it_X0 cd_X0_keepState hy_X0_keepState ⟨rfl, rfl, by decide, by decide⟩ sh_19 rfl rfl rfl rfl (Nat.le_of_ble_eq_true rfl) ?_
    refine V_aload_n 0 dX3_settle_15 rfl ?_
    refine V_geta (ci := 3) (k := 0) (N := 6) (T := TX3) (o' := 1) dX3_settle_16 iuX3 fl_X3_12 rfl (by decide) rfl sh_0 rfl ?_
    refine V_aload_n 0 dX3_settle_19 rfl ?_
    refine V_geta (ci := 3) (k := 1) (N := 6) (T := TX3) (o' := 7) dX3_settle_20 iuX3 fl_X3_16 rfl (by decide) rfl sh_0 rfl ?_
    obtain ⟨q4, hq4, E⟩ := mmB_e E
    refine V_callVv (ci := 2) (q := (RX2, TX2, 10)) (Cn := RX2) (st := []) 1 dX3_settle_23 (ct_X2_copyFrom sh_1 sh_7 hq4) ml_X3_40 im_X2_copyFrom sl_X2_copyFrom it_X2 cd_X2_copyFrom hy_X2_copyFrom ⟨rfl, rfl, by decide, by decide⟩ sh_1 rfl rfl rfl rfl (Nat.le_of_ble_eq_true rfl) ?_
    refine V_iload_n 1 dX3_settle_26 rfl ?_
    obtain rfl := Option.some.inj E
    exact V_reti dX3_settle_27 ⟨rfl, rfl, hr1⟩
theorem ct_X3_settle {l1 : Int} {m : Mem} {r : Int × Mem} (hr1 : inR l1) (E : f_X3_settle l1 m = some r) : CTi yX3_settle cX3_settle 2 (some .int) rm_X3_settle [.ref 0, vi l1] m r := CT_i (by decide +kernel) rfl (Nat.le_of_ble_eq_true rfl) (ok_X3_settle _ _ hr1 E)
theorem hy_X3_settle : yX3_settle.cls = RX3 ∧ yX3_settle.cls ≠ "java/lang/invoke/MethodHandle" ∧ yX3_settle.cls ≠ "java/lang/invoke/VarHandle" ∧ (parseMethodDescriptor yX3_settle.desc).map (fun d => d.parameters.length) = some 1 := by decide +kernel
abbrev rm_X3_add : Room := { frames := 4, cells := 0, slots := 0, locals := 99 }
noncomputable def f_X3_add (l1 : Int) (l2 : Int) (l3 : Int) (m : Mem) : Option (Int × Mem) :=
  (f_X2_copyFrom 7 1 m).bind (fun q1 => (f_X2_addMember 7 l1 l2 l3 q1).bind (fun q3 => (f_X3_settle q3.1 q3.2).bind (fun q5 => some (q5.1, q5.2))))
set_option maxRecDepth 100000 in
set_option maxHeartbeats 4000000 in
theorem ok_X3_add {r : Int × Mem} : ∀ (l1 : Int) (l2 : Int) (l3 : Int) (m : Mem), inR l1 → inR l2 → inR l3 → f_X3_add l1 l2 l3 m = some r → VV RX3 cX3_add 4 rm_X3_add mmG0 (mmPi r) 0 [(0, .ref 0), (1, vi l1), (2, vi l2), (3, vi l3)] [] m := by
  intro l1 l2 l3 m hr1 hr2 hr3 E
  unfold f_X3_add at E
  refine V_aload_n 0 dX3_add_0 rfl ?_
  refine V_geta (ci := 3) (k := 1) (N := 6) (T := TX3) (o' := 7) dX3_add_1 iuX3 fl_X3_16 rfl (by decide) rfl sh_0 rfl ?_
  refine V_aload_n 0 dX3_add_4 rfl ?_
  refine V_geta (ci := 3) (k := 0) (N := 6) (T := TX3) (o' := 1) dX3_add_5 iuX3 fl_X3_12 rfl (by decide) rfl sh_0 rfl ?_
  obtain ⟨q1, hq1, E⟩ := mmB_e E
  refine V_callVv (ci := 2) (q := (RX2, TX2, 10)) (Cn := RX2) (st := []) 1 dX3_add_8 (ct_X2_copyFrom sh_7 sh_1 hq1) ml_X3_40 im_X2_copyFrom sl_X2_copyFrom it_X2 cd_X2_copyFrom hy_X2_copyFrom ⟨rfl, rfl, by decide, by decide⟩ sh_7 rfl rfl rfl rfl (Nat.le_of_ble_eq_true rfl) ?_
  refine V_aload_n 0 dX3_add_11 rfl ?_
  refine V_aload_n 0 dX3_add_12 rfl ?_
  refine V_geta (ci := 3) (k := 1) (N := 6) (T := TX3) (o' := 7) dX3_add_13 iuX3 fl_X3_16 rfl (by decide) rfl sh_0 rfl ?_
  refine V_iload_n 1 dX3_add_16 rfl ?_
  refine V_iload_n 2 dX3_add_17 rfl ?_
  refine V_iload_n 3 dX3_add_18 rfl ?_
  obtain ⟨q3, hq3, E⟩ := mmB_e E
  refine V_callV (ci := 2) (q := (RX2, TX2, 10)) (Cn := RX2) (st := [.ref 0]) 3 dX3_add_19 (ct_X2_addMember sh_7 hr1 hr2 hr3 hq3) ml_X3_44 im_X2_addMember sl_X2_addMember it_X2 cd_X2_addMember hy_X2_addMember ⟨rfl, rfl, by decide, by decide⟩ sh_7 rfl rfl rfl rfl (Nat.le_of_ble_eq_true rfl) (fun hv4 => ?_)
  obtain ⟨q5, hq5, E⟩ := mmB_e E
  refine V_callV (ci := 3) (q := (RX3, TX3, 6)) (Cn := RX3) (st := []) 1 dX3_add_22 (ct_X3_settle hv4 hq5) ml_X3_48 im_X3_settle sl_X3_settle it_X3 cd_X3_settle hy_X3_settle ⟨rfl, rfl, by decide, by decide⟩ sh_0 rfl rfl rfl rfl (Nat.le_of_ble_eq_true rfl) (fun hv6 => ?_)
  obtain rfl := Option.some.inj E
  exact V_reti dX3_add_25 ⟨rfl, rfl, hv6⟩
theorem ct_X3_add {l1 : Int} {l2 : Int} {l3 : Int} {m : Mem} {r : Int × Mem} (hr1 : inR l1) (hr2 : inR l2) (hr3 : inR l3) (E : f_X3_add l1 l2 l3 m = some r) : CTi yX3_add cX3_add 4 (some .int) rm_X3_add [.ref 0, vi l1, vi l2, vi l3] m r := CT_i (by decide +kernel) rfl (Nat.le_of_ble_eq_true rfl) (ok_X3_add _ _ _ _ hr1 hr2 hr3 E)
theorem hy_X3_add : yX3_add.cls = RX3 ∧ yX3_add.cls ≠ "java/lang/invoke/MethodHandle" ∧ yX3_add.cls ≠ "java/lang/invoke/VarHandle" ∧ (parseMethodDescriptor yX3_add.desc).map (fun d => d.parameters.length) = some 3 := by decide +kernel
abbrev rm_X3_replace : Room := { frames := 4, cells := 0, slots := 0, locals := 90 }
noncomputable def f_X3_replace (l1 : Int) (l2 : Int) (l3 : Int) (m : Mem) : Option (Int × Mem) :=
  (f_X2_copyFrom 7 1 m).bind (fun q1 => (f_X2_replaceText 7 l1 l2 l3 q1).bind (fun q3 => (f_X3_settle q3.1 q3.2).bind (fun q5 => some (q5.1, q5.2))))
set_option maxRecDepth 100000 in
set_option maxHeartbeats 4000000 in
theorem ok_X3_replace {r : Int × Mem} : ∀ (l1 : Int) (l2 : Int) (l3 : Int) (m : Mem), inR l1 → inR l2 → inR l3 → f_X3_replace l1 l2 l3 m = some r → VV RX3 cX3_replace 4 rm_X3_replace mmG0 (mmPi r) 0 [(0, .ref 0), (1, vi l1), (2, vi l2), (3, vi l3)] [] m := by
  intro l1 l2 l3 m hr1 hr2 hr3 E
  unfold f_X3_replace at E
  refine V_aload_n 0 dX3_replace_0 rfl ?_
  refine V_geta (ci := 3) (k := 1) (N := 6) (T := TX3) (o' := 7) dX3_replace_1 iuX3 fl_X3_16 rfl (by decide) rfl sh_0 rfl ?_
  refine V_aload_n 0 dX3_replace_4 rfl ?_
  refine V_geta (ci := 3) (k := 0) (N := 6) (T := TX3) (o' := 1) dX3_replace_5 iuX3 fl_X3_12 rfl (by decide) rfl sh_0 rfl ?_
  obtain ⟨q1, hq1, E⟩ := mmB_e E
  refine V_callVv (ci := 2) (q := (RX2, TX2, 10)) (Cn := RX2) (st := []) 1 dX3_replace_8 (ct_X2_copyFrom sh_7 sh_1 hq1) ml_X3_40 im_X2_copyFrom sl_X2_copyFrom it_X2 cd_X2_copyFrom hy_X2_copyFrom ⟨rfl, rfl, by decide, by decide⟩ sh_7 rfl rfl rfl rfl (Nat.le_of_ble_eq_true rfl) ?_
  refine V_aload_n 0 dX3_replace_11 rfl ?_
  refine V_aload_n 0 dX3_replace_12 rfl ?_
  refine V_geta (ci := 3) (k := 1) (N := 6) (T := TX3) (o' := 7) dX3_replace_13 iuX3 fl_X3_16 rfl (by decide) rfl sh_0 rfl ?_
  refine V_iload_n 1 dX3_replace_16 rfl ?_
  refine V_iload_n 2 dX3_replace_17 rfl ?_
  refine V_iload_n 3 dX3_replace_18 rfl ?_
  obtain ⟨q3, hq3, E⟩ := mmB_e E
  refine V_callV (ci := 2) (q := (RX2, TX2, 10)) (Cn := RX2) (st := [.ref 0]) 3 dX3_replace_19 (ct_X2_replaceText sh_7 hr1 hr2 hr3 hq3) ml_X3_52 im_X2_replaceText sl_X2_replaceText it_X2 cd_X2_replaceText hy_X2_replaceText ⟨rfl, rfl, by decide, by decide⟩ sh_7 rfl rfl rfl rfl (Nat.le_of_ble_eq_true rfl) (fun hv4 => ?_)
  obtain ⟨q5, hq5, E⟩ := mmB_e E
  refine V_callV (ci := 3) (q := (RX3, TX3, 6)) (Cn := RX3) (st := []) 1 dX3_replace_22 (ct_X3_settle hv4 hq5) ml_X3_48 im_X3_settle sl_X3_settle it_X3 cd_X3_settle hy_X3_settle ⟨rfl, rfl, by decide, by decide⟩ sh_0 rfl rfl rfl rfl (Nat.le_of_ble_eq_true rfl) (fun hv6 => ?_)
  obtain rfl := Option.some.inj E
  exact V_reti dX3_replace_25 ⟨rfl, rfl, hv6⟩
theorem ct_X3_replace {l1 : Int} {l2 : Int} {l3 : Int} {m : Mem} {r : Int × Mem} (hr1 : inR l1) (hr2 : inR l2) (hr3 : inR l3) (E : f_X3_replace l1 l2 l3 m = some r) : CTi yX3_replace cX3_replace 4 (some .int) rm_X3_replace [.ref 0, vi l1, vi l2, vi l3] m r := CT_i (by decide +kernel) rfl (Nat.le_of_ble_eq_true rfl) (ok_X3_replace _ _ _ _ hr1 hr2 hr3 E)
theorem hy_X3_replace : yX3_replace.cls = RX3 ∧ yX3_replace.cls ≠ "java/lang/invoke/MethodHandle" ∧ yX3_replace.cls ≠ "java/lang/invoke/VarHandle" ∧ (parseMethodDescriptor yX3_replace.desc).map (fun d => d.parameters.length) = some 3 := by decide +kernel
abbrev rm_X3_remove : Room := { frames := 4, cells := 0, slots := 0, locals := 92 }
noncomputable def f_X3_remove (l1 : Int) (m : Mem) : Option (Int × Mem) :=
  (f_X2_copyFrom 7 1 m).bind (fun q1 => (f_X2_removeEntry 7 l1 q1).bind (fun q3 => (f_X3_settle q3.1 q3.2).bind (fun q5 => some (q5.1, q5.2))))
set_option maxRecDepth 100000 in
set_option maxHeartbeats 4000000 in
theorem ok_X3_remove {r : Int × Mem} : ∀ (l1 : Int) (m : Mem), inR l1 → f_X3_remove l1 m = some r → VV RX3 cX3_remove 2 rm_X3_remove mmG0 (mmPi r) 0 [(0, .ref 0), (1, vi l1)] [] m := by
  intro l1 m hr1 E
  unfold f_X3_remove at E
  refine V_aload_n 0 dX3_remove_0 rfl ?_
  refine V_geta (ci := 3) (k := 1) (N := 6) (T := TX3) (o' := 7) dX3_remove_1 iuX3 fl_X3_16 rfl (by decide) rfl sh_0 rfl ?_
  refine V_aload_n 0 dX3_remove_4 rfl ?_
  refine V_geta (ci := 3) (k := 0) (N := 6) (T := TX3) (o' := 1) dX3_remove_5 iuX3 fl_X3_12 rfl (by decide) rfl sh_0 rfl ?_
  obtain ⟨q1, hq1, E⟩ := mmB_e E
  refine V_callVv (ci := 2) (q := (RX2, TX2, 10)) (Cn := RX2) (st := []) 1 dX3_remove_8 (ct_X2_copyFrom sh_7 sh_1 hq1) ml_X3_40 im_X2_copyFrom sl_X2_copyFrom it_X2 cd_X2_copyFrom hy_X2_copyFrom ⟨rfl, rfl, by decide, by decide⟩ sh_7 rfl rfl rfl rfl (Nat.le_of_ble_eq_true rfl) ?_
  refine V_aload_n 0 dX3_remove_11 rfl ?_
  refine V_aload_n 0 dX3_remove_12 rfl ?_
  refine V_geta (ci := 3) (k := 1) (N := 6) (T := TX3) (o' := 7) dX3_remove_13 iuX3 fl_X3_16 rfl (by decide) rfl sh_0 rfl ?_
  refine V_iload_n 1 dX3_remove_16 rfl ?_
  obtain ⟨q3, hq3, E⟩ := mmB_e E
  refine V_callV (ci := 2) (q := (RX2, TX2, 10)) (Cn := RX2) (st := [.ref 0]) 1 dX3_remove_17 (ct_X2_removeEntry sh_7 hr1 hq3) ml_X3_55 im_X2_removeEntry sl_X2_removeEntry it_X2 cd_X2_removeEntry hy_X2_removeEntry ⟨rfl, rfl, by decide, by decide⟩ sh_7 rfl rfl rfl rfl (Nat.le_of_ble_eq_true rfl) (fun hv4 => ?_)
  obtain ⟨q5, hq5, E⟩ := mmB_e E
  refine V_callV (ci := 3) (q := (RX3, TX3, 6)) (Cn := RX3) (st := []) 1 dX3_remove_20 (ct_X3_settle hv4 hq5) ml_X3_48 im_X3_settle sl_X3_settle it_X3 cd_X3_settle hy_X3_settle ⟨rfl, rfl, by decide, by decide⟩ sh_0 rfl rfl rfl rfl (Nat.le_of_ble_eq_true rfl) (fun hv6 => ?_)
  obtain rfl := Option.some.inj E
  exact V_reti dX3_remove_23 ⟨rfl, rfl, hv6⟩
theorem ct_X3_remove {l1 : Int} {m : Mem} {r : Int × Mem} (hr1 : inR l1) (E : f_X3_remove l1 m = some r) : CTi yX3_remove cX3_remove 2 (some .int) rm_X3_remove [.ref 0, vi l1] m r := CT_i (by decide +kernel) rfl (Nat.le_of_ble_eq_true rfl) (ok_X3_remove _ _ hr1 E)
theorem hy_X3_remove : yX3_remove.cls = RX3 ∧ yX3_remove.cls ≠ "java/lang/invoke/MethodHandle" ∧ yX3_remove.cls ≠ "java/lang/invoke/VarHandle" ∧ (parseMethodDescriptor yX3_remove.desc).map (fun d => d.parameters.length) = some 1 := by decide +kernel
abbrev rm_X3_rename : Room := { frames := 4, cells := 0, slots := 0, locals := 103 }
noncomputable def f_X3_rename (l1 : Int) (l2 : Int) (m : Mem) : Option (Int × Mem) :=
  (f_X2_copyFrom 7 1 m).bind (fun q1 => (f_X2_renameEntry 7 l1 l2 q1).bind (fun q3 => (f_X3_settle q3.1 q3.2).bind (fun q5 => some (q5.1, q5.2))))
set_option maxRecDepth 100000 in
set_option maxHeartbeats 4000000 in
theorem ok_X3_rename {r : Int × Mem} : ∀ (l1 : Int) (l2 : Int) (m : Mem), inR l1 → inR l2 → f_X3_rename l1 l2 m = some r → VV RX3 cX3_rename 3 rm_X3_rename mmG0 (mmPi r) 0 [(0, .ref 0), (1, vi l1), (2, vi l2)] [] m := by
  intro l1 l2 m hr1 hr2 E
  unfold f_X3_rename at E
  refine V_aload_n 0 dX3_rename_0 rfl ?_
  refine V_geta (ci := 3) (k := 1) (N := 6) (T := TX3) (o' := 7) dX3_rename_1 iuX3 fl_X3_16 rfl (by decide) rfl sh_0 rfl ?_
  refine V_aload_n 0 dX3_rename_4 rfl ?_
  refine V_geta (ci := 3) (k := 0) (N := 6) (T := TX3) (o' := 1) dX3_rename_5 iuX3 fl_X3_12 rfl (by decide) rfl sh_0 rfl ?_
  obtain ⟨q1, hq1, E⟩ := mmB_e E
  refine V_callVv (ci := 2) (q := (RX2, TX2, 10)) (Cn := RX2) (st := []) 1 dX3_rename_8 (ct_X2_copyFrom sh_7 sh_1 hq1) ml_X3_40 im_X2_copyFrom sl_X2_copyFrom it_X2 cd_X2_copyFrom hy_X2_copyFrom ⟨rfl, rfl, by decide, by decide⟩ sh_7 rfl rfl rfl rfl (Nat.le_of_ble_eq_true rfl) ?_
  refine V_aload_n 0 dX3_rename_11 rfl ?_
  refine V_aload_n 0 dX3_rename_12 rfl ?_
  refine V_geta (ci := 3) (k := 1) (N := 6) (T := TX3) (o' := 7) dX3_rename_13 iuX3 fl_X3_16 rfl (by decide) rfl sh_0 rfl ?_
  refine V_iload_n 1 dX3_rename_16 rfl ?_
  refine V_iload_n 2 dX3_rename_17 rfl ?_
  obtain ⟨q3, hq3, E⟩ := mmB_e E
  refine V_callV (ci := 2) (q := (RX2, TX2, 10)) (Cn := RX2) (st := [.ref 0]) 2 dX3_rename_18 (ct_X2_renameEntry sh_7 hr1 hr2 hq3) ml_X3_58 im_X2_renameEntry sl_X2_renameEntry it_X2 cd_X2_renameEntry hy_X2_renameEntry ⟨rfl, rfl, by decide, by decide⟩ sh_7 rfl rfl rfl rfl (Nat.le_of_ble_eq_true rfl) (fun hv4 => ?_)
  obtain ⟨q5, hq5, E⟩ := mmB_e E
  refine V_callV (ci := 3) (q := (RX3, TX3, 6)) (Cn := RX3) (st := []) 1 dX3_rename_21 (ct_X3_settle hv4 hq5) ml_X3_48 im_X3_settle sl_X3_settle it_X3 cd_X3_settle hy_X3_settle ⟨rfl, rfl, by decide, by decide⟩ sh_0 rfl rfl rfl rfl (Nat.le_of_ble_eq_true rfl) (fun hv6 => ?_)
  obtain rfl := Option.some.inj E
  exact V_reti dX3_rename_24 ⟨rfl, rfl, hv6⟩
theorem ct_X3_rename {l1 : Int} {l2 : Int} {m : Mem} {r : Int × Mem} (hr1 : inR l1) (hr2 : inR l2) (E : f_X3_rename l1 l2 m = some r) : CTi yX3_rename cX3_rename 3 (some .int) rm_X3_rename [.ref 0, vi l1, vi l2] m r := CT_i (by decide +kernel) rfl (Nat.le_of_ble_eq_true rfl) (ok_X3_rename _ _ _ hr1 hr2 E)
theorem hy_X3_rename : yX3_rename.cls = RX3 ∧ yX3_rename.cls ≠ "java/lang/invoke/MethodHandle" ∧ yX3_rename.cls ≠ "java/lang/invoke/VarHandle" ∧ (parseMethodDescriptor yX3_rename.desc).map (fun d => d.parameters.length) = some 2 := by decide +kernel
abbrev rm_X3_alias : Room := { frames := 4, cells := 0, slots := 0, locals := 100 }
noncomputable def f_X3_alias (l1 : Int) (l2 : Int) (m : Mem) : Option (Int × Mem) :=
  (f_X2_copyFrom 7 1 m).bind (fun q1 => (f_X2_giveAlias 7 l1 l2 q1).bind (fun q3 => (f_X3_settle q3.1 q3.2).bind (fun q5 => some (q5.1, q5.2))))
set_option maxRecDepth 100000 in
set_option maxHeartbeats 4000000 in
theorem ok_X3_alias {r : Int × Mem} : ∀ (l1 : Int) (l2 : Int) (m : Mem), inR l1 → inR l2 → f_X3_alias l1 l2 m = some r → VV RX3 cX3_alias 3 rm_X3_alias mmG0 (mmPi r) 0 [(0, .ref 0), (1, vi l1), (2, vi l2)] [] m := by
  intro l1 l2 m hr1 hr2 E
  unfold f_X3_alias at E
  refine V_aload_n 0 dX3_alias_0 rfl ?_
  refine V_geta (ci := 3) (k := 1) (N := 6) (T := TX3) (o' := 7) dX3_alias_1 iuX3 fl_X3_16 rfl (by decide) rfl sh_0 rfl ?_
  refine V_aload_n 0 dX3_alias_4 rfl ?_
  refine V_geta (ci := 3) (k := 0) (N := 6) (T := TX3) (o' := 1) dX3_alias_5 iuX3 fl_X3_12 rfl (by decide) rfl sh_0 rfl ?_
  obtain ⟨q1, hq1, E⟩ := mmB_e E
  refine V_callVv (ci := 2) (q := (RX2, TX2, 10)) (Cn := RX2) (st := []) 1 dX3_alias_8 (ct_X2_copyFrom sh_7 sh_1 hq1) ml_X3_40 im_X2_copyFrom sl_X2_copyFrom it_X2 cd_X2_copyFrom hy_X2_copyFrom ⟨rfl, rfl, by decide, by decide⟩ sh_7 rfl rfl rfl rfl (Nat.le_of_ble_eq_true rfl) ?_
  refine V_aload_n 0 dX3_alias_11 rfl ?_
  refine V_aload_n 0 dX3_alias_12 rfl ?_
  refine V_geta (ci := 3) (k := 1) (N := 6) (T := TX3) (o' := 7) dX3_alias_13 iuX3 fl_X3_16 rfl (by decide) rfl sh_0 rfl ?_
  refine V_iload_n 1 dX3_alias_16 rfl ?_
  refine V_iload_n 2 dX3_alias_17 rfl ?_
  obtain ⟨q3, hq3, E⟩ := mmB_e E
  refine V_callV (ci := 2) (q := (RX2, TX2, 10)) (Cn := RX2) (st := [.ref 0]) 2 dX3_alias_18 (ct_X2_giveAlias sh_7 hr1 hr2 hq3) ml_X3_62 im_X2_giveAlias sl_X2_giveAlias it_X2 cd_X2_giveAlias hy_X2_giveAlias ⟨rfl, rfl, by decide, by decide⟩ sh_7 rfl rfl rfl rfl (Nat.le_of_ble_eq_true rfl) (fun hv4 => ?_)
  obtain ⟨q5, hq5, E⟩ := mmB_e E
  refine V_callV (ci := 3) (q := (RX3, TX3, 6)) (Cn := RX3) (st := []) 1 dX3_alias_21 (ct_X3_settle hv4 hq5) ml_X3_48 im_X3_settle sl_X3_settle it_X3 cd_X3_settle hy_X3_settle ⟨rfl, rfl, by decide, by decide⟩ sh_0 rfl rfl rfl rfl (Nat.le_of_ble_eq_true rfl) (fun hv6 => ?_)
  obtain rfl := Option.some.inj E
  exact V_reti dX3_alias_24 ⟨rfl, rfl, hv6⟩
theorem ct_X3_alias {l1 : Int} {l2 : Int} {m : Mem} {r : Int × Mem} (hr1 : inR l1) (hr2 : inR l2) (E : f_X3_alias l1 l2 m = some r) : CTi yX3_alias cX3_alias 3 (some .int) rm_X3_alias [.ref 0, vi l1, vi l2] m r := CT_i (by decide +kernel) rfl (Nat.le_of_ble_eq_true rfl) (ok_X3_alias _ _ _ hr1 hr2 E)
theorem hy_X3_alias : yX3_alias.cls = RX3 ∧ yX3_alias.cls ≠ "java/lang/invoke/MethodHandle" ∧ yX3_alias.cls ≠ "java/lang/invoke/VarHandle" ∧ (parseMethodDescriptor yX3_alias.desc).map (fun d => d.parameters.length) = some 2 := by decide +kernel
abbrev rm_X3_addAll : Room := { frames := 6, cells := 0, slots := 0, locals := 131 }
noncomputable def f_X3_addAll (m : Mem) : Option (Int × Mem) :=
  (f_X1_readAdditions m).bind (fun q1 => if q1.1 = (-1) then
((f_X2_copyFrom 7 1 q1.2).bind (fun q4 => (f_X1_makeAdditions 7 q4).bind (fun q6 => (f_X3_settle q6.1 q6.2).bind (fun q8 => some (q8.1, q8.2)))))
else
(mmK (inR ((-100) - q1.1)) (some (((-100) - q1.1), q1.2))))
set_option maxRecDepth 100000 in
set_option maxHeartbeats 4000000 in
theorem ok_X3_addAll {r : Int × Mem} : ∀ (m : Mem), f_X3_addAll m = some r → VV RX3 cX3_addAll 2 rm_X3_addAll mmG0 (mmPi r) 0 [(0, .ref 0)] [] m := by
  intro m E
  unfold f_X3_addAll at E
  refine V_aload_n 0 dX3_addAll_0 rfl ?_
  refine V_geta (ci := 3) (k := 5) (N := 6) (T := TX3) (o' := 45) dX3_addAll_1 iuX3 fl_X3_36 rfl (by decide) rfl sh_0 rfl ?_
  obtain ⟨q1, hq1, E⟩ := mmB_e E
  refine V_callV (ci := 1) (q := (RX1, TX1, 8)) (Cn := RX1) (st := []) 0 dX3_addAll_4 (ct_X1_readAdditions hq1) ml_X3_65 im_X1_readAdditions sl_X1_readAdditions it_X1 cd_X1_readAdditions hy_X1_readAdditions ⟨rfl, rfl, by decide, by decide⟩ sh_45 rfl rfl rfl rfl (Nat.le_of_ble_eq_true rfl) (fun hv2 => ?_)
  refine V_istore_n (i := 1) (lv' := [(0, .ref 0), (1, vi q1.1)]) dX3_addAll_7 rfl rfl rfl ?_
  refine V_iload_n 1 dX3_addAll_8 rfl ?_
  refine V_iconst dX3_addAll_9 rfl ?_
  refine V_icmp_eq 18 dX3_addAll_10 (by decide) hv2 ir_m1 (fun c3 => ?_) (fun c3 => ?_)
  · replace E := mmI_t c3 E
    refine V_aload_n 0 dX3_addAll_18 rfl ?_
    refine V_geta (ci := 3) (k := 1) (N := 6) (T := TX3) (o' := 7) dX3_addAll_19 iuX3 fl_X3_16 rfl (by decide) rfl sh_0 rfl ?_
    refine V_aload_n 0 dX3_addAll_22 rfl ?_
    refine V_geta (ci := 3) (k := 0) (N := 6) (T := TX3) (o' := 1) dX3_addAll_23 iuX3 fl_X3_12 rfl (by decide) rfl sh_0 rfl ?_
    obtain ⟨q4, hq4, E⟩ := mmB_e E
    refine V_callVv (ci := 2) (q := (RX2, TX2, 10)) (Cn := RX2) (st := []) 1 dX3_addAll_26 (ct_X2_copyFrom sh_7 sh_1 hq4) ml_X3_40 im_X2_copyFrom sl_X2_copyFrom it_X2 cd_X2_copyFrom hy_X2_copyFrom ⟨rfl, rfl, by decide, by decide⟩ sh_7 rfl rfl rfl rfl (Nat.le_of_ble_eq_true rfl) ?_
    refine V_aload_n 0 dX3_addAll_29 rfl ?_
    refine V_aload_n 0 dX3_addAll_30 rfl ?_
    refine V_geta (ci := 3) (k := 5) (N := 6) (T := TX3) (o' := 45) dX3_addAll_31 iuX3 fl_X3_36 rfl (by decide) rfl sh_0 rfl ?_
    refine V_aload_n 0 dX3_addAll_34 rfl ?_
    refine V_geta (ci := 3) (k := 1) (N := 6) (T := TX3) (o' := 7) dX3_addAll_35 iuX3 fl_X3_16 rfl (by decide) rfl sh_0 rfl ?_
    obtain ⟨q6, hq6, E⟩ := mmB_e E
    refine V_callV (ci := 1) (q := (RX1, TX1, 8)) (Cn := RX1) (st := [.ref 0]) 1 dX3_addAll_38 (ct_X1_makeAdditions sh_7 hq6) ml_X3_69 im_X1_makeAdditions sl_X1_makeAdditions it_X1 cd_X1_makeAdditions hy_X1_makeAdditions ⟨rfl, rfl, by decide, by decide⟩ sh_45 rfl rfl rfl rfl (Nat.le_of_ble_eq_true rfl) (fun hv7 => ?_)
    obtain ⟨q8, hq8, E⟩ := mmB_e E
    refine V_callV (ci := 3) (q := (RX3, TX3, 6)) (Cn := RX3) (st := []) 1 dX3_addAll_41 (ct_X3_settle hv7 hq8) ml_X3_48 im_X3_settle sl_X3_settle it_X3 cd_X3_settle hy_X3_settle ⟨rfl, rfl, by decide, by decide⟩ sh_0 rfl rfl rfl rfl (Nat.le_of_ble_eq_true rfl) (fun hv9 => ?_)
    obtain rfl := Option.some.inj E
    exact V_reti dX3_addAll_44 ⟨rfl, rfl, hv9⟩
  · replace E := mmI_f c3 E
    refine V_bipush (v := (-100)) dX3_addAll_13 (by decide) ?_
    refine V_iload_n 1 dX3_addAll_15 rfl ?_
    obtain ⟨hv10, E⟩ := mmK_e E
    refine V_isub dX3_addAll_16 ?_
    obtain rfl := Option.some.inj E
    exact V_reti dX3_addAll_17 ⟨rfl, rfl, hv10⟩
theorem ct_X3_addAll {m : Mem} {r : Int × Mem} (E : f_X3_addAll m = some r) : CTi yX3_addAll cX3_addAll 2 (some .int) rm_X3_addAll [.ref 0] m r := CT_i (by decide +kernel) rfl (Nat.le_of_ble_eq_true rfl) (ok_X3_addAll  _  E)
theorem hy_X3_addAll : yX3_addAll.cls = RX3 ∧ yX3_addAll.cls ≠ "java/lang/invoke/MethodHandle" ∧ yX3_addAll.cls ≠ "java/lang/invoke/VarHandle" ∧ (parseMethodDescriptor yX3_addAll.desc).map (fun d => d.parameters.length) = some 0 := by decide +kernel
abbrev rm_X3_squeeze : Room := { frames := 5, cells := 0, slots := 0, locals := 105 }
noncomputable def f_X3_squeeze (m : Mem) : Option (Int × Mem) :=
  (f_X2_copyFrom 7 1 m).bind (fun q1 => (f_X2_giveBackDeadRoom 7 q1).bind (fun q3 => (f_X3_settle q3.1 q3.2).bind (fun q5 => some (q5.1, q5.2))))
set_option maxRecDepth 100000 in
set_option maxHeartbeats 4000000 in
theorem ok_X3_squeeze {r : Int × Mem} : ∀ (m : Mem), f_X3_squeeze m = some r → VV RX3 cX3_squeeze 1 rm_X3_squeeze mmG0 (mmPi r) 0 [(0, .ref 0)] [] m := by
  intro m E
  unfold f_X3_squeeze at E
  refine V_aload_n 0 dX3_squeeze_0 rfl ?_
  refine V_geta (ci := 3) (k := 1) (N := 6) (T := TX3) (o' := 7) dX3_squeeze_1 iuX3 fl_X3_16 rfl (by decide) rfl sh_0 rfl ?_
  refine V_aload_n 0 dX3_squeeze_4 rfl ?_
  refine V_geta (ci := 3) (k := 0) (N := 6) (T := TX3) (o' := 1) dX3_squeeze_5 iuX3 fl_X3_12 rfl (by decide) rfl sh_0 rfl ?_
  obtain ⟨q1, hq1, E⟩ := mmB_e E
  refine V_callVv (ci := 2) (q := (RX2, TX2, 10)) (Cn := RX2) (st := []) 1 dX3_squeeze_8 (ct_X2_copyFrom sh_7 sh_1 hq1) ml_X3_40 im_X2_copyFrom sl_X2_copyFrom it_X2 cd_X2_copyFrom hy_X2_copyFrom ⟨rfl, rfl, by decide, by decide⟩ sh_7 rfl rfl rfl rfl (Nat.le_of_ble_eq_true rfl) ?_
  refine V_aload_n 0 dX3_squeeze_11 rfl ?_
  refine V_aload_n 0 dX3_squeeze_12 rfl ?_
  refine V_geta (ci := 3) (k := 1) (N := 6) (T := TX3) (o' := 7) dX3_squeeze_13 iuX3 fl_X3_16 rfl (by decide) rfl sh_0 rfl ?_
  obtain ⟨q3, hq3, E⟩ := mmB_e E
  refine V_callV (ci := 2) (q := (RX2, TX2, 10)) (Cn := RX2) (st := [.ref 0]) 0 dX3_squeeze_16 (ct_X2_giveBackDeadRoom sh_7 hq3) ml_X3_73 im_X2_giveBackDeadRoom sl_X2_giveBackDeadRoom it_X2 cd_X2_giveBackDeadRoom hy_X2_giveBackDeadRoom ⟨rfl, rfl, by decide, by decide⟩ sh_7 rfl rfl rfl rfl (Nat.le_of_ble_eq_true rfl) (fun hv4 => ?_)
  obtain ⟨q5, hq5, E⟩ := mmB_e E
  refine V_callV (ci := 3) (q := (RX3, TX3, 6)) (Cn := RX3) (st := []) 1 dX3_squeeze_19 (ct_X3_settle hv4 hq5) ml_X3_48 im_X3_settle sl_X3_settle it_X3 cd_X3_settle hy_X3_settle ⟨rfl, rfl, by decide, by decide⟩ sh_0 rfl rfl rfl rfl (Nat.le_of_ble_eq_true rfl) (fun hv6 => ?_)
  obtain rfl := Option.some.inj E
  exact V_reti dX3_squeeze_22 ⟨rfl, rfl, hv6⟩
theorem ct_X3_squeeze {m : Mem} {r : Int × Mem} (E : f_X3_squeeze m = some r) : CTi yX3_squeeze cX3_squeeze 1 (some .int) rm_X3_squeeze [.ref 0] m r := CT_i (by decide +kernel) rfl (Nat.le_of_ble_eq_true rfl) (ok_X3_squeeze  _  E)
theorem hy_X3_squeeze : yX3_squeeze.cls = RX3 ∧ yX3_squeeze.cls ≠ "java/lang/invoke/MethodHandle" ∧ yX3_squeeze.cls ≠ "java/lang/invoke/VarHandle" ∧ (parseMethodDescriptor yX3_squeeze.desc).map (fun d => d.parameters.length) = some 0 := by decide +kernel
abbrev rm_X3_makeAnew : Room := { frames := 4, cells := 0, slots := 0, locals := 90 }
noncomputable def f_X3_makeAnew (l1 : Int) (m : Mem) : Option (Int × Mem) :=
  (f_X2_copyFrom 7 1 m).bind (fun q1 => (f_X2_changeBlocks 7 l1 q1).bind (fun q3 => (f_X3_settle q3.1 q3.2).bind (fun q5 => some (q5.1, q5.2))))
set_option maxRecDepth 100000 in
set_option maxHeartbeats 4000000 in
theorem ok_X3_makeAnew {r : Int × Mem} : ∀ (l1 : Int) (m : Mem), inR l1 → f_X3_makeAnew l1 m = some r → VV RX3 cX3_makeAnew 2 rm_X3_makeAnew mmG0 (mmPi r) 0 [(0, .ref 0), (1, vi l1)] [] m := by
  intro l1 m hr1 E
  unfold f_X3_makeAnew at E
  refine V_aload_n 0 dX3_makeAnew_0 rfl ?_
  refine V_geta (ci := 3) (k := 1) (N := 6) (T := TX3) (o' := 7) dX3_makeAnew_1 iuX3 fl_X3_16 rfl (by decide) rfl sh_0 rfl ?_
  refine V_aload_n 0 dX3_makeAnew_4 rfl ?_
  refine V_geta (ci := 3) (k := 0) (N := 6) (T := TX3) (o' := 1) dX3_makeAnew_5 iuX3 fl_X3_12 rfl (by decide) rfl sh_0 rfl ?_
  obtain ⟨q1, hq1, E⟩ := mmB_e E
  refine V_callVv (ci := 2) (q := (RX2, TX2, 10)) (Cn := RX2) (st := []) 1 dX3_makeAnew_8 (ct_X2_copyFrom sh_7 sh_1 hq1) ml_X3_40 im_X2_copyFrom sl_X2_copyFrom it_X2 cd_X2_copyFrom hy_X2_copyFrom ⟨rfl, rfl, by decide, by decide⟩ sh_7 rfl rfl rfl rfl (Nat.le_of_ble_eq_true rfl) ?_
  refine V_aload_n 0 dX3_makeAnew_11 rfl ?_
  refine V_aload_n 0 dX3_makeAnew_12 rfl ?_
  refine V_geta (ci := 3) (k := 1) (N := 6) (T := TX3) (o' := 7) dX3_makeAnew_13 iuX3 fl_X3_16 rfl (by decide) rfl sh_0 rfl ?_
  refine V_iload_n 1 dX3_makeAnew_16 rfl ?_
  obtain ⟨q3, hq3, E⟩ := mmB_e E
  refine V_callV (ci := 2) (q := (RX2, TX2, 10)) (Cn := RX2) (st := [.ref 0]) 1 dX3_makeAnew_17 (ct_X2_changeBlocks sh_7 hr1 hq3) ml_X3_76 im_X2_changeBlocks sl_X2_changeBlocks it_X2 cd_X2_changeBlocks hy_X2_changeBlocks ⟨rfl, rfl, by decide, by decide⟩ sh_7 rfl rfl rfl rfl (Nat.le_of_ble_eq_true rfl) (fun hv4 => ?_)
  obtain ⟨q5, hq5, E⟩ := mmB_e E
  refine V_callV (ci := 3) (q := (RX3, TX3, 6)) (Cn := RX3) (st := []) 1 dX3_makeAnew_20 (ct_X3_settle hv4 hq5) ml_X3_48 im_X3_settle sl_X3_settle it_X3 cd_X3_settle hy_X3_settle ⟨rfl, rfl, by decide, by decide⟩ sh_0 rfl rfl rfl rfl (Nat.le_of_ble_eq_true rfl) (fun hv6 => ?_)
  obtain rfl := Option.some.inj E
  exact V_reti dX3_makeAnew_23 ⟨rfl, rfl, hv6⟩
theorem ct_X3_makeAnew {l1 : Int} {m : Mem} {r : Int × Mem} (hr1 : inR l1) (E : f_X3_makeAnew l1 m = some r) : CTi yX3_makeAnew cX3_makeAnew 2 (some .int) rm_X3_makeAnew [.ref 0, vi l1] m r := CT_i (by decide +kernel) rfl (Nat.le_of_ble_eq_true rfl) (ok_X3_makeAnew _ _ hr1 E)
theorem hy_X3_makeAnew : yX3_makeAnew.cls = RX3 ∧ yX3_makeAnew.cls ≠ "java/lang/invoke/MethodHandle" ∧ yX3_makeAnew.cls ≠ "java/lang/invoke/VarHandle" ∧ (parseMethodDescriptor yX3_makeAnew.desc).map (fun d => d.parameters.length) = some 1 := by decide +kernel
abbrev rm_X3_type : Room := { frames := 1, cells := 0, slots := 0, locals := 21 }
noncomputable def f_X3_type (l1 : Int) (m : Mem) : Option (Int × Mem) :=
  (f_X1_append l1 m).bind (fun q1 => some (q1.1, q1.2))
set_option maxRecDepth 100000 in
set_option maxHeartbeats 4000000 in
theorem ok_X3_type {r : Int × Mem} : ∀ (l1 : Int) (m : Mem), inR l1 → f_X3_type l1 m = some r → VV RX3 cX3_type 2 rm_X3_type mmG0 (mmPi r) 0 [(0, .ref 0), (1, vi l1)] [] m := by
  intro l1 m hr1 E
  unfold f_X3_type at E
  refine V_aload_n 0 dX3_type_0 rfl ?_
  refine V_geta (ci := 3) (k := 5) (N := 6) (T := TX3) (o' := 45) dX3_type_1 iuX3 fl_X3_36 rfl (by decide) rfl sh_0 rfl ?_
  refine V_iload_n 1 dX3_type_4 rfl ?_
  obtain ⟨q1, hq1, E⟩ := mmB_e E
  refine V_callV (ci := 1) (q := (RX1, TX1, 8)) (Cn := RX1) (st := []) 1 dX3_type_5 (ct_X1_append hr1 hq1) ml_X3_79 im_X1_append sl_X1_append it_X1 cd_X1_append hy_X1_append ⟨rfl, rfl, by decide, by decide⟩ sh_45 rfl rfl rfl rfl (Nat.le_of_ble_eq_true rfl) (fun hv2 => ?_)
  obtain rfl := Option.some.inj E
  exact V_reti dX3_type_8 ⟨rfl, rfl, hv2⟩
theorem ct_X3_type {l1 : Int} {m : Mem} {r : Int × Mem} (hr1 : inR l1) (E : f_X3_type l1 m = some r) : CTi yX3_type cX3_type 2 (some .int) rm_X3_type [.ref 0, vi l1] m r := CT_i (by decide +kernel) rfl (Nat.le_of_ble_eq_true rfl) (ok_X3_type _ _ hr1 E)
theorem hy_X3_type : yX3_type.cls = RX3 ∧ yX3_type.cls ≠ "java/lang/invoke/MethodHandle" ∧ yX3_type.cls ≠ "java/lang/invoke/VarHandle" ∧ (parseMethodDescriptor yX3_type.desc).map (fun d => d.parameters.length) = some 1 := by decide +kernel
