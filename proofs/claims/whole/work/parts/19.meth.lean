abbrev rm_X4_named : Room := { frames := 1, cells := 0, slots := 0, locals := 22 }
def f_X4_named (l1 : Int) (m : Mem) : Option (Int × Mem) :=
  if 0 ≤ l1 then
(if (m.1 52 0) ≤ l1 then
(some ((-5), m))
else
((f_X4_of l1 0 m).bind (fun q5 => some (q5.1, q5.2))))
else
(some ((-2), m))
set_option maxRecDepth 100000 in
set_option maxHeartbeats 4000000 in
theorem ok_X4_named {r : Int × Mem} : ∀ (l1 : Int) (m : Mem), inR l1 → f_X4_named l1 m = some r → VV RX4 cX4_named 2 rm_X4_named mmG0 (mmPi r) 0 [(0, .ref 51), (1, vi l1)] [] m := by
  intro l1 m hr1 E
  unfold f_X4_named at E
  refine V_iload_n 1 dX4_named_0 rfl ?_
  refine V_if_ge 7 dX4_named_1 (by decide) hr1 (fun c1 => ?_) (fun c1 => ?_)
  · replace E := mmI_t c1 E
    refine V_iload_n 1 dX4_named_7 rfl ?_
    refine V_aload_n 0 dX4_named_8 rfl ?_
    refine V_geta (ci := 4) (k := 0) (N := 12) (T := TX4) (o' := 52) dX4_named_9 iuX4 fl_X4_7 rfl (by decide) rfl sh_51 rfl ?_
    refine V_iconst dX4_named_12 rfl ?_
    refine V_iald (n := 149) (j := 0) dX4_named_13 sh_52 ir_0 (by decide) rfl (fun hv3 => ?_)
    refine V_icmp_ge 26 dX4_named_14 (by decide) hr1 hv3 (fun c4 => ?_) (fun c4 => ?_)
    · replace E := mmI_t c4 E
      refine V_bipush (v := (-5)) dX4_named_26 (by decide) ?_
      obtain rfl := Option.some.inj E
      exact V_reti dX4_named_28 ⟨rfl, rfl, ir_m5⟩
    · replace E := mmI_f c4 E
      refine V_aload_n 0 dX4_named_17 rfl ?_
      refine V_iload_n 1 dX4_named_18 rfl ?_
      refine V_iconst dX4_named_19 rfl ?_
      obtain ⟨q5, hq5, E⟩ := mmB_e E
      refine V_callV (ci := 4) (q := (RX4, TX4, 12)) (Cn := RX4) (st := []) 2 dX4_named_20 (ct_X4_of hr1 ir_0 hq5) ml_X4_38 im_X4_of sl_X4_of it_X4 cd_X4_of hy_X4_of ⟨rfl, rfl, by decide, by decide⟩ sh_51 rfl rfl rfl rfl (Nat.le_of_ble_eq_true rfl) (fun hv6 => ?_)
      refine V_goto 28 dX4_named_23 (by decide) ?_
      obtain rfl := Option.some.inj E
      exact V_reti dX4_named_28 ⟨rfl, rfl, hv6⟩
  · replace E := mmI_f c1 E
    refine V_bipush (v := (-2)) dX4_named_4 (by decide) ?_
    obtain rfl := Option.some.inj E
    exact V_reti dX4_named_6 ⟨rfl, rfl, ir_m2⟩
theorem ct_X4_named {l1 : Int} {m : Mem} {r : Int × Mem} (hr1 : inR l1) (E : f_X4_named l1 m = some r) : CTi yX4_named cX4_named 2 (some .int) rm_X4_named [.ref 51, vi l1] m r := CT_i (by decide +kernel) rfl (Nat.le_of_ble_eq_true rfl) (ok_X4_named _ _ hr1 E)
theorem hy_X4_named : yX4_named.cls = RX4 ∧ yX4_named.cls ≠ "java/lang/invoke/MethodHandle" ∧ yX4_named.cls ≠ "java/lang/invoke/VarHandle" ∧ (parseMethodDescriptor yX4_named.desc).map (fun d => d.parameters.length) = some 1 := by decide +kernel
abbrev rm_X4_block : Room := { frames := 1, cells := 0, slots := 0, locals := 25 }
def f_X4_block_L70 (l2 : Int) (l3 : Int) (s0 : Int) (m : Mem) : Option (Int × Mem) :=
  if l2 = 0 then
(some (s0, m))
else
(if s0 = 0 then
(some ((-5), m))
else
(if l2 = 1 then
((f_X4_of l3 0 m).bind (fun q23 => some (q23.1, q23.2)))
else
(mmK (inR (l3 + s0)) (mmK (inR ((l3 + s0) - 1)) ((f_X4_of ((l3 + s0) - 1) 0 m).bind (fun q21 => some (q21.1, q21.2)))))))
set_option maxRecDepth 100000 in
set_option maxHeartbeats 4000000 in
theorem ok_X4_block_L70 {r : Int × Mem} : ∀ (l2 : Int) (l3 : Int) (s0 : Int) (m : Mem), inR l2 → inR l3 → inR s0 → f_X4_block_L70 l2 l3 s0 m = some r → VV RX4 cX4_block 6 rm_X4_block mmG0 (mmPi r) 70 [(0, .ref 51), (2, vi l2), (3, vi l3)] [vi s0] m := by
  intro l2 l3 s0 m hr2 hr3 hrs0 E
  unfold f_X4_block_L70 at E
  refine V_istore (lv' := [(0, .ref 51), (2, vi l2), (3, vi l3), (5, vi s0)]) dX4_block_70 rfl rfl ?_
  refine V_iload_n 1 dX4_block_72 rfl ?_
  refine V_if_ne 81 dX4_block_73 (by decide) hr2 (fun c16 => ?_) (fun c16 => ?_)
  · replace E := mmI_f c16 E
    refine V_iload 3 dX4_block_81 rfl ?_
    refine V_if_ne 91 dX4_block_83 (by decide) hrs0 (fun c17 => ?_) (fun c17 => ?_)
    · replace E := mmI_f c17 E
      refine V_aload_n 0 dX4_block_91 rfl ?_
      refine V_iload_n 1 dX4_block_92 rfl ?_
      refine V_iconst dX4_block_93 rfl ?_
      refine V_icmp_ne 101 dX4_block_94 (by decide) hr2 ir_1 (fun c18 => ?_) (fun c18 => ?_)
      · replace E := mmI_f c18 E
        refine V_iload_n 2 dX4_block_101 rfl ?_
        refine V_iload 3 dX4_block_102 rfl ?_
        obtain ⟨hv19, E⟩ := mmK_e E
        refine V_iadd dX4_block_104 ?_
        refine V_iconst dX4_block_105 rfl ?_
        obtain ⟨hv20, E⟩ := mmK_e E
        refine V_isub dX4_block_106 ?_
        refine V_iconst dX4_block_107 rfl ?_
        obtain ⟨q21, hq21, E⟩ := mmB_e E
        refine V_callV (ci := 4) (q := (RX4, TX4, 12)) (Cn := RX4) (st := []) 2 dX4_block_108 (ct_X4_of hv20 ir_0 hq21) ml_X4_38 im_X4_of sl_X4_of it_X4 cd_X4_of hy_X4_of ⟨rfl, rfl, by decide, by decide⟩ sh_51 rfl rfl rfl rfl (Nat.le_of_ble_eq_true rfl) (fun hv22 => ?_)
        obtain rfl := Option.some.inj E
        exact V_reti dX4_block_111 ⟨rfl, rfl, hv22⟩
      · replace E := mmI_t c18 E
        refine V_iload_n 2 dX4_block_97 rfl ?_
        refine V_goto 107 dX4_block_98 (by decide) ?_
        refine V_iconst dX4_block_107 rfl ?_
        obtain ⟨q23, hq23, E⟩ := mmB_e E
        refine V_callV (ci := 4) (q := (RX4, TX4, 12)) (Cn := RX4) (st := []) 2 dX4_block_108 (ct_X4_of hr3 ir_0 hq23) ml_X4_38 im_X4_of sl_X4_of it_X4 cd_X4_of hy_X4_of ⟨rfl, rfl, by decide, by decide⟩ sh_51 rfl rfl rfl rfl (Nat.le_of_ble_eq_true rfl) (fun hv24 => ?_)
        obtain rfl := Option.some.inj E
        exact V_reti dX4_block_111 ⟨rfl, rfl, hv24⟩
    · replace E := mmI_t c17 E
      refine V_bipush (v := (-5)) dX4_block_86 (by decide) ?_
      refine V_goto 111 dX4_block_88 (by decide) ?_
      obtain rfl := Option.some.inj E
      exact V_reti dX4_block_111 ⟨rfl, rfl, ir_m5⟩
  · replace E := mmI_t c16 E
    refine V_iload 3 dX4_block_76 rfl ?_
    refine V_goto 111 dX4_block_78 (by decide) ?_
    obtain rfl := Option.some.inj E
    exact V_reti dX4_block_111 ⟨rfl, rfl, hrs0⟩
def f_X4_block (l1 : Int) (l2 : Int) (m : Mem) : Option (Int × Mem) :=
  mmK (inL ((m.1 52 1) - 1)) ((f_X4_in l1 0 ((m.1 52 1) - 1) m).bind (fun q4 => if q4.1 = 0 then
(some ((-1), q4.2))
else
((f_X4_in l2 0 2 q4.2).bind (fun q7 => if q7.1 = 0 then
(some ((-2), q7.2))
else
(mmK (inR (4 * l1)) (mmK (inR ((q7.2.1 52 0) - (4 * l1))) (if 0 ≤ ((q7.2.1 52 0) - (4 * l1)) then
(if 4 ≤ ((q7.2.1 52 0) - (4 * l1)) then
(f_X4_block_L70 l2 (4 * l1) 4 q7.2)
else
(f_X4_block_L70 l2 (4 * l1) ((q7.2.1 52 0) - (4 * l1)) q7.2))
else
(f_X4_block_L70 l2 (4 * l1) 0 q7.2))))))))
set_option maxRecDepth 100000 in
set_option maxHeartbeats 4000000 in
theorem ok_X4_block {r : Int × Mem} : ∀ (l1 : Int) (l2 : Int) (m : Mem), inR l1 → inR l2 → f_X4_block l1 l2 m = some r → VV RX4 cX4_block 6 rm_X4_block mmG0 (mmPi r) 0 [(0, .ref 51), (1, vi l1), (2, vi l2)] [] m := by
  intro l1 l2 m hr1 hr2 E
  unfold f_X4_block at E
  refine V_iload_n 1 dX4_block_0 rfl ?_
  refine V_i2l dX4_block_1 hr1 ?_
  refine V_lconst (v := 0) dX4_block_2 (by decide) ?_
  refine V_aload_n 0 dX4_block_3 rfl ?_
  refine V_geta (ci := 4) (k := 0) (N := 12) (T := TX4) (o' := 52) dX4_block_4 iuX4 fl_X4_7 rfl (by decide) rfl sh_51 rfl ?_
  refine V_iconst dX4_block_7 rfl ?_
  refine V_iald (n := 149) (j := 1) dX4_block_8 sh_52 ir_1 (by decide) rfl (fun hv2 => ?_)
  refine V_i2l dX4_block_9 hv2 ?_
  refine V_lconst (v := 1) dX4_block_10 (by decide) ?_
  obtain ⟨hv3, E⟩ := mmK_e E
  refine V_lsub dX4_block_11 ?_
  obtain ⟨q4, hq4, E⟩ := mmB_e E
  refine V_callS (st := []) 3 dX4_block_12 (ct_X4_in (inRL hr1) (by decide) hv3 hq4) ml_X4_34 st_X4_in it_X4 cd_X4_in hz_X4_in ⟨rfl, rfl, by decide, by decide⟩ rfl rfl (Nat.le_of_ble_eq_true rfl) (fun hv5 => ?_)
  refine V_if_ne 20 dX4_block_15 (by decide) hv5 (fun c6 => ?_) (fun c6 => ?_)
  · replace E := mmI_f c6 E
    refine V_iload_n 2 dX4_block_20 rfl ?_
    refine V_i2l dX4_block_21 hr2 ?_
    refine V_lconst (v := 0) dX4_block_22 (by decide) ?_
    refine V_ldc2 (v := 2) dX4_block_23 kl_X4_145 (by decide) ?_
    obtain ⟨q7, hq7, E⟩ := mmB_e E
    refine V_callS (st := []) 3 dX4_block_26 (ct_X4_in (inRL hr2) (by decide) (by decide) hq7) ml_X4_34 st_X4_in it_X4 cd_X4_in hz_X4_in ⟨rfl, rfl, by decide, by decide⟩ rfl rfl (Nat.le_of_ble_eq_true rfl) (fun hv8 => ?_)
    refine V_if_ne 35 dX4_block_29 (by decide) hv8 (fun c9 => ?_) (fun c9 => ?_)
    · replace E := mmI_f c9 E
      refine V_iconst dX4_block_35 rfl ?_
      refine V_iload_n 1 dX4_block_36 rfl ?_
      obtain ⟨hv10, E⟩ := mmK_e E
      refine V_imul dX4_block_37 ?_
      refine V_istore_n (i := 3) (lv' := [(0, .ref 51), (1, vi l1), (2, vi l2), (3, vi (4 * l1))]) dX4_block_38 rfl rfl rfl ?_
      refine V_aload_n 0 dX4_block_39 rfl ?_
      refine V_geta (ci := 4) (k := 0) (N := 12) (T := TX4) (o' := 52) dX4_block_40 iuX4 fl_X4_7 rfl (by decide) rfl sh_51 rfl ?_
      refine V_iconst dX4_block_43 rfl ?_
      refine V_iald (n := 149) (j := 0) dX4_block_44 sh_52 ir_0 (by decide) rfl (fun hv12 => ?_)
      refine V_iload_n 3 dX4_block_45 rfl ?_
      obtain ⟨hv13, E⟩ := mmK_e E
      refine V_isub dX4_block_46 ?_
      refine V_istore (lv' := [(0, .ref 51), (1, vi l1), (2, vi l2), (3, vi (4 * l1)), (4, vi ((q7.2.1 52 0) - (4 * l1)))]) dX4_block_47 rfl rfl ?_
      refine V_iload 4 dX4_block_49 rfl ?_
      refine V_if_ge 58 dX4_block_51 (by decide) hv13 (fun c14 => ?_) (fun c14 => ?_)
      · replace E := mmI_t c14 E
        refine V_iload 4 dX4_block_58 rfl ?_
        refine V_iconst dX4_block_60 rfl ?_
        refine V_icmp_ge 69 dX4_block_61 (by decide) hv13 ir_4 (fun c15 => ?_) (fun c15 => ?_)
        · replace E := mmI_t c15 E
          refine V_iconst dX4_block_69 rfl ?_
          refine V_sub [0, 2, 3] rfl ?_
          exact ok_X4_block_L70 _ _ _ _ hr2 hv10 ir_4 E
        · replace E := mmI_f c15 E
          refine V_iload 4 dX4_block_64 rfl ?_
          refine V_goto 70 dX4_block_66 (by decide) ?_
          refine V_sub [0, 2, 3] rfl ?_
          exact ok_X4_block_L70 _ _ _ _ hr2 hv10 hv13 E
      · replace E := mmI_f c14 E
        refine V_iconst dX4_block_54 rfl ?_
        refine V_goto 70 dX4_block_55 (by decide) ?_
        refine V_sub [0, 2, 3] rfl ?_
        exact ok_X4_block_L70 _ _ _ _ hr2 hv10 ir_0 E
    · replace E := mmI_t c9 E
      refine V_bipush (v := (-2)) dX4_block_32 (by decide) ?_
      obtain rfl := Option.some.inj E
      exact V_reti dX4_block_34 ⟨rfl, rfl, ir_m2⟩
  · replace E := mmI_t c6 E
    refine V_iconst dX4_block_18 rfl ?_
    obtain rfl := Option.some.inj E
    exact V_reti dX4_block_19 ⟨rfl, rfl, ir_m1⟩
theorem ct_X4_block {l1 : Int} {l2 : Int} {m : Mem} {r : Int × Mem} (hr1 : inR l1) (hr2 : inR l2) (E : f_X4_block l1 l2 m = some r) : CTi yX4_block cX4_block 6 (some .int) rm_X4_block [.ref 51, vi l1, vi l2] m r := CT_i (by decide +kernel) rfl (Nat.le_of_ble_eq_true rfl) (ok_X4_block _ _ _ hr1 hr2 E)
theorem hy_X4_block : yX4_block.cls = RX4 ∧ yX4_block.cls ≠ "java/lang/invoke/MethodHandle" ∧ yX4_block.cls ≠ "java/lang/invoke/VarHandle" ∧ (parseMethodDescriptor yX4_block.desc).map (fun d => d.parameters.length) = some 2 := by decide +kernel
abbrev rm_X4_at : Room := { frames := 1, cells := 0, slots := 0, locals := 25 }
def f_X4_at_L29 : Nat → Int → Int → Mem → Option (Int × Mem)
  | 0, _, _, _ => none
  | n + 1, l1, l2, m =>
    if (m.1 52 0) ≤ l2 then
(some (1000, m))
else
((f_X4_of l2 2 m).bind (fun q10 => (f_X4_of l2 2 q10.2).bind (fun q12 => (f_X4_of l2 3 q12.2).bind (fun q14 => mmK (inR (q12.1 + q14.1)) (mmK (inL ((q12.1 + q14.1) - 1)) ((f_X4_in l1 q10.1 ((q12.1 + q14.1) - 1) q14.2).bind (fun q18 => if q18.1 = 0 then
(mmK (inR (l2 + 1)) (f_X4_at_L29 n l1 (l2 + 1) q18.2))
else
((f_X4_of l2 0 q18.2).bind (fun q22 => some (q22.1, q22.2))))))))))
set_option maxRecDepth 100000 in
set_option maxHeartbeats 4000000 in
theorem ok_X4_at_L29 {r : Int × Mem} : ∀ (n : Nat), ∀ (l1 : Int) (l2 : Int) (m : Mem), inR l1 → inR l2 → f_X4_at_L29 n l1 l2 m = some r → VV RX4 cX4_at 3 rm_X4_at mmG0 (mmPi r) 29 [(0, .ref 51), (1, vi l1), (2, vi l2)] [] m := by
  intro n
  induction n with
  | zero =>
    intro l1 l2 m hr1 hr2 E
    cases E
  | succ n ih =>
    intro l1 l2 m hr1 hr2 E
    rw [f_X4_at_L29] at E
    refine V_iload_n 2 dX4_at_29 rfl ?_
    refine V_aload_n 0 dX4_at_30 rfl ?_
    refine V_geta (ci := 4) (k := 0) (N := 12) (T := TX4) (o' := 52) dX4_at_31 iuX4 fl_X4_7 rfl (by decide) rfl sh_51 rfl ?_
    refine V_iconst dX4_at_34 rfl ?_
    refine V_iald (n := 149) (j := 0) dX4_at_35 sh_52 ir_0 (by decide) rfl (fun hv8 => ?_)
    refine V_icmp_ge 83 dX4_at_36 (by decide) hr2 hv8 (fun c9 => ?_) (fun c9 => ?_)
    · replace E := mmI_t c9 E
      refine V_sipush (v := 1000) dX4_at_83 (by decide) ?_
      obtain rfl := Option.some.inj E
      exact V_reti dX4_at_86 ⟨rfl, rfl, ir_1000⟩
    · replace E := mmI_f c9 E
      refine V_iload_n 1 dX4_at_39 rfl ?_
      refine V_i2l dX4_at_40 hr1 ?_
      refine V_aload_n 0 dX4_at_41 rfl ?_
      refine V_iload_n 2 dX4_at_42 rfl ?_
      refine V_iconst dX4_at_43 rfl ?_
      obtain ⟨q10, hq10, E⟩ := mmB_e E
      refine V_callV (ci := 4) (q := (RX4, TX4, 12)) (Cn := RX4) (st := [vl l1]) 2 dX4_at_44 (ct_X4_of hr2 ir_2 hq10) ml_X4_38 im_X4_of sl_X4_of it_X4 cd_X4_of hy_X4_of ⟨rfl, rfl, by decide, by decide⟩ sh_51 rfl rfl rfl rfl (Nat.le_of_ble_eq_true rfl) (fun hv11 => ?_)
      refine V_i2l dX4_at_47 hv11 ?_
      refine V_aload_n 0 dX4_at_48 rfl ?_
      refine V_iload_n 2 dX4_at_49 rfl ?_
      refine V_iconst dX4_at_50 rfl ?_
      obtain ⟨q12, hq12, E⟩ := mmB_e E
      refine V_callV (ci := 4) (q := (RX4, TX4, 12)) (Cn := RX4) (st := [vl q10.1, vl l1]) 2 dX4_at_51 (ct_X4_of hr2 ir_2 hq12) ml_X4_38 im_X4_of sl_X4_of it_X4 cd_X4_of hy_X4_of ⟨rfl, rfl, by decide, by decide⟩ sh_51 rfl rfl rfl rfl (Nat.le_of_ble_eq_true rfl) (fun hv13 => ?_)
      refine V_aload_n 0 dX4_at_54 rfl ?_
      refine V_iload_n 2 dX4_at_55 rfl ?_
      refine V_iconst dX4_at_56 rfl ?_
      obtain ⟨q14, hq14, E⟩ := mmB_e E
      refine V_callV (ci := 4) (q := (RX4, TX4, 12)) (Cn := RX4) (st := [vi q12.1, vl q10.1, vl l1]) 2 dX4_at_57 (ct_X4_of hr2 ir_3 hq14) ml_X4_38 im_X4_of sl_X4_of it_X4 cd_X4_of hy_X4_of ⟨rfl, rfl, by decide, by decide⟩ sh_51 rfl rfl rfl rfl (Nat.le_of_ble_eq_true rfl) (fun hv15 => ?_)
      obtain ⟨hv16, E⟩ := mmK_e E
      refine V_iadd dX4_at_60 ?_
      refine V_i2l dX4_at_61 hv16 ?_
      refine V_lconst (v := 1) dX4_at_62 (by decide) ?_
      obtain ⟨hv17, E⟩ := mmK_e E
      refine V_lsub dX4_at_63 ?_
      obtain ⟨q18, hq18, E⟩ := mmB_e E
      refine V_callS (st := []) 3 dX4_at_64 (ct_X4_in (inRL hr1) (inRL hv11) hv17 hq18) ml_X4_34 st_X4_in it_X4 cd_X4_in hz_X4_in ⟨rfl, rfl, by decide, by decide⟩ rfl rfl (Nat.le_of_ble_eq_true rfl) (fun hv19 => ?_)
      refine V_if_eq 77 dX4_at_67 (by decide) hv19 (fun c20 => ?_) (fun c20 => ?_)
      · replace E := mmI_t c20 E
        obtain ⟨hv21, E⟩ := mmK_e E
        refine V_iinc (v := (l2 + 1)) (lv' := [(0, .ref 51), (1, vi l1), (2, vi (l2 + 1))]) 2 dX4_at_77 rfl rfl rfl rfl ?_
        refine V_goto 29 dX4_at_80 (by decide) ?_
        exact ih _ _ _ hr1 hv21 E
      · replace E := mmI_f c20 E
        refine V_aload_n 0 dX4_at_70 rfl ?_
        refine V_iload_n 2 dX4_at_71 rfl ?_
        refine V_iconst dX4_at_72 rfl ?_
        obtain ⟨q22, hq22, E⟩ := mmB_e E
        refine V_callV (ci := 4) (q := (RX4, TX4, 12)) (Cn := RX4) (st := []) 2 dX4_at_73 (ct_X4_of hr2 ir_0 hq22) ml_X4_38 im_X4_of sl_X4_of it_X4 cd_X4_of hy_X4_of ⟨rfl, rfl, by decide, by decide⟩ sh_51 rfl rfl rfl rfl (Nat.le_of_ble_eq_true rfl) (fun hv23 => ?_)
        obtain rfl := Option.some.inj E
        exact V_reti dX4_at_76 ⟨rfl, rfl, hv23⟩
def f_X4_at (l1 : Int) (m : Mem) : Option (Int × Mem) :=
  (f_X4_in l1 0 99 m).bind (fun q1 => if q1.1 = 0 then
(some ((-1), q1.2))
else
(if l1 < (q1.2.1 52 2) then
(f_X4_at_L29 mmFU l1 0 q1.2)
else
(some ((-5), q1.2))))
set_option maxRecDepth 100000 in
set_option maxHeartbeats 4000000 in
theorem ok_X4_at {r : Int × Mem} : ∀ (l1 : Int) (m : Mem), inR l1 → f_X4_at l1 m = some r → VV RX4 cX4_at 3 rm_X4_at mmG0 (mmPi r) 0 [(0, .ref 51), (1, vi l1)] [] m := by
  intro l1 m hr1 E
  unfold f_X4_at at E
  refine V_iload_n 1 dX4_at_0 rfl ?_
  refine V_i2l dX4_at_1 hr1 ?_
  refine V_lconst (v := 0) dX4_at_2 (by decide) ?_
  refine V_ldc2 (v := 99) dX4_at_3 kl_X4_147 (by decide) ?_
  obtain ⟨q1, hq1, E⟩ := mmB_e E
  refine V_callS (st := []) 3 dX4_at_6 (ct_X4_in (inRL hr1) (by decide) (by decide) hq1) ml_X4_34 st_X4_in it_X4 cd_X4_in hz_X4_in ⟨rfl, rfl, by decide, by decide⟩ rfl rfl (Nat.le_of_ble_eq_true rfl) (fun hv2 => ?_)
  refine V_if_ne 14 dX4_at_9 (by decide) hv2 (fun c3 => ?_) (fun c3 => ?_)
  · replace E := mmI_f c3 E
    refine V_iload_n 1 dX4_at_14 rfl ?_
    refine V_aload_n 0 dX4_at_15 rfl ?_
    refine V_geta (ci := 4) (k := 0) (N := 12) (T := TX4) (o' := 52) dX4_at_16 iuX4 fl_X4_7 rfl (by decide) rfl sh_51 rfl ?_
    refine V_iconst dX4_at_19 rfl ?_
    refine V_iald (n := 149) (j := 2) dX4_at_20 sh_52 ir_2 (by decide) rfl (fun hv5 => ?_)
    refine V_icmp_lt 27 dX4_at_21 (by decide) hr1 hv5 (fun c6 => ?_) (fun c6 => ?_)
    · replace E := mmI_t c6 E
      refine V_iconst dX4_at_27 rfl ?_
      refine V_istore_n (i := 2) (lv' := [(0, .ref 51), (1, vi l1), (2, vi 0)]) dX4_at_28 rfl rfl rfl ?_
      exact ok_X4_at_L29 mmFU _ _ _ hr1 ir_0 E
    · replace E := mmI_f c6 E
      refine V_bipush (v := (-5)) dX4_at_24 (by decide) ?_
      obtain rfl := Option.some.inj E
      exact V_reti dX4_at_26 ⟨rfl, rfl, ir_m5⟩
  · replace E := mmI_t c3 E
    refine V_iconst dX4_at_12 rfl ?_
    obtain rfl := Option.some.inj E
    exact V_reti dX4_at_13 ⟨rfl, rfl, ir_m1⟩
theorem ct_X4_at {l1 : Int} {m : Mem} {r : Int × Mem} (hr1 : inR l1) (E : f_X4_at l1 m = some r) : CTi yX4_at cX4_at 3 (some .int) rm_X4_at [.ref 51, vi l1] m r := CT_i (by decide +kernel) rfl (Nat.le_of_ble_eq_true rfl) (ok_X4_at _ _ hr1 E)
theorem hy_X4_at : yX4_at.cls = RX4 ∧ yX4_at.cls ≠ "java/lang/invoke/MethodHandle" ∧ yX4_at.cls ≠ "java/lang/invoke/VarHandle" ∧ (parseMethodDescriptor yX4_at.desc).map (fun d => d.parameters.length) = some 1 := by decide +kernel
abbrev rm_X4_fits : Room := { frames := 3, cells := 0, slots := 0, locals := 69 }
def f_X4_fits (l1 : Int) (m : Mem) : Option (Int × Mem) :=
  (f_X4_in l1 1 40 m).bind (fun q1 => if q1.1 = 0 then
(some ((-2), q1.2))
else
((f_X4_isRoomFor l1 q1.2).bind (fun q4 => if q4.1 = 0 then
((f_X4_living 1 q4.2).bind (fun q7 => mmK (inR (q7.1 + l1)) (if 100 < (q7.1 + l1) then
(some (2, q7.2))
else
(some (1, q7.2)))))
else
(some (0, q4.2)))))
set_option maxRecDepth 100000 in
set_option maxHeartbeats 4000000 in
theorem ok_X4_fits {r : Int × Mem} : ∀ (l1 : Int) (m : Mem), inR l1 → f_X4_fits l1 m = some r → VV RX4 cX4_fits 2 rm_X4_fits mmG0 (mmPi r) 0 [(0, .ref 51), (1, vi l1)] [] m := by
  intro l1 m hr1 E
  unfold f_X4_fits at E
  refine V_iload_n 1 dX4_fits_0 rfl ?_
  refine V_i2l dX4_fits_1 hr1 ?_
  refine V_lconst (v := 1) dX4_fits_2 (by decide) ?_
  refine V_ldc2 (v := 40) dX4_fits_3 kl_X4_60 (by decide) ?_
  obtain ⟨q1, hq1, E⟩ := mmB_e E
  refine V_callS (st := []) 3 dX4_fits_6 (ct_X4_in (inRL hr1) (by decide) (by decide) hq1) ml_X4_34 st_X4_in it_X4 cd_X4_in hz_X4_in ⟨rfl, rfl, by decide, by decide⟩ rfl rfl (Nat.le_of_ble_eq_true rfl) (fun hv2 => ?_)
  refine V_if_ne 15 dX4_fits_9 (by decide) hv2 (fun c3 => ?_) (fun c3 => ?_)
  · replace E := mmI_f c3 E
    refine V_aload_n 0 dX4_fits_15 rfl ?_
    refine V_iload_n 1 dX4_fits_16 rfl ?_
    obtain ⟨q4, hq4, E⟩ := mmB_e E
    refine V_callV (ci := 4) (q := (RX4, TX4, 12)) (Cn := RX4) (st := []) 1 dX4_fits_17 (ct_X4_isRoomFor hr1 hq4) ml_X4_68 im_X4_isRoomFor sl_X4_isRoomFor it_X4 cd_X4_isRoomFor hy_X4_isRoomFor ⟨rfl, rfl, by decide, by decide⟩ sh_51 rfl rfl rfl rfl (Nat.le_of_ble_eq_true rfl) (fun hv5 => ?_)
    refine V_if_eq 27 dX4_fits_20 (by decide) hv5 (fun c6 => ?_) (fun c6 => ?_)
    · replace E := mmI_t c6 E
      refine V_aload_n 0 dX4_fits_27 rfl ?_
      refine V_iconst dX4_fits_28 rfl ?_
      obtain ⟨q7, hq7, E⟩ := mmB_e E
      refine V_callV (ci := 4) (q := (RX4, TX4, 12)) (Cn := RX4) (st := []) 1 dX4_fits_29 (ct_X4_living ir_1 hq7) ml_X4_127 im_X4_living sl_X4_living it_X4 cd_X4_living hy_X4_living ⟨rfl, rfl, by decide, by decide⟩ sh_51 rfl rfl rfl rfl (Nat.le_of_ble_eq_true rfl) (fun hv8 => ?_)
      refine V_iload_n 1 dX4_fits_32 rfl ?_
      obtain ⟨hv9, E⟩ := mmK_e E
      refine V_iadd dX4_fits_33 ?_
      refine V_bipush (v := 100) dX4_fits_34 (by decide) ?_
      refine V_icmp_gt 43 dX4_fits_36 (by decide) hv9 ir_100 (fun c10 => ?_) (fun c10 => ?_)
      · replace E := mmI_t c10 E
        refine V_iconst dX4_fits_43 rfl ?_
        obtain rfl := Option.some.inj E
        exact V_reti dX4_fits_44 ⟨rfl, rfl, ir_2⟩
      · replace E := mmI_f c10 E
        refine V_iconst dX4_fits_39 rfl ?_
        refine V_goto 44 dX4_fits_40 (by decide) ?_
        obtain rfl := Option.some.inj E
        exact V_reti dX4_fits_44 ⟨rfl, rfl, ir_1⟩
    · replace E := mmI_f c6 E
      refine V_iconst dX4_fits_23 rfl ?_
      refine V_goto 44 dX4_fits_24 (by decide) ?_
      obtain rfl := Option.some.inj E
      exact V_reti dX4_fits_44 ⟨rfl, rfl, ir_0⟩
  · replace E := mmI_t c3 E
    refine V_bipush (v := (-2)) dX4_fits_12 (by decide) ?_
    obtain rfl := Option.some.inj E
    exact V_reti dX4_fits_14 ⟨rfl, rfl, ir_m2⟩
theorem ct_X4_fits {l1 : Int} {m : Mem} {r : Int × Mem} (hr1 : inR l1) (E : f_X4_fits l1 m = some r) : CTi yX4_fits cX4_fits 2 (some .int) rm_X4_fits [.ref 51, vi l1] m r := CT_i (by decide +kernel) rfl (Nat.le_of_ble_eq_true rfl) (ok_X4_fits _ _ hr1 E)
theorem hy_X4_fits : yX4_fits.cls = RX4 ∧ yX4_fits.cls ≠ "java/lang/invoke/MethodHandle" ∧ yX4_fits.cls ≠ "java/lang/invoke/VarHandle" ∧ (parseMethodDescriptor yX4_fits.desc).map (fun d => d.parameters.length) = some 1 := by decide +kernel
abbrev rm_X4_beginning : Room := { frames := 1, cells := 0, slots := 0, locals := 25 }
def f_X4_beginning_L24 : Nat → Int → Int → Int → Mem → Option (Int × Mem)
  | 0, _, _, _, _ => none
  | n + 1, l1, l3, l4, m =>
    if (m.1 52 0) ≤ l4 then
(some ((-5), m))
else
((f_X4_of l4 0 m).bind (fun q8 => mmK (0 ≤ q8.1 ∧ 0 < (26 : Int)) (mmK (inR (q8.1 / 26)) (if (q8.1 / 26) = l1 then
(if l3 = 0 then
((f_X4_of l4 0 q8.2).bind (fun q17 => some (q17.1, q17.2)))
else
(mmK (inR (l3 + (-1))) (mmK (inR (l4 + 1)) (f_X4_beginning_L24 n l1 (l3 + (-1)) (l4 + 1) q8.2))))
else
(mmK (inR (l4 + 1)) (f_X4_beginning_L24 n l1 l3 (l4 + 1) q8.2))))))
set_option maxRecDepth 100000 in
set_option maxHeartbeats 4000000 in
theorem ok_X4_beginning_L24 {r : Int × Mem} : ∀ (n : Nat), ∀ (l1 : Int) (l3 : Int) (l4 : Int) (m : Mem), inR l1 → inR l3 → inR l4 → f_X4_beginning_L24 n l1 l3 l4 m = some r → VV RX4 cX4_beginning 5 rm_X4_beginning mmG0 (mmPi r) 24 [(0, .ref 51), (1, vi l1), (3, vi l3), (4, vi l4)] [] m := by
  intro n
  induction n with
  | zero =>
    intro l1 l3 l4 m hr1 hr3 hr4 E
    cases E
  | succ n ih =>
    intro l1 l3 l4 m hr1 hr3 hr4 E
    rw [f_X4_beginning_L24] at E
    refine V_iload 3 dX4_beginning_24 rfl ?_
    refine V_aload_n 0 dX4_beginning_26 rfl ?_
    refine V_geta (ci := 4) (k := 0) (N := 12) (T := TX4) (o' := 52) dX4_beginning_27 iuX4 fl_X4_7 rfl (by decide) rfl sh_51 rfl ?_
    refine V_iconst dX4_beginning_30 rfl ?_
    refine V_iald (n := 149) (j := 0) dX4_beginning_31 sh_52 ir_0 (by decide) rfl (fun hv6 => ?_)
    refine V_icmp_ge 70 dX4_beginning_32 (by decide) hr4 hv6 (fun c7 => ?_) (fun c7 => ?_)
    · replace E := mmI_t c7 E
      refine V_bipush (v := (-5)) dX4_beginning_70 (by decide) ?_
      obtain rfl := Option.some.inj E
      exact V_reti dX4_beginning_72 ⟨rfl, rfl, ir_m5⟩
    · replace E := mmI_f c7 E
      refine V_aload_n 0 dX4_beginning_35 rfl ?_
      refine V_iload 3 dX4_beginning_36 rfl ?_
      refine V_iconst dX4_beginning_38 rfl ?_
      obtain ⟨q8, hq8, E⟩ := mmB_e E
      refine V_callV (ci := 4) (q := (RX4, TX4, 12)) (Cn := RX4) (st := []) 2 dX4_beginning_39 (ct_X4_of hr4 ir_0 hq8) ml_X4_38 im_X4_of sl_X4_of it_X4 cd_X4_of hy_X4_of ⟨rfl, rfl, by decide, by decide⟩ sh_51 rfl rfl rfl rfl (Nat.le_of_ble_eq_true rfl) (fun hv9 => ?_)
      refine V_bipush (v := 26) dX4_beginning_42 (by decide) ?_
      obtain ⟨hv10, E⟩ := mmK_e E
      obtain ⟨hv11, E⟩ := mmK_e E
      refine V_idiv dX4_beginning_44 hv9 ir_26 hv10 ?_
      refine V_iload_n 1 dX4_beginning_45 rfl ?_
      refine V_icmp_ne 64 dX4_beginning_46 (by decide) hv11 hr1 (fun c12 => ?_) (fun c12 => ?_)
      · replace E := mmI_f c12 E
        obtain ⟨hv13, E⟩ := mmK_e E
        refine V_iinc (v := (l4 + 1)) (lv' := [(0, .ref 51), (1, vi l1), (3, vi l3), (4, vi (l4 + 1))]) 3 dX4_beginning_64 rfl rfl rfl rfl ?_
        refine V_goto 24 dX4_beginning_67 (by decide) ?_
        exact ih _ _ _ _ hr1 hr3 hv13 E
      · replace E := mmI_t c12 E
        refine V_iload_n 2 dX4_beginning_49 rfl ?_
        refine V_if_ne 61 dX4_beginning_50 (by decide) hr3 (fun c14 => ?_) (fun c14 => ?_)
        · replace E := mmI_f c14 E
          obtain ⟨hv15, E⟩ := mmK_e E
          refine V_iinc (v := (l3 + (-1))) (lv' := [(0, .ref 51), (1, vi l1), (3, vi (l3 + (-1))), (4, vi l4)]) 2 dX4_beginning_61 rfl rfl rfl rfl ?_
          obtain ⟨hv16, E⟩ := mmK_e E
          refine V_iinc (v := (l4 + 1)) (lv' := [(0, .ref 51), (1, vi l1), (3, vi (l3 + (-1))), (4, vi (l4 + 1))]) 3 dX4_beginning_64 rfl rfl rfl rfl ?_
          refine V_goto 24 dX4_beginning_67 (by decide) ?_
          exact ih _ _ _ _ hr1 hv15 hv16 E
        · replace E := mmI_t c14 E
          refine V_aload_n 0 dX4_beginning_53 rfl ?_
          refine V_iload 3 dX4_beginning_54 rfl ?_
          refine V_iconst dX4_beginning_56 rfl ?_
          obtain ⟨q17, hq17, E⟩ := mmB_e E
          refine V_callV (ci := 4) (q := (RX4, TX4, 12)) (Cn := RX4) (st := []) 2 dX4_beginning_57 (ct_X4_of hr4 ir_0 hq17) ml_X4_38 im_X4_of sl_X4_of it_X4 cd_X4_of hy_X4_of ⟨rfl, rfl, by decide, by decide⟩ sh_51 rfl rfl rfl rfl (Nat.le_of_ble_eq_true rfl) (fun hv18 => ?_)
          obtain rfl := Option.some.inj E
          exact V_reti dX4_beginning_60 ⟨rfl, rfl, hv18⟩
def f_X4_beginning (l1 : Int) (l2 : Int) (m : Mem) : Option (Int × Mem) :=
  (f_X4_in l1 0 25 m).bind (fun q1 => if q1.1 = 0 then
(some ((-2), q1.2))
else
(if 0 ≤ l2 then
(f_X4_beginning_L24 mmFU l1 l2 0 q1.2)
else
(some ((-2), q1.2))))
set_option maxRecDepth 100000 in
set_option maxHeartbeats 4000000 in
theorem ok_X4_beginning {r : Int × Mem} : ∀ (l1 : Int) (l2 : Int) (m : Mem), inR l1 → inR l2 → f_X4_beginning l1 l2 m = some r → VV RX4 cX4_beginning 5 rm_X4_beginning mmG0 (mmPi r) 0 [(0, .ref 51), (1, vi l1), (2, vi l2)] [] m := by
  intro l1 l2 m hr1 hr2 E
  unfold f_X4_beginning at E
  refine V_iload_n 1 dX4_beginning_0 rfl ?_
  refine V_i2l dX4_beginning_1 hr1 ?_
  refine V_lconst (v := 0) dX4_beginning_2 (by decide) ?_
  refine V_ldc2 (v := 25) dX4_beginning_3 kl_X4_149 (by decide) ?_
  obtain ⟨q1, hq1, E⟩ := mmB_e E
  refine V_callS (st := []) 3 dX4_beginning_6 (ct_X4_in (inRL hr1) (by decide) (by decide) hq1) ml_X4_34 st_X4_in it_X4 cd_X4_in hz_X4_in ⟨rfl, rfl, by decide, by decide⟩ rfl rfl (Nat.le_of_ble_eq_true rfl) (fun hv2 => ?_)
  refine V_if_eq 16 dX4_beginning_9 (by decide) hv2 (fun c3 => ?_) (fun c3 => ?_)
  · replace E := mmI_t c3 E
    refine V_bipush (v := (-2)) dX4_beginning_16 (by decide) ?_
    obtain rfl := Option.some.inj E
    exact V_reti dX4_beginning_18 ⟨rfl, rfl, ir_m2⟩
  · replace E := mmI_f c3 E
    refine V_iload_n 2 dX4_beginning_12 rfl ?_
    refine V_if_ge 19 dX4_beginning_13 (by decide) hr2 (fun c4 => ?_) (fun c4 => ?_)
    · replace E := mmI_t c4 E
      refine V_iload_n 2 dX4_beginning_19 rfl ?_
      refine V_istore_n (i := 3) (lv' := [(0, .ref 51), (1, vi l1), (2, vi l2), (3, vi l2)]) dX4_beginning_20 rfl rfl rfl ?_
      refine V_iconst dX4_beginning_21 rfl ?_
      refine V_istore (lv' := [(0, .ref 51), (1, vi l1), (2, vi l2), (3, vi l2), (4, vi 0)]) dX4_beginning_22 rfl rfl ?_
      refine V_sub [0, 1, 3, 4] rfl ?_
      exact ok_X4_beginning_L24 mmFU _ _ _ _ hr1 hr2 ir_0 E
    · replace E := mmI_f c4 E
      refine V_bipush (v := (-2)) dX4_beginning_16 (by decide) ?_
      obtain rfl := Option.some.inj E
      exact V_reti dX4_beginning_18 ⟨rfl, rfl, ir_m2⟩
theorem ct_X4_beginning {l1 : Int} {l2 : Int} {m : Mem} {r : Int × Mem} (hr1 : inR l1) (hr2 : inR l2) (E : f_X4_beginning l1 l2 m = some r) : CTi yX4_beginning cX4_beginning 5 (some .int) rm_X4_beginning [.ref 51, vi l1, vi l2] m r := CT_i (by decide +kernel) rfl (Nat.le_of_ble_eq_true rfl) (ok_X4_beginning _ _ _ hr1 hr2 E)
theorem hy_X4_beginning : yX4_beginning.cls = RX4 ∧ yX4_beginning.cls ≠ "java/lang/invoke/MethodHandle" ∧ yX4_beginning.cls ≠ "java/lang/invoke/VarHandle" ∧ (parseMethodDescriptor yX4_beginning.desc).map (fun d => d.parameters.length) = some 2 := by decide +kernel
abbrev rm_X4_members : Room := { frames := 1, cells := 0, slots := 0, locals := 22 }
def f_X4_members_L4 : Nat → Int → Int → Mem → Option (Int × Mem)
  | 0, _, _, _ => none
  | n + 1, l1, l2, m =>
    if (m.1 52 0) ≤ l2 then
(some (l1, m))
else
((f_X4_of l2 1 m).bind (fun q4 => mmK (inR (1 - q4.1)) (mmK (inR (l1 + (1 - q4.1))) (mmK (inR (l2 + 1)) (f_X4_members_L4 n (l1 + (1 - q4.1)) (l2 + 1) q4.2)))))
set_option maxRecDepth 100000 in
set_option maxHeartbeats 4000000 in
theorem ok_X4_members_L4 {r : Int × Mem} : ∀ (n : Nat), ∀ (l1 : Int) (l2 : Int) (m : Mem), inR l1 → inR l2 → f_X4_members_L4 n l1 l2 m = some r → VV RX4 cX4_members 3 rm_X4_members mmG0 (mmPi r) 4 [(0, .ref 51), (1, vi l1), (2, vi l2)] [] m := by
  intro n
  induction n with
  | zero =>
    intro l1 l2 m hr1 hr2 E
    cases E
  | succ n ih =>
    intro l1 l2 m hr1 hr2 E
    rw [f_X4_members_L4] at E
    refine V_iload_n 2 dX4_members_4 rfl ?_
    refine V_aload_n 0 dX4_members_5 rfl ?_
    refine V_geta (ci := 4) (k := 0) (N := 12) (T := TX4) (o' := 52) dX4_members_6 iuX4 fl_X4_7 rfl (by decide) rfl sh_51 rfl ?_
    refine V_iconst dX4_members_9 rfl ?_
    refine V_iald (n := 149) (j := 0) dX4_members_10 sh_52 ir_0 (by decide) rfl (fun hv2 => ?_)
    refine V_icmp_ge 31 dX4_members_11 (by decide) hr2 hv2 (fun c3 => ?_) (fun c3 => ?_)
    · replace E := mmI_t c3 E
      refine V_iload_n 1 dX4_members_31 rfl ?_
      obtain rfl := Option.some.inj E
      exact V_reti dX4_members_32 ⟨rfl, rfl, hr1⟩
    · replace E := mmI_f c3 E
      refine V_iload_n 1 dX4_members_14 rfl ?_
      refine V_iconst dX4_members_15 rfl ?_
      refine V_aload_n 0 dX4_members_16 rfl ?_
      refine V_iload_n 2 dX4_members_17 rfl ?_
      refine V_iconst dX4_members_18 rfl ?_
      obtain ⟨q4, hq4, E⟩ := mmB_e E
      refine V_callV (ci := 4) (q := (RX4, TX4, 12)) (Cn := RX4) (st := [vi 1, vi l1]) 2 dX4_members_19 (ct_X4_of hr2 ir_1 hq4) ml_X4_38 im_X4_of sl_X4_of it_X4 cd_X4_of hy_X4_of ⟨rfl, rfl, by decide, by decide⟩ sh_51 rfl rfl rfl rfl (Nat.le_of_ble_eq_true rfl) (fun hv5 => ?_)
      obtain ⟨hv6, E⟩ := mmK_e E
      refine V_isub dX4_members_22 ?_
      obtain ⟨hv7, E⟩ := mmK_e E
      refine V_iadd dX4_members_23 ?_
      refine V_istore_n (i := 1) (lv' := [(0, .ref 51), (1, vi (l1 + (1 - q4.1))), (2, vi l2)]) dX4_members_24 rfl rfl rfl ?_
      obtain ⟨hv8, E⟩ := mmK_e E
      refine V_iinc (v := (l2 + 1)) (lv' := [(0, .ref 51), (1, vi (l1 + (1 - q4.1))), (2, vi (l2 + 1))]) 2 dX4_members_25 rfl rfl rfl rfl ?_
      refine V_goto 4 dX4_members_28 (by decide) ?_
      exact ih _ _ _ hv7 hv8 E
def f_X4_members (m : Mem) : Option (Int × Mem) :=
  f_X4_members_L4 mmFU 0 0 m
set_option maxRecDepth 100000 in
set_option maxHeartbeats 4000000 in
theorem ok_X4_members {r : Int × Mem} : ∀ (m : Mem), f_X4_members m = some r → VV RX4 cX4_members 3 rm_X4_members mmG0 (mmPi r) 0 [(0, .ref 51)] [] m := by
  intro m E
  unfold f_X4_members at E
  refine V_iconst dX4_members_0 rfl ?_
  refine V_istore_n (i := 1) (lv' := [(0, .ref 51), (1, vi 0)]) dX4_members_1 rfl rfl rfl ?_
  refine V_iconst dX4_members_2 rfl ?_
  refine V_istore_n (i := 2) (lv' := [(0, .ref 51), (1, vi 0), (2, vi 0)]) dX4_members_3 rfl rfl rfl ?_
  exact ok_X4_members_L4 mmFU _ _ _ ir_0 ir_0 E
theorem ct_X4_members {m : Mem} {r : Int × Mem} (E : f_X4_members m = some r) : CTi yX4_members cX4_members 3 (some .int) rm_X4_members [.ref 51] m r := CT_i (by decide +kernel) rfl (Nat.le_of_ble_eq_true rfl) (ok_X4_members  _  E)
theorem hy_X4_members : yX4_members.cls = RX4 ∧ yX4_members.cls ≠ "java/lang/invoke/MethodHandle" ∧ yX4_members.cls ≠ "java/lang/invoke/VarHandle" ∧ (parseMethodDescriptor yX4_members.desc).map (fun d => d.parameters.length) = some 0 := by decide +kernel
abbrev rm_X4_lostOnes : Room := { frames := 3, cells := 0, slots := 0, locals := 66 }
def f_X4_lostOnes_L4 : Nat → Int → Int → Mem → Option (Int × Mem)
  | 0, _, _, _ => none
  | n + 1, l1, l2, m =>
    if (m.1 52 0) ≤ l2 then
(some (l1, m))
else
((f_X4_isLost l2 m).bind (fun q4 => if q4.1 = 0 then
(mmK (inR (l1 + 0)) (mmK (inR (l2 + 1)) (f_X4_lostOnes_L4 n (l1 + 0) (l2 + 1) q4.2)))
else
(mmK (inR (l1 + 1)) (mmK (inR (l2 + 1)) (f_X4_lostOnes_L4 n (l1 + 1) (l2 + 1) q4.2)))))
set_option maxRecDepth 100000 in
set_option maxHeartbeats 4000000 in
theorem ok_X4_lostOnes_L4 {r : Int × Mem} : ∀ (n : Nat), ∀ (l1 : Int) (l2 : Int) (m : Mem), inR l1 → inR l2 → f_X4_lostOnes_L4 n l1 l2 m = some r → VV RX4 cX4_lostOnes 3 rm_X4_lostOnes mmG0 (mmPi r) 4 [(0, .ref 51), (1, vi l1), (2, vi l2)] [] m := by
  intro n
  induction n with
  | zero =>
    intro l1 l2 m hr1 hr2 E
    cases E
  | succ n ih =>
    intro l1 l2 m hr1 hr2 E
    rw [f_X4_lostOnes_L4] at E
    refine V_iload_n 2 dX4_lostOnes_4 rfl ?_
    refine V_aload_n 0 dX4_lostOnes_5 rfl ?_
    refine V_geta (ci := 4) (k := 0) (N := 12) (T := TX4) (o' := 52) dX4_lostOnes_6 iuX4 fl_X4_7 rfl (by decide) rfl sh_51 rfl ?_
    refine V_iconst dX4_lostOnes_9 rfl ?_
    refine V_iald (n := 149) (j := 0) dX4_lostOnes_10 sh_52 ir_0 (by decide) rfl (fun hv2 => ?_)
    refine V_icmp_ge 36 dX4_lostOnes_11 (by decide) hr2 hv2 (fun c3 => ?_) (fun c3 => ?_)
    · replace E := mmI_t c3 E
      refine V_iload_n 1 dX4_lostOnes_36 rfl ?_
      obtain rfl := Option.some.inj E
      exact V_reti dX4_lostOnes_37 ⟨rfl, rfl, hr1⟩
    · replace E := mmI_f c3 E
      refine V_iload_n 1 dX4_lostOnes_14 rfl ?_
      refine V_aload_n 0 dX4_lostOnes_15 rfl ?_
      refine V_iload_n 2 dX4_lostOnes_16 rfl ?_
      obtain ⟨q4, hq4, E⟩ := mmB_e E
      refine V_callV (ci := 4) (q := (RX4, TX4, 12)) (Cn := RX4) (st := [vi l1]) 1 dX4_lostOnes_17 (ct_X4_isLost hr2 hq4) ml_X4_142 im_X4_isLost sl_X4_isLost it_X4 cd_X4_isLost hy_X4_isLost ⟨rfl, rfl, by decide, by decide⟩ sh_51 rfl rfl rfl rfl (Nat.le_of_ble_eq_true rfl) (fun hv5 => ?_)
      refine V_if_eq 27 dX4_lostOnes_20 (by decide) hv5 (fun c6 => ?_) (fun c6 => ?_)
      · replace E := mmI_t c6 E
        refine V_iconst dX4_lostOnes_27 rfl ?_
        obtain ⟨hv7, E⟩ := mmK_e E
        refine V_iadd dX4_lostOnes_28 ?_
        refine V_istore_n (i := 1) (lv' := [(0, .ref 51), (1, vi (l1 + 0)), (2, vi l2)]) dX4_lostOnes_29 rfl rfl rfl ?_
        obtain ⟨hv8, E⟩ := mmK_e E
        refine V_iinc (v := (l2 + 1)) (lv' := [(0, .ref 51), (1, vi (l1 + 0)), (2, vi (l2 + 1))]) 2 dX4_lostOnes_30 rfl rfl rfl rfl ?_
        refine V_goto 4 dX4_lostOnes_33 (by decide) ?_
        exact ih _ _ _ hv7 hv8 E
      · replace E := mmI_f c6 E
        refine V_iconst dX4_lostOnes_23 rfl ?_
        refine V_goto 28 dX4_lostOnes_24 (by decide) ?_
        obtain ⟨hv9, E⟩ := mmK_e E
        refine V_iadd dX4_lostOnes_28 ?_
        refine V_istore_n (i := 1) (lv' := [(0, .ref 51), (1, vi (l1 + 1)), (2, vi l2)]) dX4_lostOnes_29 rfl rfl rfl ?_
        obtain ⟨hv10, E⟩ := mmK_e E
        refine V_iinc (v := (l2 + 1)) (lv' := [(0, .ref 51), (1, vi (l1 + 1)), (2, vi (l2 + 1))]) 2 dX4_lostOnes_30 rfl rfl rfl rfl ?_
        refine V_goto 4 dX4_lostOnes_33 (by decide) ?_
        exact ih _ _ _ hv9 hv10 E
def f_X4_lostOnes (m : Mem) : Option (Int × Mem) :=
  f_X4_lostOnes_L4 mmFU 0 0 m
set_option maxRecDepth 100000 in
set_option maxHeartbeats 4000000 in
theorem ok_X4_lostOnes {r : Int × Mem} : ∀ (m : Mem), f_X4_lostOnes m = some r → VV RX4 cX4_lostOnes 3 rm_X4_lostOnes mmG0 (mmPi r) 0 [(0, .ref 51)] [] m := by
  intro m E
  unfold f_X4_lostOnes at E
  refine V_iconst dX4_lostOnes_0 rfl ?_
  refine V_istore_n (i := 1) (lv' := [(0, .ref 51), (1, vi 0)]) dX4_lostOnes_1 rfl rfl rfl ?_
  refine V_iconst dX4_lostOnes_2 rfl ?_
  refine V_istore_n (i := 2) (lv' := [(0, .ref 51), (1, vi 0), (2, vi 0)]) dX4_lostOnes_3 rfl rfl rfl ?_
  exact ok_X4_lostOnes_L4 mmFU _ _ _ ir_0 ir_0 E
theorem ct_X4_lostOnes {m : Mem} {r : Int × Mem} (E : f_X4_lostOnes m = some r) : CTi yX4_lostOnes cX4_lostOnes 3 (some .int) rm_X4_lostOnes [.ref 51] m r := CT_i (by decide +kernel) rfl (Nat.le_of_ble_eq_true rfl) (ok_X4_lostOnes  _  E)
theorem hy_X4_lostOnes : yX4_lostOnes.cls = RX4 ∧ yX4_lostOnes.cls ≠ "java/lang/invoke/MethodHandle" ∧ yX4_lostOnes.cls ≠ "java/lang/invoke/VarHandle" ∧ (parseMethodDescriptor yX4_lostOnes.desc).map (fun d => d.parameters.length) = some 0 := by decide +kernel
abbrev rm_X4_count : Room := { frames := 4, cells := 0, slots := 0, locals := 88 }
def f_X4_count (l1 : Int) (m : Mem) : Option (Int × Mem) :=
  if l1 = 0 then
(some ((m.1 52 0), m))
else (
if l1 = 1 then
((f_X4_members m).bind (fun q5 => some (q5.1, q5.2)))
else (
if l1 = 2 then
((f_X4_members m).bind (fun q10 => mmK (inR ((m.1 52 0) - q10.1)) (some (((m.1 52 0) - q10.1), q10.2))))
else (
if l1 = 3 then
((f_X4_lostOnes m).bind (fun q14 => some (q14.1, q14.2)))
else (
if l1 = 4 then
(some ((m.1 52 1), m))
else (
if l1 = 5 then
(mmK (inR (4 * (m.1 52 1))) (mmK (inR ((4 * (m.1 52 1)) - (m.1 52 0))) (some (((4 * (m.1 52 1)) - (m.1 52 0)), m))))
else (
if l1 = 6 then
(some ((m.1 52 2), m))
else (
if l1 = 7 then
((f_X4_living 1 m).bind (fun q30 => some (q30.1, q30.2)))
else (
if l1 = 8 then
((f_X4_living 1 m).bind (fun q35 => mmK (inR ((m.1 52 2) - q35.1)) (some (((m.1 52 2) - q35.1), q35.2))))
else (
if l1 = 9 then
(mmK (inR (100 - (m.1 52 2))) (some ((100 - (m.1 52 2)), m)))
else (
if l1 = 10 then
((f_X4_living 0 m).bind (fun q43 => some (q43.1, q43.2)))
else (
if l1 = 11 then
(some ((m.1 52 3), m))
else (
if l1 = 12 then
(some ((m.1 52 4), m))
else (
if l1 = 13 then
(some ((m.1 51 3), m))
else (
if l1 = 14 then
(some ((m.1 51 8), m))
else (
(some ((-2), m)))))))))))))))))
set_option maxRecDepth 100000 in
set_option maxHeartbeats 4000000 in
theorem ok_X4_count {r : Int × Mem} : ∀ (l1 : Int) (m : Mem), inR l1 → f_X4_count l1 m = some r → VV RX4 cX4_count 2 rm_X4_count mmG0 (mmPi r) 0 [(0, .ref 51), (1, vi l1)] [] m := by
  intro l1 m hr1 E
  unfold f_X4_count at E
  refine V_iload_n 1 dX4_count_0 rfl ?_
  by_cases c1 : l1 = 0
  · replace E := mmI_t c1 E
    refine V_tableIn 0 76 dX4_count_1 c1 (by decide) (by decide) rfl (by decide) ?_
    refine V_aload_n 0 dX4_count_76 rfl ?_
    refine V_geta (ci := 4) (k := 0) (N := 12) (T := TX4) (o' := 52) dX4_count_77 iuX4 fl_X4_7 rfl (by decide) rfl sh_51 rfl ?_
    refine V_iconst dX4_count_80 rfl ?_
    refine V_iald (n := 149) (j := 0) dX4_count_81 sh_52 ir_0 (by decide) rfl (fun hv3 => ?_)
    obtain rfl := Option.some.inj E
    exact V_reti dX4_count_82 ⟨rfl, rfl, hv3⟩
  replace E := mmI_f c1 E
  by_cases c4 : l1 = 1
  · replace E := mmI_t c4 E
    refine V_tableIn 1 83 dX4_count_1 c4 (by decide) (by decide) rfl (by decide) ?_
    refine V_aload_n 0 dX4_count_83 rfl ?_
    obtain ⟨q5, hq5, E⟩ := mmB_e E
    refine V_callV (ci := 4) (q := (RX4, TX4, 12)) (Cn := RX4) (st := []) 0 dX4_count_84 (ct_X4_members hq5) ml_X4_151 im_X4_members sl_X4_members it_X4 cd_X4_members hy_X4_members ⟨rfl, rfl, by decide, by decide⟩ sh_51 rfl rfl rfl rfl (Nat.le_of_ble_eq_true rfl) (fun hv6 => ?_)
    obtain rfl := Option.some.inj E
    exact V_reti dX4_count_87 ⟨rfl, rfl, hv6⟩
  replace E := mmI_f c4 E
  by_cases c7 : l1 = 2
  · replace E := mmI_t c7 E
    refine V_tableIn 2 88 dX4_count_1 c7 (by decide) (by decide) rfl (by decide) ?_
    refine V_aload_n 0 dX4_count_88 rfl ?_
    refine V_geta (ci := 4) (k := 0) (N := 12) (T := TX4) (o' := 52) dX4_count_89 iuX4 fl_X4_7 rfl (by decide) rfl sh_51 rfl ?_
    refine V_iconst dX4_count_92 rfl ?_
    refine V_iald (n := 149) (j := 0) dX4_count_93 sh_52 ir_0 (by decide) rfl (fun hv9 => ?_)
    refine V_aload_n 0 dX4_count_94 rfl ?_
    obtain ⟨q10, hq10, E⟩ := mmB_e E
    refine V_callV (ci := 4) (q := (RX4, TX4, 12)) (Cn := RX4) (st := [vi (m.1 52 0)]) 0 dX4_count_95 (ct_X4_members hq10) ml_X4_151 im_X4_members sl_X4_members it_X4 cd_X4_members hy_X4_members ⟨rfl, rfl, by decide, by decide⟩ sh_51 rfl rfl rfl rfl (Nat.le_of_ble_eq_true rfl) (fun hv11 => ?_)
    obtain ⟨hv12, E⟩ := mmK_e E
    refine V_isub dX4_count_98 ?_
    obtain rfl := Option.some.inj E
    exact V_reti dX4_count_99 ⟨rfl, rfl, hv12⟩
  replace E := mmI_f c7 E
  by_cases c13 : l1 = 3
  · replace E := mmI_t c13 E
    refine V_tableIn 3 100 dX4_count_1 c13 (by decide) (by decide) rfl (by decide) ?_
    refine V_aload_n 0 dX4_count_100 rfl ?_
    obtain ⟨q14, hq14, E⟩ := mmB_e E
    refine V_callV (ci := 4) (q := (RX4, TX4, 12)) (Cn := RX4) (st := []) 0 dX4_count_101 (ct_X4_lostOnes hq14) ml_X4_154 im_X4_lostOnes sl_X4_lostOnes it_X4 cd_X4_lostOnes hy_X4_lostOnes ⟨rfl, rfl, by decide, by decide⟩ sh_51 rfl rfl rfl rfl (Nat.le_of_ble_eq_true rfl) (fun hv15 => ?_)
    obtain rfl := Option.some.inj E
    exact V_reti dX4_count_104 ⟨rfl, rfl, hv15⟩
  replace E := mmI_f c13 E
  by_cases c16 : l1 = 4
  · replace E := mmI_t c16 E
    refine V_tableIn 4 105 dX4_count_1 c16 (by decide) (by decide) rfl (by decide) ?_
    refine V_aload_n 0 dX4_count_105 rfl ?_
    refine V_geta (ci := 4) (k := 0) (N := 12) (T := TX4) (o' := 52) dX4_count_106 iuX4 fl_X4_7 rfl (by decide) rfl sh_51 rfl ?_
    refine V_iconst dX4_count_109 rfl ?_
    refine V_iald (n := 149) (j := 1) dX4_count_110 sh_52 ir_1 (by decide) rfl (fun hv18 => ?_)
    obtain rfl := Option.some.inj E
    exact V_reti dX4_count_111 ⟨rfl, rfl, hv18⟩
  replace E := mmI_f c16 E
  by_cases c19 : l1 = 5
  · replace E := mmI_t c19 E
    refine V_tableIn 5 112 dX4_count_1 c19 (by decide) (by decide) rfl (by decide) ?_
    refine V_iconst dX4_count_112 rfl ?_
    refine V_aload_n 0 dX4_count_113 rfl ?_
    refine V_geta (ci := 4) (k := 0) (N := 12) (T := TX4) (o' := 52) dX4_count_114 iuX4 fl_X4_7 rfl (by decide) rfl sh_51 rfl ?_
    refine V_iconst dX4_count_117 rfl ?_
    refine V_iald (n := 149) (j := 1) dX4_count_118 sh_52 ir_1 (by decide) rfl (fun hv21 => ?_)
    obtain ⟨hv22, E⟩ := mmK_e E
    refine V_imul dX4_count_119 ?_
    refine V_aload_n 0 dX4_count_120 rfl ?_
    refine V_geta (ci := 4) (k := 0) (N := 12) (T := TX4) (o' := 52) dX4_count_121 iuX4 fl_X4_7 rfl (by decide) rfl sh_51 rfl ?_
    refine V_iconst dX4_count_124 rfl ?_
    refine V_iald (n := 149) (j := 0) dX4_count_125 sh_52 ir_0 (by decide) rfl (fun hv24 => ?_)
    obtain ⟨hv25, E⟩ := mmK_e E
    refine V_isub dX4_count_126 ?_
    obtain rfl := Option.some.inj E
    exact V_reti dX4_count_127 ⟨rfl, rfl, hv25⟩
  replace E := mmI_f c19 E
  by_cases c26 : l1 = 6
  · replace E := mmI_t c26 E
    refine V_tableIn 6 128 dX4_count_1 c26 (by decide) (by decide) rfl (by decide) ?_
    refine V_aload_n 0 dX4_count_128 rfl ?_
    refine V_geta (ci := 4) (k := 0) (N := 12) (T := TX4) (o' := 52) dX4_count_129 iuX4 fl_X4_7 rfl (by decide) rfl sh_51 rfl ?_
    refine V_iconst dX4_count_132 rfl ?_
    refine V_iald (n := 149) (j := 2) dX4_count_133 sh_52 ir_2 (by decide) rfl (fun hv28 => ?_)
    obtain rfl := Option.some.inj E
    exact V_reti dX4_count_134 ⟨rfl, rfl, hv28⟩
  replace E := mmI_f c26 E
  by_cases c29 : l1 = 7
  · replace E := mmI_t c29 E
    refine V_tableIn 7 135 dX4_count_1 c29 (by decide) (by decide) rfl (by decide) ?_
    refine V_aload_n 0 dX4_count_135 rfl ?_
    refine V_iconst dX4_count_136 rfl ?_
    obtain ⟨q30, hq30, E⟩ := mmB_e E
    refine V_callV (ci := 4) (q := (RX4, TX4, 12)) (Cn := RX4) (st := []) 1 dX4_count_137 (ct_X4_living ir_1 hq30) ml_X4_127 im_X4_living sl_X4_living it_X4 cd_X4_living hy_X4_living ⟨rfl, rfl, by decide, by decide⟩ sh_51 rfl rfl rfl rfl (Nat.le_of_ble_eq_true rfl) (fun hv31 => ?_)
    obtain rfl := Option.some.inj E
    exact V_reti dX4_count_140 ⟨rfl, rfl, hv31⟩
  replace E := mmI_f c29 E
  by_cases c32 : l1 = 8
  · replace E := mmI_t c32 E
    refine V_tableIn 8 141 dX4_count_1 c32 (by decide) (by decide) rfl (by decide) ?_
    refine V_aload_n 0 dX4_count_141 rfl ?_
    refine V_geta (ci := 4) (k := 0) (N := 12) (T := TX4) (o' := 52) dX4_count_142 iuX4 fl_X4_7 rfl (by decide) rfl sh_51 rfl ?_
    refine V_iconst dX4_count_145 rfl ?_
    refine V_iald (n := 149) (j := 2) dX4_count_146 sh_52 ir_2 (by decide) rfl (fun hv34 => ?_)
    refine V_aload_n 0 dX4_count_147 rfl ?_
    refine V_iconst dX4_count_148 rfl ?_
    obtain ⟨q35, hq35, E⟩ := mmB_e E
    refine V_callV (ci := 4) (q := (RX4, TX4, 12)) (Cn := RX4) (st := [vi (m.1 52 2)]) 1 dX4_count_149 (ct_X4_living ir_1 hq35) ml_X4_127 im_X4_living sl_X4_living it_X4 cd_X4_living hy_X4_living ⟨rfl, rfl, by decide, by decide⟩ sh_51 rfl rfl rfl rfl (Nat.le_of_ble_eq_true rfl) (fun hv36 => ?_)
    obtain ⟨hv37, E⟩ := mmK_e E
    refine V_isub dX4_count_152 ?_
    obtain rfl := Option.some.inj E
    exact V_reti dX4_count_153 ⟨rfl, rfl, hv37⟩
  replace E := mmI_f c32 E
  by_cases c38 : l1 = 9
  · replace E := mmI_t c38 E
    refine V_tableIn 9 154 dX4_count_1 c38 (by decide) (by decide) rfl (by decide) ?_
    refine V_bipush (v := 100) dX4_count_154 (by decide) ?_
    refine V_aload_n 0 dX4_count_156 rfl ?_
    refine V_geta (ci := 4) (k := 0) (N := 12) (T := TX4) (o' := 52) dX4_count_157 iuX4 fl_X4_7 rfl (by decide) rfl sh_51 rfl ?_
    refine V_iconst dX4_count_160 rfl ?_
    refine V_iald (n := 149) (j := 2) dX4_count_161 sh_52 ir_2 (by decide) rfl (fun hv40 => ?_)
    obtain ⟨hv41, E⟩ := mmK_e E
    refine V_isub dX4_count_162 ?_
    obtain rfl := Option.some.inj E
    exact V_reti dX4_count_163 ⟨rfl, rfl, hv41⟩
  replace E := mmI_f c38 E
  by_cases c42 : l1 = 10
  · replace E := mmI_t c42 E
    refine V_tableIn 10 164 dX4_count_1 c42 (by decide) (by decide) rfl (by decide) ?_
    refine V_aload_n 0 dX4_count_164 rfl ?_
    refine V_iconst dX4_count_165 rfl ?_
    obtain ⟨q43, hq43, E⟩ := mmB_e E
    refine V_callV (ci := 4) (q := (RX4, TX4, 12)) (Cn := RX4) (st := []) 1 dX4_count_166 (ct_X4_living ir_0 hq43) ml_X4_127 im_X4_living sl_X4_living it_X4 cd_X4_living hy_X4_living ⟨rfl, rfl, by decide, by decide⟩ sh_51 rfl rfl rfl rfl (Nat.le_of_ble_eq_true rfl) (fun hv44 => ?_)
    obtain rfl := Option.some.inj E
    exact V_reti dX4_count_169 ⟨rfl, rfl, hv44⟩
  replace E := mmI_f c42 E
  by_cases c45 : l1 = 11
  · replace E := mmI_t c45 E
    refine V_tableIn 11 170 dX4_count_1 c45 (by decide) (by decide) rfl (by decide) ?_
    refine V_aload_n 0 dX4_count_170 rfl ?_
    refine V_geta (ci := 4) (k := 0) (N := 12) (T := TX4) (o' := 52) dX4_count_171 iuX4 fl_X4_7 rfl (by decide) rfl sh_51 rfl ?_
    refine V_iconst dX4_count_174 rfl ?_
    refine V_iald (n := 149) (j := 3) dX4_count_175 sh_52 ir_3 (by decide) rfl (fun hv47 => ?_)
    obtain rfl := Option.some.inj E
    exact V_reti dX4_count_176 ⟨rfl, rfl, hv47⟩
  replace E := mmI_f c45 E
  by_cases c48 : l1 = 12
  · replace E := mmI_t c48 E
    refine V_tableIn 12 177 dX4_count_1 c48 (by decide) (by decide) rfl (by decide) ?_
    refine V_aload_n 0 dX4_count_177 rfl ?_
    refine V_geta (ci := 4) (k := 0) (N := 12) (T := TX4) (o' := 52) dX4_count_178 iuX4 fl_X4_7 rfl (by decide) rfl sh_51 rfl ?_
    refine V_iconst dX4_count_181 rfl ?_
    refine V_iald (n := 149) (j := 4) dX4_count_182 sh_52 ir_4 (by decide) rfl (fun hv50 => ?_)
    obtain rfl := Option.some.inj E
    exact V_reti dX4_count_183 ⟨rfl, rfl, hv50⟩
  replace E := mmI_f c48 E
  by_cases c51 : l1 = 13
  · replace E := mmI_t c51 E
    refine V_tableIn 13 184 dX4_count_1 c51 (by decide) (by decide) rfl (by decide) ?_
    refine V_aload_n 0 dX4_count_184 rfl ?_
    refine V_geti (ci := 4) (k := 3) (N := 12) (T := TX4) dX4_count_185 iuX4 fl_X4_28 rfl (by decide) rfl sh_51 (fun hv52 => ?_)
    obtain rfl := Option.some.inj E
    exact V_reti dX4_count_188 ⟨rfl, rfl, hv52⟩
  replace E := mmI_f c51 E
  by_cases c53 : l1 = 14
  · replace E := mmI_t c53 E
    refine V_tableIn 14 189 dX4_count_1 c53 (by decide) (by decide) rfl (by decide) ?_
    refine V_aload_n 0 dX4_count_189 rfl ?_
    refine V_geti (ci := 4) (k := 8) (N := 12) (T := TX4) dX4_count_190 iuX4 fl_X4_95 rfl (by decide) rfl sh_51 (fun hv54 => ?_)
    obtain rfl := Option.some.inj E
    exact V_reti dX4_count_193 ⟨rfl, rfl, hv54⟩
  replace E := mmI_f c53 E
  refine V_tableOut 194 dX4_count_1 hr1 (by omega) (by decide) ?_
  refine V_bipush (v := (-2)) dX4_count_194 (by decide) ?_
  obtain rfl := Option.some.inj E
  exact V_reti dX4_count_196 ⟨rfl, rfl, ir_m2⟩
theorem ct_X4_count {l1 : Int} {m : Mem} {r : Int × Mem} (hr1 : inR l1) (E : f_X4_count l1 m = some r) : CTi yX4_count cX4_count 2 (some .int) rm_X4_count [.ref 51, vi l1] m r := CT_i (by decide +kernel) rfl (Nat.le_of_ble_eq_true rfl) (ok_X4_count _ _ hr1 E)
theorem hy_X4_count : yX4_count.cls = RX4 ∧ yX4_count.cls ≠ "java/lang/invoke/MethodHandle" ∧ yX4_count.cls ≠ "java/lang/invoke/VarHandle" ∧ (parseMethodDescriptor yX4_count.desc).map (fun d => d.parameters.length) = some 1 := by decide +kernel
