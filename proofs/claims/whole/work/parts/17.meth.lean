abbrev rm_X4_aliasesOf : Room := { frames := 1, cells := 0, slots := 0, locals := 22 }
noncomputable def f_X4_aliasesOf_L4 : Nat → Int → Int → Int → Mem → Option (Int × Mem)
  | 0, _, _, _, _ => none
  | n + 1, l1, l2, l3, m =>
    if (m.1 52 0) ≤ l3 then
(some (l2, m))
else
((f_X4_of l3 1 m).bind (fun q4 => if q4.1 = 1 then
((f_X4_of l3 2 q4.2).bind (fun q9 => if q9.1 = l1 then
(mmK (inR (l2 + 1)) (mmK (inR (l3 + 1)) (f_X4_aliasesOf_L4 n l1 (l2 + 1) (l3 + 1) q9.2)))
else
(mmK (inR (l2 + 0)) (mmK (inR (l3 + 1)) (f_X4_aliasesOf_L4 n l1 (l2 + 0) (l3 + 1) q9.2)))))
else
(mmK (inR (l2 + 0)) (mmK (inR (l3 + 1)) (f_X4_aliasesOf_L4 n l1 (l2 + 0) (l3 + 1) q4.2)))))
set_option maxRecDepth 100000 in
set_option maxHeartbeats 4000000 in
theorem ok_X4_aliasesOf_L4 {r : Int × Mem} : ∀ (n : Nat), ∀ (l1 : Int) (l2 : Int) (l3 : Int) (m : Mem), inR l1 → inR l2 → inR l3 → f_X4_aliasesOf_L4 n l1 l2 l3 m = some r → VV RX4 cX4_aliasesOf 4 rm_X4_aliasesOf mmG0 (mmPi r) 4 [(0, .ref 51), (1, vi l1), (2, vi l2), (3, vi l3)] [] m := by
  intro n
  induction n with
  | zero =>
    intro l1 l2 l3 m hr1 hr2 hr3 E
    cases E
  | succ n ih =>
    intro l1 l2 l3 m hr1 hr2 hr3 E
    rw [f_X4_aliasesOf_L4] at E
    refine V_iload_n 3 dX4_aliasesOf_4 rfl ?_
    refine V_aload_n 0 dX4_aliasesOf_5 rfl ?_
    refine V_geta (ci := 4) (k := 0) (N := 12) (T := TX4) (o' := 52) dX4_aliasesOf_6 iuX4 fl_X4_7 rfl (by decide) rfl sh_51 rfl ?_
    refine V_iconst dX4_aliasesOf_9 rfl ?_
    refine V_iald (n := 149) (j := 0) (v := (m.1 52 0)) dX4_aliasesOf_10 sh_52 ir_0 (by decide) rfl rfl (fun hv2 => ?_)
    refine V_icmp_ge 48 dX4_aliasesOf_11 (by decide) hr3 hv2 (fun c3 => ?_) (fun c3 => ?_)
    · replace E := mmI_t c3 E
      refine V_iload_n 2 dX4_aliasesOf_48 rfl ?_
      obtain rfl := Option.some.inj E
      exact V_reti dX4_aliasesOf_49 ⟨rfl, rfl, hr2⟩
    · replace E := mmI_f c3 E
      refine V_iload_n 2 dX4_aliasesOf_14 rfl ?_
      refine V_aload_n 0 dX4_aliasesOf_15 rfl ?_
      refine V_iload_n 3 dX4_aliasesOf_16 rfl ?_
      refine V_iconst dX4_aliasesOf_17 rfl ?_
      obtain ⟨q4, hq4, E⟩ := mmB_e E
      refine V_callV (ci := 4) (q := (RX4, TX4, 12)) (Cn := RX4) (st := [vi l2]) 2 dX4_aliasesOf_18 (ct_X4_of hr3 ir_1 hq4) ml_X4_38 im_X4_of sl_X4_of it_X4 cd_X4_of hy_X4_of ⟨rfl, rfl, by decide, by decide⟩ sh_51 rfl rfl rfl rfl (Nat.le_of_ble_eq_true rfl) (fun hv5 => ?_)
      refine V_iconst dX4_aliasesOf_21 rfl ?_
      refine V_icmp_ne 39 dX4_aliasesOf_22 (by decide) hv5 ir_1 (fun c6 => ?_) (fun c6 => ?_)
      · replace E := mmI_f c6 E
        refine V_iconst dX4_aliasesOf_39 rfl ?_
        obtain ⟨hv7, E⟩ := mmK_e E
        refine V_iadd dX4_aliasesOf_40 ?_
        refine V_istore_n (i := 2) (lv' := [(0, .ref 51), (1, vi l1), (2, vi (l2 + 0)), (3, vi l3)]) dX4_aliasesOf_41 rfl rfl rfl ?_
        obtain ⟨hv8, E⟩ := mmK_e E
        refine V_iinc (v := (l3 + 1)) (lv' := [(0, .ref 51), (1, vi l1), (2, vi (l2 + 0)), (3, vi (l3 + 1))]) 3 dX4_aliasesOf_42 rfl rfl rfl rfl ?_
        refine V_goto 4 dX4_aliasesOf_45 (by decide) ?_
        exact ih _ _ _ _ hr1 hv7 hv8 E
      · replace E := mmI_t c6 E
        refine V_aload_n 0 dX4_aliasesOf_25 rfl ?_
        refine V_iload_n 3 dX4_aliasesOf_26 rfl ?_
        refine V_iconst dX4_aliasesOf_27 rfl ?_
        obtain ⟨q9, hq9, E⟩ := mmB_e E
        refine V_callV (ci := 4) (q := (RX4, TX4, 12)) (Cn := RX4) (st := [vi l2]) 2 dX4_aliasesOf_28 (ct_X4_of hr3 ir_2 hq9) ml_X4_38 im_X4_of sl_X4_of it_X4 cd_X4_of hy_X4_of ⟨rfl, rfl, by decide, by decide⟩ sh_51 rfl rfl rfl rfl (Nat.le_of_ble_eq_true rfl) (fun hv10 => ?_)
        refine V_iload_n 1 dX4_aliasesOf_31 rfl ?_
        refine V_icmp_ne 39 dX4_aliasesOf_32 (by decide) hv10 hr1 (fun c11 => ?_) (fun c11 => ?_)
        · replace E := mmI_f c11 E
          refine V_iconst dX4_aliasesOf_39 rfl ?_
          obtain ⟨hv12, E⟩ := mmK_e E
          refine V_iadd dX4_aliasesOf_40 ?_
          refine V_istore_n (i := 2) (lv' := [(0, .ref 51), (1, vi l1), (2, vi (l2 + 0)), (3, vi l3)]) dX4_aliasesOf_41 rfl rfl rfl ?_
          obtain ⟨hv13, E⟩ := mmK_e E
          refine V_iinc (v := (l3 + 1)) (lv' := [(0, .ref 51), (1, vi l1), (2, vi (l2 + 0)), (3, vi (l3 + 1))]) 3 dX4_aliasesOf_42 rfl rfl rfl rfl ?_
          refine V_goto 4 dX4_aliasesOf_45 (by decide) ?_
          exact ih _ _ _ _ hr1 hv12 hv13 E
        · replace E := mmI_t c11 E
          refine V_iconst dX4_aliasesOf_35 rfl ?_
          refine V_goto 40 dX4_aliasesOf_36 (by decide) ?_
          obtain ⟨hv14, E⟩ := mmK_e E
          refine V_iadd dX4_aliasesOf_40 ?_
          refine V_istore_n (i := 2) (lv' := [(0, .ref 51), (1, vi l1), (2, vi (l2 + 1)), (3, vi l3)]) dX4_aliasesOf_41 rfl rfl rfl ?_
          obtain ⟨hv15, E⟩ := mmK_e E
          refine V_iinc (v := (l3 + 1)) (lv' := [(0, .ref 51), (1, vi l1), (2, vi (l2 + 1)), (3, vi (l3 + 1))]) 3 dX4_aliasesOf_42 rfl rfl rfl rfl ?_
          refine V_goto 4 dX4_aliasesOf_45 (by decide) ?_
          exact ih _ _ _ _ hr1 hv14 hv15 E
noncomputable def f_X4_aliasesOf (l1 : Int) (m : Mem) : Option (Int × Mem) :=
  f_X4_aliasesOf_L4 mmFU l1 0 0 m
set_option maxRecDepth 100000 in
set_option maxHeartbeats 4000000 in
theorem ok_X4_aliasesOf {r : Int × Mem} : ∀ (l1 : Int) (m : Mem), inR l1 → f_X4_aliasesOf l1 m = some r → VV RX4 cX4_aliasesOf 4 rm_X4_aliasesOf mmG0 (mmPi r) 0 [(0, .ref 51), (1, vi l1)] [] m := by
  intro l1 m hr1 E
  unfold f_X4_aliasesOf at E
  refine V_iconst dX4_aliasesOf_0 rfl ?_
  refine V_istore_n (i := 2) (lv' := [(0, .ref 51), (1, vi l1), (2, vi 0)]) dX4_aliasesOf_1 rfl rfl rfl ?_
  refine V_iconst dX4_aliasesOf_2 rfl ?_
  refine V_istore_n (i := 3) (lv' := [(0, .ref 51), (1, vi l1), (2, vi 0), (3, vi 0)]) dX4_aliasesOf_3 rfl rfl rfl ?_
  exact ok_X4_aliasesOf_L4 mmFU _ _ _ _ hr1 ir_0 ir_0 E
theorem ct_X4_aliasesOf {l1 : Int} {m : Mem} {r : Int × Mem} (hr1 : inR l1) (E : f_X4_aliasesOf l1 m = some r) : CTi yX4_aliasesOf cX4_aliasesOf 4 (some .int) rm_X4_aliasesOf [.ref 51, vi l1] m r := CT_i (by decide +kernel) rfl (Nat.le_of_ble_eq_true rfl) (ok_X4_aliasesOf _ _ hr1 E)
theorem hy_X4_aliasesOf : yX4_aliasesOf.cls = RX4 ∧ yX4_aliasesOf.cls ≠ "java/lang/invoke/MethodHandle" ∧ yX4_aliasesOf.cls ≠ "java/lang/invoke/VarHandle" ∧ (parseMethodDescriptor yX4_aliasesOf.desc).map (fun d => d.parameters.length) = some 1 := by decide +kernel
abbrev rm_X4_doAdd : Room := { frames := 2, cells := 0, slots := 0, locals := 46 }
noncomputable def f_X4_doAdd (l1 : Int) (l2 : Int) (l3 : Int) (m : Mem) : Option (Int × Mem) :=
  (f_X4_isName l1 m).bind (fun q1 => if q1.1 = 0 then
(some ((-2), q1.2))
else
((f_X4_in l2 1 40 q1.2).bind (fun q4 => if q4.1 = 0 then
(some ((-2), q4.2))
else
((f_X4_in l3 0 9999 q4.2).bind (fun q7 => if q7.1 = 0 then
(some ((-2), q7.2))
else
((f_X4_rankOf l1 q7.2).bind (fun q10 => if q10.1 = (-5) then
((f_X4_isDirectoryFull q10.2).bind (fun q13 => if q13.1 = 0 then
((f_X4_isRoomFor l2 q13.2).bind (fun q16 => if q16.1 = 0 then
(some ((-3), q16.2))
else
((f_X4_putsIn (mwr (mwr (mwr q16.2 56 0 l1) 56 1 0) 56 5 (-5))).bind (fun q22 => (f_X4_laysText q22.1 l2 l3 q22.2).bind (fun q24 => (f_X4_of q22.1 2 q24).bind (fun q26 => some (q26.1, q26.2)))))))
else
(some ((-6), q13.2))))
else
(some ((-7), q10.2)))))))))
set_option maxRecDepth 100000 in
set_option maxHeartbeats 4000000 in
theorem ok_X4_doAdd {r : Int × Mem} : ∀ (l1 : Int) (l2 : Int) (l3 : Int) (m : Mem), inR l1 → inR l2 → inR l3 → f_X4_doAdd l1 l2 l3 m = some r → VV RX4 cX4_doAdd 5 rm_X4_doAdd mmG0 (mmPi r) 0 [(0, .ref 51), (1, vi l1), (2, vi l2), (3, vi l3)] [] m := by
  intro l1 l2 l3 m hr1 hr2 hr3 E
  unfold f_X4_doAdd at E
  refine V_iload_n 1 dX4_doAdd_0 rfl ?_
  obtain ⟨q1, hq1, E⟩ := mmB_e E
  refine V_callS (st := []) 1 dX4_doAdd_1 (ct_X4_isName hr1 hq1) ml_X4_57 st_X4_isName it_X4 cd_X4_isName hz_X4_isName ⟨rfl, rfl, by decide, by decide⟩ rfl rfl (Nat.le_of_ble_eq_true rfl) (fun hv2 => ?_)
  refine V_if_eq 31 dX4_doAdd_4 (by decide) hv2 (fun c3 => ?_) (fun c3 => ?_)
  · replace E := mmI_t c3 E
    refine V_bipush (v := (-2)) dX4_doAdd_31 (by decide) ?_
    obtain rfl := Option.some.inj E
    exact V_reti dX4_doAdd_33 ⟨rfl, rfl, ir_m2⟩
  · replace E := mmI_f c3 E
    refine V_iload_n 2 dX4_doAdd_7 rfl ?_
    refine V_i2l dX4_doAdd_8 hr2 ?_
    refine V_lconst (v := 1) dX4_doAdd_9 (by decide) ?_
    refine V_ldc2 (v := 40) dX4_doAdd_10 kl_X4_60 (by decide) ?_
    obtain ⟨q4, hq4, E⟩ := mmB_e E
    refine V_callS (st := []) 3 dX4_doAdd_13 (ct_X4_in (inRL hr2) (by decide) (by decide) hq4) ml_X4_34 st_X4_in it_X4 cd_X4_in hz_X4_in ⟨rfl, rfl, by decide, by decide⟩ rfl rfl (Nat.le_of_ble_eq_true rfl) (fun hv5 => ?_)
    refine V_if_eq 31 dX4_doAdd_16 (by decide) hv5 (fun c6 => ?_) (fun c6 => ?_)
    · replace E := mmI_t c6 E
      refine V_bipush (v := (-2)) dX4_doAdd_31 (by decide) ?_
      obtain rfl := Option.some.inj E
      exact V_reti dX4_doAdd_33 ⟨rfl, rfl, ir_m2⟩
    · replace E := mmI_f c6 E
      refine V_iload_n 3 dX4_doAdd_19 rfl ?_
      refine V_i2l dX4_doAdd_20 hr3 ?_
      refine V_lconst (v := 0) dX4_doAdd_21 (by decide) ?_
      refine V_ldc2 (v := 9999) dX4_doAdd_22 kl_X4_62 (by decide) ?_
      obtain ⟨q7, hq7, E⟩ := mmB_e E
      refine V_callS (st := []) 3 dX4_doAdd_25 (ct_X4_in (inRL hr3) (by decide) (by decide) hq7) ml_X4_34 st_X4_in it_X4 cd_X4_in hz_X4_in ⟨rfl, rfl, by decide, by decide⟩ rfl rfl (Nat.le_of_ble_eq_true rfl) (fun hv8 => ?_)
      refine V_if_ne 34 dX4_doAdd_28 (by decide) hv8 (fun c9 => ?_) (fun c9 => ?_)
      · replace E := mmI_f c9 E
        refine V_aload_n 0 dX4_doAdd_34 rfl ?_
        refine V_iload_n 1 dX4_doAdd_35 rfl ?_
        obtain ⟨q10, hq10, E⟩ := mmB_e E
        refine V_callV (ci := 4) (q := (RX4, TX4, 12)) (Cn := RX4) (st := []) 1 dX4_doAdd_36 (ct_X4_rankOf hr1 hq10) ml_X4_50 im_X4_rankOf sl_X4_rankOf it_X4 cd_X4_rankOf hy_X4_rankOf ⟨rfl, rfl, by decide, by decide⟩ sh_51 rfl rfl rfl rfl (Nat.le_of_ble_eq_true rfl) (fun hv11 => ?_)
        refine V_bipush (v := (-5)) dX4_doAdd_39 (by decide) ?_
        refine V_icmp_eq 47 dX4_doAdd_41 (by decide) hv11 ir_m5 (fun c12 => ?_) (fun c12 => ?_)
        · replace E := mmI_t c12 E
          refine V_aload_n 0 dX4_doAdd_47 rfl ?_
          obtain ⟨q13, hq13, E⟩ := mmB_e E
          refine V_callV (ci := 4) (q := (RX4, TX4, 12)) (Cn := RX4) (st := []) 0 dX4_doAdd_48 (ct_X4_isDirectoryFull hq13) ml_X4_64 im_X4_isDirectoryFull sl_X4_isDirectoryFull it_X4 cd_X4_isDirectoryFull hy_X4_isDirectoryFull ⟨rfl, rfl, by decide, by decide⟩ sh_51 rfl rfl rfl rfl (Nat.le_of_ble_eq_true rfl) (fun hv14 => ?_)
          refine V_if_eq 57 dX4_doAdd_51 (by decide) hv14 (fun c15 => ?_) (fun c15 => ?_)
          · replace E := mmI_t c15 E
            refine V_aload_n 0 dX4_doAdd_57 rfl ?_
            refine V_iload_n 2 dX4_doAdd_58 rfl ?_
            obtain ⟨q16, hq16, E⟩ := mmB_e E
            refine V_callV (ci := 4) (q := (RX4, TX4, 12)) (Cn := RX4) (st := []) 1 dX4_doAdd_59 (ct_X4_isRoomFor hr2 hq16) ml_X4_68 im_X4_isRoomFor sl_X4_isRoomFor it_X4 cd_X4_isRoomFor hy_X4_isRoomFor ⟨rfl, rfl, by decide, by decide⟩ sh_51 rfl rfl rfl rfl (Nat.le_of_ble_eq_true rfl) (fun hv17 => ?_)
            refine V_if_ne 68 dX4_doAdd_62 (by decide) hv17 (fun c18 => ?_) (fun c18 => ?_)
            · replace E := mmI_f c18 E
              refine V_aload_n 0 dX4_doAdd_68 rfl ?_
              refine V_geta (ci := 4) (k := 6) (N := 12) (T := TX4) (o' := 56) dX4_doAdd_69 iuX4 fl_X4_22 rfl (by decide) rfl sh_51 rfl ?_
              refine V_iconst dX4_doAdd_72 rfl ?_
              refine V_iload_n 1 dX4_doAdd_73 rfl ?_
              refine V_iast (n := 6) (j := 0) dX4_doAdd_74 sh_56 ir_0 hr1 (by decide) rfl ?_
              refine V_aload_n 0 dX4_doAdd_75 rfl ?_
              refine V_geta (ci := 4) (k := 6) (N := 12) (T := TX4) (o' := 56) dX4_doAdd_76 iuX4 fl_X4_22 rfl (by decide) rfl sh_51 rfl ?_
              refine V_iconst dX4_doAdd_79 rfl ?_
              refine V_iconst dX4_doAdd_80 rfl ?_
              refine V_iast (n := 6) (j := 1) dX4_doAdd_81 sh_56 ir_1 ir_0 (by decide) rfl ?_
              refine V_aload_n 0 dX4_doAdd_82 rfl ?_
              refine V_geta (ci := 4) (k := 6) (N := 12) (T := TX4) (o' := 56) dX4_doAdd_83 iuX4 fl_X4_22 rfl (by decide) rfl sh_51 rfl ?_
              refine V_iconst dX4_doAdd_86 rfl ?_
              refine V_bipush (v := (-5)) dX4_doAdd_87 (by decide) ?_
              refine V_iast (n := 6) (j := 5) dX4_doAdd_89 sh_56 ir_5 ir_m5 (by decide) rfl ?_
              refine V_aload_n 0 dX4_doAdd_90 rfl ?_
              obtain ⟨q22, hq22, E⟩ := mmB_e E
              refine V_callV (ci := 4) (q := (RX4, TX4, 12)) (Cn := RX4) (st := []) 0 dX4_doAdd_91 (ct_X4_putsIn hq22) ml_X4_71 im_X4_putsIn sl_X4_putsIn it_X4 cd_X4_putsIn hy_X4_putsIn ⟨rfl, rfl, by decide, by decide⟩ sh_51 rfl rfl rfl rfl (Nat.le_of_ble_eq_true rfl) (fun hv23 => ?_)
              refine V_istore (lv' := [(0, .ref 51), (1, vi l1), (2, vi l2), (3, vi l3), (4, vi q22.1)]) dX4_doAdd_94 rfl rfl ?_
              refine V_aload_n 0 dX4_doAdd_96 rfl ?_
              refine V_iload 4 dX4_doAdd_97 rfl ?_
              refine V_iload_n 2 dX4_doAdd_99 rfl ?_
              refine V_iload_n 3 dX4_doAdd_100 rfl ?_
              obtain ⟨q24, hq24, E⟩ := mmB_e E
              refine V_callVv (ci := 4) (q := (RX4, TX4, 12)) (Cn := RX4) (st := []) 3 dX4_doAdd_101 (ct_X4_laysText hv23 hr2 hr3 hq24) ml_X4_75 im_X4_laysText sl_X4_laysText it_X4 cd_X4_laysText hy_X4_laysText ⟨rfl, rfl, by decide, by decide⟩ sh_51 rfl rfl rfl rfl (Nat.le_of_ble_eq_true rfl) ?_
              refine V_aload_n 0 dX4_doAdd_104 rfl ?_
              refine V_iload 4 dX4_doAdd_105 rfl ?_
              refine V_iconst dX4_doAdd_107 rfl ?_
              obtain ⟨q26, hq26, E⟩ := mmB_e E
              refine V_callV (ci := 4) (q := (RX4, TX4, 12)) (Cn := RX4) (st := []) 2 dX4_doAdd_108 (ct_X4_of hv23 ir_2 hq26) ml_X4_38 im_X4_of sl_X4_of it_X4 cd_X4_of hy_X4_of ⟨rfl, rfl, by decide, by decide⟩ sh_51 rfl rfl rfl rfl (Nat.le_of_ble_eq_true rfl) (fun hv27 => ?_)
              obtain rfl := Option.some.inj E
              exact V_reti dX4_doAdd_111 ⟨rfl, rfl, hv27⟩
            · replace E := mmI_t c18 E
              refine V_bipush (v := (-3)) dX4_doAdd_65 (by decide) ?_
              obtain rfl := Option.some.inj E
              exact V_reti dX4_doAdd_67 ⟨rfl, rfl, ir_m3⟩
          · replace E := mmI_f c15 E
            refine V_bipush (v := (-6)) dX4_doAdd_54 (by decide) ?_
            obtain rfl := Option.some.inj E
            exact V_reti dX4_doAdd_56 ⟨rfl, rfl, ir_m6⟩
        · replace E := mmI_f c12 E
          refine V_bipush (v := (-7)) dX4_doAdd_44 (by decide) ?_
          obtain rfl := Option.some.inj E
          exact V_reti dX4_doAdd_46 ⟨rfl, rfl, ir_m7⟩
      · replace E := mmI_t c9 E
        refine V_bipush (v := (-2)) dX4_doAdd_31 (by decide) ?_
        obtain rfl := Option.some.inj E
        exact V_reti dX4_doAdd_33 ⟨rfl, rfl, ir_m2⟩
theorem ct_X4_doAdd {l1 : Int} {l2 : Int} {l3 : Int} {m : Mem} {r : Int × Mem} (hr1 : inR l1) (hr2 : inR l2) (hr3 : inR l3) (E : f_X4_doAdd l1 l2 l3 m = some r) : CTi yX4_doAdd cX4_doAdd 5 (some .int) rm_X4_doAdd [.ref 51, vi l1, vi l2, vi l3] m r := CT_i (by decide +kernel) rfl (Nat.le_of_ble_eq_true rfl) (ok_X4_doAdd _ _ _ _ hr1 hr2 hr3 E)
theorem hy_X4_doAdd : yX4_doAdd.cls = RX4 ∧ yX4_doAdd.cls ≠ "java/lang/invoke/MethodHandle" ∧ yX4_doAdd.cls ≠ "java/lang/invoke/VarHandle" ∧ (parseMethodDescriptor yX4_doAdd.desc).map (fun d => d.parameters.length) = some 3 := by decide +kernel
abbrev rm_X4_doAlias : Room := { frames := 2, cells := 0, slots := 0, locals := 45 }
noncomputable def f_X4_doAlias_L136 (l1 : Int) (l2 : Int) (l5 : Int) (l6 : Int) (l7 : Int) (m : Mem) : Option (Int × Mem) :=
  (f_X4_putsIn (mwr (mwr (mwr (mwr (mwr (mwr m 56 0 l1) 56 1 1) 56 2 l5) 56 3 l6) 56 4 l7) 56 5 l2)).bind (fun q29 => some (l5, q29.2))
set_option maxRecDepth 100000 in
set_option maxHeartbeats 4000000 in
theorem ok_X4_doAlias_L136 {r : Int × Mem} : ∀ (l1 : Int) (l2 : Int) (l5 : Int) (l6 : Int) (l7 : Int) (m : Mem), inR l1 → inR l2 → inR l5 → inR l6 → inR l7 → f_X4_doAlias_L136 l1 l2 l5 l6 l7 m = some r → VV RX4 cX4_doAlias 9 rm_X4_doAlias mmG0 (mmPi r) 136 [(0, .ref 51), (1, vi l1), (2, vi l2), (5, vi l5), (6, vi l6), (7, vi l7)] [] m := by
  intro l1 l2 l5 l6 l7 m hr1 hr2 hr5 hr6 hr7 E
  unfold f_X4_doAlias_L136 at E
  refine V_aload_n 0 dX4_doAlias_136 rfl ?_
  refine V_geta (ci := 4) (k := 6) (N := 12) (T := TX4) (o' := 56) dX4_doAlias_137 iuX4 fl_X4_22 rfl (by decide) rfl sh_51 rfl ?_
  refine V_iconst dX4_doAlias_140 rfl ?_
  refine V_iload_n 1 dX4_doAlias_141 rfl ?_
  refine V_iast (n := 6) (j := 0) dX4_doAlias_142 sh_56 ir_0 hr1 (by decide) rfl ?_
  refine V_aload_n 0 dX4_doAlias_143 rfl ?_
  refine V_geta (ci := 4) (k := 6) (N := 12) (T := TX4) (o' := 56) dX4_doAlias_144 iuX4 fl_X4_22 rfl (by decide) rfl sh_51 rfl ?_
  refine V_iconst dX4_doAlias_147 rfl ?_
  refine V_iconst dX4_doAlias_148 rfl ?_
  refine V_iast (n := 6) (j := 1) dX4_doAlias_149 sh_56 ir_1 ir_1 (by decide) rfl ?_
  refine V_aload_n 0 dX4_doAlias_150 rfl ?_
  refine V_geta (ci := 4) (k := 6) (N := 12) (T := TX4) (o' := 56) dX4_doAlias_151 iuX4 fl_X4_22 rfl (by decide) rfl sh_51 rfl ?_
  refine V_iconst dX4_doAlias_154 rfl ?_
  refine V_iload 3 dX4_doAlias_155 rfl ?_
  refine V_iast (n := 6) (j := 2) dX4_doAlias_157 sh_56 ir_2 hr5 (by decide) rfl ?_
  refine V_aload_n 0 dX4_doAlias_158 rfl ?_
  refine V_geta (ci := 4) (k := 6) (N := 12) (T := TX4) (o' := 56) dX4_doAlias_159 iuX4 fl_X4_22 rfl (by decide) rfl sh_51 rfl ?_
  refine V_iconst dX4_doAlias_162 rfl ?_
  refine V_iload 4 dX4_doAlias_163 rfl ?_
  refine V_iast (n := 6) (j := 3) dX4_doAlias_165 sh_56 ir_3 hr6 (by decide) rfl ?_
  refine V_aload_n 0 dX4_doAlias_166 rfl ?_
  refine V_geta (ci := 4) (k := 6) (N := 12) (T := TX4) (o' := 56) dX4_doAlias_167 iuX4 fl_X4_22 rfl (by decide) rfl sh_51 rfl ?_
  refine V_iconst dX4_doAlias_170 rfl ?_
  refine V_iload 5 dX4_doAlias_171 rfl ?_
  refine V_iast (n := 6) (j := 4) dX4_doAlias_173 sh_56 ir_4 hr7 (by decide) rfl ?_
  refine V_aload_n 0 dX4_doAlias_174 rfl ?_
  refine V_geta (ci := 4) (k := 6) (N := 12) (T := TX4) (o' := 56) dX4_doAlias_175 iuX4 fl_X4_22 rfl (by decide) rfl sh_51 rfl ?_
  refine V_iconst dX4_doAlias_178 rfl ?_
  refine V_iload_n 2 dX4_doAlias_179 rfl ?_
  refine V_iast (n := 6) (j := 5) dX4_doAlias_180 sh_56 ir_5 hr2 (by decide) rfl ?_
  refine V_aload_n 0 dX4_doAlias_181 rfl ?_
  obtain ⟨q29, hq29, E⟩ := mmB_e E
  refine V_callV (ci := 4) (q := (RX4, TX4, 12)) (Cn := RX4) (st := []) 0 dX4_doAlias_182 (ct_X4_putsIn hq29) ml_X4_71 im_X4_putsIn sl_X4_putsIn it_X4 cd_X4_putsIn hy_X4_putsIn ⟨rfl, rfl, by decide, by decide⟩ sh_51 rfl rfl rfl rfl (Nat.le_of_ble_eq_true rfl) (fun hv30 => ?_)
  refine V_istore (lv' := [(0, .ref 51), (1, vi l1), (2, vi l2), (5, vi l5), (6, vi l6), (7, vi l7), (8, vi q29.1)]) dX4_doAlias_185 rfl rfl ?_
  refine V_iload 3 dX4_doAlias_187 rfl ?_
  obtain rfl := Option.some.inj E
  exact V_reti dX4_doAlias_189 ⟨rfl, rfl, hr5⟩
noncomputable def f_X4_doAlias_L99 (l1 : Int) (l2 : Int) (l3 : Int) (l4 : Int) (m : Mem) : Option (Int × Mem) :=
  (f_X4_of l3 2 m).bind (fun q16 => (f_X4_of l3 3 q16.2).bind (fun q18 => (f_X4_of l3 4 q18.2).bind (fun q20 => if l4 = (-5) then
(f_X4_doAlias_L136 l1 l2 q16.1 q18.1 q20.1 q20.2)
else
((f_X4_takesOut l4 q20.2).bind (fun q31 => f_X4_doAlias_L136 l1 l2 q16.1 q18.1 q20.1 q31)))))
set_option maxRecDepth 100000 in
set_option maxHeartbeats 4000000 in
theorem ok_X4_doAlias_L99 {r : Int × Mem} : ∀ (l1 : Int) (l2 : Int) (l3 : Int) (l4 : Int) (m : Mem), inR l1 → inR l2 → inR l3 → inR l4 → f_X4_doAlias_L99 l1 l2 l3 l4 m = some r → VV RX4 cX4_doAlias 9 rm_X4_doAlias mmG0 (mmPi r) 99 [(0, .ref 51), (1, vi l1), (2, vi l2), (3, vi l3), (4, vi l4)] [] m := by
  intro l1 l2 l3 l4 m hr1 hr2 hr3 hr4 E
  unfold f_X4_doAlias_L99 at E
  refine V_aload_n 0 dX4_doAlias_99 rfl ?_
  refine V_iload_n 3 dX4_doAlias_100 rfl ?_
  refine V_iconst dX4_doAlias_101 rfl ?_
  obtain ⟨q16, hq16, E⟩ := mmB_e E
  refine V_callV (ci := 4) (q := (RX4, TX4, 12)) (Cn := RX4) (st := []) 2 dX4_doAlias_102 (ct_X4_of hr3 ir_2 hq16) ml_X4_38 im_X4_of sl_X4_of it_X4 cd_X4_of hy_X4_of ⟨rfl, rfl, by decide, by decide⟩ sh_51 rfl rfl rfl rfl (Nat.le_of_ble_eq_true rfl) (fun hv17 => ?_)
  refine V_istore (lv' := [(0, .ref 51), (1, vi l1), (2, vi l2), (3, vi l3), (4, vi l4), (5, vi q16.1)]) dX4_doAlias_105 rfl rfl ?_
  refine V_aload_n 0 dX4_doAlias_107 rfl ?_
  refine V_iload_n 3 dX4_doAlias_108 rfl ?_
  refine V_iconst dX4_doAlias_109 rfl ?_
  obtain ⟨q18, hq18, E⟩ := mmB_e E
  refine V_callV (ci := 4) (q := (RX4, TX4, 12)) (Cn := RX4) (st := []) 2 dX4_doAlias_110 (ct_X4_of hr3 ir_3 hq18) ml_X4_38 im_X4_of sl_X4_of it_X4 cd_X4_of hy_X4_of ⟨rfl, rfl, by decide, by decide⟩ sh_51 rfl rfl rfl rfl (Nat.le_of_ble_eq_true rfl) (fun hv19 => ?_)
  refine V_istore (lv' := [(0, .ref 51), (1, vi l1), (2, vi l2), (3, vi l3), (4, vi l4), (5, vi q16.1), (6, vi q18.1)]) dX4_doAlias_113 rfl rfl ?_
  refine V_aload_n 0 dX4_doAlias_115 rfl ?_
  refine V_iload_n 3 dX4_doAlias_116 rfl ?_
  refine V_iconst dX4_doAlias_117 rfl ?_
  obtain ⟨q20, hq20, E⟩ := mmB_e E
  refine V_callV (ci := 4) (q := (RX4, TX4, 12)) (Cn := RX4) (st := []) 2 dX4_doAlias_118 (ct_X4_of hr3 ir_4 hq20) ml_X4_38 im_X4_of sl_X4_of it_X4 cd_X4_of hy_X4_of ⟨rfl, rfl, by decide, by decide⟩ sh_51 rfl rfl rfl rfl (Nat.le_of_ble_eq_true rfl) (fun hv21 => ?_)
  refine V_istore (lv' := [(0, .ref 51), (1, vi l1), (2, vi l2), (3, vi l3), (4, vi l4), (5, vi q16.1), (6, vi q18.1), (7, vi q20.1)]) dX4_doAlias_121 rfl rfl ?_
  refine V_iload 4 dX4_doAlias_123 rfl ?_
  refine V_bipush (v := (-5)) dX4_doAlias_125 (by decide) ?_
  refine V_icmp_eq 136 dX4_doAlias_127 (by decide) hr4 ir_m5 (fun c22 => ?_) (fun c22 => ?_)
  · replace E := mmI_t c22 E
    refine V_sub [0, 1, 2, 5, 6, 7] rfl ?_
    exact ok_X4_doAlias_L136 _ _ _ _ _ _ hr1 hr2 hv17 hv19 hv21 E
  · replace E := mmI_f c22 E
    refine V_aload_n 0 dX4_doAlias_130 rfl ?_
    refine V_iload 4 dX4_doAlias_131 rfl ?_
    obtain ⟨q31, hq31, E⟩ := mmB_e E
    refine V_callVv (ci := 4) (q := (RX4, TX4, 12)) (Cn := RX4) (st := []) 1 dX4_doAlias_133 (ct_X4_takesOut hr4 hq31) ml_X4_78 im_X4_takesOut sl_X4_takesOut it_X4 cd_X4_takesOut hy_X4_takesOut ⟨rfl, rfl, by decide, by decide⟩ sh_51 rfl rfl rfl rfl (Nat.le_of_ble_eq_true rfl) ?_
    refine V_sub [0, 1, 2, 5, 6, 7] rfl ?_
    exact ok_X4_doAlias_L136 _ _ _ _ _ _ hr1 hr2 hv17 hv19 hv21 E
noncomputable def f_X4_doAlias_L62 (l1 : Int) (l2 : Int) (l3 : Int) (l4 : Int) (m : Mem) : Option (Int × Mem) :=
  if l4 = (-5) then
(f_X4_doAlias_L99 l1 l2 l3 l4 m)
else
((f_X4_of l4 2 m).bind (fun q33 => (f_X4_of l3 2 q33.2).bind (fun q35 => if q33.1 = q35.1 then
((f_X4_of l4 5 q35.2).bind (fun q38 => if q38.1 = l2 then
(some ((-5), q38.2))
else
(f_X4_doAlias_L99 l1 l2 l3 l4 q38.2)))
else
(f_X4_doAlias_L99 l1 l2 l3 l4 q35.2))))
set_option maxRecDepth 100000 in
set_option maxHeartbeats 4000000 in
theorem ok_X4_doAlias_L62 {r : Int × Mem} : ∀ (l1 : Int) (l2 : Int) (l3 : Int) (l4 : Int) (m : Mem), inR l1 → inR l2 → inR l3 → inR l4 → f_X4_doAlias_L62 l1 l2 l3 l4 m = some r → VV RX4 cX4_doAlias 9 rm_X4_doAlias mmG0 (mmPi r) 62 [(0, .ref 51), (1, vi l1), (2, vi l2), (3, vi l3), (4, vi l4)] [] m := by
  intro l1 l2 l3 l4 m hr1 hr2 hr3 hr4 E
  unfold f_X4_doAlias_L62 at E
  refine V_iload 4 dX4_doAlias_62 rfl ?_
  refine V_bipush (v := (-5)) dX4_doAlias_64 (by decide) ?_
  refine V_icmp_eq 99 dX4_doAlias_66 (by decide) hr4 ir_m5 (fun c15 => ?_) (fun c15 => ?_)
  · replace E := mmI_t c15 E
    exact ok_X4_doAlias_L99 _ _ _ _ _ hr1 hr2 hr3 hr4 E
  · replace E := mmI_f c15 E
    refine V_aload_n 0 dX4_doAlias_69 rfl ?_
    refine V_iload 4 dX4_doAlias_70 rfl ?_
    refine V_iconst dX4_doAlias_72 rfl ?_
    obtain ⟨q33, hq33, E⟩ := mmB_e E
    refine V_callV (ci := 4) (q := (RX4, TX4, 12)) (Cn := RX4) (st := []) 2 dX4_doAlias_73 (ct_X4_of hr4 ir_2 hq33) ml_X4_38 im_X4_of sl_X4_of it_X4 cd_X4_of hy_X4_of ⟨rfl, rfl, by decide, by decide⟩ sh_51 rfl rfl rfl rfl (Nat.le_of_ble_eq_true rfl) (fun hv34 => ?_)
    refine V_aload_n 0 dX4_doAlias_76 rfl ?_
    refine V_iload_n 3 dX4_doAlias_77 rfl ?_
    refine V_iconst dX4_doAlias_78 rfl ?_
    obtain ⟨q35, hq35, E⟩ := mmB_e E
    refine V_callV (ci := 4) (q := (RX4, TX4, 12)) (Cn := RX4) (st := [vi q33.1]) 2 dX4_doAlias_79 (ct_X4_of hr3 ir_2 hq35) ml_X4_38 im_X4_of sl_X4_of it_X4 cd_X4_of hy_X4_of ⟨rfl, rfl, by decide, by decide⟩ sh_51 rfl rfl rfl rfl (Nat.le_of_ble_eq_true rfl) (fun hv36 => ?_)
    refine V_icmp_ne 99 dX4_doAlias_82 (by decide) hv34 hv36 (fun c37 => ?_) (fun c37 => ?_)
    · replace E := mmI_f c37 E
      exact ok_X4_doAlias_L99 _ _ _ _ _ hr1 hr2 hr3 hr4 E
    · replace E := mmI_t c37 E
      refine V_aload_n 0 dX4_doAlias_85 rfl ?_
      refine V_iload 4 dX4_doAlias_86 rfl ?_
      refine V_iconst dX4_doAlias_88 rfl ?_
      obtain ⟨q38, hq38, E⟩ := mmB_e E
      refine V_callV (ci := 4) (q := (RX4, TX4, 12)) (Cn := RX4) (st := []) 2 dX4_doAlias_89 (ct_X4_of hr4 ir_5 hq38) ml_X4_38 im_X4_of sl_X4_of it_X4 cd_X4_of hy_X4_of ⟨rfl, rfl, by decide, by decide⟩ sh_51 rfl rfl rfl rfl (Nat.le_of_ble_eq_true rfl) (fun hv39 => ?_)
      refine V_iload_n 2 dX4_doAlias_92 rfl ?_
      refine V_icmp_ne 99 dX4_doAlias_93 (by decide) hv39 hr2 (fun c40 => ?_) (fun c40 => ?_)
      · replace E := mmI_f c40 E
        exact ok_X4_doAlias_L99 _ _ _ _ _ hr1 hr2 hr3 hr4 E
      · replace E := mmI_t c40 E
        refine V_bipush (v := (-5)) dX4_doAlias_96 (by decide) ?_
        obtain rfl := Option.some.inj E
        exact V_reti dX4_doAlias_98 ⟨rfl, rfl, ir_m5⟩
noncomputable def f_X4_doAlias (l1 : Int) (l2 : Int) (m : Mem) : Option (Int × Mem) :=
  (f_X4_rankOf l2 m).bind (fun q1 => (f_X4_isMember q1.1 q1.2).bind (fun q3 => if q3.1 = 0 then
(some ((-1), q3.2))
else
((f_X4_isName l1 q3.2).bind (fun q6 => if q6.1 = 0 then
(some ((-2), q6.2))
else
((f_X4_rankOf l1 q6.2).bind (fun q9 => (f_X4_isMember q9.1 q9.2).bind (fun q11 => if q11.1 = 0 then
(if q9.1 = (-5) then
((f_X4_isDirectoryFull q11.2).bind (fun q41 => if q41.1 = 0 then
(f_X4_doAlias_L62 l1 l2 q1.1 q9.1 q41.2)
else
(some ((-6), q41.2))))
else
(f_X4_doAlias_L62 l1 l2 q1.1 q9.1 q11.2))
else
(some ((-7), q11.2)))))))))
set_option maxRecDepth 100000 in
set_option maxHeartbeats 4000000 in
theorem ok_X4_doAlias {r : Int × Mem} : ∀ (l1 : Int) (l2 : Int) (m : Mem), inR l1 → inR l2 → f_X4_doAlias l1 l2 m = some r → VV RX4 cX4_doAlias 9 rm_X4_doAlias mmG0 (mmPi r) 0 [(0, .ref 51), (1, vi l1), (2, vi l2)] [] m := by
  intro l1 l2 m hr1 hr2 E
  unfold f_X4_doAlias at E
  refine V_aload_n 0 dX4_doAlias_0 rfl ?_
  refine V_iload_n 2 dX4_doAlias_1 rfl ?_
  obtain ⟨q1, hq1, E⟩ := mmB_e E
  refine V_callV (ci := 4) (q := (RX4, TX4, 12)) (Cn := RX4) (st := []) 1 dX4_doAlias_2 (ct_X4_rankOf hr2 hq1) ml_X4_50 im_X4_rankOf sl_X4_rankOf it_X4 cd_X4_rankOf hy_X4_rankOf ⟨rfl, rfl, by decide, by decide⟩ sh_51 rfl rfl rfl rfl (Nat.le_of_ble_eq_true rfl) (fun hv2 => ?_)
  refine V_istore_n (i := 3) (lv' := [(0, .ref 51), (1, vi l1), (2, vi l2), (3, vi q1.1)]) dX4_doAlias_5 rfl rfl rfl ?_
  refine V_aload_n 0 dX4_doAlias_6 rfl ?_
  refine V_iload_n 3 dX4_doAlias_7 rfl ?_
  obtain ⟨q3, hq3, E⟩ := mmB_e E
  refine V_callV (ci := 4) (q := (RX4, TX4, 12)) (Cn := RX4) (st := []) 1 dX4_doAlias_8 (ct_X4_isMember hv2 hq3) ml_X4_53 im_X4_isMember sl_X4_isMember it_X4 cd_X4_isMember hy_X4_isMember ⟨rfl, rfl, by decide, by decide⟩ sh_51 rfl rfl rfl rfl (Nat.le_of_ble_eq_true rfl) (fun hv4 => ?_)
  refine V_if_ne 16 dX4_doAlias_11 (by decide) hv4 (fun c5 => ?_) (fun c5 => ?_)
  · replace E := mmI_f c5 E
    refine V_iload_n 1 dX4_doAlias_16 rfl ?_
    obtain ⟨q6, hq6, E⟩ := mmB_e E
    refine V_callS (st := []) 1 dX4_doAlias_17 (ct_X4_isName hr1 hq6) ml_X4_57 st_X4_isName it_X4 cd_X4_isName hz_X4_isName ⟨rfl, rfl, by decide, by decide⟩ rfl rfl (Nat.le_of_ble_eq_true rfl) (fun hv7 => ?_)
    refine V_if_ne 26 dX4_doAlias_20 (by decide) hv7 (fun c8 => ?_) (fun c8 => ?_)
    · replace E := mmI_f c8 E
      refine V_aload_n 0 dX4_doAlias_26 rfl ?_
      refine V_iload_n 1 dX4_doAlias_27 rfl ?_
      obtain ⟨q9, hq9, E⟩ := mmB_e E
      refine V_callV (ci := 4) (q := (RX4, TX4, 12)) (Cn := RX4) (st := []) 1 dX4_doAlias_28 (ct_X4_rankOf hr1 hq9) ml_X4_50 im_X4_rankOf sl_X4_rankOf it_X4 cd_X4_rankOf hy_X4_rankOf ⟨rfl, rfl, by decide, by decide⟩ sh_51 rfl rfl rfl rfl (Nat.le_of_ble_eq_true rfl) (fun hv10 => ?_)
      refine V_istore (lv' := [(0, .ref 51), (1, vi l1), (2, vi l2), (3, vi q1.1), (4, vi q9.1)]) dX4_doAlias_31 rfl rfl ?_
      refine V_aload_n 0 dX4_doAlias_33 rfl ?_
      refine V_iload 4 dX4_doAlias_34 rfl ?_
      obtain ⟨q11, hq11, E⟩ := mmB_e E
      refine V_callV (ci := 4) (q := (RX4, TX4, 12)) (Cn := RX4) (st := []) 1 dX4_doAlias_36 (ct_X4_isMember hv10 hq11) ml_X4_53 im_X4_isMember sl_X4_isMember it_X4 cd_X4_isMember hy_X4_isMember ⟨rfl, rfl, by decide, by decide⟩ sh_51 rfl rfl rfl rfl (Nat.le_of_ble_eq_true rfl) (fun hv12 => ?_)
      refine V_if_eq 45 dX4_doAlias_39 (by decide) hv12 (fun c13 => ?_) (fun c13 => ?_)
      · replace E := mmI_t c13 E
        refine V_iload 4 dX4_doAlias_45 rfl ?_
        refine V_bipush (v := (-5)) dX4_doAlias_47 (by decide) ?_
        refine V_icmp_ne 62 dX4_doAlias_49 (by decide) hv10 ir_m5 (fun c14 => ?_) (fun c14 => ?_)
        · replace E := mmI_f c14 E
          exact ok_X4_doAlias_L62 _ _ _ _ _ hr1 hr2 hv2 hv10 E
        · replace E := mmI_t c14 E
          refine V_aload_n 0 dX4_doAlias_52 rfl ?_
          obtain ⟨q41, hq41, E⟩ := mmB_e E
          refine V_callV (ci := 4) (q := (RX4, TX4, 12)) (Cn := RX4) (st := []) 0 dX4_doAlias_53 (ct_X4_isDirectoryFull hq41) ml_X4_64 im_X4_isDirectoryFull sl_X4_isDirectoryFull it_X4 cd_X4_isDirectoryFull hy_X4_isDirectoryFull ⟨rfl, rfl, by decide, by decide⟩ sh_51 rfl rfl rfl rfl (Nat.le_of_ble_eq_true rfl) (fun hv42 => ?_)
          refine V_if_eq 62 dX4_doAlias_56 (by decide) hv42 (fun c43 => ?_) (fun c43 => ?_)
          · replace E := mmI_t c43 E
            exact ok_X4_doAlias_L62 _ _ _ _ _ hr1 hr2 hv2 hv10 E
          · replace E := mmI_f c43 E
            refine V_bipush (v := (-6)) dX4_doAlias_59 (by decide) ?_
            obtain rfl := Option.some.inj E
            exact V_reti dX4_doAlias_61 ⟨rfl, rfl, ir_m6⟩
      · replace E := mmI_f c13 E
        refine V_bipush (v := (-7)) dX4_doAlias_42 (by decide) ?_
        obtain rfl := Option.some.inj E
        exact V_reti dX4_doAlias_44 ⟨rfl, rfl, ir_m7⟩
    · replace E := mmI_t c8 E
      refine V_bipush (v := (-2)) dX4_doAlias_23 (by decide) ?_
      obtain rfl := Option.some.inj E
      exact V_reti dX4_doAlias_25 ⟨rfl, rfl, ir_m2⟩
  · replace E := mmI_t c5 E
    refine V_iconst dX4_doAlias_14 rfl ?_
    obtain rfl := Option.some.inj E
    exact V_reti dX4_doAlias_15 ⟨rfl, rfl, ir_m1⟩
theorem ct_X4_doAlias {l1 : Int} {l2 : Int} {m : Mem} {r : Int × Mem} (hr1 : inR l1) (hr2 : inR l2) (E : f_X4_doAlias l1 l2 m = some r) : CTi yX4_doAlias cX4_doAlias 9 (some .int) rm_X4_doAlias [.ref 51, vi l1, vi l2] m r := CT_i (by decide +kernel) rfl (Nat.le_of_ble_eq_true rfl) (ok_X4_doAlias _ _ _ hr1 hr2 E)
theorem hy_X4_doAlias : yX4_doAlias.cls = RX4 ∧ yX4_doAlias.cls ≠ "java/lang/invoke/MethodHandle" ∧ yX4_doAlias.cls ≠ "java/lang/invoke/VarHandle" ∧ (parseMethodDescriptor yX4_doAlias.desc).map (fun d => d.parameters.length) = some 2 := by decide +kernel
abbrev rm_X4_add : Room := { frames := 3, cells := 0, slots := 0, locals := 70 }
noncomputable def f_X4_add (l1 : Int) (l2 : Int) (l3 : Int) (m : Mem) : Option (Int × Mem) :=
  (f_X4_remember m).bind (fun q1 => (f_X4_doAdd l1 l2 l3 q1).bind (fun q3 => if 0 ≤ q3.1 then
((f_X4_acted q3.1 q3.2).bind (fun q6 => some (q6.1, q6.2)))
else
(some (q3.1, q3.2))))
set_option maxRecDepth 100000 in
set_option maxHeartbeats 4000000 in
theorem ok_X4_add {r : Int × Mem} : ∀ (l1 : Int) (l2 : Int) (l3 : Int) (m : Mem), inR l1 → inR l2 → inR l3 → f_X4_add l1 l2 l3 m = some r → VV RX4 cX4_add 5 rm_X4_add mmG0 (mmPi r) 0 [(0, .ref 51), (1, vi l1), (2, vi l2), (3, vi l3)] [] m := by
  intro l1 l2 l3 m hr1 hr2 hr3 E
  unfold f_X4_add at E
  refine V_aload_n 0 dX4_add_0 rfl ?_
  obtain ⟨q1, hq1, E⟩ := mmB_e E
  refine V_callVv (ci := 4) (q := (RX4, TX4, 12)) (Cn := RX4) (st := []) 0 dX4_add_1 (ct_X4_remember hq1) ml_X4_82 im_X4_remember sl_X4_remember it_X4 cd_X4_remember hy_X4_remember ⟨rfl, rfl, by decide, by decide⟩ sh_51 rfl rfl rfl rfl (Nat.le_of_ble_eq_true rfl) ?_
  refine V_aload_n 0 dX4_add_4 rfl ?_
  refine V_iload_n 1 dX4_add_5 rfl ?_
  refine V_iload_n 2 dX4_add_6 rfl ?_
  refine V_iload_n 3 dX4_add_7 rfl ?_
  obtain ⟨q3, hq3, E⟩ := mmB_e E
  refine V_callV (ci := 4) (q := (RX4, TX4, 12)) (Cn := RX4) (st := []) 3 dX4_add_8 (ct_X4_doAdd hr1 hr2 hr3 hq3) ml_X4_85 im_X4_doAdd sl_X4_doAdd it_X4 cd_X4_doAdd hy_X4_doAdd ⟨rfl, rfl, by decide, by decide⟩ sh_51 rfl rfl rfl rfl (Nat.le_of_ble_eq_true rfl) (fun hv4 => ?_)
  refine V_istore (lv' := [(0, .ref 51), (1, vi l1), (2, vi l2), (3, vi l3), (4, vi q3.1)]) dX4_add_11 rfl rfl ?_
  refine V_iload 4 dX4_add_13 rfl ?_
  refine V_if_ge 23 dX4_add_15 (by decide) hv4 (fun c5 => ?_) (fun c5 => ?_)
  · replace E := mmI_t c5 E
    refine V_aload_n 0 dX4_add_23 rfl ?_
    refine V_iload 4 dX4_add_24 rfl ?_
    obtain ⟨q6, hq6, E⟩ := mmB_e E
    refine V_callV (ci := 4) (q := (RX4, TX4, 12)) (Cn := RX4) (st := []) 1 dX4_add_26 (ct_X4_acted hv4 hq6) ml_X4_89 im_X4_acted sl_X4_acted it_X4 cd_X4_acted hy_X4_acted ⟨rfl, rfl, by decide, by decide⟩ sh_51 rfl rfl rfl rfl (Nat.le_of_ble_eq_true rfl) (fun hv7 => ?_)
    obtain rfl := Option.some.inj E
    exact V_reti dX4_add_29 ⟨rfl, rfl, hv7⟩
  · replace E := mmI_f c5 E
    refine V_iload 4 dX4_add_18 rfl ?_
    refine V_goto 29 dX4_add_20 (by decide) ?_
    obtain rfl := Option.some.inj E
    exact V_reti dX4_add_29 ⟨rfl, rfl, hv4⟩
theorem ct_X4_add {l1 : Int} {l2 : Int} {l3 : Int} {m : Mem} {r : Int × Mem} (hr1 : inR l1) (hr2 : inR l2) (hr3 : inR l3) (E : f_X4_add l1 l2 l3 m = some r) : CTi yX4_add cX4_add 5 (some .int) rm_X4_add [.ref 51, vi l1, vi l2, vi l3] m r := CT_i (by decide +kernel) rfl (Nat.le_of_ble_eq_true rfl) (ok_X4_add _ _ _ _ hr1 hr2 hr3 E)
theorem hy_X4_add : yX4_add.cls = RX4 ∧ yX4_add.cls ≠ "java/lang/invoke/MethodHandle" ∧ yX4_add.cls ≠ "java/lang/invoke/VarHandle" ∧ (parseMethodDescriptor yX4_add.desc).map (fun d => d.parameters.length) = some 3 := by decide +kernel
abbrev rm_X4_replace : Room := { frames := 2, cells := 0, slots := 0, locals := 46 }
noncomputable def f_X4_replace (l1 : Int) (l2 : Int) (l3 : Int) (m : Mem) : Option (Int × Mem) :=
  (f_X4_rankOf l1 m).bind (fun q1 => (f_X4_isMember q1.1 q1.2).bind (fun q3 => if q3.1 = 0 then
(some ((-1), q3.2))
else
((f_X4_in l2 1 40 q3.2).bind (fun q6 => if q6.1 = 0 then
(some ((-2), q6.2))
else
((f_X4_in l3 0 9999 q6.2).bind (fun q9 => if q9.1 = 0 then
(some ((-2), q9.2))
else
((f_X4_isRoomFor l2 q9.2).bind (fun q12 => if q12.1 = 0 then
(some ((-3), q12.2))
else
((f_X4_remember q12.2).bind (fun q15 => (f_X4_laysText q1.1 l2 l3 q15).bind (fun q17 => (f_X4_of q1.1 2 q17).bind (fun q19 => (f_X4_acted q19.1 q19.2).bind (fun q21 => some (q21.1, q21.2))))))))))))))
set_option maxRecDepth 100000 in
set_option maxHeartbeats 4000000 in
theorem ok_X4_replace {r : Int × Mem} : ∀ (l1 : Int) (l2 : Int) (l3 : Int) (m : Mem), inR l1 → inR l2 → inR l3 → f_X4_replace l1 l2 l3 m = some r → VV RX4 cX4_replace 5 rm_X4_replace mmG0 (mmPi r) 0 [(0, .ref 51), (1, vi l1), (2, vi l2), (3, vi l3)] [] m := by
  intro l1 l2 l3 m hr1 hr2 hr3 E
  unfold f_X4_replace at E
  refine V_aload_n 0 dX4_replace_0 rfl ?_
  refine V_iload_n 1 dX4_replace_1 rfl ?_
  obtain ⟨q1, hq1, E⟩ := mmB_e E
  refine V_callV (ci := 4) (q := (RX4, TX4, 12)) (Cn := RX4) (st := []) 1 dX4_replace_2 (ct_X4_rankOf hr1 hq1) ml_X4_50 im_X4_rankOf sl_X4_rankOf it_X4 cd_X4_rankOf hy_X4_rankOf ⟨rfl, rfl, by decide, by decide⟩ sh_51 rfl rfl rfl rfl (Nat.le_of_ble_eq_true rfl) (fun hv2 => ?_)
  refine V_istore (lv' := [(0, .ref 51), (1, vi l1), (2, vi l2), (3, vi l3), (4, vi q1.1)]) dX4_replace_5 rfl rfl ?_
  refine V_aload_n 0 dX4_replace_7 rfl ?_
  refine V_iload 4 dX4_replace_8 rfl ?_
  obtain ⟨q3, hq3, E⟩ := mmB_e E
  refine V_callV (ci := 4) (q := (RX4, TX4, 12)) (Cn := RX4) (st := []) 1 dX4_replace_10 (ct_X4_isMember hv2 hq3) ml_X4_53 im_X4_isMember sl_X4_isMember it_X4 cd_X4_isMember hy_X4_isMember ⟨rfl, rfl, by decide, by decide⟩ sh_51 rfl rfl rfl rfl (Nat.le_of_ble_eq_true rfl) (fun hv4 => ?_)
  refine V_if_ne 18 dX4_replace_13 (by decide) hv4 (fun c5 => ?_) (fun c5 => ?_)
  · replace E := mmI_f c5 E
    refine V_iload_n 2 dX4_replace_18 rfl ?_
    refine V_i2l dX4_replace_19 hr2 ?_
    refine V_lconst (v := 1) dX4_replace_20 (by decide) ?_
    refine V_ldc2 (v := 40) dX4_replace_21 kl_X4_60 (by decide) ?_
    obtain ⟨q6, hq6, E⟩ := mmB_e E
    refine V_callS (st := []) 3 dX4_replace_24 (ct_X4_in (inRL hr2) (by decide) (by decide) hq6) ml_X4_34 st_X4_in it_X4 cd_X4_in hz_X4_in ⟨rfl, rfl, by decide, by decide⟩ rfl rfl (Nat.le_of_ble_eq_true rfl) (fun hv7 => ?_)
    refine V_if_eq 42 dX4_replace_27 (by decide) hv7 (fun c8 => ?_) (fun c8 => ?_)
    · replace E := mmI_t c8 E
      refine V_bipush (v := (-2)) dX4_replace_42 (by decide) ?_
      obtain rfl := Option.some.inj E
      exact V_reti dX4_replace_44 ⟨rfl, rfl, ir_m2⟩
    · replace E := mmI_f c8 E
      refine V_iload_n 3 dX4_replace_30 rfl ?_
      refine V_i2l dX4_replace_31 hr3 ?_
      refine V_lconst (v := 0) dX4_replace_32 (by decide) ?_
      refine V_ldc2 (v := 9999) dX4_replace_33 kl_X4_62 (by decide) ?_
      obtain ⟨q9, hq9, E⟩ := mmB_e E
      refine V_callS (st := []) 3 dX4_replace_36 (ct_X4_in (inRL hr3) (by decide) (by decide) hq9) ml_X4_34 st_X4_in it_X4 cd_X4_in hz_X4_in ⟨rfl, rfl, by decide, by decide⟩ rfl rfl (Nat.le_of_ble_eq_true rfl) (fun hv10 => ?_)
      refine V_if_ne 45 dX4_replace_39 (by decide) hv10 (fun c11 => ?_) (fun c11 => ?_)
      · replace E := mmI_f c11 E
        refine V_aload_n 0 dX4_replace_45 rfl ?_
        refine V_iload_n 2 dX4_replace_46 rfl ?_
        obtain ⟨q12, hq12, E⟩ := mmB_e E
        refine V_callV (ci := 4) (q := (RX4, TX4, 12)) (Cn := RX4) (st := []) 1 dX4_replace_47 (ct_X4_isRoomFor hr2 hq12) ml_X4_68 im_X4_isRoomFor sl_X4_isRoomFor it_X4 cd_X4_isRoomFor hy_X4_isRoomFor ⟨rfl, rfl, by decide, by decide⟩ sh_51 rfl rfl rfl rfl (Nat.le_of_ble_eq_true rfl) (fun hv13 => ?_)
        refine V_if_ne 56 dX4_replace_50 (by decide) hv13 (fun c14 => ?_) (fun c14 => ?_)
        · replace E := mmI_f c14 E
          refine V_aload_n 0 dX4_replace_56 rfl ?_
          obtain ⟨q15, hq15, E⟩ := mmB_e E
          refine V_callVv (ci := 4) (q := (RX4, TX4, 12)) (Cn := RX4) (st := []) 0 dX4_replace_57 (ct_X4_remember hq15) ml_X4_82 im_X4_remember sl_X4_remember it_X4 cd_X4_remember hy_X4_remember ⟨rfl, rfl, by decide, by decide⟩ sh_51 rfl rfl rfl rfl (Nat.le_of_ble_eq_true rfl) ?_
          refine V_aload_n 0 dX4_replace_60 rfl ?_
          refine V_iload 4 dX4_replace_61 rfl ?_
          refine V_iload_n 2 dX4_replace_63 rfl ?_
          refine V_iload_n 3 dX4_replace_64 rfl ?_
          obtain ⟨q17, hq17, E⟩ := mmB_e E
          refine V_callVv (ci := 4) (q := (RX4, TX4, 12)) (Cn := RX4) (st := []) 3 dX4_replace_65 (ct_X4_laysText hv2 hr2 hr3 hq17) ml_X4_75 im_X4_laysText sl_X4_laysText it_X4 cd_X4_laysText hy_X4_laysText ⟨rfl, rfl, by decide, by decide⟩ sh_51 rfl rfl rfl rfl (Nat.le_of_ble_eq_true rfl) ?_
          refine V_aload_n 0 dX4_replace_68 rfl ?_
          refine V_aload_n 0 dX4_replace_69 rfl ?_
          refine V_iload 4 dX4_replace_70 rfl ?_
          refine V_iconst dX4_replace_72 rfl ?_
          obtain ⟨q19, hq19, E⟩ := mmB_e E
          refine V_callV (ci := 4) (q := (RX4, TX4, 12)) (Cn := RX4) (st := [.ref 51]) 2 dX4_replace_73 (ct_X4_of hv2 ir_2 hq19) ml_X4_38 im_X4_of sl_X4_of it_X4 cd_X4_of hy_X4_of ⟨rfl, rfl, by decide, by decide⟩ sh_51 rfl rfl rfl rfl (Nat.le_of_ble_eq_true rfl) (fun hv20 => ?_)
          obtain ⟨q21, hq21, E⟩ := mmB_e E
          refine V_callV (ci := 4) (q := (RX4, TX4, 12)) (Cn := RX4) (st := []) 1 dX4_replace_76 (ct_X4_acted hv20 hq21) ml_X4_89 im_X4_acted sl_X4_acted it_X4 cd_X4_acted hy_X4_acted ⟨rfl, rfl, by decide, by decide⟩ sh_51 rfl rfl rfl rfl (Nat.le_of_ble_eq_true rfl) (fun hv22 => ?_)
          obtain rfl := Option.some.inj E
          exact V_reti dX4_replace_79 ⟨rfl, rfl, hv22⟩
        · replace E := mmI_t c14 E
          refine V_bipush (v := (-3)) dX4_replace_53 (by decide) ?_
          obtain rfl := Option.some.inj E
          exact V_reti dX4_replace_55 ⟨rfl, rfl, ir_m3⟩
      · replace E := mmI_t c11 E
        refine V_bipush (v := (-2)) dX4_replace_42 (by decide) ?_
        obtain rfl := Option.some.inj E
        exact V_reti dX4_replace_44 ⟨rfl, rfl, ir_m2⟩
  · replace E := mmI_t c5 E
    refine V_iconst dX4_replace_16 rfl ?_
    obtain rfl := Option.some.inj E
    exact V_reti dX4_replace_17 ⟨rfl, rfl, ir_m1⟩
theorem ct_X4_replace {l1 : Int} {l2 : Int} {l3 : Int} {m : Mem} {r : Int × Mem} (hr1 : inR l1) (hr2 : inR l2) (hr3 : inR l3) (E : f_X4_replace l1 l2 l3 m = some r) : CTi yX4_replace cX4_replace 5 (some .int) rm_X4_replace [.ref 51, vi l1, vi l2, vi l3] m r := CT_i (by decide +kernel) rfl (Nat.le_of_ble_eq_true rfl) (ok_X4_replace _ _ _ _ hr1 hr2 hr3 E)
theorem hy_X4_replace : yX4_replace.cls = RX4 ∧ yX4_replace.cls ≠ "java/lang/invoke/MethodHandle" ∧ yX4_replace.cls ≠ "java/lang/invoke/VarHandle" ∧ (parseMethodDescriptor yX4_replace.desc).map (fun d => d.parameters.length) = some 3 := by decide +kernel
abbrev rm_X4_remove : Room := { frames := 2, cells := 0, slots := 0, locals := 44 }
noncomputable def f_X4_remove (l1 : Int) (m : Mem) : Option (Int × Mem) :=
  (f_X4_rankOf l1 m).bind (fun q1 => if q1.1 = (-5) then
(some ((-1), q1.2))
else
((f_X4_remember q1.2).bind (fun q4 => (f_X4_takesOut q1.1 q4).bind (fun q6 => (f_X4_acted (q6.1 52 0) q6).bind (fun q10 => some (q10.1, q10.2))))))
set_option maxRecDepth 100000 in
set_option maxHeartbeats 4000000 in
theorem ok_X4_remove {r : Int × Mem} : ∀ (l1 : Int) (m : Mem), inR l1 → f_X4_remove l1 m = some r → VV RX4 cX4_remove 3 rm_X4_remove mmG0 (mmPi r) 0 [(0, .ref 51), (1, vi l1)] [] m := by
  intro l1 m hr1 E
  unfold f_X4_remove at E
  refine V_aload_n 0 dX4_remove_0 rfl ?_
  refine V_iload_n 1 dX4_remove_1 rfl ?_
  obtain ⟨q1, hq1, E⟩ := mmB_e E
  refine V_callV (ci := 4) (q := (RX4, TX4, 12)) (Cn := RX4) (st := []) 1 dX4_remove_2 (ct_X4_rankOf hr1 hq1) ml_X4_50 im_X4_rankOf sl_X4_rankOf it_X4 cd_X4_rankOf hy_X4_rankOf ⟨rfl, rfl, by decide, by decide⟩ sh_51 rfl rfl rfl rfl (Nat.le_of_ble_eq_true rfl) (fun hv2 => ?_)
  refine V_istore_n (i := 2) (lv' := [(0, .ref 51), (1, vi l1), (2, vi q1.1)]) dX4_remove_5 rfl rfl rfl ?_
  refine V_iload_n 2 dX4_remove_6 rfl ?_
  refine V_bipush (v := (-5)) dX4_remove_7 (by decide) ?_
  refine V_icmp_ne 14 dX4_remove_9 (by decide) hv2 ir_m5 (fun c3 => ?_) (fun c3 => ?_)
  · replace E := mmI_f c3 E
    refine V_aload_n 0 dX4_remove_14 rfl ?_
    obtain ⟨q4, hq4, E⟩ := mmB_e E
    refine V_callVv (ci := 4) (q := (RX4, TX4, 12)) (Cn := RX4) (st := []) 0 dX4_remove_15 (ct_X4_remember hq4) ml_X4_82 im_X4_remember sl_X4_remember it_X4 cd_X4_remember hy_X4_remember ⟨rfl, rfl, by decide, by decide⟩ sh_51 rfl rfl rfl rfl (Nat.le_of_ble_eq_true rfl) ?_
    refine V_aload_n 0 dX4_remove_18 rfl ?_
    refine V_iload_n 2 dX4_remove_19 rfl ?_
    obtain ⟨q6, hq6, E⟩ := mmB_e E
    refine V_callVv (ci := 4) (q := (RX4, TX4, 12)) (Cn := RX4) (st := []) 1 dX4_remove_20 (ct_X4_takesOut hv2 hq6) ml_X4_78 im_X4_takesOut sl_X4_takesOut it_X4 cd_X4_takesOut hy_X4_takesOut ⟨rfl, rfl, by decide, by decide⟩ sh_51 rfl rfl rfl rfl (Nat.le_of_ble_eq_true rfl) ?_
    refine V_aload_n 0 dX4_remove_23 rfl ?_
    refine V_aload_n 0 dX4_remove_24 rfl ?_
    refine V_geta (ci := 4) (k := 0) (N := 12) (T := TX4) (o' := 52) dX4_remove_25 iuX4 fl_X4_7 rfl (by decide) rfl sh_51 rfl ?_
    refine V_iconst dX4_remove_28 rfl ?_
    refine V_iald (n := 149) (j := 0) (v := (q6.1 52 0)) dX4_remove_29 sh_52 ir_0 (by decide) rfl rfl (fun hv9 => ?_)
    obtain ⟨q10, hq10, E⟩ := mmB_e E
    refine V_callV (ci := 4) (q := (RX4, TX4, 12)) (Cn := RX4) (st := []) 1 dX4_remove_30 (ct_X4_acted hv9 hq10) ml_X4_89 im_X4_acted sl_X4_acted it_X4 cd_X4_acted hy_X4_acted ⟨rfl, rfl, by decide, by decide⟩ sh_51 rfl rfl rfl rfl (Nat.le_of_ble_eq_true rfl) (fun hv11 => ?_)
    obtain rfl := Option.some.inj E
    exact V_reti dX4_remove_33 ⟨rfl, rfl, hv11⟩
  · replace E := mmI_t c3 E
    refine V_iconst dX4_remove_12 rfl ?_
    obtain rfl := Option.some.inj E
    exact V_reti dX4_remove_13 ⟨rfl, rfl, ir_m1⟩
theorem ct_X4_remove {l1 : Int} {m : Mem} {r : Int × Mem} (hr1 : inR l1) (E : f_X4_remove l1 m = some r) : CTi yX4_remove cX4_remove 3 (some .int) rm_X4_remove [.ref 51, vi l1] m r := CT_i (by decide +kernel) rfl (Nat.le_of_ble_eq_true rfl) (ok_X4_remove _ _ hr1 E)
theorem hy_X4_remove : yX4_remove.cls = RX4 ∧ yX4_remove.cls ≠ "java/lang/invoke/MethodHandle" ∧ yX4_remove.cls ≠ "java/lang/invoke/VarHandle" ∧ (parseMethodDescriptor yX4_remove.desc).map (fun d => d.parameters.length) = some 1 := by decide +kernel
abbrev rm_X4_rename : Room := { frames := 2, cells := 0, slots := 0, locals := 45 }
noncomputable def f_X4_rename_L77 : Nat → Int → Int → Int → Int → Int → Mem → Option (Int × Mem)
  | 0, _, _, _, _, _, _ => none
  | n + 1, l1, l2, l4, l5, l6, m =>
    if (m.1 52 0) ≤ l6 then
((f_X4_acted l5 m).bind (fun q23 => some (q23.1, q23.2)))
else
(if l4 = 0 then
((f_X4_of l6 5 m).bind (fun q26 => (f_X4_sets l6 5 q26.1 q26.2).bind (fun q28 => mmK (inR (l6 + 1)) (f_X4_rename_L77 n l1 l2 l4 l5 (l6 + 1) q28))))
else
((f_X4_of l6 5 m).bind (fun q31 => if q31.1 = l1 then
((f_X4_sets l6 5 l2 q31.2).bind (fun q39 => mmK (inR (l6 + 1)) (f_X4_rename_L77 n l1 l2 l4 l5 (l6 + 1) q39)))
else
((f_X4_of l6 5 q31.2).bind (fun q34 => (f_X4_sets l6 5 q34.1 q34.2).bind (fun q36 => mmK (inR (l6 + 1)) (f_X4_rename_L77 n l1 l2 l4 l5 (l6 + 1) q36)))))))
set_option maxRecDepth 100000 in
set_option maxHeartbeats 4000000 in
theorem ok_X4_rename_L77 {r : Int × Mem} : ∀ (n : Nat), ∀ (l1 : Int) (l2 : Int) (l4 : Int) (l5 : Int) (l6 : Int) (m : Mem), inR l1 → inR l2 → inR l4 → inR l5 → inR l6 → f_X4_rename_L77 n l1 l2 l4 l5 l6 m = some r → VV RX4 cX4_rename 7 rm_X4_rename mmG0 (mmPi r) 77 [(0, .ref 51), (1, vi l1), (2, vi l2), (4, vi l4), (5, vi l5), (6, vi l6)] [] m := by
  intro n
  induction n with
  | zero =>
    intro l1 l2 l4 l5 l6 m hr1 hr2 hr4 hr5 hr6 E
    cases E
  | succ n ih =>
    intro l1 l2 l4 l5 l6 m hr1 hr2 hr4 hr5 hr6 E
    rw [f_X4_rename_L77] at E
    refine V_iload 5 dX4_rename_77 rfl ?_
    refine V_aload_n 0 dX4_rename_79 rfl ?_
    refine V_geta (ci := 4) (k := 0) (N := 12) (T := TX4) (o' := 52) dX4_rename_80 iuX4 fl_X4_7 rfl (by decide) rfl sh_51 rfl ?_
    refine V_iconst dX4_rename_83 rfl ?_
    refine V_iald (n := 149) (j := 0) (v := (m.1 52 0)) dX4_rename_84 sh_52 ir_0 (by decide) rfl rfl (fun hv21 => ?_)
    refine V_icmp_ge 128 dX4_rename_85 (by decide) hr6 hv21 (fun c22 => ?_) (fun c22 => ?_)
    · replace E := mmI_t c22 E
      refine V_aload_n 0 dX4_rename_128 rfl ?_
      refine V_iload 4 dX4_rename_129 rfl ?_
      obtain ⟨q23, hq23, E⟩ := mmB_e E
      refine V_callV (ci := 4) (q := (RX4, TX4, 12)) (Cn := RX4) (st := []) 1 dX4_rename_131 (ct_X4_acted hr5 hq23) ml_X4_89 im_X4_acted sl_X4_acted it_X4 cd_X4_acted hy_X4_acted ⟨rfl, rfl, by decide, by decide⟩ sh_51 rfl rfl rfl rfl (Nat.le_of_ble_eq_true rfl) (fun hv24 => ?_)
      obtain rfl := Option.some.inj E
      exact V_reti dX4_rename_134 ⟨rfl, rfl, hv24⟩
    · replace E := mmI_f c22 E
      refine V_aload_n 0 dX4_rename_88 rfl ?_
      refine V_iload 5 dX4_rename_89 rfl ?_
      refine V_iconst dX4_rename_91 rfl ?_
      refine V_iload 3 dX4_rename_92 rfl ?_
      refine V_if_eq 112 dX4_rename_94 (by decide) hr4 (fun c25 => ?_) (fun c25 => ?_)
      · replace E := mmI_t c25 E
        refine V_aload_n 0 dX4_rename_112 rfl ?_
        refine V_iload 5 dX4_rename_113 rfl ?_
        refine V_iconst dX4_rename_115 rfl ?_
        obtain ⟨q26, hq26, E⟩ := mmB_e E
        refine V_callV (ci := 4) (q := (RX4, TX4, 12)) (Cn := RX4) (st := [vi 5, vi l6, .ref 51]) 2 dX4_rename_116 (ct_X4_of hr6 ir_5 hq26) ml_X4_38 im_X4_of sl_X4_of it_X4 cd_X4_of hy_X4_of ⟨rfl, rfl, by decide, by decide⟩ sh_51 rfl rfl rfl rfl (Nat.le_of_ble_eq_true rfl) (fun hv27 => ?_)
        obtain ⟨q28, hq28, E⟩ := mmB_e E
        refine V_callVv (ci := 4) (q := (RX4, TX4, 12)) (Cn := RX4) (st := []) 3 dX4_rename_119 (ct_X4_sets hr6 ir_5 hv27 hq28) ml_X4_42 im_X4_sets sl_X4_sets it_X4 cd_X4_sets hy_X4_sets ⟨rfl, rfl, by decide, by decide⟩ sh_51 rfl rfl rfl rfl (Nat.le_of_ble_eq_true rfl) ?_
        obtain ⟨hv30, E⟩ := mmK_e E
        refine V_iinc (v := (l6 + 1)) (lv' := [(0, .ref 51), (1, vi l1), (2, vi l2), (4, vi l4), (5, vi l5), (6, vi (l6 + 1))]) 5 dX4_rename_122 rfl rfl rfl rfl ?_
        refine V_goto 77 dX4_rename_125 (by decide) ?_
        exact ih _ _ _ _ _ _ hr1 hr2 hr4 hr5 hv30 E
      · replace E := mmI_f c25 E
        refine V_aload_n 0 dX4_rename_97 rfl ?_
        refine V_iload 5 dX4_rename_98 rfl ?_
        refine V_iconst dX4_rename_100 rfl ?_
        obtain ⟨q31, hq31, E⟩ := mmB_e E
        refine V_callV (ci := 4) (q := (RX4, TX4, 12)) (Cn := RX4) (st := [vi 5, vi l6, .ref 51]) 2 dX4_rename_101 (ct_X4_of hr6 ir_5 hq31) ml_X4_38 im_X4_of sl_X4_of it_X4 cd_X4_of hy_X4_of ⟨rfl, rfl, by decide, by decide⟩ sh_51 rfl rfl rfl rfl (Nat.le_of_ble_eq_true rfl) (fun hv32 => ?_)
        refine V_iload_n 1 dX4_rename_104 rfl ?_
        refine V_icmp_ne 112 dX4_rename_105 (by decide) hv32 hr1 (fun c33 => ?_) (fun c33 => ?_)
        · replace E := mmI_f c33 E
          refine V_aload_n 0 dX4_rename_112 rfl ?_
          refine V_iload 5 dX4_rename_113 rfl ?_
          refine V_iconst dX4_rename_115 rfl ?_
          obtain ⟨q34, hq34, E⟩ := mmB_e E
          refine V_callV (ci := 4) (q := (RX4, TX4, 12)) (Cn := RX4) (st := [vi 5, vi l6, .ref 51]) 2 dX4_rename_116 (ct_X4_of hr6 ir_5 hq34) ml_X4_38 im_X4_of sl_X4_of it_X4 cd_X4_of hy_X4_of ⟨rfl, rfl, by decide, by decide⟩ sh_51 rfl rfl rfl rfl (Nat.le_of_ble_eq_true rfl) (fun hv35 => ?_)
          obtain ⟨q36, hq36, E⟩ := mmB_e E
          refine V_callVv (ci := 4) (q := (RX4, TX4, 12)) (Cn := RX4) (st := []) 3 dX4_rename_119 (ct_X4_sets hr6 ir_5 hv35 hq36) ml_X4_42 im_X4_sets sl_X4_sets it_X4 cd_X4_sets hy_X4_sets ⟨rfl, rfl, by decide, by decide⟩ sh_51 rfl rfl rfl rfl (Nat.le_of_ble_eq_true rfl) ?_
          obtain ⟨hv38, E⟩ := mmK_e E
          refine V_iinc (v := (l6 + 1)) (lv' := [(0, .ref 51), (1, vi l1), (2, vi l2), (4, vi l4), (5, vi l5), (6, vi (l6 + 1))]) 5 dX4_rename_122 rfl rfl rfl rfl ?_
          refine V_goto 77 dX4_rename_125 (by decide) ?_
          exact ih _ _ _ _ _ _ hr1 hr2 hr4 hr5 hv38 E
        · replace E := mmI_t c33 E
          refine V_iload_n 2 dX4_rename_108 rfl ?_
          refine V_goto 119 dX4_rename_109 (by decide) ?_
          obtain ⟨q39, hq39, E⟩ := mmB_e E
          refine V_callVv (ci := 4) (q := (RX4, TX4, 12)) (Cn := RX4) (st := []) 3 dX4_rename_119 (ct_X4_sets hr6 ir_5 hr2 hq39) ml_X4_42 im_X4_sets sl_X4_sets it_X4 cd_X4_sets hy_X4_sets ⟨rfl, rfl, by decide, by decide⟩ sh_51 rfl rfl rfl rfl (Nat.le_of_ble_eq_true rfl) ?_
          obtain ⟨hv41, E⟩ := mmK_e E
          refine V_iinc (v := (l6 + 1)) (lv' := [(0, .ref 51), (1, vi l1), (2, vi l2), (4, vi l4), (5, vi l5), (6, vi (l6 + 1))]) 5 dX4_rename_122 rfl rfl rfl rfl ?_
          refine V_goto 77 dX4_rename_125 (by decide) ?_
          exact ih _ _ _ _ _ _ hr1 hr2 hr4 hr5 hv41 E
noncomputable def f_X4_rename (l1 : Int) (l2 : Int) (m : Mem) : Option (Int × Mem) :=
  (f_X4_rankOf l1 m).bind (fun q1 => if q1.1 = (-5) then
(some ((-1), q1.2))
else
((f_X4_isName l2 q1.2).bind (fun q4 => if q4.1 = 0 then
(some ((-2), q4.2))
else
(if l2 = l1 then
(some ((-5), q4.2))
else
((f_X4_rankOf l2 q4.2).bind (fun q8 => if q8.1 = (-5) then
((f_X4_remember q8.2).bind (fun q11 => (f_X4_isMember q1.1 q11).bind (fun q13 => (f_X4_takesOut q1.1 q13.2).bind (fun q15 => (f_X4_putsIn (mwr q15 56 0 l2)).bind (fun q18 => f_X4_rename_L77 mmFU l1 l2 q13.1 q18.1 0 q18.2)))))
else
(some ((-7), q8.2))))))))
set_option maxRecDepth 100000 in
set_option maxHeartbeats 4000000 in
theorem ok_X4_rename {r : Int × Mem} : ∀ (l1 : Int) (l2 : Int) (m : Mem), inR l1 → inR l2 → f_X4_rename l1 l2 m = some r → VV RX4 cX4_rename 7 rm_X4_rename mmG0 (mmPi r) 0 [(0, .ref 51), (1, vi l1), (2, vi l2)] [] m := by
  intro l1 l2 m hr1 hr2 E
  unfold f_X4_rename at E
  refine V_aload_n 0 dX4_rename_0 rfl ?_
  refine V_iload_n 1 dX4_rename_1 rfl ?_
  obtain ⟨q1, hq1, E⟩ := mmB_e E
  refine V_callV (ci := 4) (q := (RX4, TX4, 12)) (Cn := RX4) (st := []) 1 dX4_rename_2 (ct_X4_rankOf hr1 hq1) ml_X4_50 im_X4_rankOf sl_X4_rankOf it_X4 cd_X4_rankOf hy_X4_rankOf ⟨rfl, rfl, by decide, by decide⟩ sh_51 rfl rfl rfl rfl (Nat.le_of_ble_eq_true rfl) (fun hv2 => ?_)
  refine V_istore_n (i := 3) (lv' := [(0, .ref 51), (1, vi l1), (2, vi l2), (3, vi q1.1)]) dX4_rename_5 rfl rfl rfl ?_
  refine V_iload_n 3 dX4_rename_6 rfl ?_
  refine V_bipush (v := (-5)) dX4_rename_7 (by decide) ?_
  refine V_icmp_ne 14 dX4_rename_9 (by decide) hv2 ir_m5 (fun c3 => ?_) (fun c3 => ?_)
  · replace E := mmI_f c3 E
    refine V_iload_n 2 dX4_rename_14 rfl ?_
    obtain ⟨q4, hq4, E⟩ := mmB_e E
    refine V_callS (st := []) 1 dX4_rename_15 (ct_X4_isName hr2 hq4) ml_X4_57 st_X4_isName it_X4 cd_X4_isName hz_X4_isName ⟨rfl, rfl, by decide, by decide⟩ rfl rfl (Nat.le_of_ble_eq_true rfl) (fun hv5 => ?_)
    refine V_if_ne 24 dX4_rename_18 (by decide) hv5 (fun c6 => ?_) (fun c6 => ?_)
    · replace E := mmI_f c6 E
      refine V_iload_n 2 dX4_rename_24 rfl ?_
      refine V_iload_n 1 dX4_rename_25 rfl ?_
      refine V_icmp_ne 32 dX4_rename_26 (by decide) hr2 hr1 (fun c7 => ?_) (fun c7 => ?_)
      · replace E := mmI_f c7 E
        refine V_aload_n 0 dX4_rename_32 rfl ?_
        refine V_iload_n 2 dX4_rename_33 rfl ?_
        obtain ⟨q8, hq8, E⟩ := mmB_e E
        refine V_callV (ci := 4) (q := (RX4, TX4, 12)) (Cn := RX4) (st := []) 1 dX4_rename_34 (ct_X4_rankOf hr2 hq8) ml_X4_50 im_X4_rankOf sl_X4_rankOf it_X4 cd_X4_rankOf hy_X4_rankOf ⟨rfl, rfl, by decide, by decide⟩ sh_51 rfl rfl rfl rfl (Nat.le_of_ble_eq_true rfl) (fun hv9 => ?_)
        refine V_bipush (v := (-5)) dX4_rename_37 (by decide) ?_
        refine V_icmp_eq 45 dX4_rename_39 (by decide) hv9 ir_m5 (fun c10 => ?_) (fun c10 => ?_)
        · replace E := mmI_t c10 E
          refine V_aload_n 0 dX4_rename_45 rfl ?_
          obtain ⟨q11, hq11, E⟩ := mmB_e E
          refine V_callVv (ci := 4) (q := (RX4, TX4, 12)) (Cn := RX4) (st := []) 0 dX4_rename_46 (ct_X4_remember hq11) ml_X4_82 im_X4_remember sl_X4_remember it_X4 cd_X4_remember hy_X4_remember ⟨rfl, rfl, by decide, by decide⟩ sh_51 rfl rfl rfl rfl (Nat.le_of_ble_eq_true rfl) ?_
          refine V_aload_n 0 dX4_rename_49 rfl ?_
          refine V_iload_n 3 dX4_rename_50 rfl ?_
          obtain ⟨q13, hq13, E⟩ := mmB_e E
          refine V_callV (ci := 4) (q := (RX4, TX4, 12)) (Cn := RX4) (st := []) 1 dX4_rename_51 (ct_X4_isMember hv2 hq13) ml_X4_53 im_X4_isMember sl_X4_isMember it_X4 cd_X4_isMember hy_X4_isMember ⟨rfl, rfl, by decide, by decide⟩ sh_51 rfl rfl rfl rfl (Nat.le_of_ble_eq_true rfl) (fun hv14 => ?_)
          refine V_istore (lv' := [(0, .ref 51), (1, vi l1), (2, vi l2), (3, vi q1.1), (4, vi q13.1)]) dX4_rename_54 rfl rfl ?_
          refine V_aload_n 0 dX4_rename_56 rfl ?_
          refine V_iload_n 3 dX4_rename_57 rfl ?_
          obtain ⟨q15, hq15, E⟩ := mmB_e E
          refine V_callVv (ci := 4) (q := (RX4, TX4, 12)) (Cn := RX4) (st := []) 1 dX4_rename_58 (ct_X4_takesOut hv2 hq15) ml_X4_78 im_X4_takesOut sl_X4_takesOut it_X4 cd_X4_takesOut hy_X4_takesOut ⟨rfl, rfl, by decide, by decide⟩ sh_51 rfl rfl rfl rfl (Nat.le_of_ble_eq_true rfl) ?_
          refine V_aload_n 0 dX4_rename_61 rfl ?_
          refine V_geta (ci := 4) (k := 6) (N := 12) (T := TX4) (o' := 56) dX4_rename_62 iuX4 fl_X4_22 rfl (by decide) rfl sh_51 rfl ?_
          refine V_iconst dX4_rename_65 rfl ?_
          refine V_iload_n 2 dX4_rename_66 rfl ?_
          refine V_iast (n := 6) (j := 0) dX4_rename_67 sh_56 ir_0 hr2 (by decide) rfl ?_
          refine V_aload_n 0 dX4_rename_68 rfl ?_
          obtain ⟨q18, hq18, E⟩ := mmB_e E
          refine V_callV (ci := 4) (q := (RX4, TX4, 12)) (Cn := RX4) (st := []) 0 dX4_rename_69 (ct_X4_putsIn hq18) ml_X4_71 im_X4_putsIn sl_X4_putsIn it_X4 cd_X4_putsIn hy_X4_putsIn ⟨rfl, rfl, by decide, by decide⟩ sh_51 rfl rfl rfl rfl (Nat.le_of_ble_eq_true rfl) (fun hv19 => ?_)
          refine V_istore (lv' := [(0, .ref 51), (1, vi l1), (2, vi l2), (3, vi q1.1), (4, vi q13.1), (5, vi q18.1)]) dX4_rename_72 rfl rfl ?_
          refine V_iconst dX4_rename_74 rfl ?_
          refine V_istore (lv' := [(0, .ref 51), (1, vi l1), (2, vi l2), (3, vi q1.1), (4, vi q13.1), (5, vi q18.1), (6, vi 0)]) dX4_rename_75 rfl rfl ?_
          refine V_sub [0, 1, 2, 4, 5, 6] rfl ?_
          exact ok_X4_rename_L77 mmFU _ _ _ _ _ _ hr1 hr2 hv14 hv19 ir_0 E
        · replace E := mmI_f c10 E
          refine V_bipush (v := (-7)) dX4_rename_42 (by decide) ?_
          obtain rfl := Option.some.inj E
          exact V_reti dX4_rename_44 ⟨rfl, rfl, ir_m7⟩
      · replace E := mmI_t c7 E
        refine V_bipush (v := (-5)) dX4_rename_29 (by decide) ?_
        obtain rfl := Option.some.inj E
        exact V_reti dX4_rename_31 ⟨rfl, rfl, ir_m5⟩
    · replace E := mmI_t c6 E
      refine V_bipush (v := (-2)) dX4_rename_21 (by decide) ?_
      obtain rfl := Option.some.inj E
      exact V_reti dX4_rename_23 ⟨rfl, rfl, ir_m2⟩
  · replace E := mmI_t c3 E
    refine V_iconst dX4_rename_12 rfl ?_
    obtain rfl := Option.some.inj E
    exact V_reti dX4_rename_13 ⟨rfl, rfl, ir_m1⟩
theorem ct_X4_rename {l1 : Int} {l2 : Int} {m : Mem} {r : Int × Mem} (hr1 : inR l1) (hr2 : inR l2) (E : f_X4_rename l1 l2 m = some r) : CTi yX4_rename cX4_rename 7 (some .int) rm_X4_rename [.ref 51, vi l1, vi l2] m r := CT_i (by decide +kernel) rfl (Nat.le_of_ble_eq_true rfl) (ok_X4_rename _ _ _ hr1 hr2 E)
theorem hy_X4_rename : yX4_rename.cls = RX4 ∧ yX4_rename.cls ≠ "java/lang/invoke/MethodHandle" ∧ yX4_rename.cls ≠ "java/lang/invoke/VarHandle" ∧ (parseMethodDescriptor yX4_rename.desc).map (fun d => d.parameters.length) = some 2 := by decide +kernel
abbrev rm_X4_alias : Room := { frames := 3, cells := 0, slots := 0, locals := 73 }
noncomputable def f_X4_alias (l1 : Int) (l2 : Int) (m : Mem) : Option (Int × Mem) :=
  (f_X4_remember m).bind (fun q1 => (f_X4_doAlias l1 l2 q1).bind (fun q3 => if 0 ≤ q3.1 then
((f_X4_acted q3.1 q3.2).bind (fun q6 => some (q6.1, q6.2)))
else
(some (q3.1, q3.2))))
set_option maxRecDepth 100000 in
set_option maxHeartbeats 4000000 in
theorem ok_X4_alias {r : Int × Mem} : ∀ (l1 : Int) (l2 : Int) (m : Mem), inR l1 → inR l2 → f_X4_alias l1 l2 m = some r → VV RX4 cX4_alias 4 rm_X4_alias mmG0 (mmPi r) 0 [(0, .ref 51), (1, vi l1), (2, vi l2)] [] m := by
  intro l1 l2 m hr1 hr2 E
  unfold f_X4_alias at E
  refine V_aload_n 0 dX4_alias_0 rfl ?_
  obtain ⟨q1, hq1, E⟩ := mmB_e E
  refine V_callVv (ci := 4) (q := (RX4, TX4, 12)) (Cn := RX4) (st := []) 0 dX4_alias_1 (ct_X4_remember hq1) ml_X4_82 im_X4_remember sl_X4_remember it_X4 cd_X4_remember hy_X4_remember ⟨rfl, rfl, by decide, by decide⟩ sh_51 rfl rfl rfl rfl (Nat.le_of_ble_eq_true rfl) ?_
  refine V_aload_n 0 dX4_alias_4 rfl ?_
  refine V_iload_n 1 dX4_alias_5 rfl ?_
  refine V_iload_n 2 dX4_alias_6 rfl ?_
  obtain ⟨q3, hq3, E⟩ := mmB_e E
  refine V_callV (ci := 4) (q := (RX4, TX4, 12)) (Cn := RX4) (st := []) 2 dX4_alias_7 (ct_X4_doAlias hr1 hr2 hq3) ml_X4_92 im_X4_doAlias sl_X4_doAlias it_X4 cd_X4_doAlias hy_X4_doAlias ⟨rfl, rfl, by decide, by decide⟩ sh_51 rfl rfl rfl rfl (Nat.le_of_ble_eq_true rfl) (fun hv4 => ?_)
  refine V_istore_n (i := 3) (lv' := [(0, .ref 51), (1, vi l1), (2, vi l2), (3, vi q3.1)]) dX4_alias_10 rfl rfl rfl ?_
  refine V_iload_n 3 dX4_alias_11 rfl ?_
  refine V_if_ge 19 dX4_alias_12 (by decide) hv4 (fun c5 => ?_) (fun c5 => ?_)
  · replace E := mmI_t c5 E
    refine V_aload_n 0 dX4_alias_19 rfl ?_
    refine V_iload_n 3 dX4_alias_20 rfl ?_
    obtain ⟨q6, hq6, E⟩ := mmB_e E
    refine V_callV (ci := 4) (q := (RX4, TX4, 12)) (Cn := RX4) (st := []) 1 dX4_alias_21 (ct_X4_acted hv4 hq6) ml_X4_89 im_X4_acted sl_X4_acted it_X4 cd_X4_acted hy_X4_acted ⟨rfl, rfl, by decide, by decide⟩ sh_51 rfl rfl rfl rfl (Nat.le_of_ble_eq_true rfl) (fun hv7 => ?_)
    obtain rfl := Option.some.inj E
    exact V_reti dX4_alias_24 ⟨rfl, rfl, hv7⟩
  · replace E := mmI_f c5 E
    refine V_iload_n 3 dX4_alias_15 rfl ?_
    refine V_goto 24 dX4_alias_16 (by decide) ?_
    obtain rfl := Option.some.inj E
    exact V_reti dX4_alias_24 ⟨rfl, rfl, hv4⟩
theorem ct_X4_alias {l1 : Int} {l2 : Int} {m : Mem} {r : Int × Mem} (hr1 : inR l1) (hr2 : inR l2) (E : f_X4_alias l1 l2 m = some r) : CTi yX4_alias cX4_alias 4 (some .int) rm_X4_alias [.ref 51, vi l1, vi l2] m r := CT_i (by decide +kernel) rfl (Nat.le_of_ble_eq_true rfl) (ok_X4_alias _ _ _ hr1 hr2 E)
theorem hy_X4_alias : yX4_alias.cls = RX4 ∧ yX4_alias.cls ≠ "java/lang/invoke/MethodHandle" ∧ yX4_alias.cls ≠ "java/lang/invoke/VarHandle" ∧ (parseMethodDescriptor yX4_alias.desc).map (fun d => d.parameters.length) = some 2 := by decide +kernel
