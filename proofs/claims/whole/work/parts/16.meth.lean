abbrev rm_X4_isMember : Room := { frames := 1, cells := 0, slots := 0, locals := 22 }
noncomputable def f_X4_isMember (l1 : Int) (m : Mem) : Option (Int × Mem) :=
  if l1 = (-5) then
(some (0, m))
else
((f_X4_of l1 1 m).bind (fun q2 => if q2.1 = 0 then
(some (1, q2.2))
else
(some (0, q2.2))))
set_option maxRecDepth 100000 in
set_option maxHeartbeats 4000000 in
theorem ok_X4_isMember {r : Int × Mem} : ∀ (l1 : Int) (m : Mem), inR l1 → f_X4_isMember l1 m = some r → VV RX4 cX4_isMember 2 rm_X4_isMember mmG0 (mmPz r) 0 [(0, .ref 51), (1, vi l1)] [] m := by
  intro l1 m hr1 E
  unfold f_X4_isMember at E
  refine V_iload_n 1 dX4_isMember_0 rfl ?_
  refine V_bipush (v := (-5)) dX4_isMember_1 (by decide) ?_
  refine V_icmp_eq 19 dX4_isMember_3 (by decide) hr1 ir_m5 (fun c1 => ?_) (fun c1 => ?_)
  · replace E := mmI_t c1 E
    refine V_iconst dX4_isMember_19 rfl ?_
    obtain rfl := Option.some.inj E
    exact V_reti dX4_isMember_20 ⟨rfl, rfl, (Or.inl rfl)⟩
  · replace E := mmI_f c1 E
    refine V_aload_n 0 dX4_isMember_6 rfl ?_
    refine V_iload_n 1 dX4_isMember_7 rfl ?_
    refine V_iconst dX4_isMember_8 rfl ?_
    obtain ⟨q2, hq2, E⟩ := mmB_e E
    refine V_callV (ci := 4) (q := (RX4, TX4, 12)) (Cn := RX4) (st := []) 2 dX4_isMember_9 (ct_X4_of hr1 ir_1 hq2) ml_X4_38 im_X4_of sl_X4_of it_X4 cd_X4_of hy_X4_of ⟨rfl, rfl, by decide, by decide⟩ sh_51 rfl rfl rfl rfl (Nat.le_of_ble_eq_true rfl) (fun hv3 => ?_)
    refine V_if_ne 19 dX4_isMember_12 (by decide) hv3 (fun c4 => ?_) (fun c4 => ?_)
    · replace E := mmI_f c4 E
      refine V_iconst dX4_isMember_19 rfl ?_
      obtain rfl := Option.some.inj E
      exact V_reti dX4_isMember_20 ⟨rfl, rfl, (Or.inl rfl)⟩
    · replace E := mmI_t c4 E
      refine V_iconst dX4_isMember_15 rfl ?_
      refine V_goto 20 dX4_isMember_16 (by decide) ?_
      obtain rfl := Option.some.inj E
      exact V_reti dX4_isMember_20 ⟨rfl, rfl, (Or.inr rfl)⟩
theorem ct_X4_isMember {l1 : Int} {m : Mem} {r : Int × Mem} (hr1 : inR l1) (E : f_X4_isMember l1 m = some r) : CTi yX4_isMember cX4_isMember 2 (some .boolean) rm_X4_isMember [.ref 51, vi l1] m r := CT_z (by decide +kernel) rfl (Nat.le_of_ble_eq_true rfl) (ok_X4_isMember _ _ hr1 E)
theorem hy_X4_isMember : yX4_isMember.cls = RX4 ∧ yX4_isMember.cls ≠ "java/lang/invoke/MethodHandle" ∧ yX4_isMember.cls ≠ "java/lang/invoke/VarHandle" ∧ (parseMethodDescriptor yX4_isMember.desc).map (fun d => d.parameters.length) = some 1 := by decide +kernel
abbrev rm_X4_isDirectoryFull : Room := { frames := 0, cells := 0, slots := 0, locals := 0 }
noncomputable def f_X4_isDirectoryFull (m : Mem) : Option (Int × Mem) :=
  mmK (inR (4 * (m.1 52 1))) (if (m.1 52 0) = (4 * (m.1 52 1)) then
(some (1, m))
else
(some (0, m)))
set_option maxRecDepth 100000 in
set_option maxHeartbeats 4000000 in
theorem ok_X4_isDirectoryFull {r : Int × Mem} : ∀ (m : Mem), f_X4_isDirectoryFull m = some r → VV RX4 cX4_isDirectoryFull 1 rm_X4_isDirectoryFull mmG0 (mmPz r) 0 [(0, .ref 51)] [] m := by
  intro m E
  unfold f_X4_isDirectoryFull at E
  refine V_aload_n 0 dX4_isDirectoryFull_0 rfl ?_
  refine V_geta (ci := 4) (k := 0) (N := 12) (T := TX4) (o' := 52) dX4_isDirectoryFull_1 iuX4 fl_X4_7 rfl (by decide) rfl sh_51 rfl ?_
  refine V_iconst dX4_isDirectoryFull_4 rfl ?_
  refine V_iald (n := 149) (j := 0) (v := (m.1 52 0)) dX4_isDirectoryFull_5 sh_52 ir_0 (by decide) rfl rfl (fun hv2 => ?_)
  refine V_iconst dX4_isDirectoryFull_6 rfl ?_
  refine V_aload_n 0 dX4_isDirectoryFull_7 rfl ?_
  refine V_geta (ci := 4) (k := 0) (N := 12) (T := TX4) (o' := 52) dX4_isDirectoryFull_8 iuX4 fl_X4_7 rfl (by decide) rfl sh_51 rfl ?_
  refine V_iconst dX4_isDirectoryFull_11 rfl ?_
  refine V_iald (n := 149) (j := 1) (v := (m.1 52 1)) dX4_isDirectoryFull_12 sh_52 ir_1 (by decide) rfl rfl (fun hv4 => ?_)
  obtain ⟨hv5, E⟩ := mmK_e E
  refine V_imul dX4_isDirectoryFull_13 ?_
  refine V_icmp_ne 21 dX4_isDirectoryFull_14 (by decide) hv2 hv5 (fun c6 => ?_) (fun c6 => ?_)
  · replace E := mmI_f c6 E
    refine V_iconst dX4_isDirectoryFull_21 rfl ?_
    obtain rfl := Option.some.inj E
    exact V_reti dX4_isDirectoryFull_22 ⟨rfl, rfl, (Or.inl rfl)⟩
  · replace E := mmI_t c6 E
    refine V_iconst dX4_isDirectoryFull_17 rfl ?_
    refine V_goto 22 dX4_isDirectoryFull_18 (by decide) ?_
    obtain rfl := Option.some.inj E
    exact V_reti dX4_isDirectoryFull_22 ⟨rfl, rfl, (Or.inr rfl)⟩
theorem ct_X4_isDirectoryFull {m : Mem} {r : Int × Mem} (E : f_X4_isDirectoryFull m = some r) : CTi yX4_isDirectoryFull cX4_isDirectoryFull 1 (some .boolean) rm_X4_isDirectoryFull [.ref 51] m r := CT_z (by decide +kernel) rfl (Nat.le_of_ble_eq_true rfl) (ok_X4_isDirectoryFull  _  E)
theorem hy_X4_isDirectoryFull : yX4_isDirectoryFull.cls = RX4 ∧ yX4_isDirectoryFull.cls ≠ "java/lang/invoke/MethodHandle" ∧ yX4_isDirectoryFull.cls ≠ "java/lang/invoke/VarHandle" ∧ (parseMethodDescriptor yX4_isDirectoryFull.desc).map (fun d => d.parameters.length) = some 0 := by decide +kernel
abbrev rm_X4_takesOut : Room := { frames := 1, cells := 0, slots := 0, locals := 22 }
noncomputable def f_X4_takesOut_L43 : Nat → Int → Mem → Option (Mem)
  | 0, _, _ => none
  | n + 1, l2, m =>
    mmK (inR (6 * (m.1 52 0))) (mmK (inR (5 + (6 * (m.1 52 0)))) (if (5 + (6 * (m.1 52 0))) ≤ l2 then
(some m)
else
(mmK (inR (l2 + 6)) (mmK (0 ≤ (l2 + 6) ∧ (l2 + 6) < 149) (mmK (0 ≤ l2 ∧ l2 < 149) (mmK (inR (l2 + 1)) (f_X4_takesOut_L43 n (l2 + 1) (mwr m 52 (l2).toNat (m.1 52 ((l2 + 6)).toNat)))))))))
set_option maxRecDepth 100000 in
set_option maxHeartbeats 4000000 in
theorem ok_X4_takesOut_L43 {r : Mem} : ∀ (n : Nat), ∀ (l2 : Int) (m : Mem), inR l2 → f_X4_takesOut_L43 n l2 m = some r → VV RX4 cX4_takesOut 3 rm_X4_takesOut mmG0 (mmPv r) 43 [(0, .ref 51), (2, vi l2)] [] m := by
  intro n
  induction n with
  | zero =>
    intro l2 m hr2 E
    cases E
  | succ n ih =>
    intro l2 m hr2 E
    rw [f_X4_takesOut_L43] at E
    refine V_iload_n 1 dX4_takesOut_43 rfl ?_
    refine V_iconst dX4_takesOut_44 rfl ?_
    refine V_bipush (v := 6) dX4_takesOut_45 (by decide) ?_
    refine V_aload_n 0 dX4_takesOut_47 rfl ?_
    refine V_geta (ci := 4) (k := 0) (N := 12) (T := TX4) (o' := 52) dX4_takesOut_48 iuX4 fl_X4_7 rfl (by decide) rfl sh_51 rfl ?_
    refine V_iconst dX4_takesOut_51 rfl ?_
    refine V_iald (n := 149) (j := 0) (v := (m.1 52 0)) dX4_takesOut_52 sh_52 ir_0 (by decide) rfl rfl (fun hv9 => ?_)
    obtain ⟨hv10, E⟩ := mmK_e E
    refine V_imul dX4_takesOut_53 ?_
    obtain ⟨hv11, E⟩ := mmK_e E
    refine V_iadd dX4_takesOut_54 ?_
    refine V_icmp_ge 79 dX4_takesOut_55 (by decide) hr2 hv11 (fun c12 => ?_) (fun c12 => ?_)
    · replace E := mmI_t c12 E
      obtain rfl := Option.some.inj E
      exact V_retv dX4_takesOut_79 ⟨rfl, rfl⟩
    · replace E := mmI_f c12 E
      refine V_aload_n 0 dX4_takesOut_58 rfl ?_
      refine V_geta (ci := 4) (k := 0) (N := 12) (T := TX4) (o' := 52) dX4_takesOut_59 iuX4 fl_X4_7 rfl (by decide) rfl sh_51 rfl ?_
      refine V_iload_n 1 dX4_takesOut_62 rfl ?_
      refine V_aload_n 0 dX4_takesOut_63 rfl ?_
      refine V_geta (ci := 4) (k := 0) (N := 12) (T := TX4) (o' := 52) dX4_takesOut_64 iuX4 fl_X4_7 rfl (by decide) rfl sh_51 rfl ?_
      refine V_iload_n 1 dX4_takesOut_67 rfl ?_
      refine V_bipush (v := 6) dX4_takesOut_68 (by decide) ?_
      obtain ⟨hv13, E⟩ := mmK_e E
      refine V_iadd dX4_takesOut_70 ?_
      obtain ⟨hv14, E⟩ := mmK_e E
      refine V_iald (n := 149) (j := ((l2 + 6)).toNat) (v := (m.1 52 ((l2 + 6)).toNat)) dX4_takesOut_71 sh_52 hv13 hv14 rfl rfl (fun hv15 => ?_)
      obtain ⟨hv16, E⟩ := mmK_e E
      refine V_iast (n := 149) (j := (l2).toNat) dX4_takesOut_72 sh_52 hr2 hv15 hv16 rfl ?_
      obtain ⟨hv17, E⟩ := mmK_e E
      refine V_iinc (v := (l2 + 1)) (lv' := [(0, .ref 51), (2, vi (l2 + 1))]) 1 dX4_takesOut_73 rfl rfl rfl rfl ?_
      refine V_goto 43 dX4_takesOut_76 (by decide) ?_
      exact ih _ _ hv17 E
noncomputable def f_X4_takesOut_L2 : Nat → Int → Int → Mem → Option (Mem)
  | 0, _, _, _ => none
  | n + 1, l1, l2, m =>
    if 6 ≤ l2 then
(mmK (inR ((m.1 52 0) - 1)) (mmK (inR (6 * l1)) (mmK (inR (5 + (6 * l1))) (f_X4_takesOut_L43 mmFU (5 + (6 * l1)) (mwr m 52 0 ((m.1 52 0) - 1))))))
else
((f_X4_of l1 l2 m).bind (fun q18 => mmK (0 ≤ l2 ∧ l2 < 6) (mmK (inR (l2 + 1)) (f_X4_takesOut_L2 n l1 (l2 + 1) (mwr q18.2 56 (l2).toNat q18.1)))))
set_option maxRecDepth 100000 in
set_option maxHeartbeats 4000000 in
theorem ok_X4_takesOut_L2 {r : Mem} : ∀ (n : Nat), ∀ (l1 : Int) (l2 : Int) (m : Mem), inR l1 → inR l2 → f_X4_takesOut_L2 n l1 l2 m = some r → VV RX4 cX4_takesOut 3 rm_X4_takesOut mmG0 (mmPv r) 2 [(0, .ref 51), (1, vi l1), (2, vi l2)] [] m := by
  intro n
  induction n with
  | zero =>
    intro l1 l2 m hr1 hr2 E
    cases E
  | succ n ih =>
    intro l1 l2 m hr1 hr2 E
    rw [f_X4_takesOut_L2] at E
    refine V_iload_n 2 dX4_takesOut_2 rfl ?_
    refine V_bipush (v := 6) dX4_takesOut_3 (by decide) ?_
    refine V_icmp_ge 26 dX4_takesOut_5 (by decide) hr2 ir_6 (fun c1 => ?_) (fun c1 => ?_)
    · replace E := mmI_t c1 E
      refine V_aload_n 0 dX4_takesOut_26 rfl ?_
      refine V_geta (ci := 4) (k := 0) (N := 12) (T := TX4) (o' := 52) dX4_takesOut_27 iuX4 fl_X4_7 rfl (by decide) rfl sh_51 rfl ?_
      refine V_iconst dX4_takesOut_30 rfl ?_
      refine V_dup2 dX4_takesOut_31 ?_
      refine V_iald (n := 149) (j := 0) (v := (m.1 52 0)) dX4_takesOut_32 sh_52 ir_0 (by decide) rfl rfl (fun hv3 => ?_)
      refine V_iconst dX4_takesOut_33 rfl ?_
      obtain ⟨hv4, E⟩ := mmK_e E
      refine V_isub dX4_takesOut_34 ?_
      refine V_iast (n := 149) (j := 0) dX4_takesOut_35 sh_52 ir_0 hv4 (by decide) rfl ?_
      refine V_iconst dX4_takesOut_36 rfl ?_
      refine V_bipush (v := 6) dX4_takesOut_37 (by decide) ?_
      refine V_iload_n 1 dX4_takesOut_39 rfl ?_
      obtain ⟨hv6, E⟩ := mmK_e E
      refine V_imul dX4_takesOut_40 ?_
      obtain ⟨hv7, E⟩ := mmK_e E
      refine V_iadd dX4_takesOut_41 ?_
      refine V_istore_n (i := 2) (lv' := [(0, .ref 51), (1, vi l1), (2, vi (5 + (6 * l1)))]) dX4_takesOut_42 rfl rfl rfl ?_
      refine V_sub [0, 2] rfl ?_
      exact ok_X4_takesOut_L43 mmFU _ _ hv7 E
    · replace E := mmI_f c1 E
      refine V_aload_n 0 dX4_takesOut_8 rfl ?_
      refine V_geta (ci := 4) (k := 6) (N := 12) (T := TX4) (o' := 56) dX4_takesOut_9 iuX4 fl_X4_22 rfl (by decide) rfl sh_51 rfl ?_
      refine V_iload_n 2 dX4_takesOut_12 rfl ?_
      refine V_aload_n 0 dX4_takesOut_13 rfl ?_
      refine V_iload_n 1 dX4_takesOut_14 rfl ?_
      refine V_iload_n 2 dX4_takesOut_15 rfl ?_
      obtain ⟨q18, hq18, E⟩ := mmB_e E
      refine V_callV (ci := 4) (q := (RX4, TX4, 12)) (Cn := RX4) (st := [vi l2, .ref 56]) 2 dX4_takesOut_16 (ct_X4_of hr1 hr2 hq18) ml_X4_38 im_X4_of sl_X4_of it_X4 cd_X4_of hy_X4_of ⟨rfl, rfl, by decide, by decide⟩ sh_51 rfl rfl rfl rfl (Nat.le_of_ble_eq_true rfl) (fun hv19 => ?_)
      obtain ⟨hv20, E⟩ := mmK_e E
      refine V_iast (n := 6) (j := (l2).toNat) dX4_takesOut_19 sh_56 hr2 hv19 hv20 rfl ?_
      obtain ⟨hv21, E⟩ := mmK_e E
      refine V_iinc (v := (l2 + 1)) (lv' := [(0, .ref 51), (1, vi l1), (2, vi (l2 + 1))]) 2 dX4_takesOut_20 rfl rfl rfl rfl ?_
      refine V_goto 2 dX4_takesOut_23 (by decide) ?_
      exact ih _ _ _ hr1 hv21 E
noncomputable def f_X4_takesOut (l1 : Int) (m : Mem) : Option (Mem) :=
  f_X4_takesOut_L2 mmFU l1 0 m
set_option maxRecDepth 100000 in
set_option maxHeartbeats 4000000 in
theorem ok_X4_takesOut {r : Mem} : ∀ (l1 : Int) (m : Mem), inR l1 → f_X4_takesOut l1 m = some r → VV RX4 cX4_takesOut 3 rm_X4_takesOut mmG0 (mmPv r) 0 [(0, .ref 51), (1, vi l1)] [] m := by
  intro l1 m hr1 E
  unfold f_X4_takesOut at E
  refine V_iconst dX4_takesOut_0 rfl ?_
  refine V_istore_n (i := 2) (lv' := [(0, .ref 51), (1, vi l1), (2, vi 0)]) dX4_takesOut_1 rfl rfl rfl ?_
  exact ok_X4_takesOut_L2 mmFU _ _ _ hr1 ir_0 E
theorem ct_X4_takesOut {l1 : Int} {m : Mem} {r : Mem} (hr1 : inR l1) (E : f_X4_takesOut l1 m = some r) : CTv yX4_takesOut cX4_takesOut 3 rm_X4_takesOut [.ref 51, vi l1] m r := CT_v (by decide +kernel) rfl (Nat.le_of_ble_eq_true rfl) (ok_X4_takesOut _ _ hr1 E)
theorem hy_X4_takesOut : yX4_takesOut.cls = RX4 ∧ yX4_takesOut.cls ≠ "java/lang/invoke/MethodHandle" ∧ yX4_takesOut.cls ≠ "java/lang/invoke/VarHandle" ∧ (parseMethodDescriptor yX4_takesOut.desc).map (fun d => d.parameters.length) = some 1 := by decide +kernel
abbrev rm_X4_putsIn : Room := { frames := 1, cells := 0, slots := 0, locals := 23 }
noncomputable def f_X4_putsIn_L90 : Nat → Int → Int → Mem → Option (Int × Mem)
  | 0, _, _, _ => none
  | n + 1, l1, l2, m =>
    if 6 ≤ l2 then
(some (l1, m))
else
(mmK (0 ≤ l2 ∧ l2 < 6) ((f_X4_sets l1 l2 (m.1 56 (l2).toNat) m).bind (fun q19 => mmK (inR (l2 + 1)) (f_X4_putsIn_L90 n l1 (l2 + 1) q19))))
set_option maxRecDepth 100000 in
set_option maxHeartbeats 4000000 in
theorem ok_X4_putsIn_L90 {r : Int × Mem} : ∀ (n : Nat), ∀ (l1 : Int) (l2 : Int) (m : Mem), inR l1 → inR l2 → f_X4_putsIn_L90 n l1 l2 m = some r → VV RX4 cX4_putsIn 3 rm_X4_putsIn mmG0 (mmPi r) 90 [(0, .ref 51), (1, vi l1), (2, vi l2)] [] m := by
  intro n
  induction n with
  | zero =>
    intro l1 l2 m hr1 hr2 E
    cases E
  | succ n ih =>
    intro l1 l2 m hr1 hr2 E
    rw [f_X4_putsIn_L90] at E
    refine V_iload_n 2 dX4_putsIn_90 rfl ?_
    refine V_bipush (v := 6) dX4_putsIn_91 (by decide) ?_
    refine V_icmp_ge 114 dX4_putsIn_93 (by decide) hr2 ir_6 (fun c16 => ?_) (fun c16 => ?_)
    · replace E := mmI_t c16 E
      refine V_iload_n 1 dX4_putsIn_114 rfl ?_
      obtain rfl := Option.some.inj E
      exact V_reti dX4_putsIn_115 ⟨rfl, rfl, hr1⟩
    · replace E := mmI_f c16 E
      refine V_aload_n 0 dX4_putsIn_96 rfl ?_
      refine V_iload_n 1 dX4_putsIn_97 rfl ?_
      refine V_iload_n 2 dX4_putsIn_98 rfl ?_
      refine V_aload_n 0 dX4_putsIn_99 rfl ?_
      refine V_geta (ci := 4) (k := 6) (N := 12) (T := TX4) (o' := 56) dX4_putsIn_100 iuX4 fl_X4_22 rfl (by decide) rfl sh_51 rfl ?_
      refine V_iload_n 2 dX4_putsIn_103 rfl ?_
      obtain ⟨hv17, E⟩ := mmK_e E
      refine V_iald (n := 6) (j := (l2).toNat) (v := (m.1 56 (l2).toNat)) dX4_putsIn_104 sh_56 hr2 hv17 rfl rfl (fun hv18 => ?_)
      obtain ⟨q19, hq19, E⟩ := mmB_e E
      refine V_callVv (ci := 4) (q := (RX4, TX4, 12)) (Cn := RX4) (st := []) 3 dX4_putsIn_105 (ct_X4_sets hr1 hr2 hv18 hq19) ml_X4_42 im_X4_sets sl_X4_sets it_X4 cd_X4_sets hy_X4_sets ⟨rfl, rfl, by decide, by decide⟩ sh_51 rfl rfl rfl rfl (Nat.le_of_ble_eq_true rfl) ?_
      obtain ⟨hv21, E⟩ := mmK_e E
      refine V_iinc (v := (l2 + 1)) (lv' := [(0, .ref 51), (1, vi l1), (2, vi (l2 + 1))]) 2 dX4_putsIn_108 rfl rfl rfl rfl ?_
      refine V_goto 90 dX4_putsIn_111 (by decide) ?_
      exact ih _ _ _ hr1 hv21 E
noncomputable def f_X4_putsIn_L47 : Nat → Int → Int → Mem → Option (Int × Mem)
  | 0, _, _, _ => none
  | n + 1, l1, l2, m =>
    mmK (inR (6 * l1)) (mmK (inR (5 + (6 * l1))) (if l2 < (5 + (6 * l1)) then
(mmK (inR ((m.1 52 0) + 1)) (f_X4_putsIn_L90 mmFU l1 0 (mwr m 52 0 ((m.1 52 0) + 1))))
else
(mmK (inR (l2 + 6)) (mmK (0 ≤ l2 ∧ l2 < 149) (mmK (0 ≤ (l2 + 6) ∧ (l2 + 6) < 149) (mmK (inR (l2 + (-1))) (f_X4_putsIn_L47 n l1 (l2 + (-1)) (mwr m 52 ((l2 + 6)).toNat (m.1 52 (l2).toNat)))))))))
set_option maxRecDepth 100000 in
set_option maxHeartbeats 4000000 in
theorem ok_X4_putsIn_L47 {r : Int × Mem} : ∀ (n : Nat), ∀ (l1 : Int) (l2 : Int) (m : Mem), inR l1 → inR l2 → f_X4_putsIn_L47 n l1 l2 m = some r → VV RX4 cX4_putsIn 3 rm_X4_putsIn mmG0 (mmPi r) 47 [(0, .ref 51), (1, vi l1), (2, vi l2)] [] m := by
  intro n
  induction n with
  | zero =>
    intro l1 l2 m hr1 hr2 E
    cases E
  | succ n ih =>
    intro l1 l2 m hr1 hr2 E
    rw [f_X4_putsIn_L47] at E
    refine V_iload_n 2 dX4_putsIn_47 rfl ?_
    refine V_iconst dX4_putsIn_48 rfl ?_
    refine V_bipush (v := 6) dX4_putsIn_49 (by decide) ?_
    refine V_iload_n 1 dX4_putsIn_51 rfl ?_
    obtain ⟨hv9, E⟩ := mmK_e E
    refine V_imul dX4_putsIn_52 ?_
    obtain ⟨hv10, E⟩ := mmK_e E
    refine V_iadd dX4_putsIn_53 ?_
    refine V_icmp_lt 78 dX4_putsIn_54 (by decide) hr2 hv10 (fun c11 => ?_) (fun c11 => ?_)
    · replace E := mmI_t c11 E
      refine V_aload_n 0 dX4_putsIn_78 rfl ?_
      refine V_geta (ci := 4) (k := 0) (N := 12) (T := TX4) (o' := 52) dX4_putsIn_79 iuX4 fl_X4_7 rfl (by decide) rfl sh_51 rfl ?_
      refine V_iconst dX4_putsIn_82 rfl ?_
      refine V_dup2 dX4_putsIn_83 ?_
      refine V_iald (n := 149) (j := 0) (v := (m.1 52 0)) dX4_putsIn_84 sh_52 ir_0 (by decide) rfl rfl (fun hv13 => ?_)
      refine V_iconst dX4_putsIn_85 rfl ?_
      obtain ⟨hv14, E⟩ := mmK_e E
      refine V_iadd dX4_putsIn_86 ?_
      refine V_iast (n := 149) (j := 0) dX4_putsIn_87 sh_52 ir_0 hv14 (by decide) rfl ?_
      refine V_iconst dX4_putsIn_88 rfl ?_
      refine V_istore_n (i := 2) (lv' := [(0, .ref 51), (1, vi l1), (2, vi 0)]) dX4_putsIn_89 rfl rfl rfl ?_
      exact ok_X4_putsIn_L90 mmFU _ _ _ hr1 ir_0 E
    · replace E := mmI_f c11 E
      refine V_aload_n 0 dX4_putsIn_57 rfl ?_
      refine V_geta (ci := 4) (k := 0) (N := 12) (T := TX4) (o' := 52) dX4_putsIn_58 iuX4 fl_X4_7 rfl (by decide) rfl sh_51 rfl ?_
      refine V_iload_n 2 dX4_putsIn_61 rfl ?_
      refine V_bipush (v := 6) dX4_putsIn_62 (by decide) ?_
      obtain ⟨hv22, E⟩ := mmK_e E
      refine V_iadd dX4_putsIn_64 ?_
      refine V_aload_n 0 dX4_putsIn_65 rfl ?_
      refine V_geta (ci := 4) (k := 0) (N := 12) (T := TX4) (o' := 52) dX4_putsIn_66 iuX4 fl_X4_7 rfl (by decide) rfl sh_51 rfl ?_
      refine V_iload_n 2 dX4_putsIn_69 rfl ?_
      obtain ⟨hv23, E⟩ := mmK_e E
      refine V_iald (n := 149) (j := (l2).toNat) (v := (m.1 52 (l2).toNat)) dX4_putsIn_70 sh_52 hr2 hv23 rfl rfl (fun hv24 => ?_)
      obtain ⟨hv25, E⟩ := mmK_e E
      refine V_iast (n := 149) (j := ((l2 + 6)).toNat) dX4_putsIn_71 sh_52 hv22 hv24 hv25 rfl ?_
      obtain ⟨hv26, E⟩ := mmK_e E
      refine V_iinc (v := (l2 + (-1))) (lv' := [(0, .ref 51), (1, vi l1), (2, vi (l2 + (-1)))]) 2 dX4_putsIn_72 rfl rfl rfl rfl ?_
      refine V_goto 47 dX4_putsIn_75 (by decide) ?_
      exact ih _ _ _ hr1 hv26 E
noncomputable def f_X4_putsIn_L33 (l1 : Int) (m : Mem) : Option (Int × Mem) :=
  mmK (inR (6 * (m.1 52 0))) (mmK (inR (5 + (6 * (m.1 52 0)))) (mmK (inR ((5 + (6 * (m.1 52 0))) - 1)) (f_X4_putsIn_L47 mmFU l1 ((5 + (6 * (m.1 52 0))) - 1) m)))
set_option maxRecDepth 100000 in
set_option maxHeartbeats 4000000 in
theorem ok_X4_putsIn_L33 {r : Int × Mem} : ∀ (l1 : Int) (m : Mem), inR l1 → f_X4_putsIn_L33 l1 m = some r → VV RX4 cX4_putsIn 3 rm_X4_putsIn mmG0 (mmPi r) 33 [(0, .ref 51), (1, vi l1)] [] m := by
  intro l1 m hr1 E
  unfold f_X4_putsIn_L33 at E
  refine V_iconst dX4_putsIn_33 rfl ?_
  refine V_bipush (v := 6) dX4_putsIn_34 (by decide) ?_
  refine V_aload_n 0 dX4_putsIn_36 rfl ?_
  refine V_geta (ci := 4) (k := 0) (N := 12) (T := TX4) (o' := 52) dX4_putsIn_37 iuX4 fl_X4_7 rfl (by decide) rfl sh_51 rfl ?_
  refine V_iconst dX4_putsIn_40 rfl ?_
  refine V_iald (n := 149) (j := 0) (v := (m.1 52 0)) dX4_putsIn_41 sh_52 ir_0 (by decide) rfl rfl (fun hv5 => ?_)
  obtain ⟨hv6, E⟩ := mmK_e E
  refine V_imul dX4_putsIn_42 ?_
  obtain ⟨hv7, E⟩ := mmK_e E
  refine V_iadd dX4_putsIn_43 ?_
  refine V_iconst dX4_putsIn_44 rfl ?_
  obtain ⟨hv8, E⟩ := mmK_e E
  refine V_isub dX4_putsIn_45 ?_
  refine V_istore_n (i := 2) (lv' := [(0, .ref 51), (1, vi l1), (2, vi ((5 + (6 * (m.1 52 0))) - 1))]) dX4_putsIn_46 rfl rfl rfl ?_
  exact ok_X4_putsIn_L47 mmFU _ _ _ hr1 hv8 E
noncomputable def f_X4_putsIn_L2 : Nat → Int → Mem → Option (Int × Mem)
  | 0, _, _ => none
  | n + 1, l1, m =>
    if (m.1 52 0) ≤ l1 then
(f_X4_putsIn_L33 l1 m)
else
((f_X4_of l1 0 m).bind (fun q27 => if (q27.2.1 56 0) ≤ q27.1 then
(f_X4_putsIn_L33 l1 q27.2)
else
(mmK (inR (l1 + 1)) (f_X4_putsIn_L2 n (l1 + 1) q27.2))))
set_option maxRecDepth 100000 in
set_option maxHeartbeats 4000000 in
theorem ok_X4_putsIn_L2 {r : Int × Mem} : ∀ (n : Nat), ∀ (l1 : Int) (m : Mem), inR l1 → f_X4_putsIn_L2 n l1 m = some r → VV RX4 cX4_putsIn 3 rm_X4_putsIn mmG0 (mmPi r) 2 [(0, .ref 51), (1, vi l1)] [] m := by
  intro n
  induction n with
  | zero =>
    intro l1 m hr1 E
    cases E
  | succ n ih =>
    intro l1 m hr1 E
    rw [f_X4_putsIn_L2] at E
    refine V_iload_n 1 dX4_putsIn_2 rfl ?_
    refine V_aload_n 0 dX4_putsIn_3 rfl ?_
    refine V_geta (ci := 4) (k := 0) (N := 12) (T := TX4) (o' := 52) dX4_putsIn_4 iuX4 fl_X4_7 rfl (by decide) rfl sh_51 rfl ?_
    refine V_iconst dX4_putsIn_7 rfl ?_
    refine V_iald (n := 149) (j := 0) (v := (m.1 52 0)) dX4_putsIn_8 sh_52 ir_0 (by decide) rfl rfl (fun hv2 => ?_)
    refine V_icmp_ge 33 dX4_putsIn_9 (by decide) hr1 hv2 (fun c3 => ?_) (fun c3 => ?_)
    · replace E := mmI_t c3 E
      exact ok_X4_putsIn_L33 _ _ hr1 E
    · replace E := mmI_f c3 E
      refine V_aload_n 0 dX4_putsIn_12 rfl ?_
      refine V_iload_n 1 dX4_putsIn_13 rfl ?_
      refine V_iconst dX4_putsIn_14 rfl ?_
      obtain ⟨q27, hq27, E⟩ := mmB_e E
      refine V_callV (ci := 4) (q := (RX4, TX4, 12)) (Cn := RX4) (st := []) 2 dX4_putsIn_15 (ct_X4_of hr1 ir_0 hq27) ml_X4_38 im_X4_of sl_X4_of it_X4 cd_X4_of hy_X4_of ⟨rfl, rfl, by decide, by decide⟩ sh_51 rfl rfl rfl rfl (Nat.le_of_ble_eq_true rfl) (fun hv28 => ?_)
      refine V_aload_n 0 dX4_putsIn_18 rfl ?_
      refine V_geta (ci := 4) (k := 6) (N := 12) (T := TX4) (o' := 56) dX4_putsIn_19 iuX4 fl_X4_22 rfl (by decide) rfl sh_51 rfl ?_
      refine V_iconst dX4_putsIn_22 rfl ?_
      refine V_iald (n := 6) (j := 0) (v := (q27.2.1 56 0)) dX4_putsIn_23 sh_56 ir_0 (by decide) rfl rfl (fun hv30 => ?_)
      refine V_icmp_ge 33 dX4_putsIn_24 (by decide) hv28 hv30 (fun c31 => ?_) (fun c31 => ?_)
      · replace E := mmI_t c31 E
        exact ok_X4_putsIn_L33 _ _ hr1 E
      · replace E := mmI_f c31 E
        obtain ⟨hv32, E⟩ := mmK_e E
        refine V_iinc (v := (l1 + 1)) (lv' := [(0, .ref 51), (1, vi (l1 + 1))]) 1 dX4_putsIn_27 rfl rfl rfl rfl ?_
        refine V_goto 2 dX4_putsIn_30 (by decide) ?_
        exact ih _ _ hv32 E
noncomputable def f_X4_putsIn (m : Mem) : Option (Int × Mem) :=
  f_X4_putsIn_L2 mmFU 0 m
set_option maxRecDepth 100000 in
set_option maxHeartbeats 4000000 in
theorem ok_X4_putsIn {r : Int × Mem} : ∀ (m : Mem), f_X4_putsIn m = some r → VV RX4 cX4_putsIn 3 rm_X4_putsIn mmG0 (mmPi r) 0 [(0, .ref 51)] [] m := by
  intro m E
  unfold f_X4_putsIn at E
  refine V_iconst dX4_putsIn_0 rfl ?_
  refine V_istore_n (i := 1) (lv' := [(0, .ref 51), (1, vi 0)]) dX4_putsIn_1 rfl rfl rfl ?_
  exact ok_X4_putsIn_L2 mmFU _ _ ir_0 E
theorem ct_X4_putsIn {m : Mem} {r : Int × Mem} (E : f_X4_putsIn m = some r) : CTi yX4_putsIn cX4_putsIn 3 (some .int) rm_X4_putsIn [.ref 51] m r := CT_i (by decide +kernel) rfl (Nat.le_of_ble_eq_true rfl) (ok_X4_putsIn  _  E)
theorem hy_X4_putsIn : yX4_putsIn.cls = RX4 ∧ yX4_putsIn.cls ≠ "java/lang/invoke/MethodHandle" ∧ yX4_putsIn.cls ≠ "java/lang/invoke/VarHandle" ∧ (parseMethodDescriptor yX4_putsIn.desc).map (fun d => d.parameters.length) = some 0 := by decide +kernel
abbrev rm_X4_isRoomFor : Room := { frames := 0, cells := 0, slots := 0, locals := 0 }
noncomputable def f_X4_isRoomFor (l1 : Int) (m : Mem) : Option (Int × Mem) :=
  mmK (inR ((m.1 52 2) + l1)) (if 100 < ((m.1 52 2) + l1) then
(some (0, m))
else
(some (1, m)))
set_option maxRecDepth 100000 in
set_option maxHeartbeats 4000000 in
theorem ok_X4_isRoomFor {r : Int × Mem} : ∀ (l1 : Int) (m : Mem), inR l1 → f_X4_isRoomFor l1 m = some r → VV RX4 cX4_isRoomFor 2 rm_X4_isRoomFor mmG0 (mmPz r) 0 [(0, .ref 51), (1, vi l1)] [] m := by
  intro l1 m hr1 E
  unfold f_X4_isRoomFor at E
  refine V_aload_n 0 dX4_isRoomFor_0 rfl ?_
  refine V_geta (ci := 4) (k := 0) (N := 12) (T := TX4) (o' := 52) dX4_isRoomFor_1 iuX4 fl_X4_7 rfl (by decide) rfl sh_51 rfl ?_
  refine V_iconst dX4_isRoomFor_4 rfl ?_
  refine V_iald (n := 149) (j := 2) (v := (m.1 52 2)) dX4_isRoomFor_5 sh_52 ir_2 (by decide) rfl rfl (fun hv2 => ?_)
  refine V_iload_n 1 dX4_isRoomFor_6 rfl ?_
  obtain ⟨hv3, E⟩ := mmK_e E
  refine V_iadd dX4_isRoomFor_7 ?_
  refine V_bipush (v := 100) dX4_isRoomFor_8 (by decide) ?_
  refine V_icmp_gt 17 dX4_isRoomFor_10 (by decide) hv3 ir_100 (fun c4 => ?_) (fun c4 => ?_)
  · replace E := mmI_t c4 E
    refine V_iconst dX4_isRoomFor_17 rfl ?_
    obtain rfl := Option.some.inj E
    exact V_reti dX4_isRoomFor_18 ⟨rfl, rfl, (Or.inl rfl)⟩
  · replace E := mmI_f c4 E
    refine V_iconst dX4_isRoomFor_13 rfl ?_
    refine V_goto 18 dX4_isRoomFor_14 (by decide) ?_
    obtain rfl := Option.some.inj E
    exact V_reti dX4_isRoomFor_18 ⟨rfl, rfl, (Or.inr rfl)⟩
theorem ct_X4_isRoomFor {l1 : Int} {m : Mem} {r : Int × Mem} (hr1 : inR l1) (E : f_X4_isRoomFor l1 m = some r) : CTi yX4_isRoomFor cX4_isRoomFor 2 (some .boolean) rm_X4_isRoomFor [.ref 51, vi l1] m r := CT_z (by decide +kernel) rfl (Nat.le_of_ble_eq_true rfl) (ok_X4_isRoomFor _ _ hr1 E)
theorem hy_X4_isRoomFor : yX4_isRoomFor.cls = RX4 ∧ yX4_isRoomFor.cls ≠ "java/lang/invoke/MethodHandle" ∧ yX4_isRoomFor.cls ≠ "java/lang/invoke/VarHandle" ∧ (parseMethodDescriptor yX4_isRoomFor.desc).map (fun d => d.parameters.length) = some 1 := by decide +kernel
abbrev rm_X4_laysText : Room := { frames := 1, cells := 0, slots := 0, locals := 23 }
noncomputable def f_X4_laysText (l1 : Int) (l2 : Int) (l3 : Int) (m : Mem) : Option (Mem) :=
  (f_X4_sets l1 2 (m.1 52 2) m).bind (fun q3 => (f_X4_sets l1 3 l2 q3).bind (fun q5 => (f_X4_sets l1 4 l3 q5).bind (fun q7 => mmK (inR ((q7.1 52 2) + l2)) (some (mwr q7 52 2 ((q7.1 52 2) + l2))))))
set_option maxRecDepth 100000 in
set_option maxHeartbeats 4000000 in
theorem ok_X4_laysText {r : Mem} : ∀ (l1 : Int) (l2 : Int) (l3 : Int) (m : Mem), inR l1 → inR l2 → inR l3 → f_X4_laysText l1 l2 l3 m = some r → VV RX4 cX4_laysText 4 rm_X4_laysText mmG0 (mmPv r) 0 [(0, .ref 51), (1, vi l1), (2, vi l2), (3, vi l3)] [] m := by
  intro l1 l2 l3 m hr1 hr2 hr3 E
  unfold f_X4_laysText at E
  refine V_aload_n 0 dX4_laysText_0 rfl ?_
  refine V_iload_n 1 dX4_laysText_1 rfl ?_
  refine V_iconst dX4_laysText_2 rfl ?_
  refine V_aload_n 0 dX4_laysText_3 rfl ?_
  refine V_geta (ci := 4) (k := 0) (N := 12) (T := TX4) (o' := 52) dX4_laysText_4 iuX4 fl_X4_7 rfl (by decide) rfl sh_51 rfl ?_
  refine V_iconst dX4_laysText_7 rfl ?_
  refine V_iald (n := 149) (j := 2) (v := (m.1 52 2)) dX4_laysText_8 sh_52 ir_2 (by decide) rfl rfl (fun hv2 => ?_)
  obtain ⟨q3, hq3, E⟩ := mmB_e E
  refine V_callVv (ci := 4) (q := (RX4, TX4, 12)) (Cn := RX4) (st := []) 3 dX4_laysText_9 (ct_X4_sets hr1 ir_2 hv2 hq3) ml_X4_42 im_X4_sets sl_X4_sets it_X4 cd_X4_sets hy_X4_sets ⟨rfl, rfl, by decide, by decide⟩ sh_51 rfl rfl rfl rfl (Nat.le_of_ble_eq_true rfl) ?_
  refine V_aload_n 0 dX4_laysText_12 rfl ?_
  refine V_iload_n 1 dX4_laysText_13 rfl ?_
  refine V_iconst dX4_laysText_14 rfl ?_
  refine V_iload_n 2 dX4_laysText_15 rfl ?_
  obtain ⟨q5, hq5, E⟩ := mmB_e E
  refine V_callVv (ci := 4) (q := (RX4, TX4, 12)) (Cn := RX4) (st := []) 3 dX4_laysText_16 (ct_X4_sets hr1 ir_3 hr2 hq5) ml_X4_42 im_X4_sets sl_X4_sets it_X4 cd_X4_sets hy_X4_sets ⟨rfl, rfl, by decide, by decide⟩ sh_51 rfl rfl rfl rfl (Nat.le_of_ble_eq_true rfl) ?_
  refine V_aload_n 0 dX4_laysText_19 rfl ?_
  refine V_iload_n 1 dX4_laysText_20 rfl ?_
  refine V_iconst dX4_laysText_21 rfl ?_
  refine V_iload_n 3 dX4_laysText_22 rfl ?_
  obtain ⟨q7, hq7, E⟩ := mmB_e E
  refine V_callVv (ci := 4) (q := (RX4, TX4, 12)) (Cn := RX4) (st := []) 3 dX4_laysText_23 (ct_X4_sets hr1 ir_4 hr3 hq7) ml_X4_42 im_X4_sets sl_X4_sets it_X4 cd_X4_sets hy_X4_sets ⟨rfl, rfl, by decide, by decide⟩ sh_51 rfl rfl rfl rfl (Nat.le_of_ble_eq_true rfl) ?_
  refine V_aload_n 0 dX4_laysText_26 rfl ?_
  refine V_geta (ci := 4) (k := 0) (N := 12) (T := TX4) (o' := 52) dX4_laysText_27 iuX4 fl_X4_7 rfl (by decide) rfl sh_51 rfl ?_
  refine V_iconst dX4_laysText_30 rfl ?_
  refine V_dup2 dX4_laysText_31 ?_
  refine V_iald (n := 149) (j := 2) (v := (q7.1 52 2)) dX4_laysText_32 sh_52 ir_2 (by decide) rfl rfl (fun hv10 => ?_)
  refine V_iload_n 2 dX4_laysText_33 rfl ?_
  obtain ⟨hv11, E⟩ := mmK_e E
  refine V_iadd dX4_laysText_34 ?_
  refine V_iast (n := 149) (j := 2) dX4_laysText_35 sh_52 ir_2 hv11 (by decide) rfl ?_
  obtain rfl := Option.some.inj E
  exact V_retv dX4_laysText_36 ⟨rfl, rfl⟩
theorem ct_X4_laysText {l1 : Int} {l2 : Int} {l3 : Int} {m : Mem} {r : Mem} (hr1 : inR l1) (hr2 : inR l2) (hr3 : inR l3) (E : f_X4_laysText l1 l2 l3 m = some r) : CTv yX4_laysText cX4_laysText 4 rm_X4_laysText [.ref 51, vi l1, vi l2, vi l3] m r := CT_v (by decide +kernel) rfl (Nat.le_of_ble_eq_true rfl) (ok_X4_laysText _ _ _ _ hr1 hr2 hr3 E)
theorem hy_X4_laysText : yX4_laysText.cls = RX4 ∧ yX4_laysText.cls ≠ "java/lang/invoke/MethodHandle" ∧ yX4_laysText.cls ≠ "java/lang/invoke/VarHandle" ∧ (parseMethodDescriptor yX4_laysText.desc).map (fun d => d.parameters.length) = some 3 := by decide +kernel
abbrev rm_X4_nextText : Room := { frames := 1, cells := 0, slots := 0, locals := 22 }
noncomputable def f_X4_nextText_L46 (k5 : Int → Int → Int → Mem → Option (Int × Mem)) (l1 : Int) (l2 : Int) (l3 : Int) (m : Mem) : Option (Int × Mem) :=
  mmK (inR (l3 + 1)) (k5 l1 l3 (l3 + 1) m)
set_option maxRecDepth 100000 in
set_option maxHeartbeats 4000000 in
theorem ok_X4_nextText_L46 {k5 : Int → Int → Int → Mem → Option (Int × Mem)} {r : Int × Mem} (hk5 : ∀ (l1 : Int) (l2 : Int) (l3 : Int) (m : Mem), inR l1 → inR l2 → inR l3 → k5 l1 l2 l3 m = some r → VV RX4 cX4_nextText 5 rm_X4_nextText mmG0 (mmPi r) 5 [(0, .ref 51), (1, vi l1), (2, vi l2), (3, vi l3)] [] m) : ∀ (l1 : Int) (l2 : Int) (l3 : Int) (m : Mem), inR l1 → inR l2 → inR l3 → f_X4_nextText_L46 k5 l1 l2 l3 m = some r → VV RX4 cX4_nextText 5 rm_X4_nextText mmG0 (mmPi r) 46 [(0, .ref 51), (1, vi l1), (2, vi l2), (3, vi l3)] [] m := by
  intro l1 l2 l3 m hr1 hr2 hr3 E
  unfold f_X4_nextText_L46 at E
  refine V_iconst dX4_nextText_46 rfl ?_
  refine V_goto 51 dX4_nextText_47 (by decide) ?_
  refine V_istore (lv' := [(0, .ref 51), (1, vi l1), (2, vi l2), (3, vi l3), (4, vi 1)]) dX4_nextText_51 rfl rfl ?_
  refine V_iload 4 dX4_nextText_53 rfl ?_
  refine V_if_eq 62 dX4_nextText_55 (by decide) ir_1 (fun c10 => ?_) (fun c10 => ?_)
  · exact absurd c10 (by decide)

  · refine V_iload_n 3 dX4_nextText_58 rfl ?_
    refine V_goto 63 dX4_nextText_59 (by decide) ?_
    refine V_istore_n (i := 2) (lv' := [(0, .ref 51), (1, vi l1), (2, vi l3), (3, vi l3), (4, vi 1)]) dX4_nextText_63 rfl rfl rfl ?_
    obtain ⟨hv11, E⟩ := mmK_e E
    refine V_iinc (v := (l3 + 1)) (lv' := [(0, .ref 51), (1, vi l1), (2, vi l3), (3, vi (l3 + 1)), (4, vi 1)]) 3 dX4_nextText_64 rfl rfl rfl rfl ?_
    refine V_goto 5 dX4_nextText_67 (by decide) ?_
    refine V_sub [0, 1, 2, 3] rfl ?_
    exact hk5 _ _ _ _ hr1 hr3 hv11 E
noncomputable def f_X4_nextText_L5 : Nat → Int → Int → Int → Mem → Option (Int × Mem)
  | 0, _, _, _, _ => none
  | n + 1, l1, l2, l3, m =>
    if (m.1 52 0) ≤ l3 then
(some (l2, m))
else
((f_X4_of l3 2 m).bind (fun q4 => if q4.1 < l1 then
(mmK (inR (l3 + 1)) (f_X4_nextText_L5 n l1 l2 (l3 + 1) q4.2))
else
(if l2 = (-5) then
(f_X4_nextText_L46 (f_X4_nextText_L5 n) l1 l2 l3 q4.2)
else
((f_X4_of l3 2 q4.2).bind (fun q12 => (f_X4_of l2 2 q12.2).bind (fun q14 => if q14.1 ≤ q12.1 then
(mmK (inR (l3 + 1)) (f_X4_nextText_L5 n l1 l2 (l3 + 1) q14.2))
else
(f_X4_nextText_L46 (f_X4_nextText_L5 n) l1 l2 l3 q14.2)))))))
set_option maxRecDepth 100000 in
set_option maxHeartbeats 4000000 in
theorem ok_X4_nextText_L5 {r : Int × Mem} : ∀ (n : Nat), ∀ (l1 : Int) (l2 : Int) (l3 : Int) (m : Mem), inR l1 → inR l2 → inR l3 → f_X4_nextText_L5 n l1 l2 l3 m = some r → VV RX4 cX4_nextText 5 rm_X4_nextText mmG0 (mmPi r) 5 [(0, .ref 51), (1, vi l1), (2, vi l2), (3, vi l3)] [] m := by
  intro n
  induction n with
  | zero =>
    intro l1 l2 l3 m hr1 hr2 hr3 E
    cases E
  | succ n ih =>
    intro l1 l2 l3 m hr1 hr2 hr3 E
    rw [f_X4_nextText_L5] at E
    refine V_iload_n 3 dX4_nextText_5 rfl ?_
    refine V_aload_n 0 dX4_nextText_6 rfl ?_
    refine V_geta (ci := 4) (k := 0) (N := 12) (T := TX4) (o' := 52) dX4_nextText_7 iuX4 fl_X4_7 rfl (by decide) rfl sh_51 rfl ?_
    refine V_iconst dX4_nextText_10 rfl ?_
    refine V_iald (n := 149) (j := 0) (v := (m.1 52 0)) dX4_nextText_11 sh_52 ir_0 (by decide) rfl rfl (fun hv2 => ?_)
    refine V_icmp_ge 70 dX4_nextText_12 (by decide) hr3 hv2 (fun c3 => ?_) (fun c3 => ?_)
    · replace E := mmI_t c3 E
      refine V_iload_n 2 dX4_nextText_70 rfl ?_
      obtain rfl := Option.some.inj E
      exact V_reti dX4_nextText_71 ⟨rfl, rfl, hr2⟩
    · replace E := mmI_f c3 E
      refine V_aload_n 0 dX4_nextText_15 rfl ?_
      refine V_iload_n 3 dX4_nextText_16 rfl ?_
      refine V_iconst dX4_nextText_17 rfl ?_
      obtain ⟨q4, hq4, E⟩ := mmB_e E
      refine V_callV (ci := 4) (q := (RX4, TX4, 12)) (Cn := RX4) (st := []) 2 dX4_nextText_18 (ct_X4_of hr3 ir_2 hq4) ml_X4_38 im_X4_of sl_X4_of it_X4 cd_X4_of hy_X4_of ⟨rfl, rfl, by decide, by decide⟩ sh_51 rfl rfl rfl rfl (Nat.le_of_ble_eq_true rfl) (fun hv5 => ?_)
      refine V_iload_n 1 dX4_nextText_21 rfl ?_
      refine V_icmp_lt 50 dX4_nextText_22 (by decide) hv5 hr1 (fun c6 => ?_) (fun c6 => ?_)
      · replace E := mmI_t c6 E
        refine V_iconst dX4_nextText_50 rfl ?_
        refine V_istore (lv' := [(0, .ref 51), (1, vi l1), (2, vi l2), (3, vi l3), (4, vi 0)]) dX4_nextText_51 rfl rfl ?_
        refine V_iload 4 dX4_nextText_53 rfl ?_
        refine V_if_eq 62 dX4_nextText_55 (by decide) ir_0 (fun c7 => ?_) (fun c7 => ?_)
        · refine V_iload_n 2 dX4_nextText_62 rfl ?_
          refine V_istore_n (i := 2) (lv' := [(0, .ref 51), (1, vi l1), (2, vi l2), (3, vi l3), (4, vi 0)]) dX4_nextText_63 rfl rfl rfl ?_
          obtain ⟨hv8, E⟩ := mmK_e E
          refine V_iinc (v := (l3 + 1)) (lv' := [(0, .ref 51), (1, vi l1), (2, vi l2), (3, vi (l3 + 1)), (4, vi 0)]) 3 dX4_nextText_64 rfl rfl rfl rfl ?_
          refine V_goto 5 dX4_nextText_67 (by decide) ?_
          refine V_sub [0, 1, 2, 3] rfl ?_
          exact ih _ _ _ _ hr1 hr2 hv8 E
        · exact absurd c7 (by decide)
        
      · replace E := mmI_f c6 E
        refine V_iload_n 2 dX4_nextText_25 rfl ?_
        refine V_bipush (v := (-5)) dX4_nextText_26 (by decide) ?_
        refine V_icmp_eq 46 dX4_nextText_28 (by decide) hr2 ir_m5 (fun c9 => ?_) (fun c9 => ?_)
        · replace E := mmI_t c9 E
          exact ok_X4_nextText_L46 ih _ _ _ _ hr1 hr2 hr3 E
        · replace E := mmI_f c9 E
          refine V_aload_n 0 dX4_nextText_31 rfl ?_
          refine V_iload_n 3 dX4_nextText_32 rfl ?_
          refine V_iconst dX4_nextText_33 rfl ?_
          obtain ⟨q12, hq12, E⟩ := mmB_e E
          refine V_callV (ci := 4) (q := (RX4, TX4, 12)) (Cn := RX4) (st := []) 2 dX4_nextText_34 (ct_X4_of hr3 ir_2 hq12) ml_X4_38 im_X4_of sl_X4_of it_X4 cd_X4_of hy_X4_of ⟨rfl, rfl, by decide, by decide⟩ sh_51 rfl rfl rfl rfl (Nat.le_of_ble_eq_true rfl) (fun hv13 => ?_)
          refine V_aload_n 0 dX4_nextText_37 rfl ?_
          refine V_iload_n 2 dX4_nextText_38 rfl ?_
          refine V_iconst dX4_nextText_39 rfl ?_
          obtain ⟨q14, hq14, E⟩ := mmB_e E
          refine V_callV (ci := 4) (q := (RX4, TX4, 12)) (Cn := RX4) (st := [vi q12.1]) 2 dX4_nextText_40 (ct_X4_of hr2 ir_2 hq14) ml_X4_38 im_X4_of sl_X4_of it_X4 cd_X4_of hy_X4_of ⟨rfl, rfl, by decide, by decide⟩ sh_51 rfl rfl rfl rfl (Nat.le_of_ble_eq_true rfl) (fun hv15 => ?_)
          refine V_icmp_ge 50 dX4_nextText_43 (by decide) hv13 hv15 (fun c16 => ?_) (fun c16 => ?_)
          · replace E := mmI_t c16 E
            refine V_iconst dX4_nextText_50 rfl ?_
            refine V_istore (lv' := [(0, .ref 51), (1, vi l1), (2, vi l2), (3, vi l3), (4, vi 0)]) dX4_nextText_51 rfl rfl ?_
            refine V_iload 4 dX4_nextText_53 rfl ?_
            refine V_if_eq 62 dX4_nextText_55 (by decide) ir_0 (fun c17 => ?_) (fun c17 => ?_)
            · refine V_iload_n 2 dX4_nextText_62 rfl ?_
              refine V_istore_n (i := 2) (lv' := [(0, .ref 51), (1, vi l1), (2, vi l2), (3, vi l3), (4, vi 0)]) dX4_nextText_63 rfl rfl rfl ?_
              obtain ⟨hv18, E⟩ := mmK_e E
              refine V_iinc (v := (l3 + 1)) (lv' := [(0, .ref 51), (1, vi l1), (2, vi l2), (3, vi (l3 + 1)), (4, vi 0)]) 3 dX4_nextText_64 rfl rfl rfl rfl ?_
              refine V_goto 5 dX4_nextText_67 (by decide) ?_
              refine V_sub [0, 1, 2, 3] rfl ?_
              exact ih _ _ _ _ hr1 hr2 hv18 E
            · exact absurd c17 (by decide)
            
          · replace E := mmI_f c16 E
            exact ok_X4_nextText_L46 ih _ _ _ _ hr1 hr2 hr3 E
noncomputable def f_X4_nextText (l1 : Int) (m : Mem) : Option (Int × Mem) :=
  f_X4_nextText_L5 mmFU l1 (-5) 0 m
set_option maxRecDepth 100000 in
set_option maxHeartbeats 4000000 in
theorem ok_X4_nextText {r : Int × Mem} : ∀ (l1 : Int) (m : Mem), inR l1 → f_X4_nextText l1 m = some r → VV RX4 cX4_nextText 5 rm_X4_nextText mmG0 (mmPi r) 0 [(0, .ref 51), (1, vi l1)] [] m := by
  intro l1 m hr1 E
  unfold f_X4_nextText at E
  refine V_bipush (v := (-5)) dX4_nextText_0 (by decide) ?_
  refine V_istore_n (i := 2) (lv' := [(0, .ref 51), (1, vi l1), (2, vi (-5))]) dX4_nextText_2 rfl rfl rfl ?_
  refine V_iconst dX4_nextText_3 rfl ?_
  refine V_istore_n (i := 3) (lv' := [(0, .ref 51), (1, vi l1), (2, vi (-5)), (3, vi 0)]) dX4_nextText_4 rfl rfl rfl ?_
  exact ok_X4_nextText_L5 mmFU _ _ _ _ hr1 ir_m5 ir_0 E
theorem ct_X4_nextText {l1 : Int} {m : Mem} {r : Int × Mem} (hr1 : inR l1) (E : f_X4_nextText l1 m = some r) : CTi yX4_nextText cX4_nextText 5 (some .int) rm_X4_nextText [.ref 51, vi l1] m r := CT_i (by decide +kernel) rfl (Nat.le_of_ble_eq_true rfl) (ok_X4_nextText _ _ hr1 E)
theorem hy_X4_nextText : yX4_nextText.cls = RX4 ∧ yX4_nextText.cls ≠ "java/lang/invoke/MethodHandle" ∧ yX4_nextText.cls ≠ "java/lang/invoke/VarHandle" ∧ (parseMethodDescriptor yX4_nextText.desc).map (fun d => d.parameters.length) = some 1 := by decide +kernel
abbrev rm_X4_living : Room := { frames := 2, cells := 0, slots := 0, locals := 46 }
noncomputable def f_X4_living_L29 (k8 : Int → Int → Int → Mem → Option (Int × Mem)) (l1 : Int) (l3 : Int) (s0 : Int) (s1 : Int) (m : Mem) : Option (Int × Mem) :=
  mmK (inR (s1 + s0)) ((f_X4_of l3 2 m).bind (fun q6 => mmK (inR (q6.1 + 1)) ((f_X4_nextText (q6.1 + 1) q6.2).bind (fun q9 => k8 l1 (s1 + s0) q9.1 q9.2))))
set_option maxRecDepth 100000 in
set_option maxHeartbeats 4000000 in
theorem ok_X4_living_L29 {k8 : Int → Int → Int → Mem → Option (Int × Mem)} {r : Int × Mem} (hk8 : ∀ (l1 : Int) (l2 : Int) (l3 : Int) (m : Mem), inR l1 → inR l2 → inR l3 → k8 l1 l2 l3 m = some r → VV RX4 cX4_living 4 rm_X4_living mmG0 (mmPi r) 8 [(0, .ref 51), (1, vi l1), (2, vi l2), (3, vi l3)] [] m) : ∀ (l1 : Int) (l3 : Int) (s0 : Int) (s1 : Int) (m : Mem), inR l1 → inR l3 → inR s0 → inR s1 → f_X4_living_L29 k8 l1 l3 s0 s1 m = some r → VV RX4 cX4_living 4 rm_X4_living mmG0 (mmPi r) 29 [(0, .ref 51), (1, vi l1), (3, vi l3)] [vi s0, vi s1] m := by
  intro l1 l3 s0 s1 m hr1 hr3 hrs0 hrs1 E
  unfold f_X4_living_L29 at E
  obtain ⟨hv5, E⟩ := mmK_e E
  refine V_iadd dX4_living_29 ?_
  refine V_istore_n (i := 2) (lv' := [(0, .ref 51), (1, vi l1), (2, vi (s1 + s0)), (3, vi l3)]) dX4_living_30 rfl rfl rfl ?_
  refine V_aload_n 0 dX4_living_31 rfl ?_
  refine V_aload_n 0 dX4_living_32 rfl ?_
  refine V_iload_n 3 dX4_living_33 rfl ?_
  refine V_iconst dX4_living_34 rfl ?_
  obtain ⟨q6, hq6, E⟩ := mmB_e E
  refine V_callV (ci := 4) (q := (RX4, TX4, 12)) (Cn := RX4) (st := [.ref 51]) 2 dX4_living_35 (ct_X4_of hr3 ir_2 hq6) ml_X4_38 im_X4_of sl_X4_of it_X4 cd_X4_of hy_X4_of ⟨rfl, rfl, by decide, by decide⟩ sh_51 rfl rfl rfl rfl (Nat.le_of_ble_eq_true rfl) (fun hv7 => ?_)
  refine V_iconst dX4_living_38 rfl ?_
  obtain ⟨hv8, E⟩ := mmK_e E
  refine V_iadd dX4_living_39 ?_
  obtain ⟨q9, hq9, E⟩ := mmB_e E
  refine V_callV (ci := 4) (q := (RX4, TX4, 12)) (Cn := RX4) (st := []) 1 dX4_living_40 (ct_X4_nextText hv8 hq9) ml_X4_46 im_X4_nextText sl_X4_nextText it_X4 cd_X4_nextText hy_X4_nextText ⟨rfl, rfl, by decide, by decide⟩ sh_51 rfl rfl rfl rfl (Nat.le_of_ble_eq_true rfl) (fun hv10 => ?_)
  refine V_istore_n (i := 3) (lv' := [(0, .ref 51), (1, vi l1), (2, vi (s1 + s0)), (3, vi q9.1)]) dX4_living_43 rfl rfl rfl ?_
  refine V_goto 8 dX4_living_44 (by decide) ?_
  exact hk8 _ _ _ _ hr1 hv5 hv10 E
noncomputable def f_X4_living_L8 : Nat → Int → Int → Int → Mem → Option (Int × Mem)
  | 0, _, _, _, _ => none
  | n + 1, l1, l2, l3, m =>
    if l3 = (-5) then
(some (l2, m))
else
(if l1 = 0 then
(f_X4_living_L29 (f_X4_living_L8 n) l1 l3 1 l2 m)
else
((f_X4_of l3 3 m).bind (fun q11 => f_X4_living_L29 (f_X4_living_L8 n) l1 l3 q11.1 l2 q11.2)))
set_option maxRecDepth 100000 in
set_option maxHeartbeats 4000000 in
theorem ok_X4_living_L8 {r : Int × Mem} : ∀ (n : Nat), ∀ (l1 : Int) (l2 : Int) (l3 : Int) (m : Mem), inR l1 → inR l2 → inR l3 → f_X4_living_L8 n l1 l2 l3 m = some r → VV RX4 cX4_living 4 rm_X4_living mmG0 (mmPi r) 8 [(0, .ref 51), (1, vi l1), (2, vi l2), (3, vi l3)] [] m := by
  intro n
  induction n with
  | zero =>
    intro l1 l2 l3 m hr1 hr2 hr3 E
    cases E
  | succ n ih =>
    intro l1 l2 l3 m hr1 hr2 hr3 E
    rw [f_X4_living_L8] at E
    refine V_iload_n 3 dX4_living_8 rfl ?_
    refine V_bipush (v := (-5)) dX4_living_9 (by decide) ?_
    refine V_icmp_eq 47 dX4_living_11 (by decide) hr3 ir_m5 (fun c3 => ?_) (fun c3 => ?_)
    · replace E := mmI_t c3 E
      refine V_iload_n 2 dX4_living_47 rfl ?_
      obtain rfl := Option.some.inj E
      exact V_reti dX4_living_48 ⟨rfl, rfl, hr2⟩
    · replace E := mmI_f c3 E
      refine V_iload_n 2 dX4_living_14 rfl ?_
      refine V_iload_n 1 dX4_living_15 rfl ?_
      refine V_if_eq 28 dX4_living_16 (by decide) hr1 (fun c4 => ?_) (fun c4 => ?_)
      · replace E := mmI_t c4 E
        refine V_iconst dX4_living_28 rfl ?_
        refine V_sub [0, 1, 3] rfl ?_
        exact ok_X4_living_L29 ih _ _ _ _ _ hr1 hr3 ir_1 hr2 E
      · replace E := mmI_f c4 E
        refine V_aload_n 0 dX4_living_19 rfl ?_
        refine V_iload_n 3 dX4_living_20 rfl ?_
        refine V_iconst dX4_living_21 rfl ?_
        obtain ⟨q11, hq11, E⟩ := mmB_e E
        refine V_callV (ci := 4) (q := (RX4, TX4, 12)) (Cn := RX4) (st := [vi l2]) 2 dX4_living_22 (ct_X4_of hr3 ir_3 hq11) ml_X4_38 im_X4_of sl_X4_of it_X4 cd_X4_of hy_X4_of ⟨rfl, rfl, by decide, by decide⟩ sh_51 rfl rfl rfl rfl (Nat.le_of_ble_eq_true rfl) (fun hv12 => ?_)
        refine V_goto 29 dX4_living_25 (by decide) ?_
        refine V_sub [0, 1, 3] rfl ?_
        exact ok_X4_living_L29 ih _ _ _ _ _ hr1 hr3 hv12 hr2 E
noncomputable def f_X4_living (l1 : Int) (m : Mem) : Option (Int × Mem) :=
  (f_X4_nextText 0 m).bind (fun q1 => f_X4_living_L8 mmFU l1 0 q1.1 q1.2)
set_option maxRecDepth 100000 in
set_option maxHeartbeats 4000000 in
theorem ok_X4_living {r : Int × Mem} : ∀ (l1 : Int) (m : Mem), inR l1 → f_X4_living l1 m = some r → VV RX4 cX4_living 4 rm_X4_living mmG0 (mmPi r) 0 [(0, .ref 51), (1, vi l1)] [] m := by
  intro l1 m hr1 E
  unfold f_X4_living at E
  refine V_iconst dX4_living_0 rfl ?_
  refine V_istore_n (i := 2) (lv' := [(0, .ref 51), (1, vi l1), (2, vi 0)]) dX4_living_1 rfl rfl rfl ?_
  refine V_aload_n 0 dX4_living_2 rfl ?_
  refine V_iconst dX4_living_3 rfl ?_
  obtain ⟨q1, hq1, E⟩ := mmB_e E
  refine V_callV (ci := 4) (q := (RX4, TX4, 12)) (Cn := RX4) (st := []) 1 dX4_living_4 (ct_X4_nextText ir_0 hq1) ml_X4_46 im_X4_nextText sl_X4_nextText it_X4 cd_X4_nextText hy_X4_nextText ⟨rfl, rfl, by decide, by decide⟩ sh_51 rfl rfl rfl rfl (Nat.le_of_ble_eq_true rfl) (fun hv2 => ?_)
  refine V_istore_n (i := 3) (lv' := [(0, .ref 51), (1, vi l1), (2, vi 0), (3, vi q1.1)]) dX4_living_7 rfl rfl rfl ?_
  exact ok_X4_living_L8 mmFU _ _ _ _ hr1 ir_0 hv2 E
theorem ct_X4_living {l1 : Int} {m : Mem} {r : Int × Mem} (hr1 : inR l1) (E : f_X4_living l1 m = some r) : CTi yX4_living cX4_living 4 (some .int) rm_X4_living [.ref 51, vi l1] m r := CT_i (by decide +kernel) rfl (Nat.le_of_ble_eq_true rfl) (ok_X4_living _ _ hr1 E)
theorem hy_X4_living : yX4_living.cls = RX4 ∧ yX4_living.cls ≠ "java/lang/invoke/MethodHandle" ∧ yX4_living.cls ≠ "java/lang/invoke/VarHandle" ∧ (parseMethodDescriptor yX4_living.desc).map (fun d => d.parameters.length) = some 1 := by decide +kernel
abbrev rm_X4_squeezes : Room := { frames := 2, cells := 0, slots := 0, locals := 46 }
noncomputable def f_X4_squeezes_L40 (k15 : Int → Int → Int → Mem → Option (Int × Mem)) : Nat → Int → Int → Int → Int → Int → Mem → Option (Int × Mem)
  | 0, _, _, _, _, _, _ => none
  | n + 1, l1, l2, l4, l5, l6, m =>
    if (m.1 52 0) ≤ l6 then
(mmK (inR (l2 + l5)) (mmK (inR (l4 + l5)) ((f_X4_nextText (l4 + l5) m).bind (fun q26 => k15 l1 (l2 + l5) q26.1 q26.2))))
else
((f_X4_of l6 2 m).bind (fun q28 => if q28.1 = l4 then
((f_X4_sets l6 2 l2 q28.2).bind (fun q36 => mmK (inR (l6 + 1)) (f_X4_squeezes_L40 k15 n l1 l2 l4 l5 (l6 + 1) q36)))
else
((f_X4_of l6 2 q28.2).bind (fun q31 => (f_X4_sets l6 2 q31.1 q31.2).bind (fun q33 => mmK (inR (l6 + 1)) (f_X4_squeezes_L40 k15 n l1 l2 l4 l5 (l6 + 1) q33))))))
set_option maxRecDepth 100000 in
set_option maxHeartbeats 4000000 in
theorem ok_X4_squeezes_L40 {k15 : Int → Int → Int → Mem → Option (Int × Mem)} {r : Int × Mem} (hk15 : ∀ (l1 : Int) (l2 : Int) (l3 : Int) (m : Mem), inR l1 → inR l2 → inR l3 → k15 l1 l2 l3 m = some r → VV RX4 cX4_squeezes 7 rm_X4_squeezes mmG0 (mmPi r) 15 [(0, .ref 51), (1, vi l1), (2, vi l2), (3, vi l3)] [] m) : ∀ (n : Nat), ∀ (l1 : Int) (l2 : Int) (l4 : Int) (l5 : Int) (l6 : Int) (m : Mem), inR l1 → inR l2 → inR l4 → inR l5 → inR l6 → f_X4_squeezes_L40 k15 n l1 l2 l4 l5 l6 m = some r → VV RX4 cX4_squeezes 7 rm_X4_squeezes mmG0 (mmPi r) 40 [(0, .ref 51), (1, vi l1), (2, vi l2), (4, vi l4), (5, vi l5), (6, vi l6)] [] m := by
  intro n
  induction n with
  | zero =>
    intro l1 l2 l4 l5 l6 m hr1 hr2 hr4 hr5 hr6 E
    cases E
  | succ n ih =>
    intro l1 l2 l4 l5 l6 m hr1 hr2 hr4 hr5 hr6 E
    rw [f_X4_squeezes_L40] at E
    refine V_iload 5 dX4_squeezes_40 rfl ?_
    refine V_aload_n 0 dX4_squeezes_42 rfl ?_
    refine V_geta (ci := 4) (k := 0) (N := 12) (T := TX4) (o' := 52) dX4_squeezes_43 iuX4 fl_X4_7 rfl (by decide) rfl sh_51 rfl ?_
    refine V_iconst dX4_squeezes_46 rfl ?_
    refine V_iald (n := 149) (j := 0) (v := (m.1 52 0)) dX4_squeezes_47 sh_52 ir_0 (by decide) rfl rfl (fun hv22 => ?_)
    refine V_icmp_ge 87 dX4_squeezes_48 (by decide) hr6 hv22 (fun c23 => ?_) (fun c23 => ?_)
    · replace E := mmI_t c23 E
      refine V_iload_n 2 dX4_squeezes_87 rfl ?_
      refine V_iload 4 dX4_squeezes_88 rfl ?_
      obtain ⟨hv24, E⟩ := mmK_e E
      refine V_iadd dX4_squeezes_90 ?_
      refine V_istore_n (i := 2) (lv' := [(0, .ref 51), (1, vi l1), (2, vi (l2 + l5)), (4, vi l4), (5, vi l5), (6, vi l6)]) dX4_squeezes_91 rfl rfl rfl ?_
      refine V_aload_n 0 dX4_squeezes_92 rfl ?_
      refine V_iload 3 dX4_squeezes_93 rfl ?_
      refine V_iload 4 dX4_squeezes_95 rfl ?_
      obtain ⟨hv25, E⟩ := mmK_e E
      refine V_iadd dX4_squeezes_97 ?_
      obtain ⟨q26, hq26, E⟩ := mmB_e E
      refine V_callV (ci := 4) (q := (RX4, TX4, 12)) (Cn := RX4) (st := []) 1 dX4_squeezes_98 (ct_X4_nextText hv25 hq26) ml_X4_46 im_X4_nextText sl_X4_nextText it_X4 cd_X4_nextText hy_X4_nextText ⟨rfl, rfl, by decide, by decide⟩ sh_51 rfl rfl rfl rfl (Nat.le_of_ble_eq_true rfl) (fun hv27 => ?_)
      refine V_istore_n (i := 3) (lv' := [(0, .ref 51), (1, vi l1), (2, vi (l2 + l5)), (3, vi q26.1), (4, vi l4), (5, vi l5), (6, vi l6)]) dX4_squeezes_101 rfl rfl rfl ?_
      refine V_goto 15 dX4_squeezes_102 (by decide) ?_
      refine V_sub [0, 1, 2, 3] rfl ?_
      exact hk15 _ _ _ _ hr1 hv24 hv27 E
    · replace E := mmI_f c23 E
      refine V_aload_n 0 dX4_squeezes_51 rfl ?_
      refine V_iload 5 dX4_squeezes_52 rfl ?_
      refine V_iconst dX4_squeezes_54 rfl ?_
      refine V_aload_n 0 dX4_squeezes_55 rfl ?_
      refine V_iload 5 dX4_squeezes_56 rfl ?_
      refine V_iconst dX4_squeezes_58 rfl ?_
      obtain ⟨q28, hq28, E⟩ := mmB_e E
      refine V_callV (ci := 4) (q := (RX4, TX4, 12)) (Cn := RX4) (st := [vi 2, vi l6, .ref 51]) 2 dX4_squeezes_59 (ct_X4_of hr6 ir_2 hq28) ml_X4_38 im_X4_of sl_X4_of it_X4 cd_X4_of hy_X4_of ⟨rfl, rfl, by decide, by decide⟩ sh_51 rfl rfl rfl rfl (Nat.le_of_ble_eq_true rfl) (fun hv29 => ?_)
      refine V_iload 3 dX4_squeezes_62 rfl ?_
      refine V_icmp_ne 71 dX4_squeezes_64 (by decide) hv29 hr4 (fun c30 => ?_) (fun c30 => ?_)
      · replace E := mmI_f c30 E
        refine V_aload_n 0 dX4_squeezes_71 rfl ?_
        refine V_iload 5 dX4_squeezes_72 rfl ?_
        refine V_iconst dX4_squeezes_74 rfl ?_
        obtain ⟨q31, hq31, E⟩ := mmB_e E
        refine V_callV (ci := 4) (q := (RX4, TX4, 12)) (Cn := RX4) (st := [vi 2, vi l6, .ref 51]) 2 dX4_squeezes_75 (ct_X4_of hr6 ir_2 hq31) ml_X4_38 im_X4_of sl_X4_of it_X4 cd_X4_of hy_X4_of ⟨rfl, rfl, by decide, by decide⟩ sh_51 rfl rfl rfl rfl (Nat.le_of_ble_eq_true rfl) (fun hv32 => ?_)
        obtain ⟨q33, hq33, E⟩ := mmB_e E
        refine V_callVv (ci := 4) (q := (RX4, TX4, 12)) (Cn := RX4) (st := []) 3 dX4_squeezes_78 (ct_X4_sets hr6 ir_2 hv32 hq33) ml_X4_42 im_X4_sets sl_X4_sets it_X4 cd_X4_sets hy_X4_sets ⟨rfl, rfl, by decide, by decide⟩ sh_51 rfl rfl rfl rfl (Nat.le_of_ble_eq_true rfl) ?_
        obtain ⟨hv35, E⟩ := mmK_e E
        refine V_iinc (v := (l6 + 1)) (lv' := [(0, .ref 51), (1, vi l1), (2, vi l2), (4, vi l4), (5, vi l5), (6, vi (l6 + 1))]) 5 dX4_squeezes_81 rfl rfl rfl rfl ?_
        refine V_goto 40 dX4_squeezes_84 (by decide) ?_
        exact ih _ _ _ _ _ _ hr1 hr2 hr4 hr5 hv35 E
      · replace E := mmI_t c30 E
        refine V_iload_n 2 dX4_squeezes_67 rfl ?_
        refine V_goto 78 dX4_squeezes_68 (by decide) ?_
        obtain ⟨q36, hq36, E⟩ := mmB_e E
        refine V_callVv (ci := 4) (q := (RX4, TX4, 12)) (Cn := RX4) (st := []) 3 dX4_squeezes_78 (ct_X4_sets hr6 ir_2 hr2 hq36) ml_X4_42 im_X4_sets sl_X4_sets it_X4 cd_X4_sets hy_X4_sets ⟨rfl, rfl, by decide, by decide⟩ sh_51 rfl rfl rfl rfl (Nat.le_of_ble_eq_true rfl) ?_
        obtain ⟨hv38, E⟩ := mmK_e E
        refine V_iinc (v := (l6 + 1)) (lv' := [(0, .ref 51), (1, vi l1), (2, vi l2), (4, vi l4), (5, vi l5), (6, vi (l6 + 1))]) 5 dX4_squeezes_81 rfl rfl rfl rfl ?_
        refine V_goto 40 dX4_squeezes_84 (by decide) ?_
        exact ih _ _ _ _ _ _ hr1 hr2 hr4 hr5 hv38 E
noncomputable def f_X4_squeezes_L15 : Nat → Int → Int → Int → Mem → Option (Int × Mem)
  | 0, _, _, _, _ => none
  | n + 1, l1, l2, l3, m =>
    if l3 = (-5) then
(mmK (inR ((m.1 52 3) + 1)) (mmK (inR (l1 - l2)) (mmK (inR ((m.1 52 4) + (l1 - l2))) (mmK (inR (l1 - l2)) (some ((l1 - l2), (mwr (mwr (mwr m 52 2 l2) 52 3 ((m.1 52 3) + 1)) 52 4 ((m.1 52 4) + (l1 - l2)))))))))
else
((f_X4_of l3 2 m).bind (fun q17 => (f_X4_of l3 3 q17.2).bind (fun q19 => f_X4_squeezes_L40 (f_X4_squeezes_L15 n) mmFU l1 l2 q17.1 q19.1 0 q19.2)))
set_option maxRecDepth 100000 in
set_option maxHeartbeats 4000000 in
theorem ok_X4_squeezes_L15 {r : Int × Mem} : ∀ (n : Nat), ∀ (l1 : Int) (l2 : Int) (l3 : Int) (m : Mem), inR l1 → inR l2 → inR l3 → f_X4_squeezes_L15 n l1 l2 l3 m = some r → VV RX4 cX4_squeezes 7 rm_X4_squeezes mmG0 (mmPi r) 15 [(0, .ref 51), (1, vi l1), (2, vi l2), (3, vi l3)] [] m := by
  intro n
  induction n with
  | zero =>
    intro l1 l2 l3 m hr1 hr2 hr3 E
    cases E
  | succ n ih =>
    intro l1 l2 l3 m hr1 hr2 hr3 E
    rw [f_X4_squeezes_L15] at E
    refine V_iload_n 3 dX4_squeezes_15 rfl ?_
    refine V_bipush (v := (-5)) dX4_squeezes_16 (by decide) ?_
    refine V_icmp_eq 105 dX4_squeezes_18 (by decide) hr3 ir_m5 (fun c5 => ?_) (fun c5 => ?_)
    · replace E := mmI_t c5 E
      refine V_aload_n 0 dX4_squeezes_105 rfl ?_
      refine V_geta (ci := 4) (k := 0) (N := 12) (T := TX4) (o' := 52) dX4_squeezes_106 iuX4 fl_X4_7 rfl (by decide) rfl sh_51 rfl ?_
      refine V_iconst dX4_squeezes_109 rfl ?_
      refine V_iload_n 2 dX4_squeezes_110 rfl ?_
      refine V_iast (n := 149) (j := 2) dX4_squeezes_111 sh_52 ir_2 hr2 (by decide) rfl ?_
      refine V_aload_n 0 dX4_squeezes_112 rfl ?_
      refine V_geta (ci := 4) (k := 0) (N := 12) (T := TX4) (o' := 52) dX4_squeezes_113 iuX4 fl_X4_7 rfl (by decide) rfl sh_51 rfl ?_
      refine V_iconst dX4_squeezes_116 rfl ?_
      refine V_dup2 dX4_squeezes_117 ?_
      refine V_iald (n := 149) (j := 3) (v := (m.1 52 3)) dX4_squeezes_118 sh_52 ir_3 (by decide) rfl rfl (fun hv8 => ?_)
      refine V_iconst dX4_squeezes_119 rfl ?_
      obtain ⟨hv9, E⟩ := mmK_e E
      refine V_iadd dX4_squeezes_120 ?_
      refine V_iast (n := 149) (j := 3) dX4_squeezes_121 sh_52 ir_3 hv9 (by decide) rfl ?_
      refine V_aload_n 0 dX4_squeezes_122 rfl ?_
      refine V_geta (ci := 4) (k := 0) (N := 12) (T := TX4) (o' := 52) dX4_squeezes_123 iuX4 fl_X4_7 rfl (by decide) rfl sh_51 rfl ?_
      refine V_iconst dX4_squeezes_126 rfl ?_
      refine V_dup2 dX4_squeezes_127 ?_
      refine V_iald (n := 149) (j := 4) (v := (m.1 52 4)) dX4_squeezes_128 sh_52 ir_4 (by decide) rfl rfl (fun hv12 => ?_)
      refine V_iload_n 1 dX4_squeezes_129 rfl ?_
      refine V_iload_n 2 dX4_squeezes_130 rfl ?_
      obtain ⟨hv13, E⟩ := mmK_e E
      refine V_isub dX4_squeezes_131 ?_
      obtain ⟨hv14, E⟩ := mmK_e E
      refine V_iadd dX4_squeezes_132 ?_
      refine V_iast (n := 149) (j := 4) dX4_squeezes_133 sh_52 ir_4 hv14 (by decide) rfl ?_
      refine V_iload_n 1 dX4_squeezes_134 rfl ?_
      refine V_iload_n 2 dX4_squeezes_135 rfl ?_
      obtain ⟨hv16, E⟩ := mmK_e E
      refine V_isub dX4_squeezes_136 ?_
      obtain rfl := Option.some.inj E
      exact V_reti dX4_squeezes_137 ⟨rfl, rfl, hv16⟩
    · replace E := mmI_f c5 E
      refine V_aload_n 0 dX4_squeezes_21 rfl ?_
      refine V_iload_n 3 dX4_squeezes_22 rfl ?_
      refine V_iconst dX4_squeezes_23 rfl ?_
      obtain ⟨q17, hq17, E⟩ := mmB_e E
      refine V_callV (ci := 4) (q := (RX4, TX4, 12)) (Cn := RX4) (st := []) 2 dX4_squeezes_24 (ct_X4_of hr3 ir_2 hq17) ml_X4_38 im_X4_of sl_X4_of it_X4 cd_X4_of hy_X4_of ⟨rfl, rfl, by decide, by decide⟩ sh_51 rfl rfl rfl rfl (Nat.le_of_ble_eq_true rfl) (fun hv18 => ?_)
      refine V_istore (lv' := [(0, .ref 51), (1, vi l1), (2, vi l2), (3, vi l3), (4, vi q17.1)]) dX4_squeezes_27 rfl rfl ?_
      refine V_aload_n 0 dX4_squeezes_29 rfl ?_
      refine V_iload_n 3 dX4_squeezes_30 rfl ?_
      refine V_iconst dX4_squeezes_31 rfl ?_
      obtain ⟨q19, hq19, E⟩ := mmB_e E
      refine V_callV (ci := 4) (q := (RX4, TX4, 12)) (Cn := RX4) (st := []) 2 dX4_squeezes_32 (ct_X4_of hr3 ir_3 hq19) ml_X4_38 im_X4_of sl_X4_of it_X4 cd_X4_of hy_X4_of ⟨rfl, rfl, by decide, by decide⟩ sh_51 rfl rfl rfl rfl (Nat.le_of_ble_eq_true rfl) (fun hv20 => ?_)
      refine V_istore (lv' := [(0, .ref 51), (1, vi l1), (2, vi l2), (3, vi l3), (4, vi q17.1), (5, vi q19.1)]) dX4_squeezes_35 rfl rfl ?_
      refine V_iconst dX4_squeezes_37 rfl ?_
      refine V_istore (lv' := [(0, .ref 51), (1, vi l1), (2, vi l2), (3, vi l3), (4, vi q17.1), (5, vi q19.1), (6, vi 0)]) dX4_squeezes_38 rfl rfl ?_
      refine V_sub [0, 1, 2, 4, 5, 6] rfl ?_
      exact ok_X4_squeezes_L40 ih mmFU _ _ _ _ _ _ hr1 hr2 hv18 hv20 ir_0 E
noncomputable def f_X4_squeezes (m : Mem) : Option (Int × Mem) :=
  (f_X4_nextText 0 m).bind (fun q3 => f_X4_squeezes_L15 mmFU (m.1 52 2) 0 q3.1 q3.2)
set_option maxRecDepth 100000 in
set_option maxHeartbeats 4000000 in
theorem ok_X4_squeezes {r : Int × Mem} : ∀ (m : Mem), f_X4_squeezes m = some r → VV RX4 cX4_squeezes 7 rm_X4_squeezes mmG0 (mmPi r) 0 [(0, .ref 51)] [] m := by
  intro m E
  unfold f_X4_squeezes at E
  refine V_aload_n 0 dX4_squeezes_0 rfl ?_
  refine V_geta (ci := 4) (k := 0) (N := 12) (T := TX4) (o' := 52) dX4_squeezes_1 iuX4 fl_X4_7 rfl (by decide) rfl sh_51 rfl ?_
  refine V_iconst dX4_squeezes_4 rfl ?_
  refine V_iald (n := 149) (j := 2) (v := (m.1 52 2)) dX4_squeezes_5 sh_52 ir_2 (by decide) rfl rfl (fun hv2 => ?_)
  refine V_istore_n (i := 1) (lv' := [(0, .ref 51), (1, vi (m.1 52 2))]) dX4_squeezes_6 rfl rfl rfl ?_
  refine V_iconst dX4_squeezes_7 rfl ?_
  refine V_istore_n (i := 2) (lv' := [(0, .ref 51), (1, vi (m.1 52 2)), (2, vi 0)]) dX4_squeezes_8 rfl rfl rfl ?_
  refine V_aload_n 0 dX4_squeezes_9 rfl ?_
  refine V_iconst dX4_squeezes_10 rfl ?_
  obtain ⟨q3, hq3, E⟩ := mmB_e E
  refine V_callV (ci := 4) (q := (RX4, TX4, 12)) (Cn := RX4) (st := []) 1 dX4_squeezes_11 (ct_X4_nextText ir_0 hq3) ml_X4_46 im_X4_nextText sl_X4_nextText it_X4 cd_X4_nextText hy_X4_nextText ⟨rfl, rfl, by decide, by decide⟩ sh_51 rfl rfl rfl rfl (Nat.le_of_ble_eq_true rfl) (fun hv4 => ?_)
  refine V_istore_n (i := 3) (lv' := [(0, .ref 51), (1, vi (m.1 52 2)), (2, vi 0), (3, vi q3.1)]) dX4_squeezes_14 rfl rfl rfl ?_
  exact ok_X4_squeezes_L15 mmFU _ _ _ _ hv2 ir_0 hv4 E
theorem ct_X4_squeezes {m : Mem} {r : Int × Mem} (E : f_X4_squeezes m = some r) : CTi yX4_squeezes cX4_squeezes 7 (some .int) rm_X4_squeezes [.ref 51] m r := CT_i (by decide +kernel) rfl (Nat.le_of_ble_eq_true rfl) (ok_X4_squeezes  _  E)
theorem hy_X4_squeezes : yX4_squeezes.cls = RX4 ∧ yX4_squeezes.cls ≠ "java/lang/invoke/MethodHandle" ∧ yX4_squeezes.cls ≠ "java/lang/invoke/VarHandle" ∧ (parseMethodDescriptor yX4_squeezes.desc).map (fun d => d.parameters.length) = some 0 := by decide +kernel
abbrev rm_X4_isLost : Room := { frames := 2, cells := 0, slots := 0, locals := 44 }
noncomputable def f_X4_isLost (l1 : Int) (m : Mem) : Option (Int × Mem) :=
  (f_X4_of l1 5 m).bind (fun q1 => (f_X4_rankOf q1.1 q1.2).bind (fun q3 => (f_X4_of l1 1 q3.2).bind (fun q5 => if q5.1 = 1 then
((f_X4_isMember q3.1 q5.2).bind (fun q8 => if q8.1 = 0 then
(some (1, q8.2))
else
((f_X4_of q3.1 2 q8.2).bind (fun q11 => (f_X4_of l1 2 q11.2).bind (fun q13 => if q11.1 = q13.1 then
(some (0, q13.2))
else
(some (1, q13.2)))))))
else
(some (0, q5.2)))))
set_option maxRecDepth 100000 in
set_option maxHeartbeats 4000000 in
theorem ok_X4_isLost {r : Int × Mem} : ∀ (l1 : Int) (m : Mem), inR l1 → f_X4_isLost l1 m = some r → VV RX4 cX4_isLost 3 rm_X4_isLost mmG0 (mmPz r) 0 [(0, .ref 51), (1, vi l1)] [] m := by
  intro l1 m hr1 E
  unfold f_X4_isLost at E
  refine V_aload_n 0 dX4_isLost_0 rfl ?_
  refine V_aload_n 0 dX4_isLost_1 rfl ?_
  refine V_iload_n 1 dX4_isLost_2 rfl ?_
  refine V_iconst dX4_isLost_3 rfl ?_
  obtain ⟨q1, hq1, E⟩ := mmB_e E
  refine V_callV (ci := 4) (q := (RX4, TX4, 12)) (Cn := RX4) (st := [.ref 51]) 2 dX4_isLost_4 (ct_X4_of hr1 ir_5 hq1) ml_X4_38 im_X4_of sl_X4_of it_X4 cd_X4_of hy_X4_of ⟨rfl, rfl, by decide, by decide⟩ sh_51 rfl rfl rfl rfl (Nat.le_of_ble_eq_true rfl) (fun hv2 => ?_)
  obtain ⟨q3, hq3, E⟩ := mmB_e E
  refine V_callV (ci := 4) (q := (RX4, TX4, 12)) (Cn := RX4) (st := []) 1 dX4_isLost_7 (ct_X4_rankOf hv2 hq3) ml_X4_50 im_X4_rankOf sl_X4_rankOf it_X4 cd_X4_rankOf hy_X4_rankOf ⟨rfl, rfl, by decide, by decide⟩ sh_51 rfl rfl rfl rfl (Nat.le_of_ble_eq_true rfl) (fun hv4 => ?_)
  refine V_istore_n (i := 2) (lv' := [(0, .ref 51), (1, vi l1), (2, vi q3.1)]) dX4_isLost_10 rfl rfl rfl ?_
  refine V_aload_n 0 dX4_isLost_11 rfl ?_
  refine V_iload_n 1 dX4_isLost_12 rfl ?_
  refine V_iconst dX4_isLost_13 rfl ?_
  obtain ⟨q5, hq5, E⟩ := mmB_e E
  refine V_callV (ci := 4) (q := (RX4, TX4, 12)) (Cn := RX4) (st := []) 2 dX4_isLost_14 (ct_X4_of hr1 ir_1 hq5) ml_X4_38 im_X4_of sl_X4_of it_X4 cd_X4_of hy_X4_of ⟨rfl, rfl, by decide, by decide⟩ sh_51 rfl rfl rfl rfl (Nat.le_of_ble_eq_true rfl) (fun hv6 => ?_)
  refine V_iconst dX4_isLost_17 rfl ?_
  refine V_icmp_ne 48 dX4_isLost_18 (by decide) hv6 ir_1 (fun c7 => ?_) (fun c7 => ?_)
  · replace E := mmI_f c7 E
    refine V_iconst dX4_isLost_48 rfl ?_
    obtain rfl := Option.some.inj E
    exact V_reti dX4_isLost_49 ⟨rfl, rfl, (Or.inl rfl)⟩
  · replace E := mmI_t c7 E
    refine V_aload_n 0 dX4_isLost_21 rfl ?_
    refine V_iload_n 2 dX4_isLost_22 rfl ?_
    obtain ⟨q8, hq8, E⟩ := mmB_e E
    refine V_callV (ci := 4) (q := (RX4, TX4, 12)) (Cn := RX4) (st := []) 1 dX4_isLost_23 (ct_X4_isMember hv4 hq8) ml_X4_53 im_X4_isMember sl_X4_isMember it_X4 cd_X4_isMember hy_X4_isMember ⟨rfl, rfl, by decide, by decide⟩ sh_51 rfl rfl rfl rfl (Nat.le_of_ble_eq_true rfl) (fun hv9 => ?_)
    refine V_if_eq 44 dX4_isLost_26 (by decide) hv9 (fun c10 => ?_) (fun c10 => ?_)
    · replace E := mmI_t c10 E
      refine V_iconst dX4_isLost_44 rfl ?_
      refine V_goto 49 dX4_isLost_45 (by decide) ?_
      obtain rfl := Option.some.inj E
      exact V_reti dX4_isLost_49 ⟨rfl, rfl, (Or.inr rfl)⟩
    · replace E := mmI_f c10 E
      refine V_aload_n 0 dX4_isLost_29 rfl ?_
      refine V_iload_n 2 dX4_isLost_30 rfl ?_
      refine V_iconst dX4_isLost_31 rfl ?_
      obtain ⟨q11, hq11, E⟩ := mmB_e E
      refine V_callV (ci := 4) (q := (RX4, TX4, 12)) (Cn := RX4) (st := []) 2 dX4_isLost_32 (ct_X4_of hv4 ir_2 hq11) ml_X4_38 im_X4_of sl_X4_of it_X4 cd_X4_of hy_X4_of ⟨rfl, rfl, by decide, by decide⟩ sh_51 rfl rfl rfl rfl (Nat.le_of_ble_eq_true rfl) (fun hv12 => ?_)
      refine V_aload_n 0 dX4_isLost_35 rfl ?_
      refine V_iload_n 1 dX4_isLost_36 rfl ?_
      refine V_iconst dX4_isLost_37 rfl ?_
      obtain ⟨q13, hq13, E⟩ := mmB_e E
      refine V_callV (ci := 4) (q := (RX4, TX4, 12)) (Cn := RX4) (st := [vi q11.1]) 2 dX4_isLost_38 (ct_X4_of hr1 ir_2 hq13) ml_X4_38 im_X4_of sl_X4_of it_X4 cd_X4_of hy_X4_of ⟨rfl, rfl, by decide, by decide⟩ sh_51 rfl rfl rfl rfl (Nat.le_of_ble_eq_true rfl) (fun hv14 => ?_)
      refine V_icmp_eq 48 dX4_isLost_41 (by decide) hv12 hv14 (fun c15 => ?_) (fun c15 => ?_)
      · replace E := mmI_t c15 E
        refine V_iconst dX4_isLost_48 rfl ?_
        obtain rfl := Option.some.inj E
        exact V_reti dX4_isLost_49 ⟨rfl, rfl, (Or.inl rfl)⟩
      · replace E := mmI_f c15 E
        refine V_iconst dX4_isLost_44 rfl ?_
        refine V_goto 49 dX4_isLost_45 (by decide) ?_
        obtain rfl := Option.some.inj E
        exact V_reti dX4_isLost_49 ⟨rfl, rfl, (Or.inr rfl)⟩
theorem ct_X4_isLost {l1 : Int} {m : Mem} {r : Int × Mem} (hr1 : inR l1) (E : f_X4_isLost l1 m = some r) : CTi yX4_isLost cX4_isLost 3 (some .boolean) rm_X4_isLost [.ref 51, vi l1] m r := CT_z (by decide +kernel) rfl (Nat.le_of_ble_eq_true rfl) (ok_X4_isLost _ _ hr1 E)
theorem hy_X4_isLost : yX4_isLost.cls = RX4 ∧ yX4_isLost.cls ≠ "java/lang/invoke/MethodHandle" ∧ yX4_isLost.cls ≠ "java/lang/invoke/VarHandle" ∧ (parseMethodDescriptor yX4_isLost.desc).map (fun d => d.parameters.length) = some 1 := by decide +kernel
