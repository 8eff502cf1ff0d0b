abbrev rm_X4_readsName : Room := { frames := 2, cells := 0, slots := 0, locals := 47 }
def f_X4_readsName_L7 : Nat → Int → Mem → Option (Int × Mem)
  | 0, _, _ => none
  | n + 1, l1, m =>
    if 2 ≤ l1 then
(some (1, m))
else
((f_X4_isHere 65 90 m).bind (fun q2 => if q2.1 = 0 then
(some (0, q2.2))
else
(mmK (inR (26 * (q2.2.1 51 10))) (mmK (0 ≤ (q2.2.1 51 9) ∧ (q2.2.1 51 9) < 60) (mmK (inR ((26 * (q2.2.1 51 10)) + (q2.2.1 57 ((q2.2.1 51 9)).toNat))) (mmK (inR (((26 * (q2.2.1 51 10)) + (q2.2.1 57 ((q2.2.1 51 9)).toNat)) - 65)) (mmK (inR (((mwr q2.2 51 10 (((26 * (q2.2.1 51 10)) + (q2.2.1 57 ((q2.2.1 51 9)).toNat)) - 65)).1 51 9) + 1)) (mmK (inR (l1 + 1)) (f_X4_readsName_L7 n (l1 + 1) (mwr (mwr q2.2 51 10 (((26 * (q2.2.1 51 10)) + (q2.2.1 57 ((q2.2.1 51 9)).toNat)) - 65)) 51 9 (((mwr q2.2 51 10 (((26 * (q2.2.1 51 10)) + (q2.2.1 57 ((q2.2.1 51 9)).toNat)) - 65)).1 51 9) + 1)))))))))))
set_option maxRecDepth 100000 in
set_option maxHeartbeats 4000000 in
theorem ok_X4_readsName_L7 {r : Int × Mem} : ∀ (n : Nat), ∀ (l1 : Int) (m : Mem), inR l1 → f_X4_readsName_L7 n l1 m = some r → VV RX4 cX4_readsName 2 rm_X4_readsName mmG0 (mmPz r) 7 [(0, .ref 51), (1, vi l1)] [] m := by
  intro n
  induction n with
  | zero =>
    intro l1 m hr1 E
    cases E
  | succ n ih =>
    intro l1 m hr1 E
    rw [f_X4_readsName_L7] at E
    refine V_iload_n 1 dX4_readsName_7 rfl ?_
    refine V_iconst dX4_readsName_8 rfl ?_
    refine V_icmp_ge 65 dX4_readsName_9 (by decide) hr1 ir_2 (fun c1 => ?_) (fun c1 => ?_)
    · replace E := mmI_t c1 E
      refine V_iconst dX4_readsName_65 rfl ?_
      obtain rfl := Option.some.inj E
      exact V_reti dX4_readsName_66 ⟨rfl, rfl, (Or.inr rfl)⟩
    · replace E := mmI_f c1 E
      refine V_aload_n 0 dX4_readsName_12 rfl ?_
      refine V_bipush (v := 65) dX4_readsName_13 (by decide) ?_
      refine V_bipush (v := 90) dX4_readsName_15 (by decide) ?_
      obtain ⟨q2, hq2, E⟩ := mmB_e E
      refine V_callV (ci := 4) (q := (RX4, TX4, 12)) (Cn := RX4) (st := []) 2 dX4_readsName_17 (ct_X4_isHere ir_65 ir_90 hq2) ml_X4_101 im_X4_isHere sl_X4_isHere it_X4 cd_X4_isHere hy_X4_isHere ⟨rfl, rfl, by decide, by decide⟩ sh_51 rfl rfl rfl rfl (Nat.le_of_ble_eq_true rfl) (fun hv3 => ?_)
      refine V_if_ne 25 dX4_readsName_20 (by decide) hv3 (fun c4 => ?_) (fun c4 => ?_)
      · replace E := mmI_f c4 E
        refine V_aload_n 0 dX4_readsName_25 rfl ?_
        refine V_bipush (v := 26) dX4_readsName_26 (by decide) ?_
        refine V_aload_n 0 dX4_readsName_28 rfl ?_
        refine V_geti (ci := 4) (k := 10) (N := 12) (T := TX4) dX4_readsName_29 iuX4 fl_X4_105 rfl (by decide) rfl sh_51 (fun hv5 => ?_)
        obtain ⟨hv6, E⟩ := mmK_e E
        refine V_imul dX4_readsName_32 ?_
        refine V_aload_n 0 dX4_readsName_33 rfl ?_
        refine V_geta (ci := 4) (k := 7) (N := 12) (T := TX4) (o' := 57) dX4_readsName_34 iuX4 fl_X4_25 rfl (by decide) rfl sh_51 rfl ?_
        refine V_aload_n 0 dX4_readsName_37 rfl ?_
        refine V_geti (ci := 4) (k := 9) (N := 12) (T := TX4) dX4_readsName_38 iuX4 fl_X4_98 rfl (by decide) rfl sh_51 (fun hv7 => ?_)
        obtain ⟨hv8, E⟩ := mmK_e E
        refine V_iald (n := 60) (j := ((q2.2.1 51 9)).toNat) dX4_readsName_41 sh_57 hv7 hv8 rfl (fun hv9 => ?_)
        obtain ⟨hv10, E⟩ := mmK_e E
        refine V_iadd dX4_readsName_42 ?_
        refine V_bipush (v := 65) dX4_readsName_43 (by decide) ?_
        obtain ⟨hv11, E⟩ := mmK_e E
        refine V_isub dX4_readsName_45 ?_
        refine V_put (ci := 4) (k := 10) (N := 12) (T := TX4) (x := (((26 * (q2.2.1 51 10)) + (q2.2.1 57 ((q2.2.1 51 9)).toNat)) - 65)) (ty := .int) tyX4 dX4_readsName_46 iuX4 tyX4_ok nmX4 fl_X4_105 rfl (by decide) rfl sh_51 rfl (by decide +kernel) rfl rfl hv11 ?_
        refine V_aload_n 0 dX4_readsName_49 rfl ?_
        refine V_dupa dX4_readsName_50 ?_
        refine V_geti (ci := 4) (k := 9) (N := 12) (T := TX4) dX4_readsName_51 iuX4 fl_X4_98 rfl (by decide) rfl sh_51 (fun hv12 => ?_)
        refine V_iconst dX4_readsName_54 rfl ?_
        obtain ⟨hv13, E⟩ := mmK_e E
        refine V_iadd dX4_readsName_55 ?_
        refine V_put (ci := 4) (k := 9) (N := 12) (T := TX4) (x := (((mwr q2.2 51 10 (((26 * (q2.2.1 51 10)) + (q2.2.1 57 ((q2.2.1 51 9)).toNat)) - 65)).1 51 9) + 1)) (ty := .int) tyX4 dX4_readsName_56 iuX4 tyX4_ok nmX4 fl_X4_98 rfl (by decide) rfl sh_51 rfl (by decide +kernel) rfl rfl hv13 ?_
        obtain ⟨hv14, E⟩ := mmK_e E
        refine V_iinc (v := (l1 + 1)) (lv' := [(0, .ref 51), (1, vi (l1 + 1))]) 1 dX4_readsName_59 rfl rfl rfl rfl ?_
        refine V_goto 7 dX4_readsName_62 (by decide) ?_
        exact ih _ _ hv14 E
      · replace E := mmI_t c4 E
        refine V_iconst dX4_readsName_23 rfl ?_
        obtain rfl := Option.some.inj E
        exact V_reti dX4_readsName_24 ⟨rfl, rfl, (Or.inl rfl)⟩
def f_X4_readsName (m : Mem) : Option (Int × Mem) :=
  f_X4_readsName_L7 mmFU 0 (mwr m 51 10 0)
set_option maxRecDepth 100000 in
set_option maxHeartbeats 4000000 in
theorem ok_X4_readsName {r : Int × Mem} : ∀ (m : Mem), f_X4_readsName m = some r → VV RX4 cX4_readsName 2 rm_X4_readsName mmG0 (mmPz r) 0 [(0, .ref 51)] [] m := by
  intro m E
  unfold f_X4_readsName at E
  refine V_aload_n 0 dX4_readsName_0 rfl ?_
  refine V_iconst dX4_readsName_1 rfl ?_
  refine V_put (ci := 4) (k := 10) (N := 12) (T := TX4) (x := 0) (ty := .int) tyX4 dX4_readsName_2 iuX4 tyX4_ok nmX4 fl_X4_105 rfl (by decide) rfl sh_51 rfl (by decide +kernel) rfl rfl ir_0 ?_
  refine V_iconst dX4_readsName_5 rfl ?_
  refine V_istore_n (i := 1) (lv' := [(0, .ref 51), (1, vi 0)]) dX4_readsName_6 rfl rfl rfl ?_
  exact ok_X4_readsName_L7 mmFU _ _ ir_0 E
theorem ct_X4_readsName {m : Mem} {r : Int × Mem} (E : f_X4_readsName m = some r) : CTi yX4_readsName cX4_readsName 2 (some .boolean) rm_X4_readsName [.ref 51] m r := CT_z (by decide +kernel) rfl (Nat.le_of_ble_eq_true rfl) (ok_X4_readsName  _  E)
theorem hy_X4_readsName : yX4_readsName.cls = RX4 ∧ yX4_readsName.cls ≠ "java/lang/invoke/MethodHandle" ∧ yX4_readsName.cls ≠ "java/lang/invoke/VarHandle" ∧ (parseMethodDescriptor yX4_readsName.desc).map (fun d => d.parameters.length) = some 0 := by decide +kernel
abbrev rm_X4_readsAddition : Room := { frames := 3, cells := 0, slots := 0, locals := 73 }
def f_X4_readsAddition_L111 (l1 : Int) (l2 : Int) (l3 : Int) (s0 : Int) (m : Mem) : Option (Int × Mem) :=
  if s0 = 0 then
(mmK (s0 = 0 ∨ s0 = 1) (some (s0, (mwr m 51 11 0))))
else
(if l1 = 0 then
(mmK (s0 = 0 ∨ s0 = 1) (some (s0, (mwr m 51 11 0))))
else
((f_X4_doAdd l2 l3 (m.1 51 10) m).bind (fun q23 => mmK (s0 = 0 ∨ s0 = 1) (some (s0, (mwr q23.2 51 11 q23.1))))))
set_option maxRecDepth 100000 in
set_option maxHeartbeats 4000000 in
theorem ok_X4_readsAddition_L111 {r : Int × Mem} : ∀ (l1 : Int) (l2 : Int) (l3 : Int) (s0 : Int) (m : Mem), inR l1 → inR l2 → inR l3 → inR s0 → f_X4_readsAddition_L111 l1 l2 l3 s0 m = some r → VV RX4 cX4_readsAddition 5 rm_X4_readsAddition mmG0 (mmPz r) 111 [(0, .ref 51), (1, vi l1), (2, vi l2), (3, vi l3)] [vi s0] m := by
  intro l1 l2 l3 s0 m hr1 hr2 hr3 hrs0 E
  unfold f_X4_readsAddition_L111 at E
  refine V_istore (lv' := [(0, .ref 51), (1, vi l1), (2, vi l2), (3, vi l3), (4, vi s0)]) dX4_readsAddition_111 rfl rfl ?_
  refine V_aload_n 0 dX4_readsAddition_113 rfl ?_
  refine V_iload 4 dX4_readsAddition_114 rfl ?_
  refine V_if_eq 136 dX4_readsAddition_116 (by decide) hrs0 (fun c18 => ?_) (fun c18 => ?_)
  · replace E := mmI_t c18 E
    refine V_iconst dX4_readsAddition_136 rfl ?_
    refine V_put (ci := 4) (k := 11) (N := 12) (T := TX4) (x := 0) (ty := .int) tyX4 dX4_readsAddition_137 iuX4 tyX4_ok nmX4 fl_X4_114 rfl (by decide) rfl sh_51 rfl (by decide +kernel) rfl rfl ir_0 ?_
    refine V_iload 4 dX4_readsAddition_140 rfl ?_
    obtain ⟨hz19, E⟩ := mmK_e E
    obtain rfl := Option.some.inj E
    exact V_reti dX4_readsAddition_142 ⟨rfl, rfl, hz19⟩
  · replace E := mmI_f c18 E
    refine V_iload_n 1 dX4_readsAddition_119 rfl ?_
    refine V_if_eq 136 dX4_readsAddition_120 (by decide) hr1 (fun c20 => ?_) (fun c20 => ?_)
    · replace E := mmI_t c20 E
      refine V_iconst dX4_readsAddition_136 rfl ?_
      refine V_put (ci := 4) (k := 11) (N := 12) (T := TX4) (x := 0) (ty := .int) tyX4 dX4_readsAddition_137 iuX4 tyX4_ok nmX4 fl_X4_114 rfl (by decide) rfl sh_51 rfl (by decide +kernel) rfl rfl ir_0 ?_
      refine V_iload 4 dX4_readsAddition_140 rfl ?_
      obtain ⟨hz21, E⟩ := mmK_e E
      obtain rfl := Option.some.inj E
      exact V_reti dX4_readsAddition_142 ⟨rfl, rfl, hz21⟩
    · replace E := mmI_f c20 E
      refine V_aload_n 0 dX4_readsAddition_123 rfl ?_
      refine V_iload_n 2 dX4_readsAddition_124 rfl ?_
      refine V_iload_n 3 dX4_readsAddition_125 rfl ?_
      refine V_aload_n 0 dX4_readsAddition_126 rfl ?_
      refine V_geti (ci := 4) (k := 10) (N := 12) (T := TX4) dX4_readsAddition_127 iuX4 fl_X4_105 rfl (by decide) rfl sh_51 (fun hv22 => ?_)
      obtain ⟨q23, hq23, E⟩ := mmB_e E
      refine V_callV (ci := 4) (q := (RX4, TX4, 12)) (Cn := RX4) (st := [.ref 51]) 3 dX4_readsAddition_130 (ct_X4_doAdd hr2 hr3 hv22 hq23) ml_X4_85 im_X4_doAdd sl_X4_doAdd it_X4 cd_X4_doAdd hy_X4_doAdd ⟨rfl, rfl, by decide, by decide⟩ sh_51 rfl rfl rfl rfl (Nat.le_of_ble_eq_true rfl) (fun hv24 => ?_)
      refine V_goto 137 dX4_readsAddition_133 (by decide) ?_
      refine V_put (ci := 4) (k := 11) (N := 12) (T := TX4) (x := q23.1) (ty := .int) tyX4 dX4_readsAddition_137 iuX4 tyX4_ok nmX4 fl_X4_114 rfl (by decide) rfl sh_51 rfl (by decide +kernel) rfl rfl hv24 ?_
      refine V_iload 4 dX4_readsAddition_140 rfl ?_
      obtain ⟨hz25, E⟩ := mmK_e E
      obtain rfl := Option.some.inj E
      exact V_reti dX4_readsAddition_142 ⟨rfl, rfl, hz25⟩
def f_X4_readsAddition_L106 (l1 : Int) (l2 : Int) (l3 : Int) (m : Mem) : Option (Int × Mem) :=
  f_X4_readsAddition_L111 l1 l2 l3 1 m
set_option maxRecDepth 100000 in
set_option maxHeartbeats 4000000 in
theorem ok_X4_readsAddition_L106 {r : Int × Mem} : ∀ (l1 : Int) (l2 : Int) (l3 : Int) (m : Mem), inR l1 → inR l2 → inR l3 → f_X4_readsAddition_L106 l1 l2 l3 m = some r → VV RX4 cX4_readsAddition 5 rm_X4_readsAddition mmG0 (mmPz r) 106 [(0, .ref 51), (1, vi l1), (2, vi l2), (3, vi l3)] [] m := by
  intro l1 l2 l3 m hr1 hr2 hr3 E
  unfold f_X4_readsAddition_L106 at E
  refine V_iconst dX4_readsAddition_106 rfl ?_
  refine V_goto 111 dX4_readsAddition_107 (by decide) ?_
  exact ok_X4_readsAddition_L111 _ _ _ _ _ hr1 hr2 hr3 ir_1 E
def f_X4_readsAddition (l1 : Int) (m : Mem) : Option (Int × Mem) :=
  (f_X4_readsName m).bind (fun q1 => if q1.1 = 0 then
(some (0, q1.2))
else
((f_X4_takes 62 q1.2).bind (fun q5 => if q5.1 = 0 then
((f_X4_takes 61 q5.2).bind (fun q8 => if q8.1 = 0 then
(some (0, q8.2))
else
((f_X4_readsNumber 1 40 q8.2).bind (fun q11 => if q11.1 = 0 then
(some (0, q11.2))
else
((f_X4_takes 44 (mwr q11.2 51 10 0)).bind (fun q15 => if q15.1 = 0 then
(f_X4_readsAddition_L106 l1 (q1.2.1 51 10) (q11.2.1 51 10) q15.2)
else
((f_X4_readsNumber 0 9999 q15.2).bind (fun q26 => if q26.1 = 0 then
(f_X4_readsAddition_L111 l1 (q1.2.1 51 10) (q11.2.1 51 10) 0 q26.2)
else
(f_X4_readsAddition_L106 l1 (q1.2.1 51 10) (q11.2.1 51 10) q26.2)))))))))
else
((f_X4_readsName q5.2).bind (fun q29 => if q29.1 = 0 then
(mmK (q29.1 = 0 ∨ q29.1 = 1) (some (q29.1, (mwr q29.2 51 11 0))))
else
(if l1 = 0 then
(mmK (q29.1 = 0 ∨ q29.1 = 1) (some (q29.1, (mwr q29.2 51 11 0))))
else
((f_X4_doAlias (q1.2.1 51 10) (q29.2.1 51 10) q29.2).bind (fun q36 => mmK (q29.1 = 0 ∨ q29.1 = 1) (some (q29.1, (mwr q36.2 51 11 q36.1)))))))))))
set_option maxRecDepth 100000 in
set_option maxHeartbeats 4000000 in
theorem ok_X4_readsAddition {r : Int × Mem} : ∀ (l1 : Int) (m : Mem), inR l1 → f_X4_readsAddition l1 m = some r → VV RX4 cX4_readsAddition 5 rm_X4_readsAddition mmG0 (mmPz r) 0 [(0, .ref 51), (1, vi l1)] [] m := by
  intro l1 m hr1 E
  unfold f_X4_readsAddition at E
  refine V_aload_n 0 dX4_readsAddition_0 rfl ?_
  obtain ⟨q1, hq1, E⟩ := mmB_e E
  refine V_callV (ci := 4) (q := (RX4, TX4, 12)) (Cn := RX4) (st := []) 0 dX4_readsAddition_1 (ct_X4_readsName hq1) ml_X4_108 im_X4_readsName sl_X4_readsName it_X4 cd_X4_readsName hy_X4_readsName ⟨rfl, rfl, by decide, by decide⟩ sh_51 rfl rfl rfl rfl (Nat.le_of_ble_eq_true rfl) (fun hv2 => ?_)
  refine V_if_ne 9 dX4_readsAddition_4 (by decide) hv2 (fun c3 => ?_) (fun c3 => ?_)
  · replace E := mmI_f c3 E
    refine V_aload_n 0 dX4_readsAddition_9 rfl ?_
    refine V_geti (ci := 4) (k := 10) (N := 12) (T := TX4) dX4_readsAddition_10 iuX4 fl_X4_105 rfl (by decide) rfl sh_51 (fun hv4 => ?_)
    refine V_istore_n (i := 2) (lv' := [(0, .ref 51), (1, vi l1), (2, vi (q1.2.1 51 10))]) dX4_readsAddition_13 rfl rfl rfl ?_
    refine V_aload_n 0 dX4_readsAddition_14 rfl ?_
    refine V_bipush (v := 62) dX4_readsAddition_15 (by decide) ?_
    obtain ⟨q5, hq5, E⟩ := mmB_e E
    refine V_callV (ci := 4) (q := (RX4, TX4, 12)) (Cn := RX4) (st := []) 1 dX4_readsAddition_17 (ct_X4_takes ir_62 hq5) ml_X4_111 im_X4_takes sl_X4_takes it_X4 cd_X4_takes hy_X4_takes ⟨rfl, rfl, by decide, by decide⟩ sh_51 rfl rfl rfl rfl (Nat.le_of_ble_eq_true rfl) (fun hv6 => ?_)
    refine V_if_eq 55 dX4_readsAddition_20 (by decide) hv6 (fun c7 => ?_) (fun c7 => ?_)
    · replace E := mmI_t c7 E
      refine V_aload_n 0 dX4_readsAddition_55 rfl ?_
      refine V_bipush (v := 61) dX4_readsAddition_56 (by decide) ?_
      obtain ⟨q8, hq8, E⟩ := mmB_e E
      refine V_callV (ci := 4) (q := (RX4, TX4, 12)) (Cn := RX4) (st := []) 1 dX4_readsAddition_58 (ct_X4_takes ir_61 hq8) ml_X4_111 im_X4_takes sl_X4_takes it_X4 cd_X4_takes hy_X4_takes ⟨rfl, rfl, by decide, by decide⟩ sh_51 rfl rfl rfl rfl (Nat.le_of_ble_eq_true rfl) (fun hv9 => ?_)
      refine V_if_eq 74 dX4_readsAddition_61 (by decide) hv9 (fun c10 => ?_) (fun c10 => ?_)
      · replace E := mmI_t c10 E
        refine V_iconst dX4_readsAddition_74 rfl ?_
        obtain rfl := Option.some.inj E
        exact V_reti dX4_readsAddition_75 ⟨rfl, rfl, (Or.inl rfl)⟩
      · replace E := mmI_f c10 E
        refine V_aload_n 0 dX4_readsAddition_64 rfl ?_
        refine V_iconst dX4_readsAddition_65 rfl ?_
        refine V_bipush (v := 40) dX4_readsAddition_66 (by decide) ?_
        obtain ⟨q11, hq11, E⟩ := mmB_e E
        refine V_callV (ci := 4) (q := (RX4, TX4, 12)) (Cn := RX4) (st := []) 2 dX4_readsAddition_68 (ct_X4_readsNumber ir_1 ir_40 hq11) ml_X4_117 im_X4_readsNumber sl_X4_readsNumber it_X4 cd_X4_readsNumber hy_X4_readsNumber ⟨rfl, rfl, by decide, by decide⟩ sh_51 rfl rfl rfl rfl (Nat.le_of_ble_eq_true rfl) (fun hv12 => ?_)
        refine V_if_ne 76 dX4_readsAddition_71 (by decide) hv12 (fun c13 => ?_) (fun c13 => ?_)
        · replace E := mmI_f c13 E
          refine V_aload_n 0 dX4_readsAddition_76 rfl ?_
          refine V_geti (ci := 4) (k := 10) (N := 12) (T := TX4) dX4_readsAddition_77 iuX4 fl_X4_105 rfl (by decide) rfl sh_51 (fun hv14 => ?_)
          refine V_istore_n (i := 3) (lv' := [(0, .ref 51), (1, vi l1), (2, vi (q1.2.1 51 10)), (3, vi (q11.2.1 51 10))]) dX4_readsAddition_80 rfl rfl rfl ?_
          refine V_aload_n 0 dX4_readsAddition_81 rfl ?_
          refine V_iconst dX4_readsAddition_82 rfl ?_
          refine V_put (ci := 4) (k := 10) (N := 12) (T := TX4) (x := 0) (ty := .int) tyX4 dX4_readsAddition_83 iuX4 tyX4_ok nmX4 fl_X4_105 rfl (by decide) rfl sh_51 rfl (by decide +kernel) rfl rfl ir_0 ?_
          refine V_aload_n 0 dX4_readsAddition_86 rfl ?_
          refine V_bipush (v := 44) dX4_readsAddition_87 (by decide) ?_
          obtain ⟨q15, hq15, E⟩ := mmB_e E
          refine V_callV (ci := 4) (q := (RX4, TX4, 12)) (Cn := RX4) (st := []) 1 dX4_readsAddition_89 (ct_X4_takes ir_44 hq15) ml_X4_111 im_X4_takes sl_X4_takes it_X4 cd_X4_takes hy_X4_takes ⟨rfl, rfl, by decide, by decide⟩ sh_51 rfl rfl rfl rfl (Nat.le_of_ble_eq_true rfl) (fun hv16 => ?_)
          refine V_if_eq 106 dX4_readsAddition_92 (by decide) hv16 (fun c17 => ?_) (fun c17 => ?_)
          · replace E := mmI_t c17 E
            exact ok_X4_readsAddition_L106 _ _ _ _ hr1 hv4 hv14 E
          · replace E := mmI_f c17 E
            refine V_aload_n 0 dX4_readsAddition_95 rfl ?_
            refine V_iconst dX4_readsAddition_96 rfl ?_
            refine V_sipush (v := 9999) dX4_readsAddition_97 (by decide) ?_
            obtain ⟨q26, hq26, E⟩ := mmB_e E
            refine V_callV (ci := 4) (q := (RX4, TX4, 12)) (Cn := RX4) (st := []) 2 dX4_readsAddition_100 (ct_X4_readsNumber ir_0 ir_9999 hq26) ml_X4_117 im_X4_readsNumber sl_X4_readsNumber it_X4 cd_X4_readsNumber hy_X4_readsNumber ⟨rfl, rfl, by decide, by decide⟩ sh_51 rfl rfl rfl rfl (Nat.le_of_ble_eq_true rfl) (fun hv27 => ?_)
            refine V_if_eq 110 dX4_readsAddition_103 (by decide) hv27 (fun c28 => ?_) (fun c28 => ?_)
            · replace E := mmI_t c28 E
              refine V_iconst dX4_readsAddition_110 rfl ?_
              exact ok_X4_readsAddition_L111 _ _ _ _ _ hr1 hv4 hv14 ir_0 E
            · replace E := mmI_f c28 E
              exact ok_X4_readsAddition_L106 _ _ _ _ hr1 hv4 hv14 E
        · replace E := mmI_t c13 E
          refine V_iconst dX4_readsAddition_74 rfl ?_
          obtain rfl := Option.some.inj E
          exact V_reti dX4_readsAddition_75 ⟨rfl, rfl, (Or.inl rfl)⟩
    · replace E := mmI_f c7 E
      refine V_aload_n 0 dX4_readsAddition_23 rfl ?_
      obtain ⟨q29, hq29, E⟩ := mmB_e E
      refine V_callV (ci := 4) (q := (RX4, TX4, 12)) (Cn := RX4) (st := []) 0 dX4_readsAddition_24 (ct_X4_readsName hq29) ml_X4_108 im_X4_readsName sl_X4_readsName it_X4 cd_X4_readsName hy_X4_readsName ⟨rfl, rfl, by decide, by decide⟩ sh_51 rfl rfl rfl rfl (Nat.le_of_ble_eq_true rfl) (fun hv30 => ?_)
      refine V_istore_n (i := 3) (lv' := [(0, .ref 51), (1, vi l1), (2, vi (q1.2.1 51 10)), (3, vi q29.1)]) dX4_readsAddition_27 rfl rfl rfl ?_
      refine V_aload_n 0 dX4_readsAddition_28 rfl ?_
      refine V_iload_n 3 dX4_readsAddition_29 rfl ?_
      refine V_if_eq 49 dX4_readsAddition_30 (by decide) hv30 (fun c31 => ?_) (fun c31 => ?_)
      · replace E := mmI_t c31 E
        refine V_iconst dX4_readsAddition_49 rfl ?_
        refine V_put (ci := 4) (k := 11) (N := 12) (T := TX4) (x := 0) (ty := .int) tyX4 dX4_readsAddition_50 iuX4 tyX4_ok nmX4 fl_X4_114 rfl (by decide) rfl sh_51 rfl (by decide +kernel) rfl rfl ir_0 ?_
        refine V_iload_n 3 dX4_readsAddition_53 rfl ?_
        obtain ⟨hz32, E⟩ := mmK_e E
        obtain rfl := Option.some.inj E
        exact V_reti dX4_readsAddition_54 ⟨rfl, rfl, hz32⟩
      · replace E := mmI_f c31 E
        refine V_iload_n 1 dX4_readsAddition_33 rfl ?_
        refine V_if_eq 49 dX4_readsAddition_34 (by decide) hr1 (fun c33 => ?_) (fun c33 => ?_)
        · replace E := mmI_t c33 E
          refine V_iconst dX4_readsAddition_49 rfl ?_
          refine V_put (ci := 4) (k := 11) (N := 12) (T := TX4) (x := 0) (ty := .int) tyX4 dX4_readsAddition_50 iuX4 tyX4_ok nmX4 fl_X4_114 rfl (by decide) rfl sh_51 rfl (by decide +kernel) rfl rfl ir_0 ?_
          refine V_iload_n 3 dX4_readsAddition_53 rfl ?_
          obtain ⟨hz34, E⟩ := mmK_e E
          obtain rfl := Option.some.inj E
          exact V_reti dX4_readsAddition_54 ⟨rfl, rfl, hz34⟩
        · replace E := mmI_f c33 E
          refine V_aload_n 0 dX4_readsAddition_37 rfl ?_
          refine V_iload_n 2 dX4_readsAddition_38 rfl ?_
          refine V_aload_n 0 dX4_readsAddition_39 rfl ?_
          refine V_geti (ci := 4) (k := 10) (N := 12) (T := TX4) dX4_readsAddition_40 iuX4 fl_X4_105 rfl (by decide) rfl sh_51 (fun hv35 => ?_)
          obtain ⟨q36, hq36, E⟩ := mmB_e E
          refine V_callV (ci := 4) (q := (RX4, TX4, 12)) (Cn := RX4) (st := [.ref 51]) 2 dX4_readsAddition_43 (ct_X4_doAlias hv4 hv35 hq36) ml_X4_92 im_X4_doAlias sl_X4_doAlias it_X4 cd_X4_doAlias hy_X4_doAlias ⟨rfl, rfl, by decide, by decide⟩ sh_51 rfl rfl rfl rfl (Nat.le_of_ble_eq_true rfl) (fun hv37 => ?_)
          refine V_goto 50 dX4_readsAddition_46 (by decide) ?_
          refine V_put (ci := 4) (k := 11) (N := 12) (T := TX4) (x := q36.1) (ty := .int) tyX4 dX4_readsAddition_50 iuX4 tyX4_ok nmX4 fl_X4_114 rfl (by decide) rfl sh_51 rfl (by decide +kernel) rfl rfl hv37 ?_
          refine V_iload_n 3 dX4_readsAddition_53 rfl ?_
          obtain ⟨hz38, E⟩ := mmK_e E
          obtain rfl := Option.some.inj E
          exact V_reti dX4_readsAddition_54 ⟨rfl, rfl, hz38⟩
  · replace E := mmI_t c3 E
    refine V_iconst dX4_readsAddition_7 rfl ?_
    obtain rfl := Option.some.inj E
    exact V_reti dX4_readsAddition_8 ⟨rfl, rfl, (Or.inl rfl)⟩
theorem ct_X4_readsAddition {l1 : Int} {m : Mem} {r : Int × Mem} (hr1 : inR l1) (E : f_X4_readsAddition l1 m = some r) : CTi yX4_readsAddition cX4_readsAddition 5 (some .boolean) rm_X4_readsAddition [.ref 51, vi l1] m r := CT_z (by decide +kernel) rfl (Nat.le_of_ble_eq_true rfl) (ok_X4_readsAddition _ _ hr1 E)
theorem hy_X4_readsAddition : yX4_readsAddition.cls = RX4 ∧ yX4_readsAddition.cls ≠ "java/lang/invoke/MethodHandle" ∧ yX4_readsAddition.cls ≠ "java/lang/invoke/VarHandle" ∧ (parseMethodDescriptor yX4_readsAddition.desc).map (fun d => d.parameters.length) = some 1 := by decide +kernel
abbrev rm_X4_fault : Room := { frames := 4, cells := 0, slots := 0, locals := 97 }
def f_X4_fault_L7 : Nat → Int → Mem → Option (Int × Mem)
  | 0, _, _ => none
  | n + 1, l1, m =>
    if l1 = 0 then
(if (m.1 51 9) = (m.1 51 8) then
(some ((-5), m))
else
(some ((m.1 51 9), m)))
else
((f_X4_readsAddition 0 m).bind (fun q6 => if q6.1 = 0 then
(some ((q6.2.1 51 9), q6.2))
else
((f_X4_takes 59 q6.2).bind (fun q9 => f_X4_fault_L7 n q9.1 q9.2))))
set_option maxRecDepth 100000 in
set_option maxHeartbeats 4000000 in
theorem ok_X4_fault_L7 {r : Int × Mem} : ∀ (n : Nat), ∀ (l1 : Int) (m : Mem), inR l1 → f_X4_fault_L7 n l1 m = some r → VV RX4 cX4_fault 2 rm_X4_fault mmG0 (mmPi r) 7 [(0, .ref 51), (1, vi l1)] [] m := by
  intro n
  induction n with
  | zero =>
    intro l1 m hr1 E
    cases E
  | succ n ih =>
    intro l1 m hr1 E
    rw [f_X4_fault_L7] at E
    refine V_iload_n 1 dX4_fault_7 rfl ?_
    refine V_if_eq 34 dX4_fault_8 (by decide) hr1 (fun c1 => ?_) (fun c1 => ?_)
    · replace E := mmI_t c1 E
      refine V_aload_n 0 dX4_fault_34 rfl ?_
      refine V_geti (ci := 4) (k := 9) (N := 12) (T := TX4) dX4_fault_35 iuX4 fl_X4_98 rfl (by decide) rfl sh_51 (fun hv2 => ?_)
      refine V_aload_n 0 dX4_fault_38 rfl ?_
      refine V_geti (ci := 4) (k := 8) (N := 12) (T := TX4) dX4_fault_39 iuX4 fl_X4_95 rfl (by decide) rfl sh_51 (fun hv3 => ?_)
      refine V_icmp_ne 50 dX4_fault_42 (by decide) hv2 hv3 (fun c4 => ?_) (fun c4 => ?_)
      · replace E := mmI_f c4 E
        refine V_aload_n 0 dX4_fault_50 rfl ?_
        refine V_geti (ci := 4) (k := 9) (N := 12) (T := TX4) dX4_fault_51 iuX4 fl_X4_98 rfl (by decide) rfl sh_51 (fun hv5 => ?_)
        obtain rfl := Option.some.inj E
        exact V_reti dX4_fault_54 ⟨rfl, rfl, hv5⟩
      · replace E := mmI_t c4 E
        refine V_bipush (v := (-5)) dX4_fault_45 (by decide) ?_
        refine V_goto 54 dX4_fault_47 (by decide) ?_
        obtain rfl := Option.some.inj E
        exact V_reti dX4_fault_54 ⟨rfl, rfl, ir_m5⟩
    · replace E := mmI_f c1 E
      refine V_aload_n 0 dX4_fault_11 rfl ?_
      refine V_iconst dX4_fault_12 rfl ?_
      obtain ⟨q6, hq6, E⟩ := mmB_e E
      refine V_callV (ci := 4) (q := (RX4, TX4, 12)) (Cn := RX4) (st := []) 1 dX4_fault_13 (ct_X4_readsAddition ir_0 hq6) ml_X4_120 im_X4_readsAddition sl_X4_readsAddition it_X4 cd_X4_readsAddition hy_X4_readsAddition ⟨rfl, rfl, by decide, by decide⟩ sh_51 rfl rfl rfl rfl (Nat.le_of_ble_eq_true rfl) (fun hv7 => ?_)
      refine V_if_ne 24 dX4_fault_16 (by decide) hv7 (fun c8 => ?_) (fun c8 => ?_)
      · replace E := mmI_f c8 E
        refine V_aload_n 0 dX4_fault_24 rfl ?_
        refine V_bipush (v := 59) dX4_fault_25 (by decide) ?_
        obtain ⟨q9, hq9, E⟩ := mmB_e E
        refine V_callV (ci := 4) (q := (RX4, TX4, 12)) (Cn := RX4) (st := []) 1 dX4_fault_27 (ct_X4_takes ir_59 hq9) ml_X4_111 im_X4_takes sl_X4_takes it_X4 cd_X4_takes hy_X4_takes ⟨rfl, rfl, by decide, by decide⟩ sh_51 rfl rfl rfl rfl (Nat.le_of_ble_eq_true rfl) (fun hv10 => ?_)
        refine V_istore_n (i := 1) (lv' := [(0, .ref 51), (1, vi q9.1)]) dX4_fault_30 rfl rfl rfl ?_
        refine V_goto 7 dX4_fault_31 (by decide) ?_
        exact ih _ _ hv10 E
      · replace E := mmI_t c8 E
        refine V_aload_n 0 dX4_fault_19 rfl ?_
        refine V_geti (ci := 4) (k := 9) (N := 12) (T := TX4) dX4_fault_20 iuX4 fl_X4_98 rfl (by decide) rfl sh_51 (fun hv11 => ?_)
        obtain rfl := Option.some.inj E
        exact V_reti dX4_fault_23 ⟨rfl, rfl, hv11⟩
def f_X4_fault (m : Mem) : Option (Int × Mem) :=
  f_X4_fault_L7 mmFU 1 (mwr m 51 9 0)
set_option maxRecDepth 100000 in
set_option maxHeartbeats 4000000 in
theorem ok_X4_fault {r : Int × Mem} : ∀ (m : Mem), f_X4_fault m = some r → VV RX4 cX4_fault 2 rm_X4_fault mmG0 (mmPi r) 0 [(0, .ref 51)] [] m := by
  intro m E
  unfold f_X4_fault at E
  refine V_aload_n 0 dX4_fault_0 rfl ?_
  refine V_iconst dX4_fault_1 rfl ?_
  refine V_put (ci := 4) (k := 9) (N := 12) (T := TX4) (x := 0) (ty := .int) tyX4 dX4_fault_2 iuX4 tyX4_ok nmX4 fl_X4_98 rfl (by decide) rfl sh_51 rfl (by decide +kernel) rfl rfl ir_0 ?_
  refine V_iconst dX4_fault_5 rfl ?_
  refine V_istore_n (i := 1) (lv' := [(0, .ref 51), (1, vi 1)]) dX4_fault_6 rfl rfl rfl ?_
  exact ok_X4_fault_L7 mmFU _ _ ir_1 E
theorem ct_X4_fault {m : Mem} {r : Int × Mem} (E : f_X4_fault m = some r) : CTi yX4_fault cX4_fault 2 (some .int) rm_X4_fault [.ref 51] m r := CT_i (by decide +kernel) rfl (Nat.le_of_ble_eq_true rfl) (ok_X4_fault  _  E)
theorem hy_X4_fault : yX4_fault.cls = RX4 ∧ yX4_fault.cls ≠ "java/lang/invoke/MethodHandle" ∧ yX4_fault.cls ≠ "java/lang/invoke/VarHandle" ∧ (parseMethodDescriptor yX4_fault.desc).map (fun d => d.parameters.length) = some 0 := by decide +kernel
abbrev rm_X4_addAll : Room := { frames := 5, cells := 0, slots := 0, locals := 118 }
def f_X4_addAll_L59 : Nat → Int → Mem → Option (Int × Mem)
  | 0, _, _ => none
  | n + 1, l5, m =>
    if 149 ≤ l5 then
(some ((m.1 51 11), m))
else
(mmK (0 ≤ l5 ∧ l5 < 149) (mmK (0 ≤ l5 ∧ l5 < 149) (mmK (inR (l5 + 1)) (f_X4_addAll_L59 n (l5 + 1) (mwr m 52 (l5).toNat (m.1 53 (l5).toNat))))))
set_option maxRecDepth 100000 in
set_option maxHeartbeats 4000000 in
theorem ok_X4_addAll_L59 {r : Int × Mem} : ∀ (n : Nat), ∀ (l5 : Int) (m : Mem), inR l5 → f_X4_addAll_L59 n l5 m = some r → VV RX4 cX4_addAll 6 rm_X4_addAll mmG0 (mmPi r) 59 [(0, .ref 51), (5, vi l5)] [] m := by
  intro n
  induction n with
  | zero =>
    intro l5 m hr5 E
    cases E
  | succ n ih =>
    intro l5 m hr5 E
    rw [f_X4_addAll_L59] at E
    refine V_iload 1 dX4_addAll_59 rfl ?_
    refine V_sipush (v := 149) dX4_addAll_61 (by decide) ?_
    refine V_icmp_ge 87 dX4_addAll_64 (by decide) hr5 ir_149 (fun c21 => ?_) (fun c21 => ?_)
    · replace E := mmI_t c21 E
      refine V_aload_n 0 dX4_addAll_87 rfl ?_
      refine V_geti (ci := 4) (k := 11) (N := 12) (T := TX4) dX4_addAll_88 iuX4 fl_X4_114 rfl (by decide) rfl sh_51 (fun hv22 => ?_)
      obtain rfl := Option.some.inj E
      exact V_reti dX4_addAll_91 ⟨rfl, rfl, hv22⟩
    · replace E := mmI_f c21 E
      refine V_aload_n 0 dX4_addAll_67 rfl ?_
      refine V_geta (ci := 4) (k := 0) (N := 12) (T := TX4) (o' := 52) dX4_addAll_68 iuX4 fl_X4_7 rfl (by decide) rfl sh_51 rfl ?_
      refine V_iload 1 dX4_addAll_71 rfl ?_
      refine V_aload_n 0 dX4_addAll_73 rfl ?_
      refine V_geta (ci := 4) (k := 1) (N := 12) (T := TX4) (o' := 53) dX4_addAll_74 iuX4 fl_X4_13 rfl (by decide) rfl sh_51 rfl ?_
      refine V_iload 1 dX4_addAll_77 rfl ?_
      obtain ⟨hv23, E⟩ := mmK_e E
      refine V_iald (n := 149) (j := (l5).toNat) dX4_addAll_79 sh_53 hr5 hv23 rfl (fun hv24 => ?_)
      obtain ⟨hv25, E⟩ := mmK_e E
      refine V_iast (n := 149) (j := (l5).toNat) dX4_addAll_80 sh_52 hr5 hv24 hv25 rfl ?_
      obtain ⟨hv26, E⟩ := mmK_e E
      refine V_iinc (v := (l5 + 1)) (lv' := [(0, .ref 51), (5, vi (l5 + 1))]) 1 dX4_addAll_81 rfl rfl rfl rfl ?_
      refine V_goto 59 dX4_addAll_84 (by decide) ?_
      exact ih _ _ hv26 E
def f_X4_addAll_L29 : Nat → Int → Int → Mem → Option (Int × Mem)
  | 0, _, _, _ => none
  | n + 1, l2, l3, m =>
    if l3 = 0 then
((f_X4_acted l2 m).bind (fun q7 => some (q7.1, q7.2)))
else
((f_X4_readsAddition 1 m).bind (fun q9 => if 0 ≤ (q9.2.1 51 11) then
(mmK (inR (l2 + 1)) ((f_X4_takes 59 q9.2).bind (fun q14 => f_X4_addAll_L29 n (l2 + 1) q14.1 q14.2)))
else
(if (q9.2.1 51 11) = (-5) then
(mmK (inR (l2 + 1)) ((f_X4_takes 59 q9.2).bind (fun q19 => f_X4_addAll_L29 n (l2 + 1) q19.1 q19.2)))
else
(f_X4_addAll_L59 mmFU 0 q9.2))))
set_option maxRecDepth 100000 in
set_option maxHeartbeats 4000000 in
theorem ok_X4_addAll_L29 {r : Int × Mem} : ∀ (n : Nat), ∀ (l2 : Int) (l3 : Int) (m : Mem), inR l2 → inR l3 → f_X4_addAll_L29 n l2 l3 m = some r → VV RX4 cX4_addAll 6 rm_X4_addAll mmG0 (mmPi r) 29 [(0, .ref 51), (2, vi l2), (3, vi l3)] [] m := by
  intro n
  induction n with
  | zero =>
    intro l2 l3 m hr2 hr3 E
    cases E
  | succ n ih =>
    intro l2 l3 m hr2 hr3 E
    rw [f_X4_addAll_L29] at E
    refine V_iload_n 2 dX4_addAll_29 rfl ?_
    refine V_if_eq 105 dX4_addAll_30 (by decide) hr3 (fun c6 => ?_) (fun c6 => ?_)
    · replace E := mmI_t c6 E
      refine V_aload_n 0 dX4_addAll_105 rfl ?_
      refine V_iload_n 1 dX4_addAll_106 rfl ?_
      obtain ⟨q7, hq7, E⟩ := mmB_e E
      refine V_callV (ci := 4) (q := (RX4, TX4, 12)) (Cn := RX4) (st := []) 1 dX4_addAll_107 (ct_X4_acted hr2 hq7) ml_X4_89 im_X4_acted sl_X4_acted it_X4 cd_X4_acted hy_X4_acted ⟨rfl, rfl, by decide, by decide⟩ sh_51 rfl rfl rfl rfl (Nat.le_of_ble_eq_true rfl) (fun hv8 => ?_)
      obtain rfl := Option.some.inj E
      exact V_reti dX4_addAll_110 ⟨rfl, rfl, hv8⟩
    · replace E := mmI_f c6 E
      refine V_aload_n 0 dX4_addAll_33 rfl ?_
      refine V_iconst dX4_addAll_34 rfl ?_
      obtain ⟨q9, hq9, E⟩ := mmB_e E
      refine V_callV (ci := 4) (q := (RX4, TX4, 12)) (Cn := RX4) (st := []) 1 dX4_addAll_35 (ct_X4_readsAddition ir_1 hq9) ml_X4_120 im_X4_readsAddition sl_X4_readsAddition it_X4 cd_X4_readsAddition hy_X4_readsAddition ⟨rfl, rfl, by decide, by decide⟩ sh_51 rfl rfl rfl rfl (Nat.le_of_ble_eq_true rfl) (fun hv10 => ?_)
      refine V_istore (lv' := [(0, .ref 51), (2, vi l2), (3, vi l3), (4, vi q9.1)]) dX4_addAll_38 rfl rfl ?_
      refine V_aload_n 0 dX4_addAll_40 rfl ?_
      refine V_geti (ci := 4) (k := 11) (N := 12) (T := TX4) dX4_addAll_41 iuX4 fl_X4_114 rfl (by decide) rfl sh_51 (fun hv11 => ?_)
      refine V_if_ge 92 dX4_addAll_44 (by decide) hv11 (fun c12 => ?_) (fun c12 => ?_)
      · replace E := mmI_t c12 E
        obtain ⟨hv13, E⟩ := mmK_e E
        refine V_iinc (v := (l2 + 1)) (lv' := [(0, .ref 51), (2, vi (l2 + 1)), (3, vi l3), (4, vi q9.1)]) 1 dX4_addAll_92 rfl rfl rfl rfl ?_
        refine V_aload_n 0 dX4_addAll_95 rfl ?_
        refine V_bipush (v := 59) dX4_addAll_96 (by decide) ?_
        obtain ⟨q14, hq14, E⟩ := mmB_e E
        refine V_callV (ci := 4) (q := (RX4, TX4, 12)) (Cn := RX4) (st := []) 1 dX4_addAll_98 (ct_X4_takes ir_59 hq14) ml_X4_111 im_X4_takes sl_X4_takes it_X4 cd_X4_takes hy_X4_takes ⟨rfl, rfl, by decide, by decide⟩ sh_51 rfl rfl rfl rfl (Nat.le_of_ble_eq_true rfl) (fun hv15 => ?_)
        refine V_istore_n (i := 3) (lv' := [(0, .ref 51), (2, vi (l2 + 1)), (3, vi q14.1), (4, vi q9.1)]) dX4_addAll_101 rfl rfl rfl ?_
        refine V_goto 29 dX4_addAll_102 (by decide) ?_
        refine V_sub [0, 1, 2] rfl ?_
        exact ih _ _ _ hv13 hv15 E
      · replace E := mmI_f c12 E
        refine V_aload_n 0 dX4_addAll_47 rfl ?_
        refine V_geti (ci := 4) (k := 11) (N := 12) (T := TX4) dX4_addAll_48 iuX4 fl_X4_114 rfl (by decide) rfl sh_51 (fun hv16 => ?_)
        refine V_bipush (v := (-5)) dX4_addAll_51 (by decide) ?_
        refine V_icmp_eq 92 dX4_addAll_53 (by decide) hv16 ir_m5 (fun c17 => ?_) (fun c17 => ?_)
        · replace E := mmI_t c17 E
          obtain ⟨hv18, E⟩ := mmK_e E
          refine V_iinc (v := (l2 + 1)) (lv' := [(0, .ref 51), (2, vi (l2 + 1)), (3, vi l3), (4, vi q9.1)]) 1 dX4_addAll_92 rfl rfl rfl rfl ?_
          refine V_aload_n 0 dX4_addAll_95 rfl ?_
          refine V_bipush (v := 59) dX4_addAll_96 (by decide) ?_
          obtain ⟨q19, hq19, E⟩ := mmB_e E
          refine V_callV (ci := 4) (q := (RX4, TX4, 12)) (Cn := RX4) (st := []) 1 dX4_addAll_98 (ct_X4_takes ir_59 hq19) ml_X4_111 im_X4_takes sl_X4_takes it_X4 cd_X4_takes hy_X4_takes ⟨rfl, rfl, by decide, by decide⟩ sh_51 rfl rfl rfl rfl (Nat.le_of_ble_eq_true rfl) (fun hv20 => ?_)
          refine V_istore_n (i := 3) (lv' := [(0, .ref 51), (2, vi (l2 + 1)), (3, vi q19.1), (4, vi q9.1)]) dX4_addAll_101 rfl rfl rfl ?_
          refine V_goto 29 dX4_addAll_102 (by decide) ?_
          refine V_sub [0, 1, 2] rfl ?_
          exact ih _ _ _ hv18 hv20 E
        · replace E := mmI_f c17 E
          refine V_iconst dX4_addAll_56 rfl ?_
          refine V_istore (lv' := [(0, .ref 51), (2, vi l2), (3, vi l3), (4, vi q9.1), (5, vi 0)]) dX4_addAll_57 rfl rfl ?_
          refine V_sub [0, 4] rfl ?_
          exact ok_X4_addAll_L59 mmFU _ _ ir_0 E
def f_X4_addAll (m : Mem) : Option (Int × Mem) :=
  (f_X4_fault m).bind (fun q1 => if q1.1 = (-5) then
((f_X4_remember q1.2).bind (fun q4 => f_X4_addAll_L29 mmFU 0 1 (mwr q4 51 9 0)))
else
(mmK (inR ((-100) - q1.1)) (some (((-100) - q1.1), q1.2))))
set_option maxRecDepth 100000 in
set_option maxHeartbeats 4000000 in
theorem ok_X4_addAll {r : Int × Mem} : ∀ (m : Mem), f_X4_addAll m = some r → VV RX4 cX4_addAll 6 rm_X4_addAll mmG0 (mmPi r) 0 [(0, .ref 51)] [] m := by
  intro m E
  unfold f_X4_addAll at E
  refine V_aload_n 0 dX4_addAll_0 rfl ?_
  obtain ⟨q1, hq1, E⟩ := mmB_e E
  refine V_callV (ci := 4) (q := (RX4, TX4, 12)) (Cn := RX4) (st := []) 0 dX4_addAll_1 (ct_X4_fault hq1) ml_X4_124 im_X4_fault sl_X4_fault it_X4 cd_X4_fault hy_X4_fault ⟨rfl, rfl, by decide, by decide⟩ sh_51 rfl rfl rfl rfl (Nat.le_of_ble_eq_true rfl) (fun hv2 => ?_)
  refine V_istore_n (i := 1) (lv' := [(0, .ref 51), (1, vi q1.1)]) dX4_addAll_4 rfl rfl rfl ?_
  refine V_iload_n 1 dX4_addAll_5 rfl ?_
  refine V_bipush (v := (-5)) dX4_addAll_6 (by decide) ?_
  refine V_icmp_eq 16 dX4_addAll_8 (by decide) hv2 ir_m5 (fun c3 => ?_) (fun c3 => ?_)
  · replace E := mmI_t c3 E
    refine V_aload_n 0 dX4_addAll_16 rfl ?_
    obtain ⟨q4, hq4, E⟩ := mmB_e E
    refine V_callVv (ci := 4) (q := (RX4, TX4, 12)) (Cn := RX4) (st := []) 0 dX4_addAll_17 (ct_X4_remember hq4) ml_X4_82 im_X4_remember sl_X4_remember it_X4 cd_X4_remember hy_X4_remember ⟨rfl, rfl, by decide, by decide⟩ sh_51 rfl rfl rfl rfl (Nat.le_of_ble_eq_true rfl) ?_
    refine V_aload_n 0 dX4_addAll_20 rfl ?_
    refine V_iconst dX4_addAll_21 rfl ?_
    refine V_put (ci := 4) (k := 9) (N := 12) (T := TX4) (x := 0) (ty := .int) tyX4 dX4_addAll_22 iuX4 tyX4_ok nmX4 fl_X4_98 rfl (by decide) rfl sh_51 rfl (by decide +kernel) rfl rfl ir_0 ?_
    refine V_iconst dX4_addAll_25 rfl ?_
    refine V_istore_n (i := 2) (lv' := [(0, .ref 51), (1, vi q1.1), (2, vi 0)]) dX4_addAll_26 rfl rfl rfl ?_
    refine V_iconst dX4_addAll_27 rfl ?_
    refine V_istore_n (i := 3) (lv' := [(0, .ref 51), (1, vi q1.1), (2, vi 0), (3, vi 1)]) dX4_addAll_28 rfl rfl rfl ?_
    refine V_sub [0, 2, 3] rfl ?_
    exact ok_X4_addAll_L29 mmFU _ _ _ ir_0 ir_1 E
  · replace E := mmI_f c3 E
    refine V_bipush (v := (-100)) dX4_addAll_11 (by decide) ?_
    refine V_iload_n 1 dX4_addAll_13 rfl ?_
    obtain ⟨hv27, E⟩ := mmK_e E
    refine V_isub dX4_addAll_14 ?_
    obtain rfl := Option.some.inj E
    exact V_reti dX4_addAll_15 ⟨rfl, rfl, hv27⟩
theorem ct_X4_addAll {m : Mem} {r : Int × Mem} (E : f_X4_addAll m = some r) : CTi yX4_addAll cX4_addAll 6 (some .int) rm_X4_addAll [.ref 51] m r := CT_i (by decide +kernel) rfl (Nat.le_of_ble_eq_true rfl) (ok_X4_addAll  _  E)
theorem hy_X4_addAll : yX4_addAll.cls = RX4 ∧ yX4_addAll.cls ≠ "java/lang/invoke/MethodHandle" ∧ yX4_addAll.cls ≠ "java/lang/invoke/VarHandle" ∧ (parseMethodDescriptor yX4_addAll.desc).map (fun d => d.parameters.length) = some 0 := by decide +kernel
abbrev rm_X4_squeeze : Room := { frames := 3, cells := 0, slots := 0, locals := 72 }
def f_X4_squeeze (m : Mem) : Option (Int × Mem) :=
  (f_X4_living 1 m).bind (fun q1 => if q1.1 = (q1.2.1 52 2) then
(some ((-5), q1.2))
else
((f_X4_remember q1.2).bind (fun q6 => (f_X4_squeezes q6).bind (fun q8 => (f_X4_acted q8.1 q8.2).bind (fun q10 => some (q10.1, q10.2))))))
set_option maxRecDepth 100000 in
set_option maxHeartbeats 4000000 in
theorem ok_X4_squeeze {r : Int × Mem} : ∀ (m : Mem), f_X4_squeeze m = some r → VV RX4 cX4_squeeze 1 rm_X4_squeeze mmG0 (mmPi r) 0 [(0, .ref 51)] [] m := by
  intro m E
  unfold f_X4_squeeze at E
  refine V_aload_n 0 dX4_squeeze_0 rfl ?_
  refine V_iconst dX4_squeeze_1 rfl ?_
  obtain ⟨q1, hq1, E⟩ := mmB_e E
  refine V_callV (ci := 4) (q := (RX4, TX4, 12)) (Cn := RX4) (st := []) 1 dX4_squeeze_2 (ct_X4_living ir_1 hq1) ml_X4_127 im_X4_living sl_X4_living it_X4 cd_X4_living hy_X4_living ⟨rfl, rfl, by decide, by decide⟩ sh_51 rfl rfl rfl rfl (Nat.le_of_ble_eq_true rfl) (fun hv2 => ?_)
  refine V_aload_n 0 dX4_squeeze_5 rfl ?_
  refine V_geta (ci := 4) (k := 0) (N := 12) (T := TX4) (o' := 52) dX4_squeeze_6 iuX4 fl_X4_7 rfl (by decide) rfl sh_51 rfl ?_
  refine V_iconst dX4_squeeze_9 rfl ?_
  refine V_iald (n := 149) (j := 2) dX4_squeeze_10 sh_52 ir_2 (by decide) rfl (fun hv4 => ?_)
  refine V_icmp_ne 17 dX4_squeeze_11 (by decide) hv2 hv4 (fun c5 => ?_) (fun c5 => ?_)
  · replace E := mmI_f c5 E
    refine V_aload_n 0 dX4_squeeze_17 rfl ?_
    obtain ⟨q6, hq6, E⟩ := mmB_e E
    refine V_callVv (ci := 4) (q := (RX4, TX4, 12)) (Cn := RX4) (st := []) 0 dX4_squeeze_18 (ct_X4_remember hq6) ml_X4_82 im_X4_remember sl_X4_remember it_X4 cd_X4_remember hy_X4_remember ⟨rfl, rfl, by decide, by decide⟩ sh_51 rfl rfl rfl rfl (Nat.le_of_ble_eq_true rfl) ?_
    refine V_aload_n 0 dX4_squeeze_21 rfl ?_
    refine V_aload_n 0 dX4_squeeze_22 rfl ?_
    obtain ⟨q8, hq8, E⟩ := mmB_e E
    refine V_callV (ci := 4) (q := (RX4, TX4, 12)) (Cn := RX4) (st := [.ref 51]) 0 dX4_squeeze_23 (ct_X4_squeezes hq8) ml_X4_131 im_X4_squeezes sl_X4_squeezes it_X4 cd_X4_squeezes hy_X4_squeezes ⟨rfl, rfl, by decide, by decide⟩ sh_51 rfl rfl rfl rfl (Nat.le_of_ble_eq_true rfl) (fun hv9 => ?_)
    obtain ⟨q10, hq10, E⟩ := mmB_e E
    refine V_callV (ci := 4) (q := (RX4, TX4, 12)) (Cn := RX4) (st := []) 1 dX4_squeeze_26 (ct_X4_acted hv9 hq10) ml_X4_89 im_X4_acted sl_X4_acted it_X4 cd_X4_acted hy_X4_acted ⟨rfl, rfl, by decide, by decide⟩ sh_51 rfl rfl rfl rfl (Nat.le_of_ble_eq_true rfl) (fun hv11 => ?_)
    obtain rfl := Option.some.inj E
    exact V_reti dX4_squeeze_29 ⟨rfl, rfl, hv11⟩
  · replace E := mmI_t c5 E
    refine V_bipush (v := (-5)) dX4_squeeze_14 (by decide) ?_
    obtain rfl := Option.some.inj E
    exact V_reti dX4_squeeze_16 ⟨rfl, rfl, ir_m5⟩
theorem ct_X4_squeeze {m : Mem} {r : Int × Mem} (E : f_X4_squeeze m = some r) : CTi yX4_squeeze cX4_squeeze 1 (some .int) rm_X4_squeeze [.ref 51] m r := CT_i (by decide +kernel) rfl (Nat.le_of_ble_eq_true rfl) (ok_X4_squeeze  _  E)
theorem hy_X4_squeeze : yX4_squeeze.cls = RX4 ∧ yX4_squeeze.cls ≠ "java/lang/invoke/MethodHandle" ∧ yX4_squeeze.cls ≠ "java/lang/invoke/VarHandle" ∧ (parseMethodDescriptor yX4_squeeze.desc).map (fun d => d.parameters.length) = some 0 := by decide +kernel
abbrev rm_X4_makeAnew : Room := { frames := 3, cells := 0, slots := 0, locals := 72 }
def f_X4_makeAnew (l1 : Int) (m : Mem) : Option (Int × Mem) :=
  (f_X4_in l1 1 6 m).bind (fun q1 => if q1.1 = 0 then
(some ((-2), q1.2))
else
(mmK (inR (4 * l1)) (if (q1.2.1 52 0) ≤ (4 * l1) then
(if (q1.2.1 52 1) = l1 then
(some ((-5), q1.2))
else
((f_X4_remember q1.2).bind (fun q11 => (f_X4_squeezes (mwr q11 52 1 l1)).bind (fun q14 => (f_X4_acted (q1.2.1 52 1) q14.2).bind (fun q16 => some (q16.1, q16.2))))))
else
(some ((-6), q1.2)))))
set_option maxRecDepth 100000 in
set_option maxHeartbeats 4000000 in
theorem ok_X4_makeAnew {r : Int × Mem} : ∀ (l1 : Int) (m : Mem), inR l1 → f_X4_makeAnew l1 m = some r → VV RX4 cX4_makeAnew 4 rm_X4_makeAnew mmG0 (mmPi r) 0 [(0, .ref 51), (1, vi l1)] [] m := by
  intro l1 m hr1 E
  unfold f_X4_makeAnew at E
  refine V_iload_n 1 dX4_makeAnew_0 rfl ?_
  refine V_i2l dX4_makeAnew_1 hr1 ?_
  refine V_lconst (v := 1) dX4_makeAnew_2 (by decide) ?_
  refine V_ldc2 (v := 6) dX4_makeAnew_3 kl_X4_134 (by decide) ?_
  obtain ⟨q1, hq1, E⟩ := mmB_e E
  refine V_callS (st := []) 3 dX4_makeAnew_6 (ct_X4_in (inRL hr1) (by decide) (by decide) hq1) ml_X4_34 st_X4_in it_X4 cd_X4_in hz_X4_in ⟨rfl, rfl, by decide, by decide⟩ rfl rfl (Nat.le_of_ble_eq_true rfl) (fun hv2 => ?_)
  refine V_if_ne 15 dX4_makeAnew_9 (by decide) hv2 (fun c3 => ?_) (fun c3 => ?_)
  · replace E := mmI_f c3 E
    refine V_aload_n 0 dX4_makeAnew_15 rfl ?_
    refine V_geta (ci := 4) (k := 0) (N := 12) (T := TX4) (o' := 52) dX4_makeAnew_16 iuX4 fl_X4_7 rfl (by decide) rfl sh_51 rfl ?_
    refine V_iconst dX4_makeAnew_19 rfl ?_
    refine V_iald (n := 149) (j := 0) dX4_makeAnew_20 sh_52 ir_0 (by decide) rfl (fun hv5 => ?_)
    refine V_iconst dX4_makeAnew_21 rfl ?_
    refine V_iload_n 1 dX4_makeAnew_22 rfl ?_
    obtain ⟨hv6, E⟩ := mmK_e E
    refine V_imul dX4_makeAnew_23 ?_
    refine V_icmp_le 30 dX4_makeAnew_24 (by decide) hv5 hv6 (fun c7 => ?_) (fun c7 => ?_)
    · replace E := mmI_t c7 E
      refine V_aload_n 0 dX4_makeAnew_30 rfl ?_
      refine V_geta (ci := 4) (k := 0) (N := 12) (T := TX4) (o' := 52) dX4_makeAnew_31 iuX4 fl_X4_7 rfl (by decide) rfl sh_51 rfl ?_
      refine V_iconst dX4_makeAnew_34 rfl ?_
      refine V_iald (n := 149) (j := 1) dX4_makeAnew_35 sh_52 ir_1 (by decide) rfl (fun hv9 => ?_)
      refine V_istore_n (i := 2) (lv' := [(0, .ref 51), (1, vi l1), (2, vi (q1.2.1 52 1))]) dX4_makeAnew_36 rfl rfl rfl ?_
      refine V_iload_n 2 dX4_makeAnew_37 rfl ?_
      refine V_iload_n 1 dX4_makeAnew_38 rfl ?_
      refine V_icmp_ne 45 dX4_makeAnew_39 (by decide) hv9 hr1 (fun c10 => ?_) (fun c10 => ?_)
      · replace E := mmI_f c10 E
        refine V_aload_n 0 dX4_makeAnew_45 rfl ?_
        obtain ⟨q11, hq11, E⟩ := mmB_e E
        refine V_callVv (ci := 4) (q := (RX4, TX4, 12)) (Cn := RX4) (st := []) 0 dX4_makeAnew_46 (ct_X4_remember hq11) ml_X4_82 im_X4_remember sl_X4_remember it_X4 cd_X4_remember hy_X4_remember ⟨rfl, rfl, by decide, by decide⟩ sh_51 rfl rfl rfl rfl (Nat.le_of_ble_eq_true rfl) ?_
        refine V_aload_n 0 dX4_makeAnew_49 rfl ?_
        refine V_geta (ci := 4) (k := 0) (N := 12) (T := TX4) (o' := 52) dX4_makeAnew_50 iuX4 fl_X4_7 rfl (by decide) rfl sh_51 rfl ?_
        refine V_iconst dX4_makeAnew_53 rfl ?_
        refine V_iload_n 1 dX4_makeAnew_54 rfl ?_
        refine V_iast (n := 149) (j := 1) dX4_makeAnew_55 sh_52 ir_1 hr1 (by decide) rfl ?_
        refine V_aload_n 0 dX4_makeAnew_56 rfl ?_
        obtain ⟨q14, hq14, E⟩ := mmB_e E
        refine V_callV (ci := 4) (q := (RX4, TX4, 12)) (Cn := RX4) (st := []) 0 dX4_makeAnew_57 (ct_X4_squeezes hq14) ml_X4_131 im_X4_squeezes sl_X4_squeezes it_X4 cd_X4_squeezes hy_X4_squeezes ⟨rfl, rfl, by decide, by decide⟩ sh_51 rfl rfl rfl rfl (Nat.le_of_ble_eq_true rfl) (fun hv15 => ?_)
        refine V_istore_n (i := 3) (lv' := [(0, .ref 51), (1, vi l1), (2, vi (q1.2.1 52 1)), (3, vi q14.1)]) dX4_makeAnew_60 rfl rfl rfl ?_
        refine V_aload_n 0 dX4_makeAnew_61 rfl ?_
        refine V_iload_n 2 dX4_makeAnew_62 rfl ?_
        obtain ⟨q16, hq16, E⟩ := mmB_e E
        refine V_callV (ci := 4) (q := (RX4, TX4, 12)) (Cn := RX4) (st := []) 1 dX4_makeAnew_63 (ct_X4_acted hv9 hq16) ml_X4_89 im_X4_acted sl_X4_acted it_X4 cd_X4_acted hy_X4_acted ⟨rfl, rfl, by decide, by decide⟩ sh_51 rfl rfl rfl rfl (Nat.le_of_ble_eq_true rfl) (fun hv17 => ?_)
        obtain rfl := Option.some.inj E
        exact V_reti dX4_makeAnew_66 ⟨rfl, rfl, hv17⟩
      · replace E := mmI_t c10 E
        refine V_bipush (v := (-5)) dX4_makeAnew_42 (by decide) ?_
        obtain rfl := Option.some.inj E
        exact V_reti dX4_makeAnew_44 ⟨rfl, rfl, ir_m5⟩
    · replace E := mmI_f c7 E
      refine V_bipush (v := (-6)) dX4_makeAnew_27 (by decide) ?_
      obtain rfl := Option.some.inj E
      exact V_reti dX4_makeAnew_29 ⟨rfl, rfl, ir_m6⟩
  · replace E := mmI_t c3 E
    refine V_bipush (v := (-2)) dX4_makeAnew_12 (by decide) ?_
    obtain rfl := Option.some.inj E
    exact V_reti dX4_makeAnew_14 ⟨rfl, rfl, ir_m2⟩
theorem ct_X4_makeAnew {l1 : Int} {m : Mem} {r : Int × Mem} (hr1 : inR l1) (E : f_X4_makeAnew l1 m = some r) : CTi yX4_makeAnew cX4_makeAnew 4 (some .int) rm_X4_makeAnew [.ref 51, vi l1] m r := CT_i (by decide +kernel) rfl (Nat.le_of_ble_eq_true rfl) (ok_X4_makeAnew _ _ hr1 E)
theorem hy_X4_makeAnew : yX4_makeAnew.cls = RX4 ∧ yX4_makeAnew.cls ≠ "java/lang/invoke/MethodHandle" ∧ yX4_makeAnew.cls ≠ "java/lang/invoke/VarHandle" ∧ (parseMethodDescriptor yX4_makeAnew.desc).map (fun d => d.parameters.length) = some 1 := by decide +kernel
abbrev rm_X4_undo : Room := { frames := 0, cells := 0, slots := 0, locals := 0 }
def f_X4_undo_L22 : Nat → Int → Mem → Option (Int × Mem)
  | 0, _, _ => none
  | n + 1, l1, m =>
    if 149 ≤ l1 then
(some ((m.1 51 3), m))
else
(mmK (inR (149 * (m.1 51 3))) (mmK (inR ((149 * (m.1 51 3)) + l1)) (mmK (0 ≤ ((149 * (m.1 51 3)) + l1) ∧ ((149 * (m.1 51 3)) + l1) < 596) (mmK (0 ≤ l1 ∧ l1 < 149) (mmK (inR (l1 + 1)) (f_X4_undo_L22 n (l1 + 1) (mwr m 52 (l1).toNat (m.1 54 (((149 * (m.1 51 3)) + l1)).toNat))))))))
set_option maxRecDepth 100000 in
set_option maxHeartbeats 4000000 in
theorem ok_X4_undo_L22 {r : Int × Mem} : ∀ (n : Nat), ∀ (l1 : Int) (m : Mem), inR l1 → f_X4_undo_L22 n l1 m = some r → VV RX4 cX4_undo 2 rm_X4_undo mmG0 (mmPi r) 22 [(0, .ref 51), (1, vi l1)] [] m := by
  intro n
  induction n with
  | zero =>
    intro l1 m hr1 E
    cases E
  | succ n ih =>
    intro l1 m hr1 E
    rw [f_X4_undo_L22] at E
    refine V_iload_n 1 dX4_undo_22 rfl ?_
    refine V_sipush (v := 149) dX4_undo_23 (by decide) ?_
    refine V_icmp_ge 56 dX4_undo_26 (by decide) hr1 ir_149 (fun c5 => ?_) (fun c5 => ?_)
    · replace E := mmI_t c5 E
      refine V_aload_n 0 dX4_undo_56 rfl ?_
      refine V_geti (ci := 4) (k := 3) (N := 12) (T := TX4) dX4_undo_57 iuX4 fl_X4_28 rfl (by decide) rfl sh_51 (fun hv6 => ?_)
      obtain rfl := Option.some.inj E
      exact V_reti dX4_undo_60 ⟨rfl, rfl, hv6⟩
    · replace E := mmI_f c5 E
      refine V_aload_n 0 dX4_undo_29 rfl ?_
      refine V_geta (ci := 4) (k := 0) (N := 12) (T := TX4) (o' := 52) dX4_undo_30 iuX4 fl_X4_7 rfl (by decide) rfl sh_51 rfl ?_
      refine V_iload_n 1 dX4_undo_33 rfl ?_
      refine V_aload_n 0 dX4_undo_34 rfl ?_
      refine V_geta (ci := 4) (k := 2) (N := 12) (T := TX4) (o' := 54) dX4_undo_35 iuX4 fl_X4_16 rfl (by decide) rfl sh_51 rfl ?_
      refine V_sipush (v := 149) dX4_undo_38 (by decide) ?_
      refine V_aload_n 0 dX4_undo_41 rfl ?_
      refine V_geti (ci := 4) (k := 3) (N := 12) (T := TX4) dX4_undo_42 iuX4 fl_X4_28 rfl (by decide) rfl sh_51 (fun hv7 => ?_)
      obtain ⟨hv8, E⟩ := mmK_e E
      refine V_imul dX4_undo_45 ?_
      refine V_iload_n 1 dX4_undo_46 rfl ?_
      obtain ⟨hv9, E⟩ := mmK_e E
      refine V_iadd dX4_undo_47 ?_
      obtain ⟨hv10, E⟩ := mmK_e E
      refine V_iald (n := 596) (j := (((149 * (m.1 51 3)) + l1)).toNat) dX4_undo_48 sh_54 hv9 hv10 rfl (fun hv11 => ?_)
      obtain ⟨hv12, E⟩ := mmK_e E
      refine V_iast (n := 149) (j := (l1).toNat) dX4_undo_49 sh_52 hr1 hv11 hv12 rfl ?_
      obtain ⟨hv13, E⟩ := mmK_e E
      refine V_iinc (v := (l1 + 1)) (lv' := [(0, .ref 51), (1, vi (l1 + 1))]) 1 dX4_undo_50 rfl rfl rfl rfl ?_
      refine V_goto 22 dX4_undo_53 (by decide) ?_
      exact ih _ _ hv13 E
def f_X4_undo (m : Mem) : Option (Int × Mem) :=
  if (m.1 51 3) = 0 then
(some ((-5), m))
else
(mmK (inR ((m.1 51 3) - 1)) (f_X4_undo_L22 mmFU 0 (mwr m 51 3 ((m.1 51 3) - 1))))
set_option maxRecDepth 100000 in
set_option maxHeartbeats 4000000 in
theorem ok_X4_undo {r : Int × Mem} : ∀ (m : Mem), f_X4_undo m = some r → VV RX4 cX4_undo 2 rm_X4_undo mmG0 (mmPi r) 0 [(0, .ref 51)] [] m := by
  intro m E
  unfold f_X4_undo at E
  refine V_aload_n 0 dX4_undo_0 rfl ?_
  refine V_geti (ci := 4) (k := 3) (N := 12) (T := TX4) dX4_undo_1 iuX4 fl_X4_28 rfl (by decide) rfl sh_51 (fun hv1 => ?_)
  refine V_if_ne 10 dX4_undo_4 (by decide) hv1 (fun c2 => ?_) (fun c2 => ?_)
  · replace E := mmI_f c2 E
    refine V_aload_n 0 dX4_undo_10 rfl ?_
    refine V_dupa dX4_undo_11 ?_
    refine V_geti (ci := 4) (k := 3) (N := 12) (T := TX4) dX4_undo_12 iuX4 fl_X4_28 rfl (by decide) rfl sh_51 (fun hv3 => ?_)
    refine V_iconst dX4_undo_15 rfl ?_
    obtain ⟨hv4, E⟩ := mmK_e E
    refine V_isub dX4_undo_16 ?_
    refine V_put (ci := 4) (k := 3) (N := 12) (T := TX4) (x := ((m.1 51 3) - 1)) (ty := .int) tyX4 dX4_undo_17 iuX4 tyX4_ok nmX4 fl_X4_28 rfl (by decide) rfl sh_51 rfl (by decide +kernel) rfl rfl hv4 ?_
    refine V_iconst dX4_undo_20 rfl ?_
    refine V_istore_n (i := 1) (lv' := [(0, .ref 51), (1, vi 0)]) dX4_undo_21 rfl rfl rfl ?_
    exact ok_X4_undo_L22 mmFU _ _ ir_0 E
  · replace E := mmI_t c2 E
    refine V_bipush (v := (-5)) dX4_undo_7 (by decide) ?_
    obtain rfl := Option.some.inj E
    exact V_reti dX4_undo_9 ⟨rfl, rfl, ir_m5⟩
theorem ct_X4_undo {m : Mem} {r : Int × Mem} (E : f_X4_undo m = some r) : CTi yX4_undo cX4_undo 2 (some .int) rm_X4_undo [.ref 51] m r := CT_i (by decide +kernel) rfl (Nat.le_of_ble_eq_true rfl) (ok_X4_undo  _  E)
theorem hy_X4_undo : yX4_undo.cls = RX4 ∧ yX4_undo.cls ≠ "java/lang/invoke/MethodHandle" ∧ yX4_undo.cls ≠ "java/lang/invoke/VarHandle" ∧ (parseMethodDescriptor yX4_undo.desc).map (fun d => d.parameters.length) = some 0 := by decide +kernel
abbrev rm_X4_keep : Room := { frames := 0, cells := 0, slots := 0, locals := 0 }
def f_X4_keep_L2 : Nat → Int → Mem → Option (Int × Mem)
  | 0, _, _ => none
  | n + 1, l1, m =>
    if 149 ≤ l1 then
(some (((mwr m 51 5 1).1 52 0), (mwr m 51 5 1)))
else
(mmK (0 ≤ l1 ∧ l1 < 149) (mmK (0 ≤ l1 ∧ l1 < 149) (mmK (inR (l1 + 1)) (f_X4_keep_L2 n (l1 + 1) (mwr m 55 (l1).toNat (m.1 52 (l1).toNat))))))
set_option maxRecDepth 100000 in
set_option maxHeartbeats 4000000 in
theorem ok_X4_keep_L2 {r : Int × Mem} : ∀ (n : Nat), ∀ (l1 : Int) (m : Mem), inR l1 → f_X4_keep_L2 n l1 m = some r → VV RX4 cX4_keep 2 rm_X4_keep mmG0 (mmPi r) 2 [(0, .ref 51), (1, vi l1)] [] m := by
  intro n
  induction n with
  | zero =>
    intro l1 m hr1 E
    cases E
  | succ n ih =>
    intro l1 m hr1 E
    rw [f_X4_keep_L2] at E
    refine V_iload_n 1 dX4_keep_2 rfl ?_
    refine V_sipush (v := 149) dX4_keep_3 (by decide) ?_
    refine V_icmp_ge 27 dX4_keep_6 (by decide) hr1 ir_149 (fun c1 => ?_) (fun c1 => ?_)
    · replace E := mmI_t c1 E
      refine V_aload_n 0 dX4_keep_27 rfl ?_
      refine V_iconst dX4_keep_28 rfl ?_
      refine V_put (ci := 4) (k := 5) (N := 12) (T := TX4) (x := 1) (ty := .int) tyX4 dX4_keep_29 iuX4 tyX4_ok nmX4 fl_X4_136 rfl (by decide) rfl sh_51 rfl (by decide +kernel) rfl rfl ir_1 ?_
      refine V_aload_n 0 dX4_keep_32 rfl ?_
      refine V_geta (ci := 4) (k := 0) (N := 12) (T := TX4) (o' := 52) dX4_keep_33 iuX4 fl_X4_7 rfl (by decide) rfl sh_51 rfl ?_
      refine V_iconst dX4_keep_36 rfl ?_
      refine V_iald (n := 149) (j := 0) dX4_keep_37 sh_52 ir_0 (by decide) rfl (fun hv3 => ?_)
      obtain rfl := Option.some.inj E
      exact V_reti dX4_keep_38 ⟨rfl, rfl, hv3⟩
    · replace E := mmI_f c1 E
      refine V_aload_n 0 dX4_keep_9 rfl ?_
      refine V_geta (ci := 4) (k := 4) (N := 12) (T := TX4) (o' := 55) dX4_keep_10 iuX4 fl_X4_19 rfl (by decide) rfl sh_51 rfl ?_
      refine V_iload_n 1 dX4_keep_13 rfl ?_
      refine V_aload_n 0 dX4_keep_14 rfl ?_
      refine V_geta (ci := 4) (k := 0) (N := 12) (T := TX4) (o' := 52) dX4_keep_15 iuX4 fl_X4_7 rfl (by decide) rfl sh_51 rfl ?_
      refine V_iload_n 1 dX4_keep_18 rfl ?_
      obtain ⟨hv4, E⟩ := mmK_e E
      refine V_iald (n := 149) (j := (l1).toNat) dX4_keep_19 sh_52 hr1 hv4 rfl (fun hv5 => ?_)
      obtain ⟨hv6, E⟩ := mmK_e E
      refine V_iast (n := 149) (j := (l1).toNat) dX4_keep_20 sh_55 hr1 hv5 hv6 rfl ?_
      obtain ⟨hv7, E⟩ := mmK_e E
      refine V_iinc (v := (l1 + 1)) (lv' := [(0, .ref 51), (1, vi (l1 + 1))]) 1 dX4_keep_21 rfl rfl rfl rfl ?_
      refine V_goto 2 dX4_keep_24 (by decide) ?_
      exact ih _ _ hv7 E
def f_X4_keep (m : Mem) : Option (Int × Mem) :=
  f_X4_keep_L2 mmFU 0 m
set_option maxRecDepth 100000 in
set_option maxHeartbeats 4000000 in
theorem ok_X4_keep {r : Int × Mem} : ∀ (m : Mem), f_X4_keep m = some r → VV RX4 cX4_keep 2 rm_X4_keep mmG0 (mmPi r) 0 [(0, .ref 51)] [] m := by
  intro m E
  unfold f_X4_keep at E
  refine V_iconst dX4_keep_0 rfl ?_
  refine V_istore_n (i := 1) (lv' := [(0, .ref 51), (1, vi 0)]) dX4_keep_1 rfl rfl rfl ?_
  exact ok_X4_keep_L2 mmFU _ _ ir_0 E
theorem ct_X4_keep {m : Mem} {r : Int × Mem} (E : f_X4_keep m = some r) : CTi yX4_keep cX4_keep 2 (some .int) rm_X4_keep [.ref 51] m r := CT_i (by decide +kernel) rfl (Nat.le_of_ble_eq_true rfl) (ok_X4_keep  _  E)
theorem hy_X4_keep : yX4_keep.cls = RX4 ∧ yX4_keep.cls ≠ "java/lang/invoke/MethodHandle" ∧ yX4_keep.cls ≠ "java/lang/invoke/VarHandle" ∧ (parseMethodDescriptor yX4_keep.desc).map (fun d => d.parameters.length) = some 0 := by decide +kernel
abbrev rm_X4_restore : Room := { frames := 1, cells := 0, slots := 0, locals := 22 }
def f_X4_restore_L16 : Nat → Int → Mem → Option (Int × Mem)
  | 0, _, _ => none
  | n + 1, l1, m =>
    if 149 ≤ l1 then
((f_X4_acted (m.1 52 0) m).bind (fun q8 => some (q8.1, q8.2)))
else
(mmK (0 ≤ l1 ∧ l1 < 149) (mmK (0 ≤ l1 ∧ l1 < 149) (mmK (inR (l1 + 1)) (f_X4_restore_L16 n (l1 + 1) (mwr m 52 (l1).toNat (m.1 55 (l1).toNat))))))
set_option maxRecDepth 100000 in
set_option maxHeartbeats 4000000 in
theorem ok_X4_restore_L16 {r : Int × Mem} : ∀ (n : Nat), ∀ (l1 : Int) (m : Mem), inR l1 → f_X4_restore_L16 n l1 m = some r → VV RX4 cX4_restore 2 rm_X4_restore mmG0 (mmPi r) 16 [(0, .ref 51), (1, vi l1)] [] m := by
  intro n
  induction n with
  | zero =>
    intro l1 m hr1 E
    cases E
  | succ n ih =>
    intro l1 m hr1 E
    rw [f_X4_restore_L16] at E
    refine V_iload_n 1 dX4_restore_16 rfl ?_
    refine V_sipush (v := 149) dX4_restore_17 (by decide) ?_
    refine V_icmp_ge 41 dX4_restore_20 (by decide) hr1 ir_149 (fun c5 => ?_) (fun c5 => ?_)
    · replace E := mmI_t c5 E
      refine V_aload_n 0 dX4_restore_41 rfl ?_
      refine V_aload_n 0 dX4_restore_42 rfl ?_
      refine V_geta (ci := 4) (k := 0) (N := 12) (T := TX4) (o' := 52) dX4_restore_43 iuX4 fl_X4_7 rfl (by decide) rfl sh_51 rfl ?_
      refine V_iconst dX4_restore_46 rfl ?_
      refine V_iald (n := 149) (j := 0) dX4_restore_47 sh_52 ir_0 (by decide) rfl (fun hv7 => ?_)
      obtain ⟨q8, hq8, E⟩ := mmB_e E
      refine V_callV (ci := 4) (q := (RX4, TX4, 12)) (Cn := RX4) (st := []) 1 dX4_restore_48 (ct_X4_acted hv7 hq8) ml_X4_89 im_X4_acted sl_X4_acted it_X4 cd_X4_acted hy_X4_acted ⟨rfl, rfl, by decide, by decide⟩ sh_51 rfl rfl rfl rfl (Nat.le_of_ble_eq_true rfl) (fun hv9 => ?_)
      obtain rfl := Option.some.inj E
      exact V_reti dX4_restore_51 ⟨rfl, rfl, hv9⟩
    · replace E := mmI_f c5 E
      refine V_aload_n 0 dX4_restore_23 rfl ?_
      refine V_geta (ci := 4) (k := 0) (N := 12) (T := TX4) (o' := 52) dX4_restore_24 iuX4 fl_X4_7 rfl (by decide) rfl sh_51 rfl ?_
      refine V_iload_n 1 dX4_restore_27 rfl ?_
      refine V_aload_n 0 dX4_restore_28 rfl ?_
      refine V_geta (ci := 4) (k := 4) (N := 12) (T := TX4) (o' := 55) dX4_restore_29 iuX4 fl_X4_19 rfl (by decide) rfl sh_51 rfl ?_
      refine V_iload_n 1 dX4_restore_32 rfl ?_
      obtain ⟨hv10, E⟩ := mmK_e E
      refine V_iald (n := 149) (j := (l1).toNat) dX4_restore_33 sh_55 hr1 hv10 rfl (fun hv11 => ?_)
      obtain ⟨hv12, E⟩ := mmK_e E
      refine V_iast (n := 149) (j := (l1).toNat) dX4_restore_34 sh_52 hr1 hv11 hv12 rfl ?_
      obtain ⟨hv13, E⟩ := mmK_e E
      refine V_iinc (v := (l1 + 1)) (lv' := [(0, .ref 51), (1, vi (l1 + 1))]) 1 dX4_restore_35 rfl rfl rfl rfl ?_
      refine V_goto 16 dX4_restore_38 (by decide) ?_
      exact ih _ _ hv13 E
def f_X4_restore (m : Mem) : Option (Int × Mem) :=
  if (m.1 51 5) = 0 then
(some ((-5), m))
else
((f_X4_remember m).bind (fun q3 => f_X4_restore_L16 mmFU 0 q3))
set_option maxRecDepth 100000 in
set_option maxHeartbeats 4000000 in
theorem ok_X4_restore {r : Int × Mem} : ∀ (m : Mem), f_X4_restore m = some r → VV RX4 cX4_restore 2 rm_X4_restore mmG0 (mmPi r) 0 [(0, .ref 51)] [] m := by
  intro m E
  unfold f_X4_restore at E
  refine V_aload_n 0 dX4_restore_0 rfl ?_
  refine V_geti (ci := 4) (k := 5) (N := 12) (T := TX4) dX4_restore_1 iuX4 fl_X4_136 rfl (by decide) rfl sh_51 (fun hv1 => ?_)
  refine V_if_ne 10 dX4_restore_4 (by decide) hv1 (fun c2 => ?_) (fun c2 => ?_)
  · replace E := mmI_f c2 E
    refine V_aload_n 0 dX4_restore_10 rfl ?_
    obtain ⟨q3, hq3, E⟩ := mmB_e E
    refine V_callVv (ci := 4) (q := (RX4, TX4, 12)) (Cn := RX4) (st := []) 0 dX4_restore_11 (ct_X4_remember hq3) ml_X4_82 im_X4_remember sl_X4_remember it_X4 cd_X4_remember hy_X4_remember ⟨rfl, rfl, by decide, by decide⟩ sh_51 rfl rfl rfl rfl (Nat.le_of_ble_eq_true rfl) ?_
    refine V_iconst dX4_restore_14 rfl ?_
    refine V_istore_n (i := 1) (lv' := [(0, .ref 51), (1, vi 0)]) dX4_restore_15 rfl rfl rfl ?_
    exact ok_X4_restore_L16 mmFU _ _ ir_0 E
  · replace E := mmI_t c2 E
    refine V_bipush (v := (-5)) dX4_restore_7 (by decide) ?_
    obtain rfl := Option.some.inj E
    exact V_reti dX4_restore_9 ⟨rfl, rfl, ir_m5⟩
theorem ct_X4_restore {m : Mem} {r : Int × Mem} (E : f_X4_restore m = some r) : CTi yX4_restore cX4_restore 2 (some .int) rm_X4_restore [.ref 51] m r := CT_i (by decide +kernel) rfl (Nat.le_of_ble_eq_true rfl) (ok_X4_restore  _  E)
theorem hy_X4_restore : yX4_restore.cls = RX4 ∧ yX4_restore.cls ≠ "java/lang/invoke/MethodHandle" ∧ yX4_restore.cls ≠ "java/lang/invoke/VarHandle" ∧ (parseMethodDescriptor yX4_restore.desc).map (fun d => d.parameters.length) = some 0 := by decide +kernel
abbrev rm_X4_entry : Room := { frames := 3, cells := 0, slots := 0, locals := 66 }
def f_X4_entry (l1 : Int) (l2 : Int) (m : Mem) : Option (Int × Mem) :=
  (f_X4_rankOf l1 m).bind (fun q1 => if q1.1 = (-5) then
(some ((-1), q1.2))
else
(if l2 = 0 then
(some (q1.1, q1.2))
else (
if l2 = 1 then
(mmK (0 ≤ q1.1 ∧ 0 < (4 : Int)) (mmK (inR (q1.1 / 4)) (some ((q1.1 / 4), q1.2))))
else (
if l2 = 2 then
((f_X4_of q1.1 1 q1.2).bind (fun q9 => some (q9.1, q9.2)))
else (
if l2 = 3 then
(mmK (inR (2 + l2)) (mmK (inR ((2 + l2) - 3)) ((f_X4_of q1.1 ((2 + l2) - 3) q1.2).bind (fun q14 => some (q14.1, q14.2)))))
else (
if l2 = 4 then
(mmK (inR (2 + l2)) (mmK (inR ((2 + l2) - 3)) ((f_X4_of q1.1 ((2 + l2) - 3) q1.2).bind (fun q19 => some (q19.1, q19.2)))))
else (
if l2 = 5 then
(mmK (inR (2 + l2)) (mmK (inR ((2 + l2) - 3)) ((f_X4_of q1.1 ((2 + l2) - 3) q1.2).bind (fun q24 => some (q24.1, q24.2)))))
else (
if l2 = 6 then
((f_X4_of q1.1 2 q1.2).bind (fun q27 => (f_X4_aliasesOf q27.1 q27.2).bind (fun q29 => some (q29.1, q29.2))))
else (
if l2 = 7 then
((f_X4_of q1.1 5 q1.2).bind (fun q32 => some (q32.1, q32.2)))
else (
if l2 = 8 then
((f_X4_isLost q1.1 q1.2).bind (fun q35 => if q35.1 = 0 then
(some (0, q35.2))
else
(some (1, q35.2))))
else (
(some ((-2), q1.2)))))))))))))
set_option maxRecDepth 100000 in
set_option maxHeartbeats 4000000 in
theorem ok_X4_entry {r : Int × Mem} : ∀ (l1 : Int) (l2 : Int) (m : Mem), inR l1 → inR l2 → f_X4_entry l1 l2 m = some r → VV RX4 cX4_entry 4 rm_X4_entry mmG0 (mmPi r) 0 [(0, .ref 51), (1, vi l1), (2, vi l2)] [] m := by
  intro l1 l2 m hr1 hr2 E
  unfold f_X4_entry at E
  refine V_aload_n 0 dX4_entry_0 rfl ?_
  refine V_iload_n 1 dX4_entry_1 rfl ?_
  obtain ⟨q1, hq1, E⟩ := mmB_e E
  refine V_callV (ci := 4) (q := (RX4, TX4, 12)) (Cn := RX4) (st := []) 1 dX4_entry_2 (ct_X4_rankOf hr1 hq1) ml_X4_50 im_X4_rankOf sl_X4_rankOf it_X4 cd_X4_rankOf hy_X4_rankOf ⟨rfl, rfl, by decide, by decide⟩ sh_51 rfl rfl rfl rfl (Nat.le_of_ble_eq_true rfl) (fun hv2 => ?_)
  refine V_istore_n (i := 3) (lv' := [(0, .ref 51), (1, vi l1), (2, vi l2), (3, vi q1.1)]) dX4_entry_5 rfl rfl rfl ?_
  refine V_iload_n 3 dX4_entry_6 rfl ?_
  refine V_bipush (v := (-5)) dX4_entry_7 (by decide) ?_
  refine V_icmp_ne 14 dX4_entry_9 (by decide) hv2 ir_m5 (fun c3 => ?_) (fun c3 => ?_)
  · replace E := mmI_f c3 E
    refine V_iload_n 2 dX4_entry_14 rfl ?_
    by_cases c4 : l2 = 0
    · replace E := mmI_t c4 E
      refine V_tableIn 0 64 dX4_entry_15 c4 (by decide) (by decide) rfl (by decide) ?_
      refine V_iload_n 3 dX4_entry_64 rfl ?_
      obtain rfl := Option.some.inj E
      exact V_reti dX4_entry_65 ⟨rfl, rfl, hv2⟩
    replace E := mmI_f c4 E
    by_cases c5 : l2 = 1
    · replace E := mmI_t c5 E
      refine V_tableIn 1 66 dX4_entry_15 c5 (by decide) (by decide) rfl (by decide) ?_
      refine V_iload_n 3 dX4_entry_66 rfl ?_
      refine V_iconst dX4_entry_67 rfl ?_
      obtain ⟨hv6, E⟩ := mmK_e E
      obtain ⟨hv7, E⟩ := mmK_e E
      refine V_idiv dX4_entry_68 hv2 ir_4 hv6 ?_
      obtain rfl := Option.some.inj E
      exact V_reti dX4_entry_69 ⟨rfl, rfl, hv7⟩
    replace E := mmI_f c5 E
    by_cases c8 : l2 = 2
    · replace E := mmI_t c8 E
      refine V_tableIn 2 70 dX4_entry_15 c8 (by decide) (by decide) rfl (by decide) ?_
      refine V_aload_n 0 dX4_entry_70 rfl ?_
      refine V_iload_n 3 dX4_entry_71 rfl ?_
      refine V_iconst dX4_entry_72 rfl ?_
      obtain ⟨q9, hq9, E⟩ := mmB_e E
      refine V_callV (ci := 4) (q := (RX4, TX4, 12)) (Cn := RX4) (st := []) 2 dX4_entry_73 (ct_X4_of hv2 ir_1 hq9) ml_X4_38 im_X4_of sl_X4_of it_X4 cd_X4_of hy_X4_of ⟨rfl, rfl, by decide, by decide⟩ sh_51 rfl rfl rfl rfl (Nat.le_of_ble_eq_true rfl) (fun hv10 => ?_)
      obtain rfl := Option.some.inj E
      exact V_reti dX4_entry_76 ⟨rfl, rfl, hv10⟩
    replace E := mmI_f c8 E
    by_cases c11 : l2 = 3
    · replace E := mmI_t c11 E
      refine V_tableIn 3 77 dX4_entry_15 c11 (by decide) (by decide) rfl (by decide) ?_
      refine V_aload_n 0 dX4_entry_77 rfl ?_
      refine V_iload_n 3 dX4_entry_78 rfl ?_
      refine V_iconst dX4_entry_79 rfl ?_
      refine V_iload_n 2 dX4_entry_80 rfl ?_
      obtain ⟨hv12, E⟩ := mmK_e E
      refine V_iadd dX4_entry_81 ?_
      refine V_iconst dX4_entry_82 rfl ?_
      obtain ⟨hv13, E⟩ := mmK_e E
      refine V_isub dX4_entry_83 ?_
      obtain ⟨q14, hq14, E⟩ := mmB_e E
      refine V_callV (ci := 4) (q := (RX4, TX4, 12)) (Cn := RX4) (st := []) 2 dX4_entry_84 (ct_X4_of hv2 hv13 hq14) ml_X4_38 im_X4_of sl_X4_of it_X4 cd_X4_of hy_X4_of ⟨rfl, rfl, by decide, by decide⟩ sh_51 rfl rfl rfl rfl (Nat.le_of_ble_eq_true rfl) (fun hv15 => ?_)
      obtain rfl := Option.some.inj E
      exact V_reti dX4_entry_87 ⟨rfl, rfl, hv15⟩
    replace E := mmI_f c11 E
    by_cases c16 : l2 = 4
    · replace E := mmI_t c16 E
      refine V_tableIn 4 77 dX4_entry_15 c16 (by decide) (by decide) rfl (by decide) ?_
      refine V_aload_n 0 dX4_entry_77 rfl ?_
      refine V_iload_n 3 dX4_entry_78 rfl ?_
      refine V_iconst dX4_entry_79 rfl ?_
      refine V_iload_n 2 dX4_entry_80 rfl ?_
      obtain ⟨hv17, E⟩ := mmK_e E
      refine V_iadd dX4_entry_81 ?_
      refine V_iconst dX4_entry_82 rfl ?_
      obtain ⟨hv18, E⟩ := mmK_e E
      refine V_isub dX4_entry_83 ?_
      obtain ⟨q19, hq19, E⟩ := mmB_e E
      refine V_callV (ci := 4) (q := (RX4, TX4, 12)) (Cn := RX4) (st := []) 2 dX4_entry_84 (ct_X4_of hv2 hv18 hq19) ml_X4_38 im_X4_of sl_X4_of it_X4 cd_X4_of hy_X4_of ⟨rfl, rfl, by decide, by decide⟩ sh_51 rfl rfl rfl rfl (Nat.le_of_ble_eq_true rfl) (fun hv20 => ?_)
      obtain rfl := Option.some.inj E
      exact V_reti dX4_entry_87 ⟨rfl, rfl, hv20⟩
    replace E := mmI_f c16 E
    by_cases c21 : l2 = 5
    · replace E := mmI_t c21 E
      refine V_tableIn 5 77 dX4_entry_15 c21 (by decide) (by decide) rfl (by decide) ?_
      refine V_aload_n 0 dX4_entry_77 rfl ?_
      refine V_iload_n 3 dX4_entry_78 rfl ?_
      refine V_iconst dX4_entry_79 rfl ?_
      refine V_iload_n 2 dX4_entry_80 rfl ?_
      obtain ⟨hv22, E⟩ := mmK_e E
      refine V_iadd dX4_entry_81 ?_
      refine V_iconst dX4_entry_82 rfl ?_
      obtain ⟨hv23, E⟩ := mmK_e E
      refine V_isub dX4_entry_83 ?_
      obtain ⟨q24, hq24, E⟩ := mmB_e E
      refine V_callV (ci := 4) (q := (RX4, TX4, 12)) (Cn := RX4) (st := []) 2 dX4_entry_84 (ct_X4_of hv2 hv23 hq24) ml_X4_38 im_X4_of sl_X4_of it_X4 cd_X4_of hy_X4_of ⟨rfl, rfl, by decide, by decide⟩ sh_51 rfl rfl rfl rfl (Nat.le_of_ble_eq_true rfl) (fun hv25 => ?_)
      obtain rfl := Option.some.inj E
      exact V_reti dX4_entry_87 ⟨rfl, rfl, hv25⟩
    replace E := mmI_f c21 E
    by_cases c26 : l2 = 6
    · replace E := mmI_t c26 E
      refine V_tableIn 6 88 dX4_entry_15 c26 (by decide) (by decide) rfl (by decide) ?_
      refine V_aload_n 0 dX4_entry_88 rfl ?_
      refine V_aload_n 0 dX4_entry_89 rfl ?_
      refine V_iload_n 3 dX4_entry_90 rfl ?_
      refine V_iconst dX4_entry_91 rfl ?_
      obtain ⟨q27, hq27, E⟩ := mmB_e E
      refine V_callV (ci := 4) (q := (RX4, TX4, 12)) (Cn := RX4) (st := [.ref 51]) 2 dX4_entry_92 (ct_X4_of hv2 ir_2 hq27) ml_X4_38 im_X4_of sl_X4_of it_X4 cd_X4_of hy_X4_of ⟨rfl, rfl, by decide, by decide⟩ sh_51 rfl rfl rfl rfl (Nat.le_of_ble_eq_true rfl) (fun hv28 => ?_)
      obtain ⟨q29, hq29, E⟩ := mmB_e E
      refine V_callV (ci := 4) (q := (RX4, TX4, 12)) (Cn := RX4) (st := []) 1 dX4_entry_95 (ct_X4_aliasesOf hv28 hq29) ml_X4_139 im_X4_aliasesOf sl_X4_aliasesOf it_X4 cd_X4_aliasesOf hy_X4_aliasesOf ⟨rfl, rfl, by decide, by decide⟩ sh_51 rfl rfl rfl rfl (Nat.le_of_ble_eq_true rfl) (fun hv30 => ?_)
      obtain rfl := Option.some.inj E
      exact V_reti dX4_entry_98 ⟨rfl, rfl, hv30⟩
    replace E := mmI_f c26 E
    by_cases c31 : l2 = 7
    · replace E := mmI_t c31 E
      refine V_tableIn 7 99 dX4_entry_15 c31 (by decide) (by decide) rfl (by decide) ?_
      refine V_aload_n 0 dX4_entry_99 rfl ?_
      refine V_iload_n 3 dX4_entry_100 rfl ?_
      refine V_iconst dX4_entry_101 rfl ?_
      obtain ⟨q32, hq32, E⟩ := mmB_e E
      refine V_callV (ci := 4) (q := (RX4, TX4, 12)) (Cn := RX4) (st := []) 2 dX4_entry_102 (ct_X4_of hv2 ir_5 hq32) ml_X4_38 im_X4_of sl_X4_of it_X4 cd_X4_of hy_X4_of ⟨rfl, rfl, by decide, by decide⟩ sh_51 rfl rfl rfl rfl (Nat.le_of_ble_eq_true rfl) (fun hv33 => ?_)
      obtain rfl := Option.some.inj E
      exact V_reti dX4_entry_105 ⟨rfl, rfl, hv33⟩
    replace E := mmI_f c31 E
    by_cases c34 : l2 = 8
    · replace E := mmI_t c34 E
      refine V_tableIn 8 106 dX4_entry_15 c34 (by decide) (by decide) rfl (by decide) ?_
      refine V_aload_n 0 dX4_entry_106 rfl ?_
      refine V_iload_n 3 dX4_entry_107 rfl ?_
      obtain ⟨q35, hq35, E⟩ := mmB_e E
      refine V_callV (ci := 4) (q := (RX4, TX4, 12)) (Cn := RX4) (st := []) 1 dX4_entry_108 (ct_X4_isLost hv2 hq35) ml_X4_142 im_X4_isLost sl_X4_isLost it_X4 cd_X4_isLost hy_X4_isLost ⟨rfl, rfl, by decide, by decide⟩ sh_51 rfl rfl rfl rfl (Nat.le_of_ble_eq_true rfl) (fun hv36 => ?_)
      refine V_if_eq 118 dX4_entry_111 (by decide) hv36 (fun c37 => ?_) (fun c37 => ?_)
      · replace E := mmI_t c37 E
        refine V_iconst dX4_entry_118 rfl ?_
        obtain rfl := Option.some.inj E
        exact V_reti dX4_entry_119 ⟨rfl, rfl, ir_0⟩
      · replace E := mmI_f c37 E
        refine V_iconst dX4_entry_114 rfl ?_
        refine V_goto 119 dX4_entry_115 (by decide) ?_
        obtain rfl := Option.some.inj E
        exact V_reti dX4_entry_119 ⟨rfl, rfl, ir_1⟩
    replace E := mmI_f c34 E
    refine V_tableOut 120 dX4_entry_15 hr2 (by omega) (by decide) ?_
    refine V_bipush (v := (-2)) dX4_entry_120 (by decide) ?_
    obtain rfl := Option.some.inj E
    exact V_reti dX4_entry_122 ⟨rfl, rfl, ir_m2⟩
  · replace E := mmI_t c3 E
    refine V_iconst dX4_entry_12 rfl ?_
    obtain rfl := Option.some.inj E
    exact V_reti dX4_entry_13 ⟨rfl, rfl, ir_m1⟩
theorem ct_X4_entry {l1 : Int} {l2 : Int} {m : Mem} {r : Int × Mem} (hr1 : inR l1) (hr2 : inR l2) (E : f_X4_entry l1 l2 m = some r) : CTi yX4_entry cX4_entry 4 (some .int) rm_X4_entry [.ref 51, vi l1, vi l2] m r := CT_i (by decide +kernel) rfl (Nat.le_of_ble_eq_true rfl) (ok_X4_entry _ _ _ hr1 hr2 E)
theorem hy_X4_entry : yX4_entry.cls = RX4 ∧ yX4_entry.cls ≠ "java/lang/invoke/MethodHandle" ∧ yX4_entry.cls ≠ "java/lang/invoke/VarHandle" ∧ (parseMethodDescriptor yX4_entry.desc).map (fun d => d.parameters.length) = some 2 := by decide +kernel
