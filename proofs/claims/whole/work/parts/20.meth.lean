abbrev rm_X4_lostOnes : Room := { frames := 3, cells := 0, slots := 0, locals := 66 }
noncomputable def f_X4_lostOnes_L4 : Nat → Int → Int → Mem → Option (Int × Mem)
  | 0, _, _, _ => none
  | n + 1, l1, l2, m =>
    if (m.1 52 0) ≤ l2 then
(some (l1, m))
else
((f_X4_isLost l2 m).bind (fun q4 => if q4.1 = 0 then
(mmK (inR (l1 + 0)) (mmK (inR (l2 + 1)) (f_X4_lostOnes_L4 n (l1 + 0) (l2 + 1) q4.2)))
else
(mmK (inR (l1 + 1)) (mmK (inR (l2 + 1)) (f_X4_lostOnes_L4 n (l1 + 1) (l2 + 1) q4.2)))))
set_option maxRecDepth 100000 in
set_option maxHeartbeats 4000000 in
theorem ok_X4_lostOnes_L4 {r : Int × Mem} : ∀ (n : Nat), ∀ (l1 : Int) (l2 : Int) (m : Mem), inR l1 → inR l2 → f_X4_lostOnes_L4 n l1 l2 m = some r → VV RX4 cX4_lostOnes 3 rm_X4_lostOnes mmG0 (mmPi r) 4 [(0, .ref 51), (1, vi l1), (2, vi l2)] [] m := by
  intro n
  induction n with
  | zero =>
    intro l1 l2 m hr1 hr2 E
    cases E
  | succ n ih =>
    intro l1 l2 m hr1 hr2 E
    rw [f_X4_lostOnes_L4] at E
    refine V_iload_n 2 dX4_lostOnes_4 rfl ?_
    refine V_aload_n 0 dX4_lostOnes_5 rfl ?_
    refine V_geta (ci := 4) (k := 0) (N := 12) (T := TX4) (o' := 52) dX4_lostOnes_6 iuX4 fl_X4_7 rfl (by decide) rfl sh_51 rfl ?_
    refine V_iconst dX4_lostOnes_9 rfl ?_
    refine V_iald (n := 149) (j := 0) (v := (m.1 52 0)) dX4_lostOnes_10 sh_52 ir_0 (by decide) rfl rfl (fun hv2 => ?_)
    refine V_icmp_ge 36 dX4_lostOnes_11 (by decide) hr2 hv2 (fun c3 => ?_) (fun c3 => ?_)
    · replace E := mmI_t c3 E
      refine V_iload_n 1 dX4_lostOnes_36 rfl ?_
      obtain rfl := Option.some.inj E
      exact V_reti dX4_lostOnes_37 ⟨rfl, rfl, hr1⟩
    · replace E := mmI_f c3 E
      refine V_iload_n 1 dX4_lostOnes_14 rfl ?_
      refine V_aload_n 0 dX4_lostOnes_15 rfl ?_
      refine V_iload_n 2 dX4_lostOnes_16 rfl ?_
      obtain ⟨q4, hq4, E⟩ := mmB_e E
      refine V_callV (ci := 4) (q := (RX4, TX4, 12)) (Cn := RX4) (st := [vi l1]) 1 dX4_lostOnes_17 (ct_X4_isLost hr2 hq4) ml_X4_142 im_X4_isLost sl_X4_isLost it_X4 cd_X4_isLost hy_X4_isLost ⟨rfl, rfl, by decide, by decide⟩ sh_51 rfl rfl rfl rfl (Nat.le_of_ble_eq_true rfl) (fun hv5 => ?_)
      refine V_if_eq 27 dX4_lostOnes_20 (by decide) hv5 (fun c6 => ?_) (fun c6 => ?_)
      · replace E := mmI_t c6 E
        refine V_iconst dX4_lostOnes_27 rfl ?_
        obtain ⟨hv7, E⟩ := mmK_e E
        refine V_iadd dX4_lostOnes_28 ?_
        refine V_istore_n (i := 1) (lv' := [(0, .ref 51), (1, vi (l1 + 0)), (2, vi l2)]) dX4_lostOnes_29 rfl rfl rfl ?_
        obtain ⟨hv8, E⟩ := mmK_e E
        refine V_iinc (v := (l2 + 1)) (lv' := [(0, .ref 51), (1, vi (l1 + 0)), (2, vi (l2 + 1))]) 2 dX4_lostOnes_30 rfl rfl rfl rfl ?_
        refine V_goto 4 dX4_lostOnes_33 (by decide) ?_
        exact ih _ _ _ hv7 hv8 E
      · replace E := mmI_f c6 E
        refine V_iconst dX4_lostOnes_23 rfl ?_
        refine V_goto 28 dX4_lostOnes_24 (by decide) ?_
        obtain ⟨hv9, E⟩ := mmK_e E
        refine V_iadd dX4_lostOnes_28 ?_
        refine V_istore_n (i := 1) (lv' := [(0, .ref 51), (1, vi (l1 + 1)), (2, vi l2)]) dX4_lostOnes_29 rfl rfl rfl ?_
        obtain ⟨hv10, E⟩ := mmK_e E
        refine V_iinc (v := (l2 + 1)) (lv' := [(0, .ref 51), (1, vi (l1 + 1)), (2, vi (l2 + 1))]) 2 dX4_lostOnes_30 rfl rfl rfl rfl ?_
        refine V_goto 4 dX4_lostOnes_33 (by decide) ?_
        exact ih _ _ _ hv9 hv10 E
noncomputable def f_X4_lostOnes (m : Mem) : Option (Int × Mem) :=
  f_X4_lostOnes_L4 mmFU 0 0 m
set_option maxRecDepth 100000 in
set_option maxHeartbeats 4000000 in
theorem ok_X4_lostOnes {r : Int × Mem} : ∀ (m : Mem), f_X4_lostOnes m = some r → VV RX4 cX4_lostOnes 3 rm_X4_lostOnes mmG0 (mmPi r) 0 [(0, .ref 51)] [] m := by
  intro m E
  unfold f_X4_lostOnes at E
  refine V_iconst dX4_lostOnes_0 rfl ?_
  refine V_istore_n (i := 1) (lv' := [(0, .ref 51), (1, vi 0)]) dX4_lostOnes_1 rfl rfl rfl ?_
  refine V_iconst dX4_lostOnes_2 rfl ?_
  refine V_istore_n (i := 2) (lv' := [(0, .ref 51), (1, vi 0), (2, vi 0)]) dX4_lostOnes_3 rfl rfl rfl ?_
  exact ok_X4_lostOnes_L4 mmFU _ _ _ ir_0 ir_0 E
theorem ct_X4_lostOnes {m : Mem} {r : Int × Mem} (E : f_X4_lostOnes m = some r) : CTi yX4_lostOnes cX4_lostOnes 3 (some .int) rm_X4_lostOnes [.ref 51] m r := CT_i (by decide +kernel) rfl (Nat.le_of_ble_eq_true rfl) (ok_X4_lostOnes  _  E)
theorem hy_X4_lostOnes : yX4_lostOnes.cls = RX4 ∧ yX4_lostOnes.cls ≠ "java/lang/invoke/MethodHandle" ∧ yX4_lostOnes.cls ≠ "java/lang/invoke/VarHandle" ∧ (parseMethodDescriptor yX4_lostOnes.desc).map (fun d => d.parameters.length) = some 0 := by decide +kernel
abbrev rm_X4_count : Room := { frames := 4, cells := 0, slots := 0, locals := 88 }
noncomputable def f_X4_count (l1 : Int) (m : Mem) : Option (Int × Mem) :=
  if l1 = 0 then
(some ((m.1 52 0), m))
else (
if l1 = 1 then
((f_X4_members m).bind (fun q5 => some (q5.1, q5.2)))
else (
if l1 = 2 then
((f_X4_members m).bind (fun q10 => mmK (inR ((m.1 52 0) - q10.1)) (some (((m.1 52 0) - q10.1), q10.2))))
else (
if l1 = 3 then
((f_X4_lostOnes m).bind (fun q14 => some (q14.1, q14.2)))
else (
if l1 = 4 then
(some ((m.1 52 1), m))
else (
if l1 = 5 then
(mmK (inR (4 * (m.1 52 1))) (mmK (inR ((4 * (m.1 52 1)) - (m.1 52 0))) (some (((4 * (m.1 52 1)) - (m.1 52 0)), m))))
else (
if l1 = 6 then
(some ((m.1 52 2), m))
else (
if l1 = 7 then
((f_X4_living 1 m).bind (fun q30 => some (q30.1, q30.2)))
else (
if l1 = 8 then
((f_X4_living 1 m).bind (fun q35 => mmK (inR ((m.1 52 2) - q35.1)) (some (((m.1 52 2) - q35.1), q35.2))))
else (
if l1 = 9 then
(mmK (inR (100 - (m.1 52 2))) (some ((100 - (m.1 52 2)), m)))
else (
if l1 = 10 then
((f_X4_living 0 m).bind (fun q43 => some (q43.1, q43.2)))
else (
if l1 = 11 then
(some ((m.1 52 3), m))
else (
if l1 = 12 then
(some ((m.1 52 4), m))
else (
if l1 = 13 then
(some ((m.1 51 3), m))
else (
if l1 = 14 then
(some ((m.1 51 8), m))
else (
(some ((-2), m)))))))))))))))))
set_option maxRecDepth 100000 in
set_option maxHeartbeats 4000000 in
theorem ok_X4_count {r : Int × Mem} : ∀ (l1 : Int) (m : Mem), inR l1 → f_X4_count l1 m = some r → VV RX4 cX4_count 2 rm_X4_count mmG0 (mmPi r) 0 [(0, .ref 51), (1, vi l1)] [] m := by
  intro l1 m hr1 E
  unfold f_X4_count at E
  refine V_iload_n 1 dX4_count_0 rfl ?_
  by_cases c1 : l1 = 0
  · replace E := mmI_t c1 E
    refine V_tableIn 0 76 dX4_count_1 c1 (by decide) (by decide) rfl (by decide) ?_
    refine V_aload_n 0 dX4_count_76 rfl ?_
    refine V_geta (ci := 4) (k := 0) (N := 12) (T := TX4) (o' := 52) dX4_count_77 iuX4 fl_X4_7 rfl (by decide) rfl sh_51 rfl ?_
    refine V_iconst dX4_count_80 rfl ?_
    refine V_iald (n := 149) (j := 0) (v := (m.1 52 0)) dX4_count_81 sh_52 ir_0 (by decide) rfl rfl (fun hv3 => ?_)
    obtain rfl := Option.some.inj E
    exact V_reti dX4_count_82 ⟨rfl, rfl, hv3⟩
  replace E := mmI_f c1 E
  by_cases c4 : l1 = 1
  · replace E := mmI_t c4 E
    refine V_tableIn 1 83 dX4_count_1 c4 (by decide) (by decide) rfl (by decide) ?_
    refine V_aload_n 0 dX4_count_83 rfl ?_
    obtain ⟨q5, hq5, E⟩ := mmB_e E
    refine V_callV (ci := 4) (q := (RX4, TX4, 12)) (Cn := RX4) (st := []) 0 dX4_count_84 (ct_X4_members hq5) ml_X4_151 im_X4_members sl_X4_members it_X4 cd_X4_members hy_X4_members ⟨rfl, rfl, by decide, by decide⟩ sh_51 rfl rfl rfl rfl (Nat.le_of_ble_eq_true rfl) (fun hv6 => ?_)
    obtain rfl := Option.some.inj E
    exact V_reti dX4_count_87 ⟨rfl, rfl, hv6⟩
  replace E := mmI_f c4 E
  by_cases c7 : l1 = 2
  · replace E := mmI_t c7 E
    refine V_tableIn 2 88 dX4_count_1 c7 (by decide) (by decide) rfl (by decide) ?_
    refine V_aload_n 0 dX4_count_88 rfl ?_
    refine V_geta (ci := 4) (k := 0) (N := 12) (T := TX4) (o' := 52) dX4_count_89 iuX4 fl_X4_7 rfl (by decide) rfl sh_51 rfl ?_
    refine V_iconst dX4_count_92 rfl ?_
    refine V_iald (n := 149) (j := 0) (v := (m.1 52 0)) dX4_count_93 sh_52 ir_0 (by decide) rfl rfl (fun hv9 => ?_)
    refine V_aload_n 0 dX4_count_94 rfl ?_
    obtain ⟨q10, hq10, E⟩ := mmB_e E
    refine V_callV (ci := 4) (q := (RX4, TX4, 12)) (Cn := RX4) (st := [vi (m.1 52 0)]) 0 dX4_count_95 (ct_X4_members hq10) ml_X4_151 im_X4_members sl_X4_members it_X4 cd_X4_members hy_X4_members ⟨rfl, rfl, by decide, by decide⟩ sh_51 rfl rfl rfl rfl (Nat.le_of_ble_eq_true rfl) (fun hv11 => ?_)
    obtain ⟨hv12, E⟩ := mmK_e E
    refine V_isub dX4_count_98 ?_
    obtain rfl := Option.some.inj E
    exact V_reti dX4_count_99 ⟨rfl, rfl, hv12⟩
  replace E := mmI_f c7 E
  by_cases c13 : l1 = 3
  · replace E := mmI_t c13 E
    refine V_tableIn 3 100 dX4_count_1 c13 (by decide) (by decide) rfl (by decide) ?_
    refine V_aload_n 0 dX4_count_100 rfl ?_
    obtain ⟨q14, hq14, E⟩ := mmB_e E
    refine V_callV (ci := 4) (q := (RX4, TX4, 12)) (Cn := RX4) (st := []) 0 dX4_count_101 (ct_X4_lostOnes hq14) ml_X4_154 im_X4_lostOnes sl_X4_lostOnes it_X4 cd_X4_lostOnes hy_X4_lostOnes ⟨rfl, rfl, by decide, by decide⟩ sh_51 rfl rfl rfl rfl (Nat.le_of_ble_eq_true rfl) (fun hv15 => ?_)
    obtain rfl := Option.some.inj E
    exact V_reti dX4_count_104 ⟨rfl, rfl, hv15⟩
  replace E := mmI_f c13 E
  by_cases c16 : l1 = 4
  · replace E := mmI_t c16 E
    refine V_tableIn 4 105 dX4_count_1 c16 (by decide) (by decide) rfl (by decide) ?_
    refine V_aload_n 0 dX4_count_105 rfl ?_
    refine V_geta (ci := 4) (k := 0) (N := 12) (T := TX4) (o' := 52) dX4_count_106 iuX4 fl_X4_7 rfl (by decide) rfl sh_51 rfl ?_
    refine V_iconst dX4_count_109 rfl ?_
    refine V_iald (n := 149) (j := 1) (v := (m.1 52 1)) dX4_count_110 sh_52 ir_1 (by decide) rfl rfl (fun hv18 => ?_)
    obtain rfl := Option.some.inj E
    exact V_reti dX4_count_111 ⟨rfl, rfl, hv18⟩
  replace E := mmI_f c16 E
  by_cases c19 : l1 = 5
  · replace E := mmI_t c19 E
    refine V_tableIn 5 112 dX4_count_1 c19 (by decide) (by decide) rfl (by decide) ?_
    refine V_iconst dX4_count_112 rfl ?_
    refine V_aload_n 0 dX4_count_113 rfl ?_
    refine V_geta (ci := 4) (k := 0) (N := 12) (T := TX4) (o' := 52) dX4_count_114 iuX4 fl_X4_7 rfl (by decide) rfl sh_51 rfl ?_
    refine V_iconst dX4_count_117 rfl ?_
    refine V_iald (n := 149) (j := 1) (v := (m.1 52 1)) dX4_count_118 sh_52 ir_1 (by decide) rfl rfl (fun hv21 => ?_)
    obtain ⟨hv22, E⟩ := mmK_e E
    refine V_imul dX4_count_119 ?_
    refine V_aload_n 0 dX4_count_120 rfl ?_
    refine V_geta (ci := 4) (k := 0) (N := 12) (T := TX4) (o' := 52) dX4_count_121 iuX4 fl_X4_7 rfl (by decide) rfl sh_51 rfl ?_
    refine V_iconst dX4_count_124 rfl ?_
    refine V_iald (n := 149) (j := 0) (v := (m.1 52 0)) dX4_count_125 sh_52 ir_0 (by decide) rfl rfl (fun hv24 => ?_)
    obtain ⟨hv25, E⟩ := mmK_e E
    refine V_isub dX4_count_126 ?_
    obtain rfl := Option.some.inj E
    exact V_reti dX4_count_127 ⟨rfl, rfl, hv25⟩
  replace E := mmI_f c19 E
  by_cases c26 : l1 = 6
  · replace E := mmI_t c26 E
    refine V_tableIn 6 128 dX4_count_1 c26 (by decide) (by decide) rfl (by decide) ?_
    refine V_aload_n 0 dX4_count_128 rfl ?_
    refine V_geta (ci := 4) (k := 0) (N := 12) (T := TX4) (o' := 52) dX4_count_129 iuX4 fl_X4_7 rfl (by decide) rfl sh_51 rfl ?_
    refine V_iconst dX4_count_132 rfl ?_
    refine V_iald (n := 149) (j := 2) (v := (m.1 52 2)) dX4_count_133 sh_52 ir_2 (by decide) rfl rfl (fun hv28 => ?_)
    obtain rfl := Option.some.inj E
    exact V_reti dX4_count_134 ⟨rfl, rfl, hv28⟩
  replace E := mmI_f c26 E
  by_cases c29 : l1 = 7
  · replace E := mmI_t c29 E
    refine V_tableIn 7 135 dX4_count_1 c29 (by decide) (by decide) rfl (by decide) ?_
    refine V_aload_n 0 dX4_count_135 rfl ?_
    refine V_iconst dX4_count_136 rfl ?_
    obtain ⟨q30, hq30, E⟩ := mmB_e E
    refine V_callV (ci := 4) (q := (RX4, TX4, 12)) (Cn := RX4) (st := []) 1 dX4_count_137 (ct_X4_living ir_1 hq30) ml_X4_127 im_X4_living sl_X4_living it_X4 cd_X4_living hy_X4_living ⟨rfl, rfl, by decide, by decide⟩ sh_51 rfl rfl rfl rfl (Nat.le_of_ble_eq_true rfl) (fun hv31 => ?_)
    obtain rfl := Option.some.inj E
    exact V_reti dX4_count_140 ⟨rfl, rfl, hv31⟩
  replace E := mmI_f c29 E
  by_cases c32 : l1 = 8
  · replace E := mmI_t c32 E
    refine V_tableIn 8 141 dX4_count_1 c32 (by decide) (by decide) rfl (by decide) ?_
    refine V_aload_n 0 dX4_count_141 rfl ?_
    refine V_geta (ci := 4) (k := 0) (N := 12) (T := TX4) (o' := 52) dX4_count_142 iuX4 fl_X4_7 rfl (by decide) rfl sh_51 rfl ?_
    refine V_iconst dX4_count_145 rfl ?_
    refine V_iald (n := 149) (j := 2) (v := (m.1 52 2)) dX4_count_146 sh_52 ir_2 (by decide) rfl rfl (fun hv34 => ?_)
    refine V_aload_n 0 dX4_count_147 rfl ?_
    refine V_iconst dX4_count_148 rfl ?_
    obtain ⟨q35, hq35, E⟩ := mmB_e E
    refine V_callV (ci := 4) (q := (RX4, TX4, 12)) (Cn := RX4) (st := [vi (m.1 52 2)]) 1 dX4_count_149 (ct_X4_living ir_1 hq35) ml_X4_127 im_X4_living sl_X4_living it_X4 cd_X4_living hy_X4_living ⟨rfl, rfl, by decide, by decide⟩ sh_51 rfl rfl rfl rfl (Nat.le_of_ble_eq_true rfl) (fun hv36 => ?_)
    obtain ⟨hv37, E⟩ := mmK_e E
    refine V_isub dX4_count_152 ?_
    obtain rfl := Option.some.inj E
    exact V_reti dX4_count_153 ⟨rfl, rfl, hv37⟩
  replace E := mmI_f c32 E
  by_cases c38 : l1 = 9
  · replace E := mmI_t c38 E
    refine V_tableIn 9 154 dX4_count_1 c38 (by decide) (by decide) rfl (by decide) ?_
    refine V_bipush (v := 100) dX4_count_154 (by decide) ?_
    refine V_aload_n 0 dX4_count_156 rfl ?_
    refine V_geta (ci := 4) (k := 0) (N := 12) (T := TX4) (o' := 52) dX4_count_157 iuX4 fl_X4_7 rfl (by decide) rfl sh_51 rfl ?_
    refine V_iconst dX4_count_160 rfl ?_
    refine V_iald (n := 149) (j := 2) (v := (m.1 52 2)) dX4_count_161 sh_52 ir_2 (by decide) rfl rfl (fun hv40 => ?_)
    obtain ⟨hv41, E⟩ := mmK_e E
    refine V_isub dX4_count_162 ?_
    obtain rfl := Option.some.inj E
    exact V_reti dX4_count_163 ⟨rfl, rfl, hv41⟩
  replace E := mmI_f c38 E
  by_cases c42 : l1 = 10
  · replace E := mmI_t c42 E
    refine V_tableIn 10 164 dX4_count_1 c42 (by decide) (by decide) rfl (by decide) ?_
    refine V_aload_n 0 dX4_count_164 rfl ?_
    refine V_iconst dX4_count_165 rfl ?_
    obtain ⟨q43, hq43, E⟩ := mmB_e E
    refine V_callV (ci := 4) (q := (RX4, TX4, 12)) (Cn := RX4) (st := []) 1 dX4_count_166 (ct_X4_living ir_0 hq43) ml_X4_127 im_X4_living sl_X4_living it_X4 cd_X4_living hy_X4_living ⟨rfl, rfl, by decide, by decide⟩ sh_51 rfl rfl rfl rfl (Nat.le_of_ble_eq_true rfl) (fun hv44 => ?_)
    obtain rfl := Option.some.inj E
    exact V_reti dX4_count_169 ⟨rfl, rfl, hv44⟩
  replace E := mmI_f c42 E
  by_cases c45 : l1 = 11
  · replace E := mmI_t c45 E
    refine V_tableIn 11 170 dX4_count_1 c45 (by decide) (by decide) rfl (by decide) ?_
    refine V_aload_n 0 dX4_count_170 rfl ?_
    refine V_geta (ci := 4) (k := 0) (N := 12) (T := TX4) (o' := 52) dX4_count_171 iuX4 fl_X4_7 rfl (by decide) rfl sh_51 rfl ?_
    refine V_iconst dX4_count_174 rfl ?_
    refine V_iald (n := 149) (j := 3) (v := (m.1 52 3)) dX4_count_175 sh_52 ir_3 (by decide) rfl rfl (fun hv47 => ?_)
    obtain rfl := Option.some.inj E
    exact V_reti dX4_count_176 ⟨rfl, rfl, hv47⟩
  replace E := mmI_f c45 E
  by_cases c48 : l1 = 12
  · replace E := mmI_t c48 E
    refine V_tableIn 12 177 dX4_count_1 c48 (by decide) (by decide) rfl (by decide) ?_
    refine V_aload_n 0 dX4_count_177 rfl ?_
    refine V_geta (ci := 4) (k := 0) (N := 12) (T := TX4) (o' := 52) dX4_count_178 iuX4 fl_X4_7 rfl (by decide) rfl sh_51 rfl ?_
    refine V_iconst dX4_count_181 rfl ?_
    refine V_iald (n := 149) (j := 4) (v := (m.1 52 4)) dX4_count_182 sh_52 ir_4 (by decide) rfl rfl (fun hv50 => ?_)
    obtain rfl := Option.some.inj E
    exact V_reti dX4_count_183 ⟨rfl, rfl, hv50⟩
  replace E := mmI_f c48 E
  by_cases c51 : l1 = 13
  · replace E := mmI_t c51 E
    refine V_tableIn 13 184 dX4_count_1 c51 (by decide) (by decide) rfl (by decide) ?_
    refine V_aload_n 0 dX4_count_184 rfl ?_
    refine V_geti (ci := 4) (k := 3) (N := 12) (T := TX4) (v := (m.1 51 3)) dX4_count_185 iuX4 fl_X4_28 rfl (by decide) rfl sh_51 rfl (fun hv52 => ?_)
    obtain rfl := Option.some.inj E
    exact V_reti dX4_count_188 ⟨rfl, rfl, hv52⟩
  replace E := mmI_f c51 E
  by_cases c53 : l1 = 14
  · replace E := mmI_t c53 E
    refine V_tableIn 14 189 dX4_count_1 c53 (by decide) (by decide) rfl (by decide) ?_
    refine V_aload_n 0 dX4_count_189 rfl ?_
    refine V_geti (ci := 4) (k := 8) (N := 12) (T := TX4) (v := (m.1 51 8)) dX4_count_190 iuX4 fl_X4_95 rfl (by decide) rfl sh_51 rfl (fun hv54 => ?_)
    obtain rfl := Option.some.inj E
    exact V_reti dX4_count_193 ⟨rfl, rfl, hv54⟩
  replace E := mmI_f c53 E
  refine V_tableOut 194 dX4_count_1 hr1 (by omega) (by decide) ?_
  refine V_bipush (v := (-2)) dX4_count_194 (by decide) ?_
  obtain rfl := Option.some.inj E
  exact V_reti dX4_count_196 ⟨rfl, rfl, ir_m2⟩
theorem ct_X4_count {l1 : Int} {m : Mem} {r : Int × Mem} (hr1 : inR l1) (E : f_X4_count l1 m = some r) : CTi yX4_count cX4_count 2 (some .int) rm_X4_count [.ref 51, vi l1] m r := CT_i (by decide +kernel) rfl (Nat.le_of_ble_eq_true rfl) (ok_X4_count _ _ hr1 E)
theorem hy_X4_count : yX4_count.cls = RX4 ∧ yX4_count.cls ≠ "java/lang/invoke/MethodHandle" ∧ yX4_count.cls ≠ "java/lang/invoke/VarHandle" ∧ (parseMethodDescriptor yX4_count.desc).map (fun d => d.parameters.length) = some 1 := by decide +kernel
