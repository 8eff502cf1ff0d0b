abbrev rm_X4_doAlias : Room := { frames := 2, cells := 0, slots := 0, locals := 45 }
def f_X4_doAlias_L136 (l1 : Int) (l2 : Int) (l5 : Int) (l6 : Int) (l7 : Int) (m : Mem) : Option (Int × Mem) :=
  (f_X4_putsIn (mwr (mwr (mwr (mwr (mwr (mwr m 56 0 l1) 56 1 1) 56 2 l5) 56 3 l6) 56 4 l7) 56 5 l2)).bind (fun q29 => some (l5, q29.2))
set_option maxRecDepth 100000 in
set_option maxHeartbeats 4000000 in
theorem ok_X4_doAlias_L136 {r : Int × Mem} : ∀ (l1 : Int) (l2 : Int) (l5 : Int) (l6 : Int) (l7 : Int) (m : Mem), inR l1 → inR l2 → inR l5 → inR l6 → inR l7 → f_X4_doAlias_L136 l1 l2 l5 l6 l7 m = some r → VV RX4 cX4_doAlias 9 rm_X4_doAlias mmG0 (mmPi r) 136 [(0, .ref 51), (1, vi l1), (2, vi l2), (5, vi l5), (6, vi l6), (7, vi l7)] [] m := by
  intro l1 l2 l5 l6 l7 m hr1 hr2 hr5 hr6 hr7 E
  unfold f_X4_doAlias_L136 at E
  refine V_aload_n 0 dX4_doAlias_136 rfl ?_
  refine V_geta (ci := 4) (k := 6) (N := 12) (T := TX4) (o' := 56) dX4_doAlias_137 iuX4 fl_X4_22 rfl (by decide) rfl sh_51 rfl ?_
  refine V_iconst dX4_doAlias_140 rfl ?_
  refine V_iload_n 1 dX4_doAlias_141 rfl ?_
  refine V_iast (n := 6) (j := 0) dX4_doAlias_142 sh_56 ir_0 hr1 (by decide) rfl ?_
  refine V_aload_n 0 dX4_doAlias_143 rfl ?_
  refine V_geta (ci := 4) (k := 6) (N := 12) (T := TX4) (o' := 56) dX4_doAlias_144 iuX4 fl_X4_22 rfl (by decide) rfl sh_51 rfl ?_
  refine V_iconst dX4_doAlias_147 rfl ?_
  refine V_iconst dX4_doAlias_148 rfl ?_
  refine V_iast (n := 6) (j := 1) dX4_doAlias_149 sh_56 ir_1 ir_1 (by decide) rfl ?_
  refine V_aload_n 0 dX4_doAlias_150 rfl ?_
  refine V_geta (ci := 4) (k := 6) (N := 12) (T := TX4) (o' := 56) dX4_doAlias_151 iuX4 fl_X4_22 rfl (by decide) rfl sh_51 rfl ?_
  refine V_iconst dX4_doAlias_154 rfl ?_
  refine V_iload 3 dX4_doAlias_155 rfl ?_
  refine V_iast (n := 6) (j := 2) dX4_doAlias_157 sh_56 ir_2 hr5 (by decide) rfl ?_
  refine V_aload_n 0 dX4_doAlias_158 rfl ?_
  refine V_geta (ci := 4) (k := 6) (N := 12) (T := TX4) (o' := 56) dX4_doAlias_159 iuX4 fl_X4_22 rfl (by decide) rfl sh_51 rfl ?_
  refine V_iconst dX4_doAlias_162 rfl ?_
  refine V_iload 4 dX4_doAlias_163 rfl ?_
  refine V_iast (n := 6) (j := 3) dX4_doAlias_165 sh_56 ir_3 hr6 (by decide) rfl ?_
  refine V_aload_n 0 dX4_doAlias_166 rfl ?_
  refine V_geta (ci := 4) (k := 6) (N := 12) (T := TX4) (o' := 56) dX4_doAlias_167 iuX4 fl_X4_22 rfl (by decide) rfl sh_51 rfl ?_
  refine V_iconst dX4_doAlias_170 rfl ?_
  refine V_iload 5 dX4_doAlias_171 rfl ?_
  refine V_iast (n := 6) (j := 4) dX4_doAlias_173 sh_56 ir_4 hr7 (by decide) rfl ?_
  refine V_aload_n 0 dX4_doAlias_174 rfl ?_
  refine V_geta (ci := 4) (k := 6) (N := 12) (T := TX4) (o' := 56) dX4_doAlias_175 iuX4 fl_X4_22 rfl (by decide) rfl sh_51 rfl ?_
  refine V_iconst dX4_doAlias_178 rfl ?_
  refine V_iload_n 2 dX4_doAlias_179 rfl ?_
  refine V_iast (n := 6) (j := 5) dX4_doAlias_180 sh_56 ir_5 hr2 (by decide) rfl ?_
  refine V_aload_n 0 dX4_doAlias_181 rfl ?_
  obtain ⟨q29, hq29, E⟩ := mmB_e E
  refine V_callV (ci := 4) (q := (RX4, TX4, 12)) (Cn := RX4) (st := []) 0 dX4_doAlias_182 (ct_X4_putsIn hq29) ml_X4_71 im_X4_putsIn sl_X4_putsIn it_X4 cd_X4_putsIn hy_X4_putsIn ⟨rfl, rfl, by decide, by decide⟩ sh_51 rfl rfl rfl rfl (Nat.le_of_ble_eq_true rfl) (fun hv30 => ?_)
  refine V_istore (lv' := [(0, .ref 51), (1, vi l1), (2, vi l2), (5, vi l5), (6, vi l6), (7, vi l7), (8, vi q29.1)]) dX4_doAlias_185 rfl rfl ?_
  refine V_iload 3 dX4_doAlias_187 rfl ?_
  obtain rfl := Option.some.inj E
  exact V_reti dX4_doAlias_189 ⟨rfl, rfl, hr5⟩
def f_X4_doAlias_L99 (l1 : Int) (l2 : Int) (l3 : Int) (l4 : Int) (m : Mem) : Option (Int × Mem) :=
  (f_X4_of l3 2 m).bind (fun q16 => (f_X4_of l3 3 q16.2).bind (fun q18 => (f_X4_of l3 4 q18.2).bind (fun q20 => if l4 = (-5) then
(f_X4_doAlias_L136 l1 l2 q16.1 q18.1 q20.1 q20.2)
else
((f_X4_takesOut l4 q20.2).bind (fun q31 => f_X4_doAlias_L136 l1 l2 q16.1 q18.1 q20.1 q31)))))
set_option maxRecDepth 100000 in
set_option maxHeartbeats 4000000 in
theorem ok_X4_doAlias_L99 {r : Int × Mem} : ∀ (l1 : Int) (l2 : Int) (l3 : Int) (l4 : Int) (m : Mem), inR l1 → inR l2 → inR l3 → inR l4 → f_X4_doAlias_L99 l1 l2 l3 l4 m = some r → VV RX4 cX4_doAlias 9 rm_X4_doAlias mmG0 (mmPi r) 99 [(0, .ref 51), (1, vi l1), (2, vi l2), (3, vi l3), (4, vi l4)] [] m := by
  intro l1 l2 l3 l4 m hr1 hr2 hr3 hr4 E
  unfold f_X4_doAlias_L99 at E
  refine V_aload_n 0 dX4_doAlias_99 rfl ?_
  refine V_iload_n 3 dX4_doAlias_100 rfl ?_
  refine V_iconst dX4_doAlias_101 rfl ?_
  obtain ⟨q16, hq16, E⟩ := mmB_e E
  refine V_callV (ci := 4) (q := (RX4, TX4, 12)) (Cn := RX4) (st := []) 2 dX4_doAlias_102 (ct_X4_of hr3 ir_2 hq16) ml_X4_38 im_X4_of sl_X4_of it_X4 cd_X4_of hy_X4_of ⟨rfl, rfl, by decide, by decide⟩ sh_51 rfl rfl rfl rfl (Nat.le_of_ble_eq_true rfl) (fun hv17 => ?_)
  refine V_istore (lv' := [(0, .ref 51), (1, vi l1), (2, vi l2), (3, vi l3), (4, vi l4), (5, vi q16.1)]) dX4_doAlias_105 rfl rfl ?_
  refine V_aload_n 0 dX4_doAlias_107 rfl ?_
  refine V_iload_n 3 dX4_doAlias_108 rfl ?_
  refine V_iconst dX4_doAlias_109 rfl ?_
  obtain ⟨q18, hq18, E⟩ := mmB_e E
  refine V_callV (ci := 4) (q := (RX4, TX4, 12)) (Cn := RX4) (st := []) 2 dX4_doAlias_110 (ct_X4_of hr3 ir_3 hq18) ml_X4_38 im_X4_of sl_X4_of it_X4 cd_X4_of hy_X4_of ⟨rfl, rfl, by decide, by decide⟩ sh_51 rfl rfl rfl rfl (Nat.le_of_ble_eq_true rfl) (fun hv19 => ?_)
  refine V_istore (lv' := [(0, .ref 51), (1, vi l1), (2, vi l2), (3, vi l3), (4, vi l4), (5, vi q16.1), (6, vi q18.1)]) dX4_doAlias_113 rfl rfl ?_
  refine V_aload_n 0 dX4_doAlias_115 rfl ?_
  refine V_iload_n 3 dX4_doAlias_116 rfl ?_
  refine V_iconst dX4_doAlias_117 rfl ?_
  obtain ⟨q20, hq20, E⟩ := mmB_e E
  refine V_callV (ci := 4) (q := (RX4, TX4, 12)) (Cn := RX4) (st := []) 2 dX4_doAlias_118 (ct_X4_of hr3 ir_4 hq20) ml_X4_38 im_X4_of sl_X4_of it_X4 cd_X4_of hy_X4_of ⟨rfl, rfl, by decide, by decide⟩ sh_51 rfl rfl rfl rfl (Nat.le_of_ble_eq_true rfl) (fun hv21 => ?_)
  refine V_istore (lv' := [(0, .ref 51), (1, vi l1), (2, vi l2), (3, vi l3), (4, vi l4), (5, vi q16.1), (6, vi q18.1), (7, vi q20.1)]) dX4_doAlias_121 rfl rfl ?_
  refine V_iload 4 dX4_doAlias_123 rfl ?_
  refine V_bipush (v := (-5)) dX4_doAlias_125 (by decide) ?_
  refine V_icmp_eq 136 dX4_doAlias_127 (by decide) hr4 ir_m5 (fun c22 => ?_) (fun c22 => ?_)
  · replace E := mmI_t c22 E
    refine V_sub [0, 1, 2, 5, 6, 7] rfl ?_
    exact ok_X4_doAlias_L136 _ _ _ _ _ _ hr1 hr2 hv17 hv19 hv21 E
  · replace E := mmI_f c22 E
    refine V_aload_n 0 dX4_doAlias_130 rfl ?_
    refine V_iload 4 dX4_doAlias_131 rfl ?_
    obtain ⟨q31, hq31, E⟩ := mmB_e E
    refine V_callVv (ci := 4) (q := (RX4, TX4, 12)) (Cn := RX4) (st := []) 1 dX4_doAlias_133 (ct_X4_takesOut hr4 hq31) ml_X4_78 im_X4_takesOut sl_X4_takesOut it_X4 cd_X4_takesOut hy_X4_takesOut ⟨rfl, rfl, by decide, by decide⟩ sh_51 rfl rfl rfl rfl (Nat.le_of_ble_eq_true rfl) ?_
    refine V_sub [0, 1, 2, 5, 6, 7] rfl ?_
    exact ok_X4_doAlias_L136 _ _ _ _ _ _ hr1 hr2 hv17 hv19 hv21 E
def f_X4_doAlias_L62 (l1 : Int) (l2 : Int) (l3 : Int) (l4 : Int) (m : Mem) : Option (Int × Mem) :=
  if l4 = (-5) then
(f_X4_doAlias_L99 l1 l2 l3 l4 m)
else
((f_X4_of l4 2 m).bind (fun q33 => (f_X4_of l3 2 q33.2).bind (fun q35 => if q33.1 = q35.1 then
((f_X4_of l4 5 q35.2).bind (fun q38 => if q38.1 = l2 then
(some ((-5), q38.2))
else
(f_X4_doAlias_L99 l1 l2 l3 l4 q38.2)))
else
(f_X4_doAlias_L99 l1 l2 l3 l4 q35.2))))
set_option maxRecDepth 100000 in
set_option maxHeartbeats 4000000 in
theorem ok_X4_doAlias_L62 {r : Int × Mem} : ∀ (l1 : Int) (l2 : Int) (l3 : Int) (l4 : Int) (m : Mem), inR l1 → inR l2 → inR l3 → inR l4 → f_X4_doAlias_L62 l1 l2 l3 l4 m = some r → VV RX4 cX4_doAlias 9 rm_X4_doAlias mmG0 (mmPi r) 62 [(0, .ref 51), (1, vi l1), (2, vi l2), (3, vi l3), (4, vi l4)] [] m := by
  intro l1 l2 l3 l4 m hr1 hr2 hr3 hr4 E
  unfold f_X4_doAlias_L62 at E
  refine V_iload 4 dX4_doAlias_62 rfl ?_
  refine V_bipush (v := (-5)) dX4_doAlias_64 (by decide) ?_
  refine V_icmp_eq 99 dX4_doAlias_66 (by decide) hr4 ir_m5 (fun c15 => ?_) (fun c15 => ?_)
  · replace E := mmI_t c15 E
    exact ok_X4_doAlias_L99 _ _ _ _ _ hr1 hr2 hr3 hr4 E
  · replace E := mmI_f c15 E
    refine V_aload_n 0 dX4_doAlias_69 rfl ?_
    refine V_iload 4 dX4_doAlias_70 rfl ?_
    refine V_iconst dX4_doAlias_72 rfl ?_
    obtain ⟨q33, hq33, E⟩ := mmB_e E
    refine V_callV (ci := 4) (q := (RX4, TX4, 12)) (Cn := RX4) (st := []) 2 dX4_doAlias_73 (ct_X4_of hr4 ir_2 hq33) ml_X4_38 im_X4_of sl_X4_of it_X4 cd_X4_of hy_X4_of ⟨rfl, rfl, by decide, by decide⟩ sh_51 rfl rfl rfl rfl (Nat.le_of_ble_eq_true rfl) (fun hv34 => ?_)
    refine V_aload_n 0 dX4_doAlias_76 rfl ?_
    refine V_iload_n 3 dX4_doAlias_77 rfl ?_
    refine V_iconst dX4_doAlias_78 rfl ?_
    obtain ⟨q35, hq35, E⟩ := mmB_e E
    refine V_callV (ci := 4) (q := (RX4, TX4, 12)) (Cn := RX4) (st := [vi q33.1]) 2 dX4_doAlias_79 (ct_X4_of hr3 ir_2 hq35) ml_X4_38 im_X4_of sl_X4_of it_X4 cd_X4_of hy_X4_of ⟨rfl, rfl, by decide, by decide⟩ sh_51 rfl rfl rfl rfl (Nat.le_of_ble_eq_true rfl) (fun hv36 => ?_)
    refine V_icmp_ne 99 dX4_doAlias_82 (by decide) hv34 hv36 (fun c37 => ?_) (fun c37 => ?_)
    · replace E := mmI_f c37 E
      exact ok_X4_doAlias_L99 _ _ _ _ _ hr1 hr2 hr3 hr4 E
    · replace E := mmI_t c37 E
      refine V_aload_n 0 dX4_doAlias_85 rfl ?_
      refine V_iload 4 dX4_doAlias_86 rfl ?_
      refine V_iconst dX4_doAlias_88 rfl ?_
      obtain ⟨q38, hq38, E⟩ := mmB_e E
      refine V_callV (ci := 4) (q := (RX4, TX4, 12)) (Cn := RX4) (st := []) 2 dX4_doAlias_89 (ct_X4_of hr4 ir_5 hq38) ml_X4_38 im_X4_of sl_X4_of it_X4 cd_X4_of hy_X4_of ⟨rfl, rfl, by decide, by decide⟩ sh_51 rfl rfl rfl rfl (Nat.le_of_ble_eq_true rfl) (fun hv39 => ?_)
      refine V_iload_n 2 dX4_doAlias_92 rfl ?_
      refine V_icmp_ne 99 dX4_doAlias_93 (by decide) hv39 hr2 (fun c40 => ?_) (fun c40 => ?_)
      · replace E := mmI_f c40 E
        exact ok_X4_doAlias_L99 _ _ _ _ _ hr1 hr2 hr3 hr4 E
      · replace E := mmI_t c40 E
        refine V_bipush (v := (-5)) dX4_doAlias_96 (by decide) ?_
        obtain rfl := Option.some.inj E
        exact V_reti dX4_doAlias_98 ⟨rfl, rfl, ir_m5⟩
def f_X4_doAlias (l1 : Int) (l2 : Int) (m : Mem) : Option (Int × Mem) :=
  (f_X4_rankOf l2 m).bind (fun q1 => (f_X4_isMember q1.1 q1.2).bind (fun q3 => if q3.1 = 0 then
(some ((-1), q3.2))
else
((f_X4_isName l1 q3.2).bind (fun q6 => if q6.1 = 0 then
(some ((-2), q6.2))
else
((f_X4_rankOf l1 q6.2).bind (fun q9 => (f_X4_isMember q9.1 q9.2).bind (fun q11 => if q11.1 = 0 then
(if q9.1 = (-5) then
((f_X4_isDirectoryFull q11.2).bind (fun q41 => if q41.1 = 0 then
(f_X4_doAlias_L62 l1 l2 q1.1 q9.1 q41.2)
else
(some ((-6), q41.2))))
else
(f_X4_doAlias_L62 l1 l2 q1.1 q9.1 q11.2))
else
(some ((-7), q11.2)))))))))
set_option maxRecDepth 100000 in
set_option maxHeartbeats 4000000 in
theorem ok_X4_doAlias {r : Int × Mem} : ∀ (l1 : Int) (l2 : Int) (m : Mem), inR l1 → inR l2 → f_X4_doAlias l1 l2 m = some r → VV RX4 cX4_doAlias 9 rm_X4_doAlias mmG0 (mmPi r) 0 [(0, .ref 51), (1, vi l1), (2, vi l2)] [] m := by
  intro l1 l2 m hr1 hr2 E
  unfold f_X4_doAlias at E
  refine V_aload_n 0 dX4_doAlias_0 rfl ?_
  refine V_iload_n 2 dX4_doAlias_1 rfl ?_
  obtain ⟨q1, hq1, E⟩ := mmB_e E
  refine V_callV (ci := 4) (q := (RX4, TX4, 12)) (Cn := RX4) (st := []) 1 dX4_doAlias_2 (ct_X4_rankOf hr2 hq1) ml_X4_50 im_X4_rankOf sl_X4_rankOf it_X4 cd_X4_rankOf hy_X4_rankOf ⟨rfl, rfl, by decide, by decide⟩ sh_51 rfl rfl rfl rfl (Nat.le_of_ble_eq_true rfl) (fun hv2 => ?_)
  refine V_istore_n (i := 3) (lv' := [(0, .ref 51), (1, vi l1), (2, vi l2), (3, vi q1.1)]) dX4_doAlias_5 rfl rfl rfl ?_
  refine V_aload_n 0 dX4_doAlias_6 rfl ?_
  refine V_iload_n 3 dX4_doAlias_7 rfl ?_
  obtain ⟨q3, hq3, E⟩ := mmB_e E
  refine V_callV (ci := 4) (q := (RX4, TX4, 12)) (Cn := RX4) (st := []) 1 dX4_doAlias_8 (ct_X4_isMember hv2 hq3) ml_X4_53 im_X4_isMember sl_X4_isMember it_X4 cd_X4_isMember hy_X4_isMember ⟨rfl, rfl, by decide, by decide⟩ sh_51 rfl rfl rfl rfl (Nat.le_of_ble_eq_true rfl) (fun hv4 => ?_)
  refine V_if_ne 16 dX4_doAlias_11 (by decide) hv4 (fun c5 => ?_) (fun c5 => ?_)
  · replace E := mmI_f c5 E
    refine V_iload_n 1 dX4_doAlias_16 rfl ?_
    obtain ⟨q6, hq6, E⟩ := mmB_e E
    refine V_callS (st := []) 1 dX4_doAlias_17 (ct_X4_isName hr1 hq6) ml_X4_57 st_X4_isName it_X4 cd_X4_isName hz_X4_isName ⟨rfl, rfl, by decide, by decide⟩ rfl rfl (Nat.le_of_ble_eq_true rfl) (fun hv7 => ?_)
    refine V_if_ne 26 dX4_doAlias_20 (by decide) hv7 (fun c8 => ?_) (fun c8 => ?_)
    · replace E := mmI_f c8 E
      refine V_aload_n 0 dX4_doAlias_26 rfl ?_
      refine V_iload_n 1 dX4_doAlias_27 rfl ?_
      obtain ⟨q9, hq9, E⟩ := mmB_e E
      refine V_callV (ci := 4) (q := (RX4, TX4, 12)) (Cn := RX4) (st := []) 1 dX4_doAlias_28 (ct_X4_rankOf hr1 hq9) ml_X4_50 im_X4_rankOf sl_X4_rankOf it_X4 cd_X4_rankOf hy_X4_rankOf ⟨rfl, rfl, by decide, by decide⟩ sh_51 rfl rfl rfl rfl (Nat.le_of_ble_eq_true rfl) (fun hv10 => ?_)
      refine V_istore (lv' := [(0, .ref 51), (1, vi l1), (2, vi l2), (3, vi q1.1), (4, vi q9.1)]) dX4_doAlias_31 rfl rfl ?_
      refine V_aload_n 0 dX4_doAlias_33 rfl ?_
      refine V_iload 4 dX4_doAlias_34 rfl ?_
      obtain ⟨q11, hq11, E⟩ := mmB_e E
      refine V_callV (ci := 4) (q := (RX4, TX4, 12)) (Cn := RX4) (st := []) 1 dX4_doAlias_36 (ct_X4_isMember hv10 hq11) ml_X4_53 im_X4_isMember sl_X4_isMember it_X4 cd_X4_isMember hy_X4_isMember ⟨rfl, rfl, by decide, by decide⟩ sh_51 rfl rfl rfl rfl (Nat.le_of_ble_eq_true rfl) (fun hv12 => ?_)
      refine V_if_eq 45 dX4_doAlias_39 (by decide) hv12 (fun c13 => ?_) (fun c13 => ?_)
      · replace E := mmI_t c13 E
        refine V_iload 4 dX4_doAlias_45 rfl ?_
        refine V_bipush (v := (-5)) dX4_doAlias_47 (by decide) ?_
        refine V_icmp_ne 62 dX4_doAlias_49 (by decide) hv10 ir_m5 (fun c14 => ?_) (fun c14 => ?_)
        · replace E := mmI_f c14 E
          exact ok_X4_doAlias_L62 _ _ _ _ _ hr1 hr2 hv2 hv10 E
        · replace E := mmI_t c14 E
          refine V_aload_n 0 dX4_doAlias_52 rfl ?_
          obtain ⟨q41, hq41, E⟩ := mmB_e E
          refine V_callV (ci := 4) (q := (RX4, TX4, 12)) (Cn := RX4) (st := []) 0 dX4_doAlias_53 (ct_X4_isDirectoryFull hq41) ml_X4_64 im_X4_isDirectoryFull sl_X4_isDirectoryFull it_X4 cd_X4_isDirectoryFull hy_X4_isDirectoryFull ⟨rfl, rfl, by decide, by decide⟩ sh_51 rfl rfl rfl rfl (Nat.le_of_ble_eq_true rfl) (fun hv42 => ?_)
          refine V_if_eq 62 dX4_doAlias_56 (by decide) hv42 (fun c43 => ?_) (fun c43 => ?_)
          · replace E := mmI_t c43 E
            exact ok_X4_doAlias_L62 _ _ _ _ _ hr1 hr2 hv2 hv10 E
          · replace E := mmI_f c43 E
            refine V_bipush (v := (-6)) dX4_doAlias_59 (by decide) ?_
            obtain rfl := Option.some.inj E
            exact V_reti dX4_doAlias_61 ⟨rfl, rfl, ir_m6⟩
      · replace E := mmI_f c13 E
        refine V_bipush (v := (-7)) dX4_doAlias_42 (by decide) ?_
        obtain rfl := Option.some.inj E
        exact V_reti dX4_doAlias_44 ⟨rfl, rfl, ir_m7⟩
    · replace E := mmI_t c8 E
      refine V_bipush (v := (-2)) dX4_doAlias_23 (by decide) ?_
      obtain rfl := Option.some.inj E
      exact V_reti dX4_doAlias_25 ⟨rfl, rfl, ir_m2⟩
  · replace E := mmI_t c5 E
    refine V_iconst dX4_doAlias_14 rfl ?_
    obtain rfl := Option.some.inj E
    exact V_reti dX4_doAlias_15 ⟨rfl, rfl, ir_m1⟩
theorem ct_X4_doAlias {l1 : Int} {l2 : Int} {m : Mem} {r : Int × Mem} (hr1 : inR l1) (hr2 : inR l2) (E : f_X4_doAlias l1 l2 m = some r) : CTi yX4_doAlias cX4_doAlias 9 (some .int) rm_X4_doAlias [.ref 51, vi l1, vi l2] m r := CT_i (by decide +kernel) rfl (Nat.le_of_ble_eq_true rfl) (ok_X4_doAlias _ _ _ hr1 hr2 E)
theorem hy_X4_doAlias : yX4_doAlias.cls = RX4 ∧ yX4_doAlias.cls ≠ "java/lang/invoke/MethodHandle" ∧ yX4_doAlias.cls ≠ "java/lang/invoke/VarHandle" ∧ (parseMethodDescriptor yX4_doAlias.desc).map (fun d => d.parameters.length) = some 2 := by decide +kernel
abbrev rm_X4_add : Room := { frames := 3, cells := 0, slots := 0, locals := 70 }
def f_X4_add (l1 : Int) (l2 : Int) (l3 : Int) (m : Mem) : Option (Int × Mem) :=
  (f_X4_remember m).bind (fun q1 => (f_X4_doAdd l1 l2 l3 q1).bind (fun q3 => if 0 ≤ q3.1 then
((f_X4_acted q3.1 q3.2).bind (fun q6 => some (q6.1, q6.2)))
else
(some (q3.1, q3.2))))
set_option maxRecDepth 100000 in
set_option maxHeartbeats 4000000 in
theorem ok_X4_add {r : Int × Mem} : ∀ (l1 : Int) (l2 : Int) (l3 : Int) (m : Mem), inR l1 → inR l2 → inR l3 → f_X4_add l1 l2 l3 m = some r → VV RX4 cX4_add 5 rm_X4_add mmG0 (mmPi r) 0 [(0, .ref 51), (1, vi l1), (2, vi l2), (3, vi l3)] [] m := by
  intro l1 l2 l3 m hr1 hr2 hr3 E
  unfold f_X4_add at E
  refine V_aload_n 0 dX4_add_0 rfl ?_
  obtain ⟨q1, hq1, E⟩ := mmB_e E
  refine V_callVv (ci := 4) (q := (RX4, TX4, 12)) (Cn := RX4) (st := []) 0 dX4_add_1 (ct_X4_remember hq1) ml_X4_82 im_X4_remember sl_X4_remember it_X4 cd_X4_remember hy_X4_remember ⟨rfl, rfl, by decide, by decide⟩ sh_51 rfl rfl rfl rfl (Nat.le_of_ble_eq_true rfl) ?_
  refine V_aload_n 0 dX4_add_4 rfl ?_
  refine V_iload_n 1 dX4_add_5 rfl ?_
  refine V_iload_n 2 dX4_add_6 rfl ?_
  refine V_iload_n 3 dX4_add_7 rfl ?_
  obtain ⟨q3, hq3, E⟩ := mmB_e E
  refine V_callV (ci := 4) (q := (RX4, TX4, 12)) (Cn := RX4) (st := []) 3 dX4_add_8 (ct_X4_doAdd hr1 hr2 hr3 hq3) ml_X4_85 im_X4_doAdd sl_X4_doAdd it_X4 cd_X4_doAdd hy_X4_doAdd ⟨rfl, rfl, by decide, by decide⟩ sh_51 rfl rfl rfl rfl (Nat.le_of_ble_eq_true rfl) (fun hv4 => ?_)
  refine V_istore (lv' := [(0, .ref 51), (1, vi l1), (2, vi l2), (3, vi l3), (4, vi q3.1)]) dX4_add_11 rfl rfl ?_
  refine V_iload 4 dX4_add_13 rfl ?_
  refine V_if_ge 23 dX4_add_15 (by decide) hv4 (fun c5 => ?_) (fun c5 => ?_)
  · replace E := mmI_t c5 E
    refine V_aload_n 0 dX4_add_23 rfl ?_
    refine V_iload 4 dX4_add_24 rfl ?_
    obtain ⟨q6, hq6, E⟩ := mmB_e E
    refine V_callV (ci := 4) (q := (RX4, TX4, 12)) (Cn := RX4) (st := []) 1 dX4_add_26 (ct_X4_acted hv4 hq6) ml_X4_89 im_X4_acted sl_X4_acted it_X4 cd_X4_acted hy_X4_acted ⟨rfl, rfl, by decide, by decide⟩ sh_51 rfl rfl rfl rfl (Nat.le_of_ble_eq_true rfl) (fun hv7 => ?_)
    obtain rfl := Option.some.inj E
    exact V_reti dX4_add_29 ⟨rfl, rfl, hv7⟩
  · replace E := mmI_f c5 E
    refine V_iload 4 dX4_add_18 rfl ?_
    refine V_goto 29 dX4_add_20 (by decide) ?_
    obtain rfl := Option.some.inj E
    exact V_reti dX4_add_29 ⟨rfl, rfl, hv4⟩
theorem ct_X4_add {l1 : Int} {l2 : Int} {l3 : Int} {m : Mem} {r : Int × Mem} (hr1 : inR l1) (hr2 : inR l2) (hr3 : inR l3) (E : f_X4_add l1 l2 l3 m = some r) : CTi yX4_add cX4_add 5 (some .int) rm_X4_add [.ref 51, vi l1, vi l2, vi l3] m r := CT_i (by decide +kernel) rfl (Nat.le_of_ble_eq_true rfl) (ok_X4_add _ _ _ _ hr1 hr2 hr3 E)
theorem hy_X4_add : yX4_add.cls = RX4 ∧ yX4_add.cls ≠ "java/lang/invoke/MethodHandle" ∧ yX4_add.cls ≠ "java/lang/invoke/VarHandle" ∧ (parseMethodDescriptor yX4_add.desc).map (fun d => d.parameters.length) = some 3 := by decide +kernel
abbrev rm_X4_replace : Room := { frames := 2, cells := 0, slots := 0, locals := 46 }
def f_X4_replace (l1 : Int) (l2 : Int) (l3 : Int) (m : Mem) : Option (Int × Mem) :=
  (f_X4_rankOf l1 m).bind (fun q1 => (f_X4_isMember q1.1 q1.2).bind (fun q3 => if q3.1 = 0 then
(some ((-1), q3.2))
else
((f_X4_in l2 1 40 q3.2).bind (fun q6 => if q6.1 = 0 then
(some ((-2), q6.2))
else
((f_X4_in l3 0 9999 q6.2).bind (fun q9 => if q9.1 = 0 then
(some ((-2), q9.2))
else
((f_X4_isRoomFor l2 q9.2).bind (fun q12 => if q12.1 = 0 then
(some ((-3), q12.2))
else
((f_X4_remember q12.2).bind (fun q15 => (f_X4_laysText q1.1 l2 l3 q15).bind (fun q17 => (f_X4_of q1.1 2 q17).bind (fun q19 => (f_X4_acted q19.1 q19.2).bind (fun q21 => some (q21.1, q21.2))))))))))))))
set_option maxRecDepth 100000 in
set_option maxHeartbeats 4000000 in
theorem ok_X4_replace {r : Int × Mem} : ∀ (l1 : Int) (l2 : Int) (l3 : Int) (m : Mem), inR l1 → inR l2 → inR l3 → f_X4_replace l1 l2 l3 m = some r → VV RX4 cX4_replace 5 rm_X4_replace mmG0 (mmPi r) 0 [(0, .ref 51), (1, vi l1), (2, vi l2), (3, vi l3)] [] m := by
  intro l1 l2 l3 m hr1 hr2 hr3 E
  unfold f_X4_replace at E
  refine V_aload_n 0 dX4_replace_0 rfl ?_
  refine V_iload_n 1 dX4_replace_1 rfl ?_
  obtain ⟨q1, hq1, E⟩ := mmB_e E
  refine V_callV (ci := 4) (q := (RX4, TX4, 12)) (Cn := RX4) (st := []) 1 dX4_replace_2 (ct_X4_rankOf hr1 hq1) ml_X4_50 im_X4_rankOf sl_X4_rankOf it_X4 cd_X4_rankOf hy_X4_rankOf ⟨rfl, rfl, by decide, by decide⟩ sh_51 rfl rfl rfl rfl (Nat.le_of_ble_eq_true rfl) (fun hv2 => ?_)
  refine V_istore (lv' := [(0, .ref 51), (1, vi l1), (2, vi l2), (3, vi l3), (4, vi q1.1)]) dX4_replace_5 rfl rfl ?_
  refine V_aload_n 0 dX4_replace_7 rfl ?_
  refine V_iload 4 dX4_replace_8 rfl ?_
  obtain ⟨q3, hq3, E⟩ := mmB_e E
  refine V_callV (ci := 4) (q := (RX4, TX4, 12)) (Cn := RX4) (st := []) 1 dX4_replace_10 (ct_X4_isMember hv2 hq3) ml_X4_53 im_X4_isMember sl_X4_isMember it_X4 cd_X4_isMember hy_X4_isMember ⟨rfl, rfl, by decide, by decide⟩ sh_51 rfl rfl rfl rfl (Nat.le_of_ble_eq_true rfl) (fun hv4 => ?_)
  refine V_if_ne 18 dX4_replace_13 (by decide) hv4 (fun c5 => ?_) (fun c5 => ?_)
  · replace E := mmI_f c5 E
    refine V_iload_n 2 dX4_replace_18 rfl ?_
    refine V_i2l dX4_replace_19 hr2 ?_
    refine V_lconst (v := 1) dX4_replace_20 (by decide) ?_
    refine V_ldc2 (v := 40) dX4_replace_21 kl_X4_60 (by decide) ?_
    obtain ⟨q6, hq6, E⟩ := mmB_e E
    refine V_callS (st := []) 3 dX4_replace_24 (ct_X4_in (inRL hr2) (by decide) (by decide) hq6) ml_X4_34 st_X4_in it_X4 cd_X4_in hz_X4_in ⟨rfl, rfl, by decide, by decide⟩ rfl rfl (Nat.le_of_ble_eq_true rfl) (fun hv7 => ?_)
    refine V_if_eq 42 dX4_replace_27 (by decide) hv7 (fun c8 => ?_) (fun c8 => ?_)
    · replace E := mmI_t c8 E
      refine V_bipush (v := (-2)) dX4_replace_42 (by decide) ?_
      obtain rfl := Option.some.inj E
      exact V_reti dX4_replace_44 ⟨rfl, rfl, ir_m2⟩
    · replace E := mmI_f c8 E
      refine V_iload_n 3 dX4_replace_30 rfl ?_
      refine V_i2l dX4_replace_31 hr3 ?_
      refine V_lconst (v := 0) dX4_replace_32 (by decide) ?_
      refine V_ldc2 (v := 9999) dX4_replace_33 kl_X4_62 (by decide) ?_
      obtain ⟨q9, hq9, E⟩ := mmB_e E
      refine V_callS (st := []) 3 dX4_replace_36 (ct_X4_in (inRL hr3) (by decide) (by decide) hq9) ml_X4_34 st_X4_in it_X4 cd_X4_in hz_X4_in ⟨rfl, rfl, by decide, by decide⟩ rfl rfl (Nat.le_of_ble_eq_true rfl) (fun hv10 => ?_)
      refine V_if_ne 45 dX4_replace_39 (by decide) hv10 (fun c11 => ?_) (fun c11 => ?_)
      · replace E := mmI_f c11 E
        refine V_aload_n 0 dX4_replace_45 rfl ?_
        refine V_iload_n 2 dX4_replace_46 rfl ?_
        obtain ⟨q12, hq12, E⟩ := mmB_e E
        refine V_callV (ci := 4) (q := (RX4, TX4, 12)) (Cn := RX4) (st := []) 1 dX4_replace_47 (ct_X4_isRoomFor hr2 hq12) ml_X4_68 im_X4_isRoomFor sl_X4_isRoomFor it_X4 cd_X4_isRoomFor hy_X4_isRoomFor ⟨rfl, rfl, by decide, by decide⟩ sh_51 rfl rfl rfl rfl (Nat.le_of_ble_eq_true rfl) (fun hv13 => ?_)
        refine V_if_ne 56 dX4_replace_50 (by decide) hv13 (fun c14 => ?_) (fun c14 => ?_)
        · replace E := mmI_f c14 E
          refine V_aload_n 0 dX4_replace_56 rfl ?_
          obtain ⟨q15, hq15, E⟩ := mmB_e E
          refine V_callVv (ci := 4) (q := (RX4, TX4, 12)) (Cn := RX4) (st := []) 0 dX4_replace_57 (ct_X4_remember hq15) ml_X4_82 im_X4_remember sl_X4_remember it_X4 cd_X4_remember hy_X4_remember ⟨rfl, rfl, by decide, by decide⟩ sh_51 rfl rfl rfl rfl (Nat.le_of_ble_eq_true rfl) ?_
          refine V_aload_n 0 dX4_replace_60 rfl ?_
          refine V_iload 4 dX4_replace_61 rfl ?_
          refine V_iload_n 2 dX4_replace_63 rfl ?_
          refine V_iload_n 3 dX4_replace_64 rfl ?_
          obtain ⟨q17, hq17, E⟩ := mmB_e E
          refine V_callVv (ci := 4) (q := (RX4, TX4, 12)) (Cn := RX4) (st := []) 3 dX4_replace_65 (ct_X4_laysText hv2 hr2 hr3 hq17) ml_X4_75 im_X4_laysText sl_X4_laysText it_X4 cd_X4_laysText hy_X4_laysText ⟨rfl, rfl, by decide, by decide⟩ sh_51 rfl rfl rfl rfl (Nat.le_of_ble_eq_true rfl) ?_
          refine V_aload_n 0 dX4_replace_68 rfl ?_
          refine V_aload_n 0 dX4_replace_69 rfl ?_
          refine V_iload 4 dX4_replace_70 rfl ?_
          refine V_iconst dX4_replace_72 rfl ?_
          obtain ⟨q19, hq19, E⟩ := mmB_e E
          refine V_callV (ci := 4) (q := (RX4, TX4, 12)) (Cn := RX4) (st := [.ref 51]) 2 dX4_replace_73 (ct_X4_of hv2 ir_2 hq19) ml_X4_38 im_X4_of sl_X4_of it_X4 cd_X4_of hy_X4_of ⟨rfl, rfl, by decide, by decide⟩ sh_51 rfl rfl rfl rfl (Nat.le_of_ble_eq_true rfl) (fun hv20 => ?_)
          obtain ⟨q21, hq21, E⟩ := mmB_e E
          refine V_callV (ci := 4) (q := (RX4, TX4, 12)) (Cn := RX4) (st := []) 1 dX4_replace_76 (ct_X4_acted hv20 hq21) ml_X4_89 im_X4_acted sl_X4_acted it_X4 cd_X4_acted hy_X4_acted ⟨rfl, rfl, by decide, by decide⟩ sh_51 rfl rfl rfl rfl (Nat.le_of_ble_eq_true rfl) (fun hv22 => ?_)
          obtain rfl := Option.some.inj E
          exact V_reti dX4_replace_79 ⟨rfl, rfl, hv22⟩
        · replace E := mmI_t c14 E
          refine V_bipush (v := (-3)) dX4_replace_53 (by decide) ?_
          obtain rfl := Option.some.inj E
          exact V_reti dX4_replace_55 ⟨rfl, rfl, ir_m3⟩
      · replace E := mmI_t c11 E
        refine V_bipush (v := (-2)) dX4_replace_42 (by decide) ?_
        obtain rfl := Option.some.inj E
        exact V_reti dX4_replace_44 ⟨rfl, rfl, ir_m2⟩
  · replace E := mmI_t c5 E
    refine V_iconst dX4_replace_16 rfl ?_
    obtain rfl := Option.some.inj E
    exact V_reti dX4_replace_17 ⟨rfl, rfl, ir_m1⟩
theorem ct_X4_replace {l1 : Int} {l2 : Int} {l3 : Int} {m : Mem} {r : Int × Mem} (hr1 : inR l1) (hr2 : inR l2) (hr3 : inR l3) (E : f_X4_replace l1 l2 l3 m = some r) : CTi yX4_replace cX4_replace 5 (some .int) rm_X4_replace [.ref 51, vi l1, vi l2, vi l3] m r := CT_i (by decide +kernel) rfl (Nat.le_of_ble_eq_true rfl) (ok_X4_replace _ _ _ _ hr1 hr2 hr3 E)
theorem hy_X4_replace : yX4_replace.cls = RX4 ∧ yX4_replace.cls ≠ "java/lang/invoke/MethodHandle" ∧ yX4_replace.cls ≠ "java/lang/invoke/VarHandle" ∧ (parseMethodDescriptor yX4_replace.desc).map (fun d => d.parameters.length) = some 3 := by decide +kernel
abbrev rm_X4_remove : Room := { frames := 2, cells := 0, slots := 0, locals := 44 }
def f_X4_remove (l1 : Int) (m : Mem) : Option (Int × Mem) :=
  (f_X4_rankOf l1 m).bind (fun q1 => if q1.1 = (-5) then
(some ((-1), q1.2))
else
((f_X4_remember q1.2).bind (fun q4 => (f_X4_takesOut q1.1 q4).bind (fun q6 => (f_X4_acted (q6.1 52 0) q6).bind (fun q10 => some (q10.1, q10.2))))))
set_option maxRecDepth 100000 in
set_option maxHeartbeats 4000000 in
theorem ok_X4_remove {r : Int × Mem} : ∀ (l1 : Int) (m : Mem), inR l1 → f_X4_remove l1 m = some r → VV RX4 cX4_remove 3 rm_X4_remove mmG0 (mmPi r) 0 [(0, .ref 51), (1, vi l1)] [] m := by
  intro l1 m hr1 E
  unfold f_X4_remove at E
  refine V_aload_n 0 dX4_remove_0 rfl ?_
  refine V_iload_n 1 dX4_remove_1 rfl ?_
  obtain ⟨q1, hq1, E⟩ := mmB_e E
  refine V_callV (ci := 4) (q := (RX4, TX4, 12)) (Cn := RX4) (st := []) 1 dX4_remove_2 (ct_X4_rankOf hr1 hq1) ml_X4_50 im_X4_rankOf sl_X4_rankOf it_X4 cd_X4_rankOf hy_X4_rankOf ⟨rfl, rfl, by decide, by decide⟩ sh_51 rfl rfl rfl rfl (Nat.le_of_ble_eq_true rfl) (fun hv2 => ?_)
  refine V_istore_n (i := 2) (lv' := [(0, .ref 51), (1, vi l1), (2, vi q1.1)]) dX4_remove_5 rfl rfl rfl ?_
  refine V_iload_n 2 dX4_remove_6 rfl ?_
  refine V_bipush (v := (-5)) dX4_remove_7 (by decide) ?_
  refine V_icmp_ne 14 dX4_remove_9 (by decide) hv2 ir_m5 (fun c3 => ?_) (fun c3 => ?_)
  · replace E := mmI_f c3 E
    refine V_aload_n 0 dX4_remove_14 rfl ?_
    obtain ⟨q4, hq4, E⟩ := mmB_e E
    refine V_callVv (ci := 4) (q := (RX4, TX4, 12)) (Cn := RX4) (st := []) 0 dX4_remove_15 (ct_X4_remember hq4) ml_X4_82 im_X4_remember sl_X4_remember it_X4 cd_X4_remember hy_X4_remember ⟨rfl, rfl, by decide, by decide⟩ sh_51 rfl rfl rfl rfl (Nat.le_of_ble_eq_true rfl) ?_
    refine V_aload_n 0 dX4_remove_18 rfl ?_
    refine V_iload_n 2 dX4_remove_19 rfl ?_
    obtain ⟨q6, hq6, E⟩ := mmB_e E
    refine V_callVv (ci := 4) (q := (RX4, TX4, 12)) (Cn := RX4) (st := []) 1 dX4_remove_20 (ct_X4_takesOut hv2 hq6) ml_X4_78 im_X4_takesOut sl_X4_takesOut it_X4 cd_X4_takesOut hy_X4_takesOut ⟨rfl, rfl, by decide, by decide⟩ sh_51 rfl rfl rfl rfl (Nat.le_of_ble_eq_true rfl) ?_
    refine V_aload_n 0 dX4_remove_23 rfl ?_
    refine V_aload_n 0 dX4_remove_24 rfl ?_
    refine V_geta (ci := 4) (k := 0) (N := 12) (T := TX4) (o' := 52) dX4_remove_25 iuX4 fl_X4_7 rfl (by decide) rfl sh_51 rfl ?_
    refine V_iconst dX4_remove_28 rfl ?_
    refine V_iald (n := 149) (j := 0) dX4_remove_29 sh_52 ir_0 (by decide) rfl (fun hv9 => ?_)
    obtain ⟨q10, hq10, E⟩ := mmB_e E
    refine V_callV (ci := 4) (q := (RX4, TX4, 12)) (Cn := RX4) (st := []) 1 dX4_remove_30 (ct_X4_acted hv9 hq10) ml_X4_89 im_X4_acted sl_X4_acted it_X4 cd_X4_acted hy_X4_acted ⟨rfl, rfl, by decide, by decide⟩ sh_51 rfl rfl rfl rfl (Nat.le_of_ble_eq_true rfl) (fun hv11 => ?_)
    obtain rfl := Option.some.inj E
    exact V_reti dX4_remove_33 ⟨rfl, rfl, hv11⟩
  · replace E := mmI_t c3 E
    refine V_iconst dX4_remove_12 rfl ?_
    obtain rfl := Option.some.inj E
    exact V_reti dX4_remove_13 ⟨rfl, rfl, ir_m1⟩
theorem ct_X4_remove {l1 : Int} {m : Mem} {r : Int × Mem} (hr1 : inR l1) (E : f_X4_remove l1 m = some r) : CTi yX4_remove cX4_remove 3 (some .int) rm_X4_remove [.ref 51, vi l1] m r := CT_i (by decide +kernel) rfl (Nat.le_of_ble_eq_true rfl) (ok_X4_remove _ _ hr1 E)
theorem hy_X4_remove : yX4_remove.cls = RX4 ∧ yX4_remove.cls ≠ "java/lang/invoke/MethodHandle" ∧ yX4_remove.cls ≠ "java/lang/invoke/VarHandle" ∧ (parseMethodDescriptor yX4_remove.desc).map (fun d => d.parameters.length) = some 1 := by decide +kernel
abbrev rm_X4_rename : Room := { frames := 2, cells := 0, slots := 0, locals := 45 }
def f_X4_rename_L77 : Nat → Int → Int → Int → Int → Int → Mem → Option (Int × Mem)
  | 0, _, _, _, _, _, _ => none
  | n + 1, l1, l2, l4, l5, l6, m =>
    if (m.1 52 0) ≤ l6 then
((f_X4_acted l5 m).bind (fun q23 => some (q23.1, q23.2)))
else
(if l4 = 0 then
((f_X4_of l6 5 m).bind (fun q26 => (f_X4_sets l6 5 q26.1 q26.2).bind (fun q28 => mmK (inR (l6 + 1)) (f_X4_rename_L77 n l1 l2 l4 l5 (l6 + 1) q28))))
else
((f_X4_of l6 5 m).bind (fun q31 => if q31.1 = l1 then
((f_X4_sets l6 5 l2 q31.2).bind (fun q39 => mmK (inR (l6 + 1)) (f_X4_rename_L77 n l1 l2 l4 l5 (l6 + 1) q39)))
else
((f_X4_of l6 5 q31.2).bind (fun q34 => (f_X4_sets l6 5 q34.1 q34.2).bind (fun q36 => mmK (inR (l6 + 1)) (f_X4_rename_L77 n l1 l2 l4 l5 (l6 + 1) q36)))))))
set_option maxRecDepth 100000 in
set_option maxHeartbeats 4000000 in
theorem ok_X4_rename_L77 {r : Int × Mem} : ∀ (n : Nat), ∀ (l1 : Int) (l2 : Int) (l4 : Int) (l5 : Int) (l6 : Int) (m : Mem), inR l1 → inR l2 → inR l4 → inR l5 → inR l6 → f_X4_rename_L77 n l1 l2 l4 l5 l6 m = some r → VV RX4 cX4_rename 7 rm_X4_rename mmG0 (mmPi r) 77 [(0, .ref 51), (1, vi l1), (2, vi l2), (4, vi l4), (5, vi l5), (6, vi l6)] [] m := by
  intro n
  induction n with
  | zero =>
    intro l1 l2 l4 l5 l6 m hr1 hr2 hr4 hr5 hr6 E
    cases E
  | succ n ih =>
    intro l1 l2 l4 l5 l6 m hr1 hr2 hr4 hr5 hr6 E
    rw [f_X4_rename_L77] at E
    refine V_iload 5 dX4_rename_77 rfl ?_
    refine V_aload_n 0 dX4_rename_79 rfl ?_
    refine V_geta (ci := 4) (k := 0) (N := 12) (T := TX4) (o' := 52) dX4_rename_80 iuX4 fl_X4_7 rfl (by decide) rfl sh_51 rfl ?_
    refine V_iconst dX4_rename_83 rfl ?_
    refine V_iald (n := 149) (j := 0) dX4_rename_84 sh_52 ir_0 (by decide) rfl (fun hv21 => ?_)
    refine V_icmp_ge 128 dX4_rename_85 (by decide) hr6 hv21 (fun c22 => ?_) (fun c22 => ?_)
    · replace E := mmI_t c22 E
      refine V_aload_n 0 dX4_rename_128 rfl ?_
      refine V_iload 4 dX4_rename_129 rfl ?_
      obtain ⟨q23, hq23, E⟩ := mmB_e E
      refine V_callV (ci := 4) (q := (RX4, TX4, 12)) (Cn := RX4) (st := []) 1 dX4_rename_131 (ct_X4_acted hr5 hq23) ml_X4_89 im_X4_acted sl_X4_acted it_X4 cd_X4_acted hy_X4_acted ⟨rfl, rfl, by decide, by decide⟩ sh_51 rfl rfl rfl rfl (Nat.le_of_ble_eq_true rfl) (fun hv24 => ?_)
      obtain rfl := Option.some.inj E
      exact V_reti dX4_rename_134 ⟨rfl, rfl, hv24⟩
    · replace E := mmI_f c22 E
      refine V_aload_n 0 dX4_rename_88 rfl ?_
      refine V_iload 5 dX4_rename_89 rfl ?_
      refine V_iconst dX4_rename_91 rfl ?_
      refine V_iload 3 dX4_rename_92 rfl ?_
      refine V_if_eq 112 dX4_rename_94 (by decide) hr4 (fun c25 => ?_) (fun c25 => ?_)
      · replace E := mmI_t c25 E
        refine V_aload_n 0 dX4_rename_112 rfl ?_
        refine V_iload 5 dX4_rename_113 rfl ?_
        refine V_iconst dX4_rename_115 rfl ?_
        obtain ⟨q26, hq26, E⟩ := mmB_e E
        refine V_callV (ci := 4) (q := (RX4, TX4, 12)) (Cn := RX4) (st := [vi 5, vi l6, .ref 51]) 2 dX4_rename_116 (ct_X4_of hr6 ir_5 hq26) ml_X4_38 im_X4_of sl_X4_of it_X4 cd_X4_of hy_X4_of ⟨rfl, rfl, by decide, by decide⟩ sh_51 rfl rfl rfl rfl (Nat.le_of_ble_eq_true rfl) (fun hv27 => ?_)
        obtain ⟨q28, hq28, E⟩ := mmB_e E
        refine V_callVv (ci := 4) (q := (RX4, TX4, 12)) (Cn := RX4) (st := []) 3 dX4_rename_119 (ct_X4_sets hr6 ir_5 hv27 hq28) ml_X4_42 im_X4_sets sl_X4_sets it_X4 cd_X4_sets hy_X4_sets ⟨rfl, rfl, by decide, by decide⟩ sh_51 rfl rfl rfl rfl (Nat.le_of_ble_eq_true rfl) ?_
        obtain ⟨hv30, E⟩ := mmK_e E
        refine V_iinc (v := (l6 + 1)) (lv' := [(0, .ref 51), (1, vi l1), (2, vi l2), (4, vi l4), (5, vi l5), (6, vi (l6 + 1))]) 5 dX4_rename_122 rfl rfl rfl rfl ?_
        refine V_goto 77 dX4_rename_125 (by decide) ?_
        exact ih _ _ _ _ _ _ hr1 hr2 hr4 hr5 hv30 E
      · replace E := mmI_f c25 E
        refine V_aload_n 0 dX4_rename_97 rfl ?_
        refine V_iload 5 dX4_rename_98 rfl ?_
        refine V_iconst dX4_rename_100 rfl ?_
        obtain ⟨q31, hq31, E⟩ := mmB_e E
        refine V_callV (ci := 4) (q := (RX4, TX4, 12)) (Cn := RX4) (st := [vi 5, vi l6, .ref 51]) 2 dX4_rename_101 (ct_X4_of hr6 ir_5 hq31) ml_X4_38 im_X4_of sl_X4_of it_X4 cd_X4_of hy_X4_of ⟨rfl, rfl, by decide, by decide⟩ sh_51 rfl rfl rfl rfl (Nat.le_of_ble_eq_true rfl) (fun hv32 => ?_)
        refine V_iload_n 1 dX4_rename_104 rfl ?_
        refine V_icmp_ne 112 dX4_rename_105 (by decide) hv32 hr1 (fun c33 => ?_) (fun c33 => ?_)
        · replace E := mmI_f c33 E
          refine V_aload_n 0 dX4_rename_112 rfl ?_
          refine V_iload 5 dX4_rename_113 rfl ?_
          refine V_iconst dX4_rename_115 rfl ?_
          obtain ⟨q34, hq34, E⟩ := mmB_e E
          refine V_callV (ci := 4) (q := (RX4, TX4, 12)) (Cn := RX4) (st := [vi 5, vi l6, .ref 51]) 2 dX4_rename_116 (ct_X4_of hr6 ir_5 hq34) ml_X4_38 im_X4_of sl_X4_of it_X4 cd_X4_of hy_X4_of ⟨rfl, rfl, by decide, by decide⟩ sh_51 rfl rfl rfl rfl (Nat.le_of_ble_eq_true rfl) (fun hv35 => ?_)
          obtain ⟨q36, hq36, E⟩ := mmB_e E
          refine V_callVv (ci := 4) (q := (RX4, TX4, 12)) (Cn := RX4) (st := []) 3 dX4_rename_119 (ct_X4_sets hr6 ir_5 hv35 hq36) ml_X4_42 im_X4_sets sl_X4_sets it_X4 cd_X4_sets hy_X4_sets ⟨rfl, rfl, by decide, by decide⟩ sh_51 rfl rfl rfl rfl (Nat.le_of_ble_eq_true rfl) ?_
          obtain ⟨hv38, E⟩ := mmK_e E
          refine V_iinc (v := (l6 + 1)) (lv' := [(0, .ref 51), (1, vi l1), (2, vi l2), (4, vi l4), (5, vi l5), (6, vi (l6 + 1))]) 5 dX4_rename_122 rfl rfl rfl rfl ?_
          refine V_goto 77 dX4_rename_125 (by decide) ?_
          exact ih _ _ _ _ _ _ hr1 hr2 hr4 hr5 hv38 E
        · replace E := mmI_t c33 E
          refine V_iload_n 2 dX4_rename_108 rfl ?_
          refine V_goto 119 dX4_rename_109 (by decide) ?_
          obtain ⟨q39, hq39, E⟩ := mmB_e E
          refine V_callVv (ci := 4) (q := (RX4, TX4, 12)) (Cn := RX4) (st := []) 3 dX4_rename_119 (ct_X4_sets hr6 ir_5 hr2 hq39) ml_X4_42 im_X4_sets sl_X4_sets it_X4 cd_X4_sets hy_X4_sets ⟨rfl, rfl, by decide, by decide⟩ sh_51 rfl rfl rfl rfl (Nat.le_of_ble_eq_true rfl) ?_
          obtain ⟨hv41, E⟩ := mmK_e E
          refine V_iinc (v := (l6 + 1)) (lv' := [(0, .ref 51), (1, vi l1), (2, vi l2), (4, vi l4), (5, vi l5), (6, vi (l6 + 1))]) 5 dX4_rename_122 rfl rfl rfl rfl ?_
          refine V_goto 77 dX4_rename_125 (by decide) ?_
          exact ih _ _ _ _ _ _ hr1 hr2 hr4 hr5 hv41 E
def f_X4_rename (l1 : Int) (l2 : Int) (m : Mem) : Option (Int × Mem) :=
  (f_X4_rankOf l1 m).bind (fun q1 => if q1.1 = (-5) then
(some ((-1), q1.2))
else
((f_X4_isName l2 q1.2).bind (fun q4 => if q4.1 = 0 then
(some ((-2), q4.2))
else
(if l2 = l1 then
(some ((-5), q4.2))
else
((f_X4_rankOf l2 q4.2).bind (fun q8 => if q8.1 = (-5) then
((f_X4_remember q8.2).bind (fun q11 => (f_X4_isMember q1.1 q11).bind (fun q13 => (f_X4_takesOut q1.1 q13.2).bind (fun q15 => (f_X4_putsIn (mwr q15 56 0 l2)).bind (fun q18 => f_X4_rename_L77 mmFU l1 l2 q13.1 q18.1 0 q18.2)))))
else
(some ((-7), q8.2))))))))
set_option maxRecDepth 100000 in
set_option maxHeartbeats 4000000 in
theorem ok_X4_rename {r : Int × Mem} : ∀ (l1 : Int) (l2 : Int) (m : Mem), inR l1 → inR l2 → f_X4_rename l1 l2 m = some r → VV RX4 cX4_rename 7 rm_X4_rename mmG0 (mmPi r) 0 [(0, .ref 51), (1, vi l1), (2, vi l2)] [] m := by
  intro l1 l2 m hr1 hr2 E
  unfold f_X4_rename at E
  refine V_aload_n 0 dX4_rename_0 rfl ?_
  refine V_iload_n 1 dX4_rename_1 rfl ?_
  obtain ⟨q1, hq1, E⟩ := mmB_e E
  refine V_callV (ci := 4) (q := (RX4, TX4, 12)) (Cn := RX4) (st := []) 1 dX4_rename_2 (ct_X4_rankOf hr1 hq1) ml_X4_50 im_X4_rankOf sl_X4_rankOf it_X4 cd_X4_rankOf hy_X4_rankOf ⟨rfl, rfl, by decide, by decide⟩ sh_51 rfl rfl rfl rfl (Nat.le_of_ble_eq_true rfl) (fun hv2 => ?_)
  refine V_istore_n (i := 3) (lv' := [(0, .ref 51), (1, vi l1), (2, vi l2), (3, vi q1.1)]) dX4_rename_5 rfl rfl rfl ?_
  refine V_iload_n 3 dX4_rename_6 rfl ?_
  refine V_bipush (v := (-5)) dX4_rename_7 (by decide) ?_
  refine V_icmp_ne 14 dX4_rename_9 (by decide) hv2 ir_m5 (fun c3 => ?_) (fun c3 => ?_)
  · replace E := mmI_f c3 E
    refine V_iload_n 2 dX4_rename_14 rfl ?_
    obtain ⟨q4, hq4, E⟩ := mmB_e E
    refine V_callS (st := []) 1 dX4_rename_15 (ct_X4_isName hr2 hq4) ml_X4_57 st_X4_isName it_X4 cd_X4_isName hz_X4_isName ⟨rfl, rfl, by decide, by decide⟩ rfl rfl (Nat.le_of_ble_eq_true rfl) (fun hv5 => ?_)
    refine V_if_ne 24 dX4_rename_18 (by decide) hv5 (fun c6 => ?_) (fun c6 => ?_)
    · replace E := mmI_f c6 E
      refine V_iload_n 2 dX4_rename_24 rfl ?_
      refine V_iload_n 1 dX4_rename_25 rfl ?_
      refine V_icmp_ne 32 dX4_rename_26 (by decide) hr2 hr1 (fun c7 => ?_) (fun c7 => ?_)
      · replace E := mmI_f c7 E
        refine V_aload_n 0 dX4_rename_32 rfl ?_
        refine V_iload_n 2 dX4_rename_33 rfl ?_
        obtain ⟨q8, hq8, E⟩ := mmB_e E
        refine V_callV (ci := 4) (q := (RX4, TX4, 12)) (Cn := RX4) (st := []) 1 dX4_rename_34 (ct_X4_rankOf hr2 hq8) ml_X4_50 im_X4_rankOf sl_X4_rankOf it_X4 cd_X4_rankOf hy_X4_rankOf ⟨rfl, rfl, by decide, by decide⟩ sh_51 rfl rfl rfl rfl (Nat.le_of_ble_eq_true rfl) (fun hv9 => ?_)
        refine V_bipush (v := (-5)) dX4_rename_37 (by decide) ?_
        refine V_icmp_eq 45 dX4_rename_39 (by decide) hv9 ir_m5 (fun c10 => ?_) (fun c10 => ?_)
        · replace E := mmI_t c10 E
          refine V_aload_n 0 dX4_rename_45 rfl ?_
          obtain ⟨q11, hq11, E⟩ := mmB_e E
          refine V_callVv (ci := 4) (q := (RX4, TX4, 12)) (Cn := RX4) (st := []) 0 dX4_rename_46 (ct_X4_remember hq11) ml_X4_82 im_X4_remember sl_X4_remember it_X4 cd_X4_remember hy_X4_remember ⟨rfl, rfl, by decide, by decide⟩ sh_51 rfl rfl rfl rfl (Nat.le_of_ble_eq_true rfl) ?_
          refine V_aload_n 0 dX4_rename_49 rfl ?_
          refine V_iload_n 3 dX4_rename_50 rfl ?_
          obtain ⟨q13, hq13, E⟩ := mmB_e E
          refine V_callV (ci := 4) (q := (RX4, TX4, 12)) (Cn := RX4) (st := []) 1 dX4_rename_51 (ct_X4_isMember hv2 hq13) ml_X4_53 im_X4_isMember sl_X4_isMember it_X4 cd_X4_isMember hy_X4_isMember ⟨rfl, rfl, by decide, by decide⟩ sh_51 rfl rfl rfl rfl (Nat.le_of_ble_eq_true rfl) (fun hv14 => ?_)
          refine V_istore (lv' := [(0, .ref 51), (1, vi l1), (2, vi l2), (3, vi q1.1), (4, vi q13.1)]) dX4_rename_54 rfl rfl ?_
          refine V_aload_n 0 dX4_rename_56 rfl ?_
          refine V_iload_n 3 dX4_rename_57 rfl ?_
          obtain ⟨q15, hq15, E⟩ := mmB_e E
          refine V_callVv (ci := 4) (q := (RX4, TX4, 12)) (Cn := RX4) (st := []) 1 dX4_rename_58 (ct_X4_takesOut hv2 hq15) ml_X4_78 im_X4_takesOut sl_X4_takesOut it_X4 cd_X4_takesOut hy_X4_takesOut ⟨rfl, rfl, by decide, by decide⟩ sh_51 rfl rfl rfl rfl (Nat.le_of_ble_eq_true rfl) ?_
          refine V_aload_n 0 dX4_rename_61 rfl ?_
          refine V_geta (ci := 4) (k := 6) (N := 12) (T := TX4) (o' := 56) dX4_rename_62 iuX4 fl_X4_22 rfl (by decide) rfl sh_51 rfl ?_
          refine V_iconst dX4_rename_65 rfl ?_
          refine V_iload_n 2 dX4_rename_66 rfl ?_
          refine V_iast (n := 6) (j := 0) dX4_rename_67 sh_56 ir_0 hr2 (by decide) rfl ?_
          refine V_aload_n 0 dX4_rename_68 rfl ?_
          obtain ⟨q18, hq18, E⟩ := mmB_e E
          refine V_callV (ci := 4) (q := (RX4, TX4, 12)) (Cn := RX4) (st := []) 0 dX4_rename_69 (ct_X4_putsIn hq18) ml_X4_71 im_X4_putsIn sl_X4_putsIn it_X4 cd_X4_putsIn hy_X4_putsIn ⟨rfl, rfl, by decide, by decide⟩ sh_51 rfl rfl rfl rfl (Nat.le_of_ble_eq_true rfl) (fun hv19 => ?_)
          refine V_istore (lv' := [(0, .ref 51), (1, vi l1), (2, vi l2), (3, vi q1.1), (4, vi q13.1), (5, vi q18.1)]) dX4_rename_72 rfl rfl ?_
          refine V_iconst dX4_rename_74 rfl ?_
          refine V_istore (lv' := [(0, .ref 51), (1, vi l1), (2, vi l2), (3, vi q1.1), (4, vi q13.1), (5, vi q18.1), (6, vi 0)]) dX4_rename_75 rfl rfl ?_
          refine V_sub [0, 1, 2, 4, 5, 6] rfl ?_
          exact ok_X4_rename_L77 mmFU _ _ _ _ _ _ hr1 hr2 hv14 hv19 ir_0 E
        · replace E := mmI_f c10 E
          refine V_bipush (v := (-7)) dX4_rename_42 (by decide) ?_
          obtain rfl := Option.some.inj E
          exact V_reti dX4_rename_44 ⟨rfl, rfl, ir_m7⟩
      · replace E := mmI_t c7 E
        refine V_bipush (v := (-5)) dX4_rename_29 (by decide) ?_
        obtain rfl := Option.some.inj E
        exact V_reti dX4_rename_31 ⟨rfl, rfl, ir_m5⟩
    · replace E := mmI_t c6 E
      refine V_bipush (v := (-2)) dX4_rename_21 (by decide) ?_
      obtain rfl := Option.some.inj E
      exact V_reti dX4_rename_23 ⟨rfl, rfl, ir_m2⟩
  · replace E := mmI_t c3 E
    refine V_iconst dX4_rename_12 rfl ?_
    obtain rfl := Option.some.inj E
    exact V_reti dX4_rename_13 ⟨rfl, rfl, ir_m1⟩
theorem ct_X4_rename {l1 : Int} {l2 : Int} {m : Mem} {r : Int × Mem} (hr1 : inR l1) (hr2 : inR l2) (E : f_X4_rename l1 l2 m = some r) : CTi yX4_rename cX4_rename 7 (some .int) rm_X4_rename [.ref 51, vi l1, vi l2] m r := CT_i (by decide +kernel) rfl (Nat.le_of_ble_eq_true rfl) (ok_X4_rename _ _ _ hr1 hr2 E)
theorem hy_X4_rename : yX4_rename.cls = RX4 ∧ yX4_rename.cls ≠ "java/lang/invoke/MethodHandle" ∧ yX4_rename.cls ≠ "java/lang/invoke/VarHandle" ∧ (parseMethodDescriptor yX4_rename.desc).map (fun d => d.parameters.length) = some 2 := by decide +kernel
abbrev rm_X4_alias : Room := { frames := 3, cells := 0, slots := 0, locals := 73 }
def f_X4_alias (l1 : Int) (l2 : Int) (m : Mem) : Option (Int × Mem) :=
  (f_X4_remember m).bind (fun q1 => (f_X4_doAlias l1 l2 q1).bind (fun q3 => if 0 ≤ q3.1 then
((f_X4_acted q3.1 q3.2).bind (fun q6 => some (q6.1, q6.2)))
else
(some (q3.1, q3.2))))
set_option maxRecDepth 100000 in
set_option maxHeartbeats 4000000 in
theorem ok_X4_alias {r : Int × Mem} : ∀ (l1 : Int) (l2 : Int) (m : Mem), inR l1 → inR l2 → f_X4_alias l1 l2 m = some r → VV RX4 cX4_alias 4 rm_X4_alias mmG0 (mmPi r) 0 [(0, .ref 51), (1, vi l1), (2, vi l2)] [] m := by
  intro l1 l2 m hr1 hr2 E
  unfold f_X4_alias at E
  refine V_aload_n 0 dX4_alias_0 rfl ?_
  obtain ⟨q1, hq1, E⟩ := mmB_e E
  refine V_callVv (ci := 4) (q := (RX4, TX4, 12)) (Cn := RX4) (st := []) 0 dX4_alias_1 (ct_X4_remember hq1) ml_X4_82 im_X4_remember sl_X4_remember it_X4 cd_X4_remember hy_X4_remember ⟨rfl, rfl, by decide, by decide⟩ sh_51 rfl rfl rfl rfl (Nat.le_of_ble_eq_true rfl) ?_
  refine V_aload_n 0 dX4_alias_4 rfl ?_
  refine V_iload_n 1 dX4_alias_5 rfl ?_
  refine V_iload_n 2 dX4_alias_6 rfl ?_
  obtain ⟨q3, hq3, E⟩ := mmB_e E
  refine V_callV (ci := 4) (q := (RX4, TX4, 12)) (Cn := RX4) (st := []) 2 dX4_alias_7 (ct_X4_doAlias hr1 hr2 hq3) ml_X4_92 im_X4_doAlias sl_X4_doAlias it_X4 cd_X4_doAlias hy_X4_doAlias ⟨rfl, rfl, by decide, by decide⟩ sh_51 rfl rfl rfl rfl (Nat.le_of_ble_eq_true rfl) (fun hv4 => ?_)
  refine V_istore_n (i := 3) (lv' := [(0, .ref 51), (1, vi l1), (2, vi l2), (3, vi q3.1)]) dX4_alias_10 rfl rfl rfl ?_
  refine V_iload_n 3 dX4_alias_11 rfl ?_
  refine V_if_ge 19 dX4_alias_12 (by decide) hv4 (fun c5 => ?_) (fun c5 => ?_)
  · replace E := mmI_t c5 E
    refine V_aload_n 0 dX4_alias_19 rfl ?_
    refine V_iload_n 3 dX4_alias_20 rfl ?_
    obtain ⟨q6, hq6, E⟩ := mmB_e E
    refine V_callV (ci := 4) (q := (RX4, TX4, 12)) (Cn := RX4) (st := []) 1 dX4_alias_21 (ct_X4_acted hv4 hq6) ml_X4_89 im_X4_acted sl_X4_acted it_X4 cd_X4_acted hy_X4_acted ⟨rfl, rfl, by decide, by decide⟩ sh_51 rfl rfl rfl rfl (Nat.le_of_ble_eq_true rfl) (fun hv7 => ?_)
    obtain rfl := Option.some.inj E
    exact V_reti dX4_alias_24 ⟨rfl, rfl, hv7⟩
  · replace E := mmI_f c5 E
    refine V_iload_n 3 dX4_alias_15 rfl ?_
    refine V_goto 24 dX4_alias_16 (by decide) ?_
    obtain rfl := Option.some.inj E
    exact V_reti dX4_alias_24 ⟨rfl, rfl, hv4⟩
theorem ct_X4_alias {l1 : Int} {l2 : Int} {m : Mem} {r : Int × Mem} (hr1 : inR l1) (hr2 : inR l2) (E : f_X4_alias l1 l2 m = some r) : CTi yX4_alias cX4_alias 4 (some .int) rm_X4_alias [.ref 51, vi l1, vi l2] m r := CT_i (by decide +kernel) rfl (Nat.le_of_ble_eq_true rfl) (ok_X4_alias _ _ _ hr1 hr2 E)
theorem hy_X4_alias : yX4_alias.cls = RX4 ∧ yX4_alias.cls ≠ "java/lang/invoke/MethodHandle" ∧ yX4_alias.cls ≠ "java/lang/invoke/VarHandle" ∧ (parseMethodDescriptor yX4_alias.desc).map (fun d => d.parameters.length) = some 2 := by decide +kernel
abbrev rm_X4_type : Room := { frames := 0, cells := 0, slots := 0, locals := 0 }
def f_X4_type (l1 : Int) (m : Mem) : Option (Int × Mem) :=
  if (m.1 51 8) = 60 then
(some ((-3), m))
else
(mmK (0 ≤ (m.1 51 8) ∧ (m.1 51 8) < 60) (mmK (inR (((mwr m 57 ((m.1 51 8)).toNat l1).1 51 8) + 1)) (some (((mwr (mwr m 57 ((m.1 51 8)).toNat l1) 51 8 (((mwr m 57 ((m.1 51 8)).toNat l1).1 51 8) + 1)).1 51 8), (mwr (mwr m 57 ((m.1 51 8)).toNat l1) 51 8 (((mwr m 57 ((m.1 51 8)).toNat l1).1 51 8) + 1))))))
set_option maxRecDepth 100000 in
set_option maxHeartbeats 4000000 in
theorem ok_X4_type {r : Int × Mem} : ∀ (l1 : Int) (m : Mem), inR l1 → f_X4_type l1 m = some r → VV RX4 cX4_type 2 rm_X4_type mmG0 (mmPi r) 0 [(0, .ref 51), (1, vi l1)] [] m := by
  intro l1 m hr1 E
  unfold f_X4_type at E
  refine V_aload_n 0 dX4_type_0 rfl ?_
  refine V_geti (ci := 4) (k := 8) (N := 12) (T := TX4) dX4_type_1 iuX4 fl_X4_95 rfl (by decide) rfl sh_51 (fun hv1 => ?_)
  refine V_bipush (v := 60) dX4_type_4 (by decide) ?_
  refine V_icmp_ne 12 dX4_type_6 (by decide) hv1 ir_60 (fun c2 => ?_) (fun c2 => ?_)
  · replace E := mmI_f c2 E
    refine V_aload_n 0 dX4_type_12 rfl ?_
    refine V_geta (ci := 4) (k := 7) (N := 12) (T := TX4) (o' := 57) dX4_type_13 iuX4 fl_X4_25 rfl (by decide) rfl sh_51 rfl ?_
    refine V_aload_n 0 dX4_type_16 rfl ?_
    refine V_geti (ci := 4) (k := 8) (N := 12) (T := TX4) dX4_type_17 iuX4 fl_X4_95 rfl (by decide) rfl sh_51 (fun hv3 => ?_)
    refine V_iload_n 1 dX4_type_20 rfl ?_
    obtain ⟨hv4, E⟩ := mmK_e E
    refine V_iast (n := 60) (j := ((m.1 51 8)).toNat) dX4_type_21 sh_57 hv3 hr1 hv4 rfl ?_
    refine V_aload_n 0 dX4_type_22 rfl ?_
    refine V_dupa dX4_type_23 ?_
    refine V_geti (ci := 4) (k := 8) (N := 12) (T := TX4) dX4_type_24 iuX4 fl_X4_95 rfl (by decide) rfl sh_51 (fun hv5 => ?_)
    refine V_iconst dX4_type_27 rfl ?_
    obtain ⟨hv6, E⟩ := mmK_e E
    refine V_iadd dX4_type_28 ?_
    refine V_put (ci := 4) (k := 8) (N := 12) (T := TX4) (x := (((mwr m 57 ((m.1 51 8)).toNat l1).1 51 8) + 1)) (ty := .int) tyX4 dX4_type_29 iuX4 tyX4_ok nmX4 fl_X4_95 rfl (by decide) rfl sh_51 rfl (by decide +kernel) rfl rfl hv6 ?_
    refine V_aload_n 0 dX4_type_32 rfl ?_
    refine V_geti (ci := 4) (k := 8) (N := 12) (T := TX4) dX4_type_33 iuX4 fl_X4_95 rfl (by decide) rfl sh_51 (fun hv7 => ?_)
    obtain rfl := Option.some.inj E
    exact V_reti dX4_type_36 ⟨rfl, rfl, hv7⟩
  · replace E := mmI_t c2 E
    refine V_bipush (v := (-3)) dX4_type_9 (by decide) ?_
    obtain rfl := Option.some.inj E
    exact V_reti dX4_type_11 ⟨rfl, rfl, ir_m3⟩
theorem ct_X4_type {l1 : Int} {m : Mem} {r : Int × Mem} (hr1 : inR l1) (E : f_X4_type l1 m = some r) : CTi yX4_type cX4_type 2 (some .int) rm_X4_type [.ref 51, vi l1] m r := CT_i (by decide +kernel) rfl (Nat.le_of_ble_eq_true rfl) (ok_X4_type _ _ hr1 E)
theorem hy_X4_type : yX4_type.cls = RX4 ∧ yX4_type.cls ≠ "java/lang/invoke/MethodHandle" ∧ yX4_type.cls ≠ "java/lang/invoke/VarHandle" ∧ (parseMethodDescriptor yX4_type.desc).map (fun d => d.parameters.length) = some 1 := by decide +kernel
abbrev rm_X4_clearPad : Room := { frames := 0, cells := 0, slots := 0, locals := 0 }
def f_X4_clearPad (m : Mem) : Option (Int × Mem) :=
  some ((m.1 51 8), (mwr m 51 8 0))
set_option maxRecDepth 100000 in
set_option maxHeartbeats 4000000 in
theorem ok_X4_clearPad {r : Int × Mem} : ∀ (m : Mem), f_X4_clearPad m = some r → VV RX4 cX4_clearPad 2 rm_X4_clearPad mmG0 (mmPi r) 0 [(0, .ref 51)] [] m := by
  intro m E
  unfold f_X4_clearPad at E
  refine V_aload_n 0 dX4_clearPad_0 rfl ?_
  refine V_geti (ci := 4) (k := 8) (N := 12) (T := TX4) dX4_clearPad_1 iuX4 fl_X4_95 rfl (by decide) rfl sh_51 (fun hv1 => ?_)
  refine V_istore_n (i := 1) (lv' := [(0, .ref 51), (1, vi (m.1 51 8))]) dX4_clearPad_4 rfl rfl rfl ?_
  refine V_aload_n 0 dX4_clearPad_5 rfl ?_
  refine V_iconst dX4_clearPad_6 rfl ?_
  refine V_put (ci := 4) (k := 8) (N := 12) (T := TX4) (x := 0) (ty := .int) tyX4 dX4_clearPad_7 iuX4 tyX4_ok nmX4 fl_X4_95 rfl (by decide) rfl sh_51 rfl (by decide +kernel) rfl rfl ir_0 ?_
  refine V_iload_n 1 dX4_clearPad_10 rfl ?_
  obtain rfl := Option.some.inj E
  exact V_reti dX4_clearPad_11 ⟨rfl, rfl, hv1⟩
theorem ct_X4_clearPad {m : Mem} {r : Int × Mem} (E : f_X4_clearPad m = some r) : CTi yX4_clearPad cX4_clearPad 2 (some .int) rm_X4_clearPad [.ref 51] m r := CT_i (by decide +kernel) rfl (Nat.le_of_ble_eq_true rfl) (ok_X4_clearPad  _  E)
theorem hy_X4_clearPad : yX4_clearPad.cls = RX4 ∧ yX4_clearPad.cls ≠ "java/lang/invoke/MethodHandle" ∧ yX4_clearPad.cls ≠ "java/lang/invoke/VarHandle" ∧ (parseMethodDescriptor yX4_clearPad.desc).map (fun d => d.parameters.length) = some 0 := by decide +kernel
abbrev rm_X4_isHere : Room := { frames := 1, cells := 0, slots := 0, locals := 25 }
def f_X4_isHere (l1 : Int) (l2 : Int) (m : Mem) : Option (Int × Mem) :=
  if (m.1 51 8) ≤ (m.1 51 9) then
(some (0, m))
else
(mmK (0 ≤ (m.1 51 9) ∧ (m.1 51 9) < 60) ((f_X4_in (m.1 57 ((m.1 51 9)).toNat) l1 l2 m).bind (fun q7 => if q7.1 = 0 then
(some (0, q7.2))
else
(some (1, q7.2)))))
set_option maxRecDepth 100000 in
set_option maxHeartbeats 4000000 in
theorem ok_X4_isHere {r : Int × Mem} : ∀ (l1 : Int) (l2 : Int) (m : Mem), inR l1 → inR l2 → f_X4_isHere l1 l2 m = some r → VV RX4 cX4_isHere 3 rm_X4_isHere mmG0 (mmPz r) 0 [(0, .ref 51), (1, vi l1), (2, vi l2)] [] m := by
  intro l1 l2 m hr1 hr2 E
  unfold f_X4_isHere at E
  refine V_aload_n 0 dX4_isHere_0 rfl ?_
  refine V_geti (ci := 4) (k := 9) (N := 12) (T := TX4) dX4_isHere_1 iuX4 fl_X4_98 rfl (by decide) rfl sh_51 (fun hv1 => ?_)
  refine V_aload_n 0 dX4_isHere_4 rfl ?_
  refine V_geti (ci := 4) (k := 8) (N := 12) (T := TX4) dX4_isHere_5 iuX4 fl_X4_95 rfl (by decide) rfl sh_51 (fun hv2 => ?_)
  refine V_icmp_ge 35 dX4_isHere_8 (by decide) hv1 hv2 (fun c3 => ?_) (fun c3 => ?_)
  · replace E := mmI_t c3 E
    refine V_iconst dX4_isHere_35 rfl ?_
    obtain rfl := Option.some.inj E
    exact V_reti dX4_isHere_36 ⟨rfl, rfl, (Or.inl rfl)⟩
  · replace E := mmI_f c3 E
    refine V_aload_n 0 dX4_isHere_11 rfl ?_
    refine V_geta (ci := 4) (k := 7) (N := 12) (T := TX4) (o' := 57) dX4_isHere_12 iuX4 fl_X4_25 rfl (by decide) rfl sh_51 rfl ?_
    refine V_aload_n 0 dX4_isHere_15 rfl ?_
    refine V_geti (ci := 4) (k := 9) (N := 12) (T := TX4) dX4_isHere_16 iuX4 fl_X4_98 rfl (by decide) rfl sh_51 (fun hv4 => ?_)
    obtain ⟨hv5, E⟩ := mmK_e E
    refine V_iald (n := 60) (j := ((m.1 51 9)).toNat) dX4_isHere_19 sh_57 hv4 hv5 rfl (fun hv6 => ?_)
    refine V_i2l dX4_isHere_20 hv6 ?_
    refine V_iload_n 1 dX4_isHere_21 rfl ?_
    refine V_i2l dX4_isHere_22 hr1 ?_
    refine V_iload_n 2 dX4_isHere_23 rfl ?_
    refine V_i2l dX4_isHere_24 hr2 ?_
    obtain ⟨q7, hq7, E⟩ := mmB_e E
    refine V_callS (st := []) 3 dX4_isHere_25 (ct_X4_in (inRL hv6) (inRL hr1) (inRL hr2) hq7) ml_X4_34 st_X4_in it_X4 cd_X4_in hz_X4_in ⟨rfl, rfl, by decide, by decide⟩ rfl rfl (Nat.le_of_ble_eq_true rfl) (fun hv8 => ?_)
    refine V_if_eq 35 dX4_isHere_28 (by decide) hv8 (fun c9 => ?_) (fun c9 => ?_)
    · replace E := mmI_t c9 E
      refine V_iconst dX4_isHere_35 rfl ?_
      obtain rfl := Option.some.inj E
      exact V_reti dX4_isHere_36 ⟨rfl, rfl, (Or.inl rfl)⟩
    · replace E := mmI_f c9 E
      refine V_iconst dX4_isHere_31 rfl ?_
      refine V_goto 36 dX4_isHere_32 (by decide) ?_
      obtain rfl := Option.some.inj E
      exact V_reti dX4_isHere_36 ⟨rfl, rfl, (Or.inr rfl)⟩
theorem ct_X4_isHere {l1 : Int} {l2 : Int} {m : Mem} {r : Int × Mem} (hr1 : inR l1) (hr2 : inR l2) (E : f_X4_isHere l1 l2 m = some r) : CTi yX4_isHere cX4_isHere 3 (some .boolean) rm_X4_isHere [.ref 51, vi l1, vi l2] m r := CT_z (by decide +kernel) rfl (Nat.le_of_ble_eq_true rfl) (ok_X4_isHere _ _ _ hr1 hr2 E)
theorem hy_X4_isHere : yX4_isHere.cls = RX4 ∧ yX4_isHere.cls ≠ "java/lang/invoke/MethodHandle" ∧ yX4_isHere.cls ≠ "java/lang/invoke/VarHandle" ∧ (parseMethodDescriptor yX4_isHere.desc).map (fun d => d.parameters.length) = some 2 := by decide +kernel
abbrev rm_X4_takes : Room := { frames := 2, cells := 0, slots := 0, locals := 47 }
def f_X4_takes (l1 : Int) (m : Mem) : Option (Int × Mem) :=
  (f_X4_isHere l1 l1 m).bind (fun q1 => if q1.1 = 0 then
(mmK (inR ((q1.2.1 51 9) + 0)) (mmK (q1.1 = 0 ∨ q1.1 = 1) (some (q1.1, (mwr q1.2 51 9 ((q1.2.1 51 9) + 0))))))
else
(mmK (inR ((q1.2.1 51 9) + 1)) (mmK (q1.1 = 0 ∨ q1.1 = 1) (some (q1.1, (mwr q1.2 51 9 ((q1.2.1 51 9) + 1)))))))
set_option maxRecDepth 100000 in
set_option maxHeartbeats 4000000 in
theorem ok_X4_takes {r : Int × Mem} : ∀ (l1 : Int) (m : Mem), inR l1 → f_X4_takes l1 m = some r → VV RX4 cX4_takes 3 rm_X4_takes mmG0 (mmPz r) 0 [(0, .ref 51), (1, vi l1)] [] m := by
  intro l1 m hr1 E
  unfold f_X4_takes at E
  refine V_aload_n 0 dX4_takes_0 rfl ?_
  refine V_iload_n 1 dX4_takes_1 rfl ?_
  refine V_iload_n 1 dX4_takes_2 rfl ?_
  obtain ⟨q1, hq1, E⟩ := mmB_e E
  refine V_callV (ci := 4) (q := (RX4, TX4, 12)) (Cn := RX4) (st := []) 2 dX4_takes_3 (ct_X4_isHere hr1 hr1 hq1) ml_X4_101 im_X4_isHere sl_X4_isHere it_X4 cd_X4_isHere hy_X4_isHere ⟨rfl, rfl, by decide, by decide⟩ sh_51 rfl rfl rfl rfl (Nat.le_of_ble_eq_true rfl) (fun hv2 => ?_)
  refine V_istore_n (i := 2) (lv' := [(0, .ref 51), (1, vi l1), (2, vi q1.1)]) dX4_takes_6 rfl rfl rfl ?_
  refine V_aload_n 0 dX4_takes_7 rfl ?_
  refine V_dupa dX4_takes_8 ?_
  refine V_geti (ci := 4) (k := 9) (N := 12) (T := TX4) dX4_takes_9 iuX4 fl_X4_98 rfl (by decide) rfl sh_51 (fun hv3 => ?_)
  refine V_iload_n 2 dX4_takes_12 rfl ?_
  refine V_if_eq 20 dX4_takes_13 (by decide) hv2 (fun c4 => ?_) (fun c4 => ?_)
  · replace E := mmI_t c4 E
    refine V_iconst dX4_takes_20 rfl ?_
    obtain ⟨hv5, E⟩ := mmK_e E
    refine V_iadd dX4_takes_21 ?_
    refine V_put (ci := 4) (k := 9) (N := 12) (T := TX4) (x := ((q1.2.1 51 9) + 0)) (ty := .int) tyX4 dX4_takes_22 iuX4 tyX4_ok nmX4 fl_X4_98 rfl (by decide) rfl sh_51 rfl (by decide +kernel) rfl rfl hv5 ?_
    refine V_iload_n 2 dX4_takes_25 rfl ?_
    obtain ⟨hz6, E⟩ := mmK_e E
    obtain rfl := Option.some.inj E
    exact V_reti dX4_takes_26 ⟨rfl, rfl, hz6⟩
  · replace E := mmI_f c4 E
    refine V_iconst dX4_takes_16 rfl ?_
    refine V_goto 21 dX4_takes_17 (by decide) ?_
    obtain ⟨hv7, E⟩ := mmK_e E
    refine V_iadd dX4_takes_21 ?_
    refine V_put (ci := 4) (k := 9) (N := 12) (T := TX4) (x := ((q1.2.1 51 9) + 1)) (ty := .int) tyX4 dX4_takes_22 iuX4 tyX4_ok nmX4 fl_X4_98 rfl (by decide) rfl sh_51 rfl (by decide +kernel) rfl rfl hv7 ?_
    refine V_iload_n 2 dX4_takes_25 rfl ?_
    obtain ⟨hz8, E⟩ := mmK_e E
    obtain rfl := Option.some.inj E
    exact V_reti dX4_takes_26 ⟨rfl, rfl, hz8⟩
theorem ct_X4_takes {l1 : Int} {m : Mem} {r : Int × Mem} (hr1 : inR l1) (E : f_X4_takes l1 m = some r) : CTi yX4_takes cX4_takes 3 (some .boolean) rm_X4_takes [.ref 51, vi l1] m r := CT_z (by decide +kernel) rfl (Nat.le_of_ble_eq_true rfl) (ok_X4_takes _ _ hr1 E)
theorem hy_X4_takes : yX4_takes.cls = RX4 ∧ yX4_takes.cls ≠ "java/lang/invoke/MethodHandle" ∧ yX4_takes.cls ≠ "java/lang/invoke/VarHandle" ∧ (parseMethodDescriptor yX4_takes.desc).map (fun d => d.parameters.length) = some 1 := by decide +kernel
abbrev rm_X4_readsNumber : Room := { frames := 2, cells := 0, slots := 0, locals := 47 }
def f_X4_readsNumber_L41 : Nat → Int → Mem → Option (Int × Mem)
  | 0, _, _ => none
  | n + 1, l2, m =>
    if (m.1 51 10) ≤ 0 then
(some (1, m))
else
((f_X4_isHere 48 57 m).bind (fun q13 => if q13.1 = 0 then
(some (1, q13.2))
else
(mmK (inR (10 * (q13.2.1 51 10))) (mmK (0 ≤ (q13.2.1 51 9) ∧ (q13.2.1 51 9) < 60) (mmK (inR ((10 * (q13.2.1 51 10)) + (q13.2.1 57 ((q13.2.1 51 9)).toNat))) (mmK (inR (((10 * (q13.2.1 51 10)) + (q13.2.1 57 ((q13.2.1 51 9)).toNat)) - 48)) (if l2 < (((10 * (q13.2.1 51 10)) + (q13.2.1 57 ((q13.2.1 51 9)).toNat)) - 48) then
(some (1, q13.2))
else
(mmK (inR (10 * (q13.2.1 51 10))) (mmK (0 ≤ (q13.2.1 51 9) ∧ (q13.2.1 51 9) < 60) (mmK (inR ((10 * (q13.2.1 51 10)) + (q13.2.1 57 ((q13.2.1 51 9)).toNat))) (mmK (inR (((10 * (q13.2.1 51 10)) + (q13.2.1 57 ((q13.2.1 51 9)).toNat)) - 48)) (mmK (inR (((mwr q13.2 51 10 (((10 * (q13.2.1 51 10)) + (q13.2.1 57 ((q13.2.1 51 9)).toNat)) - 48)).1 51 9) + 1)) (f_X4_readsNumber_L41 n l2 (mwr (mwr q13.2 51 10 (((10 * (q13.2.1 51 10)) + (q13.2.1 57 ((q13.2.1 51 9)).toNat)) - 48)) 51 9 (((mwr q13.2 51 10 (((10 * (q13.2.1 51 10)) + (q13.2.1 57 ((q13.2.1 51 9)).toNat)) - 48)).1 51 9) + 1)))))))))))))))
set_option maxRecDepth 100000 in
set_option maxHeartbeats 4000000 in
theorem ok_X4_readsNumber_L41 {r : Int × Mem} : ∀ (n : Nat), ∀ (l2 : Int) (m : Mem), inR l2 → f_X4_readsNumber_L41 n l2 m = some r → VV RX4 cX4_readsNumber 3 rm_X4_readsNumber mmG0 (mmPz r) 41 [(0, .ref 51), (2, vi l2)] [] m := by
  intro n
  induction n with
  | zero =>
    intro l2 m hr2 E
    cases E
  | succ n ih =>
    intro l2 m hr2 E
    rw [f_X4_readsNumber_L41] at E
    refine V_aload_n 0 dX4_readsNumber_41 rfl ?_
    refine V_geti (ci := 4) (k := 10) (N := 12) (T := TX4) dX4_readsNumber_42 iuX4 fl_X4_105 rfl (by decide) rfl sh_51 (fun hv11 => ?_)
    refine V_if_le 120 dX4_readsNumber_45 (by decide) hv11 (fun c12 => ?_) (fun c12 => ?_)
    · replace E := mmI_t c12 E
      refine V_iconst dX4_readsNumber_120 rfl ?_
      obtain rfl := Option.some.inj E
      exact V_reti dX4_readsNumber_121 ⟨rfl, rfl, (Or.inr rfl)⟩
    · replace E := mmI_f c12 E
      refine V_aload_n 0 dX4_readsNumber_48 rfl ?_
      refine V_bipush (v := 48) dX4_readsNumber_49 (by decide) ?_
      refine V_bipush (v := 57) dX4_readsNumber_51 (by decide) ?_
      obtain ⟨q13, hq13, E⟩ := mmB_e E
      refine V_callV (ci := 4) (q := (RX4, TX4, 12)) (Cn := RX4) (st := []) 2 dX4_readsNumber_53 (ct_X4_isHere ir_48 ir_57 hq13) ml_X4_101 im_X4_isHere sl_X4_isHere it_X4 cd_X4_isHere hy_X4_isHere ⟨rfl, rfl, by decide, by decide⟩ sh_51 rfl rfl rfl rfl (Nat.le_of_ble_eq_true rfl) (fun hv14 => ?_)
      refine V_if_eq 120 dX4_readsNumber_56 (by decide) hv14 (fun c15 => ?_) (fun c15 => ?_)
      · replace E := mmI_t c15 E
        refine V_iconst dX4_readsNumber_120 rfl ?_
        obtain rfl := Option.some.inj E
        exact V_reti dX4_readsNumber_121 ⟨rfl, rfl, (Or.inr rfl)⟩
      · replace E := mmI_f c15 E
        refine V_bipush (v := 10) dX4_readsNumber_59 (by decide) ?_
        refine V_aload_n 0 dX4_readsNumber_61 rfl ?_
        refine V_geti (ci := 4) (k := 10) (N := 12) (T := TX4) dX4_readsNumber_62 iuX4 fl_X4_105 rfl (by decide) rfl sh_51 (fun hv16 => ?_)
        obtain ⟨hv17, E⟩ := mmK_e E
        refine V_imul dX4_readsNumber_65 ?_
        refine V_aload_n 0 dX4_readsNumber_66 rfl ?_
        refine V_geta (ci := 4) (k := 7) (N := 12) (T := TX4) (o' := 57) dX4_readsNumber_67 iuX4 fl_X4_25 rfl (by decide) rfl sh_51 rfl ?_
        refine V_aload_n 0 dX4_readsNumber_70 rfl ?_
        refine V_geti (ci := 4) (k := 9) (N := 12) (T := TX4) dX4_readsNumber_71 iuX4 fl_X4_98 rfl (by decide) rfl sh_51 (fun hv18 => ?_)
        obtain ⟨hv19, E⟩ := mmK_e E
        refine V_iald (n := 60) (j := ((q13.2.1 51 9)).toNat) dX4_readsNumber_74 sh_57 hv18 hv19 rfl (fun hv20 => ?_)
        obtain ⟨hv21, E⟩ := mmK_e E
        refine V_iadd dX4_readsNumber_75 ?_
        refine V_bipush (v := 48) dX4_readsNumber_76 (by decide) ?_
        obtain ⟨hv22, E⟩ := mmK_e E
        refine V_isub dX4_readsNumber_78 ?_
        refine V_iload_n 1 dX4_readsNumber_79 rfl ?_
        refine V_icmp_gt 120 dX4_readsNumber_80 (by decide) hv22 hr2 (fun c23 => ?_) (fun c23 => ?_)
        · replace E := mmI_t c23 E
          refine V_iconst dX4_readsNumber_120 rfl ?_
          obtain rfl := Option.some.inj E
          exact V_reti dX4_readsNumber_121 ⟨rfl, rfl, (Or.inr rfl)⟩
        · replace E := mmI_f c23 E
          refine V_aload_n 0 dX4_readsNumber_83 rfl ?_
          refine V_bipush (v := 10) dX4_readsNumber_84 (by decide) ?_
          refine V_aload_n 0 dX4_readsNumber_86 rfl ?_
          refine V_geti (ci := 4) (k := 10) (N := 12) (T := TX4) dX4_readsNumber_87 iuX4 fl_X4_105 rfl (by decide) rfl sh_51 (fun hv24 => ?_)
          obtain ⟨hv25, E⟩ := mmK_e E
          refine V_imul dX4_readsNumber_90 ?_
          refine V_aload_n 0 dX4_readsNumber_91 rfl ?_
          refine V_geta (ci := 4) (k := 7) (N := 12) (T := TX4) (o' := 57) dX4_readsNumber_92 iuX4 fl_X4_25 rfl (by decide) rfl sh_51 rfl ?_
          refine V_aload_n 0 dX4_readsNumber_95 rfl ?_
          refine V_geti (ci := 4) (k := 9) (N := 12) (T := TX4) dX4_readsNumber_96 iuX4 fl_X4_98 rfl (by decide) rfl sh_51 (fun hv26 => ?_)
          obtain ⟨hv27, E⟩ := mmK_e E
          refine V_iald (n := 60) (j := ((q13.2.1 51 9)).toNat) dX4_readsNumber_99 sh_57 hv26 hv27 rfl (fun hv28 => ?_)
          obtain ⟨hv29, E⟩ := mmK_e E
          refine V_iadd dX4_readsNumber_100 ?_
          refine V_bipush (v := 48) dX4_readsNumber_101 (by decide) ?_
          obtain ⟨hv30, E⟩ := mmK_e E
          refine V_isub dX4_readsNumber_103 ?_
          refine V_put (ci := 4) (k := 10) (N := 12) (T := TX4) (x := (((10 * (q13.2.1 51 10)) + (q13.2.1 57 ((q13.2.1 51 9)).toNat)) - 48)) (ty := .int) tyX4 dX4_readsNumber_104 iuX4 tyX4_ok nmX4 fl_X4_105 rfl (by decide) rfl sh_51 rfl (by decide +kernel) rfl rfl hv30 ?_
          refine V_aload_n 0 dX4_readsNumber_107 rfl ?_
          refine V_dupa dX4_readsNumber_108 ?_
          refine V_geti (ci := 4) (k := 9) (N := 12) (T := TX4) dX4_readsNumber_109 iuX4 fl_X4_98 rfl (by decide) rfl sh_51 (fun hv31 => ?_)
          refine V_iconst dX4_readsNumber_112 rfl ?_
          obtain ⟨hv32, E⟩ := mmK_e E
          refine V_iadd dX4_readsNumber_113 ?_
          refine V_put (ci := 4) (k := 9) (N := 12) (T := TX4) (x := (((mwr q13.2 51 10 (((10 * (q13.2.1 51 10)) + (q13.2.1 57 ((q13.2.1 51 9)).toNat)) - 48)).1 51 9) + 1)) (ty := .int) tyX4 dX4_readsNumber_114 iuX4 tyX4_ok nmX4 fl_X4_98 rfl (by decide) rfl sh_51 rfl (by decide +kernel) rfl rfl hv32 ?_
          refine V_goto 41 dX4_readsNumber_117 (by decide) ?_
          exact ih _ _ hr2 E
def f_X4_readsNumber (l1 : Int) (l2 : Int) (m : Mem) : Option (Int × Mem) :=
  mmK (inR (48 + l1)) ((f_X4_isHere (48 + l1) 57 m).bind (fun q2 => if q2.1 = 0 then
(some (0, q2.2))
else
(mmK (0 ≤ (q2.2.1 51 9) ∧ (q2.2.1 51 9) < 60) (mmK (inR ((q2.2.1 57 ((q2.2.1 51 9)).toNat) - 48)) (mmK (inR (((mwr q2.2 51 10 ((q2.2.1 57 ((q2.2.1 51 9)).toNat) - 48)).1 51 9) + 1)) (f_X4_readsNumber_L41 mmFU l2 (mwr (mwr q2.2 51 10 ((q2.2.1 57 ((q2.2.1 51 9)).toNat) - 48)) 51 9 (((mwr q2.2 51 10 ((q2.2.1 57 ((q2.2.1 51 9)).toNat) - 48)).1 51 9) + 1))))))))
set_option maxRecDepth 100000 in
set_option maxHeartbeats 4000000 in
theorem ok_X4_readsNumber {r : Int × Mem} : ∀ (l1 : Int) (l2 : Int) (m : Mem), inR l1 → inR l2 → f_X4_readsNumber l1 l2 m = some r → VV RX4 cX4_readsNumber 3 rm_X4_readsNumber mmG0 (mmPz r) 0 [(0, .ref 51), (1, vi l1), (2, vi l2)] [] m := by
  intro l1 l2 m hr1 hr2 E
  unfold f_X4_readsNumber at E
  refine V_aload_n 0 dX4_readsNumber_0 rfl ?_
  refine V_bipush (v := 48) dX4_readsNumber_1 (by decide) ?_
  refine V_iload_n 1 dX4_readsNumber_3 rfl ?_
  obtain ⟨hv1, E⟩ := mmK_e E
  refine V_iadd dX4_readsNumber_4 ?_
  refine V_bipush (v := 57) dX4_readsNumber_5 (by decide) ?_
  obtain ⟨q2, hq2, E⟩ := mmB_e E
  refine V_callV (ci := 4) (q := (RX4, TX4, 12)) (Cn := RX4) (st := []) 2 dX4_readsNumber_7 (ct_X4_isHere hv1 ir_57 hq2) ml_X4_101 im_X4_isHere sl_X4_isHere it_X4 cd_X4_isHere hy_X4_isHere ⟨rfl, rfl, by decide, by decide⟩ sh_51 rfl rfl rfl rfl (Nat.le_of_ble_eq_true rfl) (fun hv3 => ?_)
  refine V_if_ne 15 dX4_readsNumber_10 (by decide) hv3 (fun c4 => ?_) (fun c4 => ?_)
  · replace E := mmI_f c4 E
    refine V_aload_n 0 dX4_readsNumber_15 rfl ?_
    refine V_aload_n 0 dX4_readsNumber_16 rfl ?_
    refine V_geta (ci := 4) (k := 7) (N := 12) (T := TX4) (o' := 57) dX4_readsNumber_17 iuX4 fl_X4_25 rfl (by decide) rfl sh_51 rfl ?_
    refine V_aload_n 0 dX4_readsNumber_20 rfl ?_
    refine V_geti (ci := 4) (k := 9) (N := 12) (T := TX4) dX4_readsNumber_21 iuX4 fl_X4_98 rfl (by decide) rfl sh_51 (fun hv5 => ?_)
    obtain ⟨hv6, E⟩ := mmK_e E
    refine V_iald (n := 60) (j := ((q2.2.1 51 9)).toNat) dX4_readsNumber_24 sh_57 hv5 hv6 rfl (fun hv7 => ?_)
    refine V_bipush (v := 48) dX4_readsNumber_25 (by decide) ?_
    obtain ⟨hv8, E⟩ := mmK_e E
    refine V_isub dX4_readsNumber_27 ?_
    refine V_put (ci := 4) (k := 10) (N := 12) (T := TX4) (x := ((q2.2.1 57 ((q2.2.1 51 9)).toNat) - 48)) (ty := .int) tyX4 dX4_readsNumber_28 iuX4 tyX4_ok nmX4 fl_X4_105 rfl (by decide) rfl sh_51 rfl (by decide +kernel) rfl rfl hv8 ?_
    refine V_aload_n 0 dX4_readsNumber_31 rfl ?_
    refine V_dupa dX4_readsNumber_32 ?_
    refine V_geti (ci := 4) (k := 9) (N := 12) (T := TX4) dX4_readsNumber_33 iuX4 fl_X4_98 rfl (by decide) rfl sh_51 (fun hv9 => ?_)
    refine V_iconst dX4_readsNumber_36 rfl ?_
    obtain ⟨hv10, E⟩ := mmK_e E
    refine V_iadd dX4_readsNumber_37 ?_
    refine V_put (ci := 4) (k := 9) (N := 12) (T := TX4) (x := (((mwr q2.2 51 10 ((q2.2.1 57 ((q2.2.1 51 9)).toNat) - 48)).1 51 9) + 1)) (ty := .int) tyX4 dX4_readsNumber_38 iuX4 tyX4_ok nmX4 fl_X4_98 rfl (by decide) rfl sh_51 rfl (by decide +kernel) rfl rfl hv10 ?_
    refine V_sub [0, 2] rfl ?_
    exact ok_X4_readsNumber_L41 mmFU _ _ hr2 E
  · replace E := mmI_t c4 E
    refine V_iconst dX4_readsNumber_13 rfl ?_
    obtain rfl := Option.some.inj E
    exact V_reti dX4_readsNumber_14 ⟨rfl, rfl, (Or.inl rfl)⟩
theorem ct_X4_readsNumber {l1 : Int} {l2 : Int} {m : Mem} {r : Int × Mem} (hr1 : inR l1) (hr2 : inR l2) (E : f_X4_readsNumber l1 l2 m = some r) : CTi yX4_readsNumber cX4_readsNumber 3 (some .boolean) rm_X4_readsNumber [.ref 51, vi l1, vi l2] m r := CT_z (by decide +kernel) rfl (Nat.le_of_ble_eq_true rfl) (ok_X4_readsNumber _ _ _ hr1 hr2 E)
theorem hy_X4_readsNumber : yX4_readsNumber.cls = RX4 ∧ yX4_readsNumber.cls ≠ "java/lang/invoke/MethodHandle" ∧ yX4_readsNumber.cls ≠ "java/lang/invoke/VarHandle" ∧ (parseMethodDescriptor yX4_readsNumber.desc).map (fun d => d.parameters.length) = some 2 := by decide +kernel
