abbrev rm_X2_insertEntry : Room := { frames := 2, cells := 0, slots := 0, locals := 49 }
noncomputable def f_X2_insertEntry (l0 : Nat) (l1 : Int) (l2 : Int) (l3 : Int) (l4 : Int) (l5 : Int) (m : Mem) : Option (Int × Mem) :=
  (f_X2_isDirectoryFull l0 m).bind (fun q1 => if q1.1 = 0 then
((f_X2_namesBelow l0 l1 q1.2).bind (fun q4 => mmK (inR (q4.1 + 1)) (mmK (inR ((q4.2.1 l0 5) - q4.1)) ((f_X2_moveEntries l0 q4.1 (q4.1 + 1) ((q4.2.1 l0 5) - q4.1) q4.2).bind (fun q9 => mmK (inR ((q9.1 l0 5) + 1)) ((f_X2_setEntry l0 q4.1 l1 l2 l3 l4 l5 (mwr q9 l0 5 ((q9.1 l0 5) + 1))).bind (fun q13 => some (q4.1, q13))))))))
else
(some ((-6), q1.2)))
set_option maxRecDepth 100000 in
set_option maxHeartbeats 4000000 in
theorem ok_X2_insertEntry {r : Int × Mem} : ∀ (l0 : Nat) (l1 : Int) (l2 : Int) (l3 : Int) (l4 : Int) (l5 : Int) (m : Mem), mmSh[l0]? = some (.inl 2) → inR l1 → inR l2 → inR l3 → inR l4 → inR l5 → f_X2_insertEntry l0 l1 l2 l3 l4 l5 m = some r → VV RX2 cX2_insertEntry 7 rm_X2_insertEntry mmG0 (mmPi r) 0 [(0, .ref l0), (1, vi l1), (2, vi l2), (3, vi l3), (4, vi l4), (5, vi l5)] [] m := by
  intro l0 l1 l2 l3 l4 l5 m hs0 hr1 hr2 hr3 hr4 hr5 E
  unfold f_X2_insertEntry at E
  refine V_aload_n 0 dX2_insertEntry_0 rfl ?_
  obtain ⟨q1, hq1, E⟩ := mmB_e E
  refine V_callV (ci := 2) (q := (RX2, TX2, 10)) (Cn := RX2) (st := []) 0 dX2_insertEntry_1 (ct_X2_isDirectoryFull hs0 hq1) ml_X2_66 im_X2_isDirectoryFull sl_X2_isDirectoryFull it_X2 cd_X2_isDirectoryFull hy_X2_isDirectoryFull ⟨rfl, rfl, by decide, by decide⟩ hs0 rfl rfl rfl rfl (Nat.le_of_ble_eq_true rfl) (fun hv2 => ?_)
  refine V_if_eq 10 dX2_insertEntry_4 (by decide) hv2 (fun c3 => ?_) (fun c3 => ?_)
  · replace E := mmI_t c3 E
    refine V_aload_n 0 dX2_insertEntry_10 rfl ?_
    refine V_iload_n 1 dX2_insertEntry_11 rfl ?_
    obtain ⟨q4, hq4, E⟩ := mmB_e E
    refine V_callV (ci := 2) (q := (RX2, TX2, 10)) (Cn := RX2) (st := []) 1 dX2_insertEntry_12 (ct_X2_namesBelow hs0 hr1 hq4) ml_X2_123 im_X2_namesBelow sl_X2_namesBelow it_X2 cd_X2_namesBelow hy_X2_namesBelow ⟨rfl, rfl, by decide, by decide⟩ hs0 rfl rfl rfl rfl (Nat.le_of_ble_eq_true rfl) (fun hv5 => ?_)
    refine V_istore (lv' := [(0, .ref l0), (1, vi l1), (2, vi l2), (3, vi l3), (4, vi l4), (5, vi l5), (6, vi q4.1)]) dX2_insertEntry_15 rfl rfl ?_
    refine V_aload_n 0 dX2_insertEntry_17 rfl ?_
    refine V_iload 6 dX2_insertEntry_18 rfl ?_
    refine V_iload 6 dX2_insertEntry_20 rfl ?_
    refine V_iconst dX2_insertEntry_22 rfl ?_
    obtain ⟨hv6, E⟩ := mmK_e E
    refine V_iadd dX2_insertEntry_23 ?_
    refine V_aload_n 0 dX2_insertEntry_24 rfl ?_
    refine V_geti (ci := 2) (k := 5) (N := 10) (T := TX2) (v := (q4.2.1 l0 5)) dX2_insertEntry_25 iuX2 fl_X2_27 rfl (by decide) rfl hs0 (by first | rfl | simp [mwr]) (fun hv7 => ?_)
    refine V_iload 6 dX2_insertEntry_28 rfl ?_
    obtain ⟨hv8, E⟩ := mmK_e E
    refine V_isub dX2_insertEntry_30 ?_
    obtain ⟨q9, hq9, E⟩ := mmB_e E
    refine V_callVv (ci := 2) (q := (RX2, TX2, 10)) (Cn := RX2) (st := []) 3 dX2_insertEntry_31 (ct_X2_moveEntries hs0 hv5 hv6 hv8 hq9) ml_X2_138 im_X2_moveEntries sl_X2_moveEntries it_X2 cd_X2_moveEntries hy_X2_moveEntries ⟨rfl, rfl, by decide, by decide⟩ hs0 rfl rfl rfl rfl (Nat.le_of_ble_eq_true rfl) ?_
    refine V_aload_n 0 dX2_insertEntry_34 rfl ?_
    refine V_dupa dX2_insertEntry_35 ?_
    refine V_geti (ci := 2) (k := 5) (N := 10) (T := TX2) (v := (q9.1 l0 5)) dX2_insertEntry_36 iuX2 fl_X2_27 rfl (by decide) rfl hs0 (by first | rfl | simp [mwr]) (fun hv11 => ?_)
    refine V_iconst dX2_insertEntry_39 rfl ?_
    obtain ⟨hv12, E⟩ := mmK_e E
    refine V_iadd dX2_insertEntry_40 ?_
    refine V_put (ci := 2) (k := 5) (N := 10) (T := TX2) (x := ((q9.1 l0 5) + 1)) (ty := .int) tyX2 dX2_insertEntry_41 iuX2 tyX2_ok nmX2 fl_X2_27 rfl (by decide) rfl hs0 rfl (by decide +kernel) rfl rfl hv12 ?_
    refine V_aload_n 0 dX2_insertEntry_44 rfl ?_
    refine V_iload 6 dX2_insertEntry_45 rfl ?_
    refine V_iload_n 1 dX2_insertEntry_47 rfl ?_
    refine V_iload_n 2 dX2_insertEntry_48 rfl ?_
    refine V_iload_n 3 dX2_insertEntry_49 rfl ?_
    refine V_iload 4 dX2_insertEntry_50 rfl ?_
    refine V_iload 5 dX2_insertEntry_52 rfl ?_
    obtain ⟨q13, hq13, E⟩ := mmB_e E
    refine V_callVv (ci := 2) (q := (RX2, TX2, 10)) (Cn := RX2) (st := []) 6 dX2_insertEntry_54 (ct_X2_setEntry hs0 hv5 hr1 hr2 hr3 hr4 hr5 hq13) ml_X2_83 im_X2_setEntry sl_X2_setEntry it_X2 cd_X2_setEntry hy_X2_setEntry ⟨rfl, rfl, by decide, by decide⟩ hs0 rfl rfl rfl rfl (Nat.le_of_ble_eq_true rfl) ?_
    refine V_iload 6 dX2_insertEntry_57 rfl ?_
    obtain rfl := Option.some.inj E
    exact V_reti dX2_insertEntry_59 ⟨rfl, rfl, hv5⟩
  · replace E := mmI_f c3 E
    refine V_bipush (v := (-6)) dX2_insertEntry_7 (by decide) ?_
    obtain rfl := Option.some.inj E
    exact V_reti dX2_insertEntry_9 ⟨rfl, rfl, ir_m6⟩
theorem ct_X2_insertEntry {l0 : Nat} {l1 : Int} {l2 : Int} {l3 : Int} {l4 : Int} {l5 : Int} {m : Mem} {r : Int × Mem} (hs0 : mmSh[l0]? = some (.inl 2)) (hr1 : inR l1) (hr2 : inR l2) (hr3 : inR l3) (hr4 : inR l4) (hr5 : inR l5) (E : f_X2_insertEntry l0 l1 l2 l3 l4 l5 m = some r) : CTi yX2_insertEntry cX2_insertEntry 7 (some .int) rm_X2_insertEntry [.ref l0, vi l1, vi l2, vi l3, vi l4, vi l5] m r := CT_i (by decide +kernel) rfl (Nat.le_of_ble_eq_true rfl) (ok_X2_insertEntry _ _ _ _ _ _ _ hs0 hr1 hr2 hr3 hr4 hr5 E)
theorem hy_X2_insertEntry : yX2_insertEntry.cls = RX2 ∧ yX2_insertEntry.cls ≠ "java/lang/invoke/MethodHandle" ∧ yX2_insertEntry.cls ≠ "java/lang/invoke/VarHandle" ∧ (parseMethodDescriptor yX2_insertEntry.desc).map (fun d => d.parameters.length) = some 5 := by decide +kernel
abbrev rm_X2_addMember : Room := { frames := 3, cells := 0, slots := 0, locals := 75 }
noncomputable def f_X2_addMember (l0 : Nat) (l1 : Int) (l2 : Int) (l3 : Int) (m : Mem) : Option (Int × Mem) :=
  (f_X2_isName l1 m).bind (fun q1 => if q1.1 = 0 then
(some ((-2), q1.2))
else
((f_X2_isLength l2 q1.2).bind (fun q4 => if q4.1 = 0 then
(some ((-2), q4.2))
else
((f_X2_isMark l3 q4.2).bind (fun q7 => if q7.1 = 0 then
(some ((-2), q7.2))
else
((f_X2_rankOf l0 l1 q7.2).bind (fun q10 => (f_X2_isRank l0 q10.1 q10.2).bind (fun q12 => if q12.1 = 0 then
((f_X2_isDirectoryFull l0 q12.2).bind (fun q15 => if q15.1 = 0 then
((f_X2_hasRoom l0 l2 q15.2).bind (fun q18 => if q18.1 = 0 then
(some ((-3), q18.2))
else
((f_X2_layText l0 l2 q18.2).bind (fun q21 => (f_X2_insertEntry l0 l1 (-5) q21.1 l2 l3 q21.2).bind (fun q23 => some (q21.1, q23.2))))))
else
(some ((-6), q15.2))))
else
(some ((-7), q12.2))))))))))
set_option maxRecDepth 100000 in
set_option maxHeartbeats 4000000 in
theorem ok_X2_addMember {r : Int × Mem} : ∀ (l0 : Nat) (l1 : Int) (l2 : Int) (l3 : Int) (m : Mem), mmSh[l0]? = some (.inl 2) → inR l1 → inR l2 → inR l3 → f_X2_addMember l0 l1 l2 l3 m = some r → VV RX2 cX2_addMember 5 rm_X2_addMember mmG0 (mmPi r) 0 [(0, .ref l0), (1, vi l1), (2, vi l2), (3, vi l3)] [] m := by
  intro l0 l1 l2 l3 m hs0 hr1 hr2 hr3 E
  unfold f_X2_addMember at E
  refine V_iload_n 1 dX2_addMember_0 rfl ?_
  obtain ⟨q1, hq1, E⟩ := mmB_e E
  refine V_callS (st := []) 1 dX2_addMember_1 (ct_X2_isName hr1 hq1) ml_X2_49 st_X2_isName it_X2 cd_X2_isName hz_X2_isName ⟨rfl, rfl, by decide, by decide⟩ rfl rfl (Nat.le_of_ble_eq_true rfl) (fun hv2 => ?_)
  refine V_if_eq 21 dX2_addMember_4 (by decide) hv2 (fun c3 => ?_) (fun c3 => ?_)
  · replace E := mmI_t c3 E
    refine V_bipush (v := (-2)) dX2_addMember_21 (by decide) ?_
    obtain rfl := Option.some.inj E
    exact V_reti dX2_addMember_23 ⟨rfl, rfl, ir_m2⟩
  · replace E := mmI_f c3 E
    refine V_iload_n 2 dX2_addMember_7 rfl ?_
    obtain ⟨q4, hq4, E⟩ := mmB_e E
    refine V_callS (st := []) 1 dX2_addMember_8 (ct_X2_isLength hr2 hq4) ml_X2_53 st_X2_isLength it_X2 cd_X2_isLength hz_X2_isLength ⟨rfl, rfl, by decide, by decide⟩ rfl rfl (Nat.le_of_ble_eq_true rfl) (fun hv5 => ?_)
    refine V_if_eq 21 dX2_addMember_11 (by decide) hv5 (fun c6 => ?_) (fun c6 => ?_)
    · replace E := mmI_t c6 E
      refine V_bipush (v := (-2)) dX2_addMember_21 (by decide) ?_
      obtain rfl := Option.some.inj E
      exact V_reti dX2_addMember_23 ⟨rfl, rfl, ir_m2⟩
    · replace E := mmI_f c6 E
      refine V_iload_n 3 dX2_addMember_14 rfl ?_
      obtain ⟨q7, hq7, E⟩ := mmB_e E
      refine V_callS (st := []) 1 dX2_addMember_15 (ct_X2_isMark hr3 hq7) ml_X2_56 st_X2_isMark it_X2 cd_X2_isMark hz_X2_isMark ⟨rfl, rfl, by decide, by decide⟩ rfl rfl (Nat.le_of_ble_eq_true rfl) (fun hv8 => ?_)
      refine V_if_ne 24 dX2_addMember_18 (by decide) hv8 (fun c9 => ?_) (fun c9 => ?_)
      · replace E := mmI_f c9 E
        refine V_aload_n 0 dX2_addMember_24 rfl ?_
        refine V_aload_n 0 dX2_addMember_25 rfl ?_
        refine V_iload_n 1 dX2_addMember_26 rfl ?_
        obtain ⟨q10, hq10, E⟩ := mmB_e E
        refine V_callV (ci := 2) (q := (RX2, TX2, 10)) (Cn := RX2) (st := [.ref l0]) 1 dX2_addMember_27 (ct_X2_rankOf hs0 hr1 hq10) ml_X2_59 im_X2_rankOf sl_X2_rankOf it_X2 cd_X2_rankOf hy_X2_rankOf ⟨rfl, rfl, by decide, by decide⟩ hs0 rfl rfl rfl rfl (Nat.le_of_ble_eq_true rfl) (fun hv11 => ?_)
        obtain ⟨q12, hq12, E⟩ := mmB_e E
        refine V_callV (ci := 2) (q := (RX2, TX2, 10)) (Cn := RX2) (st := []) 1 dX2_addMember_30 (ct_X2_isRank hs0 hv11 hq12) ml_X2_63 im_X2_isRank sl_X2_isRank it_X2 cd_X2_isRank hy_X2_isRank ⟨rfl, rfl, by decide, by decide⟩ hs0 rfl rfl rfl rfl (Nat.le_of_ble_eq_true rfl) (fun hv13 => ?_)
        refine V_if_eq 39 dX2_addMember_33 (by decide) hv13 (fun c14 => ?_) (fun c14 => ?_)
        · replace E := mmI_t c14 E
          refine V_aload_n 0 dX2_addMember_39 rfl ?_
          obtain ⟨q15, hq15, E⟩ := mmB_e E
          refine V_callV (ci := 2) (q := (RX2, TX2, 10)) (Cn := RX2) (st := []) 0 dX2_addMember_40 (ct_X2_isDirectoryFull hs0 hq15) ml_X2_66 im_X2_isDirectoryFull sl_X2_isDirectoryFull it_X2 cd_X2_isDirectoryFull hy_X2_isDirectoryFull ⟨rfl, rfl, by decide, by decide⟩ hs0 rfl rfl rfl rfl (Nat.le_of_ble_eq_true rfl) (fun hv16 => ?_)
          refine V_if_eq 49 dX2_addMember_43 (by decide) hv16 (fun c17 => ?_) (fun c17 => ?_)
          · replace E := mmI_t c17 E
            refine V_aload_n 0 dX2_addMember_49 rfl ?_
            refine V_iload_n 2 dX2_addMember_50 rfl ?_
            obtain ⟨q18, hq18, E⟩ := mmB_e E
            refine V_callV (ci := 2) (q := (RX2, TX2, 10)) (Cn := RX2) (st := []) 1 dX2_addMember_51 (ct_X2_hasRoom hs0 hr2 hq18) ml_X2_70 im_X2_hasRoom sl_X2_hasRoom it_X2 cd_X2_hasRoom hy_X2_hasRoom ⟨rfl, rfl, by decide, by decide⟩ hs0 rfl rfl rfl rfl (Nat.le_of_ble_eq_true rfl) (fun hv19 => ?_)
            refine V_if_ne 60 dX2_addMember_54 (by decide) hv19 (fun c20 => ?_) (fun c20 => ?_)
            · replace E := mmI_f c20 E
              refine V_aload_n 0 dX2_addMember_60 rfl ?_
              refine V_iload_n 2 dX2_addMember_61 rfl ?_
              obtain ⟨q21, hq21, E⟩ := mmB_e E
              refine V_callV (ci := 2) (q := (RX2, TX2, 10)) (Cn := RX2) (st := []) 1 dX2_addMember_62 (ct_X2_layText hs0 hr2 hq21) ml_X2_73 im_X2_layText sl_X2_layText it_X2 cd_X2_layText hy_X2_layText ⟨rfl, rfl, by decide, by decide⟩ hs0 rfl rfl rfl rfl (Nat.le_of_ble_eq_true rfl) (fun hv22 => ?_)
              refine V_istore (lv' := [(0, .ref l0), (1, vi l1), (2, vi l2), (3, vi l3), (4, vi q21.1)]) dX2_addMember_65 rfl rfl ?_
              refine V_aload_n 0 dX2_addMember_67 rfl ?_
              refine V_iload_n 1 dX2_addMember_68 rfl ?_
              refine V_bipush (v := (-5)) dX2_addMember_69 (by decide) ?_
              refine V_iload 4 dX2_addMember_71 rfl ?_
              refine V_iload_n 2 dX2_addMember_73 rfl ?_
              refine V_iload_n 3 dX2_addMember_74 rfl ?_
              obtain ⟨q23, hq23, E⟩ := mmB_e E
              refine V_callV (ci := 2) (q := (RX2, TX2, 10)) (Cn := RX2) (st := []) 5 dX2_addMember_75 (ct_X2_insertEntry hs0 hr1 ir_m5 hv22 hr2 hr3 hq23) ml_X2_76 im_X2_insertEntry sl_X2_insertEntry it_X2 cd_X2_insertEntry hy_X2_insertEntry ⟨rfl, rfl, by decide, by decide⟩ hs0 rfl rfl rfl rfl (Nat.le_of_ble_eq_true rfl) (fun hv24 => ?_)
              refine V_popi dX2_addMember_78 ?_
              refine V_iload 4 dX2_addMember_79 rfl ?_
              obtain rfl := Option.some.inj E
              exact V_reti dX2_addMember_81 ⟨rfl, rfl, hv22⟩
            · replace E := mmI_t c20 E
              refine V_bipush (v := (-3)) dX2_addMember_57 (by decide) ?_
              obtain rfl := Option.some.inj E
              exact V_reti dX2_addMember_59 ⟨rfl, rfl, ir_m3⟩
          · replace E := mmI_f c17 E
            refine V_bipush (v := (-6)) dX2_addMember_46 (by decide) ?_
            obtain rfl := Option.some.inj E
            exact V_reti dX2_addMember_48 ⟨rfl, rfl, ir_m6⟩
        · replace E := mmI_f c14 E
          refine V_bipush (v := (-7)) dX2_addMember_36 (by decide) ?_
          obtain rfl := Option.some.inj E
          exact V_reti dX2_addMember_38 ⟨rfl, rfl, ir_m7⟩
      · replace E := mmI_t c9 E
        refine V_bipush (v := (-2)) dX2_addMember_21 (by decide) ?_
        obtain rfl := Option.some.inj E
        exact V_reti dX2_addMember_23 ⟨rfl, rfl, ir_m2⟩
theorem ct_X2_addMember {l0 : Nat} {l1 : Int} {l2 : Int} {l3 : Int} {m : Mem} {r : Int × Mem} (hs0 : mmSh[l0]? = some (.inl 2)) (hr1 : inR l1) (hr2 : inR l2) (hr3 : inR l3) (E : f_X2_addMember l0 l1 l2 l3 m = some r) : CTi yX2_addMember cX2_addMember 5 (some .int) rm_X2_addMember [.ref l0, vi l1, vi l2, vi l3] m r := CT_i (by decide +kernel) rfl (Nat.le_of_ble_eq_true rfl) (ok_X2_addMember _ _ _ _ _ hs0 hr1 hr2 hr3 E)
theorem hy_X2_addMember : yX2_addMember.cls = RX2 ∧ yX2_addMember.cls ≠ "java/lang/invoke/MethodHandle" ∧ yX2_addMember.cls ≠ "java/lang/invoke/VarHandle" ∧ (parseMethodDescriptor yX2_addMember.desc).map (fun d => d.parameters.length) = some 3 := by decide +kernel
abbrev rm_X2_isMember : Room := { frames := 1, cells := 0, slots := 0, locals := 21 }
noncomputable def f_X2_isMember (l0 : Nat) (l1 : Int) (m : Mem) : Option (Int × Mem) :=
  (f_X2_isRank l0 l1 m).bind (fun q1 => if q1.1 = 0 then
(some (0, q1.2))
else
(mmK (0 ≤ l1 ∧ l1 < 24) (if (q1.2.1 (l0 + 2) (l1).toNat) = (-5) then
(some (1, q1.2))
else
(some (0, q1.2)))))
set_option maxRecDepth 100000 in
set_option maxHeartbeats 4000000 in
theorem ok_X2_isMember {r : Int × Mem} : ∀ (l0 : Nat) (l1 : Int) (m : Mem), mmSh[l0]? = some (.inl 2) → inR l1 → f_X2_isMember l0 l1 m = some r → VV RX2 cX2_isMember 2 rm_X2_isMember mmG0 (mmPz r) 0 [(0, .ref l0), (1, vi l1)] [] m := by
  intro l0 l1 m hs0 hr1 E
  unfold f_X2_isMember at E
  refine V_aload_n 0 dX2_isMember_0 rfl ?_
  refine V_iload_n 1 dX2_isMember_1 rfl ?_
  obtain ⟨q1, hq1, E⟩ := mmB_e E
  refine V_callV (ci := 2) (q := (RX2, TX2, 10)) (Cn := RX2) (st := []) 1 dX2_isMember_2 (ct_X2_isRank hs0 hr1 hq1) ml_X2_63 im_X2_isRank sl_X2_isRank it_X2 cd_X2_isRank hy_X2_isRank ⟨rfl, rfl, by decide, by decide⟩ hs0 rfl rfl rfl rfl (Nat.le_of_ble_eq_true rfl) (fun hv2 => ?_)
  refine V_if_eq 23 dX2_isMember_5 (by decide) hv2 (fun c3 => ?_) (fun c3 => ?_)
  · replace E := mmI_t c3 E
    refine V_iconst dX2_isMember_23 rfl ?_
    obtain rfl := Option.some.inj E
    exact V_reti dX2_isMember_24 ⟨rfl, rfl, (Or.inl rfl)⟩
  · replace E := mmI_f c3 E
    refine V_aload_n 0 dX2_isMember_8 rfl ?_
    refine V_geta (ci := 2) (k := 1) (N := 10) (T := TX2) (o' := (l0 + 2)) dX2_isMember_9 iuX2 fl_X2_15 rfl (by decide) rfl hs0 rfl ?_
    refine V_iload_n 1 dX2_isMember_12 rfl ?_
    obtain ⟨hv4, E⟩ := mmK_e E
    refine V_iald (n := 24) (j := (l1).toNat) (v := (q1.2.1 (l0 + 2) (l1).toNat)) dX2_isMember_13 (mmS2 hs0) hr1 hv4 rfl (by first | rfl | simp [mwr]) (fun hv5 => ?_)
    refine V_bipush (v := (-5)) dX2_isMember_14 (by decide) ?_
    refine V_icmp_ne 23 dX2_isMember_16 (by decide) hv5 ir_m5 (fun c6 => ?_) (fun c6 => ?_)
    · replace E := mmI_f c6 E
      refine V_iconst dX2_isMember_23 rfl ?_
      obtain rfl := Option.some.inj E
      exact V_reti dX2_isMember_24 ⟨rfl, rfl, (Or.inl rfl)⟩
    · replace E := mmI_t c6 E
      refine V_iconst dX2_isMember_19 rfl ?_
      refine V_goto 24 dX2_isMember_20 (by decide) ?_
      obtain rfl := Option.some.inj E
      exact V_reti dX2_isMember_24 ⟨rfl, rfl, (Or.inr rfl)⟩
theorem ct_X2_isMember {l0 : Nat} {l1 : Int} {m : Mem} {r : Int × Mem} (hs0 : mmSh[l0]? = some (.inl 2)) (hr1 : inR l1) (E : f_X2_isMember l0 l1 m = some r) : CTi yX2_isMember cX2_isMember 2 (some .boolean) rm_X2_isMember [.ref l0, vi l1] m r := CT_z (by decide +kernel) rfl (Nat.le_of_ble_eq_true rfl) (ok_X2_isMember _ _ _ hs0 hr1 E)
theorem hy_X2_isMember : yX2_isMember.cls = RX2 ∧ yX2_isMember.cls ≠ "java/lang/invoke/MethodHandle" ∧ yX2_isMember.cls ≠ "java/lang/invoke/VarHandle" ∧ (parseMethodDescriptor yX2_isMember.desc).map (fun d => d.parameters.length) = some 1 := by decide +kernel
abbrev rm_X2_giveAlias : Room := { frames := 3, cells := 0, slots := 0, locals := 75 }
noncomputable def f_X2_giveAlias_L122 (l0 : Nat) (l1 : Int) (l2 : Int) (l3 : Int) (l4 : Int) (l5 : Int) (m : Mem) : Option (Int × Mem) :=
  mmK (0 ≤ l3 ∧ l3 < 24) (mmK (0 ≤ l3 ∧ l3 < 24) ((f_X2_setEntry l0 l4 l1 l2 l5 (m.1 (l0 + 4) (l3).toNat) (m.1 (l0 + 5) (l3).toNat) m).bind (fun q26 => some (l5, q26))))
set_option maxRecDepth 100000 in
set_option maxHeartbeats 4000000 in
theorem ok_X2_giveAlias_L122 {r : Int × Mem} : ∀ (l0 : Nat) (l1 : Int) (l2 : Int) (l3 : Int) (l4 : Int) (l5 : Int) (m : Mem), mmSh[l0]? = some (.inl 2) → inR l1 → inR l2 → inR l3 → inR l4 → inR l5 → f_X2_giveAlias_L122 l0 l1 l2 l3 l4 l5 m = some r → VV RX2 cX2_giveAlias 6 rm_X2_giveAlias mmG0 (mmPi r) 122 [(0, .ref l0), (1, vi l1), (2, vi l2), (3, vi l3), (4, vi l4), (5, vi l5)] [] m := by
  intro l0 l1 l2 l3 l4 l5 m hs0 hr1 hr2 hr3 hr4 hr5 E
  unfold f_X2_giveAlias_L122 at E
  refine V_aload_n 0 dX2_giveAlias_122 rfl ?_
  refine V_iload 4 dX2_giveAlias_123 rfl ?_
  refine V_iload_n 1 dX2_giveAlias_125 rfl ?_
  refine V_iload_n 2 dX2_giveAlias_126 rfl ?_
  refine V_iload 5 dX2_giveAlias_127 rfl ?_
  refine V_aload_n 0 dX2_giveAlias_129 rfl ?_
  refine V_geta (ci := 2) (k := 3) (N := 10) (T := TX2) (o' := (l0 + 4)) dX2_giveAlias_130 iuX2 fl_X2_21 rfl (by decide) rfl hs0 rfl ?_
  refine V_iload_n 3 dX2_giveAlias_133 rfl ?_
  obtain ⟨hv22, E⟩ := mmK_e E
  refine V_iald (n := 24) (j := (l3).toNat) (v := (m.1 (l0 + 4) (l3).toNat)) dX2_giveAlias_134 (mmS4 hs0) hr3 hv22 rfl (by first | rfl | simp [mwr]) (fun hv23 => ?_)
  refine V_aload_n 0 dX2_giveAlias_135 rfl ?_
  refine V_geta (ci := 2) (k := 4) (N := 10) (T := TX2) (o' := (l0 + 5)) dX2_giveAlias_136 iuX2 fl_X2_24 rfl (by decide) rfl hs0 rfl ?_
  refine V_iload_n 3 dX2_giveAlias_139 rfl ?_
  obtain ⟨hv24, E⟩ := mmK_e E
  refine V_iald (n := 24) (j := (l3).toNat) (v := (m.1 (l0 + 5) (l3).toNat)) dX2_giveAlias_140 (mmS5 hs0) hr3 hv24 rfl (by first | rfl | simp [mwr]) (fun hv25 => ?_)
  obtain ⟨q26, hq26, E⟩ := mmB_e E
  refine V_callVv (ci := 2) (q := (RX2, TX2, 10)) (Cn := RX2) (st := []) 6 dX2_giveAlias_141 (ct_X2_setEntry hs0 hr4 hr1 hr2 hr5 hv23 hv25 hq26) ml_X2_83 im_X2_setEntry sl_X2_setEntry it_X2 cd_X2_setEntry hy_X2_setEntry ⟨rfl, rfl, by decide, by decide⟩ hs0 rfl rfl rfl rfl (Nat.le_of_ble_eq_true rfl) ?_
  refine V_iload 5 dX2_giveAlias_144 rfl ?_
  obtain rfl := Option.some.inj E
  exact V_reti dX2_giveAlias_146 ⟨rfl, rfl, hr5⟩
noncomputable def f_X2_giveAlias (l0 : Nat) (l1 : Int) (l2 : Int) (m : Mem) : Option (Int × Mem) :=
  (f_X2_rankOf l0 l2 m).bind (fun q1 => (f_X2_isMember l0 q1.1 q1.2).bind (fun q3 => if q3.1 = 0 then
(some ((-1), q3.2))
else
((f_X2_isName l1 q3.2).bind (fun q6 => if q6.1 = 0 then
(some ((-2), q6.2))
else
((f_X2_rankOf l0 l1 q6.2).bind (fun q9 => (f_X2_isMember l0 q9.1 q9.2).bind (fun q11 => if q11.1 = 0 then
(mmK (0 ≤ q1.1 ∧ q1.1 < 24) ((f_X2_isRank l0 q9.1 q11.2).bind (fun q16 => if q16.1 = 0 then
((f_X2_isDirectoryFull l0 q16.2).bind (fun q31 => if q31.1 = 0 then
(mmK (0 ≤ q1.1 ∧ q1.1 < 24) (mmK (0 ≤ q1.1 ∧ q1.1 < 24) ((f_X2_insertEntry l0 l1 l2 (q11.2.1 (l0 + 3) (q1.1).toNat) (q31.2.1 (l0 + 4) (q1.1).toNat) (q31.2.1 (l0 + 5) (q1.1).toNat) q31.2).bind (fun q38 => some ((q11.2.1 (l0 + 3) (q1.1).toNat), q38.2)))))
else
(some ((-6), q31.2))))
else
(mmK (0 ≤ q9.1 ∧ q9.1 < 24) (if (q16.2.1 (l0 + 3) (q9.1).toNat) = (q11.2.1 (l0 + 3) (q1.1).toNat) then
(mmK (0 ≤ q9.1 ∧ q9.1 < 24) (if (q16.2.1 (l0 + 2) (q9.1).toNat) = l2 then
(some ((-5), q16.2))
else
(f_X2_giveAlias_L122 l0 l1 l2 q1.1 q9.1 (q11.2.1 (l0 + 3) (q1.1).toNat) q16.2)))
else
(f_X2_giveAlias_L122 l0 l1 l2 q1.1 q9.1 (q11.2.1 (l0 + 3) (q1.1).toNat) q16.2))))))
else
(some ((-7), q11.2)))))))))
set_option maxRecDepth 100000 in
set_option maxHeartbeats 4000000 in
theorem ok_X2_giveAlias {r : Int × Mem} : ∀ (l0 : Nat) (l1 : Int) (l2 : Int) (m : Mem), mmSh[l0]? = some (.inl 2) → inR l1 → inR l2 → f_X2_giveAlias l0 l1 l2 m = some r → VV RX2 cX2_giveAlias 6 rm_X2_giveAlias mmG0 (mmPi r) 0 [(0, .ref l0), (1, vi l1), (2, vi l2)] [] m := by
  intro l0 l1 l2 m hs0 hr1 hr2 E
  unfold f_X2_giveAlias at E
  refine V_aload_n 0 dX2_giveAlias_0 rfl ?_
  refine V_iload_n 2 dX2_giveAlias_1 rfl ?_
  obtain ⟨q1, hq1, E⟩ := mmB_e E
  refine V_callV (ci := 2) (q := (RX2, TX2, 10)) (Cn := RX2) (st := []) 1 dX2_giveAlias_2 (ct_X2_rankOf hs0 hr2 hq1) ml_X2_59 im_X2_rankOf sl_X2_rankOf it_X2 cd_X2_rankOf hy_X2_rankOf ⟨rfl, rfl, by decide, by decide⟩ hs0 rfl rfl rfl rfl (Nat.le_of_ble_eq_true rfl) (fun hv2 => ?_)
  refine V_istore_n (i := 3) (lv' := [(0, .ref l0), (1, vi l1), (2, vi l2), (3, vi q1.1)]) dX2_giveAlias_5 rfl rfl rfl ?_
  refine V_aload_n 0 dX2_giveAlias_6 rfl ?_
  refine V_iload_n 3 dX2_giveAlias_7 rfl ?_
  obtain ⟨q3, hq3, E⟩ := mmB_e E
  refine V_callV (ci := 2) (q := (RX2, TX2, 10)) (Cn := RX2) (st := []) 1 dX2_giveAlias_8 (ct_X2_isMember hs0 hv2 hq3) ml_X2_80 im_X2_isMember sl_X2_isMember it_X2 cd_X2_isMember hy_X2_isMember ⟨rfl, rfl, by decide, by decide⟩ hs0 rfl rfl rfl rfl (Nat.le_of_ble_eq_true rfl) (fun hv4 => ?_)
  refine V_if_ne 16 dX2_giveAlias_11 (by decide) hv4 (fun c5 => ?_) (fun c5 => ?_)
  · replace E := mmI_f c5 E
    refine V_iload_n 1 dX2_giveAlias_16 rfl ?_
    obtain ⟨q6, hq6, E⟩ := mmB_e E
    refine V_callS (st := []) 1 dX2_giveAlias_17 (ct_X2_isName hr1 hq6) ml_X2_49 st_X2_isName it_X2 cd_X2_isName hz_X2_isName ⟨rfl, rfl, by decide, by decide⟩ rfl rfl (Nat.le_of_ble_eq_true rfl) (fun hv7 => ?_)
    refine V_if_ne 26 dX2_giveAlias_20 (by decide) hv7 (fun c8 => ?_) (fun c8 => ?_)
    · replace E := mmI_f c8 E
      refine V_aload_n 0 dX2_giveAlias_26 rfl ?_
      refine V_iload_n 1 dX2_giveAlias_27 rfl ?_
      obtain ⟨q9, hq9, E⟩ := mmB_e E
      refine V_callV (ci := 2) (q := (RX2, TX2, 10)) (Cn := RX2) (st := []) 1 dX2_giveAlias_28 (ct_X2_rankOf hs0 hr1 hq9) ml_X2_59 im_X2_rankOf sl_X2_rankOf it_X2 cd_X2_rankOf hy_X2_rankOf ⟨rfl, rfl, by decide, by decide⟩ hs0 rfl rfl rfl rfl (Nat.le_of_ble_eq_true rfl) (fun hv10 => ?_)
      refine V_istore (lv' := [(0, .ref l0), (1, vi l1), (2, vi l2), (3, vi q1.1), (4, vi q9.1)]) dX2_giveAlias_31 rfl rfl ?_
      refine V_aload_n 0 dX2_giveAlias_33 rfl ?_
      refine V_iload 4 dX2_giveAlias_34 rfl ?_
      obtain ⟨q11, hq11, E⟩ := mmB_e E
      refine V_callV (ci := 2) (q := (RX2, TX2, 10)) (Cn := RX2) (st := []) 1 dX2_giveAlias_36 (ct_X2_isMember hs0 hv10 hq11) ml_X2_80 im_X2_isMember sl_X2_isMember it_X2 cd_X2_isMember hy_X2_isMember ⟨rfl, rfl, by decide, by decide⟩ hs0 rfl rfl rfl rfl (Nat.le_of_ble_eq_true rfl) (fun hv12 => ?_)
      refine V_if_eq 45 dX2_giveAlias_39 (by decide) hv12 (fun c13 => ?_) (fun c13 => ?_)
      · replace E := mmI_t c13 E
        refine V_aload_n 0 dX2_giveAlias_45 rfl ?_
        refine V_geta (ci := 2) (k := 2) (N := 10) (T := TX2) (o' := (l0 + 3)) dX2_giveAlias_46 iuX2 fl_X2_18 rfl (by decide) rfl hs0 rfl ?_
        refine V_iload_n 3 dX2_giveAlias_49 rfl ?_
        obtain ⟨hv14, E⟩ := mmK_e E
        refine V_iald (n := 24) (j := (q1.1).toNat) (v := (q11.2.1 (l0 + 3) (q1.1).toNat)) dX2_giveAlias_50 (mmS3 hs0) hv2 hv14 rfl (by first | rfl | simp [mwr]) (fun hv15 => ?_)
        refine V_istore (lv' := [(0, .ref l0), (1, vi l1), (2, vi l2), (3, vi q1.1), (4, vi q9.1), (5, vi (q11.2.1 (l0 + 3) (q1.1).toNat))]) dX2_giveAlias_51 rfl rfl ?_
        refine V_aload_n 0 dX2_giveAlias_53 rfl ?_
        refine V_iload 4 dX2_giveAlias_54 rfl ?_
        obtain ⟨q16, hq16, E⟩ := mmB_e E
        refine V_callV (ci := 2) (q := (RX2, TX2, 10)) (Cn := RX2) (st := []) 1 dX2_giveAlias_56 (ct_X2_isRank hs0 hv10 hq16) ml_X2_63 im_X2_isRank sl_X2_isRank it_X2 cd_X2_isRank hy_X2_isRank ⟨rfl, rfl, by decide, by decide⟩ hs0 rfl rfl rfl rfl (Nat.le_of_ble_eq_true rfl) (fun hv17 => ?_)
        refine V_if_ne 96 dX2_giveAlias_59 (by decide) hv17 (fun c18 => ?_) (fun c18 => ?_)
        · replace E := mmI_f c18 E
          refine V_aload_n 0 dX2_giveAlias_96 rfl ?_
          refine V_geta (ci := 2) (k := 2) (N := 10) (T := TX2) (o' := (l0 + 3)) dX2_giveAlias_97 iuX2 fl_X2_18 rfl (by decide) rfl hs0 rfl ?_
          refine V_iload 4 dX2_giveAlias_100 rfl ?_
          obtain ⟨hv19, E⟩ := mmK_e E
          refine V_iald (n := 24) (j := (q9.1).toNat) (v := (q16.2.1 (l0 + 3) (q9.1).toNat)) dX2_giveAlias_102 (mmS3 hs0) hv10 hv19 rfl (by first | rfl | simp [mwr]) (fun hv20 => ?_)
          refine V_iload 5 dX2_giveAlias_103 rfl ?_
          refine V_icmp_ne 122 dX2_giveAlias_105 (by decide) hv20 hv15 (fun c21 => ?_) (fun c21 => ?_)
          · replace E := mmI_f c21 E
            exact ok_X2_giveAlias_L122 _ _ _ _ _ _ _ hs0 hr1 hr2 hv2 hv10 hv15 E
          · replace E := mmI_t c21 E
            refine V_aload_n 0 dX2_giveAlias_108 rfl ?_
            refine V_geta (ci := 2) (k := 1) (N := 10) (T := TX2) (o' := (l0 + 2)) dX2_giveAlias_109 iuX2 fl_X2_15 rfl (by decide) rfl hs0 rfl ?_
            refine V_iload 4 dX2_giveAlias_112 rfl ?_
            obtain ⟨hv28, E⟩ := mmK_e E
            refine V_iald (n := 24) (j := (q9.1).toNat) (v := (q16.2.1 (l0 + 2) (q9.1).toNat)) dX2_giveAlias_114 (mmS2 hs0) hv10 hv28 rfl (by first | rfl | simp [mwr]) (fun hv29 => ?_)
            refine V_iload_n 2 dX2_giveAlias_115 rfl ?_
            refine V_icmp_ne 122 dX2_giveAlias_116 (by decide) hv29 hr2 (fun c30 => ?_) (fun c30 => ?_)
            · replace E := mmI_f c30 E
              exact ok_X2_giveAlias_L122 _ _ _ _ _ _ _ hs0 hr1 hr2 hv2 hv10 hv15 E
            · replace E := mmI_t c30 E
              refine V_bipush (v := (-5)) dX2_giveAlias_119 (by decide) ?_
              obtain rfl := Option.some.inj E
              exact V_reti dX2_giveAlias_121 ⟨rfl, rfl, ir_m5⟩
        · replace E := mmI_t c18 E
          refine V_aload_n 0 dX2_giveAlias_62 rfl ?_
          obtain ⟨q31, hq31, E⟩ := mmB_e E
          refine V_callV (ci := 2) (q := (RX2, TX2, 10)) (Cn := RX2) (st := []) 0 dX2_giveAlias_63 (ct_X2_isDirectoryFull hs0 hq31) ml_X2_66 im_X2_isDirectoryFull sl_X2_isDirectoryFull it_X2 cd_X2_isDirectoryFull hy_X2_isDirectoryFull ⟨rfl, rfl, by decide, by decide⟩ hs0 rfl rfl rfl rfl (Nat.le_of_ble_eq_true rfl) (fun hv32 => ?_)
          refine V_if_eq 72 dX2_giveAlias_66 (by decide) hv32 (fun c33 => ?_) (fun c33 => ?_)
          · replace E := mmI_t c33 E
            refine V_aload_n 0 dX2_giveAlias_72 rfl ?_
            refine V_iload_n 1 dX2_giveAlias_73 rfl ?_
            refine V_iload_n 2 dX2_giveAlias_74 rfl ?_
            refine V_iload 5 dX2_giveAlias_75 rfl ?_
            refine V_aload_n 0 dX2_giveAlias_77 rfl ?_
            refine V_geta (ci := 2) (k := 3) (N := 10) (T := TX2) (o' := (l0 + 4)) dX2_giveAlias_78 iuX2 fl_X2_21 rfl (by decide) rfl hs0 rfl ?_
            refine V_iload_n 3 dX2_giveAlias_81 rfl ?_
            obtain ⟨hv34, E⟩ := mmK_e E
            refine V_iald (n := 24) (j := (q1.1).toNat) (v := (q31.2.1 (l0 + 4) (q1.1).toNat)) dX2_giveAlias_82 (mmS4 hs0) hv2 hv34 rfl (by first | rfl | simp [mwr]) (fun hv35 => ?_)
            refine V_aload_n 0 dX2_giveAlias_83 rfl ?_
            refine V_geta (ci := 2) (k := 4) (N := 10) (T := TX2) (o' := (l0 + 5)) dX2_giveAlias_84 iuX2 fl_X2_24 rfl (by decide) rfl hs0 rfl ?_
            refine V_iload_n 3 dX2_giveAlias_87 rfl ?_
            obtain ⟨hv36, E⟩ := mmK_e E
            refine V_iald (n := 24) (j := (q1.1).toNat) (v := (q31.2.1 (l0 + 5) (q1.1).toNat)) dX2_giveAlias_88 (mmS5 hs0) hv2 hv36 rfl (by first | rfl | simp [mwr]) (fun hv37 => ?_)
            obtain ⟨q38, hq38, E⟩ := mmB_e E
            refine V_callV (ci := 2) (q := (RX2, TX2, 10)) (Cn := RX2) (st := []) 5 dX2_giveAlias_89 (ct_X2_insertEntry hs0 hr1 hr2 hv15 hv35 hv37 hq38) ml_X2_76 im_X2_insertEntry sl_X2_insertEntry it_X2 cd_X2_insertEntry hy_X2_insertEntry ⟨rfl, rfl, by decide, by decide⟩ hs0 rfl rfl rfl rfl (Nat.le_of_ble_eq_true rfl) (fun hv39 => ?_)
            refine V_popi dX2_giveAlias_92 ?_
            refine V_iload 5 dX2_giveAlias_93 rfl ?_
            obtain rfl := Option.some.inj E
            exact V_reti dX2_giveAlias_95 ⟨rfl, rfl, hv15⟩
          · replace E := mmI_f c33 E
            refine V_bipush (v := (-6)) dX2_giveAlias_69 (by decide) ?_
            obtain rfl := Option.some.inj E
            exact V_reti dX2_giveAlias_71 ⟨rfl, rfl, ir_m6⟩
      · replace E := mmI_f c13 E
        refine V_bipush (v := (-7)) dX2_giveAlias_42 (by decide) ?_
        obtain rfl := Option.some.inj E
        exact V_reti dX2_giveAlias_44 ⟨rfl, rfl, ir_m7⟩
    · replace E := mmI_t c8 E
      refine V_bipush (v := (-2)) dX2_giveAlias_23 (by decide) ?_
      obtain rfl := Option.some.inj E
      exact V_reti dX2_giveAlias_25 ⟨rfl, rfl, ir_m2⟩
  · replace E := mmI_t c5 E
    refine V_iconst dX2_giveAlias_14 rfl ?_
    obtain rfl := Option.some.inj E
    exact V_reti dX2_giveAlias_15 ⟨rfl, rfl, ir_m1⟩
theorem ct_X2_giveAlias {l0 : Nat} {l1 : Int} {l2 : Int} {m : Mem} {r : Int × Mem} (hs0 : mmSh[l0]? = some (.inl 2)) (hr1 : inR l1) (hr2 : inR l2) (E : f_X2_giveAlias l0 l1 l2 m = some r) : CTi yX2_giveAlias cX2_giveAlias 6 (some .int) rm_X2_giveAlias [.ref l0, vi l1, vi l2] m r := CT_i (by decide +kernel) rfl (Nat.le_of_ble_eq_true rfl) (ok_X2_giveAlias _ _ _ _ hs0 hr1 hr2 E)
theorem hy_X2_giveAlias : yX2_giveAlias.cls = RX2 ∧ yX2_giveAlias.cls ≠ "java/lang/invoke/MethodHandle" ∧ yX2_giveAlias.cls ≠ "java/lang/invoke/VarHandle" ∧ (parseMethodDescriptor yX2_giveAlias.desc).map (fun d => d.parameters.length) = some 2 := by decide +kernel
abbrev rm_X1_makeAdditions : Room := { frames := 4, cells := 0, slots := 0, locals := 100 }
noncomputable def f_X1_makeAdditions_L2 : Nat → Nat → Int → Mem → Option (Int × Mem)
  | 0, _, _, _ => none
  | n + 1, l1, l2, m =>
    if (m.1 45 6) ≤ l2 then
(some ((m.1 45 6), m))
else
(if 12 ≤ l2 then
(some ((m.1 45 6), m))
else
(mmK (0 ≤ l2 ∧ l2 < 12) (if (m.1 48 (l2).toNat) = (-5) then
(mmK (0 ≤ l2 ∧ l2 < 12) (mmK (0 ≤ l2 ∧ l2 < 12) (mmK (0 ≤ l2 ∧ l2 < 12) ((f_X2_addMember l1 (m.1 47 (l2).toNat) (m.1 49 (l2).toNat) (m.1 50 (l2).toNat) m).bind (fun q25 => if 0 ≤ q25.1 then
(mmK (inR (l2 + 1)) (f_X1_makeAdditions_L2 n l1 (l2 + 1) q25.2))
else
(if q25.1 = (-5) then
(mmK (inR (l2 + 1)) (f_X1_makeAdditions_L2 n l1 (l2 + 1) q25.2))
else
(some (q25.1, q25.2))))))))
else
(mmK (0 ≤ l2 ∧ l2 < 12) (mmK (0 ≤ l2 ∧ l2 < 12) ((f_X2_giveAlias l1 (m.1 47 (l2).toNat) (m.1 48 (l2).toNat) m).bind (fun q13 => if 0 ≤ q13.1 then
(mmK (inR (l2 + 1)) (f_X1_makeAdditions_L2 n l1 (l2 + 1) q13.2))
else
(if q13.1 = (-5) then
(mmK (inR (l2 + 1)) (f_X1_makeAdditions_L2 n l1 (l2 + 1) q13.2))
else
(some (q13.1, q13.2))))))))))
set_option maxRecDepth 100000 in
set_option maxHeartbeats 4000000 in
theorem ok_X1_makeAdditions_L2 {r : Int × Mem} : ∀ (n : Nat), ∀ (l1 : Nat) (l2 : Int) (m : Mem), mmSh[l1]? = some (.inl 2) → inR l2 → f_X1_makeAdditions_L2 n l1 l2 m = some r → VV RX1 cX1_makeAdditions 4 rm_X1_makeAdditions mmG0 (mmPi r) 2 [(0, .ref 45), (1, .ref l1), (2, vi l2)] [] m := by
  intro n
  induction n with
  | zero =>
    intro l1 l2 m hs1 hr2 E
    cases E
  | succ n ih =>
    intro l1 l2 m hs1 hr2 E
    rw [f_X1_makeAdditions_L2] at E
    refine V_iload_n 2 dX1_makeAdditions_2 rfl ?_
    refine V_aload_n 0 dX1_makeAdditions_3 rfl ?_
    refine V_geti (ci := 1) (k := 6) (N := 8) (T := TX1) (v := (m.1 45 6)) dX1_makeAdditions_4 iuX1 fl_X1_32 rfl (by decide) rfl sh_45 rfl (fun hv1 => ?_)
    refine V_icmp_ge 87 dX1_makeAdditions_7 (by decide) hr2 hv1 (fun c2 => ?_) (fun c2 => ?_)
    · replace E := mmI_t c2 E
      refine V_aload_n 0 dX1_makeAdditions_87 rfl ?_
      refine V_geti (ci := 1) (k := 6) (N := 8) (T := TX1) (v := (m.1 45 6)) dX1_makeAdditions_88 iuX1 fl_X1_32 rfl (by decide) rfl sh_45 rfl (fun hv3 => ?_)
      obtain rfl := Option.some.inj E
      exact V_reti dX1_makeAdditions_91 ⟨rfl, rfl, hv3⟩
    · replace E := mmI_f c2 E
      refine V_iload_n 2 dX1_makeAdditions_10 rfl ?_
      refine V_bipush (v := 12) dX1_makeAdditions_11 (by decide) ?_
      refine V_icmp_ge 87 dX1_makeAdditions_13 (by decide) hr2 ir_12 (fun c4 => ?_) (fun c4 => ?_)
      · replace E := mmI_t c4 E
        refine V_aload_n 0 dX1_makeAdditions_87 rfl ?_
        refine V_geti (ci := 1) (k := 6) (N := 8) (T := TX1) (v := (m.1 45 6)) dX1_makeAdditions_88 iuX1 fl_X1_32 rfl (by decide) rfl sh_45 rfl (fun hv5 => ?_)
        obtain rfl := Option.some.inj E
        exact V_reti dX1_makeAdditions_91 ⟨rfl, rfl, hv5⟩
      · replace E := mmI_f c4 E
        refine V_aload_n 0 dX1_makeAdditions_16 rfl ?_
        refine V_geta (ci := 1) (k := 3) (N := 8) (T := TX1) (o' := 48) dX1_makeAdditions_17 iuX1 fl_X1_23 rfl (by decide) rfl sh_45 rfl ?_
        refine V_iload_n 2 dX1_makeAdditions_20 rfl ?_
        obtain ⟨hv6, E⟩ := mmK_e E
        refine V_iald (n := 12) (j := (l2).toNat) (v := (m.1 48 (l2).toNat)) dX1_makeAdditions_21 sh_48 hr2 hv6 rfl rfl (fun hv7 => ?_)
        refine V_bipush (v := (-5)) dX1_makeAdditions_22 (by decide) ?_
        refine V_icmp_ne 52 dX1_makeAdditions_24 (by decide) hv7 ir_m5 (fun c8 => ?_) (fun c8 => ?_)
        · replace E := mmI_f c8 E
          refine V_aload_n 1 dX1_makeAdditions_52 rfl ?_
          refine V_aload_n 0 dX1_makeAdditions_53 rfl ?_
          refine V_geta (ci := 1) (k := 2) (N := 8) (T := TX1) (o' := 47) dX1_makeAdditions_54 iuX1 fl_X1_19 rfl (by decide) rfl sh_45 rfl ?_
          refine V_iload_n 2 dX1_makeAdditions_57 rfl ?_
          obtain ⟨hv9, E⟩ := mmK_e E
          refine V_iald (n := 12) (j := (l2).toNat) (v := (m.1 47 (l2).toNat)) dX1_makeAdditions_58 sh_47 hr2 hv9 rfl rfl (fun hv10 => ?_)
          refine V_aload_n 0 dX1_makeAdditions_59 rfl ?_
          refine V_geta (ci := 1) (k := 3) (N := 8) (T := TX1) (o' := 48) dX1_makeAdditions_60 iuX1 fl_X1_23 rfl (by decide) rfl sh_45 rfl ?_
          refine V_iload_n 2 dX1_makeAdditions_63 rfl ?_
          obtain ⟨hv11, E⟩ := mmK_e E
          refine V_iald (n := 12) (j := (l2).toNat) (v := (m.1 48 (l2).toNat)) dX1_makeAdditions_64 sh_48 hr2 hv11 rfl rfl (fun hv12 => ?_)
          obtain ⟨q13, hq13, E⟩ := mmB_e E
          refine V_callV (ci := 2) (q := (RX2, TX2, 10)) (Cn := RX2) (st := []) 2 dX1_makeAdditions_65 (ct_X2_giveAlias hs1 hv10 hv12 hq13) ml_X1_52 im_X2_giveAlias sl_X2_giveAlias it_X2 cd_X2_giveAlias hy_X2_giveAlias ⟨rfl, rfl, by decide, by decide⟩ hs1 rfl rfl rfl rfl (Nat.le_of_ble_eq_true rfl) (fun hv14 => ?_)
          refine V_istore_n (i := 3) (lv' := [(0, .ref 45), (1, .ref l1), (2, vi l2), (3, vi q13.1)]) dX1_makeAdditions_68 rfl rfl rfl ?_
          refine V_iload_n 3 dX1_makeAdditions_69 rfl ?_
          refine V_if_ge 81 dX1_makeAdditions_70 (by decide) hv14 (fun c15 => ?_) (fun c15 => ?_)
          · replace E := mmI_t c15 E
            obtain ⟨hv16, E⟩ := mmK_e E
            refine V_iinc (v := (l2 + 1)) (lv' := [(0, .ref 45), (1, .ref l1), (2, vi (l2 + 1)), (3, vi q13.1)]) 2 dX1_makeAdditions_81 rfl rfl rfl rfl ?_
            refine V_goto 2 dX1_makeAdditions_84 (by decide) ?_
            refine V_sub [0, 1, 2] rfl ?_
            exact ih _ _ _ hs1 hv16 E
          · replace E := mmI_f c15 E
            refine V_iload_n 3 dX1_makeAdditions_73 rfl ?_
            refine V_bipush (v := (-5)) dX1_makeAdditions_74 (by decide) ?_
            refine V_icmp_eq 81 dX1_makeAdditions_76 (by decide) hv14 ir_m5 (fun c17 => ?_) (fun c17 => ?_)
            · replace E := mmI_t c17 E
              obtain ⟨hv18, E⟩ := mmK_e E
              refine V_iinc (v := (l2 + 1)) (lv' := [(0, .ref 45), (1, .ref l1), (2, vi (l2 + 1)), (3, vi q13.1)]) 2 dX1_makeAdditions_81 rfl rfl rfl rfl ?_
              refine V_goto 2 dX1_makeAdditions_84 (by decide) ?_
              refine V_sub [0, 1, 2] rfl ?_
              exact ih _ _ _ hs1 hv18 E
            · replace E := mmI_f c17 E
              refine V_iload_n 3 dX1_makeAdditions_79 rfl ?_
              obtain rfl := Option.some.inj E
              exact V_reti dX1_makeAdditions_80 ⟨rfl, rfl, hv14⟩
        · replace E := mmI_t c8 E
          refine V_aload_n 1 dX1_makeAdditions_27 rfl ?_
          refine V_aload_n 0 dX1_makeAdditions_28 rfl ?_
          refine V_geta (ci := 1) (k := 2) (N := 8) (T := TX1) (o' := 47) dX1_makeAdditions_29 iuX1 fl_X1_19 rfl (by decide) rfl sh_45 rfl ?_
          refine V_iload_n 2 dX1_makeAdditions_32 rfl ?_
          obtain ⟨hv19, E⟩ := mmK_e E
          refine V_iald (n := 12) (j := (l2).toNat) (v := (m.1 47 (l2).toNat)) dX1_makeAdditions_33 sh_47 hr2 hv19 rfl rfl (fun hv20 => ?_)
          refine V_aload_n 0 dX1_makeAdditions_34 rfl ?_
          refine V_geta (ci := 1) (k := 4) (N := 8) (T := TX1) (o' := 49) dX1_makeAdditions_35 iuX1 fl_X1_26 rfl (by decide) rfl sh_45 rfl ?_
          refine V_iload_n 2 dX1_makeAdditions_38 rfl ?_
          obtain ⟨hv21, E⟩ := mmK_e E
          refine V_iald (n := 12) (j := (l2).toNat) (v := (m.1 49 (l2).toNat)) dX1_makeAdditions_39 sh_49 hr2 hv21 rfl rfl (fun hv22 => ?_)
          refine V_aload_n 0 dX1_makeAdditions_40 rfl ?_
          refine V_geta (ci := 1) (k := 5) (N := 8) (T := TX1) (o' := 50) dX1_makeAdditions_41 iuX1 fl_X1_29 rfl (by decide) rfl sh_45 rfl ?_
          refine V_iload_n 2 dX1_makeAdditions_44 rfl ?_
          obtain ⟨hv23, E⟩ := mmK_e E
          refine V_iald (n := 12) (j := (l2).toNat) (v := (m.1 50 (l2).toNat)) dX1_makeAdditions_45 sh_50 hr2 hv23 rfl rfl (fun hv24 => ?_)
          obtain ⟨q25, hq25, E⟩ := mmB_e E
          refine V_callV (ci := 2) (q := (RX2, TX2, 10)) (Cn := RX2) (st := []) 3 dX1_makeAdditions_46 (ct_X2_addMember hs1 hv20 hv22 hv24 hq25) ml_X1_46 im_X2_addMember sl_X2_addMember it_X2 cd_X2_addMember hy_X2_addMember ⟨rfl, rfl, by decide, by decide⟩ hs1 rfl rfl rfl rfl (Nat.le_of_ble_eq_true rfl) (fun hv26 => ?_)
          refine V_goto 68 dX1_makeAdditions_49 (by decide) ?_
          refine V_istore_n (i := 3) (lv' := [(0, .ref 45), (1, .ref l1), (2, vi l2), (3, vi q25.1)]) dX1_makeAdditions_68 rfl rfl rfl ?_
          refine V_iload_n 3 dX1_makeAdditions_69 rfl ?_
          refine V_if_ge 81 dX1_makeAdditions_70 (by decide) hv26 (fun c27 => ?_) (fun c27 => ?_)
          · replace E := mmI_t c27 E
            obtain ⟨hv28, E⟩ := mmK_e E
            refine V_iinc (v := (l2 + 1)) (lv' := [(0, .ref 45), (1, .ref l1), (2, vi (l2 + 1)), (3, vi q25.1)]) 2 dX1_makeAdditions_81 rfl rfl rfl rfl ?_
            refine V_goto 2 dX1_makeAdditions_84 (by decide) ?_
            refine V_sub [0, 1, 2] rfl ?_
            exact ih _ _ _ hs1 hv28 E
          · replace E := mmI_f c27 E
            refine V_iload_n 3 dX1_makeAdditions_73 rfl ?_
            refine V_bipush (v := (-5)) dX1_makeAdditions_74 (by decide) ?_
            refine V_icmp_eq 81 dX1_makeAdditions_76 (by decide) hv26 ir_m5 (fun c29 => ?_) (fun c29 => ?_)
            · replace E := mmI_t c29 E
              obtain ⟨hv30, E⟩ := mmK_e E
              refine V_iinc (v := (l2 + 1)) (lv' := [(0, .ref 45), (1, .ref l1), (2, vi (l2 + 1)), (3, vi q25.1)]) 2 dX1_makeAdditions_81 rfl rfl rfl rfl ?_
              refine V_goto 2 dX1_makeAdditions_84 (by decide) ?_
              refine V_sub [0, 1, 2] rfl ?_
              exact ih _ _ _ hs1 hv30 E
            · replace E := mmI_f c29 E
              refine V_iload_n 3 dX1_makeAdditions_79 rfl ?_
              obtain rfl := Option.some.inj E
              exact V_reti dX1_makeAdditions_80 ⟨rfl, rfl, hv26⟩
noncomputable def f_X1_makeAdditions (l1 : Nat) (m : Mem) : Option (Int × Mem) :=
  f_X1_makeAdditions_L2 mmFU l1 0 m
set_option maxRecDepth 100000 in
set_option maxHeartbeats 4000000 in
theorem ok_X1_makeAdditions {r : Int × Mem} : ∀ (l1 : Nat) (m : Mem), mmSh[l1]? = some (.inl 2) → f_X1_makeAdditions l1 m = some r → VV RX1 cX1_makeAdditions 4 rm_X1_makeAdditions mmG0 (mmPi r) 0 [(0, .ref 45), (1, .ref l1)] [] m := by
  intro l1 m hs1 E
  unfold f_X1_makeAdditions at E
  refine V_iconst dX1_makeAdditions_0 rfl ?_
  refine V_istore_n (i := 2) (lv' := [(0, .ref 45), (1, .ref l1), (2, vi 0)]) dX1_makeAdditions_1 rfl rfl rfl ?_
  exact ok_X1_makeAdditions_L2 mmFU _ _ _ hs1 ir_0 E
theorem ct_X1_makeAdditions {l1 : Nat} {m : Mem} {r : Int × Mem} (hs1 : mmSh[l1]? = some (.inl 2)) (E : f_X1_makeAdditions l1 m = some r) : CTi yX1_makeAdditions cX1_makeAdditions 4 (some .int) rm_X1_makeAdditions [.ref 45, .ref l1] m r := CT_i (by decide +kernel) rfl (Nat.le_of_ble_eq_true rfl) (ok_X1_makeAdditions _ _ hs1 E)
theorem hy_X1_makeAdditions : yX1_makeAdditions.cls = RX1 ∧ yX1_makeAdditions.cls ≠ "java/lang/invoke/MethodHandle" ∧ yX1_makeAdditions.cls ≠ "java/lang/invoke/VarHandle" ∧ (parseMethodDescriptor yX1_makeAdditions.desc).map (fun d => d.parameters.length) = some 1 := by decide +kernel
abbrev rm_X2_replaceText : Room := { frames := 2, cells := 0, slots := 0, locals := 47 }
noncomputable def f_X2_replaceText (l0 : Nat) (l1 : Int) (l2 : Int) (l3 : Int) (m : Mem) : Option (Int × Mem) :=
  (f_X2_rankOf l0 l1 m).bind (fun q1 => (f_X2_isMember l0 q1.1 q1.2).bind (fun q3 => if q3.1 = 0 then
(some ((-1), q3.2))
else
((f_X2_isLength l2 q3.2).bind (fun q6 => if q6.1 = 0 then
(some ((-2), q6.2))
else
((f_X2_isMark l3 q6.2).bind (fun q9 => if q9.1 = 0 then
(some ((-2), q9.2))
else
((f_X2_hasRoom l0 l2 q9.2).bind (fun q12 => if q12.1 = 0 then
(some ((-3), q12.2))
else
((f_X2_layText l0 l2 q12.2).bind (fun q15 => (f_X2_setEntry l0 q1.1 l1 (-5) q15.1 l2 l3 q15.2).bind (fun q17 => some (q15.1, q17))))))))))))
set_option maxRecDepth 100000 in
set_option maxHeartbeats 4000000 in
theorem ok_X2_replaceText {r : Int × Mem} : ∀ (l0 : Nat) (l1 : Int) (l2 : Int) (l3 : Int) (m : Mem), mmSh[l0]? = some (.inl 2) → inR l1 → inR l2 → inR l3 → f_X2_replaceText l0 l1 l2 l3 m = some r → VV RX2 cX2_replaceText 6 rm_X2_replaceText mmG0 (mmPi r) 0 [(0, .ref l0), (1, vi l1), (2, vi l2), (3, vi l3)] [] m := by
  intro l0 l1 l2 l3 m hs0 hr1 hr2 hr3 E
  unfold f_X2_replaceText at E
  refine V_aload_n 0 dX2_replaceText_0 rfl ?_
  refine V_iload_n 1 dX2_replaceText_1 rfl ?_
  obtain ⟨q1, hq1, E⟩ := mmB_e E
  refine V_callV (ci := 2) (q := (RX2, TX2, 10)) (Cn := RX2) (st := []) 1 dX2_replaceText_2 (ct_X2_rankOf hs0 hr1 hq1) ml_X2_59 im_X2_rankOf sl_X2_rankOf it_X2 cd_X2_rankOf hy_X2_rankOf ⟨rfl, rfl, by decide, by decide⟩ hs0 rfl rfl rfl rfl (Nat.le_of_ble_eq_true rfl) (fun hv2 => ?_)
  refine V_istore (lv' := [(0, .ref l0), (1, vi l1), (2, vi l2), (3, vi l3), (4, vi q1.1)]) dX2_replaceText_5 rfl rfl ?_
  refine V_aload_n 0 dX2_replaceText_7 rfl ?_
  refine V_iload 4 dX2_replaceText_8 rfl ?_
  obtain ⟨q3, hq3, E⟩ := mmB_e E
  refine V_callV (ci := 2) (q := (RX2, TX2, 10)) (Cn := RX2) (st := []) 1 dX2_replaceText_10 (ct_X2_isMember hs0 hv2 hq3) ml_X2_80 im_X2_isMember sl_X2_isMember it_X2 cd_X2_isMember hy_X2_isMember ⟨rfl, rfl, by decide, by decide⟩ hs0 rfl rfl rfl rfl (Nat.le_of_ble_eq_true rfl) (fun hv4 => ?_)
  refine V_if_ne 18 dX2_replaceText_13 (by decide) hv4 (fun c5 => ?_) (fun c5 => ?_)
  · replace E := mmI_f c5 E
    refine V_iload_n 2 dX2_replaceText_18 rfl ?_
    obtain ⟨q6, hq6, E⟩ := mmB_e E
    refine V_callS (st := []) 1 dX2_replaceText_19 (ct_X2_isLength hr2 hq6) ml_X2_53 st_X2_isLength it_X2 cd_X2_isLength hz_X2_isLength ⟨rfl, rfl, by decide, by decide⟩ rfl rfl (Nat.le_of_ble_eq_true rfl) (fun hv7 => ?_)
    refine V_if_eq 32 dX2_replaceText_22 (by decide) hv7 (fun c8 => ?_) (fun c8 => ?_)
    · replace E := mmI_t c8 E
      refine V_bipush (v := (-2)) dX2_replaceText_32 (by decide) ?_
      obtain rfl := Option.some.inj E
      exact V_reti dX2_replaceText_34 ⟨rfl, rfl, ir_m2⟩
    · replace E := mmI_f c8 E
      refine V_iload_n 3 dX2_replaceText_25 rfl ?_
      obtain ⟨q9, hq9, E⟩ := mmB_e E
      refine V_callS (st := []) 1 dX2_replaceText_26 (ct_X2_isMark hr3 hq9) ml_X2_56 st_X2_isMark it_X2 cd_X2_isMark hz_X2_isMark ⟨rfl, rfl, by decide, by decide⟩ rfl rfl (Nat.le_of_ble_eq_true rfl) (fun hv10 => ?_)
      refine V_if_ne 35 dX2_replaceText_29 (by decide) hv10 (fun c11 => ?_) (fun c11 => ?_)
      · replace E := mmI_f c11 E
        refine V_aload_n 0 dX2_replaceText_35 rfl ?_
        refine V_iload_n 2 dX2_replaceText_36 rfl ?_
        obtain ⟨q12, hq12, E⟩ := mmB_e E
        refine V_callV (ci := 2) (q := (RX2, TX2, 10)) (Cn := RX2) (st := []) 1 dX2_replaceText_37 (ct_X2_hasRoom hs0 hr2 hq12) ml_X2_70 im_X2_hasRoom sl_X2_hasRoom it_X2 cd_X2_hasRoom hy_X2_hasRoom ⟨rfl, rfl, by decide, by decide⟩ hs0 rfl rfl rfl rfl (Nat.le_of_ble_eq_true rfl) (fun hv13 => ?_)
        refine V_if_ne 46 dX2_replaceText_40 (by decide) hv13 (fun c14 => ?_) (fun c14 => ?_)
        · replace E := mmI_f c14 E
          refine V_aload_n 0 dX2_replaceText_46 rfl ?_
          refine V_iload_n 2 dX2_replaceText_47 rfl ?_
          obtain ⟨q15, hq15, E⟩ := mmB_e E
          refine V_callV (ci := 2) (q := (RX2, TX2, 10)) (Cn := RX2) (st := []) 1 dX2_replaceText_48 (ct_X2_layText hs0 hr2 hq15) ml_X2_73 im_X2_layText sl_X2_layText it_X2 cd_X2_layText hy_X2_layText ⟨rfl, rfl, by decide, by decide⟩ hs0 rfl rfl rfl rfl (Nat.le_of_ble_eq_true rfl) (fun hv16 => ?_)
          refine V_istore (lv' := [(0, .ref l0), (1, vi l1), (2, vi l2), (3, vi l3), (4, vi q1.1), (5, vi q15.1)]) dX2_replaceText_51 rfl rfl ?_
          refine V_aload_n 0 dX2_replaceText_53 rfl ?_
          refine V_iload 4 dX2_replaceText_54 rfl ?_
          refine V_iload_n 1 dX2_replaceText_56 rfl ?_
          refine V_bipush (v := (-5)) dX2_replaceText_57 (by decide) ?_
          refine V_iload 5 dX2_replaceText_59 rfl ?_
          refine V_iload_n 2 dX2_replaceText_61 rfl ?_
          refine V_iload_n 3 dX2_replaceText_62 rfl ?_
          obtain ⟨q17, hq17, E⟩ := mmB_e E
          refine V_callVv (ci := 2) (q := (RX2, TX2, 10)) (Cn := RX2) (st := []) 6 dX2_replaceText_63 (ct_X2_setEntry hs0 hv2 hr1 ir_m5 hv16 hr2 hr3 hq17) ml_X2_83 im_X2_setEntry sl_X2_setEntry it_X2 cd_X2_setEntry hy_X2_setEntry ⟨rfl, rfl, by decide, by decide⟩ hs0 rfl rfl rfl rfl (Nat.le_of_ble_eq_true rfl) ?_
          refine V_iload 5 dX2_replaceText_66 rfl ?_
          obtain rfl := Option.some.inj E
          exact V_reti dX2_replaceText_68 ⟨rfl, rfl, hv16⟩
        · replace E := mmI_t c14 E
          refine V_bipush (v := (-3)) dX2_replaceText_43 (by decide) ?_
          obtain rfl := Option.some.inj E
          exact V_reti dX2_replaceText_45 ⟨rfl, rfl, ir_m3⟩
      · replace E := mmI_t c11 E
        refine V_bipush (v := (-2)) dX2_replaceText_32 (by decide) ?_
        obtain rfl := Option.some.inj E
        exact V_reti dX2_replaceText_34 ⟨rfl, rfl, ir_m2⟩
  · replace E := mmI_t c5 E
    refine V_iconst dX2_replaceText_16 rfl ?_
    obtain rfl := Option.some.inj E
    exact V_reti dX2_replaceText_17 ⟨rfl, rfl, ir_m1⟩
theorem ct_X2_replaceText {l0 : Nat} {l1 : Int} {l2 : Int} {l3 : Int} {m : Mem} {r : Int × Mem} (hs0 : mmSh[l0]? = some (.inl 2)) (hr1 : inR l1) (hr2 : inR l2) (hr3 : inR l3) (E : f_X2_replaceText l0 l1 l2 l3 m = some r) : CTi yX2_replaceText cX2_replaceText 6 (some .int) rm_X2_replaceText [.ref l0, vi l1, vi l2, vi l3] m r := CT_i (by decide +kernel) rfl (Nat.le_of_ble_eq_true rfl) (ok_X2_replaceText _ _ _ _ _ hs0 hr1 hr2 hr3 E)
theorem hy_X2_replaceText : yX2_replaceText.cls = RX2 ∧ yX2_replaceText.cls ≠ "java/lang/invoke/MethodHandle" ∧ yX2_replaceText.cls ≠ "java/lang/invoke/VarHandle" ∧ (parseMethodDescriptor yX2_replaceText.desc).map (fun d => d.parameters.length) = some 3 := by decide +kernel
abbrev rm_X2_takeOut : Room := { frames := 2, cells := 0, slots := 0, locals := 49 }
noncomputable def f_X2_takeOut (l0 : Nat) (l1 : Int) (m : Mem) : Option (Mem) :=
  (f_X2_isRank l0 l1 m).bind (fun q1 => if q1.1 = 0 then
(some q1.2)
else
(mmK (inR (l1 + 1)) (mmK (inR ((q1.2.1 l0 5) - l1)) (mmK (inR (((q1.2.1 l0 5) - l1) - 1)) ((f_X2_moveEntries l0 (l1 + 1) l1 (((q1.2.1 l0 5) - l1) - 1) q1.2).bind (fun q8 => mmK (inR ((q8.1 l0 5) - 1)) (some (mwr q8 l0 5 ((q8.1 l0 5) - 1)))))))))
set_option maxRecDepth 100000 in
set_option maxHeartbeats 4000000 in
theorem ok_X2_takeOut {r : Mem} : ∀ (l0 : Nat) (l1 : Int) (m : Mem), mmSh[l0]? = some (.inl 2) → inR l1 → f_X2_takeOut l0 l1 m = some r → VV RX2 cX2_takeOut 2 rm_X2_takeOut mmG0 (mmPv r) 0 [(0, .ref l0), (1, vi l1)] [] m := by
  intro l0 l1 m hs0 hr1 E
  unfold f_X2_takeOut at E
  refine V_aload_n 0 dX2_takeOut_0 rfl ?_
  refine V_iload_n 1 dX2_takeOut_1 rfl ?_
  obtain ⟨q1, hq1, E⟩ := mmB_e E
  refine V_callV (ci := 2) (q := (RX2, TX2, 10)) (Cn := RX2) (st := []) 1 dX2_takeOut_2 (ct_X2_isRank hs0 hr1 hq1) ml_X2_63 im_X2_isRank sl_X2_isRank it_X2 cd_X2_isRank hy_X2_isRank ⟨rfl, rfl, by decide, by decide⟩ hs0 rfl rfl rfl rfl (Nat.le_of_ble_eq_true rfl) (fun hv2 => ?_)
  refine V_if_eq 34 dX2_takeOut_5 (by decide) hv2 (fun c3 => ?_) (fun c3 => ?_)
  · replace E := mmI_t c3 E
    obtain rfl := Option.some.inj E
    exact V_retv dX2_takeOut_34 ⟨rfl, rfl⟩
  · replace E := mmI_f c3 E
    refine V_aload_n 0 dX2_takeOut_8 rfl ?_
    refine V_iload_n 1 dX2_takeOut_9 rfl ?_
    refine V_iconst dX2_takeOut_10 rfl ?_
    obtain ⟨hv4, E⟩ := mmK_e E
    refine V_iadd dX2_takeOut_11 ?_
    refine V_iload_n 1 dX2_takeOut_12 rfl ?_
    refine V_aload_n 0 dX2_takeOut_13 rfl ?_
    refine V_geti (ci := 2) (k := 5) (N := 10) (T := TX2) (v := (q1.2.1 l0 5)) dX2_takeOut_14 iuX2 fl_X2_27 rfl (by decide) rfl hs0 (by first | rfl | simp [mwr]) (fun hv5 => ?_)
    refine V_iload_n 1 dX2_takeOut_17 rfl ?_
    obtain ⟨hv6, E⟩ := mmK_e E
    refine V_isub dX2_takeOut_18 ?_
    refine V_iconst dX2_takeOut_19 rfl ?_
    obtain ⟨hv7, E⟩ := mmK_e E
    refine V_isub dX2_takeOut_20 ?_
    obtain ⟨q8, hq8, E⟩ := mmB_e E
    refine V_callVv (ci := 2) (q := (RX2, TX2, 10)) (Cn := RX2) (st := []) 3 dX2_takeOut_21 (ct_X2_moveEntries hs0 hv4 hr1 hv7 hq8) ml_X2_138 im_X2_moveEntries sl_X2_moveEntries it_X2 cd_X2_moveEntries hy_X2_moveEntries ⟨rfl, rfl, by decide, by decide⟩ hs0 rfl rfl rfl rfl (Nat.le_of_ble_eq_true rfl) ?_
    refine V_aload_n 0 dX2_takeOut_24 rfl ?_
    refine V_dupa dX2_takeOut_25 ?_
    refine V_geti (ci := 2) (k := 5) (N := 10) (T := TX2) (v := (q8.1 l0 5)) dX2_takeOut_26 iuX2 fl_X2_27 rfl (by decide) rfl hs0 (by first | rfl | simp [mwr]) (fun hv10 => ?_)
    refine V_iconst dX2_takeOut_29 rfl ?_
    obtain ⟨hv11, E⟩ := mmK_e E
    refine V_isub dX2_takeOut_30 ?_
    refine V_put (ci := 2) (k := 5) (N := 10) (T := TX2) (x := ((q8.1 l0 5) - 1)) (ty := .int) tyX2 dX2_takeOut_31 iuX2 tyX2_ok nmX2 fl_X2_27 rfl (by decide) rfl hs0 rfl (by decide +kernel) rfl rfl hv11 ?_
    obtain rfl := Option.some.inj E
    exact V_retv dX2_takeOut_34 ⟨rfl, rfl⟩
theorem ct_X2_takeOut {l0 : Nat} {l1 : Int} {m : Mem} {r : Mem} (hs0 : mmSh[l0]? = some (.inl 2)) (hr1 : inR l1) (E : f_X2_takeOut l0 l1 m = some r) : CTv yX2_takeOut cX2_takeOut 2 rm_X2_takeOut [.ref l0, vi l1] m r := CT_v (by decide +kernel) rfl (Nat.le_of_ble_eq_true rfl) (ok_X2_takeOut _ _ _ hs0 hr1 E)
theorem hy_X2_takeOut : yX2_takeOut.cls = RX2 ∧ yX2_takeOut.cls ≠ "java/lang/invoke/MethodHandle" ∧ yX2_takeOut.cls ≠ "java/lang/invoke/VarHandle" ∧ (parseMethodDescriptor yX2_takeOut.desc).map (fun d => d.parameters.length) = some 1 := by decide +kernel
abbrev rm_X2_removeEntry : Room := { frames := 3, cells := 0, slots := 0, locals := 70 }
noncomputable def f_X2_removeEntry (l0 : Nat) (l1 : Int) (m : Mem) : Option (Int × Mem) :=
  (f_X2_rankOf l0 l1 m).bind (fun q1 => (f_X2_isRank l0 q1.1 q1.2).bind (fun q3 => if q3.1 = 0 then
(some ((-1), q3.2))
else
((f_X2_takeOut l0 q1.1 q3.2).bind (fun q6 => some ((q6.1 l0 5), q6)))))
set_option maxRecDepth 100000 in
set_option maxHeartbeats 4000000 in
theorem ok_X2_removeEntry {r : Int × Mem} : ∀ (l0 : Nat) (l1 : Int) (m : Mem), mmSh[l0]? = some (.inl 2) → inR l1 → f_X2_removeEntry l0 l1 m = some r → VV RX2 cX2_removeEntry 3 rm_X2_removeEntry mmG0 (mmPi r) 0 [(0, .ref l0), (1, vi l1)] [] m := by
  intro l0 l1 m hs0 hr1 E
  unfold f_X2_removeEntry at E
  refine V_aload_n 0 dX2_removeEntry_0 rfl ?_
  refine V_iload_n 1 dX2_removeEntry_1 rfl ?_
  obtain ⟨q1, hq1, E⟩ := mmB_e E
  refine V_callV (ci := 2) (q := (RX2, TX2, 10)) (Cn := RX2) (st := []) 1 dX2_removeEntry_2 (ct_X2_rankOf hs0 hr1 hq1) ml_X2_59 im_X2_rankOf sl_X2_rankOf it_X2 cd_X2_rankOf hy_X2_rankOf ⟨rfl, rfl, by decide, by decide⟩ hs0 rfl rfl rfl rfl (Nat.le_of_ble_eq_true rfl) (fun hv2 => ?_)
  refine V_istore_n (i := 2) (lv' := [(0, .ref l0), (1, vi l1), (2, vi q1.1)]) dX2_removeEntry_5 rfl rfl rfl ?_
  refine V_aload_n 0 dX2_removeEntry_6 rfl ?_
  refine V_iload_n 2 dX2_removeEntry_7 rfl ?_
  obtain ⟨q3, hq3, E⟩ := mmB_e E
  refine V_callV (ci := 2) (q := (RX2, TX2, 10)) (Cn := RX2) (st := []) 1 dX2_removeEntry_8 (ct_X2_isRank hs0 hv2 hq3) ml_X2_63 im_X2_isRank sl_X2_isRank it_X2 cd_X2_isRank hy_X2_isRank ⟨rfl, rfl, by decide, by decide⟩ hs0 rfl rfl rfl rfl (Nat.le_of_ble_eq_true rfl) (fun hv4 => ?_)
  refine V_if_ne 16 dX2_removeEntry_11 (by decide) hv4 (fun c5 => ?_) (fun c5 => ?_)
  · replace E := mmI_f c5 E
    refine V_aload_n 0 dX2_removeEntry_16 rfl ?_
    refine V_iload_n 2 dX2_removeEntry_17 rfl ?_
    obtain ⟨q6, hq6, E⟩ := mmB_e E
    refine V_callVv (ci := 2) (q := (RX2, TX2, 10)) (Cn := RX2) (st := []) 1 dX2_removeEntry_18 (ct_X2_takeOut hs0 hv2 hq6) ml_X2_87 im_X2_takeOut sl_X2_takeOut it_X2 cd_X2_takeOut hy_X2_takeOut ⟨rfl, rfl, by decide, by decide⟩ hs0 rfl rfl rfl rfl (Nat.le_of_ble_eq_true rfl) ?_
    refine V_aload_n 0 dX2_removeEntry_21 rfl ?_
    refine V_geti (ci := 2) (k := 5) (N := 10) (T := TX2) (v := (q6.1 l0 5)) dX2_removeEntry_22 iuX2 fl_X2_27 rfl (by decide) rfl hs0 (by first | rfl | simp [mwr]) (fun hv8 => ?_)
    obtain rfl := Option.some.inj E
    exact V_reti dX2_removeEntry_25 ⟨rfl, rfl, hv8⟩
  · replace E := mmI_t c5 E
    refine V_iconst dX2_removeEntry_14 rfl ?_
    obtain rfl := Option.some.inj E
    exact V_reti dX2_removeEntry_15 ⟨rfl, rfl, ir_m1⟩
theorem ct_X2_removeEntry {l0 : Nat} {l1 : Int} {m : Mem} {r : Int × Mem} (hs0 : mmSh[l0]? = some (.inl 2)) (hr1 : inR l1) (E : f_X2_removeEntry l0 l1 m = some r) : CTi yX2_removeEntry cX2_removeEntry 3 (some .int) rm_X2_removeEntry [.ref l0, vi l1] m r := CT_i (by decide +kernel) rfl (Nat.le_of_ble_eq_true rfl) (ok_X2_removeEntry _ _ _ hs0 hr1 E)
theorem hy_X2_removeEntry : yX2_removeEntry.cls = RX2 ∧ yX2_removeEntry.cls ≠ "java/lang/invoke/MethodHandle" ∧ yX2_removeEntry.cls ≠ "java/lang/invoke/VarHandle" ∧ (parseMethodDescriptor yX2_removeEntry.desc).map (fun d => d.parameters.length) = some 1 := by decide +kernel
abbrev rm_X2_tellAliases : Room := { frames := 0, cells := 0, slots := 0, locals := 0 }
noncomputable def f_X2_tellAliases_L2 : Nat → Nat → Int → Int → Int → Mem → Option (Mem)
  | 0, _, _, _, _, _ => none
  | n + 1, l0, l1, l2, l3, m =>
    if (m.1 l0 5) ≤ l3 then
(some m)
else
(mmK (0 ≤ l3 ∧ l3 < 24) (if (m.1 (l0 + 2) (l3).toNat) = l1 then
(mmK (0 ≤ l3 ∧ l3 < 24) (mmK (inR (l3 + 1)) (f_X2_tellAliases_L2 n l0 l1 l2 (l3 + 1) (mwr m (l0 + 2) (l3).toNat l2))))
else
(mmK (inR (l3 + 1)) (f_X2_tellAliases_L2 n l0 l1 l2 (l3 + 1) m))))
set_option maxRecDepth 100000 in
set_option maxHeartbeats 4000000 in
theorem ok_X2_tellAliases_L2 {r : Mem} : ∀ (n : Nat), ∀ (l0 : Nat) (l1 : Int) (l2 : Int) (l3 : Int) (m : Mem), mmSh[l0]? = some (.inl 2) → inR l1 → inR l2 → inR l3 → f_X2_tellAliases_L2 n l0 l1 l2 l3 m = some r → VV RX2 cX2_tellAliases 4 rm_X2_tellAliases mmG0 (mmPv r) 2 [(0, .ref l0), (1, vi l1), (2, vi l2), (3, vi l3)] [] m := by
  intro n
  induction n with
  | zero =>
    intro l0 l1 l2 l3 m hs0 hr1 hr2 hr3 E
    cases E
  | succ n ih =>
    intro l0 l1 l2 l3 m hs0 hr1 hr2 hr3 E
    rw [f_X2_tellAliases_L2] at E
    refine V_iload_n 3 dX2_tellAliases_2 rfl ?_
    refine V_aload_n 0 dX2_tellAliases_3 rfl ?_
    refine V_geti (ci := 2) (k := 5) (N := 10) (T := TX2) (v := (m.1 l0 5)) dX2_tellAliases_4 iuX2 fl_X2_27 rfl (by decide) rfl hs0 (by first | rfl | simp [mwr]) (fun hv1 => ?_)
    refine V_icmp_ge 33 dX2_tellAliases_7 (by decide) hr3 hv1 (fun c2 => ?_) (fun c2 => ?_)
    · replace E := mmI_t c2 E
      obtain rfl := Option.some.inj E
      exact V_retv dX2_tellAliases_33 ⟨rfl, rfl⟩
    · replace E := mmI_f c2 E
      refine V_aload_n 0 dX2_tellAliases_10 rfl ?_
      refine V_geta (ci := 2) (k := 1) (N := 10) (T := TX2) (o' := (l0 + 2)) dX2_tellAliases_11 iuX2 fl_X2_15 rfl (by decide) rfl hs0 rfl ?_
      refine V_iload_n 3 dX2_tellAliases_14 rfl ?_
      obtain ⟨hv3, E⟩ := mmK_e E
      refine V_iald (n := 24) (j := (l3).toNat) (v := (m.1 (l0 + 2) (l3).toNat)) dX2_tellAliases_15 (mmS2 hs0) hr3 hv3 rfl (by first | rfl | simp [mwr]) (fun hv4 => ?_)
      refine V_iload_n 1 dX2_tellAliases_16 rfl ?_
      refine V_icmp_ne 27 dX2_tellAliases_17 (by decide) hv4 hr1 (fun c5 => ?_) (fun c5 => ?_)
      · replace E := mmI_f c5 E
        obtain ⟨hv6, E⟩ := mmK_e E
        refine V_iinc (v := (l3 + 1)) (lv' := [(0, .ref l0), (1, vi l1), (2, vi l2), (3, vi (l3 + 1))]) 3 dX2_tellAliases_27 rfl rfl rfl rfl ?_
        refine V_goto 2 dX2_tellAliases_30 (by decide) ?_
        exact ih _ _ _ _ _ hs0 hr1 hr2 hv6 E
      · replace E := mmI_t c5 E
        refine V_aload_n 0 dX2_tellAliases_20 rfl ?_
        refine V_geta (ci := 2) (k := 1) (N := 10) (T := TX2) (o' := (l0 + 2)) dX2_tellAliases_21 iuX2 fl_X2_15 rfl (by decide) rfl hs0 rfl ?_
        refine V_iload_n 3 dX2_tellAliases_24 rfl ?_
        refine V_iload_n 2 dX2_tellAliases_25 rfl ?_
        obtain ⟨hv7, E⟩ := mmK_e E
        refine V_iast (n := 24) (j := (l3).toNat) dX2_tellAliases_26 (mmS2 hs0) hr3 hr2 hv7 rfl ?_
        obtain ⟨hv8, E⟩ := mmK_e E
        refine V_iinc (v := (l3 + 1)) (lv' := [(0, .ref l0), (1, vi l1), (2, vi l2), (3, vi (l3 + 1))]) 3 dX2_tellAliases_27 rfl rfl rfl rfl ?_
        refine V_goto 2 dX2_tellAliases_30 (by decide) ?_
        exact ih _ _ _ _ _ hs0 hr1 hr2 hv8 E
noncomputable def f_X2_tellAliases (l0 : Nat) (l1 : Int) (l2 : Int) (m : Mem) : Option (Mem) :=
  f_X2_tellAliases_L2 mmFU l0 l1 l2 0 m
set_option maxRecDepth 100000 in
set_option maxHeartbeats 4000000 in
theorem ok_X2_tellAliases {r : Mem} : ∀ (l0 : Nat) (l1 : Int) (l2 : Int) (m : Mem), mmSh[l0]? = some (.inl 2) → inR l1 → inR l2 → f_X2_tellAliases l0 l1 l2 m = some r → VV RX2 cX2_tellAliases 4 rm_X2_tellAliases mmG0 (mmPv r) 0 [(0, .ref l0), (1, vi l1), (2, vi l2)] [] m := by
  intro l0 l1 l2 m hs0 hr1 hr2 E
  unfold f_X2_tellAliases at E
  refine V_iconst dX2_tellAliases_0 rfl ?_
  refine V_istore_n (i := 3) (lv' := [(0, .ref l0), (1, vi l1), (2, vi l2), (3, vi 0)]) dX2_tellAliases_1 rfl rfl rfl ?_
  exact ok_X2_tellAliases_L2 mmFU _ _ _ _ _ hs0 hr1 hr2 ir_0 E
theorem ct_X2_tellAliases {l0 : Nat} {l1 : Int} {l2 : Int} {m : Mem} {r : Mem} (hs0 : mmSh[l0]? = some (.inl 2)) (hr1 : inR l1) (hr2 : inR l2) (E : f_X2_tellAliases l0 l1 l2 m = some r) : CTv yX2_tellAliases cX2_tellAliases 4 rm_X2_tellAliases [.ref l0, vi l1, vi l2] m r := CT_v (by decide +kernel) rfl (Nat.le_of_ble_eq_true rfl) (ok_X2_tellAliases _ _ _ _ hs0 hr1 hr2 E)
theorem hy_X2_tellAliases : yX2_tellAliases.cls = RX2 ∧ yX2_tellAliases.cls ≠ "java/lang/invoke/MethodHandle" ∧ yX2_tellAliases.cls ≠ "java/lang/invoke/VarHandle" ∧ (parseMethodDescriptor yX2_tellAliases.desc).map (fun d => d.parameters.length) = some 2 := by decide +kernel
abbrev rm_X2_renameEntry : Room := { frames := 3, cells := 0, slots := 0, locals := 75 }
noncomputable def f_X2_renameEntry_L68 (l0 : Nat) (l2 : Int) (l3 : Int) (m : Mem) : Option (Int × Mem) :=
  mmK (0 ≤ l3 ∧ l3 < 24) (mmK (0 ≤ l3 ∧ l3 < 24) (mmK (0 ≤ l3 ∧ l3 < 24) (mmK (0 ≤ l3 ∧ l3 < 24) ((f_X2_takeOut l0 l3 m).bind (fun q26 => (f_X2_insertEntry l0 l2 (m.1 (l0 + 2) (l3).toNat) (m.1 (l0 + 3) (l3).toNat) (m.1 (l0 + 4) (l3).toNat) (m.1 (l0 + 5) (l3).toNat) q26).bind (fun q28 => some (q28.1, q28.2)))))))
set_option maxRecDepth 100000 in
set_option maxHeartbeats 4000000 in
theorem ok_X2_renameEntry_L68 {r : Int × Mem} : ∀ (l0 : Nat) (l2 : Int) (l3 : Int) (m : Mem), mmSh[l0]? = some (.inl 2) → inR l2 → inR l3 → f_X2_renameEntry_L68 l0 l2 l3 m = some r → VV RX2 cX2_renameEntry 9 rm_X2_renameEntry mmG0 (mmPi r) 68 [(0, .ref l0), (2, vi l2), (3, vi l3)] [] m := by
  intro l0 l2 l3 m hs0 hr2 hr3 E
  unfold f_X2_renameEntry_L68 at E
  refine V_aload_n 0 dX2_renameEntry_68 rfl ?_
  refine V_geta (ci := 2) (k := 1) (N := 10) (T := TX2) (o' := (l0 + 2)) dX2_renameEntry_69 iuX2 fl_X2_15 rfl (by decide) rfl hs0 rfl ?_
  refine V_iload_n 2 dX2_renameEntry_72 rfl ?_
  obtain ⟨hv18, E⟩ := mmK_e E
  refine V_iald (n := 24) (j := (l3).toNat) (v := (m.1 (l0 + 2) (l3).toNat)) dX2_renameEntry_73 (mmS2 hs0) hr3 hv18 rfl (by first | rfl | simp [mwr]) (fun hv19 => ?_)
  refine V_istore (lv' := [(0, .ref l0), (2, vi l2), (3, vi l3), (5, vi (m.1 (l0 + 2) (l3).toNat))]) dX2_renameEntry_74 rfl rfl ?_
  refine V_aload_n 0 dX2_renameEntry_76 rfl ?_
  refine V_geta (ci := 2) (k := 2) (N := 10) (T := TX2) (o' := (l0 + 3)) dX2_renameEntry_77 iuX2 fl_X2_18 rfl (by decide) rfl hs0 rfl ?_
  refine V_iload_n 2 dX2_renameEntry_80 rfl ?_
  obtain ⟨hv20, E⟩ := mmK_e E
  refine V_iald (n := 24) (j := (l3).toNat) (v := (m.1 (l0 + 3) (l3).toNat)) dX2_renameEntry_81 (mmS3 hs0) hr3 hv20 rfl (by first | rfl | simp [mwr]) (fun hv21 => ?_)
  refine V_istore (lv' := [(0, .ref l0), (2, vi l2), (3, vi l3), (5, vi (m.1 (l0 + 2) (l3).toNat)), (6, vi (m.1 (l0 + 3) (l3).toNat))]) dX2_renameEntry_82 rfl rfl ?_
  refine V_aload_n 0 dX2_renameEntry_84 rfl ?_
  refine V_geta (ci := 2) (k := 3) (N := 10) (T := TX2) (o' := (l0 + 4)) dX2_renameEntry_85 iuX2 fl_X2_21 rfl (by decide) rfl hs0 rfl ?_
  refine V_iload_n 2 dX2_renameEntry_88 rfl ?_
  obtain ⟨hv22, E⟩ := mmK_e E
  refine V_iald (n := 24) (j := (l3).toNat) (v := (m.1 (l0 + 4) (l3).toNat)) dX2_renameEntry_89 (mmS4 hs0) hr3 hv22 rfl (by first | rfl | simp [mwr]) (fun hv23 => ?_)
  refine V_istore (lv' := [(0, .ref l0), (2, vi l2), (3, vi l3), (5, vi (m.1 (l0 + 2) (l3).toNat)), (6, vi (m.1 (l0 + 3) (l3).toNat)), (7, vi (m.1 (l0 + 4) (l3).toNat))]) dX2_renameEntry_90 rfl rfl ?_
  refine V_aload_n 0 dX2_renameEntry_92 rfl ?_
  refine V_geta (ci := 2) (k := 4) (N := 10) (T := TX2) (o' := (l0 + 5)) dX2_renameEntry_93 iuX2 fl_X2_24 rfl (by decide) rfl hs0 rfl ?_
  refine V_iload_n 2 dX2_renameEntry_96 rfl ?_
  obtain ⟨hv24, E⟩ := mmK_e E
  refine V_iald (n := 24) (j := (l3).toNat) (v := (m.1 (l0 + 5) (l3).toNat)) dX2_renameEntry_97 (mmS5 hs0) hr3 hv24 rfl (by first | rfl | simp [mwr]) (fun hv25 => ?_)
  refine V_istore (lv' := [(0, .ref l0), (2, vi l2), (3, vi l3), (5, vi (m.1 (l0 + 2) (l3).toNat)), (6, vi (m.1 (l0 + 3) (l3).toNat)), (7, vi (m.1 (l0 + 4) (l3).toNat)), (8, vi (m.1 (l0 + 5) (l3).toNat))]) dX2_renameEntry_98 rfl rfl ?_
  refine V_aload_n 0 dX2_renameEntry_100 rfl ?_
  refine V_iload_n 2 dX2_renameEntry_101 rfl ?_
  obtain ⟨q26, hq26, E⟩ := mmB_e E
  refine V_callVv (ci := 2) (q := (RX2, TX2, 10)) (Cn := RX2) (st := []) 1 dX2_renameEntry_102 (ct_X2_takeOut hs0 hr3 hq26) ml_X2_87 im_X2_takeOut sl_X2_takeOut it_X2 cd_X2_takeOut hy_X2_takeOut ⟨rfl, rfl, by decide, by decide⟩ hs0 rfl rfl rfl rfl (Nat.le_of_ble_eq_true rfl) ?_
  refine V_aload_n 0 dX2_renameEntry_105 rfl ?_
  refine V_iload_n 1 dX2_renameEntry_106 rfl ?_
  refine V_iload 3 dX2_renameEntry_107 rfl ?_
  refine V_iload 4 dX2_renameEntry_109 rfl ?_
  refine V_iload 5 dX2_renameEntry_111 rfl ?_
  refine V_iload 6 dX2_renameEntry_113 rfl ?_
  obtain ⟨q28, hq28, E⟩ := mmB_e E
  refine V_callV (ci := 2) (q := (RX2, TX2, 10)) (Cn := RX2) (st := []) 5 dX2_renameEntry_115 (ct_X2_insertEntry hs0 hr2 hv19 hv21 hv23 hv25 hq28) ml_X2_76 im_X2_insertEntry sl_X2_insertEntry it_X2 cd_X2_insertEntry hy_X2_insertEntry ⟨rfl, rfl, by decide, by decide⟩ hs0 rfl rfl rfl rfl (Nat.le_of_ble_eq_true rfl) (fun hv29 => ?_)
  obtain rfl := Option.some.inj E
  exact V_reti dX2_renameEntry_118 ⟨rfl, rfl, hv29⟩
noncomputable def f_X2_renameEntry (l0 : Nat) (l1 : Int) (l2 : Int) (m : Mem) : Option (Int × Mem) :=
  (f_X2_rankOf l0 l1 m).bind (fun q1 => (f_X2_isRank l0 q1.1 q1.2).bind (fun q3 => if q3.1 = 0 then
(some ((-1), q3.2))
else
((f_X2_isName l2 q3.2).bind (fun q6 => if q6.1 = 0 then
(some ((-2), q6.2))
else
((f_X2_rankOf l0 l2 q6.2).bind (fun q9 => if q9.1 = q1.1 then
(some ((-5), q9.2))
else
((f_X2_isRank l0 q9.1 q9.2).bind (fun q12 => if q12.1 = 0 then
((f_X2_isMember l0 q1.1 q12.2).bind (fun q15 => if q15.1 = 0 then
(f_X2_renameEntry_L68 l0 l2 q1.1 q15.2)
else
((f_X2_tellAliases l0 l1 l2 q15.2).bind (fun q30 => f_X2_renameEntry_L68 l0 l2 q1.1 q30))))
else
(some ((-7), q12.2))))))))))
set_option maxRecDepth 100000 in
set_option maxHeartbeats 4000000 in
theorem ok_X2_renameEntry {r : Int × Mem} : ∀ (l0 : Nat) (l1 : Int) (l2 : Int) (m : Mem), mmSh[l0]? = some (.inl 2) → inR l1 → inR l2 → f_X2_renameEntry l0 l1 l2 m = some r → VV RX2 cX2_renameEntry 9 rm_X2_renameEntry mmG0 (mmPi r) 0 [(0, .ref l0), (1, vi l1), (2, vi l2)] [] m := by
  intro l0 l1 l2 m hs0 hr1 hr2 E
  unfold f_X2_renameEntry at E
  refine V_aload_n 0 dX2_renameEntry_0 rfl ?_
  refine V_iload_n 1 dX2_renameEntry_1 rfl ?_
  obtain ⟨q1, hq1, E⟩ := mmB_e E
  refine V_callV (ci := 2) (q := (RX2, TX2, 10)) (Cn := RX2) (st := []) 1 dX2_renameEntry_2 (ct_X2_rankOf hs0 hr1 hq1) ml_X2_59 im_X2_rankOf sl_X2_rankOf it_X2 cd_X2_rankOf hy_X2_rankOf ⟨rfl, rfl, by decide, by decide⟩ hs0 rfl rfl rfl rfl (Nat.le_of_ble_eq_true rfl) (fun hv2 => ?_)
  refine V_istore_n (i := 3) (lv' := [(0, .ref l0), (1, vi l1), (2, vi l2), (3, vi q1.1)]) dX2_renameEntry_5 rfl rfl rfl ?_
  refine V_aload_n 0 dX2_renameEntry_6 rfl ?_
  refine V_iload_n 3 dX2_renameEntry_7 rfl ?_
  obtain ⟨q3, hq3, E⟩ := mmB_e E
  refine V_callV (ci := 2) (q := (RX2, TX2, 10)) (Cn := RX2) (st := []) 1 dX2_renameEntry_8 (ct_X2_isRank hs0 hv2 hq3) ml_X2_63 im_X2_isRank sl_X2_isRank it_X2 cd_X2_isRank hy_X2_isRank ⟨rfl, rfl, by decide, by decide⟩ hs0 rfl rfl rfl rfl (Nat.le_of_ble_eq_true rfl) (fun hv4 => ?_)
  refine V_if_ne 16 dX2_renameEntry_11 (by decide) hv4 (fun c5 => ?_) (fun c5 => ?_)
  · replace E := mmI_f c5 E
    refine V_iload_n 2 dX2_renameEntry_16 rfl ?_
    obtain ⟨q6, hq6, E⟩ := mmB_e E
    refine V_callS (st := []) 1 dX2_renameEntry_17 (ct_X2_isName hr2 hq6) ml_X2_49 st_X2_isName it_X2 cd_X2_isName hz_X2_isName ⟨rfl, rfl, by decide, by decide⟩ rfl rfl (Nat.le_of_ble_eq_true rfl) (fun hv7 => ?_)
    refine V_if_ne 26 dX2_renameEntry_20 (by decide) hv7 (fun c8 => ?_) (fun c8 => ?_)
    · replace E := mmI_f c8 E
      refine V_aload_n 0 dX2_renameEntry_26 rfl ?_
      refine V_iload_n 2 dX2_renameEntry_27 rfl ?_
      obtain ⟨q9, hq9, E⟩ := mmB_e E
      refine V_callV (ci := 2) (q := (RX2, TX2, 10)) (Cn := RX2) (st := []) 1 dX2_renameEntry_28 (ct_X2_rankOf hs0 hr2 hq9) ml_X2_59 im_X2_rankOf sl_X2_rankOf it_X2 cd_X2_rankOf hy_X2_rankOf ⟨rfl, rfl, by decide, by decide⟩ hs0 rfl rfl rfl rfl (Nat.le_of_ble_eq_true rfl) (fun hv10 => ?_)
      refine V_istore (lv' := [(0, .ref l0), (1, vi l1), (2, vi l2), (3, vi q1.1), (4, vi q9.1)]) dX2_renameEntry_31 rfl rfl ?_
      refine V_iload 4 dX2_renameEntry_33 rfl ?_
      refine V_iload_n 3 dX2_renameEntry_35 rfl ?_
      refine V_icmp_ne 42 dX2_renameEntry_36 (by decide) hv10 hv2 (fun c11 => ?_) (fun c11 => ?_)
      · replace E := mmI_f c11 E
        refine V_aload_n 0 dX2_renameEntry_42 rfl ?_
        refine V_iload 4 dX2_renameEntry_43 rfl ?_
        obtain ⟨q12, hq12, E⟩ := mmB_e E
        refine V_callV (ci := 2) (q := (RX2, TX2, 10)) (Cn := RX2) (st := []) 1 dX2_renameEntry_45 (ct_X2_isRank hs0 hv10 hq12) ml_X2_63 im_X2_isRank sl_X2_isRank it_X2 cd_X2_isRank hy_X2_isRank ⟨rfl, rfl, by decide, by decide⟩ hs0 rfl rfl rfl rfl (Nat.le_of_ble_eq_true rfl) (fun hv13 => ?_)
        refine V_if_eq 54 dX2_renameEntry_48 (by decide) hv13 (fun c14 => ?_) (fun c14 => ?_)
        · replace E := mmI_t c14 E
          refine V_aload_n 0 dX2_renameEntry_54 rfl ?_
          refine V_iload_n 3 dX2_renameEntry_55 rfl ?_
          obtain ⟨q15, hq15, E⟩ := mmB_e E
          refine V_callV (ci := 2) (q := (RX2, TX2, 10)) (Cn := RX2) (st := []) 1 dX2_renameEntry_56 (ct_X2_isMember hs0 hv2 hq15) ml_X2_80 im_X2_isMember sl_X2_isMember it_X2 cd_X2_isMember hy_X2_isMember ⟨rfl, rfl, by decide, by decide⟩ hs0 rfl rfl rfl rfl (Nat.le_of_ble_eq_true rfl) (fun hv16 => ?_)
          refine V_if_eq 68 dX2_renameEntry_59 (by decide) hv16 (fun c17 => ?_) (fun c17 => ?_)
          · replace E := mmI_t c17 E
            refine V_sub [0, 2, 3] rfl ?_
            exact ok_X2_renameEntry_L68 _ _ _ _ hs0 hr2 hv2 E
          · replace E := mmI_f c17 E
            refine V_aload_n 0 dX2_renameEntry_62 rfl ?_
            refine V_iload_n 1 dX2_renameEntry_63 rfl ?_
            refine V_iload_n 2 dX2_renameEntry_64 rfl ?_
            obtain ⟨q30, hq30, E⟩ := mmB_e E
            refine V_callVv (ci := 2) (q := (RX2, TX2, 10)) (Cn := RX2) (st := []) 2 dX2_renameEntry_65 (ct_X2_tellAliases hs0 hr1 hr2 hq30) ml_X2_91 im_X2_tellAliases sl_X2_tellAliases it_X2 cd_X2_tellAliases hy_X2_tellAliases ⟨rfl, rfl, by decide, by decide⟩ hs0 rfl rfl rfl rfl (Nat.le_of_ble_eq_true rfl) ?_
            refine V_sub [0, 2, 3] rfl ?_
            exact ok_X2_renameEntry_L68 _ _ _ _ hs0 hr2 hv2 E
        · replace E := mmI_f c14 E
          refine V_bipush (v := (-7)) dX2_renameEntry_51 (by decide) ?_
          obtain rfl := Option.some.inj E
          exact V_reti dX2_renameEntry_53 ⟨rfl, rfl, ir_m7⟩
      · replace E := mmI_t c11 E
        refine V_bipush (v := (-5)) dX2_renameEntry_39 (by decide) ?_
        obtain rfl := Option.some.inj E
        exact V_reti dX2_renameEntry_41 ⟨rfl, rfl, ir_m5⟩
    · replace E := mmI_t c8 E
      refine V_bipush (v := (-2)) dX2_renameEntry_23 (by decide) ?_
      obtain rfl := Option.some.inj E
      exact V_reti dX2_renameEntry_25 ⟨rfl, rfl, ir_m2⟩
  · replace E := mmI_t c5 E
    refine V_iconst dX2_renameEntry_14 rfl ?_
    obtain rfl := Option.some.inj E
    exact V_reti dX2_renameEntry_15 ⟨rfl, rfl, ir_m1⟩
theorem ct_X2_renameEntry {l0 : Nat} {l1 : Int} {l2 : Int} {m : Mem} {r : Int × Mem} (hs0 : mmSh[l0]? = some (.inl 2)) (hr1 : inR l1) (hr2 : inR l2) (E : f_X2_renameEntry l0 l1 l2 m = some r) : CTi yX2_renameEntry cX2_renameEntry 9 (some .int) rm_X2_renameEntry [.ref l0, vi l1, vi l2] m r := CT_i (by decide +kernel) rfl (Nat.le_of_ble_eq_true rfl) (ok_X2_renameEntry _ _ _ _ hs0 hr1 hr2 E)
theorem hy_X2_renameEntry : yX2_renameEntry.cls = RX2 ∧ yX2_renameEntry.cls ≠ "java/lang/invoke/MethodHandle" ∧ yX2_renameEntry.cls ≠ "java/lang/invoke/VarHandle" ∧ (parseMethodDescriptor yX2_renameEntry.desc).map (fun d => d.parameters.length) = some 2 := by decide +kernel
