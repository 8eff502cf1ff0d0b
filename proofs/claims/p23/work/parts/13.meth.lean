abbrev rm_X2_isFirstOfText : Room := { frames := 1, cells := 0, slots := 0, locals := 21 }
noncomputable def f_X2_isFirstOfText_L12 : Nat → Nat → Int → Int → Mem → Option (Int × Mem)
  | 0, _, _, _, _ => none
  | n + 1, l0, l1, l2, m =>
    if l1 ≤ l2 then
(some (1, m))
else
(mmK (0 ≤ l2 ∧ l2 < 24) (mmK (0 ≤ l1 ∧ l1 < 24) (if (m.1 (l0 + 3) (l2).toNat) = (m.1 (l0 + 3) (l1).toNat) then
(some (0, m))
else
(mmK (inR (l2 + 1)) (f_X2_isFirstOfText_L12 n l0 l1 (l2 + 1) m)))))
set_option maxRecDepth 100000 in
set_option maxHeartbeats 4000000 in
theorem ok_X2_isFirstOfText_L12 {r : Int × Mem} : ∀ (n : Nat), ∀ (l0 : Nat) (l1 : Int) (l2 : Int) (m : Mem), mmSh[l0]? = some (.inl 2) → inR l1 → inR l2 → f_X2_isFirstOfText_L12 n l0 l1 l2 m = some r → VV RX2 cX2_isFirstOfText 3 rm_X2_isFirstOfText mmG0 (mmPz r) 12 [(0, .ref l0), (1, vi l1), (2, vi l2)] [] m := by
  intro n
  induction n with
  | zero =>
    intro l0 l1 l2 m hs0 hr1 hr2 E
    cases E
  | succ n ih =>
    intro l0 l1 l2 m hs0 hr1 hr2 E
    rw [f_X2_isFirstOfText_L12] at E
    refine V_iload_n 2 dX2_isFirstOfText_12 rfl ?_
    refine V_iload_n 1 dX2_isFirstOfText_13 rfl ?_
    refine V_icmp_ge 40 dX2_isFirstOfText_14 (by decide) hr2 hr1 (fun c4 => ?_) (fun c4 => ?_)
    · replace E := mmI_t c4 E
      refine V_iconst dX2_isFirstOfText_40 rfl ?_
      obtain rfl := Option.some.inj E
      exact V_reti dX2_isFirstOfText_41 ⟨rfl, rfl, (Or.inr rfl)⟩
    · replace E := mmI_f c4 E
      refine V_aload_n 0 dX2_isFirstOfText_17 rfl ?_
      refine V_geta (ci := 2) (k := 2) (N := 10) (T := TX2) (o' := (l0 + 3)) dX2_isFirstOfText_18 iuX2 fl_X2_18 rfl (by decide) rfl hs0 rfl ?_
      refine V_iload_n 2 dX2_isFirstOfText_21 rfl ?_
      obtain ⟨hv5, E⟩ := mmK_e E
      refine V_iald (n := 24) (j := (l2).toNat) (v := (m.1 (l0 + 3) (l2).toNat)) dX2_isFirstOfText_22 (mmS3 hs0) hr2 hv5 rfl (by first | rfl | simp [mwr]) (fun hv6 => ?_)
      refine V_aload_n 0 dX2_isFirstOfText_23 rfl ?_
      refine V_geta (ci := 2) (k := 2) (N := 10) (T := TX2) (o' := (l0 + 3)) dX2_isFirstOfText_24 iuX2 fl_X2_18 rfl (by decide) rfl hs0 rfl ?_
      refine V_iload_n 1 dX2_isFirstOfText_27 rfl ?_
      obtain ⟨hv7, E⟩ := mmK_e E
      refine V_iald (n := 24) (j := (l1).toNat) (v := (m.1 (l0 + 3) (l1).toNat)) dX2_isFirstOfText_28 (mmS3 hs0) hr1 hv7 rfl (by first | rfl | simp [mwr]) (fun hv8 => ?_)
      refine V_icmp_ne 34 dX2_isFirstOfText_29 (by decide) hv6 hv8 (fun c9 => ?_) (fun c9 => ?_)
      · replace E := mmI_f c9 E
        obtain ⟨hv10, E⟩ := mmK_e E
        refine V_iinc (v := (l2 + 1)) (lv' := [(0, .ref l0), (1, vi l1), (2, vi (l2 + 1))]) 2 dX2_isFirstOfText_34 rfl rfl rfl rfl ?_
        refine V_goto 12 dX2_isFirstOfText_37 (by decide) ?_
        exact ih _ _ _ _ hs0 hr1 hv10 E
      · replace E := mmI_t c9 E
        refine V_iconst dX2_isFirstOfText_32 rfl ?_
        obtain rfl := Option.some.inj E
        exact V_reti dX2_isFirstOfText_33 ⟨rfl, rfl, (Or.inl rfl)⟩
noncomputable def f_X2_isFirstOfText (l0 : Nat) (l1 : Int) (m : Mem) : Option (Int × Mem) :=
  (f_X2_isRank l0 l1 m).bind (fun q1 => if q1.1 = 0 then
(some (0, q1.2))
else
(f_X2_isFirstOfText_L12 mmFU l0 l1 0 q1.2))
set_option maxRecDepth 100000 in
set_option maxHeartbeats 4000000 in
theorem ok_X2_isFirstOfText {r : Int × Mem} : ∀ (l0 : Nat) (l1 : Int) (m : Mem), mmSh[l0]? = some (.inl 2) → inR l1 → f_X2_isFirstOfText l0 l1 m = some r → VV RX2 cX2_isFirstOfText 3 rm_X2_isFirstOfText mmG0 (mmPz r) 0 [(0, .ref l0), (1, vi l1)] [] m := by
  intro l0 l1 m hs0 hr1 E
  unfold f_X2_isFirstOfText at E
  refine V_aload_n 0 dX2_isFirstOfText_0 rfl ?_
  refine V_iload_n 1 dX2_isFirstOfText_1 rfl ?_
  obtain ⟨q1, hq1, E⟩ := mmB_e E
  refine V_callV (ci := 2) (q := (RX2, TX2, 10)) (Cn := RX2) (st := []) 1 dX2_isFirstOfText_2 (ct_X2_isRank hs0 hr1 hq1) ml_X2_63 im_X2_isRank sl_X2_isRank it_X2 cd_X2_isRank hy_X2_isRank ⟨rfl, rfl, by decide, by decide⟩ hs0 rfl rfl rfl rfl (Nat.le_of_ble_eq_true rfl) (fun hv2 => ?_)
  refine V_if_ne 10 dX2_isFirstOfText_5 (by decide) hv2 (fun c3 => ?_) (fun c3 => ?_)
  · replace E := mmI_f c3 E
    refine V_iconst dX2_isFirstOfText_10 rfl ?_
    refine V_istore_n (i := 2) (lv' := [(0, .ref l0), (1, vi l1), (2, vi 0)]) dX2_isFirstOfText_11 rfl rfl rfl ?_
    exact ok_X2_isFirstOfText_L12 mmFU _ _ _ _ hs0 hr1 ir_0 E
  · replace E := mmI_t c3 E
    refine V_iconst dX2_isFirstOfText_8 rfl ?_
    obtain rfl := Option.some.inj E
    exact V_reti dX2_isFirstOfText_9 ⟨rfl, rfl, (Or.inl rfl)⟩
theorem ct_X2_isFirstOfText {l0 : Nat} {l1 : Int} {m : Mem} {r : Int × Mem} (hs0 : mmSh[l0]? = some (.inl 2)) (hr1 : inR l1) (E : f_X2_isFirstOfText l0 l1 m = some r) : CTi yX2_isFirstOfText cX2_isFirstOfText 3 (some .boolean) rm_X2_isFirstOfText [.ref l0, vi l1] m r := CT_z (by decide +kernel) rfl (Nat.le_of_ble_eq_true rfl) (ok_X2_isFirstOfText _ _ _ hs0 hr1 E)
theorem hy_X2_isFirstOfText : yX2_isFirstOfText.cls = RX2 ∧ yX2_isFirstOfText.cls ≠ "java/lang/invoke/MethodHandle" ∧ yX2_isFirstOfText.cls ≠ "java/lang/invoke/VarHandle" ∧ (parseMethodDescriptor yX2_isFirstOfText.desc).map (fun d => d.parameters.length) = some 1 := by decide +kernel
abbrev rm_X2_livingUnits : Room := { frames := 2, cells := 0, slots := 0, locals := 43 }
noncomputable def f_X2_livingUnits_L4 : Nat → Nat → Int → Int → Mem → Option (Int × Mem)
  | 0, _, _, _, _ => none
  | n + 1, l0, l1, l2, m =>
    if (m.1 l0 5) ≤ l2 then
(some (l1, m))
else
((f_X2_isFirstOfText l0 l2 m).bind (fun q3 => if q3.1 = 0 then
(mmK (inR (l2 + 1)) (f_X2_livingUnits_L4 n l0 l1 (l2 + 1) q3.2))
else
(mmK (0 ≤ l2 ∧ l2 < 24) (mmK (inR (l1 + (q3.2.1 (l0 + 4) (l2).toNat))) (mmK (inR (l2 + 1)) (f_X2_livingUnits_L4 n l0 (l1 + (q3.2.1 (l0 + 4) (l2).toNat)) (l2 + 1) q3.2))))))
set_option maxRecDepth 100000 in
set_option maxHeartbeats 4000000 in
theorem ok_X2_livingUnits_L4 {r : Int × Mem} : ∀ (n : Nat), ∀ (l0 : Nat) (l1 : Int) (l2 : Int) (m : Mem), mmSh[l0]? = some (.inl 2) → inR l1 → inR l2 → f_X2_livingUnits_L4 n l0 l1 l2 m = some r → VV RX2 cX2_livingUnits 3 rm_X2_livingUnits mmG0 (mmPi r) 4 [(0, .ref l0), (1, vi l1), (2, vi l2)] [] m := by
  intro n
  induction n with
  | zero =>
    intro l0 l1 l2 m hs0 hr1 hr2 E
    cases E
  | succ n ih =>
    intro l0 l1 l2 m hs0 hr1 hr2 E
    rw [f_X2_livingUnits_L4] at E
    refine V_iload_n 2 dX2_livingUnits_4 rfl ?_
    refine V_aload_n 0 dX2_livingUnits_5 rfl ?_
    refine V_geti (ci := 2) (k := 5) (N := 10) (T := TX2) (v := (m.1 l0 5)) dX2_livingUnits_6 iuX2 fl_X2_27 rfl (by decide) rfl hs0 (by first | rfl | simp [mwr]) (fun hv1 => ?_)
    refine V_icmp_ge 35 dX2_livingUnits_9 (by decide) hr2 hv1 (fun c2 => ?_) (fun c2 => ?_)
    · replace E := mmI_t c2 E
      refine V_iload_n 1 dX2_livingUnits_35 rfl ?_
      obtain rfl := Option.some.inj E
      exact V_reti dX2_livingUnits_36 ⟨rfl, rfl, hr1⟩
    · replace E := mmI_f c2 E
      refine V_aload_n 0 dX2_livingUnits_12 rfl ?_
      refine V_iload_n 2 dX2_livingUnits_13 rfl ?_
      obtain ⟨q3, hq3, E⟩ := mmB_e E
      refine V_callV (ci := 2) (q := (RX2, TX2, 10)) (Cn := RX2) (st := []) 1 dX2_livingUnits_14 (ct_X2_isFirstOfText hs0 hr2 hq3) ml_X2_135 im_X2_isFirstOfText sl_X2_isFirstOfText it_X2 cd_X2_isFirstOfText hy_X2_isFirstOfText ⟨rfl, rfl, by decide, by decide⟩ hs0 rfl rfl rfl rfl (Nat.le_of_ble_eq_true rfl) (fun hv4 => ?_)
      refine V_if_eq 29 dX2_livingUnits_17 (by decide) hv4 (fun c5 => ?_) (fun c5 => ?_)
      · replace E := mmI_t c5 E
        obtain ⟨hv6, E⟩ := mmK_e E
        refine V_iinc (v := (l2 + 1)) (lv' := [(0, .ref l0), (1, vi l1), (2, vi (l2 + 1))]) 2 dX2_livingUnits_29 rfl rfl rfl rfl ?_
        refine V_goto 4 dX2_livingUnits_32 (by decide) ?_
        exact ih _ _ _ _ hs0 hr1 hv6 E
      · replace E := mmI_f c5 E
        refine V_iload_n 1 dX2_livingUnits_20 rfl ?_
        refine V_aload_n 0 dX2_livingUnits_21 rfl ?_
        refine V_geta (ci := 2) (k := 3) (N := 10) (T := TX2) (o' := (l0 + 4)) dX2_livingUnits_22 iuX2 fl_X2_21 rfl (by decide) rfl hs0 rfl ?_
        refine V_iload_n 2 dX2_livingUnits_25 rfl ?_
        obtain ⟨hv7, E⟩ := mmK_e E
        refine V_iald (n := 24) (j := (l2).toNat) (v := (q3.2.1 (l0 + 4) (l2).toNat)) dX2_livingUnits_26 (mmS4 hs0) hr2 hv7 rfl (by first | rfl | simp [mwr]) (fun hv8 => ?_)
        obtain ⟨hv9, E⟩ := mmK_e E
        refine V_iadd dX2_livingUnits_27 ?_
        refine V_istore_n (i := 1) (lv' := [(0, .ref l0), (1, vi (l1 + (q3.2.1 (l0 + 4) (l2).toNat))), (2, vi l2)]) dX2_livingUnits_28 rfl rfl rfl ?_
        obtain ⟨hv10, E⟩ := mmK_e E
        refine V_iinc (v := (l2 + 1)) (lv' := [(0, .ref l0), (1, vi (l1 + (q3.2.1 (l0 + 4) (l2).toNat))), (2, vi (l2 + 1))]) 2 dX2_livingUnits_29 rfl rfl rfl rfl ?_
        refine V_goto 4 dX2_livingUnits_32 (by decide) ?_
        exact ih _ _ _ _ hs0 hv9 hv10 E
noncomputable def f_X2_livingUnits (l0 : Nat) (m : Mem) : Option (Int × Mem) :=
  f_X2_livingUnits_L4 mmFU l0 0 0 m
set_option maxRecDepth 100000 in
set_option maxHeartbeats 4000000 in
theorem ok_X2_livingUnits {r : Int × Mem} : ∀ (l0 : Nat) (m : Mem), mmSh[l0]? = some (.inl 2) → f_X2_livingUnits l0 m = some r → VV RX2 cX2_livingUnits 3 rm_X2_livingUnits mmG0 (mmPi r) 0 [(0, .ref l0)] [] m := by
  intro l0 m hs0 E
  unfold f_X2_livingUnits at E
  refine V_iconst dX2_livingUnits_0 rfl ?_
  refine V_istore_n (i := 1) (lv' := [(0, .ref l0), (1, vi 0)]) dX2_livingUnits_1 rfl rfl rfl ?_
  refine V_iconst dX2_livingUnits_2 rfl ?_
  refine V_istore_n (i := 2) (lv' := [(0, .ref l0), (1, vi 0), (2, vi 0)]) dX2_livingUnits_3 rfl rfl rfl ?_
  exact ok_X2_livingUnits_L4 mmFU _ _ _ _ hs0 ir_0 ir_0 E
theorem ct_X2_livingUnits {l0 : Nat} {m : Mem} {r : Int × Mem} (hs0 : mmSh[l0]? = some (.inl 2)) (E : f_X2_livingUnits l0 m = some r) : CTi yX2_livingUnits cX2_livingUnits 3 (some .int) rm_X2_livingUnits [.ref l0] m r := CT_i (by decide +kernel) rfl (Nat.le_of_ble_eq_true rfl) (ok_X2_livingUnits _ _ hs0 E)
theorem hy_X2_livingUnits : yX2_livingUnits.cls = RX2 ∧ yX2_livingUnits.cls ≠ "java/lang/invoke/MethodHandle" ∧ yX2_livingUnits.cls ≠ "java/lang/invoke/VarHandle" ∧ (parseMethodDescriptor yX2_livingUnits.desc).map (fun d => d.parameters.length) = some 0 := by decide +kernel
abbrev rm_X2_deadUnits : Room := { frames := 3, cells := 0, slots := 0, locals := 65 }
noncomputable def f_X2_deadUnits (l0 : Nat) (m : Mem) : Option (Int × Mem) :=
  (f_X2_livingUnits l0 m).bind (fun q2 => mmK (inR ((m.1 l0 7) - q2.1)) (some (((m.1 l0 7) - q2.1), q2.2)))
set_option maxRecDepth 100000 in
set_option maxHeartbeats 4000000 in
theorem ok_X2_deadUnits {r : Int × Mem} : ∀ (l0 : Nat) (m : Mem), mmSh[l0]? = some (.inl 2) → f_X2_deadUnits l0 m = some r → VV RX2 cX2_deadUnits 1 rm_X2_deadUnits mmG0 (mmPi r) 0 [(0, .ref l0)] [] m := by
  intro l0 m hs0 E
  unfold f_X2_deadUnits at E
  refine V_aload_n 0 dX2_deadUnits_0 rfl ?_
  refine V_geti (ci := 2) (k := 7) (N := 10) (T := TX2) (v := (m.1 l0 7)) dX2_deadUnits_1 iuX2 fl_X2_34 rfl (by decide) rfl hs0 (by first | rfl | simp [mwr]) (fun hv1 => ?_)
  refine V_aload_n 0 dX2_deadUnits_4 rfl ?_
  obtain ⟨q2, hq2, E⟩ := mmB_e E
  refine V_callV (ci := 2) (q := (RX2, TX2, 10)) (Cn := RX2) (st := [vi (m.1 l0 7)]) 0 dX2_deadUnits_5 (ct_X2_livingUnits hs0 hq2) ml_X2_120 im_X2_livingUnits sl_X2_livingUnits it_X2 cd_X2_livingUnits hy_X2_livingUnits ⟨rfl, rfl, by decide, by decide⟩ hs0 rfl rfl rfl rfl (Nat.le_of_ble_eq_true rfl) (fun hv3 => ?_)
  obtain ⟨hv4, E⟩ := mmK_e E
  refine V_isub dX2_deadUnits_8 ?_
  obtain rfl := Option.some.inj E
  exact V_reti dX2_deadUnits_9 ⟨rfl, rfl, hv4⟩
theorem ct_X2_deadUnits {l0 : Nat} {m : Mem} {r : Int × Mem} (hs0 : mmSh[l0]? = some (.inl 2)) (E : f_X2_deadUnits l0 m = some r) : CTi yX2_deadUnits cX2_deadUnits 1 (some .int) rm_X2_deadUnits [.ref l0] m r := CT_i (by decide +kernel) rfl (Nat.le_of_ble_eq_true rfl) (ok_X2_deadUnits _ _ hs0 E)
theorem hy_X2_deadUnits : yX2_deadUnits.cls = RX2 ∧ yX2_deadUnits.cls ≠ "java/lang/invoke/MethodHandle" ∧ yX2_deadUnits.cls ≠ "java/lang/invoke/VarHandle" ∧ (parseMethodDescriptor yX2_deadUnits.desc).map (fun d => d.parameters.length) = some 0 := by decide +kernel
abbrev rm_X2_moveText : Room := { frames := 0, cells := 0, slots := 0, locals := 0 }
noncomputable def f_X2_moveText_L5 : Nat → Nat → Int → Int → Int → Int → Mem → Option (Int × Mem)
  | 0, _, _, _, _, _, _ => none
  | n + 1, l0, l1, l2, l3, l4, m =>
    if (m.1 l0 5) ≤ l4 then
(some (l3, m))
else
(mmK (0 ≤ l4 ∧ l4 < 24) (if (m.1 (l0 + 3) (l4).toNat) = l1 then
(mmK (0 ≤ l4 ∧ l4 < 24) (mmK (0 ≤ l4 ∧ l4 < 24) (mmK (inR (l4 + 1)) (f_X2_moveText_L5 n l0 l1 l2 ((mwr m (l0 + 3) (l4).toNat l2).1 (l0 + 4) (l4).toNat) (l4 + 1) (mwr m (l0 + 3) (l4).toNat l2)))))
else
(mmK (inR (l4 + 1)) (f_X2_moveText_L5 n l0 l1 l2 l3 (l4 + 1) m))))
set_option maxRecDepth 100000 in
set_option maxHeartbeats 4000000 in
theorem ok_X2_moveText_L5 {r : Int × Mem} : ∀ (n : Nat), ∀ (l0 : Nat) (l1 : Int) (l2 : Int) (l3 : Int) (l4 : Int) (m : Mem), mmSh[l0]? = some (.inl 2) → inR l1 → inR l2 → inR l3 → inR l4 → f_X2_moveText_L5 n l0 l1 l2 l3 l4 m = some r → VV RX2 cX2_moveText 5 rm_X2_moveText mmG0 (mmPi r) 5 [(0, .ref l0), (1, vi l1), (2, vi l2), (3, vi l3), (4, vi l4)] [] m := by
  intro n
  induction n with
  | zero =>
    intro l0 l1 l2 l3 l4 m hs0 hr1 hr2 hr3 hr4 E
    cases E
  | succ n ih =>
    intro l0 l1 l2 l3 l4 m hs0 hr1 hr2 hr3 hr4 E
    rw [f_X2_moveText_L5] at E
    refine V_iload 4 dX2_moveText_5 rfl ?_
    refine V_aload_n 0 dX2_moveText_7 rfl ?_
    refine V_geti (ci := 2) (k := 5) (N := 10) (T := TX2) (v := (m.1 l0 5)) dX2_moveText_8 iuX2 fl_X2_27 rfl (by decide) rfl hs0 (by first | rfl | simp [mwr]) (fun hv1 => ?_)
    refine V_icmp_ge 47 dX2_moveText_11 (by decide) hr4 hv1 (fun c2 => ?_) (fun c2 => ?_)
    · replace E := mmI_t c2 E
      refine V_iload_n 3 dX2_moveText_47 rfl ?_
      obtain rfl := Option.some.inj E
      exact V_reti dX2_moveText_48 ⟨rfl, rfl, hr3⟩
    · replace E := mmI_f c2 E
      refine V_aload_n 0 dX2_moveText_14 rfl ?_
      refine V_geta (ci := 2) (k := 2) (N := 10) (T := TX2) (o' := (l0 + 3)) dX2_moveText_15 iuX2 fl_X2_18 rfl (by decide) rfl hs0 rfl ?_
      refine V_iload 4 dX2_moveText_18 rfl ?_
      obtain ⟨hv3, E⟩ := mmK_e E
      refine V_iald (n := 24) (j := (l4).toNat) (v := (m.1 (l0 + 3) (l4).toNat)) dX2_moveText_20 (mmS3 hs0) hr4 hv3 rfl (by first | rfl | simp [mwr]) (fun hv4 => ?_)
      refine V_iload_n 1 dX2_moveText_21 rfl ?_
      refine V_icmp_ne 41 dX2_moveText_22 (by decide) hv4 hr1 (fun c5 => ?_) (fun c5 => ?_)
      · replace E := mmI_f c5 E
        obtain ⟨hv6, E⟩ := mmK_e E
        refine V_iinc (v := (l4 + 1)) (lv' := [(0, .ref l0), (1, vi l1), (2, vi l2), (3, vi l3), (4, vi (l4 + 1))]) 4 dX2_moveText_41 rfl rfl rfl rfl ?_
        refine V_goto 5 dX2_moveText_44 (by decide) ?_
        exact ih _ _ _ _ _ _ hs0 hr1 hr2 hr3 hv6 E
      · replace E := mmI_t c5 E
        refine V_aload_n 0 dX2_moveText_25 rfl ?_
        refine V_geta (ci := 2) (k := 2) (N := 10) (T := TX2) (o' := (l0 + 3)) dX2_moveText_26 iuX2 fl_X2_18 rfl (by decide) rfl hs0 rfl ?_
        refine V_iload 4 dX2_moveText_29 rfl ?_
        refine V_iload_n 2 dX2_moveText_31 rfl ?_
        obtain ⟨hv7, E⟩ := mmK_e E
        refine V_iast (n := 24) (j := (l4).toNat) dX2_moveText_32 (mmS3 hs0) hr4 hr2 hv7 rfl ?_
        refine V_aload_n 0 dX2_moveText_33 rfl ?_
        refine V_geta (ci := 2) (k := 3) (N := 10) (T := TX2) (o' := (l0 + 4)) dX2_moveText_34 iuX2 fl_X2_21 rfl (by decide) rfl hs0 rfl ?_
        refine V_iload 4 dX2_moveText_37 rfl ?_
        obtain ⟨hv8, E⟩ := mmK_e E
        refine V_iald (n := 24) (j := (l4).toNat) (v := ((mwr m (l0 + 3) (l4).toNat l2).1 (l0 + 4) (l4).toNat)) dX2_moveText_39 (mmS4 hs0) hr4 hv8 rfl (by first | rfl | simp [mwr]) (fun hv9 => ?_)
        refine V_istore_n (i := 3) (lv' := [(0, .ref l0), (1, vi l1), (2, vi l2), (3, vi ((mwr m (l0 + 3) (l4).toNat l2).1 (l0 + 4) (l4).toNat)), (4, vi l4)]) dX2_moveText_40 rfl rfl rfl ?_
        obtain ⟨hv10, E⟩ := mmK_e E
        refine V_iinc (v := (l4 + 1)) (lv' := [(0, .ref l0), (1, vi l1), (2, vi l2), (3, vi ((mwr m (l0 + 3) (l4).toNat l2).1 (l0 + 4) (l4).toNat)), (4, vi (l4 + 1))]) 4 dX2_moveText_41 rfl rfl rfl rfl ?_
        refine V_goto 5 dX2_moveText_44 (by decide) ?_
        exact ih _ _ _ _ _ _ hs0 hr1 hr2 hv9 hv10 E
noncomputable def f_X2_moveText (l0 : Nat) (l1 : Int) (l2 : Int) (m : Mem) : Option (Int × Mem) :=
  f_X2_moveText_L5 mmFU l0 l1 l2 0 0 m
set_option maxRecDepth 100000 in
set_option maxHeartbeats 4000000 in
theorem ok_X2_moveText {r : Int × Mem} : ∀ (l0 : Nat) (l1 : Int) (l2 : Int) (m : Mem), mmSh[l0]? = some (.inl 2) → inR l1 → inR l2 → f_X2_moveText l0 l1 l2 m = some r → VV RX2 cX2_moveText 5 rm_X2_moveText mmG0 (mmPi r) 0 [(0, .ref l0), (1, vi l1), (2, vi l2)] [] m := by
  intro l0 l1 l2 m hs0 hr1 hr2 E
  unfold f_X2_moveText at E
  refine V_iconst dX2_moveText_0 rfl ?_
  refine V_istore_n (i := 3) (lv' := [(0, .ref l0), (1, vi l1), (2, vi l2), (3, vi 0)]) dX2_moveText_1 rfl rfl rfl ?_
  refine V_iconst dX2_moveText_2 rfl ?_
  refine V_istore (lv' := [(0, .ref l0), (1, vi l1), (2, vi l2), (3, vi 0), (4, vi 0)]) dX2_moveText_3 rfl rfl ?_
  exact ok_X2_moveText_L5 mmFU _ _ _ _ _ _ hs0 hr1 hr2 ir_0 ir_0 E
theorem ct_X2_moveText {l0 : Nat} {l1 : Int} {l2 : Int} {m : Mem} {r : Int × Mem} (hs0 : mmSh[l0]? = some (.inl 2)) (hr1 : inR l1) (hr2 : inR l2) (E : f_X2_moveText l0 l1 l2 m = some r) : CTi yX2_moveText cX2_moveText 5 (some .int) rm_X2_moveText [.ref l0, vi l1, vi l2] m r := CT_i (by decide +kernel) rfl (Nat.le_of_ble_eq_true rfl) (ok_X2_moveText _ _ _ _ hs0 hr1 hr2 E)
theorem hy_X2_moveText : yX2_moveText.cls = RX2 ∧ yX2_moveText.cls ≠ "java/lang/invoke/MethodHandle" ∧ yX2_moveText.cls ≠ "java/lang/invoke/VarHandle" ∧ (parseMethodDescriptor yX2_moveText.desc).map (fun d => d.parameters.length) = some 2 := by decide +kernel
abbrev rm_X2_closeUp : Room := { frames := 1, cells := 0, slots := 0, locals := 24 }
noncomputable def f_X2_closeUp_L4 : Nat → Nat → Int → Int → Mem → Option (Int × Mem)
  | 0, _, _, _, _ => none
  | n + 1, l0, l1, l2, m =>
    if 100 ≤ l2 then
(mmK (inR ((m.1 l0 7) - l1)) (mmK (inR ((m.1 l0 8) + 1)) (mmK (inR ((m.1 l0 9) + ((m.1 l0 7) - l1))) (some (((m.1 l0 7) - l1), (mwr (mwr (mwr m l0 7 l1) l0 8 ((m.1 l0 8) + 1)) l0 9 ((m.1 l0 9) + ((m.1 l0 7) - l1))))))))
else
((f_X2_moveText l0 l2 l1 m).bind (fun q8 => mmK (inR (l1 + q8.1)) (mmK (inR (l2 + 1)) (f_X2_closeUp_L4 n l0 (l1 + q8.1) (l2 + 1) q8.2))))
set_option maxRecDepth 100000 in
set_option maxHeartbeats 4000000 in
theorem ok_X2_closeUp_L4 {r : Int × Mem} : ∀ (n : Nat), ∀ (l0 : Nat) (l1 : Int) (l2 : Int) (m : Mem), mmSh[l0]? = some (.inl 2) → inR l1 → inR l2 → f_X2_closeUp_L4 n l0 l1 l2 m = some r → VV RX2 cX2_closeUp 3 rm_X2_closeUp mmG0 (mmPi r) 4 [(0, .ref l0), (1, vi l1), (2, vi l2)] [] m := by
  intro n
  induction n with
  | zero =>
    intro l0 l1 l2 m hs0 hr1 hr2 E
    cases E
  | succ n ih =>
    intro l0 l1 l2 m hs0 hr1 hr2 E
    rw [f_X2_closeUp_L4] at E
    refine V_iload_n 2 dX2_closeUp_4 rfl ?_
    refine V_bipush (v := 100) dX2_closeUp_5 (by decide) ?_
    refine V_icmp_ge 25 dX2_closeUp_7 (by decide) hr2 ir_100 (fun c1 => ?_) (fun c1 => ?_)
    · replace E := mmI_t c1 E
      refine V_aload_n 0 dX2_closeUp_25 rfl ?_
      refine V_geti (ci := 2) (k := 7) (N := 10) (T := TX2) (v := (m.1 l0 7)) dX2_closeUp_26 iuX2 fl_X2_34 rfl (by decide) rfl hs0 (by first | rfl | simp [mwr]) (fun hv2 => ?_)
      refine V_iload_n 1 dX2_closeUp_29 rfl ?_
      obtain ⟨hv3, E⟩ := mmK_e E
      refine V_isub dX2_closeUp_30 ?_
      refine V_istore_n (i := 2) (lv' := [(0, .ref l0), (1, vi l1), (2, vi ((m.1 l0 7) - l1))]) dX2_closeUp_31 rfl rfl rfl ?_
      refine V_aload_n 0 dX2_closeUp_32 rfl ?_
      refine V_iload_n 1 dX2_closeUp_33 rfl ?_
      refine V_put (ci := 2) (k := 7) (N := 10) (T := TX2) (x := l1) (ty := .int) tyX2 dX2_closeUp_34 iuX2 tyX2_ok nmX2 fl_X2_34 rfl (by decide) rfl hs0 rfl (by decide +kernel) rfl rfl hr1 ?_
      refine V_aload_n 0 dX2_closeUp_37 rfl ?_
      refine V_dupa dX2_closeUp_38 ?_
      refine V_geti (ci := 2) (k := 8) (N := 10) (T := TX2) (v := (m.1 l0 8)) dX2_closeUp_39 iuX2 fl_X2_37 rfl (by decide) rfl hs0 (by first | rfl | simp [mwr]) (fun hv4 => ?_)
      refine V_iconst dX2_closeUp_42 rfl ?_
      obtain ⟨hv5, E⟩ := mmK_e E
      refine V_iadd dX2_closeUp_43 ?_
      refine V_put (ci := 2) (k := 8) (N := 10) (T := TX2) (x := ((m.1 l0 8) + 1)) (ty := .int) tyX2 dX2_closeUp_44 iuX2 tyX2_ok nmX2 fl_X2_37 rfl (by decide) rfl hs0 rfl (by decide +kernel) rfl rfl hv5 ?_
      refine V_aload_n 0 dX2_closeUp_47 rfl ?_
      refine V_dupa dX2_closeUp_48 ?_
      refine V_geti (ci := 2) (k := 9) (N := 10) (T := TX2) (v := (m.1 l0 9)) dX2_closeUp_49 iuX2 fl_X2_40 rfl (by decide) rfl hs0 (by first | rfl | simp [mwr]) (fun hv6 => ?_)
      refine V_iload_n 2 dX2_closeUp_52 rfl ?_
      obtain ⟨hv7, E⟩ := mmK_e E
      refine V_iadd dX2_closeUp_53 ?_
      refine V_put (ci := 2) (k := 9) (N := 10) (T := TX2) (x := ((m.1 l0 9) + ((m.1 l0 7) - l1))) (ty := .int) tyX2 dX2_closeUp_54 iuX2 tyX2_ok nmX2 fl_X2_40 rfl (by decide) rfl hs0 rfl (by decide +kernel) rfl rfl hv7 ?_
      refine V_iload_n 2 dX2_closeUp_57 rfl ?_
      obtain rfl := Option.some.inj E
      exact V_reti dX2_closeUp_58 ⟨rfl, rfl, hv3⟩
    · replace E := mmI_f c1 E
      refine V_iload_n 1 dX2_closeUp_10 rfl ?_
      refine V_aload_n 0 dX2_closeUp_11 rfl ?_
      refine V_iload_n 2 dX2_closeUp_12 rfl ?_
      refine V_iload_n 1 dX2_closeUp_13 rfl ?_
      obtain ⟨q8, hq8, E⟩ := mmB_e E
      refine V_callV (ci := 2) (q := (RX2, TX2, 10)) (Cn := RX2) (st := [vi l1]) 2 dX2_closeUp_14 (ct_X2_moveText hs0 hr2 hr1 hq8) ml_X2_142 im_X2_moveText sl_X2_moveText it_X2 cd_X2_moveText hy_X2_moveText ⟨rfl, rfl, by decide, by decide⟩ hs0 rfl rfl rfl rfl (Nat.le_of_ble_eq_true rfl) (fun hv9 => ?_)
      obtain ⟨hv10, E⟩ := mmK_e E
      refine V_iadd dX2_closeUp_17 ?_
      refine V_istore_n (i := 1) (lv' := [(0, .ref l0), (1, vi (l1 + q8.1)), (2, vi l2)]) dX2_closeUp_18 rfl rfl rfl ?_
      obtain ⟨hv11, E⟩ := mmK_e E
      refine V_iinc (v := (l2 + 1)) (lv' := [(0, .ref l0), (1, vi (l1 + q8.1)), (2, vi (l2 + 1))]) 2 dX2_closeUp_19 rfl rfl rfl rfl ?_
      refine V_goto 4 dX2_closeUp_22 (by decide) ?_
      exact ih _ _ _ _ hs0 hv10 hv11 E
noncomputable def f_X2_closeUp (l0 : Nat) (m : Mem) : Option (Int × Mem) :=
  f_X2_closeUp_L4 mmFU l0 0 0 m
set_option maxRecDepth 100000 in
set_option maxHeartbeats 4000000 in
theorem ok_X2_closeUp {r : Int × Mem} : ∀ (l0 : Nat) (m : Mem), mmSh[l0]? = some (.inl 2) → f_X2_closeUp l0 m = some r → VV RX2 cX2_closeUp 3 rm_X2_closeUp mmG0 (mmPi r) 0 [(0, .ref l0)] [] m := by
  intro l0 m hs0 E
  unfold f_X2_closeUp at E
  refine V_iconst dX2_closeUp_0 rfl ?_
  refine V_istore_n (i := 1) (lv' := [(0, .ref l0), (1, vi 0)]) dX2_closeUp_1 rfl rfl rfl ?_
  refine V_iconst dX2_closeUp_2 rfl ?_
  refine V_istore_n (i := 2) (lv' := [(0, .ref l0), (1, vi 0), (2, vi 0)]) dX2_closeUp_3 rfl rfl rfl ?_
  exact ok_X2_closeUp_L4 mmFU _ _ _ _ hs0 ir_0 ir_0 E
theorem ct_X2_closeUp {l0 : Nat} {m : Mem} {r : Int × Mem} (hs0 : mmSh[l0]? = some (.inl 2)) (E : f_X2_closeUp l0 m = some r) : CTi yX2_closeUp cX2_closeUp 3 (some .int) rm_X2_closeUp [.ref l0] m r := CT_i (by decide +kernel) rfl (Nat.le_of_ble_eq_true rfl) (ok_X2_closeUp _ _ hs0 E)
theorem hy_X2_closeUp : yX2_closeUp.cls = RX2 ∧ yX2_closeUp.cls ≠ "java/lang/invoke/MethodHandle" ∧ yX2_closeUp.cls ≠ "java/lang/invoke/VarHandle" ∧ (parseMethodDescriptor yX2_closeUp.desc).map (fun d => d.parameters.length) = some 0 := by decide +kernel
abbrev rm_X2_giveBackDeadRoom : Room := { frames := 4, cells := 0, slots := 0, locals := 85 }
noncomputable def f_X2_giveBackDeadRoom (l0 : Nat) (m : Mem) : Option (Int × Mem) :=
  (f_X2_deadUnits l0 m).bind (fun q1 => if q1.1 = 0 then
(some ((-5), q1.2))
else
((f_X2_closeUp l0 q1.2).bind (fun q4 => some (q4.1, q4.2))))
set_option maxRecDepth 100000 in
set_option maxHeartbeats 4000000 in
theorem ok_X2_giveBackDeadRoom {r : Int × Mem} : ∀ (l0 : Nat) (m : Mem), mmSh[l0]? = some (.inl 2) → f_X2_giveBackDeadRoom l0 m = some r → VV RX2 cX2_giveBackDeadRoom 1 rm_X2_giveBackDeadRoom mmG0 (mmPi r) 0 [(0, .ref l0)] [] m := by
  intro l0 m hs0 E
  unfold f_X2_giveBackDeadRoom at E
  refine V_aload_n 0 dX2_giveBackDeadRoom_0 rfl ?_
  obtain ⟨q1, hq1, E⟩ := mmB_e E
  refine V_callV (ci := 2) (q := (RX2, TX2, 10)) (Cn := RX2) (st := []) 0 dX2_giveBackDeadRoom_1 (ct_X2_deadUnits hs0 hq1) ml_X2_95 im_X2_deadUnits sl_X2_deadUnits it_X2 cd_X2_deadUnits hy_X2_deadUnits ⟨rfl, rfl, by decide, by decide⟩ hs0 rfl rfl rfl rfl (Nat.le_of_ble_eq_true rfl) (fun hv2 => ?_)
  refine V_if_ne 10 dX2_giveBackDeadRoom_4 (by decide) hv2 (fun c3 => ?_) (fun c3 => ?_)
  · replace E := mmI_f c3 E
    refine V_aload_n 0 dX2_giveBackDeadRoom_10 rfl ?_
    obtain ⟨q4, hq4, E⟩ := mmB_e E
    refine V_callV (ci := 2) (q := (RX2, TX2, 10)) (Cn := RX2) (st := []) 0 dX2_giveBackDeadRoom_11 (ct_X2_closeUp hs0 hq4) ml_X2_99 im_X2_closeUp sl_X2_closeUp it_X2 cd_X2_closeUp hy_X2_closeUp ⟨rfl, rfl, by decide, by decide⟩ hs0 rfl rfl rfl rfl (Nat.le_of_ble_eq_true rfl) (fun hv5 => ?_)
    obtain rfl := Option.some.inj E
    exact V_reti dX2_giveBackDeadRoom_14 ⟨rfl, rfl, hv5⟩
  · replace E := mmI_t c3 E
    refine V_bipush (v := (-5)) dX2_giveBackDeadRoom_7 (by decide) ?_
    obtain rfl := Option.some.inj E
    exact V_reti dX2_giveBackDeadRoom_9 ⟨rfl, rfl, ir_m5⟩
theorem ct_X2_giveBackDeadRoom {l0 : Nat} {m : Mem} {r : Int × Mem} (hs0 : mmSh[l0]? = some (.inl 2)) (E : f_X2_giveBackDeadRoom l0 m = some r) : CTi yX2_giveBackDeadRoom cX2_giveBackDeadRoom 1 (some .int) rm_X2_giveBackDeadRoom [.ref l0] m r := CT_i (by decide +kernel) rfl (Nat.le_of_ble_eq_true rfl) (ok_X2_giveBackDeadRoom _ _ hs0 E)
theorem hy_X2_giveBackDeadRoom : yX2_giveBackDeadRoom.cls = RX2 ∧ yX2_giveBackDeadRoom.cls ≠ "java/lang/invoke/MethodHandle" ∧ yX2_giveBackDeadRoom.cls ≠ "java/lang/invoke/VarHandle" ∧ (parseMethodDescriptor yX2_giveBackDeadRoom.desc).map (fun d => d.parameters.length) = some 0 := by decide +kernel
abbrev rm_X2_changeBlocks : Room := { frames := 2, cells := 0, slots := 0, locals := 46 }
noncomputable def f_X2_changeBlocks (l0 : Nat) (l1 : Int) (m : Mem) : Option (Int × Mem) :=
  if l1 < 1 then
(some ((-2), m))
else
(if l1 ≤ 6 then
(mmK (inR (l1 * 4)) (if (m.1 l0 5) ≤ (l1 * 4) then
(if l1 = (m.1 l0 6) then
(some ((-5), m))
else
((f_X2_closeUp l0 (mwr m l0 6 l1)).bind (fun q9 => some ((m.1 l0 6), q9.2))))
else
(some ((-6), m))))
else
(some ((-2), m)))
set_option maxRecDepth 100000 in
set_option maxHeartbeats 4000000 in
theorem ok_X2_changeBlocks {r : Int × Mem} : ∀ (l0 : Nat) (l1 : Int) (m : Mem), mmSh[l0]? = some (.inl 2) → inR l1 → f_X2_changeBlocks l0 l1 m = some r → VV RX2 cX2_changeBlocks 3 rm_X2_changeBlocks mmG0 (mmPi r) 0 [(0, .ref l0), (1, vi l1)] [] m := by
  intro l0 l1 m hs0 hr1 E
  unfold f_X2_changeBlocks at E
  refine V_iload_n 1 dX2_changeBlocks_0 rfl ?_
  refine V_iconst dX2_changeBlocks_1 rfl ?_
  refine V_icmp_lt 11 dX2_changeBlocks_2 (by decide) hr1 ir_1 (fun c1 => ?_) (fun c1 => ?_)
  · replace E := mmI_t c1 E
    refine V_bipush (v := (-2)) dX2_changeBlocks_11 (by decide) ?_
    obtain rfl := Option.some.inj E
    exact V_reti dX2_changeBlocks_13 ⟨rfl, rfl, ir_m2⟩
  · replace E := mmI_f c1 E
    refine V_iload_n 1 dX2_changeBlocks_5 rfl ?_
    refine V_bipush (v := 6) dX2_changeBlocks_6 (by decide) ?_
    refine V_icmp_le 14 dX2_changeBlocks_8 (by decide) hr1 ir_6 (fun c2 => ?_) (fun c2 => ?_)
    · replace E := mmI_t c2 E
      refine V_aload_n 0 dX2_changeBlocks_14 rfl ?_
      refine V_geti (ci := 2) (k := 5) (N := 10) (T := TX2) (v := (m.1 l0 5)) dX2_changeBlocks_15 iuX2 fl_X2_27 rfl (by decide) rfl hs0 (by first | rfl | simp [mwr]) (fun hv3 => ?_)
      refine V_iload_n 1 dX2_changeBlocks_18 rfl ?_
      refine V_iconst dX2_changeBlocks_19 rfl ?_
      obtain ⟨hv4, E⟩ := mmK_e E
      refine V_imul dX2_changeBlocks_20 ?_
      refine V_icmp_le 27 dX2_changeBlocks_21 (by decide) hv3 hv4 (fun c5 => ?_) (fun c5 => ?_)
      · replace E := mmI_t c5 E
        refine V_iload_n 1 dX2_changeBlocks_27 rfl ?_
        refine V_aload_n 0 dX2_changeBlocks_28 rfl ?_
        refine V_geti (ci := 2) (k := 6) (N := 10) (T := TX2) (v := (m.1 l0 6)) dX2_changeBlocks_29 iuX2 fl_X2_31 rfl (by decide) rfl hs0 (by first | rfl | simp [mwr]) (fun hv6 => ?_)
        refine V_icmp_ne 38 dX2_changeBlocks_32 (by decide) hr1 hv6 (fun c7 => ?_) (fun c7 => ?_)
        · replace E := mmI_f c7 E
          refine V_aload_n 0 dX2_changeBlocks_38 rfl ?_
          refine V_geti (ci := 2) (k := 6) (N := 10) (T := TX2) (v := (m.1 l0 6)) dX2_changeBlocks_39 iuX2 fl_X2_31 rfl (by decide) rfl hs0 (by first | rfl | simp [mwr]) (fun hv8 => ?_)
          refine V_istore_n (i := 2) (lv' := [(0, .ref l0), (1, vi l1), (2, vi (m.1 l0 6))]) dX2_changeBlocks_42 rfl rfl rfl ?_
          refine V_aload_n 0 dX2_changeBlocks_43 rfl ?_
          refine V_iload_n 1 dX2_changeBlocks_44 rfl ?_
          refine V_put (ci := 2) (k := 6) (N := 10) (T := TX2) (x := l1) (ty := .int) tyX2 dX2_changeBlocks_45 iuX2 tyX2_ok nmX2 fl_X2_31 rfl (by decide) rfl hs0 rfl (by decide +kernel) rfl rfl hr1 ?_
          refine V_aload_n 0 dX2_changeBlocks_48 rfl ?_
          obtain ⟨q9, hq9, E⟩ := mmB_e E
          refine V_callV (ci := 2) (q := (RX2, TX2, 10)) (Cn := RX2) (st := []) 0 dX2_changeBlocks_49 (ct_X2_closeUp hs0 hq9) ml_X2_99 im_X2_closeUp sl_X2_closeUp it_X2 cd_X2_closeUp hy_X2_closeUp ⟨rfl, rfl, by decide, by decide⟩ hs0 rfl rfl rfl rfl (Nat.le_of_ble_eq_true rfl) (fun hv10 => ?_)
          refine V_popi dX2_changeBlocks_52 ?_
          refine V_iload_n 2 dX2_changeBlocks_53 rfl ?_
          obtain rfl := Option.some.inj E
          exact V_reti dX2_changeBlocks_54 ⟨rfl, rfl, hv8⟩
        · replace E := mmI_t c7 E
          refine V_bipush (v := (-5)) dX2_changeBlocks_35 (by decide) ?_
          obtain rfl := Option.some.inj E
          exact V_reti dX2_changeBlocks_37 ⟨rfl, rfl, ir_m5⟩
      · replace E := mmI_f c5 E
        refine V_bipush (v := (-6)) dX2_changeBlocks_24 (by decide) ?_
        obtain rfl := Option.some.inj E
        exact V_reti dX2_changeBlocks_26 ⟨rfl, rfl, ir_m6⟩
    · replace E := mmI_f c2 E
      refine V_bipush (v := (-2)) dX2_changeBlocks_11 (by decide) ?_
      obtain rfl := Option.some.inj E
      exact V_reti dX2_changeBlocks_13 ⟨rfl, rfl, ir_m2⟩
theorem ct_X2_changeBlocks {l0 : Nat} {l1 : Int} {m : Mem} {r : Int × Mem} (hs0 : mmSh[l0]? = some (.inl 2)) (hr1 : inR l1) (E : f_X2_changeBlocks l0 l1 m = some r) : CTi yX2_changeBlocks cX2_changeBlocks 3 (some .int) rm_X2_changeBlocks [.ref l0, vi l1] m r := CT_i (by decide +kernel) rfl (Nat.le_of_ble_eq_true rfl) (ok_X2_changeBlocks _ _ _ hs0 hr1 E)
theorem hy_X2_changeBlocks : yX2_changeBlocks.cls = RX2 ∧ yX2_changeBlocks.cls ≠ "java/lang/invoke/MethodHandle" ∧ yX2_changeBlocks.cls ≠ "java/lang/invoke/VarHandle" ∧ (parseMethodDescriptor yX2_changeBlocks.desc).map (fun d => d.parameters.length) = some 1 := by decide +kernel
abbrev rm_X2_aliasesOf : Room := { frames := 2, cells := 0, slots := 0, locals := 42 }
noncomputable def f_X2_aliasesOf_L4 : Nat → Nat → Int → Int → Int → Mem → Option (Int × Mem)
  | 0, _, _, _, _, _ => none
  | n + 1, l0, l1, l2, l3, m =>
    if (m.1 l0 5) ≤ l3 then
(some (l2, m))
else
(mmK (0 ≤ l3 ∧ l3 < 24) (if (m.1 (l0 + 3) (l3).toNat) = l1 then
((f_X2_isMember l0 l3 m).bind (fun q7 => if q7.1 = 0 then
(mmK (inR (l2 + 1)) (mmK (inR (l3 + 1)) (f_X2_aliasesOf_L4 n l0 l1 (l2 + 1) (l3 + 1) q7.2)))
else
(mmK (inR (l3 + 1)) (f_X2_aliasesOf_L4 n l0 l1 l2 (l3 + 1) q7.2))))
else
(mmK (inR (l3 + 1)) (f_X2_aliasesOf_L4 n l0 l1 l2 (l3 + 1) m))))
set_option maxRecDepth 100000 in
set_option maxHeartbeats 4000000 in
theorem ok_X2_aliasesOf_L4 {r : Int × Mem} : ∀ (n : Nat), ∀ (l0 : Nat) (l1 : Int) (l2 : Int) (l3 : Int) (m : Mem), mmSh[l0]? = some (.inl 2) → inR l1 → inR l2 → inR l3 → f_X2_aliasesOf_L4 n l0 l1 l2 l3 m = some r → VV RX2 cX2_aliasesOf 4 rm_X2_aliasesOf mmG0 (mmPi r) 4 [(0, .ref l0), (1, vi l1), (2, vi l2), (3, vi l3)] [] m := by
  intro n
  induction n with
  | zero =>
    intro l0 l1 l2 l3 m hs0 hr1 hr2 hr3 E
    cases E
  | succ n ih =>
    intro l0 l1 l2 l3 m hs0 hr1 hr2 hr3 E
    rw [f_X2_aliasesOf_L4] at E
    refine V_iload_n 3 dX2_aliasesOf_4 rfl ?_
    refine V_aload_n 0 dX2_aliasesOf_5 rfl ?_
    refine V_geti (ci := 2) (k := 5) (N := 10) (T := TX2) (v := (m.1 l0 5)) dX2_aliasesOf_6 iuX2 fl_X2_27 rfl (by decide) rfl hs0 (by first | rfl | simp [mwr]) (fun hv1 => ?_)
    refine V_icmp_ge 39 dX2_aliasesOf_9 (by decide) hr3 hv1 (fun c2 => ?_) (fun c2 => ?_)
    · replace E := mmI_t c2 E
      refine V_iload_n 2 dX2_aliasesOf_39 rfl ?_
      obtain rfl := Option.some.inj E
      exact V_reti dX2_aliasesOf_40 ⟨rfl, rfl, hr2⟩
    · replace E := mmI_f c2 E
      refine V_aload_n 0 dX2_aliasesOf_12 rfl ?_
      refine V_geta (ci := 2) (k := 2) (N := 10) (T := TX2) (o' := (l0 + 3)) dX2_aliasesOf_13 iuX2 fl_X2_18 rfl (by decide) rfl hs0 rfl ?_
      refine V_iload_n 3 dX2_aliasesOf_16 rfl ?_
      obtain ⟨hv3, E⟩ := mmK_e E
      refine V_iald (n := 24) (j := (l3).toNat) (v := (m.1 (l0 + 3) (l3).toNat)) dX2_aliasesOf_17 (mmS3 hs0) hr3 hv3 rfl (by first | rfl | simp [mwr]) (fun hv4 => ?_)
      refine V_iload_n 1 dX2_aliasesOf_18 rfl ?_
      refine V_icmp_ne 33 dX2_aliasesOf_19 (by decide) hv4 hr1 (fun c5 => ?_) (fun c5 => ?_)
      · replace E := mmI_f c5 E
        obtain ⟨hv6, E⟩ := mmK_e E
        refine V_iinc (v := (l3 + 1)) (lv' := [(0, .ref l0), (1, vi l1), (2, vi l2), (3, vi (l3 + 1))]) 3 dX2_aliasesOf_33 rfl rfl rfl rfl ?_
        refine V_goto 4 dX2_aliasesOf_36 (by decide) ?_
        exact ih _ _ _ _ _ hs0 hr1 hr2 hv6 E
      · replace E := mmI_t c5 E
        refine V_aload_n 0 dX2_aliasesOf_22 rfl ?_
        refine V_iload_n 3 dX2_aliasesOf_23 rfl ?_
        obtain ⟨q7, hq7, E⟩ := mmB_e E
        refine V_callV (ci := 2) (q := (RX2, TX2, 10)) (Cn := RX2) (st := []) 1 dX2_aliasesOf_24 (ct_X2_isMember hs0 hr3 hq7) ml_X2_80 im_X2_isMember sl_X2_isMember it_X2 cd_X2_isMember hy_X2_isMember ⟨rfl, rfl, by decide, by decide⟩ hs0 rfl rfl rfl rfl (Nat.le_of_ble_eq_true rfl) (fun hv8 => ?_)
        refine V_if_ne 33 dX2_aliasesOf_27 (by decide) hv8 (fun c9 => ?_) (fun c9 => ?_)
        · replace E := mmI_f c9 E
          obtain ⟨hv10, E⟩ := mmK_e E
          refine V_iinc (v := (l3 + 1)) (lv' := [(0, .ref l0), (1, vi l1), (2, vi l2), (3, vi (l3 + 1))]) 3 dX2_aliasesOf_33 rfl rfl rfl rfl ?_
          refine V_goto 4 dX2_aliasesOf_36 (by decide) ?_
          exact ih _ _ _ _ _ hs0 hr1 hr2 hv10 E
        · replace E := mmI_t c9 E
          obtain ⟨hv11, E⟩ := mmK_e E
          refine V_iinc (v := (l2 + 1)) (lv' := [(0, .ref l0), (1, vi l1), (2, vi (l2 + 1)), (3, vi l3)]) 2 dX2_aliasesOf_30 rfl rfl rfl rfl ?_
          obtain ⟨hv12, E⟩ := mmK_e E
          refine V_iinc (v := (l3 + 1)) (lv' := [(0, .ref l0), (1, vi l1), (2, vi (l2 + 1)), (3, vi (l3 + 1))]) 3 dX2_aliasesOf_33 rfl rfl rfl rfl ?_
          refine V_goto 4 dX2_aliasesOf_36 (by decide) ?_
          exact ih _ _ _ _ _ hs0 hr1 hv11 hv12 E
noncomputable def f_X2_aliasesOf (l0 : Nat) (l1 : Int) (m : Mem) : Option (Int × Mem) :=
  f_X2_aliasesOf_L4 mmFU l0 l1 0 0 m
set_option maxRecDepth 100000 in
set_option maxHeartbeats 4000000 in
theorem ok_X2_aliasesOf {r : Int × Mem} : ∀ (l0 : Nat) (l1 : Int) (m : Mem), mmSh[l0]? = some (.inl 2) → inR l1 → f_X2_aliasesOf l0 l1 m = some r → VV RX2 cX2_aliasesOf 4 rm_X2_aliasesOf mmG0 (mmPi r) 0 [(0, .ref l0), (1, vi l1)] [] m := by
  intro l0 l1 m hs0 hr1 E
  unfold f_X2_aliasesOf at E
  refine V_iconst dX2_aliasesOf_0 rfl ?_
  refine V_istore_n (i := 2) (lv' := [(0, .ref l0), (1, vi l1), (2, vi 0)]) dX2_aliasesOf_1 rfl rfl rfl ?_
  refine V_iconst dX2_aliasesOf_2 rfl ?_
  refine V_istore_n (i := 3) (lv' := [(0, .ref l0), (1, vi l1), (2, vi 0), (3, vi 0)]) dX2_aliasesOf_3 rfl rfl rfl ?_
  exact ok_X2_aliasesOf_L4 mmFU _ _ _ _ _ hs0 hr1 ir_0 ir_0 E
theorem ct_X2_aliasesOf {l0 : Nat} {l1 : Int} {m : Mem} {r : Int × Mem} (hs0 : mmSh[l0]? = some (.inl 2)) (hr1 : inR l1) (E : f_X2_aliasesOf l0 l1 m = some r) : CTi yX2_aliasesOf cX2_aliasesOf 4 (some .int) rm_X2_aliasesOf [.ref l0, vi l1] m r := CT_i (by decide +kernel) rfl (Nat.le_of_ble_eq_true rfl) (ok_X2_aliasesOf _ _ _ hs0 hr1 E)
theorem hy_X2_aliasesOf : yX2_aliasesOf.cls = RX2 ∧ yX2_aliasesOf.cls ≠ "java/lang/invoke/MethodHandle" ∧ yX2_aliasesOf.cls ≠ "java/lang/invoke/VarHandle" ∧ (parseMethodDescriptor yX2_aliasesOf.desc).map (fun d => d.parameters.length) = some 1 := by decide +kernel
abbrev rm_X2_isLost : Room := { frames := 2, cells := 0, slots := 0, locals := 42 }
noncomputable def f_X2_isLost (l0 : Nat) (l1 : Int) (m : Mem) : Option (Int × Mem) :=
  (f_X2_isRank l0 l1 m).bind (fun q1 => if q1.1 = 0 then
(some (0, q1.2))
else
((f_X2_isMember l0 l1 q1.2).bind (fun q4 => if q4.1 = 0 then
(mmK (0 ≤ l1 ∧ l1 < 24) ((f_X2_rankOf l0 (q4.2.1 (l0 + 2) (l1).toNat) q4.2).bind (fun q9 => (f_X2_isMember l0 q9.1 q9.2).bind (fun q11 => if q11.1 = 0 then
(some (1, q11.2))
else
(mmK (0 ≤ q9.1 ∧ q9.1 < 24) (mmK (0 ≤ l1 ∧ l1 < 24) (if (q11.2.1 (l0 + 3) (q9.1).toNat) = (q11.2.1 (l0 + 3) (l1).toNat) then
(some (0, q11.2))
else
(some (1, q11.2)))))))))
else
(some (0, q4.2)))))
set_option maxRecDepth 100000 in
set_option maxHeartbeats 4000000 in
theorem ok_X2_isLost {r : Int × Mem} : ∀ (l0 : Nat) (l1 : Int) (m : Mem), mmSh[l0]? = some (.inl 2) → inR l1 → f_X2_isLost l0 l1 m = some r → VV RX2 cX2_isLost 3 rm_X2_isLost mmG0 (mmPz r) 0 [(0, .ref l0), (1, vi l1)] [] m := by
  intro l0 l1 m hs0 hr1 E
  unfold f_X2_isLost at E
  refine V_aload_n 0 dX2_isLost_0 rfl ?_
  refine V_iload_n 1 dX2_isLost_1 rfl ?_
  obtain ⟨q1, hq1, E⟩ := mmB_e E
  refine V_callV (ci := 2) (q := (RX2, TX2, 10)) (Cn := RX2) (st := []) 1 dX2_isLost_2 (ct_X2_isRank hs0 hr1 hq1) ml_X2_63 im_X2_isRank sl_X2_isRank it_X2 cd_X2_isRank hy_X2_isRank ⟨rfl, rfl, by decide, by decide⟩ hs0 rfl rfl rfl rfl (Nat.le_of_ble_eq_true rfl) (fun hv2 => ?_)
  refine V_if_eq 16 dX2_isLost_5 (by decide) hv2 (fun c3 => ?_) (fun c3 => ?_)
  · replace E := mmI_t c3 E
    refine V_iconst dX2_isLost_16 rfl ?_
    obtain rfl := Option.some.inj E
    exact V_reti dX2_isLost_17 ⟨rfl, rfl, (Or.inl rfl)⟩
  · replace E := mmI_f c3 E
    refine V_aload_n 0 dX2_isLost_8 rfl ?_
    refine V_iload_n 1 dX2_isLost_9 rfl ?_
    obtain ⟨q4, hq4, E⟩ := mmB_e E
    refine V_callV (ci := 2) (q := (RX2, TX2, 10)) (Cn := RX2) (st := []) 1 dX2_isLost_10 (ct_X2_isMember hs0 hr1 hq4) ml_X2_80 im_X2_isMember sl_X2_isMember it_X2 cd_X2_isMember hy_X2_isMember ⟨rfl, rfl, by decide, by decide⟩ hs0 rfl rfl rfl rfl (Nat.le_of_ble_eq_true rfl) (fun hv5 => ?_)
    refine V_if_eq 18 dX2_isLost_13 (by decide) hv5 (fun c6 => ?_) (fun c6 => ?_)
    · replace E := mmI_t c6 E
      refine V_aload_n 0 dX2_isLost_18 rfl ?_
      refine V_aload_n 0 dX2_isLost_19 rfl ?_
      refine V_geta (ci := 2) (k := 1) (N := 10) (T := TX2) (o' := (l0 + 2)) dX2_isLost_20 iuX2 fl_X2_15 rfl (by decide) rfl hs0 rfl ?_
      refine V_iload_n 1 dX2_isLost_23 rfl ?_
      obtain ⟨hv7, E⟩ := mmK_e E
      refine V_iald (n := 24) (j := (l1).toNat) (v := (q4.2.1 (l0 + 2) (l1).toNat)) dX2_isLost_24 (mmS2 hs0) hr1 hv7 rfl (by first | rfl | simp [mwr]) (fun hv8 => ?_)
      obtain ⟨q9, hq9, E⟩ := mmB_e E
      refine V_callV (ci := 2) (q := (RX2, TX2, 10)) (Cn := RX2) (st := []) 1 dX2_isLost_25 (ct_X2_rankOf hs0 hv8 hq9) ml_X2_59 im_X2_rankOf sl_X2_rankOf it_X2 cd_X2_rankOf hy_X2_rankOf ⟨rfl, rfl, by decide, by decide⟩ hs0 rfl rfl rfl rfl (Nat.le_of_ble_eq_true rfl) (fun hv10 => ?_)
      refine V_istore_n (i := 2) (lv' := [(0, .ref l0), (1, vi l1), (2, vi q9.1)]) dX2_isLost_28 rfl rfl rfl ?_
      refine V_aload_n 0 dX2_isLost_29 rfl ?_
      refine V_iload_n 2 dX2_isLost_30 rfl ?_
      obtain ⟨q11, hq11, E⟩ := mmB_e E
      refine V_callV (ci := 2) (q := (RX2, TX2, 10)) (Cn := RX2) (st := []) 1 dX2_isLost_31 (ct_X2_isMember hs0 hv10 hq11) ml_X2_80 im_X2_isMember sl_X2_isMember it_X2 cd_X2_isMember hy_X2_isMember ⟨rfl, rfl, by decide, by decide⟩ hs0 rfl rfl rfl rfl (Nat.le_of_ble_eq_true rfl) (fun hv12 => ?_)
      refine V_if_eq 52 dX2_isLost_34 (by decide) hv12 (fun c13 => ?_) (fun c13 => ?_)
      · replace E := mmI_t c13 E
        refine V_iconst dX2_isLost_52 rfl ?_
        refine V_goto 57 dX2_isLost_53 (by decide) ?_
        obtain rfl := Option.some.inj E
        exact V_reti dX2_isLost_57 ⟨rfl, rfl, (Or.inr rfl)⟩
      · replace E := mmI_f c13 E
        refine V_aload_n 0 dX2_isLost_37 rfl ?_
        refine V_geta (ci := 2) (k := 2) (N := 10) (T := TX2) (o' := (l0 + 3)) dX2_isLost_38 iuX2 fl_X2_18 rfl (by decide) rfl hs0 rfl ?_
        refine V_iload_n 2 dX2_isLost_41 rfl ?_
        obtain ⟨hv14, E⟩ := mmK_e E
        refine V_iald (n := 24) (j := (q9.1).toNat) (v := (q11.2.1 (l0 + 3) (q9.1).toNat)) dX2_isLost_42 (mmS3 hs0) hv10 hv14 rfl (by first | rfl | simp [mwr]) (fun hv15 => ?_)
        refine V_aload_n 0 dX2_isLost_43 rfl ?_
        refine V_geta (ci := 2) (k := 2) (N := 10) (T := TX2) (o' := (l0 + 3)) dX2_isLost_44 iuX2 fl_X2_18 rfl (by decide) rfl hs0 rfl ?_
        refine V_iload_n 1 dX2_isLost_47 rfl ?_
        obtain ⟨hv16, E⟩ := mmK_e E
        refine V_iald (n := 24) (j := (l1).toNat) (v := (q11.2.1 (l0 + 3) (l1).toNat)) dX2_isLost_48 (mmS3 hs0) hr1 hv16 rfl (by first | rfl | simp [mwr]) (fun hv17 => ?_)
        refine V_icmp_eq 56 dX2_isLost_49 (by decide) hv15 hv17 (fun c18 => ?_) (fun c18 => ?_)
        · replace E := mmI_t c18 E
          refine V_iconst dX2_isLost_56 rfl ?_
          obtain rfl := Option.some.inj E
          exact V_reti dX2_isLost_57 ⟨rfl, rfl, (Or.inl rfl)⟩
        · replace E := mmI_f c18 E
          refine V_iconst dX2_isLost_52 rfl ?_
          refine V_goto 57 dX2_isLost_53 (by decide) ?_
          obtain rfl := Option.some.inj E
          exact V_reti dX2_isLost_57 ⟨rfl, rfl, (Or.inr rfl)⟩
    · replace E := mmI_f c6 E
      refine V_iconst dX2_isLost_16 rfl ?_
      obtain rfl := Option.some.inj E
      exact V_reti dX2_isLost_17 ⟨rfl, rfl, (Or.inl rfl)⟩
theorem ct_X2_isLost {l0 : Nat} {l1 : Int} {m : Mem} {r : Int × Mem} (hs0 : mmSh[l0]? = some (.inl 2)) (hr1 : inR l1) (E : f_X2_isLost l0 l1 m = some r) : CTi yX2_isLost cX2_isLost 3 (some .boolean) rm_X2_isLost [.ref l0, vi l1] m r := CT_z (by decide +kernel) rfl (Nat.le_of_ble_eq_true rfl) (ok_X2_isLost _ _ _ hs0 hr1 E)
theorem hy_X2_isLost : yX2_isLost.cls = RX2 ∧ yX2_isLost.cls ≠ "java/lang/invoke/MethodHandle" ∧ yX2_isLost.cls ≠ "java/lang/invoke/VarHandle" ∧ (parseMethodDescriptor yX2_isLost.desc).map (fun d => d.parameters.length) = some 1 := by decide +kernel
abbrev rm_X2_tellEntry : Room := { frames := 3, cells := 0, slots := 0, locals := 65 }
noncomputable def f_X2_tellEntry (l0 : Nat) (l1 : Int) (l2 : Int) (m : Mem) : Option (Int × Mem) :=
  (f_X2_rankOf l0 l1 m).bind (fun q1 => (f_X2_isRank l0 q1.1 q1.2).bind (fun q3 => if q3.1 = 0 then
(some ((-1), q3.2))
else
(if l2 = 0 then
(some (q1.1, q3.2))
else (
if l2 = 1 then
(mmK (0 ≤ q1.1 ∧ 0 < (4 : Int)) (mmK (inR (q1.1 / 4)) (some ((q1.1 / 4), q3.2))))
else (
if l2 = 2 then
((f_X2_isMember l0 q1.1 q3.2).bind (fun q11 => if q11.1 = 0 then
(some (1, q11.2))
else
(some (0, q11.2))))
else (
if l2 = 3 then
(mmK (0 ≤ q1.1 ∧ q1.1 < 24) (some ((q3.2.1 (l0 + 3) (q1.1).toNat), q3.2)))
else (
if l2 = 4 then
(mmK (0 ≤ q1.1 ∧ q1.1 < 24) (some ((q3.2.1 (l0 + 4) (q1.1).toNat), q3.2)))
else (
if l2 = 5 then
(mmK (0 ≤ q1.1 ∧ q1.1 < 24) (some ((q3.2.1 (l0 + 5) (q1.1).toNat), q3.2)))
else (
if l2 = 6 then
(mmK (0 ≤ q1.1 ∧ q1.1 < 24) ((f_X2_aliasesOf l0 (q3.2.1 (l0 + 3) (q1.1).toNat) q3.2).bind (fun q26 => some (q26.1, q26.2))))
else (
if l2 = 7 then
(mmK (0 ≤ q1.1 ∧ q1.1 < 24) (some ((q3.2.1 (l0 + 2) (q1.1).toNat), q3.2)))
else (
if l2 = 8 then
((f_X2_isLost l0 q1.1 q3.2).bind (fun q32 => if q32.1 = 0 then
(some (0, q32.2))
else
(some (1, q32.2))))
else (
(some ((-2), q3.2))))))))))))))
set_option maxRecDepth 100000 in
set_option maxHeartbeats 4000000 in
theorem ok_X2_tellEntry {r : Int × Mem} : ∀ (l0 : Nat) (l1 : Int) (l2 : Int) (m : Mem), mmSh[l0]? = some (.inl 2) → inR l1 → inR l2 → f_X2_tellEntry l0 l1 l2 m = some r → VV RX2 cX2_tellEntry 4 rm_X2_tellEntry mmG0 (mmPi r) 0 [(0, .ref l0), (1, vi l1), (2, vi l2)] [] m := by
  intro l0 l1 l2 m hs0 hr1 hr2 E
  unfold f_X2_tellEntry at E
  refine V_aload_n 0 dX2_tellEntry_0 rfl ?_
  refine V_iload_n 1 dX2_tellEntry_1 rfl ?_
  obtain ⟨q1, hq1, E⟩ := mmB_e E
  refine V_callV (ci := 2) (q := (RX2, TX2, 10)) (Cn := RX2) (st := []) 1 dX2_tellEntry_2 (ct_X2_rankOf hs0 hr1 hq1) ml_X2_59 im_X2_rankOf sl_X2_rankOf it_X2 cd_X2_rankOf hy_X2_rankOf ⟨rfl, rfl, by decide, by decide⟩ hs0 rfl rfl rfl rfl (Nat.le_of_ble_eq_true rfl) (fun hv2 => ?_)
  refine V_istore_n (i := 3) (lv' := [(0, .ref l0), (1, vi l1), (2, vi l2), (3, vi q1.1)]) dX2_tellEntry_5 rfl rfl rfl ?_
  refine V_aload_n 0 dX2_tellEntry_6 rfl ?_
  refine V_iload_n 3 dX2_tellEntry_7 rfl ?_
  obtain ⟨q3, hq3, E⟩ := mmB_e E
  refine V_callV (ci := 2) (q := (RX2, TX2, 10)) (Cn := RX2) (st := []) 1 dX2_tellEntry_8 (ct_X2_isRank hs0 hv2 hq3) ml_X2_63 im_X2_isRank sl_X2_isRank it_X2 cd_X2_isRank hy_X2_isRank ⟨rfl, rfl, by decide, by decide⟩ hs0 rfl rfl rfl rfl (Nat.le_of_ble_eq_true rfl) (fun hv4 => ?_)
  refine V_if_ne 16 dX2_tellEntry_11 (by decide) hv4 (fun c5 => ?_) (fun c5 => ?_)
  · replace E := mmI_f c5 E
    refine V_iload_n 2 dX2_tellEntry_16 rfl ?_
    by_cases c6 : l2 = 0
    · replace E := mmI_t c6 E
      refine V_tableIn 0 68 dX2_tellEntry_17 c6 (by decide) (by decide) rfl (by decide) ?_
      refine V_iload_n 3 dX2_tellEntry_68 rfl ?_
      obtain rfl := Option.some.inj E
      exact V_reti dX2_tellEntry_69 ⟨rfl, rfl, hv2⟩
    replace E := mmI_f c6 E
    by_cases c7 : l2 = 1
    · replace E := mmI_t c7 E
      refine V_tableIn 1 70 dX2_tellEntry_17 c7 (by decide) (by decide) rfl (by decide) ?_
      refine V_iload_n 3 dX2_tellEntry_70 rfl ?_
      refine V_iconst dX2_tellEntry_71 rfl ?_
      obtain ⟨hv8, E⟩ := mmK_e E
      obtain ⟨hv9, E⟩ := mmK_e E
      refine V_idiv dX2_tellEntry_72 hv2 ir_4 hv8 ?_
      obtain rfl := Option.some.inj E
      exact V_reti dX2_tellEntry_73 ⟨rfl, rfl, hv9⟩
    replace E := mmI_f c7 E
    by_cases c10 : l2 = 2
    · replace E := mmI_t c10 E
      refine V_tableIn 2 74 dX2_tellEntry_17 c10 (by decide) (by decide) rfl (by decide) ?_
      refine V_aload_n 0 dX2_tellEntry_74 rfl ?_
      refine V_iload_n 3 dX2_tellEntry_75 rfl ?_
      obtain ⟨q11, hq11, E⟩ := mmB_e E
      refine V_callV (ci := 2) (q := (RX2, TX2, 10)) (Cn := RX2) (st := []) 1 dX2_tellEntry_76 (ct_X2_isMember hs0 hv2 hq11) ml_X2_80 im_X2_isMember sl_X2_isMember it_X2 cd_X2_isMember hy_X2_isMember ⟨rfl, rfl, by decide, by decide⟩ hs0 rfl rfl rfl rfl (Nat.le_of_ble_eq_true rfl) (fun hv12 => ?_)
      refine V_if_eq 86 dX2_tellEntry_79 (by decide) hv12 (fun c13 => ?_) (fun c13 => ?_)
      · replace E := mmI_t c13 E
        refine V_iconst dX2_tellEntry_86 rfl ?_
        obtain rfl := Option.some.inj E
        exact V_reti dX2_tellEntry_87 ⟨rfl, rfl, ir_1⟩
      · replace E := mmI_f c13 E
        refine V_iconst dX2_tellEntry_82 rfl ?_
        refine V_goto 87 dX2_tellEntry_83 (by decide) ?_
        obtain rfl := Option.some.inj E
        exact V_reti dX2_tellEntry_87 ⟨rfl, rfl, ir_0⟩
    replace E := mmI_f c10 E
    by_cases c14 : l2 = 3
    · replace E := mmI_t c14 E
      refine V_tableIn 3 88 dX2_tellEntry_17 c14 (by decide) (by decide) rfl (by decide) ?_
      refine V_aload_n 0 dX2_tellEntry_88 rfl ?_
      refine V_geta (ci := 2) (k := 2) (N := 10) (T := TX2) (o' := (l0 + 3)) dX2_tellEntry_89 iuX2 fl_X2_18 rfl (by decide) rfl hs0 rfl ?_
      refine V_iload_n 3 dX2_tellEntry_92 rfl ?_
      obtain ⟨hv15, E⟩ := mmK_e E
      refine V_iald (n := 24) (j := (q1.1).toNat) (v := (q3.2.1 (l0 + 3) (q1.1).toNat)) dX2_tellEntry_93 (mmS3 hs0) hv2 hv15 rfl (by first | rfl | simp [mwr]) (fun hv16 => ?_)
      obtain rfl := Option.some.inj E
      exact V_reti dX2_tellEntry_94 ⟨rfl, rfl, hv16⟩
    replace E := mmI_f c14 E
    by_cases c17 : l2 = 4
    · replace E := mmI_t c17 E
      refine V_tableIn 4 95 dX2_tellEntry_17 c17 (by decide) (by decide) rfl (by decide) ?_
      refine V_aload_n 0 dX2_tellEntry_95 rfl ?_
      refine V_geta (ci := 2) (k := 3) (N := 10) (T := TX2) (o' := (l0 + 4)) dX2_tellEntry_96 iuX2 fl_X2_21 rfl (by decide) rfl hs0 rfl ?_
      refine V_iload_n 3 dX2_tellEntry_99 rfl ?_
      obtain ⟨hv18, E⟩ := mmK_e E
      refine V_iald (n := 24) (j := (q1.1).toNat) (v := (q3.2.1 (l0 + 4) (q1.1).toNat)) dX2_tellEntry_100 (mmS4 hs0) hv2 hv18 rfl (by first | rfl | simp [mwr]) (fun hv19 => ?_)
      obtain rfl := Option.some.inj E
      exact V_reti dX2_tellEntry_101 ⟨rfl, rfl, hv19⟩
    replace E := mmI_f c17 E
    by_cases c20 : l2 = 5
    · replace E := mmI_t c20 E
      refine V_tableIn 5 102 dX2_tellEntry_17 c20 (by decide) (by decide) rfl (by decide) ?_
      refine V_aload_n 0 dX2_tellEntry_102 rfl ?_
      refine V_geta (ci := 2) (k := 4) (N := 10) (T := TX2) (o' := (l0 + 5)) dX2_tellEntry_103 iuX2 fl_X2_24 rfl (by decide) rfl hs0 rfl ?_
      refine V_iload_n 3 dX2_tellEntry_106 rfl ?_
      obtain ⟨hv21, E⟩ := mmK_e E
      refine V_iald (n := 24) (j := (q1.1).toNat) (v := (q3.2.1 (l0 + 5) (q1.1).toNat)) dX2_tellEntry_107 (mmS5 hs0) hv2 hv21 rfl (by first | rfl | simp [mwr]) (fun hv22 => ?_)
      obtain rfl := Option.some.inj E
      exact V_reti dX2_tellEntry_108 ⟨rfl, rfl, hv22⟩
    replace E := mmI_f c20 E
    by_cases c23 : l2 = 6
    · replace E := mmI_t c23 E
      refine V_tableIn 6 109 dX2_tellEntry_17 c23 (by decide) (by decide) rfl (by decide) ?_
      refine V_aload_n 0 dX2_tellEntry_109 rfl ?_
      refine V_aload_n 0 dX2_tellEntry_110 rfl ?_
      refine V_geta (ci := 2) (k := 2) (N := 10) (T := TX2) (o' := (l0 + 3)) dX2_tellEntry_111 iuX2 fl_X2_18 rfl (by decide) rfl hs0 rfl ?_
      refine V_iload_n 3 dX2_tellEntry_114 rfl ?_
      obtain ⟨hv24, E⟩ := mmK_e E
      refine V_iald (n := 24) (j := (q1.1).toNat) (v := (q3.2.1 (l0 + 3) (q1.1).toNat)) dX2_tellEntry_115 (mmS3 hs0) hv2 hv24 rfl (by first | rfl | simp [mwr]) (fun hv25 => ?_)
      obtain ⟨q26, hq26, E⟩ := mmB_e E
      refine V_callV (ci := 2) (q := (RX2, TX2, 10)) (Cn := RX2) (st := []) 1 dX2_tellEntry_116 (ct_X2_aliasesOf hs0 hv25 hq26) ml_X2_102 im_X2_aliasesOf sl_X2_aliasesOf it_X2 cd_X2_aliasesOf hy_X2_aliasesOf ⟨rfl, rfl, by decide, by decide⟩ hs0 rfl rfl rfl rfl (Nat.le_of_ble_eq_true rfl) (fun hv27 => ?_)
      obtain rfl := Option.some.inj E
      exact V_reti dX2_tellEntry_119 ⟨rfl, rfl, hv27⟩
    replace E := mmI_f c23 E
    by_cases c28 : l2 = 7
    · replace E := mmI_t c28 E
      refine V_tableIn 7 120 dX2_tellEntry_17 c28 (by decide) (by decide) rfl (by decide) ?_
      refine V_aload_n 0 dX2_tellEntry_120 rfl ?_
      refine V_geta (ci := 2) (k := 1) (N := 10) (T := TX2) (o' := (l0 + 2)) dX2_tellEntry_121 iuX2 fl_X2_15 rfl (by decide) rfl hs0 rfl ?_
      refine V_iload_n 3 dX2_tellEntry_124 rfl ?_
      obtain ⟨hv29, E⟩ := mmK_e E
      refine V_iald (n := 24) (j := (q1.1).toNat) (v := (q3.2.1 (l0 + 2) (q1.1).toNat)) dX2_tellEntry_125 (mmS2 hs0) hv2 hv29 rfl (by first | rfl | simp [mwr]) (fun hv30 => ?_)
      obtain rfl := Option.some.inj E
      exact V_reti dX2_tellEntry_126 ⟨rfl, rfl, hv30⟩
    replace E := mmI_f c28 E
    by_cases c31 : l2 = 8
    · replace E := mmI_t c31 E
      refine V_tableIn 8 127 dX2_tellEntry_17 c31 (by decide) (by decide) rfl (by decide) ?_
      refine V_aload_n 0 dX2_tellEntry_127 rfl ?_
      refine V_iload_n 3 dX2_tellEntry_128 rfl ?_
      obtain ⟨q32, hq32, E⟩ := mmB_e E
      refine V_callV (ci := 2) (q := (RX2, TX2, 10)) (Cn := RX2) (st := []) 1 dX2_tellEntry_129 (ct_X2_isLost hs0 hv2 hq32) ml_X2_105 im_X2_isLost sl_X2_isLost it_X2 cd_X2_isLost hy_X2_isLost ⟨rfl, rfl, by decide, by decide⟩ hs0 rfl rfl rfl rfl (Nat.le_of_ble_eq_true rfl) (fun hv33 => ?_)
      refine V_if_eq 139 dX2_tellEntry_132 (by decide) hv33 (fun c34 => ?_) (fun c34 => ?_)
      · replace E := mmI_t c34 E
        refine V_iconst dX2_tellEntry_139 rfl ?_
        obtain rfl := Option.some.inj E
        exact V_reti dX2_tellEntry_140 ⟨rfl, rfl, ir_0⟩
      · replace E := mmI_f c34 E
        refine V_iconst dX2_tellEntry_135 rfl ?_
        refine V_goto 140 dX2_tellEntry_136 (by decide) ?_
        obtain rfl := Option.some.inj E
        exact V_reti dX2_tellEntry_140 ⟨rfl, rfl, ir_1⟩
    replace E := mmI_f c31 E
    refine V_tableOut 141 dX2_tellEntry_17 hr2 (by omega) (by decide) ?_
    refine V_bipush (v := (-2)) dX2_tellEntry_141 (by decide) ?_
    obtain rfl := Option.some.inj E
    exact V_reti dX2_tellEntry_143 ⟨rfl, rfl, ir_m2⟩
  · replace E := mmI_t c5 E
    refine V_iconst dX2_tellEntry_14 rfl ?_
    obtain rfl := Option.some.inj E
    exact V_reti dX2_tellEntry_15 ⟨rfl, rfl, ir_m1⟩
theorem ct_X2_tellEntry {l0 : Nat} {l1 : Int} {l2 : Int} {m : Mem} {r : Int × Mem} (hs0 : mmSh[l0]? = some (.inl 2)) (hr1 : inR l1) (hr2 : inR l2) (E : f_X2_tellEntry l0 l1 l2 m = some r) : CTi yX2_tellEntry cX2_tellEntry 4 (some .int) rm_X2_tellEntry [.ref l0, vi l1, vi l2] m r := CT_i (by decide +kernel) rfl (Nat.le_of_ble_eq_true rfl) (ok_X2_tellEntry _ _ _ _ hs0 hr1 hr2 E)
theorem hy_X2_tellEntry : yX2_tellEntry.cls = RX2 ∧ yX2_tellEntry.cls ≠ "java/lang/invoke/MethodHandle" ∧ yX2_tellEntry.cls ≠ "java/lang/invoke/VarHandle" ∧ (parseMethodDescriptor yX2_tellEntry.desc).map (fun d => d.parameters.length) = some 2 := by decide +kernel
abbrev rm_X2_tellName : Room := { frames := 1, cells := 0, slots := 0, locals := 21 }
noncomputable def f_X2_tellName (l0 : Nat) (l1 : Int) (m : Mem) : Option (Int × Mem) :=
  if 0 ≤ l1 then
((f_X2_isRank l0 l1 m).bind (fun q2 => if q2.1 = 0 then
(some ((-5), q2.2))
else
(mmK (0 ≤ l1 ∧ l1 < 24) (some ((q2.2.1 (l0 + 1) (l1).toNat), q2.2)))))
else
(some ((-2), m))
set_option maxRecDepth 100000 in
set_option maxHeartbeats 4000000 in
theorem ok_X2_tellName {r : Int × Mem} : ∀ (l0 : Nat) (l1 : Int) (m : Mem), mmSh[l0]? = some (.inl 2) → inR l1 → f_X2_tellName l0 l1 m = some r → VV RX2 cX2_tellName 2 rm_X2_tellName mmG0 (mmPi r) 0 [(0, .ref l0), (1, vi l1)] [] m := by
  intro l0 l1 m hs0 hr1 E
  unfold f_X2_tellName at E
  refine V_iload_n 1 dX2_tellName_0 rfl ?_
  refine V_if_ge 7 dX2_tellName_1 (by decide) hr1 (fun c1 => ?_) (fun c1 => ?_)
  · replace E := mmI_t c1 E
    refine V_aload_n 0 dX2_tellName_7 rfl ?_
    refine V_iload_n 1 dX2_tellName_8 rfl ?_
    obtain ⟨q2, hq2, E⟩ := mmB_e E
    refine V_callV (ci := 2) (q := (RX2, TX2, 10)) (Cn := RX2) (st := []) 1 dX2_tellName_9 (ct_X2_isRank hs0 hr1 hq2) ml_X2_63 im_X2_isRank sl_X2_isRank it_X2 cd_X2_isRank hy_X2_isRank ⟨rfl, rfl, by decide, by decide⟩ hs0 rfl rfl rfl rfl (Nat.le_of_ble_eq_true rfl) (fun hv3 => ?_)
    refine V_if_eq 24 dX2_tellName_12 (by decide) hv3 (fun c4 => ?_) (fun c4 => ?_)
    · replace E := mmI_t c4 E
      refine V_bipush (v := (-5)) dX2_tellName_24 (by decide) ?_
      obtain rfl := Option.some.inj E
      exact V_reti dX2_tellName_26 ⟨rfl, rfl, ir_m5⟩
    · replace E := mmI_f c4 E
      refine V_aload_n 0 dX2_tellName_15 rfl ?_
      refine V_geta (ci := 2) (k := 0) (N := 10) (T := TX2) (o' := (l0 + 1)) dX2_tellName_16 iuX2 fl_X2_9 rfl (by decide) rfl hs0 rfl ?_
      refine V_iload_n 1 dX2_tellName_19 rfl ?_
      obtain ⟨hv5, E⟩ := mmK_e E
      refine V_iald (n := 24) (j := (l1).toNat) (v := (q2.2.1 (l0 + 1) (l1).toNat)) dX2_tellName_20 (mmS1 hs0) hr1 hv5 rfl (by first | rfl | simp [mwr]) (fun hv6 => ?_)
      refine V_goto 26 dX2_tellName_21 (by decide) ?_
      obtain rfl := Option.some.inj E
      exact V_reti dX2_tellName_26 ⟨rfl, rfl, hv6⟩
  · replace E := mmI_f c1 E
    refine V_bipush (v := (-2)) dX2_tellName_4 (by decide) ?_
    obtain rfl := Option.some.inj E
    exact V_reti dX2_tellName_6 ⟨rfl, rfl, ir_m2⟩
theorem ct_X2_tellName {l0 : Nat} {l1 : Int} {m : Mem} {r : Int × Mem} (hs0 : mmSh[l0]? = some (.inl 2)) (hr1 : inR l1) (E : f_X2_tellName l0 l1 m = some r) : CTi yX2_tellName cX2_tellName 2 (some .int) rm_X2_tellName [.ref l0, vi l1] m r := CT_i (by decide +kernel) rfl (Nat.le_of_ble_eq_true rfl) (ok_X2_tellName _ _ _ hs0 hr1 E)
theorem hy_X2_tellName : yX2_tellName.cls = RX2 ∧ yX2_tellName.cls ≠ "java/lang/invoke/MethodHandle" ∧ yX2_tellName.cls ≠ "java/lang/invoke/VarHandle" ∧ (parseMethodDescriptor yX2_tellName.desc).map (fun d => d.parameters.length) = some 1 := by decide +kernel
abbrev rm_X2_tellUnit : Room := { frames := 0, cells := 0, slots := 0, locals := 0 }
noncomputable def f_X2_tellUnit_L25 : Nat → Nat → Int → Int → Mem → Option (Int × Mem)
  | 0, _, _, _, _ => none
  | n + 1, l0, l1, l2, m =>
    if (m.1 l0 5) ≤ l2 then
(some (1000, m))
else
(mmK (0 ≤ l2 ∧ l2 < 24) (if l1 < (m.1 (l0 + 3) (l2).toNat) then
(mmK (inR (l2 + 1)) (f_X2_tellUnit_L25 n l0 l1 (l2 + 1) m))
else
(mmK (0 ≤ l2 ∧ l2 < 24) (mmK (0 ≤ l2 ∧ l2 < 24) (mmK (inR ((m.1 (l0 + 3) (l2).toNat) + (m.1 (l0 + 4) (l2).toNat))) (if ((m.1 (l0 + 3) (l2).toNat) + (m.1 (l0 + 4) (l2).toNat)) ≤ l1 then
(mmK (inR (l2 + 1)) (f_X2_tellUnit_L25 n l0 l1 (l2 + 1) m))
else
(mmK (0 ≤ l2 ∧ l2 < 24) (some ((m.1 (l0 + 1) (l2).toNat), m)))))))))
set_option maxRecDepth 100000 in
set_option maxHeartbeats 4000000 in
theorem ok_X2_tellUnit_L25 {r : Int × Mem} : ∀ (n : Nat), ∀ (l0 : Nat) (l1 : Int) (l2 : Int) (m : Mem), mmSh[l0]? = some (.inl 2) → inR l1 → inR l2 → f_X2_tellUnit_L25 n l0 l1 l2 m = some r → VV RX2 cX2_tellUnit 3 rm_X2_tellUnit mmG0 (mmPi r) 25 [(0, .ref l0), (1, vi l1), (2, vi l2)] [] m := by
  intro n
  induction n with
  | zero =>
    intro l0 l1 l2 m hs0 hr1 hr2 E
    cases E
  | succ n ih =>
    intro l0 l1 l2 m hs0 hr1 hr2 E
    rw [f_X2_tellUnit_L25] at E
    refine V_iload_n 2 dX2_tellUnit_25 rfl ?_
    refine V_aload_n 0 dX2_tellUnit_26 rfl ?_
    refine V_geti (ci := 2) (k := 5) (N := 10) (T := TX2) (v := (m.1 l0 5)) dX2_tellUnit_27 iuX2 fl_X2_27 rfl (by decide) rfl hs0 (by first | rfl | simp [mwr]) (fun hv5 => ?_)
    refine V_icmp_ge 73 dX2_tellUnit_30 (by decide) hr2 hv5 (fun c6 => ?_) (fun c6 => ?_)
    · replace E := mmI_t c6 E
      refine V_sipush (v := 1000) dX2_tellUnit_73 (by decide) ?_
      obtain rfl := Option.some.inj E
      exact V_reti dX2_tellUnit_76 ⟨rfl, rfl, ir_1000⟩
    · replace E := mmI_f c6 E
      refine V_iload_n 1 dX2_tellUnit_33 rfl ?_
      refine V_aload_n 0 dX2_tellUnit_34 rfl ?_
      refine V_geta (ci := 2) (k := 2) (N := 10) (T := TX2) (o' := (l0 + 3)) dX2_tellUnit_35 iuX2 fl_X2_18 rfl (by decide) rfl hs0 rfl ?_
      refine V_iload_n 2 dX2_tellUnit_38 rfl ?_
      obtain ⟨hv7, E⟩ := mmK_e E
      refine V_iald (n := 24) (j := (l2).toNat) (v := (m.1 (l0 + 3) (l2).toNat)) dX2_tellUnit_39 (mmS3 hs0) hr2 hv7 rfl (by first | rfl | simp [mwr]) (fun hv8 => ?_)
      refine V_icmp_lt 67 dX2_tellUnit_40 (by decide) hr1 hv8 (fun c9 => ?_) (fun c9 => ?_)
      · replace E := mmI_t c9 E
        obtain ⟨hv10, E⟩ := mmK_e E
        refine V_iinc (v := (l2 + 1)) (lv' := [(0, .ref l0), (1, vi l1), (2, vi (l2 + 1))]) 2 dX2_tellUnit_67 rfl rfl rfl rfl ?_
        refine V_goto 25 dX2_tellUnit_70 (by decide) ?_
        exact ih _ _ _ _ hs0 hr1 hv10 E
      · replace E := mmI_f c9 E
        refine V_iload_n 1 dX2_tellUnit_43 rfl ?_
        refine V_aload_n 0 dX2_tellUnit_44 rfl ?_
        refine V_geta (ci := 2) (k := 2) (N := 10) (T := TX2) (o' := (l0 + 3)) dX2_tellUnit_45 iuX2 fl_X2_18 rfl (by decide) rfl hs0 rfl ?_
        refine V_iload_n 2 dX2_tellUnit_48 rfl ?_
        obtain ⟨hv11, E⟩ := mmK_e E
        refine V_iald (n := 24) (j := (l2).toNat) (v := (m.1 (l0 + 3) (l2).toNat)) dX2_tellUnit_49 (mmS3 hs0) hr2 hv11 rfl (by first | rfl | simp [mwr]) (fun hv12 => ?_)
        refine V_aload_n 0 dX2_tellUnit_50 rfl ?_
        refine V_geta (ci := 2) (k := 3) (N := 10) (T := TX2) (o' := (l0 + 4)) dX2_tellUnit_51 iuX2 fl_X2_21 rfl (by decide) rfl hs0 rfl ?_
        refine V_iload_n 2 dX2_tellUnit_54 rfl ?_
        obtain ⟨hv13, E⟩ := mmK_e E
        refine V_iald (n := 24) (j := (l2).toNat) (v := (m.1 (l0 + 4) (l2).toNat)) dX2_tellUnit_55 (mmS4 hs0) hr2 hv13 rfl (by first | rfl | simp [mwr]) (fun hv14 => ?_)
        obtain ⟨hv15, E⟩ := mmK_e E
        refine V_iadd dX2_tellUnit_56 ?_
        refine V_icmp_ge 67 dX2_tellUnit_57 (by decide) hr1 hv15 (fun c16 => ?_) (fun c16 => ?_)
        · replace E := mmI_t c16 E
          obtain ⟨hv17, E⟩ := mmK_e E
          refine V_iinc (v := (l2 + 1)) (lv' := [(0, .ref l0), (1, vi l1), (2, vi (l2 + 1))]) 2 dX2_tellUnit_67 rfl rfl rfl rfl ?_
          refine V_goto 25 dX2_tellUnit_70 (by decide) ?_
          exact ih _ _ _ _ hs0 hr1 hv17 E
        · replace E := mmI_f c16 E
          refine V_aload_n 0 dX2_tellUnit_60 rfl ?_
          refine V_geta (ci := 2) (k := 0) (N := 10) (T := TX2) (o' := (l0 + 1)) dX2_tellUnit_61 iuX2 fl_X2_9 rfl (by decide) rfl hs0 rfl ?_
          refine V_iload_n 2 dX2_tellUnit_64 rfl ?_
          obtain ⟨hv18, E⟩ := mmK_e E
          refine V_iald (n := 24) (j := (l2).toNat) (v := (m.1 (l0 + 1) (l2).toNat)) dX2_tellUnit_65 (mmS1 hs0) hr2 hv18 rfl (by first | rfl | simp [mwr]) (fun hv19 => ?_)
          obtain rfl := Option.some.inj E
          exact V_reti dX2_tellUnit_66 ⟨rfl, rfl, hv19⟩
noncomputable def f_X2_tellUnit (l0 : Nat) (l1 : Int) (m : Mem) : Option (Int × Mem) :=
  if l1 < 0 then
(some ((-1), m))
else
(if l1 < 100 then
(if l1 < (m.1 l0 7) then
(f_X2_tellUnit_L25 mmFU l0 l1 0 m)
else
(some ((-5), m)))
else
(some ((-1), m)))
set_option maxRecDepth 100000 in
set_option maxHeartbeats 4000000 in
theorem ok_X2_tellUnit {r : Int × Mem} : ∀ (l0 : Nat) (l1 : Int) (m : Mem), mmSh[l0]? = some (.inl 2) → inR l1 → f_X2_tellUnit l0 l1 m = some r → VV RX2 cX2_tellUnit 3 rm_X2_tellUnit mmG0 (mmPi r) 0 [(0, .ref l0), (1, vi l1)] [] m := by
  intro l0 l1 m hs0 hr1 E
  unfold f_X2_tellUnit at E
  refine V_iload_n 1 dX2_tellUnit_0 rfl ?_
  refine V_if_lt 10 dX2_tellUnit_1 (by decide) hr1 (fun c1 => ?_) (fun c1 => ?_)
  · replace E := mmI_t c1 E
    refine V_iconst dX2_tellUnit_10 rfl ?_
    obtain rfl := Option.some.inj E
    exact V_reti dX2_tellUnit_11 ⟨rfl, rfl, ir_m1⟩
  · replace E := mmI_f c1 E
    refine V_iload_n 1 dX2_tellUnit_4 rfl ?_
    refine V_bipush (v := 100) dX2_tellUnit_5 (by decide) ?_
    refine V_icmp_lt 12 dX2_tellUnit_7 (by decide) hr1 ir_100 (fun c2 => ?_) (fun c2 => ?_)
    · replace E := mmI_t c2 E
      refine V_iload_n 1 dX2_tellUnit_12 rfl ?_
      refine V_aload_n 0 dX2_tellUnit_13 rfl ?_
      refine V_geti (ci := 2) (k := 7) (N := 10) (T := TX2) (v := (m.1 l0 7)) dX2_tellUnit_14 iuX2 fl_X2_34 rfl (by decide) rfl hs0 (by first | rfl | simp [mwr]) (fun hv3 => ?_)
      refine V_icmp_lt 23 dX2_tellUnit_17 (by decide) hr1 hv3 (fun c4 => ?_) (fun c4 => ?_)
      · replace E := mmI_t c4 E
        refine V_iconst dX2_tellUnit_23 rfl ?_
        refine V_istore_n (i := 2) (lv' := [(0, .ref l0), (1, vi l1), (2, vi 0)]) dX2_tellUnit_24 rfl rfl rfl ?_
        exact ok_X2_tellUnit_L25 mmFU _ _ _ _ hs0 hr1 ir_0 E
      · replace E := mmI_f c4 E
        refine V_bipush (v := (-5)) dX2_tellUnit_20 (by decide) ?_
        obtain rfl := Option.some.inj E
        exact V_reti dX2_tellUnit_22 ⟨rfl, rfl, ir_m5⟩
    · replace E := mmI_f c2 E
      refine V_iconst dX2_tellUnit_10 rfl ?_
      obtain rfl := Option.some.inj E
      exact V_reti dX2_tellUnit_11 ⟨rfl, rfl, ir_m1⟩
theorem ct_X2_tellUnit {l0 : Nat} {l1 : Int} {m : Mem} {r : Int × Mem} (hs0 : mmSh[l0]? = some (.inl 2)) (hr1 : inR l1) (E : f_X2_tellUnit l0 l1 m = some r) : CTi yX2_tellUnit cX2_tellUnit 3 (some .int) rm_X2_tellUnit [.ref l0, vi l1] m r := CT_i (by decide +kernel) rfl (Nat.le_of_ble_eq_true rfl) (ok_X2_tellUnit _ _ _ hs0 hr1 E)
theorem hy_X2_tellUnit : yX2_tellUnit.cls = RX2 ∧ yX2_tellUnit.cls ≠ "java/lang/invoke/MethodHandle" ∧ yX2_tellUnit.cls ≠ "java/lang/invoke/VarHandle" ∧ (parseMethodDescriptor yX2_tellUnit.desc).map (fun d => d.parameters.length) = some 1 := by decide +kernel
