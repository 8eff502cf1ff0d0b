abbrev rm_X0_size : Room := { frames := 0, cells := 0, slots := 0, locals := 0 }
noncomputable def f_X0_size (m : Mem) : Option (Int × Mem) :=
  some ((m.1 19 1), m)
set_option maxRecDepth 100000 in
set_option maxHeartbeats 4000000 in
theorem ok_X0_size {r : Int × Mem} : ∀ (m : Mem), f_X0_size m = some r → VV RX0 cX0_size 1 rm_X0_size mmG0 (mmPi r) 0 [(0, .ref 19)] [] m := by
  intro m E
  unfold f_X0_size at E
  refine V_aload_n 0 dX0_size_0 rfl ?_
  refine V_geti (ci := 0) (k := 1) (N := 2) (T := TX0) (v := (m.1 19 1)) dX0_size_1 iuX0 fl_X0_17 rfl (by decide) rfl sh_19 rfl (fun hv1 => ?_)
  obtain rfl := Option.some.inj E
  exact V_reti dX0_size_4 ⟨rfl, rfl, hv1⟩
theorem ct_X0_size {m : Mem} {r : Int × Mem} (E : f_X0_size m = some r) : CTi yX0_size cX0_size 1 (some .int) rm_X0_size [.ref 19] m r := CT_i (by decide +kernel) rfl (Nat.le_of_ble_eq_true rfl) (ok_X0_size  _  E)
theorem hy_X0_size : yX0_size.cls = RX0 ∧ yX0_size.cls ≠ "java/lang/invoke/MethodHandle" ∧ yX0_size.cls ≠ "java/lang/invoke/VarHandle" ∧ (parseMethodDescriptor yX0_size.desc).map (fun d => d.parameters.length) = some 0 := by decide +kernel
abbrev rm_X0_dropOldest : Room := { frames := 0, cells := 0, slots := 0, locals := 0 }
noncomputable def f_X0_dropOldest_L9 : Nat → Nat → Int → Mem → Option (Mem)
  | 0, _, _, _ => none
  | n + 1, l1, l2, m =>
    if 4 ≤ l2 then
(some (mwr (mwq m 3 l1) 19 1 3))
else
(mmK (inR (l2 - 1)) (mmK (0 ≤ l2 ∧ l2 < 4) ((m.2 (l2).toNat).bind (fun q7 => mmK (mmSh[q7]? = some (.inl 2)) (mmK (0 ≤ (l2 - 1) ∧ (l2 - 1) < 4) (mmK (inR (l2 + 1)) (f_X0_dropOldest_L9 n l1 (l2 + 1) (mwq m ((l2 - 1)).toNat q7))))))))
set_option maxRecDepth 100000 in
set_option maxHeartbeats 4000000 in
theorem ok_X0_dropOldest_L9 {r : Mem} : ∀ (n : Nat), ∀ (l1 : Nat) (l2 : Int) (m : Mem), mmSh[l1]? = some (.inl 2) → inR l2 → f_X0_dropOldest_L9 n l1 l2 m = some r → VV RX0 cX0_dropOldest 3 rm_X0_dropOldest mmG0 (mmPv r) 9 [(0, .ref 19), (1, .ref l1), (2, vi l2)] [] m := by
  intro n
  induction n with
  | zero =>
    intro l1 l2 m hs1 hr2 E
    cases E
  | succ n ih =>
    intro l1 l2 m hs1 hr2 E
    rw [f_X0_dropOldest_L9] at E
    refine V_iload_n 2 dX0_dropOldest_9 rfl ?_
    refine V_iconst dX0_dropOldest_10 rfl ?_
    refine V_icmp_ge 34 dX0_dropOldest_11 (by decide) hr2 ir_4 (fun c3 => ?_) (fun c3 => ?_)
    · replace E := mmI_t c3 E
      refine V_aload_n 0 dX0_dropOldest_34 rfl ?_
      refine V_geta (ci := 0) (k := 0) (N := 2) (T := TX0) (o' := 20) dX0_dropOldest_35 iuX0 fl_X0_11 rfl (by decide) rfl sh_19 rfl ?_
      refine V_iconst dX0_dropOldest_38 rfl ?_
      refine V_aload_n 1 dX0_dropOldest_39 rfl ?_
      refine V_aast (j := 3) dX0_dropOldest_40 ir_3 (by decide) hs1 rfl ?_
      refine V_aload_n 0 dX0_dropOldest_41 rfl ?_
      refine V_iconst dX0_dropOldest_42 rfl ?_
      refine V_put (ci := 0) (k := 1) (N := 2) (T := TX0) (x := 3) (ty := .int) tyX0 dX0_dropOldest_43 iuX0 tyX0_ok nmX0 fl_X0_17 rfl (by decide) rfl sh_19 rfl (by decide +kernel) rfl rfl ir_3 ?_
      obtain rfl := Option.some.inj E
      exact V_retv dX0_dropOldest_46 ⟨rfl, rfl⟩
    · replace E := mmI_f c3 E
      refine V_aload_n 0 dX0_dropOldest_14 rfl ?_
      refine V_geta (ci := 0) (k := 0) (N := 2) (T := TX0) (o' := 20) dX0_dropOldest_15 iuX0 fl_X0_11 rfl (by decide) rfl sh_19 rfl ?_
      refine V_iload_n 2 dX0_dropOldest_18 rfl ?_
      refine V_iconst dX0_dropOldest_19 rfl ?_
      obtain ⟨hv5, E⟩ := mmK_e E
      refine V_isub dX0_dropOldest_20 ?_
      refine V_aload_n 0 dX0_dropOldest_21 rfl ?_
      refine V_geta (ci := 0) (k := 0) (N := 2) (T := TX0) (o' := 20) dX0_dropOldest_22 iuX0 fl_X0_11 rfl (by decide) rfl sh_19 rfl ?_
      refine V_iload_n 2 dX0_dropOldest_25 rfl ?_
      obtain ⟨hv6, E⟩ := mmK_e E
      obtain ⟨q7, hq7, E⟩ := mmB_e E
      obtain ⟨hsq7, E⟩ := mmK_e E
      refine V_aald (n := 4) (j := (l2).toNat) dX0_dropOldest_26 sh_20 hr2 hv6 rfl hq7 ?_
      obtain ⟨hv8, E⟩ := mmK_e E
      refine V_aast (j := ((l2 - 1)).toNat) dX0_dropOldest_27 hv5 hv8 hsq7 rfl ?_
      obtain ⟨hv9, E⟩ := mmK_e E
      refine V_iinc (v := (l2 + 1)) (lv' := [(0, .ref 19), (1, .ref l1), (2, vi (l2 + 1))]) 2 dX0_dropOldest_28 rfl rfl rfl rfl ?_
      refine V_goto 9 dX0_dropOldest_31 (by decide) ?_
      exact ih _ _ _ hs1 hv9 E
noncomputable def f_X0_dropOldest (m : Mem) : Option (Mem) :=
  (m.2 0).bind (fun q2 => mmK (mmSh[q2]? = some (.inl 2)) (f_X0_dropOldest_L9 mmFU q2 1 m))
set_option maxRecDepth 100000 in
set_option maxHeartbeats 4000000 in
theorem ok_X0_dropOldest {r : Mem} : ∀ (m : Mem), f_X0_dropOldest m = some r → VV RX0 cX0_dropOldest 3 rm_X0_dropOldest mmG0 (mmPv r) 0 [(0, .ref 19)] [] m := by
  intro m E
  unfold f_X0_dropOldest at E
  refine V_aload_n 0 dX0_dropOldest_0 rfl ?_
  refine V_geta (ci := 0) (k := 0) (N := 2) (T := TX0) (o' := 20) dX0_dropOldest_1 iuX0 fl_X0_11 rfl (by decide) rfl sh_19 rfl ?_
  refine V_iconst dX0_dropOldest_4 rfl ?_
  obtain ⟨q2, hq2, E⟩ := mmB_e E
  obtain ⟨hsq2, E⟩ := mmK_e E
  refine V_aald (n := 4) (j := 0) dX0_dropOldest_5 sh_20 ir_0 (by decide) rfl hq2 ?_
  refine V_astore_n (i := 1) (lv' := [(0, .ref 19), (1, .ref q2)]) dX0_dropOldest_6 rfl rfl rfl ?_
  refine V_iconst dX0_dropOldest_7 rfl ?_
  refine V_istore_n (i := 2) (lv' := [(0, .ref 19), (1, .ref q2), (2, vi 1)]) dX0_dropOldest_8 rfl rfl rfl ?_
  exact ok_X0_dropOldest_L9 mmFU _ _ _ hsq2 ir_1 E
theorem ct_X0_dropOldest {m : Mem} {r : Mem} (E : f_X0_dropOldest m = some r) : CTv yX0_dropOldest cX0_dropOldest 3 rm_X0_dropOldest [.ref 19] m r := CT_v (by decide +kernel) rfl (Nat.le_of_ble_eq_true rfl) (ok_X0_dropOldest  _  E)
theorem hy_X0_dropOldest : yX0_dropOldest.cls = RX0 ∧ yX0_dropOldest.cls ≠ "java/lang/invoke/MethodHandle" ∧ yX0_dropOldest.cls ≠ "java/lang/invoke/VarHandle" ∧ (parseMethodDescriptor yX0_dropOldest.desc).map (fun d => d.parameters.length) = some 0 := by decide +kernel
abbrev rm_X2_copyFrom : Room := { frames := 1, cells := 0, slots := 0, locals := 26 }
noncomputable def f_X2_copyFrom (l0 : Nat) (l1 : Nat) (m : Mem) : Option (Mem) :=
  some (mwr (mwr (mwr (mwr (mwr (mcp (mcp (mcp (mcp (mcp m (l1 + 1) 0 (l0 + 1) 0 24) (l1 + 2) 0 (l0 + 2) 0 24) (l1 + 3) 0 (l0 + 3) 0 24) (l1 + 4) 0 (l0 + 4) 0 24) (l1 + 5) 0 (l0 + 5) 0 24) l0 5 ((mcp (mcp (mcp (mcp (mcp m (l1 + 1) 0 (l0 + 1) 0 24) (l1 + 2) 0 (l0 + 2) 0 24) (l1 + 3) 0 (l0 + 3) 0 24) (l1 + 4) 0 (l0 + 4) 0 24) (l1 + 5) 0 (l0 + 5) 0 24).1 l1 5)) l0 6 ((mwr (mcp (mcp (mcp (mcp (mcp m (l1 + 1) 0 (l0 + 1) 0 24) (l1 + 2) 0 (l0 + 2) 0 24) (l1 + 3) 0 (l0 + 3) 0 24) (l1 + 4) 0 (l0 + 4) 0 24) (l1 + 5) 0 (l0 + 5) 0 24) l0 5 ((mcp (mcp (mcp (mcp (mcp m (l1 + 1) 0 (l0 + 1) 0 24) (l1 + 2) 0 (l0 + 2) 0 24) (l1 + 3) 0 (l0 + 3) 0 24) (l1 + 4) 0 (l0 + 4) 0 24) (l1 + 5) 0 (l0 + 5) 0 24).1 l1 5)).1 l1 6)) l0 7 ((mwr (mwr (mcp (mcp (mcp (mcp (mcp m (l1 + 1) 0 (l0 + 1) 0 24) (l1 + 2) 0 (l0 + 2) 0 24) (l1 + 3) 0 (l0 + 3) 0 24) (l1 + 4) 0 (l0 + 4) 0 24) (l1 + 5) 0 (l0 + 5) 0 24) l0 5 ((mcp (mcp (mcp (mcp (mcp m (l1 + 1) 0 (l0 + 1) 0 24) (l1 + 2) 0 (l0 + 2) 0 24) (l1 + 3) 0 (l0 + 3) 0 24) (l1 + 4) 0 (l0 + 4) 0 24) (l1 + 5) 0 (l0 + 5) 0 24).1 l1 5)) l0 6 ((mwr (mcp (mcp (mcp (mcp (mcp m (l1 + 1) 0 (l0 + 1) 0 24) (l1 + 2) 0 (l0 + 2) 0 24) (l1 + 3) 0 (l0 + 3) 0 24) (l1 + 4) 0 (l0 + 4) 0 24) (l1 + 5) 0 (l0 + 5) 0 24) l0 5 ((mcp (mcp (mcp (mcp (mcp m (l1 + 1) 0 (l0 + 1) 0 24) (l1 + 2) 0 (l0 + 2) 0 24) (l1 + 3) 0 (l0 + 3) 0 24) (l1 + 4) 0 (l0 + 4) 0 24) (l1 + 5) 0 (l0 + 5) 0 24).1 l1 5)).1 l1 6)).1 l1 7)) l0 8 ((mwr (mwr (mwr (mcp (mcp (mcp (mcp (mcp m (l1 + 1) 0 (l0 + 1) 0 24) (l1 + 2) 0 (l0 + 2) 0 24) (l1 + 3) 0 (l0 + 3) 0 24) (l1 + 4) 0 (l0 + 4) 0 24) (l1 + 5) 0 (l0 + 5) 0 24) l0 5 ((mcp (mcp (mcp (mcp (mcp m (l1 + 1) 0 (l0 + 1) 0 24) (l1 + 2) 0 (l0 + 2) 0 24) (l1 + 3) 0 (l0 + 3) 0 24) (l1 + 4) 0 (l0 + 4) 0 24) (l1 + 5) 0 (l0 + 5) 0 24).1 l1 5)) l0 6 ((mwr (mcp (mcp (mcp (mcp (mcp m (l1 + 1) 0 (l0 + 1) 0 24) (l1 + 2) 0 (l0 + 2) 0 24) (l1 + 3) 0 (l0 + 3) 0 24) (l1 + 4) 0 (l0 + 4) 0 24) (l1 + 5) 0 (l0 + 5) 0 24) l0 5 ((mcp (mcp (mcp (mcp (mcp m (l1 + 1) 0 (l0 + 1) 0 24) (l1 + 2) 0 (l0 + 2) 0 24) (l1 + 3) 0 (l0 + 3) 0 24) (l1 + 4) 0 (l0 + 4) 0 24) (l1 + 5) 0 (l0 + 5) 0 24).1 l1 5)).1 l1 6)) l0 7 ((mwr (mwr (mcp (mcp (mcp (mcp (mcp m (l1 + 1) 0 (l0 + 1) 0 24) (l1 + 2) 0 (l0 + 2) 0 24) (l1 + 3) 0 (l0 + 3) 0 24) (l1 + 4) 0 (l0 + 4) 0 24) (l1 + 5) 0 (l0 + 5) 0 24) l0 5 ((mcp (mcp (mcp (mcp (mcp m (l1 + 1) 0 (l0 + 1) 0 24) (l1 + 2) 0 (l0 + 2) 0 24) (l1 + 3) 0 (l0 + 3) 0 24) (l1 + 4) 0 (l0 + 4) 0 24) (l1 + 5) 0 (l0 + 5) 0 24).1 l1 5)) l0 6 ((mwr (mcp (mcp (mcp (mcp (mcp m (l1 + 1) 0 (l0 + 1) 0 24) (l1 + 2) 0 (l0 + 2) 0 24) (l1 + 3) 0 (l0 + 3) 0 24) (l1 + 4) 0 (l0 + 4) 0 24) (l1 + 5) 0 (l0 + 5) 0 24) l0 5 ((mcp (mcp (mcp (mcp (mcp m (l1 + 1) 0 (l0 + 1) 0 24) (l1 + 2) 0 (l0 + 2) 0 24) (l1 + 3) 0 (l0 + 3) 0 24) (l1 + 4) 0 (l0 + 4) 0 24) (l1 + 5) 0 (l0 + 5) 0 24).1 l1 5)).1 l1 6)).1 l1 7)).1 l1 8)) l0 9 ((mwr (mwr (mwr (mwr (mcp (mcp (mcp (mcp (mcp m (l1 + 1) 0 (l0 + 1) 0 24) (l1 + 2) 0 (l0 + 2) 0 24) (l1 + 3) 0 (l0 + 3) 0 24) (l1 + 4) 0 (l0 + 4) 0 24) (l1 + 5) 0 (l0 + 5) 0 24) l0 5 ((mcp (mcp (mcp (mcp (mcp m (l1 + 1) 0 (l0 + 1) 0 24) (l1 + 2) 0 (l0 + 2) 0 24) (l1 + 3) 0 (l0 + 3) 0 24) (l1 + 4) 0 (l0 + 4) 0 24) (l1 + 5) 0 (l0 + 5) 0 24).1 l1 5)) l0 6 ((mwr (mcp (mcp (mcp (mcp (mcp m (l1 + 1) 0 (l0 + 1) 0 24) (l1 + 2) 0 (l0 + 2) 0 24) (l1 + 3) 0 (l0 + 3) 0 24) (l1 + 4) 0 (l0 + 4) 0 24) (l1 + 5) 0 (l0 + 5) 0 24) l0 5 ((mcp (mcp (mcp (mcp (mcp m (l1 + 1) 0 (l0 + 1) 0 24) (l1 + 2) 0 (l0 + 2) 0 24) (l1 + 3) 0 (l0 + 3) 0 24) (l1 + 4) 0 (l0 + 4) 0 24) (l1 + 5) 0 (l0 + 5) 0 24).1 l1 5)).1 l1 6)) l0 7 ((mwr (mwr (mcp (mcp (mcp (mcp (mcp m (l1 + 1) 0 (l0 + 1) 0 24) (l1 + 2) 0 (l0 + 2) 0 24) (l1 + 3) 0 (l0 + 3) 0 24) (l1 + 4) 0 (l0 + 4) 0 24) (l1 + 5) 0 (l0 + 5) 0 24) l0 5 ((mcp (mcp (mcp (mcp (mcp m (l1 + 1) 0 (l0 + 1) 0 24) (l1 + 2) 0 (l0 + 2) 0 24) (l1 + 3) 0 (l0 + 3) 0 24) (l1 + 4) 0 (l0 + 4) 0 24) (l1 + 5) 0 (l0 + 5) 0 24).1 l1 5)) l0 6 ((mwr (mcp (mcp (mcp (mcp (mcp m (l1 + 1) 0 (l0 + 1) 0 24) (l1 + 2) 0 (l0 + 2) 0 24) (l1 + 3) 0 (l0 + 3) 0 24) (l1 + 4) 0 (l0 + 4) 0 24) (l1 + 5) 0 (l0 + 5) 0 24) l0 5 ((mcp (mcp (mcp (mcp (mcp m (l1 + 1) 0 (l0 + 1) 0 24) (l1 + 2) 0 (l0 + 2) 0 24) (l1 + 3) 0 (l0 + 3) 0 24) (l1 + 4) 0 (l0 + 4) 0 24) (l1 + 5) 0 (l0 + 5) 0 24).1 l1 5)).1 l1 6)).1 l1 7)) l0 8 ((mwr (mwr (mwr (mcp (mcp (mcp (mcp (mcp m (l1 + 1) 0 (l0 + 1) 0 24) (l1 + 2) 0 (l0 + 2) 0 24) (l1 + 3) 0 (l0 + 3) 0 24) (l1 + 4) 0 (l0 + 4) 0 24) (l1 + 5) 0 (l0 + 5) 0 24) l0 5 ((mcp (mcp (mcp (mcp (mcp m (l1 + 1) 0 (l0 + 1) 0 24) (l1 + 2) 0 (l0 + 2) 0 24) (l1 + 3) 0 (l0 + 3) 0 24) (l1 + 4) 0 (l0 + 4) 0 24) (l1 + 5) 0 (l0 + 5) 0 24).1 l1 5)) l0 6 ((mwr (mcp (mcp (mcp (mcp (mcp m (l1 + 1) 0 (l0 + 1) 0 24) (l1 + 2) 0 (l0 + 2) 0 24) (l1 + 3) 0 (l0 + 3) 0 24) (l1 + 4) 0 (l0 + 4) 0 24) (l1 + 5) 0 (l0 + 5) 0 24) l0 5 ((mcp (mcp (mcp (mcp (mcp m (l1 + 1) 0 (l0 + 1) 0 24) (l1 + 2) 0 (l0 + 2) 0 24) (l1 + 3) 0 (l0 + 3) 0 24) (l1 + 4) 0 (l0 + 4) 0 24) (l1 + 5) 0 (l0 + 5) 0 24).1 l1 5)).1 l1 6)) l0 7 ((mwr (mwr (mcp (mcp (mcp (mcp (mcp m (l1 + 1) 0 (l0 + 1) 0 24) (l1 + 2) 0 (l0 + 2) 0 24) (l1 + 3) 0 (l0 + 3) 0 24) (l1 + 4) 0 (l0 + 4) 0 24) (l1 + 5) 0 (l0 + 5) 0 24) l0 5 ((mcp (mcp (mcp (mcp (mcp m (l1 + 1) 0 (l0 + 1) 0 24) (l1 + 2) 0 (l0 + 2) 0 24) (l1 + 3) 0 (l0 + 3) 0 24) (l1 + 4) 0 (l0 + 4) 0 24) (l1 + 5) 0 (l0 + 5) 0 24).1 l1 5)) l0 6 ((mwr (mcp (mcp (mcp (mcp (mcp m (l1 + 1) 0 (l0 + 1) 0 24) (l1 + 2) 0 (l0 + 2) 0 24) (l1 + 3) 0 (l0 + 3) 0 24) (l1 + 4) 0 (l0 + 4) 0 24) (l1 + 5) 0 (l0 + 5) 0 24) l0 5 ((mcp (mcp (mcp (mcp (mcp m (l1 + 1) 0 (l0 + 1) 0 24) (l1 + 2) 0 (l0 + 2) 0 24) (l1 + 3) 0 (l0 + 3) 0 24) (l1 + 4) 0 (l0 + 4) 0 24) (l1 + 5) 0 (l0 + 5) 0 24).1 l1 5)).1 l1 6)).1 l1 7)).1 l1 8)).1 l1 9))
set_option maxRecDepth 100000 in
set_option maxHeartbeats 4000000 in
theorem ok_X2_copyFrom {r : Mem} : ∀ (l0 : Nat) (l1 : Nat) (m : Mem), mmSh[l0]? = some (.inl 2) → mmSh[l1]? = some (.inl 2) → f_X2_copyFrom l0 l1 m = some r → VV RX2 cX2_copyFrom 2 rm_X2_copyFrom mmG0 (mmPv r) 0 [(0, .ref l0), (1, .ref l1)] [] m := by
  intro l0 l1 m hs0 hs1 E
  unfold f_X2_copyFrom at E
  refine V_aload_n 1 dX2_copyFrom_0 rfl ?_
  refine V_geta (ci := 2) (k := 0) (N := 10) (T := TX2) (o' := (l1 + 1)) dX2_copyFrom_1 iuX2 fl_X2_9 rfl (by decide) rfl hs1 rfl ?_
  refine V_iconst dX2_copyFrom_4 rfl ?_
  refine V_aload_n 0 dX2_copyFrom_5 rfl ?_
  refine V_geta (ci := 2) (k := 0) (N := 10) (T := TX2) (o' := (l0 + 1)) dX2_copyFrom_6 iuX2 fl_X2_9 rfl (by decide) rfl hs0 rfl ?_
  refine V_iconst dX2_copyFrom_9 rfl ?_
  refine V_bipush (v := 24) dX2_copyFrom_10 (by decide) ?_
  refine V_copy (n0 := 24) (n1 := 24) (js := 0) (jd := 0) (jn := 24) dX2_copyFrom_12 ml_X2_43 na_copy st_copy it_System (mmS1 hs1) (mmS1 hs0) ir_0 ir_0 ir_24 (by decide) ⟨by decide, by decide⟩ (Nat.le_of_ble_eq_true rfl) rfl rfl rfl ?_
  refine V_aload_n 1 dX2_copyFrom_15 rfl ?_
  refine V_geta (ci := 2) (k := 1) (N := 10) (T := TX2) (o' := (l1 + 2)) dX2_copyFrom_16 iuX2 fl_X2_15 rfl (by decide) rfl hs1 rfl ?_
  refine V_iconst dX2_copyFrom_19 rfl ?_
  refine V_aload_n 0 dX2_copyFrom_20 rfl ?_
  refine V_geta (ci := 2) (k := 1) (N := 10) (T := TX2) (o' := (l0 + 2)) dX2_copyFrom_21 iuX2 fl_X2_15 rfl (by decide) rfl hs0 rfl ?_
  refine V_iconst dX2_copyFrom_24 rfl ?_
  refine V_bipush (v := 24) dX2_copyFrom_25 (by decide) ?_
  refine V_copy (n0 := 24) (n1 := 24) (js := 0) (jd := 0) (jn := 24) dX2_copyFrom_27 ml_X2_43 na_copy st_copy it_System (mmS2 hs1) (mmS2 hs0) ir_0 ir_0 ir_24 (by decide) ⟨by decide, by decide⟩ (Nat.le_of_ble_eq_true rfl) rfl rfl rfl ?_
  refine V_aload_n 1 dX2_copyFrom_30 rfl ?_
  refine V_geta (ci := 2) (k := 2) (N := 10) (T := TX2) (o' := (l1 + 3)) dX2_copyFrom_31 iuX2 fl_X2_18 rfl (by decide) rfl hs1 rfl ?_
  refine V_iconst dX2_copyFrom_34 rfl ?_
  refine V_aload_n 0 dX2_copyFrom_35 rfl ?_
  refine V_geta (ci := 2) (k := 2) (N := 10) (T := TX2) (o' := (l0 + 3)) dX2_copyFrom_36 iuX2 fl_X2_18 rfl (by decide) rfl hs0 rfl ?_
  refine V_iconst dX2_copyFrom_39 rfl ?_
  refine V_bipush (v := 24) dX2_copyFrom_40 (by decide) ?_
  refine V_copy (n0 := 24) (n1 := 24) (js := 0) (jd := 0) (jn := 24) dX2_copyFrom_42 ml_X2_43 na_copy st_copy it_System (mmS3 hs1) (mmS3 hs0) ir_0 ir_0 ir_24 (by decide) ⟨by decide, by decide⟩ (Nat.le_of_ble_eq_true rfl) rfl rfl rfl ?_
  refine V_aload_n 1 dX2_copyFrom_45 rfl ?_
  refine V_geta (ci := 2) (k := 3) (N := 10) (T := TX2) (o' := (l1 + 4)) dX2_copyFrom_46 iuX2 fl_X2_21 rfl (by decide) rfl hs1 rfl ?_
  refine V_iconst dX2_copyFrom_49 rfl ?_
  refine V_aload_n 0 dX2_copyFrom_50 rfl ?_
  refine V_geta (ci := 2) (k := 3) (N := 10) (T := TX2) (o' := (l0 + 4)) dX2_copyFrom_51 iuX2 fl_X2_21 rfl (by decide) rfl hs0 rfl ?_
  refine V_iconst dX2_copyFrom_54 rfl ?_
  refine V_bipush (v := 24) dX2_copyFrom_55 (by decide) ?_
  refine V_copy (n0 := 24) (n1 := 24) (js := 0) (jd := 0) (jn := 24) dX2_copyFrom_57 ml_X2_43 na_copy st_copy it_System (mmS4 hs1) (mmS4 hs0) ir_0 ir_0 ir_24 (by decide) ⟨by decide, by decide⟩ (Nat.le_of_ble_eq_true rfl) rfl rfl rfl ?_
  refine V_aload_n 1 dX2_copyFrom_60 rfl ?_
  refine V_geta (ci := 2) (k := 4) (N := 10) (T := TX2) (o' := (l1 + 5)) dX2_copyFrom_61 iuX2 fl_X2_24 rfl (by decide) rfl hs1 rfl ?_
  refine V_iconst dX2_copyFrom_64 rfl ?_
  refine V_aload_n 0 dX2_copyFrom_65 rfl ?_
  refine V_geta (ci := 2) (k := 4) (N := 10) (T := TX2) (o' := (l0 + 5)) dX2_copyFrom_66 iuX2 fl_X2_24 rfl (by decide) rfl hs0 rfl ?_
  refine V_iconst dX2_copyFrom_69 rfl ?_
  refine V_bipush (v := 24) dX2_copyFrom_70 (by decide) ?_
  refine V_copy (n0 := 24) (n1 := 24) (js := 0) (jd := 0) (jn := 24) dX2_copyFrom_72 ml_X2_43 na_copy st_copy it_System (mmS5 hs1) (mmS5 hs0) ir_0 ir_0 ir_24 (by decide) ⟨by decide, by decide⟩ (Nat.le_of_ble_eq_true rfl) rfl rfl rfl ?_
  refine V_aload_n 0 dX2_copyFrom_75 rfl ?_
  refine V_aload_n 1 dX2_copyFrom_76 rfl ?_
  refine V_geti (ci := 2) (k := 5) (N := 10) (T := TX2) (v := ((mcp (mcp (mcp (mcp (mcp m (l1 + 1) 0 (l0 + 1) 0 24) (l1 + 2) 0 (l0 + 2) 0 24) (l1 + 3) 0 (l0 + 3) 0 24) (l1 + 4) 0 (l0 + 4) 0 24) (l1 + 5) 0 (l0 + 5) 0 24).1 l1 5)) dX2_copyFrom_77 iuX2 fl_X2_27 rfl (by decide) rfl hs1 (by first | rfl | simp [mwr]) (fun hv6 => ?_)
  refine V_put (ci := 2) (k := 5) (N := 10) (T := TX2) (x := ((mcp (mcp (mcp (mcp (mcp m (l1 + 1) 0 (l0 + 1) 0 24) (l1 + 2) 0 (l0 + 2) 0 24) (l1 + 3) 0 (l0 + 3) 0 24) (l1 + 4) 0 (l0 + 4) 0 24) (l1 + 5) 0 (l0 + 5) 0 24).1 l1 5)) (ty := .int) tyX2 dX2_copyFrom_80 iuX2 tyX2_ok nmX2 fl_X2_27 rfl (by decide) rfl hs0 rfl (by decide +kernel) rfl rfl hv6 ?_
  refine V_aload_n 0 dX2_copyFrom_83 rfl ?_
  refine V_aload_n 1 dX2_copyFrom_84 rfl ?_
  refine V_geti (ci := 2) (k := 6) (N := 10) (T := TX2) (v := ((mwr (mcp (mcp (mcp (mcp (mcp m (l1 + 1) 0 (l0 + 1) 0 24) (l1 + 2) 0 (l0 + 2) 0 24) (l1 + 3) 0 (l0 + 3) 0 24) (l1 + 4) 0 (l0 + 4) 0 24) (l1 + 5) 0 (l0 + 5) 0 24) l0 5 ((mcp (mcp (mcp (mcp (mcp m (l1 + 1) 0 (l0 + 1) 0 24) (l1 + 2) 0 (l0 + 2) 0 24) (l1 + 3) 0 (l0 + 3) 0 24) (l1 + 4) 0 (l0 + 4) 0 24) (l1 + 5) 0 (l0 + 5) 0 24).1 l1 5)).1 l1 6)) dX2_copyFrom_85 iuX2 fl_X2_31 rfl (by decide) rfl hs1 (by first | rfl | simp [mwr]) (fun hv7 => ?_)
  refine V_put (ci := 2) (k := 6) (N := 10) (T := TX2) (x := ((mwr (mcp (mcp (mcp (mcp (mcp m (l1 + 1) 0 (l0 + 1) 0 24) (l1 + 2) 0 (l0 + 2) 0 24) (l1 + 3) 0 (l0 + 3) 0 24) (l1 + 4) 0 (l0 + 4) 0 24) (l1 + 5) 0 (l0 + 5) 0 24) l0 5 ((mcp (mcp (mcp (mcp (mcp m (l1 + 1) 0 (l0 + 1) 0 24) (l1 + 2) 0 (l0 + 2) 0 24) (l1 + 3) 0 (l0 + 3) 0 24) (l1 + 4) 0 (l0 + 4) 0 24) (l1 + 5) 0 (l0 + 5) 0 24).1 l1 5)).1 l1 6)) (ty := .int) tyX2 dX2_copyFrom_88 iuX2 tyX2_ok nmX2 fl_X2_31 rfl (by decide) rfl hs0 rfl (by decide +kernel) rfl rfl hv7 ?_
  refine V_aload_n 0 dX2_copyFrom_91 rfl ?_
  refine V_aload_n 1 dX2_copyFrom_92 rfl ?_
  refine V_geti (ci := 2) (k := 7) (N := 10) (T := TX2) (v := ((mwr (mwr (mcp (mcp (mcp (mcp (mcp m (l1 + 1) 0 (l0 + 1) 0 24) (l1 + 2) 0 (l0 + 2) 0 24) (l1 + 3) 0 (l0 + 3) 0 24) (l1 + 4) 0 (l0 + 4) 0 24) (l1 + 5) 0 (l0 + 5) 0 24) l0 5 ((mcp (mcp (mcp (mcp (mcp m (l1 + 1) 0 (l0 + 1) 0 24) (l1 + 2) 0 (l0 + 2) 0 24) (l1 + 3) 0 (l0 + 3) 0 24) (l1 + 4) 0 (l0 + 4) 0 24) (l1 + 5) 0 (l0 + 5) 0 24).1 l1 5)) l0 6 ((mwr (mcp (mcp (mcp (mcp (mcp m (l1 + 1) 0 (l0 + 1) 0 24) (l1 + 2) 0 (l0 + 2) 0 24) (l1 + 3) 0 (l0 + 3) 0 24) (l1 + 4) 0 (l0 + 4) 0 24) (l1 + 5) 0 (l0 + 5) 0 24) l0 5 ((mcp (mcp (mcp (mcp (mcp m (l1 + 1) 0 (l0 + 1) 0 24) (l1 + 2) 0 (l0 + 2) 0 24) (l1 + 3) 0 (l0 + 3) 0 24) (l1 + 4) 0 (l0 + 4) 0 24) (l1 + 5) 0 (l0 + 5) 0 24).1 l1 5)).1 l1 6)).1 l1 7)) dX2_copyFrom_93 iuX2 fl_X2_34 rfl (by decide) rfl hs1 (by first | rfl | simp [mwr]) (fun hv8 => ?_)
  refine V_put (ci := 2) (k := 7) (N := 10) (T := TX2) (x := ((mwr (mwr (mcp (mcp (mcp (mcp (mcp m (l1 + 1) 0 (l0 + 1) 0 24) (l1 + 2) 0 (l0 + 2) 0 24) (l1 + 3) 0 (l0 + 3) 0 24) (l1 + 4) 0 (l0 + 4) 0 24) (l1 + 5) 0 (l0 + 5) 0 24) l0 5 ((mcp (mcp (mcp (mcp (mcp m (l1 + 1) 0 (l0 + 1) 0 24) (l1 + 2) 0 (l0 + 2) 0 24) (l1 + 3) 0 (l0 + 3) 0 24) (l1 + 4) 0 (l0 + 4) 0 24) (l1 + 5) 0 (l0 + 5) 0 24).1 l1 5)) l0 6 ((mwr (mcp (mcp (mcp (mcp (mcp m (l1 + 1) 0 (l0 + 1) 0 24) (l1 + 2) 0 (l0 + 2) 0 24) (l1 + 3) 0 (l0 + 3) 0 24) (l1 + 4) 0 (l0 + 4) 0 24) (l1 + 5) 0 (l0 + 5) 0 24) l0 5 ((mcp (mcp (mcp (mcp (mcp m (l1 + 1) 0 (l0 + 1) 0 24) (l1 + 2) 0 (l0 + 2) 0 24) (l1 + 3) 0 (l0 + 3) 0 24) (l1 + 4) 0 (l0 + 4) 0 24) (l1 + 5) 0 (l0 + 5) 0 24).1 l1 5)).1 l1 6)).1 l1 7)) (ty := .int) tyX2 dX2_copyFrom_96 iuX2 tyX2_ok nmX2 fl_X2_34 rfl (by decide) rfl hs0 rfl (by decide +kernel) rfl rfl hv8 ?_
  refine V_aload_n 0 dX2_copyFrom_99 rfl ?_
  refine V_aload_n 1 dX2_copyFrom_100 rfl ?_
  refine V_geti (ci := 2) (k := 8) (N := 10) (T := TX2) (v := ((mwr (mwr (mwr (mcp (mcp (mcp (mcp (mcp m (l1 + 1) 0 (l0 + 1) 0 24) (l1 + 2) 0 (l0 + 2) 0 24) (l1 + 3) 0 (l0 + 3) 0 24) (l1 + 4) 0 (l0 + 4) 0 24) (l1 + 5) 0 (l0 + 5) 0 24) l0 5 ((mcp (mcp (mcp (mcp (mcp m (l1 + 1) 0 (l0 + 1) 0 24) (l1 + 2) 0 (l0 + 2) 0 24) (l1 + 3) 0 (l0 + 3) 0 24) (l1 + 4) 0 (l0 + 4) 0 24) (l1 + 5) 0 (l0 + 5) 0 24).1 l1 5)) l0 6 ((mwr (mcp (mcp (mcp (mcp (mcp m (l1 + 1) 0 (l0 + 1) 0 24) (l1 + 2) 0 (l0 + 2) 0 24) (l1 + 3) 0 (l0 + 3) 0 24) (l1 + 4) 0 (l0 + 4) 0 24) (l1 + 5) 0 (l0 + 5) 0 24) l0 5 ((mcp (mcp (mcp (mcp (mcp m (l1 + 1) 0 (l0 + 1) 0 24) (l1 + 2) 0 (l0 + 2) 0 24) (l1 + 3) 0 (l0 + 3) 0 24) (l1 + 4) 0 (l0 + 4) 0 24) (l1 + 5) 0 (l0 + 5) 0 24).1 l1 5)).1 l1 6)) l0 7 ((mwr (mwr (mcp (mcp (mcp (mcp (mcp m (l1 + 1) 0 (l0 + 1) 0 24) (l1 + 2) 0 (l0 + 2) 0 24) (l1 + 3) 0 (l0 + 3) 0 24) (l1 + 4) 0 (l0 + 4) 0 24) (l1 + 5) 0 (l0 + 5) 0 24) l0 5 ((mcp (mcp (mcp (mcp (mcp m (l1 + 1) 0 (l0 + 1) 0 24) (l1 + 2) 0 (l0 + 2) 0 24) (l1 + 3) 0 (l0 + 3) 0 24) (l1 + 4) 0 (l0 + 4) 0 24) (l1 + 5) 0 (l0 + 5) 0 24).1 l1 5)) l0 6 ((mwr (mcp (mcp (mcp (mcp (mcp m (l1 + 1) 0 (l0 + 1) 0 24) (l1 + 2) 0 (l0 + 2) 0 24) (l1 + 3) 0 (l0 + 3) 0 24) (l1 + 4) 0 (l0 + 4) 0 24) (l1 + 5) 0 (l0 + 5) 0 24) l0 5 ((mcp (mcp (mcp (mcp (mcp m (l1 + 1) 0 (l0 + 1) 0 24) (l1 + 2) 0 (l0 + 2) 0 24) (l1 + 3) 0 (l0 + 3) 0 24) (l1 + 4) 0 (l0 + 4) 0 24) (l1 + 5) 0 (l0 + 5) 0 24).1 l1 5)).1 l1 6)).1 l1 7)).1 l1 8)) dX2_copyFrom_101 iuX2 fl_X2_37 rfl (by decide) rfl hs1 (by first | rfl | simp [mwr]) (fun hv9 => ?_)
  refine V_put (ci := 2) (k := 8) (N := 10) (T := TX2) (x := ((mwr (mwr (mwr (mcp (mcp (mcp (mcp (mcp m (l1 + 1) 0 (l0 + 1) 0 24) (l1 + 2) 0 (l0 + 2) 0 24) (l1 + 3) 0 (l0 + 3) 0 24) (l1 + 4) 0 (l0 + 4) 0 24) (l1 + 5) 0 (l0 + 5) 0 24) l0 5 ((mcp (mcp (mcp (mcp (mcp m (l1 + 1) 0 (l0 + 1) 0 24) (l1 + 2) 0 (l0 + 2) 0 24) (l1 + 3) 0 (l0 + 3) 0 24) (l1 + 4) 0 (l0 + 4) 0 24) (l1 + 5) 0 (l0 + 5) 0 24).1 l1 5)) l0 6 ((mwr (mcp (mcp (mcp (mcp (mcp m (l1 + 1) 0 (l0 + 1) 0 24) (l1 + 2) 0 (l0 + 2) 0 24) (l1 + 3) 0 (l0 + 3) 0 24) (l1 + 4) 0 (l0 + 4) 0 24) (l1 + 5) 0 (l0 + 5) 0 24) l0 5 ((mcp (mcp (mcp (mcp (mcp m (l1 + 1) 0 (l0 + 1) 0 24) (l1 + 2) 0 (l0 + 2) 0 24) (l1 + 3) 0 (l0 + 3) 0 24) (l1 + 4) 0 (l0 + 4) 0 24) (l1 + 5) 0 (l0 + 5) 0 24).1 l1 5)).1 l1 6)) l0 7 ((mwr (mwr (mcp (mcp (mcp (mcp (mcp m (l1 + 1) 0 (l0 + 1) 0 24) (l1 + 2) 0 (l0 + 2) 0 24) (l1 + 3) 0 (l0 + 3) 0 24) (l1 + 4) 0 (l0 + 4) 0 24) (l1 + 5) 0 (l0 + 5) 0 24) l0 5 ((mcp (mcp (mcp (mcp (mcp m (l1 + 1) 0 (l0 + 1) 0 24) (l1 + 2) 0 (l0 + 2) 0 24) (l1 + 3) 0 (l0 + 3) 0 24) (l1 + 4) 0 (l0 + 4) 0 24) (l1 + 5) 0 (l0 + 5) 0 24).1 l1 5)) l0 6 ((mwr (mcp (mcp (mcp (mcp (mcp m (l1 + 1) 0 (l0 + 1) 0 24) (l1 + 2) 0 (l0 + 2) 0 24) (l1 + 3) 0 (l0 + 3) 0 24) (l1 + 4) 0 (l0 + 4) 0 24) (l1 + 5) 0 (l0 + 5) 0 24) l0 5 ((mcp (mcp (mcp (mcp (mcp m (l1 + 1) 0 (l0 + 1) 0 24) (l1 + 2) 0 (l0 + 2) 0 24) (l1 + 3) 0 (l0 + 3) 0 24) (l1 + 4) 0 (l0 + 4) 0 24) (l1 + 5) 0 (l0 + 5) 0 24).1 l1 5)).1 l1 6)).1 l1 7)).1 l1 8)) (ty := .int) tyX2 dX2_copyFrom_104 iuX2 tyX2_ok nmX2 fl_X2_37 rfl (by decide) rfl hs0 rfl (by decide +kernel) rfl rfl hv9 ?_
  refine V_aload_n 0 dX2_copyFrom_107 rfl ?_
  refine V_aload_n 1 dX2_copyFrom_108 rfl ?_
  refine V_geti (ci := 2) (k := 9) (N := 10) (T := TX2) (v := ((mwr (mwr (mwr (mwr (mcp (mcp (mcp (mcp (mcp m (l1 + 1) 0 (l0 + 1) 0 24) (l1 + 2) 0 (l0 + 2) 0 24) (l1 + 3) 0 (l0 + 3) 0 24) (l1 + 4) 0 (l0 + 4) 0 24) (l1 + 5) 0 (l0 + 5) 0 24) l0 5 ((mcp (mcp (mcp (mcp (mcp m (l1 + 1) 0 (l0 + 1) 0 24) (l1 + 2) 0 (l0 + 2) 0 24) (l1 + 3) 0 (l0 + 3) 0 24) (l1 + 4) 0 (l0 + 4) 0 24) (l1 + 5) 0 (l0 + 5) 0 24).1 l1 5)) l0 6 ((mwr (mcp (mcp (mcp (mcp (mcp m (l1 + 1) 0 (l0 + 1) 0 24) (l1 + 2) 0 (l0 + 2) 0 24) (l1 + 3) 0 (l0 + 3) 0 24) (l1 + 4) 0 (l0 + 4) 0 24) (l1 + 5) 0 (l0 + 5) 0 24) l0 5 ((mcp (mcp (mcp (mcp (mcp m (l1 + 1) 0 (l0 + 1) 0 24) (l1 + 2) 0 (l0 + 2) 0 24) (l1 + 3) 0 (l0 + 3) 0 24) (l1 + 4) 0 (l0 + 4) 0 24) (l1 + 5) 0 (l0 + 5) 0 24).1 l1 5)).1 l1 6)) l0 7 ((mwr (mwr (mcp (mcp (mcp (mcp (mcp m (l1 + 1) 0 (l0 + 1) 0 24) (l1 + 2) 0 (l0 + 2) 0 24) (l1 + 3) 0 (l0 + 3) 0 24) (l1 + 4) 0 (l0 + 4) 0 24) (l1 + 5) 0 (l0 + 5) 0 24) l0 5 ((mcp (mcp (mcp (mcp (mcp m (l1 + 1) 0 (l0 + 1) 0 24) (l1 + 2) 0 (l0 + 2) 0 24) (l1 + 3) 0 (l0 + 3) 0 24) (l1 + 4) 0 (l0 + 4) 0 24) (l1 + 5) 0 (l0 + 5) 0 24).1 l1 5)) l0 6 ((mwr (mcp (mcp (mcp (mcp (mcp m (l1 + 1) 0 (l0 + 1) 0 24) (l1 + 2) 0 (l0 + 2) 0 24) (l1 + 3) 0 (l0 + 3) 0 24) (l1 + 4) 0 (l0 + 4) 0 24) (l1 + 5) 0 (l0 + 5) 0 24) l0 5 ((mcp (mcp (mcp (mcp (mcp m (l1 + 1) 0 (l0 + 1) 0 24) (l1 + 2) 0 (l0 + 2) 0 24) (l1 + 3) 0 (l0 + 3) 0 24) (l1 + 4) 0 (l0 + 4) 0 24) (l1 + 5) 0 (l0 + 5) 0 24).1 l1 5)).1 l1 6)).1 l1 7)) l0 8 ((mwr (mwr (mwr (mcp (mcp (mcp (mcp (mcp m (l1 + 1) 0 (l0 + 1) 0 24) (l1 + 2) 0 (l0 + 2) 0 24) (l1 + 3) 0 (l0 + 3) 0 24) (l1 + 4) 0 (l0 + 4) 0 24) (l1 + 5) 0 (l0 + 5) 0 24) l0 5 ((mcp (mcp (mcp (mcp (mcp m (l1 + 1) 0 (l0 + 1) 0 24) (l1 + 2) 0 (l0 + 2) 0 24) (l1 + 3) 0 (l0 + 3) 0 24) (l1 + 4) 0 (l0 + 4) 0 24) (l1 + 5) 0 (l0 + 5) 0 24).1 l1 5)) l0 6 ((mwr (mcp (mcp (mcp (mcp (mcp m (l1 + 1) 0 (l0 + 1) 0 24) (l1 + 2) 0 (l0 + 2) 0 24) (l1 + 3) 0 (l0 + 3) 0 24) (l1 + 4) 0 (l0 + 4) 0 24) (l1 + 5) 0 (l0 + 5) 0 24) l0 5 ((mcp (mcp (mcp (mcp (mcp m (l1 + 1) 0 (l0 + 1) 0 24) (l1 + 2) 0 (l0 + 2) 0 24) (l1 + 3) 0 (l0 + 3) 0 24) (l1 + 4) 0 (l0 + 4) 0 24) (l1 + 5) 0 (l0 + 5) 0 24).1 l1 5)).1 l1 6)) l0 7 ((mwr (mwr (mcp (mcp (mcp (mcp (mcp m (l1 + 1) 0 (l0 + 1) 0 24) (l1 + 2) 0 (l0 + 2) 0 24) (l1 + 3) 0 (l0 + 3) 0 24) (l1 + 4) 0 (l0 + 4) 0 24) (l1 + 5) 0 (l0 + 5) 0 24) l0 5 ((mcp (mcp (mcp (mcp (mcp m (l1 + 1) 0 (l0 + 1) 0 24) (l1 + 2) 0 (l0 + 2) 0 24) (l1 + 3) 0 (l0 + 3) 0 24) (l1 + 4) 0 (l0 + 4) 0 24) (l1 + 5) 0 (l0 + 5) 0 24).1 l1 5)) l0 6 ((mwr (mcp (mcp (mcp (mcp (mcp m (l1 + 1) 0 (l0 + 1) 0 24) (l1 + 2) 0 (l0 + 2) 0 24) (l1 + 3) 0 (l0 + 3) 0 24) (l1 + 4) 0 (l0 + 4) 0 24) (l1 + 5) 0 (l0 + 5) 0 24) l0 5 ((mcp (mcp (mcp (mcp (mcp m (l1 + 1) 0 (l0 + 1) 0 24) (l1 + 2) 0 (l0 + 2) 0 24) (l1 + 3) 0 (l0 + 3) 0 24) (l1 + 4) 0 (l0 + 4) 0 24) (l1 + 5) 0 (l0 + 5) 0 24).1 l1 5)).1 l1 6)).1 l1 7)).1 l1 8)).1 l1 9)) dX2_copyFrom_109 iuX2 fl_X2_40 rfl (by decide) rfl hs1 (by first | rfl | simp [mwr]) (fun hv10 => ?_)
  refine V_put (ci := 2) (k := 9) (N := 10) (T := TX2) (x := ((mwr (mwr (mwr (mwr (mcp (mcp (mcp (mcp (mcp m (l1 + 1) 0 (l0 + 1) 0 24) (l1 + 2) 0 (l0 + 2) 0 24) (l1 + 3) 0 (l0 + 3) 0 24) (l1 + 4) 0 (l0 + 4) 0 24) (l1 + 5) 0 (l0 + 5) 0 24) l0 5 ((mcp (mcp (mcp (mcp (mcp m (l1 + 1) 0 (l0 + 1) 0 24) (l1 + 2) 0 (l0 + 2) 0 24) (l1 + 3) 0 (l0 + 3) 0 24) (l1 + 4) 0 (l0 + 4) 0 24) (l1 + 5) 0 (l0 + 5) 0 24).1 l1 5)) l0 6 ((mwr (mcp (mcp (mcp (mcp (mcp m (l1 + 1) 0 (l0 + 1) 0 24) (l1 + 2) 0 (l0 + 2) 0 24) (l1 + 3) 0 (l0 + 3) 0 24) (l1 + 4) 0 (l0 + 4) 0 24) (l1 + 5) 0 (l0 + 5) 0 24) l0 5 ((mcp (mcp (mcp (mcp (mcp m (l1 + 1) 0 (l0 + 1) 0 24) (l1 + 2) 0 (l0 + 2) 0 24) (l1 + 3) 0 (l0 + 3) 0 24) (l1 + 4) 0 (l0 + 4) 0 24) (l1 + 5) 0 (l0 + 5) 0 24).1 l1 5)).1 l1 6)) l0 7 ((mwr (mwr (mcp (mcp (mcp (mcp (mcp m (l1 + 1) 0 (l0 + 1) 0 24) (l1 + 2) 0 (l0 + 2) 0 24) (l1 + 3) 0 (l0 + 3) 0 24) (l1 + 4) 0 (l0 + 4) 0 24) (l1 + 5) 0 (l0 + 5) 0 24) l0 5 ((mcp (mcp (mcp (mcp (mcp m (l1 + 1) 0 (l0 + 1) 0 24) (l1 + 2) 0 (l0 + 2) 0 24) (l1 + 3) 0 (l0 + 3) 0 24) (l1 + 4) 0 (l0 + 4) 0 24) (l1 + 5) 0 (l0 + 5) 0 24).1 l1 5)) l0 6 ((mwr (mcp (mcp (mcp (mcp (mcp m (l1 + 1) 0 (l0 + 1) 0 24) (l1 + 2) 0 (l0 + 2) 0 24) (l1 + 3) 0 (l0 + 3) 0 24) (l1 + 4) 0 (l0 + 4) 0 24) (l1 + 5) 0 (l0 + 5) 0 24) l0 5 ((mcp (mcp (mcp (mcp (mcp m (l1 + 1) 0 (l0 + 1) 0 24) (l1 + 2) 0 (l0 + 2) 0 24) (l1 + 3) 0 (l0 + 3) 0 24) (l1 + 4) 0 (l0 + 4) 0 24) (l1 + 5) 0 (l0 + 5) 0 24).1 l1 5)).1 l1 6)).1 l1 7)) l0 8 ((mwr (mwr (mwr (mcp (mcp (mcp (mcp (mcp m (l1 + 1) 0 (l0 + 1) 0 24) (l1 + 2) 0 (l0 + 2) 0 24) (l1 + 3) 0 (l0 + 3) 0 24) (l1 + 4) 0 (l0 + 4) 0 24) (l1 + 5) 0 (l0 + 5) 0 24) l0 5 ((mcp (mcp (mcp (mcp (mcp m (l1 + 1) 0 (l0 + 1) 0 24) (l1 + 2) 0 (l0 + 2) 0 24) (l1 + 3) 0 (l0 + 3) 0 24) (l1 + 4) 0 (l0 + 4) 0 24) (l1 + 5) 0 (l0 + 5) 0 24).1 l1 5)) l0 6 ((mwr (mcp (mcp (mcp (mcp (mcp m (l1 + 1) 0 (l0 + 1) 0 24) (l1 + 2) 0 (l0 + 2) 0 24) (l1 + 3) 0 (l0 + 3) 0 24) (l1 + 4) 0 (l0 + 4) 0 24) (l1 + 5) 0 (l0 + 5) 0 24) l0 5 ((mcp (mcp (mcp (mcp (mcp m (l1 + 1) 0 (l0 + 1) 0 24) (l1 + 2) 0 (l0 + 2) 0 24) (l1 + 3) 0 (l0 + 3) 0 24) (l1 + 4) 0 (l0 + 4) 0 24) (l1 + 5) 0 (l0 + 5) 0 24).1 l1 5)).1 l1 6)) l0 7 ((mwr (mwr (mcp (mcp (mcp (mcp (mcp m (l1 + 1) 0 (l0 + 1) 0 24) (l1 + 2) 0 (l0 + 2) 0 24) (l1 + 3) 0 (l0 + 3) 0 24) (l1 + 4) 0 (l0 + 4) 0 24) (l1 + 5) 0 (l0 + 5) 0 24) l0 5 ((mcp (mcp (mcp (mcp (mcp m (l1 + 1) 0 (l0 + 1) 0 24) (l1 + 2) 0 (l0 + 2) 0 24) (l1 + 3) 0 (l0 + 3) 0 24) (l1 + 4) 0 (l0 + 4) 0 24) (l1 + 5) 0 (l0 + 5) 0 24).1 l1 5)) l0 6 ((mwr (mcp (mcp (mcp (mcp (mcp m (l1 + 1) 0 (l0 + 1) 0 24) (l1 + 2) 0 (l0 + 2) 0 24) (l1 + 3) 0 (l0 + 3) 0 24) (l1 + 4) 0 (l0 + 4) 0 24) (l1 + 5) 0 (l0 + 5) 0 24) l0 5 ((mcp (mcp (mcp (mcp (mcp m (l1 + 1) 0 (l0 + 1) 0 24) (l1 + 2) 0 (l0 + 2) 0 24) (l1 + 3) 0 (l0 + 3) 0 24) (l1 + 4) 0 (l0 + 4) 0 24) (l1 + 5) 0 (l0 + 5) 0 24).1 l1 5)).1 l1 6)).1 l1 7)).1 l1 8)).1 l1 9)) (ty := .int) tyX2 dX2_copyFrom_112 iuX2 tyX2_ok nmX2 fl_X2_40 rfl (by decide) rfl hs0 rfl (by decide +kernel) rfl rfl hv10 ?_
  obtain rfl := Option.some.inj E
  exact V_retv dX2_copyFrom_115 ⟨rfl, rfl⟩
theorem ct_X2_copyFrom {l0 : Nat} {l1 : Nat} {m : Mem} {r : Mem} (hs0 : mmSh[l0]? = some (.inl 2)) (hs1 : mmSh[l1]? = some (.inl 2)) (E : f_X2_copyFrom l0 l1 m = some r) : CTv yX2_copyFrom cX2_copyFrom 2 rm_X2_copyFrom [.ref l0, .ref l1] m r := CT_v (by decide +kernel) rfl (Nat.le_of_ble_eq_true rfl) (ok_X2_copyFrom _ _ _ hs0 hs1 E)
theorem hy_X2_copyFrom : yX2_copyFrom.cls = RX2 ∧ yX2_copyFrom.cls ≠ "java/lang/invoke/MethodHandle" ∧ yX2_copyFrom.cls ≠ "java/lang/invoke/VarHandle" ∧ (parseMethodDescriptor yX2_copyFrom.desc).map (fun d => d.parameters.length) = some 1 := by decide +kernel
abbrev rm_X0_keepState : Room := { frames := 2, cells := 0, slots := 0, locals := 47 }
noncomputable def f_X0_keepState_L12 (l1 : Nat) (m : Mem) : Option (Mem) :=
  mmK (0 ≤ (m.1 19 1) ∧ (m.1 19 1) < 4) ((m.2 ((m.1 19 1)).toNat).bind (fun q5 => mmK (mmSh[q5]? = some (.inl 2)) ((f_X2_copyFrom q5 l1 m).bind (fun q6 => mmK (inR ((q6.1 19 1) + 1)) (some (mwr q6 19 1 ((q6.1 19 1) + 1)))))))
set_option maxRecDepth 100000 in
set_option maxHeartbeats 4000000 in
theorem ok_X0_keepState_L12 {r : Mem} : ∀ (l1 : Nat) (m : Mem), mmSh[l1]? = some (.inl 2) → f_X0_keepState_L12 l1 m = some r → VV RX0 cX0_keepState 3 rm_X0_keepState mmG0 (mmPv r) 12 [(0, .ref 19), (1, .ref l1)] [] m := by
  intro l1 m hs1 E
  unfold f_X0_keepState_L12 at E
  refine V_aload_n 0 dX0_keepState_12 rfl ?_
  refine V_geta (ci := 0) (k := 0) (N := 2) (T := TX0) (o' := 20) dX0_keepState_13 iuX0 fl_X0_11 rfl (by decide) rfl sh_19 rfl ?_
  refine V_aload_n 0 dX0_keepState_16 rfl ?_
  refine V_geti (ci := 0) (k := 1) (N := 2) (T := TX0) (v := (m.1 19 1)) dX0_keepState_17 iuX0 fl_X0_17 rfl (by decide) rfl sh_19 rfl (fun hv3 => ?_)
  obtain ⟨hv4, E⟩ := mmK_e E
  obtain ⟨q5, hq5, E⟩ := mmB_e E
  obtain ⟨hsq5, E⟩ := mmK_e E
  refine V_aald (n := 4) (j := ((m.1 19 1)).toNat) dX0_keepState_20 sh_20 hv3 hv4 rfl hq5 ?_
  refine V_astore_n (i := 2) (lv' := [(0, .ref 19), (1, .ref l1), (2, .ref q5)]) dX0_keepState_21 rfl rfl rfl ?_
  refine V_aload_n 2 dX0_keepState_22 rfl ?_
  refine V_ifnull dX0_keepState_23 ?_
  refine V_aload_n 2 dX0_keepState_26 rfl ?_
  refine V_aload_n 1 dX0_keepState_27 rfl ?_
  obtain ⟨q6, hq6, E⟩ := mmB_e E
  refine V_callVv (ci := 2) (q := (RX2, TX2, 10)) (Cn := RX2) (st := []) 1 dX0_keepState_28 (ct_X2_copyFrom hsq5 hs1 hq6) ml_X0_25 im_X2_copyFrom sl_X2_copyFrom it_X2 cd_X2_copyFrom hy_X2_copyFrom ⟨rfl, rfl, by decide, by decide⟩ hsq5 rfl rfl rfl rfl (Nat.le_of_ble_eq_true rfl) ?_
  refine V_aload_n 0 dX0_keepState_31 rfl ?_
  refine V_dupa dX0_keepState_32 ?_
  refine V_geti (ci := 0) (k := 1) (N := 2) (T := TX0) (v := (q6.1 19 1)) dX0_keepState_33 iuX0 fl_X0_17 rfl (by decide) rfl sh_19 rfl (fun hv8 => ?_)
  refine V_iconst dX0_keepState_36 rfl ?_
  obtain ⟨hv9, E⟩ := mmK_e E
  refine V_iadd dX0_keepState_37 ?_
  refine V_put (ci := 0) (k := 1) (N := 2) (T := TX0) (x := ((q6.1 19 1) + 1)) (ty := .int) tyX0 dX0_keepState_38 iuX0 tyX0_ok nmX0 fl_X0_17 rfl (by decide) rfl sh_19 rfl (by decide +kernel) rfl rfl hv9 ?_
  obtain rfl := Option.some.inj E
  exact V_retv dX0_keepState_41 ⟨rfl, rfl⟩
noncomputable def f_X0_keepState (l1 : Nat) (m : Mem) : Option (Mem) :=
  if (m.1 19 1) < 4 then
(f_X0_keepState_L12 l1 m)
else
((f_X0_dropOldest m).bind (fun q10 => f_X0_keepState_L12 l1 q10))
set_option maxRecDepth 100000 in
set_option maxHeartbeats 4000000 in
theorem ok_X0_keepState {r : Mem} : ∀ (l1 : Nat) (m : Mem), mmSh[l1]? = some (.inl 2) → f_X0_keepState l1 m = some r → VV RX0 cX0_keepState 3 rm_X0_keepState mmG0 (mmPv r) 0 [(0, .ref 19), (1, .ref l1)] [] m := by
  intro l1 m hs1 E
  unfold f_X0_keepState at E
  refine V_aload_n 0 dX0_keepState_0 rfl ?_
  refine V_geti (ci := 0) (k := 1) (N := 2) (T := TX0) (v := (m.1 19 1)) dX0_keepState_1 iuX0 fl_X0_17 rfl (by decide) rfl sh_19 rfl (fun hv1 => ?_)
  refine V_iconst dX0_keepState_4 rfl ?_
  refine V_icmp_lt 12 dX0_keepState_5 (by decide) hv1 ir_4 (fun c2 => ?_) (fun c2 => ?_)
  · replace E := mmI_t c2 E
    exact ok_X0_keepState_L12 _ _ hs1 E
  · replace E := mmI_f c2 E
    refine V_aload_n 0 dX0_keepState_8 rfl ?_
    obtain ⟨q10, hq10, E⟩ := mmB_e E
    refine V_callVv (ci := 0) (q := (RX0, TX0, 2)) (Cn := RX0) (st := []) 0 dX0_keepState_9 (ct_X0_dropOldest hq10) ml_X0_22 im_X0_dropOldest sl_X0_dropOldest it_X0 cd_X0_dropOldest hy_X0_dropOldest ⟨rfl, rfl, by decide, by decide⟩ sh_19 rfl rfl rfl rfl (Nat.le_of_ble_eq_true rfl) ?_
    exact ok_X0_keepState_L12 _ _ hs1 E
theorem ct_X0_keepState {l1 : Nat} {m : Mem} {r : Mem} (hs1 : mmSh[l1]? = some (.inl 2)) (E : f_X0_keepState l1 m = some r) : CTv yX0_keepState cX0_keepState 3 rm_X0_keepState [.ref 19, .ref l1] m r := CT_v (by decide +kernel) rfl (Nat.le_of_ble_eq_true rfl) (ok_X0_keepState _ _ hs1 E)
theorem hy_X0_keepState : yX0_keepState.cls = RX0 ∧ yX0_keepState.cls ≠ "java/lang/invoke/MethodHandle" ∧ yX0_keepState.cls ≠ "java/lang/invoke/VarHandle" ∧ (parseMethodDescriptor yX0_keepState.desc).map (fun d => d.parameters.length) = some 1 := by decide +kernel
abbrev rm_X0_giveLatestTo : Room := { frames := 2, cells := 0, slots := 0, locals := 47 }
noncomputable def f_X0_giveLatestTo (l1 : Nat) (m : Mem) : Option (Int × Mem) :=
  if (m.1 19 1) ≤ 0 then
(some (0, m))
else
(if (m.1 19 1) ≤ 4 then
(mmK (inR ((m.1 19 1) - 1)) (mmK (0 ≤ ((m.1 19 1) - 1) ∧ ((m.1 19 1) - 1) < 4) ((m.2 (((m.1 19 1) - 1)).toNat).bind (fun q8 => mmK (mmSh[q8]? = some (.inl 2)) ((f_X2_copyFrom l1 q8 m).bind (fun q9 => mmK (inR ((q9.1 19 1) - 1)) (some (1, (mwr q9 19 1 ((q9.1 19 1) - 1))))))))))
else
(some (0, m)))
set_option maxRecDepth 100000 in
set_option maxHeartbeats 4000000 in
theorem ok_X0_giveLatestTo {r : Int × Mem} : ∀ (l1 : Nat) (m : Mem), mmSh[l1]? = some (.inl 2) → f_X0_giveLatestTo l1 m = some r → VV RX0 cX0_giveLatestTo 3 rm_X0_giveLatestTo mmG0 (mmPz r) 0 [(0, .ref 19), (1, .ref l1)] [] m := by
  intro l1 m hs1 E
  unfold f_X0_giveLatestTo at E
  refine V_aload_n 0 dX0_giveLatestTo_0 rfl ?_
  refine V_geti (ci := 0) (k := 1) (N := 2) (T := TX0) (v := (m.1 19 1)) dX0_giveLatestTo_1 iuX0 fl_X0_17 rfl (by decide) rfl sh_19 rfl (fun hv1 => ?_)
  refine V_if_le 15 dX0_giveLatestTo_4 (by decide) hv1 (fun c2 => ?_) (fun c2 => ?_)
  · replace E := mmI_t c2 E
    refine V_iconst dX0_giveLatestTo_15 rfl ?_
    obtain rfl := Option.some.inj E
    exact V_reti dX0_giveLatestTo_16 ⟨rfl, rfl, (Or.inl rfl)⟩
  · replace E := mmI_f c2 E
    refine V_aload_n 0 dX0_giveLatestTo_7 rfl ?_
    refine V_geti (ci := 0) (k := 1) (N := 2) (T := TX0) (v := (m.1 19 1)) dX0_giveLatestTo_8 iuX0 fl_X0_17 rfl (by decide) rfl sh_19 rfl (fun hv3 => ?_)
    refine V_iconst dX0_giveLatestTo_11 rfl ?_
    refine V_icmp_le 17 dX0_giveLatestTo_12 (by decide) hv3 ir_4 (fun c4 => ?_) (fun c4 => ?_)
    · replace E := mmI_t c4 E
      refine V_aload_n 0 dX0_giveLatestTo_17 rfl ?_
      refine V_geta (ci := 0) (k := 0) (N := 2) (T := TX0) (o' := 20) dX0_giveLatestTo_18 iuX0 fl_X0_11 rfl (by decide) rfl sh_19 rfl ?_
      refine V_aload_n 0 dX0_giveLatestTo_21 rfl ?_
      refine V_geti (ci := 0) (k := 1) (N := 2) (T := TX0) (v := (m.1 19 1)) dX0_giveLatestTo_22 iuX0 fl_X0_17 rfl (by decide) rfl sh_19 rfl (fun hv5 => ?_)
      refine V_iconst dX0_giveLatestTo_25 rfl ?_
      obtain ⟨hv6, E⟩ := mmK_e E
      refine V_isub dX0_giveLatestTo_26 ?_
      obtain ⟨hv7, E⟩ := mmK_e E
      obtain ⟨q8, hq8, E⟩ := mmB_e E
      obtain ⟨hsq8, E⟩ := mmK_e E
      refine V_aald (n := 4) (j := (((m.1 19 1) - 1)).toNat) dX0_giveLatestTo_27 sh_20 hv6 hv7 rfl hq8 ?_
      refine V_astore_n (i := 2) (lv' := [(0, .ref 19), (1, .ref l1), (2, .ref q8)]) dX0_giveLatestTo_28 rfl rfl rfl ?_
      refine V_aload_n 2 dX0_giveLatestTo_29 rfl ?_
      refine V_ifnonnull 35 dX0_giveLatestTo_30 (by decide) ?_
      refine V_aload_n 1 dX0_giveLatestTo_35 rfl ?_
      refine V_aload_n 2 dX0_giveLatestTo_36 rfl ?_
      obtain ⟨q9, hq9, E⟩ := mmB_e E
      refine V_callVv (ci := 2) (q := (RX2, TX2, 10)) (Cn := RX2) (st := []) 1 dX0_giveLatestTo_37 (ct_X2_copyFrom hs1 hsq8 hq9) ml_X0_25 im_X2_copyFrom sl_X2_copyFrom it_X2 cd_X2_copyFrom hy_X2_copyFrom ⟨rfl, rfl, by decide, by decide⟩ hs1 rfl rfl rfl rfl (Nat.le_of_ble_eq_true rfl) ?_
      refine V_aload_n 0 dX0_giveLatestTo_40 rfl ?_
      refine V_dupa dX0_giveLatestTo_41 ?_
      refine V_geti (ci := 0) (k := 1) (N := 2) (T := TX0) (v := (q9.1 19 1)) dX0_giveLatestTo_42 iuX0 fl_X0_17 rfl (by decide) rfl sh_19 rfl (fun hv11 => ?_)
      refine V_iconst dX0_giveLatestTo_45 rfl ?_
      obtain ⟨hv12, E⟩ := mmK_e E
      refine V_isub dX0_giveLatestTo_46 ?_
      refine V_put (ci := 0) (k := 1) (N := 2) (T := TX0) (x := ((q9.1 19 1) - 1)) (ty := .int) tyX0 dX0_giveLatestTo_47 iuX0 tyX0_ok nmX0 fl_X0_17 rfl (by decide) rfl sh_19 rfl (by decide +kernel) rfl rfl hv12 ?_
      refine V_iconst dX0_giveLatestTo_50 rfl ?_
      obtain rfl := Option.some.inj E
      exact V_reti dX0_giveLatestTo_51 ⟨rfl, rfl, (Or.inr rfl)⟩
    · replace E := mmI_f c4 E
      refine V_iconst dX0_giveLatestTo_15 rfl ?_
      obtain rfl := Option.some.inj E
      exact V_reti dX0_giveLatestTo_16 ⟨rfl, rfl, (Or.inl rfl)⟩
theorem ct_X0_giveLatestTo {l1 : Nat} {m : Mem} {r : Int × Mem} (hs1 : mmSh[l1]? = some (.inl 2)) (E : f_X0_giveLatestTo l1 m = some r) : CTi yX0_giveLatestTo cX0_giveLatestTo 3 (some .boolean) rm_X0_giveLatestTo [.ref 19, .ref l1] m r := CT_z (by decide +kernel) rfl (Nat.le_of_ble_eq_true rfl) (ok_X0_giveLatestTo _ _ hs1 E)
theorem hy_X0_giveLatestTo : yX0_giveLatestTo.cls = RX0 ∧ yX0_giveLatestTo.cls ≠ "java/lang/invoke/MethodHandle" ∧ yX0_giveLatestTo.cls ≠ "java/lang/invoke/VarHandle" ∧ (parseMethodDescriptor yX0_giveLatestTo.desc).map (fun d => d.parameters.length) = some 1 := by decide +kernel
abbrev rm_X1_length : Room := { frames := 0, cells := 0, slots := 0, locals := 0 }
noncomputable def f_X1_length (m : Mem) : Option (Int × Mem) :=
  some ((m.1 45 1), m)
set_option maxRecDepth 100000 in
set_option maxHeartbeats 4000000 in
theorem ok_X1_length {r : Int × Mem} : ∀ (m : Mem), f_X1_length m = some r → VV RX1 cX1_length 1 rm_X1_length mmG0 (mmPi r) 0 [(0, .ref 45)] [] m := by
  intro m E
  unfold f_X1_length at E
  refine V_aload_n 0 dX1_length_0 rfl ?_
  refine V_geti (ci := 1) (k := 1) (N := 8) (T := TX1) (v := (m.1 45 1)) dX1_length_1 iuX1 fl_X1_15 rfl (by decide) rfl sh_45 rfl (fun hv1 => ?_)
  obtain rfl := Option.some.inj E
  exact V_reti dX1_length_4 ⟨rfl, rfl, hv1⟩
theorem ct_X1_length {m : Mem} {r : Int × Mem} (E : f_X1_length m = some r) : CTi yX1_length cX1_length 1 (some .int) rm_X1_length [.ref 45] m r := CT_i (by decide +kernel) rfl (Nat.le_of_ble_eq_true rfl) (ok_X1_length  _  E)
theorem hy_X1_length : yX1_length.cls = RX1 ∧ yX1_length.cls ≠ "java/lang/invoke/MethodHandle" ∧ yX1_length.cls ≠ "java/lang/invoke/VarHandle" ∧ (parseMethodDescriptor yX1_length.desc).map (fun d => d.parameters.length) = some 0 := by decide +kernel
abbrev rm_X1_append : Room := { frames := 0, cells := 0, slots := 0, locals := 0 }
noncomputable def f_X1_append (l1 : Int) (m : Mem) : Option (Int × Mem) :=
  if (m.1 45 1) < 60 then
(mmK (0 ≤ (m.1 45 1) ∧ (m.1 45 1) < 60) (mmK (0 ≤ l1 ∧ l1 ≤ 65535) (mmK (inR ((m.1 45 1) + 1)) (some (((m.1 45 1) + 1), (mwr (mwr m 46 ((m.1 45 1)).toNat l1) 45 1 ((m.1 45 1) + 1)))))))
else
(some ((-3), m))
set_option maxRecDepth 100000 in
set_option maxHeartbeats 4000000 in
theorem ok_X1_append {r : Int × Mem} : ∀ (l1 : Int) (m : Mem), inR l1 → f_X1_append l1 m = some r → VV RX1 cX1_append 2 rm_X1_append mmG0 (mmPi r) 0 [(0, .ref 45), (1, vi l1)] [] m := by
  intro l1 m hr1 E
  unfold f_X1_append at E
  refine V_aload_n 0 dX1_append_0 rfl ?_
  refine V_geti (ci := 1) (k := 1) (N := 8) (T := TX1) (v := (m.1 45 1)) dX1_append_1 iuX1 fl_X1_15 rfl (by decide) rfl sh_45 rfl (fun hv1 => ?_)
  refine V_bipush (v := 60) dX1_append_4 (by decide) ?_
  refine V_icmp_lt 12 dX1_append_6 (by decide) hv1 ir_60 (fun c2 => ?_) (fun c2 => ?_)
  · replace E := mmI_t c2 E
    refine V_aload_n 0 dX1_append_12 rfl ?_
    refine V_geta (ci := 1) (k := 0) (N := 8) (T := TX1) (o' := 46) dX1_append_13 iuX1 fl_X1_9 rfl (by decide) rfl sh_45 rfl ?_
    refine V_aload_n 0 dX1_append_16 rfl ?_
    refine V_geti (ci := 1) (k := 1) (N := 8) (T := TX1) (v := (m.1 45 1)) dX1_append_17 iuX1 fl_X1_15 rfl (by decide) rfl sh_45 rfl (fun hv3 => ?_)
    refine V_iload_n 1 dX1_append_20 rfl ?_
    obtain ⟨hv4, E⟩ := mmK_e E
    obtain ⟨hv5, E⟩ := mmK_e E
    refine V_cast (n := 60) (j := ((m.1 45 1)).toNat) dX1_append_21 sh_46 hv3 hr1 hv4 hv5 rfl ?_
    refine V_aload_n 0 dX1_append_22 rfl ?_
    refine V_dupa dX1_append_23 ?_
    refine V_geti (ci := 1) (k := 1) (N := 8) (T := TX1) (v := (m.1 45 1)) dX1_append_24 iuX1 fl_X1_15 rfl (by decide) rfl sh_45 rfl (fun hv6 => ?_)
    refine V_iconst dX1_append_27 rfl ?_
    obtain ⟨hv7, E⟩ := mmK_e E
    refine V_iadd dX1_append_28 ?_
    refine V_put (ci := 1) (k := 1) (N := 8) (T := TX1) (x := ((m.1 45 1) + 1)) (ty := .int) tyX1 dX1_append_29 iuX1 tyX1_ok nmX1 fl_X1_15 rfl (by decide) rfl sh_45 rfl (by decide +kernel) rfl rfl hv7 ?_
    refine V_aload_n 0 dX1_append_32 rfl ?_
    refine V_geti (ci := 1) (k := 1) (N := 8) (T := TX1) (v := ((m.1 45 1) + 1)) dX1_append_33 iuX1 fl_X1_15 rfl (by decide) rfl sh_45 rfl (fun hv8 => ?_)
    obtain rfl := Option.some.inj E
    exact V_reti dX1_append_36 ⟨rfl, rfl, hv8⟩
  · replace E := mmI_f c2 E
    refine V_bipush (v := (-3)) dX1_append_9 (by decide) ?_
    obtain rfl := Option.some.inj E
    exact V_reti dX1_append_11 ⟨rfl, rfl, ir_m3⟩
theorem ct_X1_append {l1 : Int} {m : Mem} {r : Int × Mem} (hr1 : inR l1) (E : f_X1_append l1 m = some r) : CTi yX1_append cX1_append 2 (some .int) rm_X1_append [.ref 45, vi l1] m r := CT_i (by decide +kernel) rfl (Nat.le_of_ble_eq_true rfl) (ok_X1_append _ _ hr1 E)
theorem hy_X1_append : yX1_append.cls = RX1 ∧ yX1_append.cls ≠ "java/lang/invoke/MethodHandle" ∧ yX1_append.cls ≠ "java/lang/invoke/VarHandle" ∧ (parseMethodDescriptor yX1_append.desc).map (fun d => d.parameters.length) = some 1 := by decide +kernel
abbrev rm_X1_empty : Room := { frames := 0, cells := 0, slots := 0, locals := 0 }
noncomputable def f_X1_empty (m : Mem) : Option (Int × Mem) :=
  some ((m.1 45 1), (mwr m 45 1 0))
set_option maxRecDepth 100000 in
set_option maxHeartbeats 4000000 in
theorem ok_X1_empty {r : Int × Mem} : ∀ (m : Mem), f_X1_empty m = some r → VV RX1 cX1_empty 2 rm_X1_empty mmG0 (mmPi r) 0 [(0, .ref 45)] [] m := by
  intro m E
  unfold f_X1_empty at E
  refine V_aload_n 0 dX1_empty_0 rfl ?_
  refine V_geti (ci := 1) (k := 1) (N := 8) (T := TX1) (v := (m.1 45 1)) dX1_empty_1 iuX1 fl_X1_15 rfl (by decide) rfl sh_45 rfl (fun hv1 => ?_)
  refine V_istore_n (i := 1) (lv' := [(0, .ref 45), (1, vi (m.1 45 1))]) dX1_empty_4 rfl rfl rfl ?_
  refine V_aload_n 0 dX1_empty_5 rfl ?_
  refine V_iconst dX1_empty_6 rfl ?_
  refine V_put (ci := 1) (k := 1) (N := 8) (T := TX1) (x := 0) (ty := .int) tyX1 dX1_empty_7 iuX1 tyX1_ok nmX1 fl_X1_15 rfl (by decide) rfl sh_45 rfl (by decide +kernel) rfl rfl ir_0 ?_
  refine V_iload_n 1 dX1_empty_10 rfl ?_
  obtain rfl := Option.some.inj E
  exact V_reti dX1_empty_11 ⟨rfl, rfl, hv1⟩
theorem ct_X1_empty {m : Mem} {r : Int × Mem} (E : f_X1_empty m = some r) : CTi yX1_empty cX1_empty 2 (some .int) rm_X1_empty [.ref 45] m r := CT_i (by decide +kernel) rfl (Nat.le_of_ble_eq_true rfl) (ok_X1_empty  _  E)
theorem hy_X1_empty : yX1_empty.cls = RX1 ∧ yX1_empty.cls ≠ "java/lang/invoke/MethodHandle" ∧ yX1_empty.cls ≠ "java/lang/invoke/VarHandle" ∧ (parseMethodDescriptor yX1_empty.desc).map (fun d => d.parameters.length) = some 0 := by decide +kernel
abbrev rm_X1_next : Room := { frames := 0, cells := 0, slots := 0, locals := 0 }
noncomputable def f_X1_next (m : Mem) : Option (Int × Mem) :=
  if (m.1 45 7) < 0 then
(some ((-1), m))
else
(if (m.1 45 1) ≤ (m.1 45 7) then
(some ((-1), m))
else
(mmK (0 ≤ (m.1 45 7) ∧ (m.1 45 7) < 60) (some ((m.1 46 ((m.1 45 7)).toNat), m))))
set_option maxRecDepth 100000 in
set_option maxHeartbeats 4000000 in
theorem ok_X1_next {r : Int × Mem} : ∀ (m : Mem), f_X1_next m = some r → VV RX1 cX1_next 1 rm_X1_next mmG0 (mmPi r) 0 [(0, .ref 45)] [] m := by
  intro m E
  unfold f_X1_next at E
  refine V_aload_n 0 dX1_next_0 rfl ?_
  refine V_geti (ci := 1) (k := 7) (N := 8) (T := TX1) (v := (m.1 45 7)) dX1_next_1 iuX1 fl_X1_35 rfl (by decide) rfl sh_45 rfl (fun hv1 => ?_)
  refine V_if_lt 30 dX1_next_4 (by decide) hv1 (fun c2 => ?_) (fun c2 => ?_)
  · replace E := mmI_t c2 E
    refine V_iconst dX1_next_30 rfl ?_
    obtain rfl := Option.some.inj E
    exact V_reti dX1_next_31 ⟨rfl, rfl, ir_m1⟩
  · replace E := mmI_f c2 E
    refine V_aload_n 0 dX1_next_7 rfl ?_
    refine V_geti (ci := 1) (k := 7) (N := 8) (T := TX1) (v := (m.1 45 7)) dX1_next_8 iuX1 fl_X1_35 rfl (by decide) rfl sh_45 rfl (fun hv3 => ?_)
    refine V_aload_n 0 dX1_next_11 rfl ?_
    refine V_geti (ci := 1) (k := 1) (N := 8) (T := TX1) (v := (m.1 45 1)) dX1_next_12 iuX1 fl_X1_15 rfl (by decide) rfl sh_45 rfl (fun hv4 => ?_)
    refine V_icmp_ge 30 dX1_next_15 (by decide) hv3 hv4 (fun c5 => ?_) (fun c5 => ?_)
    · replace E := mmI_t c5 E
      refine V_iconst dX1_next_30 rfl ?_
      obtain rfl := Option.some.inj E
      exact V_reti dX1_next_31 ⟨rfl, rfl, ir_m1⟩
    · replace E := mmI_f c5 E
      refine V_aload_n 0 dX1_next_18 rfl ?_
      refine V_geta (ci := 1) (k := 0) (N := 8) (T := TX1) (o' := 46) dX1_next_19 iuX1 fl_X1_9 rfl (by decide) rfl sh_45 rfl ?_
      refine V_aload_n 0 dX1_next_22 rfl ?_
      refine V_geti (ci := 1) (k := 7) (N := 8) (T := TX1) (v := (m.1 45 7)) dX1_next_23 iuX1 fl_X1_35 rfl (by decide) rfl sh_45 rfl (fun hv6 => ?_)
      obtain ⟨hv7, E⟩ := mmK_e E
      refine V_cald (n := 60) (j := ((m.1 45 7)).toNat) (v := (m.1 46 ((m.1 45 7)).toNat)) dX1_next_26 sh_46 hv6 hv7 rfl rfl (fun hv8 => ?_)
      refine V_goto 31 dX1_next_27 (by decide) ?_
      obtain rfl := Option.some.inj E
      exact V_reti dX1_next_31 ⟨rfl, rfl, hv8⟩
theorem ct_X1_next {m : Mem} {r : Int × Mem} (E : f_X1_next m = some r) : CTi yX1_next cX1_next 1 (some .int) rm_X1_next [.ref 45] m r := CT_i (by decide +kernel) rfl (Nat.le_of_ble_eq_true rfl) (ok_X1_next  _  E)
theorem hy_X1_next : yX1_next.cls = RX1 ∧ yX1_next.cls ≠ "java/lang/invoke/MethodHandle" ∧ yX1_next.cls ≠ "java/lang/invoke/VarHandle" ∧ (parseMethodDescriptor yX1_next.desc).map (fun d => d.parameters.length) = some 0 := by decide +kernel
abbrev rm_X1_readLetter : Room := { frames := 1, cells := 0, slots := 0, locals := 20 }
noncomputable def f_X1_readLetter (m : Mem) : Option (Int × Mem) :=
  (f_X1_next m).bind (fun q1 => if q1.1 < 65 then
(some ((-1), q1.2))
else
(if q1.1 ≤ 90 then
(mmK (inR ((q1.2.1 45 7) + 1)) (mmK (inR (q1.1 - 65)) (some ((q1.1 - 65), (mwr q1.2 45 7 ((q1.2.1 45 7) + 1))))))
else
(some ((-1), q1.2))))
set_option maxRecDepth 100000 in
set_option maxHeartbeats 4000000 in
theorem ok_X1_readLetter {r : Int × Mem} : ∀ (m : Mem), f_X1_readLetter m = some r → VV RX1 cX1_readLetter 2 rm_X1_readLetter mmG0 (mmPi r) 0 [(0, .ref 45)] [] m := by
  intro m E
  unfold f_X1_readLetter at E
  refine V_aload_n 0 dX1_readLetter_0 rfl ?_
  obtain ⟨q1, hq1, E⟩ := mmB_e E
  refine V_callV (ci := 1) (q := (RX1, TX1, 8)) (Cn := RX1) (st := []) 0 dX1_readLetter_1 (ct_X1_next hq1) ml_X1_77 im_X1_next sl_X1_next it_X1 cd_X1_next hy_X1_next ⟨rfl, rfl, by decide, by decide⟩ sh_45 rfl rfl rfl rfl (Nat.le_of_ble_eq_true rfl) (fun hv2 => ?_)
  refine V_istore_n (i := 1) (lv' := [(0, .ref 45), (1, vi q1.1)]) dX1_readLetter_4 rfl rfl rfl ?_
  refine V_iload_n 1 dX1_readLetter_5 rfl ?_
  refine V_bipush (v := 65) dX1_readLetter_6 (by decide) ?_
  refine V_icmp_lt 17 dX1_readLetter_8 (by decide) hv2 ir_65 (fun c3 => ?_) (fun c3 => ?_)
  · replace E := mmI_t c3 E
    refine V_iconst dX1_readLetter_17 rfl ?_
    obtain rfl := Option.some.inj E
    exact V_reti dX1_readLetter_18 ⟨rfl, rfl, ir_m1⟩
  · replace E := mmI_f c3 E
    refine V_iload_n 1 dX1_readLetter_11 rfl ?_
    refine V_bipush (v := 90) dX1_readLetter_12 (by decide) ?_
    refine V_icmp_le 19 dX1_readLetter_14 (by decide) hv2 ir_90 (fun c4 => ?_) (fun c4 => ?_)
    · replace E := mmI_t c4 E
      refine V_aload_n 0 dX1_readLetter_19 rfl ?_
      refine V_dupa dX1_readLetter_20 ?_
      refine V_geti (ci := 1) (k := 7) (N := 8) (T := TX1) (v := (q1.2.1 45 7)) dX1_readLetter_21 iuX1 fl_X1_35 rfl (by decide) rfl sh_45 rfl (fun hv5 => ?_)
      refine V_iconst dX1_readLetter_24 rfl ?_
      obtain ⟨hv6, E⟩ := mmK_e E
      refine V_iadd dX1_readLetter_25 ?_
      refine V_put (ci := 1) (k := 7) (N := 8) (T := TX1) (x := ((q1.2.1 45 7) + 1)) (ty := .int) tyX1 dX1_readLetter_26 iuX1 tyX1_ok nmX1 fl_X1_35 rfl (by decide) rfl sh_45 rfl (by decide +kernel) rfl rfl hv6 ?_
      refine V_iload_n 1 dX1_readLetter_29 rfl ?_
      refine V_bipush (v := 65) dX1_readLetter_30 (by decide) ?_
      obtain ⟨hv7, E⟩ := mmK_e E
      refine V_isub dX1_readLetter_32 ?_
      obtain rfl := Option.some.inj E
      exact V_reti dX1_readLetter_33 ⟨rfl, rfl, hv7⟩
    · replace E := mmI_f c4 E
      refine V_iconst dX1_readLetter_17 rfl ?_
      obtain rfl := Option.some.inj E
      exact V_reti dX1_readLetter_18 ⟨rfl, rfl, ir_m1⟩
theorem ct_X1_readLetter {m : Mem} {r : Int × Mem} (E : f_X1_readLetter m = some r) : CTi yX1_readLetter cX1_readLetter 2 (some .int) rm_X1_readLetter [.ref 45] m r := CT_i (by decide +kernel) rfl (Nat.le_of_ble_eq_true rfl) (ok_X1_readLetter  _  E)
theorem hy_X1_readLetter : yX1_readLetter.cls = RX1 ∧ yX1_readLetter.cls ≠ "java/lang/invoke/MethodHandle" ∧ yX1_readLetter.cls ≠ "java/lang/invoke/VarHandle" ∧ (parseMethodDescriptor yX1_readLetter.desc).map (fun d => d.parameters.length) = some 0 := by decide +kernel
abbrev rm_X1_readName : Room := { frames := 2, cells := 0, slots := 0, locals := 41 }
noncomputable def f_X1_readName (m : Mem) : Option (Int × Mem) :=
  (f_X1_readLetter m).bind (fun q1 => if q1.1 = (-1) then
(some ((-1), q1.2))
else
((f_X1_readLetter q1.2).bind (fun q4 => if q4.1 = (-1) then
(some ((-1), q4.2))
else
(mmK (inR (q1.1 * 26)) (mmK (inR ((q1.1 * 26) + q4.1)) (some (((q1.1 * 26) + q4.1), q4.2)))))))
set_option maxRecDepth 100000 in
set_option maxHeartbeats 4000000 in
theorem ok_X1_readName {r : Int × Mem} : ∀ (m : Mem), f_X1_readName m = some r → VV RX1 cX1_readName 3 rm_X1_readName mmG0 (mmPi r) 0 [(0, .ref 45)] [] m := by
  intro m E
  unfold f_X1_readName at E
  refine V_aload_n 0 dX1_readName_0 rfl ?_
  obtain ⟨q1, hq1, E⟩ := mmB_e E
  refine V_callV (ci := 1) (q := (RX1, TX1, 8)) (Cn := RX1) (st := []) 0 dX1_readName_1 (ct_X1_readLetter hq1) ml_X1_74 im_X1_readLetter sl_X1_readLetter it_X1 cd_X1_readLetter hy_X1_readLetter ⟨rfl, rfl, by decide, by decide⟩ sh_45 rfl rfl rfl rfl (Nat.le_of_ble_eq_true rfl) (fun hv2 => ?_)
  refine V_istore_n (i := 1) (lv' := [(0, .ref 45), (1, vi q1.1)]) dX1_readName_4 rfl rfl rfl ?_
  refine V_iload_n 1 dX1_readName_5 rfl ?_
  refine V_iconst dX1_readName_6 rfl ?_
  refine V_icmp_ne 12 dX1_readName_7 (by decide) hv2 ir_m1 (fun c3 => ?_) (fun c3 => ?_)
  · replace E := mmI_f c3 E
    refine V_aload_n 0 dX1_readName_12 rfl ?_
    obtain ⟨q4, hq4, E⟩ := mmB_e E
    refine V_callV (ci := 1) (q := (RX1, TX1, 8)) (Cn := RX1) (st := []) 0 dX1_readName_13 (ct_X1_readLetter hq4) ml_X1_74 im_X1_readLetter sl_X1_readLetter it_X1 cd_X1_readLetter hy_X1_readLetter ⟨rfl, rfl, by decide, by decide⟩ sh_45 rfl rfl rfl rfl (Nat.le_of_ble_eq_true rfl) (fun hv5 => ?_)
    refine V_istore_n (i := 2) (lv' := [(0, .ref 45), (1, vi q1.1), (2, vi q4.1)]) dX1_readName_16 rfl rfl rfl ?_
    refine V_iload_n 2 dX1_readName_17 rfl ?_
    refine V_iconst dX1_readName_18 rfl ?_
    refine V_icmp_ne 24 dX1_readName_19 (by decide) hv5 ir_m1 (fun c6 => ?_) (fun c6 => ?_)
    · replace E := mmI_f c6 E
      refine V_iload_n 1 dX1_readName_24 rfl ?_
      refine V_bipush (v := 26) dX1_readName_25 (by decide) ?_
      obtain ⟨hv7, E⟩ := mmK_e E
      refine V_imul dX1_readName_27 ?_
      refine V_iload_n 2 dX1_readName_28 rfl ?_
      obtain ⟨hv8, E⟩ := mmK_e E
      refine V_iadd dX1_readName_29 ?_
      obtain rfl := Option.some.inj E
      exact V_reti dX1_readName_30 ⟨rfl, rfl, hv8⟩
    · replace E := mmI_t c6 E
      refine V_iconst dX1_readName_22 rfl ?_
      obtain rfl := Option.some.inj E
      exact V_reti dX1_readName_23 ⟨rfl, rfl, ir_m1⟩
  · replace E := mmI_t c3 E
    refine V_iconst dX1_readName_10 rfl ?_
    obtain rfl := Option.some.inj E
    exact V_reti dX1_readName_11 ⟨rfl, rfl, ir_m1⟩
theorem ct_X1_readName {m : Mem} {r : Int × Mem} (E : f_X1_readName m = some r) : CTi yX1_readName cX1_readName 3 (some .int) rm_X1_readName [.ref 45] m r := CT_i (by decide +kernel) rfl (Nat.le_of_ble_eq_true rfl) (ok_X1_readName  _  E)
theorem hy_X1_readName : yX1_readName.cls = RX1 ∧ yX1_readName.cls ≠ "java/lang/invoke/MethodHandle" ∧ yX1_readName.cls ≠ "java/lang/invoke/VarHandle" ∧ (parseMethodDescriptor yX1_readName.desc).map (fun d => d.parameters.length) = some 0 := by decide +kernel
abbrev rm_X1_takes : Room := { frames := 1, cells := 0, slots := 0, locals := 20 }
noncomputable def f_X1_takes (l1 : Int) (m : Mem) : Option (Int × Mem) :=
  (f_X1_next m).bind (fun q1 => if q1.1 = l1 then
(mmK (inR ((q1.2.1 45 7) + 1)) (some (1, (mwr q1.2 45 7 ((q1.2.1 45 7) + 1)))))
else
(some (0, q1.2)))
set_option maxRecDepth 100000 in
set_option maxHeartbeats 4000000 in
theorem ok_X1_takes {r : Int × Mem} : ∀ (l1 : Int) (m : Mem), inR l1 → f_X1_takes l1 m = some r → VV RX1 cX1_takes 2 rm_X1_takes mmG0 (mmPz r) 0 [(0, .ref 45), (1, vi l1)] [] m := by
  intro l1 m hr1 E
  unfold f_X1_takes at E
  refine V_aload_n 0 dX1_takes_0 rfl ?_
  obtain ⟨q1, hq1, E⟩ := mmB_e E
  refine V_callV (ci := 1) (q := (RX1, TX1, 8)) (Cn := RX1) (st := []) 0 dX1_takes_1 (ct_X1_next hq1) ml_X1_77 im_X1_next sl_X1_next it_X1 cd_X1_next hy_X1_next ⟨rfl, rfl, by decide, by decide⟩ sh_45 rfl rfl rfl rfl (Nat.le_of_ble_eq_true rfl) (fun hv2 => ?_)
  refine V_iload_n 1 dX1_takes_4 rfl ?_
  refine V_icmp_eq 10 dX1_takes_5 (by decide) hv2 hr1 (fun c3 => ?_) (fun c3 => ?_)
  · replace E := mmI_t c3 E
    refine V_aload_n 0 dX1_takes_10 rfl ?_
    refine V_dupa dX1_takes_11 ?_
    refine V_geti (ci := 1) (k := 7) (N := 8) (T := TX1) (v := (q1.2.1 45 7)) dX1_takes_12 iuX1 fl_X1_35 rfl (by decide) rfl sh_45 rfl (fun hv4 => ?_)
    refine V_iconst dX1_takes_15 rfl ?_
    obtain ⟨hv5, E⟩ := mmK_e E
    refine V_iadd dX1_takes_16 ?_
    refine V_put (ci := 1) (k := 7) (N := 8) (T := TX1) (x := ((q1.2.1 45 7) + 1)) (ty := .int) tyX1 dX1_takes_17 iuX1 tyX1_ok nmX1 fl_X1_35 rfl (by decide) rfl sh_45 rfl (by decide +kernel) rfl rfl hv5 ?_
    refine V_iconst dX1_takes_20 rfl ?_
    obtain rfl := Option.some.inj E
    exact V_reti dX1_takes_21 ⟨rfl, rfl, (Or.inr rfl)⟩
  · replace E := mmI_f c3 E
    refine V_iconst dX1_takes_8 rfl ?_
    obtain rfl := Option.some.inj E
    exact V_reti dX1_takes_9 ⟨rfl, rfl, (Or.inl rfl)⟩
theorem ct_X1_takes {l1 : Int} {m : Mem} {r : Int × Mem} (hr1 : inR l1) (E : f_X1_takes l1 m = some r) : CTi yX1_takes cX1_takes 2 (some .boolean) rm_X1_takes [.ref 45, vi l1] m r := CT_z (by decide +kernel) rfl (Nat.le_of_ble_eq_true rfl) (ok_X1_takes _ _ hr1 E)
theorem hy_X1_takes : yX1_takes.cls = RX1 ∧ yX1_takes.cls ≠ "java/lang/invoke/MethodHandle" ∧ yX1_takes.cls ≠ "java/lang/invoke/VarHandle" ∧ (parseMethodDescriptor yX1_takes.desc).map (fun d => d.parameters.length) = some 1 := by decide +kernel
abbrev rm_X1_nextDigit : Room := { frames := 1, cells := 0, slots := 0, locals := 20 }
noncomputable def f_X1_nextDigit (m : Mem) : Option (Int × Mem) :=
  (f_X1_next m).bind (fun q1 => if q1.1 < 48 then
(some ((-1), q1.2))
else
(if 57 < q1.1 then
(some ((-1), q1.2))
else
(mmK (inR (q1.1 - 48)) (some ((q1.1 - 48), q1.2)))))
set_option maxRecDepth 100000 in
set_option maxHeartbeats 4000000 in
theorem ok_X1_nextDigit {r : Int × Mem} : ∀ (m : Mem), f_X1_nextDigit m = some r → VV RX1 cX1_nextDigit 2 rm_X1_nextDigit mmG0 (mmPi r) 0 [(0, .ref 45)] [] m := by
  intro m E
  unfold f_X1_nextDigit at E
  refine V_aload_n 0 dX1_nextDigit_0 rfl ?_
  obtain ⟨q1, hq1, E⟩ := mmB_e E
  refine V_callV (ci := 1) (q := (RX1, TX1, 8)) (Cn := RX1) (st := []) 0 dX1_nextDigit_1 (ct_X1_next hq1) ml_X1_77 im_X1_next sl_X1_next it_X1 cd_X1_next hy_X1_next ⟨rfl, rfl, by decide, by decide⟩ sh_45 rfl rfl rfl rfl (Nat.le_of_ble_eq_true rfl) (fun hv2 => ?_)
  refine V_istore_n (i := 1) (lv' := [(0, .ref 45), (1, vi q1.1)]) dX1_nextDigit_4 rfl rfl rfl ?_
  refine V_iload_n 1 dX1_nextDigit_5 rfl ?_
  refine V_bipush (v := 48) dX1_nextDigit_6 (by decide) ?_
  refine V_icmp_lt 24 dX1_nextDigit_8 (by decide) hv2 ir_48 (fun c3 => ?_) (fun c3 => ?_)
  · replace E := mmI_t c3 E
    refine V_iconst dX1_nextDigit_24 rfl ?_
    obtain rfl := Option.some.inj E
    exact V_reti dX1_nextDigit_25 ⟨rfl, rfl, ir_m1⟩
  · replace E := mmI_f c3 E
    refine V_iload_n 1 dX1_nextDigit_11 rfl ?_
    refine V_bipush (v := 57) dX1_nextDigit_12 (by decide) ?_
    refine V_icmp_gt 24 dX1_nextDigit_14 (by decide) hv2 ir_57 (fun c4 => ?_) (fun c4 => ?_)
    · replace E := mmI_t c4 E
      refine V_iconst dX1_nextDigit_24 rfl ?_
      obtain rfl := Option.some.inj E
      exact V_reti dX1_nextDigit_25 ⟨rfl, rfl, ir_m1⟩
    · replace E := mmI_f c4 E
      refine V_iload_n 1 dX1_nextDigit_17 rfl ?_
      refine V_bipush (v := 48) dX1_nextDigit_18 (by decide) ?_
      obtain ⟨hv5, E⟩ := mmK_e E
      refine V_isub dX1_nextDigit_20 ?_
      refine V_goto 25 dX1_nextDigit_21 (by decide) ?_
      obtain rfl := Option.some.inj E
      exact V_reti dX1_nextDigit_25 ⟨rfl, rfl, hv5⟩
theorem ct_X1_nextDigit {m : Mem} {r : Int × Mem} (E : f_X1_nextDigit m = some r) : CTi yX1_nextDigit cX1_nextDigit 2 (some .int) rm_X1_nextDigit [.ref 45] m r := CT_i (by decide +kernel) rfl (Nat.le_of_ble_eq_true rfl) (ok_X1_nextDigit  _  E)
theorem hy_X1_nextDigit : yX1_nextDigit.cls = RX1 ∧ yX1_nextDigit.cls ≠ "java/lang/invoke/MethodHandle" ∧ yX1_nextDigit.cls ≠ "java/lang/invoke/VarHandle" ∧ (parseMethodDescriptor yX1_nextDigit.desc).map (fun d => d.parameters.length) = some 0 := by decide +kernel
abbrev rm_X1_readNumber : Room := { frames := 2, cells := 0, slots := 0, locals := 41 }
noncomputable def f_X1_readNumber_L25 : Nat → Int → Int → Int → Mem → Option (Int × Mem)
  | 0, _, _, _, _ => none
  | n + 1, l2, l3, l4, m =>
    if 4 ≤ l4 then
(some (l3, m))
else
((f_X1_nextDigit m).bind (fun q7 => if l3 = 0 then
(some (l3, q7.2))
else
(if q7.1 = (-1) then
(some (l3, q7.2))
else
(mmK (inR (l3 * 10)) (mmK (inR ((l3 * 10) + q7.1)) (if ((l3 * 10) + q7.1) ≤ l2 then
(mmK (inR (l3 * 10)) (mmK (inR ((l3 * 10) + q7.1)) (mmK (inR ((q7.2.1 45 7) + 1)) (mmK (inR (l4 + 1)) (f_X1_readNumber_L25 n l2 ((l3 * 10) + q7.1) (l4 + 1) (mwr q7.2 45 7 ((q7.2.1 45 7) + 1)))))))
else
(some (l3, q7.2))))))))
set_option maxRecDepth 100000 in
set_option maxHeartbeats 4000000 in
theorem ok_X1_readNumber_L25 {r : Int × Mem} : ∀ (n : Nat), ∀ (l2 : Int) (l3 : Int) (l4 : Int) (m : Mem), inR l2 → inR l3 → inR l4 → f_X1_readNumber_L25 n l2 l3 l4 m = some r → VV RX1 cX1_readNumber 6 rm_X1_readNumber mmG0 (mmPi r) 25 [(0, .ref 45), (2, vi l2), (3, vi l3), (4, vi l4)] [] m := by
  intro n
  induction n with
  | zero =>
    intro l2 l3 l4 m hr2 hr3 hr4 E
    cases E
  | succ n ih =>
    intro l2 l3 l4 m hr2 hr3 hr4 E
    rw [f_X1_readNumber_L25] at E
    refine V_iload 3 dX1_readNumber_25 rfl ?_
    refine V_iconst dX1_readNumber_27 rfl ?_
    refine V_icmp_ge 84 dX1_readNumber_28 (by decide) hr4 ir_4 (fun c6 => ?_) (fun c6 => ?_)
    · replace E := mmI_t c6 E
      refine V_iload_n 2 dX1_readNumber_84 rfl ?_
      obtain rfl := Option.some.inj E
      exact V_reti dX1_readNumber_85 ⟨rfl, rfl, hr3⟩
    · replace E := mmI_f c6 E
      refine V_aload_n 0 dX1_readNumber_31 rfl ?_
      obtain ⟨q7, hq7, E⟩ := mmB_e E
      refine V_callV (ci := 1) (q := (RX1, TX1, 8)) (Cn := RX1) (st := []) 0 dX1_readNumber_32 (ct_X1_nextDigit hq7) ml_X1_80 im_X1_nextDigit sl_X1_nextDigit it_X1 cd_X1_nextDigit hy_X1_nextDigit ⟨rfl, rfl, by decide, by decide⟩ sh_45 rfl rfl rfl rfl (Nat.le_of_ble_eq_true rfl) (fun hv8 => ?_)
      refine V_istore (lv' := [(0, .ref 45), (2, vi l2), (3, vi l3), (4, vi l4), (5, vi q7.1)]) dX1_readNumber_35 rfl rfl ?_
      refine V_iload_n 2 dX1_readNumber_37 rfl ?_
      refine V_if_eq 58 dX1_readNumber_38 (by decide) hr3 (fun c9 => ?_) (fun c9 => ?_)
      · replace E := mmI_t c9 E
        refine V_iload_n 2 dX1_readNumber_58 rfl ?_
        obtain rfl := Option.some.inj E
        exact V_reti dX1_readNumber_59 ⟨rfl, rfl, hr3⟩
      · replace E := mmI_f c9 E
        refine V_iload 4 dX1_readNumber_41 rfl ?_
        refine V_iconst dX1_readNumber_43 rfl ?_
        refine V_icmp_eq 58 dX1_readNumber_44 (by decide) hv8 ir_m1 (fun c10 => ?_) (fun c10 => ?_)
        · replace E := mmI_t c10 E
          refine V_iload_n 2 dX1_readNumber_58 rfl ?_
          obtain rfl := Option.some.inj E
          exact V_reti dX1_readNumber_59 ⟨rfl, rfl, hr3⟩
        · replace E := mmI_f c10 E
          refine V_iload_n 2 dX1_readNumber_47 rfl ?_
          refine V_bipush (v := 10) dX1_readNumber_48 (by decide) ?_
          obtain ⟨hv11, E⟩ := mmK_e E
          refine V_imul dX1_readNumber_50 ?_
          refine V_iload 4 dX1_readNumber_51 rfl ?_
          obtain ⟨hv12, E⟩ := mmK_e E
          refine V_iadd dX1_readNumber_53 ?_
          refine V_iload_n 1 dX1_readNumber_54 rfl ?_
          refine V_icmp_le 60 dX1_readNumber_55 (by decide) hv12 hr2 (fun c13 => ?_) (fun c13 => ?_)
          · replace E := mmI_t c13 E
            refine V_iload_n 2 dX1_readNumber_60 rfl ?_
            refine V_bipush (v := 10) dX1_readNumber_61 (by decide) ?_
            obtain ⟨hv14, E⟩ := mmK_e E
            refine V_imul dX1_readNumber_63 ?_
            refine V_iload 4 dX1_readNumber_64 rfl ?_
            obtain ⟨hv15, E⟩ := mmK_e E
            refine V_iadd dX1_readNumber_66 ?_
            refine V_istore_n (i := 3) (lv' := [(0, .ref 45), (2, vi l2), (3, vi ((l3 * 10) + q7.1)), (4, vi l4), (5, vi q7.1)]) dX1_readNumber_67 rfl rfl rfl ?_
            refine V_aload_n 0 dX1_readNumber_68 rfl ?_
            refine V_dupa dX1_readNumber_69 ?_
            refine V_geti (ci := 1) (k := 7) (N := 8) (T := TX1) (v := (q7.2.1 45 7)) dX1_readNumber_70 iuX1 fl_X1_35 rfl (by decide) rfl sh_45 rfl (fun hv16 => ?_)
            refine V_iconst dX1_readNumber_73 rfl ?_
            obtain ⟨hv17, E⟩ := mmK_e E
            refine V_iadd dX1_readNumber_74 ?_
            refine V_put (ci := 1) (k := 7) (N := 8) (T := TX1) (x := ((q7.2.1 45 7) + 1)) (ty := .int) tyX1 dX1_readNumber_75 iuX1 tyX1_ok nmX1 fl_X1_35 rfl (by decide) rfl sh_45 rfl (by decide +kernel) rfl rfl hv17 ?_
            obtain ⟨hv18, E⟩ := mmK_e E
            refine V_iinc (v := (l4 + 1)) (lv' := [(0, .ref 45), (2, vi l2), (3, vi ((l3 * 10) + q7.1)), (4, vi (l4 + 1)), (5, vi q7.1)]) 3 dX1_readNumber_78 rfl rfl rfl rfl ?_
            refine V_goto 25 dX1_readNumber_81 (by decide) ?_
            refine V_sub [0, 1, 2, 3] rfl ?_
            exact ih _ _ _ _ hr2 hv15 hv18 E
          · replace E := mmI_f c13 E
            refine V_iload_n 2 dX1_readNumber_58 rfl ?_
            obtain rfl := Option.some.inj E
            exact V_reti dX1_readNumber_59 ⟨rfl, rfl, hr3⟩
noncomputable def f_X1_readNumber (l1 : Int) (l2 : Int) (m : Mem) : Option (Int × Mem) :=
  (f_X1_nextDigit m).bind (fun q1 => if l1 ≤ q1.1 then
(mmK (inR ((q1.2.1 45 7) + 1)) (f_X1_readNumber_L25 mmFU l2 q1.1 1 (mwr q1.2 45 7 ((q1.2.1 45 7) + 1))))
else
(some ((-1), q1.2)))
set_option maxRecDepth 100000 in
set_option maxHeartbeats 4000000 in
theorem ok_X1_readNumber {r : Int × Mem} : ∀ (l1 : Int) (l2 : Int) (m : Mem), inR l1 → inR l2 → f_X1_readNumber l1 l2 m = some r → VV RX1 cX1_readNumber 6 rm_X1_readNumber mmG0 (mmPi r) 0 [(0, .ref 45), (1, vi l1), (2, vi l2)] [] m := by
  intro l1 l2 m hr1 hr2 E
  unfold f_X1_readNumber at E
  refine V_aload_n 0 dX1_readNumber_0 rfl ?_
  obtain ⟨q1, hq1, E⟩ := mmB_e E
  refine V_callV (ci := 1) (q := (RX1, TX1, 8)) (Cn := RX1) (st := []) 0 dX1_readNumber_1 (ct_X1_nextDigit hq1) ml_X1_80 im_X1_nextDigit sl_X1_nextDigit it_X1 cd_X1_nextDigit hy_X1_nextDigit ⟨rfl, rfl, by decide, by decide⟩ sh_45 rfl rfl rfl rfl (Nat.le_of_ble_eq_true rfl) (fun hv2 => ?_)
  refine V_istore_n (i := 3) (lv' := [(0, .ref 45), (1, vi l1), (2, vi l2), (3, vi q1.1)]) dX1_readNumber_4 rfl rfl rfl ?_
  refine V_iload_n 3 dX1_readNumber_5 rfl ?_
  refine V_iload_n 1 dX1_readNumber_6 rfl ?_
  refine V_icmp_ge 12 dX1_readNumber_7 (by decide) hv2 hr1 (fun c3 => ?_) (fun c3 => ?_)
  · replace E := mmI_t c3 E
    refine V_aload_n 0 dX1_readNumber_12 rfl ?_
    refine V_dupa dX1_readNumber_13 ?_
    refine V_geti (ci := 1) (k := 7) (N := 8) (T := TX1) (v := (q1.2.1 45 7)) dX1_readNumber_14 iuX1 fl_X1_35 rfl (by decide) rfl sh_45 rfl (fun hv4 => ?_)
    refine V_iconst dX1_readNumber_17 rfl ?_
    obtain ⟨hv5, E⟩ := mmK_e E
    refine V_iadd dX1_readNumber_18 ?_
    refine V_put (ci := 1) (k := 7) (N := 8) (T := TX1) (x := ((q1.2.1 45 7) + 1)) (ty := .int) tyX1 dX1_readNumber_19 iuX1 tyX1_ok nmX1 fl_X1_35 rfl (by decide) rfl sh_45 rfl (by decide +kernel) rfl rfl hv5 ?_
    refine V_iconst dX1_readNumber_22 rfl ?_
    refine V_istore (lv' := [(0, .ref 45), (1, vi l1), (2, vi l2), (3, vi q1.1), (4, vi 1)]) dX1_readNumber_23 rfl rfl ?_
    refine V_sub [0, 2, 3, 4] rfl ?_
    exact ok_X1_readNumber_L25 mmFU _ _ _ _ hr2 hv2 ir_1 E
  · replace E := mmI_f c3 E
    refine V_iconst dX1_readNumber_10 rfl ?_
    obtain rfl := Option.some.inj E
    exact V_reti dX1_readNumber_11 ⟨rfl, rfl, ir_m1⟩
theorem ct_X1_readNumber {l1 : Int} {l2 : Int} {m : Mem} {r : Int × Mem} (hr1 : inR l1) (hr2 : inR l2) (E : f_X1_readNumber l1 l2 m = some r) : CTi yX1_readNumber cX1_readNumber 6 (some .int) rm_X1_readNumber [.ref 45, vi l1, vi l2] m r := CT_i (by decide +kernel) rfl (Nat.le_of_ble_eq_true rfl) (ok_X1_readNumber _ _ _ hr1 hr2 E)
theorem hy_X1_readNumber : yX1_readNumber.cls = RX1 ∧ yX1_readNumber.cls ≠ "java/lang/invoke/MethodHandle" ∧ yX1_readNumber.cls ≠ "java/lang/invoke/VarHandle" ∧ (parseMethodDescriptor yX1_readNumber.desc).map (fun d => d.parameters.length) = some 2 := by decide +kernel
