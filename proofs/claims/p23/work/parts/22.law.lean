def cellV (L : Nat) (xs : Nat → Int32) (k : Int) : Int := if (L : Int) ≤ k then w32 (2143606709 * (k + 1091)) else (xs k.toNat).toInt
theorem inR_cellV (L : Nat) (xs : Nat → Int32) (k : Int) : inR (cellV L xs k) := by
  unfold cellV
  split
  · exact inR_w32 _
  · exact inR_t _
abbrev rm_L_cell : Room := { frames := 0, cells := 0, slots := 0, locals := 0 }
theorem hz_L_cell : yL_cell.cls ≠ "java/lang/invoke/MethodHandle" ∧ yL_cell.cls ≠ "java/lang/invoke/VarHandle" ∧ (parseMethodDescriptor yL_cell.desc).map (fun d => d.parameters.length) = some 2 := by decide +kernel
section SCR
variable {own : String} {cc : ByteArray} {nL : Nat} {R : Room} {L : Nat} {xs : Nat → Int32} {Po : Option Value → Mem2 → Prop} {pc : Nat} {lv : List (Nat × Value)} {st : List Value} {m : Mem2}
theorem X_slen (hd : decode cc pc = .ok (.arraylength, 1)) (k : V2 own cc nL R (mm2L L xs) Po (pc + 1) lv (vi (L : Int) :: st) m) : V2 own cc nL R (mm2L L xs) Po pc lv (.ref 102 :: st) m := by
  intro p l e s mi args below meth c cells slots Q D cy ad A C H locs ls hR hP hS hl
  obtain ⟨hX, hb, hA⟩ := C.2.2.2.2.2.2.2.2.2.1
  refine va_slen C.1 C.2.1 hX hb hA hS hd ?_
  have e : Int32.ofNat L = Int32.ofInt (L : Int) := Int32.ofInt_eq_ofNat.symm
  rw [e]
  exact k C hR hP hS hl
theorem X_sld {i : Int} (hd : decode cc pc = .ok (.iaload, 1)) (hi : inR i) (hin : 0 ≤ i ∧ i < (L : Int)) (k : V2 own cc nL R (mm2L L xs) Po (pc + 1) lv (vi (xs i.toNat).toInt :: st) m) : V2 own cc nL R (mm2L L xs) Po pc lv (vi i :: .ref 102 :: st) m := by
  intro p l e s mi args below meth c cells slots Q D cy ad A C H locs ls hR hP hS hl
  obtain ⟨hX, hb, hA⟩ := C.2.2.2.2.2.2.2.2.2.1
  refine va_sld C.1 C.2.1 hX hb hA hS (oi_in hi hin) hd ?_
  rw [oi_cl hi]
  have e : Value.int (xs i.toNat) = vi (xs i.toNat).toInt := by show _ = Value.int (Int32.ofInt (xs i.toNat).toInt); rw [Int32.ofInt_toInt]
  rw [e]
  exact k C hR hP hS hl
end SCR
theorem ct_cell {L : Nat} {xs : Nat → Int32} {k : Int} (m : Mem2) (hL : L ≤ 260) (hk : inR k) (h0 : 0 ≤ k ∧ k ≤ 1000) : CT2 (mm2L L xs) yL_cell cL_cell 2 (some .int) rm_L_cell [.ref 102, vi k] m (cellV L xs k, m) := by
  refine CT_i2 (own := RL) (by decide +kernel) rfl (Nat.le_of_ble_eq_true rfl) ?_
  refine X_iload_n 1 dL_cell_0 rfl ?_
  refine X_aload_n 0 dL_cell_1 rfl ?_
  refine X_slen dL_cell_2 ?_
  have hLR : inR (L : Int) := by constructor <;> omega
  refine X_icmp_ge 12 dL_cell_3 (by decide) hk hLR (fun h => ?_) (fun h => ?_)
  · refine X_ldc (v := 2143606709) dL_cell_12 kc_XL_7 ?_
    refine X_iload_n 1 dL_cell_14 rfl ?_
    refine X_sipush (v := 1091) dL_cell_15 (by decide) ?_
    refine X_iadd dL_cell_18 ?_
    refine X_imulw dL_cell_19 ?_
    refine X_reti dL_cell_20 ⟨?_, rfl, inR_cellV L xs k⟩
    unfold cellV
    rw [if_pos h]
  · refine X_aload_n 0 dL_cell_6 rfl ?_
    refine X_iload_n 1 dL_cell_7 rfl ?_
    refine X_sld dL_cell_8 hk ⟨h0.1, by omega⟩ ?_
    refine X_goto 20 dL_cell_9 (by decide) ?_
    refine X_reti dL_cell_20 ⟨?_, rfl, inR_cellV L xs k⟩
    unfold cellV
    rw [if_neg h]
abbrev rm_L_up : Room := { frames := 0, cells := 0, slots := 0, locals := 0 }
noncomputable def f_L_up (l0 : Int) (l1 : Int) (m : Mem2) : Option (Int × Mem2) :=
  mmK (0 ≤ (and7 l0) ∧ 0 < (l1 : Int)) (some (((and7 l0) % l1), m))
set_option maxRecDepth 100000 in
set_option maxHeartbeats 4000000 in
theorem ok_L_up {r : Int × Mem2} : ∀ (l0 : Int) (l1 : Int) (m : Mem2), inR l0 → inR l1 → f_L_up l0 l1 m = some r → V2 RL cL_up 2 rm_L_up mmG0 (mm2Pi r) 0 [(0, vi l0), (1, vi l1)] [] m := by
  intro l0 l1 m hr0 hr1 E
  unfold f_L_up at E
  refine X_iload_n 0 dL_up_0 rfl ?_
  refine X_ldc (v := 2147483647) dL_up_1 kc_XL_8 ?_
  refine X_iand dL_up_3 ?_
  refine X_iload_n 1 dL_up_4 rfl ?_
  obtain ⟨hv1, E⟩ := mmK_e E
  refine X_irem dL_up_5 (inR_and7 l0) hr1 hv1 ?_
  obtain rfl := Option.some.inj E
  exact X_reti dL_up_6 ⟨rfl, rfl, (inR_rem hr1 hv1)⟩
theorem ct_L_up {l0 : Int} {l1 : Int} {m : Mem2} {r : Int × Mem2} (hr0 : inR l0) (hr1 : inR l1) (E : f_L_up l0 l1 m = some r) : CT2 mmG0 yL_up cL_up 2 (some .int) rm_L_up [vi l0, vi l1] m r := CT_i2 (by decide +kernel) rfl (Nat.le_of_ble_eq_true rfl) (ok_L_up _ _ _ hr0 hr1 E)
theorem hz_L_up : yL_up.cls ≠ "java/lang/invoke/MethodHandle" ∧ yL_up.cls ≠ "java/lang/invoke/VarHandle" ∧ (parseMethodDescriptor yL_up.desc).map (fun d => d.parameters.length) = some 2 := by decide +kernel
abbrev rm_L_there : Room := { frames := 0, cells := 0, slots := 0, locals := 0 }
noncomputable def f_L_there (l0 : Int) (m : Mem2) : Option (Int × Mem2) :=
  if l0 < 0 then
(some (l0, m))
else
(if l0 = 1000 then
(some (l0, m))
else
(mmK (inR (l0 + 338)) (some ((l0 + 338), m))))
set_option maxRecDepth 100000 in
set_option maxHeartbeats 4000000 in
theorem ok_L_there {r : Int × Mem2} : ∀ (l0 : Int) (m : Mem2), inR l0 → f_L_there l0 m = some r → V2 RL cL_there 1 rm_L_there mmG0 (mm2Pi r) 0 [(0, vi l0)] [] m := by
  intro l0 m hr0 E
  unfold f_L_there at E
  refine X_iload_n 0 dL_there_0 rfl ?_
  refine X_if_lt 11 dL_there_1 (by decide) hr0 (fun c1 => ?_) (fun c1 => ?_)
  · replace E := mmI_t c1 E
    refine X_iload_n 0 dL_there_11 rfl ?_
    refine X_goto 20 dL_there_12 (by decide) ?_
    obtain rfl := Option.some.inj E
    exact X_reti dL_there_20 ⟨rfl, rfl, hr0⟩
  · replace E := mmI_f c1 E
    refine X_iload_n 0 dL_there_4 rfl ?_
    refine X_sipush (v := 1000) dL_there_5 (by decide) ?_
    refine X_icmp_ne 15 dL_there_8 (by decide) hr0 ir_1000 (fun c2 => ?_) (fun c2 => ?_)
    · replace E := mmI_f c2 E
      refine X_iload_n 0 dL_there_15 rfl ?_
      refine X_sipush (v := 338) dL_there_16 (by decide) ?_
      obtain ⟨hv3, E⟩ := mmK_e E
      refine X_iadd dL_there_19 ?_
      obtain rfl := Option.some.inj E
      exact X_reti dL_there_20 ⟨rfl, rfl, hv3⟩
    · replace E := mmI_t c2 E
      refine X_iload_n 0 dL_there_11 rfl ?_
      refine X_goto 20 dL_there_12 (by decide) ?_
      obtain rfl := Option.some.inj E
      exact X_reti dL_there_20 ⟨rfl, rfl, hr0⟩
theorem ct_L_there {l0 : Int} {m : Mem2} {r : Int × Mem2} (hr0 : inR l0) (E : f_L_there l0 m = some r) : CT2 mmG0 yL_there cL_there 1 (some .int) rm_L_there [vi l0] m r := CT_i2 (by decide +kernel) rfl (Nat.le_of_ble_eq_true rfl) (ok_L_there _ _ hr0 E)
theorem hz_L_there : yL_there.cls ≠ "java/lang/invoke/MethodHandle" ∧ yL_there.cls ≠ "java/lang/invoke/VarHandle" ∧ (parseMethodDescriptor yL_there.desc).map (fun d => d.parameters.length) = some 1 := by decide +kernel
abbrev rm_L_name : Room := { frames := 2, cells := 0, slots := 0, locals := 42 }
noncomputable def f_L_name (l1 : Int) (m : Mem2) : Option (Int × Mem2) :=
  mmK (0 ≤ l1 ∧ 0 < (26 : Int)) (mmK (inR (l1 / 26)) (mmK (inR (65 + (l1 / 26))) ((mmP (f_X3_type ((65 + (l1 / 26)) % 65536)) m).bind (fun q4 => if q4.1 ≤ 0 then
(some (0, q4.2))
else
(mmK (0 ≤ l1 ∧ 0 < (26 : Int)) (mmK (inR (65 + (l1 % 26))) ((mmP (f_X3_type ((65 + (l1 % 26)) % 65536)) q4.2).bind (fun q9 => if q9.1 ≤ 0 then
(some (0, q9.2))
else
(some (1, q9.2))))))))))
set_option maxRecDepth 100000 in
set_option maxHeartbeats 4000000 in
theorem ok_L_name {r : Int × Mem2} : ∀ (l1 : Int) (m : Mem2), inR l1 → f_L_name l1 m = some r → V2 RL cL_name 2 rm_L_name mmG0 (mm2Pz r) 0 [(0, .ref 51), (1, vi l1)] [] m := by
  intro l1 m hr1 E
  unfold f_L_name at E
  refine X_aload_n 0 dL_name_0 rfl ?_
  refine X_bipush (v := 65) dL_name_1 (by decide) ?_
  refine X_iload_n 1 dL_name_3 rfl ?_
  refine X_bipush (v := 26) dL_name_4 (by decide) ?_
  obtain ⟨hv1, E⟩ := mmK_e E
  obtain ⟨hv2, E⟩ := mmK_e E
  refine X_idiv dL_name_6 hr1 ir_26 hv1 ?_
  obtain ⟨hv3, E⟩ := mmK_e E
  refine X_iadd dL_name_7 ?_
  refine X_i2c dL_name_8 ?_
  obtain ⟨q4, hq4, E⟩ := mmB_e E
  refine X_callP (zs := [((65 + (l1 / 26)) % 65536)]) (st := []) 1 dL_name_9 hq4 (fun r hr => ct_X3_type (inR_modc _) hr) ml_XL_11 im_X3_type sl_X3_type it_X3 cd_X3_type hy_X3_type ⟨rfl, rfl, by decide, by decide⟩ rfl rfl (Nat.le_of_ble_eq_true rfl) (fun hv5 => ?_)
  refine X_if_le 34 dL_name_12 (by decide) hv5 (fun c6 => ?_) (fun c6 => ?_)
  · replace E := mmI_t c6 E
    refine X_iconst dL_name_34 rfl ?_
    obtain rfl := Option.some.inj E
    exact X_reti dL_name_35 ⟨rfl, rfl, (Or.inl rfl)⟩
  · replace E := mmI_f c6 E
    refine X_aload_n 0 dL_name_15 rfl ?_
    refine X_bipush (v := 65) dL_name_16 (by decide) ?_
    refine X_iload_n 1 dL_name_18 rfl ?_
    refine X_bipush (v := 26) dL_name_19 (by decide) ?_
    obtain ⟨hv7, E⟩ := mmK_e E
    refine X_irem dL_name_21 hr1 ir_26 hv7 ?_
    obtain ⟨hv8, E⟩ := mmK_e E
    refine X_iadd dL_name_22 ?_
    refine X_i2c dL_name_23 ?_
    obtain ⟨q9, hq9, E⟩ := mmB_e E
    refine X_callP (zs := [((65 + (l1 % 26)) % 65536)]) (st := []) 1 dL_name_24 hq9 (fun r hr => ct_X3_type (inR_modc _) hr) ml_XL_11 im_X3_type sl_X3_type it_X3 cd_X3_type hy_X3_type ⟨rfl, rfl, by decide, by decide⟩ rfl rfl (Nat.le_of_ble_eq_true rfl) (fun hv10 => ?_)
    refine X_if_le 34 dL_name_27 (by decide) hv10 (fun c11 => ?_) (fun c11 => ?_)
    · replace E := mmI_t c11 E
      refine X_iconst dL_name_34 rfl ?_
      obtain rfl := Option.some.inj E
      exact X_reti dL_name_35 ⟨rfl, rfl, (Or.inl rfl)⟩
    · replace E := mmI_f c11 E
      refine X_iconst dL_name_30 rfl ?_
      refine X_goto 35 dL_name_31 (by decide) ?_
      obtain rfl := Option.some.inj E
      exact X_reti dL_name_35 ⟨rfl, rfl, (Or.inr rfl)⟩
theorem ct_L_name {l1 : Int} {m : Mem2} {r : Int × Mem2} (hr1 : inR l1) (E : f_L_name l1 m = some r) : CT2 mmG0 yL_name cL_name 2 (some .boolean) rm_L_name [.ref 51, vi l1] m r := CT_z2 (by decide +kernel) rfl (Nat.le_of_ble_eq_true rfl) (ok_L_name _ _ hr1 E)
theorem hz_L_name : yL_name.cls ≠ "java/lang/invoke/MethodHandle" ∧ yL_name.cls ≠ "java/lang/invoke/VarHandle" ∧ (parseMethodDescriptor yL_name.desc).map (fun d => d.parameters.length) = some 2 := by decide +kernel
abbrev rm_L_number : Room := { frames := 2, cells := 0, slots := 0, locals := 42 }
noncomputable def f_L_number_L39 : Nat → Int → Int → Int → Mem2 → Option (Int × Mem2)
  | 0, _, _, _, _ => none
  | n + 1, l1, l2, l3, m =>
    if l3 ≤ 0 then
(mmK (l2 = 0 ∨ l2 = 1) (some (l2, m)))
else
(if l2 = 0 then
(mmK (0 ≤ l3 ∧ 0 < (10 : Int)) (mmK (inR (l3 / 10)) (f_L_number_L39 n l1 0 (l3 / 10) m)))
else
(mmK (0 ≤ l1 ∧ 0 < (l3 : Int)) (mmK (inR (l1 / l3)) (mmK (0 ≤ (l1 / l3) ∧ 0 < (10 : Int)) (mmK (inR (48 + ((l1 / l3) % 10))) ((mmP (f_X3_type ((48 + ((l1 / l3) % 10)) % 65536)) m).bind (fun q13 => if q13.1 ≤ 0 then
(mmK (0 ≤ l3 ∧ 0 < (10 : Int)) (mmK (inR (l3 / 10)) (f_L_number_L39 n l1 0 (l3 / 10) q13.2)))
else
(mmK (0 ≤ l3 ∧ 0 < (10 : Int)) (mmK (inR (l3 / 10)) (f_L_number_L39 n l1 1 (l3 / 10) q13.2))))))))))
set_option maxRecDepth 100000 in
set_option maxHeartbeats 4000000 in
theorem ok_L_number_L39 {r : Int × Mem2} : ∀ (n : Nat), ∀ (l1 : Int) (l2 : Int) (l3 : Int) (m : Mem2), inR l1 → inR l2 → inR l3 → f_L_number_L39 n l1 l2 l3 m = some r → V2 RL cL_number 4 rm_L_number mmG0 (mm2Pz r) 39 [(0, .ref 51), (1, vi l1), (2, vi l2), (3, vi l3)] [] m := by
  intro n
  induction n with
  | zero =>
    intro l1 l2 l3 m hr1 hr2 hr3 E
    cases E
  | succ n ih =>
    intro l1 l2 l3 m hr1 hr2 hr3 E
    rw [f_L_number_L39] at E
    refine X_iload_n 3 dL_number_39 rfl ?_
    refine X_if_le 78 dL_number_40 (by decide) hr3 (fun c4 => ?_) (fun c4 => ?_)
    · replace E := mmI_t c4 E
      refine X_iload_n 2 dL_number_78 rfl ?_
      obtain ⟨hz5, E⟩ := mmK_e E
      obtain rfl := Option.some.inj E
      exact X_reti dL_number_79 ⟨rfl, rfl, hz5⟩
    · replace E := mmI_f c4 E
      refine X_iload_n 2 dL_number_43 rfl ?_
      refine X_if_eq 68 dL_number_44 (by decide) hr2 (fun c6 => ?_) (fun c6 => ?_)
      · replace E := mmI_t c6 E
        refine X_iconst dL_number_68 rfl ?_
        refine X_istore_n (i := 2) (lv' := [(0, .ref 51), (1, vi l1), (2, vi 0), (3, vi l3)]) dL_number_69 rfl rfl rfl ?_
        refine X_iload_n 3 dL_number_70 rfl ?_
        refine X_bipush (v := 10) dL_number_71 (by decide) ?_
        obtain ⟨hv7, E⟩ := mmK_e E
        obtain ⟨hv8, E⟩ := mmK_e E
        refine X_idiv dL_number_73 hr3 ir_10 hv7 ?_
        refine X_istore_n (i := 3) (lv' := [(0, .ref 51), (1, vi l1), (2, vi 0), (3, vi (l3 / 10))]) dL_number_74 rfl rfl rfl ?_
        refine X_goto 39 dL_number_75 (by decide) ?_
        exact ih _ _ _ _ hr1 ir_0 hv8 E
      · replace E := mmI_f c6 E
        refine X_aload_n 0 dL_number_47 rfl ?_
        refine X_bipush (v := 48) dL_number_48 (by decide) ?_
        refine X_iload_n 1 dL_number_50 rfl ?_
        refine X_iload_n 3 dL_number_51 rfl ?_
        obtain ⟨hv9, E⟩ := mmK_e E
        obtain ⟨hv10, E⟩ := mmK_e E
        refine X_idiv dL_number_52 hr1 hr3 hv9 ?_
        refine X_bipush (v := 10) dL_number_53 (by decide) ?_
        obtain ⟨hv11, E⟩ := mmK_e E
        refine X_irem dL_number_55 hv10 ir_10 hv11 ?_
        obtain ⟨hv12, E⟩ := mmK_e E
        refine X_iadd dL_number_56 ?_
        refine X_i2c dL_number_57 ?_
        obtain ⟨q13, hq13, E⟩ := mmB_e E
        refine X_callP (zs := [((48 + ((l1 / l3) % 10)) % 65536)]) (st := []) 1 dL_number_58 hq13 (fun r hr => ct_X3_type (inR_modc _) hr) ml_XL_11 im_X3_type sl_X3_type it_X3 cd_X3_type hy_X3_type ⟨rfl, rfl, by decide, by decide⟩ rfl rfl (Nat.le_of_ble_eq_true rfl) (fun hv14 => ?_)
        refine X_if_le 68 dL_number_61 (by decide) hv14 (fun c15 => ?_) (fun c15 => ?_)
        · replace E := mmI_t c15 E
          refine X_iconst dL_number_68 rfl ?_
          refine X_istore_n (i := 2) (lv' := [(0, .ref 51), (1, vi l1), (2, vi 0), (3, vi l3)]) dL_number_69 rfl rfl rfl ?_
          refine X_iload_n 3 dL_number_70 rfl ?_
          refine X_bipush (v := 10) dL_number_71 (by decide) ?_
          obtain ⟨hv16, E⟩ := mmK_e E
          obtain ⟨hv17, E⟩ := mmK_e E
          refine X_idiv dL_number_73 hr3 ir_10 hv16 ?_
          refine X_istore_n (i := 3) (lv' := [(0, .ref 51), (1, vi l1), (2, vi 0), (3, vi (l3 / 10))]) dL_number_74 rfl rfl rfl ?_
          refine X_goto 39 dL_number_75 (by decide) ?_
          exact ih _ _ _ _ hr1 ir_0 hv17 E
        · replace E := mmI_f c15 E
          refine X_iconst dL_number_64 rfl ?_
          refine X_goto 69 dL_number_65 (by decide) ?_
          refine X_istore_n (i := 2) (lv' := [(0, .ref 51), (1, vi l1), (2, vi 1), (3, vi l3)]) dL_number_69 rfl rfl rfl ?_
          refine X_iload_n 3 dL_number_70 rfl ?_
          refine X_bipush (v := 10) dL_number_71 (by decide) ?_
          obtain ⟨hv18, E⟩ := mmK_e E
          obtain ⟨hv19, E⟩ := mmK_e E
          refine X_idiv dL_number_73 hr3 ir_10 hv18 ?_
          refine X_istore_n (i := 3) (lv' := [(0, .ref 51), (1, vi l1), (2, vi 1), (3, vi (l3 / 10))]) dL_number_74 rfl rfl rfl ?_
          refine X_goto 39 dL_number_75 (by decide) ?_
          exact ih _ _ _ _ hr1 ir_1 hv19 E
noncomputable def f_L_number (l1 : Int) (m : Mem2) : Option (Int × Mem2) :=
  if l1 ≤ 999 then
(if l1 ≤ 99 then
(if l1 ≤ 9 then
(f_L_number_L39 mmFU l1 1 1 m)
else
(f_L_number_L39 mmFU l1 1 10 m))
else
(f_L_number_L39 mmFU l1 1 100 m))
else
(f_L_number_L39 mmFU l1 1 1000 m)
set_option maxRecDepth 100000 in
set_option maxHeartbeats 4000000 in
theorem ok_L_number {r : Int × Mem2} : ∀ (l1 : Int) (m : Mem2), inR l1 → f_L_number l1 m = some r → V2 RL cL_number 4 rm_L_number mmG0 (mm2Pz r) 0 [(0, .ref 51), (1, vi l1)] [] m := by
  intro l1 m hr1 E
  unfold f_L_number at E
  refine X_iconst dL_number_0 rfl ?_
  refine X_istore_n (i := 2) (lv' := [(0, .ref 51), (1, vi l1), (2, vi 1)]) dL_number_1 rfl rfl rfl ?_
  refine X_iload_n 1 dL_number_2 rfl ?_
  refine X_sipush (v := 999) dL_number_3 (by decide) ?_
  refine X_icmp_le 15 dL_number_6 (by decide) hr1 ir_999 (fun c1 => ?_) (fun c1 => ?_)
  · replace E := mmI_t c1 E
    refine X_iload_n 1 dL_number_15 rfl ?_
    refine X_bipush (v := 99) dL_number_16 (by decide) ?_
    refine X_icmp_le 26 dL_number_18 (by decide) hr1 ir_99 (fun c2 => ?_) (fun c2 => ?_)
    · replace E := mmI_t c2 E
      refine X_iload_n 1 dL_number_26 rfl ?_
      refine X_bipush (v := 9) dL_number_27 (by decide) ?_
      refine X_icmp_le 37 dL_number_29 (by decide) hr1 ir_9 (fun c3 => ?_) (fun c3 => ?_)
      · replace E := mmI_t c3 E
        refine X_iconst dL_number_37 rfl ?_
        refine X_istore_n (i := 3) (lv' := [(0, .ref 51), (1, vi l1), (2, vi 1), (3, vi 1)]) dL_number_38 rfl rfl rfl ?_
        exact ok_L_number_L39 mmFU _ _ _ _ hr1 ir_1 ir_1 E
      · replace E := mmI_f c3 E
        refine X_bipush (v := 10) dL_number_32 (by decide) ?_
        refine X_goto 38 dL_number_34 (by decide) ?_
        refine X_istore_n (i := 3) (lv' := [(0, .ref 51), (1, vi l1), (2, vi 1), (3, vi 10)]) dL_number_38 rfl rfl rfl ?_
        exact ok_L_number_L39 mmFU _ _ _ _ hr1 ir_1 ir_10 E
    · replace E := mmI_f c2 E
      refine X_bipush (v := 100) dL_number_21 (by decide) ?_
      refine X_goto 38 dL_number_23 (by decide) ?_
      refine X_istore_n (i := 3) (lv' := [(0, .ref 51), (1, vi l1), (2, vi 1), (3, vi 100)]) dL_number_38 rfl rfl rfl ?_
      exact ok_L_number_L39 mmFU _ _ _ _ hr1 ir_1 ir_100 E
  · replace E := mmI_f c1 E
    refine X_sipush (v := 1000) dL_number_9 (by decide) ?_
    refine X_goto 38 dL_number_12 (by decide) ?_
    refine X_istore_n (i := 3) (lv' := [(0, .ref 51), (1, vi l1), (2, vi 1), (3, vi 1000)]) dL_number_38 rfl rfl rfl ?_
    exact ok_L_number_L39 mmFU _ _ _ _ hr1 ir_1 ir_1000 E
theorem ct_L_number {l1 : Int} {m : Mem2} {r : Int × Mem2} (hr1 : inR l1) (E : f_L_number l1 m = some r) : CT2 mmG0 yL_number cL_number 4 (some .boolean) rm_L_number [.ref 51, vi l1] m r := CT_z2 (by decide +kernel) rfl (Nat.le_of_ble_eq_true rfl) (ok_L_number _ _ hr1 E)
theorem hz_L_number : yL_number.cls ≠ "java/lang/invoke/MethodHandle" ∧ yL_number.cls ≠ "java/lang/invoke/VarHandle" ∧ (parseMethodDescriptor yL_number.desc).map (fun d => d.parameters.length) = some 2 := by decide +kernel
