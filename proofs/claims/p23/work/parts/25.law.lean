noncomputable def f_L_law_L82 (L : Nat) (xs : Nat → Int32) (l3 : Int) (m : Mem2) : Option (Int × Mem2) :=
  if l3 = 0 then
(some (0, m))
else
((f_L_isWell m).bind (fun q3 => if q3.1 = 0 then
(some (0, q3.2))
else
((f_L_areAlike q3.2).bind (fun q6 => if q6.1 = 0 then
(some (0, q6.2))
else
(some (1, q6.2))))))
set_option maxRecDepth 100000 in
set_option maxHeartbeats 4000000 in
theorem ok_L_law_L82 {L : Nat} {xs : Nat → Int32} (hL : L ≤ 260) {r : Int × Mem2} : ∀ (l3 : Int) (m : Mem2), inR l3 → f_L_law_L82 L xs l3 m = some r → V2 RL cL_law 5 room_1 (mm2L L xs) (mm2Pz r) 82 [(1, .ref 0), (2, .ref 51), (3, vi l3)] [] m := by
  intro l3 m hr3 E
  unfold f_L_law_L82 at E
  refine X_iload_n 2 dL_law_82 rfl ?_
  refine X_if_eq 105 dL_law_83 (by decide) hr3 (fun c2 => ?_) (fun c2 => ?_)
  · replace E := mmI_t c2 E
    refine X_iconst dL_law_105 rfl ?_
    obtain rfl := Option.some.inj E
    exact X_reti dL_law_106 ⟨rfl, rfl, (Or.inl rfl)⟩
  · replace E := mmI_f c2 E
    refine X_aload_n 0 dL_law_86 rfl ?_
    obtain ⟨q3, hq3, E⟩ := mmB_e E
    refine X_callS (st := []) (GP0 _) GB0 1 dL_law_87 (ct_L_isWell hq3) ml_XL_91 st_L_isWell it_XL cd_L_isWell hz_L_isWell ⟨rfl, rfl, by decide, by decide⟩ rfl rfl (Nat.le_of_ble_eq_true rfl) (fun hv4 => ?_)
    refine X_if_eq 105 dL_law_90 (by decide) hv4 (fun c5 => ?_) (fun c5 => ?_)
    · replace E := mmI_t c5 E
      refine X_iconst dL_law_105 rfl ?_
      obtain rfl := Option.some.inj E
      exact X_reti dL_law_106 ⟨rfl, rfl, (Or.inl rfl)⟩
    · replace E := mmI_f c5 E
      refine X_aload_n 0 dL_law_93 rfl ?_
      refine X_aload_n 1 dL_law_94 rfl ?_
      obtain ⟨q6, hq6, E⟩ := mmB_e E
      refine X_callS (st := []) (GP0 _) GB0 2 dL_law_95 (ct_L_areAlike hq6) ml_XL_95 st_L_areAlike it_XL cd_L_areAlike hz_L_areAlike ⟨rfl, rfl, by decide, by decide⟩ rfl rfl (Nat.le_of_ble_eq_true rfl) (fun hv7 => ?_)
      refine X_if_eq 105 dL_law_98 (by decide) hv7 (fun c8 => ?_) (fun c8 => ?_)
      · replace E := mmI_t c8 E
        refine X_iconst dL_law_105 rfl ?_
        obtain rfl := Option.some.inj E
        exact X_reti dL_law_106 ⟨rfl, rfl, (Or.inl rfl)⟩
      · replace E := mmI_f c8 E
        refine X_iconst dL_law_101 rfl ?_
        refine X_goto 106 dL_law_102 (by decide) ?_
        obtain rfl := Option.some.inj E
        exact X_reti dL_law_106 ⟨rfl, rfl, (Or.inr rfl)⟩
noncomputable def f_L_law_L21 (L : Nat) (xs : Nat → Int32) : Nat → Int → Int → Mem2 → Option (Int × Mem2)
  | 0, _, _, _ => none
  | n + 1, l3, l4, m =>
    if 52 ≤ l4 then
(f_L_law_L82 L xs l3 m)
else
(if l3 = 0 then
(f_L_law_L82 L xs l3 m)
else
(mmK (0 ≤ l4 ∧ l4 ≤ 1000) (mmK (inR (l4 + 1)) (mmK (0 ≤ (l4 + 1) ∧ (l4 + 1) ≤ 1000) ((f_L_isStep (cellV L xs l4) (shr (cellV L xs (l4 + 1)) 2) m).bind (fun q17 => if q17.1 = 0 then
(mmK (inR (l4 + 1)) (f_L_law_L21 L xs n 0 (l4 + 1) q17.2))
else
(mmK (0 ≤ l4 ∧ 0 < (3 : Int)) (if 0 < (l4 % 3) then
(mmK (inR (l4 + 1)) (f_L_law_L21 L xs n 1 (l4 + 1) q17.2))
else
((f_L_isWell q17.2).bind (fun q24 => if q24.1 = 0 then
(mmK (inR (l4 + 1)) (f_L_law_L21 L xs n 0 (l4 + 1) q24.2))
else
(mmK (inR (l4 + 1)) (f_L_law_L21 L xs n 1 (l4 + 1) q24.2))))))))))))
set_option maxRecDepth 100000 in
set_option maxHeartbeats 4000000 in
theorem ok_L_law_L21 {L : Nat} {xs : Nat → Int32} (hL : L ≤ 260) {r : Int × Mem2} : ∀ (n : Nat), ∀ (l3 : Int) (l4 : Int) (m : Mem2), inR l3 → inR l4 → f_L_law_L21 L xs n l3 l4 m = some r → V2 RL cL_law 5 room_1 (mm2L L xs) (mm2Pz r) 21 [(0, .ref 102), (1, .ref 0), (2, .ref 51), (3, vi l3), (4, vi l4)] [] m := by
  intro n
  induction n with
  | zero =>
    intro l3 l4 m hr3 hr4 E
    cases E
  | succ n ih =>
    intro l3 l4 m hr3 hr4 E
    rw [f_L_law_L21] at E
    refine X_iload 4 dL_law_21 rfl ?_
    refine X_bipush (v := 52) dL_law_23 (by decide) ?_
    refine X_icmp_ge 82 dL_law_25 (by decide) hr4 ir_52 (fun c1 => ?_) (fun c1 => ?_)
    · replace E := mmI_t c1 E
      refine X_sub [1, 2, 3] rfl ?_
      exact ok_L_law_L82 hL _ _ hr3 E
    · replace E := mmI_f c1 E
      refine X_iload_n 3 dL_law_28 rfl ?_
      refine X_if_eq 82 dL_law_29 (by decide) hr3 (fun c9 => ?_) (fun c9 => ?_)
      · replace E := mmI_t c9 E
        refine X_sub [1, 2, 3] rfl ?_
        exact ok_L_law_L82 hL _ _ hr3 E
      · replace E := mmI_f c9 E
        refine X_aload_n 1 dL_law_32 rfl ?_
        refine X_aload_n 2 dL_law_33 rfl ?_
        refine X_aload_n 0 dL_law_34 rfl ?_
        refine X_iload 4 dL_law_35 rfl ?_
        obtain ⟨hv12, E⟩ := mmK_e E
        refine X_callS (st := [.ref 51, .ref 0]) GPL GBL 2 dL_law_37 (ct_cell m hL hr4 hv12) ml_XL_83 st_L_cell it_XL cd_L_cell hz_L_cell ⟨rfl, rfl, by decide, by decide⟩ rfl rfl (Nat.le_of_ble_eq_true rfl) (fun hv11 => ?_)
        refine X_aload_n 0 dL_law_40 rfl ?_
        refine X_iload 4 dL_law_41 rfl ?_
        refine X_iconst dL_law_43 rfl ?_
        obtain ⟨hv13, E⟩ := mmK_e E
        refine X_iadd dL_law_44 ?_
        obtain ⟨hv16, E⟩ := mmK_e E
        refine X_callS (st := [vi (cellV L xs l4), .ref 51, .ref 0]) GPL GBL 2 dL_law_45 (ct_cell m hL hv13 hv16) ml_XL_83 st_L_cell it_XL cd_L_cell hz_L_cell ⟨rfl, rfl, by decide, by decide⟩ rfl rfl (Nat.le_of_ble_eq_true rfl) (fun hv15 => ?_)
        refine X_iconst dL_law_48 rfl ?_
        refine X_ishr dL_law_49 ?_
        obtain ⟨q17, hq17, E⟩ := mmB_e E
        refine X_callS (st := []) (GP0 _) GB0 4 dL_law_50 (ct_L_isStep hv11 (inR_shr (cellV L xs (l4 + 1)) 2) hq17) ml_XL_87 st_L_isStep it_XL cd_L_isStep hz_L_isStep ⟨rfl, rfl, by decide, by decide⟩ rfl rfl (Nat.le_of_ble_eq_true rfl) (fun hv18 => ?_)
        refine X_if_eq 74 dL_law_53 (by decide) hv18 (fun c19 => ?_) (fun c19 => ?_)
        · replace E := mmI_t c19 E
          refine X_iconst dL_law_74 rfl ?_
          refine X_istore_n (i := 3) (lv' := [(0, .ref 102), (1, .ref 0), (2, .ref 51), (3, vi 0), (4, vi l4)]) dL_law_75 rfl rfl rfl ?_
          obtain ⟨hv20, E⟩ := mmK_e E
          refine X_iinc (v := (l4 + 1)) (lv' := [(0, .ref 102), (1, .ref 0), (2, .ref 51), (3, vi 0), (4, vi (l4 + 1))]) 4 dL_law_76 rfl rfl rfl rfl ?_
          refine X_goto 21 dL_law_79 (by decide) ?_
          exact ih _ _ _ ir_0 hv20 E
        · replace E := mmI_f c19 E
          refine X_iload 4 dL_law_56 rfl ?_
          refine X_iconst dL_law_58 rfl ?_
          obtain ⟨hv21, E⟩ := mmK_e E
          refine X_irem dL_law_59 hr4 ir_3 hv21 ?_
          refine X_if_gt 70 dL_law_60 (by decide) (inR_rem ir_3 hv21) (fun c22 => ?_) (fun c22 => ?_)
          · replace E := mmI_t c22 E
            refine X_iconst dL_law_70 rfl ?_
            refine X_goto 75 dL_law_71 (by decide) ?_
            refine X_istore_n (i := 3) (lv' := [(0, .ref 102), (1, .ref 0), (2, .ref 51), (3, vi 1), (4, vi l4)]) dL_law_75 rfl rfl rfl ?_
            obtain ⟨hv23, E⟩ := mmK_e E
            refine X_iinc (v := (l4 + 1)) (lv' := [(0, .ref 102), (1, .ref 0), (2, .ref 51), (3, vi 1), (4, vi (l4 + 1))]) 4 dL_law_76 rfl rfl rfl rfl ?_
            refine X_goto 21 dL_law_79 (by decide) ?_
            exact ih _ _ _ ir_1 hv23 E
          · replace E := mmI_f c22 E
            refine X_aload_n 1 dL_law_63 rfl ?_
            obtain ⟨q24, hq24, E⟩ := mmB_e E
            refine X_callS (st := []) (GP0 _) GB0 1 dL_law_64 (ct_L_isWell hq24) ml_XL_91 st_L_isWell it_XL cd_L_isWell hz_L_isWell ⟨rfl, rfl, by decide, by decide⟩ rfl rfl (Nat.le_of_ble_eq_true rfl) (fun hv25 => ?_)
            refine X_if_eq 74 dL_law_67 (by decide) hv25 (fun c26 => ?_) (fun c26 => ?_)
            · replace E := mmI_t c26 E
              refine X_iconst dL_law_74 rfl ?_
              refine X_istore_n (i := 3) (lv' := [(0, .ref 102), (1, .ref 0), (2, .ref 51), (3, vi 0), (4, vi l4)]) dL_law_75 rfl rfl rfl ?_
              obtain ⟨hv27, E⟩ := mmK_e E
              refine X_iinc (v := (l4 + 1)) (lv' := [(0, .ref 102), (1, .ref 0), (2, .ref 51), (3, vi 0), (4, vi (l4 + 1))]) 4 dL_law_76 rfl rfl rfl rfl ?_
              refine X_goto 21 dL_law_79 (by decide) ?_
              exact ih _ _ _ ir_0 hv27 E
            · replace E := mmI_f c26 E
              refine X_iconst dL_law_70 rfl ?_
              refine X_goto 75 dL_law_71 (by decide) ?_
              refine X_istore_n (i := 3) (lv' := [(0, .ref 102), (1, .ref 0), (2, .ref 51), (3, vi 1), (4, vi l4)]) dL_law_75 rfl rfl rfl ?_
              obtain ⟨hv28, E⟩ := mmK_e E
              refine X_iinc (v := (l4 + 1)) (lv' := [(0, .ref 102), (1, .ref 0), (2, .ref 51), (3, vi 1), (4, vi (l4 + 1))]) 4 dL_law_76 rfl rfl rfl rfl ?_
              refine X_goto 21 dL_law_79 (by decide) ?_
              exact ih _ _ _ ir_1 hv28 E
