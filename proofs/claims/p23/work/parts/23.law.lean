abbrev rm_L_isStep : Room := { frames := 7, cells := 0, slots := 0, locals := 152 }
noncomputable def f_L_isStep_L353 (l7 : Int) (l9 : Int) (l10 : Int) (l12 : Int) (l13 : Int) (s0 : Int) (m : Mem2) : Option (Int × Mem2) :=
  if l12 = l13 then
(if s0 = 0 then
((mmO (f_X3_count 4) m).bind (fun q41 => mmK (inR (4 * q41.1)) (if l9 = (4 * q41.1) then
(if l12 = (-6) then
(some (1, q41.2))
else
(some (0, q41.2)))
else
(mmK (inR (l10 + l7)) (if (l10 + l7) ≤ 100 then
(if l12 = l10 then
(some (1, q41.2))
else
(some (0, q41.2)))
else
(if l12 = (-3) then
(some (1, q41.2))
else
(some (0, q41.2))))))))
else
(if l12 = (-7) then
(some (1, m))
else
(some (0, m))))
else
(some (0, m))
set_option maxRecDepth 100000 in
set_option maxHeartbeats 4000000 in
theorem ok_L_isStep_L353 {r : Int × Mem2} : ∀ (l7 : Int) (l9 : Int) (l10 : Int) (l12 : Int) (l13 : Int) (s0 : Int) (m : Mem2), inR l7 → inR l9 → inR l10 → inR l12 → inR l13 → inR s0 → f_L_isStep_L353 l7 l9 l10 l12 l13 s0 m = some r → V2 RL cL_isStep 16 rm_L_isStep mmG0 (mm2Pz r) 353 [(0, .ref 0), (7, vi l7), (9, vi l9), (10, vi l10), (12, vi l12), (13, vi l13)] [vi s0] m := by
  intro l7 l9 l10 l12 l13 s0 m hr7 hr9 hr10 hr12 hr13 hrs0 E
  unfold f_L_isStep_L353 at E
  refine X_istore (lv' := [(0, .ref 0), (7, vi l7), (9, vi l9), (10, vi l10), (12, vi l12), (13, vi l13), (14, vi s0)]) dL_isStep_353 rfl rfl ?_
  refine X_iload 4 dL_isStep_355 rfl ?_
  refine X_iload 5 dL_isStep_357 rfl ?_
  refine X_icmp_ne 415 dL_isStep_359 (by decide) hr12 hr13 (fun c39 => ?_) (fun c39 => ?_)
  · replace E := mmI_f c39 E
    refine X_iconst dL_isStep_415 rfl ?_
    obtain rfl := Option.some.inj E
    exact X_reti dL_isStep_416 ⟨rfl, rfl, (Or.inl rfl)⟩
  · replace E := mmI_t c39 E
    refine X_iload 4 dL_isStep_362 rfl ?_
    refine X_iload 6 dL_isStep_364 rfl ?_
    refine X_if_eq 374 dL_isStep_366 (by decide) hrs0 (fun c40 => ?_) (fun c40 => ?_)
    · replace E := mmI_t c40 E
      refine X_iload 2 dL_isStep_374 rfl ?_
      refine X_iconst dL_isStep_376 rfl ?_
      refine X_aload_n 0 dL_isStep_377 rfl ?_
      refine X_iconst dL_isStep_378 rfl ?_
      obtain ⟨q41, hq41, E⟩ := mmB_e E
      refine X_callO (zs := [4]) (st := [vi 4, vi l9, vi l12]) 1 dL_isStep_379 hq41 (fun r hr => ct_X3_count ir_4 hr) ml_XL_21 im_X3_count sl_X3_count it_X3 cd_X3_count hy_X3_count ⟨rfl, rfl, by decide, by decide⟩ rfl rfl (Nat.le_of_ble_eq_true rfl) (fun hv42 => ?_)
      obtain ⟨hv43, E⟩ := mmK_e E
      refine X_imul dL_isStep_382 ?_
      refine X_icmp_ne 391 dL_isStep_383 (by decide) hr9 hv43 (fun c44 => ?_) (fun c44 => ?_)
      · replace E := mmI_f c44 E
        refine X_iload 3 dL_isStep_391 rfl ?_
        refine X_iload 1 dL_isStep_393 rfl ?_
        obtain ⟨hv45, E⟩ := mmK_e E
        refine X_iadd dL_isStep_395 ?_
        refine X_bipush (v := 100) dL_isStep_396 (by decide) ?_
        refine X_icmp_le 406 dL_isStep_398 (by decide) hv45 ir_100 (fun c46 => ?_) (fun c46 => ?_)
        · replace E := mmI_t c46 E
          refine X_iload 3 dL_isStep_406 rfl ?_
          refine X_icmp_ne 415 dL_isStep_408 (by decide) hr12 hr10 (fun c47 => ?_) (fun c47 => ?_)
          · replace E := mmI_f c47 E
            refine X_iconst dL_isStep_415 rfl ?_
            obtain rfl := Option.some.inj E
            exact X_reti dL_isStep_416 ⟨rfl, rfl, (Or.inl rfl)⟩
          · replace E := mmI_t c47 E
            refine X_iconst dL_isStep_411 rfl ?_
            refine X_goto 416 dL_isStep_412 (by decide) ?_
            obtain rfl := Option.some.inj E
            exact X_reti dL_isStep_416 ⟨rfl, rfl, (Or.inr rfl)⟩
        · replace E := mmI_f c46 E
          refine X_bipush (v := (-3)) dL_isStep_401 (by decide) ?_
          refine X_goto 408 dL_isStep_403 (by decide) ?_
          refine X_icmp_ne 415 dL_isStep_408 (by decide) hr12 ir_m3 (fun c48 => ?_) (fun c48 => ?_)
          · replace E := mmI_f c48 E
            refine X_iconst dL_isStep_415 rfl ?_
            obtain rfl := Option.some.inj E
            exact X_reti dL_isStep_416 ⟨rfl, rfl, (Or.inl rfl)⟩
          · replace E := mmI_t c48 E
            refine X_iconst dL_isStep_411 rfl ?_
            refine X_goto 416 dL_isStep_412 (by decide) ?_
            obtain rfl := Option.some.inj E
            exact X_reti dL_isStep_416 ⟨rfl, rfl, (Or.inr rfl)⟩
      · replace E := mmI_t c44 E
        refine X_bipush (v := (-6)) dL_isStep_386 (by decide) ?_
        refine X_goto 408 dL_isStep_388 (by decide) ?_
        refine X_icmp_ne 415 dL_isStep_408 (by decide) hr12 ir_m6 (fun c49 => ?_) (fun c49 => ?_)
        · replace E := mmI_f c49 E
          refine X_iconst dL_isStep_415 rfl ?_
          obtain rfl := Option.some.inj E
          exact X_reti dL_isStep_416 ⟨rfl, rfl, (Or.inl rfl)⟩
        · replace E := mmI_t c49 E
          refine X_iconst dL_isStep_411 rfl ?_
          refine X_goto 416 dL_isStep_412 (by decide) ?_
          obtain rfl := Option.some.inj E
          exact X_reti dL_isStep_416 ⟨rfl, rfl, (Or.inr rfl)⟩
    · replace E := mmI_f c40 E
      refine X_bipush (v := (-7)) dL_isStep_369 (by decide) ?_
      refine X_goto 408 dL_isStep_371 (by decide) ?_
      refine X_icmp_ne 415 dL_isStep_408 (by decide) hr12 ir_m7 (fun c50 => ?_) (fun c50 => ?_)
      · replace E := mmI_f c50 E
        refine X_iconst dL_isStep_415 rfl ?_
        obtain rfl := Option.some.inj E
        exact X_reti dL_isStep_416 ⟨rfl, rfl, (Or.inl rfl)⟩
      · replace E := mmI_t c50 E
        refine X_iconst dL_isStep_411 rfl ?_
        refine X_goto 416 dL_isStep_412 (by decide) ?_
        obtain rfl := Option.some.inj E
        exact X_reti dL_isStep_416 ⟨rfl, rfl, (Or.inr rfl)⟩
noncomputable def f_L_isStep_L343 (l7 : Int) (l9 : Int) (l10 : Int) (l11 : Int) (l12 : Int) (l13 : Int) (m : Mem2) : Option (Int × Mem2) :=
  if l11 < 0 then
(f_L_isStep_L353 l7 l9 l10 l12 l13 0 m)
else
(f_L_isStep_L353 l7 l9 l10 l12 l13 1 m)
set_option maxRecDepth 100000 in
set_option maxHeartbeats 4000000 in
theorem ok_L_isStep_L343 {r : Int × Mem2} : ∀ (l7 : Int) (l9 : Int) (l10 : Int) (l11 : Int) (l12 : Int) (l13 : Int) (m : Mem2), inR l7 → inR l9 → inR l10 → inR l11 → inR l12 → inR l13 → f_L_isStep_L343 l7 l9 l10 l11 l12 l13 m = some r → V2 RL cL_isStep 16 rm_L_isStep mmG0 (mm2Pz r) 343 [(0, .ref 0), (7, vi l7), (9, vi l9), (10, vi l10), (11, vi l11), (12, vi l12), (13, vi l13)] [] m := by
  intro l7 l9 l10 l11 l12 l13 m hr7 hr9 hr10 hr11 hr12 hr13 E
  unfold f_L_isStep_L343 at E
  refine X_iload 4 dL_isStep_343 rfl ?_
  refine X_if_lt 352 dL_isStep_345 (by decide) hr11 (fun c38 => ?_) (fun c38 => ?_)
  · replace E := mmI_t c38 E
    refine X_iconst dL_isStep_352 rfl ?_
    refine X_sub [0, 1, 2, 3, 5, 6] rfl ?_
    exact ok_L_isStep_L353 _ _ _ _ _ _ _ hr7 hr9 hr10 hr12 hr13 ir_0 E
  · replace E := mmI_f c38 E
    refine X_iconst dL_isStep_348 rfl ?_
    refine X_goto 353 dL_isStep_349 (by decide) ?_
    refine X_sub [0, 1, 2, 3, 5, 6] rfl ?_
    exact ok_L_isStep_L353 _ _ _ _ _ _ _ hr7 hr9 hr10 hr12 hr13 ir_1 E
noncomputable def f_L_isStep_L341 (l7 : Int) (l9 : Int) (l10 : Int) (l11 : Int) (l12 : Int) (s0 : Int) (m : Mem2) : Option (Int × Mem2) :=
  f_L_isStep_L343 l7 l9 l10 l11 l12 s0 m
set_option maxRecDepth 100000 in
set_option maxHeartbeats 4000000 in
theorem ok_L_isStep_L341 {r : Int × Mem2} : ∀ (l7 : Int) (l9 : Int) (l10 : Int) (l11 : Int) (l12 : Int) (s0 : Int) (m : Mem2), inR l7 → inR l9 → inR l10 → inR l11 → inR l12 → inR s0 → f_L_isStep_L341 l7 l9 l10 l11 l12 s0 m = some r → V2 RL cL_isStep 16 rm_L_isStep mmG0 (mm2Pz r) 341 [(0, .ref 0), (7, vi l7), (9, vi l9), (10, vi l10), (11, vi l11), (12, vi l12)] [vi s0] m := by
  intro l7 l9 l10 l11 l12 s0 m hr7 hr9 hr10 hr11 hr12 hrs0 E
  unfold f_L_isStep_L341 at E
  refine X_istore (lv' := [(0, .ref 0), (7, vi l7), (9, vi l9), (10, vi l10), (11, vi l11), (12, vi l12), (13, vi s0)]) dL_isStep_341 rfl rfl ?_
  exact ok_L_isStep_L343 _ _ _ _ _ _ _ hr7 hr9 hr10 hr11 hr12 hrs0 E
noncomputable def f_L_isStep_L339 (l7 : Int) (l9 : Int) (l10 : Int) (l11 : Int) (l12 : Int) (l15 : Int) (m : Mem2) : Option (Int × Mem2) :=
  f_L_isStep_L341 l7 l9 l10 l11 l12 l15 m
set_option maxRecDepth 100000 in
set_option maxHeartbeats 4000000 in
theorem ok_L_isStep_L339 {r : Int × Mem2} : ∀ (l7 : Int) (l9 : Int) (l10 : Int) (l11 : Int) (l12 : Int) (l15 : Int) (m : Mem2), inR l7 → inR l9 → inR l10 → inR l11 → inR l12 → inR l15 → f_L_isStep_L339 l7 l9 l10 l11 l12 l15 m = some r → V2 RL cL_isStep 16 rm_L_isStep mmG0 (mm2Pz r) 339 [(0, .ref 0), (7, vi l7), (9, vi l9), (10, vi l10), (11, vi l11), (12, vi l12), (15, vi l15)] [] m := by
  intro l7 l9 l10 l11 l12 l15 m hr7 hr9 hr10 hr11 hr12 hr15 E
  unfold f_L_isStep_L339 at E
  refine X_iload 6 dL_isStep_339 rfl ?_
  refine X_sub [0, 1, 2, 3, 4, 5] rfl ?_
  exact ok_L_isStep_L341 _ _ _ _ _ _ _ hr7 hr9 hr10 hr11 hr12 hr15 E
noncomputable def f_L_isStep_L307 (l5 : Int) (l7 : Int) (l9 : Int) (l10 : Int) (l11 : Int) (l12 : Int) (s0 : Int) (m : Mem2) : Option (Int × Mem2) :=
  (mmP f_X3_addAll m).bind (fun q54 => if s0 = 0 then
(f_L_isStep_L339 l7 l9 l10 l11 l12 q54.1 q54.2)
else
(if q54.1 = 1 then
((f_L_there l5 q54.2).bind (fun q58 => (mmP (f_X3_entry q58.1 3) q58.2).bind (fun q60 => f_L_isStep_L341 l7 l9 l10 l11 l12 q60.1 q60.2)))
else
(f_L_isStep_L339 l7 l9 l10 l11 l12 q54.1 q54.2)))
set_option maxRecDepth 100000 in
set_option maxHeartbeats 4000000 in
theorem ok_L_isStep_L307 {r : Int × Mem2} : ∀ (l5 : Int) (l7 : Int) (l9 : Int) (l10 : Int) (l11 : Int) (l12 : Int) (s0 : Int) (m : Mem2), inR l5 → inR l7 → inR l9 → inR l10 → inR l11 → inR l12 → inR s0 → f_L_isStep_L307 l5 l7 l9 l10 l11 l12 s0 m = some r → V2 RL cL_isStep 16 rm_L_isStep mmG0 (mm2Pz r) 307 [(0, .ref 0), (1, .ref 51), (5, vi l5), (7, vi l7), (9, vi l9), (10, vi l10), (11, vi l11), (12, vi l12)] [vi s0] m := by
  intro l5 l7 l9 l10 l11 l12 s0 m hr5 hr7 hr9 hr10 hr11 hr12 hrs0 E
  unfold f_L_isStep_L307 at E
  refine X_istore (lv' := [(0, .ref 0), (1, .ref 51), (5, vi l5), (7, vi l7), (9, vi l9), (10, vi l10), (11, vi l11), (12, vi l12), (14, vi s0)]) dL_isStep_307 rfl rfl ?_
  refine X_aload_n 1 dL_isStep_309 rfl ?_
  obtain ⟨q54, hq54, E⟩ := mmB_e E
  refine X_callP (zs := []) (st := []) 0 dL_isStep_310 hq54 (fun r hr => ct_X3_addAll hr) ml_XL_46 im_X3_addAll sl_X3_addAll it_X3 cd_X3_addAll hy_X3_addAll ⟨rfl, rfl, by decide, by decide⟩ rfl rfl (Nat.le_of_ble_eq_true rfl) (fun hv55 => ?_)
  refine X_istore (lv' := [(0, .ref 0), (1, .ref 51), (5, vi l5), (7, vi l7), (9, vi l9), (10, vi l10), (11, vi l11), (12, vi l12), (14, vi s0), (15, vi q54.1)]) dL_isStep_313 rfl rfl ?_
  refine X_iload 8 dL_isStep_315 rfl ?_
  refine X_if_eq 339 dL_isStep_317 (by decide) hrs0 (fun c56 => ?_) (fun c56 => ?_)
  · replace E := mmI_t c56 E
    refine X_sub [0, 3, 4, 5, 6, 7, 9] rfl ?_
    exact ok_L_isStep_L339 _ _ _ _ _ _ _ hr7 hr9 hr10 hr11 hr12 hv55 E
  · replace E := mmI_f c56 E
    refine X_iload 9 dL_isStep_320 rfl ?_
    refine X_iconst dL_isStep_322 rfl ?_
    refine X_icmp_ne 339 dL_isStep_323 (by decide) hv55 ir_1 (fun c57 => ?_) (fun c57 => ?_)
    · replace E := mmI_f c57 E
      refine X_sub [0, 3, 4, 5, 6, 7, 9] rfl ?_
      exact ok_L_isStep_L339 _ _ _ _ _ _ _ hr7 hr9 hr10 hr11 hr12 hv55 E
    · replace E := mmI_t c57 E
      refine X_aload_n 1 dL_isStep_326 rfl ?_
      refine X_iload 2 dL_isStep_327 rfl ?_
      obtain ⟨q58, hq58, E⟩ := mmB_e E
      refine X_callS (st := [.ref 51]) (GP0 _) GB0 1 dL_isStep_329 (ct_L_there hr5 hq58) ml_XL_32 st_L_there it_XL cd_L_there hz_L_there ⟨rfl, rfl, by decide, by decide⟩ rfl rfl (Nat.le_of_ble_eq_true rfl) (fun hv59 => ?_)
      refine X_iconst dL_isStep_332 rfl ?_
      obtain ⟨q60, hq60, E⟩ := mmB_e E
      refine X_callP (zs := [q58.1, 3]) (st := []) 2 dL_isStep_333 hq60 (fun r hr => ct_X3_entry hv59 ir_3 hr) ml_XL_25 im_X3_entry sl_X3_entry it_X3 cd_X3_entry hy_X3_entry ⟨rfl, rfl, by decide, by decide⟩ rfl rfl (Nat.le_of_ble_eq_true rfl) (fun hv61 => ?_)
      refine X_goto 341 dL_isStep_336 (by decide) ?_
      refine X_sub [0, 3, 4, 5, 6, 7] rfl ?_
      exact ok_L_isStep_L341 _ _ _ _ _ _ _ hr7 hr9 hr10 hr11 hr12 hv61 E
noncomputable def f_L_isStep_L306 (l5 : Int) (l7 : Int) (l9 : Int) (l10 : Int) (l11 : Int) (l12 : Int) (m : Mem2) : Option (Int × Mem2) :=
  f_L_isStep_L307 l5 l7 l9 l10 l11 l12 0 m
set_option maxRecDepth 100000 in
set_option maxHeartbeats 4000000 in
theorem ok_L_isStep_L306 {r : Int × Mem2} : ∀ (l5 : Int) (l7 : Int) (l9 : Int) (l10 : Int) (l11 : Int) (l12 : Int) (m : Mem2), inR l5 → inR l7 → inR l9 → inR l10 → inR l11 → inR l12 → f_L_isStep_L306 l5 l7 l9 l10 l11 l12 m = some r → V2 RL cL_isStep 16 rm_L_isStep mmG0 (mm2Pz r) 306 [(0, .ref 0), (1, .ref 51), (5, vi l5), (7, vi l7), (9, vi l9), (10, vi l10), (11, vi l11), (12, vi l12)] [] m := by
  intro l5 l7 l9 l10 l11 l12 m hr5 hr7 hr9 hr10 hr11 hr12 E
  unfold f_L_isStep_L306 at E
  refine X_iconst dL_isStep_306 rfl ?_
  exact ok_L_isStep_L307 _ _ _ _ _ _ _ _ hr5 hr7 hr9 hr10 hr11 hr12 ir_0 E
noncomputable def f_L_isStep_L231 (l3 : Int) (l5 : Int) (l7 : Int) (l8 : Int) (l9 : Int) (l10 : Int) (l11 : Int) (l12 : Int) (s0 : Int) (m : Mem2) : Option (Int × Mem2) :=
  (f_L_up (shr l3 3) 2 m).bind (fun q35 => if q35.1 ≤ 0 then
(f_L_isStep_L343 l7 l9 l10 l11 l12 s0 q35.2)
else
((mmP f_X3_clearPad q35.2).bind (fun q51 => if q51.1 < 0 then
(f_L_isStep_L306 l5 l7 l9 l10 l11 l12 q51.2)
else
((f_L_there l5 q51.2).bind (fun q62 => (f_L_name q62.1 q62.2).bind (fun q64 => if q64.1 = 0 then
(f_L_isStep_L306 l5 l7 l9 l10 l11 l12 q64.2)
else
((mmP (f_X3_type 61) q64.2).bind (fun q67 => if q67.1 ≤ 0 then
(f_L_isStep_L306 l5 l7 l9 l10 l11 l12 q67.2)
else
((f_L_number l7 q67.2).bind (fun q70 => if q70.1 = 0 then
(f_L_isStep_L306 l5 l7 l9 l10 l11 l12 q70.2)
else
((mmP (f_X3_type 44) q70.2).bind (fun q73 => if q73.1 ≤ 0 then
(f_L_isStep_L306 l5 l7 l9 l10 l11 l12 q73.2)
else
(mmK (inR (9999 - l8)) ((f_L_number (9999 - l8) q73.2).bind (fun q77 => if q77.1 = 0 then
(f_L_isStep_L306 l5 l7 l9 l10 l11 l12 q77.2)
else
(f_L_isStep_L307 l5 l7 l9 l10 l11 l12 1 q77.2))))))))))))))))
set_option maxRecDepth 100000 in
set_option maxHeartbeats 4000000 in
theorem ok_L_isStep_L231 {r : Int × Mem2} : ∀ (l3 : Int) (l5 : Int) (l7 : Int) (l8 : Int) (l9 : Int) (l10 : Int) (l11 : Int) (l12 : Int) (s0 : Int) (m : Mem2), inR l3 → inR l5 → inR l7 → inR l8 → inR l9 → inR l10 → inR l11 → inR l12 → inR s0 → f_L_isStep_L231 l3 l5 l7 l8 l9 l10 l11 l12 s0 m = some r → V2 RL cL_isStep 16 rm_L_isStep mmG0 (mm2Pz r) 231 [(0, .ref 0), (1, .ref 51), (3, vi l3), (5, vi l5), (7, vi l7), (8, vi l8), (9, vi l9), (10, vi l10), (11, vi l11), (12, vi l12)] [vi s0] m := by
  intro l3 l5 l7 l8 l9 l10 l11 l12 s0 m hr3 hr5 hr7 hr8 hr9 hr10 hr11 hr12 hrs0 E
  unfold f_L_isStep_L231 at E
  refine X_istore (lv' := [(0, .ref 0), (1, .ref 51), (3, vi l3), (5, vi l5), (7, vi l7), (8, vi l8), (9, vi l9), (10, vi l10), (11, vi l11), (12, vi l12), (13, vi s0)]) dL_isStep_231 rfl rfl ?_
  refine X_iload_n 2 dL_isStep_233 rfl ?_
  refine X_iconst dL_isStep_234 rfl ?_
  refine X_ishr dL_isStep_235 ?_
  refine X_iconst dL_isStep_236 rfl ?_
  obtain ⟨q35, hq35, E⟩ := mmB_e E
  refine X_callS (st := []) (GP0 _) GB0 2 dL_isStep_237 (ct_L_up (inR_shr l3 3) ir_2 hq35) ml_XL_17 st_L_up it_XL cd_L_up hz_L_up ⟨rfl, rfl, by decide, by decide⟩ rfl rfl (Nat.le_of_ble_eq_true rfl) (fun hv36 => ?_)
  refine X_if_le 343 dL_isStep_240 (by decide) hv36 (fun c37 => ?_) (fun c37 => ?_)
  · replace E := mmI_t c37 E
    refine X_sub [0, 4, 6, 7, 8, 9, 10] rfl ?_
    exact ok_L_isStep_L343 _ _ _ _ _ _ _ hr7 hr9 hr10 hr11 hr12 hrs0 E
  · replace E := mmI_f c37 E
    refine X_aload_n 1 dL_isStep_243 rfl ?_
    obtain ⟨q51, hq51, E⟩ := mmB_e E
    refine X_callP (zs := []) (st := []) 0 dL_isStep_244 hq51 (fun r hr => ct_X3_clearPad hr) ml_XL_35 im_X3_clearPad sl_X3_clearPad it_X3 cd_X3_clearPad hy_X3_clearPad ⟨rfl, rfl, by decide, by decide⟩ rfl rfl (Nat.le_of_ble_eq_true rfl) (fun hv52 => ?_)
    refine X_if_lt 306 dL_isStep_247 (by decide) hv52 (fun c53 => ?_) (fun c53 => ?_)
    · replace E := mmI_t c53 E
      refine X_sub [0, 1, 3, 4, 6, 7, 8, 9] rfl ?_
      exact ok_L_isStep_L306 _ _ _ _ _ _ _ hr5 hr7 hr9 hr10 hr11 hr12 E
    · replace E := mmI_f c53 E
      refine X_aload_n 1 dL_isStep_250 rfl ?_
      refine X_iload 3 dL_isStep_251 rfl ?_
      obtain ⟨q62, hq62, E⟩ := mmB_e E
      refine X_callS (st := [.ref 51]) (GP0 _) GB0 1 dL_isStep_253 (ct_L_there hr5 hq62) ml_XL_32 st_L_there it_XL cd_L_there hz_L_there ⟨rfl, rfl, by decide, by decide⟩ rfl rfl (Nat.le_of_ble_eq_true rfl) (fun hv63 => ?_)
      obtain ⟨q64, hq64, E⟩ := mmB_e E
      refine X_callS (st := []) (GP0 _) GB0 2 dL_isStep_256 (ct_L_name hv63 hq64) ml_XL_39 st_L_name it_XL cd_L_name hz_L_name ⟨rfl, rfl, by decide, by decide⟩ rfl rfl (Nat.le_of_ble_eq_true rfl) (fun hv65 => ?_)
      refine X_if_eq 306 dL_isStep_259 (by decide) hv65 (fun c66 => ?_) (fun c66 => ?_)
      · replace E := mmI_t c66 E
        refine X_sub [0, 1, 3, 4, 6, 7, 8, 9] rfl ?_
        exact ok_L_isStep_L306 _ _ _ _ _ _ _ hr5 hr7 hr9 hr10 hr11 hr12 E
      · replace E := mmI_f c66 E
        refine X_aload_n 1 dL_isStep_262 rfl ?_
        refine X_bipush (v := 61) dL_isStep_263 (by decide) ?_
        obtain ⟨q67, hq67, E⟩ := mmB_e E
        refine X_callP (zs := [61]) (st := []) 1 dL_isStep_265 hq67 (fun r hr => ct_X3_type ir_61 hr) ml_XL_11 im_X3_type sl_X3_type it_X3 cd_X3_type hy_X3_type ⟨rfl, rfl, by decide, by decide⟩ rfl rfl (Nat.le_of_ble_eq_true rfl) (fun hv68 => ?_)
        refine X_if_le 306 dL_isStep_268 (by decide) hv68 (fun c69 => ?_) (fun c69 => ?_)
        · replace E := mmI_t c69 E
          refine X_sub [0, 1, 3, 4, 6, 7, 8, 9] rfl ?_
          exact ok_L_isStep_L306 _ _ _ _ _ _ _ hr5 hr7 hr9 hr10 hr11 hr12 E
        · replace E := mmI_f c69 E
          refine X_aload_n 1 dL_isStep_271 rfl ?_
          refine X_iload 4 dL_isStep_272 rfl ?_
          obtain ⟨q70, hq70, E⟩ := mmB_e E
          refine X_callS (st := []) (GP0 _) GB0 2 dL_isStep_274 (ct_L_number hr7 hq70) ml_XL_43 st_L_number it_XL cd_L_number hz_L_number ⟨rfl, rfl, by decide, by decide⟩ rfl rfl (Nat.le_of_ble_eq_true rfl) (fun hv71 => ?_)
          refine X_if_eq 306 dL_isStep_277 (by decide) hv71 (fun c72 => ?_) (fun c72 => ?_)
          · replace E := mmI_t c72 E
            refine X_sub [0, 1, 3, 4, 6, 7, 8, 9] rfl ?_
            exact ok_L_isStep_L306 _ _ _ _ _ _ _ hr5 hr7 hr9 hr10 hr11 hr12 E
          · replace E := mmI_f c72 E
            refine X_aload_n 1 dL_isStep_280 rfl ?_
            refine X_bipush (v := 44) dL_isStep_281 (by decide) ?_
            obtain ⟨q73, hq73, E⟩ := mmB_e E
            refine X_callP (zs := [44]) (st := []) 1 dL_isStep_283 hq73 (fun r hr => ct_X3_type ir_44 hr) ml_XL_11 im_X3_type sl_X3_type it_X3 cd_X3_type hy_X3_type ⟨rfl, rfl, by decide, by decide⟩ rfl rfl (Nat.le_of_ble_eq_true rfl) (fun hv74 => ?_)
            refine X_if_le 306 dL_isStep_286 (by decide) hv74 (fun c75 => ?_) (fun c75 => ?_)
            · replace E := mmI_t c75 E
              refine X_sub [0, 1, 3, 4, 6, 7, 8, 9] rfl ?_
              exact ok_L_isStep_L306 _ _ _ _ _ _ _ hr5 hr7 hr9 hr10 hr11 hr12 E
            · replace E := mmI_f c75 E
              refine X_aload_n 1 dL_isStep_289 rfl ?_
              refine X_sipush (v := 9999) dL_isStep_290 (by decide) ?_
              refine X_iload 5 dL_isStep_293 rfl ?_
              obtain ⟨hv76, E⟩ := mmK_e E
              refine X_isub dL_isStep_295 ?_
              obtain ⟨q77, hq77, E⟩ := mmB_e E
              refine X_callS (st := []) (GP0 _) GB0 2 dL_isStep_296 (ct_L_number hv76 hq77) ml_XL_43 st_L_number it_XL cd_L_number hz_L_number ⟨rfl, rfl, by decide, by decide⟩ rfl rfl (Nat.le_of_ble_eq_true rfl) (fun hv78 => ?_)
              refine X_if_eq 306 dL_isStep_299 (by decide) hv78 (fun c79 => ?_) (fun c79 => ?_)
              · replace E := mmI_t c79 E
                refine X_sub [0, 1, 3, 4, 6, 7, 8, 9] rfl ?_
                exact ok_L_isStep_L306 _ _ _ _ _ _ _ hr5 hr7 hr9 hr10 hr11 hr12 E
              · replace E := mmI_f c79 E
                refine X_iconst dL_isStep_302 rfl ?_
                refine X_goto 307 dL_isStep_303 (by decide) ?_
                refine X_sub [0, 1, 3, 4, 6, 7, 8, 9] rfl ?_
                exact ok_L_isStep_L307 _ _ _ _ _ _ _ _ hr5 hr7 hr9 hr10 hr11 hr12 ir_1 E
noncomputable def f_L_isStep_L188 (l3 : Int) (l5 : Int) (l7 : Int) (l8 : Int) (l9 : Int) (l10 : Int) (l11 : Int) (m : Mem2) : Option (Int × Mem2) :=
  (mmO (f_X3_add l5 l7 l8) m).bind (fun q30 => (f_L_up (shr l3 3) 2 q30.2).bind (fun q32 => if q32.1 = 0 then
((f_L_there l5 q32.2).bind (fun q80 => mmK (inR (9999 - l8)) ((mmP (f_X3_add q80.1 l7 (9999 - l8)) q80.2).bind (fun q83 => f_L_isStep_L231 l3 l5 l7 l8 l9 l10 l11 q30.1 q83.1 q83.2))))
else
(f_L_isStep_L231 l3 l5 l7 l8 l9 l10 l11 q30.1 0 q32.2)))
set_option maxRecDepth 100000 in
set_option maxHeartbeats 4000000 in
theorem ok_L_isStep_L188 {r : Int × Mem2} : ∀ (l3 : Int) (l5 : Int) (l7 : Int) (l8 : Int) (l9 : Int) (l10 : Int) (l11 : Int) (m : Mem2), inR l3 → inR l5 → inR l7 → inR l8 → inR l9 → inR l10 → inR l11 → f_L_isStep_L188 l3 l5 l7 l8 l9 l10 l11 m = some r → V2 RL cL_isStep 16 rm_L_isStep mmG0 (mm2Pz r) 188 [(0, .ref 0), (1, .ref 51), (3, vi l3), (5, vi l5), (7, vi l7), (8, vi l8), (9, vi l9), (10, vi l10), (11, vi l11)] [] m := by
  intro l3 l5 l7 l8 l9 l10 l11 m hr3 hr5 hr7 hr8 hr9 hr10 hr11 E
  unfold f_L_isStep_L188 at E
  refine X_aload_n 0 dL_isStep_188 rfl ?_
  refine X_iload 3 dL_isStep_189 rfl ?_
  refine X_iload 4 dL_isStep_191 rfl ?_
  refine X_iload 5 dL_isStep_193 rfl ?_
  obtain ⟨q30, hq30, E⟩ := mmB_e E
  refine X_callO (zs := [l5, l7, l8]) (st := []) 3 dL_isStep_195 hq30 (fun r hr => ct_X3_add hr5 hr7 hr8 hr) ml_XL_28 im_X3_add sl_X3_add it_X3 cd_X3_add hy_X3_add ⟨rfl, rfl, by decide, by decide⟩ rfl rfl (Nat.le_of_ble_eq_true rfl) (fun hv31 => ?_)
  refine X_istore (lv' := [(0, .ref 0), (1, .ref 51), (3, vi l3), (5, vi l5), (7, vi l7), (8, vi l8), (9, vi l9), (10, vi l10), (11, vi l11), (12, vi q30.1)]) dL_isStep_198 rfl rfl ?_
  refine X_iload_n 2 dL_isStep_200 rfl ?_
  refine X_iconst dL_isStep_201 rfl ?_
  refine X_ishr dL_isStep_202 ?_
  refine X_iconst dL_isStep_203 rfl ?_
  obtain ⟨q32, hq32, E⟩ := mmB_e E
  refine X_callS (st := []) (GP0 _) GB0 2 dL_isStep_204 (ct_L_up (inR_shr l3 3) ir_2 hq32) ml_XL_17 st_L_up it_XL cd_L_up hz_L_up ⟨rfl, rfl, by decide, by decide⟩ rfl rfl (Nat.le_of_ble_eq_true rfl) (fun hv33 => ?_)
  refine X_if_ne 230 dL_isStep_207 (by decide) hv33 (fun c34 => ?_) (fun c34 => ?_)
  · replace E := mmI_f c34 E
    refine X_iconst dL_isStep_230 rfl ?_
    exact ok_L_isStep_L231 _ _ _ _ _ _ _ _ _ _ hr3 hr5 hr7 hr8 hr9 hr10 hr11 hv31 ir_0 E
  · replace E := mmI_t c34 E
    refine X_aload_n 1 dL_isStep_210 rfl ?_
    refine X_iload 3 dL_isStep_211 rfl ?_
    obtain ⟨q80, hq80, E⟩ := mmB_e E
    refine X_callS (st := [.ref 51]) (GP0 _) GB0 1 dL_isStep_213 (ct_L_there hr5 hq80) ml_XL_32 st_L_there it_XL cd_L_there hz_L_there ⟨rfl, rfl, by decide, by decide⟩ rfl rfl (Nat.le_of_ble_eq_true rfl) (fun hv81 => ?_)
    refine X_iload 4 dL_isStep_216 rfl ?_
    refine X_sipush (v := 9999) dL_isStep_218 (by decide) ?_
    refine X_iload 5 dL_isStep_221 rfl ?_
    obtain ⟨hv82, E⟩ := mmK_e E
    refine X_isub dL_isStep_223 ?_
    obtain ⟨q83, hq83, E⟩ := mmB_e E
    refine X_callP (zs := [q80.1, l7, (9999 - l8)]) (st := []) 3 dL_isStep_224 hq83 (fun r hr => ct_X3_add hv81 hr7 hv82 hr) ml_XL_28 im_X3_add sl_X3_add it_X3 cd_X3_add hy_X3_add ⟨rfl, rfl, by decide, by decide⟩ rfl rfl (Nat.le_of_ble_eq_true rfl) (fun hv84 => ?_)
    refine X_goto 231 dL_isStep_227 (by decide) ?_
    exact ok_L_isStep_L231 _ _ _ _ _ _ _ _ _ _ hr3 hr5 hr7 hr8 hr9 hr10 hr11 hv31 hv84 E
noncomputable def f_L_isStep_L482 (l5 : Int) (l7 : Int) (l8 : Int) (l10 : Int) (l13 : Int) (s0 : Int) (s1 : Int) (m : Mem2) : Option (Int × Mem2) :=
  if s1 = s0 then
(if l13 < 0 then
(some (1, m))
else
((mmO (f_X3_entry l5 4) m).bind (fun q103 => if q103.1 = l7 then
((mmO (f_X3_entry l5 5) q103.2).bind (fun q106 => if q106.1 = l8 then
((mmO (f_X3_count 6) q106.2).bind (fun q109 => mmK (inR (l10 + l7)) (if q109.1 = (l10 + l7) then
(some (1, q109.2))
else
(some (0, q109.2)))))
else
(some (0, q106.2))))
else
(some (0, q103.2)))))
else
(some (0, m))
set_option maxRecDepth 100000 in
set_option maxHeartbeats 4000000 in
theorem ok_L_isStep_L482 {r : Int × Mem2} : ∀ (l5 : Int) (l7 : Int) (l8 : Int) (l10 : Int) (l13 : Int) (s0 : Int) (s1 : Int) (m : Mem2), inR l5 → inR l7 → inR l8 → inR l10 → inR l13 → inR s0 → inR s1 → f_L_isStep_L482 l5 l7 l8 l10 l13 s0 s1 m = some r → V2 RL cL_isStep 16 rm_L_isStep mmG0 (mm2Pz r) 482 [(0, .ref 0), (5, vi l5), (7, vi l7), (8, vi l8), (10, vi l10), (13, vi l13)] [vi s0, vi s1] m := by
  intro l5 l7 l8 l10 l13 s0 s1 m hr5 hr7 hr8 hr10 hr13 hrs0 hrs1 E
  unfold f_L_isStep_L482 at E
  refine X_icmp_ne 532 dL_isStep_482 (by decide) hrs1 hrs0 (fun c101 => ?_) (fun c101 => ?_)
  · replace E := mmI_f c101 E
    refine X_iconst dL_isStep_532 rfl ?_
    obtain rfl := Option.some.inj E
    exact X_reti dL_isStep_533 ⟨rfl, rfl, (Or.inl rfl)⟩
  · replace E := mmI_t c101 E
    refine X_iload 5 dL_isStep_485 rfl ?_
    refine X_if_lt 528 dL_isStep_487 (by decide) hr13 (fun c102 => ?_) (fun c102 => ?_)
    · replace E := mmI_t c102 E
      refine X_iconst dL_isStep_528 rfl ?_
      refine X_goto 533 dL_isStep_529 (by decide) ?_
      obtain rfl := Option.some.inj E
      exact X_reti dL_isStep_533 ⟨rfl, rfl, (Or.inr rfl)⟩
    · replace E := mmI_f c102 E
      refine X_aload_n 0 dL_isStep_490 rfl ?_
      refine X_iload 1 dL_isStep_491 rfl ?_
      refine X_iconst dL_isStep_493 rfl ?_
      obtain ⟨q103, hq103, E⟩ := mmB_e E
      refine X_callO (zs := [l5, 4]) (st := []) 2 dL_isStep_494 hq103 (fun r hr => ct_X3_entry hr5 ir_4 hr) ml_XL_25 im_X3_entry sl_X3_entry it_X3 cd_X3_entry hy_X3_entry ⟨rfl, rfl, by decide, by decide⟩ rfl rfl (Nat.le_of_ble_eq_true rfl) (fun hv104 => ?_)
      refine X_iload 2 dL_isStep_497 rfl ?_
      refine X_icmp_ne 532 dL_isStep_499 (by decide) hv104 hr7 (fun c105 => ?_) (fun c105 => ?_)
      · replace E := mmI_f c105 E
        refine X_iconst dL_isStep_532 rfl ?_
        obtain rfl := Option.some.inj E
        exact X_reti dL_isStep_533 ⟨rfl, rfl, (Or.inl rfl)⟩
      · replace E := mmI_t c105 E
        refine X_aload_n 0 dL_isStep_502 rfl ?_
        refine X_iload 1 dL_isStep_503 rfl ?_
        refine X_iconst dL_isStep_505 rfl ?_
        obtain ⟨q106, hq106, E⟩ := mmB_e E
        refine X_callO (zs := [l5, 5]) (st := []) 2 dL_isStep_506 hq106 (fun r hr => ct_X3_entry hr5 ir_5 hr) ml_XL_25 im_X3_entry sl_X3_entry it_X3 cd_X3_entry hy_X3_entry ⟨rfl, rfl, by decide, by decide⟩ rfl rfl (Nat.le_of_ble_eq_true rfl) (fun hv107 => ?_)
        refine X_iload 3 dL_isStep_509 rfl ?_
        refine X_icmp_ne 532 dL_isStep_511 (by decide) hv107 hr8 (fun c108 => ?_) (fun c108 => ?_)
        · replace E := mmI_f c108 E
          refine X_iconst dL_isStep_532 rfl ?_
          obtain rfl := Option.some.inj E
          exact X_reti dL_isStep_533 ⟨rfl, rfl, (Or.inl rfl)⟩
        · replace E := mmI_t c108 E
          refine X_aload_n 0 dL_isStep_514 rfl ?_
          refine X_bipush (v := 6) dL_isStep_515 (by decide) ?_
          obtain ⟨q109, hq109, E⟩ := mmB_e E
          refine X_callO (zs := [6]) (st := []) 1 dL_isStep_517 hq109 (fun r hr => ct_X3_count ir_6 hr) ml_XL_21 im_X3_count sl_X3_count it_X3 cd_X3_count hy_X3_count ⟨rfl, rfl, by decide, by decide⟩ rfl rfl (Nat.le_of_ble_eq_true rfl) (fun hv110 => ?_)
          refine X_iload 4 dL_isStep_520 rfl ?_
          refine X_iload 2 dL_isStep_522 rfl ?_
          obtain ⟨hv111, E⟩ := mmK_e E
          refine X_iadd dL_isStep_524 ?_
          refine X_icmp_ne 532 dL_isStep_525 (by decide) hv110 hv111 (fun c112 => ?_) (fun c112 => ?_)
          · replace E := mmI_f c112 E
            refine X_iconst dL_isStep_532 rfl ?_
            obtain rfl := Option.some.inj E
            exact X_reti dL_isStep_533 ⟨rfl, rfl, (Or.inl rfl)⟩
          · replace E := mmI_t c112 E
            refine X_iconst dL_isStep_528 rfl ?_
            refine X_goto 533 dL_isStep_529 (by decide) ?_
            obtain rfl := Option.some.inj E
            exact X_reti dL_isStep_533 ⟨rfl, rfl, (Or.inr rfl)⟩
noncomputable def f_L_isStep_L417 (l5 : Int) (l7 : Int) (l8 : Int) (l10 : Int) (l11 : Int) (m : Mem2) : Option (Int × Mem2) :=
  (mmO (f_X3_fits l7) m).bind (fun q89 => (mmO (f_X3_replace l5 l7 l8) q89.2).bind (fun q91 => (f_L_there l5 q91.2).bind (fun q93 => mmK (inR (9999 - l8)) ((mmP (f_X3_replace q93.1 l7 (9999 - l8)) q93.2).bind (fun q96 => if q91.1 = q96.1 then
(if l11 = 0 then
(if q89.1 ≤ 0 then
(f_L_isStep_L482 l5 l7 l8 l10 q91.1 l10 q91.1 q96.2)
else
(f_L_isStep_L482 l5 l7 l8 l10 q91.1 (-3) q91.1 q96.2))
else
(f_L_isStep_L482 l5 l7 l8 l10 q91.1 (-1) q91.1 q96.2))
else
(some (0, q96.2)))))))
set_option maxRecDepth 100000 in
set_option maxHeartbeats 4000000 in
theorem ok_L_isStep_L417 {r : Int × Mem2} : ∀ (l5 : Int) (l7 : Int) (l8 : Int) (l10 : Int) (l11 : Int) (m : Mem2), inR l5 → inR l7 → inR l8 → inR l10 → inR l11 → f_L_isStep_L417 l5 l7 l8 l10 l11 m = some r → V2 RL cL_isStep 16 rm_L_isStep mmG0 (mm2Pz r) 417 [(0, .ref 0), (1, .ref 51), (5, vi l5), (7, vi l7), (8, vi l8), (10, vi l10), (11, vi l11)] [] m := by
  intro l5 l7 l8 l10 l11 m hr5 hr7 hr8 hr10 hr11 E
  unfold f_L_isStep_L417 at E
  refine X_aload_n 0 dL_isStep_417 rfl ?_
  refine X_iload 3 dL_isStep_418 rfl ?_
  obtain ⟨q89, hq89, E⟩ := mmB_e E
  refine X_callO (zs := [l7]) (st := []) 1 dL_isStep_420 hq89 (fun r hr => ct_X3_fits hr7 hr) ml_XL_49 im_X3_fits sl_X3_fits it_X3 cd_X3_fits hy_X3_fits ⟨rfl, rfl, by decide, by decide⟩ rfl rfl (Nat.le_of_ble_eq_true rfl) (fun hv90 => ?_)
  refine X_istore (lv' := [(0, .ref 0), (1, .ref 51), (5, vi l5), (7, vi l7), (8, vi l8), (10, vi l10), (11, vi l11), (12, vi q89.1)]) dL_isStep_423 rfl rfl ?_
  refine X_aload_n 0 dL_isStep_425 rfl ?_
  refine X_iload 2 dL_isStep_426 rfl ?_
  refine X_iload 3 dL_isStep_428 rfl ?_
  refine X_iload 4 dL_isStep_430 rfl ?_
  obtain ⟨q91, hq91, E⟩ := mmB_e E
  refine X_callO (zs := [l5, l7, l8]) (st := []) 3 dL_isStep_432 hq91 (fun r hr => ct_X3_replace hr5 hr7 hr8 hr) ml_XL_52 im_X3_replace sl_X3_replace it_X3 cd_X3_replace hy_X3_replace ⟨rfl, rfl, by decide, by decide⟩ rfl rfl (Nat.le_of_ble_eq_true rfl) (fun hv92 => ?_)
  refine X_istore (lv' := [(0, .ref 0), (1, .ref 51), (5, vi l5), (7, vi l7), (8, vi l8), (10, vi l10), (11, vi l11), (12, vi q89.1), (13, vi q91.1)]) dL_isStep_435 rfl rfl ?_
  refine X_iload 8 dL_isStep_437 rfl ?_
  refine X_aload_n 1 dL_isStep_439 rfl ?_
  refine X_iload 2 dL_isStep_440 rfl ?_
  obtain ⟨q93, hq93, E⟩ := mmB_e E
  refine X_callS (st := [.ref 51, vi q91.1]) (GP0 _) GB0 1 dL_isStep_442 (ct_L_there hr5 hq93) ml_XL_32 st_L_there it_XL cd_L_there hz_L_there ⟨rfl, rfl, by decide, by decide⟩ rfl rfl (Nat.le_of_ble_eq_true rfl) (fun hv94 => ?_)
  refine X_iload 3 dL_isStep_445 rfl ?_
  refine X_sipush (v := 9999) dL_isStep_447 (by decide) ?_
  refine X_iload 4 dL_isStep_450 rfl ?_
  obtain ⟨hv95, E⟩ := mmK_e E
  refine X_isub dL_isStep_452 ?_
  obtain ⟨q96, hq96, E⟩ := mmB_e E
  refine X_callP (zs := [q93.1, l7, (9999 - l8)]) (st := [vi q91.1]) 3 dL_isStep_453 hq96 (fun r hr => ct_X3_replace hv94 hr7 hv95 hr) ml_XL_52 im_X3_replace sl_X3_replace it_X3 cd_X3_replace hy_X3_replace ⟨rfl, rfl, by decide, by decide⟩ rfl rfl (Nat.le_of_ble_eq_true rfl) (fun hv97 => ?_)
  refine X_icmp_ne 532 dL_isStep_456 (by decide) hv92 hv97 (fun c98 => ?_) (fun c98 => ?_)
  · replace E := mmI_f c98 E
    refine X_iconst dL_isStep_532 rfl ?_
    obtain rfl := Option.some.inj E
    exact X_reti dL_isStep_533 ⟨rfl, rfl, (Or.inl rfl)⟩
  · replace E := mmI_t c98 E
    refine X_iload 8 dL_isStep_459 rfl ?_
    refine X_iload 6 dL_isStep_461 rfl ?_
    refine X_if_eq 470 dL_isStep_463 (by decide) hr11 (fun c99 => ?_) (fun c99 => ?_)
    · replace E := mmI_t c99 E
      refine X_iload 7 dL_isStep_470 rfl ?_
      refine X_if_le 480 dL_isStep_472 (by decide) hv90 (fun c100 => ?_) (fun c100 => ?_)
      · replace E := mmI_t c100 E
        refine X_iload 5 dL_isStep_480 rfl ?_
        refine X_sub [0, 2, 3, 4, 5, 8] rfl ?_
        exact ok_L_isStep_L482 _ _ _ _ _ _ _ _ hr5 hr7 hr8 hr10 hv92 hr10 hv92 E
      · replace E := mmI_f c100 E
        refine X_bipush (v := (-3)) dL_isStep_475 (by decide) ?_
        refine X_goto 482 dL_isStep_477 (by decide) ?_
        refine X_sub [0, 2, 3, 4, 5, 8] rfl ?_
        exact ok_L_isStep_L482 _ _ _ _ _ _ _ _ hr5 hr7 hr8 hr10 hv92 ir_m3 hv92 E
    · replace E := mmI_f c99 E
      refine X_iconst dL_isStep_466 rfl ?_
      refine X_goto 482 dL_isStep_467 (by decide) ?_
      refine X_sub [0, 2, 3, 4, 5, 8] rfl ?_
      exact ok_L_isStep_L482 _ _ _ _ _ _ _ _ hr5 hr7 hr8 hr10 hv92 ir_m1 hv92 E
noncomputable def f_L_isStep_L571 (l5 : Int) (l10 : Int) (s0 : Int) (s1 : Int) (m : Mem2) : Option (Int × Mem2) :=
  if s1 = s0 then
((mmO (f_X3_entry l5 0) m).bind (fun q125 => if q125.1 = (-1) then
((mmO (f_X3_count 6) q125.2).bind (fun q128 => if q128.1 = l10 then
(some (1, q128.2))
else
(some (0, q128.2))))
else
(some (0, q125.2))))
else
(some (0, m))
set_option maxRecDepth 100000 in
set_option maxHeartbeats 4000000 in
theorem ok_L_isStep_L571 {r : Int × Mem2} : ∀ (l5 : Int) (l10 : Int) (s0 : Int) (s1 : Int) (m : Mem2), inR l5 → inR l10 → inR s0 → inR s1 → f_L_isStep_L571 l5 l10 s0 s1 m = some r → V2 RL cL_isStep 16 rm_L_isStep mmG0 (mm2Pz r) 571 [(0, .ref 0), (5, vi l5), (10, vi l10)] [vi s0, vi s1] m := by
  intro l5 l10 s0 s1 m hr5 hr10 hrs0 hrs1 E
  unfold f_L_isStep_L571 at E
  refine X_icmp_ne 600 dL_isStep_571 (by decide) hrs1 hrs0 (fun c124 => ?_) (fun c124 => ?_)
  · replace E := mmI_f c124 E
    refine X_iconst dL_isStep_600 rfl ?_
    obtain rfl := Option.some.inj E
    exact X_reti dL_isStep_601 ⟨rfl, rfl, (Or.inl rfl)⟩
  · replace E := mmI_t c124 E
    refine X_aload_n 0 dL_isStep_574 rfl ?_
    refine X_iload 1 dL_isStep_575 rfl ?_
    refine X_iconst dL_isStep_577 rfl ?_
    obtain ⟨q125, hq125, E⟩ := mmB_e E
    refine X_callO (zs := [l5, 0]) (st := []) 2 dL_isStep_578 hq125 (fun r hr => ct_X3_entry hr5 ir_0 hr) ml_XL_25 im_X3_entry sl_X3_entry it_X3 cd_X3_entry hy_X3_entry ⟨rfl, rfl, by decide, by decide⟩ rfl rfl (Nat.le_of_ble_eq_true rfl) (fun hv126 => ?_)
    refine X_iconst dL_isStep_581 rfl ?_
    refine X_icmp_ne 600 dL_isStep_582 (by decide) hv126 ir_m1 (fun c127 => ?_) (fun c127 => ?_)
    · replace E := mmI_f c127 E
      refine X_iconst dL_isStep_600 rfl ?_
      obtain rfl := Option.some.inj E
      exact X_reti dL_isStep_601 ⟨rfl, rfl, (Or.inl rfl)⟩
    · replace E := mmI_t c127 E
      refine X_aload_n 0 dL_isStep_585 rfl ?_
      refine X_bipush (v := 6) dL_isStep_586 (by decide) ?_
      obtain ⟨q128, hq128, E⟩ := mmB_e E
      refine X_callO (zs := [6]) (st := []) 1 dL_isStep_588 hq128 (fun r hr => ct_X3_count ir_6 hr) ml_XL_21 im_X3_count sl_X3_count it_X3 cd_X3_count hy_X3_count ⟨rfl, rfl, by decide, by decide⟩ rfl rfl (Nat.le_of_ble_eq_true rfl) (fun hv129 => ?_)
      refine X_iload 2 dL_isStep_591 rfl ?_
      refine X_icmp_ne 600 dL_isStep_593 (by decide) hv129 hr10 (fun c130 => ?_) (fun c130 => ?_)
      · replace E := mmI_f c130 E
        refine X_iconst dL_isStep_600 rfl ?_
        obtain rfl := Option.some.inj E
        exact X_reti dL_isStep_601 ⟨rfl, rfl, (Or.inl rfl)⟩
      · replace E := mmI_t c130 E
        refine X_iconst dL_isStep_596 rfl ?_
        refine X_goto 601 dL_isStep_597 (by decide) ?_
        obtain rfl := Option.some.inj E
        exact X_reti dL_isStep_601 ⟨rfl, rfl, (Or.inr rfl)⟩
noncomputable def f_L_isStep_L617 (l5 : Int) (l6 : Int) (l9 : Int) (l11 : Int) (s0 : Int) (m : Mem2) : Option (Int × Mem2) :=
  (mmO (f_X3_entry l5 3) m).bind (fun q135 => (mmO (f_X3_count 3) q135.2).bind (fun q137 => (mmO (f_X3_rename l5 l6) q137.2).bind (fun q139 => (f_L_there l5 q139.2).bind (fun q141 => (f_L_there l6 q141.2).bind (fun q143 => (mmP (f_X3_rename q141.1 q143.1) q143.2).bind (fun q145 => if q139.1 = q145.1 then
(if 0 ≤ l11 then
(if l5 = l6 then
(if q139.1 = (-5) then
(some (1, q145.2))
else
(some (0, q145.2)))
else
(if s0 = 0 then
((mmO (f_X3_entry l6 0) q145.2).bind (fun q151 => if q139.1 = q151.1 then
((mmO (f_X3_entry l6 3) q151.2).bind (fun q154 => if q154.1 = q135.1 then
((mmO (f_X3_count 3) q154.2).bind (fun q157 => mmK (inR (q137.1 + l9)) (if (q137.1 + l9) < q157.1 then
(some (0, q157.2))
else
(some (1, q157.2)))))
else
(some (0, q154.2))))
else
(some (0, q151.2))))
else
(if q139.1 = (-7) then
(some (1, q145.2))
else
(some (0, q145.2)))))
else
(if q139.1 = (-1) then
(some (1, q145.2))
else
(some (0, q145.2))))
else
(some (0, q145.2))))))))
set_option maxRecDepth 100000 in
set_option maxHeartbeats 4000000 in
theorem ok_L_isStep_L617 {r : Int × Mem2} : ∀ (l5 : Int) (l6 : Int) (l9 : Int) (l11 : Int) (s0 : Int) (m : Mem2), inR l5 → inR l6 → inR l9 → inR l11 → inR s0 → f_L_isStep_L617 l5 l6 l9 l11 s0 m = some r → V2 RL cL_isStep 16 rm_L_isStep mmG0 (mm2Pz r) 617 [(0, .ref 0), (1, .ref 51), (5, vi l5), (6, vi l6), (9, vi l9), (11, vi l11)] [vi s0] m := by
  intro l5 l6 l9 l11 s0 m hr5 hr6 hr9 hr11 hrs0 E
  unfold f_L_isStep_L617 at E
  refine X_istore (lv' := [(0, .ref 0), (1, .ref 51), (5, vi l5), (6, vi l6), (9, vi l9), (11, vi l11), (12, vi s0)]) dL_isStep_617 rfl rfl ?_
  refine X_aload_n 0 dL_isStep_619 rfl ?_
  refine X_iload 2 dL_isStep_620 rfl ?_
  refine X_iconst dL_isStep_622 rfl ?_
  obtain ⟨q135, hq135, E⟩ := mmB_e E
  refine X_callO (zs := [l5, 3]) (st := []) 2 dL_isStep_623 hq135 (fun r hr => ct_X3_entry hr5 ir_3 hr) ml_XL_25 im_X3_entry sl_X3_entry it_X3 cd_X3_entry hy_X3_entry ⟨rfl, rfl, by decide, by decide⟩ rfl rfl (Nat.le_of_ble_eq_true rfl) (fun hv136 => ?_)
  refine X_istore (lv' := [(0, .ref 0), (1, .ref 51), (5, vi l5), (6, vi l6), (9, vi l9), (11, vi l11), (12, vi s0), (13, vi q135.1)]) dL_isStep_626 rfl rfl ?_
  refine X_aload_n 0 dL_isStep_628 rfl ?_
  refine X_iconst dL_isStep_629 rfl ?_
  obtain ⟨q137, hq137, E⟩ := mmB_e E
  refine X_callO (zs := [3]) (st := []) 1 dL_isStep_630 hq137 (fun r hr => ct_X3_count ir_3 hr) ml_XL_21 im_X3_count sl_X3_count it_X3 cd_X3_count hy_X3_count ⟨rfl, rfl, by decide, by decide⟩ rfl rfl (Nat.le_of_ble_eq_true rfl) (fun hv138 => ?_)
  refine X_istore (lv' := [(0, .ref 0), (1, .ref 51), (5, vi l5), (6, vi l6), (9, vi l9), (11, vi l11), (12, vi s0), (13, vi q135.1), (14, vi q137.1)]) dL_isStep_633 rfl rfl ?_
  refine X_aload_n 0 dL_isStep_635 rfl ?_
  refine X_iload 2 dL_isStep_636 rfl ?_
  refine X_iload 3 dL_isStep_638 rfl ?_
  obtain ⟨q139, hq139, E⟩ := mmB_e E
  refine X_callO (zs := [l5, l6]) (st := []) 2 dL_isStep_640 hq139 (fun r hr => ct_X3_rename hr5 hr6 hr) ml_XL_58 im_X3_rename sl_X3_rename it_X3 cd_X3_rename hy_X3_rename ⟨rfl, rfl, by decide, by decide⟩ rfl rfl (Nat.le_of_ble_eq_true rfl) (fun hv140 => ?_)
  refine X_istore (lv' := [(0, .ref 0), (1, .ref 51), (5, vi l5), (6, vi l6), (9, vi l9), (11, vi l11), (12, vi s0), (13, vi q135.1), (14, vi q137.1), (15, vi q139.1)]) dL_isStep_643 rfl rfl ?_
  refine X_iload 9 dL_isStep_645 rfl ?_
  refine X_aload_n 1 dL_isStep_647 rfl ?_
  refine X_iload 2 dL_isStep_648 rfl ?_
  obtain ⟨q141, hq141, E⟩ := mmB_e E
  refine X_callS (st := [.ref 51, vi q139.1]) (GP0 _) GB0 1 dL_isStep_650 (ct_L_there hr5 hq141) ml_XL_32 st_L_there it_XL cd_L_there hz_L_there ⟨rfl, rfl, by decide, by decide⟩ rfl rfl (Nat.le_of_ble_eq_true rfl) (fun hv142 => ?_)
  refine X_iload 3 dL_isStep_653 rfl ?_
  obtain ⟨q143, hq143, E⟩ := mmB_e E
  refine X_callS (st := [vi q141.1, .ref 51, vi q139.1]) (GP0 _) GB0 1 dL_isStep_655 (ct_L_there hr6 hq143) ml_XL_32 st_L_there it_XL cd_L_there hz_L_there ⟨rfl, rfl, by decide, by decide⟩ rfl rfl (Nat.le_of_ble_eq_true rfl) (fun hv144 => ?_)
  obtain ⟨q145, hq145, E⟩ := mmB_e E
  refine X_callP (zs := [q141.1, q143.1]) (st := [vi q139.1]) 2 dL_isStep_658 hq145 (fun r hr => ct_X3_rename hv142 hv144 hr) ml_XL_58 im_X3_rename sl_X3_rename it_X3 cd_X3_rename hy_X3_rename ⟨rfl, rfl, by decide, by decide⟩ rfl rfl (Nat.le_of_ble_eq_true rfl) (fun hv146 => ?_)
  refine X_icmp_ne 751 dL_isStep_661 (by decide) hv140 hv146 (fun c147 => ?_) (fun c147 => ?_)
  · replace E := mmI_f c147 E
    refine X_iconst dL_isStep_751 rfl ?_
    obtain rfl := Option.some.inj E
    exact X_reti dL_isStep_752 ⟨rfl, rfl, (Or.inl rfl)⟩
  · replace E := mmI_t c147 E
    refine X_iload 5 dL_isStep_664 rfl ?_
    refine X_if_ge 678 dL_isStep_666 (by decide) hr11 (fun c148 => ?_) (fun c148 => ?_)
    · replace E := mmI_t c148 E
      refine X_iload 2 dL_isStep_678 rfl ?_
      refine X_iload 3 dL_isStep_680 rfl ?_
      refine X_icmp_ne 695 dL_isStep_682 (by decide) hr5 hr6 (fun c149 => ?_) (fun c149 => ?_)
      · replace E := mmI_f c149 E
        refine X_iload 6 dL_isStep_695 rfl ?_
        refine X_if_eq 710 dL_isStep_697 (by decide) hrs0 (fun c150 => ?_) (fun c150 => ?_)
        · replace E := mmI_t c150 E
          refine X_iload 9 dL_isStep_710 rfl ?_
          refine X_aload_n 0 dL_isStep_712 rfl ?_
          refine X_iload 3 dL_isStep_713 rfl ?_
          refine X_iconst dL_isStep_715 rfl ?_
          obtain ⟨q151, hq151, E⟩ := mmB_e E
          refine X_callO (zs := [l6, 0]) (st := [vi q139.1]) 2 dL_isStep_716 hq151 (fun r hr => ct_X3_entry hr6 ir_0 hr) ml_XL_25 im_X3_entry sl_X3_entry it_X3 cd_X3_entry hy_X3_entry ⟨rfl, rfl, by decide, by decide⟩ rfl rfl (Nat.le_of_ble_eq_true rfl) (fun hv152 => ?_)
          refine X_icmp_ne 751 dL_isStep_719 (by decide) hv140 hv152 (fun c153 => ?_) (fun c153 => ?_)
          · replace E := mmI_f c153 E
            refine X_iconst dL_isStep_751 rfl ?_
            obtain rfl := Option.some.inj E
            exact X_reti dL_isStep_752 ⟨rfl, rfl, (Or.inl rfl)⟩
          · replace E := mmI_t c153 E
            refine X_aload_n 0 dL_isStep_722 rfl ?_
            refine X_iload 3 dL_isStep_723 rfl ?_
            refine X_iconst dL_isStep_725 rfl ?_
            obtain ⟨q154, hq154, E⟩ := mmB_e E
            refine X_callO (zs := [l6, 3]) (st := []) 2 dL_isStep_726 hq154 (fun r hr => ct_X3_entry hr6 ir_3 hr) ml_XL_25 im_X3_entry sl_X3_entry it_X3 cd_X3_entry hy_X3_entry ⟨rfl, rfl, by decide, by decide⟩ rfl rfl (Nat.le_of_ble_eq_true rfl) (fun hv155 => ?_)
            refine X_iload 7 dL_isStep_729 rfl ?_
            refine X_icmp_ne 751 dL_isStep_731 (by decide) hv155 hv136 (fun c156 => ?_) (fun c156 => ?_)
            · replace E := mmI_f c156 E
              refine X_iconst dL_isStep_751 rfl ?_
              obtain rfl := Option.some.inj E
              exact X_reti dL_isStep_752 ⟨rfl, rfl, (Or.inl rfl)⟩
            · replace E := mmI_t c156 E
              refine X_aload_n 0 dL_isStep_734 rfl ?_
              refine X_iconst dL_isStep_735 rfl ?_
              obtain ⟨q157, hq157, E⟩ := mmB_e E
              refine X_callO (zs := [3]) (st := []) 1 dL_isStep_736 hq157 (fun r hr => ct_X3_count ir_3 hr) ml_XL_21 im_X3_count sl_X3_count it_X3 cd_X3_count hy_X3_count ⟨rfl, rfl, by decide, by decide⟩ rfl rfl (Nat.le_of_ble_eq_true rfl) (fun hv158 => ?_)
              refine X_iload 8 dL_isStep_739 rfl ?_
              refine X_iload 4 dL_isStep_741 rfl ?_
              obtain ⟨hv159, E⟩ := mmK_e E
              refine X_iadd dL_isStep_743 ?_
              refine X_icmp_gt 751 dL_isStep_744 (by decide) hv158 hv159 (fun c160 => ?_) (fun c160 => ?_)
              · replace E := mmI_t c160 E
                refine X_iconst dL_isStep_751 rfl ?_
                obtain rfl := Option.some.inj E
                exact X_reti dL_isStep_752 ⟨rfl, rfl, (Or.inl rfl)⟩
              · replace E := mmI_f c160 E
                refine X_iconst dL_isStep_747 rfl ?_
                refine X_goto 752 dL_isStep_748 (by decide) ?_
                obtain rfl := Option.some.inj E
                exact X_reti dL_isStep_752 ⟨rfl, rfl, (Or.inr rfl)⟩
        · replace E := mmI_f c150 E
          refine X_iload 9 dL_isStep_700 rfl ?_
          refine X_bipush (v := (-7)) dL_isStep_702 (by decide) ?_
          refine X_icmp_ne 751 dL_isStep_704 (by decide) hv140 ir_m7 (fun c161 => ?_) (fun c161 => ?_)
          · replace E := mmI_f c161 E
            refine X_iconst dL_isStep_751 rfl ?_
            obtain rfl := Option.some.inj E
            exact X_reti dL_isStep_752 ⟨rfl, rfl, (Or.inl rfl)⟩
          · replace E := mmI_t c161 E
            refine X_goto 747 dL_isStep_707 (by decide) ?_
            refine X_iconst dL_isStep_747 rfl ?_
            refine X_goto 752 dL_isStep_748 (by decide) ?_
            obtain rfl := Option.some.inj E
            exact X_reti dL_isStep_752 ⟨rfl, rfl, (Or.inr rfl)⟩
      · replace E := mmI_t c149 E
        refine X_iload 9 dL_isStep_685 rfl ?_
        refine X_bipush (v := (-5)) dL_isStep_687 (by decide) ?_
        refine X_icmp_ne 751 dL_isStep_689 (by decide) hv140 ir_m5 (fun c162 => ?_) (fun c162 => ?_)
        · replace E := mmI_f c162 E
          refine X_iconst dL_isStep_751 rfl ?_
          obtain rfl := Option.some.inj E
          exact X_reti dL_isStep_752 ⟨rfl, rfl, (Or.inl rfl)⟩
        · replace E := mmI_t c162 E
          refine X_goto 747 dL_isStep_692 (by decide) ?_
          refine X_iconst dL_isStep_747 rfl ?_
          refine X_goto 752 dL_isStep_748 (by decide) ?_
          obtain rfl := Option.some.inj E
          exact X_reti dL_isStep_752 ⟨rfl, rfl, (Or.inr rfl)⟩
    · replace E := mmI_f c148 E
      refine X_iload 9 dL_isStep_669 rfl ?_
      refine X_iconst dL_isStep_671 rfl ?_
      refine X_icmp_ne 751 dL_isStep_672 (by decide) hv140 ir_m1 (fun c163 => ?_) (fun c163 => ?_)
      · replace E := mmI_f c163 E
        refine X_iconst dL_isStep_751 rfl ?_
        obtain rfl := Option.some.inj E
        exact X_reti dL_isStep_752 ⟨rfl, rfl, (Or.inl rfl)⟩
      · replace E := mmI_t c163 E
        refine X_goto 747 dL_isStep_675 (by decide) ?_
        refine X_iconst dL_isStep_747 rfl ?_
        refine X_goto 752 dL_isStep_748 (by decide) ?_
        obtain rfl := Option.some.inj E
        exact X_reti dL_isStep_752 ⟨rfl, rfl, (Or.inr rfl)⟩
noncomputable def f_L_isStep_L602 (l5 : Int) (l6 : Int) (l9 : Int) (l11 : Int) (m : Mem2) : Option (Int × Mem2) :=
  (mmO (f_X3_entry l6 0) m).bind (fun q132 => if q132.1 < 0 then
(f_L_isStep_L617 l5 l6 l9 l11 0 q132.2)
else
(f_L_isStep_L617 l5 l6 l9 l11 1 q132.2))
set_option maxRecDepth 100000 in
set_option maxHeartbeats 4000000 in
theorem ok_L_isStep_L602 {r : Int × Mem2} : ∀ (l5 : Int) (l6 : Int) (l9 : Int) (l11 : Int) (m : Mem2), inR l5 → inR l6 → inR l9 → inR l11 → f_L_isStep_L602 l5 l6 l9 l11 m = some r → V2 RL cL_isStep 16 rm_L_isStep mmG0 (mm2Pz r) 602 [(0, .ref 0), (1, .ref 51), (5, vi l5), (6, vi l6), (9, vi l9), (11, vi l11)] [] m := by
  intro l5 l6 l9 l11 m hr5 hr6 hr9 hr11 E
  unfold f_L_isStep_L602 at E
  refine X_aload_n 0 dL_isStep_602 rfl ?_
  refine X_iload 3 dL_isStep_603 rfl ?_
  refine X_iconst dL_isStep_605 rfl ?_
  obtain ⟨q132, hq132, E⟩ := mmB_e E
  refine X_callO (zs := [l6, 0]) (st := []) 2 dL_isStep_606 hq132 (fun r hr => ct_X3_entry hr6 ir_0 hr) ml_XL_25 im_X3_entry sl_X3_entry it_X3 cd_X3_entry hy_X3_entry ⟨rfl, rfl, by decide, by decide⟩ rfl rfl (Nat.le_of_ble_eq_true rfl) (fun hv133 => ?_)
  refine X_if_lt 616 dL_isStep_609 (by decide) hv133 (fun c134 => ?_) (fun c134 => ?_)
  · replace E := mmI_t c134 E
    refine X_iconst dL_isStep_616 rfl ?_
    exact ok_L_isStep_L617 _ _ _ _ _ _ hr5 hr6 hr9 hr11 ir_0 E
  · replace E := mmI_f c134 E
    refine X_iconst dL_isStep_612 rfl ?_
    refine X_goto 617 dL_isStep_613 (by decide) ?_
    exact ok_L_isStep_L617 _ _ _ _ _ _ hr5 hr6 hr9 hr11 ir_1 E
noncomputable def f_L_isStep_L789 (l5 : Int) (l6 : Int) (l9 : Int) (l11 : Int) (l12 : Int) (l13 : Int) (s0 : Int) (m : Mem2) : Option (Int × Mem2) :=
  (f_L_there l5 m).bind (fun q171 => (f_L_there l6 q171.2).bind (fun q173 => (mmP (f_X3_alias q171.1 q173.1) q173.2).bind (fun q175 => if l13 = q175.1 then
(if l12 = 0 then
(if l11 = 0 then
(if l13 = (-7) then
(some (1, q175.2))
else
(some (0, q175.2)))
else
(if s0 = 0 then
(if l13 = (-6) then
(if 0 ≤ l11 then
(some (0, q175.2))
else
((mmO (f_X3_count 4) q175.2).bind (fun q183 => mmK (inR (4 * q183.1)) (if l9 = (4 * q183.1) then
(some (1, q183.2))
else
(some (0, q183.2))))))
else
(some (0, q175.2)))
else
((mmO (f_X3_entry l5 3) q175.2).bind (fun q187 => (mmO (f_X3_entry l6 3) q187.2).bind (fun q189 => if q187.1 = q189.1 then
((mmO (f_X3_entry l5 7) q189.2).bind (fun q192 => if q192.1 = l6 then
((mmO (f_X3_entry l5 8) q192.2).bind (fun q195 => if q195.1 = 0 then
(some (1, q195.2))
else
(some (0, q195.2))))
else
(some (0, q192.2))))
else
(some (0, q189.2)))))))
else
(if l13 = (-1) then
(some (1, q175.2))
else
(some (0, q175.2))))
else
(some (0, q175.2)))))
set_option maxRecDepth 100000 in
set_option maxHeartbeats 4000000 in
theorem ok_L_isStep_L789 {r : Int × Mem2} : ∀ (l5 : Int) (l6 : Int) (l9 : Int) (l11 : Int) (l12 : Int) (l13 : Int) (s0 : Int) (m : Mem2), inR l5 → inR l6 → inR l9 → inR l11 → inR l12 → inR l13 → inR s0 → f_L_isStep_L789 l5 l6 l9 l11 l12 l13 s0 m = some r → V2 RL cL_isStep 16 rm_L_isStep mmG0 (mm2Pz r) 789 [(0, .ref 0), (1, .ref 51), (5, vi l5), (6, vi l6), (9, vi l9), (11, vi l11), (12, vi l12), (13, vi l13)] [vi s0] m := by
  intro l5 l6 l9 l11 l12 l13 s0 m hr5 hr6 hr9 hr11 hr12 hr13 hrs0 E
  unfold f_L_isStep_L789 at E
  refine X_istore (lv' := [(0, .ref 0), (1, .ref 51), (5, vi l5), (6, vi l6), (9, vi l9), (11, vi l11), (12, vi l12), (13, vi l13), (14, vi s0)]) dL_isStep_789 rfl rfl ?_
  refine X_iload 7 dL_isStep_791 rfl ?_
  refine X_aload_n 1 dL_isStep_793 rfl ?_
  refine X_iload 2 dL_isStep_794 rfl ?_
  obtain ⟨q171, hq171, E⟩ := mmB_e E
  refine X_callS (st := [.ref 51, vi l13]) (GP0 _) GB0 1 dL_isStep_796 (ct_L_there hr5 hq171) ml_XL_32 st_L_there it_XL cd_L_there hz_L_there ⟨rfl, rfl, by decide, by decide⟩ rfl rfl (Nat.le_of_ble_eq_true rfl) (fun hv172 => ?_)
  refine X_iload 3 dL_isStep_799 rfl ?_
  obtain ⟨q173, hq173, E⟩ := mmB_e E
  refine X_callS (st := [vi q171.1, .ref 51, vi l13]) (GP0 _) GB0 1 dL_isStep_801 (ct_L_there hr6 hq173) ml_XL_32 st_L_there it_XL cd_L_there hz_L_there ⟨rfl, rfl, by decide, by decide⟩ rfl rfl (Nat.le_of_ble_eq_true rfl) (fun hv174 => ?_)
  obtain ⟨q175, hq175, E⟩ := mmB_e E
  refine X_callP (zs := [q171.1, q173.1]) (st := [vi l13]) 2 dL_isStep_804 hq175 (fun r hr => ct_X3_alias hv172 hv174 hr) ml_XL_61 im_X3_alias sl_X3_alias it_X3 cd_X3_alias hy_X3_alias ⟨rfl, rfl, by decide, by decide⟩ rfl rfl (Nat.le_of_ble_eq_true rfl) (fun hv176 => ?_)
  refine X_icmp_ne 916 dL_isStep_807 (by decide) hr13 hv176 (fun c177 => ?_) (fun c177 => ?_)
  · replace E := mmI_f c177 E
    refine X_iconst dL_isStep_916 rfl ?_
    obtain rfl := Option.some.inj E
    exact X_reti dL_isStep_917 ⟨rfl, rfl, (Or.inl rfl)⟩
  · replace E := mmI_t c177 E
    refine X_iload 6 dL_isStep_810 rfl ?_
    refine X_if_eq 824 dL_isStep_812 (by decide) hr12 (fun c178 => ?_) (fun c178 => ?_)
    · replace E := mmI_t c178 E
      refine X_iload 5 dL_isStep_824 rfl ?_
      refine X_if_ne 839 dL_isStep_826 (by decide) hr11 (fun c179 => ?_) (fun c179 => ?_)
      · replace E := mmI_f c179 E
        refine X_iload 8 dL_isStep_839 rfl ?_
        refine X_if_eq 888 dL_isStep_841 (by decide) hrs0 (fun c180 => ?_) (fun c180 => ?_)
        · replace E := mmI_t c180 E
          refine X_iload 7 dL_isStep_888 rfl ?_
          refine X_bipush (v := (-6)) dL_isStep_890 (by decide) ?_
          refine X_icmp_ne 916 dL_isStep_892 (by decide) hr13 ir_m6 (fun c181 => ?_) (fun c181 => ?_)
          · replace E := mmI_f c181 E
            refine X_iconst dL_isStep_916 rfl ?_
            obtain rfl := Option.some.inj E
            exact X_reti dL_isStep_917 ⟨rfl, rfl, (Or.inl rfl)⟩
          · replace E := mmI_t c181 E
            refine X_iload 5 dL_isStep_895 rfl ?_
            refine X_if_ge 916 dL_isStep_897 (by decide) hr11 (fun c182 => ?_) (fun c182 => ?_)
            · replace E := mmI_t c182 E
              refine X_iconst dL_isStep_916 rfl ?_
              obtain rfl := Option.some.inj E
              exact X_reti dL_isStep_917 ⟨rfl, rfl, (Or.inl rfl)⟩
            · replace E := mmI_f c182 E
              refine X_iload 4 dL_isStep_900 rfl ?_
              refine X_iconst dL_isStep_902 rfl ?_
              refine X_aload_n 0 dL_isStep_903 rfl ?_
              refine X_iconst dL_isStep_904 rfl ?_
              obtain ⟨q183, hq183, E⟩ := mmB_e E
              refine X_callO (zs := [4]) (st := [vi 4, vi l9]) 1 dL_isStep_905 hq183 (fun r hr => ct_X3_count ir_4 hr) ml_XL_21 im_X3_count sl_X3_count it_X3 cd_X3_count hy_X3_count ⟨rfl, rfl, by decide, by decide⟩ rfl rfl (Nat.le_of_ble_eq_true rfl) (fun hv184 => ?_)
              obtain ⟨hv185, E⟩ := mmK_e E
              refine X_imul dL_isStep_908 ?_
              refine X_icmp_ne 916 dL_isStep_909 (by decide) hr9 hv185 (fun c186 => ?_) (fun c186 => ?_)
              · replace E := mmI_f c186 E
                refine X_iconst dL_isStep_916 rfl ?_
                obtain rfl := Option.some.inj E
                exact X_reti dL_isStep_917 ⟨rfl, rfl, (Or.inl rfl)⟩
              · replace E := mmI_t c186 E
                refine X_iconst dL_isStep_912 rfl ?_
                refine X_goto 917 dL_isStep_913 (by decide) ?_
                obtain rfl := Option.some.inj E
                exact X_reti dL_isStep_917 ⟨rfl, rfl, (Or.inr rfl)⟩
        · replace E := mmI_f c180 E
          refine X_aload_n 0 dL_isStep_844 rfl ?_
          refine X_iload 2 dL_isStep_845 rfl ?_
          refine X_iconst dL_isStep_847 rfl ?_
          obtain ⟨q187, hq187, E⟩ := mmB_e E
          refine X_callO (zs := [l5, 3]) (st := []) 2 dL_isStep_848 hq187 (fun r hr => ct_X3_entry hr5 ir_3 hr) ml_XL_25 im_X3_entry sl_X3_entry it_X3 cd_X3_entry hy_X3_entry ⟨rfl, rfl, by decide, by decide⟩ rfl rfl (Nat.le_of_ble_eq_true rfl) (fun hv188 => ?_)
          refine X_aload_n 0 dL_isStep_851 rfl ?_
          refine X_iload 3 dL_isStep_852 rfl ?_
          refine X_iconst dL_isStep_854 rfl ?_
          obtain ⟨q189, hq189, E⟩ := mmB_e E
          refine X_callO (zs := [l6, 3]) (st := [vi q187.1]) 2 dL_isStep_855 hq189 (fun r hr => ct_X3_entry hr6 ir_3 hr) ml_XL_25 im_X3_entry sl_X3_entry it_X3 cd_X3_entry hy_X3_entry ⟨rfl, rfl, by decide, by decide⟩ rfl rfl (Nat.le_of_ble_eq_true rfl) (fun hv190 => ?_)
          refine X_icmp_ne 916 dL_isStep_858 (by decide) hv188 hv190 (fun c191 => ?_) (fun c191 => ?_)
          · replace E := mmI_f c191 E
            refine X_iconst dL_isStep_916 rfl ?_
            obtain rfl := Option.some.inj E
            exact X_reti dL_isStep_917 ⟨rfl, rfl, (Or.inl rfl)⟩
          · replace E := mmI_t c191 E
            refine X_aload_n 0 dL_isStep_861 rfl ?_
            refine X_iload 2 dL_isStep_862 rfl ?_
            refine X_bipush (v := 7) dL_isStep_864 (by decide) ?_
            obtain ⟨q192, hq192, E⟩ := mmB_e E
            refine X_callO (zs := [l5, 7]) (st := []) 2 dL_isStep_866 hq192 (fun r hr => ct_X3_entry hr5 ir_7 hr) ml_XL_25 im_X3_entry sl_X3_entry it_X3 cd_X3_entry hy_X3_entry ⟨rfl, rfl, by decide, by decide⟩ rfl rfl (Nat.le_of_ble_eq_true rfl) (fun hv193 => ?_)
            refine X_iload 3 dL_isStep_869 rfl ?_
            refine X_icmp_ne 916 dL_isStep_871 (by decide) hv193 hr6 (fun c194 => ?_) (fun c194 => ?_)
            · replace E := mmI_f c194 E
              refine X_iconst dL_isStep_916 rfl ?_
              obtain rfl := Option.some.inj E
              exact X_reti dL_isStep_917 ⟨rfl, rfl, (Or.inl rfl)⟩
            · replace E := mmI_t c194 E
              refine X_aload_n 0 dL_isStep_874 rfl ?_
              refine X_iload 2 dL_isStep_875 rfl ?_
              refine X_bipush (v := 8) dL_isStep_877 (by decide) ?_
              obtain ⟨q195, hq195, E⟩ := mmB_e E
              refine X_callO (zs := [l5, 8]) (st := []) 2 dL_isStep_879 hq195 (fun r hr => ct_X3_entry hr5 ir_8 hr) ml_XL_25 im_X3_entry sl_X3_entry it_X3 cd_X3_entry hy_X3_entry ⟨rfl, rfl, by decide, by decide⟩ rfl rfl (Nat.le_of_ble_eq_true rfl) (fun hv196 => ?_)
              refine X_if_ne 916 dL_isStep_882 (by decide) hv196 (fun c197 => ?_) (fun c197 => ?_)
              · replace E := mmI_f c197 E
                refine X_iconst dL_isStep_916 rfl ?_
                obtain rfl := Option.some.inj E
                exact X_reti dL_isStep_917 ⟨rfl, rfl, (Or.inl rfl)⟩
              · replace E := mmI_t c197 E
                refine X_goto 912 dL_isStep_885 (by decide) ?_
                refine X_iconst dL_isStep_912 rfl ?_
                refine X_goto 917 dL_isStep_913 (by decide) ?_
                obtain rfl := Option.some.inj E
                exact X_reti dL_isStep_917 ⟨rfl, rfl, (Or.inr rfl)⟩
      · replace E := mmI_t c179 E
        refine X_iload 7 dL_isStep_829 rfl ?_
        refine X_bipush (v := (-7)) dL_isStep_831 (by decide) ?_
        refine X_icmp_ne 916 dL_isStep_833 (by decide) hr13 ir_m7 (fun c198 => ?_) (fun c198 => ?_)
        · replace E := mmI_f c198 E
          refine X_iconst dL_isStep_916 rfl ?_
          obtain rfl := Option.some.inj E
          exact X_reti dL_isStep_917 ⟨rfl, rfl, (Or.inl rfl)⟩
        · replace E := mmI_t c198 E
          refine X_goto 912 dL_isStep_836 (by decide) ?_
          refine X_iconst dL_isStep_912 rfl ?_
          refine X_goto 917 dL_isStep_913 (by decide) ?_
          obtain rfl := Option.some.inj E
          exact X_reti dL_isStep_917 ⟨rfl, rfl, (Or.inr rfl)⟩
    · replace E := mmI_f c178 E
      refine X_iload 7 dL_isStep_815 rfl ?_
      refine X_iconst dL_isStep_817 rfl ?_
      refine X_icmp_ne 916 dL_isStep_818 (by decide) hr13 ir_m1 (fun c199 => ?_) (fun c199 => ?_)
      · replace E := mmI_f c199 E
        refine X_iconst dL_isStep_916 rfl ?_
        obtain rfl := Option.some.inj E
        exact X_reti dL_isStep_917 ⟨rfl, rfl, (Or.inl rfl)⟩
      · replace E := mmI_t c199 E
        refine X_goto 912 dL_isStep_821 (by decide) ?_
        refine X_iconst dL_isStep_912 rfl ?_
        refine X_goto 917 dL_isStep_913 (by decide) ?_
        obtain rfl := Option.some.inj E
        exact X_reti dL_isStep_917 ⟨rfl, rfl, (Or.inr rfl)⟩
noncomputable def f_L_isStep_L784 (l5 : Int) (l6 : Int) (l9 : Int) (l11 : Int) (l12 : Int) (l13 : Int) (m : Mem2) : Option (Int × Mem2) :=
  f_L_isStep_L789 l5 l6 l9 l11 l12 l13 1 m
set_option maxRecDepth 100000 in
set_option maxHeartbeats 4000000 in
theorem ok_L_isStep_L784 {r : Int × Mem2} : ∀ (l5 : Int) (l6 : Int) (l9 : Int) (l11 : Int) (l12 : Int) (l13 : Int) (m : Mem2), inR l5 → inR l6 → inR l9 → inR l11 → inR l12 → inR l13 → f_L_isStep_L784 l5 l6 l9 l11 l12 l13 m = some r → V2 RL cL_isStep 16 rm_L_isStep mmG0 (mm2Pz r) 784 [(0, .ref 0), (1, .ref 51), (5, vi l5), (6, vi l6), (9, vi l9), (11, vi l11), (12, vi l12), (13, vi l13)] [] m := by
  intro l5 l6 l9 l11 l12 l13 m hr5 hr6 hr9 hr11 hr12 hr13 E
  unfold f_L_isStep_L784 at E
  refine X_iconst dL_isStep_784 rfl ?_
  refine X_goto 789 dL_isStep_785 (by decide) ?_
  exact ok_L_isStep_L789 _ _ _ _ _ _ _ _ hr5 hr6 hr9 hr11 hr12 hr13 ir_1 E
noncomputable def f_L_isStep_L753 (l5 : Int) (l6 : Int) (l9 : Int) (l11 : Int) (m : Mem2) : Option (Int × Mem2) :=
  (mmO (f_X3_entry l6 2) m).bind (fun q166 => (mmO (f_X3_alias l5 l6) q166.2).bind (fun q168 => if 0 ≤ q168.1 then
(f_L_isStep_L784 l5 l6 l9 l11 q166.1 q168.1 q168.2)
else
(if q168.1 = (-5) then
(f_L_isStep_L784 l5 l6 l9 l11 q166.1 q168.1 q168.2)
else
(f_L_isStep_L789 l5 l6 l9 l11 q166.1 q168.1 0 q168.2))))
set_option maxRecDepth 100000 in
set_option maxHeartbeats 4000000 in
theorem ok_L_isStep_L753 {r : Int × Mem2} : ∀ (l5 : Int) (l6 : Int) (l9 : Int) (l11 : Int) (m : Mem2), inR l5 → inR l6 → inR l9 → inR l11 → f_L_isStep_L753 l5 l6 l9 l11 m = some r → V2 RL cL_isStep 16 rm_L_isStep mmG0 (mm2Pz r) 753 [(0, .ref 0), (1, .ref 51), (5, vi l5), (6, vi l6), (9, vi l9), (11, vi l11)] [] m := by
  intro l5 l6 l9 l11 m hr5 hr6 hr9 hr11 E
  unfold f_L_isStep_L753 at E
  refine X_aload_n 0 dL_isStep_753 rfl ?_
  refine X_iload 3 dL_isStep_754 rfl ?_
  refine X_iconst dL_isStep_756 rfl ?_
  obtain ⟨q166, hq166, E⟩ := mmB_e E
  refine X_callO (zs := [l6, 2]) (st := []) 2 dL_isStep_757 hq166 (fun r hr => ct_X3_entry hr6 ir_2 hr) ml_XL_25 im_X3_entry sl_X3_entry it_X3 cd_X3_entry hy_X3_entry ⟨rfl, rfl, by decide, by decide⟩ rfl rfl (Nat.le_of_ble_eq_true rfl) (fun hv167 => ?_)
  refine X_istore (lv' := [(0, .ref 0), (1, .ref 51), (5, vi l5), (6, vi l6), (9, vi l9), (11, vi l11), (12, vi q166.1)]) dL_isStep_760 rfl rfl ?_
  refine X_aload_n 0 dL_isStep_762 rfl ?_
  refine X_iload 2 dL_isStep_763 rfl ?_
  refine X_iload 3 dL_isStep_765 rfl ?_
  obtain ⟨q168, hq168, E⟩ := mmB_e E
  refine X_callO (zs := [l5, l6]) (st := []) 2 dL_isStep_767 hq168 (fun r hr => ct_X3_alias hr5 hr6 hr) ml_XL_61 im_X3_alias sl_X3_alias it_X3 cd_X3_alias hy_X3_alias ⟨rfl, rfl, by decide, by decide⟩ rfl rfl (Nat.le_of_ble_eq_true rfl) (fun hv169 => ?_)
  refine X_istore (lv' := [(0, .ref 0), (1, .ref 51), (5, vi l5), (6, vi l6), (9, vi l9), (11, vi l11), (12, vi q166.1), (13, vi q168.1)]) dL_isStep_770 rfl rfl ?_
  refine X_iload 7 dL_isStep_772 rfl ?_
  refine X_if_ge 784 dL_isStep_774 (by decide) hv169 (fun c170 => ?_) (fun c170 => ?_)
  · replace E := mmI_t c170 E
    exact ok_L_isStep_L784 _ _ _ _ _ _ _ hr5 hr6 hr9 hr11 hv167 hv169 E
  · replace E := mmI_f c170 E
    refine X_iload 7 dL_isStep_777 rfl ?_
    refine X_bipush (v := (-5)) dL_isStep_779 (by decide) ?_
    refine X_icmp_ne 788 dL_isStep_781 (by decide) hv169 ir_m5 (fun c200 => ?_) (fun c200 => ?_)
    · replace E := mmI_f c200 E
      refine X_iconst dL_isStep_788 rfl ?_
      exact ok_L_isStep_L789 _ _ _ _ _ _ _ _ hr5 hr6 hr9 hr11 hv167 hv169 ir_0 E
    · replace E := mmI_t c200 E
      exact ok_L_isStep_L784 _ _ _ _ _ _ _ hr5 hr6 hr9 hr11 hv167 hv169 E
noncomputable def f_L_isStep_L955 (l10 : Int) (l12 : Int) (s0 : Int) (s1 : Int) (m : Mem2) : Option (Int × Mem2) :=
  if s1 = s0 then
((mmO (f_X3_count 6) m).bind (fun q213 => mmK (inR (l10 - l12)) (if q213.1 = (l10 - l12) then
((mmO (f_X3_count 8) q213.2).bind (fun q217 => if q217.1 = 0 then
(some (1, q217.2))
else
(some (0, q217.2))))
else
(some (0, q213.2)))))
else
(some (0, m))
set_option maxRecDepth 100000 in
set_option maxHeartbeats 4000000 in
theorem ok_L_isStep_L955 {r : Int × Mem2} : ∀ (l10 : Int) (l12 : Int) (s0 : Int) (s1 : Int) (m : Mem2), inR l10 → inR l12 → inR s0 → inR s1 → f_L_isStep_L955 l10 l12 s0 s1 m = some r → V2 RL cL_isStep 16 rm_L_isStep mmG0 (mm2Pz r) 955 [(0, .ref 0), (10, vi l10), (12, vi l12)] [vi s0, vi s1] m := by
  intro l10 l12 s0 s1 m hr10 hr12 hrs0 hrs1 E
  unfold f_L_isStep_L955 at E
  refine X_icmp_ne 985 dL_isStep_955 (by decide) hrs1 hrs0 (fun c212 => ?_) (fun c212 => ?_)
  · replace E := mmI_f c212 E
    refine X_iconst dL_isStep_985 rfl ?_
    obtain rfl := Option.some.inj E
    exact X_reti dL_isStep_986 ⟨rfl, rfl, (Or.inl rfl)⟩
  · replace E := mmI_t c212 E
    refine X_aload_n 0 dL_isStep_958 rfl ?_
    refine X_bipush (v := 6) dL_isStep_959 (by decide) ?_
    obtain ⟨q213, hq213, E⟩ := mmB_e E
    refine X_callO (zs := [6]) (st := []) 1 dL_isStep_961 hq213 (fun r hr => ct_X3_count ir_6 hr) ml_XL_21 im_X3_count sl_X3_count it_X3 cd_X3_count hy_X3_count ⟨rfl, rfl, by decide, by decide⟩ rfl rfl (Nat.le_of_ble_eq_true rfl) (fun hv214 => ?_)
    refine X_iload 1 dL_isStep_964 rfl ?_
    refine X_iload 2 dL_isStep_966 rfl ?_
    obtain ⟨hv215, E⟩ := mmK_e E
    refine X_isub dL_isStep_968 ?_
    refine X_icmp_ne 985 dL_isStep_969 (by decide) hv214 hv215 (fun c216 => ?_) (fun c216 => ?_)
    · replace E := mmI_f c216 E
      refine X_iconst dL_isStep_985 rfl ?_
      obtain rfl := Option.some.inj E
      exact X_reti dL_isStep_986 ⟨rfl, rfl, (Or.inl rfl)⟩
    · replace E := mmI_t c216 E
      refine X_aload_n 0 dL_isStep_972 rfl ?_
      refine X_bipush (v := 8) dL_isStep_973 (by decide) ?_
      obtain ⟨q217, hq217, E⟩ := mmB_e E
      refine X_callO (zs := [8]) (st := []) 1 dL_isStep_975 hq217 (fun r hr => ct_X3_count ir_8 hr) ml_XL_21 im_X3_count sl_X3_count it_X3 cd_X3_count hy_X3_count ⟨rfl, rfl, by decide, by decide⟩ rfl rfl (Nat.le_of_ble_eq_true rfl) (fun hv218 => ?_)
      refine X_if_ne 985 dL_isStep_978 (by decide) hv218 (fun c219 => ?_) (fun c219 => ?_)
      · replace E := mmI_f c219 E
        refine X_iconst dL_isStep_985 rfl ?_
        obtain rfl := Option.some.inj E
        exact X_reti dL_isStep_986 ⟨rfl, rfl, (Or.inl rfl)⟩
      · replace E := mmI_t c219 E
        refine X_iconst dL_isStep_981 rfl ?_
        refine X_goto 986 dL_isStep_982 (by decide) ?_
        obtain rfl := Option.some.inj E
        exact X_reti dL_isStep_986 ⟨rfl, rfl, (Or.inr rfl)⟩
noncomputable def f_L_isStep_L1053 (l14 : Int) (s0 : Int) (s1 : Int) (m : Mem2) : Option (Int × Mem2) :=
  if s1 = s0 then
(if l14 < 0 then
(some (1, m))
else
((mmO (f_X3_count 8) m).bind (fun q236 => if q236.1 = 0 then
(some (1, q236.2))
else
(some (0, q236.2)))))
else
(some (0, m))
set_option maxRecDepth 100000 in
set_option maxHeartbeats 4000000 in
theorem ok_L_isStep_L1053 {r : Int × Mem2} : ∀ (l14 : Int) (s0 : Int) (s1 : Int) (m : Mem2), inR l14 → inR s0 → inR s1 → f_L_isStep_L1053 l14 s0 s1 m = some r → V2 RL cL_isStep 16 rm_L_isStep mmG0 (mm2Pz r) 1053 [(0, .ref 0), (14, vi l14)] [vi s0, vi s1] m := by
  intro l14 s0 s1 m hr14 hrs0 hrs1 E
  unfold f_L_isStep_L1053 at E
  refine X_icmp_ne 1074 dL_isStep_1053 (by decide) hrs1 hrs0 (fun c234 => ?_) (fun c234 => ?_)
  · replace E := mmI_f c234 E
    refine X_iconst dL_isStep_1074 rfl ?_
    obtain rfl := Option.some.inj E
    exact X_reti dL_isStep_1075 ⟨rfl, rfl, (Or.inl rfl)⟩
  · replace E := mmI_t c234 E
    refine X_iload 1 dL_isStep_1056 rfl ?_
    refine X_if_lt 1070 dL_isStep_1058 (by decide) hr14 (fun c235 => ?_) (fun c235 => ?_)
    · replace E := mmI_t c235 E
      refine X_iconst dL_isStep_1070 rfl ?_
      refine X_goto 1075 dL_isStep_1071 (by decide) ?_
      obtain rfl := Option.some.inj E
      exact X_reti dL_isStep_1075 ⟨rfl, rfl, (Or.inr rfl)⟩
    · replace E := mmI_f c235 E
      refine X_aload_n 0 dL_isStep_1061 rfl ?_
      refine X_bipush (v := 8) dL_isStep_1062 (by decide) ?_
      obtain ⟨q236, hq236, E⟩ := mmB_e E
      refine X_callO (zs := [8]) (st := []) 1 dL_isStep_1064 hq236 (fun r hr => ct_X3_count ir_8 hr) ml_XL_21 im_X3_count sl_X3_count it_X3 cd_X3_count hy_X3_count ⟨rfl, rfl, by decide, by decide⟩ rfl rfl (Nat.le_of_ble_eq_true rfl) (fun hv237 => ?_)
      refine X_if_ne 1074 dL_isStep_1067 (by decide) hv237 (fun c238 => ?_) (fun c238 => ?_)
      · replace E := mmI_f c238 E
        refine X_iconst dL_isStep_1074 rfl ?_
        obtain rfl := Option.some.inj E
        exact X_reti dL_isStep_1075 ⟨rfl, rfl, (Or.inl rfl)⟩
      · replace E := mmI_t c238 E
        refine X_iconst dL_isStep_1070 rfl ?_
        refine X_goto 1075 dL_isStep_1071 (by decide) ?_
        obtain rfl := Option.some.inj E
        exact X_reti dL_isStep_1075 ⟨rfl, rfl, (Or.inr rfl)⟩
noncomputable def f_L_isStep_L68 (l2 : Int) (l3 : Int) (l5 : Int) (l6 : Int) (s0 : Int) (s1 : Int) (s2 : Int) (m : Mem2) : Option (Int × Mem2) :=
  (f_L_up s1 s0 m).bind (fun q16 => mmK (inR (s2 + q16.1)) ((f_L_up (shr l3 8) 10000 q16.2).bind (fun q19 => (mmO (f_X3_count 0) q19.2).bind (fun q21 => (mmO (f_X3_count 6) q21.2).bind (fun q23 => (mmO (f_X3_entry l5 2) q23.2).bind (fun q25 => (f_L_up l2 15 q25.2).bind (fun q27 => if q27.1 = 0 then
(f_L_isStep_L188 l3 l5 (s2 + q16.1) q19.1 q21.1 q23.1 q25.1 q27.2)
else (
if q27.1 = 1 then
(f_L_isStep_L188 l3 l5 (s2 + q16.1) q19.1 q21.1 q23.1 q25.1 q27.2)
else (
if q27.1 = 2 then
(f_L_isStep_L188 l3 l5 (s2 + q16.1) q19.1 q21.1 q23.1 q25.1 q27.2)
else (
if q27.1 = 3 then
(f_L_isStep_L188 l3 l5 (s2 + q16.1) q19.1 q21.1 q23.1 q25.1 q27.2)
else (
if q27.1 = 4 then
(f_L_isStep_L417 l5 (s2 + q16.1) q19.1 q23.1 q25.1 q27.2)
else (
if q27.1 = 5 then
(f_L_isStep_L417 l5 (s2 + q16.1) q19.1 q23.1 q25.1 q27.2)
else (
if q27.1 = 6 then
((mmO (f_X3_remove l5) q27.2).bind (fun q115 => (f_L_there l5 q115.2).bind (fun q117 => (mmP (f_X3_remove q117.1) q117.2).bind (fun q119 => if q115.1 = q119.1 then
(if 0 ≤ q25.1 then
(mmK (inR (q21.1 - 1)) (f_L_isStep_L571 l5 q23.1 (q21.1 - 1) q115.1 q119.2))
else
(f_L_isStep_L571 l5 q23.1 (-1) q115.1 q119.2))
else
(some (0, q119.2))))))
else (
if q27.1 = 7 then
(f_L_isStep_L602 l5 l6 q21.1 q25.1 q27.2)
else (
if q27.1 = 8 then
(f_L_isStep_L602 l5 l6 q21.1 q25.1 q27.2)
else (
if q27.1 = 9 then
(f_L_isStep_L753 l5 l6 q21.1 q25.1 q27.2)
else (
if q27.1 = 10 then
(f_L_isStep_L753 l5 l6 q21.1 q25.1 q27.2)
else (
if q27.1 = 11 then
(f_L_isStep_L753 l5 l6 q21.1 q25.1 q27.2)
else (
if q27.1 = 12 then
((mmO (f_X3_count 8) q27.2).bind (fun q204 => (mmO f_X3_squeeze q204.2).bind (fun q206 => (mmP f_X3_squeeze q206.2).bind (fun q208 => if q206.1 = q208.1 then
(if q204.1 = 0 then
(f_L_isStep_L955 q23.1 q204.1 (-5) q206.1 q208.2)
else
(f_L_isStep_L955 q23.1 q204.1 q204.1 q206.1 q208.2))
else
(some (0, q208.2))))))
else (
if q27.1 = 13 then
((f_L_up l3 6 q27.2).bind (fun q221 => mmK (inR (1 + q221.1)) ((mmO (f_X3_count 4) q221.2).bind (fun q224 => (mmO (f_X3_makeAnew (1 + q221.1)) q224.2).bind (fun q226 => (mmP (f_X3_makeAnew (1 + q221.1)) q226.2).bind (fun q228 => if q226.1 = q228.1 then
(mmK (inR (4 * (1 + q221.1))) (if q21.1 ≤ (4 * (1 + q221.1)) then
(if q224.1 = (1 + q221.1) then
(f_L_isStep_L1053 q226.1 (-5) q226.1 q228.2)
else
(f_L_isStep_L1053 q226.1 q224.1 q226.1 q228.2))
else
(f_L_isStep_L1053 q226.1 (-6) q226.1 q228.2)))
else
(some (0, q228.2))))))))
else (
((mmO (f_X3_count 13) q27.2).bind (fun q239 => if q239.1 = 0 then
(some (1, q239.2))
else
((mmO f_X3_undo q239.2).bind (fun q242 => (mmP f_X3_undo q242.2).bind (fun q244 => if q242.1 = q244.1 then
(some (1, q244.2))
else
(some (0, q244.2))))))))))))))))))))))))))))
set_option maxRecDepth 100000 in
set_option maxHeartbeats 4000000 in
theorem ok_L_isStep_L68 {r : Int × Mem2} : ∀ (l2 : Int) (l3 : Int) (l5 : Int) (l6 : Int) (s0 : Int) (s1 : Int) (s2 : Int) (m : Mem2), inR l2 → inR l3 → inR l5 → inR l6 → inR s0 → inR s1 → inR s2 → f_L_isStep_L68 l2 l3 l5 l6 s0 s1 s2 m = some r → V2 RL cL_isStep 16 rm_L_isStep mmG0 (mm2Pz r) 68 [(0, .ref 0), (1, .ref 51), (2, vi l2), (3, vi l3), (5, vi l5), (6, vi l6)] [vi s0, vi s1, vi s2] m := by
  intro l2 l3 l5 l6 s0 s1 s2 m hr2 hr3 hr5 hr6 hrs0 hrs1 hrs2 E
  unfold f_L_isStep_L68 at E
  obtain ⟨q16, hq16, E⟩ := mmB_e E
  refine X_callS (st := [vi s2]) (GP0 _) GB0 2 dL_isStep_68 (ct_L_up hrs1 hrs0 hq16) ml_XL_17 st_L_up it_XL cd_L_up hz_L_up ⟨rfl, rfl, by decide, by decide⟩ rfl rfl (Nat.le_of_ble_eq_true rfl) (fun hv17 => ?_)
  obtain ⟨hv18, E⟩ := mmK_e E
  refine X_iadd dL_isStep_71 ?_
  refine X_istore (lv' := [(0, .ref 0), (1, .ref 51), (2, vi l2), (3, vi l3), (5, vi l5), (6, vi l6), (7, vi (s2 + q16.1))]) dL_isStep_72 rfl rfl ?_
  refine X_iload_n 3 dL_isStep_74 rfl ?_
  refine X_bipush (v := 8) dL_isStep_75 (by decide) ?_
  refine X_ishr dL_isStep_77 ?_
  refine X_sipush (v := 10000) dL_isStep_78 (by decide) ?_
  obtain ⟨q19, hq19, E⟩ := mmB_e E
  refine X_callS (st := []) (GP0 _) GB0 2 dL_isStep_81 (ct_L_up (inR_shr l3 8) ir_10000 hq19) ml_XL_17 st_L_up it_XL cd_L_up hz_L_up ⟨rfl, rfl, by decide, by decide⟩ rfl rfl (Nat.le_of_ble_eq_true rfl) (fun hv20 => ?_)
  refine X_istore (lv' := [(0, .ref 0), (1, .ref 51), (2, vi l2), (3, vi l3), (5, vi l5), (6, vi l6), (7, vi (s2 + q16.1)), (8, vi q19.1)]) dL_isStep_84 rfl rfl ?_
  refine X_aload_n 0 dL_isStep_86 rfl ?_
  refine X_iconst dL_isStep_87 rfl ?_
  obtain ⟨q21, hq21, E⟩ := mmB_e E
  refine X_callO (zs := [0]) (st := []) 1 dL_isStep_88 hq21 (fun r hr => ct_X3_count ir_0 hr) ml_XL_21 im_X3_count sl_X3_count it_X3 cd_X3_count hy_X3_count ⟨rfl, rfl, by decide, by decide⟩ rfl rfl (Nat.le_of_ble_eq_true rfl) (fun hv22 => ?_)
  refine X_istore (lv' := [(0, .ref 0), (1, .ref 51), (2, vi l2), (3, vi l3), (5, vi l5), (6, vi l6), (7, vi (s2 + q16.1)), (8, vi q19.1), (9, vi q21.1)]) dL_isStep_91 rfl rfl ?_
  refine X_aload_n 0 dL_isStep_93 rfl ?_
  refine X_bipush (v := 6) dL_isStep_94 (by decide) ?_
  obtain ⟨q23, hq23, E⟩ := mmB_e E
  refine X_callO (zs := [6]) (st := []) 1 dL_isStep_96 hq23 (fun r hr => ct_X3_count ir_6 hr) ml_XL_21 im_X3_count sl_X3_count it_X3 cd_X3_count hy_X3_count ⟨rfl, rfl, by decide, by decide⟩ rfl rfl (Nat.le_of_ble_eq_true rfl) (fun hv24 => ?_)
  refine X_istore (lv' := [(0, .ref 0), (1, .ref 51), (2, vi l2), (3, vi l3), (5, vi l5), (6, vi l6), (7, vi (s2 + q16.1)), (8, vi q19.1), (9, vi q21.1), (10, vi q23.1)]) dL_isStep_99 rfl rfl ?_
  refine X_aload_n 0 dL_isStep_101 rfl ?_
  refine X_iload 4 dL_isStep_102 rfl ?_
  refine X_iconst dL_isStep_104 rfl ?_
  obtain ⟨q25, hq25, E⟩ := mmB_e E
  refine X_callO (zs := [l5, 2]) (st := []) 2 dL_isStep_105 hq25 (fun r hr => ct_X3_entry hr5 ir_2 hr) ml_XL_25 im_X3_entry sl_X3_entry it_X3 cd_X3_entry hy_X3_entry ⟨rfl, rfl, by decide, by decide⟩ rfl rfl (Nat.le_of_ble_eq_true rfl) (fun hv26 => ?_)
  refine X_istore (lv' := [(0, .ref 0), (1, .ref 51), (2, vi l2), (3, vi l3), (5, vi l5), (6, vi l6), (7, vi (s2 + q16.1)), (8, vi q19.1), (9, vi q21.1), (10, vi q23.1), (11, vi q25.1)]) dL_isStep_108 rfl rfl ?_
  refine X_iload_n 2 dL_isStep_110 rfl ?_
  refine X_bipush (v := 15) dL_isStep_111 (by decide) ?_
  obtain ⟨q27, hq27, E⟩ := mmB_e E
  refine X_callS (st := []) (GP0 _) GB0 2 dL_isStep_113 (ct_L_up hr2 ir_15 hq27) ml_XL_17 st_L_up it_XL cd_L_up hz_L_up ⟨rfl, rfl, by decide, by decide⟩ rfl rfl (Nat.le_of_ble_eq_true rfl) (fun hv28 => ?_)
  by_cases c29 : q27.1 = 0
  · replace E := mmI_t c29 E
    refine X_tableIn 0 188 dL_isStep_116 c29 (by decide) (by decide) rfl (by decide) ?_
    refine X_sub [0, 1, 3, 4, 6, 7, 8, 9, 10] rfl ?_
    exact ok_L_isStep_L188 _ _ _ _ _ _ _ _ hr3 hr5 hv18 hv20 hv22 hv24 hv26 E
  replace E := mmI_f c29 E
  by_cases c85 : q27.1 = 1
  · replace E := mmI_t c85 E
    refine X_tableIn 1 188 dL_isStep_116 c85 (by decide) (by decide) rfl (by decide) ?_
    refine X_sub [0, 1, 3, 4, 6, 7, 8, 9, 10] rfl ?_
    exact ok_L_isStep_L188 _ _ _ _ _ _ _ _ hr3 hr5 hv18 hv20 hv22 hv24 hv26 E
  replace E := mmI_f c85 E
  by_cases c86 : q27.1 = 2
  · replace E := mmI_t c86 E
    refine X_tableIn 2 188 dL_isStep_116 c86 (by decide) (by decide) rfl (by decide) ?_
    refine X_sub [0, 1, 3, 4, 6, 7, 8, 9, 10] rfl ?_
    exact ok_L_isStep_L188 _ _ _ _ _ _ _ _ hr3 hr5 hv18 hv20 hv22 hv24 hv26 E
  replace E := mmI_f c86 E
  by_cases c87 : q27.1 = 3
  · replace E := mmI_t c87 E
    refine X_tableIn 3 188 dL_isStep_116 c87 (by decide) (by decide) rfl (by decide) ?_
    refine X_sub [0, 1, 3, 4, 6, 7, 8, 9, 10] rfl ?_
    exact ok_L_isStep_L188 _ _ _ _ _ _ _ _ hr3 hr5 hv18 hv20 hv22 hv24 hv26 E
  replace E := mmI_f c87 E
  by_cases c88 : q27.1 = 4
  · replace E := mmI_t c88 E
    refine X_tableIn 4 417 dL_isStep_116 c88 (by decide) (by decide) rfl (by decide) ?_
    refine X_sub [0, 1, 4, 6, 7, 9, 10] rfl ?_
    exact ok_L_isStep_L417 _ _ _ _ _ _ hr5 hv18 hv20 hv24 hv26 E
  replace E := mmI_f c88 E
  by_cases c113 : q27.1 = 5
  · replace E := mmI_t c113 E
    refine X_tableIn 5 417 dL_isStep_116 c113 (by decide) (by decide) rfl (by decide) ?_
    refine X_sub [0, 1, 4, 6, 7, 9, 10] rfl ?_
    exact ok_L_isStep_L417 _ _ _ _ _ _ hr5 hv18 hv20 hv24 hv26 E
  replace E := mmI_f c113 E
  by_cases c114 : q27.1 = 6
  · replace E := mmI_t c114 E
    refine X_tableIn 6 534 dL_isStep_116 c114 (by decide) (by decide) rfl (by decide) ?_
    refine X_aload_n 0 dL_isStep_534 rfl ?_
    refine X_iload 4 dL_isStep_535 rfl ?_
    obtain ⟨q115, hq115, E⟩ := mmB_e E
    refine X_callO (zs := [l5]) (st := []) 1 dL_isStep_537 hq115 (fun r hr => ct_X3_remove hr5 hr) ml_XL_55 im_X3_remove sl_X3_remove it_X3 cd_X3_remove hy_X3_remove ⟨rfl, rfl, by decide, by decide⟩ rfl rfl (Nat.le_of_ble_eq_true rfl) (fun hv116 => ?_)
    refine X_istore (lv' := [(0, .ref 0), (1, .ref 51), (2, vi l2), (3, vi l3), (5, vi l5), (6, vi l6), (7, vi (s2 + q16.1)), (8, vi q19.1), (9, vi q21.1), (10, vi q23.1), (11, vi q25.1), (12, vi q115.1)]) dL_isStep_540 rfl rfl ?_
    refine X_iload 11 dL_isStep_542 rfl ?_
    refine X_aload_n 1 dL_isStep_544 rfl ?_
    refine X_iload 4 dL_isStep_545 rfl ?_
    obtain ⟨q117, hq117, E⟩ := mmB_e E
    refine X_callS (st := [.ref 51, vi q115.1]) (GP0 _) GB0 1 dL_isStep_547 (ct_L_there hr5 hq117) ml_XL_32 st_L_there it_XL cd_L_there hz_L_there ⟨rfl, rfl, by decide, by decide⟩ rfl rfl (Nat.le_of_ble_eq_true rfl) (fun hv118 => ?_)
    obtain ⟨q119, hq119, E⟩ := mmB_e E
    refine X_callP (zs := [q117.1]) (st := [vi q115.1]) 1 dL_isStep_550 hq119 (fun r hr => ct_X3_remove hv118 hr) ml_XL_55 im_X3_remove sl_X3_remove it_X3 cd_X3_remove hy_X3_remove ⟨rfl, rfl, by decide, by decide⟩ rfl rfl (Nat.le_of_ble_eq_true rfl) (fun hv120 => ?_)
    refine X_icmp_ne 600 dL_isStep_553 (by decide) hv116 hv120 (fun c121 => ?_) (fun c121 => ?_)
    · replace E := mmI_f c121 E
      refine X_iconst dL_isStep_600 rfl ?_
      obtain rfl := Option.some.inj E
      exact X_reti dL_isStep_601 ⟨rfl, rfl, (Or.inl rfl)⟩
    · replace E := mmI_t c121 E
      refine X_iload 11 dL_isStep_556 rfl ?_
      refine X_iload 10 dL_isStep_558 rfl ?_
      refine X_if_ge 567 dL_isStep_560 (by decide) hv26 (fun c122 => ?_) (fun c122 => ?_)
      · replace E := mmI_t c122 E
        refine X_iload 8 dL_isStep_567 rfl ?_
        refine X_iconst dL_isStep_569 rfl ?_
        obtain ⟨hv123, E⟩ := mmK_e E
        refine X_isub dL_isStep_570 ?_
        refine X_sub [0, 4, 9] rfl ?_
        exact ok_L_isStep_L571 _ _ _ _ _ hr5 hv24 hv123 hv116 E
      · replace E := mmI_f c122 E
        refine X_iconst dL_isStep_563 rfl ?_
        refine X_goto 571 dL_isStep_564 (by decide) ?_
        refine X_sub [0, 4, 9] rfl ?_
        exact ok_L_isStep_L571 _ _ _ _ _ hr5 hv24 ir_m1 hv116 E
  replace E := mmI_f c114 E
  by_cases c131 : q27.1 = 7
  · replace E := mmI_t c131 E
    refine X_tableIn 7 602 dL_isStep_116 c131 (by decide) (by decide) rfl (by decide) ?_
    refine X_sub [0, 1, 4, 5, 8, 10] rfl ?_
    exact ok_L_isStep_L602 _ _ _ _ _ hr5 hr6 hv22 hv26 E
  replace E := mmI_f c131 E
  by_cases c164 : q27.1 = 8
  · replace E := mmI_t c164 E
    refine X_tableIn 8 602 dL_isStep_116 c164 (by decide) (by decide) rfl (by decide) ?_
    refine X_sub [0, 1, 4, 5, 8, 10] rfl ?_
    exact ok_L_isStep_L602 _ _ _ _ _ hr5 hr6 hv22 hv26 E
  replace E := mmI_f c164 E
  by_cases c165 : q27.1 = 9
  · replace E := mmI_t c165 E
    refine X_tableIn 9 753 dL_isStep_116 c165 (by decide) (by decide) rfl (by decide) ?_
    refine X_sub [0, 1, 4, 5, 8, 10] rfl ?_
    exact ok_L_isStep_L753 _ _ _ _ _ hr5 hr6 hv22 hv26 E
  replace E := mmI_f c165 E
  by_cases c201 : q27.1 = 10
  · replace E := mmI_t c201 E
    refine X_tableIn 10 753 dL_isStep_116 c201 (by decide) (by decide) rfl (by decide) ?_
    refine X_sub [0, 1, 4, 5, 8, 10] rfl ?_
    exact ok_L_isStep_L753 _ _ _ _ _ hr5 hr6 hv22 hv26 E
  replace E := mmI_f c201 E
  by_cases c202 : q27.1 = 11
  · replace E := mmI_t c202 E
    refine X_tableIn 11 753 dL_isStep_116 c202 (by decide) (by decide) rfl (by decide) ?_
    refine X_sub [0, 1, 4, 5, 8, 10] rfl ?_
    exact ok_L_isStep_L753 _ _ _ _ _ hr5 hr6 hv22 hv26 E
  replace E := mmI_f c202 E
  by_cases c203 : q27.1 = 12
  · replace E := mmI_t c203 E
    refine X_tableIn 12 918 dL_isStep_116 c203 (by decide) (by decide) rfl (by decide) ?_
    refine X_aload_n 0 dL_isStep_918 rfl ?_
    refine X_bipush (v := 8) dL_isStep_919 (by decide) ?_
    obtain ⟨q204, hq204, E⟩ := mmB_e E
    refine X_callO (zs := [8]) (st := []) 1 dL_isStep_921 hq204 (fun r hr => ct_X3_count ir_8 hr) ml_XL_21 im_X3_count sl_X3_count it_X3 cd_X3_count hy_X3_count ⟨rfl, rfl, by decide, by decide⟩ rfl rfl (Nat.le_of_ble_eq_true rfl) (fun hv205 => ?_)
    refine X_istore (lv' := [(0, .ref 0), (1, .ref 51), (2, vi l2), (3, vi l3), (5, vi l5), (6, vi l6), (7, vi (s2 + q16.1)), (8, vi q19.1), (9, vi q21.1), (10, vi q23.1), (11, vi q25.1), (12, vi q204.1)]) dL_isStep_924 rfl rfl ?_
    refine X_aload_n 0 dL_isStep_926 rfl ?_
    obtain ⟨q206, hq206, E⟩ := mmB_e E
    refine X_callO (zs := []) (st := []) 0 dL_isStep_927 hq206 (fun r hr => ct_X3_squeeze hr) ml_XL_64 im_X3_squeeze sl_X3_squeeze it_X3 cd_X3_squeeze hy_X3_squeeze ⟨rfl, rfl, by decide, by decide⟩ rfl rfl (Nat.le_of_ble_eq_true rfl) (fun hv207 => ?_)
    refine X_istore (lv' := [(0, .ref 0), (1, .ref 51), (2, vi l2), (3, vi l3), (5, vi l5), (6, vi l6), (7, vi (s2 + q16.1)), (8, vi q19.1), (9, vi q21.1), (10, vi q23.1), (11, vi q25.1), (12, vi q204.1), (13, vi q206.1)]) dL_isStep_930 rfl rfl ?_
    refine X_iload 12 dL_isStep_932 rfl ?_
    refine X_aload_n 1 dL_isStep_934 rfl ?_
    obtain ⟨q208, hq208, E⟩ := mmB_e E
    refine X_callP (zs := []) (st := [vi q206.1]) 0 dL_isStep_935 hq208 (fun r hr => ct_X3_squeeze hr) ml_XL_64 im_X3_squeeze sl_X3_squeeze it_X3 cd_X3_squeeze hy_X3_squeeze ⟨rfl, rfl, by decide, by decide⟩ rfl rfl (Nat.le_of_ble_eq_true rfl) (fun hv209 => ?_)
    refine X_icmp_ne 985 dL_isStep_938 (by decide) hv207 hv209 (fun c210 => ?_) (fun c210 => ?_)
    · replace E := mmI_f c210 E
      refine X_iconst dL_isStep_985 rfl ?_
      obtain rfl := Option.some.inj E
      exact X_reti dL_isStep_986 ⟨rfl, rfl, (Or.inl rfl)⟩
    · replace E := mmI_t c210 E
      refine X_iload 12 dL_isStep_941 rfl ?_
      refine X_iload 11 dL_isStep_943 rfl ?_
      refine X_if_ne 953 dL_isStep_945 (by decide) hv205 (fun c211 => ?_) (fun c211 => ?_)
      · replace E := mmI_f c211 E
        refine X_iload 11 dL_isStep_953 rfl ?_
        refine X_sub [0, 9, 11] rfl ?_
        exact ok_L_isStep_L955 _ _ _ _ _ hv24 hv205 hv205 hv207 E
      · replace E := mmI_t c211 E
        refine X_bipush (v := (-5)) dL_isStep_948 (by decide) ?_
        refine X_goto 955 dL_isStep_950 (by decide) ?_
        refine X_sub [0, 9, 11] rfl ?_
        exact ok_L_isStep_L955 _ _ _ _ _ hv24 hv205 ir_m5 hv207 E
  replace E := mmI_f c203 E
  by_cases c220 : q27.1 = 13
  · replace E := mmI_t c220 E
    refine X_tableIn 13 987 dL_isStep_116 c220 (by decide) (by decide) rfl (by decide) ?_
    refine X_iconst dL_isStep_987 rfl ?_
    refine X_iload_n 3 dL_isStep_988 rfl ?_
    refine X_bipush (v := 6) dL_isStep_989 (by decide) ?_
    obtain ⟨q221, hq221, E⟩ := mmB_e E
    refine X_callS (st := [vi 1]) (GP0 _) GB0 2 dL_isStep_991 (ct_L_up hr3 ir_6 hq221) ml_XL_17 st_L_up it_XL cd_L_up hz_L_up ⟨rfl, rfl, by decide, by decide⟩ rfl rfl (Nat.le_of_ble_eq_true rfl) (fun hv222 => ?_)
    obtain ⟨hv223, E⟩ := mmK_e E
    refine X_iadd dL_isStep_994 ?_
    refine X_istore (lv' := [(0, .ref 0), (1, .ref 51), (2, vi l2), (3, vi l3), (5, vi l5), (6, vi l6), (7, vi (s2 + q16.1)), (8, vi q19.1), (9, vi q21.1), (10, vi q23.1), (11, vi q25.1), (12, vi (1 + q221.1))]) dL_isStep_995 rfl rfl ?_
    refine X_aload_n 0 dL_isStep_997 rfl ?_
    refine X_iconst dL_isStep_998 rfl ?_
    obtain ⟨q224, hq224, E⟩ := mmB_e E
    refine X_callO (zs := [4]) (st := []) 1 dL_isStep_999 hq224 (fun r hr => ct_X3_count ir_4 hr) ml_XL_21 im_X3_count sl_X3_count it_X3 cd_X3_count hy_X3_count ⟨rfl, rfl, by decide, by decide⟩ rfl rfl (Nat.le_of_ble_eq_true rfl) (fun hv225 => ?_)
    refine X_istore (lv' := [(0, .ref 0), (1, .ref 51), (2, vi l2), (3, vi l3), (5, vi l5), (6, vi l6), (7, vi (s2 + q16.1)), (8, vi q19.1), (9, vi q21.1), (10, vi q23.1), (11, vi q25.1), (12, vi (1 + q221.1)), (13, vi q224.1)]) dL_isStep_1002 rfl rfl ?_
    refine X_aload_n 0 dL_isStep_1004 rfl ?_
    refine X_iload 11 dL_isStep_1005 rfl ?_
    obtain ⟨q226, hq226, E⟩ := mmB_e E
    refine X_callO (zs := [(1 + q221.1)]) (st := []) 1 dL_isStep_1007 hq226 (fun r hr => ct_X3_makeAnew hv223 hr) ml_XL_67 im_X3_makeAnew sl_X3_makeAnew it_X3 cd_X3_makeAnew hy_X3_makeAnew ⟨rfl, rfl, by decide, by decide⟩ rfl rfl (Nat.le_of_ble_eq_true rfl) (fun hv227 => ?_)
    refine X_istore (lv' := [(0, .ref 0), (1, .ref 51), (2, vi l2), (3, vi l3), (5, vi l5), (6, vi l6), (7, vi (s2 + q16.1)), (8, vi q19.1), (9, vi q21.1), (10, vi q23.1), (11, vi q25.1), (12, vi (1 + q221.1)), (13, vi q224.1), (14, vi q226.1)]) dL_isStep_1010 rfl rfl ?_
    refine X_iload 13 dL_isStep_1012 rfl ?_
    refine X_aload_n 1 dL_isStep_1014 rfl ?_
    refine X_iload 11 dL_isStep_1015 rfl ?_
    obtain ⟨q228, hq228, E⟩ := mmB_e E
    refine X_callP (zs := [(1 + q221.1)]) (st := [vi q226.1]) 1 dL_isStep_1017 hq228 (fun r hr => ct_X3_makeAnew hv223 hr) ml_XL_67 im_X3_makeAnew sl_X3_makeAnew it_X3 cd_X3_makeAnew hy_X3_makeAnew ⟨rfl, rfl, by decide, by decide⟩ rfl rfl (Nat.le_of_ble_eq_true rfl) (fun hv229 => ?_)
    refine X_icmp_ne 1074 dL_isStep_1020 (by decide) hv227 hv229 (fun c230 => ?_) (fun c230 => ?_)
    · replace E := mmI_f c230 E
      refine X_iconst dL_isStep_1074 rfl ?_
      obtain rfl := Option.some.inj E
      exact X_reti dL_isStep_1075 ⟨rfl, rfl, (Or.inl rfl)⟩
    · replace E := mmI_t c230 E
      refine X_iload 13 dL_isStep_1023 rfl ?_
      refine X_iload 8 dL_isStep_1025 rfl ?_
      refine X_iconst dL_isStep_1027 rfl ?_
      refine X_iload 11 dL_isStep_1028 rfl ?_
      obtain ⟨hv231, E⟩ := mmK_e E
      refine X_imul dL_isStep_1030 ?_
      refine X_icmp_le 1039 dL_isStep_1031 (by decide) hv22 hv231 (fun c232 => ?_) (fun c232 => ?_)
      · replace E := mmI_t c232 E
        refine X_iload 12 dL_isStep_1039 rfl ?_
        refine X_iload 11 dL_isStep_1041 rfl ?_
        refine X_icmp_ne 1051 dL_isStep_1043 (by decide) hv225 hv223 (fun c233 => ?_) (fun c233 => ?_)
        · replace E := mmI_f c233 E
          refine X_iload 12 dL_isStep_1051 rfl ?_
          refine X_sub [0, 13] rfl ?_
          exact ok_L_isStep_L1053 _ _ _ _ hv227 hv225 hv227 E
        · replace E := mmI_t c233 E
          refine X_bipush (v := (-5)) dL_isStep_1046 (by decide) ?_
          refine X_goto 1053 dL_isStep_1048 (by decide) ?_
          refine X_sub [0, 13] rfl ?_
          exact ok_L_isStep_L1053 _ _ _ _ hv227 ir_m5 hv227 E
      · replace E := mmI_f c232 E
        refine X_bipush (v := (-6)) dL_isStep_1034 (by decide) ?_
        refine X_goto 1053 dL_isStep_1036 (by decide) ?_
        refine X_sub [0, 13] rfl ?_
        exact ok_L_isStep_L1053 _ _ _ _ hv227 ir_m6 hv227 E
  replace E := mmI_f c220 E
  refine X_tableOut 1076 dL_isStep_116 hv28 (by omega) (by decide) ?_
  refine X_aload_n 0 dL_isStep_1076 rfl ?_
  refine X_bipush (v := 13) dL_isStep_1077 (by decide) ?_
  obtain ⟨q239, hq239, E⟩ := mmB_e E
  refine X_callO (zs := [13]) (st := []) 1 dL_isStep_1079 hq239 (fun r hr => ct_X3_count ir_13 hr) ml_XL_21 im_X3_count sl_X3_count it_X3 cd_X3_count hy_X3_count ⟨rfl, rfl, by decide, by decide⟩ rfl rfl (Nat.le_of_ble_eq_true rfl) (fun hv240 => ?_)
  refine X_if_eq 1096 dL_isStep_1082 (by decide) hv240 (fun c241 => ?_) (fun c241 => ?_)
  · replace E := mmI_t c241 E
    refine X_iconst dL_isStep_1096 rfl ?_
    refine X_goto 1101 dL_isStep_1097 (by decide) ?_
    obtain rfl := Option.some.inj E
    exact X_reti dL_isStep_1101 ⟨rfl, rfl, (Or.inr rfl)⟩
  · replace E := mmI_f c241 E
    refine X_aload_n 0 dL_isStep_1085 rfl ?_
    obtain ⟨q242, hq242, E⟩ := mmB_e E
    refine X_callO (zs := []) (st := []) 0 dL_isStep_1086 hq242 (fun r hr => ct_X3_undo hr) ml_XL_70 im_X3_undo sl_X3_undo it_X3 cd_X3_undo hy_X3_undo ⟨rfl, rfl, by decide, by decide⟩ rfl rfl (Nat.le_of_ble_eq_true rfl) (fun hv243 => ?_)
    refine X_aload_n 1 dL_isStep_1089 rfl ?_
    obtain ⟨q244, hq244, E⟩ := mmB_e E
    refine X_callP (zs := []) (st := [vi q242.1]) 0 dL_isStep_1090 hq244 (fun r hr => ct_X3_undo hr) ml_XL_70 im_X3_undo sl_X3_undo it_X3 cd_X3_undo hy_X3_undo ⟨rfl, rfl, by decide, by decide⟩ rfl rfl (Nat.le_of_ble_eq_true rfl) (fun hv245 => ?_)
    refine X_icmp_ne 1100 dL_isStep_1093 (by decide) hv243 hv245 (fun c246 => ?_) (fun c246 => ?_)
    · replace E := mmI_f c246 E
      refine X_iconst dL_isStep_1100 rfl ?_
      obtain rfl := Option.some.inj E
      exact X_reti dL_isStep_1101 ⟨rfl, rfl, (Or.inl rfl)⟩
    · replace E := mmI_t c246 E
      refine X_iconst dL_isStep_1096 rfl ?_
      refine X_goto 1101 dL_isStep_1097 (by decide) ?_
      obtain rfl := Option.some.inj E
      exact X_reti dL_isStep_1101 ⟨rfl, rfl, (Or.inr rfl)⟩
noncomputable def f_L_isStep (l2 : Int) (l3 : Int) (m : Mem2) : Option (Int × Mem2) :=
  (f_L_up (shr l2 4) 3 m).bind (fun q1 => mmK (inR (26 * q1.1)) ((f_L_up (shr (shr l2 4) 2) 5 q1.2).bind (fun q4 => mmK (inR ((26 * q1.1) + q4.1)) ((f_L_up (shr (shr l2 4) 5) 3 q4.2).bind (fun q7 => mmK (inR (26 * q7.1)) ((f_L_up (shr (shr l2 4) 7) 5 q7.2).bind (fun q10 => mmK (inR ((26 * q7.1) + q10.1)) ((f_L_up (shr l3 6) 3 q10.2).bind (fun q13 => if q13.1 = 0 then
(f_L_isStep_L68 l2 l3 ((26 * q1.1) + q4.1) ((26 * q7.1) + q10.1) 40 l3 1 q13.2)
else
(f_L_isStep_L68 l2 l3 ((26 * q1.1) + q4.1) ((26 * q7.1) + q10.1) 10 l3 1 q13.2))))))))))
set_option maxRecDepth 100000 in
set_option maxHeartbeats 4000000 in
theorem ok_L_isStep {r : Int × Mem2} : ∀ (l2 : Int) (l3 : Int) (m : Mem2), inR l2 → inR l3 → f_L_isStep l2 l3 m = some r → V2 RL cL_isStep 16 rm_L_isStep mmG0 (mm2Pz r) 0 [(0, .ref 0), (1, .ref 51), (2, vi l2), (3, vi l3)] [] m := by
  intro l2 l3 m hr2 hr3 E
  unfold f_L_isStep at E
  refine X_iload_n 2 dL_isStep_0 rfl ?_
  refine X_iconst dL_isStep_1 rfl ?_
  refine X_ishr dL_isStep_2 ?_
  refine X_istore (lv' := [(0, .ref 0), (1, .ref 51), (2, vi l2), (3, vi l3), (4, vi (shr l2 4))]) dL_isStep_3 rfl rfl ?_
  refine X_bipush (v := 26) dL_isStep_5 (by decide) ?_
  refine X_iload 4 dL_isStep_7 rfl ?_
  refine X_iconst dL_isStep_9 rfl ?_
  obtain ⟨q1, hq1, E⟩ := mmB_e E
  refine X_callS (st := [vi 26]) (GP0 _) GB0 2 dL_isStep_10 (ct_L_up (inR_shr l2 4) ir_3 hq1) ml_XL_17 st_L_up it_XL cd_L_up hz_L_up ⟨rfl, rfl, by decide, by decide⟩ rfl rfl (Nat.le_of_ble_eq_true rfl) (fun hv2 => ?_)
  obtain ⟨hv3, E⟩ := mmK_e E
  refine X_imul dL_isStep_13 ?_
  refine X_iload 4 dL_isStep_14 rfl ?_
  refine X_iconst dL_isStep_16 rfl ?_
  refine X_ishr dL_isStep_17 ?_
  refine X_iconst dL_isStep_18 rfl ?_
  obtain ⟨q4, hq4, E⟩ := mmB_e E
  refine X_callS (st := [vi (26 * q1.1)]) (GP0 _) GB0 2 dL_isStep_19 (ct_L_up (inR_shr (shr l2 4) 2) ir_5 hq4) ml_XL_17 st_L_up it_XL cd_L_up hz_L_up ⟨rfl, rfl, by decide, by decide⟩ rfl rfl (Nat.le_of_ble_eq_true rfl) (fun hv5 => ?_)
  obtain ⟨hv6, E⟩ := mmK_e E
  refine X_iadd dL_isStep_22 ?_
  refine X_istore (lv' := [(0, .ref 0), (1, .ref 51), (2, vi l2), (3, vi l3), (4, vi (shr l2 4)), (5, vi ((26 * q1.1) + q4.1))]) dL_isStep_23 rfl rfl ?_
  refine X_bipush (v := 26) dL_isStep_25 (by decide) ?_
  refine X_iload 4 dL_isStep_27 rfl ?_
  refine X_iconst dL_isStep_29 rfl ?_
  refine X_ishr dL_isStep_30 ?_
  refine X_iconst dL_isStep_31 rfl ?_
  obtain ⟨q7, hq7, E⟩ := mmB_e E
  refine X_callS (st := [vi 26]) (GP0 _) GB0 2 dL_isStep_32 (ct_L_up (inR_shr (shr l2 4) 5) ir_3 hq7) ml_XL_17 st_L_up it_XL cd_L_up hz_L_up ⟨rfl, rfl, by decide, by decide⟩ rfl rfl (Nat.le_of_ble_eq_true rfl) (fun hv8 => ?_)
  obtain ⟨hv9, E⟩ := mmK_e E
  refine X_imul dL_isStep_35 ?_
  refine X_iload 4 dL_isStep_36 rfl ?_
  refine X_bipush (v := 7) dL_isStep_38 (by decide) ?_
  refine X_ishr dL_isStep_40 ?_
  refine X_iconst dL_isStep_41 rfl ?_
  obtain ⟨q10, hq10, E⟩ := mmB_e E
  refine X_callS (st := [vi (26 * q7.1)]) (GP0 _) GB0 2 dL_isStep_42 (ct_L_up (inR_shr (shr l2 4) 7) ir_5 hq10) ml_XL_17 st_L_up it_XL cd_L_up hz_L_up ⟨rfl, rfl, by decide, by decide⟩ rfl rfl (Nat.le_of_ble_eq_true rfl) (fun hv11 => ?_)
  obtain ⟨hv12, E⟩ := mmK_e E
  refine X_iadd dL_isStep_45 ?_
  refine X_istore (lv' := [(0, .ref 0), (1, .ref 51), (2, vi l2), (3, vi l3), (4, vi (shr l2 4)), (5, vi ((26 * q1.1) + q4.1)), (6, vi ((26 * q7.1) + q10.1))]) dL_isStep_46 rfl rfl ?_
  refine X_iconst dL_isStep_48 rfl ?_
  refine X_iload_n 3 dL_isStep_49 rfl ?_
  refine X_iload_n 3 dL_isStep_50 rfl ?_
  refine X_bipush (v := 6) dL_isStep_51 (by decide) ?_
  refine X_ishr dL_isStep_53 ?_
  refine X_iconst dL_isStep_54 rfl ?_
  obtain ⟨q13, hq13, E⟩ := mmB_e E
  refine X_callS (st := [vi l3, vi 1]) (GP0 _) GB0 2 dL_isStep_55 (ct_L_up (inR_shr l3 6) ir_3 hq13) ml_XL_17 st_L_up it_XL cd_L_up hz_L_up ⟨rfl, rfl, by decide, by decide⟩ rfl rfl (Nat.le_of_ble_eq_true rfl) (fun hv14 => ?_)
  refine X_if_ne 66 dL_isStep_58 (by decide) hv14 (fun c15 => ?_) (fun c15 => ?_)
  · replace E := mmI_f c15 E
    refine X_bipush (v := 10) dL_isStep_66 (by decide) ?_
    refine X_sub [0, 1, 2, 3, 5, 6] rfl ?_
    exact ok_L_isStep_L68 _ _ _ _ _ _ _ _ hr2 hr3 hv6 hv12 ir_10 hr3 ir_1 E
  · replace E := mmI_t c15 E
    refine X_bipush (v := 40) dL_isStep_61 (by decide) ?_
    refine X_goto 68 dL_isStep_63 (by decide) ?_
    refine X_sub [0, 1, 2, 3, 5, 6] rfl ?_
    exact ok_L_isStep_L68 _ _ _ _ _ _ _ _ hr2 hr3 hv6 hv12 ir_40 hr3 ir_1 E
theorem ct_L_isStep {l2 : Int} {l3 : Int} {m : Mem2} {r : Int × Mem2} (hr2 : inR l2) (hr3 : inR l3) (E : f_L_isStep l2 l3 m = some r) : CT2 mmG0 yL_isStep cL_isStep 16 (some .boolean) rm_L_isStep [.ref 0, .ref 51, vi l2, vi l3] m r := CT_z2 (by decide +kernel) rfl (Nat.le_of_ble_eq_true rfl) (ok_L_isStep _ _ _ hr2 hr3 E)
theorem hz_L_isStep : yL_isStep.cls ≠ "java/lang/invoke/MethodHandle" ∧ yL_isStep.cls ≠ "java/lang/invoke/VarHandle" ∧ (parseMethodDescriptor yL_isStep.desc).map (fun d => d.parameters.length) = some 4 := by decide +kernel
