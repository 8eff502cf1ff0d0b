abbrev rm_L_areAlike : Room := { frames := 6, cells := 0, slots := 0, locals := 128 }
noncomputable def f_L_areAlike_L238 : Nat → Int → Int → Mem2 → Option (Int × Mem2)
  | 0, _, _, _ => none
  | n + 1, l2, l3, m =>
    if 13 ≤ l3 then
(mmK (l2 = 0 ∨ l2 = 1) (some (l2, m)))
else
(if l2 = 0 then
(mmK (inR (l3 + 1)) (f_L_areAlike_L238 n 0 (l3 + 1) m))
else
((mmO (f_X3_beginning l3 1) m).bind (fun q10 => (f_L_there q10.1 q10.2).bind (fun q12 => mmK (inR (l3 + 13)) ((mmP (f_X3_beginning (l3 + 13) 1) q12.2).bind (fun q15 => if q12.1 = q15.1 then
(mmK (inR (l3 + 1)) (f_L_areAlike_L238 n 1 (l3 + 1) q15.2))
else
(mmK (inR (l3 + 1)) (f_L_areAlike_L238 n 0 (l3 + 1) q15.2))))))))
set_option maxRecDepth 100000 in
set_option maxHeartbeats 4000000 in
theorem ok_L_areAlike_L238 {r : Int × Mem2} : ∀ (n : Nat), ∀ (l2 : Int) (l3 : Int) (m : Mem2), inR l2 → inR l3 → f_L_areAlike_L238 n l2 l3 m = some r → V2 RL cL_areAlike 6 rm_L_areAlike mmG0 (mm2Pz r) 238 [(0, .ref 0), (1, .ref 51), (2, vi l2), (3, vi l3)] [] m := by
  intro n
  induction n with
  | zero =>
    intro l2 l3 m hr2 hr3 E
    cases E
  | succ n ih =>
    intro l2 l3 m hr2 hr3 E
    rw [f_L_areAlike_L238] at E
    refine X_iload_n 3 dL_areAlike_238 rfl ?_
    refine X_bipush (v := 13) dL_areAlike_239 (by decide) ?_
    refine X_icmp_ge 281 dL_areAlike_241 (by decide) hr3 ir_13 (fun c6 => ?_) (fun c6 => ?_)
    · replace E := mmI_t c6 E
      refine X_iload_n 2 dL_areAlike_281 rfl ?_
      obtain ⟨hz7, E⟩ := mmK_e E
      obtain rfl := Option.some.inj E
      exact X_reti dL_areAlike_282 ⟨rfl, rfl, hz7⟩
    · replace E := mmI_f c6 E
      refine X_iload_n 2 dL_areAlike_244 rfl ?_
      refine X_if_eq 273 dL_areAlike_245 (by decide) hr2 (fun c8 => ?_) (fun c8 => ?_)
      · replace E := mmI_t c8 E
        refine X_iconst dL_areAlike_273 rfl ?_
        refine X_istore_n (i := 2) (lv' := [(0, .ref 0), (1, .ref 51), (2, vi 0), (3, vi l3)]) dL_areAlike_274 rfl rfl rfl ?_
        obtain ⟨hv9, E⟩ := mmK_e E
        refine X_iinc (v := (l3 + 1)) (lv' := [(0, .ref 0), (1, .ref 51), (2, vi 0), (3, vi (l3 + 1))]) 3 dL_areAlike_275 rfl rfl rfl rfl ?_
        refine X_goto 238 dL_areAlike_278 (by decide) ?_
        exact ih _ _ _ ir_0 hv9 E
      · replace E := mmI_f c8 E
        refine X_aload_n 0 dL_areAlike_248 rfl ?_
        refine X_iload_n 3 dL_areAlike_249 rfl ?_
        refine X_iconst dL_areAlike_250 rfl ?_
        obtain ⟨q10, hq10, E⟩ := mmB_e E
        refine X_callO (zs := [l3, 1]) (st := []) 2 dL_areAlike_251 hq10 (fun r hr => ct_X3_beginning hr3 ir_1 hr) ml_XL_79 im_X3_beginning sl_X3_beginning it_X3 cd_X3_beginning hy_X3_beginning ⟨rfl, rfl, by decide, by decide⟩ rfl rfl (Nat.le_of_ble_eq_true rfl) (fun hv11 => ?_)
        obtain ⟨q12, hq12, E⟩ := mmB_e E
        refine X_callS (st := []) (GP0 _) GB0 1 dL_areAlike_254 (ct_L_there hv11 hq12) ml_XL_32 st_L_there it_XL cd_L_there hz_L_there ⟨rfl, rfl, by decide, by decide⟩ rfl rfl (Nat.le_of_ble_eq_true rfl) (fun hv13 => ?_)
        refine X_aload_n 1 dL_areAlike_257 rfl ?_
        refine X_iload_n 3 dL_areAlike_258 rfl ?_
        refine X_bipush (v := 13) dL_areAlike_259 (by decide) ?_
        obtain ⟨hv14, E⟩ := mmK_e E
        refine X_iadd dL_areAlike_261 ?_
        refine X_iconst dL_areAlike_262 rfl ?_
        obtain ⟨q15, hq15, E⟩ := mmB_e E
        refine X_callP (zs := [(l3 + 13), 1]) (st := [vi q12.1]) 2 dL_areAlike_263 hq15 (fun r hr => ct_X3_beginning hv14 ir_1 hr) ml_XL_79 im_X3_beginning sl_X3_beginning it_X3 cd_X3_beginning hy_X3_beginning ⟨rfl, rfl, by decide, by decide⟩ rfl rfl (Nat.le_of_ble_eq_true rfl) (fun hv16 => ?_)
        refine X_icmp_ne 273 dL_areAlike_266 (by decide) hv13 hv16 (fun c17 => ?_) (fun c17 => ?_)
        · replace E := mmI_f c17 E
          refine X_iconst dL_areAlike_273 rfl ?_
          refine X_istore_n (i := 2) (lv' := [(0, .ref 0), (1, .ref 51), (2, vi 0), (3, vi l3)]) dL_areAlike_274 rfl rfl rfl ?_
          obtain ⟨hv18, E⟩ := mmK_e E
          refine X_iinc (v := (l3 + 1)) (lv' := [(0, .ref 0), (1, .ref 51), (2, vi 0), (3, vi (l3 + 1))]) 3 dL_areAlike_275 rfl rfl rfl rfl ?_
          refine X_goto 238 dL_areAlike_278 (by decide) ?_
          exact ih _ _ _ ir_0 hv18 E
        · replace E := mmI_t c17 E
          refine X_iconst dL_areAlike_269 rfl ?_
          refine X_goto 274 dL_areAlike_270 (by decide) ?_
          refine X_istore_n (i := 2) (lv' := [(0, .ref 0), (1, .ref 51), (2, vi 1), (3, vi l3)]) dL_areAlike_274 rfl rfl rfl ?_
          obtain ⟨hv19, E⟩ := mmK_e E
          refine X_iinc (v := (l3 + 1)) (lv' := [(0, .ref 0), (1, .ref 51), (2, vi 1), (3, vi (l3 + 1))]) 3 dL_areAlike_275 rfl rfl rfl rfl ?_
          refine X_goto 238 dL_areAlike_278 (by decide) ?_
          exact ih _ _ _ ir_1 hv19 E
noncomputable def f_L_areAlike_L198 : Nat → Int → Int → Mem2 → Option (Int × Mem2)
  | 0, _, _, _ => none
  | n + 1, l2, l3, m =>
    if 100 ≤ l3 then
(f_L_areAlike_L238 mmFU l2 0 m)
else
(if l2 = 0 then
(mmK (inR (l3 + 3)) (f_L_areAlike_L198 n 0 (l3 + 3) m))
else
((mmO (f_X3_at l3) m).bind (fun q22 => (f_L_there q22.1 q22.2).bind (fun q24 => (mmP (f_X3_at l3) q24.2).bind (fun q26 => if q24.1 = q26.1 then
(mmK (inR (l3 + 3)) (f_L_areAlike_L198 n 1 (l3 + 3) q26.2))
else
(mmK (inR (l3 + 3)) (f_L_areAlike_L198 n 0 (l3 + 3) q26.2)))))))
set_option maxRecDepth 100000 in
set_option maxHeartbeats 4000000 in
theorem ok_L_areAlike_L198 {r : Int × Mem2} : ∀ (n : Nat), ∀ (l2 : Int) (l3 : Int) (m : Mem2), inR l2 → inR l3 → f_L_areAlike_L198 n l2 l3 m = some r → V2 RL cL_areAlike 6 rm_L_areAlike mmG0 (mm2Pz r) 198 [(0, .ref 0), (1, .ref 51), (2, vi l2), (3, vi l3)] [] m := by
  intro n
  induction n with
  | zero =>
    intro l2 l3 m hr2 hr3 E
    cases E
  | succ n ih =>
    intro l2 l3 m hr2 hr3 E
    rw [f_L_areAlike_L198] at E
    refine X_iload_n 3 dL_areAlike_198 rfl ?_
    refine X_bipush (v := 100) dL_areAlike_199 (by decide) ?_
    refine X_icmp_ge 236 dL_areAlike_201 (by decide) hr3 ir_100 (fun c5 => ?_) (fun c5 => ?_)
    · replace E := mmI_t c5 E
      refine X_iconst dL_areAlike_236 rfl ?_
      refine X_istore_n (i := 3) (lv' := [(0, .ref 0), (1, .ref 51), (2, vi l2), (3, vi 0)]) dL_areAlike_237 rfl rfl rfl ?_
      exact ok_L_areAlike_L238 mmFU _ _ _ hr2 ir_0 E
    · replace E := mmI_f c5 E
      refine X_iload_n 2 dL_areAlike_204 rfl ?_
      refine X_if_eq 228 dL_areAlike_205 (by decide) hr2 (fun c20 => ?_) (fun c20 => ?_)
      · replace E := mmI_t c20 E
        refine X_iconst dL_areAlike_228 rfl ?_
        refine X_istore_n (i := 2) (lv' := [(0, .ref 0), (1, .ref 51), (2, vi 0), (3, vi l3)]) dL_areAlike_229 rfl rfl rfl ?_
        obtain ⟨hv21, E⟩ := mmK_e E
        refine X_iinc (v := (l3 + 3)) (lv' := [(0, .ref 0), (1, .ref 51), (2, vi 0), (3, vi (l3 + 3))]) 3 dL_areAlike_230 rfl rfl rfl rfl ?_
        refine X_goto 198 dL_areAlike_233 (by decide) ?_
        exact ih _ _ _ ir_0 hv21 E
      · replace E := mmI_f c20 E
        refine X_aload_n 0 dL_areAlike_208 rfl ?_
        refine X_iload_n 3 dL_areAlike_209 rfl ?_
        obtain ⟨q22, hq22, E⟩ := mmB_e E
        refine X_callO (zs := [l3]) (st := []) 1 dL_areAlike_210 hq22 (fun r hr => ct_X3_at hr3 hr) ml_XL_76 im_X3_at sl_X3_at it_X3 cd_X3_at hy_X3_at ⟨rfl, rfl, by decide, by decide⟩ rfl rfl (Nat.le_of_ble_eq_true rfl) (fun hv23 => ?_)
        obtain ⟨q24, hq24, E⟩ := mmB_e E
        refine X_callS (st := []) (GP0 _) GB0 1 dL_areAlike_213 (ct_L_there hv23 hq24) ml_XL_32 st_L_there it_XL cd_L_there hz_L_there ⟨rfl, rfl, by decide, by decide⟩ rfl rfl (Nat.le_of_ble_eq_true rfl) (fun hv25 => ?_)
        refine X_aload_n 1 dL_areAlike_216 rfl ?_
        refine X_iload_n 3 dL_areAlike_217 rfl ?_
        obtain ⟨q26, hq26, E⟩ := mmB_e E
        refine X_callP (zs := [l3]) (st := [vi q24.1]) 1 dL_areAlike_218 hq26 (fun r hr => ct_X3_at hr3 hr) ml_XL_76 im_X3_at sl_X3_at it_X3 cd_X3_at hy_X3_at ⟨rfl, rfl, by decide, by decide⟩ rfl rfl (Nat.le_of_ble_eq_true rfl) (fun hv27 => ?_)
        refine X_icmp_ne 228 dL_areAlike_221 (by decide) hv25 hv27 (fun c28 => ?_) (fun c28 => ?_)
        · replace E := mmI_f c28 E
          refine X_iconst dL_areAlike_228 rfl ?_
          refine X_istore_n (i := 2) (lv' := [(0, .ref 0), (1, .ref 51), (2, vi 0), (3, vi l3)]) dL_areAlike_229 rfl rfl rfl ?_
          obtain ⟨hv29, E⟩ := mmK_e E
          refine X_iinc (v := (l3 + 3)) (lv' := [(0, .ref 0), (1, .ref 51), (2, vi 0), (3, vi (l3 + 3))]) 3 dL_areAlike_230 rfl rfl rfl rfl ?_
          refine X_goto 198 dL_areAlike_233 (by decide) ?_
          exact ih _ _ _ ir_0 hv29 E
        · replace E := mmI_t c28 E
          refine X_iconst dL_areAlike_224 rfl ?_
          refine X_goto 229 dL_areAlike_225 (by decide) ?_
          refine X_istore_n (i := 2) (lv' := [(0, .ref 0), (1, .ref 51), (2, vi 1), (3, vi l3)]) dL_areAlike_229 rfl rfl rfl ?_
          obtain ⟨hv30, E⟩ := mmK_e E
          refine X_iinc (v := (l3 + 3)) (lv' := [(0, .ref 0), (1, .ref 51), (2, vi 1), (3, vi (l3 + 3))]) 3 dL_areAlike_230 rfl rfl rfl rfl ?_
          refine X_goto 198 dL_areAlike_233 (by decide) ?_
          exact ih _ _ _ ir_1 hv30 E
noncomputable def f_L_areAlike_L132 (k41 : Int → Int → Mem2 → Option (Int × Mem2)) : Nat → Int → Int → Int → Int → Mem2 → Option (Int × Mem2)
  | 0, _, _, _, _, _ => none
  | n + 1, l2, l3, l4, l5, m =>
    if 9 ≤ l5 then
(mmK (inR (l3 + 1)) (k41 l2 (l3 + 1) m))
else
(if l2 = 0 then
(mmK (inR (l5 + 1)) (f_L_areAlike_L132 k41 n 0 l3 l4 (l5 + 1) m))
else
(if l5 = 5 then
(mmK (inR (l5 + 1)) (f_L_areAlike_L132 k41 n 1 l3 l4 (l5 + 1) m))
else
(if l5 = 7 then
(mmK (inR (l5 + 1)) (f_L_areAlike_L132 k41 n 1 l3 l4 (l5 + 1) m))
else
((mmO (f_X3_entry l4 l5) m).bind (fun q47 => (f_L_there l4 q47.2).bind (fun q49 => (mmP (f_X3_entry q49.1 l5) q49.2).bind (fun q51 => if q47.1 = q51.1 then
(mmK (inR (l5 + 1)) (f_L_areAlike_L132 k41 n 1 l3 l4 (l5 + 1) q51.2))
else
(mmK (inR (l5 + 1)) (f_L_areAlike_L132 k41 n 0 l3 l4 (l5 + 1) q51.2)))))))))
set_option maxRecDepth 100000 in
set_option maxHeartbeats 4000000 in
theorem ok_L_areAlike_L132 {k41 : Int → Int → Mem2 → Option (Int × Mem2)} {r : Int × Mem2} (hk41 : ∀ (l2 : Int) (l3 : Int) (m : Mem2), inR l2 → inR l3 → k41 l2 l3 m = some r → V2 RL cL_areAlike 6 rm_L_areAlike mmG0 (mm2Pz r) 41 [(0, .ref 0), (1, .ref 51), (2, vi l2), (3, vi l3)] [] m) : ∀ (n : Nat), ∀ (l2 : Int) (l3 : Int) (l4 : Int) (l5 : Int) (m : Mem2), inR l2 → inR l3 → inR l4 → inR l5 → f_L_areAlike_L132 k41 n l2 l3 l4 l5 m = some r → V2 RL cL_areAlike 6 rm_L_areAlike mmG0 (mm2Pz r) 132 [(0, .ref 0), (1, .ref 51), (2, vi l2), (3, vi l3), (4, vi l4), (5, vi l5)] [] m := by
  intro n
  induction n with
  | zero =>
    intro l2 l3 l4 l5 m hr2 hr3 hr4 hr5 E
    cases E
  | succ n ih =>
    intro l2 l3 l4 l5 m hr2 hr3 hr4 hr5 E
    rw [f_L_areAlike_L132] at E
    refine X_iload 5 dL_areAlike_132 rfl ?_
    refine X_bipush (v := 9) dL_areAlike_134 (by decide) ?_
    refine X_icmp_ge 190 dL_areAlike_136 (by decide) hr5 ir_9 (fun c39 => ?_) (fun c39 => ?_)
    · replace E := mmI_t c39 E
      obtain ⟨hv40, E⟩ := mmK_e E
      refine X_iinc (v := (l3 + 1)) (lv' := [(0, .ref 0), (1, .ref 51), (2, vi l2), (3, vi (l3 + 1)), (4, vi l4), (5, vi l5)]) 3 dL_areAlike_190 rfl rfl rfl rfl ?_
      refine X_goto 41 dL_areAlike_193 (by decide) ?_
      refine X_sub [0, 1, 2, 3] rfl ?_
      exact hk41 _ _ _ hr2 hv40 E
    · replace E := mmI_f c39 E
      refine X_iload_n 2 dL_areAlike_139 rfl ?_
      refine X_if_eq 182 dL_areAlike_140 (by decide) hr2 (fun c41 => ?_) (fun c41 => ?_)
      · replace E := mmI_t c41 E
        refine X_iconst dL_areAlike_182 rfl ?_
        refine X_istore_n (i := 2) (lv' := [(0, .ref 0), (1, .ref 51), (2, vi 0), (3, vi l3), (4, vi l4), (5, vi l5)]) dL_areAlike_183 rfl rfl rfl ?_
        obtain ⟨hv42, E⟩ := mmK_e E
        refine X_iinc (v := (l5 + 1)) (lv' := [(0, .ref 0), (1, .ref 51), (2, vi 0), (3, vi l3), (4, vi l4), (5, vi (l5 + 1))]) 5 dL_areAlike_184 rfl rfl rfl rfl ?_
        refine X_goto 132 dL_areAlike_187 (by decide) ?_
        exact ih _ _ _ _ _ ir_0 hr3 hr4 hv42 E
      · replace E := mmI_f c41 E
        refine X_iload 5 dL_areAlike_143 rfl ?_
        refine X_iconst dL_areAlike_145 rfl ?_
        refine X_icmp_eq 178 dL_areAlike_146 (by decide) hr5 ir_5 (fun c43 => ?_) (fun c43 => ?_)
        · replace E := mmI_t c43 E
          refine X_iconst dL_areAlike_178 rfl ?_
          refine X_goto 183 dL_areAlike_179 (by decide) ?_
          refine X_istore_n (i := 2) (lv' := [(0, .ref 0), (1, .ref 51), (2, vi 1), (3, vi l3), (4, vi l4), (5, vi l5)]) dL_areAlike_183 rfl rfl rfl ?_
          obtain ⟨hv44, E⟩ := mmK_e E
          refine X_iinc (v := (l5 + 1)) (lv' := [(0, .ref 0), (1, .ref 51), (2, vi 1), (3, vi l3), (4, vi l4), (5, vi (l5 + 1))]) 5 dL_areAlike_184 rfl rfl rfl rfl ?_
          refine X_goto 132 dL_areAlike_187 (by decide) ?_
          exact ih _ _ _ _ _ ir_1 hr3 hr4 hv44 E
        · replace E := mmI_f c43 E
          refine X_iload 5 dL_areAlike_149 rfl ?_
          refine X_bipush (v := 7) dL_areAlike_151 (by decide) ?_
          refine X_icmp_eq 178 dL_areAlike_153 (by decide) hr5 ir_7 (fun c45 => ?_) (fun c45 => ?_)
          · replace E := mmI_t c45 E
            refine X_iconst dL_areAlike_178 rfl ?_
            refine X_goto 183 dL_areAlike_179 (by decide) ?_
            refine X_istore_n (i := 2) (lv' := [(0, .ref 0), (1, .ref 51), (2, vi 1), (3, vi l3), (4, vi l4), (5, vi l5)]) dL_areAlike_183 rfl rfl rfl ?_
            obtain ⟨hv46, E⟩ := mmK_e E
            refine X_iinc (v := (l5 + 1)) (lv' := [(0, .ref 0), (1, .ref 51), (2, vi 1), (3, vi l3), (4, vi l4), (5, vi (l5 + 1))]) 5 dL_areAlike_184 rfl rfl rfl rfl ?_
            refine X_goto 132 dL_areAlike_187 (by decide) ?_
            exact ih _ _ _ _ _ ir_1 hr3 hr4 hv46 E
          · replace E := mmI_f c45 E
            refine X_aload_n 0 dL_areAlike_156 rfl ?_
            refine X_iload 4 dL_areAlike_157 rfl ?_
            refine X_iload 5 dL_areAlike_159 rfl ?_
            obtain ⟨q47, hq47, E⟩ := mmB_e E
            refine X_callO (zs := [l4, l5]) (st := []) 2 dL_areAlike_161 hq47 (fun r hr => ct_X3_entry hr4 hr5 hr) ml_XL_25 im_X3_entry sl_X3_entry it_X3 cd_X3_entry hy_X3_entry ⟨rfl, rfl, by decide, by decide⟩ rfl rfl (Nat.le_of_ble_eq_true rfl) (fun hv48 => ?_)
            refine X_aload_n 1 dL_areAlike_164 rfl ?_
            refine X_iload 4 dL_areAlike_165 rfl ?_
            obtain ⟨q49, hq49, E⟩ := mmB_e E
            refine X_callS (st := [.ref 51, vi q47.1]) (GP0 _) GB0 1 dL_areAlike_167 (ct_L_there hr4 hq49) ml_XL_32 st_L_there it_XL cd_L_there hz_L_there ⟨rfl, rfl, by decide, by decide⟩ rfl rfl (Nat.le_of_ble_eq_true rfl) (fun hv50 => ?_)
            refine X_iload 5 dL_areAlike_170 rfl ?_
            obtain ⟨q51, hq51, E⟩ := mmB_e E
            refine X_callP (zs := [q49.1, l5]) (st := [vi q47.1]) 2 dL_areAlike_172 hq51 (fun r hr => ct_X3_entry hv50 hr5 hr) ml_XL_25 im_X3_entry sl_X3_entry it_X3 cd_X3_entry hy_X3_entry ⟨rfl, rfl, by decide, by decide⟩ rfl rfl (Nat.le_of_ble_eq_true rfl) (fun hv52 => ?_)
            refine X_icmp_ne 182 dL_areAlike_175 (by decide) hv48 hv52 (fun c53 => ?_) (fun c53 => ?_)
            · replace E := mmI_f c53 E
              refine X_iconst dL_areAlike_182 rfl ?_
              refine X_istore_n (i := 2) (lv' := [(0, .ref 0), (1, .ref 51), (2, vi 0), (3, vi l3), (4, vi l4), (5, vi l5)]) dL_areAlike_183 rfl rfl rfl ?_
              obtain ⟨hv54, E⟩ := mmK_e E
              refine X_iinc (v := (l5 + 1)) (lv' := [(0, .ref 0), (1, .ref 51), (2, vi 0), (3, vi l3), (4, vi l4), (5, vi (l5 + 1))]) 5 dL_areAlike_184 rfl rfl rfl rfl ?_
              refine X_goto 132 dL_areAlike_187 (by decide) ?_
              exact ih _ _ _ _ _ ir_0 hr3 hr4 hv54 E
            · replace E := mmI_t c53 E
              refine X_iconst dL_areAlike_178 rfl ?_
              refine X_goto 183 dL_areAlike_179 (by decide) ?_
              refine X_istore_n (i := 2) (lv' := [(0, .ref 0), (1, .ref 51), (2, vi 1), (3, vi l3), (4, vi l4), (5, vi l5)]) dL_areAlike_183 rfl rfl rfl ?_
              obtain ⟨hv55, E⟩ := mmK_e E
              refine X_iinc (v := (l5 + 1)) (lv' := [(0, .ref 0), (1, .ref 51), (2, vi 1), (3, vi l3), (4, vi l4), (5, vi (l5 + 1))]) 5 dL_areAlike_184 rfl rfl rfl rfl ?_
              refine X_goto 132 dL_areAlike_187 (by decide) ?_
              exact ih _ _ _ _ _ ir_1 hr3 hr4 hv55 E
noncomputable def f_L_areAlike_L41 : Nat → Int → Int → Mem2 → Option (Int × Mem2)
  | 0, _, _, _ => none
  | n + 1, l2, l3, m =>
    (mmO (f_X3_count 0) m).bind (fun q2 => if q2.1 ≤ l3 then
(f_L_areAlike_L198 mmFU l2 0 q2.2)
else
(if l2 = 0 then
(f_L_areAlike_L198 mmFU l2 0 q2.2)
else
((mmO (f_X3_named l3) q2.2).bind (fun q32 => (f_L_there q32.1 q32.2).bind (fun q34 => (mmP (f_X3_named l3) q34.2).bind (fun q36 => if q34.1 = q36.1 then
((mmO (f_X3_entry q32.1 7) q36.2).bind (fun q56 => (f_L_there q56.1 q56.2).bind (fun q58 => (f_L_there q32.1 q58.2).bind (fun q60 => (mmP (f_X3_entry q60.1 7) q60.2).bind (fun q62 => if q58.1 = q62.1 then
((mmO (f_X3_entry q32.1 5) q62.2).bind (fun q65 => (f_L_there q32.1 q65.2).bind (fun q67 => (mmP (f_X3_entry q67.1 5) q67.2).bind (fun q69 => mmK (inR (9999 - q69.1)) (if q65.1 = (9999 - q69.1) then
(f_L_areAlike_L132 (f_L_areAlike_L41 n) mmFU 1 l3 q32.1 0 q69.2)
else
(f_L_areAlike_L132 (f_L_areAlike_L41 n) mmFU 0 l3 q32.1 0 q69.2))))))
else
(f_L_areAlike_L132 (f_L_areAlike_L41 n) mmFU 0 l3 q32.1 0 q62.2))))))
else
(f_L_areAlike_L132 (f_L_areAlike_L41 n) mmFU 0 l3 q32.1 0 q36.2)))))))
set_option maxRecDepth 100000 in
set_option maxHeartbeats 4000000 in
theorem ok_L_areAlike_L41 {r : Int × Mem2} : ∀ (n : Nat), ∀ (l2 : Int) (l3 : Int) (m : Mem2), inR l2 → inR l3 → f_L_areAlike_L41 n l2 l3 m = some r → V2 RL cL_areAlike 6 rm_L_areAlike mmG0 (mm2Pz r) 41 [(0, .ref 0), (1, .ref 51), (2, vi l2), (3, vi l3)] [] m := by
  intro n
  induction n with
  | zero =>
    intro l2 l3 m hr2 hr3 E
    cases E
  | succ n ih =>
    intro l2 l3 m hr2 hr3 E
    rw [f_L_areAlike_L41] at E
    refine X_iload_n 3 dL_areAlike_41 rfl ?_
    refine X_aload_n 0 dL_areAlike_42 rfl ?_
    refine X_iconst dL_areAlike_43 rfl ?_
    obtain ⟨q2, hq2, E⟩ := mmB_e E
    refine X_callO (zs := [0]) (st := [vi l3]) 1 dL_areAlike_44 hq2 (fun r hr => ct_X3_count ir_0 hr) ml_XL_21 im_X3_count sl_X3_count it_X3 cd_X3_count hy_X3_count ⟨rfl, rfl, by decide, by decide⟩ rfl rfl (Nat.le_of_ble_eq_true rfl) (fun hv3 => ?_)
    refine X_icmp_ge 196 dL_areAlike_47 (by decide) hr3 hv3 (fun c4 => ?_) (fun c4 => ?_)
    · replace E := mmI_t c4 E
      refine X_iconst dL_areAlike_196 rfl ?_
      refine X_istore_n (i := 3) (lv' := [(0, .ref 0), (1, .ref 51), (2, vi l2), (3, vi 0)]) dL_areAlike_197 rfl rfl rfl ?_
      exact ok_L_areAlike_L198 mmFU _ _ _ hr2 ir_0 E
    · replace E := mmI_f c4 E
      refine X_iload_n 2 dL_areAlike_50 rfl ?_
      refine X_if_eq 196 dL_areAlike_51 (by decide) hr2 (fun c31 => ?_) (fun c31 => ?_)
      · replace E := mmI_t c31 E
        refine X_iconst dL_areAlike_196 rfl ?_
        refine X_istore_n (i := 3) (lv' := [(0, .ref 0), (1, .ref 51), (2, vi l2), (3, vi 0)]) dL_areAlike_197 rfl rfl rfl ?_
        exact ok_L_areAlike_L198 mmFU _ _ _ hr2 ir_0 E
      · replace E := mmI_f c31 E
        refine X_aload_n 0 dL_areAlike_54 rfl ?_
        refine X_iload_n 3 dL_areAlike_55 rfl ?_
        obtain ⟨q32, hq32, E⟩ := mmB_e E
        refine X_callO (zs := [l3]) (st := []) 1 dL_areAlike_56 hq32 (fun r hr => ct_X3_named hr3 hr) ml_XL_73 im_X3_named sl_X3_named it_X3 cd_X3_named hy_X3_named ⟨rfl, rfl, by decide, by decide⟩ rfl rfl (Nat.le_of_ble_eq_true rfl) (fun hv33 => ?_)
        refine X_istore (lv' := [(0, .ref 0), (1, .ref 51), (2, vi l2), (3, vi l3), (4, vi q32.1)]) dL_areAlike_59 rfl rfl ?_
        refine X_iload 4 dL_areAlike_61 rfl ?_
        obtain ⟨q34, hq34, E⟩ := mmB_e E
        refine X_callS (st := []) (GP0 _) GB0 1 dL_areAlike_63 (ct_L_there hv33 hq34) ml_XL_32 st_L_there it_XL cd_L_there hz_L_there ⟨rfl, rfl, by decide, by decide⟩ rfl rfl (Nat.le_of_ble_eq_true rfl) (fun hv35 => ?_)
        refine X_aload_n 1 dL_areAlike_66 rfl ?_
        refine X_iload_n 3 dL_areAlike_67 rfl ?_
        obtain ⟨q36, hq36, E⟩ := mmB_e E
        refine X_callP (zs := [l3]) (st := [vi q34.1]) 1 dL_areAlike_68 hq36 (fun r hr => ct_X3_named hr3 hr) ml_XL_73 im_X3_named sl_X3_named it_X3 cd_X3_named hy_X3_named ⟨rfl, rfl, by decide, by decide⟩ rfl rfl (Nat.le_of_ble_eq_true rfl) (fun hv37 => ?_)
        refine X_icmp_ne 127 dL_areAlike_71 (by decide) hv35 hv37 (fun c38 => ?_) (fun c38 => ?_)
        · replace E := mmI_f c38 E
          refine X_iconst dL_areAlike_127 rfl ?_
          refine X_istore_n (i := 2) (lv' := [(0, .ref 0), (1, .ref 51), (2, vi 0), (3, vi l3), (4, vi q32.1)]) dL_areAlike_128 rfl rfl rfl ?_
          refine X_iconst dL_areAlike_129 rfl ?_
          refine X_istore (lv' := [(0, .ref 0), (1, .ref 51), (2, vi 0), (3, vi l3), (4, vi q32.1), (5, vi 0)]) dL_areAlike_130 rfl rfl ?_
          exact ok_L_areAlike_L132 ih mmFU _ _ _ _ _ ir_0 hr3 hv33 ir_0 E
        · replace E := mmI_t c38 E
          refine X_aload_n 0 dL_areAlike_74 rfl ?_
          refine X_iload 4 dL_areAlike_75 rfl ?_
          refine X_bipush (v := 7) dL_areAlike_77 (by decide) ?_
          obtain ⟨q56, hq56, E⟩ := mmB_e E
          refine X_callO (zs := [q32.1, 7]) (st := []) 2 dL_areAlike_79 hq56 (fun r hr => ct_X3_entry hv33 ir_7 hr) ml_XL_25 im_X3_entry sl_X3_entry it_X3 cd_X3_entry hy_X3_entry ⟨rfl, rfl, by decide, by decide⟩ rfl rfl (Nat.le_of_ble_eq_true rfl) (fun hv57 => ?_)
          obtain ⟨q58, hq58, E⟩ := mmB_e E
          refine X_callS (st := []) (GP0 _) GB0 1 dL_areAlike_82 (ct_L_there hv57 hq58) ml_XL_32 st_L_there it_XL cd_L_there hz_L_there ⟨rfl, rfl, by decide, by decide⟩ rfl rfl (Nat.le_of_ble_eq_true rfl) (fun hv59 => ?_)
          refine X_aload_n 1 dL_areAlike_85 rfl ?_
          refine X_iload 4 dL_areAlike_86 rfl ?_
          obtain ⟨q60, hq60, E⟩ := mmB_e E
          refine X_callS (st := [.ref 51, vi q58.1]) (GP0 _) GB0 1 dL_areAlike_88 (ct_L_there hv33 hq60) ml_XL_32 st_L_there it_XL cd_L_there hz_L_there ⟨rfl, rfl, by decide, by decide⟩ rfl rfl (Nat.le_of_ble_eq_true rfl) (fun hv61 => ?_)
          refine X_bipush (v := 7) dL_areAlike_91 (by decide) ?_
          obtain ⟨q62, hq62, E⟩ := mmB_e E
          refine X_callP (zs := [q60.1, 7]) (st := [vi q58.1]) 2 dL_areAlike_93 hq62 (fun r hr => ct_X3_entry hv61 ir_7 hr) ml_XL_25 im_X3_entry sl_X3_entry it_X3 cd_X3_entry hy_X3_entry ⟨rfl, rfl, by decide, by decide⟩ rfl rfl (Nat.le_of_ble_eq_true rfl) (fun hv63 => ?_)
          refine X_icmp_ne 127 dL_areAlike_96 (by decide) hv59 hv63 (fun c64 => ?_) (fun c64 => ?_)
          · replace E := mmI_f c64 E
            refine X_iconst dL_areAlike_127 rfl ?_
            refine X_istore_n (i := 2) (lv' := [(0, .ref 0), (1, .ref 51), (2, vi 0), (3, vi l3), (4, vi q32.1)]) dL_areAlike_128 rfl rfl rfl ?_
            refine X_iconst dL_areAlike_129 rfl ?_
            refine X_istore (lv' := [(0, .ref 0), (1, .ref 51), (2, vi 0), (3, vi l3), (4, vi q32.1), (5, vi 0)]) dL_areAlike_130 rfl rfl ?_
            exact ok_L_areAlike_L132 ih mmFU _ _ _ _ _ ir_0 hr3 hv33 ir_0 E
          · replace E := mmI_t c64 E
            refine X_aload_n 0 dL_areAlike_99 rfl ?_
            refine X_iload 4 dL_areAlike_100 rfl ?_
            refine X_iconst dL_areAlike_102 rfl ?_
            obtain ⟨q65, hq65, E⟩ := mmB_e E
            refine X_callO (zs := [q32.1, 5]) (st := []) 2 dL_areAlike_103 hq65 (fun r hr => ct_X3_entry hv33 ir_5 hr) ml_XL_25 im_X3_entry sl_X3_entry it_X3 cd_X3_entry hy_X3_entry ⟨rfl, rfl, by decide, by decide⟩ rfl rfl (Nat.le_of_ble_eq_true rfl) (fun hv66 => ?_)
            refine X_sipush (v := 9999) dL_areAlike_106 (by decide) ?_
            refine X_aload_n 1 dL_areAlike_109 rfl ?_
            refine X_iload 4 dL_areAlike_110 rfl ?_
            obtain ⟨q67, hq67, E⟩ := mmB_e E
            refine X_callS (st := [.ref 51, vi 9999, vi q65.1]) (GP0 _) GB0 1 dL_areAlike_112 (ct_L_there hv33 hq67) ml_XL_32 st_L_there it_XL cd_L_there hz_L_there ⟨rfl, rfl, by decide, by decide⟩ rfl rfl (Nat.le_of_ble_eq_true rfl) (fun hv68 => ?_)
            refine X_iconst dL_areAlike_115 rfl ?_
            obtain ⟨q69, hq69, E⟩ := mmB_e E
            refine X_callP (zs := [q67.1, 5]) (st := [vi 9999, vi q65.1]) 2 dL_areAlike_116 hq69 (fun r hr => ct_X3_entry hv68 ir_5 hr) ml_XL_25 im_X3_entry sl_X3_entry it_X3 cd_X3_entry hy_X3_entry ⟨rfl, rfl, by decide, by decide⟩ rfl rfl (Nat.le_of_ble_eq_true rfl) (fun hv70 => ?_)
            obtain ⟨hv71, E⟩ := mmK_e E
            refine X_isub dL_areAlike_119 ?_
            refine X_icmp_ne 127 dL_areAlike_120 (by decide) hv66 hv71 (fun c72 => ?_) (fun c72 => ?_)
            · replace E := mmI_f c72 E
              refine X_iconst dL_areAlike_127 rfl ?_
              refine X_istore_n (i := 2) (lv' := [(0, .ref 0), (1, .ref 51), (2, vi 0), (3, vi l3), (4, vi q32.1)]) dL_areAlike_128 rfl rfl rfl ?_
              refine X_iconst dL_areAlike_129 rfl ?_
              refine X_istore (lv' := [(0, .ref 0), (1, .ref 51), (2, vi 0), (3, vi l3), (4, vi q32.1), (5, vi 0)]) dL_areAlike_130 rfl rfl ?_
              exact ok_L_areAlike_L132 ih mmFU _ _ _ _ _ ir_0 hr3 hv33 ir_0 E
            · replace E := mmI_t c72 E
              refine X_iconst dL_areAlike_123 rfl ?_
              refine X_goto 128 dL_areAlike_124 (by decide) ?_
              refine X_istore_n (i := 2) (lv' := [(0, .ref 0), (1, .ref 51), (2, vi 1), (3, vi l3), (4, vi q32.1)]) dL_areAlike_128 rfl rfl rfl ?_
              refine X_iconst dL_areAlike_129 rfl ?_
              refine X_istore (lv' := [(0, .ref 0), (1, .ref 51), (2, vi 1), (3, vi l3), (4, vi q32.1), (5, vi 0)]) dL_areAlike_130 rfl rfl ?_
              exact ok_L_areAlike_L132 ih mmFU _ _ _ _ _ ir_1 hr3 hv33 ir_0 E
noncomputable def f_L_areAlike_L4 : Nat → Int → Int → Mem2 → Option (Int × Mem2)
  | 0, _, _, _ => none
  | n + 1, l2, l3, m =>
    if 14 ≤ l3 then
(f_L_areAlike_L41 mmFU l2 0 m)
else
(if l2 = 0 then
(mmK (inR (l3 + 1)) (f_L_areAlike_L4 n 0 (l3 + 1) m))
else
((mmO (f_X3_count l3) m).bind (fun q75 => (mmP (f_X3_count l3) q75.2).bind (fun q77 => if q75.1 = q77.1 then
(mmK (inR (l3 + 1)) (f_L_areAlike_L4 n 1 (l3 + 1) q77.2))
else
(mmK (inR (l3 + 1)) (f_L_areAlike_L4 n 0 (l3 + 1) q77.2))))))
set_option maxRecDepth 100000 in
set_option maxHeartbeats 4000000 in
theorem ok_L_areAlike_L4 {r : Int × Mem2} : ∀ (n : Nat), ∀ (l2 : Int) (l3 : Int) (m : Mem2), inR l2 → inR l3 → f_L_areAlike_L4 n l2 l3 m = some r → V2 RL cL_areAlike 6 rm_L_areAlike mmG0 (mm2Pz r) 4 [(0, .ref 0), (1, .ref 51), (2, vi l2), (3, vi l3)] [] m := by
  intro n
  induction n with
  | zero =>
    intro l2 l3 m hr2 hr3 E
    cases E
  | succ n ih =>
    intro l2 l3 m hr2 hr3 E
    rw [f_L_areAlike_L4] at E
    refine X_iload_n 3 dL_areAlike_4 rfl ?_
    refine X_bipush (v := 14) dL_areAlike_5 (by decide) ?_
    refine X_icmp_ge 39 dL_areAlike_7 (by decide) hr3 ir_14 (fun c1 => ?_) (fun c1 => ?_)
    · replace E := mmI_t c1 E
      refine X_iconst dL_areAlike_39 rfl ?_
      refine X_istore_n (i := 3) (lv' := [(0, .ref 0), (1, .ref 51), (2, vi l2), (3, vi 0)]) dL_areAlike_40 rfl rfl rfl ?_
      exact ok_L_areAlike_L41 mmFU _ _ _ hr2 ir_0 E
    · replace E := mmI_f c1 E
      refine X_iload_n 2 dL_areAlike_10 rfl ?_
      refine X_if_eq 31 dL_areAlike_11 (by decide) hr2 (fun c73 => ?_) (fun c73 => ?_)
      · replace E := mmI_t c73 E
        refine X_iconst dL_areAlike_31 rfl ?_
        refine X_istore_n (i := 2) (lv' := [(0, .ref 0), (1, .ref 51), (2, vi 0), (3, vi l3)]) dL_areAlike_32 rfl rfl rfl ?_
        obtain ⟨hv74, E⟩ := mmK_e E
        refine X_iinc (v := (l3 + 1)) (lv' := [(0, .ref 0), (1, .ref 51), (2, vi 0), (3, vi (l3 + 1))]) 3 dL_areAlike_33 rfl rfl rfl rfl ?_
        refine X_goto 4 dL_areAlike_36 (by decide) ?_
        exact ih _ _ _ ir_0 hv74 E
      · replace E := mmI_f c73 E
        refine X_aload_n 0 dL_areAlike_14 rfl ?_
        refine X_iload_n 3 dL_areAlike_15 rfl ?_
        obtain ⟨q75, hq75, E⟩ := mmB_e E
        refine X_callO (zs := [l3]) (st := []) 1 dL_areAlike_16 hq75 (fun r hr => ct_X3_count hr3 hr) ml_XL_21 im_X3_count sl_X3_count it_X3 cd_X3_count hy_X3_count ⟨rfl, rfl, by decide, by decide⟩ rfl rfl (Nat.le_of_ble_eq_true rfl) (fun hv76 => ?_)
        refine X_aload_n 1 dL_areAlike_19 rfl ?_
        refine X_iload_n 3 dL_areAlike_20 rfl ?_
        obtain ⟨q77, hq77, E⟩ := mmB_e E
        refine X_callP (zs := [l3]) (st := [vi q75.1]) 1 dL_areAlike_21 hq77 (fun r hr => ct_X3_count hr3 hr) ml_XL_21 im_X3_count sl_X3_count it_X3 cd_X3_count hy_X3_count ⟨rfl, rfl, by decide, by decide⟩ rfl rfl (Nat.le_of_ble_eq_true rfl) (fun hv78 => ?_)
        refine X_icmp_ne 31 dL_areAlike_24 (by decide) hv76 hv78 (fun c79 => ?_) (fun c79 => ?_)
        · replace E := mmI_f c79 E
          refine X_iconst dL_areAlike_31 rfl ?_
          refine X_istore_n (i := 2) (lv' := [(0, .ref 0), (1, .ref 51), (2, vi 0), (3, vi l3)]) dL_areAlike_32 rfl rfl rfl ?_
          obtain ⟨hv80, E⟩ := mmK_e E
          refine X_iinc (v := (l3 + 1)) (lv' := [(0, .ref 0), (1, .ref 51), (2, vi 0), (3, vi (l3 + 1))]) 3 dL_areAlike_33 rfl rfl rfl rfl ?_
          refine X_goto 4 dL_areAlike_36 (by decide) ?_
          exact ih _ _ _ ir_0 hv80 E
        · replace E := mmI_t c79 E
          refine X_iconst dL_areAlike_27 rfl ?_
          refine X_goto 32 dL_areAlike_28 (by decide) ?_
          refine X_istore_n (i := 2) (lv' := [(0, .ref 0), (1, .ref 51), (2, vi 1), (3, vi l3)]) dL_areAlike_32 rfl rfl rfl ?_
          obtain ⟨hv81, E⟩ := mmK_e E
          refine X_iinc (v := (l3 + 1)) (lv' := [(0, .ref 0), (1, .ref 51), (2, vi 1), (3, vi (l3 + 1))]) 3 dL_areAlike_33 rfl rfl rfl rfl ?_
          refine X_goto 4 dL_areAlike_36 (by decide) ?_
          exact ih _ _ _ ir_1 hv81 E
noncomputable def f_L_areAlike (m : Mem2) : Option (Int × Mem2) :=
  f_L_areAlike_L4 mmFU 1 0 m
set_option maxRecDepth 100000 in
set_option maxHeartbeats 4000000 in
theorem ok_L_areAlike {r : Int × Mem2} : ∀ (m : Mem2), f_L_areAlike m = some r → V2 RL cL_areAlike 6 rm_L_areAlike mmG0 (mm2Pz r) 0 [(0, .ref 0), (1, .ref 51)] [] m := by
  intro m E
  unfold f_L_areAlike at E
  refine X_iconst dL_areAlike_0 rfl ?_
  refine X_istore_n (i := 2) (lv' := [(0, .ref 0), (1, .ref 51), (2, vi 1)]) dL_areAlike_1 rfl rfl rfl ?_
  refine X_iconst dL_areAlike_2 rfl ?_
  refine X_istore_n (i := 3) (lv' := [(0, .ref 0), (1, .ref 51), (2, vi 1), (3, vi 0)]) dL_areAlike_3 rfl rfl rfl ?_
  exact ok_L_areAlike_L4 mmFU _ _ _ ir_1 ir_0 E
theorem ct_L_areAlike {m : Mem2} {r : Int × Mem2} (E : f_L_areAlike m = some r) : CT2 mmG0 yL_areAlike cL_areAlike 6 (some .boolean) rm_L_areAlike [.ref 0, .ref 51] m r := CT_z2 (by decide +kernel) rfl (Nat.le_of_ble_eq_true rfl) (ok_L_areAlike  _  E)
theorem hz_L_areAlike : yL_areAlike.cls ≠ "java/lang/invoke/MethodHandle" ∧ yL_areAlike.cls ≠ "java/lang/invoke/VarHandle" ∧ (parseMethodDescriptor yL_areAlike.desc).map (fun d => d.parameters.length) = some 2 := by decide +kernel
abbrev rm_L_isWell : Room := { frames := 6, cells := 0, slots := 0, locals := 128 }
noncomputable def f_L_isWell_L598 (l1 : Int) (l2 : Int) (l3 : Int) (l4 : Int) (l5 : Int) (l6 : Int) (m : Mem2) : Option (Int × Mem2) :=
  if l6 = 0 then
(some (0, m))
else
((mmO (f_X3_count 2) m).bind (fun q9 => if l2 = q9.1 then
(mmK (inR (l1 - l2)) ((mmO (f_X3_count 1) q9.2).bind (fun q13 => if (l1 - l2) = q13.1 then
((mmO (f_X3_count 3) q13.2).bind (fun q16 => if l3 = q16.1 then
((mmO (f_X3_count 10) q16.2).bind (fun q19 => if l4 = q19.1 then
((mmO (f_X3_count 7) q19.2).bind (fun q22 => if l5 = q22.1 then
(some (1, q22.2))
else
(some (0, q22.2))))
else
(some (0, q19.2))))
else
(some (0, q16.2))))
else
(some (0, q13.2)))))
else
(some (0, q9.2))))
set_option maxRecDepth 100000 in
set_option maxHeartbeats 4000000 in
theorem ok_L_isWell_L598 {r : Int × Mem2} : ∀ (l1 : Int) (l2 : Int) (l3 : Int) (l4 : Int) (l5 : Int) (l6 : Int) (m : Mem2), inR l1 → inR l2 → inR l3 → inR l4 → inR l5 → inR l6 → f_L_isWell_L598 l1 l2 l3 l4 l5 l6 m = some r → V2 RL cL_isWell 17 rm_L_isWell mmG0 (mm2Pz r) 598 [(0, .ref 0), (1, vi l1), (2, vi l2), (3, vi l3), (4, vi l4), (5, vi l5), (6, vi l6)] [] m := by
  intro l1 l2 l3 l4 l5 l6 m hr1 hr2 hr3 hr4 hr5 hr6 E
  unfold f_L_isWell_L598 at E
  refine X_iload 6 dL_isWell_598 rfl ?_
  refine X_if_eq 658 dL_isWell_600 (by decide) hr6 (fun c8 => ?_) (fun c8 => ?_)
  · replace E := mmI_t c8 E
    refine X_iconst dL_isWell_658 rfl ?_
    obtain rfl := Option.some.inj E
    exact X_reti dL_isWell_659 ⟨rfl, rfl, (Or.inl rfl)⟩
  · replace E := mmI_f c8 E
    refine X_iload_n 2 dL_isWell_603 rfl ?_
    refine X_aload_n 0 dL_isWell_604 rfl ?_
    refine X_iconst dL_isWell_605 rfl ?_
    obtain ⟨q9, hq9, E⟩ := mmB_e E
    refine X_callO (zs := [2]) (st := [vi l2]) 1 dL_isWell_606 hq9 (fun r hr => ct_X3_count ir_2 hr) ml_XL_21 im_X3_count sl_X3_count it_X3 cd_X3_count hy_X3_count ⟨rfl, rfl, by decide, by decide⟩ rfl rfl (Nat.le_of_ble_eq_true rfl) (fun hv10 => ?_)
    refine X_icmp_ne 658 dL_isWell_609 (by decide) hr2 hv10 (fun c11 => ?_) (fun c11 => ?_)
    · replace E := mmI_f c11 E
      refine X_iconst dL_isWell_658 rfl ?_
      obtain rfl := Option.some.inj E
      exact X_reti dL_isWell_659 ⟨rfl, rfl, (Or.inl rfl)⟩
    · replace E := mmI_t c11 E
      refine X_iload_n 1 dL_isWell_612 rfl ?_
      refine X_iload_n 2 dL_isWell_613 rfl ?_
      obtain ⟨hv12, E⟩ := mmK_e E
      refine X_isub dL_isWell_614 ?_
      refine X_aload_n 0 dL_isWell_615 rfl ?_
      refine X_iconst dL_isWell_616 rfl ?_
      obtain ⟨q13, hq13, E⟩ := mmB_e E
      refine X_callO (zs := [1]) (st := [vi (l1 - l2)]) 1 dL_isWell_617 hq13 (fun r hr => ct_X3_count ir_1 hr) ml_XL_21 im_X3_count sl_X3_count it_X3 cd_X3_count hy_X3_count ⟨rfl, rfl, by decide, by decide⟩ rfl rfl (Nat.le_of_ble_eq_true rfl) (fun hv14 => ?_)
      refine X_icmp_ne 658 dL_isWell_620 (by decide) hv12 hv14 (fun c15 => ?_) (fun c15 => ?_)
      · replace E := mmI_f c15 E
        refine X_iconst dL_isWell_658 rfl ?_
        obtain rfl := Option.some.inj E
        exact X_reti dL_isWell_659 ⟨rfl, rfl, (Or.inl rfl)⟩
      · replace E := mmI_t c15 E
        refine X_iload_n 3 dL_isWell_623 rfl ?_
        refine X_aload_n 0 dL_isWell_624 rfl ?_
        refine X_iconst dL_isWell_625 rfl ?_
        obtain ⟨q16, hq16, E⟩ := mmB_e E
        refine X_callO (zs := [3]) (st := [vi l3]) 1 dL_isWell_626 hq16 (fun r hr => ct_X3_count ir_3 hr) ml_XL_21 im_X3_count sl_X3_count it_X3 cd_X3_count hy_X3_count ⟨rfl, rfl, by decide, by decide⟩ rfl rfl (Nat.le_of_ble_eq_true rfl) (fun hv17 => ?_)
        refine X_icmp_ne 658 dL_isWell_629 (by decide) hr3 hv17 (fun c18 => ?_) (fun c18 => ?_)
        · replace E := mmI_f c18 E
          refine X_iconst dL_isWell_658 rfl ?_
          obtain rfl := Option.some.inj E
          exact X_reti dL_isWell_659 ⟨rfl, rfl, (Or.inl rfl)⟩
        · replace E := mmI_t c18 E
          refine X_iload 4 dL_isWell_632 rfl ?_
          refine X_aload_n 0 dL_isWell_634 rfl ?_
          refine X_bipush (v := 10) dL_isWell_635 (by decide) ?_
          obtain ⟨q19, hq19, E⟩ := mmB_e E
          refine X_callO (zs := [10]) (st := [vi l4]) 1 dL_isWell_637 hq19 (fun r hr => ct_X3_count ir_10 hr) ml_XL_21 im_X3_count sl_X3_count it_X3 cd_X3_count hy_X3_count ⟨rfl, rfl, by decide, by decide⟩ rfl rfl (Nat.le_of_ble_eq_true rfl) (fun hv20 => ?_)
          refine X_icmp_ne 658 dL_isWell_640 (by decide) hr4 hv20 (fun c21 => ?_) (fun c21 => ?_)
          · replace E := mmI_f c21 E
            refine X_iconst dL_isWell_658 rfl ?_
            obtain rfl := Option.some.inj E
            exact X_reti dL_isWell_659 ⟨rfl, rfl, (Or.inl rfl)⟩
          · replace E := mmI_t c21 E
            refine X_iload 5 dL_isWell_643 rfl ?_
            refine X_aload_n 0 dL_isWell_645 rfl ?_
            refine X_bipush (v := 7) dL_isWell_646 (by decide) ?_
            obtain ⟨q22, hq22, E⟩ := mmB_e E
            refine X_callO (zs := [7]) (st := [vi l5]) 1 dL_isWell_648 hq22 (fun r hr => ct_X3_count ir_7 hr) ml_XL_21 im_X3_count sl_X3_count it_X3 cd_X3_count hy_X3_count ⟨rfl, rfl, by decide, by decide⟩ rfl rfl (Nat.le_of_ble_eq_true rfl) (fun hv23 => ?_)
            refine X_icmp_ne 658 dL_isWell_651 (by decide) hr5 hv23 (fun c24 => ?_) (fun c24 => ?_)
            · replace E := mmI_f c24 E
              refine X_iconst dL_isWell_658 rfl ?_
              obtain rfl := Option.some.inj E
              exact X_reti dL_isWell_659 ⟨rfl, rfl, (Or.inl rfl)⟩
            · replace E := mmI_t c24 E
              refine X_iconst dL_isWell_654 rfl ?_
              refine X_goto 659 dL_isWell_655 (by decide) ?_
              obtain rfl := Option.some.inj E
              exact X_reti dL_isWell_659 ⟨rfl, rfl, (Or.inr rfl)⟩
noncomputable def f_L_isWell_L555 (k104 : Int → Int → Int → Int → Int → Int → Int → Mem2 → Option (Int × Mem2)) (l1 : Int) (l2 : Int) (l3 : Int) (l4 : Int) (l5 : Int) (l7 : Int) (l9 : Int) (l13 : Int) (s0 : Int) (m : Mem2) : Option (Int × Mem2) :=
  (mmO (f_X3_entry l13 2) m).bind (fun q64 => if q64.1 = 0 then
((mmO (f_X3_entry l13 3) q64.2).bind (fun q70 => if q70.1 = l9 then
(if s0 = 1 then
(mmK (inR (l7 + 1)) (k104 l1 l2 l3 l4 l5 1 (l7 + 1) q70.2))
else
(mmK (inR (l7 + 1)) (k104 l1 l2 l3 l4 l5 0 (l7 + 1) q70.2)))
else
(if s0 = 0 then
(mmK (inR (l7 + 1)) (k104 l1 l2 l3 l4 l5 1 (l7 + 1) q70.2))
else
(mmK (inR (l7 + 1)) (k104 l1 l2 l3 l4 l5 0 (l7 + 1) q70.2)))))
else
(if s0 = 0 then
(mmK (inR (l7 + 1)) (k104 l1 l2 l3 l4 l5 1 (l7 + 1) q64.2))
else
(mmK (inR (l7 + 1)) (k104 l1 l2 l3 l4 l5 0 (l7 + 1) q64.2))))
set_option maxRecDepth 100000 in
set_option maxHeartbeats 4000000 in
theorem ok_L_isWell_L555 {k104 : Int → Int → Int → Int → Int → Int → Int → Mem2 → Option (Int × Mem2)} {r : Int × Mem2} (hk104 : ∀ (l1 : Int) (l2 : Int) (l3 : Int) (l4 : Int) (l5 : Int) (l6 : Int) (l7 : Int) (m : Mem2), inR l1 → inR l2 → inR l3 → inR l4 → inR l5 → inR l6 → inR l7 → k104 l1 l2 l3 l4 l5 l6 l7 m = some r → V2 RL cL_isWell 17 rm_L_isWell mmG0 (mm2Pz r) 104 [(0, .ref 0), (1, vi l1), (2, vi l2), (3, vi l3), (4, vi l4), (5, vi l5), (6, vi l6), (7, vi l7)] [] m) : ∀ (l1 : Int) (l2 : Int) (l3 : Int) (l4 : Int) (l5 : Int) (l7 : Int) (l9 : Int) (l13 : Int) (s0 : Int) (m : Mem2), inR l1 → inR l2 → inR l3 → inR l4 → inR l5 → inR l7 → inR l9 → inR l13 → inR s0 → f_L_isWell_L555 k104 l1 l2 l3 l4 l5 l7 l9 l13 s0 m = some r → V2 RL cL_isWell 17 rm_L_isWell mmG0 (mm2Pz r) 555 [(0, .ref 0), (1, vi l1), (2, vi l2), (3, vi l3), (4, vi l4), (5, vi l5), (7, vi l7), (9, vi l9), (13, vi l13)] [vi s0] m := by
  intro l1 l2 l3 l4 l5 l7 l9 l13 s0 m hr1 hr2 hr3 hr4 hr5 hr7 hr9 hr13 hrs0 E
  unfold f_L_isWell_L555 at E
  refine X_aload_n 0 dL_isWell_555 rfl ?_
  refine X_iload 8 dL_isWell_556 rfl ?_
  refine X_iconst dL_isWell_558 rfl ?_
  obtain ⟨q64, hq64, E⟩ := mmB_e E
  refine X_callO (zs := [l13, 2]) (st := [vi s0]) 2 dL_isWell_559 hq64 (fun r hr => ct_X3_entry hr13 ir_2 hr) ml_XL_25 im_X3_entry sl_X3_entry it_X3 cd_X3_entry hy_X3_entry ⟨rfl, rfl, by decide, by decide⟩ rfl rfl (Nat.le_of_ble_eq_true rfl) (fun hv65 => ?_)
  refine X_if_ne 581 dL_isWell_562 (by decide) hv65 (fun c66 => ?_) (fun c66 => ?_)
  · replace E := mmI_f c66 E
    refine X_iconst dL_isWell_581 rfl ?_
    refine X_icmp_ne 589 dL_isWell_582 (by decide) hrs0 ir_0 (fun c67 => ?_) (fun c67 => ?_)
    · replace E := mmI_f c67 E
      refine X_iconst dL_isWell_589 rfl ?_
      refine X_istore (lv' := [(0, .ref 0), (1, vi l1), (2, vi l2), (3, vi l3), (4, vi l4), (5, vi l5), (6, vi 0), (7, vi l7), (9, vi l9), (13, vi l13)]) dL_isWell_590 rfl rfl ?_
      obtain ⟨hv68, E⟩ := mmK_e E
      refine X_iinc (v := (l7 + 1)) (lv' := [(0, .ref 0), (1, vi l1), (2, vi l2), (3, vi l3), (4, vi l4), (5, vi l5), (6, vi 0), (7, vi (l7 + 1)), (9, vi l9), (13, vi l13)]) 7 dL_isWell_592 rfl rfl rfl rfl ?_
      refine X_goto 104 dL_isWell_595 (by decide) ?_
      refine X_sub [0, 1, 2, 3, 4, 5, 6, 7] rfl ?_
      exact hk104 _ _ _ _ _ _ _ _ hr1 hr2 hr3 hr4 hr5 ir_0 hv68 E
    · replace E := mmI_t c67 E
      refine X_iconst dL_isWell_585 rfl ?_
      refine X_goto 590 dL_isWell_586 (by decide) ?_
      refine X_istore (lv' := [(0, .ref 0), (1, vi l1), (2, vi l2), (3, vi l3), (4, vi l4), (5, vi l5), (6, vi 1), (7, vi l7), (9, vi l9), (13, vi l13)]) dL_isWell_590 rfl rfl ?_
      obtain ⟨hv69, E⟩ := mmK_e E
      refine X_iinc (v := (l7 + 1)) (lv' := [(0, .ref 0), (1, vi l1), (2, vi l2), (3, vi l3), (4, vi l4), (5, vi l5), (6, vi 1), (7, vi (l7 + 1)), (9, vi l9), (13, vi l13)]) 7 dL_isWell_592 rfl rfl rfl rfl ?_
      refine X_goto 104 dL_isWell_595 (by decide) ?_
      refine X_sub [0, 1, 2, 3, 4, 5, 6, 7] rfl ?_
      exact hk104 _ _ _ _ _ _ _ _ hr1 hr2 hr3 hr4 hr5 ir_1 hv69 E
  · replace E := mmI_t c66 E
    refine X_aload_n 0 dL_isWell_565 rfl ?_
    refine X_iload 8 dL_isWell_566 rfl ?_
    refine X_iconst dL_isWell_568 rfl ?_
    obtain ⟨q70, hq70, E⟩ := mmB_e E
    refine X_callO (zs := [l13, 3]) (st := [vi s0]) 2 dL_isWell_569 hq70 (fun r hr => ct_X3_entry hr13 ir_3 hr) ml_XL_25 im_X3_entry sl_X3_entry it_X3 cd_X3_entry hy_X3_entry ⟨rfl, rfl, by decide, by decide⟩ rfl rfl (Nat.le_of_ble_eq_true rfl) (fun hv71 => ?_)
    refine X_iload 7 dL_isWell_572 rfl ?_
    refine X_icmp_ne 581 dL_isWell_574 (by decide) hv71 hr9 (fun c72 => ?_) (fun c72 => ?_)
    · replace E := mmI_f c72 E
      refine X_iconst dL_isWell_581 rfl ?_
      refine X_icmp_ne 589 dL_isWell_582 (by decide) hrs0 ir_0 (fun c73 => ?_) (fun c73 => ?_)
      · replace E := mmI_f c73 E
        refine X_iconst dL_isWell_589 rfl ?_
        refine X_istore (lv' := [(0, .ref 0), (1, vi l1), (2, vi l2), (3, vi l3), (4, vi l4), (5, vi l5), (6, vi 0), (7, vi l7), (9, vi l9), (13, vi l13)]) dL_isWell_590 rfl rfl ?_
        obtain ⟨hv74, E⟩ := mmK_e E
        refine X_iinc (v := (l7 + 1)) (lv' := [(0, .ref 0), (1, vi l1), (2, vi l2), (3, vi l3), (4, vi l4), (5, vi l5), (6, vi 0), (7, vi (l7 + 1)), (9, vi l9), (13, vi l13)]) 7 dL_isWell_592 rfl rfl rfl rfl ?_
        refine X_goto 104 dL_isWell_595 (by decide) ?_
        refine X_sub [0, 1, 2, 3, 4, 5, 6, 7] rfl ?_
        exact hk104 _ _ _ _ _ _ _ _ hr1 hr2 hr3 hr4 hr5 ir_0 hv74 E
      · replace E := mmI_t c73 E
        refine X_iconst dL_isWell_585 rfl ?_
        refine X_goto 590 dL_isWell_586 (by decide) ?_
        refine X_istore (lv' := [(0, .ref 0), (1, vi l1), (2, vi l2), (3, vi l3), (4, vi l4), (5, vi l5), (6, vi 1), (7, vi l7), (9, vi l9), (13, vi l13)]) dL_isWell_590 rfl rfl ?_
        obtain ⟨hv75, E⟩ := mmK_e E
        refine X_iinc (v := (l7 + 1)) (lv' := [(0, .ref 0), (1, vi l1), (2, vi l2), (3, vi l3), (4, vi l4), (5, vi l5), (6, vi 1), (7, vi (l7 + 1)), (9, vi l9), (13, vi l13)]) 7 dL_isWell_592 rfl rfl rfl rfl ?_
        refine X_goto 104 dL_isWell_595 (by decide) ?_
        refine X_sub [0, 1, 2, 3, 4, 5, 6, 7] rfl ?_
        exact hk104 _ _ _ _ _ _ _ _ hr1 hr2 hr3 hr4 hr5 ir_1 hv75 E
    · replace E := mmI_t c72 E
      refine X_iconst dL_isWell_577 rfl ?_
      refine X_goto 582 dL_isWell_578 (by decide) ?_
      refine X_icmp_ne 589 dL_isWell_582 (by decide) hrs0 ir_1 (fun c76 => ?_) (fun c76 => ?_)
      · replace E := mmI_f c76 E
        refine X_iconst dL_isWell_589 rfl ?_
        refine X_istore (lv' := [(0, .ref 0), (1, vi l1), (2, vi l2), (3, vi l3), (4, vi l4), (5, vi l5), (6, vi 0), (7, vi l7), (9, vi l9), (13, vi l13)]) dL_isWell_590 rfl rfl ?_
        obtain ⟨hv77, E⟩ := mmK_e E
        refine X_iinc (v := (l7 + 1)) (lv' := [(0, .ref 0), (1, vi l1), (2, vi l2), (3, vi l3), (4, vi l4), (5, vi l5), (6, vi 0), (7, vi (l7 + 1)), (9, vi l9), (13, vi l13)]) 7 dL_isWell_592 rfl rfl rfl rfl ?_
        refine X_goto 104 dL_isWell_595 (by decide) ?_
        refine X_sub [0, 1, 2, 3, 4, 5, 6, 7] rfl ?_
        exact hk104 _ _ _ _ _ _ _ _ hr1 hr2 hr3 hr4 hr5 ir_0 hv77 E
      · replace E := mmI_t c76 E
        refine X_iconst dL_isWell_585 rfl ?_
        refine X_goto 590 dL_isWell_586 (by decide) ?_
        refine X_istore (lv' := [(0, .ref 0), (1, vi l1), (2, vi l2), (3, vi l3), (4, vi l4), (5, vi l5), (6, vi 1), (7, vi l7), (9, vi l9), (13, vi l13)]) dL_isWell_590 rfl rfl ?_
        obtain ⟨hv78, E⟩ := mmK_e E
        refine X_iinc (v := (l7 + 1)) (lv' := [(0, .ref 0), (1, vi l1), (2, vi l2), (3, vi l3), (4, vi l4), (5, vi l5), (6, vi 1), (7, vi (l7 + 1)), (9, vi l9), (13, vi l13)]) 7 dL_isWell_592 rfl rfl rfl rfl ?_
        refine X_goto 104 dL_isWell_595 (by decide) ?_
        refine X_sub [0, 1, 2, 3, 4, 5, 6, 7] rfl ?_
        exact hk104 _ _ _ _ _ _ _ _ hr1 hr2 hr3 hr4 hr5 ir_1 hv78 E
noncomputable def f_L_isWell_L445 (k104 : Int → Int → Int → Int → Int → Int → Int → Mem2 → Option (Int × Mem2)) (l1 : Int) (l2 : Int) (l3 : Int) (l4 : Int) (l6 : Int) (l7 : Int) (l8 : Int) (l9 : Int) (l12 : Int) (s0 : Int) (s1 : Int) (m : Mem2) : Option (Int × Mem2) :=
  mmK (inR (s1 + s0)) ((mmO (f_X3_entry l8 2) m).bind (fun q40 => mmK (inR (l2 + q40.1)) ((mmO (f_X3_entry l8 8) q40.2).bind (fun q43 => mmK (inR (l3 + q43.1)) ((mmO (f_X3_entry l8 7) q43.2).bind (fun q46 => if l6 = 0 then
(mmK (inR (l7 + 1)) (k104 l1 (l2 + q40.1) (l3 + q43.1) l4 (s1 + s0) 0 (l7 + 1) q46.2))
else
((mmO (f_X3_entry l8 6) q46.2).bind (fun q50 => if q50.1 = l12 then
((mmO (f_X3_at l9) q50.2).bind (fun q54 => if l8 < q54.1 then
(mmK (inR (l7 + 1)) (k104 l1 (l2 + q40.1) (l3 + q43.1) l4 (s1 + s0) 0 (l7 + 1) q54.2))
else
((mmO (f_X3_entry l8 2) q54.2).bind (fun q58 => if q58.1 = 0 then
(if q46.1 = (-5) then
((mmO (f_X3_entry l8 8) q58.2).bind (fun q81 => if q81.1 = 0 then
(mmK (inR (l7 + 1)) (k104 l1 (l2 + q40.1) (l3 + q43.1) l4 (s1 + s0) 1 (l7 + 1) q81.2))
else
(mmK (inR (l7 + 1)) (k104 l1 (l2 + q40.1) (l3 + q43.1) l4 (s1 + s0) 0 (l7 + 1) q81.2))))
else
(mmK (inR (l7 + 1)) (k104 l1 (l2 + q40.1) (l3 + q43.1) l4 (s1 + s0) 0 (l7 + 1) q58.2)))
else
((mmO (f_X3_entry l8 8) q58.2).bind (fun q61 => if q61.1 = 0 then
(f_L_isWell_L555 k104 l1 (l2 + q40.1) (l3 + q43.1) l4 (s1 + s0) l7 l9 q46.1 1 q61.2)
else
(f_L_isWell_L555 k104 l1 (l2 + q40.1) (l3 + q43.1) l4 (s1 + s0) l7 l9 q46.1 0 q61.2)))))))
else
(mmK (inR (l7 + 1)) (k104 l1 (l2 + q40.1) (l3 + q43.1) l4 (s1 + s0) 0 (l7 + 1) q50.2))))))))))
set_option maxRecDepth 100000 in
set_option maxHeartbeats 4000000 in
theorem ok_L_isWell_L445 {k104 : Int → Int → Int → Int → Int → Int → Int → Mem2 → Option (Int × Mem2)} {r : Int × Mem2} (hk104 : ∀ (l1 : Int) (l2 : Int) (l3 : Int) (l4 : Int) (l5 : Int) (l6 : Int) (l7 : Int) (m : Mem2), inR l1 → inR l2 → inR l3 → inR l4 → inR l5 → inR l6 → inR l7 → k104 l1 l2 l3 l4 l5 l6 l7 m = some r → V2 RL cL_isWell 17 rm_L_isWell mmG0 (mm2Pz r) 104 [(0, .ref 0), (1, vi l1), (2, vi l2), (3, vi l3), (4, vi l4), (5, vi l5), (6, vi l6), (7, vi l7)] [] m) : ∀ (l1 : Int) (l2 : Int) (l3 : Int) (l4 : Int) (l6 : Int) (l7 : Int) (l8 : Int) (l9 : Int) (l12 : Int) (s0 : Int) (s1 : Int) (m : Mem2), inR l1 → inR l2 → inR l3 → inR l4 → inR l6 → inR l7 → inR l8 → inR l9 → inR l12 → inR s0 → inR s1 → f_L_isWell_L445 k104 l1 l2 l3 l4 l6 l7 l8 l9 l12 s0 s1 m = some r → V2 RL cL_isWell 17 rm_L_isWell mmG0 (mm2Pz r) 445 [(0, .ref 0), (1, vi l1), (2, vi l2), (3, vi l3), (4, vi l4), (6, vi l6), (7, vi l7), (8, vi l8), (9, vi l9), (12, vi l12)] [vi s0, vi s1] m := by
  intro l1 l2 l3 l4 l6 l7 l8 l9 l12 s0 s1 m hr1 hr2 hr3 hr4 hr6 hr7 hr8 hr9 hr12 hrs0 hrs1 E
  unfold f_L_isWell_L445 at E
  obtain ⟨hv39, E⟩ := mmK_e E
  refine X_iadd dL_isWell_445 ?_
  refine X_istore (lv' := [(0, .ref 0), (1, vi l1), (2, vi l2), (3, vi l3), (4, vi l4), (5, vi (s1 + s0)), (6, vi l6), (7, vi l7), (8, vi l8), (9, vi l9), (12, vi l12)]) dL_isWell_446 rfl rfl ?_
  refine X_iload_n 2 dL_isWell_448 rfl ?_
  refine X_aload_n 0 dL_isWell_449 rfl ?_
  refine X_iload 8 dL_isWell_450 rfl ?_
  refine X_iconst dL_isWell_452 rfl ?_
  obtain ⟨q40, hq40, E⟩ := mmB_e E
  refine X_callO (zs := [l8, 2]) (st := [vi l2]) 2 dL_isWell_453 hq40 (fun r hr => ct_X3_entry hr8 ir_2 hr) ml_XL_25 im_X3_entry sl_X3_entry it_X3 cd_X3_entry hy_X3_entry ⟨rfl, rfl, by decide, by decide⟩ rfl rfl (Nat.le_of_ble_eq_true rfl) (fun hv41 => ?_)
  obtain ⟨hv42, E⟩ := mmK_e E
  refine X_iadd dL_isWell_456 ?_
  refine X_istore_n (i := 2) (lv' := [(0, .ref 0), (1, vi l1), (2, vi (l2 + q40.1)), (3, vi l3), (4, vi l4), (5, vi (s1 + s0)), (6, vi l6), (7, vi l7), (8, vi l8), (9, vi l9), (12, vi l12)]) dL_isWell_457 rfl rfl rfl ?_
  refine X_iload_n 3 dL_isWell_458 rfl ?_
  refine X_aload_n 0 dL_isWell_459 rfl ?_
  refine X_iload 8 dL_isWell_460 rfl ?_
  refine X_bipush (v := 8) dL_isWell_462 (by decide) ?_
  obtain ⟨q43, hq43, E⟩ := mmB_e E
  refine X_callO (zs := [l8, 8]) (st := [vi l3]) 2 dL_isWell_464 hq43 (fun r hr => ct_X3_entry hr8 ir_8 hr) ml_XL_25 im_X3_entry sl_X3_entry it_X3 cd_X3_entry hy_X3_entry ⟨rfl, rfl, by decide, by decide⟩ rfl rfl (Nat.le_of_ble_eq_true rfl) (fun hv44 => ?_)
  obtain ⟨hv45, E⟩ := mmK_e E
  refine X_iadd dL_isWell_467 ?_
  refine X_istore_n (i := 3) (lv' := [(0, .ref 0), (1, vi l1), (2, vi (l2 + q40.1)), (3, vi (l3 + q43.1)), (4, vi l4), (5, vi (s1 + s0)), (6, vi l6), (7, vi l7), (8, vi l8), (9, vi l9), (12, vi l12)]) dL_isWell_468 rfl rfl rfl ?_
  refine X_aload_n 0 dL_isWell_469 rfl ?_
  refine X_iload 8 dL_isWell_470 rfl ?_
  refine X_bipush (v := 7) dL_isWell_472 (by decide) ?_
  obtain ⟨q46, hq46, E⟩ := mmB_e E
  refine X_callO (zs := [l8, 7]) (st := []) 2 dL_isWell_474 hq46 (fun r hr => ct_X3_entry hr8 ir_7 hr) ml_XL_25 im_X3_entry sl_X3_entry it_X3 cd_X3_entry hy_X3_entry ⟨rfl, rfl, by decide, by decide⟩ rfl rfl (Nat.le_of_ble_eq_true rfl) (fun hv47 => ?_)
  refine X_istore (lv' := [(0, .ref 0), (1, vi l1), (2, vi (l2 + q40.1)), (3, vi (l3 + q43.1)), (4, vi l4), (5, vi (s1 + s0)), (6, vi l6), (7, vi l7), (8, vi l8), (9, vi l9), (12, vi l12), (13, vi q46.1)]) dL_isWell_477 rfl rfl ?_
  refine X_iload 6 dL_isWell_479 rfl ?_
  refine X_if_eq 589 dL_isWell_481 (by decide) hr6 (fun c48 => ?_) (fun c48 => ?_)
  · replace E := mmI_t c48 E
    refine X_iconst dL_isWell_589 rfl ?_
    refine X_istore (lv' := [(0, .ref 0), (1, vi l1), (2, vi (l2 + q40.1)), (3, vi (l3 + q43.1)), (4, vi l4), (5, vi (s1 + s0)), (6, vi 0), (7, vi l7), (8, vi l8), (9, vi l9), (12, vi l12), (13, vi q46.1)]) dL_isWell_590 rfl rfl ?_
    obtain ⟨hv49, E⟩ := mmK_e E
    refine X_iinc (v := (l7 + 1)) (lv' := [(0, .ref 0), (1, vi l1), (2, vi (l2 + q40.1)), (3, vi (l3 + q43.1)), (4, vi l4), (5, vi (s1 + s0)), (6, vi 0), (7, vi (l7 + 1)), (8, vi l8), (9, vi l9), (12, vi l12), (13, vi q46.1)]) 7 dL_isWell_592 rfl rfl rfl rfl ?_
    refine X_goto 104 dL_isWell_595 (by decide) ?_
    refine X_sub [0, 1, 2, 3, 4, 5, 6, 7] rfl ?_
    exact hk104 _ _ _ _ _ _ _ _ hr1 hv42 hv45 hr4 hv39 ir_0 hv49 E
  · replace E := mmI_f c48 E
    refine X_aload_n 0 dL_isWell_484 rfl ?_
    refine X_iload 8 dL_isWell_485 rfl ?_
    refine X_bipush (v := 6) dL_isWell_487 (by decide) ?_
    obtain ⟨q50, hq50, E⟩ := mmB_e E
    refine X_callO (zs := [l8, 6]) (st := []) 2 dL_isWell_489 hq50 (fun r hr => ct_X3_entry hr8 ir_6 hr) ml_XL_25 im_X3_entry sl_X3_entry it_X3 cd_X3_entry hy_X3_entry ⟨rfl, rfl, by decide, by decide⟩ rfl rfl (Nat.le_of_ble_eq_true rfl) (fun hv51 => ?_)
    refine X_iload 10 dL_isWell_492 rfl ?_
    refine X_icmp_ne 589 dL_isWell_494 (by decide) hv51 hr12 (fun c52 => ?_) (fun c52 => ?_)
    · replace E := mmI_f c52 E
      refine X_iconst dL_isWell_589 rfl ?_
      refine X_istore (lv' := [(0, .ref 0), (1, vi l1), (2, vi (l2 + q40.1)), (3, vi (l3 + q43.1)), (4, vi l4), (5, vi (s1 + s0)), (6, vi 0), (7, vi l7), (8, vi l8), (9, vi l9), (12, vi l12), (13, vi q46.1)]) dL_isWell_590 rfl rfl ?_
      obtain ⟨hv53, E⟩ := mmK_e E
      refine X_iinc (v := (l7 + 1)) (lv' := [(0, .ref 0), (1, vi l1), (2, vi (l2 + q40.1)), (3, vi (l3 + q43.1)), (4, vi l4), (5, vi (s1 + s0)), (6, vi 0), (7, vi (l7 + 1)), (8, vi l8), (9, vi l9), (12, vi l12), (13, vi q46.1)]) 7 dL_isWell_592 rfl rfl rfl rfl ?_
      refine X_goto 104 dL_isWell_595 (by decide) ?_
      refine X_sub [0, 1, 2, 3, 4, 5, 6, 7] rfl ?_
      exact hk104 _ _ _ _ _ _ _ _ hr1 hv42 hv45 hr4 hv39 ir_0 hv53 E
    · replace E := mmI_t c52 E
      refine X_aload_n 0 dL_isWell_497 rfl ?_
      refine X_iload 9 dL_isWell_498 rfl ?_
      obtain ⟨q54, hq54, E⟩ := mmB_e E
      refine X_callO (zs := [l9]) (st := []) 1 dL_isWell_500 hq54 (fun r hr => ct_X3_at hr9 hr) ml_XL_76 im_X3_at sl_X3_at it_X3 cd_X3_at hy_X3_at ⟨rfl, rfl, by decide, by decide⟩ rfl rfl (Nat.le_of_ble_eq_true rfl) (fun hv55 => ?_)
      refine X_iload 8 dL_isWell_503 rfl ?_
      refine X_icmp_gt 589 dL_isWell_505 (by decide) hv55 hr8 (fun c56 => ?_) (fun c56 => ?_)
      · replace E := mmI_t c56 E
        refine X_iconst dL_isWell_589 rfl ?_
        refine X_istore (lv' := [(0, .ref 0), (1, vi l1), (2, vi (l2 + q40.1)), (3, vi (l3 + q43.1)), (4, vi l4), (5, vi (s1 + s0)), (6, vi 0), (7, vi l7), (8, vi l8), (9, vi l9), (12, vi l12), (13, vi q46.1)]) dL_isWell_590 rfl rfl ?_
        obtain ⟨hv57, E⟩ := mmK_e E
        refine X_iinc (v := (l7 + 1)) (lv' := [(0, .ref 0), (1, vi l1), (2, vi (l2 + q40.1)), (3, vi (l3 + q43.1)), (4, vi l4), (5, vi (s1 + s0)), (6, vi 0), (7, vi (l7 + 1)), (8, vi l8), (9, vi l9), (12, vi l12), (13, vi q46.1)]) 7 dL_isWell_592 rfl rfl rfl rfl ?_
        refine X_goto 104 dL_isWell_595 (by decide) ?_
        refine X_sub [0, 1, 2, 3, 4, 5, 6, 7] rfl ?_
        exact hk104 _ _ _ _ _ _ _ _ hr1 hv42 hv45 hr4 hv39 ir_0 hv57 E
      · replace E := mmI_f c56 E
        refine X_aload_n 0 dL_isWell_508 rfl ?_
        refine X_iload 8 dL_isWell_509 rfl ?_
        refine X_iconst dL_isWell_511 rfl ?_
        obtain ⟨q58, hq58, E⟩ := mmB_e E
        refine X_callO (zs := [l8, 2]) (st := []) 2 dL_isWell_512 hq58 (fun r hr => ct_X3_entry hr8 ir_2 hr) ml_XL_25 im_X3_entry sl_X3_entry it_X3 cd_X3_entry hy_X3_entry ⟨rfl, rfl, by decide, by decide⟩ rfl rfl (Nat.le_of_ble_eq_true rfl) (fun hv59 => ?_)
        refine X_if_ne 539 dL_isWell_515 (by decide) hv59 (fun c60 => ?_) (fun c60 => ?_)
        · replace E := mmI_f c60 E
          refine X_aload_n 0 dL_isWell_539 rfl ?_
          refine X_iload 8 dL_isWell_540 rfl ?_
          refine X_bipush (v := 8) dL_isWell_542 (by decide) ?_
          obtain ⟨q61, hq61, E⟩ := mmB_e E
          refine X_callO (zs := [l8, 8]) (st := []) 2 dL_isWell_544 hq61 (fun r hr => ct_X3_entry hr8 ir_8 hr) ml_XL_25 im_X3_entry sl_X3_entry it_X3 cd_X3_entry hy_X3_entry ⟨rfl, rfl, by decide, by decide⟩ rfl rfl (Nat.le_of_ble_eq_true rfl) (fun hv62 => ?_)
          refine X_if_ne 554 dL_isWell_547 (by decide) hv62 (fun c63 => ?_) (fun c63 => ?_)
          · replace E := mmI_f c63 E
            refine X_iconst dL_isWell_554 rfl ?_
            refine X_sub [0, 1, 2, 3, 4, 5, 7, 9, 11] rfl ?_
            exact ok_L_isWell_L555 hk104 _ _ _ _ _ _ _ _ _ _ hr1 hv42 hv45 hr4 hv39 hr7 hr9 hv47 ir_0 E
          · replace E := mmI_t c63 E
            refine X_iconst dL_isWell_550 rfl ?_
            refine X_goto 555 dL_isWell_551 (by decide) ?_
            refine X_sub [0, 1, 2, 3, 4, 5, 7, 9, 11] rfl ?_
            exact ok_L_isWell_L555 hk104 _ _ _ _ _ _ _ _ _ _ hr1 hv42 hv45 hr4 hv39 hr7 hr9 hv47 ir_1 E
        · replace E := mmI_t c60 E
          refine X_iload 11 dL_isWell_518 rfl ?_
          refine X_bipush (v := (-5)) dL_isWell_520 (by decide) ?_
          refine X_icmp_ne 589 dL_isWell_522 (by decide) hv47 ir_m5 (fun c79 => ?_) (fun c79 => ?_)
          · replace E := mmI_f c79 E
            refine X_iconst dL_isWell_589 rfl ?_
            refine X_istore (lv' := [(0, .ref 0), (1, vi l1), (2, vi (l2 + q40.1)), (3, vi (l3 + q43.1)), (4, vi l4), (5, vi (s1 + s0)), (6, vi 0), (7, vi l7), (8, vi l8), (9, vi l9), (12, vi l12), (13, vi q46.1)]) dL_isWell_590 rfl rfl ?_
            obtain ⟨hv80, E⟩ := mmK_e E
            refine X_iinc (v := (l7 + 1)) (lv' := [(0, .ref 0), (1, vi l1), (2, vi (l2 + q40.1)), (3, vi (l3 + q43.1)), (4, vi l4), (5, vi (s1 + s0)), (6, vi 0), (7, vi (l7 + 1)), (8, vi l8), (9, vi l9), (12, vi l12), (13, vi q46.1)]) 7 dL_isWell_592 rfl rfl rfl rfl ?_
            refine X_goto 104 dL_isWell_595 (by decide) ?_
            refine X_sub [0, 1, 2, 3, 4, 5, 6, 7] rfl ?_
            exact hk104 _ _ _ _ _ _ _ _ hr1 hv42 hv45 hr4 hv39 ir_0 hv80 E
          · replace E := mmI_t c79 E
            refine X_aload_n 0 dL_isWell_525 rfl ?_
            refine X_iload 8 dL_isWell_526 rfl ?_
            refine X_bipush (v := 8) dL_isWell_528 (by decide) ?_
            obtain ⟨q81, hq81, E⟩ := mmB_e E
            refine X_callO (zs := [l8, 8]) (st := []) 2 dL_isWell_530 hq81 (fun r hr => ct_X3_entry hr8 ir_8 hr) ml_XL_25 im_X3_entry sl_X3_entry it_X3 cd_X3_entry hy_X3_entry ⟨rfl, rfl, by decide, by decide⟩ rfl rfl (Nat.le_of_ble_eq_true rfl) (fun hv82 => ?_)
            refine X_if_ne 589 dL_isWell_533 (by decide) hv82 (fun c83 => ?_) (fun c83 => ?_)
            · replace E := mmI_f c83 E
              refine X_iconst dL_isWell_589 rfl ?_
              refine X_istore (lv' := [(0, .ref 0), (1, vi l1), (2, vi (l2 + q40.1)), (3, vi (l3 + q43.1)), (4, vi l4), (5, vi (s1 + s0)), (6, vi 0), (7, vi l7), (8, vi l8), (9, vi l9), (12, vi l12), (13, vi q46.1)]) dL_isWell_590 rfl rfl ?_
              obtain ⟨hv84, E⟩ := mmK_e E
              refine X_iinc (v := (l7 + 1)) (lv' := [(0, .ref 0), (1, vi l1), (2, vi (l2 + q40.1)), (3, vi (l3 + q43.1)), (4, vi l4), (5, vi (s1 + s0)), (6, vi 0), (7, vi (l7 + 1)), (8, vi l8), (9, vi l9), (12, vi l12), (13, vi q46.1)]) 7 dL_isWell_592 rfl rfl rfl rfl ?_
              refine X_goto 104 dL_isWell_595 (by decide) ?_
              refine X_sub [0, 1, 2, 3, 4, 5, 6, 7] rfl ?_
              exact hk104 _ _ _ _ _ _ _ _ hr1 hv42 hv45 hr4 hv39 ir_0 hv84 E
            · replace E := mmI_t c83 E
              refine X_goto 585 dL_isWell_536 (by decide) ?_
              refine X_iconst dL_isWell_585 rfl ?_
              refine X_goto 590 dL_isWell_586 (by decide) ?_
              refine X_istore (lv' := [(0, .ref 0), (1, vi l1), (2, vi (l2 + q40.1)), (3, vi (l3 + q43.1)), (4, vi l4), (5, vi (s1 + s0)), (6, vi 1), (7, vi l7), (8, vi l8), (9, vi l9), (12, vi l12), (13, vi q46.1)]) dL_isWell_590 rfl rfl ?_
              obtain ⟨hv85, E⟩ := mmK_e E
              refine X_iinc (v := (l7 + 1)) (lv' := [(0, .ref 0), (1, vi l1), (2, vi (l2 + q40.1)), (3, vi (l3 + q43.1)), (4, vi l4), (5, vi (s1 + s0)), (6, vi 1), (7, vi (l7 + 1)), (8, vi l8), (9, vi l9), (12, vi l12), (13, vi q46.1)]) 7 dL_isWell_592 rfl rfl rfl rfl ?_
              refine X_goto 104 dL_isWell_595 (by decide) ?_
              refine X_sub [0, 1, 2, 3, 4, 5, 6, 7] rfl ?_
              exact hk104 _ _ _ _ _ _ _ _ hr1 hv42 hv45 hr4 hv39 ir_1 hv85 E
noncomputable def f_L_isWell_L429 (k104 : Int → Int → Int → Int → Int → Int → Int → Mem2 → Option (Int × Mem2)) (l1 : Int) (l2 : Int) (l3 : Int) (l5 : Int) (l6 : Int) (l7 : Int) (l8 : Int) (l9 : Int) (l10 : Int) (l11 : Int) (l12 : Int) (s0 : Int) (s1 : Int) (m : Mem2) : Option (Int × Mem2) :=
  mmK (inR (s1 + s0)) (if l11 = 0 then
(f_L_isWell_L445 k104 l1 l2 l3 (s1 + s0) l6 l7 l8 l9 l12 0 l5 m)
else
(f_L_isWell_L445 k104 l1 l2 l3 (s1 + s0) l6 l7 l8 l9 l12 l10 l5 m))
set_option maxRecDepth 100000 in
set_option maxHeartbeats 4000000 in
theorem ok_L_isWell_L429 {k104 : Int → Int → Int → Int → Int → Int → Int → Mem2 → Option (Int × Mem2)} {r : Int × Mem2} (hk104 : ∀ (l1 : Int) (l2 : Int) (l3 : Int) (l4 : Int) (l5 : Int) (l6 : Int) (l7 : Int) (m : Mem2), inR l1 → inR l2 → inR l3 → inR l4 → inR l5 → inR l6 → inR l7 → k104 l1 l2 l3 l4 l5 l6 l7 m = some r → V2 RL cL_isWell 17 rm_L_isWell mmG0 (mm2Pz r) 104 [(0, .ref 0), (1, vi l1), (2, vi l2), (3, vi l3), (4, vi l4), (5, vi l5), (6, vi l6), (7, vi l7)] [] m) : ∀ (l1 : Int) (l2 : Int) (l3 : Int) (l5 : Int) (l6 : Int) (l7 : Int) (l8 : Int) (l9 : Int) (l10 : Int) (l11 : Int) (l12 : Int) (s0 : Int) (s1 : Int) (m : Mem2), inR l1 → inR l2 → inR l3 → inR l5 → inR l6 → inR l7 → inR l8 → inR l9 → inR l10 → inR l11 → inR l12 → inR s0 → inR s1 → f_L_isWell_L429 k104 l1 l2 l3 l5 l6 l7 l8 l9 l10 l11 l12 s0 s1 m = some r → V2 RL cL_isWell 17 rm_L_isWell mmG0 (mm2Pz r) 429 [(0, .ref 0), (1, vi l1), (2, vi l2), (3, vi l3), (5, vi l5), (6, vi l6), (7, vi l7), (8, vi l8), (9, vi l9), (10, vi l10), (11, vi l11), (12, vi l12)] [vi s0, vi s1] m := by
  intro l1 l2 l3 l5 l6 l7 l8 l9 l10 l11 l12 s0 s1 m hr1 hr2 hr3 hr5 hr6 hr7 hr8 hr9 hr10 hr11 hr12 hrs0 hrs1 E
  unfold f_L_isWell_L429 at E
  obtain ⟨hv37, E⟩ := mmK_e E
  refine X_iadd dL_isWell_429 ?_
  refine X_istore (lv' := [(0, .ref 0), (1, vi l1), (2, vi l2), (3, vi l3), (4, vi (s1 + s0)), (5, vi l5), (6, vi l6), (7, vi l7), (8, vi l8), (9, vi l9), (10, vi l10), (11, vi l11), (12, vi l12)]) dL_isWell_430 rfl rfl ?_
  refine X_iload 5 dL_isWell_432 rfl ?_
  refine X_iload 11 dL_isWell_434 rfl ?_
  refine X_if_eq 444 dL_isWell_436 (by decide) hr11 (fun c38 => ?_) (fun c38 => ?_)
  · replace E := mmI_t c38 E
    refine X_iconst dL_isWell_444 rfl ?_
    refine X_sub [0, 1, 2, 3, 4, 6, 7, 8, 9, 12] rfl ?_
    exact ok_L_isWell_L445 hk104 _ _ _ _ _ _ _ _ _ _ _ _ hr1 hr2 hr3 hv37 hr6 hr7 hr8 hr9 hr12 ir_0 hr5 E
  · replace E := mmI_f c38 E
    refine X_iload 10 dL_isWell_439 rfl ?_
    refine X_goto 445 dL_isWell_441 (by decide) ?_
    refine X_sub [0, 1, 2, 3, 4, 6, 7, 8, 9, 12] rfl ?_
    exact ok_L_isWell_L445 hk104 _ _ _ _ _ _ _ _ _ _ _ _ hr1 hr2 hr3 hv37 hr6 hr7 hr8 hr9 hr12 hr10 hr5 E
noncomputable def f_L_isWell_L417 (k104 : Int → Int → Int → Int → Int → Int → Int → Mem2 → Option (Int × Mem2)) (l1 : Int) (l2 : Int) (l3 : Int) (l4 : Int) (l5 : Int) (l6 : Int) (l7 : Int) (l8 : Int) (l9 : Int) (l10 : Int) (l11 : Int) (l12 : Int) (m : Mem2) : Option (Int × Mem2) :=
  if l11 = 0 then
(f_L_isWell_L429 k104 l1 l2 l3 l5 l6 l7 l8 l9 l10 l11 l12 0 l4 m)
else
(f_L_isWell_L429 k104 l1 l2 l3 l5 l6 l7 l8 l9 l10 l11 l12 1 l4 m)
set_option maxRecDepth 100000 in
set_option maxHeartbeats 4000000 in
theorem ok_L_isWell_L417 {k104 : Int → Int → Int → Int → Int → Int → Int → Mem2 → Option (Int × Mem2)} {r : Int × Mem2} (hk104 : ∀ (l1 : Int) (l2 : Int) (l3 : Int) (l4 : Int) (l5 : Int) (l6 : Int) (l7 : Int) (m : Mem2), inR l1 → inR l2 → inR l3 → inR l4 → inR l5 → inR l6 → inR l7 → k104 l1 l2 l3 l4 l5 l6 l7 m = some r → V2 RL cL_isWell 17 rm_L_isWell mmG0 (mm2Pz r) 104 [(0, .ref 0), (1, vi l1), (2, vi l2), (3, vi l3), (4, vi l4), (5, vi l5), (6, vi l6), (7, vi l7)] [] m) : ∀ (l1 : Int) (l2 : Int) (l3 : Int) (l4 : Int) (l5 : Int) (l6 : Int) (l7 : Int) (l8 : Int) (l9 : Int) (l10 : Int) (l11 : Int) (l12 : Int) (m : Mem2), inR l1 → inR l2 → inR l3 → inR l4 → inR l5 → inR l6 → inR l7 → inR l8 → inR l9 → inR l10 → inR l11 → inR l12 → f_L_isWell_L417 k104 l1 l2 l3 l4 l5 l6 l7 l8 l9 l10 l11 l12 m = some r → V2 RL cL_isWell 17 rm_L_isWell mmG0 (mm2Pz r) 417 [(0, .ref 0), (1, vi l1), (2, vi l2), (3, vi l3), (4, vi l4), (5, vi l5), (6, vi l6), (7, vi l7), (8, vi l8), (9, vi l9), (10, vi l10), (11, vi l11), (12, vi l12)] [] m := by
  intro l1 l2 l3 l4 l5 l6 l7 l8 l9 l10 l11 l12 m hr1 hr2 hr3 hr4 hr5 hr6 hr7 hr8 hr9 hr10 hr11 hr12 E
  unfold f_L_isWell_L417 at E
  refine X_iload 4 dL_isWell_417 rfl ?_
  refine X_iload 11 dL_isWell_419 rfl ?_
  refine X_if_eq 428 dL_isWell_421 (by decide) hr11 (fun c36 => ?_) (fun c36 => ?_)
  · replace E := mmI_t c36 E
    refine X_iconst dL_isWell_428 rfl ?_
    refine X_sub [0, 1, 2, 3, 5, 6, 7, 8, 9, 10, 11, 12] rfl ?_
    exact ok_L_isWell_L429 hk104 _ _ _ _ _ _ _ _ _ _ _ _ _ _ hr1 hr2 hr3 hr5 hr6 hr7 hr8 hr9 hr10 hr11 hr12 ir_0 hr4 E
  · replace E := mmI_f c36 E
    refine X_iconst dL_isWell_424 rfl ?_
    refine X_goto 429 dL_isWell_425 (by decide) ?_
    refine X_sub [0, 1, 2, 3, 5, 6, 7, 8, 9, 10, 11, 12] rfl ?_
    exact ok_L_isWell_L429 hk104 _ _ _ _ _ _ _ _ _ _ _ _ _ _ hr1 hr2 hr3 hr5 hr6 hr7 hr8 hr9 hr10 hr11 hr12 ir_1 hr4 E
noncomputable def f_L_isWell_L309 (k104 : Int → Int → Int → Int → Int → Int → Int → Mem2 → Option (Int × Mem2)) (k220 : Int → Int → Int → Int → Int → Int → Int → Int → Int → Int → Int → Int → Int → Mem2 → Option (Int × Mem2)) (l1 : Int) (l2 : Int) (l3 : Int) (l4 : Int) (l5 : Int) (l7 : Int) (l8 : Int) (l9 : Int) (l10 : Int) (l11 : Int) (l13 : Int) (l14 : Int) (l15 : Int) (l16 : Int) (s0 : Int) (s1 : Int) (m : Mem2) : Option (Int × Mem2) :=
  mmK (inR (s1 + s0)) (if l16 = 0 then
(mmK (inR (l9 + l10)) (if (l9 + l10) ≤ l15 then
(mmK (inR (l13 + 1)) (k220 l1 l2 l3 l4 l5 1 l7 l8 l9 l10 l11 (s1 + s0) (l13 + 1) m))
else
((mmO (f_X3_entry l14 4) m).bind (fun q99 => mmK (inR (l15 + q99.1)) (if l9 < (l15 + q99.1) then
(mmK (inR (l13 + 1)) (k220 l1 l2 l3 l4 l5 0 l7 l8 l9 l10 l11 (s1 + s0) (l13 + 1) q99.2))
else
(mmK (inR (l13 + 1)) (k220 l1 l2 l3 l4 l5 1 l7 l8 l9 l10 l11 (s1 + s0) (l13 + 1) q99.2)))))))
else
((mmO (f_X3_entry l14 4) m).bind (fun q105 => if q105.1 = l10 then
((mmO (f_X3_entry l14 5) q105.2).bind (fun q109 => (mmO (f_X3_entry l8 5) q109.2).bind (fun q111 => if q109.1 = q111.1 then
(if l13 = l7 then
(mmK (inR (l13 + 1)) (k220 l1 l2 l3 l4 l5 1 l7 l8 l9 l10 l11 (s1 + s0) (l13 + 1) q111.2))
else
((mmO (f_X3_entry l14 2) q111.2).bind (fun q117 => (mmO (f_X3_entry l8 2) q117.2).bind (fun q119 => mmK (inR (q117.1 + q119.1)) (if (q117.1 + q119.1) ≤ 0 then
(mmK (inR (l13 + 1)) (k220 l1 l2 l3 l4 l5 0 l7 l8 l9 l10 l11 (s1 + s0) (l13 + 1) q119.2))
else
(mmK (inR (l13 + 1)) (k220 l1 l2 l3 l4 l5 1 l7 l8 l9 l10 l11 (s1 + s0) (l13 + 1) q119.2)))))))
else
(mmK (inR (l13 + 1)) (k220 l1 l2 l3 l4 l5 0 l7 l8 l9 l10 l11 (s1 + s0) (l13 + 1) q111.2)))))
else
(mmK (inR (l13 + 1)) (k220 l1 l2 l3 l4 l5 0 l7 l8 l9 l10 l11 (s1 + s0) (l13 + 1) q105.2)))))
set_option maxRecDepth 100000 in
set_option maxHeartbeats 4000000 in
theorem ok_L_isWell_L309 {k104 : Int → Int → Int → Int → Int → Int → Int → Mem2 → Option (Int × Mem2)} {k220 : Int → Int → Int → Int → Int → Int → Int → Int → Int → Int → Int → Int → Int → Mem2 → Option (Int × Mem2)} {r : Int × Mem2} (hk104 : ∀ (l1 : Int) (l2 : Int) (l3 : Int) (l4 : Int) (l5 : Int) (l6 : Int) (l7 : Int) (m : Mem2), inR l1 → inR l2 → inR l3 → inR l4 → inR l5 → inR l6 → inR l7 → k104 l1 l2 l3 l4 l5 l6 l7 m = some r → V2 RL cL_isWell 17 rm_L_isWell mmG0 (mm2Pz r) 104 [(0, .ref 0), (1, vi l1), (2, vi l2), (3, vi l3), (4, vi l4), (5, vi l5), (6, vi l6), (7, vi l7)] [] m) (hk220 : ∀ (l1 : Int) (l2 : Int) (l3 : Int) (l4 : Int) (l5 : Int) (l6 : Int) (l7 : Int) (l8 : Int) (l9 : Int) (l10 : Int) (l11 : Int) (l12 : Int) (l13 : Int) (m : Mem2), inR l1 → inR l2 → inR l3 → inR l4 → inR l5 → inR l6 → inR l7 → inR l8 → inR l9 → inR l10 → inR l11 → inR l12 → inR l13 → k220 l1 l2 l3 l4 l5 l6 l7 l8 l9 l10 l11 l12 l13 m = some r → V2 RL cL_isWell 17 rm_L_isWell mmG0 (mm2Pz r) 220 [(0, .ref 0), (1, vi l1), (2, vi l2), (3, vi l3), (4, vi l4), (5, vi l5), (6, vi l6), (7, vi l7), (8, vi l8), (9, vi l9), (10, vi l10), (11, vi l11), (12, vi l12), (13, vi l13)] [] m) : ∀ (l1 : Int) (l2 : Int) (l3 : Int) (l4 : Int) (l5 : Int) (l7 : Int) (l8 : Int) (l9 : Int) (l10 : Int) (l11 : Int) (l13 : Int) (l14 : Int) (l15 : Int) (l16 : Int) (s0 : Int) (s1 : Int) (m : Mem2), inR l1 → inR l2 → inR l3 → inR l4 → inR l5 → inR l7 → inR l8 → inR l9 → inR l10 → inR l11 → inR l13 → inR l14 → inR l15 → inR l16 → inR s0 → inR s1 → f_L_isWell_L309 k104 k220 l1 l2 l3 l4 l5 l7 l8 l9 l10 l11 l13 l14 l15 l16 s0 s1 m = some r → V2 RL cL_isWell 17 rm_L_isWell mmG0 (mm2Pz r) 309 [(0, .ref 0), (1, vi l1), (2, vi l2), (3, vi l3), (4, vi l4), (5, vi l5), (7, vi l7), (8, vi l8), (9, vi l9), (10, vi l10), (11, vi l11), (13, vi l13), (14, vi l14), (15, vi l15), (16, vi l16)] [vi s0, vi s1] m := by
  intro l1 l2 l3 l4 l5 l7 l8 l9 l10 l11 l13 l14 l15 l16 s0 s1 m hr1 hr2 hr3 hr4 hr5 hr7 hr8 hr9 hr10 hr11 hr13 hr14 hr15 hr16 hrs0 hrs1 E
  unfold f_L_isWell_L309 at E
  obtain ⟨hv94, E⟩ := mmK_e E
  refine X_iadd dL_isWell_309 ?_
  refine X_istore (lv' := [(0, .ref 0), (1, vi l1), (2, vi l2), (3, vi l3), (4, vi l4), (5, vi l5), (7, vi l7), (8, vi l8), (9, vi l9), (10, vi l10), (11, vi l11), (12, vi (s1 + s0)), (13, vi l13), (14, vi l14), (15, vi l15), (16, vi l16)]) dL_isWell_310 rfl rfl ?_
  refine X_iload 15 dL_isWell_312 rfl ?_
  refine X_if_eq 379 dL_isWell_314 (by decide) hr16 (fun c95 => ?_) (fun c95 => ?_)
  · replace E := mmI_t c95 E
    refine X_iload 14 dL_isWell_379 rfl ?_
    refine X_iload 8 dL_isWell_381 rfl ?_
    refine X_iload 9 dL_isWell_383 rfl ?_
    obtain ⟨hv96, E⟩ := mmK_e E
    refine X_iadd dL_isWell_385 ?_
    refine X_icmp_ge 404 dL_isWell_386 (by decide) hr15 hv96 (fun c97 => ?_) (fun c97 => ?_)
    · replace E := mmI_t c97 E
      refine X_iconst dL_isWell_404 rfl ?_
      refine X_goto 409 dL_isWell_405 (by decide) ?_
      refine X_istore (lv' := [(0, .ref 0), (1, vi l1), (2, vi l2), (3, vi l3), (4, vi l4), (5, vi l5), (6, vi 1), (7, vi l7), (8, vi l8), (9, vi l9), (10, vi l10), (11, vi l11), (12, vi (s1 + s0)), (13, vi l13), (14, vi l14), (15, vi l15), (16, vi l16)]) dL_isWell_409 rfl rfl ?_
      obtain ⟨hv98, E⟩ := mmK_e E
      refine X_iinc (v := (l13 + 1)) (lv' := [(0, .ref 0), (1, vi l1), (2, vi l2), (3, vi l3), (4, vi l4), (5, vi l5), (6, vi 1), (7, vi l7), (8, vi l8), (9, vi l9), (10, vi l10), (11, vi l11), (12, vi (s1 + s0)), (13, vi (l13 + 1)), (14, vi l14), (15, vi l15), (16, vi l16)]) 13 dL_isWell_411 rfl rfl rfl rfl ?_
      refine X_goto 220 dL_isWell_414 (by decide) ?_
      refine X_sub [0, 1, 2, 3, 4, 5, 6, 7, 8, 9, 10, 11, 12, 13] rfl ?_
      exact hk220 _ _ _ _ _ _ _ _ _ _ _ _ _ _ hr1 hr2 hr3 hr4 hr5 ir_1 hr7 hr8 hr9 hr10 hr11 hv94 hv98 E
    · replace E := mmI_f c97 E
      refine X_iload 14 dL_isWell_389 rfl ?_
      refine X_aload_n 0 dL_isWell_391 rfl ?_
      refine X_iload 13 dL_isWell_392 rfl ?_
      refine X_iconst dL_isWell_394 rfl ?_
      obtain ⟨q99, hq99, E⟩ := mmB_e E
      refine X_callO (zs := [l14, 4]) (st := [vi l15]) 2 dL_isWell_395 hq99 (fun r hr => ct_X3_entry hr14 ir_4 hr) ml_XL_25 im_X3_entry sl_X3_entry it_X3 cd_X3_entry hy_X3_entry ⟨rfl, rfl, by decide, by decide⟩ rfl rfl (Nat.le_of_ble_eq_true rfl) (fun hv100 => ?_)
      obtain ⟨hv101, E⟩ := mmK_e E
      refine X_iadd dL_isWell_398 ?_
      refine X_iload 8 dL_isWell_399 rfl ?_
      refine X_icmp_gt 408 dL_isWell_401 (by decide) hv101 hr9 (fun c102 => ?_) (fun c102 => ?_)
      · replace E := mmI_t c102 E
        refine X_iconst dL_isWell_408 rfl ?_
        refine X_istore (lv' := [(0, .ref 0), (1, vi l1), (2, vi l2), (3, vi l3), (4, vi l4), (5, vi l5), (6, vi 0), (7, vi l7), (8, vi l8), (9, vi l9), (10, vi l10), (11, vi l11), (12, vi (s1 + s0)), (13, vi l13), (14, vi l14), (15, vi l15), (16, vi l16)]) dL_isWell_409 rfl rfl ?_
        obtain ⟨hv103, E⟩ := mmK_e E
        refine X_iinc (v := (l13 + 1)) (lv' := [(0, .ref 0), (1, vi l1), (2, vi l2), (3, vi l3), (4, vi l4), (5, vi l5), (6, vi 0), (7, vi l7), (8, vi l8), (9, vi l9), (10, vi l10), (11, vi l11), (12, vi (s1 + s0)), (13, vi (l13 + 1)), (14, vi l14), (15, vi l15), (16, vi l16)]) 13 dL_isWell_411 rfl rfl rfl rfl ?_
        refine X_goto 220 dL_isWell_414 (by decide) ?_
        refine X_sub [0, 1, 2, 3, 4, 5, 6, 7, 8, 9, 10, 11, 12, 13] rfl ?_
        exact hk220 _ _ _ _ _ _ _ _ _ _ _ _ _ _ hr1 hr2 hr3 hr4 hr5 ir_0 hr7 hr8 hr9 hr10 hr11 hv94 hv103 E
      · replace E := mmI_f c102 E
        refine X_iconst dL_isWell_404 rfl ?_
        refine X_goto 409 dL_isWell_405 (by decide) ?_
        refine X_istore (lv' := [(0, .ref 0), (1, vi l1), (2, vi l2), (3, vi l3), (4, vi l4), (5, vi l5), (6, vi 1), (7, vi l7), (8, vi l8), (9, vi l9), (10, vi l10), (11, vi l11), (12, vi (s1 + s0)), (13, vi l13), (14, vi l14), (15, vi l15), (16, vi l16)]) dL_isWell_409 rfl rfl ?_
        obtain ⟨hv104, E⟩ := mmK_e E
        refine X_iinc (v := (l13 + 1)) (lv' := [(0, .ref 0), (1, vi l1), (2, vi l2), (3, vi l3), (4, vi l4), (5, vi l5), (6, vi 1), (7, vi l7), (8, vi l8), (9, vi l9), (10, vi l10), (11, vi l11), (12, vi (s1 + s0)), (13, vi (l13 + 1)), (14, vi l14), (15, vi l15), (16, vi l16)]) 13 dL_isWell_411 rfl rfl rfl rfl ?_
        refine X_goto 220 dL_isWell_414 (by decide) ?_
        refine X_sub [0, 1, 2, 3, 4, 5, 6, 7, 8, 9, 10, 11, 12, 13] rfl ?_
        exact hk220 _ _ _ _ _ _ _ _ _ _ _ _ _ _ hr1 hr2 hr3 hr4 hr5 ir_1 hr7 hr8 hr9 hr10 hr11 hv94 hv104 E
  · replace E := mmI_f c95 E
    refine X_aload_n 0 dL_isWell_317 rfl ?_
    refine X_iload 13 dL_isWell_318 rfl ?_
    refine X_iconst dL_isWell_320 rfl ?_
    obtain ⟨q105, hq105, E⟩ := mmB_e E
    refine X_callO (zs := [l14, 4]) (st := []) 2 dL_isWell_321 hq105 (fun r hr => ct_X3_entry hr14 ir_4 hr) ml_XL_25 im_X3_entry sl_X3_entry it_X3 cd_X3_entry hy_X3_entry ⟨rfl, rfl, by decide, by decide⟩ rfl rfl (Nat.le_of_ble_eq_true rfl) (fun hv106 => ?_)
    refine X_iload 9 dL_isWell_324 rfl ?_
    refine X_icmp_ne 375 dL_isWell_326 (by decide) hv106 hr10 (fun c107 => ?_) (fun c107 => ?_)
    · replace E := mmI_f c107 E
      refine X_iconst dL_isWell_375 rfl ?_
      refine X_goto 409 dL_isWell_376 (by decide) ?_
      refine X_istore (lv' := [(0, .ref 0), (1, vi l1), (2, vi l2), (3, vi l3), (4, vi l4), (5, vi l5), (6, vi 0), (7, vi l7), (8, vi l8), (9, vi l9), (10, vi l10), (11, vi l11), (12, vi (s1 + s0)), (13, vi l13), (14, vi l14), (15, vi l15), (16, vi l16)]) dL_isWell_409 rfl rfl ?_
      obtain ⟨hv108, E⟩ := mmK_e E
      refine X_iinc (v := (l13 + 1)) (lv' := [(0, .ref 0), (1, vi l1), (2, vi l2), (3, vi l3), (4, vi l4), (5, vi l5), (6, vi 0), (7, vi l7), (8, vi l8), (9, vi l9), (10, vi l10), (11, vi l11), (12, vi (s1 + s0)), (13, vi (l13 + 1)), (14, vi l14), (15, vi l15), (16, vi l16)]) 13 dL_isWell_411 rfl rfl rfl rfl ?_
      refine X_goto 220 dL_isWell_414 (by decide) ?_
      refine X_sub [0, 1, 2, 3, 4, 5, 6, 7, 8, 9, 10, 11, 12, 13] rfl ?_
      exact hk220 _ _ _ _ _ _ _ _ _ _ _ _ _ _ hr1 hr2 hr3 hr4 hr5 ir_0 hr7 hr8 hr9 hr10 hr11 hv94 hv108 E
    · replace E := mmI_t c107 E
      refine X_aload_n 0 dL_isWell_329 rfl ?_
      refine X_iload 13 dL_isWell_330 rfl ?_
      refine X_iconst dL_isWell_332 rfl ?_
      obtain ⟨q109, hq109, E⟩ := mmB_e E
      refine X_callO (zs := [l14, 5]) (st := []) 2 dL_isWell_333 hq109 (fun r hr => ct_X3_entry hr14 ir_5 hr) ml_XL_25 im_X3_entry sl_X3_entry it_X3 cd_X3_entry hy_X3_entry ⟨rfl, rfl, by decide, by decide⟩ rfl rfl (Nat.le_of_ble_eq_true rfl) (fun hv110 => ?_)
      refine X_aload_n 0 dL_isWell_336 rfl ?_
      refine X_iload 7 dL_isWell_337 rfl ?_
      refine X_iconst dL_isWell_339 rfl ?_
      obtain ⟨q111, hq111, E⟩ := mmB_e E
      refine X_callO (zs := [l8, 5]) (st := [vi q109.1]) 2 dL_isWell_340 hq111 (fun r hr => ct_X3_entry hr8 ir_5 hr) ml_XL_25 im_X3_entry sl_X3_entry it_X3 cd_X3_entry hy_X3_entry ⟨rfl, rfl, by decide, by decide⟩ rfl rfl (Nat.le_of_ble_eq_true rfl) (fun hv112 => ?_)
      refine X_icmp_ne 375 dL_isWell_343 (by decide) hv110 hv112 (fun c113 => ?_) (fun c113 => ?_)
      · replace E := mmI_f c113 E
        refine X_iconst dL_isWell_375 rfl ?_
        refine X_goto 409 dL_isWell_376 (by decide) ?_
        refine X_istore (lv' := [(0, .ref 0), (1, vi l1), (2, vi l2), (3, vi l3), (4, vi l4), (5, vi l5), (6, vi 0), (7, vi l7), (8, vi l8), (9, vi l9), (10, vi l10), (11, vi l11), (12, vi (s1 + s0)), (13, vi l13), (14, vi l14), (15, vi l15), (16, vi l16)]) dL_isWell_409 rfl rfl ?_
        obtain ⟨hv114, E⟩ := mmK_e E
        refine X_iinc (v := (l13 + 1)) (lv' := [(0, .ref 0), (1, vi l1), (2, vi l2), (3, vi l3), (4, vi l4), (5, vi l5), (6, vi 0), (7, vi l7), (8, vi l8), (9, vi l9), (10, vi l10), (11, vi l11), (12, vi (s1 + s0)), (13, vi (l13 + 1)), (14, vi l14), (15, vi l15), (16, vi l16)]) 13 dL_isWell_411 rfl rfl rfl rfl ?_
        refine X_goto 220 dL_isWell_414 (by decide) ?_
        refine X_sub [0, 1, 2, 3, 4, 5, 6, 7, 8, 9, 10, 11, 12, 13] rfl ?_
        exact hk220 _ _ _ _ _ _ _ _ _ _ _ _ _ _ hr1 hr2 hr3 hr4 hr5 ir_0 hr7 hr8 hr9 hr10 hr11 hv94 hv114 E
      · replace E := mmI_t c113 E
        refine X_iload 12 dL_isWell_346 rfl ?_
        refine X_iload 6 dL_isWell_348 rfl ?_
        refine X_icmp_eq 371 dL_isWell_350 (by decide) hr13 hr7 (fun c115 => ?_) (fun c115 => ?_)
        · replace E := mmI_t c115 E
          refine X_iconst dL_isWell_371 rfl ?_
          refine X_goto 409 dL_isWell_372 (by decide) ?_
          refine X_istore (lv' := [(0, .ref 0), (1, vi l1), (2, vi l2), (3, vi l3), (4, vi l4), (5, vi l5), (6, vi 1), (7, vi l7), (8, vi l8), (9, vi l9), (10, vi l10), (11, vi l11), (12, vi (s1 + s0)), (13, vi l13), (14, vi l14), (15, vi l15), (16, vi l16)]) dL_isWell_409 rfl rfl ?_
          obtain ⟨hv116, E⟩ := mmK_e E
          refine X_iinc (v := (l13 + 1)) (lv' := [(0, .ref 0), (1, vi l1), (2, vi l2), (3, vi l3), (4, vi l4), (5, vi l5), (6, vi 1), (7, vi l7), (8, vi l8), (9, vi l9), (10, vi l10), (11, vi l11), (12, vi (s1 + s0)), (13, vi (l13 + 1)), (14, vi l14), (15, vi l15), (16, vi l16)]) 13 dL_isWell_411 rfl rfl rfl rfl ?_
          refine X_goto 220 dL_isWell_414 (by decide) ?_
          refine X_sub [0, 1, 2, 3, 4, 5, 6, 7, 8, 9, 10, 11, 12, 13] rfl ?_
          exact hk220 _ _ _ _ _ _ _ _ _ _ _ _ _ _ hr1 hr2 hr3 hr4 hr5 ir_1 hr7 hr8 hr9 hr10 hr11 hv94 hv116 E
        · replace E := mmI_f c115 E
          refine X_aload_n 0 dL_isWell_353 rfl ?_
          refine X_iload 13 dL_isWell_354 rfl ?_
          refine X_iconst dL_isWell_356 rfl ?_
          obtain ⟨q117, hq117, E⟩ := mmB_e E
          refine X_callO (zs := [l14, 2]) (st := []) 2 dL_isWell_357 hq117 (fun r hr => ct_X3_entry hr14 ir_2 hr) ml_XL_25 im_X3_entry sl_X3_entry it_X3 cd_X3_entry hy_X3_entry ⟨rfl, rfl, by decide, by decide⟩ rfl rfl (Nat.le_of_ble_eq_true rfl) (fun hv118 => ?_)
          refine X_aload_n 0 dL_isWell_360 rfl ?_
          refine X_iload 7 dL_isWell_361 rfl ?_
          refine X_iconst dL_isWell_363 rfl ?_
          obtain ⟨q119, hq119, E⟩ := mmB_e E
          refine X_callO (zs := [l8, 2]) (st := [vi q117.1]) 2 dL_isWell_364 hq119 (fun r hr => ct_X3_entry hr8 ir_2 hr) ml_XL_25 im_X3_entry sl_X3_entry it_X3 cd_X3_entry hy_X3_entry ⟨rfl, rfl, by decide, by decide⟩ rfl rfl (Nat.le_of_ble_eq_true rfl) (fun hv120 => ?_)
          obtain ⟨hv121, E⟩ := mmK_e E
          refine X_iadd dL_isWell_367 ?_
          refine X_if_le 375 dL_isWell_368 (by decide) hv121 (fun c122 => ?_) (fun c122 => ?_)
          · replace E := mmI_t c122 E
            refine X_iconst dL_isWell_375 rfl ?_
            refine X_goto 409 dL_isWell_376 (by decide) ?_
            refine X_istore (lv' := [(0, .ref 0), (1, vi l1), (2, vi l2), (3, vi l3), (4, vi l4), (5, vi l5), (6, vi 0), (7, vi l7), (8, vi l8), (9, vi l9), (10, vi l10), (11, vi l11), (12, vi (s1 + s0)), (13, vi l13), (14, vi l14), (15, vi l15), (16, vi l16)]) dL_isWell_409 rfl rfl ?_
            obtain ⟨hv123, E⟩ := mmK_e E
            refine X_iinc (v := (l13 + 1)) (lv' := [(0, .ref 0), (1, vi l1), (2, vi l2), (3, vi l3), (4, vi l4), (5, vi l5), (6, vi 0), (7, vi l7), (8, vi l8), (9, vi l9), (10, vi l10), (11, vi l11), (12, vi (s1 + s0)), (13, vi (l13 + 1)), (14, vi l14), (15, vi l15), (16, vi l16)]) 13 dL_isWell_411 rfl rfl rfl rfl ?_
            refine X_goto 220 dL_isWell_414 (by decide) ?_
            refine X_sub [0, 1, 2, 3, 4, 5, 6, 7, 8, 9, 10, 11, 12, 13] rfl ?_
            exact hk220 _ _ _ _ _ _ _ _ _ _ _ _ _ _ hr1 hr2 hr3 hr4 hr5 ir_0 hr7 hr8 hr9 hr10 hr11 hv94 hv123 E
          · replace E := mmI_f c122 E
            refine X_iconst dL_isWell_371 rfl ?_
            refine X_goto 409 dL_isWell_372 (by decide) ?_
            refine X_istore (lv' := [(0, .ref 0), (1, vi l1), (2, vi l2), (3, vi l3), (4, vi l4), (5, vi l5), (6, vi 1), (7, vi l7), (8, vi l8), (9, vi l9), (10, vi l10), (11, vi l11), (12, vi (s1 + s0)), (13, vi l13), (14, vi l14), (15, vi l15), (16, vi l16)]) dL_isWell_409 rfl rfl ?_
            obtain ⟨hv124, E⟩ := mmK_e E
            refine X_iinc (v := (l13 + 1)) (lv' := [(0, .ref 0), (1, vi l1), (2, vi l2), (3, vi l3), (4, vi l4), (5, vi l5), (6, vi 1), (7, vi l7), (8, vi l8), (9, vi l9), (10, vi l10), (11, vi l11), (12, vi (s1 + s0)), (13, vi (l13 + 1)), (14, vi l14), (15, vi l15), (16, vi l16)]) 13 dL_isWell_411 rfl rfl rfl rfl ?_
            refine X_goto 220 dL_isWell_414 (by decide) ?_
            refine X_sub [0, 1, 2, 3, 4, 5, 6, 7, 8, 9, 10, 11, 12, 13] rfl ?_
            exact hk220 _ _ _ _ _ _ _ _ _ _ _ _ _ _ hr1 hr2 hr3 hr4 hr5 ir_1 hr7 hr8 hr9 hr10 hr11 hv94 hv124 E
noncomputable def f_L_isWell_L308 (k104 : Int → Int → Int → Int → Int → Int → Int → Mem2 → Option (Int × Mem2)) (k220 : Int → Int → Int → Int → Int → Int → Int → Int → Int → Int → Int → Int → Int → Mem2 → Option (Int × Mem2)) (l1 : Int) (l2 : Int) (l3 : Int) (l4 : Int) (l5 : Int) (l7 : Int) (l8 : Int) (l9 : Int) (l10 : Int) (l11 : Int) (l13 : Int) (l14 : Int) (l15 : Int) (l16 : Int) (s0 : Int) (m : Mem2) : Option (Int × Mem2) :=
  f_L_isWell_L309 k104 k220 l1 l2 l3 l4 l5 l7 l8 l9 l10 l11 l13 l14 l15 l16 0 s0 m
set_option maxRecDepth 100000 in
set_option maxHeartbeats 4000000 in
theorem ok_L_isWell_L308 {k104 : Int → Int → Int → Int → Int → Int → Int → Mem2 → Option (Int × Mem2)} {k220 : Int → Int → Int → Int → Int → Int → Int → Int → Int → Int → Int → Int → Int → Mem2 → Option (Int × Mem2)} {r : Int × Mem2} (hk104 : ∀ (l1 : Int) (l2 : Int) (l3 : Int) (l4 : Int) (l5 : Int) (l6 : Int) (l7 : Int) (m : Mem2), inR l1 → inR l2 → inR l3 → inR l4 → inR l5 → inR l6 → inR l7 → k104 l1 l2 l3 l4 l5 l6 l7 m = some r → V2 RL cL_isWell 17 rm_L_isWell mmG0 (mm2Pz r) 104 [(0, .ref 0), (1, vi l1), (2, vi l2), (3, vi l3), (4, vi l4), (5, vi l5), (6, vi l6), (7, vi l7)] [] m) (hk220 : ∀ (l1 : Int) (l2 : Int) (l3 : Int) (l4 : Int) (l5 : Int) (l6 : Int) (l7 : Int) (l8 : Int) (l9 : Int) (l10 : Int) (l11 : Int) (l12 : Int) (l13 : Int) (m : Mem2), inR l1 → inR l2 → inR l3 → inR l4 → inR l5 → inR l6 → inR l7 → inR l8 → inR l9 → inR l10 → inR l11 → inR l12 → inR l13 → k220 l1 l2 l3 l4 l5 l6 l7 l8 l9 l10 l11 l12 l13 m = some r → V2 RL cL_isWell 17 rm_L_isWell mmG0 (mm2Pz r) 220 [(0, .ref 0), (1, vi l1), (2, vi l2), (3, vi l3), (4, vi l4), (5, vi l5), (6, vi l6), (7, vi l7), (8, vi l8), (9, vi l9), (10, vi l10), (11, vi l11), (12, vi l12), (13, vi l13)] [] m) : ∀ (l1 : Int) (l2 : Int) (l3 : Int) (l4 : Int) (l5 : Int) (l7 : Int) (l8 : Int) (l9 : Int) (l10 : Int) (l11 : Int) (l13 : Int) (l14 : Int) (l15 : Int) (l16 : Int) (s0 : Int) (m : Mem2), inR l1 → inR l2 → inR l3 → inR l4 → inR l5 → inR l7 → inR l8 → inR l9 → inR l10 → inR l11 → inR l13 → inR l14 → inR l15 → inR l16 → inR s0 → f_L_isWell_L308 k104 k220 l1 l2 l3 l4 l5 l7 l8 l9 l10 l11 l13 l14 l15 l16 s0 m = some r → V2 RL cL_isWell 17 rm_L_isWell mmG0 (mm2Pz r) 308 [(0, .ref 0), (1, vi l1), (2, vi l2), (3, vi l3), (4, vi l4), (5, vi l5), (7, vi l7), (8, vi l8), (9, vi l9), (10, vi l10), (11, vi l11), (13, vi l13), (14, vi l14), (15, vi l15), (16, vi l16)] [vi s0] m := by
  intro l1 l2 l3 l4 l5 l7 l8 l9 l10 l11 l13 l14 l15 l16 s0 m hr1 hr2 hr3 hr4 hr5 hr7 hr8 hr9 hr10 hr11 hr13 hr14 hr15 hr16 hrs0 E
  unfold f_L_isWell_L308 at E
  refine X_iconst dL_isWell_308 rfl ?_
  exact ok_L_isWell_L309 hk104 hk220 _ _ _ _ _ _ _ _ _ _ _ _ _ _ _ _ _ hr1 hr2 hr3 hr4 hr5 hr7 hr8 hr9 hr10 hr11 hr13 hr14 hr15 hr16 ir_0 hrs0 E
noncomputable def f_L_isWell_L284 (k104 : Int → Int → Int → Int → Int → Int → Int → Mem2 → Option (Int × Mem2)) (k220 : Int → Int → Int → Int → Int → Int → Int → Int → Int → Int → Int → Int → Int → Mem2 → Option (Int × Mem2)) (l1 : Int) (l2 : Int) (l3 : Int) (l4 : Int) (l5 : Int) (l7 : Int) (l8 : Int) (l9 : Int) (l10 : Int) (l12 : Int) (l13 : Int) (l14 : Int) (l15 : Int) (l16 : Int) (s0 : Int) (m : Mem2) : Option (Int × Mem2) :=
  if l16 = 0 then
(f_L_isWell_L308 k104 k220 l1 l2 l3 l4 l5 l7 l8 l9 l10 s0 l13 l14 l15 l16 l12 m)
else
((mmO (f_X3_entry l14 2) m).bind (fun q125 => if q125.1 = 1 then
(f_L_isWell_L309 k104 k220 l1 l2 l3 l4 l5 l7 l8 l9 l10 s0 l13 l14 l15 l16 1 l12 q125.2)
else
(f_L_isWell_L308 k104 k220 l1 l2 l3 l4 l5 l7 l8 l9 l10 s0 l13 l14 l15 l16 l12 q125.2)))
set_option maxRecDepth 100000 in
set_option maxHeartbeats 4000000 in
theorem ok_L_isWell_L284 {k104 : Int → Int → Int → Int → Int → Int → Int → Mem2 → Option (Int × Mem2)} {k220 : Int → Int → Int → Int → Int → Int → Int → Int → Int → Int → Int → Int → Int → Mem2 → Option (Int × Mem2)} {r : Int × Mem2} (hk104 : ∀ (l1 : Int) (l2 : Int) (l3 : Int) (l4 : Int) (l5 : Int) (l6 : Int) (l7 : Int) (m : Mem2), inR l1 → inR l2 → inR l3 → inR l4 → inR l5 → inR l6 → inR l7 → k104 l1 l2 l3 l4 l5 l6 l7 m = some r → V2 RL cL_isWell 17 rm_L_isWell mmG0 (mm2Pz r) 104 [(0, .ref 0), (1, vi l1), (2, vi l2), (3, vi l3), (4, vi l4), (5, vi l5), (6, vi l6), (7, vi l7)] [] m) (hk220 : ∀ (l1 : Int) (l2 : Int) (l3 : Int) (l4 : Int) (l5 : Int) (l6 : Int) (l7 : Int) (l8 : Int) (l9 : Int) (l10 : Int) (l11 : Int) (l12 : Int) (l13 : Int) (m : Mem2), inR l1 → inR l2 → inR l3 → inR l4 → inR l5 → inR l6 → inR l7 → inR l8 → inR l9 → inR l10 → inR l11 → inR l12 → inR l13 → k220 l1 l2 l3 l4 l5 l6 l7 l8 l9 l10 l11 l12 l13 m = some r → V2 RL cL_isWell 17 rm_L_isWell mmG0 (mm2Pz r) 220 [(0, .ref 0), (1, vi l1), (2, vi l2), (3, vi l3), (4, vi l4), (5, vi l5), (6, vi l6), (7, vi l7), (8, vi l8), (9, vi l9), (10, vi l10), (11, vi l11), (12, vi l12), (13, vi l13)] [] m) : ∀ (l1 : Int) (l2 : Int) (l3 : Int) (l4 : Int) (l5 : Int) (l7 : Int) (l8 : Int) (l9 : Int) (l10 : Int) (l12 : Int) (l13 : Int) (l14 : Int) (l15 : Int) (l16 : Int) (s0 : Int) (m : Mem2), inR l1 → inR l2 → inR l3 → inR l4 → inR l5 → inR l7 → inR l8 → inR l9 → inR l10 → inR l12 → inR l13 → inR l14 → inR l15 → inR l16 → inR s0 → f_L_isWell_L284 k104 k220 l1 l2 l3 l4 l5 l7 l8 l9 l10 l12 l13 l14 l15 l16 s0 m = some r → V2 RL cL_isWell 17 rm_L_isWell mmG0 (mm2Pz r) 284 [(0, .ref 0), (1, vi l1), (2, vi l2), (3, vi l3), (4, vi l4), (5, vi l5), (7, vi l7), (8, vi l8), (9, vi l9), (10, vi l10), (12, vi l12), (13, vi l13), (14, vi l14), (15, vi l15), (16, vi l16)] [vi s0] m := by
  intro l1 l2 l3 l4 l5 l7 l8 l9 l10 l12 l13 l14 l15 l16 s0 m hr1 hr2 hr3 hr4 hr5 hr7 hr8 hr9 hr10 hr12 hr13 hr14 hr15 hr16 hrs0 E
  unfold f_L_isWell_L284 at E
  refine X_istore (lv' := [(0, .ref 0), (1, vi l1), (2, vi l2), (3, vi l3), (4, vi l4), (5, vi l5), (7, vi l7), (8, vi l8), (9, vi l9), (10, vi l10), (11, vi s0), (12, vi l12), (13, vi l13), (14, vi l14), (15, vi l15), (16, vi l16)]) dL_isWell_284 rfl rfl ?_
  refine X_iload 11 dL_isWell_286 rfl ?_
  refine X_iload 15 dL_isWell_288 rfl ?_
  refine X_if_eq 308 dL_isWell_290 (by decide) hr16 (fun c93 => ?_) (fun c93 => ?_)
  · replace E := mmI_t c93 E
    refine X_sub [0, 1, 2, 3, 4, 5, 6, 7, 8, 9, 10, 12, 13, 14, 15] rfl ?_
    exact ok_L_isWell_L308 hk104 hk220 _ _ _ _ _ _ _ _ _ _ _ _ _ _ _ _ hr1 hr2 hr3 hr4 hr5 hr7 hr8 hr9 hr10 hrs0 hr13 hr14 hr15 hr16 hr12 E
  · replace E := mmI_f c93 E
    refine X_aload_n 0 dL_isWell_293 rfl ?_
    refine X_iload 13 dL_isWell_294 rfl ?_
    refine X_iconst dL_isWell_296 rfl ?_
    obtain ⟨q125, hq125, E⟩ := mmB_e E
    refine X_callO (zs := [l14, 2]) (st := [vi l12]) 2 dL_isWell_297 hq125 (fun r hr => ct_X3_entry hr14 ir_2 hr) ml_XL_25 im_X3_entry sl_X3_entry it_X3 cd_X3_entry hy_X3_entry ⟨rfl, rfl, by decide, by decide⟩ rfl rfl (Nat.le_of_ble_eq_true rfl) (fun hv126 => ?_)
    refine X_iconst dL_isWell_300 rfl ?_
    refine X_icmp_ne 308 dL_isWell_301 (by decide) hv126 ir_1 (fun c127 => ?_) (fun c127 => ?_)
    · replace E := mmI_f c127 E
      refine X_sub [0, 1, 2, 3, 4, 5, 6, 7, 8, 9, 10, 12, 13, 14, 15] rfl ?_
      exact ok_L_isWell_L308 hk104 hk220 _ _ _ _ _ _ _ _ _ _ _ _ _ _ _ _ hr1 hr2 hr3 hr4 hr5 hr7 hr8 hr9 hr10 hrs0 hr13 hr14 hr15 hr16 hr12 E
    · replace E := mmI_t c127 E
      refine X_iconst dL_isWell_304 rfl ?_
      refine X_goto 309 dL_isWell_305 (by decide) ?_
      refine X_sub [0, 1, 2, 3, 4, 5, 6, 7, 8, 9, 10, 12, 13, 14, 15] rfl ?_
      exact ok_L_isWell_L309 hk104 hk220 _ _ _ _ _ _ _ _ _ _ _ _ _ _ _ _ _ hr1 hr2 hr3 hr4 hr5 hr7 hr8 hr9 hr10 hrs0 hr13 hr14 hr15 hr16 ir_1 hr12 E
noncomputable def f_L_isWell_L283 (k104 : Int → Int → Int → Int → Int → Int → Int → Mem2 → Option (Int × Mem2)) (k220 : Int → Int → Int → Int → Int → Int → Int → Int → Int → Int → Int → Int → Int → Mem2 → Option (Int × Mem2)) (l1 : Int) (l2 : Int) (l3 : Int) (l4 : Int) (l5 : Int) (l7 : Int) (l8 : Int) (l9 : Int) (l10 : Int) (l12 : Int) (l13 : Int) (l14 : Int) (l15 : Int) (l16 : Int) (m : Mem2) : Option (Int × Mem2) :=
  f_L_isWell_L284 k104 k220 l1 l2 l3 l4 l5 l7 l8 l9 l10 l12 l13 l14 l15 l16 0 m
set_option maxRecDepth 100000 in
set_option maxHeartbeats 4000000 in
theorem ok_L_isWell_L283 {k104 : Int → Int → Int → Int → Int → Int → Int → Mem2 → Option (Int × Mem2)} {k220 : Int → Int → Int → Int → Int → Int → Int → Int → Int → Int → Int → Int → Int → Mem2 → Option (Int × Mem2)} {r : Int × Mem2} (hk104 : ∀ (l1 : Int) (l2 : Int) (l3 : Int) (l4 : Int) (l5 : Int) (l6 : Int) (l7 : Int) (m : Mem2), inR l1 → inR l2 → inR l3 → inR l4 → inR l5 → inR l6 → inR l7 → k104 l1 l2 l3 l4 l5 l6 l7 m = some r → V2 RL cL_isWell 17 rm_L_isWell mmG0 (mm2Pz r) 104 [(0, .ref 0), (1, vi l1), (2, vi l2), (3, vi l3), (4, vi l4), (5, vi l5), (6, vi l6), (7, vi l7)] [] m) (hk220 : ∀ (l1 : Int) (l2 : Int) (l3 : Int) (l4 : Int) (l5 : Int) (l6 : Int) (l7 : Int) (l8 : Int) (l9 : Int) (l10 : Int) (l11 : Int) (l12 : Int) (l13 : Int) (m : Mem2), inR l1 → inR l2 → inR l3 → inR l4 → inR l5 → inR l6 → inR l7 → inR l8 → inR l9 → inR l10 → inR l11 → inR l12 → inR l13 → k220 l1 l2 l3 l4 l5 l6 l7 l8 l9 l10 l11 l12 l13 m = some r → V2 RL cL_isWell 17 rm_L_isWell mmG0 (mm2Pz r) 220 [(0, .ref 0), (1, vi l1), (2, vi l2), (3, vi l3), (4, vi l4), (5, vi l5), (6, vi l6), (7, vi l7), (8, vi l8), (9, vi l9), (10, vi l10), (11, vi l11), (12, vi l12), (13, vi l13)] [] m) : ∀ (l1 : Int) (l2 : Int) (l3 : Int) (l4 : Int) (l5 : Int) (l7 : Int) (l8 : Int) (l9 : Int) (l10 : Int) (l12 : Int) (l13 : Int) (l14 : Int) (l15 : Int) (l16 : Int) (m : Mem2), inR l1 → inR l2 → inR l3 → inR l4 → inR l5 → inR l7 → inR l8 → inR l9 → inR l10 → inR l12 → inR l13 → inR l14 → inR l15 → inR l16 → f_L_isWell_L283 k104 k220 l1 l2 l3 l4 l5 l7 l8 l9 l10 l12 l13 l14 l15 l16 m = some r → V2 RL cL_isWell 17 rm_L_isWell mmG0 (mm2Pz r) 283 [(0, .ref 0), (1, vi l1), (2, vi l2), (3, vi l3), (4, vi l4), (5, vi l5), (7, vi l7), (8, vi l8), (9, vi l9), (10, vi l10), (12, vi l12), (13, vi l13), (14, vi l14), (15, vi l15), (16, vi l16)] [] m := by
  intro l1 l2 l3 l4 l5 l7 l8 l9 l10 l12 l13 l14 l15 l16 m hr1 hr2 hr3 hr4 hr5 hr7 hr8 hr9 hr10 hr12 hr13 hr14 hr15 hr16 E
  unfold f_L_isWell_L283 at E
  refine X_iconst dL_isWell_283 rfl ?_
  exact ok_L_isWell_L284 hk104 hk220 _ _ _ _ _ _ _ _ _ _ _ _ _ _ _ _ hr1 hr2 hr3 hr4 hr5 hr7 hr8 hr9 hr10 hr12 hr13 hr14 hr15 hr16 ir_0 E
noncomputable def f_L_isWell_L279 (k104 : Int → Int → Int → Int → Int → Int → Int → Mem2 → Option (Int × Mem2)) (k220 : Int → Int → Int → Int → Int → Int → Int → Int → Int → Int → Int → Int → Int → Mem2 → Option (Int × Mem2)) (l1 : Int) (l2 : Int) (l3 : Int) (l4 : Int) (l5 : Int) (l7 : Int) (l8 : Int) (l9 : Int) (l10 : Int) (l12 : Int) (l13 : Int) (l14 : Int) (l15 : Int) (l16 : Int) (m : Mem2) : Option (Int × Mem2) :=
  f_L_isWell_L284 k104 k220 l1 l2 l3 l4 l5 l7 l8 l9 l10 l12 l13 l14 l15 l16 1 m
set_option maxRecDepth 100000 in
set_option maxHeartbeats 4000000 in
theorem ok_L_isWell_L279 {k104 : Int → Int → Int → Int → Int → Int → Int → Mem2 → Option (Int × Mem2)} {k220 : Int → Int → Int → Int → Int → Int → Int → Int → Int → Int → Int → Int → Int → Mem2 → Option (Int × Mem2)} {r : Int × Mem2} (hk104 : ∀ (l1 : Int) (l2 : Int) (l3 : Int) (l4 : Int) (l5 : Int) (l6 : Int) (l7 : Int) (m : Mem2), inR l1 → inR l2 → inR l3 → inR l4 → inR l5 → inR l6 → inR l7 → k104 l1 l2 l3 l4 l5 l6 l7 m = some r → V2 RL cL_isWell 17 rm_L_isWell mmG0 (mm2Pz r) 104 [(0, .ref 0), (1, vi l1), (2, vi l2), (3, vi l3), (4, vi l4), (5, vi l5), (6, vi l6), (7, vi l7)] [] m) (hk220 : ∀ (l1 : Int) (l2 : Int) (l3 : Int) (l4 : Int) (l5 : Int) (l6 : Int) (l7 : Int) (l8 : Int) (l9 : Int) (l10 : Int) (l11 : Int) (l12 : Int) (l13 : Int) (m : Mem2), inR l1 → inR l2 → inR l3 → inR l4 → inR l5 → inR l6 → inR l7 → inR l8 → inR l9 → inR l10 → inR l11 → inR l12 → inR l13 → k220 l1 l2 l3 l4 l5 l6 l7 l8 l9 l10 l11 l12 l13 m = some r → V2 RL cL_isWell 17 rm_L_isWell mmG0 (mm2Pz r) 220 [(0, .ref 0), (1, vi l1), (2, vi l2), (3, vi l3), (4, vi l4), (5, vi l5), (6, vi l6), (7, vi l7), (8, vi l8), (9, vi l9), (10, vi l10), (11, vi l11), (12, vi l12), (13, vi l13)] [] m) : ∀ (l1 : Int) (l2 : Int) (l3 : Int) (l4 : Int) (l5 : Int) (l7 : Int) (l8 : Int) (l9 : Int) (l10 : Int) (l12 : Int) (l13 : Int) (l14 : Int) (l15 : Int) (l16 : Int) (m : Mem2), inR l1 → inR l2 → inR l3 → inR l4 → inR l5 → inR l7 → inR l8 → inR l9 → inR l10 → inR l12 → inR l13 → inR l14 → inR l15 → inR l16 → f_L_isWell_L279 k104 k220 l1 l2 l3 l4 l5 l7 l8 l9 l10 l12 l13 l14 l15 l16 m = some r → V2 RL cL_isWell 17 rm_L_isWell mmG0 (mm2Pz r) 279 [(0, .ref 0), (1, vi l1), (2, vi l2), (3, vi l3), (4, vi l4), (5, vi l5), (7, vi l7), (8, vi l8), (9, vi l9), (10, vi l10), (12, vi l12), (13, vi l13), (14, vi l14), (15, vi l15), (16, vi l16)] [] m := by
  intro l1 l2 l3 l4 l5 l7 l8 l9 l10 l12 l13 l14 l15 l16 m hr1 hr2 hr3 hr4 hr5 hr7 hr8 hr9 hr10 hr12 hr13 hr14 hr15 hr16 E
  unfold f_L_isWell_L279 at E
  refine X_iconst dL_isWell_279 rfl ?_
  refine X_goto 284 dL_isWell_280 (by decide) ?_
  exact ok_L_isWell_L284 hk104 hk220 _ _ _ _ _ _ _ _ _ _ _ _ _ _ _ _ hr1 hr2 hr3 hr4 hr5 hr7 hr8 hr9 hr10 hr12 hr13 hr14 hr15 hr16 ir_1 E
noncomputable def f_L_isWell_L260 (k104 : Int → Int → Int → Int → Int → Int → Int → Mem2 → Option (Int × Mem2)) (k220 : Int → Int → Int → Int → Int → Int → Int → Int → Int → Int → Int → Int → Int → Mem2 → Option (Int × Mem2)) (l1 : Int) (l2 : Int) (l3 : Int) (l4 : Int) (l5 : Int) (l7 : Int) (l8 : Int) (l9 : Int) (l10 : Int) (l11 : Int) (l12 : Int) (l13 : Int) (l14 : Int) (l15 : Int) (s0 : Int) (m : Mem2) : Option (Int × Mem2) :=
  if l11 = 0 then
(f_L_isWell_L283 k104 k220 l1 l2 l3 l4 l5 l7 l8 l9 l10 l12 l13 l14 l15 s0 m)
else
(if s0 = 0 then
(f_L_isWell_L279 k104 k220 l1 l2 l3 l4 l5 l7 l8 l9 l10 l12 l13 l14 l15 s0 m)
else
(if l13 < l7 then
(f_L_isWell_L283 k104 k220 l1 l2 l3 l4 l5 l7 l8 l9 l10 l12 l13 l14 l15 s0 m)
else
(f_L_isWell_L279 k104 k220 l1 l2 l3 l4 l5 l7 l8 l9 l10 l12 l13 l14 l15 s0 m)))
set_option maxRecDepth 100000 in
set_option maxHeartbeats 4000000 in
theorem ok_L_isWell_L260 {k104 : Int → Int → Int → Int → Int → Int → Int → Mem2 → Option (Int × Mem2)} {k220 : Int → Int → Int → Int → Int → Int → Int → Int → Int → Int → Int → Int → Int → Mem2 → Option (Int × Mem2)} {r : Int × Mem2} (hk104 : ∀ (l1 : Int) (l2 : Int) (l3 : Int) (l4 : Int) (l5 : Int) (l6 : Int) (l7 : Int) (m : Mem2), inR l1 → inR l2 → inR l3 → inR l4 → inR l5 → inR l6 → inR l7 → k104 l1 l2 l3 l4 l5 l6 l7 m = some r → V2 RL cL_isWell 17 rm_L_isWell mmG0 (mm2Pz r) 104 [(0, .ref 0), (1, vi l1), (2, vi l2), (3, vi l3), (4, vi l4), (5, vi l5), (6, vi l6), (7, vi l7)] [] m) (hk220 : ∀ (l1 : Int) (l2 : Int) (l3 : Int) (l4 : Int) (l5 : Int) (l6 : Int) (l7 : Int) (l8 : Int) (l9 : Int) (l10 : Int) (l11 : Int) (l12 : Int) (l13 : Int) (m : Mem2), inR l1 → inR l2 → inR l3 → inR l4 → inR l5 → inR l6 → inR l7 → inR l8 → inR l9 → inR l10 → inR l11 → inR l12 → inR l13 → k220 l1 l2 l3 l4 l5 l6 l7 l8 l9 l10 l11 l12 l13 m = some r → V2 RL cL_isWell 17 rm_L_isWell mmG0 (mm2Pz r) 220 [(0, .ref 0), (1, vi l1), (2, vi l2), (3, vi l3), (4, vi l4), (5, vi l5), (6, vi l6), (7, vi l7), (8, vi l8), (9, vi l9), (10, vi l10), (11, vi l11), (12, vi l12), (13, vi l13)] [] m) : ∀ (l1 : Int) (l2 : Int) (l3 : Int) (l4 : Int) (l5 : Int) (l7 : Int) (l8 : Int) (l9 : Int) (l10 : Int) (l11 : Int) (l12 : Int) (l13 : Int) (l14 : Int) (l15 : Int) (s0 : Int) (m : Mem2), inR l1 → inR l2 → inR l3 → inR l4 → inR l5 → inR l7 → inR l8 → inR l9 → inR l10 → inR l11 → inR l12 → inR l13 → inR l14 → inR l15 → inR s0 → f_L_isWell_L260 k104 k220 l1 l2 l3 l4 l5 l7 l8 l9 l10 l11 l12 l13 l14 l15 s0 m = some r → V2 RL cL_isWell 17 rm_L_isWell mmG0 (mm2Pz r) 260 [(0, .ref 0), (1, vi l1), (2, vi l2), (3, vi l3), (4, vi l4), (5, vi l5), (7, vi l7), (8, vi l8), (9, vi l9), (10, vi l10), (11, vi l11), (12, vi l12), (13, vi l13), (14, vi l14), (15, vi l15)] [vi s0] m := by
  intro l1 l2 l3 l4 l5 l7 l8 l9 l10 l11 l12 l13 l14 l15 s0 m hr1 hr2 hr3 hr4 hr5 hr7 hr8 hr9 hr10 hr11 hr12 hr13 hr14 hr15 hrs0 E
  unfold f_L_isWell_L260 at E
  refine X_istore (lv' := [(0, .ref 0), (1, vi l1), (2, vi l2), (3, vi l3), (4, vi l4), (5, vi l5), (7, vi l7), (8, vi l8), (9, vi l9), (10, vi l10), (11, vi l11), (12, vi l12), (13, vi l13), (14, vi l14), (15, vi l15), (16, vi s0)]) dL_isWell_260 rfl rfl ?_
  refine X_iload 10 dL_isWell_262 rfl ?_
  refine X_if_eq 283 dL_isWell_264 (by decide) hr11 (fun c92 => ?_) (fun c92 => ?_)
  · replace E := mmI_t c92 E
    refine X_sub [0, 1, 2, 3, 4, 5, 6, 7, 8, 9, 11, 12, 13, 14, 15] rfl ?_
    exact ok_L_isWell_L283 hk104 hk220 _ _ _ _ _ _ _ _ _ _ _ _ _ _ _ hr1 hr2 hr3 hr4 hr5 hr7 hr8 hr9 hr10 hr12 hr13 hr14 hr15 hrs0 E
  · replace E := mmI_f c92 E
    refine X_iload 15 dL_isWell_267 rfl ?_
    refine X_if_eq 279 dL_isWell_269 (by decide) hrs0 (fun c128 => ?_) (fun c128 => ?_)
    · replace E := mmI_t c128 E
      refine X_sub [0, 1, 2, 3, 4, 5, 6, 7, 8, 9, 11, 12, 13, 14, 15] rfl ?_
      exact ok_L_isWell_L279 hk104 hk220 _ _ _ _ _ _ _ _ _ _ _ _ _ _ _ hr1 hr2 hr3 hr4 hr5 hr7 hr8 hr9 hr10 hr12 hr13 hr14 hr15 hrs0 E
    · replace E := mmI_f c128 E
      refine X_iload 12 dL_isWell_272 rfl ?_
      refine X_iload 6 dL_isWell_274 rfl ?_
      refine X_icmp_lt 283 dL_isWell_276 (by decide) hr13 hr7 (fun c129 => ?_) (fun c129 => ?_)
      · replace E := mmI_t c129 E
        refine X_sub [0, 1, 2, 3, 4, 5, 6, 7, 8, 9, 11, 12, 13, 14, 15] rfl ?_
        exact ok_L_isWell_L283 hk104 hk220 _ _ _ _ _ _ _ _ _ _ _ _ _ _ _ hr1 hr2 hr3 hr4 hr5 hr7 hr8 hr9 hr10 hr12 hr13 hr14 hr15 hrs0 E
      · replace E := mmI_f c129 E
        refine X_sub [0, 1, 2, 3, 4, 5, 6, 7, 8, 9, 11, 12, 13, 14, 15] rfl ?_
        exact ok_L_isWell_L279 hk104 hk220 _ _ _ _ _ _ _ _ _ _ _ _ _ _ _ hr1 hr2 hr3 hr4 hr5 hr7 hr8 hr9 hr10 hr12 hr13 hr14 hr15 hrs0 E
noncomputable def f_L_isWell_L220 (k104 : Int → Int → Int → Int → Int → Int → Int → Mem2 → Option (Int × Mem2)) : Nat → Int → Int → Int → Int → Int → Int → Int → Int → Int → Int → Int → Int → Int → Mem2 → Option (Int × Mem2)
  | 0, _, _, _, _, _, _, _, _, _, _, _, _, _, _ => none
  | n + 1, l1, l2, l3, l4, l5, l6, l7, l8, l9, l10, l11, l12, l13, m =>
    if l1 ≤ l13 then
(f_L_isWell_L417 k104 l1 l2 l3 l4 l5 l6 l7 l8 l9 l10 l11 l12 m)
else
(if l6 = 0 then
(f_L_isWell_L417 k104 l1 l2 l3 l4 l5 l6 l7 l8 l9 l10 l11 l12 m)
else
((mmO (f_X3_named l13) m).bind (fun q87 => (mmO (f_X3_entry q87.1 3) q87.2).bind (fun q89 => if q89.1 = l9 then
(f_L_isWell_L260 k104 (f_L_isWell_L220 k104 n) l1 l2 l3 l4 l5 l7 l8 l9 l10 l11 l12 l13 q87.1 q89.1 1 q89.2)
else
(f_L_isWell_L260 k104 (f_L_isWell_L220 k104 n) l1 l2 l3 l4 l5 l7 l8 l9 l10 l11 l12 l13 q87.1 q89.1 0 q89.2)))))
set_option maxRecDepth 100000 in
set_option maxHeartbeats 4000000 in
theorem ok_L_isWell_L220 {k104 : Int → Int → Int → Int → Int → Int → Int → Mem2 → Option (Int × Mem2)} {r : Int × Mem2} (hk104 : ∀ (l1 : Int) (l2 : Int) (l3 : Int) (l4 : Int) (l5 : Int) (l6 : Int) (l7 : Int) (m : Mem2), inR l1 → inR l2 → inR l3 → inR l4 → inR l5 → inR l6 → inR l7 → k104 l1 l2 l3 l4 l5 l6 l7 m = some r → V2 RL cL_isWell 17 rm_L_isWell mmG0 (mm2Pz r) 104 [(0, .ref 0), (1, vi l1), (2, vi l2), (3, vi l3), (4, vi l4), (5, vi l5), (6, vi l6), (7, vi l7)] [] m) : ∀ (n : Nat), ∀ (l1 : Int) (l2 : Int) (l3 : Int) (l4 : Int) (l5 : Int) (l6 : Int) (l7 : Int) (l8 : Int) (l9 : Int) (l10 : Int) (l11 : Int) (l12 : Int) (l13 : Int) (m : Mem2), inR l1 → inR l2 → inR l3 → inR l4 → inR l5 → inR l6 → inR l7 → inR l8 → inR l9 → inR l10 → inR l11 → inR l12 → inR l13 → f_L_isWell_L220 k104 n l1 l2 l3 l4 l5 l6 l7 l8 l9 l10 l11 l12 l13 m = some r → V2 RL cL_isWell 17 rm_L_isWell mmG0 (mm2Pz r) 220 [(0, .ref 0), (1, vi l1), (2, vi l2), (3, vi l3), (4, vi l4), (5, vi l5), (6, vi l6), (7, vi l7), (8, vi l8), (9, vi l9), (10, vi l10), (11, vi l11), (12, vi l12), (13, vi l13)] [] m := by
  intro n
  induction n with
  | zero =>
    intro l1 l2 l3 l4 l5 l6 l7 l8 l9 l10 l11 l12 l13 m hr1 hr2 hr3 hr4 hr5 hr6 hr7 hr8 hr9 hr10 hr11 hr12 hr13 E
    cases E
  | succ n ih =>
    intro l1 l2 l3 l4 l5 l6 l7 l8 l9 l10 l11 l12 l13 m hr1 hr2 hr3 hr4 hr5 hr6 hr7 hr8 hr9 hr10 hr11 hr12 hr13 E
    rw [f_L_isWell_L220] at E
    refine X_iload 13 dL_isWell_220 rfl ?_
    refine X_iload_n 1 dL_isWell_222 rfl ?_
    refine X_icmp_ge 417 dL_isWell_223 (by decide) hr13 hr1 (fun c35 => ?_) (fun c35 => ?_)
    · replace E := mmI_t c35 E
      refine X_sub [0, 1, 2, 3, 4, 5, 6, 7, 8, 9, 10, 11, 12] rfl ?_
      exact ok_L_isWell_L417 hk104 _ _ _ _ _ _ _ _ _ _ _ _ _ hr1 hr2 hr3 hr4 hr5 hr6 hr7 hr8 hr9 hr10 hr11 hr12 E
    · replace E := mmI_f c35 E
      refine X_iload 6 dL_isWell_226 rfl ?_
      refine X_if_eq 417 dL_isWell_228 (by decide) hr6 (fun c86 => ?_) (fun c86 => ?_)
      · replace E := mmI_t c86 E
        refine X_sub [0, 1, 2, 3, 4, 5, 6, 7, 8, 9, 10, 11, 12] rfl ?_
        exact ok_L_isWell_L417 hk104 _ _ _ _ _ _ _ _ _ _ _ _ _ hr1 hr2 hr3 hr4 hr5 hr6 hr7 hr8 hr9 hr10 hr11 hr12 E
      · replace E := mmI_f c86 E
        refine X_aload_n 0 dL_isWell_231 rfl ?_
        refine X_iload 13 dL_isWell_232 rfl ?_
        obtain ⟨q87, hq87, E⟩ := mmB_e E
        refine X_callO (zs := [l13]) (st := []) 1 dL_isWell_234 hq87 (fun r hr => ct_X3_named hr13 hr) ml_XL_73 im_X3_named sl_X3_named it_X3 cd_X3_named hy_X3_named ⟨rfl, rfl, by decide, by decide⟩ rfl rfl (Nat.le_of_ble_eq_true rfl) (fun hv88 => ?_)
        refine X_istore (lv' := [(0, .ref 0), (1, vi l1), (2, vi l2), (3, vi l3), (4, vi l4), (5, vi l5), (6, vi l6), (7, vi l7), (8, vi l8), (9, vi l9), (10, vi l10), (11, vi l11), (12, vi l12), (13, vi l13), (14, vi q87.1)]) dL_isWell_237 rfl rfl ?_
        refine X_aload_n 0 dL_isWell_239 rfl ?_
        refine X_iload 14 dL_isWell_240 rfl ?_
        refine X_iconst dL_isWell_242 rfl ?_
        obtain ⟨q89, hq89, E⟩ := mmB_e E
        refine X_callO (zs := [q87.1, 3]) (st := []) 2 dL_isWell_243 hq89 (fun r hr => ct_X3_entry hv88 ir_3 hr) ml_XL_25 im_X3_entry sl_X3_entry it_X3 cd_X3_entry hy_X3_entry ⟨rfl, rfl, by decide, by decide⟩ rfl rfl (Nat.le_of_ble_eq_true rfl) (fun hv90 => ?_)
        refine X_istore (lv' := [(0, .ref 0), (1, vi l1), (2, vi l2), (3, vi l3), (4, vi l4), (5, vi l5), (6, vi l6), (7, vi l7), (8, vi l8), (9, vi l9), (10, vi l10), (11, vi l11), (12, vi l12), (13, vi l13), (14, vi q87.1), (15, vi q89.1)]) dL_isWell_246 rfl rfl ?_
        refine X_iload 15 dL_isWell_248 rfl ?_
        refine X_iload 9 dL_isWell_250 rfl ?_
        refine X_icmp_ne 259 dL_isWell_252 (by decide) hv90 hr9 (fun c91 => ?_) (fun c91 => ?_)
        · replace E := mmI_f c91 E
          refine X_iconst dL_isWell_259 rfl ?_
          refine X_sub [0, 1, 2, 3, 4, 5, 7, 8, 9, 10, 11, 12, 13, 14, 15] rfl ?_
          exact ok_L_isWell_L260 hk104 ih _ _ _ _ _ _ _ _ _ _ _ _ _ _ _ _ hr1 hr2 hr3 hr4 hr5 hr7 hr8 hr9 hr10 hr11 hr12 hr13 hv88 hv90 ir_0 E
        · replace E := mmI_t c91 E
          refine X_iconst dL_isWell_255 rfl ?_
          refine X_goto 260 dL_isWell_256 (by decide) ?_
          refine X_sub [0, 1, 2, 3, 4, 5, 7, 8, 9, 10, 11, 12, 13, 14, 15] rfl ?_
          exact ok_L_isWell_L260 hk104 ih _ _ _ _ _ _ _ _ _ _ _ _ _ _ _ _ hr1 hr2 hr3 hr4 hr5 hr7 hr8 hr9 hr10 hr11 hr12 hr13 hv88 hv90 ir_1 E
noncomputable def f_L_isWell_L191 (k104 : Int → Int → Int → Int → Int → Int → Int → Mem2 → Option (Int × Mem2)) (l1 : Int) (l2 : Int) (l3 : Int) (l4 : Int) (l5 : Int) (l7 : Int) (l8 : Int) (l9 : Int) (l10 : Int) (l11 : Int) (l12 : Int) (m : Mem2) : Option (Int × Mem2) :=
  if l9 < 0 then
(f_L_isWell_L220 k104 mmFU l1 l2 l3 l4 l5 0 l7 l8 l9 l10 l11 l12 0 m)
else
(mmK (inR (l9 + l10)) ((mmO (f_X3_count 6) m).bind (fun q138 => if q138.1 < (l9 + l10) then
(f_L_isWell_L220 k104 mmFU l1 l2 l3 l4 l5 0 l7 l8 l9 l10 l11 l12 0 q138.2)
else
(f_L_isWell_L220 k104 mmFU l1 l2 l3 l4 l5 1 l7 l8 l9 l10 l11 l12 0 q138.2))))
set_option maxRecDepth 100000 in
set_option maxHeartbeats 4000000 in
theorem ok_L_isWell_L191 {k104 : Int → Int → Int → Int → Int → Int → Int → Mem2 → Option (Int × Mem2)} {r : Int × Mem2} (hk104 : ∀ (l1 : Int) (l2 : Int) (l3 : Int) (l4 : Int) (l5 : Int) (l6 : Int) (l7 : Int) (m : Mem2), inR l1 → inR l2 → inR l3 → inR l4 → inR l5 → inR l6 → inR l7 → k104 l1 l2 l3 l4 l5 l6 l7 m = some r → V2 RL cL_isWell 17 rm_L_isWell mmG0 (mm2Pz r) 104 [(0, .ref 0), (1, vi l1), (2, vi l2), (3, vi l3), (4, vi l4), (5, vi l5), (6, vi l6), (7, vi l7)] [] m) : ∀ (l1 : Int) (l2 : Int) (l3 : Int) (l4 : Int) (l5 : Int) (l7 : Int) (l8 : Int) (l9 : Int) (l10 : Int) (l11 : Int) (l12 : Int) (m : Mem2), inR l1 → inR l2 → inR l3 → inR l4 → inR l5 → inR l7 → inR l8 → inR l9 → inR l10 → inR l11 → inR l12 → f_L_isWell_L191 k104 l1 l2 l3 l4 l5 l7 l8 l9 l10 l11 l12 m = some r → V2 RL cL_isWell 17 rm_L_isWell mmG0 (mm2Pz r) 191 [(0, .ref 0), (1, vi l1), (2, vi l2), (3, vi l3), (4, vi l4), (5, vi l5), (7, vi l7), (8, vi l8), (9, vi l9), (10, vi l10), (11, vi l11), (12, vi l12)] [] m := by
  intro l1 l2 l3 l4 l5 l7 l8 l9 l10 l11 l12 m hr1 hr2 hr3 hr4 hr5 hr7 hr8 hr9 hr10 hr11 hr12 E
  unfold f_L_isWell_L191 at E
  refine X_iload 8 dL_isWell_191 rfl ?_
  refine X_if_lt 214 dL_isWell_193 (by decide) hr9 (fun c136 => ?_) (fun c136 => ?_)
  · replace E := mmI_t c136 E
    refine X_iconst dL_isWell_214 rfl ?_
    refine X_istore (lv' := [(0, .ref 0), (1, vi l1), (2, vi l2), (3, vi l3), (4, vi l4), (5, vi l5), (6, vi 0), (7, vi l7), (8, vi l8), (9, vi l9), (10, vi l10), (11, vi l11), (12, vi l12)]) dL_isWell_215 rfl rfl ?_
    refine X_iconst dL_isWell_217 rfl ?_
    refine X_istore (lv' := [(0, .ref 0), (1, vi l1), (2, vi l2), (3, vi l3), (4, vi l4), (5, vi l5), (6, vi 0), (7, vi l7), (8, vi l8), (9, vi l9), (10, vi l10), (11, vi l11), (12, vi l12), (13, vi 0)]) dL_isWell_218 rfl rfl ?_
    exact ok_L_isWell_L220 hk104 mmFU _ _ _ _ _ _ _ _ _ _ _ _ _ _ hr1 hr2 hr3 hr4 hr5 ir_0 hr7 hr8 hr9 hr10 hr11 hr12 ir_0 E
  · replace E := mmI_f c136 E
    refine X_iload 8 dL_isWell_196 rfl ?_
    refine X_iload 9 dL_isWell_198 rfl ?_
    obtain ⟨hv137, E⟩ := mmK_e E
    refine X_iadd dL_isWell_200 ?_
    refine X_aload_n 0 dL_isWell_201 rfl ?_
    refine X_bipush (v := 6) dL_isWell_202 (by decide) ?_
    obtain ⟨q138, hq138, E⟩ := mmB_e E
    refine X_callO (zs := [6]) (st := [vi (l9 + l10)]) 1 dL_isWell_204 hq138 (fun r hr => ct_X3_count ir_6 hr) ml_XL_21 im_X3_count sl_X3_count it_X3 cd_X3_count hy_X3_count ⟨rfl, rfl, by decide, by decide⟩ rfl rfl (Nat.le_of_ble_eq_true rfl) (fun hv139 => ?_)
    refine X_icmp_gt 214 dL_isWell_207 (by decide) hv137 hv139 (fun c140 => ?_) (fun c140 => ?_)
    · replace E := mmI_t c140 E
      refine X_iconst dL_isWell_214 rfl ?_
      refine X_istore (lv' := [(0, .ref 0), (1, vi l1), (2, vi l2), (3, vi l3), (4, vi l4), (5, vi l5), (6, vi 0), (7, vi l7), (8, vi l8), (9, vi l9), (10, vi l10), (11, vi l11), (12, vi l12)]) dL_isWell_215 rfl rfl ?_
      refine X_iconst dL_isWell_217 rfl ?_
      refine X_istore (lv' := [(0, .ref 0), (1, vi l1), (2, vi l2), (3, vi l3), (4, vi l4), (5, vi l5), (6, vi 0), (7, vi l7), (8, vi l8), (9, vi l9), (10, vi l10), (11, vi l11), (12, vi l12), (13, vi 0)]) dL_isWell_218 rfl rfl ?_
      exact ok_L_isWell_L220 hk104 mmFU _ _ _ _ _ _ _ _ _ _ _ _ _ _ hr1 hr2 hr3 hr4 hr5 ir_0 hr7 hr8 hr9 hr10 hr11 hr12 ir_0 E
    · replace E := mmI_f c140 E
      refine X_iconst dL_isWell_210 rfl ?_
      refine X_goto 215 dL_isWell_211 (by decide) ?_
      refine X_istore (lv' := [(0, .ref 0), (1, vi l1), (2, vi l2), (3, vi l3), (4, vi l4), (5, vi l5), (6, vi 1), (7, vi l7), (8, vi l8), (9, vi l9), (10, vi l10), (11, vi l11), (12, vi l12)]) dL_isWell_215 rfl rfl ?_
      refine X_iconst dL_isWell_217 rfl ?_
      refine X_istore (lv' := [(0, .ref 0), (1, vi l1), (2, vi l2), (3, vi l3), (4, vi l4), (5, vi l5), (6, vi 1), (7, vi l7), (8, vi l8), (9, vi l9), (10, vi l10), (11, vi l11), (12, vi l12), (13, vi 0)]) dL_isWell_218 rfl rfl ?_
      exact ok_L_isWell_L220 hk104 mmFU _ _ _ _ _ _ _ _ _ _ _ _ _ _ hr1 hr2 hr3 hr4 hr5 ir_1 hr7 hr8 hr9 hr10 hr11 hr12 ir_0 E
noncomputable def f_L_isWell_L104 : Nat → Int → Int → Int → Int → Int → Int → Int → Mem2 → Option (Int × Mem2)
  | 0, _, _, _, _, _, _, _, _ => none
  | n + 1, l1, l2, l3, l4, l5, l6, l7, m =>
    if l1 ≤ l7 then
(f_L_isWell_L598 l1 l2 l3 l4 l5 l6 m)
else
(if l6 = 0 then
(f_L_isWell_L598 l1 l2 l3 l4 l5 l6 m)
else
((mmO (f_X3_named l7) m).bind (fun q26 => (mmO (f_X3_entry q26.1 3) q26.2).bind (fun q28 => (mmO (f_X3_entry q26.1 4) q28.2).bind (fun q30 => (mmO (f_X3_entry q26.1 0) q30.2).bind (fun q32 => if q32.1 = l7 then
((mmO (f_X3_entry q26.1 1) q32.2).bind (fun q130 => mmK (0 ≤ l7 ∧ 0 < (4 : Int)) (mmK (inR (l7 / 4)) (if q130.1 = (l7 / 4) then
(if l7 = 0 then
(f_L_isWell_L191 (f_L_isWell_L104 n) l1 l2 l3 l4 l5 l7 q26.1 q28.1 q30.1 1 0 q130.2)
else
(mmK (inR (l7 - 1)) ((mmO (f_X3_named (l7 - 1)) q130.2).bind (fun q142 => if q26.1 ≤ q142.1 then
(f_L_isWell_L220 (f_L_isWell_L104 n) mmFU l1 l2 l3 l4 l5 0 l7 q26.1 q28.1 q30.1 1 0 0 q142.2)
else
(f_L_isWell_L191 (f_L_isWell_L104 n) l1 l2 l3 l4 l5 l7 q26.1 q28.1 q30.1 1 0 q142.2)))))
else
(f_L_isWell_L220 (f_L_isWell_L104 n) mmFU l1 l2 l3 l4 l5 0 l7 q26.1 q28.1 q30.1 1 0 0 q130.2)))))
else
(f_L_isWell_L220 (f_L_isWell_L104 n) mmFU l1 l2 l3 l4 l5 0 l7 q26.1 q28.1 q30.1 1 0 0 q32.2)))))))
set_option maxRecDepth 100000 in
set_option maxHeartbeats 4000000 in
theorem ok_L_isWell_L104 {r : Int × Mem2} : ∀ (n : Nat), ∀ (l1 : Int) (l2 : Int) (l3 : Int) (l4 : Int) (l5 : Int) (l6 : Int) (l7 : Int) (m : Mem2), inR l1 → inR l2 → inR l3 → inR l4 → inR l5 → inR l6 → inR l7 → f_L_isWell_L104 n l1 l2 l3 l4 l5 l6 l7 m = some r → V2 RL cL_isWell 17 rm_L_isWell mmG0 (mm2Pz r) 104 [(0, .ref 0), (1, vi l1), (2, vi l2), (3, vi l3), (4, vi l4), (5, vi l5), (6, vi l6), (7, vi l7)] [] m := by
  intro n
  induction n with
  | zero =>
    intro l1 l2 l3 l4 l5 l6 l7 m hr1 hr2 hr3 hr4 hr5 hr6 hr7 E
    cases E
  | succ n ih =>
    intro l1 l2 l3 l4 l5 l6 l7 m hr1 hr2 hr3 hr4 hr5 hr6 hr7 E
    rw [f_L_isWell_L104] at E
    refine X_iload 7 dL_isWell_104 rfl ?_
    refine X_iload_n 1 dL_isWell_106 rfl ?_
    refine X_icmp_ge 598 dL_isWell_107 (by decide) hr7 hr1 (fun c7 => ?_) (fun c7 => ?_)
    · replace E := mmI_t c7 E
      refine X_sub [0, 1, 2, 3, 4, 5, 6] rfl ?_
      exact ok_L_isWell_L598 _ _ _ _ _ _ _ hr1 hr2 hr3 hr4 hr5 hr6 E
    · replace E := mmI_f c7 E
      refine X_iload 6 dL_isWell_110 rfl ?_
      refine X_if_eq 598 dL_isWell_112 (by decide) hr6 (fun c25 => ?_) (fun c25 => ?_)
      · replace E := mmI_t c25 E
        refine X_sub [0, 1, 2, 3, 4, 5, 6] rfl ?_
        exact ok_L_isWell_L598 _ _ _ _ _ _ _ hr1 hr2 hr3 hr4 hr5 hr6 E
      · replace E := mmI_f c25 E
        refine X_aload_n 0 dL_isWell_115 rfl ?_
        refine X_iload 7 dL_isWell_116 rfl ?_
        obtain ⟨q26, hq26, E⟩ := mmB_e E
        refine X_callO (zs := [l7]) (st := []) 1 dL_isWell_118 hq26 (fun r hr => ct_X3_named hr7 hr) ml_XL_73 im_X3_named sl_X3_named it_X3 cd_X3_named hy_X3_named ⟨rfl, rfl, by decide, by decide⟩ rfl rfl (Nat.le_of_ble_eq_true rfl) (fun hv27 => ?_)
        refine X_istore (lv' := [(0, .ref 0), (1, vi l1), (2, vi l2), (3, vi l3), (4, vi l4), (5, vi l5), (6, vi l6), (7, vi l7), (8, vi q26.1)]) dL_isWell_121 rfl rfl ?_
        refine X_aload_n 0 dL_isWell_123 rfl ?_
        refine X_iload 8 dL_isWell_124 rfl ?_
        refine X_iconst dL_isWell_126 rfl ?_
        obtain ⟨q28, hq28, E⟩ := mmB_e E
        refine X_callO (zs := [q26.1, 3]) (st := []) 2 dL_isWell_127 hq28 (fun r hr => ct_X3_entry hv27 ir_3 hr) ml_XL_25 im_X3_entry sl_X3_entry it_X3 cd_X3_entry hy_X3_entry ⟨rfl, rfl, by decide, by decide⟩ rfl rfl (Nat.le_of_ble_eq_true rfl) (fun hv29 => ?_)
        refine X_istore (lv' := [(0, .ref 0), (1, vi l1), (2, vi l2), (3, vi l3), (4, vi l4), (5, vi l5), (6, vi l6), (7, vi l7), (8, vi q26.1), (9, vi q28.1)]) dL_isWell_130 rfl rfl ?_
        refine X_aload_n 0 dL_isWell_132 rfl ?_
        refine X_iload 8 dL_isWell_133 rfl ?_
        refine X_iconst dL_isWell_135 rfl ?_
        obtain ⟨q30, hq30, E⟩ := mmB_e E
        refine X_callO (zs := [q26.1, 4]) (st := []) 2 dL_isWell_136 hq30 (fun r hr => ct_X3_entry hv27 ir_4 hr) ml_XL_25 im_X3_entry sl_X3_entry it_X3 cd_X3_entry hy_X3_entry ⟨rfl, rfl, by decide, by decide⟩ rfl rfl (Nat.le_of_ble_eq_true rfl) (fun hv31 => ?_)
        refine X_istore (lv' := [(0, .ref 0), (1, vi l1), (2, vi l2), (3, vi l3), (4, vi l4), (5, vi l5), (6, vi l6), (7, vi l7), (8, vi q26.1), (9, vi q28.1), (10, vi q30.1)]) dL_isWell_139 rfl rfl ?_
        refine X_iconst dL_isWell_141 rfl ?_
        refine X_istore (lv' := [(0, .ref 0), (1, vi l1), (2, vi l2), (3, vi l3), (4, vi l4), (5, vi l5), (6, vi l6), (7, vi l7), (8, vi q26.1), (9, vi q28.1), (10, vi q30.1), (11, vi 1)]) dL_isWell_142 rfl rfl ?_
        refine X_iconst dL_isWell_144 rfl ?_
        refine X_istore (lv' := [(0, .ref 0), (1, vi l1), (2, vi l2), (3, vi l3), (4, vi l4), (5, vi l5), (6, vi l6), (7, vi l7), (8, vi q26.1), (9, vi q28.1), (10, vi q30.1), (11, vi 1), (12, vi 0)]) dL_isWell_145 rfl rfl ?_
        refine X_aload_n 0 dL_isWell_147 rfl ?_
        refine X_iload 8 dL_isWell_148 rfl ?_
        refine X_iconst dL_isWell_150 rfl ?_
        obtain ⟨q32, hq32, E⟩ := mmB_e E
        refine X_callO (zs := [q26.1, 0]) (st := []) 2 dL_isWell_151 hq32 (fun r hr => ct_X3_entry hv27 ir_0 hr) ml_XL_25 im_X3_entry sl_X3_entry it_X3 cd_X3_entry hy_X3_entry ⟨rfl, rfl, by decide, by decide⟩ rfl rfl (Nat.le_of_ble_eq_true rfl) (fun hv33 => ?_)
        refine X_iload 7 dL_isWell_154 rfl ?_
        refine X_icmp_ne 214 dL_isWell_156 (by decide) hv33 hr7 (fun c34 => ?_) (fun c34 => ?_)
        · replace E := mmI_f c34 E
          refine X_iconst dL_isWell_214 rfl ?_
          refine X_istore (lv' := [(0, .ref 0), (1, vi l1), (2, vi l2), (3, vi l3), (4, vi l4), (5, vi l5), (6, vi 0), (7, vi l7), (8, vi q26.1), (9, vi q28.1), (10, vi q30.1), (11, vi 1), (12, vi 0)]) dL_isWell_215 rfl rfl ?_
          refine X_iconst dL_isWell_217 rfl ?_
          refine X_istore (lv' := [(0, .ref 0), (1, vi l1), (2, vi l2), (3, vi l3), (4, vi l4), (5, vi l5), (6, vi 0), (7, vi l7), (8, vi q26.1), (9, vi q28.1), (10, vi q30.1), (11, vi 1), (12, vi 0), (13, vi 0)]) dL_isWell_218 rfl rfl ?_
          exact ok_L_isWell_L220 ih mmFU _ _ _ _ _ _ _ _ _ _ _ _ _ _ hr1 hr2 hr3 hr4 hr5 ir_0 hr7 hv27 hv29 hv31 ir_1 ir_0 ir_0 E
        · replace E := mmI_t c34 E
          refine X_aload_n 0 dL_isWell_159 rfl ?_
          refine X_iload 8 dL_isWell_160 rfl ?_
          refine X_iconst dL_isWell_162 rfl ?_
          obtain ⟨q130, hq130, E⟩ := mmB_e E
          refine X_callO (zs := [q26.1, 1]) (st := []) 2 dL_isWell_163 hq130 (fun r hr => ct_X3_entry hv27 ir_1 hr) ml_XL_25 im_X3_entry sl_X3_entry it_X3 cd_X3_entry hy_X3_entry ⟨rfl, rfl, by decide, by decide⟩ rfl rfl (Nat.le_of_ble_eq_true rfl) (fun hv131 => ?_)
          refine X_iload 7 dL_isWell_166 rfl ?_
          refine X_iconst dL_isWell_168 rfl ?_
          obtain ⟨hv132, E⟩ := mmK_e E
          obtain ⟨hv133, E⟩ := mmK_e E
          refine X_idiv dL_isWell_169 hr7 ir_4 hv132 ?_
          refine X_icmp_ne 214 dL_isWell_170 (by decide) hv131 hv133 (fun c134 => ?_) (fun c134 => ?_)
          · replace E := mmI_f c134 E
            refine X_iconst dL_isWell_214 rfl ?_
            refine X_istore (lv' := [(0, .ref 0), (1, vi l1), (2, vi l2), (3, vi l3), (4, vi l4), (5, vi l5), (6, vi 0), (7, vi l7), (8, vi q26.1), (9, vi q28.1), (10, vi q30.1), (11, vi 1), (12, vi 0)]) dL_isWell_215 rfl rfl ?_
            refine X_iconst dL_isWell_217 rfl ?_
            refine X_istore (lv' := [(0, .ref 0), (1, vi l1), (2, vi l2), (3, vi l3), (4, vi l4), (5, vi l5), (6, vi 0), (7, vi l7), (8, vi q26.1), (9, vi q28.1), (10, vi q30.1), (11, vi 1), (12, vi 0), (13, vi 0)]) dL_isWell_218 rfl rfl ?_
            exact ok_L_isWell_L220 ih mmFU _ _ _ _ _ _ _ _ _ _ _ _ _ _ hr1 hr2 hr3 hr4 hr5 ir_0 hr7 hv27 hv29 hv31 ir_1 ir_0 ir_0 E
          · replace E := mmI_t c134 E
            refine X_iload 7 dL_isWell_173 rfl ?_
            refine X_if_eq 191 dL_isWell_175 (by decide) hr7 (fun c135 => ?_) (fun c135 => ?_)
            · replace E := mmI_t c135 E
              refine X_sub [0, 1, 2, 3, 4, 5, 7, 8, 9, 10, 11, 12] rfl ?_
              exact ok_L_isWell_L191 ih _ _ _ _ _ _ _ _ _ _ _ _ hr1 hr2 hr3 hr4 hr5 hr7 hv27 hv29 hv31 ir_1 ir_0 E
            · replace E := mmI_f c135 E
              refine X_aload_n 0 dL_isWell_178 rfl ?_
              refine X_iload 7 dL_isWell_179 rfl ?_
              refine X_iconst dL_isWell_181 rfl ?_
              obtain ⟨hv141, E⟩ := mmK_e E
              refine X_isub dL_isWell_182 ?_
              obtain ⟨q142, hq142, E⟩ := mmB_e E
              refine X_callO (zs := [(l7 - 1)]) (st := []) 1 dL_isWell_183 hq142 (fun r hr => ct_X3_named hv141 hr) ml_XL_73 im_X3_named sl_X3_named it_X3 cd_X3_named hy_X3_named ⟨rfl, rfl, by decide, by decide⟩ rfl rfl (Nat.le_of_ble_eq_true rfl) (fun hv143 => ?_)
              refine X_iload 8 dL_isWell_186 rfl ?_
              refine X_icmp_ge 214 dL_isWell_188 (by decide) hv143 hv27 (fun c144 => ?_) (fun c144 => ?_)
              · replace E := mmI_t c144 E
                refine X_iconst dL_isWell_214 rfl ?_
                refine X_istore (lv' := [(0, .ref 0), (1, vi l1), (2, vi l2), (3, vi l3), (4, vi l4), (5, vi l5), (6, vi 0), (7, vi l7), (8, vi q26.1), (9, vi q28.1), (10, vi q30.1), (11, vi 1), (12, vi 0)]) dL_isWell_215 rfl rfl ?_
                refine X_iconst dL_isWell_217 rfl ?_
                refine X_istore (lv' := [(0, .ref 0), (1, vi l1), (2, vi l2), (3, vi l3), (4, vi l4), (5, vi l5), (6, vi 0), (7, vi l7), (8, vi q26.1), (9, vi q28.1), (10, vi q30.1), (11, vi 1), (12, vi 0), (13, vi 0)]) dL_isWell_218 rfl rfl ?_
                exact ok_L_isWell_L220 ih mmFU _ _ _ _ _ _ _ _ _ _ _ _ _ _ hr1 hr2 hr3 hr4 hr5 ir_0 hr7 hv27 hv29 hv31 ir_1 ir_0 ir_0 E
              · replace E := mmI_f c144 E
                refine X_sub [0, 1, 2, 3, 4, 5, 7, 8, 9, 10, 11, 12] rfl ?_
                exact ok_L_isWell_L191 ih _ _ _ _ _ _ _ _ _ _ _ _ hr1 hr2 hr3 hr4 hr5 hr7 hv27 hv29 hv31 ir_1 ir_0 E
noncomputable def f_L_isWell (m : Mem2) : Option (Int × Mem2) :=
  (mmO (f_X3_count 0) m).bind (fun q1 => (mmO (f_X3_count 4) q1.2).bind (fun q3 => mmK (inR (4 * q3.1)) (if (4 * q3.1) < q1.1 then
(f_L_isWell_L104 mmFU q1.1 0 0 0 0 0 0 q3.2)
else
((mmO (f_X3_count 5) q3.2).bind (fun q145 => (mmO (f_X3_count 4) q145.2).bind (fun q147 => mmK (inR (4 * q147.1)) (mmK (inR ((4 * q147.1) - q1.1)) (if q145.1 = ((4 * q147.1) - q1.1) then
((mmO (f_X3_count 9) q147.2).bind (fun q152 => (mmO (f_X3_count 6) q152.2).bind (fun q154 => mmK (inR (100 - q154.1)) (if q152.1 = (100 - q154.1) then
((mmO (f_X3_count 8) q154.2).bind (fun q158 => (mmO (f_X3_count 6) q158.2).bind (fun q160 => (mmO (f_X3_count 7) q160.2).bind (fun q162 => mmK (inR (q160.1 - q162.1)) (if q158.1 = (q160.1 - q162.1) then
((mmO (f_X3_named q1.1) q162.2).bind (fun q166 => if q166.1 = (-5) then
(f_L_isWell_L104 mmFU q1.1 0 0 0 0 1 0 q166.2)
else
(f_L_isWell_L104 mmFU q1.1 0 0 0 0 0 0 q166.2)))
else
(f_L_isWell_L104 mmFU q1.1 0 0 0 0 0 0 q162.2))))))
else
(f_L_isWell_L104 mmFU q1.1 0 0 0 0 0 0 q154.2)))))
else
(f_L_isWell_L104 mmFU q1.1 0 0 0 0 0 0 q147.2)))))))))
set_option maxRecDepth 100000 in
set_option maxHeartbeats 4000000 in
theorem ok_L_isWell {r : Int × Mem2} : ∀ (m : Mem2), f_L_isWell m = some r → V2 RL cL_isWell 17 rm_L_isWell mmG0 (mm2Pz r) 0 [(0, .ref 0)] [] m := by
  intro m E
  unfold f_L_isWell at E
  refine X_aload_n 0 dL_isWell_0 rfl ?_
  refine X_iconst dL_isWell_1 rfl ?_
  obtain ⟨q1, hq1, E⟩ := mmB_e E
  refine X_callO (zs := [0]) (st := []) 1 dL_isWell_2 hq1 (fun r hr => ct_X3_count ir_0 hr) ml_XL_21 im_X3_count sl_X3_count it_X3 cd_X3_count hy_X3_count ⟨rfl, rfl, by decide, by decide⟩ rfl rfl (Nat.le_of_ble_eq_true rfl) (fun hv2 => ?_)
  refine X_istore_n (i := 1) (lv' := [(0, .ref 0), (1, vi q1.1)]) dL_isWell_5 rfl rfl rfl ?_
  refine X_iconst dL_isWell_6 rfl ?_
  refine X_istore_n (i := 2) (lv' := [(0, .ref 0), (1, vi q1.1), (2, vi 0)]) dL_isWell_7 rfl rfl rfl ?_
  refine X_iconst dL_isWell_8 rfl ?_
  refine X_istore_n (i := 3) (lv' := [(0, .ref 0), (1, vi q1.1), (2, vi 0), (3, vi 0)]) dL_isWell_9 rfl rfl rfl ?_
  refine X_iconst dL_isWell_10 rfl ?_
  refine X_istore (lv' := [(0, .ref 0), (1, vi q1.1), (2, vi 0), (3, vi 0), (4, vi 0)]) dL_isWell_11 rfl rfl ?_
  refine X_iconst dL_isWell_13 rfl ?_
  refine X_istore (lv' := [(0, .ref 0), (1, vi q1.1), (2, vi 0), (3, vi 0), (4, vi 0), (5, vi 0)]) dL_isWell_14 rfl rfl ?_
  refine X_iload_n 1 dL_isWell_16 rfl ?_
  refine X_iconst dL_isWell_17 rfl ?_
  refine X_aload_n 0 dL_isWell_18 rfl ?_
  refine X_iconst dL_isWell_19 rfl ?_
  obtain ⟨q3, hq3, E⟩ := mmB_e E
  refine X_callO (zs := [4]) (st := [vi 4, vi q1.1]) 1 dL_isWell_20 hq3 (fun r hr => ct_X3_count ir_4 hr) ml_XL_21 im_X3_count sl_X3_count it_X3 cd_X3_count hy_X3_count ⟨rfl, rfl, by decide, by decide⟩ rfl rfl (Nat.le_of_ble_eq_true rfl) (fun hv4 => ?_)
  obtain ⟨hv5, E⟩ := mmK_e E
  refine X_imul dL_isWell_23 ?_
  refine X_icmp_gt 98 dL_isWell_24 (by decide) hv2 hv5 (fun c6 => ?_) (fun c6 => ?_)
  · replace E := mmI_t c6 E
    refine X_iconst dL_isWell_98 rfl ?_
    refine X_istore (lv' := [(0, .ref 0), (1, vi q1.1), (2, vi 0), (3, vi 0), (4, vi 0), (5, vi 0), (6, vi 0)]) dL_isWell_99 rfl rfl ?_
    refine X_iconst dL_isWell_101 rfl ?_
    refine X_istore (lv' := [(0, .ref 0), (1, vi q1.1), (2, vi 0), (3, vi 0), (4, vi 0), (5, vi 0), (6, vi 0), (7, vi 0)]) dL_isWell_102 rfl rfl ?_
    exact ok_L_isWell_L104 mmFU _ _ _ _ _ _ _ _ hv2 ir_0 ir_0 ir_0 ir_0 ir_0 ir_0 E
  · replace E := mmI_f c6 E
    refine X_aload_n 0 dL_isWell_27 rfl ?_
    refine X_iconst dL_isWell_28 rfl ?_
    obtain ⟨q145, hq145, E⟩ := mmB_e E
    refine X_callO (zs := [5]) (st := []) 1 dL_isWell_29 hq145 (fun r hr => ct_X3_count ir_5 hr) ml_XL_21 im_X3_count sl_X3_count it_X3 cd_X3_count hy_X3_count ⟨rfl, rfl, by decide, by decide⟩ rfl rfl (Nat.le_of_ble_eq_true rfl) (fun hv146 => ?_)
    refine X_iconst dL_isWell_32 rfl ?_
    refine X_aload_n 0 dL_isWell_33 rfl ?_
    refine X_iconst dL_isWell_34 rfl ?_
    obtain ⟨q147, hq147, E⟩ := mmB_e E
    refine X_callO (zs := [4]) (st := [vi 4, vi q145.1]) 1 dL_isWell_35 hq147 (fun r hr => ct_X3_count ir_4 hr) ml_XL_21 im_X3_count sl_X3_count it_X3 cd_X3_count hy_X3_count ⟨rfl, rfl, by decide, by decide⟩ rfl rfl (Nat.le_of_ble_eq_true rfl) (fun hv148 => ?_)
    obtain ⟨hv149, E⟩ := mmK_e E
    refine X_imul dL_isWell_38 ?_
    refine X_iload_n 1 dL_isWell_39 rfl ?_
    obtain ⟨hv150, E⟩ := mmK_e E
    refine X_isub dL_isWell_40 ?_
    refine X_icmp_ne 98 dL_isWell_41 (by decide) hv146 hv150 (fun c151 => ?_) (fun c151 => ?_)
    · replace E := mmI_f c151 E
      refine X_iconst dL_isWell_98 rfl ?_
      refine X_istore (lv' := [(0, .ref 0), (1, vi q1.1), (2, vi 0), (3, vi 0), (4, vi 0), (5, vi 0), (6, vi 0)]) dL_isWell_99 rfl rfl ?_
      refine X_iconst dL_isWell_101 rfl ?_
      refine X_istore (lv' := [(0, .ref 0), (1, vi q1.1), (2, vi 0), (3, vi 0), (4, vi 0), (5, vi 0), (6, vi 0), (7, vi 0)]) dL_isWell_102 rfl rfl ?_
      exact ok_L_isWell_L104 mmFU _ _ _ _ _ _ _ _ hv2 ir_0 ir_0 ir_0 ir_0 ir_0 ir_0 E
    · replace E := mmI_t c151 E
      refine X_aload_n 0 dL_isWell_44 rfl ?_
      refine X_bipush (v := 9) dL_isWell_45 (by decide) ?_
      obtain ⟨q152, hq152, E⟩ := mmB_e E
      refine X_callO (zs := [9]) (st := []) 1 dL_isWell_47 hq152 (fun r hr => ct_X3_count ir_9 hr) ml_XL_21 im_X3_count sl_X3_count it_X3 cd_X3_count hy_X3_count ⟨rfl, rfl, by decide, by decide⟩ rfl rfl (Nat.le_of_ble_eq_true rfl) (fun hv153 => ?_)
      refine X_bipush (v := 100) dL_isWell_50 (by decide) ?_
      refine X_aload_n 0 dL_isWell_52 rfl ?_
      refine X_bipush (v := 6) dL_isWell_53 (by decide) ?_
      obtain ⟨q154, hq154, E⟩ := mmB_e E
      refine X_callO (zs := [6]) (st := [vi 100, vi q152.1]) 1 dL_isWell_55 hq154 (fun r hr => ct_X3_count ir_6 hr) ml_XL_21 im_X3_count sl_X3_count it_X3 cd_X3_count hy_X3_count ⟨rfl, rfl, by decide, by decide⟩ rfl rfl (Nat.le_of_ble_eq_true rfl) (fun hv155 => ?_)
      obtain ⟨hv156, E⟩ := mmK_e E
      refine X_isub dL_isWell_58 ?_
      refine X_icmp_ne 98 dL_isWell_59 (by decide) hv153 hv156 (fun c157 => ?_) (fun c157 => ?_)
      · replace E := mmI_f c157 E
        refine X_iconst dL_isWell_98 rfl ?_
        refine X_istore (lv' := [(0, .ref 0), (1, vi q1.1), (2, vi 0), (3, vi 0), (4, vi 0), (5, vi 0), (6, vi 0)]) dL_isWell_99 rfl rfl ?_
        refine X_iconst dL_isWell_101 rfl ?_
        refine X_istore (lv' := [(0, .ref 0), (1, vi q1.1), (2, vi 0), (3, vi 0), (4, vi 0), (5, vi 0), (6, vi 0), (7, vi 0)]) dL_isWell_102 rfl rfl ?_
        exact ok_L_isWell_L104 mmFU _ _ _ _ _ _ _ _ hv2 ir_0 ir_0 ir_0 ir_0 ir_0 ir_0 E
      · replace E := mmI_t c157 E
        refine X_aload_n 0 dL_isWell_62 rfl ?_
        refine X_bipush (v := 8) dL_isWell_63 (by decide) ?_
        obtain ⟨q158, hq158, E⟩ := mmB_e E
        refine X_callO (zs := [8]) (st := []) 1 dL_isWell_65 hq158 (fun r hr => ct_X3_count ir_8 hr) ml_XL_21 im_X3_count sl_X3_count it_X3 cd_X3_count hy_X3_count ⟨rfl, rfl, by decide, by decide⟩ rfl rfl (Nat.le_of_ble_eq_true rfl) (fun hv159 => ?_)
        refine X_aload_n 0 dL_isWell_68 rfl ?_
        refine X_bipush (v := 6) dL_isWell_69 (by decide) ?_
        obtain ⟨q160, hq160, E⟩ := mmB_e E
        refine X_callO (zs := [6]) (st := [vi q158.1]) 1 dL_isWell_71 hq160 (fun r hr => ct_X3_count ir_6 hr) ml_XL_21 im_X3_count sl_X3_count it_X3 cd_X3_count hy_X3_count ⟨rfl, rfl, by decide, by decide⟩ rfl rfl (Nat.le_of_ble_eq_true rfl) (fun hv161 => ?_)
        refine X_aload_n 0 dL_isWell_74 rfl ?_
        refine X_bipush (v := 7) dL_isWell_75 (by decide) ?_
        obtain ⟨q162, hq162, E⟩ := mmB_e E
        refine X_callO (zs := [7]) (st := [vi q160.1, vi q158.1]) 1 dL_isWell_77 hq162 (fun r hr => ct_X3_count ir_7 hr) ml_XL_21 im_X3_count sl_X3_count it_X3 cd_X3_count hy_X3_count ⟨rfl, rfl, by decide, by decide⟩ rfl rfl (Nat.le_of_ble_eq_true rfl) (fun hv163 => ?_)
        obtain ⟨hv164, E⟩ := mmK_e E
        refine X_isub dL_isWell_80 ?_
        refine X_icmp_ne 98 dL_isWell_81 (by decide) hv159 hv164 (fun c165 => ?_) (fun c165 => ?_)
        · replace E := mmI_f c165 E
          refine X_iconst dL_isWell_98 rfl ?_
          refine X_istore (lv' := [(0, .ref 0), (1, vi q1.1), (2, vi 0), (3, vi 0), (4, vi 0), (5, vi 0), (6, vi 0)]) dL_isWell_99 rfl rfl ?_
          refine X_iconst dL_isWell_101 rfl ?_
          refine X_istore (lv' := [(0, .ref 0), (1, vi q1.1), (2, vi 0), (3, vi 0), (4, vi 0), (5, vi 0), (6, vi 0), (7, vi 0)]) dL_isWell_102 rfl rfl ?_
          exact ok_L_isWell_L104 mmFU _ _ _ _ _ _ _ _ hv2 ir_0 ir_0 ir_0 ir_0 ir_0 ir_0 E
        · replace E := mmI_t c165 E
          refine X_aload_n 0 dL_isWell_84 rfl ?_
          refine X_iload_n 1 dL_isWell_85 rfl ?_
          obtain ⟨q166, hq166, E⟩ := mmB_e E
          refine X_callO (zs := [q1.1]) (st := []) 1 dL_isWell_86 hq166 (fun r hr => ct_X3_named hv2 hr) ml_XL_73 im_X3_named sl_X3_named it_X3 cd_X3_named hy_X3_named ⟨rfl, rfl, by decide, by decide⟩ rfl rfl (Nat.le_of_ble_eq_true rfl) (fun hv167 => ?_)
          refine X_bipush (v := (-5)) dL_isWell_89 (by decide) ?_
          refine X_icmp_ne 98 dL_isWell_91 (by decide) hv167 ir_m5 (fun c168 => ?_) (fun c168 => ?_)
          · replace E := mmI_f c168 E
            refine X_iconst dL_isWell_98 rfl ?_
            refine X_istore (lv' := [(0, .ref 0), (1, vi q1.1), (2, vi 0), (3, vi 0), (4, vi 0), (5, vi 0), (6, vi 0)]) dL_isWell_99 rfl rfl ?_
            refine X_iconst dL_isWell_101 rfl ?_
            refine X_istore (lv' := [(0, .ref 0), (1, vi q1.1), (2, vi 0), (3, vi 0), (4, vi 0), (5, vi 0), (6, vi 0), (7, vi 0)]) dL_isWell_102 rfl rfl ?_
            exact ok_L_isWell_L104 mmFU _ _ _ _ _ _ _ _ hv2 ir_0 ir_0 ir_0 ir_0 ir_0 ir_0 E
          · replace E := mmI_t c168 E
            refine X_iconst dL_isWell_94 rfl ?_
            refine X_goto 99 dL_isWell_95 (by decide) ?_
            refine X_istore (lv' := [(0, .ref 0), (1, vi q1.1), (2, vi 0), (3, vi 0), (4, vi 0), (5, vi 0), (6, vi 1)]) dL_isWell_99 rfl rfl ?_
            refine X_iconst dL_isWell_101 rfl ?_
            refine X_istore (lv' := [(0, .ref 0), (1, vi q1.1), (2, vi 0), (3, vi 0), (4, vi 0), (5, vi 0), (6, vi 1), (7, vi 0)]) dL_isWell_102 rfl rfl ?_
            exact ok_L_isWell_L104 mmFU _ _ _ _ _ _ _ _ hv2 ir_0 ir_0 ir_0 ir_0 ir_1 ir_0 E
theorem ct_L_isWell {m : Mem2} {r : Int × Mem2} (E : f_L_isWell m = some r) : CT2 mmG0 yL_isWell cL_isWell 17 (some .boolean) rm_L_isWell [.ref 0] m r := CT_z2 (by decide +kernel) rfl (Nat.le_of_ble_eq_true rfl) (ok_L_isWell  _  E)
theorem hz_L_isWell : yL_isWell.cls ≠ "java/lang/invoke/MethodHandle" ∧ yL_isWell.cls ≠ "java/lang/invoke/VarHandle" ∧ (parseMethodDescriptor yL_isWell.desc).map (fun d => d.parameters.length) = some 1 := by decide +kernel
