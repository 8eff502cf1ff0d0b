/-! the law's own rows: the script is the cell 58 -/
def mmGL (L : Nat) (xs : Nat → Int32) : State → (Nat → Prop) → (Nat → Nat) → Prop := fun s A ad => va_X (ad 58) L xs s s.heap ∧ ad 58 < s.heap.size ∧ ¬ A (ad 58)
theorem inR_t (x : Int32) : inR x.toInt := by have := x.le_toInt; have := x.toInt_lt; constructor <;> omega
theorem inR_L {L : Nat} (h : L ≤ 2048) : inR (L : Int) := by constructor <;> omega
theorem inR_mod32 (x : Int) : inR (x % 32) := by constructor <;> omega
theorem inR_modc (x : Int) : inR (x % 65536) := by constructor <;> omega
theorem oi_natmod (x : Int) (k : Nat) (hk : k ≤ 16) : ((Int32.ofInt x).toBitVec.toNat % 2 ^ k : Nat) = (x % (2 ^ k : Nat)).toNat := by
  have h1 : (Int32.ofInt x).toBitVec.toNat = (x % 2 ^ 32).toNat := by
    show (BitVec.ofInt 32 x).toNat = _
    rw [BitVec.toNat_ofInt]
    rfl
  rw [h1]
  have h2 : (0 : Int) ≤ x % 2 ^ 32 := Int.emod_nonneg _ (by decide)
  have h3 : ((2 : Int) ^ 32) = (2 ^ k : Nat) * (2 ^ (32 - k) : Nat) := by
    rw [← Int.natCast_mul, ← Nat.pow_add]
    have : k + (32 - k) = 32 := by omega
    rw [this]; rfl
  have h4 : x % 2 ^ 32 % (2 ^ k : Nat) = x % (2 ^ k : Nat) := Int.emod_emod_of_dvd _ ⟨_, h3⟩
  apply Int.ofNat.inj
  show ((((x % 2 ^ 32).toNat % 2 ^ k : Nat)) : Int) = (((x % (2 ^ k : Nat)).toNat : Nat) : Int)
  rw [Int.natCast_emod, Int.toNat_of_nonneg h2, h4, Int.toNat_of_nonneg (Int.emod_nonneg _ (by have : 0 < 2 ^ k := Nat.two_pow_pos k; omega))]
theorem nI_oi {n : Int} (h : 0 ≤ n) : nI n.toNat = Int32.ofInt n := by
  obtain ⟨k, rfl⟩ := Int.eq_ofNat_of_zero_le h
  rw [Int32.ofInt_eq_ofNat]; rfl
section LAWR
variable {own : String} {cc : ByteArray} {nL : Nat} {R : Room} {L : Nat} {xs : Nat → Int32} {G : State → (Nat → Prop) → (Nat → Nat) → Prop} {Po : Option Value → Mem → Prop} {pc : Nat} {lv : List (Nat × Value)} {st : List Value} {m : Mem}
theorem V_slen (hd : decode cc pc = .ok (.arraylength, 1)) (k : VV own cc nL R (mmGL L xs) Po (pc + 1) lv (vi (L : Int) :: st) m) : VV own cc nL R (mmGL L xs) Po pc lv (.ref 58 :: st) m := by
  intro p l e s mi args below meth c cells slots Q D cy ad A C H locs ls hR hP hS hl
  obtain ⟨hX, hb, hA⟩ := C.2.2.2.2.2.2.2.2.2.1
  refine va_slen C.1 C.2.1 hX hb hA hS hd ?_
  have e : Int32.ofNat L = Int32.ofInt (L : Int) := Int32.ofInt_eq_ofNat.symm
  rw [e]
  exact k C hR hP hS hl
theorem V_sld {i : Int} {j : Nat} (hd : decode cc pc = .ok (.iaload, 1)) (hi : inR i) (hin : 0 ≤ i ∧ i < (L : Int)) (hj : i.toNat = j) (k : VV own cc nL R (mmGL L xs) Po (pc + 1) lv (vi (xs j).toInt :: st) m) : VV own cc nL R (mmGL L xs) Po pc lv (vi i :: .ref 58 :: st) m := by
  intro p l e s mi args below meth c cells slots Q D cy ad A C H locs ls hR hP hS hl
  subst hj
  obtain ⟨hX, hb, hA⟩ := C.2.2.2.2.2.2.2.2.2.1
  refine va_sld C.1 C.2.1 hX hb hA hS (oi_in hi hin) hd ?_
  rw [oi_cl hi]
  have e : Value.int (xs i.toNat) = vi (xs i.toNat).toInt := by show _ = Value.int (Int32.ofInt (xs i.toNat).toInt); rw [Int32.ofInt_toInt]
  rw [e]
  exact k C hR hP hS hl
theorem V_and31 {x : Int} (hd : decode cc pc = .ok (.iand, 1)) (k : VV own cc nL R G Po (pc + 1) lv (vi (x % 32) :: st) m) : VV own cc nL R G Po pc lv (vi 31 :: vi x :: st) m := by
  intro p l e s mi args below meth c cells slots Q D cy ad A C H locs ls hR hP hS hl
  refine lv_iand C.1 C.2.1 hd ?_
  have e : Int32.ofInt x &&& Int32.ofInt 31 = Int32.ofInt (x % 32) := by
    rw [pk_and (Int32.ofInt x) (m := Int32.ofInt 31) 5 (by decide), oi_natmod x 5 (by decide)]
    exact nI_oi (Int.emod_nonneg _ (by decide))
  rw [e]
  exact k C hR hP hS hl
theorem V_i2c {x : Int} (hd : decode cc pc = .ok (.i2c, 1)) (k : VV own cc nL R G Po (pc + 1) lv (vi (x % 65536) :: st) m) : VV own cc nL R G Po pc lv (vi x :: st) m := by
  intro p l e s mi args below meth c cells slots Q D cy ad A C H locs ls hR hP hS hl
  have e : ((Int32.ofInt x).toUInt32 % 65536).toInt32 = Int32.ofInt (x % 65536) := by
    rw [pk_char, show (65536 : Nat) = 2 ^ 16 from rfl, oi_natmod x 16 (by decide)]
    exact nI_oi (Int.emod_nonneg _ (by decide))
  exact lv_i2c C.1 C.2.1 hd e (k C hR hP hS hl)
end LAWR
noncomputable def f_L_law_L18 (L : Nat) (xs : Nat → Int32) : Nat → Int → Mem → Option (Int × Mem)
  | 0, _, _ => none
  | n + 1, l3, m =>
    mmK (inR ((L : Int) - 4)) (if ((L : Int) - 4) < l3 then
(some (1, m))
else
(mmK (0 ≤ l3 ∧ l3 < (L : Int)) (if ((xs (l3).toNat).toInt % 32) = 0 then
(mmK (inR (l3 + 1)) (mmK (0 ≤ (l3 + 1) ∧ (l3 + 1) < (L : Int)) (mmK (inR (l3 + 2)) (mmK (0 ≤ (l3 + 2) ∧ (l3 + 2) < (L : Int)) (mmK (inR (l3 + 3)) (mmK (0 ≤ (l3 + 3) ∧ (l3 + 3) < (L : Int)) ((f_X3_add (xs ((l3 + 1)).toNat).toInt (xs ((l3 + 2)).toNat).toInt (xs ((l3 + 3)).toNat).toInt m).bind (fun q11 => mmK (inR (l3 + 1)) (mmK (0 ≤ (l3 + 1) ∧ (l3 + 1) < (L : Int)) (mmK (inR (l3 + 2)) (mmK (0 ≤ (l3 + 2) ∧ (l3 + 2) < (L : Int)) (mmK (inR (l3 + 3)) (mmK (0 ≤ (l3 + 3) ∧ (l3 + 3) < (L : Int)) ((f_X4_add (xs ((l3 + 1)).toNat).toInt (xs ((l3 + 2)).toNat).toInt (xs ((l3 + 3)).toNat).toInt q11.2).bind (fun q19 => if q11.1 = q19.1 then
(mmK (inR (l3 + 4)) (f_L_law_L18 L xs n (l3 + 4) q19.2))
else
(some (0, q19.2)))))))))))))))))
else (
if ((xs (l3).toNat).toInt % 32) = 1 then
(mmK (inR (l3 + 1)) (mmK (0 ≤ (l3 + 1) ∧ (l3 + 1) < (L : Int)) (mmK (inR (l3 + 2)) (mmK (0 ≤ (l3 + 2) ∧ (l3 + 2) < (L : Int)) (mmK (inR (l3 + 3)) (mmK (0 ≤ (l3 + 3) ∧ (l3 + 3) < (L : Int)) ((f_X3_replace (xs ((l3 + 1)).toNat).toInt (xs ((l3 + 2)).toNat).toInt (xs ((l3 + 3)).toNat).toInt m).bind (fun q30 => mmK (inR (l3 + 1)) (mmK (0 ≤ (l3 + 1) ∧ (l3 + 1) < (L : Int)) (mmK (inR (l3 + 2)) (mmK (0 ≤ (l3 + 2) ∧ (l3 + 2) < (L : Int)) (mmK (inR (l3 + 3)) (mmK (0 ≤ (l3 + 3) ∧ (l3 + 3) < (L : Int)) ((f_X4_replace (xs ((l3 + 1)).toNat).toInt (xs ((l3 + 2)).toNat).toInt (xs ((l3 + 3)).toNat).toInt q30.2).bind (fun q38 => if q30.1 = q38.1 then
(mmK (inR (l3 + 4)) (f_L_law_L18 L xs n (l3 + 4) q38.2))
else
(some (0, q38.2)))))))))))))))))
else (
if ((xs (l3).toNat).toInt % 32) = 2 then
(mmK (inR (l3 + 1)) (mmK (0 ≤ (l3 + 1) ∧ (l3 + 1) < (L : Int)) ((f_X3_remove (xs ((l3 + 1)).toNat).toInt m).bind (fun q45 => mmK (inR (l3 + 1)) (mmK (0 ≤ (l3 + 1) ∧ (l3 + 1) < (L : Int)) ((f_X4_remove (xs ((l3 + 1)).toNat).toInt q45.2).bind (fun q49 => if q45.1 = q49.1 then
(mmK (inR (l3 + 4)) (f_L_law_L18 L xs n (l3 + 4) q49.2))
else
(some (0, q49.2)))))))))
else (
if ((xs (l3).toNat).toInt % 32) = 3 then
(mmK (inR (l3 + 1)) (mmK (0 ≤ (l3 + 1) ∧ (l3 + 1) < (L : Int)) (mmK (inR (l3 + 2)) (mmK (0 ≤ (l3 + 2) ∧ (l3 + 2) < (L : Int)) ((f_X3_rename (xs ((l3 + 1)).toNat).toInt (xs ((l3 + 2)).toNat).toInt m).bind (fun q58 => mmK (inR (l3 + 1)) (mmK (0 ≤ (l3 + 1) ∧ (l3 + 1) < (L : Int)) (mmK (inR (l3 + 2)) (mmK (0 ≤ (l3 + 2) ∧ (l3 + 2) < (L : Int)) ((f_X4_rename (xs ((l3 + 1)).toNat).toInt (xs ((l3 + 2)).toNat).toInt q58.2).bind (fun q64 => if q58.1 = q64.1 then
(mmK (inR (l3 + 4)) (f_L_law_L18 L xs n (l3 + 4) q64.2))
else
(some (0, q64.2)))))))))))))
else (
if ((xs (l3).toNat).toInt % 32) = 4 then
(mmK (inR (l3 + 1)) (mmK (0 ≤ (l3 + 1) ∧ (l3 + 1) < (L : Int)) (mmK (inR (l3 + 2)) (mmK (0 ≤ (l3 + 2) ∧ (l3 + 2) < (L : Int)) ((f_X3_alias (xs ((l3 + 1)).toNat).toInt (xs ((l3 + 2)).toNat).toInt m).bind (fun q73 => mmK (inR (l3 + 1)) (mmK (0 ≤ (l3 + 1) ∧ (l3 + 1) < (L : Int)) (mmK (inR (l3 + 2)) (mmK (0 ≤ (l3 + 2) ∧ (l3 + 2) < (L : Int)) ((f_X4_alias (xs ((l3 + 1)).toNat).toInt (xs ((l3 + 2)).toNat).toInt q73.2).bind (fun q79 => if q73.1 = q79.1 then
(mmK (inR (l3 + 4)) (f_L_law_L18 L xs n (l3 + 4) q79.2))
else
(some (0, q79.2)))))))))))))
else (
if ((xs (l3).toNat).toInt % 32) = 5 then
((f_X3_addAll m).bind (fun q84 => (f_X4_addAll q84.2).bind (fun q86 => if q84.1 = q86.1 then
(mmK (inR (l3 + 4)) (f_L_law_L18 L xs n (l3 + 4) q86.2))
else
(some (0, q86.2)))))
else (
if ((xs (l3).toNat).toInt % 32) = 6 then
((f_X3_squeeze m).bind (fun q91 => (f_X4_squeeze q91.2).bind (fun q93 => if q91.1 = q93.1 then
(mmK (inR (l3 + 4)) (f_L_law_L18 L xs n (l3 + 4) q93.2))
else
(some (0, q93.2)))))
else (
if ((xs (l3).toNat).toInt % 32) = 7 then
(mmK (inR (l3 + 1)) (mmK (0 ≤ (l3 + 1) ∧ (l3 + 1) < (L : Int)) ((f_X3_makeAnew (xs ((l3 + 1)).toNat).toInt m).bind (fun q100 => mmK (inR (l3 + 1)) (mmK (0 ≤ (l3 + 1) ∧ (l3 + 1) < (L : Int)) ((f_X4_makeAnew (xs ((l3 + 1)).toNat).toInt q100.2).bind (fun q104 => if q100.1 = q104.1 then
(mmK (inR (l3 + 4)) (f_L_law_L18 L xs n (l3 + 4) q104.2))
else
(some (0, q104.2)))))))))
else (
if ((xs (l3).toNat).toInt % 32) = 8 then
(mmK (inR (l3 + 1)) (mmK (0 ≤ (l3 + 1) ∧ (l3 + 1) < (L : Int)) ((f_X3_type ((xs ((l3 + 1)).toNat).toInt % 65536) m).bind (fun q111 => mmK (inR (l3 + 1)) (mmK (0 ≤ (l3 + 1) ∧ (l3 + 1) < (L : Int)) ((f_X4_type ((xs ((l3 + 1)).toNat).toInt % 65536) q111.2).bind (fun q115 => if q111.1 = q115.1 then
(mmK (inR (l3 + 4)) (f_L_law_L18 L xs n (l3 + 4) q115.2))
else
(some (0, q115.2)))))))))
else (
if ((xs (l3).toNat).toInt % 32) = 9 then
((f_X3_clearPad m).bind (fun q120 => (f_X4_clearPad q120.2).bind (fun q122 => if q120.1 = q122.1 then
(mmK (inR (l3 + 4)) (f_L_law_L18 L xs n (l3 + 4) q122.2))
else
(some (0, q122.2)))))
else (
if ((xs (l3).toNat).toInt % 32) = 10 then
((f_X3_undo m).bind (fun q127 => (f_X4_undo q127.2).bind (fun q129 => if q127.1 = q129.1 then
(mmK (inR (l3 + 4)) (f_L_law_L18 L xs n (l3 + 4) q129.2))
else
(some (0, q129.2)))))
else (
if ((xs (l3).toNat).toInt % 32) = 11 then
((f_X3_keep m).bind (fun q134 => (f_X4_keep q134.2).bind (fun q136 => if q134.1 = q136.1 then
(mmK (inR (l3 + 4)) (f_L_law_L18 L xs n (l3 + 4) q136.2))
else
(some (0, q136.2)))))
else (
if ((xs (l3).toNat).toInt % 32) = 12 then
((f_X3_restore m).bind (fun q141 => (f_X4_restore q141.2).bind (fun q143 => if q141.1 = q143.1 then
(mmK (inR (l3 + 4)) (f_L_law_L18 L xs n (l3 + 4) q143.2))
else
(some (0, q143.2)))))
else (
if ((xs (l3).toNat).toInt % 32) = 13 then
(mmK (inR (l3 + 1)) (mmK (0 ≤ (l3 + 1) ∧ (l3 + 1) < (L : Int)) (mmK (inR (l3 + 2)) (mmK (0 ≤ (l3 + 2) ∧ (l3 + 2) < (L : Int)) ((f_X3_entry (xs ((l3 + 1)).toNat).toInt (xs ((l3 + 2)).toNat).toInt m).bind (fun q152 => mmK (inR (l3 + 1)) (mmK (0 ≤ (l3 + 1) ∧ (l3 + 1) < (L : Int)) (mmK (inR (l3 + 2)) (mmK (0 ≤ (l3 + 2) ∧ (l3 + 2) < (L : Int)) ((f_X4_entry (xs ((l3 + 1)).toNat).toInt (xs ((l3 + 2)).toNat).toInt q152.2).bind (fun q158 => if q152.1 = q158.1 then
(mmK (inR (l3 + 4)) (f_L_law_L18 L xs n (l3 + 4) q158.2))
else
(some (0, q158.2)))))))))))))
else (
if ((xs (l3).toNat).toInt % 32) = 14 then
(mmK (inR (l3 + 1)) (mmK (0 ≤ (l3 + 1) ∧ (l3 + 1) < (L : Int)) ((f_X3_named (xs ((l3 + 1)).toNat).toInt m).bind (fun q165 => mmK (inR (l3 + 1)) (mmK (0 ≤ (l3 + 1) ∧ (l3 + 1) < (L : Int)) ((f_X4_named (xs ((l3 + 1)).toNat).toInt q165.2).bind (fun q169 => if q165.1 = q169.1 then
(mmK (inR (l3 + 4)) (f_L_law_L18 L xs n (l3 + 4) q169.2))
else
(some (0, q169.2)))))))))
else (
if ((xs (l3).toNat).toInt % 32) = 15 then
(mmK (inR (l3 + 1)) (mmK (0 ≤ (l3 + 1) ∧ (l3 + 1) < (L : Int)) (mmK (inR (l3 + 2)) (mmK (0 ≤ (l3 + 2) ∧ (l3 + 2) < (L : Int)) ((f_X3_block (xs ((l3 + 1)).toNat).toInt (xs ((l3 + 2)).toNat).toInt m).bind (fun q178 => mmK (inR (l3 + 1)) (mmK (0 ≤ (l3 + 1) ∧ (l3 + 1) < (L : Int)) (mmK (inR (l3 + 2)) (mmK (0 ≤ (l3 + 2) ∧ (l3 + 2) < (L : Int)) ((f_X4_block (xs ((l3 + 1)).toNat).toInt (xs ((l3 + 2)).toNat).toInt q178.2).bind (fun q184 => if q178.1 = q184.1 then
(mmK (inR (l3 + 4)) (f_L_law_L18 L xs n (l3 + 4) q184.2))
else
(some (0, q184.2)))))))))))))
else (
if ((xs (l3).toNat).toInt % 32) = 16 then
(mmK (inR (l3 + 1)) (mmK (0 ≤ (l3 + 1) ∧ (l3 + 1) < (L : Int)) ((f_X3_at (xs ((l3 + 1)).toNat).toInt m).bind (fun q191 => mmK (inR (l3 + 1)) (mmK (0 ≤ (l3 + 1) ∧ (l3 + 1) < (L : Int)) ((f_X4_at (xs ((l3 + 1)).toNat).toInt q191.2).bind (fun q195 => if q191.1 = q195.1 then
(mmK (inR (l3 + 4)) (f_L_law_L18 L xs n (l3 + 4) q195.2))
else
(some (0, q195.2)))))))))
else (
if ((xs (l3).toNat).toInt % 32) = 17 then
(mmK (inR (l3 + 1)) (mmK (0 ≤ (l3 + 1) ∧ (l3 + 1) < (L : Int)) ((f_X3_fits (xs ((l3 + 1)).toNat).toInt m).bind (fun q202 => mmK (inR (l3 + 1)) (mmK (0 ≤ (l3 + 1) ∧ (l3 + 1) < (L : Int)) ((f_X4_fits (xs ((l3 + 1)).toNat).toInt q202.2).bind (fun q206 => if q202.1 = q206.1 then
(mmK (inR (l3 + 4)) (f_L_law_L18 L xs n (l3 + 4) q206.2))
else
(some (0, q206.2)))))))))
else (
if ((xs (l3).toNat).toInt % 32) = 18 then
(mmK (inR (l3 + 1)) (mmK (0 ≤ (l3 + 1) ∧ (l3 + 1) < (L : Int)) (mmK (inR (l3 + 2)) (mmK (0 ≤ (l3 + 2) ∧ (l3 + 2) < (L : Int)) ((f_X3_beginning (xs ((l3 + 1)).toNat).toInt (xs ((l3 + 2)).toNat).toInt m).bind (fun q215 => mmK (inR (l3 + 1)) (mmK (0 ≤ (l3 + 1) ∧ (l3 + 1) < (L : Int)) (mmK (inR (l3 + 2)) (mmK (0 ≤ (l3 + 2) ∧ (l3 + 2) < (L : Int)) ((f_X4_beginning (xs ((l3 + 1)).toNat).toInt (xs ((l3 + 2)).toNat).toInt q215.2).bind (fun q221 => if q215.1 = q221.1 then
(mmK (inR (l3 + 4)) (f_L_law_L18 L xs n (l3 + 4) q221.2))
else
(some (0, q221.2)))))))))))))
else (
if ((xs (l3).toNat).toInt % 32) = 19 then
(mmK (inR (l3 + 1)) (mmK (0 ≤ (l3 + 1) ∧ (l3 + 1) < (L : Int)) ((f_X3_count (xs ((l3 + 1)).toNat).toInt m).bind (fun q228 => mmK (inR (l3 + 1)) (mmK (0 ≤ (l3 + 1) ∧ (l3 + 1) < (L : Int)) ((f_X4_count (xs ((l3 + 1)).toNat).toInt q228.2).bind (fun q232 => if q228.1 = q232.1 then
(mmK (inR (l3 + 4)) (f_L_law_L18 L xs n (l3 + 4) q232.2))
else
(some (0, q232.2)))))))))
else (
(mmK (inR (l3 + 4)) (f_L_law_L18 L xs n (l3 + 4) m)))))))))))))))))))))))))
set_option maxRecDepth 100000 in
set_option maxHeartbeats 4000000 in
theorem ok_L_law_L18 {L : Nat} {xs : Nat → Int32} (hL : L ≤ 2048) {r : Int × Mem} : ∀ (n : Nat), ∀ (l3 : Int) (m : Mem), inR l3 → f_L_law_L18 L xs n l3 m = some r → VV RL cL_law 4 room_1 (mmGL L xs) (mmPz r) 18 [(0, .ref 58), (1, .ref 0), (2, .ref 51), (3, vi l3)] [] m := by
  intro n
  induction n with
  | zero =>
    intro l3 m hr3 E
    cases E
  | succ n ih =>
    intro l3 m hr3 E
    rw [f_L_law_L18] at E
    refine V_iload_n 3 dL_law_18 rfl ?_
    refine V_aload_n 0 dL_law_19 rfl ?_
    refine V_slen dL_law_20 ?_
    refine V_iconst dL_law_21 rfl ?_
    obtain ⟨hv1, E⟩ := mmK_e E
    refine V_isub dL_law_22 ?_
    refine V_icmp_gt 626 dL_law_23 (by decide) hr3 hv1 (fun c2 => ?_) (fun c2 => ?_)
    · replace E := mmI_t c2 E
      refine V_iconst dL_law_626 rfl ?_
      obtain rfl := Option.some.inj E
      exact V_reti dL_law_627 ⟨rfl, rfl, (Or.inr rfl)⟩
    · replace E := mmI_f c2 E
      refine V_aload_n 0 dL_law_26 rfl ?_
      refine V_iload_n 3 dL_law_27 rfl ?_
      obtain ⟨hv3, E⟩ := mmK_e E
      refine V_sld (L := L) (xs := xs) (j := (l3).toNat) dL_law_28 hr3 hv3 rfl ?_
      refine V_bipush (v := 31) dL_law_29 (by decide) ?_
      refine V_and31 dL_law_31 ?_
      by_cases c4 : ((xs (l3).toNat).toInt % 32) = 0
      · replace E := mmI_t c4 E
        refine V_tableIn 0 128 dL_law_32 c4 (by decide) (by decide) rfl (by decide) ?_
        refine V_aload_n 1 dL_law_128 rfl ?_
        refine V_aload_n 0 dL_law_129 rfl ?_
        refine V_iload_n 3 dL_law_130 rfl ?_
        refine V_iconst dL_law_131 rfl ?_
        obtain ⟨hv5, E⟩ := mmK_e E
        refine V_iadd dL_law_132 ?_
        obtain ⟨hv6, E⟩ := mmK_e E
        refine V_sld (L := L) (xs := xs) (j := ((l3 + 1)).toNat) dL_law_133 hv5 hv6 rfl ?_
        refine V_aload_n 0 dL_law_134 rfl ?_
        refine V_iload_n 3 dL_law_135 rfl ?_
        refine V_iconst dL_law_136 rfl ?_
        obtain ⟨hv7, E⟩ := mmK_e E
        refine V_iadd dL_law_137 ?_
        obtain ⟨hv8, E⟩ := mmK_e E
        refine V_sld (L := L) (xs := xs) (j := ((l3 + 2)).toNat) dL_law_138 hv7 hv8 rfl ?_
        refine V_aload_n 0 dL_law_139 rfl ?_
        refine V_iload_n 3 dL_law_140 rfl ?_
        refine V_iconst dL_law_141 rfl ?_
        obtain ⟨hv9, E⟩ := mmK_e E
        refine V_iadd dL_law_142 ?_
        obtain ⟨hv10, E⟩ := mmK_e E
        refine V_sld (L := L) (xs := xs) (j := ((l3 + 3)).toNat) dL_law_143 hv9 hv10 rfl ?_
        obtain ⟨q11, hq11, E⟩ := mmB_e E
        refine V_callV (ci := 3) (q := (RX3, TX3, 6)) (Cn := RX3) (st := []) 3 dL_law_144 (ct_X3_add (inR_t _) (inR_t _) (inR_t _) hq11) ml_XL_13 im_X3_add sl_X3_add it_X3 cd_X3_add hy_X3_add ⟨rfl, rfl, by decide, by decide⟩ sh_0 rfl rfl rfl rfl (Nat.le_of_ble_eq_true rfl) (fun hv12 => ?_)
        refine V_aload_n 2 dL_law_147 rfl ?_
        refine V_aload_n 0 dL_law_148 rfl ?_
        refine V_iload_n 3 dL_law_149 rfl ?_
        refine V_iconst dL_law_150 rfl ?_
        obtain ⟨hv13, E⟩ := mmK_e E
        refine V_iadd dL_law_151 ?_
        obtain ⟨hv14, E⟩ := mmK_e E
        refine V_sld (L := L) (xs := xs) (j := ((l3 + 1)).toNat) dL_law_152 hv13 hv14 rfl ?_
        refine V_aload_n 0 dL_law_153 rfl ?_
        refine V_iload_n 3 dL_law_154 rfl ?_
        refine V_iconst dL_law_155 rfl ?_
        obtain ⟨hv15, E⟩ := mmK_e E
        refine V_iadd dL_law_156 ?_
        obtain ⟨hv16, E⟩ := mmK_e E
        refine V_sld (L := L) (xs := xs) (j := ((l3 + 2)).toNat) dL_law_157 hv15 hv16 rfl ?_
        refine V_aload_n 0 dL_law_158 rfl ?_
        refine V_iload_n 3 dL_law_159 rfl ?_
        refine V_iconst dL_law_160 rfl ?_
        obtain ⟨hv17, E⟩ := mmK_e E
        refine V_iadd dL_law_161 ?_
        obtain ⟨hv18, E⟩ := mmK_e E
        refine V_sld (L := L) (xs := xs) (j := ((l3 + 3)).toNat) dL_law_162 hv17 hv18 rfl ?_
        obtain ⟨q19, hq19, E⟩ := mmB_e E
        refine V_callV (ci := 4) (q := (RX4, TX4, 12)) (Cn := RX4) (st := [vi q11.1]) 3 dL_law_163 (ct_X4_add (inR_t _) (inR_t _) (inR_t _) hq19) ml_XL_17 im_X4_add sl_X4_add it_X4 cd_X4_add hy_X4_add ⟨rfl, rfl, by decide, by decide⟩ sh_51 rfl rfl rfl rfl (Nat.le_of_ble_eq_true rfl) (fun hv20 => ?_)
        refine V_icmp_eq 620 dL_law_166 (by decide) hv12 hv20 (fun c21 => ?_) (fun c21 => ?_)
        · replace E := mmI_t c21 E
          obtain ⟨hv22, E⟩ := mmK_e E
          refine V_iinc (v := (l3 + 4)) (lv' := [(0, .ref 58), (1, .ref 0), (2, .ref 51), (3, vi (l3 + 4))]) 3 dL_law_620 rfl rfl rfl rfl ?_
          refine V_goto 18 dL_law_623 (by decide) ?_
          exact ih _ _ hv22 E
        · replace E := mmI_f c21 E
          refine V_iconst dL_law_169 rfl ?_
          obtain rfl := Option.some.inj E
          exact V_reti dL_law_170 ⟨rfl, rfl, (Or.inl rfl)⟩
      replace E := mmI_f c4 E
      by_cases c23 : ((xs (l3).toNat).toInt % 32) = 1
      · replace E := mmI_t c23 E
        refine V_tableIn 1 171 dL_law_32 c23 (by decide) (by decide) rfl (by decide) ?_
        refine V_aload_n 1 dL_law_171 rfl ?_
        refine V_aload_n 0 dL_law_172 rfl ?_
        refine V_iload_n 3 dL_law_173 rfl ?_
        refine V_iconst dL_law_174 rfl ?_
        obtain ⟨hv24, E⟩ := mmK_e E
        refine V_iadd dL_law_175 ?_
        obtain ⟨hv25, E⟩ := mmK_e E
        refine V_sld (L := L) (xs := xs) (j := ((l3 + 1)).toNat) dL_law_176 hv24 hv25 rfl ?_
        refine V_aload_n 0 dL_law_177 rfl ?_
        refine V_iload_n 3 dL_law_178 rfl ?_
        refine V_iconst dL_law_179 rfl ?_
        obtain ⟨hv26, E⟩ := mmK_e E
        refine V_iadd dL_law_180 ?_
        obtain ⟨hv27, E⟩ := mmK_e E
        refine V_sld (L := L) (xs := xs) (j := ((l3 + 2)).toNat) dL_law_181 hv26 hv27 rfl ?_
        refine V_aload_n 0 dL_law_182 rfl ?_
        refine V_iload_n 3 dL_law_183 rfl ?_
        refine V_iconst dL_law_184 rfl ?_
        obtain ⟨hv28, E⟩ := mmK_e E
        refine V_iadd dL_law_185 ?_
        obtain ⟨hv29, E⟩ := mmK_e E
        refine V_sld (L := L) (xs := xs) (j := ((l3 + 3)).toNat) dL_law_186 hv28 hv29 rfl ?_
        obtain ⟨q30, hq30, E⟩ := mmB_e E
        refine V_callV (ci := 3) (q := (RX3, TX3, 6)) (Cn := RX3) (st := []) 3 dL_law_187 (ct_X3_replace (inR_t _) (inR_t _) (inR_t _) hq30) ml_XL_18 im_X3_replace sl_X3_replace it_X3 cd_X3_replace hy_X3_replace ⟨rfl, rfl, by decide, by decide⟩ sh_0 rfl rfl rfl rfl (Nat.le_of_ble_eq_true rfl) (fun hv31 => ?_)
        refine V_aload_n 2 dL_law_190 rfl ?_
        refine V_aload_n 0 dL_law_191 rfl ?_
        refine V_iload_n 3 dL_law_192 rfl ?_
        refine V_iconst dL_law_193 rfl ?_
        obtain ⟨hv32, E⟩ := mmK_e E
        refine V_iadd dL_law_194 ?_
        obtain ⟨hv33, E⟩ := mmK_e E
        refine V_sld (L := L) (xs := xs) (j := ((l3 + 1)).toNat) dL_law_195 hv32 hv33 rfl ?_
        refine V_aload_n 0 dL_law_196 rfl ?_
        refine V_iload_n 3 dL_law_197 rfl ?_
        refine V_iconst dL_law_198 rfl ?_
        obtain ⟨hv34, E⟩ := mmK_e E
        refine V_iadd dL_law_199 ?_
        obtain ⟨hv35, E⟩ := mmK_e E
        refine V_sld (L := L) (xs := xs) (j := ((l3 + 2)).toNat) dL_law_200 hv34 hv35 rfl ?_
        refine V_aload_n 0 dL_law_201 rfl ?_
        refine V_iload_n 3 dL_law_202 rfl ?_
        refine V_iconst dL_law_203 rfl ?_
        obtain ⟨hv36, E⟩ := mmK_e E
        refine V_iadd dL_law_204 ?_
        obtain ⟨hv37, E⟩ := mmK_e E
        refine V_sld (L := L) (xs := xs) (j := ((l3 + 3)).toNat) dL_law_205 hv36 hv37 rfl ?_
        obtain ⟨q38, hq38, E⟩ := mmB_e E
        refine V_callV (ci := 4) (q := (RX4, TX4, 12)) (Cn := RX4) (st := [vi q30.1]) 3 dL_law_206 (ct_X4_replace (inR_t _) (inR_t _) (inR_t _) hq38) ml_XL_21 im_X4_replace sl_X4_replace it_X4 cd_X4_replace hy_X4_replace ⟨rfl, rfl, by decide, by decide⟩ sh_51 rfl rfl rfl rfl (Nat.le_of_ble_eq_true rfl) (fun hv39 => ?_)
        refine V_icmp_eq 620 dL_law_209 (by decide) hv31 hv39 (fun c40 => ?_) (fun c40 => ?_)
        · replace E := mmI_t c40 E
          obtain ⟨hv41, E⟩ := mmK_e E
          refine V_iinc (v := (l3 + 4)) (lv' := [(0, .ref 58), (1, .ref 0), (2, .ref 51), (3, vi (l3 + 4))]) 3 dL_law_620 rfl rfl rfl rfl ?_
          refine V_goto 18 dL_law_623 (by decide) ?_
          exact ih _ _ hv41 E
        · replace E := mmI_f c40 E
          refine V_iconst dL_law_212 rfl ?_
          obtain rfl := Option.some.inj E
          exact V_reti dL_law_213 ⟨rfl, rfl, (Or.inl rfl)⟩
      replace E := mmI_f c23 E
      by_cases c42 : ((xs (l3).toNat).toInt % 32) = 2
      · replace E := mmI_t c42 E
        refine V_tableIn 2 214 dL_law_32 c42 (by decide) (by decide) rfl (by decide) ?_
        refine V_aload_n 1 dL_law_214 rfl ?_
        refine V_aload_n 0 dL_law_215 rfl ?_
        refine V_iload_n 3 dL_law_216 rfl ?_
        refine V_iconst dL_law_217 rfl ?_
        obtain ⟨hv43, E⟩ := mmK_e E
        refine V_iadd dL_law_218 ?_
        obtain ⟨hv44, E⟩ := mmK_e E
        refine V_sld (L := L) (xs := xs) (j := ((l3 + 1)).toNat) dL_law_219 hv43 hv44 rfl ?_
        obtain ⟨q45, hq45, E⟩ := mmB_e E
        refine V_callV (ci := 3) (q := (RX3, TX3, 6)) (Cn := RX3) (st := []) 1 dL_law_220 (ct_X3_remove (inR_t _) hq45) ml_XL_22 im_X3_remove sl_X3_remove it_X3 cd_X3_remove hy_X3_remove ⟨rfl, rfl, by decide, by decide⟩ sh_0 rfl rfl rfl rfl (Nat.le_of_ble_eq_true rfl) (fun hv46 => ?_)
        refine V_aload_n 2 dL_law_223 rfl ?_
        refine V_aload_n 0 dL_law_224 rfl ?_
        refine V_iload_n 3 dL_law_225 rfl ?_
        refine V_iconst dL_law_226 rfl ?_
        obtain ⟨hv47, E⟩ := mmK_e E
        refine V_iadd dL_law_227 ?_
        obtain ⟨hv48, E⟩ := mmK_e E
        refine V_sld (L := L) (xs := xs) (j := ((l3 + 1)).toNat) dL_law_228 hv47 hv48 rfl ?_
        obtain ⟨q49, hq49, E⟩ := mmB_e E
        refine V_callV (ci := 4) (q := (RX4, TX4, 12)) (Cn := RX4) (st := [vi q45.1]) 1 dL_law_229 (ct_X4_remove (inR_t _) hq49) ml_XL_26 im_X4_remove sl_X4_remove it_X4 cd_X4_remove hy_X4_remove ⟨rfl, rfl, by decide, by decide⟩ sh_51 rfl rfl rfl rfl (Nat.le_of_ble_eq_true rfl) (fun hv50 => ?_)
        refine V_icmp_eq 620 dL_law_232 (by decide) hv46 hv50 (fun c51 => ?_) (fun c51 => ?_)
        · replace E := mmI_t c51 E
          obtain ⟨hv52, E⟩ := mmK_e E
          refine V_iinc (v := (l3 + 4)) (lv' := [(0, .ref 58), (1, .ref 0), (2, .ref 51), (3, vi (l3 + 4))]) 3 dL_law_620 rfl rfl rfl rfl ?_
          refine V_goto 18 dL_law_623 (by decide) ?_
          exact ih _ _ hv52 E
        · replace E := mmI_f c51 E
          refine V_iconst dL_law_235 rfl ?_
          obtain rfl := Option.some.inj E
          exact V_reti dL_law_236 ⟨rfl, rfl, (Or.inl rfl)⟩
      replace E := mmI_f c42 E
      by_cases c53 : ((xs (l3).toNat).toInt % 32) = 3
      · replace E := mmI_t c53 E
        refine V_tableIn 3 237 dL_law_32 c53 (by decide) (by decide) rfl (by decide) ?_
        refine V_aload_n 1 dL_law_237 rfl ?_
        refine V_aload_n 0 dL_law_238 rfl ?_
        refine V_iload_n 3 dL_law_239 rfl ?_
        refine V_iconst dL_law_240 rfl ?_
        obtain ⟨hv54, E⟩ := mmK_e E
        refine V_iadd dL_law_241 ?_
        obtain ⟨hv55, E⟩ := mmK_e E
        refine V_sld (L := L) (xs := xs) (j := ((l3 + 1)).toNat) dL_law_242 hv54 hv55 rfl ?_
        refine V_aload_n 0 dL_law_243 rfl ?_
        refine V_iload_n 3 dL_law_244 rfl ?_
        refine V_iconst dL_law_245 rfl ?_
        obtain ⟨hv56, E⟩ := mmK_e E
        refine V_iadd dL_law_246 ?_
        obtain ⟨hv57, E⟩ := mmK_e E
        refine V_sld (L := L) (xs := xs) (j := ((l3 + 2)).toNat) dL_law_247 hv56 hv57 rfl ?_
        obtain ⟨q58, hq58, E⟩ := mmB_e E
        refine V_callV (ci := 3) (q := (RX3, TX3, 6)) (Cn := RX3) (st := []) 2 dL_law_248 (ct_X3_rename (inR_t _) (inR_t _) hq58) ml_XL_27 im_X3_rename sl_X3_rename it_X3 cd_X3_rename hy_X3_rename ⟨rfl, rfl, by decide, by decide⟩ sh_0 rfl rfl rfl rfl (Nat.le_of_ble_eq_true rfl) (fun hv59 => ?_)
        refine V_aload_n 2 dL_law_251 rfl ?_
        refine V_aload_n 0 dL_law_252 rfl ?_
        refine V_iload_n 3 dL_law_253 rfl ?_
        refine V_iconst dL_law_254 rfl ?_
        obtain ⟨hv60, E⟩ := mmK_e E
        refine V_iadd dL_law_255 ?_
        obtain ⟨hv61, E⟩ := mmK_e E
        refine V_sld (L := L) (xs := xs) (j := ((l3 + 1)).toNat) dL_law_256 hv60 hv61 rfl ?_
        refine V_aload_n 0 dL_law_257 rfl ?_
        refine V_iload_n 3 dL_law_258 rfl ?_
        refine V_iconst dL_law_259 rfl ?_
        obtain ⟨hv62, E⟩ := mmK_e E
        refine V_iadd dL_law_260 ?_
        obtain ⟨hv63, E⟩ := mmK_e E
        refine V_sld (L := L) (xs := xs) (j := ((l3 + 2)).toNat) dL_law_261 hv62 hv63 rfl ?_
        obtain ⟨q64, hq64, E⟩ := mmB_e E
        refine V_callV (ci := 4) (q := (RX4, TX4, 12)) (Cn := RX4) (st := [vi q58.1]) 2 dL_law_262 (ct_X4_rename (inR_t _) (inR_t _) hq64) ml_XL_31 im_X4_rename sl_X4_rename it_X4 cd_X4_rename hy_X4_rename ⟨rfl, rfl, by decide, by decide⟩ sh_51 rfl rfl rfl rfl (Nat.le_of_ble_eq_true rfl) (fun hv65 => ?_)
        refine V_icmp_eq 620 dL_law_265 (by decide) hv59 hv65 (fun c66 => ?_) (fun c66 => ?_)
        · replace E := mmI_t c66 E
          obtain ⟨hv67, E⟩ := mmK_e E
          refine V_iinc (v := (l3 + 4)) (lv' := [(0, .ref 58), (1, .ref 0), (2, .ref 51), (3, vi (l3 + 4))]) 3 dL_law_620 rfl rfl rfl rfl ?_
          refine V_goto 18 dL_law_623 (by decide) ?_
          exact ih _ _ hv67 E
        · replace E := mmI_f c66 E
          refine V_iconst dL_law_268 rfl ?_
          obtain rfl := Option.some.inj E
          exact V_reti dL_law_269 ⟨rfl, rfl, (Or.inl rfl)⟩
      replace E := mmI_f c53 E
      by_cases c68 : ((xs (l3).toNat).toInt % 32) = 4
      · replace E := mmI_t c68 E
        refine V_tableIn 4 270 dL_law_32 c68 (by decide) (by decide) rfl (by decide) ?_
        refine V_aload_n 1 dL_law_270 rfl ?_
        refine V_aload_n 0 dL_law_271 rfl ?_
        refine V_iload_n 3 dL_law_272 rfl ?_
        refine V_iconst dL_law_273 rfl ?_
        obtain ⟨hv69, E⟩ := mmK_e E
        refine V_iadd dL_law_274 ?_
        obtain ⟨hv70, E⟩ := mmK_e E
        refine V_sld (L := L) (xs := xs) (j := ((l3 + 1)).toNat) dL_law_275 hv69 hv70 rfl ?_
        refine V_aload_n 0 dL_law_276 rfl ?_
        refine V_iload_n 3 dL_law_277 rfl ?_
        refine V_iconst dL_law_278 rfl ?_
        obtain ⟨hv71, E⟩ := mmK_e E
        refine V_iadd dL_law_279 ?_
        obtain ⟨hv72, E⟩ := mmK_e E
        refine V_sld (L := L) (xs := xs) (j := ((l3 + 2)).toNat) dL_law_280 hv71 hv72 rfl ?_
        obtain ⟨q73, hq73, E⟩ := mmB_e E
        refine V_callV (ci := 3) (q := (RX3, TX3, 6)) (Cn := RX3) (st := []) 2 dL_law_281 (ct_X3_alias (inR_t _) (inR_t _) hq73) ml_XL_32 im_X3_alias sl_X3_alias it_X3 cd_X3_alias hy_X3_alias ⟨rfl, rfl, by decide, by decide⟩ sh_0 rfl rfl rfl rfl (Nat.le_of_ble_eq_true rfl) (fun hv74 => ?_)
        refine V_aload_n 2 dL_law_284 rfl ?_
        refine V_aload_n 0 dL_law_285 rfl ?_
        refine V_iload_n 3 dL_law_286 rfl ?_
        refine V_iconst dL_law_287 rfl ?_
        obtain ⟨hv75, E⟩ := mmK_e E
        refine V_iadd dL_law_288 ?_
        obtain ⟨hv76, E⟩ := mmK_e E
        refine V_sld (L := L) (xs := xs) (j := ((l3 + 1)).toNat) dL_law_289 hv75 hv76 rfl ?_
        refine V_aload_n 0 dL_law_290 rfl ?_
        refine V_iload_n 3 dL_law_291 rfl ?_
        refine V_iconst dL_law_292 rfl ?_
        obtain ⟨hv77, E⟩ := mmK_e E
        refine V_iadd dL_law_293 ?_
        obtain ⟨hv78, E⟩ := mmK_e E
        refine V_sld (L := L) (xs := xs) (j := ((l3 + 2)).toNat) dL_law_294 hv77 hv78 rfl ?_
        obtain ⟨q79, hq79, E⟩ := mmB_e E
        refine V_callV (ci := 4) (q := (RX4, TX4, 12)) (Cn := RX4) (st := [vi q73.1]) 2 dL_law_295 (ct_X4_alias (inR_t _) (inR_t _) hq79) ml_XL_35 im_X4_alias sl_X4_alias it_X4 cd_X4_alias hy_X4_alias ⟨rfl, rfl, by decide, by decide⟩ sh_51 rfl rfl rfl rfl (Nat.le_of_ble_eq_true rfl) (fun hv80 => ?_)
        refine V_icmp_eq 620 dL_law_298 (by decide) hv74 hv80 (fun c81 => ?_) (fun c81 => ?_)
        · replace E := mmI_t c81 E
          obtain ⟨hv82, E⟩ := mmK_e E
          refine V_iinc (v := (l3 + 4)) (lv' := [(0, .ref 58), (1, .ref 0), (2, .ref 51), (3, vi (l3 + 4))]) 3 dL_law_620 rfl rfl rfl rfl ?_
          refine V_goto 18 dL_law_623 (by decide) ?_
          exact ih _ _ hv82 E
        · replace E := mmI_f c81 E
          refine V_iconst dL_law_301 rfl ?_
          obtain rfl := Option.some.inj E
          exact V_reti dL_law_302 ⟨rfl, rfl, (Or.inl rfl)⟩
      replace E := mmI_f c68 E
      by_cases c83 : ((xs (l3).toNat).toInt % 32) = 5
      · replace E := mmI_t c83 E
        refine V_tableIn 5 303 dL_law_32 c83 (by decide) (by decide) rfl (by decide) ?_
        refine V_aload_n 1 dL_law_303 rfl ?_
        obtain ⟨q84, hq84, E⟩ := mmB_e E
        refine V_callV (ci := 3) (q := (RX3, TX3, 6)) (Cn := RX3) (st := []) 0 dL_law_304 (ct_X3_addAll hq84) ml_XL_36 im_X3_addAll sl_X3_addAll it_X3 cd_X3_addAll hy_X3_addAll ⟨rfl, rfl, by decide, by decide⟩ sh_0 rfl rfl rfl rfl (Nat.le_of_ble_eq_true rfl) (fun hv85 => ?_)
        refine V_aload_n 2 dL_law_307 rfl ?_
        obtain ⟨q86, hq86, E⟩ := mmB_e E
        refine V_callV (ci := 4) (q := (RX4, TX4, 12)) (Cn := RX4) (st := [vi q84.1]) 0 dL_law_308 (ct_X4_addAll hq86) ml_XL_40 im_X4_addAll sl_X4_addAll it_X4 cd_X4_addAll hy_X4_addAll ⟨rfl, rfl, by decide, by decide⟩ sh_51 rfl rfl rfl rfl (Nat.le_of_ble_eq_true rfl) (fun hv87 => ?_)
        refine V_icmp_eq 620 dL_law_311 (by decide) hv85 hv87 (fun c88 => ?_) (fun c88 => ?_)
        · replace E := mmI_t c88 E
          obtain ⟨hv89, E⟩ := mmK_e E
          refine V_iinc (v := (l3 + 4)) (lv' := [(0, .ref 58), (1, .ref 0), (2, .ref 51), (3, vi (l3 + 4))]) 3 dL_law_620 rfl rfl rfl rfl ?_
          refine V_goto 18 dL_law_623 (by decide) ?_
          exact ih _ _ hv89 E
        · replace E := mmI_f c88 E
          refine V_iconst dL_law_314 rfl ?_
          obtain rfl := Option.some.inj E
          exact V_reti dL_law_315 ⟨rfl, rfl, (Or.inl rfl)⟩
      replace E := mmI_f c83 E
      by_cases c90 : ((xs (l3).toNat).toInt % 32) = 6
      · replace E := mmI_t c90 E
        refine V_tableIn 6 316 dL_law_32 c90 (by decide) (by decide) rfl (by decide) ?_
        refine V_aload_n 1 dL_law_316 rfl ?_
        obtain ⟨q91, hq91, E⟩ := mmB_e E
        refine V_callV (ci := 3) (q := (RX3, TX3, 6)) (Cn := RX3) (st := []) 0 dL_law_317 (ct_X3_squeeze hq91) ml_XL_41 im_X3_squeeze sl_X3_squeeze it_X3 cd_X3_squeeze hy_X3_squeeze ⟨rfl, rfl, by decide, by decide⟩ sh_0 rfl rfl rfl rfl (Nat.le_of_ble_eq_true rfl) (fun hv92 => ?_)
        refine V_aload_n 2 dL_law_320 rfl ?_
        obtain ⟨q93, hq93, E⟩ := mmB_e E
        refine V_callV (ci := 4) (q := (RX4, TX4, 12)) (Cn := RX4) (st := [vi q91.1]) 0 dL_law_321 (ct_X4_squeeze hq93) ml_XL_44 im_X4_squeeze sl_X4_squeeze it_X4 cd_X4_squeeze hy_X4_squeeze ⟨rfl, rfl, by decide, by decide⟩ sh_51 rfl rfl rfl rfl (Nat.le_of_ble_eq_true rfl) (fun hv94 => ?_)
        refine V_icmp_eq 620 dL_law_324 (by decide) hv92 hv94 (fun c95 => ?_) (fun c95 => ?_)
        · replace E := mmI_t c95 E
          obtain ⟨hv96, E⟩ := mmK_e E
          refine V_iinc (v := (l3 + 4)) (lv' := [(0, .ref 58), (1, .ref 0), (2, .ref 51), (3, vi (l3 + 4))]) 3 dL_law_620 rfl rfl rfl rfl ?_
          refine V_goto 18 dL_law_623 (by decide) ?_
          exact ih _ _ hv96 E
        · replace E := mmI_f c95 E
          refine V_iconst dL_law_327 rfl ?_
          obtain rfl := Option.some.inj E
          exact V_reti dL_law_328 ⟨rfl, rfl, (Or.inl rfl)⟩
      replace E := mmI_f c90 E
      by_cases c97 : ((xs (l3).toNat).toInt % 32) = 7
      · replace E := mmI_t c97 E
        refine V_tableIn 7 329 dL_law_32 c97 (by decide) (by decide) rfl (by decide) ?_
        refine V_aload_n 1 dL_law_329 rfl ?_
        refine V_aload_n 0 dL_law_330 rfl ?_
        refine V_iload_n 3 dL_law_331 rfl ?_
        refine V_iconst dL_law_332 rfl ?_
        obtain ⟨hv98, E⟩ := mmK_e E
        refine V_iadd dL_law_333 ?_
        obtain ⟨hv99, E⟩ := mmK_e E
        refine V_sld (L := L) (xs := xs) (j := ((l3 + 1)).toNat) dL_law_334 hv98 hv99 rfl ?_
        obtain ⟨q100, hq100, E⟩ := mmB_e E
        refine V_callV (ci := 3) (q := (RX3, TX3, 6)) (Cn := RX3) (st := []) 1 dL_law_335 (ct_X3_makeAnew (inR_t _) hq100) ml_XL_45 im_X3_makeAnew sl_X3_makeAnew it_X3 cd_X3_makeAnew hy_X3_makeAnew ⟨rfl, rfl, by decide, by decide⟩ sh_0 rfl rfl rfl rfl (Nat.le_of_ble_eq_true rfl) (fun hv101 => ?_)
        refine V_aload_n 2 dL_law_338 rfl ?_
        refine V_aload_n 0 dL_law_339 rfl ?_
        refine V_iload_n 3 dL_law_340 rfl ?_
        refine V_iconst dL_law_341 rfl ?_
        obtain ⟨hv102, E⟩ := mmK_e E
        refine V_iadd dL_law_342 ?_
        obtain ⟨hv103, E⟩ := mmK_e E
        refine V_sld (L := L) (xs := xs) (j := ((l3 + 1)).toNat) dL_law_343 hv102 hv103 rfl ?_
        obtain ⟨q104, hq104, E⟩ := mmB_e E
        refine V_callV (ci := 4) (q := (RX4, TX4, 12)) (Cn := RX4) (st := [vi q100.1]) 1 dL_law_344 (ct_X4_makeAnew (inR_t _) hq104) ml_XL_48 im_X4_makeAnew sl_X4_makeAnew it_X4 cd_X4_makeAnew hy_X4_makeAnew ⟨rfl, rfl, by decide, by decide⟩ sh_51 rfl rfl rfl rfl (Nat.le_of_ble_eq_true rfl) (fun hv105 => ?_)
        refine V_icmp_eq 620 dL_law_347 (by decide) hv101 hv105 (fun c106 => ?_) (fun c106 => ?_)
        · replace E := mmI_t c106 E
          obtain ⟨hv107, E⟩ := mmK_e E
          refine V_iinc (v := (l3 + 4)) (lv' := [(0, .ref 58), (1, .ref 0), (2, .ref 51), (3, vi (l3 + 4))]) 3 dL_law_620 rfl rfl rfl rfl ?_
          refine V_goto 18 dL_law_623 (by decide) ?_
          exact ih _ _ hv107 E
        · replace E := mmI_f c106 E
          refine V_iconst dL_law_350 rfl ?_
          obtain rfl := Option.some.inj E
          exact V_reti dL_law_351 ⟨rfl, rfl, (Or.inl rfl)⟩
      replace E := mmI_f c97 E
      by_cases c108 : ((xs (l3).toNat).toInt % 32) = 8
      · replace E := mmI_t c108 E
        refine V_tableIn 8 352 dL_law_32 c108 (by decide) (by decide) rfl (by decide) ?_
        refine V_aload_n 1 dL_law_352 rfl ?_
        refine V_aload_n 0 dL_law_353 rfl ?_
        refine V_iload_n 3 dL_law_354 rfl ?_
        refine V_iconst dL_law_355 rfl ?_
        obtain ⟨hv109, E⟩ := mmK_e E
        refine V_iadd dL_law_356 ?_
        obtain ⟨hv110, E⟩ := mmK_e E
        refine V_sld (L := L) (xs := xs) (j := ((l3 + 1)).toNat) dL_law_357 hv109 hv110 rfl ?_
        refine V_i2c dL_law_358 ?_
        obtain ⟨q111, hq111, E⟩ := mmB_e E
        refine V_callV (ci := 3) (q := (RX3, TX3, 6)) (Cn := RX3) (st := []) 1 dL_law_359 (ct_X3_type (inR_modc _) hq111) ml_XL_49 im_X3_type sl_X3_type it_X3 cd_X3_type hy_X3_type ⟨rfl, rfl, by decide, by decide⟩ sh_0 rfl rfl rfl rfl (Nat.le_of_ble_eq_true rfl) (fun hv112 => ?_)
        refine V_aload_n 2 dL_law_362 rfl ?_
        refine V_aload_n 0 dL_law_363 rfl ?_
        refine V_iload_n 3 dL_law_364 rfl ?_
        refine V_iconst dL_law_365 rfl ?_
        obtain ⟨hv113, E⟩ := mmK_e E
        refine V_iadd dL_law_366 ?_
        obtain ⟨hv114, E⟩ := mmK_e E
        refine V_sld (L := L) (xs := xs) (j := ((l3 + 1)).toNat) dL_law_367 hv113 hv114 rfl ?_
        refine V_i2c dL_law_368 ?_
        obtain ⟨q115, hq115, E⟩ := mmB_e E
        refine V_callV (ci := 4) (q := (RX4, TX4, 12)) (Cn := RX4) (st := [vi q111.1]) 1 dL_law_369 (ct_X4_type (inR_modc _) hq115) ml_XL_53 im_X4_type sl_X4_type it_X4 cd_X4_type hy_X4_type ⟨rfl, rfl, by decide, by decide⟩ sh_51 rfl rfl rfl rfl (Nat.le_of_ble_eq_true rfl) (fun hv116 => ?_)
        refine V_icmp_eq 620 dL_law_372 (by decide) hv112 hv116 (fun c117 => ?_) (fun c117 => ?_)
        · replace E := mmI_t c117 E
          obtain ⟨hv118, E⟩ := mmK_e E
          refine V_iinc (v := (l3 + 4)) (lv' := [(0, .ref 58), (1, .ref 0), (2, .ref 51), (3, vi (l3 + 4))]) 3 dL_law_620 rfl rfl rfl rfl ?_
          refine V_goto 18 dL_law_623 (by decide) ?_
          exact ih _ _ hv118 E
        · replace E := mmI_f c117 E
          refine V_iconst dL_law_375 rfl ?_
          obtain rfl := Option.some.inj E
          exact V_reti dL_law_376 ⟨rfl, rfl, (Or.inl rfl)⟩
      replace E := mmI_f c108 E
      by_cases c119 : ((xs (l3).toNat).toInt % 32) = 9
      · replace E := mmI_t c119 E
        refine V_tableIn 9 377 dL_law_32 c119 (by decide) (by decide) rfl (by decide) ?_
        refine V_aload_n 1 dL_law_377 rfl ?_
        obtain ⟨q120, hq120, E⟩ := mmB_e E
        refine V_callV (ci := 3) (q := (RX3, TX3, 6)) (Cn := RX3) (st := []) 0 dL_law_378 (ct_X3_clearPad hq120) ml_XL_54 im_X3_clearPad sl_X3_clearPad it_X3 cd_X3_clearPad hy_X3_clearPad ⟨rfl, rfl, by decide, by decide⟩ sh_0 rfl rfl rfl rfl (Nat.le_of_ble_eq_true rfl) (fun hv121 => ?_)
        refine V_aload_n 2 dL_law_381 rfl ?_
        obtain ⟨q122, hq122, E⟩ := mmB_e E
        refine V_callV (ci := 4) (q := (RX4, TX4, 12)) (Cn := RX4) (st := [vi q120.1]) 0 dL_law_382 (ct_X4_clearPad hq122) ml_XL_57 im_X4_clearPad sl_X4_clearPad it_X4 cd_X4_clearPad hy_X4_clearPad ⟨rfl, rfl, by decide, by decide⟩ sh_51 rfl rfl rfl rfl (Nat.le_of_ble_eq_true rfl) (fun hv123 => ?_)
        refine V_icmp_eq 620 dL_law_385 (by decide) hv121 hv123 (fun c124 => ?_) (fun c124 => ?_)
        · replace E := mmI_t c124 E
          obtain ⟨hv125, E⟩ := mmK_e E
          refine V_iinc (v := (l3 + 4)) (lv' := [(0, .ref 58), (1, .ref 0), (2, .ref 51), (3, vi (l3 + 4))]) 3 dL_law_620 rfl rfl rfl rfl ?_
          refine V_goto 18 dL_law_623 (by decide) ?_
          exact ih _ _ hv125 E
        · replace E := mmI_f c124 E
          refine V_iconst dL_law_388 rfl ?_
          obtain rfl := Option.some.inj E
          exact V_reti dL_law_389 ⟨rfl, rfl, (Or.inl rfl)⟩
      replace E := mmI_f c119 E
      by_cases c126 : ((xs (l3).toNat).toInt % 32) = 10
      · replace E := mmI_t c126 E
        refine V_tableIn 10 390 dL_law_32 c126 (by decide) (by decide) rfl (by decide) ?_
        refine V_aload_n 1 dL_law_390 rfl ?_
        obtain ⟨q127, hq127, E⟩ := mmB_e E
        refine V_callV (ci := 3) (q := (RX3, TX3, 6)) (Cn := RX3) (st := []) 0 dL_law_391 (ct_X3_undo hq127) ml_XL_58 im_X3_undo sl_X3_undo it_X3 cd_X3_undo hy_X3_undo ⟨rfl, rfl, by decide, by decide⟩ sh_0 rfl rfl rfl rfl (Nat.le_of_ble_eq_true rfl) (fun hv128 => ?_)
        refine V_aload_n 2 dL_law_394 rfl ?_
        obtain ⟨q129, hq129, E⟩ := mmB_e E
        refine V_callV (ci := 4) (q := (RX4, TX4, 12)) (Cn := RX4) (st := [vi q127.1]) 0 dL_law_395 (ct_X4_undo hq129) ml_XL_61 im_X4_undo sl_X4_undo it_X4 cd_X4_undo hy_X4_undo ⟨rfl, rfl, by decide, by decide⟩ sh_51 rfl rfl rfl rfl (Nat.le_of_ble_eq_true rfl) (fun hv130 => ?_)
        refine V_icmp_eq 620 dL_law_398 (by decide) hv128 hv130 (fun c131 => ?_) (fun c131 => ?_)
        · replace E := mmI_t c131 E
          obtain ⟨hv132, E⟩ := mmK_e E
          refine V_iinc (v := (l3 + 4)) (lv' := [(0, .ref 58), (1, .ref 0), (2, .ref 51), (3, vi (l3 + 4))]) 3 dL_law_620 rfl rfl rfl rfl ?_
          refine V_goto 18 dL_law_623 (by decide) ?_
          exact ih _ _ hv132 E
        · replace E := mmI_f c131 E
          refine V_iconst dL_law_401 rfl ?_
          obtain rfl := Option.some.inj E
          exact V_reti dL_law_402 ⟨rfl, rfl, (Or.inl rfl)⟩
      replace E := mmI_f c126 E
      by_cases c133 : ((xs (l3).toNat).toInt % 32) = 11
      · replace E := mmI_t c133 E
        refine V_tableIn 11 403 dL_law_32 c133 (by decide) (by decide) rfl (by decide) ?_
        refine V_aload_n 1 dL_law_403 rfl ?_
        obtain ⟨q134, hq134, E⟩ := mmB_e E
        refine V_callV (ci := 3) (q := (RX3, TX3, 6)) (Cn := RX3) (st := []) 0 dL_law_404 (ct_X3_keep hq134) ml_XL_62 im_X3_keep sl_X3_keep it_X3 cd_X3_keep hy_X3_keep ⟨rfl, rfl, by decide, by decide⟩ sh_0 rfl rfl rfl rfl (Nat.le_of_ble_eq_true rfl) (fun hv135 => ?_)
        refine V_aload_n 2 dL_law_407 rfl ?_
        obtain ⟨q136, hq136, E⟩ := mmB_e E
        refine V_callV (ci := 4) (q := (RX4, TX4, 12)) (Cn := RX4) (st := [vi q134.1]) 0 dL_law_408 (ct_X4_keep hq136) ml_XL_65 im_X4_keep sl_X4_keep it_X4 cd_X4_keep hy_X4_keep ⟨rfl, rfl, by decide, by decide⟩ sh_51 rfl rfl rfl rfl (Nat.le_of_ble_eq_true rfl) (fun hv137 => ?_)
        refine V_icmp_eq 620 dL_law_411 (by decide) hv135 hv137 (fun c138 => ?_) (fun c138 => ?_)
        · replace E := mmI_t c138 E
          obtain ⟨hv139, E⟩ := mmK_e E
          refine V_iinc (v := (l3 + 4)) (lv' := [(0, .ref 58), (1, .ref 0), (2, .ref 51), (3, vi (l3 + 4))]) 3 dL_law_620 rfl rfl rfl rfl ?_
          refine V_goto 18 dL_law_623 (by decide) ?_
          exact ih _ _ hv139 E
        · replace E := mmI_f c138 E
          refine V_iconst dL_law_414 rfl ?_
          obtain rfl := Option.some.inj E
          exact V_reti dL_law_415 ⟨rfl, rfl, (Or.inl rfl)⟩
      replace E := mmI_f c133 E
      by_cases c140 : ((xs (l3).toNat).toInt % 32) = 12
      · replace E := mmI_t c140 E
        refine V_tableIn 12 416 dL_law_32 c140 (by decide) (by decide) rfl (by decide) ?_
        refine V_aload_n 1 dL_law_416 rfl ?_
        obtain ⟨q141, hq141, E⟩ := mmB_e E
        refine V_callV (ci := 3) (q := (RX3, TX3, 6)) (Cn := RX3) (st := []) 0 dL_law_417 (ct_X3_restore hq141) ml_XL_66 im_X3_restore sl_X3_restore it_X3 cd_X3_restore hy_X3_restore ⟨rfl, rfl, by decide, by decide⟩ sh_0 rfl rfl rfl rfl (Nat.le_of_ble_eq_true rfl) (fun hv142 => ?_)
        refine V_aload_n 2 dL_law_420 rfl ?_
        obtain ⟨q143, hq143, E⟩ := mmB_e E
        refine V_callV (ci := 4) (q := (RX4, TX4, 12)) (Cn := RX4) (st := [vi q141.1]) 0 dL_law_421 (ct_X4_restore hq143) ml_XL_69 im_X4_restore sl_X4_restore it_X4 cd_X4_restore hy_X4_restore ⟨rfl, rfl, by decide, by decide⟩ sh_51 rfl rfl rfl rfl (Nat.le_of_ble_eq_true rfl) (fun hv144 => ?_)
        refine V_icmp_eq 620 dL_law_424 (by decide) hv142 hv144 (fun c145 => ?_) (fun c145 => ?_)
        · replace E := mmI_t c145 E
          obtain ⟨hv146, E⟩ := mmK_e E
          refine V_iinc (v := (l3 + 4)) (lv' := [(0, .ref 58), (1, .ref 0), (2, .ref 51), (3, vi (l3 + 4))]) 3 dL_law_620 rfl rfl rfl rfl ?_
          refine V_goto 18 dL_law_623 (by decide) ?_
          exact ih _ _ hv146 E
        · replace E := mmI_f c145 E
          refine V_iconst dL_law_427 rfl ?_
          obtain rfl := Option.some.inj E
          exact V_reti dL_law_428 ⟨rfl, rfl, (Or.inl rfl)⟩
      replace E := mmI_f c140 E
      by_cases c147 : ((xs (l3).toNat).toInt % 32) = 13
      · replace E := mmI_t c147 E
        refine V_tableIn 13 429 dL_law_32 c147 (by decide) (by decide) rfl (by decide) ?_
        refine V_aload_n 1 dL_law_429 rfl ?_
        refine V_aload_n 0 dL_law_430 rfl ?_
        refine V_iload_n 3 dL_law_431 rfl ?_
        refine V_iconst dL_law_432 rfl ?_
        obtain ⟨hv148, E⟩ := mmK_e E
        refine V_iadd dL_law_433 ?_
        obtain ⟨hv149, E⟩ := mmK_e E
        refine V_sld (L := L) (xs := xs) (j := ((l3 + 1)).toNat) dL_law_434 hv148 hv149 rfl ?_
        refine V_aload_n 0 dL_law_435 rfl ?_
        refine V_iload_n 3 dL_law_436 rfl ?_
        refine V_iconst dL_law_437 rfl ?_
        obtain ⟨hv150, E⟩ := mmK_e E
        refine V_iadd dL_law_438 ?_
        obtain ⟨hv151, E⟩ := mmK_e E
        refine V_sld (L := L) (xs := xs) (j := ((l3 + 2)).toNat) dL_law_439 hv150 hv151 rfl ?_
        obtain ⟨q152, hq152, E⟩ := mmB_e E
        refine V_callV (ci := 3) (q := (RX3, TX3, 6)) (Cn := RX3) (st := []) 2 dL_law_440 (ct_X3_entry (inR_t _) (inR_t _) hq152) ml_XL_70 im_X3_entry sl_X3_entry it_X3 cd_X3_entry hy_X3_entry ⟨rfl, rfl, by decide, by decide⟩ sh_0 rfl rfl rfl rfl (Nat.le_of_ble_eq_true rfl) (fun hv153 => ?_)
        refine V_aload_n 2 dL_law_443 rfl ?_
        refine V_aload_n 0 dL_law_444 rfl ?_
        refine V_iload_n 3 dL_law_445 rfl ?_
        refine V_iconst dL_law_446 rfl ?_
        obtain ⟨hv154, E⟩ := mmK_e E
        refine V_iadd dL_law_447 ?_
        obtain ⟨hv155, E⟩ := mmK_e E
        refine V_sld (L := L) (xs := xs) (j := ((l3 + 1)).toNat) dL_law_448 hv154 hv155 rfl ?_
        refine V_aload_n 0 dL_law_449 rfl ?_
        refine V_iload_n 3 dL_law_450 rfl ?_
        refine V_iconst dL_law_451 rfl ?_
        obtain ⟨hv156, E⟩ := mmK_e E
        refine V_iadd dL_law_452 ?_
        obtain ⟨hv157, E⟩ := mmK_e E
        refine V_sld (L := L) (xs := xs) (j := ((l3 + 2)).toNat) dL_law_453 hv156 hv157 rfl ?_
        obtain ⟨q158, hq158, E⟩ := mmB_e E
        refine V_callV (ci := 4) (q := (RX4, TX4, 12)) (Cn := RX4) (st := [vi q152.1]) 2 dL_law_454 (ct_X4_entry (inR_t _) (inR_t _) hq158) ml_XL_73 im_X4_entry sl_X4_entry it_X4 cd_X4_entry hy_X4_entry ⟨rfl, rfl, by decide, by decide⟩ sh_51 rfl rfl rfl rfl (Nat.le_of_ble_eq_true rfl) (fun hv159 => ?_)
        refine V_icmp_eq 620 dL_law_457 (by decide) hv153 hv159 (fun c160 => ?_) (fun c160 => ?_)
        · replace E := mmI_t c160 E
          obtain ⟨hv161, E⟩ := mmK_e E
          refine V_iinc (v := (l3 + 4)) (lv' := [(0, .ref 58), (1, .ref 0), (2, .ref 51), (3, vi (l3 + 4))]) 3 dL_law_620 rfl rfl rfl rfl ?_
          refine V_goto 18 dL_law_623 (by decide) ?_
          exact ih _ _ hv161 E
        · replace E := mmI_f c160 E
          refine V_iconst dL_law_460 rfl ?_
          obtain rfl := Option.some.inj E
          exact V_reti dL_law_461 ⟨rfl, rfl, (Or.inl rfl)⟩
      replace E := mmI_f c147 E
      by_cases c162 : ((xs (l3).toNat).toInt % 32) = 14
      · replace E := mmI_t c162 E
        refine V_tableIn 14 462 dL_law_32 c162 (by decide) (by decide) rfl (by decide) ?_
        refine V_aload_n 1 dL_law_462 rfl ?_
        refine V_aload_n 0 dL_law_463 rfl ?_
        refine V_iload_n 3 dL_law_464 rfl ?_
        refine V_iconst dL_law_465 rfl ?_
        obtain ⟨hv163, E⟩ := mmK_e E
        refine V_iadd dL_law_466 ?_
        obtain ⟨hv164, E⟩ := mmK_e E
        refine V_sld (L := L) (xs := xs) (j := ((l3 + 1)).toNat) dL_law_467 hv163 hv164 rfl ?_
        obtain ⟨q165, hq165, E⟩ := mmB_e E
        refine V_callV (ci := 3) (q := (RX3, TX3, 6)) (Cn := RX3) (st := []) 1 dL_law_468 (ct_X3_named (inR_t _) hq165) ml_XL_74 im_X3_named sl_X3_named it_X3 cd_X3_named hy_X3_named ⟨rfl, rfl, by decide, by decide⟩ sh_0 rfl rfl rfl rfl (Nat.le_of_ble_eq_true rfl) (fun hv166 => ?_)
        refine V_aload_n 2 dL_law_471 rfl ?_
        refine V_aload_n 0 dL_law_472 rfl ?_
        refine V_iload_n 3 dL_law_473 rfl ?_
        refine V_iconst dL_law_474 rfl ?_
        obtain ⟨hv167, E⟩ := mmK_e E
        refine V_iadd dL_law_475 ?_
        obtain ⟨hv168, E⟩ := mmK_e E
        refine V_sld (L := L) (xs := xs) (j := ((l3 + 1)).toNat) dL_law_476 hv167 hv168 rfl ?_
        obtain ⟨q169, hq169, E⟩ := mmB_e E
        refine V_callV (ci := 4) (q := (RX4, TX4, 12)) (Cn := RX4) (st := [vi q165.1]) 1 dL_law_477 (ct_X4_named (inR_t _) hq169) ml_XL_77 im_X4_named sl_X4_named it_X4 cd_X4_named hy_X4_named ⟨rfl, rfl, by decide, by decide⟩ sh_51 rfl rfl rfl rfl (Nat.le_of_ble_eq_true rfl) (fun hv170 => ?_)
        refine V_icmp_eq 620 dL_law_480 (by decide) hv166 hv170 (fun c171 => ?_) (fun c171 => ?_)
        · replace E := mmI_t c171 E
          obtain ⟨hv172, E⟩ := mmK_e E
          refine V_iinc (v := (l3 + 4)) (lv' := [(0, .ref 58), (1, .ref 0), (2, .ref 51), (3, vi (l3 + 4))]) 3 dL_law_620 rfl rfl rfl rfl ?_
          refine V_goto 18 dL_law_623 (by decide) ?_
          exact ih _ _ hv172 E
        · replace E := mmI_f c171 E
          refine V_iconst dL_law_483 rfl ?_
          obtain rfl := Option.some.inj E
          exact V_reti dL_law_484 ⟨rfl, rfl, (Or.inl rfl)⟩
      replace E := mmI_f c162 E
      by_cases c173 : ((xs (l3).toNat).toInt % 32) = 15
      · replace E := mmI_t c173 E
        refine V_tableIn 15 485 dL_law_32 c173 (by decide) (by decide) rfl (by decide) ?_
        refine V_aload_n 1 dL_law_485 rfl ?_
        refine V_aload_n 0 dL_law_486 rfl ?_
        refine V_iload_n 3 dL_law_487 rfl ?_
        refine V_iconst dL_law_488 rfl ?_
        obtain ⟨hv174, E⟩ := mmK_e E
        refine V_iadd dL_law_489 ?_
        obtain ⟨hv175, E⟩ := mmK_e E
        refine V_sld (L := L) (xs := xs) (j := ((l3 + 1)).toNat) dL_law_490 hv174 hv175 rfl ?_
        refine V_aload_n 0 dL_law_491 rfl ?_
        refine V_iload_n 3 dL_law_492 rfl ?_
        refine V_iconst dL_law_493 rfl ?_
        obtain ⟨hv176, E⟩ := mmK_e E
        refine V_iadd dL_law_494 ?_
        obtain ⟨hv177, E⟩ := mmK_e E
        refine V_sld (L := L) (xs := xs) (j := ((l3 + 2)).toNat) dL_law_495 hv176 hv177 rfl ?_
        obtain ⟨q178, hq178, E⟩ := mmB_e E
        refine V_callV (ci := 3) (q := (RX3, TX3, 6)) (Cn := RX3) (st := []) 2 dL_law_496 (ct_X3_block (inR_t _) (inR_t _) hq178) ml_XL_78 im_X3_block sl_X3_block it_X3 cd_X3_block hy_X3_block ⟨rfl, rfl, by decide, by decide⟩ sh_0 rfl rfl rfl rfl (Nat.le_of_ble_eq_true rfl) (fun hv179 => ?_)
        refine V_aload_n 2 dL_law_499 rfl ?_
        refine V_aload_n 0 dL_law_500 rfl ?_
        refine V_iload_n 3 dL_law_501 rfl ?_
        refine V_iconst dL_law_502 rfl ?_
        obtain ⟨hv180, E⟩ := mmK_e E
        refine V_iadd dL_law_503 ?_
        obtain ⟨hv181, E⟩ := mmK_e E
        refine V_sld (L := L) (xs := xs) (j := ((l3 + 1)).toNat) dL_law_504 hv180 hv181 rfl ?_
        refine V_aload_n 0 dL_law_505 rfl ?_
        refine V_iload_n 3 dL_law_506 rfl ?_
        refine V_iconst dL_law_507 rfl ?_
        obtain ⟨hv182, E⟩ := mmK_e E
        refine V_iadd dL_law_508 ?_
        obtain ⟨hv183, E⟩ := mmK_e E
        refine V_sld (L := L) (xs := xs) (j := ((l3 + 2)).toNat) dL_law_509 hv182 hv183 rfl ?_
        obtain ⟨q184, hq184, E⟩ := mmB_e E
        refine V_callV (ci := 4) (q := (RX4, TX4, 12)) (Cn := RX4) (st := [vi q178.1]) 2 dL_law_510 (ct_X4_block (inR_t _) (inR_t _) hq184) ml_XL_81 im_X4_block sl_X4_block it_X4 cd_X4_block hy_X4_block ⟨rfl, rfl, by decide, by decide⟩ sh_51 rfl rfl rfl rfl (Nat.le_of_ble_eq_true rfl) (fun hv185 => ?_)
        refine V_icmp_eq 620 dL_law_513 (by decide) hv179 hv185 (fun c186 => ?_) (fun c186 => ?_)
        · replace E := mmI_t c186 E
          obtain ⟨hv187, E⟩ := mmK_e E
          refine V_iinc (v := (l3 + 4)) (lv' := [(0, .ref 58), (1, .ref 0), (2, .ref 51), (3, vi (l3 + 4))]) 3 dL_law_620 rfl rfl rfl rfl ?_
          refine V_goto 18 dL_law_623 (by decide) ?_
          exact ih _ _ hv187 E
        · replace E := mmI_f c186 E
          refine V_iconst dL_law_516 rfl ?_
          obtain rfl := Option.some.inj E
          exact V_reti dL_law_517 ⟨rfl, rfl, (Or.inl rfl)⟩
      replace E := mmI_f c173 E
      by_cases c188 : ((xs (l3).toNat).toInt % 32) = 16
      · replace E := mmI_t c188 E
        refine V_tableIn 16 518 dL_law_32 c188 (by decide) (by decide) rfl (by decide) ?_
        refine V_aload_n 1 dL_law_518 rfl ?_
        refine V_aload_n 0 dL_law_519 rfl ?_
        refine V_iload_n 3 dL_law_520 rfl ?_
        refine V_iconst dL_law_521 rfl ?_
        obtain ⟨hv189, E⟩ := mmK_e E
        refine V_iadd dL_law_522 ?_
        obtain ⟨hv190, E⟩ := mmK_e E
        refine V_sld (L := L) (xs := xs) (j := ((l3 + 1)).toNat) dL_law_523 hv189 hv190 rfl ?_
        obtain ⟨q191, hq191, E⟩ := mmB_e E
        refine V_callV (ci := 3) (q := (RX3, TX3, 6)) (Cn := RX3) (st := []) 1 dL_law_524 (ct_X3_at (inR_t _) hq191) ml_XL_82 im_X3_at sl_X3_at it_X3 cd_X3_at hy_X3_at ⟨rfl, rfl, by decide, by decide⟩ sh_0 rfl rfl rfl rfl (Nat.le_of_ble_eq_true rfl) (fun hv192 => ?_)
        refine V_aload_n 2 dL_law_527 rfl ?_
        refine V_aload_n 0 dL_law_528 rfl ?_
        refine V_iload_n 3 dL_law_529 rfl ?_
        refine V_iconst dL_law_530 rfl ?_
        obtain ⟨hv193, E⟩ := mmK_e E
        refine V_iadd dL_law_531 ?_
        obtain ⟨hv194, E⟩ := mmK_e E
        refine V_sld (L := L) (xs := xs) (j := ((l3 + 1)).toNat) dL_law_532 hv193 hv194 rfl ?_
        obtain ⟨q195, hq195, E⟩ := mmB_e E
        refine V_callV (ci := 4) (q := (RX4, TX4, 12)) (Cn := RX4) (st := [vi q191.1]) 1 dL_law_533 (ct_X4_at (inR_t _) hq195) ml_XL_85 im_X4_at sl_X4_at it_X4 cd_X4_at hy_X4_at ⟨rfl, rfl, by decide, by decide⟩ sh_51 rfl rfl rfl rfl (Nat.le_of_ble_eq_true rfl) (fun hv196 => ?_)
        refine V_icmp_eq 620 dL_law_536 (by decide) hv192 hv196 (fun c197 => ?_) (fun c197 => ?_)
        · replace E := mmI_t c197 E
          obtain ⟨hv198, E⟩ := mmK_e E
          refine V_iinc (v := (l3 + 4)) (lv' := [(0, .ref 58), (1, .ref 0), (2, .ref 51), (3, vi (l3 + 4))]) 3 dL_law_620 rfl rfl rfl rfl ?_
          refine V_goto 18 dL_law_623 (by decide) ?_
          exact ih _ _ hv198 E
        · replace E := mmI_f c197 E
          refine V_iconst dL_law_539 rfl ?_
          obtain rfl := Option.some.inj E
          exact V_reti dL_law_540 ⟨rfl, rfl, (Or.inl rfl)⟩
      replace E := mmI_f c188 E
      by_cases c199 : ((xs (l3).toNat).toInt % 32) = 17
      · replace E := mmI_t c199 E
        refine V_tableIn 17 541 dL_law_32 c199 (by decide) (by decide) rfl (by decide) ?_
        refine V_aload_n 1 dL_law_541 rfl ?_
        refine V_aload_n 0 dL_law_542 rfl ?_
        refine V_iload_n 3 dL_law_543 rfl ?_
        refine V_iconst dL_law_544 rfl ?_
        obtain ⟨hv200, E⟩ := mmK_e E
        refine V_iadd dL_law_545 ?_
        obtain ⟨hv201, E⟩ := mmK_e E
        refine V_sld (L := L) (xs := xs) (j := ((l3 + 1)).toNat) dL_law_546 hv200 hv201 rfl ?_
        obtain ⟨q202, hq202, E⟩ := mmB_e E
        refine V_callV (ci := 3) (q := (RX3, TX3, 6)) (Cn := RX3) (st := []) 1 dL_law_547 (ct_X3_fits (inR_t _) hq202) ml_XL_86 im_X3_fits sl_X3_fits it_X3 cd_X3_fits hy_X3_fits ⟨rfl, rfl, by decide, by decide⟩ sh_0 rfl rfl rfl rfl (Nat.le_of_ble_eq_true rfl) (fun hv203 => ?_)
        refine V_aload_n 2 dL_law_550 rfl ?_
        refine V_aload_n 0 dL_law_551 rfl ?_
        refine V_iload_n 3 dL_law_552 rfl ?_
        refine V_iconst dL_law_553 rfl ?_
        obtain ⟨hv204, E⟩ := mmK_e E
        refine V_iadd dL_law_554 ?_
        obtain ⟨hv205, E⟩ := mmK_e E
        refine V_sld (L := L) (xs := xs) (j := ((l3 + 1)).toNat) dL_law_555 hv204 hv205 rfl ?_
        obtain ⟨q206, hq206, E⟩ := mmB_e E
        refine V_callV (ci := 4) (q := (RX4, TX4, 12)) (Cn := RX4) (st := [vi q202.1]) 1 dL_law_556 (ct_X4_fits (inR_t _) hq206) ml_XL_89 im_X4_fits sl_X4_fits it_X4 cd_X4_fits hy_X4_fits ⟨rfl, rfl, by decide, by decide⟩ sh_51 rfl rfl rfl rfl (Nat.le_of_ble_eq_true rfl) (fun hv207 => ?_)
        refine V_icmp_eq 620 dL_law_559 (by decide) hv203 hv207 (fun c208 => ?_) (fun c208 => ?_)
        · replace E := mmI_t c208 E
          obtain ⟨hv209, E⟩ := mmK_e E
          refine V_iinc (v := (l3 + 4)) (lv' := [(0, .ref 58), (1, .ref 0), (2, .ref 51), (3, vi (l3 + 4))]) 3 dL_law_620 rfl rfl rfl rfl ?_
          refine V_goto 18 dL_law_623 (by decide) ?_
          exact ih _ _ hv209 E
        · replace E := mmI_f c208 E
          refine V_iconst dL_law_562 rfl ?_
          obtain rfl := Option.some.inj E
          exact V_reti dL_law_563 ⟨rfl, rfl, (Or.inl rfl)⟩
      replace E := mmI_f c199 E
      by_cases c210 : ((xs (l3).toNat).toInt % 32) = 18
      · replace E := mmI_t c210 E
        refine V_tableIn 18 564 dL_law_32 c210 (by decide) (by decide) rfl (by decide) ?_
        refine V_aload_n 1 dL_law_564 rfl ?_
        refine V_aload_n 0 dL_law_565 rfl ?_
        refine V_iload_n 3 dL_law_566 rfl ?_
        refine V_iconst dL_law_567 rfl ?_
        obtain ⟨hv211, E⟩ := mmK_e E
        refine V_iadd dL_law_568 ?_
        obtain ⟨hv212, E⟩ := mmK_e E
        refine V_sld (L := L) (xs := xs) (j := ((l3 + 1)).toNat) dL_law_569 hv211 hv212 rfl ?_
        refine V_aload_n 0 dL_law_570 rfl ?_
        refine V_iload_n 3 dL_law_571 rfl ?_
        refine V_iconst dL_law_572 rfl ?_
        obtain ⟨hv213, E⟩ := mmK_e E
        refine V_iadd dL_law_573 ?_
        obtain ⟨hv214, E⟩ := mmK_e E
        refine V_sld (L := L) (xs := xs) (j := ((l3 + 2)).toNat) dL_law_574 hv213 hv214 rfl ?_
        obtain ⟨q215, hq215, E⟩ := mmB_e E
        refine V_callV (ci := 3) (q := (RX3, TX3, 6)) (Cn := RX3) (st := []) 2 dL_law_575 (ct_X3_beginning (inR_t _) (inR_t _) hq215) ml_XL_90 im_X3_beginning sl_X3_beginning it_X3 cd_X3_beginning hy_X3_beginning ⟨rfl, rfl, by decide, by decide⟩ sh_0 rfl rfl rfl rfl (Nat.le_of_ble_eq_true rfl) (fun hv216 => ?_)
        refine V_aload_n 2 dL_law_578 rfl ?_
        refine V_aload_n 0 dL_law_579 rfl ?_
        refine V_iload_n 3 dL_law_580 rfl ?_
        refine V_iconst dL_law_581 rfl ?_
        obtain ⟨hv217, E⟩ := mmK_e E
        refine V_iadd dL_law_582 ?_
        obtain ⟨hv218, E⟩ := mmK_e E
        refine V_sld (L := L) (xs := xs) (j := ((l3 + 1)).toNat) dL_law_583 hv217 hv218 rfl ?_
        refine V_aload_n 0 dL_law_584 rfl ?_
        refine V_iload_n 3 dL_law_585 rfl ?_
        refine V_iconst dL_law_586 rfl ?_
        obtain ⟨hv219, E⟩ := mmK_e E
        refine V_iadd dL_law_587 ?_
        obtain ⟨hv220, E⟩ := mmK_e E
        refine V_sld (L := L) (xs := xs) (j := ((l3 + 2)).toNat) dL_law_588 hv219 hv220 rfl ?_
        obtain ⟨q221, hq221, E⟩ := mmB_e E
        refine V_callV (ci := 4) (q := (RX4, TX4, 12)) (Cn := RX4) (st := [vi q215.1]) 2 dL_law_589 (ct_X4_beginning (inR_t _) (inR_t _) hq221) ml_XL_93 im_X4_beginning sl_X4_beginning it_X4 cd_X4_beginning hy_X4_beginning ⟨rfl, rfl, by decide, by decide⟩ sh_51 rfl rfl rfl rfl (Nat.le_of_ble_eq_true rfl) (fun hv222 => ?_)
        refine V_icmp_eq 620 dL_law_592 (by decide) hv216 hv222 (fun c223 => ?_) (fun c223 => ?_)
        · replace E := mmI_t c223 E
          obtain ⟨hv224, E⟩ := mmK_e E
          refine V_iinc (v := (l3 + 4)) (lv' := [(0, .ref 58), (1, .ref 0), (2, .ref 51), (3, vi (l3 + 4))]) 3 dL_law_620 rfl rfl rfl rfl ?_
          refine V_goto 18 dL_law_623 (by decide) ?_
          exact ih _ _ hv224 E
        · replace E := mmI_f c223 E
          refine V_iconst dL_law_595 rfl ?_
          obtain rfl := Option.some.inj E
          exact V_reti dL_law_596 ⟨rfl, rfl, (Or.inl rfl)⟩
      replace E := mmI_f c210 E
      by_cases c225 : ((xs (l3).toNat).toInt % 32) = 19
      · replace E := mmI_t c225 E
        refine V_tableIn 19 597 dL_law_32 c225 (by decide) (by decide) rfl (by decide) ?_
        refine V_aload_n 1 dL_law_597 rfl ?_
        refine V_aload_n 0 dL_law_598 rfl ?_
        refine V_iload_n 3 dL_law_599 rfl ?_
        refine V_iconst dL_law_600 rfl ?_
        obtain ⟨hv226, E⟩ := mmK_e E
        refine V_iadd dL_law_601 ?_
        obtain ⟨hv227, E⟩ := mmK_e E
        refine V_sld (L := L) (xs := xs) (j := ((l3 + 1)).toNat) dL_law_602 hv226 hv227 rfl ?_
        obtain ⟨q228, hq228, E⟩ := mmB_e E
        refine V_callV (ci := 3) (q := (RX3, TX3, 6)) (Cn := RX3) (st := []) 1 dL_law_603 (ct_X3_count (inR_t _) hq228) ml_XL_94 im_X3_count sl_X3_count it_X3 cd_X3_count hy_X3_count ⟨rfl, rfl, by decide, by decide⟩ sh_0 rfl rfl rfl rfl (Nat.le_of_ble_eq_true rfl) (fun hv229 => ?_)
        refine V_aload_n 2 dL_law_606 rfl ?_
        refine V_aload_n 0 dL_law_607 rfl ?_
        refine V_iload_n 3 dL_law_608 rfl ?_
        refine V_iconst dL_law_609 rfl ?_
        obtain ⟨hv230, E⟩ := mmK_e E
        refine V_iadd dL_law_610 ?_
        obtain ⟨hv231, E⟩ := mmK_e E
        refine V_sld (L := L) (xs := xs) (j := ((l3 + 1)).toNat) dL_law_611 hv230 hv231 rfl ?_
        obtain ⟨q232, hq232, E⟩ := mmB_e E
        refine V_callV (ci := 4) (q := (RX4, TX4, 12)) (Cn := RX4) (st := [vi q228.1]) 1 dL_law_612 (ct_X4_count (inR_t _) hq232) ml_XL_97 im_X4_count sl_X4_count it_X4 cd_X4_count hy_X4_count ⟨rfl, rfl, by decide, by decide⟩ sh_51 rfl rfl rfl rfl (Nat.le_of_ble_eq_true rfl) (fun hv233 => ?_)
        refine V_icmp_eq 620 dL_law_615 (by decide) hv229 hv233 (fun c234 => ?_) (fun c234 => ?_)
        · replace E := mmI_t c234 E
          obtain ⟨hv235, E⟩ := mmK_e E
          refine V_iinc (v := (l3 + 4)) (lv' := [(0, .ref 58), (1, .ref 0), (2, .ref 51), (3, vi (l3 + 4))]) 3 dL_law_620 rfl rfl rfl rfl ?_
          refine V_goto 18 dL_law_623 (by decide) ?_
          exact ih _ _ hv235 E
        · replace E := mmI_f c234 E
          refine V_iconst dL_law_618 rfl ?_
          obtain rfl := Option.some.inj E
          exact V_reti dL_law_619 ⟨rfl, rfl, (Or.inl rfl)⟩
      replace E := mmI_f c225 E
      refine V_tableOut 620 dL_law_32 (inR_mod32 _) (by omega) (by decide) ?_
      obtain ⟨hv236, E⟩ := mmK_e E
      refine V_iinc (v := (l3 + 4)) (lv' := [(0, .ref 58), (1, .ref 0), (2, .ref 51), (3, vi (l3 + 4))]) 3 dL_law_620 rfl rfl rfl rfl ?_
      refine V_goto 18 dL_law_623 (by decide) ?_
      exact ih _ _ hv236 E
