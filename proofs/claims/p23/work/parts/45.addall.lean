/-! ADDITIONS BY THE PAD -/
def txt (X l K : Int) : List Int := [65 + X / 26, 65 + X % 26, 61] ++ (dg l ++ (44 :: dg K))
theorem txt_rg {X l K : Int} (hX : 0 ≤ X ∧ X < 676) (hl : 0 ≤ l ∧ l ≤ 9999) (hK : 0 ≤ K ∧ K ≤ 9999) : RG (txt X l K) := by
  have h1 := dg_len l
  have h2 := dg_len K
  unfold txt
  refine ⟨by simp; omega, fun x hx => ?_⟩
  rcases List.mem_append.mp hx with h | h
  · simp at h
    omega
  · rcases List.mem_append.mp h with h | h
    · exact dg_rg hl x h
    · rcases List.mem_cons.mp h with h | h
      · omega
      · exact dg_rg hK x h
section PR2
variable {m : Mem} {X l K : Int}
theorem let_c {cs : List Int} (hp : RG cs) (hB : BL m cs) (i : Nat) {c : Int} (e : nl cs i = c) (hc : 65 ≤ c ∧ c ≤ 90) : f_X1_readLetter (pp m (i : Nat)) = some (c - 65, pp m ((i + 1 : Nat) : Int)) := by
  have en : nx cs.length (fun j => cs.getD j 0) i = c := e
  have := c_let_t hp.pr hB i (by rw [en]; exact hc)
  rw [en] at this
  exact this
theorem tk_c {cs : List Int} (hp : RG cs) (hB : BL m cs) (i : Nat) {c : Int} (e : nl cs i = c) (hc : 0 ≤ c) : f_X1_takes c (pp m (i : Nat)) = some (1, pp m ((i + 1 : Nat) : Int)) := c_tk_t hp.pr hB i hc e
theorem pad_rd (hX : 0 ≤ X ∧ X < 676) (hl : 1 ≤ l ∧ l ≤ 40) (hK : 0 ≤ K ∧ K ≤ 9999) (hB0 : BL m (txt X l K)) : ∃ m', f_X1_readAdditions m = some (-1, m') ∧ PK m m' ∧ m'.1 45 1 = m.1 45 1 ∧ m'.1 45 6 = 1 ∧ m'.1 47 0 = X ∧ m'.1 48 0 = -5 ∧ m'.1 49 0 = l ∧ m'.1 50 0 = K := by
  have hp := txt_rg hX (show 0 ≤ l ∧ l ≤ 9999 by omega) hK
  obtain ⟨m0, hm0⟩ : ∃ w, w = mwr m 45 6 0 := ⟨_, rfl⟩
  have hB : BL m0 (txt X l K) := by
    subst hm0
    exact ⟨by rw [mwr_self, if_neg (by decide)]; exact hB0.1, fun i hi => by rw [mwr_ne (by decide)]; exact hB0.2 i hi⟩
  have h6 : m0.1 45 6 = 0 := by subst hm0; rw [mwr_self, if_pos rfl]
  have h1 : m0.1 45 1 = m.1 45 1 := by subst hm0; rw [mwr_self, if_neg (by decide)]
  have k0 : PK m m0 := by subst hm0; exact PK.wr (by decide)
  have e0 : nl (txt X l K) 0 = 65 + X / 26 := nl_0 _ _
  have e1 : nl (txt X l K) 1 = 65 + X % 26 := by
    unfold txt
    simp only [List.cons_append, nl_s, nl_0]
  have e2 : nl (txt X l K) 2 = 61 := by
    unfold txt
    simp only [List.cons_append, nl_s, nl_0]
  have t1 : txt X l K = [65 + X / 26, 65 + X % 26, 61] ++ (dg l ++ (44 :: dg K)) := rfl
  have t2 : txt X l K = ([65 + X / 26, 65 + X % 26, 61] ++ (dg l ++ [44])) ++ (dg K ++ []) := by simp [txt]
  have ec : nl (txt X l K) (3 + (dg l).length) = 44 := by
    have h := nl_app ([65 + X / 26, 65 + X % 26, 61] ++ dg l) (44 :: dg K) 0
    rw [nl_0, List.append_assoc] at h
    simp only [List.length_append, List.length_cons, List.length_nil, Nat.add_zero, Nat.zero_add] at h
    exact h
  have n1 : f_X1_readNumber 1 40 (pp m0 ((3 : Nat) : Int)) = some (l, pp m0 ((3 + (dg l).length : Nat) : Int)) := by
    have h := num_rd (m := m0) (lo := 1) (hv := 40) (u := [65 + X / 26, 65 + X % 26, 61]) (r := 44 :: dg K) (v := l) hp hB (by omega) (by omega) (by rw [nl_0]; omega)
    exact h
  have n2 : f_X1_readNumber 0 9999 (pp m0 ((3 + (dg l).length + 1 : Nat) : Int)) = some (K, pp m0 ((3 + (dg l).length + 1 + (dg K).length : Nat) : Int)) := by
    have h := num_rd (m := m0) (lo := 0) (hv := 9999) (u := [65 + X / 26, 65 + X % 26, 61] ++ (dg l ++ [44])) (r := []) (v := K) (by rw [← t2]; exact hp) (by rw [← t2]; exact hB) (by omega) (by omega) (by rw [nl_n]; omega)
    have hq : (([65 + X / 26, 65 + X % 26, 61] ++ (dg l ++ [44]) : List Int)).length = 3 + (dg l).length + 1 := by simp; omega
    rw [hq] at h
    exact h
  have hlen : (txt X l K).length = 3 + (dg l).length + 1 + (dg K).length := by unfold txt; simp; omega
  have h60 := hp.1
  have rd : f_X1_readAddition (pp m0 ((0 : Nat) : Int)) = some (1, mwr (mwr (mwr (mwr (mwr (pp m0 ((3 + (dg l).length + 1 + (dg K).length : Nat) : Int)) 47 0 X) 48 0 (-5)) 49 0 l) 50 0 K) 45 6 1) := by
    have rn : f_X1_readName (pp m0 ((0 : Nat) : Int)) = some (X, pp m0 ((2 : Nat) : Int)) := by
      unfold f_X1_readName
      rw [bd_ (let_c hp hB 0 e0 (by omega))]
      dsimp only
      rw [if_neg (by omega), bd_ (let_c hp hB 1 e1 (by omega))]
      dsimp only
      rw [if_neg (by omega), mmK_p (by constructor <;> omega), mmK_p (by constructor <;> omega), show (65 + X / 26 - 65) * 26 + (65 + X % 26 - 65) = X by omega]
    have rm : f_X1_readMember X (pp m0 ((3 : Nat) : Int)) = some (1, mwr (mwr (mwr (mwr (mwr (pp m0 ((3 + (dg l).length + 1 + (dg K).length : Nat) : Int)) 47 0 X) 48 0 (-5)) 49 0 l) 50 0 K) 45 6 1) := by
      unfold f_X1_readMember
      rw [bd_ n1]
      dsimp only
      rw [if_neg (by omega), bd_ (tk_c hp hB _ ec (by decide))]
      dsimp only
      rw [if_neg (by decide), bd_ n2]
      dsimp only
      unfold f_X1_readMember_L35 f_X1_noteAddition
      rw [if_neg (by omega), pp6, h6, if_pos (by decide), mmK_p (by decide), mmK_p (by decide), mmK_p (by decide), mmK_p (by decide), mmK_p (by decide)]
      rfl
    unfold f_X1_readAddition
    rw [bd_ rn]
    dsimp only
    rw [if_neg (by omega), bd_ (tk_c hp hB 2 e2 (by decide))]
    dsimp only
    rw [if_neg (by decide), bd_ rm]
    dsimp only
    rw [mmK_p (Or.inr rfl)]
  refine ⟨mwr (mwr (mwr (mwr (mwr (pp m0 ((3 + (dg l).length + 1 + (dg K).length : Nat) : Int)) 47 0 X) 48 0 (-5)) 49 0 l) 50 0 K) 45 6 1, ?_, ((((((k0.tr (PK.wr (by decide))).tr (PK.wr (by decide))).tr (PK.wr (by decide))).tr (PK.wr (by decide))).tr (PK.wr (by decide))).tr (PK.wr (by decide))), ?_, ?_, ?_, ?_, ?_, ?_⟩
  · unfold f_X1_readAdditions
    rw [show mwr (mwr m 45 6 0) 45 7 0 = pp m0 ((0 : Nat) : Int) by rw [hm0]; rfl, show mmFU = 999 + 1 from rfl, f_X1_readAdditions_L12, if_neg (by decide), bd_ rd]
    dsimp only
    rw [if_neg (by decide), if_neg]
    rw [mwr_self, if_neg (by decide), mwr_self, if_neg (by decide), mwr_ne (by decide), mwr_ne (by decide), mwr_ne (by decide), mwr_ne (by decide), pp7, pp1, hB.1, hlen]
    omega
  · rw [mwr_self, if_neg (by decide), mwr_ne (by decide), mwr_ne (by decide), mwr_ne (by decide), mwr_ne (by decide)]
    exact pp1.trans h1
  · rw [mwr_self, if_pos rfl]
  · rw [mwr_ne (by decide), mwr_ne (by decide), mwr_ne (by decide), mwr_ne (by decide), mwr_self, if_pos rfl]
  · rw [mwr_ne (by decide), mwr_ne (by decide), mwr_ne (by decide), mwr_self, if_pos rfl]
  · rw [mwr_ne (by decide), mwr_ne (by decide), mwr_self, if_pos rfl]
  · rw [mwr_ne (by decide), mwr_self, if_pos rfl]
theorem add_n5 {A : AS} {N : Int} (w : wfA A N) : (addF A X l K).1 ≠ -5 := by
  have hw := w.1
  unfold addF
  by_cases h1 : ¬ (0 ≤ X ∧ X < 676) ∨ ¬ (1 ≤ l ∧ l ≤ 40) ∨ ¬ (0 ≤ K ∧ K ≤ 9999)
  · rw [cIf_t h1]
    show (-2 : Int) ≠ -5
    decide
  rw [cIf_f h1]
  by_cases h2 : hasN A X
  · rw [cIf_t h2]
    show (-7 : Int) ≠ -5
    decide
  rw [cIf_f h2]
  by_cases h3 : ¬ (A.1 : Int) < 4 * A.2.2 0
  · rw [cIf_t h3]
    show (-6 : Int) ≠ -5
    decide
  rw [cIf_f h3]
  by_cases h4 : ¬ A.2.2 1 + l ≤ 100
  · rw [cIf_t h4]
    show (-3 : Int) ≠ -5
    decide
  rw [cIf_f h4]
  show A.2.2 1 ≠ -5
  omega
theorem mk_ok {A : AS} {N : Int} (hr : repS m 7 A) (w : wfA A N) (f6 : m.1 45 6 = 1) (f7 : m.1 47 0 = X) (f8 : m.1 48 0 = -5) (f9 : m.1 49 0 = l) (f0 : m.1 50 0 = K) : ∃ m', f_X1_makeAdditions 7 m = some (cIf ((addF A X l K).1 < 0) (addF A X l K).1 1, m') ∧ frm 7 12 m m' ∧ repS m' 7 (addF A X l K).2 := by
  obtain ⟨m1, e1, f1, r1⟩ := add_cls (x := X) (l := l) (k := K) hr w
  have h5 := add_n5 (X := X) (l := l) (K := K) w
  refine ⟨m1, ?_, f1, r1⟩
  unfold f_X1_makeAdditions
  rw [show mmFU = 998 + 1 + 1 from rfl, f_X1_makeAdditions_L2, if_neg (by omega), if_neg (by decide), mmK_p (by decide), show (0 : Int).toNat = 0 from rfl, if_pos f8, mmK_p (by decide), mmK_p (by decide), mmK_p (by decide), f7, f9, f0, bd_ e1]
  dsimp only
  by_cases z : (addF A X l K).1 < 0
  · rw [if_neg (by omega), if_neg h5, cIf_t z]
  · rw [if_pos (by omega), mmK_p (by decide), cIf_f z, f_X1_makeAdditions_L2, f1.1 45 (by decide), f6, if_pos (by decide)]
theorem adl_ok {A : AS} {hn : Nat} {H : Nat → AS} {N : Int} (h : SO m A hn H) (w : wfA A N) (hX : 0 ≤ X ∧ X < 676) (hl : 1 ≤ l ∧ l ≤ 40) (hK : 0 ≤ K ∧ K ≤ 9999) (hB : BL m (txt X l K)) : ∃ m', f_X3_addAll m = some (cIf ((addF A X l K).1 < 0) (addF A X l K).1 1, m') ∧ m'.1 45 1 = m.1 45 1 ∧ ((addF A X l K).1 < 0 → SO m' A hn H) ∧ (0 ≤ (addF A X l K).1 → SO m' (addF A X l K).2 (pushN hn) (pushH hn H A)) := by
  obtain ⟨s, h⟩ := h
  obtain ⟨m1, e1, k1, q1, q6, q7, q8, q9, q0⟩ := pad_rd hX hl hK hB
  have h1 := h.pk k1
  obtain ⟨m2, e2, f2, r2⟩ := copy_ok 7 1 m1 (by omega)
  have ho := r2 A w.n24 h1.1
  obtain ⟨m3, e3, f3, r3⟩ := mk_ok (X := X) (l := l) (K := K) ho w (by rw [f2.1 45 (by decide)]; exact q6) (by rw [f2.1 47 (by decide)]; exact q7) (by rw [f2.1 48 (by decide)]; exact q8) (by rw [f2.1 49 (by decide)]; exact q9) (by rw [f2.1 50 (by decide)]; exact q0)
  have f23 := f2.tr f3
  obtain ⟨c1, c2, c3, c4⟩ := id h1
  have hc : CS m3 A hn H 0 s := ⟨c1.fr f23 (by omega), c2.keep (fun c g1 g2 => f23.1 c (by omega)) f23.2, by rw [f23.1 0 (by omega)]; exact c3, fun e => absurd e (by decide)⟩
  obtain ⟨m4, e4, k4, n4, p4⟩ := settle_ok hc w.n24 r3 (wf_addF w).n24 (cIf ((addF A X l K).1 < 0) (addF A X l K).1 1)
  refine ⟨m4, ?_, by rw [k4 45 (by decide), f23.1 45 (by decide)]; exact q1, fun q => ⟨s, n4 (by rw [cIf_t q]; exact q)⟩, fun q => ⟨s, p4 (by rw [cIf_f (by omega)]; decide)⟩⟩
  unfold f_X3_addAll
  rw [bd_ e1]
  dsimp only
  rw [if_pos rfl, bd_ e2]
  rw [bd_ e3]
  dsimp only
  rw [bd_ e4]
end PR2
section LP
variable {m : Mem2} {cs : List Int}
theorem typP {c : Int} (h : BL m.2 cs) (hl : cs.length < 60) (hc : 0 ≤ c ∧ c ≤ 65535) : ∃ m2, mmP (f_X3_type c) m = some ((cs.length : Int) + 1, (m.1, m2)) ∧ PK m.2 m2 ∧ BL m2 (cs ++ [c]) := by
  obtain ⟨m2, e, k, b⟩ := typ_ok h hl hc
  exact ⟨m2, mmP_s e, k, b⟩
theorem name_ok {X : Int} (h : BL m.2 cs) (hl : cs.length + 2 ≤ 60) (hX : 0 ≤ X ∧ X < 676) : ∃ m2, f_L_name X m = some (1, (m.1, m2)) ∧ PK m.2 m2 ∧ BL m2 (cs ++ [65 + X / 26] ++ [65 + X % 26]) := by
  obtain ⟨m1, e1, k1, b1⟩ := typP (c := 65 + X / 26) h (by omega) (by omega)
  obtain ⟨m2, e2, k2, b2⟩ := typP (m := (m.1, m1)) (c := 65 + X % 26) b1 (by rw [List.length_append]; simp; omega) (by omega)
  refine ⟨m2, ?_, k1.tr k2, b2⟩
  unfold f_L_name
  rw [mmK_p (by omega), mmK_p (by constructor <;> omega), mmK_p (by constructor <;> omega), show (65 + X / 26) % 65536 = 65 + X / 26 by omega, bd_ e1]
  dsimp only
  rw [if_neg (by omega), mmK_p (by omega), mmK_p (by constructor <;> omega), show (65 + X % 26) % 65536 = 65 + X % 26 by omega, bd_ e2]
  dsimp only
  rw [if_neg (by omega)]
theorem nu_s {v b : Int} (n : Nat) (h : BL m.2 cs) (hl : cs.length < 60) (hv : 0 ≤ v ∧ v ≤ 9999) (hb : 1 ≤ b ∧ b ≤ 1000) : ∃ m2, f_L_number_L39 (n + 1) v 1 b m = f_L_number_L39 n v 1 (b / 10) (m.1, m2) ∧ PK m.2 m2 ∧ BL m2 (cs ++ [48 + v / b % 10]) := by
  have q1 : 0 ≤ v / b := Int.ediv_nonneg hv.1 (by omega)
  have q2 : v / b ≤ v := Int.ediv_le_self _ hv.1
  obtain ⟨m2, e2, k2, b2⟩ := typP (c := 48 + v / b % 10) h hl (by omega)
  refine ⟨m2, ?_, k2, b2⟩
  rw [f_L_number_L39, if_neg (by omega), if_neg (by decide), mmK_p (by omega), mmK_p (by constructor <;> omega), mmK_p (by omega), mmK_p (by constructor <;> omega), show (48 + v / b % 10) % 65536 = 48 + v / b % 10 by omega, bd_ e2]
  dsimp only
  rw [if_neg (by omega), mmK_p (by omega), mmK_p (by constructor <;> omega)]
theorem nu_e {v : Int} (n : Nat) : f_L_number_L39 (n + 1) v 1 0 m = some (1, m) := by
  rw [f_L_number_L39, if_pos (by decide), mmK_p (Or.inr rfl)]
theorem number_ok {v : Int} (h : BL m.2 cs) (hl : cs.length + 4 ≤ 60) (hv : 0 ≤ v ∧ v ≤ 9999) : ∃ m2, f_L_number v m = some (1, (m.1, m2)) ∧ PK m.2 m2 ∧ BL m2 (cs ++ dg v) := by
  have s1 : ∀ (n : Nat) (m : Mem2) (cs : List Int), BL m.2 cs → cs.length < 60 → ∃ m2, f_L_number_L39 (n + 1 + 1) v 1 1 m = some (1, (m.1, m2)) ∧ PK m.2 m2 ∧ BL m2 (cs ++ [48 + v % 10]) := by
    intro n m cs h hl
    obtain ⟨m1, e1, k1, b1⟩ := nu_s (b := 1) (n + 1) h hl hv (by decide)
    rw [show v / 1 % 10 = v % 10 by omega] at b1
    rw [show (1 : Int) / 10 = 0 from rfl, nu_e] at e1
    exact ⟨m1, e1, k1, b1⟩
  have s2 : ∀ (n : Nat) (m : Mem2) (cs : List Int), BL m.2 cs → cs.length + 2 ≤ 60 → ∃ m2, f_L_number_L39 (n + 1 + 1 + 1) v 1 10 m = some (1, (m.1, m2)) ∧ PK m.2 m2 ∧ BL m2 (cs ++ [48 + v / 10 % 10, 48 + v % 10]) := by
    intro n m cs h hl
    obtain ⟨m1, e1, k1, b1⟩ := nu_s (b := 10) (n + 1 + 1) h (by omega) hv (by decide)
    obtain ⟨m2, e2, k2, b2⟩ := s1 n (m.1, m1) _ b1 (by rw [List.length_append]; simp; omega)
    rw [show (10 : Int) / 10 = 1 from rfl, e2] at e1
    exact ⟨m2, e1, k1.tr k2, by rw [List.append_assoc] at b2; exact b2⟩
  have s3 : ∀ (n : Nat) (m : Mem2) (cs : List Int), BL m.2 cs → cs.length + 3 ≤ 60 → ∃ m2, f_L_number_L39 (n + 1 + 1 + 1 + 1) v 1 100 m = some (1, (m.1, m2)) ∧ PK m.2 m2 ∧ BL m2 (cs ++ [48 + v / 100 % 10, 48 + v / 10 % 10, 48 + v % 10]) := by
    intro n m cs h hl
    obtain ⟨m1, e1, k1, b1⟩ := nu_s (b := 100) (n + 1 + 1 + 1) h (by omega) hv (by decide)
    obtain ⟨m2, e2, k2, b2⟩ := s2 n (m.1, m1) _ b1 (by rw [List.length_append]; simp; omega)
    rw [show (100 : Int) / 10 = 10 from rfl, e2] at e1
    exact ⟨m2, e1, k1.tr k2, by rw [List.append_assoc] at b2; exact b2⟩
  have s4 : ∀ (n : Nat) (m : Mem2) (cs : List Int), BL m.2 cs → cs.length + 4 ≤ 60 → ∃ m2, f_L_number_L39 (n + 1 + 1 + 1 + 1 + 1) v 1 1000 m = some (1, (m.1, m2)) ∧ PK m.2 m2 ∧ BL m2 (cs ++ [48 + v / 1000 % 10, 48 + v / 100 % 10, 48 + v / 10 % 10, 48 + v % 10]) := by
    intro n m cs h hl
    obtain ⟨m1, e1, k1, b1⟩ := nu_s (b := 1000) (n + 1 + 1 + 1 + 1) h (by omega) hv (by decide)
    obtain ⟨m2, e2, k2, b2⟩ := s3 n (m.1, m1) _ b1 (by rw [List.length_append]; simp; omega)
    rw [show (1000 : Int) / 10 = 100 from rfl, e2] at e1
    exact ⟨m2, e1, k1.tr k2, by rw [List.append_assoc] at b2; exact b2⟩
  unfold f_L_number dg
  by_cases z1 : v ≤ 9
  · rw [if_pos (by omega), if_pos (by omega), if_pos z1, if_pos z1]
    have := s1 998 m cs h (by omega)
    rw [show v % 10 = v by omega] at this
    exact this
  rw [if_neg z1, if_neg z1]
  by_cases z2 : v ≤ 99
  · rw [if_pos (by omega), if_pos z2, if_pos z2]
    have := s2 997 m cs h (by omega)
    rw [show v / 10 % 10 = v / 10 by omega] at this
    exact this
  rw [if_neg z2, if_neg z2]
  by_cases z3 : v ≤ 999
  · rw [if_pos z3, if_pos z3]
    have := s3 996 m cs h (by omega)
    rw [show v / 100 % 10 = v / 100 by omega] at this
    exact this
  rw [if_neg z3, if_neg z3]
  have := s4 995 m cs h (by omega)
  rw [show v / 1000 % 10 = v / 1000 by omega] at this
  exact this
end LP
