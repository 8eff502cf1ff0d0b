def tenK : Nat → Int
  | 0 => 1000
  | 1 => 100
  | 2 => 10
  | _ => 1
noncomputable def itF (a : AS) (x g l k : Int) : Int × AS := cIf (g = -5) (addF a x l k) (aliF a x g)
def ntd (m : Mem) (n : Nat) (x g l k : Int) : Mem := mwr (mwr (mwr (mwr (mwr m 47 n x) 48 n g) 49 n l) 50 n k) 45 6 ((n : Int) + 1)
/-- the reference's reading has changed nothing but where it stands -/
def FM (m m' : Mem) (j : Nat) : Prop := m'.1 51 9 = j ∧ (∀ c, c ≠ 51 → m'.1 c = m.1 c) ∧ m'.2 = m.2 ∧ ∀ k, k < 9 → m'.1 51 k = m.1 51 k
def FM1 (m m' : Mem) (j : Nat) : Prop := m'.1 51 9 = j ∧ (∀ c, c ≠ 51 → c ≠ 52 → c ≠ 56 → m'.1 c = m.1 c) ∧ m'.2 = m.2 ∧ ∀ k, k < 9 → m'.1 51 k = m.1 51 k
theorem FM.q {m : Mem} {j : Nat} {x : Int} : FM m (qq m j x) j := ⟨qq9, fun c hc => qqc hc, rfl, fun k hk => qqk (by omega) (by omega)⟩
theorem FM.w {m m' : Mem} {j : Nat} {v : Int} (h : FM m m' j) : FM m (mwr m' 51 11 v) j :=
  ⟨by rw [mwr_self, if_neg (by decide)]; exact h.1, fun c hc => (mwr_ne hc).trans (h.2.1 c hc), h.2.2.1, fun k hk => by rw [mwr_self, if_neg (by omega)]; exact h.2.2.2 k hk⟩
theorem FM1.w {m m0 m' : Mem} {j : Nat} {v x : Int} (e : m0 = qq m j x) (h : fr2 m0 m') : FM1 m (mwr m' 51 11 v) j := by
  subst e
  refine ⟨?_, fun c h1 h2 h3 => ?_, h.2, fun k hk => ?_⟩
  · rw [mwr_self, if_neg (by decide), h.1 51 (by decide) (by decide)]; exact qq9
  · rw [mwr_ne h1, h.1 c h2 h3]; exact qqc h1
  · rw [mwr_self, if_neg (by omega), h.1 51 (by decide) (by decide)]; exact qqk (by omega) (by omega)
section PN
variable {pl : Nat} {p : Nat → Int} {m : Mem} {a : AS} {N : Int}
theorem no_L (hp : PR pl p) {hv : Int} (hh : 9 ≤ hv ∧ hv ≤ 9999) : ∀ (k : Nat) (v : Int) (j : Nat), k ≤ 3 → 0 ≤ v ∧ v ≤ hv → (v = 0 ∨ tenK k ≤ v) → j ≤ pl → ∃ (v' : Int) (j' : Nat), j ≤ j' ∧ j' ≤ pl ∧ 0 ≤ v' ∧ v' ≤ hv ∧ (∀ m fu, BP m pl p → k < fu → f_X1_readNumber_L25 fu hv v (4 - (k : Int)) (pp m j) = some (v', pp m (j' : Int))) ∧ (∀ m fu, B4 m pl p → k < fu → f_X4_readsNumber_L41 fu hv (qq m j v) = some (1, qq m (j' : Int) v')) := by
  have h60 := hp.1
  intro k
  induction k with
  | zero =>
    intro v j hk hv1 ht hj
    refine ⟨v, j, by omega, hj, hv1.1, hv1.2, fun m fu hB hf => ?_, fun m fu hB hf => ?_⟩
    · obtain ⟨f, rfl⟩ : ∃ f, fu = f + 1 := ⟨fu - 1, by omega⟩
      rw [f_X1_readNumber_L25, if_pos (by omega)]
    · obtain ⟨f, rfl⟩ : ∃ f, fu = f + 1 := ⟨fu - 1, by omega⟩
      rw [f_X4_readsNumber_L41, qq10]
      rcases ht with rfl | ht
      · rw [if_pos (by decide)]
      · have ht : 1000 ≤ v := ht
        rw [if_neg (by omega)]
        by_cases z : 48 ≤ nx pl p j ∧ nx pl p j ≤ 57
        · have hlt := nx_lt (show 0 ≤ nx pl p j by omega)
          rw [bd_ (m_h_t hp hB j (by decide) z)]
          dsimp only
          rw [if_neg (by decide), qq10, qq9, qqc (by decide), tN, hB.2 j hlt, ← nx_at (p := p) hlt, mmK_p (by constructor <;> omega), mmK_p (by omega), mmK_p (by constructor <;> omega), mmK_p (by constructor <;> omega), if_pos (by omega)]
        · rw [bd_ (m_h_f hp hB j (by decide) z)]
          dsimp only
          rw [if_pos rfl]
  | succ k ih =>
    intro v j hk hv1 ht hj
    have htk : tenK k = 10 * tenK (k + 1) ∧ 1 ≤ tenK (k + 1) := by
      rcases (show k = 0 ∨ k = 1 ∨ k = 2 by omega) with rfl | rfl | rfl <;> decide
    have stop : (v = 0 ∨ ¬ (48 ≤ nx pl p j ∧ nx pl p j ≤ 57) ∨ hv < v * 10 + (nx pl p j - 48)) → ∃ (v' : Int) (j' : Nat), j ≤ j' ∧ j' ≤ pl ∧ 0 ≤ v' ∧ v' ≤ hv ∧ (∀ m fu, BP m pl p → k + 1 < fu → f_X1_readNumber_L25 fu hv v (4 - ((k + 1 : Nat) : Int)) (pp m j) = some (v', pp m (j' : Int))) ∧ (∀ m fu, B4 m pl p → k + 1 < fu → f_X4_readsNumber_L41 fu hv (qq m j v) = some (1, qq m (j' : Int) v')) := by
      intro hs
      refine ⟨v, j, by omega, hj, hv1.1, hv1.2, fun m fu hB hf => ?_, fun m fu hB hf => ?_⟩
      · obtain ⟨f, rfl⟩ : ∃ f, fu = f + 1 := ⟨fu - 1, by omega⟩
        rw [f_X1_readNumber_L25, if_neg (by omega)]
        by_cases z : 48 ≤ nx pl p j ∧ nx pl p j ≤ 57
        · rw [bd_ (c_dig_t hp hB j z)]
          dsimp only
          by_cases v0 : v = 0
          · rw [if_pos v0]
          · rw [if_neg v0, if_neg (by omega), mmK_p (by constructor <;> omega), mmK_p (by constructor <;> omega), if_neg (by omega)]
        · rw [bd_ (c_dig_f hp hB j z)]
          dsimp only
          by_cases v0 : v = 0
          · rw [if_pos v0]
          · rw [if_neg v0, if_pos rfl]
      · obtain ⟨f, rfl⟩ : ∃ f, fu = f + 1 := ⟨fu - 1, by omega⟩
        rw [f_X4_readsNumber_L41, qq10]
        by_cases v0 : v ≤ 0
        · rw [if_pos v0]
        · rw [if_neg v0]
          by_cases z : 48 ≤ nx pl p j ∧ nx pl p j ≤ 57
          · have hlt := nx_lt (show 0 ≤ nx pl p j by omega)
            rw [bd_ (m_h_t hp hB j (by decide) z)]
            dsimp only
            rw [if_neg (by decide), qq10, qq9, qqc (by decide), tN, hB.2 j hlt, ← nx_at (p := p) hlt, mmK_p (by constructor <;> omega), mmK_p (by omega), mmK_p (by constructor <;> omega), mmK_p (by constructor <;> omega), if_pos (by omega)]
          · rw [bd_ (m_h_f hp hB j (by decide) z)]
            dsimp only
            rw [if_pos rfl]
    by_cases hs : v = 0 ∨ ¬ (48 ≤ nx pl p j ∧ nx pl p j ≤ 57) ∨ hv < v * 10 + (nx pl p j - 48)
    · exact stop hs
    · have z : 48 ≤ nx pl p j ∧ nx pl p j ≤ 57 := Classical.byContradiction (fun q => hs (Or.inr (Or.inl q)))
      have v0 : ¬ v = 0 := fun q => hs (Or.inl q)
      have z2 : ¬ hv < v * 10 + (nx pl p j - 48) := fun q => hs (Or.inr (Or.inr q))
      have hlt := nx_lt (show 0 ≤ nx pl p j by omega)
      obtain ⟨v', j', g1, g2, g3, g4, C, M⟩ := ih (v * 10 + (nx pl p j - 48)) (j + 1) (by omega) (by omega) (by omega) (by omega)
      refine ⟨v', j', by omega, g2, g3, g4, fun m fu hB hf => ?_, fun m fu hB hf => ?_⟩
      · obtain ⟨f, rfl⟩ : ∃ f, fu = f + 1 := ⟨fu - 1, by omega⟩
        rw [f_X1_readNumber_L25, if_neg (by omega), bd_ (c_dig_t hp hB j z)]
        dsimp only
        rw [if_neg v0, if_neg (by omega), mmK_p (by constructor <;> omega), mmK_p (by constructor <;> omega), if_pos (by omega), mmK_p (by constructor <;> omega), mmK_p (by constructor <;> omega), pp7, mmK_p (by constructor <;> omega), mmK_p (by constructor <;> omega), pp_w, ci_1, show 4 - ((k + 1 : Nat) : Int) + 1 = 4 - (k : Int) by omega]
        exact C m f hB (by omega)
      · obtain ⟨f, rfl⟩ : ∃ f, fu = f + 1 := ⟨fu - 1, by omega⟩
        rw [f_X4_readsNumber_L41, qq10, if_neg (by omega), bd_ (m_h_t hp hB j (by decide) z)]
        dsimp only
        rw [if_neg (by decide), qq10, qq9, qqc (by decide), tN, hB.2 j hlt, ← nx_at (p := p) hlt, mmK_p (by constructor <;> omega), mmK_p (by omega), mmK_p (by constructor <;> omega), mmK_p (by constructor <;> omega), if_neg (by omega), mmK_p (by constructor <;> omega), mmK_p (by omega), mmK_p (by constructor <;> omega), mmK_p (by constructor <;> omega), mmK_p (by constructor <;> omega), qq_10, qq_9, ci_1, show 10 * v + nx pl p j - 48 = v * 10 + (nx pl p j - 48) by omega]
        exact M m f hB (by omega)
theorem no_ex (hp : PR pl p) {lo hv : Int} (hl : 0 ≤ lo ∧ lo ≤ 1) (hh : 9 ≤ hv ∧ hv ≤ 9999) (i : Nat) (hi : i ≤ pl) : (∃ (v : Int) (j : Nat), i < j ∧ j ≤ pl ∧ 0 ≤ v ∧ v ≤ hv ∧ (∀ m, BP m pl p → f_X1_readNumber lo hv (pp m i) = some (v, pp m (j : Int))) ∧ (∀ m x, B4 m pl p → f_X4_readsNumber lo hv (qq m i x) = some (1, qq m (j : Int) v))) ∨ ((∀ m, BP m pl p → f_X1_readNumber lo hv (pp m i) = some (-1, pp m (i : Int))) ∧ (∀ m x, B4 m pl p → f_X4_readsNumber lo hv (qq m i x) = some (0, qq m (i : Int) x))) := by
  have h60 := hp.1
  by_cases z : 48 + lo ≤ nx pl p i ∧ nx pl p i ≤ 57
  · have hlt := nx_lt (show 0 ≤ nx pl p i by omega)
    obtain ⟨v', j', g1, g2, g3, g4, C, M⟩ := no_L hp hh 3 (nx pl p i - 48) (i + 1) (by omega) (by omega) (by have : tenK 3 = 1 := rfl; omega) (by omega)
    refine Or.inl ⟨v', j', by omega, g2, g3, g4, fun m hB => ?_, fun m x hB => ?_⟩
    · unfold f_X1_readNumber
      rw [bd_ (c_dig_t hp hB i (by omega))]
      dsimp only
      rw [if_pos (by omega), pp7, mmK_p (by constructor <;> omega), pp_w, ci_1]
      exact C m mmFU hB (by unfold mmFU; omega)
    · unfold f_X4_readsNumber
      rw [mmK_p (by constructor <;> omega), bd_ (m_h_t hp hB i (by omega) z)]
      dsimp only
      rw [if_neg (by decide), qq9, qqc (by decide), tN, hB.2 i hlt, ← nx_at (p := p) hlt, mmK_p (by omega), mmK_p (by constructor <;> omega), mmK_p (by constructor <;> omega), qq_10, qq_9, ci_1]
      exact M m mmFU hB (by unfold mmFU; omega)
  · refine Or.inr ⟨fun m hB => ?_, fun m x hB => ?_⟩
    · unfold f_X1_readNumber
      by_cases y : 48 ≤ nx pl p i ∧ nx pl p i ≤ 57
      · rw [bd_ (c_dig_t hp hB i y)]
        dsimp only
        rw [if_neg (by omega)]
      · rw [bd_ (c_dig_f hp hB i y)]
        dsimp only
        rw [if_neg (by omega)]
    · unfold f_X4_readsNumber
      rw [mmK_p (by constructor <;> omega), bd_ (m_h_f hp hB i (by omega) z)]
      dsimp only
      rw [if_pos rfl]
theorem nt_ok {n : Nat} {j x g l k : Int} (hn : n < 12) (h : m.1 45 6 = n) : f_X1_noteAddition x g l k (pp m j) = some (1, ntd (pp m j) n x g l k) := by
  unfold f_X1_noteAddition
  rw [pp6, h, if_pos (by omega), mmK_p (by omega), mmK_p (by omega), mmK_p (by omega), mmK_p (by omega), mmK_p (by constructor <;> omega), tN]
  rfl
theorem fin0 {j : Nat} {x l k : Int} : f_X4_readsAddition_L106 0 x l (qq m j k) = some (1, mwr (qq m j k) 51 11 0) := by
  unfold f_X4_readsAddition_L106 f_X4_readsAddition_L111
  rw [if_neg (by decide), if_pos rfl, mmK_p (Or.inr rfl)]
theorem fin1 {j : Nat} {x l k : Int} (w : wfA a N) (h : repF (m.1 52) 0 a) : ∃ m', f_X4_readsAddition_L106 1 x l (qq m j k) = some (1, mwr m' 51 11 (itF a x (-5) l k).1) ∧ fr2 (qq m j k) m' ∧ repF (m'.1 52) 0 (itF a x (-5) l k).2 := by
  have hq : repF ((qq m j k).1 52) 0 a := by rw [qqc (by decide)]; exact h
  obtain ⟨m', e', f', r'⟩ := add_mod (x := x) (l := l) (k := k) hq w
  have ei : itF a x (-5) l k = addF a x l k := cIf_t rfl
  rw [ei]
  refine ⟨m', ?_, f', r'⟩
  unfold f_X4_readsAddition_L106 f_X4_readsAddition_L111
  rw [if_neg (by decide), if_neg (by decide), qq10, bd_ e']
  dsimp only
  rw [mmK_p (Or.inr rfl)]
/-- an addition, read by both sides -/
def adT (pl : Nat) (p : Nat → Int) (i : Nat) (j : Nat) (x g l k : Int) : Prop := (∀ (m : Mem) (n : Nat), BP m pl p → m.1 45 7 = i → m.1 45 6 = n → n < 12 → f_X1_readAddition m = some (1, ntd (pp m (j : Int)) n x g l k)) ∧ (∀ m : Mem, B4 m pl p → m.1 51 9 = i → ∃ m', f_X4_readsAddition 0 m = some (1, m') ∧ FM m m' j) ∧ (∀ (m : Mem) (a : AS) (N : Int), B4 m pl p → m.1 51 9 = i → wfA a N → repF (m.1 52) 0 a → ∃ m', f_X4_readsAddition 1 m = some (1, m') ∧ FM1 m m' j ∧ m'.1 51 11 = (itF a x g l k).1 ∧ repF (m'.1 52) 0 (itF a x g l k).2)
def adN (pl : Nat) (p : Nat → Int) (i : Nat) (j : Nat) : Prop := (∀ m : Mem, BP m pl p → m.1 45 7 = i → f_X1_readAddition m = some (0, pp m (j : Int))) ∧ (∀ m : Mem, B4 m pl p → m.1 51 9 = i → ∃ m', f_X4_readsAddition 0 m = some (0, m') ∧ FM m m' j)
theorem adN_mk {i j : Nat} (C : ∀ m, BP m pl p → f_X1_readAddition (pp m i) = some (0, pp m (j : Int))) (M : ∀ m x, B4 m pl p → ∃ m', f_X4_readsAddition 0 (qq m i x) = some (0, m') ∧ FM m m' j) : adN pl p i j :=
  ⟨fun m hB h => by have e := C m hB; rw [pp_id h] at e; exact e, fun m hB h => by have e := M m (m.1 51 10) hB; rw [qq_id h] at e; exact e⟩
theorem adT_mem {i j : Nat} {x l k : Int} (C : ∀ (m : Mem) (n : Nat), BP m pl p → m.1 45 6 = (n : Int) → n < 12 → f_X1_readAddition (pp m i) = some (1, ntd (pp m (j : Int)) n x (-5) l k)) (M : ∀ m l1 y, B4 m pl p → f_X4_readsAddition l1 (qq m i y) = f_X4_readsAddition_L106 l1 x l (qq m (j : Int) k)) : adT pl p i j x (-5) l k := by
  refine ⟨fun m n hB h h6 hn => by have e := C m n hB h6 hn; rw [pp_id h] at e; exact e, fun m hB h => ?_, fun m a N hB h w hr => ?_⟩
  · have e := M m 0 (m.1 51 10) hB
    rw [qq_id h, fin0] at e
    exact ⟨_, e, FM.q.w⟩
  · have e := M m 1 (m.1 51 10) hB
    rw [qq_id h] at e
    obtain ⟨m', e', f', r'⟩ := fin1 (j := j) (x := x) (l := l) (k := k) w hr
    exact ⟨_, e.trans e', FM1.w rfl f', by rw [mwr_self, if_pos rfl], by rw [mwr_ne (by decide)]; exact r'⟩
theorem ad_ex (hp : PR pl p) (i : Nat) (hi : i ≤ pl) : (∃ (j : Nat) (x g l k : Int), i + 4 ≤ j ∧ j ≤ pl ∧ adT pl p i j x g l k) ∨ (∃ j : Nat, i ≤ j ∧ j ≤ pl ∧ adN pl p i j) := by
  have h60 := hp.1
  rcases nm_ex hp i hi with ⟨v, n1, v0, v1, NC, NM⟩ | ⟨j, n1, n2, NC, NM⟩
  · by_cases z61 : nx pl p (i + 2) = 61
    · have t1 : i + 2 < pl := nx_lt (p := p) (by omega)
      rcases no_ex hp (lo := 1) (hv := 40) (by omega) (by omega) (i + 2 + 1) (by omega) with ⟨q, j, g1, g2, g3, g4, QC, QM⟩ | ⟨QC, QM⟩
      · have preM : ∀ m l1 y, B4 m pl p → f_X4_readsAddition l1 (qq m i y) = (f_X4_takes 44 (qq m (j : Int) 0)).bind (fun q15 => if q15.1 = 0 then (f_X4_readsAddition_L106 l1 v q q15.2) else ((f_X4_readsNumber 0 9999 q15.2).bind (fun q26 => if q26.1 = 0 then (f_X4_readsAddition_L111 l1 v q 0 q26.2) else (f_X4_readsAddition_L106 l1 v q q26.2)))) := by
          intro m l1 y hB
          unfold f_X4_readsAddition
          rw [bd_ (NM m y hB)]
          dsimp only
          rw [if_neg (by decide), bd_ (m_tk_f hp hB (i + 2) n1 (by decide) (by omega))]
          dsimp only
          rw [if_pos rfl, bd_ (m_tk_t hp hB (i + 2) (by decide) z61)]
          dsimp only
          rw [if_neg (by decide), bd_ (QM m _ hB)]
          dsimp only
          rw [if_neg (by decide), qq_10, qq10, qq10]
        have preC : ∀ m, BP m pl p → f_X1_readAddition (pp m i) = (f_X1_readMember v (pp m ((i + 2 + 1 : Nat) : Int))).bind (fun q13 => mmK (q13.1 = 0 ∨ q13.1 = 1) (some (q13.1, q13.2))) := by
          intro m hB
          unfold f_X1_readAddition
          rw [bd_ (NC m hB)]
          dsimp only
          rw [if_neg (by omega), bd_ (c_tk_t hp hB (i + 2) (by decide) z61)]
          dsimp only
          rw [if_neg (by decide)]
        have memC : ∀ m, BP m pl p → f_X1_readMember v (pp m ((i + 2 + 1 : Nat) : Int)) = (f_X1_takes 44 (pp m (j : Int))).bind (fun q4 => if q4.1 = 0 then (f_X1_readMember_L35 v q 0 q4.2) else ((f_X1_readNumber 0 9999 q4.2).bind (fun q11 => f_X1_readMember_L35 v q q11.1 q11.2))) := by
          intro m hB
          unfold f_X1_readMember
          rw [bd_ (QC m hB)]
          dsimp only
          rw [if_neg (by omega)]
        have l35 : ∀ (m : Mem) (n : Nat) (k : Int) (j' : Nat), m.1 45 6 = (n : Int) → n < 12 → 0 ≤ k → f_X1_readMember_L35 v q k (pp m (j' : Int)) = some (1, ntd (pp m (j' : Int)) n v (-5) q k) := by
          intro m n k j' h6 hn hk
          unfold f_X1_readMember_L35
          rw [if_neg (by omega), bd_ (nt_ok hn h6)]
          dsimp only
          rw [if_neg (by decide)]
        by_cases z44 : nx pl p j = 44
        · have t2 : j < pl := nx_lt (p := p) (by omega)
          rcases no_ex hp (lo := 0) (hv := 9999) (by omega) (by omega) (j + 1) (by omega) with ⟨r, j2, s1, s2, s3, s4, RC, RM⟩ | ⟨RC, RM⟩
          · refine Or.inl ⟨j2, v, -5, q, r, by omega, s2, adT_mem (fun m n hB h6 hn => ?_) (fun m l1 y hB => ?_)⟩
            · have e : f_X1_readMember v (pp m ((i + 2 + 1 : Nat) : Int)) = some (1, ntd (pp m (j2 : Int)) n v (-5) q r) := by
                rw [memC m hB, bd_ (c_tk_t hp hB j (by decide) z44)]
                dsimp only
                rw [if_neg (by decide), bd_ (RC m hB)]
                exact l35 m n r j2 h6 hn s3
              rw [preC m hB, bd_ e]
              exact mmK_p (Or.inr rfl)
            · rw [preM m l1 y hB, bd_ (m_tk_t hp hB j (by decide) z44)]
              dsimp only
              rw [if_neg (by decide), bd_ (RM m _ hB)]
              dsimp only
              rw [if_neg (by decide)]
          · refine Or.inr ⟨j + 1, by omega, by omega, adN_mk (fun m hB => ?_) (fun m y hB => ⟨mwr (qq m ((j + 1 : Nat) : Int) 0) 51 11 0, ?_, FM.q.w⟩)⟩
            · have e : f_X1_readMember v (pp m ((i + 2 + 1 : Nat) : Int)) = some (0, pp m ((j + 1 : Nat) : Int)) := by
                rw [memC m hB, bd_ (c_tk_t hp hB j (by decide) z44)]
                dsimp only
                rw [if_neg (by decide), bd_ (RC m hB)]
                unfold f_X1_readMember_L35
                dsimp only
                rw [if_pos rfl]
              rw [preC m hB, bd_ e]
              exact mmK_p (Or.inl rfl)
            · rw [preM m 0 y hB, bd_ (m_tk_t hp hB j (by decide) z44)]
              dsimp only
              rw [if_neg (by decide), bd_ (RM m _ hB)]
              dsimp only
              rw [if_pos rfl]
              unfold f_X4_readsAddition_L111
              rw [if_pos rfl, mmK_p (Or.inl rfl)]
        · refine Or.inl ⟨j, v, -5, q, 0, by omega, g2, adT_mem (fun m n hB h6 hn => ?_) (fun m l1 y hB => ?_)⟩
          · have e : f_X1_readMember v (pp m ((i + 2 + 1 : Nat) : Int)) = some (1, ntd (pp m (j : Int)) n v (-5) q 0) := by
              rw [memC m hB, bd_ (c_tk_f hp hB j z44)]
              dsimp only
              rw [if_pos rfl]
              exact l35 m n 0 j h6 hn (by omega)
            rw [preC m hB, bd_ e]
            exact mmK_p (Or.inr rfl)
          · rw [preM m l1 y hB, bd_ (m_tk_f hp hB j g2 (by decide) z44)]
            dsimp only
            rw [if_pos rfl]
      · refine Or.inr ⟨i + 2 + 1, by omega, by omega, adN_mk (fun m hB => ?_) (fun m y hB => ⟨qq m ((i + 2 + 1 : Nat) : Int) v, ?_, FM.q⟩)⟩
        · have e : f_X1_readMember v (pp m ((i + 2 + 1 : Nat) : Int)) = some (0, pp m ((i + 2 + 1 : Nat) : Int)) := by
            unfold f_X1_readMember
            rw [bd_ (QC m hB)]
            dsimp only
            rw [if_pos rfl]
          unfold f_X1_readAddition
          rw [bd_ (NC m hB)]
          dsimp only
          rw [if_neg (by omega), bd_ (c_tk_t hp hB (i + 2) (by decide) z61)]
          dsimp only
          rw [if_neg (by decide), bd_ e]
          exact mmK_p (Or.inl rfl)
        · unfold f_X4_readsAddition
          rw [bd_ (NM m y hB)]
          dsimp only
          rw [if_neg (by decide), bd_ (m_tk_f hp hB (i + 2) n1 (by decide) (by omega))]
          dsimp only
          rw [if_pos rfl, bd_ (m_tk_t hp hB (i + 2) (by decide) z61)]
          dsimp only
          rw [if_neg (by decide), bd_ (QM m _ hB)]
          dsimp only
          rw [if_pos rfl]
    · by_cases z62 : nx pl p (i + 2) = 62
      · have t1 : i + 2 < pl := nx_lt (p := p) (by omega)
        have preC : ∀ m, BP m pl p → f_X1_readAddition (pp m i) = (f_X1_readAlias v (pp m ((i + 2 + 1 : Nat) : Int))).bind (fun q10 => if q10.1 = 0 then (some (0, q10.2)) else (some (1, q10.2))) := by
          intro m hB
          unfold f_X1_readAddition
          rw [bd_ (NC m hB)]
          dsimp only
          rw [if_neg (by omega), bd_ (c_tk_f hp hB (i + 2) z61)]
          dsimp only
          rw [if_pos rfl, bd_ (c_tk_t hp hB (i + 2) (by decide) z62)]
          dsimp only
          rw [if_neg (by decide)]
        have preM : ∀ m l1 y, B4 m pl p → f_X4_readsAddition l1 (qq m i y) = (f_X4_readsName (qq m ((i + 2 + 1 : Nat) : Int) v)).bind (fun q29 => if q29.1 = 0 then (mmK (q29.1 = 0 ∨ q29.1 = 1) (some (q29.1, (mwr q29.2 51 11 0)))) else (if l1 = 0 then (mmK (q29.1 = 0 ∨ q29.1 = 1) (some (q29.1, (mwr q29.2 51 11 0)))) else ((f_X4_doAlias v (q29.2.1 51 10) q29.2).bind (fun q36 => mmK (q29.1 = 0 ∨ q29.1 = 1) (some (q29.1, (mwr q36.2 51 11 q36.1))))))) := by
          intro m l1 y hB
          unfold f_X4_readsAddition
          rw [bd_ (NM m y hB)]
          dsimp only
          rw [if_neg (by decide), bd_ (m_tk_t hp hB (i + 2) (by decide) z62)]
          dsimp only
          rw [if_neg (by decide), qq10]
        rcases nm_ex hp (i + 2 + 1) (by omega) with ⟨u, o1, u0, u1, UC, UM⟩ | ⟨j, o1, o2, UC, UM⟩
        · refine Or.inl ⟨i + 2 + 1 + 2, v, u, 0, 0, by omega, by omega, fun m n hB h h6 hn => ?_, fun m hB h => ?_, fun m a N hB h w hr => ?_⟩
          · have e : f_X1_readAlias v (pp m ((i + 2 + 1 : Nat) : Int)) = some (1, ntd (pp m ((i + 2 + 1 + 2 : Nat) : Int)) n v u 0 0) := by
              unfold f_X1_readAlias
              rw [bd_ (UC m hB)]
              dsimp only
              rw [if_neg (by omega), bd_ (nt_ok hn h6)]
              dsimp only
              rw [if_neg (by decide)]
            have e2 := preC m hB
            rw [pp_id h, bd_ e] at e2
            exact e2
          · have e := preM m 0 (m.1 51 10) hB
            rw [qq_id h, bd_ (UM m _ hB)] at e
            dsimp only at e
            rw [if_neg (by decide), if_pos rfl, mmK_p (Or.inr rfl)] at e
            exact ⟨_, e, FM.q.w⟩
          · have e := preM m 1 (m.1 51 10) hB
            rw [qq_id h, bd_ (UM m _ hB)] at e
            dsimp only at e
            rw [if_neg (by decide), if_neg (by decide), qq10] at e
            have hq : repF ((qq m ((i + 2 + 1 + 2 : Nat) : Int) u).1 52) 0 a := by rw [qqc (by decide)]; exact hr
            obtain ⟨m', e', f', r'⟩ := ali_mod (x := v) (g := u) hq w
            rw [bd_ e'] at e
            dsimp only at e
            rw [mmK_p (Or.inr rfl)] at e
            have ei : itF a v u 0 0 = aliF a v u := cIf_f (by omega)
            rw [ei]
            exact ⟨_, e, FM1.w rfl f', by rw [mwr_self, if_pos rfl], by rw [mwr_ne (by decide)]; exact r'⟩
        · refine Or.inr ⟨j, by omega, o2, adN_mk (fun m hB => ?_) (fun m y hB => ?_)⟩
          · have e : f_X1_readAlias v (pp m ((i + 2 + 1 : Nat) : Int)) = some (0, pp m (j : Int)) := by
              unfold f_X1_readAlias
              rw [bd_ (UC m hB)]
              dsimp only
              rw [if_pos rfl]
            rw [preC m hB, bd_ e]
            dsimp only
            rw [if_pos rfl]
          · obtain ⟨x', ex⟩ := UM m v hB
            refine ⟨mwr (qq m (j : Int) x') 51 11 0, ?_, FM.q.w⟩
            rw [preM m 0 y hB, bd_ ex]
            dsimp only
            rw [if_pos rfl, mmK_p (Or.inl rfl)]
      · refine Or.inr ⟨i + 2, by omega, n1, adN_mk (fun m hB => ?_) (fun m y hB => ⟨qq m ((i + 2 : Nat) : Int) v, ?_, FM.q⟩)⟩
        · unfold f_X1_readAddition
          rw [bd_ (NC m hB)]
          dsimp only
          rw [if_neg (by omega), bd_ (c_tk_f hp hB (i + 2) z61)]
          dsimp only
          rw [if_pos rfl, bd_ (c_tk_f hp hB (i + 2) z62)]
          dsimp only
          rw [if_pos rfl]
        · unfold f_X4_readsAddition
          rw [bd_ (NM m y hB)]
          dsimp only
          rw [if_neg (by decide), bd_ (m_tk_f hp hB (i + 2) n1 (by decide) z62)]
          dsimp only
          rw [if_pos rfl, bd_ (m_tk_f hp hB (i + 2) n1 (by decide) z61)]
          dsimp only
          rw [if_pos rfl]
  · refine Or.inr ⟨j, n1, n2, adN_mk (fun m hB => ?_) (fun m y hB => ?_)⟩
    · unfold f_X1_readAddition
      rw [bd_ (NC m hB)]
      dsimp only
      rw [if_pos rfl]
    · obtain ⟨x', ex⟩ := NM m y hB
      refine ⟨qq m (j : Int) x', ?_, FM.q⟩
      unfold f_X4_readsAddition
      rw [bd_ ex]
      dsimp only
      rw [if_pos rfl]
end PN
