/-- one state more -/
def pushN (hn : Nat) : Nat := if hn = 4 then 4 else hn + 1
def pushH (hn : Nat) (H : Nat → AS) (a : AS) : Nat → AS := fun i => if hn = 4 then (if i < 3 then H (i + 1) else a) else (if i = hn then a else H i)
theorem bd_ {α β : Type} {A : Option α} {v : α} {f : α → Option β} (h : A = some v) : A.bind f = f v := by rw [h]; rfl
theorem copy_ok (d s : Nat) (m : Mem) (hds : d + 5 < s ∨ s + 5 < d) : ∃ m1, f_X2_copyFrom d s m = some m1 ∧ frm d (d + 5) m m1 ∧ ∀ a : AS, a.1 ≤ 24 → repS m s a → repS m1 d a := by
  unfold f_X2_copyFrom
  obtain ⟨c, hc⟩ : ∃ c, c = mcp (mcp (mcp (mcp (mcp m (s + 1) 0 (d + 1) 0 24) (s + 2) 0 (d + 2) 0 24) (s + 3) 0 (d + 3) 0 24) (s + 4) 0 (d + 4) 0 24) (s + 5) 0 (d + 5) 0 24 := ⟨_, rfl⟩
  rw [← hc]
  have cf : frm (d + 1) (d + 5) m c := by
    rw [hc]
    exact ((((frm.cp (by omega) (by omega)).tr (frm.cp (by omega) (by omega))).tr (frm.cp (by omega) (by omega))).tr (frm.cp (by omega) (by omega))).tr (frm.cp (by omega) (by omega))
  have c1 : ∀ q, q < 24 → c.1 (d + 1) q = m.1 (s + 1) q := fun q hq => by
    rw [hc, mcp_ne (by omega), mcp_ne (by omega), mcp_ne (by omega), mcp_ne (by omega), mcp_s, if_pos (by omega), show 0 + (q - 0) = q by omega]
  have c2 : ∀ q, q < 24 → c.1 (d + 2) q = m.1 (s + 2) q := fun q hq => by
    rw [hc, mcp_ne (by omega), mcp_ne (by omega), mcp_ne (by omega), mcp_s, if_pos (by omega), mcp_ne (by omega), show 0 + (q - 0) = q by omega]
  have c3 : ∀ q, q < 24 → c.1 (d + 3) q = m.1 (s + 3) q := fun q hq => by
    rw [hc, mcp_ne (by omega), mcp_ne (by omega), mcp_s, if_pos (by omega), mcp_ne (by omega), mcp_ne (by omega), show 0 + (q - 0) = q by omega]
  have c4 : ∀ q, q < 24 → c.1 (d + 4) q = m.1 (s + 4) q := fun q hq => by
    rw [hc, mcp_ne (by omega), mcp_s, if_pos (by omega), mcp_ne (by omega), mcp_ne (by omega), mcp_ne (by omega), show 0 + (q - 0) = q by omega]
  have c5 : ∀ q, q < 24 → c.1 (d + 5) q = m.1 (s + 5) q := fun q hq => by
    rw [hc, mcp_s, if_pos (by omega), mcp_ne (by omega), mcp_ne (by omega), mcp_ne (by omega), mcp_ne (by omega), show 0 + (q - 0) = q by omega]
  have cs : c.1 s = m.1 s := cf.1 s (by omega)
  clear hc
  obtain ⟨w1, h1⟩ : ∃ w, w = mwr c d 5 (c.1 s 5) := ⟨_, rfl⟩
  rw [← h1]
  obtain ⟨w2, h2⟩ : ∃ w, w = mwr w1 d 6 (w1.1 s 6) := ⟨_, rfl⟩
  rw [← h2]
  obtain ⟨w3, h3⟩ : ∃ w, w = mwr w2 d 7 (w2.1 s 7) := ⟨_, rfl⟩
  rw [← h3]
  obtain ⟨w4, h4⟩ : ∃ w, w = mwr w3 d 8 (w3.1 s 8) := ⟨_, rfl⟩
  rw [← h4]
  have s1 : w1.1 s = m.1 s := by rw [h1, mwr_ne (by omega)]; exact cs
  have s2 : w2.1 s = m.1 s := by rw [h2, mwr_ne (by omega)]; exact s1
  have s3 : w3.1 s = m.1 s := by rw [h3, mwr_ne (by omega)]; exact s2
  have s4 : w4.1 s = m.1 s := by rw [h4, mwr_ne (by omega)]; exact s3
  have f4 : frm d d c w4 := by
    rw [h4, h3, h2, h1]
    exact (((frm.wr (by omega) (by omega)).tr (frm.wr (by omega) (by omega))).tr (frm.wr (by omega) (by omega))).tr (frm.wr (by omega) (by omega))
  have e5 : w4.1 d 5 = m.1 s 5 := by rw [h4, mwr_self, if_neg (by decide), h3, mwr_self, if_neg (by decide), h2, mwr_self, if_neg (by decide), h1, mwr_self, if_pos rfl, cs]
  have e6 : w4.1 d 6 = m.1 s 6 := by rw [h4, mwr_self, if_neg (by decide), h3, mwr_self, if_neg (by decide), h2, mwr_self, if_pos rfl, s1]
  have e7 : w4.1 d 7 = m.1 s 7 := by rw [h4, mwr_self, if_neg (by decide), h3, mwr_self, if_pos rfl, s2]
  have e8 : w4.1 d 8 = m.1 s 8 := by rw [h4, mwr_self, if_pos rfl, s3]
  clear h1 h2 h3 h4 s1 s2 s3
  refine ⟨_, rfl, ((cf.wide (by omega) (by omega)).tr (f4.wide (by omega) (by omega))).tr (frm.wr (by omega) (by omega)), fun a hn ha => ?_⟩
  obtain ⟨q1, q2, q3, q4, q5, -⟩ := id ha
  refine repS.mk5 ?_ ?_ ?_ ?_ ?_ (fun k j hk hj => ?_)
  · rw [mwr_self, if_neg (by decide), e5]; exact q1
  · rw [mwr_self, if_neg (by decide), e6]; exact q2
  · rw [mwr_self, if_neg (by decide), e7]; exact q3
  · rw [mwr_self, if_neg (by decide), e8]; exact q4
  · rw [mwr_self, if_pos rfl, s4]; exact q5
  · rw [mwr_ne (by omega), f4.1 _ (by omega), ← ha.col hk hj]
    rcases lt5 hk with rfl | rfl | rfl | rfl | rfl
    · exact c1 j (by omega)
    · exact c2 j (by omega)
    · exact c3 j (by omega)
    · exact c4 j (by omega)
    · exact c5 j (by omega)
def isQ (x : Nat) : Prop := x = 21 ∨ x = 27 ∨ x = 33 ∨ x = 39
theorem isQ.sh {x : Nat} (h : isQ x) : mmSh[x]? = some (.inl 2) := by rcases h with rfl | rfl | rfl | rfl <;> decide +kernel
theorem isQ.ap {x y : Nat} (h : isQ x) (h2 : isQ y) (hn : x ≠ y) : x + 5 < y ∨ y + 5 < x := by rcases h with rfl | rfl | rfl | rfl <;> rcases h2 with rfl | rfl | rfl | rfl <;> omega
theorem isQ.rg {x : Nat} (h : isQ x) : 21 ≤ x ∧ x + 5 ≤ 44 := by rcases h with rfl | rfl | rfl | rfl <;> omega
/-- the class's history -/
def CH (m : Mem) (hn : Nat) (H : Nat → AS) : Prop := ∃ q : Nat → Nat, m.1 19 1 = hn ∧ hn ≤ 4 ∧ (∀ i, i < 4 → m.2 i = some (q i) ∧ isQ (q i)) ∧ (∀ i j, i < 4 → j < 4 → q i = q j → i = j) ∧ ∀ i, i < hn → repS m (q i) (H i) ∧ (H i).1 ≤ 24
theorem CH.keep {m m' : Mem} {hn : Nat} {H : Nat → AS} (h : CH m hn H) (h1 : ∀ c, 19 ≤ c → c ≤ 44 → m'.1 c = m.1 c) (h2 : m'.2 = m.2) : CH m' hn H := by
  obtain ⟨q, a1, a2, a3, a4, a5⟩ := h
  refine ⟨q, by rw [h1 19 (by omega) (by omega)]; exact a1, a2, by rw [h2]; exact a3, a4, fun i hi => ⟨(a5 i hi).1.keep (fun c g1 g2 => ?_), (a5 i hi).2⟩⟩
  have := (a3 i (by omega)).2.rg
  exact h1 c (by omega) (by omega)
theorem mwq_1 {m : Mem} {k v : Nat} : (mwq m k v).1 = m.1 := rfl
theorem mwq_2 {m : Mem} {k v j : Nat} : (mwq m k v).2 j = if j = k then some v else m.2 j := rfl
theorem drop9 (k l1 q1 q2 q3 : Nat) (m : Mem) (h1 : m.2 1 = some q1) (h2 : m.2 2 = some q2) (h3 : m.2 3 = some q3) (g1 : isQ q1) (g2 : isQ q2) (g3 : isQ q3) : f_X0_dropOldest_L9 (k + 4) l1 1 m = some (mwr (mwq (mwq (mwq (mwq m 0 q1) 1 q2) 2 q3) 3 l1) 19 1 3) := by
  rw [f_X0_dropOldest_L9, if_neg (by decide), mmK_p (by decide), mmK_p (by decide), show (1 : Int).toNat = 1 from rfl, h1]
  simp only [Option.bind_some]
  rw [mmK_p g1.sh, mmK_p (by decide), mmK_p (by decide), show ((1 : Int) - 1).toNat = 0 from rfl, show (1 : Int) + 1 = 2 from rfl]
  rw [f_X0_dropOldest_L9, if_neg (by decide), mmK_p (by decide), mmK_p (by decide), show (2 : Int).toNat = 2 from rfl, mwq_2, if_neg (by decide), h2]
  simp only [Option.bind_some]
  rw [mmK_p g2.sh, mmK_p (by decide), mmK_p (by decide), show ((2 : Int) - 1).toNat = 1 from rfl, show (2 : Int) + 1 = 3 from rfl]
  rw [f_X0_dropOldest_L9, if_neg (by decide), mmK_p (by decide), mmK_p (by decide), show (3 : Int).toNat = 3 from rfl, mwq_2, if_neg (by decide), mwq_2, if_neg (by decide), h3]
  simp only [Option.bind_some]
  rw [mmK_p g3.sh, mmK_p (by decide), mmK_p (by decide), show ((3 : Int) - 1).toNat = 2 from rfl, show (3 : Int) + 1 = 4 from rfl]
  rw [f_X0_dropOldest_L9, if_pos (by decide)]
theorem keep12 {m : Mem} {hn : Nat} {H : Nat → AS} {a : AS} (h : CH m hn H) (hlt : hn < 4) (ha : repS m 1 a) (h24 : a.1 ≤ 24) : ∃ m1, f_X0_keepState_L12 1 m = some m1 ∧ CH m1 (hn + 1) (fun i => if i = hn then a else H i) ∧ (∀ c, c < 19 ∨ 44 < c → m1.1 c = m.1 c) := by
  obtain ⟨q, a1, a2, a3, a4, a5⟩ := h
  unfold f_X0_keepState_L12
  rw [a1, mmK_p (by omega), tN, (a3 hn hlt).1]
  simp only [Option.bind_some]
  have hq := (a3 hn hlt).2
  have hr := hq.rg
  obtain ⟨m1, e1, f1, r1⟩ := copy_ok (q hn) 1 m (by omega)
  have e19 : m1.1 19 1 = hn := by rw [f1.1 19 (by omega)]; exact a1
  rw [mmK_p hq.sh, e1]
  simp only [Option.bind_some]
  rw [e19, mmK_p (by constructor <;> omega)]
  refine ⟨_, rfl, ⟨q, by rw [mwr_self, if_pos rfl]; rfl, by omega, fun i hi => by rw [mwr_2, f1.2]; exact a3 i hi, a4, fun i hi => ?_⟩, fun c hc => by rw [mwr_ne (by omega), f1.1 c (by omega)]⟩
  show repS _ _ (if i = hn then a else H i) ∧ (if i = hn then a else H i).1 ≤ 24
  by_cases z : i = hn
  · rw [if_pos z, z]
    refine ⟨(r1 a h24 ha).keep (fun c g1 g2 => mwr_ne (by omega)), h24⟩
  · rw [if_neg z]
    have hap := isQ.ap (a3 i (by omega)).2 hq (fun e => z (a4 i hn (by omega) hlt e))
    have hri := (a3 i (by omega)).2.rg
    exact ⟨((a5 i (by omega)).1.fr f1 (by omega)).keep (fun c g1 g2 => mwr_ne (by omega)), (a5 i (by omega)).2⟩
theorem keep_ok {m : Mem} {hn : Nat} {H : Nat → AS} {a : AS} (h : CH m hn H) (ha : repS m 1 a) (h24 : a.1 ≤ 24) : ∃ m1, f_X0_keepState 1 m = some m1 ∧ CH m1 (pushN hn) (pushH hn H a) ∧ (∀ c, c < 19 ∨ 44 < c → m1.1 c = m.1 c) := by
  obtain ⟨q, a1, a2, a3, a4, a5⟩ := id h
  unfold f_X0_keepState
  by_cases z : hn = 4
  · subst z
    rw [if_neg (by omega)]
    unfold f_X0_dropOldest
    rw [(a3 0 (by omega)).1]
    simp only [Option.bind_some]
    rw [mmK_p (a3 0 (by omega)).2.sh, show mmFU = 996 + 4 from rfl, drop9 996 (q 0) (q 1) (q 2) (q 3) m (a3 1 (by omega)).1 (a3 2 (by omega)).1 (a3 3 (by omega)).1 (a3 1 (by omega)).2 (a3 2 (by omega)).2 (a3 3 (by omega)).2]
    simp only [Option.bind_some]
    obtain ⟨m2, hm2⟩ : ∃ w, w = mwr (mwq (mwq (mwq (mwq m 0 (q 1)) 1 (q 2)) 2 (q 3)) 3 (q 0)) 19 1 3 := ⟨_, rfl⟩
    rw [← hm2]
    have hc : ∀ c, c ≠ 19 → m2.1 c = m.1 c := fun c hc => by rw [hm2, mwr_ne hc]; rfl
    have hq2 : ∀ i, i < 4 → m2.2 i = some (q (if i = 3 then 0 else i + 1)) := by
      intro i hi
      rw [hm2, mwr_2, mwq_2, mwq_2, mwq_2, mwq_2]
      rcases (show i = 0 ∨ i = 1 ∨ i = 2 ∨ i = 3 by omega) with rfl | rfl | rfl | rfl <;> rfl
    have hch : CH m2 3 (fun i => H (i + 1)) := by
      refine ⟨fun i => q (if i = 3 then 0 else i + 1), by rw [hm2, mwr_self, if_pos rfl]; rfl, by omega, fun i hi => ⟨hq2 i hi, (a3 _ (by split <;> omega)).2⟩, fun i j hi hj e => ?_, fun i hi => ?_⟩
      · have := a4 _ _ (by split <;> omega) (by split <;> omega) e
        split at this <;> split at this <;> omega
      · show repS _ (q (if i = 3 then 0 else i + 1)) _ ∧ _
        rw [if_neg (by omega)]
        have := (a3 (i + 1) (by omega)).2.rg
        exact ⟨(a5 (i + 1) (by omega)).1.keep (fun c g1 g2 => hc c (by omega)), (a5 (i + 1) (by omega)).2⟩
    obtain ⟨m3, e3, r3, f3⟩ := keep12 hch (by omega) (ha.keep (fun c g1 g2 => hc c (by omega))) h24
    refine ⟨m3, e3, ?_, fun c hcc => by rw [f3 c hcc, hc c (by omega)]⟩
    obtain ⟨q', b1, b2, b3, b4, b5⟩ := r3
    refine ⟨q', b1, b2, b3, b4, fun i hi => ?_⟩
    have hi : i < 4 := hi
    have := b5 i hi
    show repS _ _ (if i < 3 then H (i + 1) else a) ∧ (if i < 3 then H (i + 1) else a).1 ≤ 24
    by_cases z2 : i < 3
    · rw [if_pos z2]; simpa [show ¬ i = 3 by omega] using this
    · rw [if_neg z2]; simpa [show i = 3 by omega] using this
  · rw [if_pos (by omega)]
    obtain ⟨m3, e3, r3, f3⟩ := keep12 h (by omega) ha h24
    refine ⟨m3, e3, ?_, f3⟩
    have e1 : pushN hn = hn + 1 := by unfold pushN; rw [if_neg z]
    have e2 : pushH hn H a = fun i => if i = hn then a else H i := by unfold pushH; funext i; rw [if_neg z]
    rw [e1, e2]
    exact r3
theorem give_no {m : Mem} {H : Nat → AS} (h : CH m 0 H) : f_X0_giveLatestTo 1 m = some (0, m) := by
  obtain ⟨q, a1, -⟩ := h
  unfold f_X0_giveLatestTo
  rw [if_pos (by omega)]
theorem give_ok {m : Mem} {hn : Nat} {H : Nat → AS} (h : CH m (hn + 1) H) : ∃ m1, f_X0_giveLatestTo 1 m = some (1, m1) ∧ CH m1 hn H ∧ repS m1 1 (H hn) ∧ ∀ c, c < 1 ∨ (6 < c ∧ c ≠ 19) → m1.1 c = m.1 c := by
  obtain ⟨q, a1, a2, a3, a4, a5⟩ := id h
  unfold f_X0_giveLatestTo
  rw [if_neg (by omega), if_pos (by omega), mmK_p (by constructor <;> omega), mmK_p (by omega), show (m.1 19 1 - 1).toNat = hn by omega, (a3 hn (by omega)).1]
  simp only [Option.bind_some]
  have hq := (a3 hn (by omega)).2
  have hr := hq.rg
  obtain ⟨m1, e1, f1, r1⟩ := copy_ok 1 (q hn) m (by omega)
  rw [mmK_p hq.sh, e1]
  simp only [Option.bind_some]
  have e19 : m1.1 19 1 = ((hn + 1 : Nat) : Int) := by rw [f1.1 19 (by omega)]; exact a1
  rw [e19, mmK_p (by constructor <;> omega)]
  have hkeep : ∀ c, c < 1 ∨ (6 < c ∧ c ≠ 19) → (mwr m1 19 1 (((hn + 1 : Nat) : Int) - 1)).1 c = m.1 c := fun c hc => by rw [mwr_ne (by omega), f1.1 c (by omega)]
  refine ⟨_, rfl, ⟨q, by rw [mwr_self, if_pos rfl]; omega, by omega, fun i hi => by rw [mwr_2, f1.2]; exact a3 i hi, a4, fun i hi => ?_⟩, ?_, hkeep⟩
  · have hri := (a3 i (by omega)).2.rg
    exact ⟨(a5 i (by omega)).1.keep (fun c g1 g2 => hkeep c (by omega)), (a5 i (by omega)).2⟩
  · exact (r1 (H hn) (a5 hn (by omega)).2 (a5 hn (by omega)).1).keep (fun c g1 g2 => mwr_ne (by omega))
