/-! pure: instances into stretches; the reference's two searches -/
theorem add_toInt {a b : Int32} (h0 : -2147483648 ≤ a.toInt + b.toInt) (h1 : a.toInt + b.toInt < 2147483648) : (a + b).toInt = a.toInt + b.toInt := by
  have e : a + b = iI (a.toInt + b.toInt) := by rw [← iI_add, iI_self, iI_self]
  rw [e, iI_toInt h0 h1]
theorem sub_toInt {a b : Int32} (h0 : -2147483648 ≤ a.toInt - b.toInt) (h1 : a.toInt - b.toInt < 2147483648) : (a - b).toInt = a.toInt - b.toInt := by
  have e : a - b = iI (a.toInt - b.toInt) := by rw [← iI_sub, iI_self, iI_self]
  rw [e, iI_toInt h0 h1]
/-- the minutes of the instances j, j + 1 .. of an event -/
def EvS (bs : Nat → Int32) (c d j : Nat) (m : Int) : Prop := ∃ i, j ≤ i ∧ i < c ∧ (bs i).toInt ≤ m ∧ m < (bs i).toInt + (d : Int)
theorem BT.iff {F B : Nat → Int32} {k : Nat} {S T : Int → Prop} (h : BT F B k S) (hs : ∀ m, T m ↔ S m) : BT F B k T := ⟨h.1, h.2.1, h.2.2.1, fun m => (hs m).trans (h.2.2.2 m)⟩
theorem b_addIl {FU c d : Nat} {bs : Nat → Int32} (hF : 200 < FU) (hc : c ≤ 40) (hd : 1 ≤ d) (hd2 : d ≤ 1440) (hb : ∀ j, j < c → okMin (bs j)) : ∀ (m i k : Nat) (F B : Nat → Int32) (S : Int → Prop), i ≤ c → c - i < m → k + (c - i) ≤ 160 → BT F B k S →
    ∃ F' B' k', f_BusyTimes_addInstances_2 FU bs (nI c) (nI d) m (nI i) F B (nI k) = some (F', B', nI k') ∧ k' ≤ k + (c - i) ∧ BT F' B' k' (fun m => S m ∨ EvS bs c d i m) := by
  intro m
  induction m with
  | zero => intro i k F B S _ h; omega
  | succ m ih =>
    intro i k F B S hi h hk hB
    have e0 : f_BusyTimes_addInstances_2 FU bs (nI c) (nI d) (m + 1) (nI i) F B (nI k) = f_BusyTimes_addInstances_2_hd FU bs (nI c) (nI d) (f_BusyTimes_addInstances_2 FU bs (nI c) (nI d) m) (nI i) F B (nI k) := rfl
    rw [e0]
    unfold f_BusyTimes_addInstances_2_hd f_Event_size f_Event_start f_Event_duration
    rw [bd_ok]
    by_cases hin : c ≤ i
    · rw [if_pos (nI_le hin (by omega))]
      exact ⟨F, B, k, rfl, by omega, hB.iff (fun m => ⟨fun q => q.elim (fun q => q) (fun ⟨j, q1, q2, _⟩ => by omega), Or.inl⟩)⟩
    · have hlt : ¬ nI c ≤ nI i := nI_ge (by omega) (by omega)
      rw [if_neg hlt, if_neg (nI_pos (by omega)), if_neg hlt, ck_ok (show i < 40 by omega) (by omega), bd_ok, bd_ok, bd_ok, nI_clamp (by omega), nI_1]
      have hm := hb i (by omega)
      unfold okMin at hm
      have hdi : (nI d).toInt = (d : Int) := nI_toInt (by omega)
      have hs : (bs i + nI d).toInt = (bs i).toInt + (d : Int) := by rw [add_toInt (by omega) (by omega), hdi]
      obtain ⟨F1, B1, k1, r1, r2, r3⟩ := b_add (a := bs i) (b := bs i + nI d) hF (show k < 160 by omega) hB (by omega) (by omega) (by omega)
      rw [r1, bd_ok]
      obtain ⟨F2, B2, k2, s1, s2, s3⟩ := ih (i + 1) k1 F1 B1 _ (by omega) (by omega) (by omega) r3
      refine ⟨F2, B2, k2, s1, by omega, s3.iff (fun m => ⟨fun q => ?_, fun q => ?_⟩)⟩
      · rcases q with q | ⟨j, q1, q2, q3, q4⟩
        · exact Or.inl (Or.inl q)
        · by_cases hj : j = i
          · subst hj
            exact Or.inl (Or.inr ⟨q3, by rw [hs]; exact q4⟩)
          · exact Or.inr ⟨j, by omega, q2, q3, q4⟩
      · rcases q with (q | q) | ⟨j, q1, q2, q3, q4⟩
        · exact Or.inl q
        · exact Or.inr ⟨i, Nat.le_refl _, by omega, q.1, by rw [← hs]; exact q.2⟩
        · exact Or.inr ⟨j, by omega, q2, q3, q4⟩
theorem b_addI {FU c d k : Nat} {bs F B : Nat → Int32} {S : Int → Prop} (hF : 200 < FU) (hc : c ≤ 40) (hd : 1 ≤ d) (hd2 : d ≤ 1440) (hb : ∀ j, j < c → okMin (bs j)) (hk : k + c ≤ 160) (hB : BT F B k S) :
    ∃ F' B' k', f_BusyTimes_addInstances FU F B (nI k) bs (nI c) (nI d) = some (F', B', nI k') ∧ k' ≤ k + c ∧ BT F' B' k' (fun m => S m ∨ EvS bs c d 0 m) := by
  unfold f_BusyTimes_addInstances
  obtain ⟨F', B', k', h1, h2, h3⟩ := b_addIl hF hc hd hd2 hb FU 0 k F B S (by omega) (by omega) (by omega) hB
  exact ⟨F', B', k', h1, by omega, h3⟩
/-- an event that is filled -/
def EvOk (bs : Nat → Int32) (bz du : Int32) (c d : Nat) : Prop := c ≤ 40 ∧ bz = nI c ∧ 1 ≤ d ∧ d ≤ 1440 ∧ du = nI d ∧ ∀ j, j < c → okMin (bs j)
/-- the minutes of the events e, e + 1 .. of a person -/
def PeS (bs : Nat → Nat → Int32) (C D : Nat → Nat) (n e : Nat) (m : Int) : Prop := ∃ i, e ≤ i ∧ i < n ∧ EvS (bs i) (C i) (D i) 0 m
theorem b_recl {FU n : Nat} {bs : Nat → Nat → Int32} {bz du : Nat → Int32} {C D : Nat → Nat} (hF : 200 < FU) (hn : n ≤ 4) (hE : ∀ e, e < n → EvOk (bs e) (bz e) (du e) (C e) (D e)) : ∀ (m e k : Nat) (F B : Nat → Int32) (S : Int → Prop), e ≤ n → n - e < m → k ≤ 40 * e → BT F B k S →
    ∃ F' B' k', f_Person_recountBusyTimes_9 FU bs bz du (nI n) m (nI e) F B (nI k) = some (F', B', nI k') ∧ k' ≤ 40 * n ∧ BT F' B' k' (fun m => S m ∨ PeS bs C D n e m) := by
  intro m
  induction m with
  | zero => intro e k F B S _ h; omega
  | succ m ih =>
    intro e k F B S he h hk hB
    have e0 : f_Person_recountBusyTimes_9 FU bs bz du (nI n) (m + 1) (nI e) F B (nI k) = f_Person_recountBusyTimes_9_hd FU bs bz du (nI n) (f_Person_recountBusyTimes_9 FU bs bz du (nI n) m) (nI e) F B (nI k) := rfl
    rw [e0]
    unfold f_Person_recountBusyTimes_9_hd
    by_cases hin : n ≤ e
    · rw [if_pos (nI_le hin (by omega))]
      exact ⟨F, B, k, rfl, by omega, hB.iff (fun m => ⟨fun q => q.elim (fun q => q) (fun ⟨j, q1, q2, _⟩ => by omega), Or.inl⟩)⟩
    · rw [if_neg (nI_ge (by omega) (by omega)), sp4_at (fun i => bd (f_BusyTimes_addInstances FU F B (nI k) (bs i) (bz i) (du i)) (fun z => f_Person_recountBusyTimes_9 FU bs bz du (nI n) m (nI e + 1) z.1 z.2.1 z.2.2)) (show e < 4 by omega)]
      try dsimp only
      obtain ⟨g1, g2, g3, g4, g5, g6⟩ := hE e (by omega)
      rw [g2, g5]
      obtain ⟨F1, B1, k1, r1, r2, r3⟩ := b_addI hF g1 g3 g4 g6 (show k + C e ≤ 160 by omega) hB
      rw [r1, bd_ok, nI_1]
      obtain ⟨F2, B2, k2, s1, s2, s3⟩ := ih (e + 1) k1 F1 B1 _ (by omega) (by omega) (by omega) r3
      refine ⟨F2, B2, k2, s1, s2, s3.iff (fun m => ⟨fun q => ?_, fun q => ?_⟩)⟩
      · rcases q with q | ⟨j, q1, q2, q3⟩
        · exact Or.inl (Or.inl q)
        · by_cases hj : j = e
          · subst hj
            exact Or.inl (Or.inr q3)
          · exact Or.inr ⟨j, by omega, q2, q3⟩
      · rcases q with (q | q) | ⟨j, q1, q2, q3⟩
        · exact Or.inl q
        · exact Or.inr ⟨e, Nat.le_refl _, by omega, q⟩
        · exact Or.inr ⟨j, by omega, q2, q3⟩
theorem b_recount {FU n : Nat} {bs : Nat → Nat → Int32} {bz du : Nat → Int32} {C D : Nat → Nat} (hF : 200 < FU) (hn : n ≤ 4) (hE : ∀ e, e < n → EvOk (bs e) (bz e) (du e) (C e) (D e)) (F B : Nat → Int32) (k : Int32) :
    ∃ F' B' k', f_Person_recountBusyTimes FU bs bz du (nI n) F B k = some (F', B', nI k') ∧ k' ≤ 40 * n ∧ BT F' B' k' (PeS bs C D n 0) := by
  unfold f_Person_recountBusyTimes f_BusyTimes_clear
  rw [bd_ok]
  obtain ⟨F', B', k', r1, r2, r3⟩ := b_recl hF hn hE FU 0 0 F B _ (by omega) (by omega) (by omega) BT.empty
  exact ⟨F', B', k', r1, r2, r3.iff (fun m => ⟨Or.inr, fun q => q.elim (fun q => q.elim) (fun q => q)⟩)⟩
theorem b_cover {FU k : Nat} {F B : Nat → Int32} {S : Int → Prop} (hF : 200 < FU) (hk : k ≤ 160) (h : BT F B k S) (x : Int32) : ∃ r : Int32, f_BusyTimes_cover FU x F B (nI k) = some r ∧ ((r = 1 ∧ S x.toInt) ∨ (r = 0 ∧ ¬ S x.toInt)) := by
  have key : ∀ (m i : Nat), i ≤ k → k - i < m → ∃ r : Int32, f_BusyTimes_cover_2 FU F B (nI k) m x (nI i) = some r ∧ ((r = 1 ∧ ∃ j, j < k ∧ (F j).toInt ≤ x.toInt ∧ x.toInt < (B j).toInt) ∨ (r = 0 ∧ ∀ j, i ≤ j → j < k → ¬ ((F j).toInt ≤ x.toInt ∧ x.toInt < (B j).toInt))) := by
    intro m
    induction m with
    | zero => intro i _ h; omega
    | succ m ih =>
      intro i hi hm
      have e0 : f_BusyTimes_cover_2 FU F B (nI k) (m + 1) x (nI i) = f_BusyTimes_cover_2_hd FU F B (nI k) (f_BusyTimes_cover_2 FU F B (nI k) m) x (nI i) := rfl
      rw [e0]
      unfold f_BusyTimes_cover_2_hd
      by_cases hin : k ≤ i
      · rw [if_pos (nI_le hin (by omega))]
        exact ⟨0, rfl, Or.inr ⟨rfl, fun j h1 h2 => by omega⟩⟩
      · rw [if_neg (nI_ge (by omega) (by omega)), ck_ok (show i < 160 by omega) (by omega), ck_ok (show i < 160 by omega) (by omega), nI_clamp (by omega), nI_1]
        obtain ⟨r, r1, r2⟩ := ih (i + 1) (by omega) (by omega)
        have cont : ¬ ((F i).toInt ≤ x.toInt ∧ x.toInt < (B i).toInt) → ∃ r : Int32, f_BusyTimes_cover_2 FU F B (nI k) m x (nI (i + 1)) = some r ∧ ((r = 1 ∧ ∃ j, j < k ∧ (F j).toInt ≤ x.toInt ∧ x.toInt < (B j).toInt) ∨ (r = 0 ∧ ∀ j, i ≤ j → j < k → ¬ ((F j).toInt ≤ x.toInt ∧ x.toInt < (B j).toInt))) := by
          intro hno
          refine ⟨r, r1, r2.imp (fun q => q) (fun q => ⟨q.1, fun j h1 h2 => ?_⟩)⟩
          by_cases hj : j = i
          · subst hj; exact hno
          · exact q.2 j (by omega) h2
        by_cases c1 : x < F i
        · rw [if_pos c1]
          rw [i_lt] at c1
          exact cont (by omega)
        · rw [if_neg c1]
          by_cases c2 : B i ≤ x
          · rw [if_pos c2]
            rw [i_le] at c2
            exact cont (by omega)
          · rw [if_neg c2]
            rw [i_lt] at c1
            rw [i_le] at c2
            exact ⟨1, rfl, Or.inl ⟨rfl, i, by omega, by omega, by omega⟩⟩
  obtain ⟨r, r1, r2⟩ := key FU 0 (by omega) (by omega)
  refine ⟨r, r1, r2.imp (fun q => ⟨q.1, (h.2.2.2 _).mpr q.2⟩) (fun q => ⟨q.1, fun hs => ?_⟩)⟩
  obtain ⟨j, j1, j2⟩ := (h.2.2.2 _).mp hs
  exact q.2 j (by omega) j1 j2
/-- r is the least minute of T from x on, or there is none -/
def Lst (T : Int → Prop) (x r : Int) : Prop := (r = 2000000000 ∧ ∀ m, x ≤ m → ¬ T m) ∨ (x ≤ r ∧ T r ∧ r < 2000000000 ∧ ∀ m, x ≤ m → m < r → ¬ T m)
theorem Lst.uniq {T : Int → Prop} {x r s : Int} (h : Lst T x r) (g : Lst T x s) : r = s := by
  rcases h with ⟨h1, h2⟩ | ⟨h1, h2, h3, h4⟩ <;> rcases g with ⟨g1, g2⟩ | ⟨g1, g2, g3, g4⟩
  · omega
  · exact absurd g2 (h2 s g1)
  · exact absurd h2 (g2 r h1)
  · rcases Int.lt_trichotomy r s with q | q | q
    · exact absurd h2 (g4 r h1 q)
    · exact q
    · exact absurd g2 (h4 s g1 q)
theorem Lst.iff {T U : Int → Prop} {x r : Int} (h : Lst T x r) (hs : ∀ m, U m ↔ T m) : Lst U x r := by
  rcases h with ⟨h1, h2⟩ | ⟨h1, h2, h3, h4⟩
  · exact Or.inl ⟨h1, fun m hm q => h2 m hm ((hs m).mp q)⟩
  · exact Or.inr ⟨h1, (hs r).mpr h2, h3, fun m hm hr q => h4 m hm hr ((hs m).mp q)⟩
/-- one more stretch -/
theorem Lst.more {T : Int → Prop} {x r b e : Int} (h : Lst T x r) (he : e < 2000000000) (hbe : b < e) : Lst (fun m => T m ∨ (b ≤ m ∧ m < e)) x (if e ≤ x then r else if r ≤ (if b ≤ x then x else b) then r else (if b ≤ x then x else b)) := by
  by_cases c1 : e ≤ x
  · rw [if_pos c1]
    rcases h with ⟨h1, h2⟩ | ⟨h1, h2, h3, h4⟩
    · exact Or.inl ⟨h1, fun m hm q => q.elim (h2 m hm) (fun q => by omega)⟩
    · exact Or.inr ⟨h1, Or.inl h2, h3, fun m hm hr q => q.elim (h4 m hm hr) (fun q => by omega)⟩
  · rw [if_neg c1]
    have hs : ∃ s, s = (if b ≤ x then x else b) ∧ x ≤ s ∧ b ≤ s ∧ s < e ∧ ∀ m, x ≤ m → b ≤ m → s ≤ m := by
      by_cases q : b ≤ x
      · exact ⟨x, by rw [if_pos q], by omega, q, by omega, fun m h1 h2 => h1⟩
      · exact ⟨b, by rw [if_neg q], by omega, by omega, hbe, fun m h1 h2 => h2⟩
    obtain ⟨s, s1, s2, s3, s4, s5⟩ := hs
    rw [← s1]
    by_cases c2 : r ≤ s
    · rw [if_pos c2]
      rcases h with ⟨h1, h2⟩ | ⟨h1, h2, h3, h4⟩
      · omega
      · exact Or.inr ⟨h1, Or.inl h2, h3, fun m hm hr q => q.elim (h4 m hm hr) (fun q => by have := s5 m hm q.1; omega)⟩
    · rw [if_neg c2]
      refine Or.inr ⟨s2, Or.inr ⟨s3, s4⟩, by omega, fun m hm hr q => ?_⟩
      rcases q with q | q
      · rcases h with ⟨h1, h2⟩ | ⟨h1, h2, h3, h4⟩
        · exact h2 m hm q
        · exact h4 m hm (by omega) q
      · have := s5 m hm q.1
        omega
