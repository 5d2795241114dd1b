/-! pure: slot -/
/-- so many free minutes from x on -/
def Fr (S : Int → Prop) (len x : Int) : Prop := ∀ m, x ≤ m → m < x + len → ¬ S m
theorem b_ff {FU k : Nat} {F B : Nat → Int32} {S : Int → Prop} (hk : k ≤ 160) (h : BT F B k S) {len : Int32} (h1 : 1 ≤ len.toInt) (h2 : len.toInt ≤ 1440) : ∀ (m i : Nat) (c : Int32), i ≤ k → k - i < m → c.toInt ≤ 10530000 → -3000 ≤ c.toInt → (∀ j, j < i → (B j).toInt ≤ c.toInt ∨ c.toInt + len.toInt ≤ (F j).toInt) →
    ∃ r, f_BusyTimes_freeFrom_5 FU F B (nI k) m len c (nI i) = some r ∧ c.toInt ≤ r.toInt ∧ r.toInt ≤ 10530000 ∧ Fr S len.toInt r.toInt ∧ (∀ x, c.toInt ≤ x → x < r.toInt → ¬ Fr S len.toInt x) ∧ (c.toInt < r.toInt → ∃ j, j < k ∧ c.toInt < (B j).toInt ∧ (B j).toInt ≤ r.toInt) := by
  intro m
  induction m with
  | zero => intro i c _ h; omega
  | succ m ih =>
    intro i c hi hm hc hc0 hinv
    have e0 : f_BusyTimes_freeFrom_5 FU F B (nI k) (m + 1) len c (nI i) = f_BusyTimes_freeFrom_5_hd FU F B (nI k) (f_BusyTimes_freeFrom_5 FU F B (nI k) m) len c (nI i) := rfl
    rw [e0]
    unfold f_BusyTimes_freeFrom_5_hd
    by_cases hin : k ≤ i
    · rw [if_pos (nI_le hin (by omega))]
      refine ⟨c, rfl, Int.le_refl _, hc, fun x g1 g2 g3 => ?_, fun x g1 g2 => by omega, fun q => by omega⟩
      obtain ⟨j, j1, j2, j3⟩ := (h.2.2.2 x).mp g3
      rcases hinv j (by omega) with w | w <;> omega
    · rw [if_neg (nI_ge (by omega) (by omega))]
      simp only [ck_ok (show i < 160 by omega) (by omega), nI_clamp (show i < 2 ^ 31 by omega), nm_eq, nI_1]
      have hs : (c + len).toInt = c.toInt + len.toInt := add_toInt (by omega) (by omega)
      have hb := h.2.2.1 i (by omega)
      have hl := h.1 i (by omega)
      by_cases c1 : B i ≤ c
      · rw [if_pos c1]
        rw [i_le] at c1
        exact ih (i + 1) c (by omega) (by omega) hc hc0 (fun j hj => by
          by_cases q : j = i
          · subst q; exact Or.inl c1
          · exact hinv j (by omega))
      · rw [if_neg c1]
        rw [i_le] at c1
        by_cases c2 : c + len ≤ F i
        · rw [if_pos c2]
          rw [i_le, hs] at c2
          exact ih (i + 1) c (by omega) (by omega) hc hc0 (fun j hj => by
            by_cases q : j = i
            · subst q; exact Or.inr c2
            · exact hinv j (by omega))
        · rw [if_neg c2]
          rw [i_le, hs] at c2
          obtain ⟨r, r1, r2, r3, r4, r5, r6⟩ := ih (i + 1) (B i) (by omega) (by omega) (by omega) (by omega) (fun j hj => by
            by_cases q : j = i
            · subst q; exact Or.inl (Int.le_refl _)
            · have g1 := h.lt (show j < i by omega) (by omega)
              exact Or.inl (by omega))
          refine ⟨r, r1, by omega, r3, r4, fun x g1 g2 => ?_, fun _ => ⟨i, by omega, by omega, r2⟩⟩
          by_cases q : (B i).toInt ≤ x
          · exact r5 x q g2
          · intro hf
            by_cases q2 : (F i).toInt ≤ x
            · exact hf x (Int.le_refl _) (by omega) ((h.2.2.2 x).mpr ⟨i, by omega, q2, by omega⟩)
            · exact hf (F i).toInt (by omega) (by omega) ((h.2.2.2 _).mpr ⟨i, by omega, Int.le_refl _, hl⟩)
/-- the stretches of all that end behind f -/
def Bh (bb : Nat → Nat → Int32) (K : Nat → Nat) (f : Int) (x : Nat) : Prop := ∃ p i, p < 4 ∧ i < K p ∧ x = 160 * p + i ∧ f < (bb p i).toInt
theorem Bh.mono {bb : Nat → Nat → Int32} {K : Nat → Nat} {f g : Int} (h : f ≤ g) {x : Nat} (q : Bh bb K g x) : Bh bb K f x := by
  obtain ⟨p, i, h1, h2, h3, h4⟩ := q
  exact ⟨p, i, h1, h2, h3, by omega⟩
theorem Bh.left {bb : Nat → Nat → Int32} {K : Nat → Nat} (hK : ∀ p, p < 4 → K p ≤ 160) {p i : Nat} (hp : p < 4) (hi : i < K p) {f g : Int} (h1 : f < (bb p i).toInt) (h2 : (bb p i).toInt ≤ g) : Bh bb K f (160 * p + i) ∧ ¬ Bh bb K g (160 * p + i) := by
  refine ⟨⟨p, i, hp, hi, rfl, h1⟩, ?_⟩
  rintro ⟨p', i', g1, g2, g3, g4⟩
  have a1 := hK p hp
  have a2 := hK p' g1
  have : p' = p ∧ i' = i := by omega
  obtain ⟨rfl, rfl⟩ := this
  omega
theorem Bh.lt {bb : Nat → Nat → Int32} {K : Nat → Nat} (hK : ∀ p, p < 4 → K p ≤ 160) {f : Int} {x : Nat} (h : Bh bb K f x) : x < 640 := by
  obtain ⟨p, i, h1, h2, h3, h4⟩ := h
  have := hK p h1
  omega
def Sl (w : Int32) (p : Nat) : Prop := ((w >>> (nI p &&& 31)) &&& 1) = 1
/-- free for all of them that are asked for, from the person p on -/
def CV (w : Int32) (S : Nat → Int → Prop) (len : Int) (p : Nat) (x : Int) : Prop := ∀ q, p ≤ q → q < 4 → Sl w q → Fr (S q) len x
theorem k_pass {FU : Nat} {bf bb : Nat → Nat → Int32} {bz : Nat → Int32} {K : Nat → Nat} {S : Nat → Int → Prop} (hF : 200 < FU) (hK : ∀ p, p < 4 → K p ≤ 160 ∧ bz p = nI (K p) ∧ BT (bf p) (bb p) (K p) (S p)) (w : Int32) {len : Int32} (h1 : 1 ≤ len.toInt) (h2 : len.toInt ≤ 1440) : ∀ (m p : Nat) (c : Int32), p ≤ 4 → 4 - p < m → c.toInt ≤ 10530000 → -3000 ≤ c.toInt →
    ∃ r, f_K_passStretches_6 FU bf bb bz m w len c (nI p) = some r ∧ c.toInt ≤ r.toInt ∧ r.toInt ≤ 10530000 ∧ (r.toInt = c.toInt → CV w S len.toInt p c.toInt) ∧ (∀ x, c.toInt ≤ x → x < r.toInt → ¬ CV w S len.toInt p x) ∧ (c.toInt < r.toInt → ∃ x, Bh bb K c.toInt x ∧ ¬ Bh bb K r.toInt x) := by
  have hK' : ∀ p, p < 4 → K p ≤ 160 := fun p hp => (hK p hp).1
  intro m
  induction m with
  | zero => intro p c _ h; omega
  | succ m ih =>
    intro p c hp hm hc hc0
    have e0 : f_K_passStretches_6 FU bf bb bz (m + 1) w len c (nI p) = f_K_passStretches_6_hd FU bf bb bz (f_K_passStretches_6 FU bf bb bz m) w len c (nI p) := rfl
    rw [e0]
    unfold f_K_passStretches_6_hd f_Person_busyTimes
    by_cases hin : 4 ≤ p
    · rw [if_pos (show (4 : Int32) ≤ nI p from nI_le (a := 4) hin (by omega))]
      exact ⟨c, rfl, Int.le_refl _, hc, fun _ q g1 g2 => by omega, fun x g1 g2 => by omega, fun q => by omega⟩
    · rw [if_neg (show ¬ (4 : Int32) ≤ nI p from nI_ge (b := 4) (by omega) (by omega))]
      simp only [bd_ok, nI_1]
      by_cases hs : ((w >>> (nI p &&& 31)) &&& 1) = 1
      · rw [if_pos hs, sp4_at (fun p' => bd (f_BusyTimes_freeFrom FU c len (bf p') (bb p') (bz p')) (fun z => f_K_passStretches_6 FU bf bb bz m w len z (nI (p + 1)))) (show p < 4 by omega)]
        obtain ⟨k1, k2, k3⟩ := hK p (by omega)
        try dsimp only
        rw [k2]
        unfold f_BusyTimes_freeFrom
        obtain ⟨r, r1, r2, r3, r4, r5, r6⟩ := b_ff (FU := FU) k1 k3 h1 h2 FU 0 c (by omega) (by omega) hc hc0 (fun j hj => by omega)
        rw [show (0 : Int32) = nI 0 from rfl, r1, bd_ok]
        obtain ⟨r', s1, s2, s3, s4, s5, s6⟩ := ih (p + 1) r (by omega) (by omega) r3 (by omega)
        refine ⟨r', s1, by omega, s3, fun q => ?_, fun x g1 g2 => ?_, fun q => ?_⟩
        · have e1 : r.toInt = c.toInt := by omega
          intro q' g1 g2 g3
          by_cases g4 : q' = p
          · subst g4
            rw [← e1]
            exact r4
          · have := s4 (by omega) q' (by omega) g2 g3
            rw [e1] at this
            exact this
        · by_cases g3 : x < r.toInt
          · exact fun hv => r5 x g1 g3 (hv p (Nat.le_refl _) (by omega) hs)
          · exact fun hv => s5 x (by omega) g2 (fun q' a1 a2 a3 => hv q' (by omega) a2 a3)
        · by_cases g3 : c.toInt < r.toInt
          · obtain ⟨j, j1, j2, j3⟩ := r6 g3
            obtain ⟨b1, b2⟩ := Bh.left (bb := bb) hK' (show p < 4 by omega) j1 j2 j3
            exact ⟨_, b1, fun a => b2 (a.mono s2)⟩
          · have e1 : r.toInt = c.toInt := by omega
            obtain ⟨x, b1, b2⟩ := s6 (by omega)
            rw [e1] at b1
            exact ⟨x, b1, b2⟩
      · rw [if_neg hs]
        obtain ⟨r', s1, s2, s3, s4, s5, s6⟩ := ih (p + 1) c (by omega) (by omega) hc hc0
        refine ⟨r', s1, s2, s3, fun q q' g1 g2 g3 => ?_, fun x g1 g2 hv => ?_, s6⟩
        · by_cases g4 : q' = p
          · subst g4; exact absurd g3 hs
          · exact s4 q q' (by omega) g2 g3
        · exact s5 x g1 g2 (fun q' a1 a2 a3 => hv q' (by omega) a2 a3)
/-- the class's loop -/
theorem k_slot73 {FU : Nat} {bf bb : Nat → Nat → Int32} {bz : Nat → Int32} {K : Nat → Nat} {S : Nat → Int → Prop} (hF : 700 < FU) (hK : ∀ p, p < 4 → K p ≤ 160 ∧ bz p = nI (K p) ∧ BT (bf p) (bb p) (K p) (S p)) (w : Int32) {len lat : Int32} (h1 : 1 ≤ len.toInt) (h2 : len.toInt ≤ 1440) (from_ : Int) : ∀ (m rd : Nat) (c : Int32), cn (Bh bb K c.toInt) 640 + rd ≤ 640 → 642 - rd < m → c.toInt ≤ 10530000 → -3000 ≤ c.toInt → from_ ≤ c.toInt → (∀ x, from_ ≤ x → x < c.toInt → ¬ CV w S len.toInt 0 x) →
    ∃ tc r, f_K_slot_73 FU bf bb bz m w len lat c 1 (nI rd) = some (tc, r) ∧ ((tc = 0 ∧ r.toInt ≤ lat.toInt ∧ from_ ≤ r.toInt ∧ CV w S len.toInt 0 r.toInt ∧ ∀ x, from_ ≤ x → x < r.toInt → ¬ CV w S len.toInt 0 x) ∨ (tc = 3 ∧ ∀ x, from_ ≤ x → x ≤ lat.toInt → ¬ CV w S len.toInt 0 x)) := by
  have hK' : ∀ p, p < 4 → K p ≤ 160 := fun p hp => (hK p hp).1
  intro m
  induction m with
  | zero => intro rd c _ h; omega
  | succ m ih =>
    intro rd c hcn hm hc hc0 hfr hno
    have e0 : f_K_slot_73 FU bf bb bz (m + 1) w len lat c 1 (nI rd) = f_K_slot_73_hd FU bf bb bz (f_K_slot_73 FU bf bb bz m) w len lat c 1 (nI rd) := rfl
    rw [e0]
    unfold f_K_slot_73_hd f_K_slot_128 f_K_slot_116
    rw [if_neg (show ¬ (1 : Int32) = 0 by decide)]
    by_cases c1 : lat < c
    · rw [if_pos c1, if_neg (Int32.not_le.mpr c1)]
      rw [i_lt] at c1
      exact ⟨3, 0, rfl, Or.inr ⟨rfl, fun x g1 g2 => hno x g1 (by omega)⟩⟩
    · rw [if_neg c1, if_neg (show ¬ (640 : Int32) < nI rd from by rw [show (640 : Int32) = nI 640 from rfl, nI_ltI (by omega) (by omega)]; omega)]
      rw [i_lt] at c1
      unfold f_K_passStretches
      obtain ⟨r, r1, r2, r3, r4, r5, r6⟩ := k_pass (FU := FU) (by omega) hK w h1 h2 FU 0 c (by omega) (by omega) hc hc0
      rw [show (0 : Int32) = nI 0 from rfl, r1, bd_ok, nI_1]
      by_cases c2 : r ≤ c
      · rw [if_pos c2]
        rw [i_le] at c2
        have e1 : r.toInt = c.toInt := by omega
        obtain ⟨m', rfl⟩ : ∃ m', m = m' + 1 := ⟨m - 1, by omega⟩
        have e2 : f_K_slot_73 FU bf bb bz (m' + 1) w len lat r (nI 0) (nI (rd + 1)) = f_K_slot_73_hd FU bf bb bz (f_K_slot_73 FU bf bb bz m') w len lat r (nI 0) (nI (rd + 1)) := rfl
        rw [e2]
        unfold f_K_slot_73_hd f_K_slot_128
        rw [if_pos (show nI 0 = 0 from rfl), if_pos (show r ≤ lat by rw [i_le]; omega)]
        exact ⟨0, r, rfl, Or.inl ⟨rfl, by omega, by omega, by rw [e1]; exact r4 e1, fun x g1 g2 => hno x g1 (by omega)⟩⟩
      · rw [if_neg c2]
        rw [i_le] at c2
        obtain ⟨x, b1, b2⟩ := r6 (by omega)
        have hlt : cn (Bh bb K r.toInt) 640 < cn (Bh bb K c.toInt) 640 := cn_lt 640 (fun i _ q => q.mono r2) ⟨x, b1.lt hK', b1, b2⟩
        exact ih (rd + 1) r (by omega) (by omega) r3 (by omega) (by omega) (fun x g1 g2 => by
          by_cases q : x < c.toInt
          · exact hno x g1 q
          · exact r5 x (by omega) g2)
/-- from a busy minute the least free one is the end of its stretch -/
theorem bt_run2 {F B : Nat → Int32} {k : Nat} {S : Int → Prop} (h : BT F B k S) {i : Nat} (hi : i < k) {b r : Int} (h1 : (F i).toInt ≤ b) (h2 : b < (B i).toInt) (hr : Run S b r) (hn : ¬ S r) : r = (B i).toInt := by
  rcases Int.lt_trichotomy r (B i).toInt with w | w | w
  · have := hr.1
    exact absurd ((h.2.2.2 r).mpr ⟨i, hi, by omega, w⟩) hn
  · exact w
  · have hB := hr.2 (B i).toInt (by omega) w
    obtain ⟨j, j1, j2, j3⟩ := (h.2.2.2 _).mp hB
    rcases Nat.lt_trichotomy j i with v | v | v
    · have := h.lt v hi; have := h.1 i hi; omega
    · subst v; omega
    · have := h.lt v j1; omega
theorem m_slot70 {FU : Nat} {bf bb : Nat → Nat → Int32} {K N : Nat → Nat} {C D : Nat → Nat → Nat} {bo ln ct bg : Nat → Int32} (hF : 200 < FU) (hM : ∀ p, p < 4 → MP p (N p) (C p) (D p) bo ln ct bg) (hK : ∀ p, p < 4 → K p ≤ 160 ∧ BT (bf p) (bb p) (K p) (MS p (N p) (C p) (D p) bg 0)) (w to : Int32) {len : Int32} (h1 : 1 ≤ len.toInt) (h2 : len.toInt ≤ 1440) (th : Int32)
    (k59 : Int32 → Int32 → Int32 → Int32 → Int32 → Int32 → Option (Int32 × Int32)) : ∀ (m p : Nat) (s mo : Int32), p ≤ 4 → 4 - p < m → s.toInt ≤ 10530000 → -3000 ≤ s.toInt → (mo = 0 ∨ mo = 1) →
    ∃ s' mo', f_M_slot_70 FU bo ln ct bg k59 m w to len s mo (nI p) th = k59 w to len s' mo' th ∧ s.toInt ≤ s'.toInt ∧ s'.toInt ≤ 10530000 ∧ (∀ x, s.toInt ≤ x → x < s'.toInt → ¬ CV w (fun p => MS p (N p) (C p) (D p) bg 0) len.toInt p x) ∧
      ((mo' = mo ∧ s' = s ∧ CV w (fun p => MS p (N p) (C p) (D p) bg 0) len.toInt p s.toInt) ∨ (mo' = 1 ∧ ∃ x, Bh bb K s.toInt x ∧ ¬ Bh bb K s'.toInt x)) := by
  have hK' : ∀ p, p < 4 → K p ≤ 160 := fun p hp => (hK p hp).1
  intro m
  induction m with
  | zero => intro p s mo _ h; omega
  | succ m ih =>
    intro p s mo hp hm hs hs0 hmo
    have e0 : f_M_slot_70 FU bo ln ct bg k59 (m + 1) w to len s mo (nI p) th = f_M_slot_70_hd FU bo ln ct bg k59 (f_M_slot_70 FU bo ln ct bg k59 m) w to len s mo (nI p) th := rfl
    rw [e0]
    unfold f_M_slot_70_hd f_M_slot_100
    by_cases hin : 4 ≤ p
    · rw [if_pos (show (4 : Int32) ≤ nI p from nI_le (a := 4) hin (by omega))]
      exact ⟨s, mo, rfl, Int.le_refl _, hs, fun x g1 g2 => by omega, Or.inl ⟨rfl, rfl, fun q g1 g2 => by omega⟩⟩
    · rw [if_neg (show ¬ (4 : Int32) ≤ nI p from nI_ge (b := 4) (by omega) (by omega))]
      have hp4 : p < 4 := by omega
      have hsum : (s + len).toInt = s.toInt + len.toInt := add_toInt (by omega) (by omega)
      simp only [nI_1]
      -- nothing to do for p
      have skip : (Sl w p → Fr (MS p (N p) (C p) (D p) bg 0) len.toInt s.toInt) → ∃ s' mo', f_M_slot_70 FU bo ln ct bg k59 m w to len s mo (nI (p + 1)) th = k59 w to len s' mo' th ∧ s.toInt ≤ s'.toInt ∧ s'.toInt ≤ 10530000 ∧ (∀ x, s.toInt ≤ x → x < s'.toInt → ¬ CV w (fun p => MS p (N p) (C p) (D p) bg 0) len.toInt p x) ∧
          ((mo' = mo ∧ s' = s ∧ CV w (fun p => MS p (N p) (C p) (D p) bg 0) len.toInt p s.toInt) ∨ (mo' = 1 ∧ ∃ x, Bh bb K s.toInt x ∧ ¬ Bh bb K s'.toInt x)) := by
        intro hfree
        obtain ⟨s', mo', r1, r2, r3, r4, r5⟩ := ih (p + 1) s mo (by omega) (by omega) hs hs0 hmo
        refine ⟨s', mo', r1, r2, r3, fun x g1 g2 hv => r4 x g1 g2 (fun q a1 a2 a3 => hv q (by omega) a2 a3), r5.imp (fun ⟨u1, u2, u3⟩ => ⟨u1, u2, fun q a1 a2 a3 => ?_⟩) (fun u => u)⟩
        by_cases a4 : q = p
        · subst a4; exact hfree a3
        · exact u3 q (by omega) a2 a3
      by_cases hsel : ((w >>> (nI p &&& 31)) &&& 1) = 1
      · rw [if_pos hsel]
        obtain ⟨b, b1, b2⟩ := m_busyFrom hF (hM p hp4) s
        rw [b1, bd_ok]
        by_cases hb : s + len ≤ b
        · rw [if_pos hb]
          rw [i_le, hsum] at hb
          refine skip (fun _ x g1 g2 g3 => ?_)
          rcases b2 with ⟨-, v2⟩ | ⟨-, -, -, v4⟩
          · exact v2 x g1 g3
          · exact v4 x g1 (by omega) g3
        · rw [if_neg hb]
          rw [i_le, hsum] at hb
          obtain ⟨v1, v2, v3, v4⟩ : s.toInt ≤ b.toInt ∧ MS p (N p) (C p) (D p) bg 0 b.toInt ∧ b.toInt < 2000000000 ∧ ∀ m, s.toInt ≤ m → m < b.toInt → ¬ MS p (N p) (C p) (D p) bg 0 m := by
            rcases b2 with ⟨v1, v2⟩ | v
            · omega
            · exact v
          obtain ⟨f, f1, f2, f3⟩ := m_freeFrom hF (hM p hp4) b (by omega)
          rw [f1, bd_ok]
          have hB := (hK p hp4).2
          obtain ⟨i, i1, i2, i3⟩ := (hB.2.2.2 _).mp v2
          have hfe := bt_run2 hB i1 i2 i3 f2 f3
          have hbb := hB.2.2.1 i i1
          obtain ⟨s', mo', r1, r2, r3, r4, r5⟩ := ih (p + 1) f 1 (by omega) (by omega) (by omega) (by omega) (Or.inr rfl)
          obtain ⟨q1, q2⟩ := Bh.left (bb := bb) hK' hp4 i1 (f := s.toInt) (g := f.toInt) (by omega) (by omega)
          refine ⟨s', mo', r1, by omega, r3, fun x g1 g2 hv => ?_, Or.inr ⟨?_, _, q1, fun a => q2 (a.mono r2)⟩⟩
          · by_cases g3 : x < f.toInt
            · by_cases g4 : x ≤ b.toInt
              · exact hv p (Nat.le_refl _) hp4 hsel b.toInt g4 (by omega) v2
              · exact hv p (Nat.le_refl _) hp4 hsel x (Int.le_refl _) (by omega) (f2.2 x (by omega) g3)
            · exact r4 x (by omega) g2 (fun q a1 a2 a3 => hv q (by omega) a2 a3)
          · rcases r5 with ⟨u1, -⟩ | ⟨u1, -⟩
            · exact u1
            · exact u1
      · rw [if_neg hsel, if_pos (show s + len ≤ 2000000000 by rw [i_le, hsum]; have e9 : (2000000000 : Int32).toInt = 2000000000 := rfl; omega)]
        exact skip (fun q => absurd q hsel)
theorem m_slot59 {FU : Nat} {bf bb : Nat → Nat → Int32} {K N : Nat → Nat} {C D : Nat → Nat → Nat} {bo ln ct bg : Nat → Int32} (hF : 200 < FU) (hM : ∀ p, p < 4 → MP p (N p) (C p) (D p) bo ln ct bg) (hK : ∀ p, p < 4 → K p ≤ 160 ∧ BT (bf p) (bb p) (K p) (MS p (N p) (C p) (D p) bg 0)) (w to : Int32) {len : Int32} (h1 : 1 ≤ len.toInt) (h2 : len.toInt ≤ 1440) (from_ : Int) :
    ∀ (m : Nat) (s : Int32), cn (Bh bb K s.toInt) 640 + 1 < m → s.toInt ≤ 10530000 → -3000 ≤ s.toInt → from_ ≤ s.toInt → (∀ x, from_ ≤ x → x < s.toInt → ¬ CV w (fun p => MS p (N p) (C p) (D p) bg 0) len.toInt 0 x) →
      ∃ r, f_M_slot_59 FU bo ln ct bg m w to len s 1 0 = (if to - len < r then some (0, 2) else some (r, 0)) ∧ from_ ≤ r.toInt ∧ r.toInt ≤ 10530000 ∧ CV w (fun p => MS p (N p) (C p) (D p) bg 0) len.toInt 0 r.toInt ∧ ∀ x, from_ ≤ x → x < r.toInt → ¬ CV w (fun p => MS p (N p) (C p) (D p) bg 0) len.toInt 0 x := by
  have hK' : ∀ p, p < 4 → K p ≤ 160 := fun p hp => (hK p hp).1
  intro m
  induction m with
  | zero => intro s h; omega
  | succ m ih =>
    intro s hm hs hs0 hfr hno
    have e0 : f_M_slot_59 FU bo ln ct bg (m + 1) w to len s 1 0 = f_M_slot_59_hd FU bo ln ct bg (f_M_slot_59 FU bo ln ct bg m) w to len s 1 0 := rfl
    rw [e0]
    unfold f_M_slot_59_hd
    rw [if_neg (show ¬ (1 : Int32) = 0 by decide)]
    obtain ⟨s', mo', r1, r2, r3, r4, r5⟩ := m_slot70 hF hM hK w to h1 h2 0 (f_M_slot_59 FU bo ln ct bg m) FU 0 s 0 (by omega) (by omega) hs hs0 (Or.inl rfl)
    rw [show f_M_slot_70 FU bo ln ct bg (f_M_slot_59 FU bo ln ct bg m) FU w to len s 0 0 0 = f_M_slot_59 FU bo ln ct bg m w to len s' mo' 0 from r1]
    rcases r5 with ⟨u1, u2, u3⟩ | ⟨u1, x, u2, u3⟩
    · subst u1 u2
      obtain ⟨m', rfl⟩ : ∃ m', m = m' + 1 := ⟨m - 1, by omega⟩
      have e2 : f_M_slot_59 FU bo ln ct bg (m' + 1) w to len s' 0 0 = f_M_slot_59_hd FU bo ln ct bg (f_M_slot_59 FU bo ln ct bg m') w to len s' 0 0 := rfl
      rw [e2]
      unfold f_M_slot_59_hd f_M_refuse
      rw [if_pos rfl, bd_ok]
      exact ⟨s', rfl, hfr, hs, u3, hno⟩
    · subst u1
      have hlt : cn (Bh bb K s'.toInt) 640 < cn (Bh bb K s.toInt) 640 := cn_lt 640 (fun i _ q => q.mono r2) ⟨x, u2.lt hK', u2, u3⟩
      exact ih s' (by omega) r3 (by omega) (by omega) (fun x g1 g2 => by
        by_cases q : x < s.toInt
        · exact hno x g1 q
        · exact r4 x (by omega) g2)
theorem le15_16 (x : Int32) : (15 < x) = (16 ≤ x) := by
  obtain ⟨v, rfl, a, b⟩ := v_iI x
  rw [show (15 : Int32) = iI 15 from rfl, show (16 : Int32) = iI 16 from rfl, iI_lt (by omega) (by omega) a b, iI_le (by omega) (by omega) a b, eq_iff_iff]
  omega
theorem c_slotL {FU : Nat} (hF : 700 < FU) {bs : Nat → Nat → Nat → Int32} {bz du : Nat → Nat → Int32} {pz : Nat → Int32} {bf bb : Nat → Nat → Int32} {bsz bo ln ct bg : Nat → Int32} (h : RQ bs bz du pz bf bb bsz bo ln ct bg) (x1 x2 x3 x4 th : Int32) (out : Nat → Int64) :
    ∃ (t b : Int32) (out' : Nat → Int64), f_L_slot FU x1 x2 x3 x4 bf bb bsz out = some (t, out') ∧ f_M_slot FU x1 x2 x3 x4 th bo ln ct bg = some (b, t) ∧ (t = 0 → out' 0 = b.toInt64) := by
  -- from the class's own
  have lift : ∀ (tc : Nat) (r b t : Int32), f_K_slot FU x1 x2 x3 x4 bf bb bsz = some (tc, r) → f_M_slot FU x1 x2 x3 x4 th bo ln ct bg = some (b, t) → ((tc = 0 ∧ t = 0 ∧ r = b) ∨ (tc = 1 ∧ t = 1) ∨ (tc = 3 ∧ t = 2)) → ∃ (t b : Int32) (out' : Nat → Int64), f_L_slot FU x1 x2 x3 x4 bf bb bsz out = some (t, out') ∧ f_M_slot FU x1 x2 x3 x4 th bo ln ct bg = some (b, t) ∧ (t = 0 → out' 0 = b.toInt64) := by
    intro tc r b t h1 h2 h3
    unfold f_L_slot f_L_slotA
    rw [h1]
    rcases h3 with ⟨rfl, rfl, rfl⟩ | ⟨rfl, rfl⟩ | ⟨rfl, rfl⟩
    · simp only [bd_ok, nm_eq, ck01, if_true]
      exact ⟨0, r, _, rfl, h2, fun _ => updL0 out r.toInt64⟩
    · simp only [bd_ok, Nat.reduceEqDiff, if_false, if_true]
      exact ⟨1, b, _, rfl, h2, fun q => absurd q (by decide)⟩
    · simp only [bd_ok, Nat.reduceEqDiff, if_false, if_true]
      exact ⟨2, b, _, rfl, h2, fun q => absurd q (by decide)⟩
  -- refused on both sides
  by_cases a1 : x1 < 0 ∨ 16 ≤ x1
  · refine lift 1 0 0 1 ?_ ?_ (Or.inr (Or.inl ⟨rfl, rfl⟩))
    · unfold f_K_slot
      rcases a1 with a1 | a1
      · rw [if_pos a1]
      · rw [if_pos a1, ite_self]
    · unfold f_M_slot f_M_slot_47 f_M_refuse
      simp only [m_within, bd_ok, le15_16]
      rcases a1 with a1 | a1
      · simp only [if_pos a1, if_true]
      · simp only [if_pos a1, ite_self, if_true]
  · have b1 : ¬ x1 < 0 := fun q => a1 (Or.inl q)
    have b2 : ¬ 16 ≤ x1 := fun q => a1 (Or.inr q)
    by_cases a2 : x2 < 0 ∨ 10519199 < x2
    · refine lift 1 0 0 1 ?_ ?_ (Or.inr (Or.inl ⟨rfl, rfl⟩))
      · unfold f_K_slot
        rw [if_neg b1, if_neg b2, k_isMinute, bd_ok]
        rcases a2 with a2 | a2
        · rw [if_pos a2, if_pos rfl]
        · rw [if_pos a2, ite_self, if_pos rfl]
      · unfold f_M_slot f_M_slot_47 f_M_refuse
        simp only [m_within, bd_ok, le15_16, if_neg b1, if_neg b2, one_ne, if_false]
        rcases a2 with a2 | a2
        · simp only [if_pos a2, if_true]
        · simp only [if_pos a2, ite_self, if_true]
    · have b3 : ¬ x2 < 0 := fun q => a2 (Or.inl q)
      have b4 : ¬ 10519199 < x2 := fun q => a2 (Or.inr q)
      by_cases a3 : x3 < 0 ∨ 10519199 < x3
      · refine lift 1 0 0 1 ?_ ?_ (Or.inr (Or.inl ⟨rfl, rfl⟩))
        · unfold f_K_slot
          simp only [if_neg b1, if_neg b2, k_isMinute, bd_ok, if_neg b3, if_neg b4, one_ne, if_false]
          rcases a3 with a3 | a3
          · simp only [if_pos a3, if_true]
          · simp only [if_pos a3, ite_self, if_true]
        · unfold f_M_slot f_M_slot_47 f_M_refuse
          simp only [m_within, bd_ok, le15_16, if_neg b1, if_neg b2, if_neg b3, if_neg b4, one_ne, if_false]
          rcases a3 with a3 | a3
          · simp only [if_pos a3, if_true]
          · simp only [if_pos a3, ite_self, if_true]
      · have b5 : ¬ x3 < 0 := fun q => a3 (Or.inl q)
        have b6 : ¬ 10519199 < x3 := fun q => a3 (Or.inr q)
        by_cases a4 : x4 < 1 ∨ 1440 < x4
        · refine lift 1 0 0 1 ?_ ?_ (Or.inr (Or.inl ⟨rfl, rfl⟩))
          · unfold f_K_slot
            simp only [if_neg b1, if_neg b2, k_isMinute, bd_ok, if_neg b3, if_neg b4, if_neg b5, if_neg b6, one_ne, if_false]
            rcases a4 with a4 | a4
            · rw [if_pos a4]
            · rw [if_neg (Int32.not_le.mpr a4), ite_self]
          · unfold f_M_slot f_M_slot_47 f_M_refuse
            simp only [m_within, bd_ok, le15_16, if_neg b1, if_neg b2, if_neg b3, if_neg b4, if_neg b5, if_neg b6, one_ne, if_false]
            rcases a4 with a4 | a4
            · simp only [if_pos a4, if_true]
            · simp only [if_pos a4, ite_self, if_true]
        · have b7 : ¬ x4 < 1 := fun q => a4 (Or.inl q)
          have b8 : ¬ 1440 < x4 := fun q => a4 (Or.inr q)
          have l7 : 1 ≤ x4.toInt := by
            have q := b7
            rw [i_lt] at q
            have e9 : (1 : Int32).toInt = 1 := rfl
            omega
          have l8 : x4.toInt ≤ 1440 := by
            have q := b8
            rw [i_lt] at q
            have e9 : (1440 : Int32).toInt = 1440 := rfl
            omega
          have l3 : 0 ≤ x2.toInt := by
            have q := b3
            rw [i_lt] at q
            have e9 : (0 : Int32).toInt = 0 := rfl
            omega
          have l4 : x2.toInt ≤ 10519199 := by
            have q := b4
            rw [i_lt] at q
            have e9 : (10519199 : Int32).toInt = 10519199 := rfl
            omega
          -- the rows of all persons
          have hall : ∀ p : Nat, ∃ q : Nat × (Nat → Nat) × (Nat → Nat) × Nat, p < 4 → MP p q.1 q.2.1 q.2.2.1 bo ln ct bg ∧ q.2.2.2 ≤ 160 ∧ bsz p = nI q.2.2.2 ∧ BT (bf p) (bb p) q.2.2.2 (MS p q.1 q.2.1 q.2.2.1 bg 0) := by
            intro p
            by_cases hp : p < 4
            · obtain ⟨n, C, D, k, g1, g2, g3, g4⟩ := h.B p hp
              exact ⟨(n, C, D, k), fun _ => ⟨g1, g2, g3, g4⟩⟩
            · exact ⟨(0, id, id, 0), fun q => absurd q hp⟩
          obtain ⟨R, hR⟩ := Classical.axiomOfChoice hall
          have hM : ∀ p, p < 4 → MP p (R p).1 (R p).2.1 (R p).2.2.1 bo ln ct bg := fun p hp => (hR p hp).1
          have hK : ∀ p, p < 4 → (R p).2.2.2 ≤ 160 ∧ bsz p = nI (R p).2.2.2 ∧ BT (bf p) (bb p) (R p).2.2.2 (MS p (R p).1 (R p).2.1 (R p).2.2.1 bg 0) := fun p hp => (hR p hp).2
          obtain ⟨tc, r, k1, k2⟩ := k_slot73 (FU := FU) (bf := bf) (bb := bb) (bz := bsz) (K := fun p => (R p).2.2.2) (S := fun p => MS p (R p).1 (R p).2.1 (R p).2.2.1 bg 0) (lat := x3 - x4) hF hK x1 l7 l8 x2.toInt FU 0 x2 (by have := cn_max (P := Bh bb (fun p => (R p).2.2.2) x2.toInt) 640; omega) (by omega) (by omega) (by omega) (Int.le_refl _) (fun x g1 g2 => by omega)
          obtain ⟨r', m1, m2, m3, m4, m5⟩ := m_slot59 (FU := FU) (bf := bf) (bb := bb) (K := fun p => (R p).2.2.2) (N := fun p => (R p).1) (C := fun p => (R p).2.1) (D := fun p => (R p).2.2.1) (by omega) hM (fun p hp => ⟨(hK p hp).1, (hK p hp).2.2⟩) x1 x3 l7 l8 x2.toInt FU x2 (by have := cn_max (P := Bh bb (fun p => (R p).2.2.2) x2.toInt) 640; omega) (by omega) (by omega) (Int.le_refl _) (fun x g1 g2 => by omega)
          have eK : f_K_slot FU x1 x2 x3 x4 bf bb bsz = some (tc, r) := by
            unfold f_K_slot
            simp only [if_neg b1, if_neg b2, k_isMinute, bd_ok, if_neg b3, if_neg b4, if_neg b5, if_neg b6, one_ne, if_false, if_neg b7, if_pos (Int32.not_lt.mp b8), nm_eq]
            exact k1
          have eM : f_M_slot FU x1 x2 x3 x4 th bo ln ct bg = (if x3 - x4 < r' then some (0, 2) else some (r', 0)) := by
            unfold f_M_slot
            simp only [m_within, bd_ok, le15_16, if_neg b1, if_neg b2, if_neg b3, if_neg b4, if_neg b5, if_neg b6, if_neg b7, if_neg b8, one_ne, if_false]
            exact m1
          rcases k2 with ⟨rfl, u1, u2, u3, u4⟩ | ⟨rfl, u1⟩
          · have er : r = r' := by
              refine Int32.toInt_inj.mp ?_
              rcases Int.lt_trichotomy r.toInt r'.toInt with q | q | q
              · exact absurd u3 (m5 _ u2 q)
              · exact q
              · exact absurd m4 (u4 _ m2 q)
            subst er
            rw [if_neg (show ¬ x3 - x4 < r by rw [i_lt]; omega)] at eM
            exact lift 0 r r 0 eK eM (Or.inl ⟨rfl, rfl, rfl⟩)
          · have hlt : x3 - x4 < r' := by
              rw [i_lt]
              refine Int.not_le.mp (fun q => u1 _ m2 q m4)
            rw [if_pos hlt] at eM
            exact lift 3 r 0 2 eK eM (Or.inr (Or.inr ⟨rfl, rfl⟩))
