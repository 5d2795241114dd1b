/-! pure: the reference's busyFrom and freeFrom -/
theorem p_4b (z : Nat) : (4 : Int32) * nI z = nI (4 * z) := by
  rw [show (4 : Int32) = nI 4 from rfl, pk_mul]
theorem p_40b (z : Nat) : (40 : Int32) * nI z = nI (40 * z) := by
  rw [show (40 : Int32) = nI 40 from rfl, pk_mul]
/-- the reference's rows of a person: n events, the event at q has C q instances of D q minutes -/
def MP (p n : Nat) (C D : Nat → Nat) (bo ln ct bg : Nat → Int32) : Prop := p < 4 ∧ n ≤ 4 ∧ bo p = nI n ∧ ∀ e, e < n → C (4 * p + e) ≤ 40 ∧ ct (4 * p + e) = nI (C (4 * p + e)) ∧ 1 ≤ D (4 * p + e) ∧ D (4 * p + e) ≤ 1440 ∧ ln (4 * p + e) = nI (D (4 * p + e)) ∧ ∀ j, j < C (4 * p + e) → okMin (bg (40 * (4 * p + e) + j))
/-- the instances j, j + 1 .. at q -/
def QS (C D : Nat → Nat) (bg : Nat → Int32) (q j : Nat) (m : Int) : Prop := ∃ i, j ≤ i ∧ i < C q ∧ (bg (40 * q + i)).toInt ≤ m ∧ m < (bg (40 * q + i)).toInt + (D q : Int)
/-- the events e, e + 1 .. of a person -/
def MS (p n : Nat) (C D : Nat → Nat) (bg : Nat → Int32) (e : Nat) (m : Int) : Prop := ∃ i, e ≤ i ∧ i < n ∧ QS C D bg (4 * p + i) 0 m
theorem m_bf31 {FU p n e : Nat} {C D : Nat → Nat} {bo ln ct bg : Nat → Int32} (h : MP p n C D bo ln ct bg) (he : e < n) (x : Int32) (k9 : Int32 → Int32 → Int32 → Int32 → Option Int32) :
    ∀ (m j : Nat) (best : Int32) (T : Int → Prop), j ≤ C (4 * p + e) → C (4 * p + e) - j < m → Lst T x.toInt best.toInt →
      ∃ best', f_M_busyFrom_31 FU bo ln ct bg k9 m (nI p) x best (nI (4 * p + e)) (nI (40 * (4 * p + e) + j)) = k9 (nI p) x best' (nI (4 * p + e + 1)) ∧ Lst (fun m => T m ∨ QS C D bg (4 * p + e) j m) x.toInt best'.toInt := by
  obtain ⟨hp, hn, hb, hE⟩ := h
  obtain ⟨g1, g2, g3, g4, g5, g6⟩ := hE e he
  generalize hq : 4 * p + e = q at *
  intro m
  induction m with
  | zero => intro j best T _ h; omega
  | succ m ih =>
    intro j best T hj hm hL
    have e0 : f_M_busyFrom_31 FU bo ln ct bg k9 (m + 1) (nI p) x best (nI q) (nI (40 * q + j)) = f_M_busyFrom_31_hd FU bo ln ct bg k9 (f_M_busyFrom_31 FU bo ln ct bg k9 m) (nI p) x best (nI q) (nI (40 * q + j)) := rfl
    rw [e0]
    unfold f_M_busyFrom_31_hd f_M_busyFrom_71
    rw [ck_ok (show q < 16 by omega) (by omega), nI_clamp (show q < 2 ^ 31 by omega), g2, p_40, nI_1]
    by_cases hin : C q ≤ j
    · rw [if_pos (nI_le (by omega) (by omega))]
      exact ⟨best, rfl, hL.iff (fun m => ⟨fun w => w.elim (fun w => w) (fun ⟨i, w1, w2, _⟩ => by omega), Or.inl⟩)⟩
    · rw [if_neg (nI_ge (by omega) (by omega))]
      simp only [ck_ok (show 40 * q + j < 640 by omega) (by omega), ck_ok (show q < 16 by omega) (by omega), nI_clamp (show 40 * q + j < 2 ^ 31 by omega), nI_1, g5]
      have hm := g6 j (by omega)
      unfold okMin at hm
      have hD : (nI (D q)).toInt = (D q : Int) := nI_toInt (by omega)
      have hs : (bg (40 * q + j) + nI (D q)).toInt = (bg (40 * q + j)).toInt + (D q : Int) := by rw [add_toInt (by omega) (by omega), hD]
      have hL2 := hL.more (b := (bg (40 * q + j)).toInt) (e := (bg (40 * q + j)).toInt + (D q : Int)) (by omega) (by omega)
      -- the next best, as a value
      have step : ∃ nb : Int32, nb.toInt = (if (bg (40 * q + j)).toInt + (D q : Int) ≤ x.toInt then best.toInt else if best.toInt ≤ (if (bg (40 * q + j)).toInt ≤ x.toInt then x.toInt else (bg (40 * q + j)).toInt) then best.toInt else (if (bg (40 * q + j)).toInt ≤ x.toInt then x.toInt else (bg (40 * q + j)).toInt)) ∧
          (if bg (40 * q + j) ≤ x then (if bg (40 * q + j) + nI (D q) ≤ x then f_M_busyFrom_31 FU bo ln ct bg k9 m (nI p) x best (nI q) (nI (40 * q + j + 1)) else if best ≤ x then f_M_busyFrom_31 FU bo ln ct bg k9 m (nI p) x best (nI q) (nI (40 * q + j + 1)) else f_M_busyFrom_31 FU bo ln ct bg k9 m (nI p) x x (nI q) (nI (40 * q + j + 1)))
            else (if bg (40 * q + j) + nI (D q) ≤ x then f_M_busyFrom_31 FU bo ln ct bg k9 m (nI p) x best (nI q) (nI (40 * q + j + 1)) else if best ≤ bg (40 * q + j) then f_M_busyFrom_31 FU bo ln ct bg k9 m (nI p) x best (nI q) (nI (40 * q + j + 1)) else f_M_busyFrom_31 FU bo ln ct bg k9 m (nI p) x (bg (40 * q + j)) (nI q) (nI (40 * q + j + 1)))) = f_M_busyFrom_31 FU bo ln ct bg k9 m (nI p) x nb (nI q) (nI (40 * q + j + 1)) := by
        simp only [i_le, hs]
        by_cases c1 : (bg (40 * q + j)).toInt ≤ x.toInt
        · simp only [if_pos c1]
          by_cases c2 : (bg (40 * q + j)).toInt + (D q : Int) ≤ x.toInt
          · simp only [if_pos c2]
            exact ⟨best, rfl, rfl⟩
          · simp only [if_neg c2]
            by_cases c3 : best.toInt ≤ x.toInt
            · simp only [if_pos c3]
              exact ⟨best, rfl, rfl⟩
            · simp only [if_neg c3]
              exact ⟨x, rfl, rfl⟩
        · simp only [if_neg c1]
          by_cases c2 : (bg (40 * q + j)).toInt + (D q : Int) ≤ x.toInt
          · simp only [if_pos c2]
            exact ⟨best, rfl, rfl⟩
          · simp only [if_neg c2]
            by_cases c3 : best.toInt ≤ (bg (40 * q + j)).toInt
            · simp only [if_pos c3]
              exact ⟨best, rfl, rfl⟩
            · simp only [if_neg c3]
              exact ⟨_, rfl, rfl⟩
      obtain ⟨nb, n1, n2⟩ := step
      rw [n2]
      rw [← n1] at hL2
      obtain ⟨best', r1, r2⟩ := ih (j + 1) nb _ (by omega) (by omega) hL2
      refine ⟨best', by rw [show 40 * q + j + 1 = 40 * q + (j + 1) by omega]; exact r1, r2.iff (fun m => ⟨fun w => ?_, fun w => ?_⟩)⟩
      · rcases w with w | ⟨i, w1, w2, w3⟩
        · exact Or.inl (Or.inl w)
        · by_cases hi : i = j
          · subst hi
            exact Or.inl (Or.inr w3)
          · exact Or.inr ⟨i, by omega, w2, w3⟩
      · rcases w with (w | w) | ⟨i, w1, w2, w3⟩
        · exact Or.inl w
        · exact Or.inr ⟨j, Nat.le_refl _, by omega, w⟩
        · exact Or.inr ⟨i, by omega, w2, w3⟩
theorem m_bf9 {FU p n : Nat} {C D : Nat → Nat} {bo ln ct bg : Nat → Int32} (hF : 200 < FU) (h : MP p n C D bo ln ct bg) (x : Int32) :
    ∀ (m e : Nat) (best : Int32) (T : Int → Prop), e ≤ n → n - e < m → Lst T x.toInt best.toInt → ∃ r, f_M_busyFrom_9 FU bo ln ct bg m (nI p) x best (nI (4 * p + e)) = some r ∧ Lst (fun m => T m ∨ MS p n C D bg e m) x.toInt r.toInt := by
  have h' := h
  obtain ⟨hp, hn, hb, hE⟩ := h
  intro m
  induction m with
  | zero => intro e best T _ h; omega
  | succ m ih =>
    intro e best T he hm hL
    have e0 : f_M_busyFrom_9 FU bo ln ct bg (m + 1) (nI p) x best (nI (4 * p + e)) = f_M_busyFrom_9_hd FU bo ln ct bg (f_M_busyFrom_9 FU bo ln ct bg m) (nI p) x best (nI (4 * p + e)) := rfl
    rw [e0]
    unfold f_M_busyFrom_9_hd
    rw [ck_ok hp (by omega), nI_clamp (show p < 2 ^ 31 by omega), hb, p_4]
    by_cases hin : n ≤ e
    · rw [if_pos (nI_le (by omega) (by omega))]
      exact ⟨best, rfl, hL.iff (fun m => ⟨fun w => w.elim (fun w => w) (fun ⟨i, w1, w2, _⟩ => by omega), Or.inl⟩)⟩
    · rw [if_neg (nI_ge (by omega) (by omega)), nm_eq, p_40b]
      obtain ⟨g1, -⟩ := hE e (by omega)
      obtain ⟨best', r1, r2⟩ := m_bf31 h' (show e < n by omega) x (f_M_busyFrom_9 FU bo ln ct bg m) FU 0 best T (by omega) (by omega) hL
      rw [show 40 * (4 * p + e) = 40 * (4 * p + e) + 0 by omega, r1]
      obtain ⟨r, s1, s2⟩ := ih (e + 1) best' _ (by omega) (by omega) r2
      refine ⟨r, s1, s2.iff (fun m => ⟨fun w => ?_, fun w => ?_⟩)⟩
      · rcases w with w | ⟨i, w1, w2, w3⟩
        · exact Or.inl (Or.inl w)
        · by_cases hi : i = e
          · subst hi
            exact Or.inl (Or.inr w3)
          · exact Or.inr ⟨i, by omega, w2, w3⟩
      · rcases w with (w | w) | ⟨i, w1, w2, w3⟩
        · exact Or.inl w
        · exact Or.inr ⟨e, Nat.le_refl _, by omega, w⟩
        · exact Or.inr ⟨i, by omega, w2, w3⟩
theorem m_busyFrom {FU p n : Nat} {C D : Nat → Nat} {bo ln ct bg : Nat → Int32} (hF : 200 < FU) (h : MP p n C D bo ln ct bg) (x : Int32) : ∃ r, f_M_busyFrom FU (nI p) x bo ln ct bg = some r ∧ Lst (MS p n C D bg 0) x.toInt r.toInt := by
  unfold f_M_busyFrom
  rw [nm_eq, p_4b]
  obtain ⟨r, r1, r2⟩ := m_bf9 hF h x FU 0 2000000000 (fun _ => False) (by omega) (by have := h.2.1; omega) (Or.inl ⟨rfl, fun _ _ q => q⟩)
  exact ⟨r, r1, r2.iff (fun m => ⟨Or.inr, fun q => q.elim (fun q => q.elim) (fun q => q)⟩)⟩
/-! counting -/
noncomputable def cn (P : Nat → Prop) : Nat → Nat
  | 0 => 0
  | n + 1 => cn P n + (@ite Nat (P n) (Classical.propDecidable _) 1 0)
theorem cn_step {P : Nat → Prop} {n : Nat} : (P n → cn P (n + 1) = cn P n + 1) ∧ (¬ P n → cn P (n + 1) = cn P n) := by
  constructor
  · intro h
    show cn P n + (@ite Nat (P n) (Classical.propDecidable _) 1 0) = cn P n + 1
    rw [if_pos h]
  · intro h
    show cn P n + (@ite Nat (P n) (Classical.propDecidable _) 1 0) = cn P n
    rw [if_neg h, Nat.add_zero]
theorem cn_le {P Q : Nat → Prop} : ∀ n, (∀ i, i < n → Q i → P i) → cn Q n ≤ cn P n
  | 0, _ => Nat.le_refl _
  | n + 1, h => by
    have ih := cn_le n (fun i hi => h i (by omega))
    by_cases q : Q n
    · rw [cn_step.1 q, cn_step.1 (h n (by omega) q)]
      omega
    · rw [cn_step.2 q]
      by_cases p : P n
      · rw [cn_step.1 p]; omega
      · rw [cn_step.2 p]; exact ih
theorem cn_lt {P Q : Nat → Prop} : ∀ n, (∀ i, i < n → Q i → P i) → (∃ i, i < n ∧ P i ∧ ¬ Q i) → cn Q n < cn P n
  | 0, _, ⟨i, h, _⟩ => by omega
  | n + 1, h, ⟨i, h1, h2, h3⟩ => by
    have ile := cn_le n (fun i hi => h i (by omega))
    by_cases hi : i = n
    · subst hi
      rw [cn_step.2 h3, cn_step.1 h2]
      omega
    · have ih := cn_lt n (fun i hi => h i (by omega)) ⟨i, by omega, h2, h3⟩
      by_cases q : Q n
      · rw [cn_step.1 q, cn_step.1 (h n (by omega) q)]
        omega
      · rw [cn_step.2 q]
        by_cases p : P n
        · rw [cn_step.1 p]; omega
        · rw [cn_step.2 p]; exact ih
theorem cn_max {P : Nat → Prop} : ∀ n, cn P n ≤ n
  | 0 => Nat.le_refl _
  | n + 1 => by
    have ih := cn_max (P := P) n
    by_cases p : P n
    · rw [cn_step.1 p]; omega
    · rw [cn_step.2 p]; omega
/-- instances of a person that end behind f -/
def Ends (p n : Nat) (C D : Nat → Nat) (bg : Nat → Int32) (f : Int) (i : Nat) : Prop := ∃ e j, e < n ∧ j < C (4 * p + e) ∧ i = 40 * e + j ∧ f < (bg (40 * (4 * p + e) + j)).toInt + (D (4 * p + e) : Int)
/-- all from x to f is of S -/
def Run (S : Int → Prop) (x f : Int) : Prop := x ≤ f ∧ ∀ m, x ≤ m → m < f → S m
theorem m_ff40 {FU p n e : Nat} {C D : Nat → Nat} {bo ln ct bg : Nat → Int32} (h : MP p n C D bo ln ct bg) (he : e < n) (k18 : Int32 → Int32 → Int32 → Int32 → Option Int32) (x : Int) :
    ∀ (m j : Nat) (f mo : Int32), j ≤ C (4 * p + e) → C (4 * p + e) - j < m → Run (MS p n C D bg 0) x f.toInt → (mo = 0 ∨ mo = 1) → f.toInt ≤ 2100000000 →
      ∃ f' mo', f_M_freeFrom_40 FU bo ln ct bg k18 m (nI p) f mo (nI (4 * p + e)) (nI (40 * (4 * p + e) + j)) = k18 (nI p) f' mo' (nI (4 * p + e + 1)) ∧ Run (MS p n C D bg 0) x f'.toInt ∧ f.toInt ≤ f'.toInt ∧ f'.toInt ≤ 2100000000 ∧
        ((mo' = mo ∧ f' = f ∧ ¬ QS C D bg (4 * p + e) j f.toInt) ∨ (mo' = 1 ∧ ∃ i, Ends p n C D bg f.toInt i ∧ ¬ Ends p n C D bg f'.toInt i)) := by
  obtain ⟨hp, hn, hb, hE⟩ := h
  obtain ⟨g1, g2, g3, g4, g5, g6⟩ := hE e he
  intro m
  induction m with
  | zero => intro j f mo _ h; omega
  | succ m ih =>
    intro j f mo hj hm hR hmo hf
    have e0 : f_M_freeFrom_40 FU bo ln ct bg k18 (m + 1) (nI p) f mo (nI (4 * p + e)) (nI (40 * (4 * p + e) + j)) = f_M_freeFrom_40_hd FU bo ln ct bg k18 (f_M_freeFrom_40 FU bo ln ct bg k18 m) (nI p) f mo (nI (4 * p + e)) (nI (40 * (4 * p + e) + j)) := rfl
    rw [e0]
    unfold f_M_freeFrom_40_hd
    rw [ck_ok (show 4 * p + e < 16 by omega) (by omega), nI_clamp (show 4 * p + e < 2 ^ 31 by omega), g2, p_40, nI_1]
    by_cases hin : C (4 * p + e) ≤ j
    · rw [if_pos (nI_le (by omega) (by omega))]
      exact ⟨f, mo, rfl, hR, Int.le_refl _, hf, Or.inl ⟨rfl, rfl, fun ⟨i, w1, w2, _⟩ => by omega⟩⟩
    · rw [if_neg (nI_ge (by omega) (by omega))]
      simp only [ck_ok (show 40 * (4 * p + e) + j < 640 by omega) (by omega), ck_ok (show 4 * p + e < 16 by omega) (by omega), nI_clamp (show 40 * (4 * p + e) + j < 2 ^ 31 by omega), nm_eq, g5, nI_1]
      have hm1 := g6 j (by omega)
      unfold okMin at hm1
      have hD : (nI (D (4 * p + e))).toInt = (D (4 * p + e) : Int) := nI_toInt (by omega)
      have hs : (bg (40 * (4 * p + e) + j) + nI (D (4 * p + e))).toInt = (bg (40 * (4 * p + e) + j)).toInt + (D (4 * p + e) : Int) := by rw [add_toInt (by omega) (by omega), hD]
      have same : ¬ ((bg (40 * (4 * p + e) + j)).toInt ≤ f.toInt ∧ f.toInt < (bg (40 * (4 * p + e) + j)).toInt + (D (4 * p + e) : Int)) → ∃ f' mo', f_M_freeFrom_40 FU bo ln ct bg k18 m (nI p) f mo (nI (4 * p + e)) (nI (40 * (4 * p + e) + j + 1)) = k18 (nI p) f' mo' (nI (4 * p + e + 1)) ∧ Run (MS p n C D bg 0) x f'.toInt ∧ f.toInt ≤ f'.toInt ∧ f'.toInt ≤ 2100000000 ∧
        ((mo' = mo ∧ f' = f ∧ ¬ QS C D bg (4 * p + e) j f.toInt) ∨ (mo' = 1 ∧ ∃ i, Ends p n C D bg f.toInt i ∧ ¬ Ends p n C D bg f'.toInt i)) := by
        intro hno
        obtain ⟨f', mo', r1, r2, r3, r4, r5⟩ := ih (j + 1) f mo (by omega) (by omega) hR hmo hf
        refine ⟨f', mo', by rw [show 40 * (4 * p + e) + j + 1 = 40 * (4 * p + e) + (j + 1) by omega]; exact r1, r2, r3, r4, r5.imp (fun ⟨w1, w2, w3⟩ => ⟨w1, w2, fun ⟨i, v1, v2, v3⟩ => ?_⟩) (fun w => w)⟩
        by_cases hi : i = j
        · subst hi; exact hno v3
        · exact w3 ⟨i, by omega, v2, v3⟩
      by_cases c1 : f < bg (40 * (4 * p + e) + j)
      · rw [if_pos c1]
        rw [i_lt] at c1
        exact same (by omega)
      · rw [if_neg c1]
        by_cases c2 : bg (40 * (4 * p + e) + j) + nI (D (4 * p + e)) ≤ f
        · rw [if_pos c2]
          rw [i_le, hs] at c2
          exact same (by omega)
        · rw [if_neg c2]
          rw [i_lt] at c1
          rw [i_le, hs] at c2
          have hR2 : Run (MS p n C D bg 0) x (bg (40 * (4 * p + e) + j) + nI (D (4 * p + e))).toInt := by
            rw [hs]
            refine ⟨by have := hR.1; omega, fun m h1 h2 => ?_⟩
            by_cases q : m < f.toInt
            · exact hR.2 m h1 q
            · exact ⟨e, Nat.zero_le _, he, j, Nat.zero_le _, by omega, by omega, h2⟩
          obtain ⟨f', mo', r1, r2, r3, r4, r5⟩ := ih (j + 1) (bg (40 * (4 * p + e) + j) + nI (D (4 * p + e))) 1 (by omega) (by omega) hR2 (Or.inr rfl) (by omega)
          refine ⟨f', mo', by rw [show 40 * (4 * p + e) + j + 1 = 40 * (4 * p + e) + (j + 1) by omega]; exact r1, r2, by omega, r4, Or.inr ⟨?_, 40 * e + j, ⟨e, j, he, by omega, rfl, by omega⟩, ?_⟩⟩
          · rcases r5 with ⟨w1, -⟩ | ⟨w1, -⟩
            · exact w1
            · exact w1
          · rintro ⟨e', j', v1, v2, v3, v4⟩
            have gE := (hE e' v1).1
            have : e' = e ∧ j' = j := by omega
            obtain ⟨rfl, rfl⟩ := this
            omega
theorem Ends.mono {p n : Nat} {C D : Nat → Nat} {bg : Nat → Int32} {f g : Int} (h : f ≤ g) {i : Nat} (q : Ends p n C D bg g i) : Ends p n C D bg f i := by
  obtain ⟨e, j, h1, h2, h3, h4⟩ := q
  exact ⟨e, j, h1, h2, h3, by omega⟩
theorem m_ff18 {FU p n : Nat} {C D : Nat → Nat} {bo ln ct bg : Nat → Int32} (hF : 200 < FU) (h : MP p n C D bo ln ct bg) (k5 : Int32 → Int32 → Int32 → Option Int32) (x : Int) :
    ∀ (m e : Nat) (f mo : Int32), e ≤ n → n - e < m → Run (MS p n C D bg 0) x f.toInt → (mo = 0 ∨ mo = 1) → f.toInt ≤ 2100000000 →
      ∃ f' mo', f_M_freeFrom_18 FU bo ln ct bg k5 m (nI p) f mo (nI (4 * p + e)) = k5 (nI p) f' mo' ∧ Run (MS p n C D bg 0) x f'.toInt ∧ f.toInt ≤ f'.toInt ∧ f'.toInt ≤ 2100000000 ∧
        ((mo' = mo ∧ f' = f ∧ ¬ MS p n C D bg e f.toInt) ∨ (mo' = 1 ∧ ∃ i, Ends p n C D bg f.toInt i ∧ ¬ Ends p n C D bg f'.toInt i)) := by
  have h' := h
  obtain ⟨hp, hn, hb, hE⟩ := h
  intro m
  induction m with
  | zero => intro e f mo _ h; omega
  | succ m ih =>
    intro e f mo he hm hR hmo hf
    have e0 : f_M_freeFrom_18 FU bo ln ct bg k5 (m + 1) (nI p) f mo (nI (4 * p + e)) = f_M_freeFrom_18_hd FU bo ln ct bg k5 (f_M_freeFrom_18 FU bo ln ct bg k5 m) (nI p) f mo (nI (4 * p + e)) := rfl
    rw [e0]
    unfold f_M_freeFrom_18_hd
    rw [ck_ok hp (by omega), nI_clamp (show p < 2 ^ 31 by omega), hb, p_4]
    by_cases hin : n ≤ e
    · rw [if_pos (nI_le (by omega) (by omega))]
      exact ⟨f, mo, rfl, hR, Int.le_refl _, hf, Or.inl ⟨rfl, rfl, fun ⟨i, w1, w2, _⟩ => by omega⟩⟩
    · rw [if_neg (nI_ge (by omega) (by omega)), nm_eq, p_40b]
      obtain ⟨g1, -⟩ := hE e (by omega)
      obtain ⟨f1, mo1, r1, r2, r3, r4, r5⟩ := m_ff40 (FU := FU) h' (show e < n by omega) (f_M_freeFrom_18 FU bo ln ct bg k5 m) x FU 0 f mo (by omega) (by omega) hR hmo hf
      rw [show 40 * (4 * p + e) = 40 * (4 * p + e) + 0 by omega, r1]
      have hmo1 : mo1 = 0 ∨ mo1 = 1 := by
        rcases r5 with ⟨w, -⟩ | ⟨w, -⟩
        · rw [w]; exact hmo
        · exact Or.inr w
      obtain ⟨f', mo', s1, s2, s3, s4, s5⟩ := ih (e + 1) f1 mo1 (by omega) (by omega) r2 hmo1 r4
      refine ⟨f', mo', s1, s2, by omega, s4, ?_⟩
      rcases r5 with ⟨w1, w2, w3⟩ | ⟨w1, i, w2, w3⟩
      · subst w1 w2
        rcases s5 with ⟨v1, v2, v3⟩ | v
        · refine Or.inl ⟨v1, v2, fun ⟨i, u1, u2, u3⟩ => ?_⟩
          by_cases hi : i = e
          · subst hi; exact w3 u3
          · exact v3 ⟨i, by omega, u2, u3⟩
        · exact Or.inr v
      · refine Or.inr ⟨?_, i, w2, fun q => w3 (q.mono s3)⟩
        rcases s5 with ⟨v1, -⟩ | ⟨v1, -⟩
        · rw [v1]; exact w1
        · exact v1
theorem Ends_lt {p n : Nat} {C D : Nat → Nat} {bo ln ct bg : Nat → Int32} (h : MP p n C D bo ln ct bg) {f : Int} {i : Nat} (q : Ends p n C D bg f i) : i < 160 := by
  obtain ⟨hp, hn, hb, hE⟩ := h
  obtain ⟨e, j, h1, h2, h3, h4⟩ := q
  have := (hE e h1).1
  omega
theorem m_ff5 {FU p n : Nat} {C D : Nat → Nat} {bo ln ct bg : Nat → Int32} (hF : 200 < FU) (h : MP p n C D bo ln ct bg) (x : Int) :
    ∀ (m : Nat) (f : Int32), cn (Ends p n C D bg f.toInt) 160 + 1 < m → Run (MS p n C D bg 0) x f.toInt → f.toInt ≤ 2100000000 →
      ∃ r, f_M_freeFrom_5 FU bo ln ct bg m (nI p) f 1 = some r ∧ Run (MS p n C D bg 0) x r.toInt ∧ ¬ MS p n C D bg 0 r.toInt := by
  intro m
  induction m with
  | zero => intro f hm; omega
  | succ m ih =>
    intro f hm hR hf
    have e0 : f_M_freeFrom_5 FU bo ln ct bg (m + 1) (nI p) f 1 = f_M_freeFrom_5_hd FU bo ln ct bg (f_M_freeFrom_5 FU bo ln ct bg m) (nI p) f 1 := rfl
    rw [e0]
    unfold f_M_freeFrom_5_hd
    rw [if_neg (by decide), nm_eq, p_4b]
    obtain ⟨f', mo', r1, r2, r3, r4, r5⟩ := m_ff18 hF h (f_M_freeFrom_5 FU bo ln ct bg m) x FU 0 f 0 (by omega) (by have := h.2.1; omega) hR (Or.inl rfl) hf
    rw [show 4 * p = 4 * p + 0 by omega, r1]
    rcases r5 with ⟨w1, w2, w3⟩ | ⟨w1, i, w2, w3⟩
    · subst w1 w2
      obtain ⟨m', rfl⟩ : ∃ m', m = m' + 1 := ⟨m - 1, by omega⟩
      have e1 : f_M_freeFrom_5 FU bo ln ct bg (m' + 1) (nI p) f' 0 = f_M_freeFrom_5_hd FU bo ln ct bg (f_M_freeFrom_5 FU bo ln ct bg m') (nI p) f' 0 := rfl
      rw [e1]
      unfold f_M_freeFrom_5_hd
      rw [if_pos rfl]
      exact ⟨f', rfl, hR, w3⟩
    · subst w1
      have hc : cn (Ends p n C D bg f'.toInt) 160 < cn (Ends p n C D bg f.toInt) 160 := cn_lt 160 (fun i _ q => q.mono r3) ⟨i, Ends_lt h w2, w2, w3⟩
      exact ih f' (by omega) r2 r4
theorem m_freeFrom {FU p n : Nat} {C D : Nat → Nat} {bo ln ct bg : Nat → Int32} (hF : 200 < FU) (h : MP p n C D bo ln ct bg) (x : Int32) (hx : x.toInt ≤ 2100000000) : ∃ r, f_M_freeFrom FU (nI p) x bo ln ct bg = some r ∧ Run (MS p n C D bg 0) x.toInt r.toInt ∧ ¬ MS p n C D bg 0 r.toInt := by
  unfold f_M_freeFrom
  exact m_ff5 hF h x.toInt FU x (by have := cn_max (P := Ends p n C D bg x.toInt) 160; omega) ⟨Int.le_refl _, fun m h1 h2 => by omega⟩ hx
