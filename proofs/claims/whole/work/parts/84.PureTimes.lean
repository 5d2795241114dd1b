/-! pure: the lines of times -/
/-- rows of s minutes, the class's and the reference's -/
def RowT (s : Nat) (t m : Nat → Int32) : Prop := ∀ j, j < s → t j = m j ∧ ∃ T, T ≤ 10519199 ∧ m j = nI T
theorem RowT.upd {s T : Nat} {t m : Nat → Int32} (h : RowT s t m) (hT : T ≤ 10519199) : RowT (s + 1) (upd t s (nI T)) (upd m s (nI T)) := by
  intro j hj
  by_cases e : j = s
  · subst e
    rw [pk_us, pk_us]
    exact ⟨rfl, T, hT, rfl⟩
  · rw [pk_un e, pk_un e]
    exact h j (by omega)
theorem m_more0_0 {FU n m : Nat} {plain : Nat → Int32} {os : Int32} {orr : Nat → Int32} (l2 b g s : Int32) (r : Nat → Int32) : f_M_readTimes_4 FU (nI n) plain (m + 1) 0 l2 0 b g s r os orr = some (b, nd 1 g, s, r, os, orr) := by
  show f_M_readTimes_4_hd FU (nI n) plain (f_M_readTimes_4 FU (nI n) plain m) 0 l2 0 b g s r os orr = _
  unfold f_M_readTimes_4_hd f_M_readTimes_99 f_M_readTimes_109
  rw [if_pos rfl, if_pos rfl, m_need, bd_ok]
theorem m_times0_0 {FU n a s : Nat} {plain : Nat → Int32} {os : Int32} {orr : Nat → Int32} (hF : 300 < FU) (hn : n ≤ 240) (ha : a ≤ 99000) (hs : s < 18) (r : Nat → Int32) : ∃ a', a' ≤ a + 13 ∧ f_M_readTimes FU 0 (nI n) plain (nI a) 0 (nI s) r os orr = some (nI a', 0, nI (s + 1), upd r s 0, os, orr) := by
  obtain ⟨a', h1, h2, h3⟩ := m_time0 (FU := FU) (plain := plain) (a := a) hF hn ha
  refine ⟨a', h2, ?_⟩
  obtain ⟨m, rfl⟩ : ∃ m, FU = m + 2 := ⟨FU - 2, by omega⟩
  show f_M_readTimes_4_hd (m + 2) (nI n) plain (f_M_readTimes_4 (m + 2) (nI n) plain (m + 1)) 0 0 1 (nI a) 0 (nI s) r os orr = _
  unfold f_M_readTimes_4_hd
  rw [if_neg (show ¬ (1 : Int32) = 0 by decide), if_neg (show ¬ (6 : Int32) ≤ 0 by decide), h3, bd_ok, if_pos rfl, ck_ok hs (by omega), nm_eq, nI_clamp (show s < 2 ^ 31 by omega), nI_1]
  unfold f_M_readTimes_69
  rw [if_pos rfl, m_more0_0, nd_g0]
theorem line_0 {FU n : Nat} {row plain : Nat → Int32} {os : Int32} {orr : Nat → Int32} (hF : 300 < FU) (hC : CH n row plain) : ∀ (m i a s : Nat) (t r : Nat → Int32), i ≤ 6 → 6 - i < m → a ≤ n → s + (6 - i) ≤ 18 → RowT s t r →
    (∃ s' a' t' r', s' ≤ s + (6 - i) ∧ a' + 1 ≤ n ∧ Wd plain n a' [10] ∧ RowT s' t' r' ∧ f_Times_readLineFrom_2 FU row (nI n) m (nI i) t (nI s) (nI a) = some (1, t', nI s', nI (a' + 1)) ∧ f_M_readTimes_4 FU (nI n) plain m 0 (nI i) 1 (nI a) 1 (nI s) r os orr = some (nI a', 1, nI s', r', os, orr)) ∨
    (∃ a'' a' g' s' t' s2 r', a'' ≤ n ∧ a' ≤ n + 14 ∧ (g' = 0 ∨ (g' = 1 ∧ ¬ Wd plain n a' [10])) ∧ f_Times_readLineFrom_2 FU row (nI n) m (nI i) t (nI s) (nI a) = some (0, t', s2, nI a'') ∧ f_M_readTimes_4 FU (nI n) plain m 0 (nI i) 1 (nI a) 1 (nI s) r os orr = some (nI a', g', s', r', os, orr)) := by
  have hn := hC.1
  intro m
  induction m with
  | zero => intro i a s t r _ h; omega
  | succ m ih =>
    intro i a s t r hi hm ha hs hR
    have eK : f_Times_readLineFrom_2 FU row (nI n) (m + 1) (nI i) t (nI s) (nI a) = f_Times_readLineFrom_2_hd FU row (nI n) (f_Times_readLineFrom_2 FU row (nI n) m) (nI i) t (nI s) (nI a) := rfl
    have eM : f_M_readTimes_4 FU (nI n) plain (m + 1) 0 (nI i) 1 (nI a) 1 (nI s) r os orr = f_M_readTimes_4_hd FU (nI n) plain (f_M_readTimes_4 FU (nI n) plain m) 0 (nI i) 1 (nI a) 1 (nI s) r os orr := rfl
    unfold f_Times_readLineFrom_2_hd at eK
    unfold f_M_readTimes_4_hd at eM
    rw [if_neg (show ¬ (1 : Int32) = 0 by decide)] at eM
    by_cases h6 : 6 ≤ i
    · rw [if_pos (show 6 ≤ nI i from nI_le (a := 6) h6 (by omega))] at eK eM
      unfold f_M_readTimes_99 f_M_readTimes_109 at eM
      rw [if_neg (show ¬ (1 : Int32) = 0 by decide), m_need, bd_ok, nd_00] at eM
      exact Or.inr ⟨a, a, 0, _, _, _, _, ha, by omega, Or.inl rfl, eK, eM⟩
    · rw [if_neg (show ¬ 6 ≤ nI i from nI_ge (b := 6) (by omega) (by omega))] at eK eM
      obtain ⟨m', rfl⟩ : ∃ q, m = q + 1 := ⟨m - 1, by omega⟩
      rcases c_time (FU := FU) hF hC ha with ⟨T, t1, t2, t3, t4⟩ | ⟨b, b', t0, t1, t2, t3, t4⟩
      · rw [t4, bd_ok, if_neg (nI_pos (by omega)), if_pos (show nI s < 18 from nI_lt (b := 18) (by omega) (by omega)), ck_ok (show s < 18 by omega) (by omega), nm_eq, nI_clamp (show s < 2 ^ 31 by omega), nI_1] at eK
        rw [t3, bd_ok, if_pos rfl, ck_ok (show s < 18 by omega) (by omega), nm_eq, nI_clamp (show s < 2 ^ 31 by omega), nI_1] at eM
        unfold f_M_readTimes_69 at eM
        rw [if_neg (show ¬ (1 : Int32) = 0 by decide)] at eM
        have hw := m_wd (FU := FU) (n := n) (a := a + 13) (plain := plain) [44] 1 44 1 hF hn (by omega) (by decide) (by decide +kernel) rfl rfl
        have hk := k_take (FU := FU) hC (show a + 13 ≤ n by omega) 44
        have hU := hR.upd t1
        by_cases q : Wd plain n (a + 13) [44]
        · rw [hw.1 q, bd_ok, if_neg (show ¬ (1 : Int32) = 0 by decide), nI_1] at eM
          rw [hk.1 q, bd_ok, if_neg (show ¬ (1 : Int32) = 0 by decide), nI_1] at eK
          rw [eK, eM]
          have := ih (i + 1) (a + 13 + 1) (s + 1) _ _ (by omega) (by omega) (wd1.mp q).1 (by omega) hU
          rcases this with ⟨s', a', t', r', c1, c2, c3, c4, c5, c6⟩ | ⟨a'', a', g', s', t', s2, r', c⟩
          · exact Or.inl ⟨s', a', t', r', by omega, c2, c3, c4, c5, c6⟩
          · exact Or.inr ⟨a'', a', g', s', t', s2, r', c⟩
        · rw [hw.2 q, bd_ok, if_pos rfl, m_more0_0, nd_1 1 (Or.inr rfl)] at eM
          rw [hk.2 q, bd_ok, if_pos rfl] at eK
          have hk2 := k_take (FU := FU) hC (show a + 13 ≤ n by omega) 10
          by_cases q2 : Wd plain n (a + 13) [10]
          · rw [hk2.1 q2, bd_ok, ckz_1] at eK
            exact Or.inl ⟨s + 1, a + 13, _, _, by omega, (wd1.mp q2).1, q2, hU, eK, eM⟩
          · rw [hk2.2 q2, bd_ok, ckz_0] at eK
            exact Or.inr ⟨a + 13, a + 13, 1, _, _, _, _, by omega, by omega, Or.inr ⟨rfl, q2⟩, eK, eM⟩
      · rw [t4, bd_ok, if_pos (show (-1 : Int32) < 0 by decide)] at eK
        rw [t3, bd_ok, if_pos rfl, ck_ok (show s < 18 by omega) (by omega), nm_eq, nI_clamp (show s < 2 ^ 31 by omega), nI_1] at eM
        unfold f_M_readTimes_69 at eM
        rw [if_pos rfl, m_more0_0, nd_g0] at eM
        exact Or.inr ⟨b', b, 0, _, _, _, _, t2, by omega, Or.inl rfl, eK, eM⟩
theorem m_more0_1 {FU n m : Nat} {plain : Nat → Int32} {os : Int32} {orr : Nat → Int32} (l2 b g s : Int32) (r : Nat → Int32) : f_M_readTimes_4 FU (nI n) plain (m + 1) 1 l2 0 b g os orr s r = some (b, nd 1 g, os, orr, s, r) := by
  show f_M_readTimes_4_hd FU (nI n) plain (f_M_readTimes_4 FU (nI n) plain m) 1 l2 0 b g os orr s r = _
  unfold f_M_readTimes_4_hd f_M_readTimes_99 f_M_readTimes_109
  rw [if_pos rfl, if_pos rfl, m_need, bd_ok]
theorem m_times0_1 {FU n a s : Nat} {plain : Nat → Int32} {os : Int32} {orr : Nat → Int32} (hF : 300 < FU) (hn : n ≤ 240) (ha : a ≤ 99000) (hs : s < 18) (r : Nat → Int32) : ∃ a', a' ≤ a + 13 ∧ f_M_readTimes FU 1 (nI n) plain (nI a) 0 os orr (nI s) r = some (nI a', 0, os, orr, nI (s + 1), upd r s 0) := by
  obtain ⟨a', h1, h2, h3⟩ := m_time0 (FU := FU) (plain := plain) (a := a) hF hn ha
  refine ⟨a', h2, ?_⟩
  obtain ⟨m, rfl⟩ : ∃ m, FU = m + 2 := ⟨FU - 2, by omega⟩
  show f_M_readTimes_4_hd (m + 2) (nI n) plain (f_M_readTimes_4 (m + 2) (nI n) plain (m + 1)) 1 0 1 (nI a) 0 os orr (nI s) r = _
  unfold f_M_readTimes_4_hd
  rw [if_neg (show ¬ (1 : Int32) = 0 by decide), if_neg (show ¬ (6 : Int32) ≤ 0 by decide), h3, bd_ok, if_neg (show ¬ (1 : Int32) = 0 by decide), ck_ok hs (by omega), nm_eq, nI_clamp (show s < 2 ^ 31 by omega), nI_1]
  unfold f_M_readTimes_69
  rw [if_pos rfl, m_more0_1, nd_g0]
theorem line_1 {FU n : Nat} {row plain : Nat → Int32} {os : Int32} {orr : Nat → Int32} (hF : 300 < FU) (hC : CH n row plain) : ∀ (m i a s : Nat) (t r : Nat → Int32), i ≤ 6 → 6 - i < m → a ≤ n → s + (6 - i) ≤ 18 → RowT s t r →
    (∃ s' a' t' r', s' ≤ s + (6 - i) ∧ a' + 1 ≤ n ∧ Wd plain n a' [10] ∧ RowT s' t' r' ∧ f_Times_readLineFrom_2 FU row (nI n) m (nI i) t (nI s) (nI a) = some (1, t', nI s', nI (a' + 1)) ∧ f_M_readTimes_4 FU (nI n) plain m 1 (nI i) 1 (nI a) 1 os orr (nI s) r = some (nI a', 1, os, orr, nI s', r')) ∨
    (∃ a'' a' g' s' t' s2 r', a'' ≤ n ∧ a' ≤ n + 14 ∧ (g' = 0 ∨ (g' = 1 ∧ ¬ Wd plain n a' [10])) ∧ f_Times_readLineFrom_2 FU row (nI n) m (nI i) t (nI s) (nI a) = some (0, t', s2, nI a'') ∧ f_M_readTimes_4 FU (nI n) plain m 1 (nI i) 1 (nI a) 1 os orr (nI s) r = some (nI a', g', os, orr, s', r')) := by
  have hn := hC.1
  intro m
  induction m with
  | zero => intro i a s t r _ h; omega
  | succ m ih =>
    intro i a s t r hi hm ha hs hR
    have eK : f_Times_readLineFrom_2 FU row (nI n) (m + 1) (nI i) t (nI s) (nI a) = f_Times_readLineFrom_2_hd FU row (nI n) (f_Times_readLineFrom_2 FU row (nI n) m) (nI i) t (nI s) (nI a) := rfl
    have eM : f_M_readTimes_4 FU (nI n) plain (m + 1) 1 (nI i) 1 (nI a) 1 os orr (nI s) r = f_M_readTimes_4_hd FU (nI n) plain (f_M_readTimes_4 FU (nI n) plain m) 1 (nI i) 1 (nI a) 1 os orr (nI s) r := rfl
    unfold f_Times_readLineFrom_2_hd at eK
    unfold f_M_readTimes_4_hd at eM
    rw [if_neg (show ¬ (1 : Int32) = 0 by decide)] at eM
    by_cases h6 : 6 ≤ i
    · rw [if_pos (show 6 ≤ nI i from nI_le (a := 6) h6 (by omega))] at eK eM
      unfold f_M_readTimes_99 f_M_readTimes_109 at eM
      rw [if_neg (show ¬ (1 : Int32) = 0 by decide), m_need, bd_ok, nd_00] at eM
      exact Or.inr ⟨a, a, 0, _, _, _, _, ha, by omega, Or.inl rfl, eK, eM⟩
    · rw [if_neg (show ¬ 6 ≤ nI i from nI_ge (b := 6) (by omega) (by omega))] at eK eM
      obtain ⟨m', rfl⟩ : ∃ q, m = q + 1 := ⟨m - 1, by omega⟩
      rcases c_time (FU := FU) hF hC ha with ⟨T, t1, t2, t3, t4⟩ | ⟨b, b', t0, t1, t2, t3, t4⟩
      · rw [t4, bd_ok, if_neg (nI_pos (by omega)), if_pos (show nI s < 18 from nI_lt (b := 18) (by omega) (by omega)), ck_ok (show s < 18 by omega) (by omega), nm_eq, nI_clamp (show s < 2 ^ 31 by omega), nI_1] at eK
        rw [t3, bd_ok, if_neg (show ¬ (1 : Int32) = 0 by decide), ck_ok (show s < 18 by omega) (by omega), nm_eq, nI_clamp (show s < 2 ^ 31 by omega), nI_1] at eM
        unfold f_M_readTimes_69 at eM
        rw [if_neg (show ¬ (1 : Int32) = 0 by decide)] at eM
        have hw := m_wd (FU := FU) (n := n) (a := a + 13) (plain := plain) [44] 1 44 1 hF hn (by omega) (by decide) (by decide +kernel) rfl rfl
        have hk := k_take (FU := FU) hC (show a + 13 ≤ n by omega) 44
        have hU := hR.upd t1
        by_cases q : Wd plain n (a + 13) [44]
        · rw [hw.1 q, bd_ok, if_neg (show ¬ (1 : Int32) = 0 by decide), nI_1] at eM
          rw [hk.1 q, bd_ok, if_neg (show ¬ (1 : Int32) = 0 by decide), nI_1] at eK
          rw [eK, eM]
          have := ih (i + 1) (a + 13 + 1) (s + 1) _ _ (by omega) (by omega) (wd1.mp q).1 (by omega) hU
          rcases this with ⟨s', a', t', r', c1, c2, c3, c4, c5, c6⟩ | ⟨a'', a', g', s', t', s2, r', c⟩
          · exact Or.inl ⟨s', a', t', r', by omega, c2, c3, c4, c5, c6⟩
          · exact Or.inr ⟨a'', a', g', s', t', s2, r', c⟩
        · rw [hw.2 q, bd_ok, if_pos rfl, m_more0_1, nd_1 1 (Or.inr rfl)] at eM
          rw [hk.2 q, bd_ok, if_pos rfl] at eK
          have hk2 := k_take (FU := FU) hC (show a + 13 ≤ n by omega) 10
          by_cases q2 : Wd plain n (a + 13) [10]
          · rw [hk2.1 q2, bd_ok, ckz_1] at eK
            exact Or.inl ⟨s + 1, a + 13, _, _, by omega, (wd1.mp q2).1, q2, hU, eK, eM⟩
          · rw [hk2.2 q2, bd_ok, ckz_0] at eK
            exact Or.inr ⟨a + 13, a + 13, 1, _, _, _, _, by omega, by omega, Or.inr ⟨rfl, q2⟩, eK, eM⟩
      · rw [t4, bd_ok, if_pos (show (-1 : Int32) < 0 by decide)] at eK
        rw [t3, bd_ok, if_neg (show ¬ (1 : Int32) = 0 by decide), ck_ok (show s < 18 by omega) (by omega), nm_eq, nI_clamp (show s < 2 ^ 31 by omega), nI_1] at eM
        unfold f_M_readTimes_69 at eM
        rw [if_pos rfl, m_more0_1, nd_g0] at eM
        exact Or.inr ⟨b', b, 0, _, _, _, _, t2, by omega, Or.inl rfl, eK, eM⟩
