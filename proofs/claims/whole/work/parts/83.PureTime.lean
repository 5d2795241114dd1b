/-! pure: times -/
theorem dv_val {plain : Nat → Int32} {n a : Nat} : ∀ k, allD plain n a k → ∃ N, N < 10 ^ k ∧ dv plain n a k = nI N := by
  intro k
  induction k with
  | zero => exact fun _ => ⟨0, by decide, rfl⟩
  | succ k ih =>
    intro h
    obtain ⟨N, h1, h2⟩ := ih (fun i hi => h i (by omega))
    obtain ⟨hlt, hd⟩ := h k (by omega)
    obtain ⟨d, hd1, hd2⟩ := dg_val hd
    refine ⟨10 * N + d, by rw [Nat.pow_succ]; omega, ?_⟩
    show 10 * dv plain n a k + pk plain n (a + k) - 48 = _
    rw [h2, show pk plain n (a + k) = plain (a + k) from if_pos hlt, hd2, show (10 : Int32) = nI 10 from rfl, show (48 : Int32) = nI 48 from rfl, pk_mul, nI_add, pk_sub (by omega)]
    congr 1
    omega
theorem c_digits {FU n a : Nat} {row plain : Nat → Int32} (k : Nat) (L : Int32) (hL : L = nI k) (hF : 300 < FU) (hC : CH n row plain) (hk : 1 ≤ k) (hk4 : k ≤ 4) (ha : a ≤ 100000) :
    (∃ N, N < 10 ^ k ∧ a + k ≤ n ∧ (∀ g, g = 0 ∨ g = 1 → f_M_digits FU L (nI n) plain (nI a) g = some (nI N, nI (a + k), g)) ∧ f_Reader_takeDigits FU L row (nI n) (nI a) = some (nI N, nI (a + k))) ∨ ((∃ v, ∀ g, g = 0 ∨ g = 1 → f_M_digits FU L (nI n) plain (nI a) g = some (v, nI (a + k), 0)) ∧ (a ≤ n → ∃ a', a ≤ a' ∧ a' ≤ n ∧ f_Reader_takeDigits FU L row (nI n) (nI a) = some (-1, nI a'))) := by
  subst hL
  have hn := hC.1
  by_cases q : allD plain n a k
  · obtain ⟨N, h1, h2⟩ := dv_val k q
    have hl := (q (k - 1) (by omega)).1
    refine Or.inl ⟨N, h1, by omega, fun g hg => ?_, ?_⟩
    · obtain ⟨g', h3, h4⟩ := m_digits (FU := FU) (plain := plain) (a := a) hF hn hk4 ha g hg
      rw [h3, h2]
      rcases h4 with ⟨rfl, rfl, _⟩ | ⟨rfl, h5⟩
      · rfl
      · rcases hg with rfl | rfl
        · rfl
        · exact absurd ⟨rfl, q⟩ h5
    · rw [(k_takeDigits hF hC hk4 (by omega)).1 q, h2]
  · refine Or.inr ⟨⟨dv plain n a k, fun g hg => ?_⟩, fun han => ?_⟩
    · obtain ⟨g', h3, h4⟩ := m_digits (FU := FU) (plain := plain) (a := a) hF hn hk4 ha g hg
      rw [h3]
      rcases h4 with ⟨_, _, h5⟩ | ⟨rfl, h5⟩
      · exact absurd h5 q
      · rfl
    · obtain ⟨a', h1, _, h3, h4⟩ := (k_takeDigits (FU := FU) hF hC hk4 han).2 q
      exact ⟨a', h1, h3, h4⟩
theorem m_dig0 {FU n a : Nat} {plain : Nat → Int32} (k : Nat) (L : Int32) (hL : L = nI k) (hF : 300 < FU) (hn : n ≤ 240) (hk4 : k ≤ 4) (ha : a ≤ 100000) : ∃ v, f_M_digits FU L (nI n) plain (nI a) 0 = some (v, nI (a + k), 0) := by
  subst hL
  obtain ⟨g', h3, h4⟩ := m_digits (FU := FU) (plain := plain) (a := a) hF hn hk4 ha 0 (Or.inl rfl)
  rcases h4 with ⟨_, h5, _⟩ | ⟨rfl, h5⟩
  · exact absurd h5 (by decide)
  · exact ⟨_, h3⟩
theorem t_dom (FU : Nat) : ∀ Y, Y < 20 → ∀ M, M < 12 → f_M_daysOf FU (nI Y) (nI (M + 1)) = some (nI (lom Y (M + 1))) := by
  show ∀ Y, Y < 20 → ∀ M, M < 12 → f_M_daysOf 0 (nI Y) (nI (M + 1)) = some (nI (lom Y (M + 1)))
  decide +kernel
theorem t_ny (FU : Nat) : ∀ Y, Y < 21 → f_M_newYear FU (nI Y) = some (nI (fom Y 1)) := by
  show ∀ Y, Y < 21 → f_M_newYear 0 (nI Y) = some (nI (fom Y 1))
  decide +kernel
theorem t_lom (FU : Nat) : ∀ Y, Y < 20 → ∀ M, M < 12 → f_Date_lengthOfMonth FU (nI (2000 + Y)) (nI (M + 1)) = some (nI (lom Y (M + 1))) := by
  show ∀ Y, Y < 20 → ∀ M, M < 12 → f_Date_lengthOfMonth 0 (nI (2000 + Y)) (nI (M + 1)) = some (nI (lom Y (M + 1)))
  decide +kernel
theorem t_fom (FU : Nat) : ∀ Y, Y < 130 → ∀ M, M < 12 → f_Date_firstOfMonth FU (nI (2000 + Y)) (nI (M + 1)) = some (nI (fom Y (M + 1))) := by
  show ∀ Y, Y < 130 → ∀ M, M < 12 → f_Date_firstOfMonth 0 (nI (2000 + Y)) (nI (M + 1)) = some (nI (fom Y (M + 1)))
  decide +kernel
theorem t_step : ∀ Y, Y < 20 → ∀ M, M < 11 → fom Y (M + 2) = fom Y (M + 1) + lom Y (M + 1) := by decide +kernel
theorem t_max : ∀ Y, Y < 20 → ∀ M, M < 12 → fom Y (M + 1) + lom Y (M + 1) ≤ 7305 := by decide +kernel
theorem t_lom31 : ∀ Y, Y < 20 → ∀ M, M < 12 → 28 ≤ lom Y (M + 1) ∧ lom Y (M + 1) ≤ 31 := by decide +kernel
theorem mt_loop {FU n Y M d : Nat} {plain : Nat → Int32} {h mi b : Int32} (hY : Y < 20) (hM : M < 12) : ∀ m j, j ≤ M → M - j < m → f_M_readTime_149 FU (nI n) plain m (nI Y) (nI (M + 1)) h mi (nI (fom Y (j + 1) + d)) (nI (j + 1)) b 1 = some (1440 * nI (fom Y (M + 1) + d) + 60 * h + mi, b, 1) := by
  intro m
  induction m with
  | zero => intro j _ h; omega
  | succ m ih =>
    intro j hj hm
    have e0 : ∀ x y, f_M_readTime_149 FU (nI n) plain (m + 1) (nI Y) (nI (M + 1)) h mi x y b 1 = f_M_readTime_149_hd FU (nI n) plain (f_M_readTime_149 FU (nI n) plain m) (nI Y) (nI (M + 1)) h mi x y b 1 := fun _ _ => rfl
    rw [e0]
    unfold f_M_readTime_149_hd
    by_cases hin : M ≤ j
    · rw [if_pos (nI_le (by omega) (by omega))]
      unfold f_M_readTime_179
      rw [if_neg (by decide), show j = M by omega]
    · rw [if_neg (nI_ge (by omega) (by omega)), if_neg (by decide), t_dom FU Y hY j (by omega), bd_ok, nm_eq, nI_add, nI_1]
      have := ih (j + 1) (by omega) (by omega)
      rw [← this, t_step Y hY j (by omega)]
      congr 2
      omega
theorem mt_133_0 {FU n : Nat} {plain : Nat → Int32} (hF : 300 < FU) (l1 l2 l3 l4 l5 s0 b g : Int32) (h : nd s0 g = 0) : f_M_readTime_133 FU (nI n) plain l1 l2 l3 l4 l5 s0 b g = some (0, b, 0) := by
  unfold f_M_readTime_133 f_M_newYear
  rw [m_need, bd_ok, bd_ok, nm_eq, h]
  obtain ⟨m, rfl⟩ : ∃ m, FU = m + 1 := ⟨FU - 1, by omega⟩
  show f_M_readTime_149_hd (m + 1) (nI n) plain (f_M_readTime_149 (m + 1) (nI n) plain m) _ _ _ _ _ _ _ _ = _
  unfold f_M_readTime_149_hd f_M_readTime_179
  rw [if_pos rfl, if_pos rfl, ite_self]
theorem wi_or (FU : Nat) (x y z : Int32) : f_M_within FU x y z = some 0 ∨ f_M_within FU x y z = some 1 := by
  rw [m_within]
  split
  · exact Or.inl rfl
  · split
    · exact Or.inl rfl
    · exact Or.inr rfl
theorem mt_bad {FU n b : Nat} {plain : Nat → Int32} (hF : 300 < FU) (hn : n ≤ 240) (hb : b ≤ 99900) (l1 l2 l3 s0 g : Int32) (h : nd s0 g = 0) : f_M_readTime_88 FU (nI n) plain l1 l2 l3 s0 (nI b) g = some (0, nI (b + 4), 0) := by
  unfold f_M_readTime_88
  obtain ⟨v, hv⟩ := m_dig0 (FU := FU) (plain := plain) (a := b) 2 2 rfl hF hn (by omega) (by omega)
  obtain ⟨w, hw⟩ := m_dig0 (FU := FU) (plain := plain) (a := b + 2) 2 2 rfl hF hn (by omega) (by omega)
  rw [m_need, bd_ok, h, hv, bd_ok, hw, bd_ok]
  rcases wi_or FU v 0 23 with e | e
  · rw [e, bd_ok, if_pos rfl]
    exact mt_133_0 hF _ _ _ _ _ _ _ _ (nd_g0 _)
  · rw [e, bd_ok, if_neg (by decide)]
    rcases wi_or FU w 0 59 with e | e
    · rw [e, bd_ok, if_pos rfl]
      exact mt_133_0 hF _ _ _ _ _ _ _ _ (nd_g0 _)
    · rw [e, bd_ok, if_neg (by decide)]
      exact mt_133_0 hF _ _ _ _ _ _ _ _ (nd_g0 _)
theorem mt_59bad {FU n b : Nat} {plain : Nat → Int32} (hF : 300 < FU) (hn : n ≤ 240) (hb : b ≤ 99900) (l1 l2 l3 s0 g : Int32) (h : nd s0 g = 0) : f_M_readTime_59 FU (nI n) plain l1 l2 l3 s0 (nI b) g = some (0, nI (b + 4), 0) := by
  unfold f_M_readTime_59
  rw [m_need, bd_ok, h, if_pos rfl]
  exact mt_bad hF hn hb _ _ _ _ _ (nd_00 _)
/-- the rest of the reference's reading, by good = 0 -/
theorem mt_rest0 {FU n a : Nat} {plain : Nat → Int32} (hF : 300 < FU) (hn : n ≤ 240) (ha : a ≤ 99000) (x3 z4 z5 : Int32) : ∃ a', a ≤ a' ∧ a' ≤ a + 13 ∧ bd (f_M_within FU x3 0 19) (fun z6 => (if z6 = 0 then (f_M_readTime_59 FU (nI n) plain x3 z4 z5 0 (nI (a + 8)) 0) else bd (f_M_within FU z4 1 12) (fun z28 => (if z28 = 0 then (f_M_readTime_59 FU (nI n) plain x3 z4 z5 0 (nI (a + 8)) 0) else bd (f_M_word FU 84 1 (nI n) plain (nI (a + 8))) (fun z30 => (if z30.1 = 0 then (f_M_readTime_59 FU (nI n) plain x3 z4 z5 0 z30.2 0) else (f_M_readTime_59 FU (nI n) plain x3 z4 z5 1 z30.2 0))))))) = some (0, nI a', 0) := by
  have hw := m_wd (FU := FU) (n := n) (a := a + 8) (plain := plain) [84] 1 84 1 hF hn (by omega) (by decide) (by decide +kernel) rfl rfl
  rcases wi_or FU x3 0 19 with e | e
  · refine ⟨a + 12, by omega, by omega, ?_⟩
    rw [e, bd_ok, if_pos rfl]
    exact mt_59bad hF hn (by omega) _ _ _ _ _ (nd_g0 _)
  · rw [e, bd_ok, if_neg (show ¬ (1 : Int32) = 0 by decide)]
    rcases wi_or FU z4 1 12 with e | e
    · refine ⟨a + 12, by omega, by omega, ?_⟩
      rw [e, bd_ok, if_pos rfl]
      exact mt_59bad hF hn (by omega) _ _ _ _ _ (nd_g0 _)
    · rw [e, bd_ok, if_neg (show ¬ (1 : Int32) = 0 by decide)]
      by_cases q : Wd plain n (a + 8) [84]
      · refine ⟨a + 13, by omega, by omega, ?_⟩
        rw [hw.1 q, bd_ok, if_neg (show ¬ (1 : Int32) = 0 by decide)]
        exact mt_59bad hF hn (by omega) _ _ _ _ _ (nd_g0 _)
      · refine ⟨a + 12, by omega, by omega, ?_⟩
        rw [hw.2 q, bd_ok, if_pos rfl]
        exact mt_59bad hF hn (by omega) _ _ _ _ _ (nd_g0 _)
theorem m_time0 {FU n a : Nat} {plain : Nat → Int32} (hF : 300 < FU) (hn : n ≤ 240) (ha : a ≤ 99000) : ∃ a', a ≤ a' ∧ a' ≤ a + 13 ∧ f_M_readTime FU (nI n) plain (nI a) 0 = some (0, nI a', 0) := by
  unfold f_M_readTime
  obtain ⟨v1, h1⟩ := m_dig0 (FU := FU) (plain := plain) (a := a) 4 4 rfl hF hn (by omega) (by omega)
  obtain ⟨v2, h2⟩ := m_dig0 (FU := FU) (plain := plain) (a := a + 4) 2 2 rfl hF hn (by omega) (by omega)
  obtain ⟨v3, h3⟩ := m_dig0 (FU := FU) (plain := plain) (a := a + 4 + 2) 2 2 rfl hF hn (by omega) (by omega)
  rw [h1, bd_ok, nm_eq, h2, bd_ok, h3, bd_ok]
  exact mt_rest0 hF hn ha _ _ _
/-- the class's checks, behind the digits -/
def kch (FU : Nat) (p y mo d h mi b : Int32) : Option (Int32 × Int32) := (if p = 0 then (some ((-1), b)) else (if y < 2000 then (some ((-1), b)) else (if y ≤ 2019 then (if d < 1 then (some ((-1), b)) else bd (f_Date_lengthOfMonth FU y mo) (fun z12 => (if d ≤ z12 then (if h < 0 then (some ((-1), b)) else (if 23 < h then (some ((-1), b)) else (if mi < 0 then (some ((-1), b)) else (if mi ≤ 59 then bd (f_Date_firstOfMonth FU y mo) (fun z18 => (some (((((z18 + d) - 1) * 1440) + (h * 60)) + mi, b))) else (some ((-1), b)))))) else (some ((-1), b))))) else (some ((-1), b)))))
def TC (y mo d h mi : Int32) (Y M D H I : Nat) : Prop := Y < 20 ∧ M < 12 ∧ D < lom Y (M + 1) ∧ H < 24 ∧ I < 60 ∧ y = nI (2000 + Y) ∧ mo = nI (M + 1) ∧ d = nI (D + 1) ∧ h = nI H ∧ mi = nI I
theorem i_rng {x : Int32} {lo hi : Nat} (hh : hi < 2 ^ 31) (hl : lo ≤ hi) (h1 : ¬ x < nI lo) (h2 : x ≤ nI hi) : ∃ N, lo ≤ N ∧ N ≤ hi ∧ x = nI N := by
  obtain ⟨v, rfl, g0, g1⟩ := v_iI x
  rw [nI_iI lo, iI_lt g0 g1 (by omega) (by omega)] at h1
  rw [nI_iI hi, iI_le g0 g1 (by omega) (by omega)] at h2
  refine ⟨v.toNat, by omega, by omega, ?_⟩
  rw [nI_iI]
  congr 1
  omega
theorem kch_bad {FU : Nat} {p y mo d h mi b : Int32} (hx : p = 0 ∨ ¬ ∃ Y M D H I, TC y mo d h mi Y M D H I) : kch FU p y mo d h mi b = some (-1, b) := by
  unfold kch
  by_cases hp : p = 0
  · rw [if_pos hp]
  rw [if_neg hp]
  have hx : ¬ ∃ Y M D H I, TC y mo d h mi Y M D H I := hx.resolve_left hp
  by_cases y1 : y < 2000
  · rw [if_pos y1]
  rw [if_neg y1]
  by_cases y2 : y ≤ 2019
  rotate_left
  · rw [if_neg y2]
  rw [if_pos y2]
  obtain ⟨N, n1, n2, rfl⟩ := i_rng (lo := 2000) (hi := 2019) (by omega) (by omega) y1 y2
  obtain ⟨Y, rfl⟩ : ∃ Y, N = 2000 + Y := ⟨N - 2000, by omega⟩
  by_cases d1 : d < 1
  · rw [if_pos d1]
  rw [if_neg d1]
  have hbad : ∀ L : Int32 → Option (Int32 × Int32), f_Date_lengthOfMonth FU (nI (2000 + Y)) mo = some 0 → bd (f_Date_lengthOfMonth FU (nI (2000 + Y)) mo) L = L 0 := fun L e => by rw [e, bd_ok]
  have d0 : ¬ d ≤ 0 := fun w => by
    obtain ⟨v, rfl, g0, g1⟩ := v_iI d
    rw [show (1 : Int32) = iI 1 from rfl, iI_lt g0 g1 (by omega) (by omega)] at d1
    rw [show (0 : Int32) = iI 0 from rfl, iI_le g0 g1 (by omega) (by omega)] at w
    omega
  by_cases m1 : mo < 1
  · rw [hbad _ (by unfold f_Date_lengthOfMonth; rw [if_pos m1]), if_neg d0]
  by_cases m2 : mo ≤ 12
  rotate_left
  · rw [hbad _ (by unfold f_Date_lengthOfMonth; rw [if_neg m1, if_neg m2]), if_neg d0]
  obtain ⟨N, k1, k2, rfl⟩ := i_rng (lo := 1) (hi := 12) (by omega) (by omega) m1 m2
  obtain ⟨M, rfl⟩ : ∃ M, N = M + 1 := ⟨N - 1, by omega⟩
  rw [t_lom FU Y (by omega) M (by omega), bd_ok]
  have l31 := t_lom31 Y (by omega) M (by omega)
  by_cases d2 : d ≤ nI (lom Y (M + 1))
  rotate_left
  · rw [if_neg d2]
  rw [if_pos d2]
  obtain ⟨N, e1, e2, rfl⟩ := i_rng (lo := 1) (by omega) (by omega) d1 d2
  by_cases h1 : h < 0
  · rw [if_pos h1]
  rw [if_neg h1]
  by_cases h2 : 23 < h
  · rw [if_pos h2]
  rw [if_neg h2]
  obtain ⟨H, q1, q2, rfl⟩ := i_rng (lo := 0) (hi := 23) (by omega) (by omega) h1 (Int32.not_lt.mp h2)
  by_cases i1 : mi < 0
  · rw [if_pos i1]
  rw [if_neg i1]
  by_cases i2 : mi ≤ 59
  rotate_left
  · rw [if_neg i2]
  obtain ⟨I, s1, s2, rfl⟩ := i_rng (lo := 0) (hi := 59) (by omega) (by omega) i1 i2
  refine absurd ⟨Y, M, N - 1, H, I, ?_⟩ hx
  exact ⟨by omega, by omega, by omega, by omega, by omega, rfl, rfl, by congr 1; omega, rfl, rfl⟩
theorem tval {F D H I : Nat} (hF : F + D ≤ 7304) (hH : H < 24) (hI : I < 60) : (nI F + nI (D + 1) - 1) * 1440 + nI H * 60 + nI I = nI ((F + D) * 1440 + H * 60 + I) ∧ 1440 * nI (F + D) + 60 * nI H + nI I = nI ((F + D) * 1440 + H * 60 + I) := by
  constructor
  · rw [nI_add, show (1 : Int32) = nI 1 from rfl, pk_sub (by omega), show (1440 : Int32) = nI 1440 from rfl, show (60 : Int32) = nI 60 from rfl, pk_mul, pk_mul, nI_add, nI_add]
    rfl
  · rw [show (1440 : Int32) = nI 1440 from rfl, show (60 : Int32) = nI 60 from rfl, pk_mul, pk_mul, nI_add, nI_add, Nat.mul_comm 1440, Nat.mul_comm 60]
theorem kch_good {FU : Nat} {y mo d h mi b : Int32} {Y M D H I : Nat} (hx : TC y mo d h mi Y M D H I) : kch FU 1 y mo d h mi b = some (nI ((fom Y (M + 1) + D) * 1440 + H * 60 + I), b) := by
  obtain ⟨h1, h2, h3, h4, h5, rfl, rfl, rfl, rfl, rfl⟩ := hx
  have hmx := t_max Y h1 M h2
  have l31 := t_lom31 Y h1 M h2
  unfold kch
  rw [if_neg (show ¬ (1 : Int32) = 0 by decide), if_neg (show ¬ nI (2000 + Y) < 2000 from nI_nlt (b := 2000) (by omega) (by omega)), if_pos (show nI (2000 + Y) ≤ 2019 from nI_le (b := 2019) (by omega) (by omega)), if_neg (show ¬ nI (D + 1) < 1 from nI_nlt (b := 1) (by omega) (by omega)), t_lom FU Y h1 M h2, bd_ok, if_pos (nI_le (by omega) (by omega)), if_neg (nI_pos (by omega)), if_neg (show ¬ 23 < nI H from nI_nlt (a := 23) (by omega) (by omega)), if_neg (nI_pos (by omega)), if_pos (show nI I ≤ 59 from nI_le (b := 59) (by omega) (by omega)), t_fom FU Y (by omega) M h2, bd_ok, (tval (by omega) h4 h5).1]
theorem nI_nm1 {N : Nat} (h : N < 2 ^ 31) : ¬ (-1 : Int32) = nI N := by
  intro e
  have := congrArg Int32.toInt e
  rw [nI_toInt h] at this
  have h2 : (-1 : Int32).toInt = -1 := by decide
  omega
theorem tc_neg {y mo d h mi : Int32} (hx : y = -1 ∨ mo = -1 ∨ d = -1 ∨ h = -1 ∨ mi = -1) : ¬ ∃ Y M D H I, TC y mo d h mi Y M D H I := by
  rintro ⟨Y, M, D, H, I, h1, h2, h3, h4, h5, e1, e2, e3, e4, e5⟩
  have l31 := t_lom31 Y h1 M h2
  rcases hx with q | q | q | q | q
  · exact nI_nm1 (by omega) (q.symm.trans e1)
  · exact nI_nm1 (by omega) (q.symm.trans e2)
  · exact nI_nm1 (by omega) (q.symm.trans e3)
  · exact nI_nm1 (by omega) (q.symm.trans e4)
  · exact nI_nm1 (by omega) (q.symm.trans e5)
theorem c_time {FU n a : Nat} {row plain : Nat → Int32} (hF : 300 < FU) (hC : CH n row plain) (ha : a ≤ n) :
    (∃ T, T ≤ 10519199 ∧ a + 13 ≤ n ∧ f_M_readTime FU (nI n) plain (nI a) 1 = some (nI T, nI (a + 13), 1) ∧ f_Reader_takeTime FU row (nI n) (nI a) = some (nI T, nI (a + 13))) ∨ (∃ a' a'', a ≤ a' ∧ a' ≤ a + 13 ∧ a'' ≤ n ∧ f_M_readTime FU (nI n) plain (nI a) 1 = some (0, nI a', 0) ∧ f_Reader_takeTime FU row (nI n) (nI a) = some (-1, nI a'')) := by
  have hn := hC.1
  have g01 : (1 : Int32) = 0 ∨ (1 : Int32) = 1 := Or.inr rfl
  -- the class's pieces, whatever they are
  have kd : ∀ (k : Nat) (L : Int32) (b : Nat), L = nI k → 1 ≤ k → k ≤ 4 → b ≤ n → ∃ v b', b' ≤ n ∧ f_Reader_takeDigits FU L row (nI n) (nI b) = some (v, nI b') ∧ ((∃ N, N < 10 ^ k ∧ v = nI N ∧ b' = b + k ∧ (∀ g, g = 0 ∨ g = 1 → f_M_digits FU L (nI n) plain (nI b) g = some (nI N, nI (b + k), g))) ∨ (v = -1 ∧ ∃ w, ∀ g, g = 0 ∨ g = 1 → f_M_digits FU L (nI n) plain (nI b) g = some (w, nI (b + k), 0))) := by
    intro k L b hL h1 h2 h3
    rcases c_digits (FU := FU) k L hL hF hC h1 h2 (show b ≤ 100000 by omega) with ⟨N, a1, a2, a3, a4⟩ | ⟨⟨w, a1⟩, a2⟩
    · exact ⟨nI N, b + k, a2, a4, Or.inl ⟨N, a1, rfl, rfl, a3⟩⟩
    · obtain ⟨b', c1, c2, c3⟩ := a2 h3
      exact ⟨-1, b', c2, c3, Or.inr ⟨rfl, w, a1⟩⟩
  have kt : ∀ b, b ≤ n → ∃ p b', b' ≤ n ∧ f_Reader_take FU 84 row (nI n) (nI b) = some (p, nI b') ∧ ((Wd plain n b [84] ∧ p = 1 ∧ b' = b + 1) ∨ (¬ Wd plain n b [84] ∧ p = 0)) := by
    intro b hb
    by_cases q : Wd plain n b [84]
    · exact ⟨1, b + 1, (wd1.mp q).1, (k_take hC hb 84).1 q, Or.inl ⟨q, rfl, rfl⟩⟩
    · exact ⟨0, b, hb, (k_take hC hb 84).2 q, Or.inr ⟨q, rfl⟩⟩
  obtain ⟨y, b1, l1, k1, r1⟩ := kd 4 4 a rfl (by omega) (by omega) ha
  obtain ⟨mo, b2, l2, k2, r2⟩ := kd 2 2 b1 rfl (by omega) (by omega) l1
  obtain ⟨d, b3, l3, k3, r3⟩ := kd 2 2 b2 rfl (by omega) (by omega) l2
  obtain ⟨p, b4, l4, k4, r4⟩ := kt b3 l3
  obtain ⟨h, b5, l5, k5, r5⟩ := kd 2 2 b4 rfl (by omega) (by omega) l4
  obtain ⟨mi, b6, l6, k6, r6⟩ := kd 2 2 b5 rfl (by omega) (by omega) l5
  have eK : f_Reader_takeTime FU row (nI n) (nI a) = kch FU p y mo d h mi (nI b6) := by
    unfold f_Reader_takeTime
    rw [k1, bd_ok, k2, bd_ok, k3, bd_ok, k4, bd_ok, k5, bd_ok, k6, bd_ok]
    rfl
  have bad : ∀ a', a ≤ a' → a' ≤ a + 13 → f_M_readTime FU (nI n) plain (nI a) 1 = some (0, nI a', 0) → (p = 0 ∨ ¬ ∃ Y M D H I, TC y mo d h mi Y M D H I) → (∃ T, T ≤ 10519199 ∧ a + 13 ≤ n ∧ f_M_readTime FU (nI n) plain (nI a) 1 = some (nI T, nI (a + 13), 1) ∧ f_Reader_takeTime FU row (nI n) (nI a) = some (nI T, nI (a + 13))) ∨ (∃ a' a'', a ≤ a' ∧ a' ≤ a + 13 ∧ a'' ≤ n ∧ f_M_readTime FU (nI n) plain (nI a) 1 = some (0, nI a', 0) ∧ f_Reader_takeTime FU row (nI n) (nI a) = some (-1, nI a'')) :=
    fun a' h1 h2 h3 h4 => Or.inr ⟨a', b6, h1, h2, l6, h3, by rw [eK, kch_bad h4]⟩
  -- the reference: the year
  rcases r1 with ⟨N1, u1, rfl, rfl, m1⟩ | ⟨rfl, w1, m1⟩
  rotate_left
  · obtain ⟨v2, h2⟩ := m_dig0 (FU := FU) (plain := plain) (a := a + 4) 2 2 rfl hF hn (by omega) (by omega)
    obtain ⟨v3, h3⟩ := m_dig0 (FU := FU) (plain := plain) (a := a + 4 + 2) 2 2 rfl hF hn (by omega) (by omega)
    obtain ⟨a', c1, c2, c3⟩ := mt_rest0 (FU := FU) (plain := plain) (a := a) hF hn (by omega) (w1 - 2000) v2 v3
    refine bad a' c1 c2 ?_ (Or.inr (tc_neg (Or.inl rfl)))
    unfold f_M_readTime
    rw [m1 1 g01, bd_ok, nm_eq, h2, bd_ok, h3, bd_ok]
    exact c3
  rcases r2 with ⟨N2, u2, rfl, rfl, m2⟩ | ⟨rfl, w2, m2⟩
  rotate_left
  · obtain ⟨v3, h3⟩ := m_dig0 (FU := FU) (plain := plain) (a := a + 4 + 2) 2 2 rfl hF hn (by omega) (by omega)
    obtain ⟨a', c1, c2, c3⟩ := mt_rest0 (FU := FU) (plain := plain) (a := a) hF hn (by omega) (nI N1 - 2000) w2 v3
    refine bad a' c1 c2 ?_ (Or.inr (tc_neg (Or.inr (Or.inl rfl))))
    unfold f_M_readTime
    rw [m1 1 g01, bd_ok, nm_eq, m2 1 g01, bd_ok, h3, bd_ok]
    exact c3
  rcases r3 with ⟨N3, u3, rfl, rfl, m3⟩ | ⟨rfl, w3, m3⟩
  rotate_left
  · obtain ⟨a', c1, c2, c3⟩ := mt_rest0 (FU := FU) (plain := plain) (a := a) hF hn (by omega) (nI N1 - 2000) (nI N2) w3
    refine bad a' c1 c2 ?_ (Or.inr (tc_neg (Or.inr (Or.inr (Or.inl rfl)))))
    unfold f_M_readTime
    rw [m1 1 g01, bd_ok, nm_eq, m2 1 g01, bd_ok, m3 1 g01, bd_ok]
    exact c3
  have e0 : f_M_readTime FU (nI n) plain (nI a) 1 = bd (f_M_within FU (nI N1 - 2000) 0 19) (fun z6 => (if z6 = 0 then (f_M_readTime_59 FU (nI n) plain (nI N1 - 2000) (nI N2) (nI N3) 0 (nI (a + 8)) 1) else bd (f_M_within FU (nI N2) 1 12) (fun z28 => (if z28 = 0 then (f_M_readTime_59 FU (nI n) plain (nI N1 - 2000) (nI N2) (nI N3) 0 (nI (a + 8)) 1) else bd (f_M_word FU 84 1 (nI n) plain (nI (a + 8))) (fun z30 => (if z30.1 = 0 then (f_M_readTime_59 FU (nI n) plain (nI N1 - 2000) (nI N2) (nI N3) 0 z30.2 1) else (f_M_readTime_59 FU (nI n) plain (nI N1 - 2000) (nI N2) (nI N3) 1 z30.2 1))))))) := by
    unfold f_M_readTime
    rw [m1 1 g01, bd_ok, nm_eq, m2 1 g01, bd_ok, m3 1 g01, bd_ok]
  by_cases yr : 2000 ≤ N1 ∧ N1 ≤ 2019
  rotate_left
  · refine bad (a + 12) (by omega) (by omega) ?_ (Or.inr ?_)
    · rw [e0, m_within]
      have : (if nI N1 - 2000 < 0 then (0 : Int32) else if 19 < nI N1 - 2000 then 0 else 1) = 0 := by
        by_cases q : N1 < 2000
        · rw [if_pos]
          rw [nI_iI, show (2000 : Int32) = iI 2000 from rfl, iI_sub, show (0 : Int32) = iI 0 from rfl, iI_lt (by omega) (by omega) (by omega) (by omega)]
          omega
        · rw [show (2000 : Int32) = nI 2000 from rfl, pk_sub (by omega), if_neg (nI_pos (by omega)), if_pos]
          exact nI_lt (a := 19) (by omega) (by omega)
      rw [this, bd_ok, if_pos rfl]
      exact mt_59bad hF hn (by omega) _ _ _ _ _ (nd_00 _)
    · rintro ⟨Y, M, D, H, I, h1, h2, h3, h4, h5, e1, e2, e3, e4, e5⟩
      rw [nI_eq (by omega) (by omega)] at e1
      omega
  obtain ⟨Y, rfl⟩ : ∃ Y, N1 = 2000 + Y := ⟨N1 - 2000, by omega⟩
  have ey : nI (2000 + Y) - 2000 = nI Y := by
    rw [show (2000 : Int32) = nI 2000 from rfl, pk_sub (by omega), Nat.add_sub_cancel_left]
  rw [ey, m_within, if_neg (nI_pos (by omega)), if_neg (show ¬ 19 < nI Y from nI_nlt (a := 19) (by omega) (by omega)), bd_ok, if_neg (show ¬ (1 : Int32) = 0 by decide)] at e0
  by_cases mr : 1 ≤ N2 ∧ N2 ≤ 12
  rotate_left
  · refine bad (a + 12) (by omega) (by omega) ?_ (Or.inr ?_)
    · rw [e0, m_within]
      have : (if nI N2 < 1 then (0 : Int32) else if 12 < nI N2 then 0 else 1) = 0 := by
        by_cases q : nI N2 < 1
        · rw [if_pos q]
        · rw [if_neg q, if_pos]
          have q2 : 1 ≤ N2 := by
            rcases Nat.lt_or_ge N2 1 with w | w
            · exact absurd (nI_lt (b := 1) w (by omega)) q
            · exact w
          exact nI_lt (a := 12) (by omega) (by omega)
      rw [this, bd_ok, if_pos rfl]
      exact mt_59bad hF hn (by omega) _ _ _ _ _ (nd_00 _)
    · rintro ⟨Y, M, D, H, I, h1, h2, h3, h4, h5, e1, e2, e3, e4, e5⟩
      rw [nI_eq (by omega) (by omega)] at e2
      omega
  obtain ⟨M, rfl⟩ : ∃ M, N2 = M + 1 := ⟨N2 - 1, by omega⟩
  rw [m_within, if_neg (show ¬ nI (M + 1) < 1 from nI_nlt (b := 1) (by omega) (by omega)), if_neg (show ¬ 12 < nI (M + 1) from nI_nlt (a := 12) (by omega) (by omega)), bd_ok, if_neg (show ¬ (1 : Int32) = 0 by decide)] at e0
  have hw := m_wd (FU := FU) (n := n) (a := a + 8) (plain := plain) [84] 1 84 1 hF hn (by omega) (by decide) (by decide +kernel) rfl rfl
  rcases r4 with ⟨hT, rfl, rfl⟩ | ⟨hT, rfl⟩
  rotate_left
  · refine bad (a + 12) (by omega) (by omega) ?_ (Or.inl rfl)
    rw [e0, hw.2 hT, bd_ok, if_pos rfl]
    exact mt_59bad hF hn (by omega) _ _ _ _ _ (nd_00 _)
  rw [hw.1 hT, bd_ok, if_neg (show ¬ (1 : Int32) = 0 by decide)] at e0
  unfold f_M_readTime_59 at e0
  rw [m_need, bd_ok, nd_1 1 g01, if_neg (show ¬ (1 : Int32) = 0 by decide), t_dom FU Y (by omega) M (by omega), bd_ok] at e0
  have l31 := t_lom31 Y (by omega) M (by omega)
  have hmx := t_max Y (by omega) M (by omega)
  by_cases dr : 1 ≤ N3 ∧ N3 ≤ lom Y (M + 1)
  rotate_left
  · refine bad (a + 13) (by omega) (by omega) ?_ (Or.inr ?_)
    · rw [e0, m_within]
      have : (if nI N3 < 1 then (0 : Int32) else if nI (lom Y (M + 1)) < nI N3 then 0 else 1) = 0 := by
        by_cases q : nI N3 < 1
        · rw [if_pos q]
        · rw [if_neg q, if_pos]
          have q2 : 1 ≤ N3 := by
            rcases Nat.lt_or_ge N3 1 with w | w
            · exact absurd (nI_lt (b := 1) w (by omega)) q
            · exact w
          exact nI_lt (by omega) (by omega)
      rw [this, bd_ok, if_pos rfl]
      exact mt_bad hF hn (by omega) _ _ _ _ _ (nd_00 _)
    · rintro ⟨Y', M', D, H, I, h1, h2, h3, h4, h5, e1, e2, e3, e4, e5⟩
      have l31' := t_lom31 Y' h1 M' h2
      rw [nI_eq (by omega) (by omega)] at e1 e2 e3
      have : Y = Y' := by omega
      subst this
      have : M = M' := by omega
      subst this
      omega
  obtain ⟨D, rfl⟩ : ∃ D, N3 = D + 1 := ⟨N3 - 1, by omega⟩
  rw [m_within, if_neg (show ¬ nI (D + 1) < 1 from nI_nlt (b := 1) (by omega) (by omega)), if_neg (nI_nlt (by omega) (by omega)), bd_ok, if_neg (show ¬ (1 : Int32) = 0 by decide)] at e0
  unfold f_M_readTime_88 at e0
  rw [m_need, bd_ok, nd_1 1 g01] at e0
  rcases r5 with ⟨N5, u5, rfl, rfl, m5⟩ | ⟨rfl, w5, m5⟩
  rotate_left
  · refine bad (a + 13) (by omega) (by omega) ?_ (Or.inr (tc_neg (Or.inr (Or.inr (Or.inr (Or.inl rfl))))))
    obtain ⟨v6, h6⟩ := m_dig0 (FU := FU) (plain := plain) (a := a + 4 + 2 + 2 + 1 + 2) 2 2 rfl hF hn (by omega) (by omega)
    rw [e0, show a + 8 + 1 = a + 4 + 2 + 2 + 1 by omega, m5 1 g01, bd_ok, h6, bd_ok]
    rcases wi_or FU w5 0 23 with e | e
    · rw [e, bd_ok, if_pos rfl]
      exact mt_133_0 hF _ _ _ _ _ _ _ _ (nd_g0 _)
    · rw [e, bd_ok, if_neg (by decide)]
      rcases wi_or FU v6 0 59 with e | e
      · rw [e, bd_ok, if_pos rfl]
        exact mt_133_0 hF _ _ _ _ _ _ _ _ (nd_g0 _)
      · rw [e, bd_ok, if_neg (by decide)]
        exact mt_133_0 hF _ _ _ _ _ _ _ _ (nd_g0 _)
  rcases r6 with ⟨N6, u6, rfl, rfl, m6⟩ | ⟨rfl, w6, m6⟩
  rotate_left
  · refine bad (a + 13) (by omega) (by omega) ?_ (Or.inr (tc_neg (Or.inr (Or.inr (Or.inr (Or.inr rfl))))))
    rw [e0, show a + 8 + 1 = a + 4 + 2 + 2 + 1 by omega, m5 1 g01, bd_ok, m6 1 g01, bd_ok]
    rcases wi_or FU (nI N5) 0 23 with e | e
    · rw [e, bd_ok, if_pos rfl]
      exact mt_133_0 hF _ _ _ _ _ _ _ _ (nd_g0 _)
    · rw [e, bd_ok, if_neg (by decide)]
      rcases wi_or FU w6 0 59 with e | e
      · rw [e, bd_ok, if_pos rfl]
        exact mt_133_0 hF _ _ _ _ _ _ _ _ (nd_g0 _)
      · rw [e, bd_ok, if_neg (by decide)]
        exact mt_133_0 hF _ _ _ _ _ _ _ _ (nd_g0 _)
  rw [show a + 8 + 1 = a + 4 + 2 + 2 + 1 by omega, m5 1 g01, bd_ok, m6 1 g01, bd_ok, m_within, if_neg (nI_pos (by omega))] at e0
  by_cases hr : N5 < 24
  rotate_left
  · rw [if_pos (show 23 < nI N5 from nI_lt (a := 23) (by omega) (by omega)), bd_ok, if_pos rfl] at e0
    refine bad (a + 13) (by omega) (by omega) ?_ (Or.inr ?_)
    · rw [e0]
      exact mt_133_0 hF _ _ _ _ _ _ _ _ (nd_00 _)
    · rintro ⟨Y, M, D, H, I, h1, h2, h3, h4, h5, e1, e2, e3, e4, e5⟩
      rw [nI_eq (by omega) (by omega)] at e4
      omega
  rw [if_neg (show ¬ 23 < nI N5 from nI_nlt (a := 23) (by omega) (by omega)), bd_ok, if_neg (show ¬ (1 : Int32) = 0 by decide), m_within, if_neg (nI_pos (by omega))] at e0
  by_cases ir : N6 < 60
  rotate_left
  · rw [if_pos (show 59 < nI N6 from nI_lt (a := 59) (by omega) (by omega)), bd_ok, if_pos rfl] at e0
    refine bad (a + 13) (by omega) (by omega) ?_ (Or.inr ?_)
    · rw [e0]
      exact mt_133_0 hF _ _ _ _ _ _ _ _ (nd_00 _)
    · rintro ⟨Y, M, D, H, I, h1, h2, h3, h4, h5, e1, e2, e3, e4, e5⟩
      rw [nI_eq (by omega) (by omega)] at e5
      omega
  rw [if_neg (show ¬ 59 < nI N6 from nI_nlt (a := 59) (by omega) (by omega)), bd_ok, if_neg (show ¬ (1 : Int32) = 0 by decide)] at e0
  refine Or.inl ⟨(fom Y (M + 1) + D) * 1440 + N5 * 60 + N6, by omega, by omega, ?_, ?_⟩
  · rw [e0]
    unfold f_M_readTime_133
    have ed : nI (fom Y 1) + nI (D + 1) - 1 = nI (fom Y (0 + 1) + D) := by
      rw [nI_add, show (1 : Int32) = nI 1 from rfl, pk_sub (by omega)]
      rfl
    rw [m_need, bd_ok, nd_1 1 g01, t_ny FU Y (by omega), bd_ok, nm_eq, ed]
    have := mt_loop (FU := FU) (n := n) (plain := plain) (d := D) (h := nI N5) (mi := nI N6) (b := nI (a + 13)) (show Y < 20 by omega) (show M < 12 by omega) FU 0 (by omega) (by omega)
    rw [(tval (by omega) hr ir).2] at this
    exact this
  · rw [eK, kch_good ⟨by omega, by omega, by omega, hr, ir, rfl, rfl, rfl, rfl, rfl⟩]
