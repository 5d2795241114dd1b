/-! pure: busy, stretches, stretch -/
/-- a person's busy stretches of the class and the reference's rows -/
def RB (p : Nat) (F B : Nat → Int32) (sz : Int32) (bo ln ct bg : Nat → Int32) : Prop := ∃ n C D k, MP p n C D bo ln ct bg ∧ k ≤ 160 ∧ sz = nI k ∧ BT F B k (MS p n C D bg 0)
theorem bt_lst {F B : Nat → Int32} {k : Nat} {S : Int → Prop} (h : BT F B k S) {i : Nat} (hi : i ≤ k) {x : Int} (hx : i = 0 ∨ (B (i - 1)).toInt ≤ x) (hx2 : i < k → x ≤ (F i).toInt) : Lst S x (if i < k then (F i).toInt else 2000000000) := by
  by_cases hik : i < k
  · rw [if_pos hik]
    have hb := h.2.2.1 i hik
    have hl := h.1 i hik
    refine Or.inr ⟨hx2 hik, (h.2.2.2 _).mpr ⟨i, hik, Int.le_refl _, hl⟩, by omega, fun m h1 h2 q => ?_⟩
    obtain ⟨j, j1, j2, j3⟩ := (h.2.2.2 m).mp q
    rcases Nat.lt_trichotomy j i with w | w | w
    · have hB : (B j).toInt ≤ (B (i - 1)).toInt := by
        by_cases e : j = i - 1
        · rw [e]; exact Int.le_refl _
        · have g1 := h.lt (show j < i - 1 by omega) (by omega)
          have g2 := h.1 (i - 1) (by omega)
          omega
      rcases hx with hx | hx
      · omega
      · omega
    · subst w; omega
    · have := h.lt w j1
      omega
  · rw [if_neg hik]
    have e : i = k := by omega
    subst e
    refine Or.inl ⟨rfl, fun m h1 q => ?_⟩
    obtain ⟨j, j1, j2, j3⟩ := (h.2.2.2 m).mp q
    have hB : (B j).toInt ≤ (B (i - 1)).toInt := by
      by_cases e : j = i - 1
      · rw [e]; exact Int.le_refl _
      · have g1 := h.lt (show j < i - 1 by omega) (by omega)
        have g2 := h.1 (i - 1) (by omega)
        omega
    rcases hx with hx | hx
    · omega
    · omega
/-- from a stretch's first minute the least free one is the one behind it -/
theorem bt_run {F B : Nat → Int32} {k : Nat} {S : Int → Prop} (h : BT F B k S) {i : Nat} (hi : i < k) {r : Int} (hr : Run S (F i).toInt r) (hn : ¬ S r) : r = (B i).toInt := by
  have hl := h.1 i hi
  rcases Int.lt_trichotomy r (B i).toInt with w | w | w
  · exact absurd ((h.2.2.2 r).mpr ⟨i, hi, hr.1, w⟩) hn
  · exact w
  · have hB := hr.2 (B i).toInt (by omega) w
    obtain ⟨j, j1, j2, j3⟩ := (h.2.2.2 _).mp hB
    rcases Nat.lt_trichotomy j i with v | v | v
    · have := h.lt v hi; omega
    · subst v; omega
    · have := h.lt v j1; omega
theorem c_busy {FU : Nat} (hF : 200 < FU) {bf bb : Nat → Nat → Int32} {bz bo ln ct bg : Nat → Int32} (h : ∀ p, p < 4 → RB p (bf p) (bb p) (bz p) bo ln ct bg) (x y th : Int32) : ∃ r, f_K_busy FU x y bf bb bz = some r ∧ f_M_busy FU x y th bo ln ct bg = some (r, 0) := by
  unfold f_K_busy f_M_busy
  rcases n_cases4 x with h0 | h0 | ⟨p, hp, rfl⟩
  · simp only [k_isPerson, m_within, bd_ok, if_pos h0, if_true]
    exact ⟨_, rfl, rfl⟩
  · simp only [k_isPerson, m_within, bd_ok, le3_4, if_pos h0, ite_self, if_true]
    exact ⟨_, rfl, rfl⟩
  · obtain ⟨n, C, D, k, hM, hk, e1, hB⟩ := h p hp
    rw [k_isPerson, bd_ok, if_neg (n_not4 hp).1, if_neg (n_not4 hp).2, if_neg (by decide), m_within, bd_ok, if_neg (n_not4 hp).1, if_neg (n_not3 hp), if_neg (by decide)]
    obtain ⟨c, c1, c2⟩ := b_cover hF hk hB y
    obtain ⟨b, b1, b2⟩ := m_busyFrom hF hM y
    rw [b1, bd_ok]
    unfold f_Person_busyTimes
    simp only [bd_ok]
    rw [sp4_at (fun p => bd (f_BusyTimes_cover FU y (bf p) (bb p) (bz p)) (fun z => if z = 0 then some 0 else some 1)) hp]
    try dsimp only
    rw [e1, c1, bd_ok]
    rcases c2 with ⟨rfl, hs⟩ | ⟨rfl, hs⟩
    · rw [if_neg (by decide)]
      refine ⟨1, rfl, ?_⟩
      have hb : b = y := by
        refine Int32.toInt_inj.mp ?_
        rcases b2 with ⟨g1, g2⟩ | ⟨g1, g2, g3, g4⟩
        · exact absurd hs (g2 _ (Int.le_refl _))
        · rcases Int.lt_trichotomy b.toInt y.toInt with q | q | q
          · omega
          · exact q
          · exact absurd hs (g4 _ (Int.le_refl _) q)
      subst hb
      rw [if_pos rfl, if_neg]
      intro q
      rw [i_le] at q
      rcases b2 with ⟨g1, g2⟩ | ⟨g1, g2, g3, g4⟩
      · exact absurd hs (g2 _ (Int.le_refl _))
      · have e9 : (2000000000 : Int32).toInt = 2000000000 := rfl
        omega
    · rw [if_pos rfl]
      refine ⟨0, rfl, ?_⟩
      by_cases hb : b = y
      · subst hb
        rw [if_pos rfl, if_pos]
        rw [i_le]
        rcases b2 with ⟨g1, g2⟩ | ⟨g1, g2, g3, g4⟩
        · have e9 : (2000000000 : Int32).toInt = 2000000000 := rfl
          omega
        · exact absurd g2 hs
      · rw [if_neg hb]
/-- the reference's stretch i, by the class's stretches -/
def frs (F : Nat → Int32) (k i : Nat) : Int32 := if i < k then F i else 2000000000
theorem frs_int {F : Nat → Int32} {k i : Nat} : (frs F k i).toInt = if i < k then (F i).toInt else 2000000000 := by
  unfold frs
  split <;> rfl
theorem m_next {FU p n : Nat} {C D : Nat → Nat} {bo ln ct bg F B : Nat → Int32} {k : Nat} (hF : 200 < FU) (h : MP p n C D bo ln ct bg) (hB : BT F B k (MS p n C D bg 0)) {i : Nat} (hi : i < k) :
    f_M_freeFrom FU (nI p) (F i) bo ln ct bg = some (B i) ∧ f_M_busyFrom FU (nI p) (B i) bo ln ct bg = some (frs F k (i + 1)) := by
  have hb := hB.2.2.1 i hi
  have hl := hB.1 i hi
  constructor
  · obtain ⟨r, r1, r2, r3⟩ := m_freeFrom hF h (F i) (by omega)
    rw [r1]
    exact congrArg some (Int32.toInt_inj.mp (bt_run hB hi r2 r3))
  · obtain ⟨r, r1, r2⟩ := m_busyFrom hF h (B i)
    rw [r1]
    refine congrArg some (Int32.toInt_inj.mp ?_)
    rw [frs_int]
    exact r2.uniq (bt_lst hB (by omega) (Or.inr (by rw [Nat.add_sub_cancel]; exact Int.le_refl _)) (fun q => by have := hB.2.1 i q; omega))
theorem m_first {FU p n : Nat} {C D : Nat → Nat} {bo ln ct bg F B : Nat → Int32} {k : Nat} (hF : 200 < FU) (h : MP p n C D bo ln ct bg) (hB : BT F B k (MS p n C D bg 0)) : f_M_busyFrom FU (nI p) (-5000) bo ln ct bg = some (frs F k 0) := by
  obtain ⟨r, r1, r2⟩ := m_busyFrom hF h (-5000)
  rw [r1]
  refine congrArg some (Int32.toInt_inj.mp ?_)
  rw [frs_int]
  exact r2.uniq (bt_lst hB (by omega) (Or.inl rfl) (fun q => by have := hB.2.2.1 0 q; have e9 : (-5000 : Int32).toInt = -5000 := rfl; omega))
theorem frs_lt {F B : Nat → Int32} {k i : Nat} {S : Int → Prop} (hB : BT F B k S) (hi : i < k) : frs F k i = F i ∧ ¬ 2000000000 ≤ F i ∧ ¬ F i = 2000000000 := by
  have hb := hB.2.2.1 i hi
  have hl := hB.1 i hi
  have e9 : (2000000000 : Int32).toInt = 2000000000 := rfl
  refine ⟨if_pos hi, fun q => ?_, fun q => ?_⟩
  · rw [i_le] at q
    omega
  · rw [q] at hl
    omega
theorem m_strs {FU p n : Nat} {C D : Nat → Nat} {bo ln ct bg F B : Nat → Int32} {k : Nat} (hF : 200 < FU) (h : MP p n C D bo ln ct bg) (hB : BT F B k (MS p n C D bg 0)) (hk : k ≤ 160) (th : Int32) : ∀ (m i : Nat), i ≤ k → k - i < m → f_M_stretches_28 FU bo ln ct bg m (nI p) (nI i) (frs F k i) th = some (nI k, th) := by
  intro m
  induction m with
  | zero => intro i _ h; omega
  | succ m ih =>
    intro i hi hm
    have e0 : f_M_stretches_28 FU bo ln ct bg (m + 1) (nI p) (nI i) (frs F k i) th = f_M_stretches_28_hd FU bo ln ct bg (f_M_stretches_28 FU bo ln ct bg m) (nI p) (nI i) (frs F k i) th := rfl
    rw [e0]
    unfold f_M_stretches_28_hd
    by_cases hik : i < k
    · obtain ⟨g1, g2, -⟩ := frs_lt hB hik
      rw [g1, if_neg g2, (m_next hF h hB hik).1, bd_ok, (m_next hF h hB hik).2, bd_ok, nI_1]
      exact ih (i + 1) (by omega) (by omega)
    · have e : i = k := by omega
      subst e
      rw [show frs F i i = 2000000000 from if_neg (by omega), if_pos (Int32.le_refl _)]
theorem c_stretches {FU : Nat} (hF : 200 < FU) {bf bb : Nat → Nat → Int32} {bz bo ln ct bg : Nat → Int32} (h : ∀ p, p < 4 → RB p (bf p) (bb p) (bz p) bo ln ct bg) (x th : Int32) : ∃ r, f_K_stretches FU x bz = some r ∧ f_M_stretches FU x th bo ln ct bg = some (r, 0) := by
  unfold f_K_stretches f_M_stretches
  rcases n_cases4 x with h0 | h0 | ⟨p, hp, rfl⟩
  · simp only [k_isPerson, m_within, bd_ok, if_pos h0, if_true]
    exact ⟨_, rfl, rfl⟩
  · simp only [k_isPerson, m_within, bd_ok, le3_4, if_pos h0, ite_self, if_true]
    exact ⟨_, rfl, rfl⟩
  · obtain ⟨n, C, D, k, hM, hk, e1, hB⟩ := h p hp
    rw [k_isPerson, bd_ok, if_neg (n_not4 hp).1, if_neg (n_not4 hp).2, if_neg (by decide), m_within, bd_ok, if_neg (n_not4 hp).1, if_neg (n_not3 hp), if_neg (by decide), m_first hF hM hB, bd_ok]
    unfold f_Person_busyTimes f_BusyTimes_size
    simp only [bd_ok]
    rw [sp4_at (fun p => some (bz p)) hp]
    refine ⟨nI k, congrArg some e1, ?_⟩
    exact m_strs hF hM hB hk 0 FU 0 (by omega) (by omega)
/-- the reference's stretch: i to go -/
theorem m_str {FU p n : Nat} {C D : Nat → Nat} {bo ln ct bg F B : Nat → Int32} {k : Nat} (hF : 200 < FU) (h : MP p n C D bo ln ct bg) (hB : BT F B k (MS p n C D bg 0)) (hk : k ≤ 160) (en : Int32) (hen : en = 0 ∨ en = 1) : ∀ (m g i : Nat), g < 2 ^ 31 → i ≤ k → k - i < m → f_M_stretch_43 FU bo ln ct bg m (nI p) en (nI g) (frs F k i) 0 = some (if i + g < k then (if en = 0 then F (i + g) else B (i + g)) else -1000000, 0) := by
  have last : ∀ i, i ≤ k → f_M_stretch_76 FU bo ln ct bg (nI p) en (frs F k i) 0 = some (if i < k then (if en = 0 then F i else B i) else -1000000, 0) := by
    intro i hi
    unfold f_M_stretch_76
    by_cases hik : i < k
    · obtain ⟨g1, g2, g3⟩ := frs_lt hB hik
      rw [g1, if_neg g3, if_pos hik, (m_next hF h hB hik).1, bd_ok]
      split <;> rfl
    · rw [show frs F k i = 2000000000 from if_neg hik, if_pos rfl, if_neg hik]
  intro m
  induction m with
  | zero => intro g i _ _ h; omega
  | succ m ih =>
    intro g i hg hi hm
    have e0 : f_M_stretch_43 FU bo ln ct bg (m + 1) (nI p) en (nI g) (frs F k i) 0 = f_M_stretch_43_hd FU bo ln ct bg (f_M_stretch_43 FU bo ln ct bg m) (nI p) en (nI g) (frs F k i) 0 := rfl
    rw [e0]
    unfold f_M_stretch_43_hd
    by_cases hg0 : g = 0
    · subst hg0
      rw [if_pos ((p_le0 (by omega)).mpr rfl), last i hi]
      rfl
    · rw [if_neg (fun q => hg0 ((p_le0 hg).mp q))]
      by_cases hik : i < k
      · obtain ⟨g1, g2, -⟩ := frs_lt hB hik
        rw [g1, if_neg g2, (m_next hF h hB hik).1, bd_ok, (m_next hF h hB hik).2, bd_ok, show nI g + (-1) = nI (g - 1) by rw [show nI g + (-1) = nI g - 1 from (Int32.sub_eq_add_neg _ _).symm, p_pred (by omega)], ih (g - 1) (i + 1) (by omega) (by omega) (by omega), show i + 1 + (g - 1) = i + g by omega]
      · rw [show frs F k i = 2000000000 from if_neg hik, if_pos (Int32.le_refl _), ← show frs F k i = 2000000000 from if_neg hik, last i hi, if_neg hik, if_neg (by omega)]
theorem c_stretch {FU : Nat} (hF : 200 < FU) {bf bb : Nat → Nat → Int32} {bz bo ln ct bg : Nat → Int32} (h : ∀ p, p < 4 → RB p (bf p) (bb p) (bz p) bo ln ct bg) (x y en th : Int32) : ∃ r, f_K_stretch FU x y en bf bb bz = some r ∧ f_M_stretch FU x y en th bo ln ct bg = some (r, 0) := by
  unfold f_K_stretch f_M_stretch
  rcases n_cases4 x with h0 | h0 | ⟨p, hp, rfl⟩
  · simp only [k_isPerson, m_within, bd_ok, if_pos h0, if_true]
    exact ⟨_, rfl, rfl⟩
  · simp only [k_isPerson, m_within, bd_ok, le3_4, if_pos h0, ite_self, if_true]
    exact ⟨_, rfl, rfl⟩
  · obtain ⟨n, C, D, k, hM, hk, e1, hB⟩ := h p hp
    unfold f_Person_busyTimes f_BusyTimes_first f_BusyTimes_behind
    simp only [k_isPerson, m_within, bd_ok, if_neg (n_not4 hp).1, if_neg (n_not4 hp).2, if_neg (n_not3 hp), one_ne, if_false, m_first hF hM hB]
    rw [sp4_at (fun p => if en = 0 then bd (if y < 0 then some (-1000000) else if bz p ≤ y then some (-1000000) else ck y 160 (some (bf p y.toNatClampNeg))) (fun z => some z) else if en = 1 then bd (if y < 0 then some (-1000000) else if bz p ≤ y then some (-1000000) else ck y 160 (some (bb p y.toNatClampNeg))) (fun z => some z) else some (-1000000)) hp]
    try dsimp only
    rw [e1]
    -- the end
    have hen : (en = 0 ∨ en = 1) ∨ (¬ en = 0 ∧ ¬ en = 1 ∧ (if en < 0 then (0 : Int32) else if 1 < en then 0 else 1) = 0) := by
      by_cases q0 : en = 0
      · exact Or.inl (Or.inl q0)
      · by_cases q1 : en = 1
        · exact Or.inl (Or.inr q1)
        · refine Or.inr ⟨q0, q1, ?_⟩
          by_cases a : en < 0
          · rw [if_pos a]
          · rw [if_neg a]
            by_cases b : 1 < en
            · rw [if_pos b]
            · exfalso
              rw [i_lt] at a b
              have z0 : (0 : Int32).toInt = 0 := rfl
              have z1 : (1 : Int32).toInt = 1 := rfl
              have d0 : en.toInt ≠ 0 := fun q => q0 (Int32.toInt_inj.mp (q.trans z0.symm))
              have d1 : en.toInt ≠ 1 := fun q => q1 (Int32.toInt_inj.mp (q.trans z1.symm))
              omega
    rcases hen with hen | ⟨q0, q1, q2⟩
    · have hw : (if en < 0 then (0 : Int32) else if 1 < en then 0 else 1) = 1 := by
        rcases hen with rfl | rfl <;> rfl
      rw [hw, if_neg (show ¬ (1 : Int32) = 0 by decide)]
      have pick : (if en = 0 then bd (if y < 0 then some (-1000000) else if nI k ≤ y then some (-1000000) else ck y 160 (some (bf p y.toNatClampNeg))) (fun z => some z) else if en = 1 then bd (if y < 0 then some (-1000000) else if nI k ≤ y then some (-1000000) else ck y 160 (some (bb p y.toNatClampNeg))) (fun z => some z) else some (-1000000)) = (if y < 0 then some (-1000000) else if nI k ≤ y then some (-1000000) else ck y 160 (some (if en = 0 then bf p y.toNatClampNeg else bb p y.toNatClampNeg))) := by
        have idb : ∀ o : Option Int32, bd o (fun z => some z) = o := fun o => by cases o <;> rfl
        simp only [idb]
        rcases hen with rfl | rfl
        · rfl
        · rw [if_neg (by decide), if_pos rfl]
          rfl
      rw [pick]
      rcases n_casesN k (by omega) y with w | w | ⟨j, hj, rfl⟩
      · rw [if_pos w, if_pos w]
        exact ⟨_, rfl, rfl⟩
      · by_cases w0 : y < 0
        · rw [if_pos w0, if_pos w0]
          exact ⟨_, rfl, rfl⟩
        · rw [if_neg w0, if_neg w0, if_pos w]
          refine ⟨_, rfl, ?_⟩
          obtain ⟨v, rfl, v0, v1⟩ := v_iI y
          rw [show (0 : Int32) = iI 0 from rfl, iI_lt v0 v1 (by omega) (by omega)] at w0
          obtain ⟨g, rfl⟩ : ∃ g : Nat, v = (g : Int) := ⟨v.toNat, by omega⟩
          rw [← nI_iI] at w ⊢
          have hkg : k ≤ g := (nI_leI (by omega) (by omega)).mp w
          rw [m_str hF hM hB hk en hen FU g 0 (by omega) (by omega) (by omega), if_neg (by omega)]
      · rw [if_neg (nI_pos (by omega)), if_neg (nI_ge hj (by omega)), if_neg (nI_pos (by omega)), ck_ok (show j < 160 by omega) (by omega), nI_clamp (by omega)]
        refine ⟨_, rfl, ?_⟩
        rw [m_str hF hM hB hk en hen FU j 0 (by omega) (by omega) (by omega), if_pos (by omega), Nat.zero_add]
    · rw [q2, if_pos rfl, if_neg q0, if_neg q1, ite_self]
      exact ⟨_, rfl, rfl⟩
