/-! pure: the parts of a rule -/
theorem ck_0 {α : Type} {k : Option α} : ck 0 8 k = k := ck_ok (i := 0) (by omega) (by omega)
def NP (j : Nat) : List Int32 := [[73, 78, 84, 69, 82, 86, 65, 76], [67, 79, 85, 78, 84, 61], [85, 78, 84, 73, 76, 61], [87, 75, 83, 84, 61], [66, 89, 77, 79, 78, 84, 72, 61], [66, 89, 77, 79, 78, 84, 72, 68], [66, 89, 68, 65, 89, 61], [66, 89, 83, 69, 84, 80, 79, 83]].getD j []
theorem NP_ex : ∀ i, i < 8 → ∀ j, j < 8 → i ≠ j → ∃ k, k < 8 ∧ k < (NP i).length ∧ k < (NP j).length ∧ (NP i).getD k 0 ≠ (NP j).getD k 0 := by
  have h : ∀ i, i < 8 → ∀ j, j < 8 → i ≠ j → ∃ k : Fin 8, k.val < (NP i).length ∧ k.val < (NP j).length ∧ (NP i).getD k.val 0 ≠ (NP j).getD k.val 0 := by decide +kernel
  intro i hi j hj hne
  obtain ⟨k, a⟩ := h i hi j hj hne
  exact ⟨k.val, k.isLt, a⟩
theorem NP_one {plain : Nat → Int32} {n a i j : Nat} (hi : i < 8) (hj : j < 8) (h1 : Wd plain n a (NP i)) (h2 : Wd plain n a (NP j)) : i = j := by
  by_cases e : i = j
  · exact e
  · obtain ⟨k, _, k1, k2, k3⟩ := NP_ex i hi j hj e
    exact absurd ((h1.2 k k1).symm.trans (h2.2 k k2)) k3
theorem c_name {FU n a : Nat} {row plain : Nat → Int32} (hF : 300 < FU) (hC : CH n row plain) (ha : a ≤ n) :
    (∃ j a', j < 8 ∧ a < a' ∧ a' ≤ n ∧ f_M_readName FU (nI n) plain (nI a) 1 = some (nI j, nI a', 1) ∧ f_Rule_takePartName FU row (nI n) (nI a) = some (nI (kbit j), nI a')) ∨
    (∃ j a', j < 8 ∧ a' ≤ a + 12 ∧ f_M_readName FU (nI n) plain (nI a) 1 = some (nI j, nI a', 0) ∧ f_Rule_takePartName FU row (nI n) (nI a) = some (0, nI a)) := by
  have hn := hC.1
  have m0 := m_wd (FU := FU) (n := n) (a := a) (plain := plain) (NP 0) 8 5282252069663031628 8 hF hn (by omega) (by decide) (by decide +kernel) rfl rfl
  have k0 := k_wd (FU := FU) 21 [73, 78, 84, 69, 82, 86, 65, 76, 61] 9 hF hC (by omega) ha rfl rfl
  have t0 := m_wd (FU := FU) (n := n) (a := a + 8) (plain := plain) [61] 1 61 1 hF hn (by omega) (by decide) (by decide +kernel) rfl rfl
  have e0 : Wd plain n a [73, 78, 84, 69, 82, 86, 65, 76, 61] ↔ Wd plain n a (NP 0) ∧ Wd plain n (a + 8) [61] := wd_app (l1 := NP 0) (l2 := [61])
  have m1 := m_wd (FU := FU) (n := n) (a := a) (plain := plain) (NP 1) 6 74008012674109 6 hF hn (by omega) (by decide) (by decide +kernel) rfl rfl
  have k1 := k_wd (FU := FU) 22 [67, 79, 85, 78, 84, 61] 6 hF hC (by omega) ha rfl rfl
  have e1 : Wd plain n a [67, 79, 85, 78, 84, 61] ↔ Wd plain n a (NP 1) := Iff.rfl
  have m2 := m_wd (FU := FU) (n := n) (a := a) (plain := plain) (NP 2) 6 93794909899837 6 hF hn (by omega) (by decide) (by decide +kernel) rfl rfl
  have k2 := k_wd (FU := FU) 23 [85, 78, 84, 73, 76, 61] 6 hF hC (by omega) ha rfl rfl
  have e2 : Wd plain n a [85, 78, 84, 73, 76, 61] ↔ Wd plain n a (NP 2) := Iff.rfl
  have m3 := m_wd (FU := FU) (n := n) (a := a) (plain := plain) (NP 3) 5 374925907005 5 hF hn (by omega) (by decide) (by decide +kernel) rfl rfl
  have k3 := k_wd (FU := FU) 28 [87, 75, 83, 84, 61] 5 hF hC (by omega) ha rfl rfl
  have e3 : Wd plain n a [87, 75, 83, 84, 61] ↔ Wd plain n a (NP 3) := Iff.rfl
  have m4 := m_wd (FU := FU) (n := n) (a := a) (plain := plain) (NP 4) 8 4780937482442393661 8 hF hn (by omega) (by decide) (by decide +kernel) rfl rfl
  have k4 := k_wd (FU := FU) 24 [66, 89, 77, 79, 78, 84, 72, 61] 8 hF hC (by omega) ha rfl rfl
  have e4 : Wd plain n a [66, 89, 77, 79, 78, 84, 72, 61] ↔ Wd plain n a (NP 4) := Iff.rfl
  have m5 := m_wd (FU := FU) (n := n) (a := a) (plain := plain) (NP 5) 8 4780937482442393668 8 hF hn (by omega) (by decide) (by decide +kernel) rfl rfl
  have k5 := k_wd (FU := FU) 25 [66, 89, 77, 79, 78, 84, 72, 68, 65, 89, 61] 11 hF hC (by omega) ha rfl rfl
  have t5 := m_wd (FU := FU) (n := n) (a := a + 8) (plain := plain) [65, 89, 61] 3 4282685 3 hF hn (by omega) (by decide) (by decide +kernel) rfl rfl
  have e5 : Wd plain n a [66, 89, 77, 79, 78, 84, 72, 68, 65, 89, 61] ↔ Wd plain n a (NP 5) ∧ Wd plain n (a + 8) [65, 89, 61] := wd_app (l1 := NP 5) (l2 := [65, 89, 61])
  have m6 := m_wd (FU := FU) (n := n) (a := a) (plain := plain) (NP 6) 6 72951164655933 6 hF hn (by omega) (by decide) (by decide +kernel) rfl rfl
  have k6 := k_wd (FU := FU) 26 [66, 89, 68, 65, 89, 61] 6 hF hC (by omega) ha rfl rfl
  have e6 : Wd plain n a [66, 89, 68, 65, 89, 61] ↔ Wd plain n a (NP 6) := Iff.rfl
  have m7 := m_wd (FU := FU) (n := n) (a := a) (plain := plain) (NP 7) 8 4780944036662890323 8 hF hn (by omega) (by decide) (by decide +kernel) rfl rfl
  have k7 := k_wd (FU := FU) 27 [66, 89, 83, 69, 84, 80, 79, 83, 61] 9 hF hC (by omega) ha rfl rfl
  have t7 := m_wd (FU := FU) (n := n) (a := a + 8) (plain := plain) [61] 1 61 1 hF hn (by omega) (by decide) (by decide +kernel) rfl rfl
  have e7 : Wd plain n a [66, 89, 83, 69, 84, 80, 79, 83, 61] ↔ Wd plain n a (NP 7) ∧ Wd plain n (a + 8) [61] := wd_app (l1 := NP 7) (l2 := [61])
  by_cases q0 : Wd plain n a (NP 0)
  · have no : ∀ i, i < 8 → i ≠ 0 → ¬ Wd plain n a (NP i) := fun i hi hne w => hne (NP_one hi (by omega) w q0)
    by_cases qt : Wd plain n (a + 8) [61]
    · have hl := wd_le qt
      refine Or.inl ⟨0, a + 8 + 1, by omega, by omega, hl, ?_, ?_⟩
      · unfold f_M_readName
        rw [m0.1 q0, bd_ok, if_neg (show ¬ (1 : Int32) = 0 by decide), t0.1 qt, bd_ok, m_need, bd_ok, nd_1 1 (Or.inr rfl)]
        rfl
      · unfold f_Rule_takePartName
        rw [k0.1 (e0.mpr ⟨q0, qt⟩), bd_ok, if_neg (show ¬ (1 : Int32) = 0 by decide)]
        rfl
    · refine Or.inr ⟨0, a + 8, by omega, by omega, ?_, ?_⟩
      · unfold f_M_readName
        rw [m0.1 q0, bd_ok, if_neg (show ¬ (1 : Int32) = 0 by decide), t0.2 qt, bd_ok, m_need, bd_ok, nd_00]
        rfl
      · unfold f_Rule_takePartName
        rw [k0.2 (fun w => qt (e0.mp w).2), bd_ok, if_pos rfl, k1.2 (fun w => no 1 (by omega) (by omega) (e1.mp w)), bd_ok, if_pos rfl, k2.2 (fun w => no 2 (by omega) (by omega) (e2.mp w)), bd_ok, if_pos rfl, k4.2 (fun w => no 4 (by omega) (by omega) (e4.mp w)), bd_ok, if_pos rfl, k5.2 (fun w => no 5 (by omega) (by omega) (e5.mp w).1), bd_ok, if_pos rfl, k6.2 (fun w => no 6 (by omega) (by omega) (e6.mp w)), bd_ok, if_pos rfl, k7.2 (fun w => no 7 (by omega) (by omega) (e7.mp w).1), bd_ok, if_pos rfl, k3.2 (fun w => no 3 (by omega) (by omega) (e3.mp w)), bd_ok, if_pos rfl]
  by_cases q1 : Wd plain n a (NP 1)
  · have no : ∀ i, i < 8 → i ≠ 1 → ¬ Wd plain n a (NP i) := fun i hi hne w => hne (NP_one hi (by omega) w q1)
    have hl := wd_le q1
    refine Or.inl ⟨1, a + 6, by omega, by omega, hl, ?_, ?_⟩
    · unfold f_M_readName
      rw [m0.2 (no 0 (by omega) (by omega)), bd_ok, if_pos rfl, m1.1 q1, bd_ok, if_neg (show ¬ (1 : Int32) = 0 by decide)]
      rfl
    · unfold f_Rule_takePartName
      rw [k0.2 (fun w => no 0 (by omega) (by omega) (e0.mp w).1), bd_ok, if_pos rfl, k1.1 (e1.mpr q1), bd_ok, if_neg (show ¬ (1 : Int32) = 0 by decide)]
      rfl
  by_cases q2 : Wd plain n a (NP 2)
  · have no : ∀ i, i < 8 → i ≠ 2 → ¬ Wd plain n a (NP i) := fun i hi hne w => hne (NP_one hi (by omega) w q2)
    have hl := wd_le q2
    refine Or.inl ⟨2, a + 6, by omega, by omega, hl, ?_, ?_⟩
    · unfold f_M_readName
      rw [m0.2 (no 0 (by omega) (by omega)), bd_ok, if_pos rfl, m1.2 (no 1 (by omega) (by omega)), bd_ok, if_pos rfl, m2.1 q2, bd_ok, if_neg (show ¬ (1 : Int32) = 0 by decide)]
      rfl
    · unfold f_Rule_takePartName
      rw [k0.2 (fun w => no 0 (by omega) (by omega) (e0.mp w).1), bd_ok, if_pos rfl, k1.2 (fun w => no 1 (by omega) (by omega) (e1.mp w)), bd_ok, if_pos rfl, k2.1 (e2.mpr q2), bd_ok, if_neg (show ¬ (1 : Int32) = 0 by decide)]
      rfl
  by_cases q3 : Wd plain n a (NP 3)
  · have no : ∀ i, i < 8 → i ≠ 3 → ¬ Wd plain n a (NP i) := fun i hi hne w => hne (NP_one hi (by omega) w q3)
    have hl := wd_le q3
    refine Or.inl ⟨3, a + 5, by omega, by omega, hl, ?_, ?_⟩
    · unfold f_M_readName
      rw [m0.2 (no 0 (by omega) (by omega)), bd_ok, if_pos rfl, m1.2 (no 1 (by omega) (by omega)), bd_ok, if_pos rfl, m2.2 (no 2 (by omega) (by omega)), bd_ok, if_pos rfl, m3.1 q3, bd_ok, if_neg (show ¬ (1 : Int32) = 0 by decide)]
      rfl
    · unfold f_Rule_takePartName
      rw [k0.2 (fun w => no 0 (by omega) (by omega) (e0.mp w).1), bd_ok, if_pos rfl, k1.2 (fun w => no 1 (by omega) (by omega) (e1.mp w)), bd_ok, if_pos rfl, k2.2 (fun w => no 2 (by omega) (by omega) (e2.mp w)), bd_ok, if_pos rfl, k4.2 (fun w => no 4 (by omega) (by omega) (e4.mp w)), bd_ok, if_pos rfl, k5.2 (fun w => no 5 (by omega) (by omega) (e5.mp w).1), bd_ok, if_pos rfl, k6.2 (fun w => no 6 (by omega) (by omega) (e6.mp w)), bd_ok, if_pos rfl, k7.2 (fun w => no 7 (by omega) (by omega) (e7.mp w).1), bd_ok, if_pos rfl, k3.1 (e3.mpr q3), bd_ok, if_neg (show ¬ (1 : Int32) = 0 by decide)]
      rfl
  by_cases q4 : Wd plain n a (NP 4)
  · have no : ∀ i, i < 8 → i ≠ 4 → ¬ Wd plain n a (NP i) := fun i hi hne w => hne (NP_one hi (by omega) w q4)
    have hl := wd_le q4
    refine Or.inl ⟨4, a + 8, by omega, by omega, hl, ?_, ?_⟩
    · unfold f_M_readName
      rw [m0.2 (no 0 (by omega) (by omega)), bd_ok, if_pos rfl, m1.2 (no 1 (by omega) (by omega)), bd_ok, if_pos rfl, m2.2 (no 2 (by omega) (by omega)), bd_ok, if_pos rfl, m3.2 (no 3 (by omega) (by omega)), bd_ok, if_pos rfl, m4.1 q4, bd_ok, if_neg (show ¬ (1 : Int32) = 0 by decide)]
      rfl
    · unfold f_Rule_takePartName
      rw [k0.2 (fun w => no 0 (by omega) (by omega) (e0.mp w).1), bd_ok, if_pos rfl, k1.2 (fun w => no 1 (by omega) (by omega) (e1.mp w)), bd_ok, if_pos rfl, k2.2 (fun w => no 2 (by omega) (by omega) (e2.mp w)), bd_ok, if_pos rfl, k4.1 (e4.mpr q4), bd_ok, if_neg (show ¬ (1 : Int32) = 0 by decide)]
      rfl
  by_cases q5 : Wd plain n a (NP 5)
  · have no : ∀ i, i < 8 → i ≠ 5 → ¬ Wd plain n a (NP i) := fun i hi hne w => hne (NP_one hi (by omega) w q5)
    by_cases qt : Wd plain n (a + 8) [65, 89, 61]
    · have hl := wd_le qt
      refine Or.inl ⟨5, a + 8 + 3, by omega, by omega, hl, ?_, ?_⟩
      · unfold f_M_readName
        rw [m0.2 (no 0 (by omega) (by omega)), bd_ok, if_pos rfl, m1.2 (no 1 (by omega) (by omega)), bd_ok, if_pos rfl, m2.2 (no 2 (by omega) (by omega)), bd_ok, if_pos rfl, m3.2 (no 3 (by omega) (by omega)), bd_ok, if_pos rfl, m4.2 (no 4 (by omega) (by omega)), bd_ok, if_pos rfl, m5.1 q5, bd_ok, if_neg (show ¬ (1 : Int32) = 0 by decide), t5.1 qt, bd_ok, m_need, bd_ok, nd_1 1 (Or.inr rfl)]
        rfl
      · unfold f_Rule_takePartName
        rw [k0.2 (fun w => no 0 (by omega) (by omega) (e0.mp w).1), bd_ok, if_pos rfl, k1.2 (fun w => no 1 (by omega) (by omega) (e1.mp w)), bd_ok, if_pos rfl, k2.2 (fun w => no 2 (by omega) (by omega) (e2.mp w)), bd_ok, if_pos rfl, k4.2 (fun w => no 4 (by omega) (by omega) (e4.mp w)), bd_ok, if_pos rfl, k5.1 (e5.mpr ⟨q5, qt⟩), bd_ok, if_neg (show ¬ (1 : Int32) = 0 by decide)]
        rfl
    · refine Or.inr ⟨5, a + 8, by omega, by omega, ?_, ?_⟩
      · unfold f_M_readName
        rw [m0.2 (no 0 (by omega) (by omega)), bd_ok, if_pos rfl, m1.2 (no 1 (by omega) (by omega)), bd_ok, if_pos rfl, m2.2 (no 2 (by omega) (by omega)), bd_ok, if_pos rfl, m3.2 (no 3 (by omega) (by omega)), bd_ok, if_pos rfl, m4.2 (no 4 (by omega) (by omega)), bd_ok, if_pos rfl, m5.1 q5, bd_ok, if_neg (show ¬ (1 : Int32) = 0 by decide), t5.2 qt, bd_ok, m_need, bd_ok, nd_00]
        rfl
      · unfold f_Rule_takePartName
        rw [k0.2 (fun w => no 0 (by omega) (by omega) (e0.mp w).1), bd_ok, if_pos rfl, k1.2 (fun w => no 1 (by omega) (by omega) (e1.mp w)), bd_ok, if_pos rfl, k2.2 (fun w => no 2 (by omega) (by omega) (e2.mp w)), bd_ok, if_pos rfl, k4.2 (fun w => no 4 (by omega) (by omega) (e4.mp w)), bd_ok, if_pos rfl, k5.2 (fun w => qt (e5.mp w).2), bd_ok, if_pos rfl, k6.2 (fun w => no 6 (by omega) (by omega) (e6.mp w)), bd_ok, if_pos rfl, k7.2 (fun w => no 7 (by omega) (by omega) (e7.mp w).1), bd_ok, if_pos rfl, k3.2 (fun w => no 3 (by omega) (by omega) (e3.mp w)), bd_ok, if_pos rfl]
  by_cases q6 : Wd plain n a (NP 6)
  · have no : ∀ i, i < 8 → i ≠ 6 → ¬ Wd plain n a (NP i) := fun i hi hne w => hne (NP_one hi (by omega) w q6)
    have hl := wd_le q6
    refine Or.inl ⟨6, a + 6, by omega, by omega, hl, ?_, ?_⟩
    · unfold f_M_readName
      rw [m0.2 (no 0 (by omega) (by omega)), bd_ok, if_pos rfl, m1.2 (no 1 (by omega) (by omega)), bd_ok, if_pos rfl, m2.2 (no 2 (by omega) (by omega)), bd_ok, if_pos rfl, m3.2 (no 3 (by omega) (by omega)), bd_ok, if_pos rfl, m4.2 (no 4 (by omega) (by omega)), bd_ok, if_pos rfl, m5.2 (no 5 (by omega) (by omega)), bd_ok, if_pos rfl, m6.1 q6, bd_ok, if_neg (show ¬ (1 : Int32) = 0 by decide)]
      rfl
    · unfold f_Rule_takePartName
      rw [k0.2 (fun w => no 0 (by omega) (by omega) (e0.mp w).1), bd_ok, if_pos rfl, k1.2 (fun w => no 1 (by omega) (by omega) (e1.mp w)), bd_ok, if_pos rfl, k2.2 (fun w => no 2 (by omega) (by omega) (e2.mp w)), bd_ok, if_pos rfl, k4.2 (fun w => no 4 (by omega) (by omega) (e4.mp w)), bd_ok, if_pos rfl, k5.2 (fun w => no 5 (by omega) (by omega) (e5.mp w).1), bd_ok, if_pos rfl, k6.1 (e6.mpr q6), bd_ok, if_neg (show ¬ (1 : Int32) = 0 by decide)]
      rfl
  by_cases q7 : Wd plain n a (NP 7)
  · have no : ∀ i, i < 8 → i ≠ 7 → ¬ Wd plain n a (NP i) := fun i hi hne w => hne (NP_one hi (by omega) w q7)
    by_cases qt : Wd plain n (a + 8) [61]
    · have hl := wd_le qt
      refine Or.inl ⟨7, a + 8 + 1, by omega, by omega, hl, ?_, ?_⟩
      · unfold f_M_readName
        rw [m0.2 (no 0 (by omega) (by omega)), bd_ok, if_pos rfl, m1.2 (no 1 (by omega) (by omega)), bd_ok, if_pos rfl, m2.2 (no 2 (by omega) (by omega)), bd_ok, if_pos rfl, m3.2 (no 3 (by omega) (by omega)), bd_ok, if_pos rfl, m4.2 (no 4 (by omega) (by omega)), bd_ok, if_pos rfl, m5.2 (no 5 (by omega) (by omega)), bd_ok, if_pos rfl, m6.2 (no 6 (by omega) (by omega)), bd_ok, if_pos rfl, m7.1 q7, bd_ok, if_neg (show ¬ (1 : Int32) = 0 by decide), t7.1 qt, bd_ok, if_neg (show ¬ (1 : Int32) = 0 by decide)]
        unfold f_M_readName_151
        rw [m_need, bd_ok, nd_1 1 (Or.inr rfl)]
        rfl
      · unfold f_Rule_takePartName
        rw [k0.2 (fun w => no 0 (by omega) (by omega) (e0.mp w).1), bd_ok, if_pos rfl, k1.2 (fun w => no 1 (by omega) (by omega) (e1.mp w)), bd_ok, if_pos rfl, k2.2 (fun w => no 2 (by omega) (by omega) (e2.mp w)), bd_ok, if_pos rfl, k4.2 (fun w => no 4 (by omega) (by omega) (e4.mp w)), bd_ok, if_pos rfl, k5.2 (fun w => no 5 (by omega) (by omega) (e5.mp w).1), bd_ok, if_pos rfl, k6.2 (fun w => no 6 (by omega) (by omega) (e6.mp w)), bd_ok, if_pos rfl, k7.1 (e7.mpr ⟨q7, qt⟩), bd_ok, if_neg (show ¬ (1 : Int32) = 0 by decide)]
        rfl
    · refine Or.inr ⟨7, a + 8, by omega, by omega, ?_, ?_⟩
      · unfold f_M_readName
        rw [m0.2 (no 0 (by omega) (by omega)), bd_ok, if_pos rfl, m1.2 (no 1 (by omega) (by omega)), bd_ok, if_pos rfl, m2.2 (no 2 (by omega) (by omega)), bd_ok, if_pos rfl, m3.2 (no 3 (by omega) (by omega)), bd_ok, if_pos rfl, m4.2 (no 4 (by omega) (by omega)), bd_ok, if_pos rfl, m5.2 (no 5 (by omega) (by omega)), bd_ok, if_pos rfl, m6.2 (no 6 (by omega) (by omega)), bd_ok, if_pos rfl, m7.1 q7, bd_ok, if_neg (show ¬ (1 : Int32) = 0 by decide), t7.2 qt, bd_ok, if_pos rfl]
        unfold f_M_readName_151
        rw [m_need, bd_ok, nd_00]
        rfl
      · unfold f_Rule_takePartName
        rw [k0.2 (fun w => no 0 (by omega) (by omega) (e0.mp w).1), bd_ok, if_pos rfl, k1.2 (fun w => no 1 (by omega) (by omega) (e1.mp w)), bd_ok, if_pos rfl, k2.2 (fun w => no 2 (by omega) (by omega) (e2.mp w)), bd_ok, if_pos rfl, k4.2 (fun w => no 4 (by omega) (by omega) (e4.mp w)), bd_ok, if_pos rfl, k5.2 (fun w => no 5 (by omega) (by omega) (e5.mp w).1), bd_ok, if_pos rfl, k6.2 (fun w => no 6 (by omega) (by omega) (e6.mp w)), bd_ok, if_pos rfl, k7.2 (fun w => qt (e7.mp w).2), bd_ok, if_pos rfl, k3.2 (fun w => no 3 (by omega) (by omega) (e3.mp w)), bd_ok, if_pos rfl]
  refine Or.inr ⟨7, a, by omega, by omega, ?_, ?_⟩
  · unfold f_M_readName
    rw [m0.2 q0, bd_ok, if_pos rfl, m1.2 q1, bd_ok, if_pos rfl, m2.2 q2, bd_ok, if_pos rfl, m3.2 q3, bd_ok, if_pos rfl, m4.2 q4, bd_ok, if_pos rfl, m5.2 q5, bd_ok, if_pos rfl, m6.2 q6, bd_ok, if_pos rfl, m7.2 q7, bd_ok, if_pos rfl]
    unfold f_M_readName_151
    rw [m_need, bd_ok, nd_00]
    rfl
  · unfold f_Rule_takePartName
    rw [k0.2 (fun w => q0 (e0.mp w).1), bd_ok, if_pos rfl, k1.2 (fun w => q1 (e1.mp w)), bd_ok, if_pos rfl, k2.2 (fun w => q2 (e2.mp w)), bd_ok, if_pos rfl, k4.2 (fun w => q4 (e4.mp w)), bd_ok, if_pos rfl, k5.2 (fun w => q5 (e5.mp w).1), bd_ok, if_pos rfl, k6.2 (fun w => q6 (e6.mp w)), bd_ok, if_pos rfl, k7.2 (fun w => q7 (e7.mp w).1), bd_ok, if_pos rfl, k3.2 (fun w => q3 (e3.mp w)), bd_ok, if_pos rfl]
theorem m_list0_4 {FU n a : Nat} {row plain : Nat → Int32} {mo : Int32} {mr : Nat → Int32} {md : Int32} {dr : Nat → Int32} {wd : Int32} {wr : Nat → Int32} {wn : Nat → Int32} {po : Int32} {pr : Nat → Int32} (hF : 300 < FU) (hC : CH n row plain) (ha : a ≤ 98000) : ∃ a' v, a' ≤ a + 250 ∧ f_M_readList FU 4 (nI n) plain (nI a) 0 mo mr md dr wd wr wn po pr = some (nI a', 0, nI 1, upd mr 0 v, md, dr, wd, wr, wn, po, pr) := by
  have hn := hC.1
  obtain ⟨m, eF⟩ : ∃ m, FU = m + 2 := ⟨FU - 2, by omega⟩
  have eM : f_M_readList FU 4 (nI n) plain (nI a) 0 mo mr md dr wd wr wn po pr = f_M_readList_4_hd FU (nI n) plain (f_M_readList_4 FU (nI n) plain (m + 1)) 4 0 1 (nI a) 0 mo mr md dr wd wr wn po pr := by
    unfold f_M_readList
    conv => lhs; rw [show f_M_readList_4 FU (nI n) plain FU = f_M_readList_4 FU (nI n) plain (m + 2) by rw [← eF]]
    rfl
  unfold f_M_readList_4_hd at eM
  rw [if_neg (show ¬ (1 : Int32) = 0 by decide), if_neg (show ¬ (8 : Int32) ≤ 0 by decide), if_pos rfl] at eM
  obtain ⟨x, a', h1, h2, h3⟩ := c_number (FU := FU) (a := a) (most := 12) hF hC (by omega) (by omega) (by omega)
  have hv : f_M_number FU 12 (nI n) plain (nI a) 0 = some (nI x, nI a', 0) := by
    rcases h3 with h3 | h3
    · exact h3.2.2.2.1 0 (Or.inl rfl)
    · exact h3.1 0 (Or.inl rfl)
  rw [hv, bd_ok, ck_0] at eM
  unfold f_M_readList_120 at eM
  rw [if_pos rfl, mml0_4, nd_g0] at eM
  exact ⟨a', _, by omega, eM⟩
theorem m_list0_5 {FU n a : Nat} {row plain : Nat → Int32} {mo : Int32} {mr : Nat → Int32} {md : Int32} {dr : Nat → Int32} {wd : Int32} {wr : Nat → Int32} {wn : Nat → Int32} {po : Int32} {pr : Nat → Int32} (hF : 300 < FU) (hC : CH n row plain) (ha : a ≤ 98000) : ∃ a' v, a' ≤ a + 250 ∧ f_M_readList FU 5 (nI n) plain (nI a) 0 mo mr md dr wd wr wn po pr = some (nI a', 0, mo, mr, nI 1, upd dr 0 v, wd, wr, wn, po, pr) := by
  have hn := hC.1
  obtain ⟨m, eF⟩ : ∃ m, FU = m + 2 := ⟨FU - 2, by omega⟩
  have eM : f_M_readList FU 5 (nI n) plain (nI a) 0 mo mr md dr wd wr wn po pr = f_M_readList_4_hd FU (nI n) plain (f_M_readList_4 FU (nI n) plain (m + 1)) 5 0 1 (nI a) 0 mo mr md dr wd wr wn po pr := by
    unfold f_M_readList
    conv => lhs; rw [show f_M_readList_4 FU (nI n) plain FU = f_M_readList_4 FU (nI n) plain (m + 2) by rw [← eF]]
    rfl
  unfold f_M_readList_4_hd at eM
  rw [if_neg (show ¬ (1 : Int32) = 0 by decide), if_neg (show ¬ (8 : Int32) ≤ 0 by decide), if_neg (show ¬ (5 : Int32) = 4 by decide), if_pos rfl] at eM
  obtain ⟨x, a', h1, h2, h3⟩ := c_signed (FU := FU) (a := a) (most := 31) hF hC (by omega) (by omega) (by omega)
  have hv : f_M_signed FU 31 (nI n) plain (nI a) 0 = some (iI x, nI a', 0) := by
    rcases h3 with h3 | h3
    · exact h3.2.2.2.2.1 0 (Or.inl rfl)
    · exact h3.1 0 (Or.inl rfl)
  rw [hv, bd_ok, ck_0] at eM
  unfold f_M_readList_120 at eM
  rw [if_pos rfl, mml0_5, nd_g0] at eM
  exact ⟨a', _, by omega, eM⟩
theorem m_list0_6 {FU n a : Nat} {row plain : Nat → Int32} {mo : Int32} {mr : Nat → Int32} {md : Int32} {dr : Nat → Int32} {wd : Int32} {wr : Nat → Int32} {wn : Nat → Int32} {po : Int32} {pr : Nat → Int32} (hF : 300 < FU) (hC : CH n row plain) (ha : a ≤ 98000) : ∃ a' v w, a' ≤ a + 250 ∧ f_M_readList FU 6 (nI n) plain (nI a) 0 mo mr md dr wd wr wn po pr = some (nI a', 0, mo, mr, md, dr, nI 1, upd wr 0 v, upd wn 0 w, po, pr) := by
  have hn := hC.1
  obtain ⟨m, eF⟩ : ∃ m, FU = m + 2 := ⟨FU - 2, by omega⟩
  have eM : f_M_readList FU 6 (nI n) plain (nI a) 0 mo mr md dr wd wr wn po pr = f_M_readList_4_hd FU (nI n) plain (f_M_readList_4 FU (nI n) plain (m + 1)) 6 0 1 (nI a) 0 mo mr md dr wd wr wn po pr := by
    unfold f_M_readList
    conv => lhs; rw [show f_M_readList_4 FU (nI n) plain FU = f_M_readList_4 FU (nI n) plain (m + 2) by rw [← eF]]
    rfl
  unfold f_M_readList_4_hd at eM
  rw [if_neg (show ¬ (1 : Int32) = 0 by decide), if_neg (show ¬ (8 : Int32) ≤ 0 by decide), if_neg (show ¬ (6 : Int32) = 4 by decide), if_neg (show ¬ (6 : Int32) = 5 by decide), if_pos rfl] at eM
  rw [m_peek hn (by omega), bd_ok, bd_ok] at eM
  have h94 : ∀ b x, b ≤ 99000 → ∃ b' v, b' ≤ b + 2 ∧ f_M_readList_94 FU (nI n) plain (f_M_readList_4 FU (nI n) plain (m + 1)) 6 0 x 0 (nI b) 0 mo mr md dr wd wr wn po pr = some (nI b', 0, mo, mr, md, dr, nI 1, upd wr 0 v, upd wn 0 x, po, pr) := by
    intro b x hb
    rcases m94 (FU := FU) (row := row) (plain := plain) (i := 0) (rc := f_M_readList_4 FU (nI n) plain (m + 1)) (mo := mo) (mr := mr) (md := md) (dr := dr) (wd := wd) (wr := wr) (wn := wn) (po := po) (pr := pr) hF hC (by omega) (show b ≤ 100000 by omega) x 0 (Or.inl rfl) with ⟨w, w1, w2, w3, w4⟩ | ⟨w1, w2⟩
    · refine ⟨b + 2, nI w, by omega, ?_⟩
      refine Eq.trans w3 ?_
      unfold f_M_readList_120
      rw [if_pos rfl, mml0_6, nd_g0]
      rfl
    · refine ⟨b, -1, by omega, ?_⟩
      refine Eq.trans w1 ?_
      unfold f_M_readList_120
      rw [if_pos rfl, mml0_6, nd_g0]
      rfl
  have h84 : ∃ b' v w, b' ≤ a + 250 ∧ f_M_readList_84 FU (nI n) plain (f_M_readList_4 FU (nI n) plain (m + 1)) 6 0 0 (nI a) 0 mo mr md dr wd wr wn po pr = some (nI b', 0, mo, mr, md, dr, nI 1, upd wr 0 v, upd wn 0 w, po, pr) := by
    obtain ⟨x, a', h1, h2, h3⟩ := c_signed (FU := FU) (a := a) (most := 53) hF hC (by omega) (by omega) (by omega)
    have hv : f_M_signed FU 53 (nI n) plain (nI a) 0 = some (iI x, nI a', 0) := by
      rcases h3 with h3 | h3
      · exact h3.2.2.2.2.1 0 (Or.inl rfl)
      · exact h3.1 0 (Or.inl rfl)
    obtain ⟨b', v, c1, c2⟩ := h94 a' (iI x) (by omega)
    refine ⟨b', v, iI x, by omega, ?_⟩
    unfold f_M_readList_84
    rw [hv, bd_ok]
    exact c2
  by_cases q : pk plain n a = 45
  · rw [if_pos q] at eM
    obtain ⟨b', v, w, c1, c2⟩ := h84
    exact ⟨b', v, w, c1, eM.trans c2⟩
  · rw [if_neg q] at eM
    by_cases q2 : dg (pk plain n a)
    · rw [(m_isDigit _).1 q2, bd_ok, if_neg (show ¬ (1 : Int32) = 0 by decide)] at eM
      obtain ⟨b', v, w, c1, c2⟩ := h84
      exact ⟨b', v, w, c1, eM.trans c2⟩
    · rw [(m_isDigit _).2 q2, bd_ok, if_pos rfl] at eM
      obtain ⟨b', v, c1, c2⟩ := h94 a 0 (by omega)
      exact ⟨b', v, 0, by omega, eM.trans c2⟩
theorem m_list0_7 {FU n a : Nat} {row plain : Nat → Int32} {mo : Int32} {mr : Nat → Int32} {md : Int32} {dr : Nat → Int32} {wd : Int32} {wr : Nat → Int32} {wn : Nat → Int32} {po : Int32} {pr : Nat → Int32} (hF : 300 < FU) (hC : CH n row plain) (ha : a ≤ 98000) : ∃ a' v, a' ≤ a + 250 ∧ f_M_readList FU 7 (nI n) plain (nI a) 0 mo mr md dr wd wr wn po pr = some (nI a', 0, mo, mr, md, dr, wd, wr, wn, nI 1, upd pr 0 v) := by
  have hn := hC.1
  obtain ⟨m, eF⟩ : ∃ m, FU = m + 2 := ⟨FU - 2, by omega⟩
  have eM : f_M_readList FU 7 (nI n) plain (nI a) 0 mo mr md dr wd wr wn po pr = f_M_readList_4_hd FU (nI n) plain (f_M_readList_4 FU (nI n) plain (m + 1)) 7 0 1 (nI a) 0 mo mr md dr wd wr wn po pr := by
    unfold f_M_readList
    conv => lhs; rw [show f_M_readList_4 FU (nI n) plain FU = f_M_readList_4 FU (nI n) plain (m + 2) by rw [← eF]]
    rfl
  unfold f_M_readList_4_hd at eM
  rw [if_neg (show ¬ (1 : Int32) = 0 by decide), if_neg (show ¬ (8 : Int32) ≤ 0 by decide), if_neg (show ¬ (7 : Int32) = 4 by decide), if_neg (show ¬ (7 : Int32) = 5 by decide), if_neg (show ¬ (7 : Int32) = 6 by decide)] at eM
  obtain ⟨x, a', h1, h2, h3⟩ := c_signed (FU := FU) (a := a) (most := 99) hF hC (by omega) (by omega) (by omega)
  have hv : f_M_signed FU 99 (nI n) plain (nI a) 0 = some (iI x, nI a', 0) := by
    rcases h3 with h3 | h3
    · exact h3.2.2.2.2.1 0 (Or.inl rfl)
    · exact h3.1 0 (Or.inl rfl)
  rw [hv, bd_ok, ck_0] at eM
  unfold f_M_readList_120 at eM
  rw [if_pos rfl, mml0_7, nd_g0] at eM
  exact ⟨a', _, by omega, eM⟩
theorem m22_0 {FU n a c j : Nat} {row plain : Nat → Int32} {parts : Int32} {iv : Int32} {lim : Int32} {unt : Int32} {wb : Int32} {mo : Int32} {mr : Nat → Int32} {md : Int32} {dr : Nat → Int32} {wr : Nat → Int32} {wn : Nat → Int32} {po : Int32} {pr : Nat → Int32} (hF : 300 < FU) (hC : CH n row plain) (ha : a ≤ 98000) (hc : c ≤ 8) (hj : j < 8) (s0 g : Int32) (h : nd s0 g = 0) : ∃ (a' c' : Nat) (parts' : Int32) (iv' : Int32) (lim' : Int32) (unt' : Int32) (wb' : Int32) (mo' : Int32) (mr' : Nat → Int32) (md' : Int32) (dr' : Nat → Int32) (wr' : Nat → Int32) (wn' : Nat → Int32) (po' : Int32) (pr' : Nat → Int32), a' ≤ a + 250 ∧ c' ≤ 8 ∧ f_M_readPart_22 FU (nI n) plain (nI j) s0 (nI a) g parts iv lim unt wb mo mr md dr (nI c) wr wn po pr = some (nI a', 0, parts', iv', lim', unt', wb', mo', mr', md', dr', nI c', wr', wn', po', pr') := by
  have hn := hC.1
  unfold f_M_readPart_22
  rw [m_need, bd_ok, h, nm_eq]
  have hj : j = 0 ∨ j = 1 ∨ j = 2 ∨ j = 3 ∨ j = 4 ∨ j = 5 ∨ j = 6 ∨ j = 7 := by omega
  rcases hj with rfl | rfl | rfl | rfl | rfl | rfl | rfl | rfl
  · rw [if_pos (show nI 0 = 0 from rfl)]
    obtain ⟨x, a', h1, h2, h3⟩ := c_number (FU := FU) (a := a) (most := 99) hF hC (by omega) (by omega) (by omega)
    have hv : f_M_number FU 99 (nI n) plain (nI a) 0 = some (nI x, nI a', 0) := by
      rcases h3 with h3 | h3
      · exact h3.2.2.2.1 0 (Or.inl rfl)
      · exact h3.1 0 (Or.inl rfl)
    rw [hv, bd_ok]
    exact ⟨a', c, _, _, _, _, _, _, _, _, _, _, _, _, _, by omega, hc, rfl⟩
  · rw [if_neg (show ¬ nI 1 = 0 by decide), if_pos (show nI 1 = 1 from rfl)]
    obtain ⟨x, a', h1, h2, h3⟩ := c_number (FU := FU) (a := a) (most := 99) hF hC (by omega) (by omega) (by omega)
    have hv : f_M_number FU 99 (nI n) plain (nI a) 0 = some (nI x, nI a', 0) := by
      rcases h3 with h3 | h3
      · exact h3.2.2.2.1 0 (Or.inl rfl)
      · exact h3.1 0 (Or.inl rfl)
    rw [hv, bd_ok]
    exact ⟨a', c, _, _, _, _, _, _, _, _, _, _, _, _, _, by omega, hc, rfl⟩
  · rw [if_neg (show ¬ nI 2 = 0 by decide), if_neg (show ¬ nI 2 = 1 by decide), if_pos (show nI 2 = 2 from rfl)]
    obtain ⟨a', h1, h2, h3⟩ := m_time0 (FU := FU) (plain := plain) (a := a) hF hn (by omega)
    rw [h3, bd_ok]
    exact ⟨a', c, _, _, _, _, _, _, _, _, _, _, _, _, _, by omega, hc, rfl⟩
  · rw [if_neg (show ¬ nI 3 = 0 by decide), if_neg (show ¬ nI 3 = 1 by decide), if_neg (show ¬ nI 3 = 2 by decide), if_pos (show nI 3 = 3 from rfl)]
    have hv : ∃ v a', a' ≤ a + 2 ∧ f_M_readWeekday FU (nI n) plain (nI a) 0 = some (v, nI a', 0) := by
      rcases c_weekday (FU := FU) (a := a) hF hC (by omega) with ⟨w, h1, h2, h3, h4⟩ | ⟨h1, h2⟩
      · exact ⟨_, _, by omega, h3 0 (Or.inl rfl)⟩
      · exact ⟨_, _, by omega, h1 0 (Or.inl rfl)⟩
    obtain ⟨v, a', h1, h2⟩ := hv
    rw [h2, bd_ok]
    exact ⟨a', c, _, _, _, _, _, _, _, _, _, _, _, _, _, by omega, hc, rfl⟩
  · rw [if_neg (show ¬ nI 4 = 0 by decide), if_neg (show ¬ nI 4 = 1 by decide), if_neg (show ¬ nI 4 = 2 by decide), if_neg (show ¬ nI 4 = 3 by decide)]
    obtain ⟨a', v, h1, h2⟩ := m_list0_4 (FU := FU) (a := a) (row := row) (plain := plain) (mo := mo) (mr := mr) (md := md) (dr := dr) (wd := nI c) (wr := wr) (wn := wn) (po := po) (pr := pr) hF hC (by omega)
    have h2 : f_M_readList FU (nI 4) (nI n) plain (nI a) 0 mo mr md dr (nI c) wr wn po pr = _ := h2
    rw [h2, bd_ok]
    exact ⟨a', c, _, _, _, _, _, _, _, _, _, _, _, _, _, by omega, hc, rfl⟩
  · rw [if_neg (show ¬ nI 5 = 0 by decide), if_neg (show ¬ nI 5 = 1 by decide), if_neg (show ¬ nI 5 = 2 by decide), if_neg (show ¬ nI 5 = 3 by decide)]
    obtain ⟨a', v, h1, h2⟩ := m_list0_5 (FU := FU) (a := a) (row := row) (plain := plain) (mo := mo) (mr := mr) (md := md) (dr := dr) (wd := nI c) (wr := wr) (wn := wn) (po := po) (pr := pr) hF hC (by omega)
    have h2 : f_M_readList FU (nI 5) (nI n) plain (nI a) 0 mo mr md dr (nI c) wr wn po pr = _ := h2
    rw [h2, bd_ok]
    exact ⟨a', c, _, _, _, _, _, _, _, _, _, _, _, _, _, by omega, hc, rfl⟩
  · rw [if_neg (show ¬ nI 6 = 0 by decide), if_neg (show ¬ nI 6 = 1 by decide), if_neg (show ¬ nI 6 = 2 by decide), if_neg (show ¬ nI 6 = 3 by decide)]
    obtain ⟨a', v, w, h1, h2⟩ := m_list0_6 (FU := FU) (a := a) (row := row) (plain := plain) (mo := mo) (mr := mr) (md := md) (dr := dr) (wd := nI c) (wr := wr) (wn := wn) (po := po) (pr := pr) hF hC (by omega)
    have h2 : f_M_readList FU (nI 6) (nI n) plain (nI a) 0 mo mr md dr (nI c) wr wn po pr = _ := h2
    rw [h2, bd_ok]
    exact ⟨a', 1, _, _, _, _, _, _, _, _, _, _, _, _, _, by omega, by omega, rfl⟩
  · rw [if_neg (show ¬ nI 7 = 0 by decide), if_neg (show ¬ nI 7 = 1 by decide), if_neg (show ¬ nI 7 = 2 by decide), if_neg (show ¬ nI 7 = 3 by decide)]
    obtain ⟨a', v, h1, h2⟩ := m_list0_7 (FU := FU) (a := a) (row := row) (plain := plain) (mo := mo) (mr := mr) (md := md) (dr := dr) (wd := nI c) (wr := wr) (wn := wn) (po := po) (pr := pr) hF hC (by omega)
    have h2 : f_M_readList FU (nI 7) (nI n) plain (nI a) 0 mo mr md dr (nI c) wr wn po pr = _ := h2
    rw [h2, bd_ok]
    exact ⟨a', c, _, _, _, _, _, _, _, _, _, _, _, _, _, by omega, hc, rfl⟩
