/-! pure: the lists of a rule, their loops -/
theorem m94 {FU n a i : Nat} {row plain : Nat → Int32} {mo : Int32} {mr : Nat → Int32} {md : Int32} {dr : Nat → Int32} {wd : Int32} {wr : Nat → Int32} {wn : Nat → Int32} {po : Int32} {pr : Nat → Int32} {rc : (Int32 → Int32 → Int32 → Int32 → Int32 → Int32 → (Nat → Int32) → Int32 → (Nat → Int32) → Int32 → (Nat → Int32) → (Nat → Int32) → Int32 → (Nat → Int32) → Option (Int32 × Int32 × Int32 × (Nat → Int32) × Int32 × (Nat → Int32) × Int32 × (Nat → Int32) × (Nat → Int32) × Int32 × (Nat → Int32)))} (hF : 300 < FU) (hC : CH n row plain) (hi : i < 8) (ha : a ≤ 100000) (x g : Int32) (hg : g = 0 ∨ g = 1) : (∃ w, w < 7 ∧ a + 2 ≤ n ∧ f_M_readList_94 FU (nI n) plain rc 6 (nI i) x (nI i) (nI a) g mo mr md dr wd wr wn po pr = f_M_readList_120 FU (nI n) plain rc 6 (nI i) (nI (a + 2)) g mo mr md dr wd (upd wr i (nI w)) (upd wn i x) po pr ∧ f_Reader_takeWeekday FU row (nI n) (nI a) = some (nI w, nI (a + 2))) ∨ (f_M_readList_94 FU (nI n) plain rc 6 (nI i) x (nI i) (nI a) g mo mr md dr wd wr wn po pr = f_M_readList_120 FU (nI n) plain rc 6 (nI i) (nI a) 0 mo mr md dr wd (upd wr i (-1)) (upd wn i x) po pr ∧ (a ≤ n → f_Reader_takeWeekday FU row (nI n) (nI a) = some (-1, nI a))) := by
  rcases c_weekday (FU := FU) hF hC ha with ⟨w, h1, h2, h3, h4⟩ | ⟨h1, h2⟩
  · refine Or.inl ⟨w, h1, h2, ?_, h4⟩
    unfold f_M_readList_94
    rw [ck_ok hi (by omega), h3 g hg, bd_ok, ck_ok hi (by omega), nI_clamp (show i < 2 ^ 31 by omega)]
  · refine Or.inr ⟨?_, h2⟩
    unfold f_M_readList_94
    rw [ck_ok hi (by omega), h1 g hg, bd_ok, ck_ok hi (by omega), nI_clamp (show i < 2 ^ 31 by omega)]
theorem rv_6 {FU n a i s : Nat} {row plain : Nat → Int32} {intv : Int32} {cnt : Int32} {untl : Int32} {wst : Int32} {km : Int32} {kd : Int32} {ke : Int32} {kw : Int32} {nW : Nat → Int32} {wN : Nat → Int32} {ps : Nat → Int32} {pS : Int32} {mo : Int32} {mr : Nat → Int32} {md : Int32} {dr : Nat → Int32} {wd : Int32} {wr : Nat → Int32} {wn : Nat → Int32} {po : Int32} {pr : Nat → Int32} {rc : (Int32 → Int32 → Int32 → Int32 → Int32 → Int32 → (Nat → Int32) → Int32 → (Nat → Int32) → Int32 → (Nat → Int32) → (Nat → Int32) → Int32 → (Nat → Int32) → Option (Int32 × Int32 × Int32 × (Nat → Int32) × Int32 × (Nat → Int32) × Int32 × (Nat → Int32) × (Nat → Int32) × Int32 × (Nat → Int32)))} (hF : 300 < FU) (hC : CH n row plain) (ha : a ≤ n) (hi : i < 8) (hs : s < 8) :
    (∃ w a' : Nat, w < 7 ∧ a' ≤ n ∧ f_M_readList_4_hd FU (nI n) plain rc 6 (nI i) 1 (nI a) 1 mo mr md dr wd wr wn po pr = f_M_readList_120 FU (nI n) plain rc 6 (nI i) (nI a') 1 mo mr md dr wd (upd wr i (nI w)) (upd wn i 0) po pr ∧ f_Rule_readValue FU 32 intv cnt untl wst km kd ke kw nW wN (nI s) ps pS row (nI n) (nI a) = some ((1 : Int32), intv, cnt, untl, wst, km, kd, ke, kw ||| ((1 : Int32) <<< (nI w &&& 31)), nW, wN, nI s, ps, pS, nI a')) ∨
    (∃ (x : Int) (w a' : Nat), x ≠ 0 ∧ -53 ≤ x ∧ x ≤ 53 ∧ w < 7 ∧ a' ≤ n ∧ f_M_readList_4_hd FU (nI n) plain rc 6 (nI i) 1 (nI a) 1 mo mr md dr wd wr wn po pr = f_M_readList_120 FU (nI n) plain rc 6 (nI i) (nI a') 1 mo mr md dr wd (upd wr i (nI w)) (upd wn i (iI x)) po pr ∧ f_Rule_readValue FU 32 intv cnt untl wst km kd ke kw nW wN (nI s) ps pS row (nI n) (nI a) = some ((1 : Int32), intv, cnt, untl, wst, km, kd, ke, kw, upd nW s (nI w), upd wN s (iI x), nI (s + 1), ps, pS, nI a')) ∨
    (∃ (w x : Int32) (a' b : Nat), a' ≤ a + 300 ∧ b ≤ n ∧ f_M_readList_4_hd FU (nI n) plain rc 6 (nI i) 1 (nI a) 1 mo mr md dr wd wr wn po pr = f_M_readList_120 FU (nI n) plain rc 6 (nI i) (nI a') 0 mo mr md dr wd (upd wr i w) (upd wn i x) po pr ∧ f_Rule_readValue FU 32 intv cnt untl wst km kd ke kw nW wN (nI s) ps pS row (nI n) (nI a) = some ((0 : Int32), intv, cnt, untl, wst, km, kd, ke, kw, nW, wN, nI s, ps, pS, nI b)) := by
  have hn := hC.1
  have g01 : (1 : Int32) = 0 ∨ (1 : Int32) = 1 := Or.inr rfl
  generalize hX : f_M_readList_4_hd FU (nI n) plain rc 6 (nI i) 1 (nI a) 1 mo mr md dr wd wr wn po pr = X
  generalize hY : f_Rule_readValue FU 32 intv cnt untl wst km kd ke kw nW wN (nI s) ps pS row (nI n) (nI a) = Y
  have eM := hX.symm
  unfold f_M_readList_4_hd at eM
  rw [if_neg (show ¬ (1 : Int32) = 0 by decide), if_neg (show ¬ 8 ≤ nI i from nI_ge (b := 8) hi (by omega)), if_neg (show ¬ (6 : Int32) = 4 by decide), if_neg (show ¬ (6 : Int32) = 5 by decide), if_pos rfl, m_peek hn (by omega), bd_ok, bd_ok] at eM
  have eK := hY.symm
  unfold f_Rule_readValue at eK
  rw [if_neg (show ¬ (32 : Int32) = 1 by decide), if_neg (show ¬ (32 : Int32) = 2 by decide), if_neg (show ¬ (32 : Int32) = 4 by decide), if_neg (show ¬ (32 : Int32) = 8 by decide), if_neg (show ¬ (32 : Int32) = 16 by decide), if_pos rfl] at eK
  have kn := k_isAtNumber (FU := FU) hC ha
  by_cases hnum : pk plain n a = 45 ∨ dg (pk plain n a)
  · rw [kn.1 hnum, bd_ok] at eK
    have eM2 : X = f_M_readList_84 FU (nI n) plain rc 6 (nI i) (nI i) (nI a) 1 mo mr md dr wd wr wn po pr := by
      rw [eM]
      by_cases q : pk plain n a = 45
      · rw [if_pos q]
      · rw [if_neg q, (m_isDigit _).1 (hnum.resolve_left q), bd_ok, if_neg (show ¬ (1 : Int32) = 0 by decide)]
    unfold f_M_readList_84 at eM2
    obtain ⟨x, a1, h1, h2, h3⟩ := c_signed (FU := FU) (a := a) (most := 53) hF hC (by omega) (by omega) (by omega)
    rcases h3 with ⟨v0, v1, v2, v3, v4, v5⟩ | ⟨v1, v2⟩
    · have hx0 : ¬ iI x = 0 := fun w => by
        rw [show (0 : Int32) = iI 0 from rfl, iI_eq (by omega) (by omega) (by omega) (by omega)] at w
        exact v0 w
      have v4 : f_M_signed FU 53 (nI n) plain (nI a) 1 = some (iI x, nI a1, 1) := v4 1 g01
      have v5 : f_Reader_takeSignedNumber FU 53 row (nI n) (nI a) = some (iI x, nI a1) := v5
      rw [v4, bd_ok] at eM2
      rw [v5, bd_ok] at eK
      rcases m94 (FU := FU) (row := row) (plain := plain) (i := i) (rc := rc) hF hC hi (show a1 ≤ 100000 by omega) (iI x) 1 g01 with ⟨w, w1, w2, w3, w4⟩ | ⟨w1, w2⟩
      · rw [w4, bd_ok] at eK
        unfold f_Rule_addWeekday f_Rule_addWeekday_14 at eK
        rw [if_neg (nI_pos (by omega)), if_neg (show ¬ (1 : Int32) = 0 by decide), if_neg hx0, if_neg (show ¬ (1 : Int32) = 0 by decide), if_neg (show ¬ 8 ≤ nI s from nI_ge (b := 8) hs (by omega)), ck_ok hs (by omega), ck_ok hs (by omega), nm_eq, nI_1, nI_clamp (show s < 2 ^ 31 by omega), bd_ok, ckz_1] at eK
        exact Or.inr (Or.inl ⟨x, w, a1 + 2, v0, by omega, by omega, w1, w2, eM2.trans w3, eK⟩)
      · rw [w2 v3, bd_ok] at eK
        unfold f_Rule_addWeekday at eK
        rw [if_pos (show (-1 : Int32) < 0 by decide), bd_ok, ckz_0] at eK
        exact Or.inr (Or.inr ⟨_, _, a1, a1, by omega, v3, eM2.trans w1, eK⟩)
    · obtain ⟨b, c1, c2⟩ := v2 ha
      have v1 : f_M_signed FU 53 (nI n) plain (nI a) 1 = some (iI x, nI a1, 0) := v1 1 g01
      have c2 : f_Reader_takeSignedNumber FU 53 row (nI n) (nI a) = some (0, nI b) := c2
      rw [v1, bd_ok] at eM2
      rw [c2, bd_ok] at eK
      have eK2 : ∃ b', b' ≤ n ∧ Y = some ((0 : Int32), intv, cnt, untl, wst, km, kd, ke, kw, nW, wN, nI s, ps, pS, nI b') := by
        rcases c_weekday (FU := FU) (a := b) hF hC (by omega) with ⟨w, h1, h2, h3, h4⟩ | ⟨h1, h2⟩
        · rw [h4, bd_ok] at eK
          unfold f_Rule_addWeekday at eK
          rw [if_neg (nI_pos (by omega)), if_neg (show ¬ (1 : Int32) = 0 by decide), if_pos rfl, bd_ok, ckz_0] at eK
          exact ⟨b + 2, h2, eK⟩
        · rw [h2 c1, bd_ok] at eK
          unfold f_Rule_addWeekday at eK
          rw [if_pos (show (-1 : Int32) < 0 by decide), bd_ok, ckz_0] at eK
          exact ⟨b, c1, eK⟩
      obtain ⟨b', d1, d2⟩ := eK2
      rcases m94 (FU := FU) (row := row) (plain := plain) (i := i) (rc := rc) hF hC hi (show a1 ≤ 100000 by omega) (iI x) 0 (Or.inl rfl) with ⟨w, w1, w2, w3, w4⟩ | ⟨w1, w2⟩
      · exact Or.inr (Or.inr ⟨_, _, a1 + 2, b', by omega, d1, eM2.trans w3, d2⟩)
      · exact Or.inr (Or.inr ⟨_, _, a1, b', by omega, d1, eM2.trans w1, d2⟩)
  · have q1 : ¬ pk plain n a = 45 := fun w => hnum (Or.inl w)
    have q2 : ¬ dg (pk plain n a) := fun w => hnum (Or.inr w)
    have ks : f_Reader_takeSignedNumber FU 53 row (nI n) (nI a) = some (0, nI a) := k_signed_none (most := 53) hF hC (by omega) (by omega) ha q1 q2
    rw [kn.2 hnum, bd_ok, ks, bd_ok] at eK
    rw [if_neg q1, (m_isDigit _).2 q2, bd_ok, if_pos rfl] at eM
    rcases m94 (FU := FU) (row := row) (plain := plain) (i := i) (rc := rc) hF hC hi (show a ≤ 100000 by omega) 0 1 g01 with ⟨w, w1, w2, w3, w4⟩ | ⟨w1, w2⟩
    · rw [w4, bd_ok] at eK
      unfold f_Rule_addWeekday f_Rule_addWeekday_14 at eK
      rw [if_neg (nI_pos (by omega)), if_pos rfl, if_pos rfl, nm_eq, bd_ok, ckz_1] at eK
      exact Or.inl ⟨w, a + 2, w1, w2, eM.trans w3, eK⟩
    · rw [w2 ha, bd_ok] at eK
      unfold f_Rule_addWeekday at eK
      rw [if_pos (show (-1 : Int32) < 0 by decide), bd_ok, ckz_0] at eK
      exact Or.inr (Or.inr ⟨_, _, a, a, by omega, ha, eM.trans w1, eK⟩)
