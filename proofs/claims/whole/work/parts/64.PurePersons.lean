/-! pure: events, instances, instance -/
/-- an instance's bounds -/
def okMin (v : Int32) : Prop := -2000 ≤ v.toInt ∧ v.toInt ≤ 10522000
def RE (bs : Nat → Int32) (bz du : Int32) (q : Nat) (ln ct bg : Nat → Int32) : Prop := ∃ c d, c ≤ 40 ∧ bz = nI c ∧ ct q = nI c ∧ 1 ≤ d ∧ d ≤ 1440 ∧ du = nI d ∧ ln q = nI d ∧ ∀ j, j < c → bs j = bg (40 * q + j) ∧ okMin (bs j)
def RP (bs : Nat → Nat → Nat → Int32) (bz du : Nat → Nat → Int32) (pz bo ln ct bg : Nat → Int32) : Prop := ∀ p, p < 4 → ∃ n, n ≤ 4 ∧ pz p = nI n ∧ bo p = nI n ∧ ∀ e, e < n → RE (bs p e) (bz p e) (du p e) (4 * p + e) ln ct bg
theorem k_isPerson (FU : Nat) (x : Int32) : f_K_isPerson FU x = some (if x < 0 then 0 else if 4 ≤ x then 0 else 1) := by
  unfold f_K_isPerson
  split
  · rfl
  · split <;> rfl
theorem n_not4 {p : Nat} (hp : p < 4) : ¬ nI p < 0 ∧ ¬ 4 ≤ nI p := ⟨nI_pos (by omega), nI_ge (b := 4) (by omega) (by omega)⟩
theorem n_not3 {p : Nat} (hp : p < 4) : ¬ 3 < nI p := by rw [show (3 : Int32) = nI 3 from rfl, nI_ltI (by omega) (by omega)]; omega
theorem p_4 (z i : Nat) : (4 : Int32) * nI z + nI i = nI (4 * z + i) := by
  rw [show (4 : Int32) = nI 4 from rfl, pk_mul, nI_add]
theorem p_40 (z i : Nat) : (40 : Int32) * nI z + nI i = nI (40 * z + i) := by
  rw [show (40 : Int32) = nI 40 from rfl, pk_mul, nI_add]
theorem k_events {FU p : Nat} {pz : Nat → Int32} (hp : p < 4) : f_K_events FU (nI p) pz = some (pz p) := by
  unfold f_K_events f_Person_size
  rw [k_isPerson, bd_ok, if_neg (n_not4 hp).1, if_neg (n_not4 hp).2, if_neg (by decide)]
  simp only [bd_ok]
  exact sp4_at (fun p => some (pz p)) hp
theorem c_events {FU : Nat} {bs : Nat → Nat → Nat → Int32} {bz du : Nat → Nat → Int32} {pz bo ln ct bg : Nat → Int32} (h : RP bs bz du pz bo ln ct bg) (x th : Int32) : ∃ r, f_K_events FU x pz = some r ∧ f_M_events FU x th bo = some (r, 0) := by
  rcases n_cases4 x with h0 | h0 | ⟨p, hp, rfl⟩
  · unfold f_K_events f_M_events
    simp only [k_isPerson, m_within, bd_ok, if_pos h0, if_true]
    exact ⟨_, rfl, rfl⟩
  · unfold f_K_events f_M_events
    simp only [k_isPerson, m_within, bd_ok, le3_4, if_pos h0, ite_self, if_true]
    exact ⟨_, rfl, rfl⟩
  · obtain ⟨n, hn, e1, e2, -⟩ := h p hp
    rw [k_events hp, e1]
    refine ⟨nI n, rfl, ?_⟩
    unfold f_M_events
    rw [m_within, bd_ok, if_neg (n_not4 hp).1, if_neg (n_not3 hp), if_neg (by decide), ck_ok hp (by omega), nI_clamp (by omega), e2]
theorem k_has {FU n : Nat} (x : Int32) : f_Person_has FU x (nI n) = some (if x < 0 then 0 else if nI n ≤ x then 0 else 1) := by
  unfold f_Person_has
  split
  · rfl
  · split <;> rfl
theorem m_isEvent {FU p n : Nat} {bo : Nat → Int32} (hp : p < 4) (hb : bo p = nI n) (x : Int32) : f_M_isEvent FU (nI p) x bo = some (if x < 0 then 0 else if nI n ≤ x then 0 else 1) := by
  unfold f_M_isEvent
  rw [m_within, bd_ok, if_neg (n_not4 hp).1, if_neg (n_not3 hp), if_neg (by decide), ck_ok hp (by omega), nI_clamp (by omega), hb]
  split
  · rfl
  · split <;> rfl
theorem m_isEventN {FU : Nat} {bo : Nat → Int32} {y : Int32} (h0 : y < 0 ∨ 4 ≤ y) (x : Int32) : f_M_isEvent FU y x bo = some 0 := by
  unfold f_M_isEvent
  rw [m_within, bd_ok]
  simp only [le3_4]
  rcases h0 with h0 | h0
  · rw [if_pos h0, if_pos rfl]
  · rw [if_pos h0, ite_self, if_pos rfl]
theorem n_casesN (n : Nat) (hn : n < 2 ^ 31) (x : Int32) : x < 0 ∨ nI n ≤ x ∨ ∃ z, z < n ∧ x = nI z := pk_ix x hn
theorem c_instances {FU : Nat} {bs : Nat → Nat → Nat → Int32} {bz du : Nat → Nat → Int32} {pz bo ln ct bg : Nat → Int32} (h : RP bs bz du pz bo ln ct bg) (x y th : Int32) : ∃ r, f_K_instances FU x y bz pz = some r ∧ f_M_instances FU x y th bo ct = some (r, 0) := by
  unfold f_K_instances f_M_instances
  rcases n_cases4 x with h0 | h0 | ⟨p, hp, rfl⟩
  · rw [k_isPerson, bd_ok, if_pos h0, if_pos rfl, m_isEventN (Or.inl h0), bd_ok, if_pos rfl]
    exact ⟨_, rfl, rfl⟩
  · rw [k_isPerson, bd_ok, if_pos h0, ite_self, if_pos rfl, m_isEventN (Or.inr h0), bd_ok, if_pos rfl]
    exact ⟨_, rfl, rfl⟩
  · obtain ⟨n, hn, e1, e2, e3⟩ := h p hp
    rw [k_isPerson, bd_ok, if_neg (n_not4 hp).1, if_neg (n_not4 hp).2, if_neg (by decide), m_isEvent hp e2, bd_ok, sp4_at (fun p => bd (f_Person_instanceCount FU y (bz p) (pz p)) (fun z => some z)) hp]
    try dsimp only
    rw [e1]
    unfold f_Person_instanceCount
    rw [k_has, bd_ok]
    rcases n_casesN n (by omega) y with h1 | h1 | ⟨e, he, rfl⟩
    · rw [if_pos h1, if_pos rfl, if_pos rfl]
      exact ⟨_, rfl, rfl⟩
    · rw [if_pos h1, ite_self, if_pos rfl, if_pos rfl]
      exact ⟨_, rfl, rfl⟩
    · rw [if_neg (nI_pos (by omega)), if_neg (nI_ge he (by omega)), if_neg (by decide), if_neg (by decide), p_4, ck_ok (show 4 * p + e < 16 by omega) (by omega), nI_clamp (by omega)]
      obtain ⟨c, d, -, g1, g2, -⟩ := e3 e he
      unfold f_Event_size
      simp only [bd_ok]
      rw [sp4_at (fun e => some (bz p e)) (show e < 4 by omega)]
      try dsimp only
      rw [g1, g2]
      exact ⟨_, rfl, rfl⟩
theorem c_instance {FU : Nat} {bs : Nat → Nat → Nat → Int32} {bz du : Nat → Nat → Int32} {pz bo ln ct bg : Nat → Int32} (h : RP bs bz du pz bo ln ct bg) (x y i th : Int32) : ∃ r, f_K_instance FU x y i bs bz pz = some r ∧ f_M_instance FU x y i th bo ct bg = some (r, 0) := by
  unfold f_K_instance f_M_instance
  rcases n_cases4 x with h0 | h0 | ⟨p, hp, rfl⟩
  · rw [k_isPerson, bd_ok, if_pos h0, if_pos rfl, m_isEventN (Or.inl h0), bd_ok, if_pos rfl]
    exact ⟨_, rfl, rfl⟩
  · rw [k_isPerson, bd_ok, if_pos h0, ite_self, if_pos rfl, m_isEventN (Or.inr h0), bd_ok, if_pos rfl]
    exact ⟨_, rfl, rfl⟩
  · obtain ⟨n, hn, e1, e2, e3⟩ := h p hp
    rw [k_isPerson, bd_ok, if_neg (n_not4 hp).1, if_neg (n_not4 hp).2, if_neg (by decide), m_isEvent hp e2, bd_ok, sp4_at (fun p => bd (f_Person_instanceStart FU y i (bs p) (bz p) (pz p)) (fun z => some z)) hp]
    try dsimp only
    rw [e1]
    unfold f_Person_instanceStart
    rw [k_has, bd_ok]
    rcases n_casesN n (by omega) y with h1 | h1 | ⟨e, he, rfl⟩
    · rw [if_pos h1, if_pos rfl, if_pos rfl]
      exact ⟨_, rfl, rfl⟩
    · rw [if_pos h1, ite_self, if_pos rfl, if_pos rfl]
      exact ⟨_, rfl, rfl⟩
    · rw [if_neg (nI_pos (by omega)), if_neg (nI_ge he (by omega)), if_neg (by decide), if_neg (by decide), p_4, ck_ok (show 4 * p + e < 16 by omega) (by omega), nI_clamp (by omega)]
      obtain ⟨c, d, hc, g1, g2, -, -, -, -, g3⟩ := e3 e he
      rw [sp4_at (fun e => bd (f_Event_start FU i (bs p e) (bz p e)) (fun z => some z)) (show e < 4 by omega)]
      try dsimp only
      rw [g1, g2]
      unfold f_Event_start
      rcases n_casesN c (by omega) i with h1 | h1 | ⟨j, hj, rfl⟩
      · rw [if_pos h1, if_pos h1]
        exact ⟨_, rfl, rfl⟩
      · by_cases h2 : i < 0
        · rw [if_pos h2, if_pos h2]
          exact ⟨_, rfl, rfl⟩
        · rw [if_neg h2, if_neg h2, if_pos h1, if_pos h1]
          exact ⟨_, rfl, rfl⟩
      · rw [if_neg (nI_pos (by omega)), if_neg (nI_ge hj (by omega)), if_neg (nI_pos (by omega)), if_neg (nI_ge hj (by omega)), ck_ok (show j < 40 by omega) (by omega), p_40, ck_ok (show 40 * (4 * p + e) + j < 640 by omega) (by omega), nI_clamp (by omega), nI_clamp (by omega), (g3 j hj).1]
        exact ⟨_, rfl, rfl⟩
