/-! pure: numbers, weekdays -/
theorem dg_val {c : Int32} (h : dg c) : ∃ d, d < 10 ∧ c = nI (48 + d) := by
  obtain ⟨x, rfl, h0, h1⟩ := v_iI c
  obtain ⟨a, b⟩ := h
  rw [show (48 : Int32) = iI 48 from rfl, iI_lt h0 h1 (by omega) (by omega)] at a
  rw [show (57 : Int32) = iI 57 from rfl, iI_lt (by omega) (by omega) h0 h1] at b
  refine ⟨(x - 48).toNat, by omega, ?_⟩
  rw [nI_iI]
  congr 1
  omega
theorem num_loop {FU n most : Nat} {row plain : Nat → Int32} (hC : CH n row plain) (hm : most ≤ 1440) : ∀ (m a V : Nat), n - a < m → a ≤ 100000 → V ≤ 10 * most + 9 → ∃ V' a', a ≤ a' ∧ ((a' = a ∧ V' = V) ∨ (a < n ∧ a' ≤ n)) ∧ V' ≤ 10 * most + 9 ∧ (∀ g, f_M_number_20 FU (nI n) plain m (nI most) (nI V) (nI a) g = f_M_number_61 FU (nI n) plain (nI most) (nI V') (nI a') g) ∧ (a ≤ n → f_Reader_takeNumber_29 FU row (nI n) m (nI most) (nI V) (nI a) = f_Reader_takeNumber_104 FU row (nI n) (nI most) (nI V') (nI a')) := by
  obtain ⟨hn, hch⟩ := hC
  intro m
  induction m with
  | zero => intro a V h; omega
  | succ m ih =>
    intro a V hm1 ha hV
    have eM : ∀ g, f_M_number_20 FU (nI n) plain (m + 1) (nI most) (nI V) (nI a) g = f_M_number_20_hd FU (nI n) plain (f_M_number_20 FU (nI n) plain m) (nI most) (nI V) (nI a) g := fun _ => rfl
    have eK : f_Reader_takeNumber_29 FU row (nI n) (m + 1) (nI most) (nI V) (nI a) = f_Reader_takeNumber_29_hd FU row (nI n) (f_Reader_takeNumber_29 FU row (nI n) m) (nI most) (nI V) (nI a) := rfl
    by_cases hd : dg (pk plain n a)
    · have hd' := dg_pk.mp hd
      by_cases hv : most < V
      · refine ⟨V, a, Nat.le_refl _, Or.inl ⟨rfl, rfl⟩, hV, fun g => ?_, fun _ => ?_⟩
        · rw [eM]; unfold f_M_number_20_hd
          rw [m_peek hn (by omega), bd_ok, (m_isDigit _).1 hd, bd_ok, if_neg (show ¬ (1 : Int32) = 0 by decide), if_pos (nI_lt hv (by omega))]
        · rw [eK]; unfold f_Reader_takeNumber_29_hd
          rw [if_neg (nI_ge hd'.1 (by omega)), if_pos (nI_lt hv (by omega))]
      · obtain ⟨d, hd10, ed⟩ := dg_val hd'.2
        obtain ⟨V', a', h1, h2, h3, h4, h5⟩ := ih (a + 1) (10 * V + d) (by omega) (by omega) (by omega)
        have ev : 10 * nI V + plain a - 48 = nI (10 * V + d) := by
          rw [ed, show (10 : Int32) = nI 10 from rfl, show (48 : Int32) = nI 48 from rfl, pk_mul, nI_add, pk_sub (by omega)]
          congr 1
          omega
        refine ⟨V', a', by omega, Or.inr ⟨hd'.1, by omega⟩, h3, fun g => ?_, fun _ => ?_⟩
        · rw [eM, ← h4 g]; unfold f_M_number_20_hd
          rw [m_peek hn (by omega), bd_ok, (m_isDigit _).1 hd, bd_ok, if_neg (show ¬ (1 : Int32) = 0 by decide), if_neg (nI_nlt (by omega) (by omega)), bd_ok, nm_eq, nm_eq, nI_1, show pk plain n a = plain a from if_pos hd'.1, ev]
        · rw [eK, ← h5 (by omega)]; unfold f_Reader_takeNumber_29_hd
          rw [if_neg (nI_ge hd'.1 (by omega)), if_neg (nI_nlt (by omega) (by omega))]
          simp only [ck_ok (show a < 240 by omega) (by omega), nI_clamp (show a < 2 ^ 31 by omega), (hch a hd'.1).1]
          rw [if_neg hd'.2.1, if_neg hd'.2.2, nm_eq, nm_eq, nI_1, ev]
    · refine ⟨V, a, Nat.le_refl _, Or.inl ⟨rfl, rfl⟩, hV, fun g => ?_, fun han => ?_⟩
      · rw [eM]; unfold f_M_number_20_hd
        rw [m_peek hn (by omega), bd_ok, (m_isDigit _).2 hd, bd_ok, if_pos rfl]
      · rw [eK]; unfold f_Reader_takeNumber_29_hd
        by_cases h : a < n
        · rw [if_neg (nI_ge h (by omega))]
          by_cases hv : nI most < nI V
          · rw [if_pos hv]
          · rw [if_neg hv]
            simp only [ck_ok (show a < 240 by omega) (by omega), nI_clamp (show a < 2 ^ 31 by omega), (hch a h).1]
            by_cases c1 : plain a < 48
            · rw [if_pos c1]
            · rw [if_neg c1, if_pos (Classical.byContradiction fun w => hd (dg_pk.mpr ⟨h, c1, w⟩))]
        · rw [if_pos (nI_le (by omega) (by omega))]
theorem nd_g0 (c : Int32) : nd c 0 = 0 := if_pos rfl
theorem c_number {FU n a most : Nat} {row plain : Nat → Int32} (hF : 300 < FU) (hC : CH n row plain) (hm : 1 ≤ most) (hm2 : most ≤ 1440) (ha : a ≤ 100000) :
    ∃ V a', a ≤ a' ∧ a' ≤ a + 240 ∧ ((1 ≤ V ∧ V ≤ most ∧ a' ≤ n ∧ (∀ g, g = 0 ∨ g = 1 → f_M_number FU (nI most) (nI n) plain (nI a) g = some (nI V, nI a', g)) ∧ f_Reader_takeNumber FU (nI most) row (nI n) (nI a) = some (nI V, nI a')) ∨ ((∀ g, g = 0 ∨ g = 1 → f_M_number FU (nI most) (nI n) plain (nI a) g = some (nI V, nI a', 0)) ∧ (a ≤ n → ∃ a'', a'' ≤ n ∧ f_Reader_takeNumber FU (nI most) row (nI n) (nI a) = some (0, nI a'')))) := by
  have hn := hC.1
  have hch := hC.2
  obtain ⟨V, a', h1, h2, h3, h4, h5⟩ := num_loop (FU := FU) hC hm2 FU a 0 (by omega) ha (by omega)
  have eM : ∀ g s, f_M_number_17 FU (nI n) plain (nI most) 0 s (nI a) g = some (nI V, nI a', nd (if nI V < 1 then 0 else if nI most < nI V then 0 else 1) (nd s g)) := by
    intro g s
    unfold f_M_number_17
    rw [m_need, bd_ok]
    have := h4 (nd s g)
    rw [show (0 : Int32) = nI 0 from rfl, this]
    unfold f_M_number_61
    rw [m_within, bd_ok, m_need, bd_ok]
    rfl
  refine ⟨V, a', h1, by omega, ?_⟩
  by_cases z : pk plain n a = 48
  · right
    refine ⟨fun g hg => ?_, fun han => ?_⟩
    · unfold f_M_number
      rw [m_peek hn (by omega), bd_ok, if_pos z, eM, nd_00, nd_g0]
    · have hlt : a < n := by
        rcases Nat.lt_or_ge a n with q | q
        · exact q
        · unfold pk at z; rw [if_neg (by omega)] at z; exact absurd z (by decide)
      refine ⟨a, han, ?_⟩
      unfold f_Reader_takeNumber
      have e : plain a = 48 := by unfold pk at z; rw [if_pos hlt] at z; exact z
      rw [if_neg (nI_ge hlt (by omega)), ck_ok (show a < 240 by omega) (by omega), nI_clamp (show a < 2 ^ 31 by omega), (hch a hlt).1, if_pos e]
  · have eM2 : ∀ g, g = 0 ∨ g = 1 → f_M_number FU (nI most) (nI n) plain (nI a) g = some (nI V, nI a', nd (if nI V < 1 then 0 else if nI most < nI V then 0 else 1) g) := by
      intro g hg
      unfold f_M_number
      rw [m_peek hn (by omega), bd_ok, if_neg z, eM, nd_1 g hg]
    have eK : a ≤ n → f_Reader_takeNumber FU (nI most) row (nI n) (nI a) = f_Reader_takeNumber_104 FU row (nI n) (nI most) (nI V) (nI a') := by
      intro han
      unfold f_Reader_takeNumber
      rw [show (0 : Int32) = nI 0 from rfl, h5 han]
      by_cases hlt : a < n
      · rw [if_neg (nI_ge hlt (by omega)), ck_ok (show a < 240 by omega) (by omega), nI_clamp (show a < 2 ^ 31 by omega), (hch a hlt).1, if_neg]
        intro e
        exact z ((if_pos hlt).trans e)
      · rw [if_pos (nI_le (by omega) (by omega))]
    by_cases r : 1 ≤ V ∧ V ≤ most
    · left
      have hlt : a < n := by
        rcases h2 with h2 | h2
        · omega
        · exact h2.1
      refine ⟨r.1, r.2, by omega, fun g hg => ?_, ?_⟩
      · rw [eM2 g hg, if_neg (show ¬ nI V < 1 from nI_nlt (b := 1) r.1 (by omega)), if_neg (nI_nlt r.2 (by omega)), nd_1 g hg]
      · rw [eK (by omega)]
        unfold f_Reader_takeNumber_104
        rw [if_neg (nI_nlt r.2 (by omega))]
    · right
      refine ⟨fun g hg => ?_, fun han => ⟨a', by omega, ?_⟩⟩
      · rw [eM2 g hg]
        by_cases q : 1 ≤ V
        · rw [if_neg (show ¬ nI V < 1 from nI_nlt (b := 1) q (by omega)), if_pos (nI_lt (by omega) (by omega)), nd_00]
        · rw [if_pos (show nI V < 1 from nI_lt (b := 1) (by omega) (by omega)), nd_00]
      · rw [eK han]
        unfold f_Reader_takeNumber_104
        by_cases q : most < V
        · rw [if_pos (nI_lt q (by omega))]
        · rw [if_neg (nI_nlt (by omega) (by omega)), show V = 0 by omega]; rfl
theorem wd1 {plain : Nat → Int32} {n a : Nat} {x : Int32} : Wd plain n a [x] ↔ a < n ∧ plain a = x := by
  constructor
  · intro h
    exact ⟨by have := h.1; simp at this; omega, h.2 0 (by simp)⟩
  · intro h
    refine ⟨by simp; omega, fun j hj => ?_⟩
    have : j = 0 := by simpa using hj
    subst this
    exact h.2
theorem wd2 {plain : Nat → Int32} {n a : Nat} {x y : Int32} : Wd plain n a [x, y] ↔ a + 1 < n ∧ plain a = x ∧ plain (a + 1) = y := by
  constructor
  · intro h
    exact ⟨by have := h.1; simp at this; omega, h.2 0 (by simp), h.2 1 (by simp)⟩
  · intro h
    refine ⟨by simp; omega, fun j hj => ?_⟩
    have : j = 0 ∨ j = 1 := by simp at hj; omega
    rcases this with rfl | rfl
    · exact h.2.1
    · exact h.2.2
theorem gd_l {l1 l2 : List Int32} {j : Nat} (h : j < l1.length) : (l1 ++ l2).getD j 0 = l1.getD j 0 := by
  rw [List.getD_eq_getElem?_getD, List.getD_eq_getElem?_getD, List.getElem?_append_left h]
theorem gd_r {l1 l2 : List Int32} {j : Nat} (h : l1.length ≤ j) : (l1 ++ l2).getD j 0 = l2.getD (j - l1.length) 0 := by
  rw [List.getD_eq_getElem?_getD, List.getD_eq_getElem?_getD, List.getElem?_append_right h]
theorem wd_app {plain : Nat → Int32} {n a : Nat} {l1 l2 : List Int32} : Wd plain n a (l1 ++ l2) ↔ Wd plain n a l1 ∧ Wd plain n (a + l1.length) l2 := by
  unfold Wd
  rw [List.length_append]
  constructor
  · intro h
    refine ⟨⟨by omega, fun j hj => ?_⟩, by omega, fun j hj => ?_⟩
    · rw [h.2 j (by omega), gd_l hj]
    · have := h.2 (l1.length + j) (by omega)
      rw [gd_r (by omega), Nat.add_sub_cancel_left] at this
      rw [← this]
      congr 1
      omega
  · intro h
    refine ⟨by omega, fun j hj => ?_⟩
    by_cases q : j < l1.length
    · rw [h.1.2 j q, gd_l q]
    · rw [gd_r (by omega)]
      have := h.2.2 (j - l1.length) (by omega)
      rw [← this]
      congr 1
      omega
theorem m_wd {FU n a : Nat} {plain : Nat → Int32} (ls : List Int32) (k : Nat) (x : Int64) (L : Int32) (hF : 300 < FU) (hn : n ≤ 240) (ha : a ≤ 100000) (hl : ls.length ≤ 8) (hx : ∀ j, j < ls.length → mByte x (ls.length - 1 - j) = ls.getD j 0) (hk : ls.length = k) (hL : L = nI k) : (Wd plain n a ls → f_M_word FU x L (nI n) plain (nI a) = some (1, nI (a + k))) ∧ (¬ Wd plain n a ls → f_M_word FU x L (nI n) plain (nI a) = some (0, nI a)) := by
  subst hL hk
  exact m_word ls x hF hn ha hl hx
theorem k_wd {FU n a : Nat} {row plain : Nat → Int32} (w : Nat) (ls : List Int32) (k : Nat) (hF : 300 < FU) (hC : CH n row plain) (hw : w < 29) (ha : a ≤ n) (hl : sBy.getD w [] = ls) (hk : ls.length = k) : (Wd plain n a ls → f_Reader_takeWord FU w row (nI n) (nI a) = some (1, nI (a + k))) ∧ (¬ Wd plain n a ls → f_Reader_takeWord FU w row (nI n) (nI a) = some (0, nI a)) := by
  have h := k_takeWord (FU := FU) (w := w) hF hC hw ha
  have e : sLen w = k := by
    rw [← hk, ← hl]
    rfl
  rw [e, hl] at h
  exact h
theorem wd_le {plain : Nat → Int32} {n a : Nat} {ls : List Int32} (h : Wd plain n a ls) : a + ls.length ≤ n := h.1
theorem c_signed {FU n a most : Nat} {row plain : Nat → Int32} (hF : 300 < FU) (hC : CH n row plain) (hm : 1 ≤ most) (hm2 : most ≤ 1440) (ha : a ≤ 99000) :
    ∃ (x : Int) (a' : Nat), a ≤ a' ∧ a' ≤ a + 241 ∧ ((x ≠ 0 ∧ -(most : Int) ≤ x ∧ x ≤ most ∧ a' ≤ n ∧ (∀ g, g = 0 ∨ g = 1 → f_M_signed FU (nI most) (nI n) plain (nI a) g = some (iI x, nI a', g)) ∧ f_Reader_takeSignedNumber FU (nI most) row (nI n) (nI a) = some (iI x, nI a')) ∨ ((∀ g, g = 0 ∨ g = 1 → f_M_signed FU (nI most) (nI n) plain (nI a) g = some (iI x, nI a', 0)) ∧ (a ≤ n → ∃ a'', a'' ≤ n ∧ f_Reader_takeSignedNumber FU (nI most) row (nI n) (nI a) = some (0, nI a'')))) := by
  have hn := hC.1
  have hw := m_wd (FU := FU) (n := n) (a := a) (plain := plain) [45] 1 45 1 hF hn (by omega) (by decide) (by decide +kernel) rfl rfl
  by_cases q : Wd plain n a [45]
  · have han := (wd1.mp q).1
    obtain ⟨V, a', h1, h2, h3⟩ := c_number (FU := FU) (a := a + 1) hF hC hm hm2 (by omega)
    have ek := (k_take (FU := FU) hC (show a ≤ n by omega) 45).1 q
    refine ⟨-(V : Int), a', by omega, by omega, ?_⟩
    rcases h3 with ⟨b1, b2, b3, b4, b5⟩ | ⟨b1, b2⟩
    · left
      refine ⟨by omega, by omega, by omega, b3, fun g hg => ?_, ?_⟩
      · unfold f_M_signed
        rw [hw.1 q, bd_ok, b4 g hg, bd_ok, if_neg (show ¬ (1 : Int32) = 0 by decide), nI_iI V, iI_neg]
      · unfold f_Reader_takeSignedNumber
        rw [ek, bd_ok, if_neg (show ¬ (1 : Int32) = 0 by decide), b5, bd_ok, nI_iI V, iI_neg]
    · right
      refine ⟨fun g hg => ?_, fun _ => ?_⟩
      · unfold f_M_signed
        rw [hw.1 q, bd_ok, b1 g hg, bd_ok, if_neg (show ¬ (1 : Int32) = 0 by decide), nI_iI V, iI_neg]
      · obtain ⟨a'', c1, c2⟩ := b2 (by omega)
        refine ⟨a'', c1, ?_⟩
        unfold f_Reader_takeSignedNumber
        rw [ek, bd_ok, if_neg (show ¬ (1 : Int32) = 0 by decide), c2, bd_ok, show -(0 : Int32) = 0 by decide]
  · obtain ⟨V, a', h1, h2, h3⟩ := c_number (FU := FU) (a := a) hF hC hm hm2 (by omega)
    refine ⟨(V : Int), a', by omega, by omega, ?_⟩
    rcases h3 with ⟨b1, b2, b3, b4, b5⟩ | ⟨b1, b2⟩
    · left
      have ek := (k_take (FU := FU) hC (show a ≤ n by omega) 45).2 q
      refine ⟨by omega, by omega, by omega, b3, fun g hg => ?_, ?_⟩
      · unfold f_M_signed
        rw [hw.2 q, bd_ok, b4 g hg, bd_ok, if_pos rfl, nI_iI V]
      · unfold f_Reader_takeSignedNumber
        rw [ek, bd_ok, if_pos rfl, b5, bd_ok, nI_iI V]
    · right
      refine ⟨fun g hg => ?_, fun han => ?_⟩
      · unfold f_M_signed
        rw [hw.2 q, bd_ok, b1 g hg, bd_ok, if_pos rfl, nI_iI V]
      · obtain ⟨a'', c1, c2⟩ := b2 han
        have ek := (k_take (FU := FU) hC han 45).2 q
        refine ⟨a'', c1, ?_⟩
        unfold f_Reader_takeSignedNumber
        rw [ek, bd_ok, if_pos rfl, c2, bd_ok]
theorem k_signed_none {FU n a most : Nat} {row plain : Nat → Int32} (hF : 300 < FU) (hC : CH n row plain) (hm : 1 ≤ most) (hm2 : most ≤ 1440) (ha : a ≤ n) (h1 : ¬ pk plain n a = 45) (h2 : ¬ dg (pk plain n a)) : f_Reader_takeSignedNumber FU (nI most) row (nI n) (nI a) = some (0, nI a) := by
  have hn := hC.1
  have hch := hC.2
  have q : ¬ Wd plain n a [45] := fun w => by
    have := wd1.mp w
    exact h1 ((if_pos this.1).trans this.2)
  unfold f_Reader_takeSignedNumber
  rw [(k_take (FU := FU) hC ha 45).2 q, bd_ok, if_pos rfl]
  have e : f_Reader_takeNumber FU (nI most) row (nI n) (nI a) = some (0, nI a) := by
    obtain ⟨m, rfl⟩ : ∃ m, FU = m + 1 := ⟨FU - 1, by omega⟩
    have eh : f_Reader_takeNumber_29 (m + 1) row (nI n) (m + 1) (nI most) 0 (nI a) = some (0, nI a) := by
      show f_Reader_takeNumber_29_hd (m + 1) row (nI n) (f_Reader_takeNumber_29 (m + 1) row (nI n) m) (nI most) (nI 0) (nI a) = _
      have e104 : f_Reader_takeNumber_104 (m + 1) row (nI n) (nI most) (nI 0) (nI a) = some (0, nI a) := by
        unfold f_Reader_takeNumber_104
        rw [if_neg (nI_nlt (by omega) (by omega))]; rfl
      unfold f_Reader_takeNumber_29_hd
      by_cases h : a < n
      · rw [if_neg (nI_ge h (by omega)), if_neg (nI_nlt (by omega) (by omega))]
        simp only [ck_ok (show a < 240 by omega) (by omega), nI_clamp (show a < 2 ^ 31 by omega), (hch a h).1]
        by_cases c1 : plain a < 48
        · rw [if_pos c1]; exact e104
        · rw [if_neg c1, if_pos (Classical.byContradiction fun w => h2 (dg_pk.mpr ⟨h, c1, w⟩))]; exact e104
      · rw [if_pos (nI_le (by omega) (by omega))]; exact e104
    unfold f_Reader_takeNumber
    rw [eh]
    by_cases h : a < n
    · rw [if_neg (nI_ge h (by omega)), ck_ok (show a < 240 by omega) (by omega), nI_clamp (show a < 2 ^ 31 by omega), (hch a h).1, ite_self]
    · rw [if_pos (nI_le (by omega) (by omega))]
  rw [e, bd_ok]
theorem k_isAtNumber {FU n a : Nat} {row plain : Nat → Int32} (hC : CH n row plain) (ha : a ≤ n) : (pk plain n a = 45 ∨ dg (pk plain n a) → f_Reader_isAtNumber FU row (nI n) (nI a) = some 1) ∧ (¬ (pk plain n a = 45 ∨ dg (pk plain n a)) → f_Reader_isAtNumber FU row (nI n) (nI a) = some 0) := by
  have hn := hC.1
  have hch := hC.2
  unfold f_Reader_isAtNumber
  by_cases h : a < n
  · rw [if_neg (nI_ge h (by omega))]
    simp only [ck_ok (show a < 240 by omega) (by omega), nI_clamp (show a < 2 ^ 31 by omega), (hch a h).1, show pk plain n a = plain a from if_pos h]
    by_cases c0 : plain a = 45
    · rw [if_pos c0]
      exact ⟨fun _ => rfl, fun w => absurd (Or.inl c0) w⟩
    · rw [if_neg c0]
      by_cases c1 : plain a < 48
      · rw [if_pos c1]
        exact ⟨fun w => w.elim (fun w => absurd w c0) (fun w => absurd c1 w.1), fun _ => rfl⟩
      · rw [if_neg c1]
        by_cases c2 : 57 < plain a
        · rw [if_pos c2]
          exact ⟨fun w => w.elim (fun w => absurd w c0) (fun w => absurd c2 w.2), fun _ => rfl⟩
        · rw [if_neg c2]
          exact ⟨fun _ => rfl, fun w => absurd (Or.inr ⟨c1, c2⟩) w⟩
  · rw [if_pos (nI_le (by omega) (by omega)), show pk plain n a = 0 from if_neg h]
    exact ⟨fun w => w.elim (fun w => absurd w (by decide)) (fun w => absurd (show (0 : Int32) < 48 by decide) w.1), fun _ => rfl⟩
/-- the weekdays' letters -/
def wdw (i : Nat) : List Int32 := [(sBy.getD 16 []).getD (2 * i) 0, (sBy.getD 16 []).getD (2 * i + 1) 0]
theorem s_wdc (FU : Nat) : ∀ i, i < 7 → f_String_charAt FU 16 (2 * nI i) = some ((sBy.getD 16 []).getD (2 * i) 0) ∧ f_String_charAt FU 16 (2 * nI i + 1) = some ((sBy.getD 16 []).getD (2 * i + 1) 0) := by
  show ∀ i, i < 7 → f_String_charAt 0 16 (2 * nI i) = some ((sBy.getD 16 []).getD (2 * i) 0) ∧ f_String_charAt 0 16 (2 * nI i + 1) = some ((sBy.getD 16 []).getD (2 * i + 1) 0)
  decide +kernel
theorem k_wdl {FU n a : Nat} {row plain : Nat → Int32} (hC : CH n row plain) (ha : a + 1 < n) (m i : Nat) (hi : i < 7) : (Wd plain n a (wdw i) → f_Reader_takeWeekday_2 FU row (nI n) (m + 1) (nI i) (nI a) = some (nI i, nI (a + 2))) ∧ (¬ Wd plain n a (wdw i) → f_Reader_takeWeekday_2 FU row (nI n) (m + 1) (nI i) (nI a) = f_Reader_takeWeekday_2 FU row (nI n) m (nI (i + 1)) (nI a)) := by
  have hn := hC.1
  have hch := hC.2
  have e0 : f_Reader_takeWeekday_2 FU row (nI n) (m + 1) (nI i) (nI a) = f_Reader_takeWeekday_2_hd FU row (nI n) (f_Reader_takeWeekday_2 FU row (nI n) m) (nI i) (nI a) := rfl
  rw [e0]
  unfold f_Reader_takeWeekday_2_hd
  rw [if_neg (show ¬ 7 ≤ nI i from nI_ge (b := 7) hi (by omega)), nI_1, if_neg (nI_ge ha (by omega)), ck_ok (show a < 240 by omega) (by omega), ck_ok (show a + 1 < 240 by omega) (by omega), (s_wdc FU i hi).1, (s_wdc FU i hi).2, bd_ok, bd_ok, nI_clamp (show a < 2 ^ 31 by omega), nI_clamp (show a + 1 < 2 ^ 31 by omega), (hch a (by omega)).1, (hch (a + 1) ha).1, nm_eq, show (2 : Int32) = nI 2 from rfl, nI_add, nI_1]
  by_cases c1 : plain a = (sBy.getD 16 []).getD (2 * i) 0
  · rw [if_pos c1]
    by_cases c2 : plain (a + 1) = (sBy.getD 16 []).getD (2 * i + 1) 0
    · rw [if_pos c2]
      exact ⟨fun _ => rfl, fun w => absurd (wd2.mpr ⟨ha, c1, c2⟩) w⟩
    · rw [if_neg c2]
      exact ⟨fun w => absurd (wd2.mp w).2.2 c2, fun _ => rfl⟩
  · rw [if_neg c1]
    exact ⟨fun w => absurd (wd2.mp w).2.1 c1, fun _ => rfl⟩
theorem m_107 {FU n : Nat} {plain : Nat → Int32} (i : Nat) (hi : i < 7) (b g : Int32) (hg : g = 0 ∨ g = 1) : f_M_readWeekday_107 FU (nI n) plain (nI i) b g = some (nI i, b, g) := by
  unfold f_M_readWeekday_107
  rw [if_neg (nI_pos (by omega))]
  unfold f_M_readWeekday_118
  rw [m_need, bd_ok, nd_1 g hg]
theorem c_weekday {FU n a : Nat} {row plain : Nat → Int32} (hF : 300 < FU) (hC : CH n row plain) (ha : a ≤ 100000) :
    (∃ w, w < 7 ∧ a + 2 ≤ n ∧ (∀ g, g = 0 ∨ g = 1 → f_M_readWeekday FU (nI n) plain (nI a) g = some (nI w, nI (a + 2), g)) ∧ f_Reader_takeWeekday FU row (nI n) (nI a) = some (nI w, nI (a + 2))) ∨ ((∀ g, g = 0 ∨ g = 1 → f_M_readWeekday FU (nI n) plain (nI a) g = some (-1, nI a, 0)) ∧ (a ≤ n → f_Reader_takeWeekday FU row (nI n) (nI a) = some (-1, nI a))) := by
  have hn := hC.1
  have w0 := m_wd (FU := FU) (n := n) (a := a) (plain := plain) (wdw 0) 2 19791 2 hF hn ha (by decide) (by decide +kernel) rfl rfl
  have w1 := m_wd (FU := FU) (n := n) (a := a) (plain := plain) (wdw 1) 2 21589 2 hF hn ha (by decide) (by decide +kernel) rfl rfl
  have w2 := m_wd (FU := FU) (n := n) (a := a) (plain := plain) (wdw 2) 2 22341 2 hF hn ha (by decide) (by decide +kernel) rfl rfl
  have w3 := m_wd (FU := FU) (n := n) (a := a) (plain := plain) (wdw 3) 2 21576 2 hF hn ha (by decide) (by decide +kernel) rfl rfl
  have w4 := m_wd (FU := FU) (n := n) (a := a) (plain := plain) (wdw 4) 2 18002 2 hF hn ha (by decide) (by decide +kernel) rfl rfl
  have w5 := m_wd (FU := FU) (n := n) (a := a) (plain := plain) (wdw 5) 2 21313 2 hF hn ha (by decide) (by decide +kernel) rfl rfl
  have w6 := m_wd (FU := FU) (n := n) (a := a) (plain := plain) (wdw 6) 2 21333 2 hF hn ha (by decide) (by decide +kernel) rfl rfl
  obtain ⟨m, eF⟩ : ∃ m, FU = m + 8 := ⟨FU - 8, by omega⟩
  have K : a + 1 < n → ∀ r i, i < 7 → (Wd plain n a (wdw i) → f_Reader_takeWeekday_2 FU row (nI n) (r + 1) (nI i) (nI a) = some (nI i, nI (a + 2))) ∧ (¬ Wd plain n a (wdw i) → f_Reader_takeWeekday_2 FU row (nI n) (r + 1) (nI i) (nI a) = f_Reader_takeWeekday_2 FU row (nI n) r (nI (i + 1)) (nI a)) := fun h r i hi => k_wdl hC h r i hi
  have st : f_Reader_takeWeekday FU row (nI n) (nI a) = f_Reader_takeWeekday_2 FU row (nI n) (m + 7 + 1) (nI 0) (nI a) := by
    unfold f_Reader_takeWeekday
    rw [show (0 : Int32) = nI 0 from rfl, show m + 7 + 1 = FU by omega]
  have lt : ∀ i, Wd plain n a (wdw i) → a + 1 < n := fun i h => (wd2.mp h).1
  rw [st]
  have f10 : ¬ (1 : Int32) = 0 := by decide
  by_cases q0 : Wd plain n a (wdw 0)
  · refine Or.inl ⟨0, by omega, lt 0 q0, fun g hg => ?_, (K (lt 0 q0) _ 0 (by omega)).1 q0⟩
    unfold f_M_readWeekday
    rw [w0.1 q0, bd_ok, if_neg f10]; exact m_107 0 (by omega) _ g hg
  by_cases q1 : Wd plain n a (wdw 1)
  · have k := K (lt 1 q1)
    refine Or.inl ⟨1, by omega, lt 1 q1, fun g hg => ?_, by rw [(k _ 0 (by omega)).2 q0]; exact (k _ 1 (by omega)).1 q1⟩
    unfold f_M_readWeekday
    rw [w0.2 q0, bd_ok, if_pos rfl, w1.1 q1, bd_ok, if_neg f10]; exact m_107 1 (by omega) _ g hg
  by_cases q2 : Wd plain n a (wdw 2)
  · have k := K (lt 2 q2)
    refine Or.inl ⟨2, by omega, lt 2 q2, fun g hg => ?_, by rw [(k _ 0 (by omega)).2 q0, (k _ 1 (by omega)).2 q1]; exact (k _ 2 (by omega)).1 q2⟩
    unfold f_M_readWeekday
    rw [w0.2 q0, bd_ok, if_pos rfl, w1.2 q1, bd_ok, if_pos rfl, w2.1 q2, bd_ok, if_neg f10]; exact m_107 2 (by omega) _ g hg
  by_cases q3 : Wd plain n a (wdw 3)
  · have k := K (lt 3 q3)
    refine Or.inl ⟨3, by omega, lt 3 q3, fun g hg => ?_, by rw [(k _ 0 (by omega)).2 q0, (k _ 1 (by omega)).2 q1, (k _ 2 (by omega)).2 q2]; exact (k _ 3 (by omega)).1 q3⟩
    unfold f_M_readWeekday
    rw [w0.2 q0, bd_ok, if_pos rfl, w1.2 q1, bd_ok, if_pos rfl, w2.2 q2, bd_ok, if_pos rfl, w3.1 q3, bd_ok, if_neg f10]; exact m_107 3 (by omega) _ g hg
  by_cases q4 : Wd plain n a (wdw 4)
  · have k := K (lt 4 q4)
    refine Or.inl ⟨4, by omega, lt 4 q4, fun g hg => ?_, by rw [(k _ 0 (by omega)).2 q0, (k _ 1 (by omega)).2 q1, (k _ 2 (by omega)).2 q2, (k _ 3 (by omega)).2 q3]; exact (k _ 4 (by omega)).1 q4⟩
    unfold f_M_readWeekday
    rw [w0.2 q0, bd_ok, if_pos rfl, w1.2 q1, bd_ok, if_pos rfl, w2.2 q2, bd_ok, if_pos rfl, w3.2 q3, bd_ok, if_pos rfl, w4.1 q4, bd_ok, if_neg f10]; exact m_107 4 (by omega) _ g hg
  by_cases q5 : Wd plain n a (wdw 5)
  · have k := K (lt 5 q5)
    refine Or.inl ⟨5, by omega, lt 5 q5, fun g hg => ?_, by rw [(k _ 0 (by omega)).2 q0, (k _ 1 (by omega)).2 q1, (k _ 2 (by omega)).2 q2, (k _ 3 (by omega)).2 q3, (k _ 4 (by omega)).2 q4]; exact (k _ 5 (by omega)).1 q5⟩
    unfold f_M_readWeekday
    rw [w0.2 q0, bd_ok, if_pos rfl, w1.2 q1, bd_ok, if_pos rfl, w2.2 q2, bd_ok, if_pos rfl, w3.2 q3, bd_ok, if_pos rfl, w4.2 q4, bd_ok, if_pos rfl, w5.1 q5, bd_ok, if_neg f10]; exact m_107 5 (by omega) _ g hg
  by_cases q6 : Wd plain n a (wdw 6)
  · have k := K (lt 6 q6)
    refine Or.inl ⟨6, by omega, lt 6 q6, fun g hg => ?_, by rw [(k _ 0 (by omega)).2 q0, (k _ 1 (by omega)).2 q1, (k _ 2 (by omega)).2 q2, (k _ 3 (by omega)).2 q3, (k _ 4 (by omega)).2 q4, (k _ 5 (by omega)).2 q5]; exact (k _ 6 (by omega)).1 q6⟩
    unfold f_M_readWeekday
    rw [w0.2 q0, bd_ok, if_pos rfl, w1.2 q1, bd_ok, if_pos rfl, w2.2 q2, bd_ok, if_pos rfl, w3.2 q3, bd_ok, if_pos rfl, w4.2 q4, bd_ok, if_pos rfl, w5.2 q5, bd_ok, if_pos rfl, w6.1 q6, bd_ok, if_neg f10]; exact m_107 6 (by omega) _ g hg
  · refine Or.inr ⟨fun g hg => ?_, fun han => ?_⟩
    · unfold f_M_readWeekday
      rw [w0.2 q0, bd_ok, if_pos rfl, w1.2 q1, bd_ok, if_pos rfl, w2.2 q2, bd_ok, if_pos rfl, w3.2 q3, bd_ok, if_pos rfl, w4.2 q4, bd_ok, if_pos rfl, w5.2 q5, bd_ok, if_pos rfl, w6.2 q6, bd_ok, if_pos rfl]
      unfold f_M_readWeekday_107 f_M_readWeekday_118
      rw [if_pos (by decide), m_need, bd_ok, nd_00]
    · by_cases h : a + 1 < n
      · have k := K h
        rw [(k _ 0 (by omega)).2 q0, (k _ 1 (by omega)).2 q1, (k _ 2 (by omega)).2 q2, (k _ 3 (by omega)).2 q3, (k _ 4 (by omega)).2 q4, (k _ 5 (by omega)).2 q5, (k _ 6 (by omega)).2 q6]
        show f_Reader_takeWeekday_2_hd FU row (nI n) (f_Reader_takeWeekday_2 FU row (nI n) m) (nI 7) (nI a) = _
        unfold f_Reader_takeWeekday_2_hd
        rw [if_pos (show 7 ≤ nI 7 from nI_le (a := 7) (by omega) (by omega))]
      · show f_Reader_takeWeekday_2_hd FU row (nI n) (f_Reader_takeWeekday_2 FU row (nI n) (m + 7)) (nI 0) (nI a) = _
        unfold f_Reader_takeWeekday_2_hd
        rw [if_neg (show ¬ 7 ≤ nI 0 from nI_ge (b := 7) (by omega) (by omega)), nI_1, if_pos (nI_le (by omega) (by omega))]
