/-! pure: both readers over one text -/
/-- the class's row and the reference's, n characters -/
def CH (n : Nat) (row plain : Nat → Int32) : Prop := n ≤ 240 ∧ ∀ j, j < n → row j = plain j ∧ okCh (plain j)
def pk (plain : Nat → Int32) (n a : Nat) : Int32 := if a < n then plain a else 0
theorem m_peek {FU n a : Nat} {plain : Nat → Int32} (hn : n ≤ 240) (ha : a < 2 ^ 31) : f_M_peek FU (nI n) plain (nI a) = some (pk plain n a) := by
  unfold f_M_peek pk
  by_cases h : a < n
  · rw [if_neg (nI_ge h (by omega)), if_pos h, ck_ok (show a < 240 by omega) (by omega), nI_clamp ha]
  · rw [if_pos (nI_le (by omega) ha), if_neg h]
def nd (x g : Int32) : Int32 := if g = 0 then 0 else if x = 0 then 0 else 1
theorem m_need {FU : Nat} (x g : Int32) : f_M_need FU x g = some (nd x g) := by
  unfold f_M_need nd
  split
  · rfl
  · split <;> rfl
theorem nd_0 (x : Int32) : nd x 0 = 0 := if_pos rfl
theorem nd_1 (g : Int32) (h : g = 0 ∨ g = 1) : nd 1 g = g := by
  rcases h with rfl | rfl <;> rfl
theorem nd_00 (g : Int32) : nd 0 g = 0 := by
  unfold nd
  split
  · rfl
  · rw [if_pos rfl]
theorem nd_or (x g : Int32) : nd x g = 0 ∨ nd x g = 1 := by
  unfold nd
  split
  · exact Or.inl rfl
  · split
    · exact Or.inl rfl
    · exact Or.inr rfl
def dg (c : Int32) : Prop := ¬ c < 48 ∧ ¬ 57 < c
theorem m_isDigit {FU : Nat} (c : Int32) : (dg c → f_M_isDigit FU c = some 1) ∧ (¬ dg c → f_M_isDigit FU c = some 0) := by
  unfold f_M_isDigit dg
  constructor
  · intro h
    rw [if_neg h.1, if_neg h.2]
  · intro h
    by_cases q : c < 48
    · rw [if_pos q]
    · rw [if_neg q, if_pos (Classical.byContradiction (fun w => h ⟨q, w⟩))]
/-- the number of the digits from a on -/
def dv (plain : Nat → Int32) (n a : Nat) : Nat → Int32
  | 0 => 0
  | i + 1 => 10 * dv plain n a i + pk plain n (a + i) - 48
def allD (plain : Nat → Int32) (n a k : Nat) : Prop := ∀ i, i < k → a + i < n ∧ dg (plain (a + i))
theorem dg_pk {plain : Nat → Int32} {n a : Nat} : dg (pk plain n a) ↔ a < n ∧ dg (plain a) := by
  unfold pk
  by_cases h : a < n
  · rw [if_pos h]
    exact ⟨fun q => ⟨h, q⟩, fun q => q.2⟩
  · rw [if_neg h]
    exact ⟨fun q => absurd (show (0 : Int32) < 48 by decide) q.1, fun q => absurd q.1 h⟩
theorem m_digl {FU n a k : Nat} {plain : Nat → Int32} (hn : n ≤ 240) (hk : k ≤ 4) (ha : a ≤ 100000) : ∀ (m i : Nat) (g : Int32), i ≤ k → k - i < m → (g = 0 ∨ g = 1) →
    f_M_digits_4 FU (nI n) plain m (nI k) (dv plain n a i) (nI i) (nI (a + i)) g = some (dv plain n a k, nI (a + k), (@ite Int32 (g = 1 ∧ ∀ j, i ≤ j → j < k → a + j < n ∧ dg (plain (a + j))) (Classical.propDecidable _) 1 0)) := by
  intro m
  induction m with
  | zero => intro i g _ h; omega
  | succ m ih =>
    intro i g hi hm hg
    have e0 : f_M_digits_4 FU (nI n) plain (m + 1) (nI k) (dv plain n a i) (nI i) (nI (a + i)) g = f_M_digits_4_hd FU (nI n) plain (f_M_digits_4 FU (nI n) plain m) (nI k) (dv plain n a i) (nI i) (nI (a + i)) g := rfl
    rw [e0]
    unfold f_M_digits_4_hd
    by_cases hin : k ≤ i
    · rw [if_pos (nI_le hin (by omega))]
      have : i = k := by omega
      subst this
      rcases hg with rfl | rfl
      · rw [if_neg (fun q => absurd q.1 (by decide))]
      · rw [if_pos ⟨rfl, fun j h1 h2 => by omega⟩]
    · rw [if_neg (nI_ge (by omega) (by omega)), m_peek hn (by omega), bd_ok]
      by_cases hd : dg (pk plain n (a + i))
      · rw [(m_isDigit _).1 hd, bd_ok, m_need, bd_ok, bd_ok, nm_eq, nm_eq, nI_1, nI_1, nd_1 g hg]
        have := ih (i + 1) g (by omega) (by omega) hg
        rw [show a + (i + 1) = a + i + 1 by omega] at this
        rw [show 10 * dv plain n a i + pk plain n (a + i) - 48 = dv plain n a (i + 1) from rfl, this]
        refine congrArg some (congrArg (Prod.mk _) (congrArg (Prod.mk _) ?_))
        rcases hg with rfl | rfl
        · rw [if_neg (fun q => absurd q.1 (by decide)), if_neg (fun q => absurd q.1 (by decide))]
        · by_cases q : ∀ j, i + 1 ≤ j → j < k → a + j < n ∧ dg (plain (a + j))
          · rw [if_pos ⟨rfl, q⟩, if_pos ⟨rfl, fun j h1 h2 => by
              by_cases w : j = i
              · subst w; exact dg_pk.mp hd
              · exact q j (by omega) h2⟩]
          · rw [if_neg (fun w => q w.2), if_neg (fun w => q (fun j h1 h2 => w.2 j (by omega) h2))]
      · rw [(m_isDigit _).2 hd, bd_ok, m_need, bd_ok, bd_ok, nm_eq, nm_eq, nI_1, nI_1, nd_00]
        have := ih (i + 1) 0 (by omega) (by omega) (Or.inl rfl)
        rw [show a + (i + 1) = a + i + 1 by omega] at this
        rw [show 10 * dv plain n a i + pk plain n (a + i) - 48 = dv plain n a (i + 1) from rfl, this]
        refine congrArg some (congrArg (Prod.mk _) (congrArg (Prod.mk _) ?_))
        rw [if_neg (fun q => absurd q.1 (by decide)), if_neg (fun q => hd (dg_pk.mpr (q.2 i (Nat.le_refl _) (by omega))))]
/-- the reference's digits -/
theorem m_digits {FU n a k : Nat} {plain : Nat → Int32} (hF : 300 < FU) (hn : n ≤ 240) (hk : k ≤ 4) (ha : a ≤ 100000) (g : Int32) (hg : g = 0 ∨ g = 1) : ∃ g', f_M_digits FU (nI k) (nI n) plain (nI a) g = some (dv plain n a k, nI (a + k), g') ∧ ((g' = 1 ∧ g = 1 ∧ allD plain n a k) ∨ (g' = 0 ∧ ¬ (g = 1 ∧ allD plain n a k))) := by
  unfold f_M_digits
  have h := m_digl (FU := FU) (plain := plain) hn hk ha FU 0 g (by omega) (by omega) hg
  refine ⟨_, h, ?_⟩
  by_cases q : g = 1 ∧ ∀ j, 0 ≤ j → j < k → a + j < n ∧ dg (plain (a + j))
  · rw [if_pos q]
    exact Or.inl ⟨rfl, q.1, fun i hi => q.2 i (by omega) hi⟩
  · rw [if_neg q]
    exact Or.inr ⟨rfl, fun w => q ⟨w.1, fun j _ h2 => w.2 j h2⟩⟩
/-- the class's -/
theorem k_digl {FU n a k : Nat} {row plain : Nat → Int32} (hC : CH n row plain) (hk : k ≤ 4) (ha : a ≤ n) : ∀ (m i : Nat), i ≤ k → k - i < m → a + i ≤ n → allD plain n a i →
    (allD plain n a k → f_Reader_takeDigits_4 FU row (nI n) m (nI k) (dv plain n a i) (nI i) (nI (a + i)) = some (dv plain n a k, nI (a + k))) ∧ (¬ allD plain n a k → ∃ j, i ≤ j ∧ j ≤ k ∧ a + j ≤ n ∧ f_Reader_takeDigits_4 FU row (nI n) m (nI k) (dv plain n a i) (nI i) (nI (a + i)) = some (-1, nI (a + j))) := by
  obtain ⟨hn, hch⟩ := hC
  intro m
  induction m with
  | zero => intro i _ h; omega
  | succ m ih =>
    intro i hi hm hain hpre
    have e0 : f_Reader_takeDigits_4 FU row (nI n) (m + 1) (nI k) (dv plain n a i) (nI i) (nI (a + i)) = f_Reader_takeDigits_4_hd FU row (nI n) (f_Reader_takeDigits_4 FU row (nI n) m) (nI k) (dv plain n a i) (nI i) (nI (a + i)) := rfl
    rw [e0]
    unfold f_Reader_takeDigits_4_hd
    by_cases hin : k ≤ i
    · have : i = k := by omega
      subst this
      rw [if_pos (nI_le hin (by omega))]
      exact ⟨fun _ => rfl, fun q => absurd hpre q⟩
    · rw [if_neg (nI_ge (by omega) (by omega))]
      by_cases hend : n ≤ a + i
      · rw [if_pos (nI_le hend (by omega))]
        exact ⟨fun q => by have := (q i (by omega)).1; omega, fun _ => ⟨i, Nat.le_refl _, hi, hain, rfl⟩⟩
      · rw [if_neg (nI_ge (by omega) (by omega))]
        simp only [ck_ok (show a + i < 240 by omega) (by omega), nI_clamp (show a + i < 2 ^ 31 by omega), (hch (a + i) (by omega)).1, nm_eq, nI_1]
        by_cases c1 : plain (a + i) < 48
        · rw [if_pos c1]
          exact ⟨fun q => absurd c1 (q i (by omega)).2.1, fun _ => ⟨i, Nat.le_refl _, hi, hain, rfl⟩⟩
        · rw [if_neg c1]
          by_cases c2 : plain (a + i) ≤ 57
          · rw [if_pos c2]
            have ep : pk plain n (a + i) = plain (a + i) := if_pos (by omega)
            have h := ih (i + 1) (by omega) (by omega) (by omega) (fun j hj => by
              by_cases w : j = i
              · subst w; exact ⟨by omega, c1, Int32.not_lt.mpr c2⟩
              · exact hpre j (by omega))
            rw [show dv plain n a (i + 1) = 10 * dv plain n a i + plain (a + i) - 48 by rw [← ep]; rfl, show a + (i + 1) = a + i + 1 by omega] at h
            exact ⟨h.1, fun q => by
              obtain ⟨j, j1, j2, j3, j4⟩ := h.2 q
              exact ⟨j, by omega, j2, j3, j4⟩⟩
          · rw [if_neg c2]
            exact ⟨fun q => absurd (Int32.not_lt.mp (q i (by omega)).2.2) c2, fun _ => ⟨i, Nat.le_refl _, hi, hain, rfl⟩⟩
theorem k_takeDigits {FU n a k : Nat} {row plain : Nat → Int32} (hF : 300 < FU) (hC : CH n row plain) (hk : k ≤ 4) (ha : a ≤ n) : (allD plain n a k → f_Reader_takeDigits FU (nI k) row (nI n) (nI a) = some (dv plain n a k, nI (a + k))) ∧ (¬ allD plain n a k → ∃ a', a ≤ a' ∧ a' ≤ a + k ∧ a' ≤ n ∧ f_Reader_takeDigits FU (nI k) row (nI n) (nI a) = some (-1, nI a')) := by
  have h := k_digl (FU := FU) hC hk ha FU 0 (by omega) (by omega) (by omega) (fun j hj => by omega)
  refine ⟨h.1, fun q => ?_⟩
  obtain ⟨j, j1, j2, j3, j4⟩ := h.2 q
  exact ⟨a + j, by omega, by omega, j3, j4⟩
/-- the word ls stands at a -/
def Wd (plain : Nat → Int32) (n a : Nat) (ls : List Int32) : Prop := a + ls.length ≤ n ∧ ∀ j, j < ls.length → plain (a + j) = ls.getD j 0
theorem m_wordl {FU n a : Nat} {plain : Nat → Int32} {ls : List Int32} {x : Int64} (hn : n ≤ 240) (hl : ls.length ≤ 8) (hx : ∀ j, j < ls.length → mByte x (ls.length - 1 - j) = ls.getD j 0) (haw : a + ls.length ≤ n) : ∀ (m i : Nat), i ≤ ls.length → ls.length - i < m →
    ((∀ j, i ≤ j → j < ls.length → plain (a + j) = ls.getD j 0) → f_M_word_23 FU (nI n) plain m x (nI ls.length) 1 (nI i) (nI a) = some (1, nI (a + ls.length))) ∧ (¬ (∀ j, i ≤ j → j < ls.length → plain (a + j) = ls.getD j 0) → f_M_word_23 FU (nI n) plain m x (nI ls.length) 1 (nI i) (nI a) = some (0, nI a)) := by
  intro m
  induction m with
  | zero => intro i _ h; omega
  | succ m ih =>
    intro i hi hm
    have e0 : ∀ g i, f_M_word_23 FU (nI n) plain (m + 1) x (nI ls.length) g (nI i) (nI a) = f_M_word_23_hd FU (nI n) plain (f_M_word_23 FU (nI n) plain m) x (nI ls.length) g (nI i) (nI a) := fun _ _ => rfl
    rw [e0]
    unfold f_M_word_23_hd
    by_cases hin : ls.length ≤ i
    · rw [if_pos (nI_le hin (by omega))]
      unfold f_M_word_78
      rw [if_neg (show ¬ (1 : Int32) = 0 by decide), nm_eq, nI_add, ckz_1]
      exact ⟨fun _ => rfl, fun q => absurd (fun j h1 h2 => by omega) q⟩
    · rw [if_neg (nI_ge (by omega) (by omega)), if_neg (show ¬ (1 : Int32) = 0 by decide), nI_add, ck_ok (show a + i < 240 by omega) (by omega), nI_clamp (show a + i < 2 ^ 31 by omega), show (1 : Int32) = nI 1 from rfl, pk_sub (show 1 ≤ ls.length by omega), pk_sub (show i ≤ ls.length - 1 by omega)]
      have eb : ((x >>> ((8 * nI (ls.length - 1 - i)).toInt64 &&& 63)) &&& 255).toInt32 = ls.getD i 0 := hx i (by omega)
      rw [eb, nI_add]
      by_cases hc : plain (a + i) = ls.getD i 0
      · rw [if_pos hc]
        obtain ⟨h1, h2⟩ := ih (i + 1) (by omega) (by omega)
        refine ⟨fun q => h1 (fun j g1 g2 => q j (by omega) g2), fun q => h2 (fun w => q (fun j g1 g2 => ?_))⟩
        by_cases e : j = i
        · subst e; exact hc
        · exact w j (by omega) g2
      · rw [if_neg hc]
        refine ⟨fun q => absurd (q i (Nat.le_refl _) (by omega)) hc, fun _ => ?_⟩
        obtain ⟨m', rfl⟩ : ∃ q, m = q + 1 := ⟨m - 1, by omega⟩
        have e1 : f_M_word_23 FU (nI n) plain (m' + 1) x (nI ls.length) 0 (nI (i + 1)) (nI a) = f_M_word_23_hd FU (nI n) plain (f_M_word_23 FU (nI n) plain m') x (nI ls.length) 0 (nI (i + 1)) (nI a) := rfl
        rw [e1]
        unfold f_M_word_23_hd f_M_word_78
        rw [if_pos rfl, if_pos rfl, ckz_0, ite_self]
theorem m_word {FU n a : Nat} {plain : Nat → Int32} (ls : List Int32) (x : Int64) (hF : 300 < FU) (hn : n ≤ 240) (ha : a ≤ 100000) (hl : ls.length ≤ 8) (hx : ∀ j, j < ls.length → mByte x (ls.length - 1 - j) = ls.getD j 0) : (Wd plain n a ls → f_M_word FU x (nI ls.length) (nI n) plain (nI a) = some (1, nI (a + ls.length))) ∧ (¬ Wd plain n a ls → f_M_word FU x (nI ls.length) (nI n) plain (nI a) = some (0, nI a)) := by
  unfold f_M_word
  rw [nI_add]
  by_cases haw : a + ls.length ≤ n
  · rw [if_neg (show ¬ nI n < nI (a + ls.length) from nI_nlt haw (by omega))]
    obtain ⟨h1, h2⟩ := m_wordl (FU := FU) hn hl hx haw FU 0 (by omega) (by omega)
    exact ⟨fun q => h1 (fun j _ g => q.2 j g), fun q => h2 (fun w => q ⟨haw, fun j g => w j (by omega) g⟩)⟩
  · rw [if_pos (show nI n < nI (a + ls.length) from nI_lt (by omega) (by omega))]
    refine ⟨fun q => absurd q.1 haw, fun _ => ?_⟩
    obtain ⟨m', rfl⟩ : ∃ q, FU = q + 1 := ⟨FU - 1, by omega⟩
    show f_M_word_23_hd (m' + 1) (nI n) plain (f_M_word_23 (m' + 1) (nI n) plain m') x (nI ls.length) 0 0 (nI a) = _
    unfold f_M_word_23_hd f_M_word_78
    rw [if_pos rfl, if_pos rfl, ckz_0, ite_self]
theorem s_len (FU : Nat) : ∀ w, w < 29 → f_String_length FU w = some (nI (sLen w)) := by
  show ∀ w, w < 29 → f_String_length 0 w = some (nI (sLen w))
  decide +kernel
theorem s_char (FU : Nat) : ∀ w, w < 29 → ∀ j, j < sLen w → f_String_charAt FU w (nI j) = some ((sBy.getD w []).getD j 0) := by
  show ∀ w, w < 29 → ∀ j, j < sLen w → f_String_charAt 0 w (nI j) = some ((sBy.getD w []).getD j 0)
  decide +kernel
theorem s_len40 : ∀ w, w < 29 → sLen w < 100 := by decide +kernel
theorem k_wordl {FU n a w : Nat} {row plain : Nat → Int32} (hC : CH n row plain) (hw : w < 29) (haw : a + sLen w ≤ n) : ∀ (m i : Nat), i ≤ sLen w → sLen w - i < m →
    ((∀ j, i ≤ j → j < sLen w → plain (a + j) = (sBy.getD w []).getD j 0) → f_Reader_takeWord_20 FU w row (nI n) m (nI i) (nI a) = some (1, nI (a + sLen w))) ∧ (¬ (∀ j, i ≤ j → j < sLen w → plain (a + j) = (sBy.getD w []).getD j 0) → f_Reader_takeWord_20 FU w row (nI n) m (nI i) (nI a) = some (0, nI a)) := by
  obtain ⟨hn, hch⟩ := hC
  intro m
  induction m with
  | zero => intro i _ h; omega
  | succ m ih =>
    intro i hi hm
    have e0 : f_Reader_takeWord_20 FU w row (nI n) (m + 1) (nI i) (nI a) = f_Reader_takeWord_20_hd FU w row (nI n) (f_Reader_takeWord_20 FU w row (nI n) m) (nI i) (nI a) := rfl
    rw [e0]
    unfold f_Reader_takeWord_20_hd
    rw [s_len FU w hw, bd_ok]
    by_cases hin : sLen w ≤ i
    · rw [if_pos (nI_le hin (by omega)), bd_ok, nm_eq, nI_add]
      exact ⟨fun _ => rfl, fun q => absurd (fun j h1 h2 => by omega) q⟩
    · rw [if_neg (nI_ge (by omega) (by omega)), nI_add, ck_ok (show a + i < 240 by omega) (by omega), s_char FU w hw i (by omega), bd_ok, nI_clamp (show a + i < 2 ^ 31 by omega), (hch (a + i) (by omega)).1, nI_1]
      by_cases hc : plain (a + i) = (sBy.getD w []).getD i 0
      · rw [if_pos hc]
        obtain ⟨h1, h2⟩ := ih (i + 1) (by omega) (by omega)
        refine ⟨fun q => h1 (fun j g1 g2 => q j (by omega) g2), fun q => h2 (fun v => q (fun j g1 g2 => ?_))⟩
        by_cases e : j = i
        · subst e; exact hc
        · exact v j (by omega) g2
      · rw [if_neg hc]
        exact ⟨fun q => absurd (q i (Nat.le_refl _) (by omega)) hc, fun _ => rfl⟩
theorem k_takeWord {FU n a w : Nat} {row plain : Nat → Int32} (hF : 300 < FU) (hC : CH n row plain) (hw : w < 29) (ha : a ≤ n) : (Wd plain n a (sBy.getD w []) → f_Reader_takeWord FU w row (nI n) (nI a) = some (1, nI (a + sLen w))) ∧ (¬ Wd plain n a (sBy.getD w []) → f_Reader_takeWord FU w row (nI n) (nI a) = some (0, nI a)) := by
  have h4 := s_len40 w hw
  have hn := hC.1
  have el : (sBy.getD w []).length = sLen w := rfl
  unfold f_Reader_takeWord
  rw [s_len FU w hw, bd_ok, pk_sub ha]
  by_cases haw : a + sLen w ≤ n
  · rw [if_pos (nI_le (by omega) (by omega))]
    obtain ⟨h1, h2⟩ := k_wordl (FU := FU) hC hw haw FU 0 (by omega) (by omega)
    exact ⟨fun q => h1 (fun j _ g => q.2 j g), fun q => h2 (fun v => q ⟨haw, fun j g => v j (by omega) g⟩)⟩
  · rw [if_neg (nI_ge (by omega) (by omega))]
    exact ⟨fun q => absurd q.1 (by rw [el]; exact haw), fun _ => rfl⟩
theorem k_take {FU n a : Nat} {row plain : Nat → Int32} (hC : CH n row plain) (ha : a ≤ n) (x : Int32) : (Wd plain n a [x] → f_Reader_take FU x row (nI n) (nI a) = some (1, nI (a + 1))) ∧ (¬ Wd plain n a [x] → f_Reader_take FU x row (nI n) (nI a) = some (0, nI a)) := by
  obtain ⟨hn, hch⟩ := hC
  unfold f_Reader_take
  by_cases h : a < n
  · rw [if_neg (nI_ge h (by omega)), ck_ok (show a < 240 by omega) (by omega), nI_clamp (show a < 2 ^ 31 by omega), (hch a h).1, nm_eq, nI_1]
    constructor
    · intro q
      have w := q.2 0 (by simp)
      have w : plain a = x := w
      rw [if_pos w]
    · intro q
      rw [if_neg]
      intro w
      refine q ⟨by simp; omega, fun j hj => ?_⟩
      have : j = 0 := by simpa using hj
      subst this
      exact w
  · rw [if_pos (nI_le (by omega) (by omega))]
    exact ⟨fun q => by have := q.1; simp at this; omega, fun _ => rfl⟩
