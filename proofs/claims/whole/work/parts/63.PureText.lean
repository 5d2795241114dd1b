/-! pure: type, wipe -/
theorem b255 (w i : Nat) (hw : 8 ≤ w) : (BitVec.ofNat w 255).getLsbD i = decide (i < 8) := by
  rw [BitVec.getLsbD_ofNat, show (255 : Nat) = 2 ^ 8 - 1 from rfl, Nat.testBit_two_pow_sub_one]
  by_cases h : i < 8
  · simp [h, show i < w by omega]
  · simp [h]
theorem by_bit (c : BitVec 64) (s : Nat) (hs : s + 8 ≤ 64) : ((c >>> s).signExtend 32 &&& 255#32) = ((c.sshiftRight s &&& 255#64).signExtend 32) := by
  apply BitVec.eq_of_getLsbD_eq
  intro i hi
  rw [BitVec.getLsbD_and, b255 32 i (by omega), BitVec.getLsbD_signExtend, BitVec.getLsbD_signExtend, BitVec.getLsbD_and, b255 64 i (by omega), BitVec.getLsbD_sshiftRight, BitVec.getLsbD_ushiftRight]
  by_cases h : i < 8
  · simp [h, hi, show i < 64 by omega, show s + i < 64 by omega]
  · simp [h, hi, show i < 64 by omega]
def mByte (c : Int64) (k : Nat) : Int32 := ((c >>> ((8 * nI k).toInt64 &&& 63)) &&& 255).toInt32
theorem k_byte {FU : Nat} (c : Int64) {k : Nat} (hk : k < 8) : f_Text_byteOf FU c (nI k) = some (mByte c k) := by
  unfold f_Text_byteOf mByte
  refine congrArg some (Int32.toBitVec_inj.mp ?_)
  match k, hk with
  | 0, _ => exact by_bit c.toBitVec 0 (by omega)
  | 1, _ => exact by_bit c.toBitVec 8 (by omega)
  | 2, _ => exact by_bit c.toBitVec 16 (by omega)
  | 3, _ => exact by_bit c.toBitVec 24 (by omega)
  | 4, _ => exact by_bit c.toBitVec 32 (by omega)
  | 5, _ => exact by_bit c.toBitVec 40 (by omega)
  | 6, _ => exact by_bit c.toBitVec 48 (by omega)
  | 7, _ => exact by_bit c.toBitVec 56 (by omega)
def okCh (c : Int32) : Prop := c = 10 ∨ (¬ c < 32 ∧ ¬ 126 < c)
theorem okCh_dec (c : Int32) : okCh c ∨ ¬ okCh c := Classical.em _
/-- what has been typed, of the class and of the reference -/
def RT (row : Nat → Int32) (size : Int32) (typed : Int32) (text : Nat → Int32) : Prop := ∃ n, n ≤ 240 ∧ size = nI n ∧ typed = nI n ∧ ∀ j, j < n → row j = text j ∧ okCh (text j)
theorem okCh_n {c : Int32} (h : okCh c) : ∃ q : Nat, q < 127 ∧ c = nI q := by
  rcases h with rfl | ⟨h1, h2⟩
  · exact ⟨10, by omega, rfl⟩
  · obtain ⟨v, rfl, a, b⟩ := v_iI c
    rw [show (32 : Int32) = iI 32 from rfl, iI_lt a b (by omega) (by omega)] at h1
    rw [show (126 : Int32) = iI 126 from rfl, iI_lt (by omega) (by omega) a b] at h2
    exact ⟨v.toNat, by omega, by rw [nI_iI, Int.toNat_of_nonneg (by omega)]⟩
theorem okCh_char {c : Int32} (h : okCh c) : vp_nar .char (((c).toUInt32 % 65536).toInt32) = c := by
  obtain ⟨q, hq, rfl⟩ := okCh_n h
  rw [pk_char, pk_tn (by omega), Nat.mod_eq_of_lt (by omega)]
  unfold vp_nar
  rw [(pk_charN (show q < 65536 by omega)).1]
/-- the class's loop -/
theorem k_app {FU s n : Nat} {c : Int64} (hn : n ≤ 8) (hs : s + n ≤ 240) : ∀ (m i : Nat) (row : Nat → Int32), i ≤ n → n - i < m →
    ((∀ j, i ≤ j → j < n → okCh (mByte c (n - 1 - j))) → ∃ row', f_Text_append_30 FU m c (nI n) (nI i) row (nI s) = some (1, row', nI (s + n)) ∧ (∀ j, j < s + i → row' j = row j) ∧ ∀ j, i ≤ j → j < n → row' (s + j) = mByte c (n - 1 - j)) ∧
    ((∃ j, i ≤ j ∧ j < n ∧ ¬ okCh (mByte c (n - 1 - j))) → ∃ row', f_Text_append_30 FU m c (nI n) (nI i) row (nI s) = some (0, row', nI s) ∧ ∀ j, j < s + i → row' j = row j) := by
  intro m
  induction m with
  | zero => intro i row _ h; omega
  | succ m ih =>
    intro i row hi h
    have e0 : ∀ row, f_Text_append_30 FU (m + 1) c (nI n) (nI i) row (nI s) = f_Text_append_30_hd FU (f_Text_append_30 FU m) c (nI n) (nI i) row (nI s) := fun _ => rfl
    rw [e0]
    unfold f_Text_append_30_hd f_Text_append_71
    by_cases hin : n ≤ i
    · rw [if_pos (nI_le hin (by omega))]
      refine ⟨fun _ => ⟨row, ?_, fun _ _ => rfl, fun j h1 h2 => by omega⟩, fun ⟨j, h1, h2, _⟩ => by omega⟩
      rw [nm_eq, nI_add]
    · rw [if_neg (nI_ge (by omega) (by omega)), show (1 : Int32) = nI 1 from rfl, pk_sub (show 1 ≤ n by omega), pk_sub (show i ≤ n - 1 by omega), k_byte c (by omega)]
      simp only [bd_ok, nm_eq, nI_add, ck_ok (show s + i < 240 by omega) (by omega), nI_clamp (show s + i < 2 ^ 31 by omega)]
      by_cases hok : okCh (mByte c (n - 1 - i))
      · have hw := okCh_char hok
        obtain ⟨ih1, ih2⟩ := ih (i + 1) (upd row (s + i) (mByte c (n - 1 - i))) (by omega) (by omega)
        have step : ∀ (rc : Option (Int32 × (Nat → Int32) × Int32)), (if mByte c (n - 1 - i) = 10 then rc else if mByte c (n - 1 - i) < 32 then some (0, row, nI s) else if mByte c (n - 1 - i) ≤ 126 then rc else some (0, row, nI s)) = rc := by
          intro rc
          rcases hok with h1 | ⟨h1, h2⟩
          · rw [if_pos h1]
          · by_cases h3 : mByte c (n - 1 - i) = 10
            · rw [if_pos h3]
            · rw [if_neg h3, if_neg h1, if_pos (Int32.not_lt.mp h2)]
        rw [hw, step]
        constructor
        · intro hall
          obtain ⟨row', r1, r2, r3⟩ := ih1 (fun j h1 h2 => hall j (by omega) h2)
          refine ⟨row', r1, fun j hj => ?_, fun j h1 h2 => ?_⟩
          · rw [r2 j (by omega), pk_un (by omega)]
          · by_cases hj : j = i
            · subst hj
              rw [r2 (s + j) (by omega), pk_us]
            · exact r3 j (by omega) h2
        · intro ⟨j, h1, h2, h3⟩
          have hj : j ≠ i := fun q => h3 (by rw [q]; exact hok)
          obtain ⟨row', r1, r2⟩ := ih2 ⟨j, by omega, h2, h3⟩
          exact ⟨row', r1, fun j hj => by rw [r2 j (by omega), pk_un (by omega)]⟩
      · have step : ∀ (rc : Option (Int32 × (Nat → Int32) × Int32)), (if mByte c (n - 1 - i) = 10 then rc else if mByte c (n - 1 - i) < 32 then some (0, row, nI s) else if mByte c (n - 1 - i) ≤ 126 then rc else some (0, row, nI s)) = some (0, row, nI s) := by
          intro rc
          have h1 : ¬ mByte c (n - 1 - i) = 10 := fun q => hok (Or.inl q)
          rw [if_neg h1]
          by_cases h2 : mByte c (n - 1 - i) < 32
          · rw [if_pos h2]
          · rw [if_neg h2, if_neg (fun q => hok (Or.inr ⟨h2, Int32.not_lt.mpr q⟩))]
        rw [step]
        exact ⟨fun hall => absurd (hall i (Nat.le_refl _) (by omega)) hok, fun _ => ⟨row, rfl, fun _ _ => rfl⟩⟩
/-- the reference's second loop -/
theorem m_t86 {FU s n : Nat} {c : Int64} {th : Int32} (hn : n ≤ 8) (hs : s + n ≤ 240) : ∀ (m i : Nat) (text : Nat → Int32), i ≤ n → i < m →
    ∃ text', f_M_type_86 FU m c (nI i - 1) th (nI (s + (n - i))) text = some (nI (s + n), th, nI (s + n), text') ∧ (∀ j, j < s + (n - i) → text' j = text j) ∧ ∀ j, n - i ≤ j → j < n → text' (s + j) = mByte c (n - 1 - j) := by
  intro m
  induction m with
  | zero => intro i text _ h; omega
  | succ m ih =>
    intro i text hi h
    show ∃ text', f_M_type_86_hd FU (f_M_type_86 FU m) c (nI i - 1) th (nI (s + (n - i))) text = _ ∧ _
    unfold f_M_type_86_hd
    by_cases h0 : i = 0
    · subst h0
      rw [if_pos (by decide)]
      exact ⟨text, by rw [show n - 0 = n by omega], fun _ _ => rfl, fun j h1 h2 => by omega⟩
    · rw [p_pred (by omega), if_neg (nI_pos (by omega))]
      simp only [nm_eq, ck_ok (show s + (n - i) < 240 by omega) (by omega), nI_1, nI_clamp (show s + (n - i) < 2 ^ 31 by omega)]
      obtain ⟨text', r1, r2, r3⟩ := ih (i - 1) (upd text (s + (n - i)) (mByte c (i - 1))) (by omega) (by omega)
      refine ⟨text', ?_, fun j hj => ?_, fun j h1 h2 => ?_⟩
      · rw [show nI (i - 1) + (-1) = nI (i - 1) - 1 by rw [Int32.sub_eq_add_neg], show s + (n - i) + 1 = s + (n - (i - 1)) by omega]
        exact r1
      · rw [r2 j (by omega), pk_un (by omega)]
      · by_cases hj : j = n - i
        · subst hj
          rw [r2 _ (by omega), pk_us, show n - 1 - (n - i) = i - 1 by omega]
        · exact r3 j (by omega) h2
/-- the reference's first loop -/
theorem m_t33 {FU s n : Nat} {c : Int64} {th : Int32} (hn : n ≤ 8) (hs : s + n ≤ 240) {text : Nat → Int32} : ∀ (m i : Nat), i ≤ n → n - i < m →
    ((∀ j, i ≤ j → j < n → okCh (mByte c j)) → f_M_type_33 FU m c (nI n) (nI i) th (nI s) text = f_M_type_86 FU FU c (nI n - 1) th (nI s) text) ∧
    ((∃ j, i ≤ j ∧ j < n ∧ ¬ okCh (mByte c j)) → f_M_type_33 FU m c (nI n) (nI i) th (nI s) text = some (-1000000, th, nI s, text)) := by
  intro m
  induction m with
  | zero => intro i _ h; omega
  | succ m ih =>
    intro i hi h
    have e0 : f_M_type_33 FU (m + 1) c (nI n) (nI i) th (nI s) text = f_M_type_33_hd FU (f_M_type_33 FU m) c (nI n) (nI i) th (nI s) text := rfl
    rw [e0]
    unfold f_M_type_33_hd
    by_cases hin : n ≤ i
    · rw [if_pos (nI_le hin (by omega))]
      exact ⟨fun _ => rfl, fun ⟨j, h1, h2, _⟩ => by omega⟩
    · rw [if_neg (nI_ge (by omega) (by omega))]
      have eb : ((c >>> ((8 * nI i).toInt64 &&& 63)) &&& 255).toInt32 = mByte c i := rfl
      simp only [nm_eq, eb, m_within, bd_ok, nI_1]
      obtain ⟨ih1, ih2⟩ := ih (i + 1) (by omega) (by omega)
      by_cases hok : okCh (mByte c i)
      · have step : ∀ (rc bad : Option (Int32 × Int32 × Int32 × (Nat → Int32))), (if mByte c i = 10 then rc else if (if mByte c i < 32 then (0 : Int32) else if 126 < mByte c i then 0 else 1) = 0 then bad else rc) = rc := by
          intro rc bad
          rcases hok with h1 | ⟨h1, h2⟩
          · rw [if_pos h1]
          · by_cases h3 : mByte c i = 10
            · rw [if_pos h3]
            · rw [if_neg h3, if_neg h1, if_neg h2, if_neg (by decide)]
        rw [step]
        exact ⟨fun hall => ih1 (fun j h1 h2 => hall j (by omega) h2), fun ⟨j, h1, h2, h3⟩ => ih2 ⟨j, by
          have : j ≠ i := fun q => h3 (by rw [q]; exact hok)
          omega, h2, h3⟩⟩
      · have step : ∀ (rc bad : Option (Int32 × Int32 × Int32 × (Nat → Int32))), (if mByte c i = 10 then rc else if (if mByte c i < 32 then (0 : Int32) else if 126 < mByte c i then 0 else 1) = 0 then bad else rc) = bad := by
          intro rc bad
          rw [if_neg (fun q => hok (Or.inl q))]
          by_cases h2 : mByte c i < 32
          · rw [if_pos h2, if_pos rfl]
          · rw [if_neg h2]
            by_cases h3 : 126 < mByte c i
            · rw [if_pos h3, if_pos rfl]
            · exact absurd (Or.inr ⟨h2, h3⟩) hok
        rw [step]
        exact ⟨fun hall => absurd (hall i (Nat.le_refl _) (by omega)) hok, fun _ => rfl⟩
/-- type: the same answers -/
theorem c_type {FU : Nat} (hF : 20 < FU) {row text : Nat → Int32} {size typed : Int32} (h : RT row size typed text) (c : Int64) (x th : Int32) : ∃ r row' size' typed' text', f_K_type FU c x row size = some (r, row', size') ∧ f_M_type FU c x th typed text = some (r, 0, typed', text') ∧ RT row' size' typed' text' := by
  have hR := h
  obtain ⟨s, hs, rfl, rfl, hr⟩ := h
  unfold f_K_type f_M_type f_Text_append f_Text_length
  simp only [m_within, bd_ok]
  by_cases h1 : x < 1
  · simp only [if_pos h1, bd_ok, if_true]
    exact ⟨_, _, _, _, _, rfl, rfl, hR⟩
  · by_cases h8 : 8 < x
    · simp only [if_neg h1, if_pos h8, bd_ok, if_true]
      exact ⟨_, _, _, _, _, rfl, rfl, hR⟩
    · obtain ⟨v, rfl, a, b⟩ := v_iI x
      rw [show (1 : Int32) = iI 1 from rfl, iI_lt a b (by omega) (by omega)] at h1
      rw [show (8 : Int32) = iI 8 from rfl, iI_lt (by omega) (by omega) a b] at h8
      obtain ⟨n, rfl⟩ : ∃ n : Nat, v = (n : Int) := ⟨v.toNat, by omega⟩
      rw [← nI_iI]
      have h1' : ¬ nI n < 1 := by rw [show (1 : Int32) = nI 1 from rfl, nI_ltI (by omega) (by omega)]; omega
      have h8' : ¬ 8 < nI n := by rw [show (8 : Int32) = nI 8 from rfl, nI_ltI (by omega) (by omega)]; omega
      simp only [if_neg h1', if_neg h8', one_ne, if_false, nI_add]
      by_cases h24 : s + n ≤ 240
      · rw [if_pos (show nI (s + n) ≤ 240 from nI_le (b := 240) h24 (by omega)), if_pos (show nI (s + n) ≤ 240 from nI_le (b := 240) h24 (by omega))]
        obtain ⟨k1, k2⟩ := k_app (FU := FU) (c := c) (show n ≤ 8 by omega) h24 FU 0 row (by omega) (by omega)
        obtain ⟨t1, t2⟩ := m_t33 (FU := FU) (c := c) (th := 0) (text := text) (show n ≤ 8 by omega) h24 FU 0 (by omega) (by omega)
        by_cases hall : ∀ j, j < n → okCh (mByte c j)
        · obtain ⟨row', r1, r2, r3⟩ := k1 (fun j _ hj => hall _ (by omega))
          obtain ⟨text', u1, u2, u3⟩ := m_t86 (FU := FU) (c := c) (th := 0) (show n ≤ 8 by omega) h24 FU n text (Nat.le_refl _) (by omega)
          rw [show s + (n - n) = s by omega] at u1
          rw [nI_0] at r1
          have t1' := t1 (fun j _ hj => hall j hj)
          rw [nI_0] at t1'
          rw [r1, t1', u1]
          refine ⟨nI (s + n), row', nI (s + n), nI (s + n), text', ?_, rfl, s + n, h24, rfl, rfl, fun j hj => ?_⟩
          · simp only [bd_ok]
            rw [if_neg (by decide)]
          · by_cases hj2 : j < s
            · rw [r2 j (by omega), u2 j (by omega)]
              exact hr j hj2
            · obtain ⟨i, rfl⟩ : ∃ i, j = s + i := ⟨j - s, by omega⟩
              rw [r3 i (by omega) (by omega), u3 i (by omega) (by omega)]
              exact ⟨rfl, hall _ (by omega)⟩
        · have hex : ∃ j, j < n ∧ ¬ okCh (mByte c j) := by
            refine Classical.byContradiction (fun q => hall (fun j hj => Classical.byContradiction (fun q2 => q ⟨j, hj, q2⟩)))
          obtain ⟨j, hj, hbad⟩ := hex
          obtain ⟨row', r1, r2⟩ := k2 ⟨n - 1 - j, by omega, by omega, by rw [show n - 1 - (n - 1 - j) = j by omega]; exact hbad⟩
          have t2' := t2 ⟨j, by omega, hj, hbad⟩
          rw [nI_0] at r1 t2'
          rw [r1, t2']
          refine ⟨-1000000, row', nI s, nI s, text, ?_, rfl, s, hs, rfl, rfl, fun j hj => ?_⟩
          · simp only [bd_ok, if_true]
          · rw [r2 j (by omega)]
            exact hr j hj
      · have hn24 : ¬ nI (s + n) ≤ 240 := nI_ge (a := 240) (by omega) (by omega)
        rw [if_neg hn24, if_neg hn24]
        simp only [bd_ok, if_true]
        exact ⟨_, _, _, _, _, rfl, rfl, hR⟩
theorem c_wipe {FU : Nat} {row text : Nat → Int32} {size typed : Int32} (h : RT row size typed text) (th : Int32) : ∃ r, f_K_wipe FU size = some (r, 0) ∧ f_M_wipe FU th typed = some (r, 0, 0) ∧ RT row 0 0 text := by
  obtain ⟨s, hs, rfl, rfl, hr⟩ := h
  exact ⟨nI s, rfl, rfl, 0, by omega, rfl, rfl, fun j hj => by omega⟩
