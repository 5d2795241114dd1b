/-! pure: zones -/
theorem ck_ok {α : Type} {i n : Nat} {k : Option α} (h : i < n) (hn : n < 2 ^ 31) : ck (nI i) n k = k := by
  unfold ck
  rw [if_neg (nI_in h hn)]
theorem nm_eq {β α : Type} (x : β) (k : β → Option α) : nm x k = k x := rfl
theorem bd_ok {β α : Type} (x : β) (k : β → Option α) : bd (some x) k = k x := rfl
theorem p_8 (z i : Nat) : (8 : Int32) * nI z + nI i = nI (8 * z + i) := by
  rw [show (8 : Int32) = nI 8 from rfl, pk_mul, nI_add]
theorem p_pred {i : Nat} (h : 0 < i) : nI i - 1 = nI (i - 1) := by
  rw [show (1 : Int32) = nI 1 from rfl, pk_sub h]
theorem p_eq0 {i : Nat} (hi : i < 2 ^ 31) : nI i = 0 ↔ i = 0 := by
  rw [show (0 : Int32) = nI 0 from rfl, nI_eq hi (by omega)]
theorem p_le0 {i : Nat} (hi : i < 2 ^ 31) : nI i ≤ 0 ↔ i = 0 := by
  rw [show (0 : Int32) = nI 0 from rfl, nI_leI hi (by omega)]
  omega
theorem z_offB {FU i : Nat} {of : Nat → Int32} (hi : i ≤ 8) : f_Zone_offsetBefore FU (nI i) of = some (if i = 0 then 0 else of (i - 1)) := by
  unfold f_Zone_offsetBefore
  by_cases h : i = 0
  · rw [if_pos ((p_le0 (by omega)).mpr h), if_pos h]
  · rw [if_neg (fun q => h ((p_le0 (by omega)).mp q)), if_neg h, p_pred (by omega), ck_ok (by omega) (by omega), nI_clamp (by omega)]
/-- a zone's row of the class and the reference's rows at 8 z -/
def zrel (z n : Nat) (mi of at_ to : Nat → Int32) : Prop := z < 3 ∧ n ≤ 8 ∧ ∀ j, j < n → mi j = at_ (8 * z + j) ∧ of j = to (8 * z + j)
theorem z_loop2 {FU z n : Nat} {mi of ch at_ to : Nat → Int32} (h : zrel z n mi of at_ to) (x : Int32) : ∀ (m i : Nat), i ≤ n → f_Zone_toWorld_62 FU mi of (nI n) m x (nI i) = f_M_worldOf_110 FU ch at_ to m (nI z) x (nI n) (nI i) := by
  obtain ⟨hz, hn, hr⟩ := h
  intro m
  induction m with
  | zero => intro i _; rfl
  | succ m ih =>
    intro i hi
    show f_Zone_toWorld_62_hd FU mi of (nI n) (f_Zone_toWorld_62 FU mi of (nI n) m) x (nI i) = f_M_worldOf_110_hd FU ch at_ to (f_M_worldOf_110 FU ch at_ to m) (nI z) x (nI n) (nI i)
    unfold f_Zone_toWorld_62_hd f_M_worldOf_110_hd f_M_worldOf_139
    by_cases hin : n ≤ i
    · rw [if_pos (nI_le hin (by omega)), if_pos (nI_le hin (by omega))]
    · have hc : ¬ nI n ≤ nI i := nI_ge (by omega) (by omega)
      rw [if_neg hc, if_neg hc, z_offB (by omega)]
      simp only [bd_ok, nm_eq, p_8, ck_ok (show i < 8 by omega) (by omega), ck_ok (show 8 * z + i < 24 by omega) (by omega), nI_clamp (show i < 2 ^ 31 by omega), nI_clamp (show 8 * z + i < 2 ^ 31 by omega), (hr i (by omega)).1, (hr i (by omega)).2, p_eq0 (show i < 2 ^ 31 by omega), nI_1, ih (i + 1) (by omega)]
      by_cases h0 : i = 0
      · simp only [h0, if_true]
      · simp only [if_neg h0, p_pred (show 0 < 8 * z + i by omega), ck_ok (show 8 * z + i - 1 < 24 by omega) (by omega), nI_clamp (show 8 * z + i - 1 < 2 ^ 31 by omega), (hr (i - 1) (by omega)).2, show 8 * z + (i - 1) = 8 * z + i - 1 by omega]
theorem z_loop1 {FU z n : Nat} {mi of ch at_ to : Nat → Int32} (h : zrel z n mi of at_ to) (x : Int32) : ∀ (m i : Nat), i ≤ n + 1 → f_Zone_toWorld_2 FU mi of (nI n) m x (nI i) = f_M_worldOf_18 FU ch at_ to m (nI z) x (nI n) (nI i) := by
  have h' := h
  obtain ⟨hz, hn, hr⟩ := h
  intro m
  induction m with
  | zero => intro i _; rfl
  | succ m ih =>
    intro i hi
    show f_Zone_toWorld_2_hd FU mi of (nI n) (f_Zone_toWorld_2 FU mi of (nI n) m) x (nI i) = f_M_worldOf_18_hd FU ch at_ to (f_M_worldOf_18 FU ch at_ to m) (nI z) x (nI n) (nI i)
    unfold f_Zone_toWorld_2_hd f_M_worldOf_18_hd f_Zone_toWorld_34 f_M_worldOf_48 f_M_worldOf_75
    by_cases hin : n < i
    · rw [if_pos (nI_lt hin (by omega)), if_pos (nI_lt hin (by omega))]
      exact z_loop2 (ch := ch) h' x FU 0 (by omega)
    · have hc : ¬ nI n < nI i := nI_nlt (by omega) (by omega)
      rw [if_neg hc, if_neg hc, z_offB (by omega)]
      simp only [bd_ok, nm_eq, p_8, p_eq0 (show i < 2 ^ 31 by omega), nI_1, ih (i + 1) (by omega), nI_eq (show i < 2 ^ 31 by omega) (show n < 2 ^ 31 by omega)]
      by_cases h0 : i = 0
      · subst h0
        simp only [if_true]
        by_cases hn0 : 0 = n
        · rw [if_pos hn0, if_pos hn0]
        · rw [if_neg hn0, if_neg hn0]
          simp only [ck_ok (show 0 < 8 by omega) (by omega), ck_ok (show 8 * z + 0 < 24 by omega) (by omega), nI_clamp (show 0 < 2 ^ 31 by omega), nI_clamp (show 8 * z + 0 < 2 ^ 31 by omega), (hr 0 (by omega)).1]
      · simp only [if_neg h0, p_pred (show 0 < 8 * z + i by omega), p_pred (show 0 < i by omega), ck_ok (show 8 * z + i - 1 < 24 by omega) (by omega), ck_ok (show i - 1 < 8 by omega) (by omega), nI_clamp (show 8 * z + i - 1 < 2 ^ 31 by omega), nI_clamp (show i - 1 < 2 ^ 31 by omega), (hr (i - 1) (by omega)).1, (hr (i - 1) (by omega)).2, show 8 * z + (i - 1) = 8 * z + i - 1 by omega]
        by_cases hn0 : i = n
        · simp only [if_pos hn0]
        · simp only [if_neg hn0, ck_ok (show i < 8 by omega) (by omega), ck_ok (show 8 * z + i < 24 by omega) (by omega), nI_clamp (show i < 2 ^ 31 by omega), nI_clamp (show 8 * z + i < 2 ^ 31 by omega), (hr i (by omega)).1]
theorem z_world {FU z n : Nat} {mi of ch at_ to : Nat → Int32} (h : zrel z n mi of at_ to) (hc : ch z = nI n) (x : Int32) : f_Zone_toWorld FU x mi of (nI n) = f_M_worldOf FU (nI z) x ch at_ to := by
  unfold f_Zone_toWorld f_M_worldOf
  have hz := h.1
  rw [if_pos (nI_pos' (by omega)), ck_ok hz (by omega), nm_eq, nI_clamp (by omega), hc]
  exact z_loop1 h x FU 0 (by omega)
