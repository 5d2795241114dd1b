/-! pure: zones -/
theorem ck_ok {α : Type} {i n : Nat} {k : Option α} (h : i < n) (hn : n < 2 ^ 31) : ck (nI i) n k = k := by
  unfold ck
  rw [if_neg (nI_in h hn)]
theorem nm_eq {β α : Type} (x : β) (k : β → Option α) : nm x k = k x := rfl
theorem bd_ok {β α : Type} (x : β) (k : β → Option α) : bd (some x) k = k x := rfl
theorem p_8 (z i : Nat) : (8 : Int32) * nI z + nI i = nI (8 * z + i) := by
  rw [show (8 : Int32) = nI 8 from rfl, pk_mul, nI_add]
theorem p_pred {i : Nat} (h : 0 < i) : nI i - 1 = nI (i - 1) := by
  rw [show (1 : Int32) = nI 1 from rfl, pk_sub h]
theorem p_eq0 {i : Nat} (hi : i < 2 ^ 31) : nI i = 0 ↔ i = 0 := by
  rw [show (0 : Int32) = nI 0 from rfl, nI_eq hi (by omega)]
theorem p_le0 {i : Nat} (hi : i < 2 ^ 31) : nI i ≤ 0 ↔ i = 0 := by
  rw [show (0 : Int32) = nI 0 from rfl, nI_leI hi (by omega)]
  omega
theorem z_offB {FU i : Nat} {of : Nat → Int32} (hi : i ≤ 8) : f_Zone_offsetBefore FU (nI i) of = some (if i = 0 then 0 else of (i - 1)) := by
  unfold f_Zone_offsetBefore
  by_cases h : i = 0
  · rw [if_pos ((p_le0 (by omega)).mpr h), if_pos h]
  · rw [if_neg (fun q => h ((p_le0 (by omega)).mp q)), if_neg h, p_pred (by omega), ck_ok (by omega) (by omega), nI_clamp (by omega)]
