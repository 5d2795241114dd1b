/-! pure: Int32 by Int -/
def iI (x : Int) : Int32 := Int32.ofInt x
theorem iI_toInt {x : Int} (h0 : -2147483648 ≤ x) (h1 : x < 2147483648) : (iI x).toInt = x := Int32.toInt_ofInt_of_le h0 h1
theorem iI_self (v : Int32) : iI v.toInt = v := Int32.ofInt_toInt v
theorem iI_clamp {x : Int} (h0 : -2147483648 ≤ x) (h1 : x < 2147483648) : (iI x).toNatClampNeg = x.toNat := Int32.toNatClampNeg_ofInt_of_le h0 h1
theorem iI_lt {x y : Int} (h0 : -2147483648 ≤ x) (h1 : x < 2147483648) (g0 : -2147483648 ≤ y) (g1 : y < 2147483648) : (iI x < iI y) = (x < y) := by
  rw [eq_iff_iff, Int32.lt_iff_toInt_lt, iI_toInt h0 h1, iI_toInt g0 g1]
theorem iI_le {x y : Int} (h0 : -2147483648 ≤ x) (h1 : x < 2147483648) (g0 : -2147483648 ≤ y) (g1 : y < 2147483648) : (iI x ≤ iI y) = (x ≤ y) := by
  rw [eq_iff_iff, Int32.le_iff_toInt_le, iI_toInt h0 h1, iI_toInt g0 g1]
theorem iI_eq {x y : Int} (h0 : -2147483648 ≤ x) (h1 : x < 2147483648) (g0 : -2147483648 ≤ y) (g1 : y < 2147483648) : (iI x = iI y) = (x = y) := by
  rw [eq_iff_iff, ← Int32.toInt_inj, iI_toInt h0 h1, iI_toInt g0 g1]
theorem iI_add (x y : Int) : iI x + iI y = iI (x + y) := (Int32.ofInt_add x y).symm
theorem iI_sub (x y : Int) : iI x - iI y = iI (x - y) := (Int32.ofInt_sub x y).symm
theorem iI_mul (x y : Int) : iI x * iI y = iI (x * y) := (Int32.ofInt_mul x y).symm
theorem iI_neg (x : Int) : -iI x = iI (-x) := (Int32.ofInt_neg x).symm
theorem iI_div {x y : Int} (h0 : -2147483648 < x) (h1 : x < 2147483648) (g0 : 0 < y) (g1 : y < 2147483648) : iI x / iI y = iI (x.tdiv y) := by
  have hx : (iI x).toInt = x := iI_toInt (by omega) h1
  refine Int32.toInt_inj.mp ?_
  rw [Int32.toInt_div_of_ne_left _ _ (fun h => ?_), hx, iI_toInt (by omega) g1, iI_toInt]
  · rcases Int.le_total 0 x with hp | hp
    · have := Int.tdiv_nonneg hp (Int.le_of_lt g0); omega
    · have h2 : (-x).tdiv y ≤ -x := Int.tdiv_le_self _ (by omega)
      rw [Int.neg_tdiv] at h2
      omega
  · rcases Int.le_total 0 x with hp | hp
    · have := Int.tdiv_le_self y hp; omega
    · have h2 : 0 ≤ (-x).tdiv y := Int.tdiv_nonneg (by omega) (Int.le_of_lt g0)
      rw [Int.neg_tdiv] at h2
      omega
  · have h3 : (iI x).toInt = -2147483648 := by rw [h]; rfl
    omega
theorem iI_lit (n : Nat) : (OfNat.ofNat n : Int32) = iI (n : Int) := Int32.ofInt_eq_ofNat.symm
theorem nI_iI (n : Nat) : nI n = iI (n : Int) := Int32.ofInt_eq_ofNat.symm
theorem ck_i {α : Type} {x : Int} {n : Nat} {k : Option α} (h0 : 0 ≤ x) (h1 : x < n) (hn : n < 2147483648) : ck (iI x) n k = k := by
  unfold ck
  rw [if_neg]
  intro h
  rcases h with h | h
  · rw [show (0 : Int32) = iI 0 from rfl, iI_lt (by omega) (by omega) (by omega) (by omega)] at h
    omega
  · rw [iI_clamp (by omega) (by omega)] at h
    omega
theorem ckz_1 {α : Type} {k : Option α} : ckz 1 k = k := if_pos (Or.inr rfl)
theorem ckz_0 {α : Type} {k : Option α} : ckz 0 k = k := if_pos (Or.inl rfl)
theorem v_iI (v : Int32) : ∃ x : Int, v = iI x ∧ -2147483648 ≤ x ∧ x < 2147483648 := ⟨v.toInt, (iI_self v).symm, Int32.le_toInt v, Int32.toInt_lt v⟩
theorem up_same {α : Type} (f : Nat → α) (k : Nat) (v : α) : up f k v k = v := if_pos rfl
theorem up_ne {α : Type} (f : Nat → α) {k j : Nat} (v : α) (h : j ≠ k) : up f k v j = f j := if_neg h
theorem lgc_self (x : Int64) : lg_cmp x x = 0 := by simp [lg_cmp]
