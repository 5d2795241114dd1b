/-! pure: bits -/
/-- the bit v of x -/
def bt (x : Int32) (v : Nat) : Prop := ((x >>> (nI v &&& 31)) &&& 1) = 1
theorem sh_amt : ∀ v, v < 32 → ((nI v &&& 31).toBitVec.smod 32).toNat = v := by decide +kernel
theorem and1 (y : BitVec 32) : (y &&& 1#32 = 1#32 ↔ y.getLsbD 0 = true) ∧ (y &&& 1#32 = 0#32 ↔ y.getLsbD 0 = false) := by
  have h : y &&& 1#32 = if y.getLsbD 0 then 1#32 else 0#32 := by
    apply BitVec.eq_of_getLsbD_eq
    intro i hi
    rw [BitVec.getLsbD_and, BitVec.getLsbD_one]
    by_cases e : i = 0
    · subst e
      cases y.getLsbD 0 <;> simp
    · cases y.getLsbD 0 <;> simp [e, BitVec.getLsbD_one]
  rw [h]
  cases y.getLsbD 0 <;> simp
theorem bt_lsb {x : Int32} {v : Nat} (hv : v < 32) : (((x >>> (nI v &&& 31)) &&& 1) = 1 ↔ x.toBitVec.getLsbD v = true) ∧ (((x >>> (nI v &&& 31)) &&& 1) = 0 ↔ x.toBitVec.getLsbD v = false) := by
  have e : ((x >>> (nI v &&& 31)) &&& 1).toBitVec = (x.toBitVec.sshiftRight v) &&& 1#32 := by
    rw [Int32.toBitVec_and, Int32.toBitVec_shiftRight, BitVec.sshiftRight', sh_amt v hv]
    rfl
  have e2 : (x.toBitVec.sshiftRight v).getLsbD 0 = x.toBitVec.getLsbD v := by
    rw [BitVec.getLsbD_sshiftRight]
    simp [hv]
  have h := and1 (x.toBitVec.sshiftRight v)
  rw [← e, e2] at h
  refine ⟨Iff.trans ?_ h.1, Iff.trans ?_ h.2⟩
  · exact ⟨fun q => by rw [q]; rfl, fun q => Int32.toBitVec_inj.mp q⟩
  · exact ⟨fun q => by rw [q]; rfl, fun q => Int32.toBitVec_inj.mp q⟩
theorem bt_not {x : Int32} {v : Nat} (hv : v < 32) : ((x >>> (nI v &&& 31)) &&& 1) = 0 ↔ ¬ bt x v := by
  unfold bt
  rw [(bt_lsb hv).2, (bt_lsb hv).1]
  cases x.toBitVec.getLsbD v <;> simp
theorem sh_one : ∀ u, u < 32 → ∀ v, v < 32 → ((1 : Int32) <<< (nI u &&& 31)).toBitVec.getLsbD v = decide (v = u) := by decide +kernel
theorem bt_or {x : Int32} {u v : Nat} (hu : u < 32) (hv : v < 32) : bt (x ||| (1 <<< (nI u &&& 31))) v ↔ bt x v ∨ v = u := by
  unfold bt
  rw [(bt_lsb hv).1, (bt_lsb hv).1, Int32.toBitVec_or, BitVec.getLsbD_or, sh_one u hu v hv]
  simp
theorem bt_0 {v : Nat} (hv : v < 32) : ¬ bt 0 v := by
  unfold bt
  rw [(bt_lsb hv).1]
  simp
/-- the class's mask for the reference's -/
def kbit (j : Nat) : Nat := [1, 2, 4, 128, 8, 16, 32, 64].getD j 0
def kp (Q : Nat) : Nat := (List.range 8).foldl (fun s j => if Q.testBit j then s + kbit j else s) 0
theorem kp_has (FU : Nat) : ∀ Q, Q < 256 → ∀ j, j < 8 → f_Rule_has FU (nI (kbit j)) (nI (kp Q)) = some (if Q.testBit j then 1 else 0) := by
  show ∀ Q, Q < 256 → ∀ j, j < 8 → f_Rule_has 0 (nI (kbit j)) (nI (kp Q)) = some (if Q.testBit j then 1 else 0)
  decide +kernel
theorem kp_or : ∀ Q, Q < 256 → ∀ j, j < 8 → Q.testBit j = false → nI (kp Q) ||| nI (kbit j) = nI (kp (Q + 2 ^ j)) ∧ nI Q ||| (1 <<< (nI j &&& 31)) = nI (Q + 2 ^ j) ∧ Q + 2 ^ j < 256 := by decide +kernel
theorem kp_m : ∀ Q, Q < 256 → ∀ j, j < 8 → ((nI Q >>> (nI j &&& 31)) &&& 1) = if Q.testBit j then 1 else 0 := by decide +kernel
theorem kp_bit : ∀ Q, Q < 256 → ∀ j, j < 8 → Q.testBit j = false → ∀ i, i < 8 → (Q + 2 ^ j).testBit i = (Q.testBit i || decide (i = j)) := by decide +kernel
