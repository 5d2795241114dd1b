/-! pure: a rule's parts, both sides -/
def RU (b1 b2 b4 b5 b6 b7 : Bool) (intv : Int32) (cnt : Int32) (untl : Int32) (wst : Int32) (km : Int32) (kd : Int32) (ke : Int32) (kw : Int32) (nW : Nat → Int32) (wN : Nat → Int32) (nS : Int32) (ps : Nat → Int32) (pS : Int32) (iv : Int32) (lim : Int32) (unt : Int32) (wb : Int32) (mo : Int32) (mr : Nat → Int32) (md : Int32) (dr : Nat → Int32) (wd : Int32) (wr : Nat → Int32) (wn : Nat → Int32) (po : Int32) (pr : Nat → Int32) : Prop :=
  (∃ v : Nat, 1 ≤ v ∧ v ≤ 99 ∧ intv = nI v ∧ iv = nI v) ∧
  ((b1 = true → ∃ c : Nat, 1 ≤ c ∧ c ≤ 99 ∧ cnt = nI c ∧ lim = nI c) ∧ (b1 = false → cnt = 7306 ∧ lim = 0)) ∧
  ((b2 = true → ∃ T : Nat, T ≤ 10519199 ∧ untl = nI T ∧ unt = nI T) ∧ (b2 = false → untl = 10519199 ∧ unt = -1)) ∧
  (∃ w : Nat, w < 7 ∧ wst = nI w ∧ wb = nI w) ∧
  (∃ c : Nat, c ≤ 8 ∧ mo = nI c ∧ (b4 = true ↔ 0 < c) ∧ I4 c km mr) ∧
  (∃ c : Nat, c ≤ 8 ∧ md = nI c ∧ (b5 = true ↔ 0 < c) ∧ I5 c kd ke dr) ∧
  (∃ c : Nat, c ≤ 8 ∧ wd = nI c ∧ (b6 = true ↔ 0 < c) ∧ I6 c kw nW wN nS wr wn) ∧
  (∃ c : Nat, c ≤ 8 ∧ po = nI c ∧ (b7 = true ↔ 0 < c) ∧ I7 c ps pS pr)
def RR (Q : Nat) (givn : Int32) (intv : Int32) (cnt : Int32) (untl : Int32) (wst : Int32) (km : Int32) (kd : Int32) (ke : Int32) (kw : Int32) (nW : Nat → Int32) (wN : Nat → Int32) (nS : Int32) (ps : Nat → Int32) (pS : Int32) (parts : Int32) (iv : Int32) (lim : Int32) (unt : Int32) (wb : Int32) (mo : Int32) (mr : Nat → Int32) (md : Int32) (dr : Nat → Int32) (wd : Int32) (wr : Nat → Int32) (wn : Nat → Int32) (po : Int32) (pr : Nat → Int32) : Prop :=
  Q < 256 ∧ parts = nI Q ∧ givn = nI (kp Q) ∧ RU (Q.testBit 1) (Q.testBit 2) (Q.testBit 4) (Q.testBit 5) (Q.testBit 6) (Q.testBit 7) intv cnt untl wst km kd ke kw nW wN nS ps pS iv lim unt wb mo mr md dr wd wr wn po pr
def pcn (Q : Nat) : Nat := (List.range 8).foldl (fun s j => if Q.testBit j then s + 1 else s) 0
theorem pcn_add : ∀ Q, Q < 256 → ∀ j, j < 8 → Q.testBit j = false → pcn (Q + 2 ^ j) = pcn Q + 1 := by decide +kernel
theorem pcn_8 : ∀ Q, Q < 256 → pcn Q ≤ 8 ∧ (pcn Q = 8 → Q = 255) := by decide +kernel
theorem RR_to0 {Q : Nat} {intv : Int32} {cnt : Int32} {untl : Int32} {wst : Int32} {km : Int32} {kd : Int32} {ke : Int32} {kw : Int32} {nW : Nat → Int32} {wN : Nat → Int32} {nS : Int32} {ps : Nat → Int32} {pS : Int32} {iv : Int32} {lim : Int32} {unt : Int32} {wb : Int32} {mo : Int32} {mr : Nat → Int32} {md : Int32} {dr : Nat → Int32} {wd : Int32} {wr : Nat → Int32} {wn : Nat → Int32} {po : Int32} {pr : Nat → Int32} (hQ : Q < 256) (hb : Q.testBit 0 = false) (hU : RU (Q.testBit 1) (Q.testBit 2) (Q.testBit 4) (Q.testBit 5) (Q.testBit 6) (Q.testBit 7) intv cnt untl wst km kd ke kw nW wN nS ps pS iv lim unt wb mo mr md dr wd wr wn po pr) : RR (Q + 2 ^ 0) (nI (kp (Q + 2 ^ 0))) intv cnt untl wst km kd ke kw nW wN nS ps pS (nI (Q + 2 ^ 0)) iv lim unt wb mo mr md dr wd wr wn po pr := by
  refine ⟨(kp_or Q hQ 0 (by omega) hb).2.2, rfl, rfl, ?_⟩
  rw [kp_bit Q hQ 0 (by omega) hb 1 (by omega), kp_bit Q hQ 0 (by omega) hb 2 (by omega), kp_bit Q hQ 0 (by omega) hb 4 (by omega), kp_bit Q hQ 0 (by omega) hb 5 (by omega), kp_bit Q hQ 0 (by omega) hb 6 (by omega), kp_bit Q hQ 0 (by omega) hb 7 (by omega)]
  rw [show decide (1 = 0) = false from rfl, show decide (2 = 0) = false from rfl, show decide (4 = 0) = false from rfl, show decide (5 = 0) = false from rfl, show decide (6 = 0) = false from rfl, show decide (7 = 0) = false from rfl]
  simp only [Bool.or_false, Bool.or_true]
  exact hU
theorem RR_to1 {Q : Nat} {intv : Int32} {cnt : Int32} {untl : Int32} {wst : Int32} {km : Int32} {kd : Int32} {ke : Int32} {kw : Int32} {nW : Nat → Int32} {wN : Nat → Int32} {nS : Int32} {ps : Nat → Int32} {pS : Int32} {iv : Int32} {lim : Int32} {unt : Int32} {wb : Int32} {mo : Int32} {mr : Nat → Int32} {md : Int32} {dr : Nat → Int32} {wd : Int32} {wr : Nat → Int32} {wn : Nat → Int32} {po : Int32} {pr : Nat → Int32} (hQ : Q < 256) (hb : Q.testBit 1 = false) (hU : RU true (Q.testBit 2) (Q.testBit 4) (Q.testBit 5) (Q.testBit 6) (Q.testBit 7) intv cnt untl wst km kd ke kw nW wN nS ps pS iv lim unt wb mo mr md dr wd wr wn po pr) : RR (Q + 2 ^ 1) (nI (kp (Q + 2 ^ 1))) intv cnt untl wst km kd ke kw nW wN nS ps pS (nI (Q + 2 ^ 1)) iv lim unt wb mo mr md dr wd wr wn po pr := by
  refine ⟨(kp_or Q hQ 1 (by omega) hb).2.2, rfl, rfl, ?_⟩
  rw [kp_bit Q hQ 1 (by omega) hb 1 (by omega), kp_bit Q hQ 1 (by omega) hb 2 (by omega), kp_bit Q hQ 1 (by omega) hb 4 (by omega), kp_bit Q hQ 1 (by omega) hb 5 (by omega), kp_bit Q hQ 1 (by omega) hb 6 (by omega), kp_bit Q hQ 1 (by omega) hb 7 (by omega)]
  rw [show decide (1 = 1) = true from rfl, show decide (2 = 1) = false from rfl, show decide (4 = 1) = false from rfl, show decide (5 = 1) = false from rfl, show decide (6 = 1) = false from rfl, show decide (7 = 1) = false from rfl]
  simp only [Bool.or_false, Bool.or_true]
  exact hU
theorem RR_to2 {Q : Nat} {intv : Int32} {cnt : Int32} {untl : Int32} {wst : Int32} {km : Int32} {kd : Int32} {ke : Int32} {kw : Int32} {nW : Nat → Int32} {wN : Nat → Int32} {nS : Int32} {ps : Nat → Int32} {pS : Int32} {iv : Int32} {lim : Int32} {unt : Int32} {wb : Int32} {mo : Int32} {mr : Nat → Int32} {md : Int32} {dr : Nat → Int32} {wd : Int32} {wr : Nat → Int32} {wn : Nat → Int32} {po : Int32} {pr : Nat → Int32} (hQ : Q < 256) (hb : Q.testBit 2 = false) (hU : RU (Q.testBit 1) true (Q.testBit 4) (Q.testBit 5) (Q.testBit 6) (Q.testBit 7) intv cnt untl wst km kd ke kw nW wN nS ps pS iv lim unt wb mo mr md dr wd wr wn po pr) : RR (Q + 2 ^ 2) (nI (kp (Q + 2 ^ 2))) intv cnt untl wst km kd ke kw nW wN nS ps pS (nI (Q + 2 ^ 2)) iv lim unt wb mo mr md dr wd wr wn po pr := by
  refine ⟨(kp_or Q hQ 2 (by omega) hb).2.2, rfl, rfl, ?_⟩
  rw [kp_bit Q hQ 2 (by omega) hb 1 (by omega), kp_bit Q hQ 2 (by omega) hb 2 (by omega), kp_bit Q hQ 2 (by omega) hb 4 (by omega), kp_bit Q hQ 2 (by omega) hb 5 (by omega), kp_bit Q hQ 2 (by omega) hb 6 (by omega), kp_bit Q hQ 2 (by omega) hb 7 (by omega)]
  rw [show decide (1 = 2) = false from rfl, show decide (2 = 2) = true from rfl, show decide (4 = 2) = false from rfl, show decide (5 = 2) = false from rfl, show decide (6 = 2) = false from rfl, show decide (7 = 2) = false from rfl]
  simp only [Bool.or_false, Bool.or_true]
  exact hU
theorem RR_to3 {Q : Nat} {intv : Int32} {cnt : Int32} {untl : Int32} {wst : Int32} {km : Int32} {kd : Int32} {ke : Int32} {kw : Int32} {nW : Nat → Int32} {wN : Nat → Int32} {nS : Int32} {ps : Nat → Int32} {pS : Int32} {iv : Int32} {lim : Int32} {unt : Int32} {wb : Int32} {mo : Int32} {mr : Nat → Int32} {md : Int32} {dr : Nat → Int32} {wd : Int32} {wr : Nat → Int32} {wn : Nat → Int32} {po : Int32} {pr : Nat → Int32} (hQ : Q < 256) (hb : Q.testBit 3 = false) (hU : RU (Q.testBit 1) (Q.testBit 2) (Q.testBit 4) (Q.testBit 5) (Q.testBit 6) (Q.testBit 7) intv cnt untl wst km kd ke kw nW wN nS ps pS iv lim unt wb mo mr md dr wd wr wn po pr) : RR (Q + 2 ^ 3) (nI (kp (Q + 2 ^ 3))) intv cnt untl wst km kd ke kw nW wN nS ps pS (nI (Q + 2 ^ 3)) iv lim unt wb mo mr md dr wd wr wn po pr := by
  refine ⟨(kp_or Q hQ 3 (by omega) hb).2.2, rfl, rfl, ?_⟩
  rw [kp_bit Q hQ 3 (by omega) hb 1 (by omega), kp_bit Q hQ 3 (by omega) hb 2 (by omega), kp_bit Q hQ 3 (by omega) hb 4 (by omega), kp_bit Q hQ 3 (by omega) hb 5 (by omega), kp_bit Q hQ 3 (by omega) hb 6 (by omega), kp_bit Q hQ 3 (by omega) hb 7 (by omega)]
  rw [show decide (1 = 3) = false from rfl, show decide (2 = 3) = false from rfl, show decide (4 = 3) = false from rfl, show decide (5 = 3) = false from rfl, show decide (6 = 3) = false from rfl, show decide (7 = 3) = false from rfl]
  simp only [Bool.or_false, Bool.or_true]
  exact hU
theorem RR_to4 {Q : Nat} {intv : Int32} {cnt : Int32} {untl : Int32} {wst : Int32} {km : Int32} {kd : Int32} {ke : Int32} {kw : Int32} {nW : Nat → Int32} {wN : Nat → Int32} {nS : Int32} {ps : Nat → Int32} {pS : Int32} {iv : Int32} {lim : Int32} {unt : Int32} {wb : Int32} {mo : Int32} {mr : Nat → Int32} {md : Int32} {dr : Nat → Int32} {wd : Int32} {wr : Nat → Int32} {wn : Nat → Int32} {po : Int32} {pr : Nat → Int32} (hQ : Q < 256) (hb : Q.testBit 4 = false) (hU : RU (Q.testBit 1) (Q.testBit 2) true (Q.testBit 5) (Q.testBit 6) (Q.testBit 7) intv cnt untl wst km kd ke kw nW wN nS ps pS iv lim unt wb mo mr md dr wd wr wn po pr) : RR (Q + 2 ^ 4) (nI (kp (Q + 2 ^ 4))) intv cnt untl wst km kd ke kw nW wN nS ps pS (nI (Q + 2 ^ 4)) iv lim unt wb mo mr md dr wd wr wn po pr := by
  refine ⟨(kp_or Q hQ 4 (by omega) hb).2.2, rfl, rfl, ?_⟩
  rw [kp_bit Q hQ 4 (by omega) hb 1 (by omega), kp_bit Q hQ 4 (by omega) hb 2 (by omega), kp_bit Q hQ 4 (by omega) hb 4 (by omega), kp_bit Q hQ 4 (by omega) hb 5 (by omega), kp_bit Q hQ 4 (by omega) hb 6 (by omega), kp_bit Q hQ 4 (by omega) hb 7 (by omega)]
  rw [show decide (1 = 4) = false from rfl, show decide (2 = 4) = false from rfl, show decide (4 = 4) = true from rfl, show decide (5 = 4) = false from rfl, show decide (6 = 4) = false from rfl, show decide (7 = 4) = false from rfl]
  simp only [Bool.or_false, Bool.or_true]
  exact hU
theorem RR_to5 {Q : Nat} {intv : Int32} {cnt : Int32} {untl : Int32} {wst : Int32} {km : Int32} {kd : Int32} {ke : Int32} {kw : Int32} {nW : Nat → Int32} {wN : Nat → Int32} {nS : Int32} {ps : Nat → Int32} {pS : Int32} {iv : Int32} {lim : Int32} {unt : Int32} {wb : Int32} {mo : Int32} {mr : Nat → Int32} {md : Int32} {dr : Nat → Int32} {wd : Int32} {wr : Nat → Int32} {wn : Nat → Int32} {po : Int32} {pr : Nat → Int32} (hQ : Q < 256) (hb : Q.testBit 5 = false) (hU : RU (Q.testBit 1) (Q.testBit 2) (Q.testBit 4) true (Q.testBit 6) (Q.testBit 7) intv cnt untl wst km kd ke kw nW wN nS ps pS iv lim unt wb mo mr md dr wd wr wn po pr) : RR (Q + 2 ^ 5) (nI (kp (Q + 2 ^ 5))) intv cnt untl wst km kd ke kw nW wN nS ps pS (nI (Q + 2 ^ 5)) iv lim unt wb mo mr md dr wd wr wn po pr := by
  refine ⟨(kp_or Q hQ 5 (by omega) hb).2.2, rfl, rfl, ?_⟩
  rw [kp_bit Q hQ 5 (by omega) hb 1 (by omega), kp_bit Q hQ 5 (by omega) hb 2 (by omega), kp_bit Q hQ 5 (by omega) hb 4 (by omega), kp_bit Q hQ 5 (by omega) hb 5 (by omega), kp_bit Q hQ 5 (by omega) hb 6 (by omega), kp_bit Q hQ 5 (by omega) hb 7 (by omega)]
  rw [show decide (1 = 5) = false from rfl, show decide (2 = 5) = false from rfl, show decide (4 = 5) = false from rfl, show decide (5 = 5) = true from rfl, show decide (6 = 5) = false from rfl, show decide (7 = 5) = false from rfl]
  simp only [Bool.or_false, Bool.or_true]
  exact hU
theorem RR_to6 {Q : Nat} {intv : Int32} {cnt : Int32} {untl : Int32} {wst : Int32} {km : Int32} {kd : Int32} {ke : Int32} {kw : Int32} {nW : Nat → Int32} {wN : Nat → Int32} {nS : Int32} {ps : Nat → Int32} {pS : Int32} {iv : Int32} {lim : Int32} {unt : Int32} {wb : Int32} {mo : Int32} {mr : Nat → Int32} {md : Int32} {dr : Nat → Int32} {wd : Int32} {wr : Nat → Int32} {wn : Nat → Int32} {po : Int32} {pr : Nat → Int32} (hQ : Q < 256) (hb : Q.testBit 6 = false) (hU : RU (Q.testBit 1) (Q.testBit 2) (Q.testBit 4) (Q.testBit 5) true (Q.testBit 7) intv cnt untl wst km kd ke kw nW wN nS ps pS iv lim unt wb mo mr md dr wd wr wn po pr) : RR (Q + 2 ^ 6) (nI (kp (Q + 2 ^ 6))) intv cnt untl wst km kd ke kw nW wN nS ps pS (nI (Q + 2 ^ 6)) iv lim unt wb mo mr md dr wd wr wn po pr := by
  refine ⟨(kp_or Q hQ 6 (by omega) hb).2.2, rfl, rfl, ?_⟩
  rw [kp_bit Q hQ 6 (by omega) hb 1 (by omega), kp_bit Q hQ 6 (by omega) hb 2 (by omega), kp_bit Q hQ 6 (by omega) hb 4 (by omega), kp_bit Q hQ 6 (by omega) hb 5 (by omega), kp_bit Q hQ 6 (by omega) hb 6 (by omega), kp_bit Q hQ 6 (by omega) hb 7 (by omega)]
  rw [show decide (1 = 6) = false from rfl, show decide (2 = 6) = false from rfl, show decide (4 = 6) = false from rfl, show decide (5 = 6) = false from rfl, show decide (6 = 6) = true from rfl, show decide (7 = 6) = false from rfl]
  simp only [Bool.or_false, Bool.or_true]
  exact hU
theorem RR_to7 {Q : Nat} {intv : Int32} {cnt : Int32} {untl : Int32} {wst : Int32} {km : Int32} {kd : Int32} {ke : Int32} {kw : Int32} {nW : Nat → Int32} {wN : Nat → Int32} {nS : Int32} {ps : Nat → Int32} {pS : Int32} {iv : Int32} {lim : Int32} {unt : Int32} {wb : Int32} {mo : Int32} {mr : Nat → Int32} {md : Int32} {dr : Nat → Int32} {wd : Int32} {wr : Nat → Int32} {wn : Nat → Int32} {po : Int32} {pr : Nat → Int32} (hQ : Q < 256) (hb : Q.testBit 7 = false) (hU : RU (Q.testBit 1) (Q.testBit 2) (Q.testBit 4) (Q.testBit 5) (Q.testBit 6) true intv cnt untl wst km kd ke kw nW wN nS ps pS iv lim unt wb mo mr md dr wd wr wn po pr) : RR (Q + 2 ^ 7) (nI (kp (Q + 2 ^ 7))) intv cnt untl wst km kd ke kw nW wN nS ps pS (nI (Q + 2 ^ 7)) iv lim unt wb mo mr md dr wd wr wn po pr := by
  refine ⟨(kp_or Q hQ 7 (by omega) hb).2.2, rfl, rfl, ?_⟩
  rw [kp_bit Q hQ 7 (by omega) hb 1 (by omega), kp_bit Q hQ 7 (by omega) hb 2 (by omega), kp_bit Q hQ 7 (by omega) hb 4 (by omega), kp_bit Q hQ 7 (by omega) hb 5 (by omega), kp_bit Q hQ 7 (by omega) hb 6 (by omega), kp_bit Q hQ 7 (by omega) hb 7 (by omega)]
  rw [show decide (1 = 7) = false from rfl, show decide (2 = 7) = false from rfl, show decide (4 = 7) = false from rfl, show decide (5 = 7) = false from rfl, show decide (6 = 7) = false from rfl, show decide (7 = 7) = true from rfl]
  simp only [Bool.or_false, Bool.or_true]
  exact hU
theorem k46_1 {FU n a a1 : Nat} {row plain : Nat → Int32} {givn : Int32} {intv : Int32} {cnt : Int32} {untl : Int32} {wst : Int32} {km : Int32} {kd : Int32} {ke : Int32} {kw : Int32} {nW : Nat → Int32} {wN : Nat → Int32} {nS : Int32} {ps : Nat → Int32} {pS : Int32} {intv1 : Int32} {cnt1 : Int32} {untl1 : Int32} {wst1 : Int32} {km1 : Int32} {kd1 : Int32} {ke1 : Int32} {kw1 : Int32} {nW1 : Nat → Int32} {wN1 : Nat → Int32} {nS1 : Int32} {ps1 : Nat → Int32} {pS1 : Int32} (hF : 300 < FU) (hC : CH n row plain) (ha1 : a1 ≤ n) (b : Int32) (hv : f_Rule_readValue FU b intv cnt untl wst km kd ke kw nW wN nS ps pS row (nI n) (nI a) = some ((1 : Int32), intv1, cnt1, untl1, wst1, km1, kd1, ke1, kw1, nW1, wN1, nS1, ps1, pS1, nI a1)) : (Wd plain n a1 [44] → f_Rule_readPart_46 FU row (nI n) FU b 1 0 givn intv cnt untl wst km kd ke kw nW wN nS ps pS (nI a) = some ((0 : Int32), givn, intv1, cnt1, untl1, wst1, km1, kd1, ke1, kw1, nW1, wN1, nS1, ps1, pS1, nI (a1 + 1))) ∧ (¬ Wd plain n a1 [44] → f_Rule_readPart_46 FU row (nI n) FU b 1 0 givn intv cnt untl wst km kd ke kw nW wN nS ps pS (nI a) = some ((1 : Int32), givn, intv1, cnt1, untl1, wst1, km1, kd1, ke1, kw1, nW1, wN1, nS1, ps1, pS1, nI a1)) := by
  obtain ⟨m, eF⟩ : ∃ m, FU = m + 2 := ⟨FU - 2, by omega⟩
  have eK : f_Rule_readPart_46 FU row (nI n) FU b 1 0 givn intv cnt untl wst km kd ke kw nW wN nS ps pS (nI a) = f_Rule_readPart_46_hd FU row (nI n) (f_Rule_readPart_46 FU row (nI n) (m + 1)) b 1 0 givn intv cnt untl wst km kd ke kw nW wN nS ps pS (nI a) := by
    conv => lhs; rw [show f_Rule_readPart_46 FU row (nI n) FU = f_Rule_readPart_46 FU row (nI n) (m + 2) by rw [← eF]]
    rfl
  unfold f_Rule_readPart_46_hd at eK
  rw [if_neg (show ¬ (1 : Int32) ≤ 0 by decide), hv, bd_ok, if_neg (show ¬ (1 : Int32) = 0 by decide)] at eK
  have hk := k_take (FU := FU) hC ha1 44
  constructor
  · intro q
    rw [hk.1 q, bd_ok, if_neg (show ¬ (1 : Int32) = 0 by decide)] at eK
    rw [eK]
    show f_Rule_readPart_46_hd FU row (nI n) (f_Rule_readPart_46 FU row (nI n) m) b 1 (0 + 1) givn intv1 cnt1 untl1 wst1 km1 kd1 ke1 kw1 nW1 wN1 nS1 ps1 pS1 (nI (a1 + 1)) = _
    unfold f_Rule_readPart_46_hd
    rw [if_pos (show (1 : Int32) ≤ 0 + 1 by decide)]
  · intro q
    rw [hk.2 q, bd_ok, if_pos rfl] at eK
    exact eK
theorem k46_0 {FU n a : Nat} {row : Nat → Int32} {givn : Int32} {intv : Int32} {cnt : Int32} {untl : Int32} {wst : Int32} {km : Int32} {kd : Int32} {ke : Int32} {kw : Int32} {nW : Nat → Int32} {wN : Nat → Int32} {nS : Int32} {ps : Nat → Int32} {pS : Int32} {intv1 : Int32} {cnt1 : Int32} {untl1 : Int32} {wst1 : Int32} {km1 : Int32} {kd1 : Int32} {ke1 : Int32} {kw1 : Int32} {nW1 : Nat → Int32} {wN1 : Nat → Int32} {nS1 : Int32} {ps1 : Nat → Int32} {pS1 : Int32} {e : Int32} (hF : 300 < FU) (b : Int32) (hv : f_Rule_readValue FU b intv cnt untl wst km kd ke kw nW wN nS ps pS row (nI n) (nI a) = some ((0 : Int32), intv1, cnt1, untl1, wst1, km1, kd1, ke1, kw1, nW1, wN1, nS1, ps1, pS1, e)) : f_Rule_readPart_46 FU row (nI n) FU b 1 0 givn intv cnt untl wst km kd ke kw nW wN nS ps pS (nI a) = some ((0 : Int32), givn, intv1, cnt1, untl1, wst1, km1, kd1, ke1, kw1, nW1, wN1, nS1, ps1, pS1, e) := by
  obtain ⟨m, eF⟩ : ∃ m, FU = m + 2 := ⟨FU - 2, by omega⟩
  have eK : f_Rule_readPart_46 FU row (nI n) FU b 1 0 givn intv cnt untl wst km kd ke kw nW wN nS ps pS (nI a) = f_Rule_readPart_46_hd FU row (nI n) (f_Rule_readPart_46 FU row (nI n) (m + 1)) b 1 0 givn intv cnt untl wst km kd ke kw nW wN nS ps pS (nI a) := by
    conv => lhs; rw [show f_Rule_readPart_46 FU row (nI n) FU = f_Rule_readPart_46 FU row (nI n) (m + 2) by rw [← eF]]
    rfl
  unfold f_Rule_readPart_46_hd at eK
  rw [if_neg (show ¬ (1 : Int32) ≤ 0 by decide), hv, bd_ok, if_pos rfl] at eK
  exact eK
theorem c_part {FU n a Q : Nat} {row plain : Nat → Int32} {givn : Int32} {intv : Int32} {cnt : Int32} {untl : Int32} {wst : Int32} {km : Int32} {kd : Int32} {ke : Int32} {kw : Int32} {nW : Nat → Int32} {wN : Nat → Int32} {nS : Int32} {ps : Nat → Int32} {pS : Int32} {parts : Int32} {iv : Int32} {lim : Int32} {unt : Int32} {wb : Int32} {mo : Int32} {mr : Nat → Int32} {md : Int32} {dr : Nat → Int32} {wd : Int32} {wr : Nat → Int32} {wn : Nat → Int32} {po : Int32} {pr : Nat → Int32} (hF : 300 < FU) (hC : CH n row plain) (ha : a ≤ n) (hR : RR Q givn intv cnt untl wst km kd ke kw nW wN nS ps pS parts iv lim unt wb mo mr md dr wd wr wn po pr) :
    (∃ (Q' a' : Nat) (givn' : Int32) (intv' : Int32) (cnt' : Int32) (untl' : Int32) (wst' : Int32) (km' : Int32) (kd' : Int32) (ke' : Int32) (kw' : Int32) (nW' : Nat → Int32) (wN' : Nat → Int32) (nS' : Int32) (ps' : Nat → Int32) (pS' : Int32) (parts' : Int32) (iv' : Int32) (lim' : Int32) (unt' : Int32) (wb' : Int32) (mo' : Int32) (mr' : Nat → Int32) (md' : Int32) (dr' : Nat → Int32) (wd' : Int32) (wr' : Nat → Int32) (wn' : Nat → Int32) (po' : Int32) (pr' : Nat → Int32), a' ≤ n ∧ pcn Q' = pcn Q + 1 ∧ RR Q' givn' intv' cnt' untl' wst' km' kd' ke' kw' nW' wN' nS' ps' pS' parts' iv' lim' unt' wb' mo' mr' md' dr' wd' wr' wn' po' pr' ∧ f_Rule_readPart FU givn intv cnt untl wst km kd ke kw nW wN nS ps pS row (nI n) (nI a) = some ((1 : Int32), givn', intv', cnt', untl', wst', km', kd', ke', kw', nW', wN', nS', ps', pS', nI a') ∧ f_M_readPart FU (nI n) plain (nI a) 1 parts iv lim unt wb mo mr md dr wd wr wn po pr = some (nI a', 1, parts', iv', lim', unt', wb', mo', mr', md', dr', wd', wr', wn', po', pr')) ∨
    (∃ (b a' c' : Nat) (g' : Int32) (givn' : Int32) (intv' : Int32) (cnt' : Int32) (untl' : Int32) (wst' : Int32) (km' : Int32) (kd' : Int32) (ke' : Int32) (kw' : Int32) (nW' : Nat → Int32) (wN' : Nat → Int32) (nS' : Int32) (ps' : Nat → Int32) (pS' : Int32) (parts' : Int32) (iv' : Int32) (lim' : Int32) (unt' : Int32) (wb' : Int32) (mo' : Int32) (mr' : Nat → Int32) (md' : Int32) (dr' : Nat → Int32) (wr' : Nat → Int32) (wn' : Nat → Int32) (po' : Int32) (pr' : Nat → Int32), b ≤ n ∧ a' ≤ n + 500 ∧ c' ≤ 8 ∧ (g' = 0 ∨ (g' = 1 ∧ Wd plain n a' [44])) ∧ f_Rule_readPart FU givn intv cnt untl wst km kd ke kw nW wN nS ps pS row (nI n) (nI a) = some ((0 : Int32), givn', intv', cnt', untl', wst', km', kd', ke', kw', nW', wN', nS', ps', pS', nI b) ∧ f_M_readPart FU (nI n) plain (nI a) 1 parts iv lim unt wb mo mr md dr wd wr wn po pr = some (nI a', g', parts', iv', lim', unt', wb', mo', mr', md', dr', nI c', wr', wn', po', pr')) := by
  have hn := hC.1
  generalize hX : f_Rule_readPart FU givn intv cnt untl wst km kd ke kw nW wN nS ps pS row (nI n) (nI a) = X
  generalize hY : f_M_readPart FU (nI n) plain (nI a) 1 parts iv lim unt wb mo mr md dr wd wr wn po pr = Y
  have eK := hX.symm
  have eM := hY.symm
  unfold f_Rule_readPart at eK
  unfold f_M_readPart at eM
  obtain ⟨hQ, rfl, rfl, hU⟩ := hR
  have hU' := hU
  obtain ⟨u0, u1, u2, u3, u4, u5, u6, u7⟩ := hU'
  obtain ⟨c6, c6l, rfl, c6b, c6I⟩ := u6
  rcases c_name (FU := FU) hF hC ha with ⟨j, a1, hj, hlt, ha1, hM, hK⟩ | ⟨j, a1, hj, ha1, hM, hK⟩
  rotate_left
  · rw [hK, bd_ok, if_pos rfl] at eK
    rw [hM, bd_ok] at eM
    have h22 : ∀ s0, ∃ (a' c' : Nat) (parts' : Int32) (iv' : Int32) (lim' : Int32) (unt' : Int32) (wb' : Int32) (mo' : Int32) (mr' : Nat → Int32) (md' : Int32) (dr' : Nat → Int32) (wr' : Nat → Int32) (wn' : Nat → Int32) (po' : Int32) (pr' : Nat → Int32), a' ≤ a1 + 250 ∧ c' ≤ 8 ∧ f_M_readPart_22 FU (nI n) plain (nI j) s0 (nI a1) 0 (nI Q) iv lim unt wb mo mr md dr (nI c6) wr wn po pr = some (nI a', 0, parts', iv', lim', unt', wb', mo', mr', md', dr', nI c', wr', wn', po', pr') := fun s0 => m22_0 hF hC (by omega) c6l hj s0 0 (nd_g0 _)
    by_cases q : ((nI Q >>> (nI j &&& 31)) &&& 1) = 0
    · rw [if_pos q] at eM
      obtain ⟨a', c', parts', iv', lim', unt', wb', mo', mr', md', dr', wr', wn', po', pr', p1, p2, p3⟩ := h22 1
      exact Or.inr ⟨a, a', c', 0, _, _, _, _, _, _, _, _, _, _, _, _, _, _, _, _, _, _, _, _, _, _, _, _, _, _, _, ha, by omega, p2, Or.inl rfl, eK, eM.trans p3⟩
    · rw [if_neg q] at eM
      obtain ⟨a', c', parts', iv', lim', unt', wb', mo', mr', md', dr', wr', wn', po', pr', p1, p2, p3⟩ := h22 0
      exact Or.inr ⟨a, a', c', 0, _, _, _, _, _, _, _, _, _, _, _, _, _, _, _, _, _, _, _, _, _, _, _, _, _, _, _, ha, by omega, p2, Or.inl rfl, eK, eM.trans p3⟩
  rw [hK, bd_ok] at eK
  rw [hM, bd_ok] at eM
  have hkb : ¬ nI (kbit j) = 0 := by
    have : ∀ j, j < 8 → ¬ nI (kbit j) = 0 := by decide +kernel
    exact this j hj
  rw [if_neg hkb, kp_has FU Q hQ j hj, bd_ok] at eK
  dsimp only at eK eM
  rw [kp_m Q hQ j hj] at eM
  cases hb : Q.testBit j with
  | true =>
    rw [hb, if_pos rfl, if_neg (show ¬ (1 : Int32) = 0 by decide)] at eK
    rw [hb, if_pos rfl, if_neg (show ¬ (1 : Int32) = 0 by decide)] at eM
    obtain ⟨a', c', parts', iv', lim', unt', wb', mo', mr', md', dr', wr', wn', po', pr', p1, p2, p3⟩ := m22_0 (FU := FU) (n := n) (a := a1) (c := c6) (j := j) (row := row) (plain := plain) (parts := nI Q) (iv := iv) (lim := lim) (unt := unt) (wb := wb) (mo := mo) (mr := mr) (md := md) (dr := dr) (wr := wr) (wn := wn) (po := po) (pr := pr) hF hC (by omega) c6l hj 0 1 (nd_00 _)
    exact Or.inr ⟨a1, a', c', 0, _, _, _, _, _, _, _, _, _, _, _, _, _, _, _, _, _, _, _, _, _, _, _, _, _, _, _, ha1, by omega, p2, Or.inl rfl, eK, eM.trans p3⟩
  | false =>
    obtain ⟨ko1, ko2, ko3⟩ := kp_or Q hQ j hj hb
    have hpc := pcn_add Q hQ j hj hb
    rw [hb, if_neg (show ¬ false = true by decide), if_pos rfl, nm_eq, ko1] at eK
    rw [hb, if_neg (show ¬ false = true by decide), if_pos rfl] at eM
    unfold f_M_readPart_22 at eM
    rw [m_need, bd_ok, nd_1 1 (Or.inr rfl), nm_eq, ko2] at eM
    have hj8 : j = 0 ∨ j = 1 ∨ j = 2 ∨ j = 3 ∨ j = 4 ∨ j = 5 ∨ j = 6 ∨ j = 7 := by omega
    rcases hj8 with rfl | rfl | rfl | rfl | rfl | rfl | rfl | rfl
    · rw [if_pos (show nI 0 = 0 from rfl)] at eM
      rw [if_pos (show (nI (kbit 0) &&& 120) = 0 by decide)] at eK
      have eK : X = f_Rule_readPart_46 FU row (nI n) FU 1 1 0 (nI (kp (Q + 2 ^ 0))) intv cnt untl wst km kd ke kw nW wN nS ps pS (nI a1) := eK
      obtain ⟨V, a2, h1, h2, h3⟩ := c_number (FU := FU) (a := a1) (most := 99) hF hC (by omega) (by omega) (by omega)
      rcases h3 with ⟨v1, v2, v3, v4, v5⟩ | ⟨v1, v2⟩
      · have v4 : f_M_number FU 99 (nI n) plain (nI a1) 1 = some (nI V, nI a2, 1) := v4 1 (Or.inr rfl)
        have hv : f_Rule_readValue FU 1 intv cnt untl wst km kd ke kw nW wN nS ps pS row (nI n) (nI a1) = some ((1 : Int32), nI V, cnt, untl, wst, km, kd, ke, kw, nW, wN, nS, ps, pS, nI a2) := by
          unfold f_Rule_readValue
          rw [if_pos rfl, show (99 : Int32) = nI 99 from rfl, v5, bd_ok, if_neg (nI_le0 v1 (by omega))]
        rw [v4, bd_ok] at eM
        have h46 := k46_1 (givn := nI (kp (Q + 2 ^ 0))) hF hC v3 1 hv
        by_cases q : Wd plain n a2 [44]
        · rw [h46.1 q] at eK
          exact Or.inr ⟨a2 + 1, a2, c6, 1, _, _, _, _, _, _, _, _, _, _, _, _, _, _, _, _, _, _, _, _, _, _, _, _, _, _, _, (wd1.mp q).1, by omega, c6l, Or.inr ⟨rfl, q⟩, eK, eM⟩
        · rw [h46.2 q] at eK
          exact Or.inl ⟨Q + 2 ^ 0, a2, _, _, _, _, _, _, _, _, _, _, _, _, _, _, _, _, _, _, _, _, _, _, _, _, _, _, _, _, v3, hpc, RR_to0 hQ hb ⟨⟨V, v1, v2, rfl, rfl⟩, u1, u2, u3, u4, u5, ⟨c6, c6l, rfl, c6b, c6I⟩, u7⟩, eK, eM⟩
      · have v1 : f_M_number FU 99 (nI n) plain (nI a1) 1 = some (nI V, nI a2, 0) := v1 1 (Or.inr rfl)
        obtain ⟨b, c1, c2⟩ := v2 ha1
        have hv : f_Rule_readValue FU 1 intv cnt untl wst km kd ke kw nW wN nS ps pS row (nI n) (nI a1) = some ((0 : Int32), 0, cnt, untl, wst, km, kd, ke, kw, nW, wN, nS, ps, pS, nI b) := by
          unfold f_Rule_readValue
          rw [if_pos rfl, show (99 : Int32) = nI 99 from rfl, c2, bd_ok, if_pos (show (0 : Int32) ≤ 0 by decide)]
        rw [v1, bd_ok] at eM
        rw [k46_0 (givn := nI (kp (Q + 2 ^ 0))) hF 1 hv] at eK
        exact Or.inr ⟨b, a2, c6, 0, _, _, _, _, _, _, _, _, _, _, _, _, _, _, _, _, _, _, _, _, _, _, _, _, _, _, _, c1, by omega, c6l, Or.inl rfl, eK, eM⟩
    · rw [if_neg (show ¬ nI 1 = 0 by decide), if_pos (show nI 1 = 1 from rfl)] at eM
      rw [if_pos (show (nI (kbit 1) &&& 120) = 0 by decide)] at eK
      have eK : X = f_Rule_readPart_46 FU row (nI n) FU 2 1 0 (nI (kp (Q + 2 ^ 1))) intv cnt untl wst km kd ke kw nW wN nS ps pS (nI a1) := eK
      obtain ⟨V, a2, h1, h2, h3⟩ := c_number (FU := FU) (a := a1) (most := 99) hF hC (by omega) (by omega) (by omega)
      rcases h3 with ⟨v1, v2, v3, v4, v5⟩ | ⟨v1, v2⟩
      · have v4 : f_M_number FU 99 (nI n) plain (nI a1) 1 = some (nI V, nI a2, 1) := v4 1 (Or.inr rfl)
        have hv : f_Rule_readValue FU 2 intv cnt untl wst km kd ke kw nW wN nS ps pS row (nI n) (nI a1) = some ((1 : Int32), intv, nI V, untl, wst, km, kd, ke, kw, nW, wN, nS, ps, pS, nI a2) := by
          unfold f_Rule_readValue
          rw [if_neg (show ¬ (2 : Int32) = 1 by decide), if_pos rfl, show (99 : Int32) = nI 99 from rfl, v5, bd_ok, if_neg (nI_le0 v1 (by omega))]
        rw [v4, bd_ok] at eM
        have h46 := k46_1 (givn := nI (kp (Q + 2 ^ 1))) hF hC v3 2 hv
        by_cases q : Wd plain n a2 [44]
        · rw [h46.1 q] at eK
          exact Or.inr ⟨a2 + 1, a2, c6, 1, _, _, _, _, _, _, _, _, _, _, _, _, _, _, _, _, _, _, _, _, _, _, _, _, _, _, _, (wd1.mp q).1, by omega, c6l, Or.inr ⟨rfl, q⟩, eK, eM⟩
        · rw [h46.2 q] at eK
          exact Or.inl ⟨Q + 2 ^ 1, a2, _, _, _, _, _, _, _, _, _, _, _, _, _, _, _, _, _, _, _, _, _, _, _, _, _, _, _, _, v3, hpc, RR_to1 hQ hb ⟨u0, ⟨fun _ => ⟨V, v1, v2, rfl, rfl⟩, fun w => by cases w⟩, u2, u3, u4, u5, ⟨c6, c6l, rfl, c6b, c6I⟩, u7⟩, eK, eM⟩
      · have v1 : f_M_number FU 99 (nI n) plain (nI a1) 1 = some (nI V, nI a2, 0) := v1 1 (Or.inr rfl)
        obtain ⟨b, c1, c2⟩ := v2 ha1
        have hv : f_Rule_readValue FU 2 intv cnt untl wst km kd ke kw nW wN nS ps pS row (nI n) (nI a1) = some ((0 : Int32), intv, 0, untl, wst, km, kd, ke, kw, nW, wN, nS, ps, pS, nI b) := by
          unfold f_Rule_readValue
          rw [if_neg (show ¬ (2 : Int32) = 1 by decide), if_pos rfl, show (99 : Int32) = nI 99 from rfl, c2, bd_ok, if_pos (show (0 : Int32) ≤ 0 by decide)]
        rw [v1, bd_ok] at eM
        rw [k46_0 (givn := nI (kp (Q + 2 ^ 1))) hF 2 hv] at eK
        exact Or.inr ⟨b, a2, c6, 0, _, _, _, _, _, _, _, _, _, _, _, _, _, _, _, _, _, _, _, _, _, _, _, _, _, _, _, c1, by omega, c6l, Or.inl rfl, eK, eM⟩
    · rw [if_neg (show ¬ nI 2 = 0 by decide), if_neg (show ¬ nI 2 = 1 by decide), if_pos (show nI 2 = 2 from rfl)] at eM
      rw [if_pos (show (nI (kbit 2) &&& 120) = 0 by decide)] at eK
      have eK : X = f_Rule_readPart_46 FU row (nI n) FU 4 1 0 (nI (kp (Q + 2 ^ 2))) intv cnt untl wst km kd ke kw nW wN nS ps pS (nI a1) := eK
      rcases c_time (FU := FU) hF hC ha1 with ⟨V, v1, v3, v4, v5⟩ | ⟨a2, b, v0, v1, c1, vm, c2⟩
      · have v3' := v3
        have hv : f_Rule_readValue FU 4 intv cnt untl wst km kd ke kw nW wN nS ps pS row (nI n) (nI a1) = some ((1 : Int32), intv, cnt, nI V, wst, km, kd, ke, kw, nW, wN, nS, ps, pS, nI (a1 + 13)) := by
          unfold f_Rule_readValue
          rw [if_neg (show ¬ (4 : Int32) = 1 by decide), if_neg (show ¬ (4 : Int32) = 2 by decide), if_pos rfl, v5, bd_ok, if_neg (nI_pos (by omega))]
        rw [v4, bd_ok] at eM
        have h46 := k46_1 (givn := nI (kp (Q + 2 ^ 2))) hF hC v3 4 hv
        by_cases q : Wd plain n (a1 + 13) [44]
        · rw [h46.1 q] at eK
          exact Or.inr ⟨(a1 + 13) + 1, (a1 + 13), c6, 1, _, _, _, _, _, _, _, _, _, _, _, _, _, _, _, _, _, _, _, _, _, _, _, _, _, _, _, (wd1.mp q).1, by omega, c6l, Or.inr ⟨rfl, q⟩, eK, eM⟩
        · rw [h46.2 q] at eK
          exact Or.inl ⟨Q + 2 ^ 2, (a1 + 13), _, _, _, _, _, _, _, _, _, _, _, _, _, _, _, _, _, _, _, _, _, _, _, _, _, _, _, _, v3, hpc, RR_to2 hQ hb ⟨u0, u1, ⟨fun _ => ⟨V, v1, rfl, rfl⟩, fun w => by cases w⟩, u3, u4, u5, ⟨c6, c6l, rfl, c6b, c6I⟩, u7⟩, eK, eM⟩
      · have h0 := v0
        have c1' := c1
        have hv : f_Rule_readValue FU 4 intv cnt untl wst km kd ke kw nW wN nS ps pS row (nI n) (nI a1) = some ((0 : Int32), intv, cnt, -1, wst, km, kd, ke, kw, nW, wN, nS, ps, pS, nI b) := by
          unfold f_Rule_readValue
          rw [if_neg (show ¬ (4 : Int32) = 1 by decide), if_neg (show ¬ (4 : Int32) = 2 by decide), if_pos rfl, c2, bd_ok, if_pos (show (-1 : Int32) < 0 by decide)]
        rw [vm, bd_ok] at eM
        rw [k46_0 (givn := nI (kp (Q + 2 ^ 2))) hF 4 hv] at eK
        exact Or.inr ⟨b, a2, c6, 0, _, _, _, _, _, _, _, _, _, _, _, _, _, _, _, _, _, _, _, _, _, _, _, _, _, _, _, c1, by omega, c6l, Or.inl rfl, eK, eM⟩
    · rw [if_neg (show ¬ nI 3 = 0 by decide), if_neg (show ¬ nI 3 = 1 by decide), if_neg (show ¬ nI 3 = 2 by decide), if_pos (show nI 3 = 3 from rfl)] at eM
      rw [if_pos (show (nI (kbit 3) &&& 120) = 0 by decide)] at eK
      have eK : X = f_Rule_readPart_46 FU row (nI n) FU 128 1 0 (nI (kp (Q + 2 ^ 3))) intv cnt untl wst km kd ke kw nW wN nS ps pS (nI a1) := eK
      rcases c_weekday (FU := FU) (a := a1) hF hC (by omega) with ⟨V, v1, v3, v4, v5⟩ | ⟨v1, v2⟩
      · have v4 := v4 1 (Or.inr rfl)
        have hv : f_Rule_readValue FU 128 intv cnt untl wst km kd ke kw nW wN nS ps pS row (nI n) (nI a1) = some ((1 : Int32), intv, cnt, untl, nI V, km, kd, ke, kw, nW, wN, nS, ps, pS, nI (a1 + 2)) := by
          unfold f_Rule_readValue
          rw [if_neg (show ¬ (128 : Int32) = 1 by decide), if_neg (show ¬ (128 : Int32) = 2 by decide), if_neg (show ¬ (128 : Int32) = 4 by decide), if_neg (show ¬ (128 : Int32) = 8 by decide), if_neg (show ¬ (128 : Int32) = 16 by decide), if_neg (show ¬ (128 : Int32) = 32 by decide), if_neg (show ¬ (128 : Int32) = 64 by decide), v5, bd_ok, if_neg (nI_pos (by omega))]
        rw [v4, bd_ok] at eM
        have h46 := k46_1 (givn := nI (kp (Q + 2 ^ 3))) hF hC v3 128 hv
        by_cases q : Wd plain n (a1 + 2) [44]
        · rw [h46.1 q] at eK
          exact Or.inr ⟨(a1 + 2) + 1, (a1 + 2), c6, 1, _, _, _, _, _, _, _, _, _, _, _, _, _, _, _, _, _, _, _, _, _, _, _, _, _, _, _, (wd1.mp q).1, by omega, c6l, Or.inr ⟨rfl, q⟩, eK, eM⟩
        · rw [h46.2 q] at eK
          exact Or.inl ⟨Q + 2 ^ 3, (a1 + 2), _, _, _, _, _, _, _, _, _, _, _, _, _, _, _, _, _, _, _, _, _, _, _, _, _, _, _, _, v3, hpc, RR_to3 hQ hb ⟨u0, u1, u2, ⟨V, v1, rfl, rfl⟩, u4, u5, ⟨c6, c6l, rfl, c6b, c6I⟩, u7⟩, eK, eM⟩
      · have vm := v1 1 (Or.inr rfl)
        have c1 := ha1
        have hv : f_Rule_readValue FU 128 intv cnt untl wst km kd ke kw nW wN nS ps pS row (nI n) (nI a1) = some ((0 : Int32), intv, cnt, untl, -1, km, kd, ke, kw, nW, wN, nS, ps, pS, nI a1) := by
          unfold f_Rule_readValue
          rw [if_neg (show ¬ (128 : Int32) = 1 by decide), if_neg (show ¬ (128 : Int32) = 2 by decide), if_neg (show ¬ (128 : Int32) = 4 by decide), if_neg (show ¬ (128 : Int32) = 8 by decide), if_neg (show ¬ (128 : Int32) = 16 by decide), if_neg (show ¬ (128 : Int32) = 32 by decide), if_neg (show ¬ (128 : Int32) = 64 by decide), v2 ha1, bd_ok, if_pos (show (-1 : Int32) < 0 by decide)]
        rw [vm, bd_ok] at eM
        rw [k46_0 (givn := nI (kp (Q + 2 ^ 3))) hF 128 hv] at eK
        exact Or.inr ⟨a1, a1, c6, 0, _, _, _, _, _, _, _, _, _, _, _, _, _, _, _, _, _, _, _, _, _, _, _, _, _, _, _, c1, by omega, c6l, Or.inl rfl, eK, eM⟩
    · rw [if_neg (show ¬ nI 4 = 0 by decide), if_neg (show ¬ nI 4 = 1 by decide), if_neg (show ¬ nI 4 = 2 by decide), if_neg (show ¬ nI 4 = 3 by decide)] at eM
      rw [if_neg (show ¬ (nI (kbit 4) &&& 120) = 0 by decide)] at eK
      obtain ⟨c, cl, rfl, cb, cI⟩ := u4
      have c0 : c = 0 := by
        rw [hb] at cb
        rcases Nat.eq_zero_or_pos c with w | w
        · exact w
        · exact absurd (cb.mpr w) (by decide)
      subst c0
      have eK : X = f_Rule_readPart_46 FU row (nI n) FU 8 8 (nI 0) (nI (kp (Q + 2 ^ 4))) intv cnt untl wst km kd ke kw nW wN nS ps pS (nI a1) := eK
      have hL := list_4 (FU := FU) (plain := plain) (givn := nI (kp (Q + 2 ^ 4))) (intv := intv) (cnt := cnt) (untl := untl) (wst := wst) (kd := kd) (ke := ke) (kw := kw) (nW := nW) (wN := wN) (nS := nS) (ps := ps) (pS := pS) (mo := nI 0) (md := md) (dr := dr) (wd := nI c6) (wr := wr) (wn := wn) (po := po) (pr := pr) hF hC FU 0 a1 km mr (by omega) (by omega) ha1 cI
      rcases hL with ⟨i', a2, km', mr', i1, i2, i3, iI, iK, iM⟩ | ⟨b, a2, i', km', mr', i1, i2, i3, iK, iM⟩
      · have iM : f_M_readList FU (nI 4) (nI n) plain (nI a1) 1 (nI 0) mr md dr (nI c6) wr wn po pr = _ := iM
        rw [iM, bd_ok] at eM
        rw [iK] at eK
        exact Or.inl ⟨Q + 2 ^ 4, a2, _, _, _, _, _, _, _, _, _, _, _, _, _, _, _, _, _, _, _, _, _, _, _, _, _, _, _, _, i3, hpc, RR_to4 hQ hb ⟨u0, u1, u2, u3, ⟨i', i2, rfl, ⟨fun _ => by omega, fun _ => rfl⟩, iI⟩, u5, ⟨c6, c6l, rfl, c6b, c6I⟩, u7⟩, eK, eM⟩
      · have iM : f_M_readList FU (nI 4) (nI n) plain (nI a1) 1 (nI 0) mr md dr (nI c6) wr wn po pr = _ := iM
        rw [iM, bd_ok] at eM
        rw [iK] at eK
        exact Or.inr ⟨b, a2, c6, 0, _, _, _, _, _, _, _, _, _, _, _, _, _, _, _, _, _, _, _, _, _, _, _, _, _, _, _, i1, by omega, c6l, Or.inl rfl, eK, eM⟩
    · rw [if_neg (show ¬ nI 5 = 0 by decide), if_neg (show ¬ nI 5 = 1 by decide), if_neg (show ¬ nI 5 = 2 by decide), if_neg (show ¬ nI 5 = 3 by decide)] at eM
      rw [if_neg (show ¬ (nI (kbit 5) &&& 120) = 0 by decide)] at eK
      obtain ⟨c, cl, rfl, cb, cI⟩ := u5
      have c0 : c = 0 := by
        rw [hb] at cb
        rcases Nat.eq_zero_or_pos c with w | w
        · exact w
        · exact absurd (cb.mpr w) (by decide)
      subst c0
      have eK : X = f_Rule_readPart_46 FU row (nI n) FU 16 8 (nI 0) (nI (kp (Q + 2 ^ 5))) intv cnt untl wst km kd ke kw nW wN nS ps pS (nI a1) := eK
      have hL := list_5 (FU := FU) (plain := plain) (givn := nI (kp (Q + 2 ^ 5))) (intv := intv) (cnt := cnt) (untl := untl) (wst := wst) (km := km) (kw := kw) (nW := nW) (wN := wN) (nS := nS) (ps := ps) (pS := pS) (mo := mo) (mr := mr) (md := nI 0) (wd := nI c6) (wr := wr) (wn := wn) (po := po) (pr := pr) hF hC FU 0 a1 kd ke dr (by omega) (by omega) ha1 cI
      rcases hL with ⟨i', a2, kd', ke', dr', i1, i2, i3, iI, iK, iM⟩ | ⟨b, a2, i', kd', ke', dr', i1, i2, i3, iK, iM⟩
      · have iM : f_M_readList FU (nI 5) (nI n) plain (nI a1) 1 mo mr (nI 0) dr (nI c6) wr wn po pr = _ := iM
        rw [iM, bd_ok] at eM
        rw [iK] at eK
        exact Or.inl ⟨Q + 2 ^ 5, a2, _, _, _, _, _, _, _, _, _, _, _, _, _, _, _, _, _, _, _, _, _, _, _, _, _, _, _, _, i3, hpc, RR_to5 hQ hb ⟨u0, u1, u2, u3, u4, ⟨i', i2, rfl, ⟨fun _ => by omega, fun _ => rfl⟩, iI⟩, ⟨c6, c6l, rfl, c6b, c6I⟩, u7⟩, eK, eM⟩
      · have iM : f_M_readList FU (nI 5) (nI n) plain (nI a1) 1 mo mr (nI 0) dr (nI c6) wr wn po pr = _ := iM
        rw [iM, bd_ok] at eM
        rw [iK] at eK
        exact Or.inr ⟨b, a2, c6, 0, _, _, _, _, _, _, _, _, _, _, _, _, _, _, _, _, _, _, _, _, _, _, _, _, _, _, _, i1, by omega, c6l, Or.inl rfl, eK, eM⟩
    · rw [if_neg (show ¬ nI 6 = 0 by decide), if_neg (show ¬ nI 6 = 1 by decide), if_neg (show ¬ nI 6 = 2 by decide), if_neg (show ¬ nI 6 = 3 by decide)] at eM
      rw [if_neg (show ¬ (nI (kbit 6) &&& 120) = 0 by decide)] at eK
      obtain ⟨c, cl, cb, cI⟩ : ∃ c, c ≤ 8 ∧ (Q.testBit 6 = true ↔ 0 < c) ∧ I6 c kw nW wN nS wr wn := ⟨c6, c6l, c6b, c6I⟩
      have c0 : c = 0 := by
        rw [hb] at cb
        rcases Nat.eq_zero_or_pos c with w | w
        · exact w
        · exact absurd (cb.mpr w) (by decide)
      subst c0
      have eK : X = f_Rule_readPart_46 FU row (nI n) FU 32 8 (nI 0) (nI (kp (Q + 2 ^ 6))) intv cnt untl wst km kd ke kw nW wN nS ps pS (nI a1) := eK
      have hL := list_6 (FU := FU) (plain := plain) (givn := nI (kp (Q + 2 ^ 6))) (intv := intv) (cnt := cnt) (untl := untl) (wst := wst) (km := km) (kd := kd) (ke := ke) (ps := ps) (pS := pS) (mo := mo) (mr := mr) (md := md) (dr := dr) (wd := nI c6) (po := po) (pr := pr) hF hC FU 0 a1 kw nW wN nS wr wn (by omega) (by omega) ha1 cI
      rcases hL with ⟨i', a2, kw', nW', wN', nS', wr', wn', i1, i2, i3, iI, iK, iM⟩ | ⟨b, a2, i', kw', nW', wN', nS', wr', wn', i1, i2, i3, iK, iM⟩
      · have iM : f_M_readList FU (nI 6) (nI n) plain (nI a1) 1 mo mr md dr (nI c6) wr wn po pr = _ := iM
        rw [iM, bd_ok] at eM
        rw [iK] at eK
        exact Or.inl ⟨Q + 2 ^ 6, a2, _, _, _, _, _, _, _, _, _, _, _, _, _, _, _, _, _, _, _, _, _, _, _, _, _, _, _, _, i3, hpc, RR_to6 hQ hb ⟨u0, u1, u2, u3, u4, u5, ⟨i', i2, rfl, ⟨fun _ => by omega, fun _ => rfl⟩, iI⟩, u7⟩, eK, eM⟩
      · have iM : f_M_readList FU (nI 6) (nI n) plain (nI a1) 1 mo mr md dr (nI c6) wr wn po pr = _ := iM
        rw [iM, bd_ok] at eM
        rw [iK] at eK
        exact Or.inr ⟨b, a2, i', 0, _, _, _, _, _, _, _, _, _, _, _, _, _, _, _, _, _, _, _, _, _, _, _, _, _, _, _, i1, by omega, i3, Or.inl rfl, eK, eM⟩
    · rw [if_neg (show ¬ nI 7 = 0 by decide), if_neg (show ¬ nI 7 = 1 by decide), if_neg (show ¬ nI 7 = 2 by decide), if_neg (show ¬ nI 7 = 3 by decide)] at eM
      rw [if_neg (show ¬ (nI (kbit 7) &&& 120) = 0 by decide)] at eK
      obtain ⟨c, cl, rfl, cb, cI⟩ := u7
      have c0 : c = 0 := by
        rw [hb] at cb
        rcases Nat.eq_zero_or_pos c with w | w
        · exact w
        · exact absurd (cb.mpr w) (by decide)
      subst c0
      have eK : X = f_Rule_readPart_46 FU row (nI n) FU 64 8 (nI 0) (nI (kp (Q + 2 ^ 7))) intv cnt untl wst km kd ke kw nW wN nS ps pS (nI a1) := eK
      have hL := list_7 (FU := FU) (plain := plain) (givn := nI (kp (Q + 2 ^ 7))) (intv := intv) (cnt := cnt) (untl := untl) (wst := wst) (km := km) (kd := kd) (ke := ke) (kw := kw) (nW := nW) (wN := wN) (nS := nS) (mo := mo) (mr := mr) (md := md) (dr := dr) (wd := nI c6) (wr := wr) (wn := wn) (po := nI 0) hF hC FU 0 a1 ps pS pr (by omega) (by omega) ha1 cI
      rcases hL with ⟨i', a2, ps', pS', pr', i1, i2, i3, iI, iK, iM⟩ | ⟨b, a2, i', ps', pS', pr', i1, i2, i3, iK, iM⟩
      · have iM : f_M_readList FU (nI 7) (nI n) plain (nI a1) 1 mo mr md dr (nI c6) wr wn (nI 0) pr = _ := iM
        rw [iM, bd_ok] at eM
        rw [iK] at eK
        exact Or.inl ⟨Q + 2 ^ 7, a2, _, _, _, _, _, _, _, _, _, _, _, _, _, _, _, _, _, _, _, _, _, _, _, _, _, _, _, _, i3, hpc, RR_to7 hQ hb ⟨u0, u1, u2, u3, u4, u5, ⟨c6, c6l, rfl, c6b, c6I⟩, ⟨i', i2, rfl, ⟨fun _ => by omega, fun _ => rfl⟩, iI⟩⟩, eK, eM⟩
      · have iM : f_M_readList FU (nI 7) (nI n) plain (nI a1) 1 mo mr md dr (nI c6) wr wn (nI 0) pr = _ := iM
        rw [iM, bd_ok] at eM
        rw [iK] at eK
        exact Or.inr ⟨b, a2, c6, 0, _, _, _, _, _, _, _, _, _, _, _, _, _, _, _, _, _, _, _, _, _, _, _, _, _, _, _, i1, by omega, c6l, Or.inl rfl, eK, eM⟩
