/-! pure: the rule -/
def agr (b1 b2 b4 b5 b6 b7 nu : Bool) (f : Nat) : Int32 := if b1 && b2 then 0 else if b5 && decide (f = 1) then 0 else if nu && decide (f < 2) then 0 else if b7 && !b4 && !b5 && !b6 then 0 else 1
theorem k_agree (FU : Nat) : ∀ Q, Q < 256 → ∀ f, f < 4 → ∀ s, s < 9 → f_Rule_partsAgree FU (nI (f + 1)) (nI (kp Q)) (nI s) = some (agr (Q.testBit 1) (Q.testBit 2) (Q.testBit 4) (Q.testBit 5) (Q.testBit 6) (Q.testBit 7) (decide (0 < s)) f) := by
  show ∀ Q, Q < 256 → ∀ f, f < 4 → ∀ s, s < 9 → f_Rule_partsAgree 0 (nI (f + 1)) (nI (kp Q)) (nI s) = some (agr (Q.testBit 1) (Q.testBit 2) (Q.testBit 4) (Q.testBit 5) (Q.testBit 6) (Q.testBit 7) (decide (0 < s)) f)
  decide +kernel
theorem m178 {FU n a : Nat} {plain : Nat → Int32} {parts : Int32} {iv : Int32} {lim : Int32} {unt : Int32} {wb : Int32} {mo : Int32} {mr : Nat → Int32} {md : Int32} {dr : Nat → Int32} {wd : Int32} {wr : Nat → Int32} {wn : Nat → Int32} {po : Int32} {pr : Nat → Int32} (l1 s1 g fr : Int32) : f_M_readRule_178 FU (nI n) plain l1 s1 (nI a) g fr parts iv lim unt wb mo mr md dr wd wr wn po pr = some (nI a, nd (if po = 0 then 1 else if (mo + md) + wd ≤ 0 then 0 else 1) (nd (if l1 = 0 then 1 else if fr ≤ 1 then 0 else 1) (nd (if fr = 1 then (if md = 0 then 1 else 0) else 1) (nd s1 g))), fr, parts, iv, lim, unt, wb, mo, mr, md, dr, wd, wr, wn, po, pr) := by
  unfold f_M_readRule_178
  rw [m_need, bd_ok]
  have e4 : ∀ s g, f_M_readRule_256 FU (nI n) plain s (nI a) g fr parts iv lim unt wb mo mr md dr wd wr wn po pr = some (nI a, nd s g, fr, parts, iv, lim, unt, wb, mo, mr, md, dr, wd, wr, wn, po, pr) := by
    intro s g
    unfold f_M_readRule_256
    rw [m_need, bd_ok]
  have e3 : ∀ s g, f_M_readRule_223 FU (nI n) plain s (nI a) g fr parts iv lim unt wb mo mr md dr wd wr wn po pr = some (nI a, nd (if po = 0 then 1 else if (mo + md) + wd ≤ 0 then 0 else 1) (nd s g), fr, parts, iv, lim, unt, wb, mo, mr, md, dr, wd, wr, wn, po, pr) := by
    intro s g
    unfold f_M_readRule_223
    rw [m_need, bd_ok, e4, e4]
    by_cases h : po = 0
    · rw [if_pos h, if_pos h]
    · rw [if_neg h, if_neg h]
      by_cases h : (mo + md) + wd ≤ 0
      · rw [if_pos h, if_pos h]
      · rw [if_neg h, if_neg h]
  have e2 : ∀ s g, f_M_readRule_202 FU (nI n) plain l1 s (nI a) g fr parts iv lim unt wb mo mr md dr wd wr wn po pr = some (nI a, nd (if po = 0 then 1 else if (mo + md) + wd ≤ 0 then 0 else 1) (nd (if l1 = 0 then 1 else if fr ≤ 1 then 0 else 1) (nd s g)), fr, parts, iv, lim, unt, wb, mo, mr, md, dr, wd, wr, wn, po, pr) := by
    intro s g
    unfold f_M_readRule_202
    rw [m_need, bd_ok, e3, e3]
    by_cases h : l1 = 0
    · rw [if_pos h, if_pos h]
    · rw [if_neg h, if_neg h]
      by_cases h : fr ≤ 1
      · rw [if_pos h, if_pos h]
      · rw [if_neg h, if_neg h]
  rw [e2, e2]
  by_cases h : fr = 1
  · rw [if_pos h, if_pos h]
    by_cases h : md = 0
    · rw [if_pos h, if_pos h]
    · rw [if_neg h, if_neg h]
  · rw [if_neg h, if_neg h]
theorem m125 {FU n a c : Nat} {plain : Nat → Int32} {parts : Int32} {iv : Int32} {lim : Int32} {unt : Int32} {wb : Int32} {mo : Int32} {mr : Nat → Int32} {md : Int32} {dr : Nat → Int32} {wr : Nat → Int32} {wn : Nat → Int32} {po : Int32} {pr : Nat → Int32} (g fr : Int32) (hc : c ≤ 8) : ∀ (m j : Nat) (l1 : Int32), j ≤ c → c - j < m → (l1 = 0 ∨ l1 = 1) → ∃ l' : Int32, (l' = 0 ∨ l' = 1) ∧ (l' = 1 ↔ (l1 = 1 ∨ ∃ k, j ≤ k ∧ k < c ∧ wn k ≠ 0)) ∧ f_M_readRule_125 FU (nI n) plain m l1 (nI j) (nI a) g fr parts iv lim unt wb mo mr md dr (nI c) wr wn po pr = (if lim = 0 then f_M_readRule_178 FU (nI n) plain l' 1 (nI a) g fr parts iv lim unt wb mo mr md dr (nI c) wr wn po pr else if 0 ≤ unt then f_M_readRule_178 FU (nI n) plain l' 0 (nI a) g fr parts iv lim unt wb mo mr md dr (nI c) wr wn po pr else f_M_readRule_178 FU (nI n) plain l' 1 (nI a) g fr parts iv lim unt wb mo mr md dr (nI c) wr wn po pr) := by
  intro m
  induction m with
  | zero => intro j l1 _ h; omega
  | succ m ih =>
    intro j l1 hj hm hl
    have e : f_M_readRule_125 FU (nI n) plain (m + 1) l1 (nI j) (nI a) g fr parts iv lim unt wb mo mr md dr (nI c) wr wn po pr = f_M_readRule_125_hd FU (nI n) plain (f_M_readRule_125 FU (nI n) plain m) l1 (nI j) (nI a) g fr parts iv lim unt wb mo mr md dr (nI c) wr wn po pr := rfl
    unfold f_M_readRule_125_hd at e
    by_cases hin : c ≤ j
    · rw [if_pos (nI_le hin (by omega))] at e
      exact ⟨l1, hl, ⟨Or.inl, fun w => w.elim id (fun ⟨k, a, b, _⟩ => by omega)⟩, e⟩
    · rw [if_neg (nI_ge (by omega) (by omega))] at e
      rcases hl with rfl | rfl
      · rw [if_pos rfl, ck_ok (show j < 8 by omega) (by omega), nI_clamp (show j < 2 ^ 31 by omega), nI_1] at e
        by_cases hw : wn j = 0
        · rw [if_pos hw] at e
          obtain ⟨l', h1, h2, h3⟩ := ih (j + 1) 0 (by omega) (by omega) (Or.inl rfl)
          refine ⟨l', h1, h2.trans ⟨?_, ?_⟩, e.trans h3⟩
          · rintro (w | ⟨k, k1, k2, k3⟩)
            · exact Or.inl w
            · exact Or.inr ⟨k, by omega, k2, k3⟩
          · rintro (w | ⟨k, k1, k2, k3⟩)
            · exact Or.inl w
            · refine Or.inr ⟨k, ?_, k2, k3⟩
              by_cases e : k = j
              · subst e; exact absurd hw k3
              · omega
        · rw [if_neg hw] at e
          obtain ⟨l', h1, h2, h3⟩ := ih (j + 1) 1 (by omega) (by omega) (Or.inr rfl)
          exact ⟨l', h1, h2.trans ⟨fun _ => Or.inr ⟨j, by omega, by omega, hw⟩, fun _ => Or.inl rfl⟩, e.trans h3⟩
      · rw [if_neg (show ¬ (1 : Int32) = 0 by decide), nI_1] at e
        obtain ⟨l', h1, h2, h3⟩ := ih (j + 1) 1 (by omega) (by omega) (Or.inr rfl)
        exact ⟨l', h1, h2.trans ⟨fun _ => Or.inl rfl, fun _ => Or.inl rfl⟩, e.trans h3⟩
/-- the checks at the end, from any state -/
theorem m_tail {FU n a c : Nat} {plain : Nat → Int32} {parts : Int32} {iv : Int32} {lim : Int32} {unt : Int32} {wb : Int32} {mo : Int32} {mr : Nat → Int32} {md : Int32} {dr : Nat → Int32} {wr : Nat → Int32} {wn : Nat → Int32} {po : Int32} {pr : Nat → Int32} (hF : 300 < FU) (g fr : Int32) (hg : g = 0 ∨ g = 1) (hc : c ≤ 8) : ∃ g' : Int32, (g' = 0 ∨ g' = 1) ∧ (g = 0 → g' = 0) ∧ f_M_readRule_125 FU (nI n) plain FU 0 0 (nI a) g fr parts iv lim unt wb mo mr md dr (nI c) wr wn po pr = some (nI a, g', fr, parts, iv, lim, unt, wb, mo, mr, md, dr, nI c, wr, wn, po, pr) := by
  obtain ⟨l', h1, h2, h3⟩ := m125 (FU := FU) (n := n) (a := a) (c := c) (plain := plain) (parts := parts) (iv := iv) (lim := lim) (unt := unt) (wb := wb) (mo := mo) (mr := mr) (md := md) (dr := dr) (wr := wr) (wn := wn) (po := po) (pr := pr) g fr hc FU 0 0 (by omega) (by omega) (Or.inl rfl)
  have h3 : f_M_readRule_125 FU (nI n) plain FU 0 0 (nI a) g fr parts iv lim unt wb mo mr md dr (nI c) wr wn po pr = _ := h3
  rw [h3, m178, m178]
  have z : ∀ x y w v, g = 0 → nd x (nd y (nd w (nd v g))) = 0 := by
    intro x y w v e
    rw [e, nd_g0, nd_g0, nd_g0, nd_g0]
  by_cases hl : lim = 0
  · rw [if_pos hl]
    exact ⟨_, nd_or _ _, z _ _ _ _, rfl⟩
  · rw [if_neg hl]
    by_cases hu : 0 ≤ unt
    · rw [if_pos hu]
      exact ⟨_, nd_or _ _, z _ _ _ _, rfl⟩
    · rw [if_neg hu]
      exact ⟨_, nd_or _ _, z _ _ _ _, rfl⟩
theorem nd4 (x1 x2 x3 x4 : Bool) : nd (if x4 then 0 else 1) (nd (if x3 then 0 else 1) (nd (if x2 then 0 else 1) (nd (if x1 then 0 else 1) 1))) = if x1 then 0 else if x2 then 0 else if x3 then 0 else if x4 then 0 else 1 := by
  cases x1 <;> cases x2 <;> cases x3 <;> cases x4 <;> rfl
theorem nI_is0 {c : Nat} (h : c < 2 ^ 31) : (nI c = 0) = (c = 0) := by
  rw [eq_iff_iff]
  exact nI_eq (b := 0) h (by omega)
theorem c_agree {FU n a Q f : Nat} {plain : Nat → Int32} {givn : Int32} {intv : Int32} {cnt : Int32} {untl : Int32} {wst : Int32} {km : Int32} {kd : Int32} {ke : Int32} {kw : Int32} {nW : Nat → Int32} {wN : Nat → Int32} {nS : Int32} {ps : Nat → Int32} {pS : Int32} {parts : Int32} {iv : Int32} {lim : Int32} {unt : Int32} {wb : Int32} {mo : Int32} {mr : Nat → Int32} {md : Int32} {dr : Nat → Int32} {wd : Int32} {wr : Nat → Int32} {wn : Nat → Int32} {po : Int32} {pr : Nat → Int32} (hF : 300 < FU) (hf : f < 4) (hR : RR Q givn intv cnt untl wst km kd ke kw nW wN nS ps pS parts iv lim unt wb mo mr md dr wd wr wn po pr) : ∃ z : Int32, (z = 0 ∨ z = 1) ∧ (Q = 255 → z = 0) ∧ f_Rule_partsAgree FU (nI (f + 1)) givn nS = some z ∧ f_M_readRule_125 FU (nI n) plain FU 0 0 (nI a) 1 (nI f) parts iv lim unt wb mo mr md dr wd wr wn po pr = some (nI a, z, nI f, parts, iv, lim, unt, wb, mo, mr, md, dr, wd, wr, wn, po, pr) := by
  obtain ⟨hQ, rfl, rfl, u0, u1, u2, u3, ⟨c4, l4, rfl, e4, I4⟩, ⟨c5, l5, rfl, e5, I5⟩, ⟨c6, l6, rfl, e6, I6⟩, ⟨c7, l7, rfl, e7, I7⟩⟩ := hR
  obtain ⟨J1, J2, s, hs, rfl, J3, J4⟩ := I6
  refine ⟨_, ?_, ?_, k_agree FU Q hQ f hf s (by omega), ?_⟩
  · unfold agr
    repeat' split
    all_goals first | exact Or.inl rfl | exact Or.inr rfl
  · rintro rfl
    rfl
  · obtain ⟨l', h1, h2, h3⟩ := m125 (FU := FU) (n := n) (a := a) (c := c6) (plain := plain) (parts := nI Q) (iv := iv) (lim := lim) (unt := unt) (wb := wb) (mo := nI c4) (mr := mr) (md := nI c5) (dr := dr) (wr := wr) (wn := wn) (po := nI c7) (pr := pr) 1 (nI f) l6 FU 0 0 (by omega) (by omega) (Or.inl rfl)
    have h3 : f_M_readRule_125 FU (nI n) plain FU 0 0 (nI a) 1 (nI f) (nI Q) iv lim unt wb (nI c4) mr (nI c5) dr (nI c6) wr wn (nI c7) pr = _ := h3
    have t1 : ∀ A B C : Option (Int32 × Int32 × Int32 × Int32 × Int32 × Int32 × Int32 × Int32 × Int32 × (Nat → Int32) × Int32 × (Nat → Int32) × Int32 × (Nat → Int32) × (Nat → Int32) × Int32 × (Nat → Int32)), A = C → (if lim = 0 then A else if 0 ≤ unt then B else C) = if (Q.testBit 1 && Q.testBit 2) then B else A := by
      intro A B C hAC
      cases hb1 : Q.testBit 1 with
      | false =>
        rw [if_pos (u1.2 hb1).2]
        rfl
      | true =>
        obtain ⟨k, k1, k2, _, k3⟩ := u1.1 hb1
        rw [k3, if_neg (by rw [nI_is0 (by omega)]; omega)]
        cases hb2 : Q.testBit 2 with
        | false =>
          rw [(u2.2 hb2).2, if_neg (by decide), hAC]
          rfl
        | true =>
          obtain ⟨T, T1, _, T2⟩ := u2.1 hb2
          rw [T2, if_pos (show 0 ≤ nI T from nI_le (a := 0) (by omega) (by omega))]
          rfl
    rw [h3, t1 _ _ _ rfl, m178, m178]
    have x2 : (if nI f = 1 then (if nI c5 = 0 then (1 : Int32) else 0) else 1) = if (Q.testBit 5 && decide (f = 1)) then 0 else 1 := by
      by_cases w : f = 1
      · subst w
        rw [if_pos (show nI 1 = 1 from rfl)]
        cases hb : Q.testBit 5 with
        | false =>
          rw [hb] at e5
          rw [if_pos (by rw [nI_is0 (by omega)]; rcases Nat.eq_zero_or_pos c5 with w | w; exact w; exact absurd (e5.mpr w) (by decide))]
          rfl
        | true =>
          rw [hb] at e5
          have := e5.mp rfl
          rw [if_neg (by rw [nI_is0 (by omega)]; omega)]
          rfl
      · rw [if_neg (show ¬ nI f = 1 from fun q => w ((nI_eq (b := 1) (by omega) (by omega)).mp q)), decide_eq_false w, Bool.and_false]
        rfl
    have x3 : (if l' = 0 then (1 : Int32) else if nI f ≤ 1 then 0 else 1) = if (decide (0 < s) && decide (f < 2)) then 0 else 1 := by
      have hl : l' = 1 ↔ 0 < s := by
        rw [h2]
        constructor
        · rintro (w | ⟨k, _, k2, k3⟩)
          · exact absurd w (by decide)
          · obtain ⟨i, hi, _⟩ := J4 k k2 k3
            omega
        · intro w
          obtain ⟨k, k1, k2, _⟩ := J3 0 w
          exact Or.inr ⟨k, by omega, k1, k2⟩
      by_cases w : 0 < s
      · rw [hl.mpr w, if_neg (show ¬ (1 : Int32) = 0 by decide), decide_eq_true w, Bool.true_and]
        by_cases v : f < 2
        · rw [if_pos (show nI f ≤ 1 from nI_le (b := 1) (by omega) (by omega)), decide_eq_true v]
          rfl
        · rw [if_neg (show ¬ nI f ≤ 1 from nI_ge (a := 1) (by omega) (by omega)), decide_eq_false v]
          rfl
      · have : l' = 0 := h1.resolve_right (fun q => w (hl.mp q))
        rw [if_pos this, decide_eq_false w]
        rfl
    have x4 : (if nI c7 = 0 then (1 : Int32) else if (nI c4 + nI c5) + nI c6 ≤ 0 then 0 else 1) = if (Q.testBit 7 && !Q.testBit 4 && !Q.testBit 5 && !Q.testBit 6) then 0 else 1 := by
      have bb : ∀ (b : Bool) (c : Nat), (b = true ↔ 0 < c) → b = decide (0 < c) := by
        intro b c h
        by_cases w : 0 < c
        · rw [decide_eq_true w]; exact h.mpr w
        · rw [decide_eq_false w]
          cases b
          · rfl
          · exact absurd (h.mp rfl) w
      rw [bb _ _ e4, bb _ _ e5, bb _ _ e6, bb _ _ e7, nI_add, nI_add]
      by_cases w7 : c7 = 0
      · rw [if_pos (by rw [nI_is0 (by omega)]; exact w7), w7]
        rfl
      · rw [if_neg (by rw [nI_is0 (by omega)]; exact w7), decide_eq_true (show 0 < c7 by omega), Bool.true_and]
        by_cases w : c4 + c5 + c6 = 0
        · rw [if_pos (show nI (c4 + c5 + c6) ≤ 0 from nI_le (b := 0) (by omega) (by omega)), decide_eq_false (show ¬ 0 < c4 by omega), decide_eq_false (show ¬ 0 < c5 by omega), decide_eq_false (show ¬ 0 < c6 by omega)]
          rfl
        · rw [if_neg (show ¬ nI (c4 + c5 + c6) ≤ 0 from nI_ge (a := 0) (by omega) (by omega)), if_neg]
          simp
          omega
    have fin : ∀ s1 : Int32, s1 = (if (Q.testBit 1 && Q.testBit 2) then 0 else 1) → nd (if nI c7 = 0 then 1 else if (nI c4 + nI c5) + nI c6 ≤ 0 then 0 else 1) (nd (if l' = 0 then 1 else if nI f ≤ 1 then 0 else 1) (nd (if nI f = 1 then (if nI c5 = 0 then 1 else 0) else 1) (nd s1 1))) = agr (Q.testBit 1) (Q.testBit 2) (Q.testBit 4) (Q.testBit 5) (Q.testBit 6) (Q.testBit 7) (decide (0 < s)) f := by
      intro s1 hs1
      rw [x4, x3, x2, hs1, nd4]
      rfl
    cases hbb : (Q.testBit 1 && Q.testBit 2) with
    | true =>
      rw [if_pos rfl, fin 0 (by rw [hbb]; rfl)]
    | false =>
      rw [if_neg (by decide), fin 1 (by rw [hbb]; rfl)]
