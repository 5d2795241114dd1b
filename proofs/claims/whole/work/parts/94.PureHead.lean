/-! pure: the event's head -/
def mrest (FU n : Nat) (ty : Int32) (tx plain : Nat → Int32) (b g : Int32) (zo : Int32) (st : Int32) (le : Int32) (ex : Int32) (er : Nat → Int32) (go : Int32) (wo : Nat → Int32) (fr : Int32) (parts : Int32) (iv : Int32) (lim : Int32) (unt : Int32) (wb : Int32) (mo : Int32) (mr : Nat → Int32) (md : Int32) (dr : Nat → Int32) (wd : Int32) (wr : Nat → Int32) (wn : Nat → Int32) (po : Int32) (pr : Nat → Int32) : Option (Int32 × Int32 × (Nat → Int32) × Int32 × Int32 × Int32 × Int32 × Int32 × Int32 × (Nat → Int32) × Int32 × (Nat → Int32) × Int32 × Int32 × Int32 × Int32 × Int32 × Int32 × Int32 × (Nat → Int32) × Int32 × (Nat → Int32) × Int32 × (Nat → Int32) × (Nat → Int32) × Int32 × (Nat → Int32)) := bd (f_M_word FU 90513571857722 6 (nI n) plain b) (fun z31 => (if z31.1 = 0 then (f_M_readEvent_190 FU ty tx FU 0 (nI n) plain z31.2 g zo st le ex er go wo fr parts iv lim unt wb mo mr md dr wd wr wn po pr) else bd (f_M_readRule FU (nI n) plain z31.2 g fr parts iv lim unt wb mo mr md dr wd wr wn po pr) (fun z33 => bd (f_M_word FU 10 1 (nI n) plain z33.1) (fun z34 => bd (f_M_need FU z34.1 z33.2.1) (fun z35 => (f_M_readEvent_190 FU ty tx FU 0 (nI n) plain z34.2 z35 zo st le ex er go wo z33.2.2.1 z33.2.2.2.1 z33.2.2.2.2.1 z33.2.2.2.2.2.1 z33.2.2.2.2.2.2.1 z33.2.2.2.2.2.2.2.1 z33.2.2.2.2.2.2.2.2.1 z33.2.2.2.2.2.2.2.2.2.1 z33.2.2.2.2.2.2.2.2.2.2.1 z33.2.2.2.2.2.2.2.2.2.2.2.1 z33.2.2.2.2.2.2.2.2.2.2.2.2.1 z33.2.2.2.2.2.2.2.2.2.2.2.2.2.1 z33.2.2.2.2.2.2.2.2.2.2.2.2.2.2.1 z33.2.2.2.2.2.2.2.2.2.2.2.2.2.2.2.1 z33.2.2.2.2.2.2.2.2.2.2.2.2.2.2.2.2))))))
theorem m127_0 {FU n a : Nat} {ty : Int32} {tx row plain : Nat → Int32} {zo : Int32} {st : Int32} {le : Int32} {ex : Int32} {er : Nat → Int32} {go : Int32} {wo : Nat → Int32} {fr : Int32} {parts : Int32} {iv : Int32} {lim : Int32} {unt : Int32} {wb : Int32} {mo : Int32} {mr : Nat → Int32} {md : Int32} {dr : Nat → Int32} {wd : Int32} {wr : Nat → Int32} {wn : Nat → Int32} {po : Int32} {pr : Nat → Int32} (hF : 300 < FU) (hC : CH n row plain) (ha : a ≤ 98000) (s0 g : Int32) (h : nd s0 g = 0) : ∃ z, f_M_readEvent_127 FU ty tx s0 (nI n) plain (nI a) g zo st le ex er go wo fr parts iv lim unt wb mo mr md dr wd wr wn po pr = some (0, z) := by
  have hn := hC.1
  unfold f_M_readEvent_127
  rw [m_need, bd_ok, h]
  obtain ⟨V, a', h1, h2, h3⟩ := c_number (FU := FU) (a := a) (most := 1440) hF hC (by omega) (by omega) (by omega)
  have hv : f_M_number FU 1440 (nI n) plain (nI a) 0 = some (nI V, nI a', 0) := by
    rcases h3 with h3 | h3
    · exact h3.2.2.2.1 0 (Or.inl rfl)
    · exact h3.1 0 (Or.inl rfl)
  obtain ⟨m, eF⟩ : ∃ m, FU = m + 1 := ⟨FU - 1, by omega⟩
  have e190 : ∀ b, ∃ z, f_M_readEvent_190 FU ty tx FU 0 (nI n) plain (nI b) 0 zo st (nI V) ex er go wo fr parts iv lim unt wb mo mr md dr wd wr wn po pr = some (0, z) := by
    intro b
    rw [show f_M_readEvent_190 FU ty tx FU = f_M_readEvent_190 FU ty tx (m + 1) by rw [← eF], m_190_0]
    exact ⟨_, rfl⟩
  have hw := m_wd (FU := FU) (n := n) (a := a') (plain := plain) [77, 10] 2 19722 2 hF hn (by omega) (by decide) (by decide +kernel) rfl rfl
  rw [hv, bd_ok]
  by_cases q : Wd plain n a' [77, 10]
  · rw [hw.1 q, bd_ok, m_need, bd_ok, nd_g0, if_pos rfl]
    exact e190 _
  · rw [hw.2 q, bd_ok, m_need, bd_ok, nd_g0, if_pos rfl]
    exact e190 _
theorem m67_rest0 {FU n b : Nat} {ty : Int32} {tx row plain : Nat → Int32} {zo : Int32} {st : Int32} {le : Int32} {ex : Int32} {er : Nat → Int32} {go : Int32} {wo : Nat → Int32} {fr : Int32} {parts : Int32} {iv : Int32} {lim : Int32} {unt : Int32} {wb : Int32} {mo : Int32} {mr : Nat → Int32} {md : Int32} {dr : Nat → Int32} {wd : Int32} {wr : Nat → Int32} {wn : Nat → Int32} {po : Int32} {pr : Nat → Int32} (hF : 300 < FU) (hC : CH n row plain) (hb : b ≤ 97000) (st2 : Int32) : ∃ z, bd (f_M_word FU 10 1 (nI n) plain (nI b)) (fun z11 => (if z11.1 = 0 then (f_M_readEvent_127 FU ty tx 0 (nI n) plain z11.2 0 zo st2 le ex er go wo fr parts iv lim unt wb mo mr md dr wd wr wn po pr) else bd (f_M_word FU 4923932208139947854 8 (nI n) plain z11.2) (fun z36 => (if z36.1 = 0 then (f_M_readEvent_127 FU ty tx 0 (nI n) plain z36.2 0 zo st2 le ex er go wo fr parts iv lim unt wb mo mr md dr wd wr wn po pr) else bd (f_M_word FU 3821652 3 (nI n) plain z36.2) (fun z38 => (if z38.1 = 0 then (f_M_readEvent_127 FU ty tx 0 (nI n) plain z38.2 0 zo st2 le ex er go wo fr parts iv lim unt wb mo mr md dr wd wr wn po pr) else (f_M_readEvent_127 FU ty tx 1 (nI n) plain z38.2 0 zo st2 le ex er go wo fr parts iv lim unt wb mo mr md dr wd wr wn po pr))))))) = some (0, z) := by
  have hn := hC.1
  have w0 := m_wd (FU := FU) (n := n) (a := b) (plain := plain) [10] 1 10 1 hF hn (by omega) (by decide) (by decide +kernel) rfl rfl
  have w1 := m_wd (FU := FU) (n := n) (a := b + 1) (plain := plain) [68, 85, 82, 65, 84, 73, 79, 78] 8 4923932208139947854 8 hF hn (by omega) (by decide) (by decide +kernel) rfl rfl
  have w2 := m_wd (FU := FU) (n := n) (a := b + 1 + 8) (plain := plain) [58, 80, 84] 3 3821652 3 hF hn (by omega) (by decide) (by decide +kernel) rfl rfl
  by_cases q0 : Wd plain n b [10]
  · rw [w0.1 q0, bd_ok, if_neg (show ¬ (1 : Int32) = 0 by decide)]
    by_cases q1 : Wd plain n (b + 1) [68, 85, 82, 65, 84, 73, 79, 78]
    · rw [w1.1 q1, bd_ok, if_neg (show ¬ (1 : Int32) = 0 by decide)]
      by_cases q2 : Wd plain n (b + 1 + 8) [58, 80, 84]
      · rw [w2.1 q2, bd_ok, if_neg (show ¬ (1 : Int32) = 0 by decide)]
        exact m127_0 hF hC (by omega) _ _ (nd_g0 _)
      · rw [w2.2 q2, bd_ok, if_pos rfl]
        exact m127_0 hF hC (by omega) _ _ (nd_g0 _)
    · rw [w1.2 q1, bd_ok, if_pos rfl]
      exact m127_0 hF hC (by omega) _ _ (nd_g0 _)
  · rw [w0.2 q0, bd_ok, if_pos rfl]
    exact m127_0 hF hC (by omega) _ _ (nd_g0 _)
theorem m67_0 {FU n a : Nat} {ty : Int32} {tx row plain : Nat → Int32} {zo : Int32} {st : Int32} {le : Int32} {ex : Int32} {er : Nat → Int32} {go : Int32} {wo : Nat → Int32} {fr : Int32} {parts : Int32} {iv : Int32} {lim : Int32} {unt : Int32} {wb : Int32} {mo : Int32} {mr : Nat → Int32} {md : Int32} {dr : Nat → Int32} {wd : Int32} {wr : Nat → Int32} {wn : Nat → Int32} {po : Int32} {pr : Nat → Int32} (hF : 300 < FU) (hC : CH n row plain) (ha : a ≤ 96000) : ∃ z, f_M_readEvent_67 FU ty tx (nI n) plain (nI a) 0 zo st le ex er go wo fr parts iv lim unt wb mo mr md dr wd wr wn po pr = some (0, z) := by
  have hn := hC.1
  have w0 := m_wd (FU := FU) (n := n) (a := a) (plain := plain) [58] 1 58 1 hF hn (by omega) (by decide) (by decide +kernel) rfl rfl
  unfold f_M_readEvent_67
  by_cases q0 : Wd plain n a [58]
  · obtain ⟨a', h1, h2, h3⟩ := m_time0 (FU := FU) (plain := plain) (a := a + 1) hF hn (by omega)
    rw [w0.1 q0, bd_ok, m_need, bd_ok, nd_g0, h3, bd_ok]
    exact m67_rest0 (st := st) hF hC (by omega) _
  · obtain ⟨a', h1, h2, h3⟩ := m_time0 (FU := FU) (plain := plain) (a := a) hF hn (by omega)
    rw [w0.2 q0, bd_ok, m_need, bd_ok, nd_g0, h3, bd_ok]
    exact m67_rest0 (st := st) hF hC (by omega) _
theorem c_67 {FU n a : Nat} {ty st0 du : Int32} {tx row plain : Nat → Int32} {zo : Int32} {st : Int32} {le : Int32} {ex : Int32} {er : Nat → Int32} {go : Int32} {wo : Nat → Int32} {fr : Int32} {parts : Int32} {iv : Int32} {lim : Int32} {unt : Int32} {wb : Int32} {mo : Int32} {mr : Nat → Int32} {md : Int32} {dr : Nat → Int32} {wd : Int32} {wr : Nat → Int32} {wn : Nat → Int32} {po : Int32} {pr : Nat → Int32} (hF : 300 < FU) (hC : CH n row plain) (ha : a ≤ n) :
    (∃ S D a1 a', S ≤ 10519199 ∧ 1 ≤ D ∧ D ≤ 1440 ∧ a' ≤ n ∧ f_Draft_readStart_51 FU row (nI n) zo st0 (nI a) = some (1, zo, nI S, nI a1) ∧ f_Draft_readDuration FU du row (nI n) (nI a1) = some (1, nI D, nI a') ∧ f_M_readEvent_67 FU ty tx (nI n) plain (nI a) 1 zo st le ex er go wo fr parts iv lim unt wb mo mr md dr wd wr wn po pr = mrest FU n ty tx plain (nI a') 1 zo (nI S) (nI D) ex er go wo fr parts iv lim unt wb mo mr md dr wd wr wn po pr) ∨
    ((∃ z, f_M_readEvent_67 FU ty tx (nI n) plain (nI a) 1 zo st le ex er go wo fr parts iv lim unt wb mo mr md dr wd wr wn po pr = some (0, z)) ∧ ((∃ y, f_Draft_readStart_51 FU row (nI n) zo st0 (nI a) = some (0, y)) ∨ ∃ s1 a1 y, f_Draft_readStart_51 FU row (nI n) zo st0 (nI a) = some (1, zo, s1, a1) ∧ f_Draft_readDuration FU du row (nI n) a1 = some (0, y))) := by
  have hn := hC.1
  have g01 : (1 : Int32) = 0 ∨ (1 : Int32) = 1 := Or.inr rfl
  generalize hX : f_Draft_readStart_51 FU row (nI n) zo st0 (nI a) = X
  generalize hY : f_M_readEvent_67 FU ty tx (nI n) plain (nI a) 1 zo st le ex er go wo fr parts iv lim unt wb mo mr md dr wd wr wn po pr = Y
  have eK := hX.symm
  have eM := hY.symm
  unfold f_Draft_readStart_51 at eK
  unfold f_M_readEvent_67 at eM
  have w0 := m_wd (FU := FU) (n := n) (a := a) (plain := plain) [58] 1 58 1 hF hn (by omega) (by decide) (by decide +kernel) rfl rfl
  by_cases q0 : Wd plain n a [58]
  rotate_left
  · rw [(k_take (FU := FU) hC ha 58).2 q0, bd_ok, if_pos rfl] at eK
    obtain ⟨a', h1, h2, h3⟩ := m_time0 (FU := FU) (plain := plain) (a := a) hF hn (by omega)
    rw [w0.2 q0, bd_ok, m_need, bd_ok, nd_00, h3, bd_ok] at eM
    obtain ⟨z, hz⟩ := m67_rest0 (FU := FU) (row := row) (plain := plain) (b := a') (zo := zo) (st := st) (le := le) (ex := ex) (er := er) (go := go) (wo := wo) (fr := fr) (parts := parts) (iv := iv) (lim := lim) (unt := unt) (wb := wb) (mo := mo) (mr := mr) (md := md) (dr := dr) (wd := wd) (wr := wr) (wn := wn) (po := po) (pr := pr) (ty := ty) (tx := tx) hF hC (by omega) 0
    exact Or.inr ⟨⟨z, eM.trans hz⟩, Or.inl ⟨_, eK⟩⟩
  have ha1 := (wd1.mp q0).1
  rw [(k_take (FU := FU) hC ha 58).1 q0, bd_ok, if_neg (show ¬ (1 : Int32) = 0 by decide)] at eK
  rw [w0.1 q0, bd_ok, m_need, bd_ok, nd_1 1 g01] at eM
  rcases c_time (FU := FU) (a := a + 1) hF hC ha1 with ⟨S, t1, t2, t3, t4⟩ | ⟨b, b', t0, t1, t2, t3, t4⟩
  rotate_left
  · rw [t4, bd_ok, if_pos (show (-1 : Int32) < 0 by decide)] at eK
    rw [t3, bd_ok] at eM
    obtain ⟨z, hz⟩ := m67_rest0 (FU := FU) (row := row) (plain := plain) (b := b) (zo := zo) (st := st) (le := le) (ex := ex) (er := er) (go := go) (wo := wo) (fr := fr) (parts := parts) (iv := iv) (lim := lim) (unt := unt) (wb := wb) (mo := mo) (mr := mr) (md := md) (dr := dr) (wd := wd) (wr := wr) (wn := wn) (po := po) (pr := pr) (ty := ty) (tx := tx) hF hC (by omega) 0
    exact Or.inr ⟨⟨z, eM.trans hz⟩, Or.inl ⟨_, eK⟩⟩
  rw [t4, bd_ok, if_neg (nI_pos (by omega))] at eK
  rw [t3, bd_ok] at eM
  have w10 := m_wd (FU := FU) (n := n) (a := a + 1 + 13) (plain := plain) [10] 1 10 1 hF hn (by omega) (by decide) (by decide +kernel) rfl rfl
  have k10 := k_take (FU := FU) hC t2 10
  by_cases q1 : Wd plain n (a + 1 + 13) [10]
  rotate_left
  · rw [k10.2 q1, bd_ok, if_pos rfl] at eK
    rw [w10.2 q1, bd_ok, if_pos rfl] at eM
    obtain ⟨z, hz⟩ := m127_0 (FU := FU) (row := row) (plain := plain) (a := a + 1 + 13) (zo := zo) (st := nI S) (le := le) (ex := ex) (er := er) (go := go) (wo := wo) (fr := fr) (parts := parts) (iv := iv) (lim := lim) (unt := unt) (wb := wb) (mo := mo) (mr := mr) (md := md) (dr := dr) (wd := wd) (wr := wr) (wn := wn) (po := po) (pr := pr) (ty := ty) (tx := tx) hF hC (by omega) 0 1 (nd_00 _)
    exact Or.inr ⟨⟨z, eM.trans hz⟩, Or.inl ⟨_, eK⟩⟩
  have ha2 := (wd1.mp q1).1
  rw [k10.1 q1, bd_ok, if_neg (show ¬ (1 : Int32) = 0 by decide)] at eK
  rw [w10.1 q1, bd_ok, if_neg (show ¬ (1 : Int32) = 0 by decide)] at eM
  generalize hZ : f_Draft_readDuration FU du row (nI n) (nI (a + 1 + 13 + 1)) = Z
  have eD := hZ.symm
  unfold f_Draft_readDuration at eD
  have kD := k_wd (FU := FU) (a := a + 1 + 13 + 1) 13 [68, 85, 82, 65, 84, 73, 79, 78, 58, 80, 84] 11 hF hC (by omega) ha2 rfl rfl
  have eW : Wd plain n (a + 1 + 13 + 1) [68, 85, 82, 65, 84, 73, 79, 78, 58, 80, 84] ↔ Wd plain n (a + 1 + 13 + 1) [68, 85, 82, 65, 84, 73, 79, 78] ∧ Wd plain n (a + 1 + 13 + 1 + 8) [58, 80, 84] := wd_app (l1 := [68, 85, 82, 65, 84, 73, 79, 78]) (l2 := [58, 80, 84])
  have w1 := m_wd (FU := FU) (n := n) (a := a + 1 + 13 + 1) (plain := plain) [68, 85, 82, 65, 84, 73, 79, 78] 8 4923932208139947854 8 hF hn (by omega) (by decide) (by decide +kernel) rfl rfl
  have w2 := m_wd (FU := FU) (n := n) (a := a + 1 + 13 + 1 + 8) (plain := plain) [58, 80, 84] 3 3821652 3 hF hn (by omega) (by decide) (by decide +kernel) rfl rfl
  have bad : (∃ z, Y = some (0, z)) → (∃ y, Z = some (0, y)) → (∃ S D a1 a', S ≤ 10519199 ∧ 1 ≤ D ∧ D ≤ 1440 ∧ a' ≤ n ∧ X = some (1, zo, nI S, nI a1) ∧ f_Draft_readDuration FU du row (nI n) (nI a1) = some (1, nI D, nI a') ∧ Y = mrest FU n ty tx plain (nI a') 1 zo (nI S) (nI D) ex er go wo fr parts iv lim unt wb mo mr md dr wd wr wn po pr) ∨
    ((∃ z, Y = some (0, z)) ∧ ((∃ y, X = some (0, y)) ∨ ∃ s1 a1 y, X = some (1, zo, s1, a1) ∧ f_Draft_readDuration FU du row (nI n) a1 = some (0, y))) := by
    intro h1 ⟨y, h2⟩
    exact Or.inr ⟨h1, Or.inr ⟨_, _, y, eK, by rw [← h2, ← hZ]⟩⟩
  by_cases q2 : Wd plain n (a + 1 + 13 + 1) [68, 85, 82, 65, 84, 73, 79, 78]
  rotate_left
  · rw [kD.2 (fun w => q2 (eW.mp w).1), bd_ok, if_pos rfl] at eD
    rw [w1.2 q2, bd_ok, if_pos rfl] at eM
    obtain ⟨z, hz⟩ := m127_0 (FU := FU) (row := row) (plain := plain) (a := a + 1 + 13 + 1) (zo := zo) (st := nI S) (le := le) (ex := ex) (er := er) (go := go) (wo := wo) (fr := fr) (parts := parts) (iv := iv) (lim := lim) (unt := unt) (wb := wb) (mo := mo) (mr := mr) (md := md) (dr := dr) (wd := wd) (wr := wr) (wn := wn) (po := po) (pr := pr) (ty := ty) (tx := tx) hF hC (by omega) 0 1 (nd_00 _)
    exact bad ⟨z, eM.trans hz⟩ ⟨_, eD⟩
  rw [w1.1 q2, bd_ok, if_neg (show ¬ (1 : Int32) = 0 by decide)] at eM
  by_cases q3 : Wd plain n (a + 1 + 13 + 1 + 8) [58, 80, 84]
  rotate_left
  · rw [kD.2 (fun w => q3 (eW.mp w).2), bd_ok, if_pos rfl] at eD
    rw [w2.2 q3, bd_ok, if_pos rfl] at eM
    obtain ⟨z, hz⟩ := m127_0 (FU := FU) (row := row) (plain := plain) (a := a + 1 + 13 + 1 + 8) (zo := zo) (st := nI S) (le := le) (ex := ex) (er := er) (go := go) (wo := wo) (fr := fr) (parts := parts) (iv := iv) (lim := lim) (unt := unt) (wb := wb) (mo := mo) (mr := mr) (md := md) (dr := dr) (wd := wd) (wr := wr) (wn := wn) (po := po) (pr := pr) (ty := ty) (tx := tx) hF hC (by omega) 0 1 (nd_00 _)
    exact bad ⟨z, eM.trans hz⟩ ⟨_, eD⟩
  have ha3 : a + 1 + 13 + 1 + 8 + 3 ≤ n := wd_le q3
  rw [w2.1 q3, bd_ok, if_neg (show ¬ (1 : Int32) = 0 by decide)] at eM
  rw [kD.1 (eW.mpr ⟨q2, q3⟩), bd_ok, if_neg (show ¬ (1 : Int32) = 0 by decide)] at eD
  unfold f_M_readEvent_127 at eM
  rw [m_need, bd_ok, nd_1 1 g01] at eM
  obtain ⟨V, a4, h1, h2, h3⟩ := c_number (FU := FU) (a := a + 1 + 13 + 1 + 8 + 3) (most := 1440) hF hC (by omega) (by omega) (by omega)
  obtain ⟨m, eF⟩ : ∃ m, FU = m + 1 := ⟨FU - 1, by omega⟩
  have e190 : ∀ b, ∃ z, f_M_readEvent_190 FU ty tx FU 0 (nI n) plain (nI b) 0 zo (nI S) (nI V) ex er go wo fr parts iv lim unt wb mo mr md dr wd wr wn po pr = some (0, z) := by
    intro b
    rw [show f_M_readEvent_190 FU ty tx FU = f_M_readEvent_190 FU ty tx (m + 1) by rw [← eF], m_190_0]
    exact ⟨_, rfl⟩
  have hw := m_wd (FU := FU) (n := n) (a := a4) (plain := plain) [77, 10] 2 19722 2 hF hn (by omega) (by decide) (by decide +kernel) rfl rfl
  rcases h3 with ⟨v1, v2, v3, v4, v5⟩ | ⟨v1, v2⟩
  rotate_left
  · obtain ⟨b, c1, c2⟩ := v2 ha3
    have c2 : f_Reader_takeNumber FU 1440 row (nI n) (nI (a + 1 + 13 + 1 + 11)) = some (0, nI b) := c2
    have v1 : f_M_number FU 1440 (nI n) plain (nI (a + 1 + 13 + 1 + 8 + 3)) 1 = some (nI V, nI a4, 0) := v1 1 g01
    rw [c2, bd_ok, if_pos (show (0 : Int32) ≤ 0 by decide)] at eD
    rw [v1, bd_ok] at eM
    by_cases q : Wd plain n a4 [77, 10]
    · rw [hw.1 q, bd_ok, m_need, bd_ok, nd_g0, if_pos rfl] at eM
      obtain ⟨z, hz⟩ := e190 (a4 + 2)
      exact bad ⟨z, eM.trans hz⟩ ⟨_, eD⟩
    · rw [hw.2 q, bd_ok, m_need, bd_ok, nd_g0, if_pos rfl] at eM
      obtain ⟨z, hz⟩ := e190 a4
      exact bad ⟨z, eM.trans hz⟩ ⟨_, eD⟩
  have v5 : f_Reader_takeNumber FU 1440 row (nI n) (nI (a + 1 + 13 + 1 + 11)) = some (nI V, nI a4) := v5
  have v4 : f_M_number FU 1440 (nI n) plain (nI (a + 1 + 13 + 1 + 8 + 3)) 1 = some (nI V, nI a4, 1) := v4 1 g01
  rw [v5, bd_ok, if_neg (nI_le0 v1 (by omega))] at eD
  rw [v4, bd_ok] at eM
  have k77 := k_take (FU := FU) hC v3 77
  have e2 : Wd plain n a4 [77, 10] ↔ Wd plain n a4 [77] ∧ Wd plain n (a4 + 1) [10] := wd_app (l1 := [77]) (l2 := [10])
  by_cases r1 : Wd plain n a4 [77]
  rotate_left
  · rw [k77.2 r1, bd_ok, if_pos rfl] at eD
    rw [hw.2 (fun w => r1 (e2.mp w).1), bd_ok, m_need, bd_ok, nd_00, if_pos rfl] at eM
    obtain ⟨z, hz⟩ := e190 a4
    exact bad ⟨z, eM.trans hz⟩ ⟨_, eD⟩
  rw [k77.1 r1, bd_ok, if_neg (show ¬ (1 : Int32) = 0 by decide)] at eD
  have k10' := k_take (FU := FU) hC (wd1.mp r1).1 10
  by_cases r2 : Wd plain n (a4 + 1) [10]
  rotate_left
  · rw [k10'.2 r2, bd_ok, if_pos rfl] at eD
    rw [hw.2 (fun w => r2 (e2.mp w).2), bd_ok, m_need, bd_ok, nd_00, if_pos rfl] at eM
    obtain ⟨z, hz⟩ := e190 a4
    exact bad ⟨z, eM.trans hz⟩ ⟨_, eD⟩
  rw [k10'.1 r2, bd_ok, if_neg (show ¬ (1 : Int32) = 0 by decide)] at eD
  rw [hw.1 (e2.mpr ⟨r1, r2⟩), bd_ok, m_need, bd_ok, nd_1 1 g01, if_neg (show ¬ (1 : Int32) = 0 by decide)] at eM
  refine Or.inl ⟨S, V, a + 1 + 13 + 1, a4 + 1 + 1, t1, v1, v2, (wd1.mp r2).1, eK, hZ.trans eD, ?_⟩
  rw [eM]
  rfl
