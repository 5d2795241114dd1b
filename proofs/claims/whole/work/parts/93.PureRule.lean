/-! pure: the rule's loop -/
theorem m96_bad {FU n a m c' : Nat} {plain : Nat → Int32} {parts' : Int32} {iv' : Int32} {lim' : Int32} {unt' : Int32} {wb' : Int32} {mo' : Int32} {mr' : Nat → Int32} {md' : Int32} {dr' : Nat → Int32} {wr' : Nat → Int32} {wn' : Nat → Int32} {po' : Int32} {pr' : Nat → Int32} (hF : 300 < FU) (hn : n ≤ 240) (ha : a ≤ 100000) (hc : c' ≤ 8) (g fr : Int32) (hg : g = 0 ∨ (g = 1 ∧ Wd plain n a [44])) : ∃ g', (g' = 0 ∨ (g' = 1 ∧ Wd plain n a [44])) ∧ f_M_readRule_96 FU (nI n) plain (m + 1) (nI a) g fr parts' iv' lim' unt' wb' mo' mr' md' dr' (nI c') wr' wn' po' pr' = some (nI a, g', fr, parts', iv', lim', unt', wb', mo', mr', md', dr', nI c', wr', wn', po', pr') := by
  have e : f_M_readRule_96 FU (nI n) plain (m + 1) (nI a) g fr parts' iv' lim' unt' wb' mo' mr' md' dr' (nI c') wr' wn' po' pr' = f_M_readRule_96_hd FU (nI n) plain (f_M_readRule_96 FU (nI n) plain m) (nI a) g fr parts' iv' lim' unt' wb' mo' mr' md' dr' (nI c') wr' wn' po' pr' := rfl
  unfold f_M_readRule_96_hd at e
  obtain ⟨g', h1, h2, h3⟩ := m_tail (FU := FU) (n := n) (a := a) (c := c') (plain := plain) (parts := parts') (iv := iv') (lim := lim') (unt := unt') (wb := wb') (mo := mo') (mr := mr') (md := md') (dr := dr') (wr := wr') (wn := wn') (po := po') (pr := pr') hF g fr (hg.elim Or.inl (fun w => Or.inr w.1)) hc
  rcases hg with rfl | ⟨rfl, hw⟩
  · rw [if_pos rfl, h3] at e
    exact ⟨g', Or.inl (h2 rfl), e⟩
  · have w59 : ¬ Wd plain n a [59] := fun w => by
      have a1 := (wd1.mp w).2
      have a2 := (wd1.mp hw).2
      rw [a1] at a2
      exact absurd a2 (by decide)
    rw [if_neg (show ¬ (1 : Int32) = 0 by decide), (m_wd (FU := FU) (n := n) (a := a) (plain := plain) [59] 1 59 1 hF hn ha (by decide) (by decide +kernel) rfl rfl).2 w59, bd_ok, if_pos rfl, h3] at e
    exact ⟨g', h1.elim Or.inl (fun w => Or.inr ⟨w, hw⟩), e⟩
theorem c_rloop {FU n f : Nat} {row plain : Nat → Int32} (hF : 300 < FU) (hC : CH n row plain) (hf : f < 4) : ∀ (m i a Q : Nat) (givn : Int32) (intv : Int32) (cnt : Int32) (untl : Int32) (wst : Int32) (km : Int32) (kd : Int32) (ke : Int32) (kw : Int32) (nW : Nat → Int32) (wN : Nat → Int32) (nS : Int32) (ps : Nat → Int32) (pS : Int32) (parts : Int32) (iv : Int32) (lim : Int32) (unt : Int32) (wb : Int32) (mo : Int32) (mr : Nat → Int32) (md : Int32) (dr : Nat → Int32) (wd : Int32) (wr : Nat → Int32) (wn : Nat → Int32) (po : Int32) (pr : Nat → Int32), i ≤ 8 → 9 - i < m → a ≤ n → pcn Q = i → RR Q givn intv cnt untl wst km kd ke kw nW wN nS ps pS parts iv lim unt wb mo mr md dr wd wr wn po pr →
    (∃ (Q' a' : Nat) (givn' : Int32) (intv' : Int32) (cnt' : Int32) (untl' : Int32) (wst' : Int32) (km' : Int32) (kd' : Int32) (ke' : Int32) (kw' : Int32) (nW' : Nat → Int32) (wN' : Nat → Int32) (nS' : Int32) (ps' : Nat → Int32) (pS' : Int32) (parts' : Int32) (iv' : Int32) (lim' : Int32) (unt' : Int32) (wb' : Int32) (mo' : Int32) (mr' : Nat → Int32) (md' : Int32) (dr' : Nat → Int32) (wd' : Int32) (wr' : Nat → Int32) (wn' : Nat → Int32) (po' : Int32) (pr' : Nat → Int32), a' ≤ n ∧ RR Q' givn' intv' cnt' untl' wst' km' kd' ke' kw' nW' wN' nS' ps' pS' parts' iv' lim' unt' wb' mo' mr' md' dr' wd' wr' wn' po' pr' ∧ f_Rule_readFrom_23 FU row (nI n) m (nI i) (nI (f + 1)) givn intv cnt untl wst km kd ke kw nW wN nS ps pS (nI a) = some ((1 : Int32), nI (f + 1), givn', intv', cnt', untl', wst', km', kd', ke', kw', nW', wN', nS', ps', pS', nI a') ∧ f_M_readRule_96 FU (nI n) plain m (nI a) 1 (nI f) parts iv lim unt wb mo mr md dr wd wr wn po pr = some (nI a', 1, nI f, parts', iv', lim', unt', wb', mo', mr', md', dr', wd', wr', wn', po', pr')) ∨
    (∃ (b a' : Nat) (g' : Int32) (givn' : Int32) (intv' : Int32) (cnt' : Int32) (untl' : Int32) (wst' : Int32) (km' : Int32) (kd' : Int32) (ke' : Int32) (kw' : Int32) (nW' : Nat → Int32) (wN' : Nat → Int32) (nS' : Int32) (ps' : Nat → Int32) (pS' : Int32), ∃ z, b ≤ n ∧ a' ≤ n + 500 ∧ (g' = 0 ∨ (g' = 1 ∧ Wd plain n a' [44])) ∧ f_Rule_readFrom_23 FU row (nI n) m (nI i) (nI (f + 1)) givn intv cnt untl wst km kd ke kw nW wN nS ps pS (nI a) = some ((0 : Int32), nI (f + 1), givn', intv', cnt', untl', wst', km', kd', ke', kw', nW', wN', nS', ps', pS', nI b) ∧ f_M_readRule_96 FU (nI n) plain m (nI a) 1 (nI f) parts iv lim unt wb mo mr md dr wd wr wn po pr = some (nI a', g', z)) := by
  have hn := hC.1
  intro m
  induction m with
  | zero => intro i a Q givn intv cnt untl wst km kd ke kw nW wN nS ps pS parts iv lim unt wb mo mr md dr wd wr wn po pr _ h; omega
  | succ m ih =>
    intro i a Q givn intv cnt untl wst km kd ke kw nW wN nS ps pS parts iv lim unt wb mo mr md dr wd wr wn po pr hi hm ha hpc hR
    have eK : f_Rule_readFrom_23 FU row (nI n) (m + 1) (nI i) (nI (f + 1)) givn intv cnt untl wst km kd ke kw nW wN nS ps pS (nI a) = f_Rule_readFrom_23_hd FU row (nI n) (f_Rule_readFrom_23 FU row (nI n) m) (nI i) (nI (f + 1)) givn intv cnt untl wst km kd ke kw nW wN nS ps pS (nI a) := rfl
    have eM : f_M_readRule_96 FU (nI n) plain (m + 1) (nI a) 1 (nI f) parts iv lim unt wb mo mr md dr wd wr wn po pr = f_M_readRule_96_hd FU (nI n) plain (f_M_readRule_96 FU (nI n) plain m) (nI a) 1 (nI f) parts iv lim unt wb mo mr md dr wd wr wn po pr := rfl
    unfold f_Rule_readFrom_23_hd at eK
    unfold f_M_readRule_96_hd at eM
    rw [if_neg (show ¬ (1 : Int32) = 0 by decide)] at eM
    have hw := m_wd (FU := FU) (n := n) (a := a) (plain := plain) [59] 1 59 1 hF hn (by omega) (by decide) (by decide +kernel) rfl rfl
    have hk := k_take (FU := FU) hC ha 59
    obtain ⟨z, hz, hz255, zK, zM⟩ := c_agree (FU := FU) (n := n) (a := a) (plain := plain) hF hf hR
    have e54 : f_Rule_readFrom_54 FU row (nI n) (nI (f + 1)) givn intv cnt untl wst km kd ke kw nW wN nS ps pS (nI a) = some (z, nI (f + 1), givn, intv, cnt, untl, wst, km, kd, ke, kw, nW, wN, nS, ps, pS, nI a) := by
      unfold f_Rule_readFrom_54
      rw [zK, bd_ok]
      rcases hz with rfl | rfl
      · rw [ckz_0]
      · rw [ckz_1]
    obtain ⟨m', rfl⟩ : ∃ q, m = q + 1 := ⟨m - 1, by omega⟩
    by_cases h8 : 8 ≤ i
    · have hQ := (pcn_8 Q hR.1).2 (by omega)
      have hz0 := hz255 hQ
      subst hz0
      rw [if_pos (show 8 ≤ nI i from nI_le (a := 8) h8 (by omega)), e54] at eK
      by_cases q : Wd plain n a [59]
      · rw [hw.1 q, bd_ok, if_neg (show ¬ (1 : Int32) = 0 by decide)] at eM
        rcases c_part (FU := FU) (a := a + 1) hF hC (wd1.mp q).1 hR with ⟨Q', a', givn', intv', cnt', untl', wst', km', kd', ke', kw', nW', wN', nS', ps', pS', parts', iv', lim', unt', wb', mo', mr', md', dr', wd', wr', wn', po', pr', c1, c2, c3, c4, c5⟩ | ⟨b, a', c', g', givn', intv', cnt', untl', wst', km', kd', ke', kw', nW', wN', nS', ps', pS', parts', iv', lim', unt', wb', mo', mr', md', dr', wr', wn', po', pr', c1, c2, c3, c4, c5, c6⟩
        · have := (pcn_8 Q' c3.1).1
          omega
        · rw [c6, bd_ok] at eM
          obtain ⟨g2, d1, d2⟩ := m96_bad (FU := FU) (n := n) (a := a') (m := m') (c' := c') (plain := plain) (parts' := parts') (iv' := iv') (lim' := lim') (unt' := unt') (wb' := wb') (mo' := mo') (mr' := mr') (md' := md') (dr' := dr') (wr' := wr') (wn' := wn') (po' := po') (pr' := pr') hF hn (by omega) c3 g' (nI f) c4
          exact Or.inr ⟨a, a', g2, _, _, _, _, _, _, _, _, _, _, _, _, _, _, _, ha, c2, d1, eK, eM.trans d2⟩
      · rw [hw.2 q, bd_ok, if_pos rfl, zM] at eM
        exact Or.inr ⟨a, a, 0, _, _, _, _, _, _, _, _, _, _, _, _, _, _, _, ha, by omega, Or.inl rfl, eK, eM⟩
    · rw [if_neg (show ¬ 8 ≤ nI i from nI_ge (b := 8) (by omega) (by omega))] at eK
      by_cases q : Wd plain n a [59]
      · rw [hw.1 q, bd_ok, if_neg (show ¬ (1 : Int32) = 0 by decide)] at eM
        rw [hk.1 q, bd_ok, if_neg (show ¬ (1 : Int32) = 0 by decide)] at eK
        rcases c_part (FU := FU) (a := a + 1) hF hC (wd1.mp q).1 hR with ⟨Q', a', givn', intv', cnt', untl', wst', km', kd', ke', kw', nW', wN', nS', ps', pS', parts', iv', lim', unt', wb', mo', mr', md', dr', wd', wr', wn', po', pr', c1, c2, c3, c4, c5⟩ | ⟨b, a', c', g', givn', intv', cnt', untl', wst', km', kd', ke', kw', nW', wN', nS', ps', pS', parts', iv', lim', unt', wb', mo', mr', md', dr', wr', wn', po', pr', c1, c2, c3, c4, c5, c6⟩
        · rw [c5, bd_ok] at eM
          rw [c4, bd_ok, if_neg (show ¬ (1 : Int32) = 0 by decide), nI_1] at eK
          rw [eK, eM]
          exact ih (i + 1) a' Q' _ _ _ _ _ _ _ _ _ _ _ _ _ _ _ _ _ _ _ _ _ _ _ _ _ _ _ _ (by omega) (by omega) c1 (by omega) c3
        · rw [c6, bd_ok] at eM
          rw [c5, bd_ok, if_pos rfl] at eK
          obtain ⟨g2, d1, d2⟩ := m96_bad (FU := FU) (n := n) (a := a') (m := m') (c' := c') (plain := plain) (parts' := parts') (iv' := iv') (lim' := lim') (unt' := unt') (wb' := wb') (mo' := mo') (mr' := mr') (md' := md') (dr' := dr') (wr' := wr') (wn' := wn') (po' := po') (pr' := pr') hF hn (by omega) c3 g' (nI f) c4
          exact Or.inr ⟨b, a', g2, _, _, _, _, _, _, _, _, _, _, _, _, _, _, _, c1, c2, d1, eK, eM.trans d2⟩
      · rw [hw.2 q, bd_ok, if_pos rfl, zM] at eM
        rw [hk.2 q, bd_ok, if_pos rfl, e54] at eK
        rcases hz with rfl | rfl
        · exact Or.inr ⟨a, a, 0, _, _, _, _, _, _, _, _, _, _, _, _, _, _, _, ha, by omega, Or.inl rfl, eK, eM⟩
        · exact Or.inl ⟨Q, a, _, _, _, _, _, _, _, _, _, _, _, _, _, _, _, _, _, _, _, _, _, _, _, _, _, _, _, _, ha, hR, eK, eM⟩
theorem RR_start {nW : Nat → Int32} {wN : Nat → Int32} {ps : Nat → Int32} {mr : Nat → Int32} {dr : Nat → Int32} {wr : Nat → Int32} {wn : Nat → Int32} {pr : Nat → Int32} : RR 0 0 1 7306 10519199 0 0 0 0 0 nW wN 0 ps 0 0 1 0 (-1) 0 0 mr 0 dr 0 wr wn 0 pr := by
  refine ⟨by omega, rfl, rfl, ⟨1, by omega, by omega, rfl, rfl⟩, ⟨fun w => absurd w (by decide), fun _ => ⟨rfl, rfl⟩⟩, ⟨fun w => absurd w (by decide), fun _ => ⟨rfl, rfl⟩⟩, ⟨0, by omega, rfl, rfl⟩, ⟨0, by omega, rfl, by decide, ?_⟩, ⟨0, by omega, rfl, by decide, ?_⟩, ⟨0, by omega, rfl, by decide, ?_⟩, ⟨0, by omega, rfl, by decide, ?_⟩⟩
  · exact ⟨fun j hj => by omega, fun v hv => ⟨fun w => absurd w (bt_0 hv), fun ⟨j, hj, _⟩ => by omega⟩⟩
  · exact ⟨fun j hj => by omega, fun v _ hv => ⟨fun w => absurd w (bt_0 hv), fun ⟨j, hj, _⟩ => by omega⟩, fun v _ hv => ⟨fun w => absurd w (bt_0 hv), fun ⟨j, hj, _⟩ => by omega⟩⟩
  · exact ⟨fun j hj => by omega, fun w hw => ⟨fun q => absurd q (bt_0 (by omega)), fun ⟨j, hj, _⟩ => by omega⟩, 0, by omega, rfl, fun i hi => by omega, fun j hj => by omega⟩
  · exact ⟨rfl, fun j hj => by omega⟩
theorem m77_0 {FU n a : Nat} {plain : Nat → Int32} {mr : Nat → Int32} {dr : Nat → Int32} {wr : Nat → Int32} {wn : Nat → Int32} {pr : Nat → Int32} {fr0 : Int32} (hF : 300 < FU) (hn : n ≤ 240) (ha : a ≤ 100000) (s0 g : Int32) (hg : g = 0 ∨ s0 < 0) : ∃ g' z, g' = 0 ∧ f_M_readRule_77 FU (nI n) plain s0 (nI a) g fr0 0 1 0 (-1) 0 0 mr 0 dr 0 wr wn 0 pr = some (nI a, g', z) := by
  unfold f_M_readRule_77 f_M_readRule_93
  rw [m_need, m_need, bd_ok, bd_ok, nd_00]
  obtain ⟨m, eF⟩ : ∃ m, FU = m + 1 := ⟨FU - 1, by omega⟩
  have e0 : ∀ x, ∃ g' z, g' = 0 ∧ f_M_readRule_96 FU (nI n) plain FU (nI a) 0 x 0 1 0 (-1) 0 0 mr 0 dr 0 wr wn 0 pr = some (nI a, g', z) := by
    intro x
    have e : f_M_readRule_96 FU (nI n) plain FU (nI a) 0 x 0 1 0 (-1) 0 0 mr 0 dr 0 wr wn 0 pr = f_M_readRule_96_hd FU (nI n) plain (f_M_readRule_96 FU (nI n) plain m) (nI a) 0 x 0 1 0 (-1) 0 0 mr 0 dr 0 wr wn 0 pr := by
      conv => lhs; rw [show f_M_readRule_96 FU (nI n) plain FU = f_M_readRule_96 FU (nI n) plain (m + 1) by rw [← eF]]
      rfl
    unfold f_M_readRule_96_hd at e
    obtain ⟨g', h1, h2, h3⟩ := m_tail (FU := FU) (n := n) (a := a) (c := 0) (plain := plain) (parts := 0) (iv := 1) (lim := 0) (unt := (-1)) (wb := 0) (mo := 0) (mr := mr) (md := 0) (dr := dr) (wr := wr) (wn := wn) (po := 0) (pr := pr) hF 0 x (Or.inl rfl) (by omega)
    have h3 : f_M_readRule_125 FU (nI n) plain FU 0 0 (nI a) 0 x 0 1 0 (-1) 0 0 mr 0 dr 0 wr wn 0 pr = _ := h3
    rw [if_pos rfl, h3] at e
    exact ⟨g', _, h2 rfl, e⟩
  by_cases h : s0 < 0
  · rw [if_pos h]
    exact e0 _
  · rw [if_neg h, hg.resolve_right h, nd_g0]
    exact e0 _
theorem c_rule {FU n a : Nat} {row plain : Nat → Int32} {fq fr0 : Int32} {givn : Int32} {intv : Int32} {cnt : Int32} {untl : Int32} {wst : Int32} {km : Int32} {kd : Int32} {ke : Int32} {kw : Int32} {nW : Nat → Int32} {wN : Nat → Int32} {nS : Int32} {ps : Nat → Int32} {pS : Int32} {mr : Nat → Int32} {dr : Nat → Int32} {wr : Nat → Int32} {wn : Nat → Int32} {pr : Nat → Int32} (hF : 300 < FU) (hC : CH n row plain) (ha : a ≤ n) :
    (∃ (f Q' a' : Nat) (givn' : Int32) (intv' : Int32) (cnt' : Int32) (untl' : Int32) (wst' : Int32) (km' : Int32) (kd' : Int32) (ke' : Int32) (kw' : Int32) (nW' : Nat → Int32) (wN' : Nat → Int32) (nS' : Int32) (ps' : Nat → Int32) (pS' : Int32) (parts' : Int32) (iv' : Int32) (lim' : Int32) (unt' : Int32) (wb' : Int32) (mo' : Int32) (mr' : Nat → Int32) (md' : Int32) (dr' : Nat → Int32) (wd' : Int32) (wr' : Nat → Int32) (wn' : Nat → Int32) (po' : Int32) (pr' : Nat → Int32), f < 4 ∧ a' ≤ n ∧ RR Q' givn' intv' cnt' untl' wst' km' kd' ke' kw' nW' wN' nS' ps' pS' parts' iv' lim' unt' wb' mo' mr' md' dr' wd' wr' wn' po' pr' ∧ f_Rule_readFrom FU fq givn intv cnt untl wst km kd ke kw nW wN nS ps pS row (nI n) (nI a) = some ((1 : Int32), nI (f + 1), givn', intv', cnt', untl', wst', km', kd', ke', kw', nW', wN', nS', ps', pS', nI a') ∧ f_M_readRule FU (nI n) plain (nI a) 1 fr0 0 1 0 (-1) 0 0 mr 0 dr 0 wr wn 0 pr = some (nI a', 1, nI f, parts', iv', lim', unt', wb', mo', mr', md', dr', wd', wr', wn', po', pr')) ∨
    (∃ (a' : Nat) (g' : Int32), ∃ y z, a' ≤ n + 500 ∧ (g' = 0 ∨ (g' = 1 ∧ Wd plain n a' [44])) ∧ f_Rule_readFrom FU fq givn intv cnt untl wst km kd ke kw nW wN nS ps pS row (nI n) (nI a) = some ((0 : Int32), y) ∧ f_M_readRule FU (nI n) plain (nI a) 1 fr0 0 1 0 (-1) 0 0 mr 0 dr 0 wr wn 0 pr = some (nI a', g', z)) := by
  have hn := hC.1
  generalize hX : f_Rule_readFrom FU fq givn intv cnt untl wst km kd ke kw nW wN nS ps pS row (nI n) (nI a) = X
  generalize hY : f_M_readRule FU (nI n) plain (nI a) 1 fr0 0 1 0 (-1) 0 0 mr 0 dr 0 wr wn 0 pr = Y
  have eK := hX.symm
  have eM := hY.symm
  unfold f_Rule_readFrom f_Rule_reset f_Rule_takeFrequency at eK
  unfold f_M_readRule at eM
  rw [bd_ok] at eK
  dsimp only at eK
  have mF := m_wd (FU := FU) (n := n) (a := a) (plain := plain) [70, 82, 69, 81, 61] 5 302027985213 5 hF hn (by omega) (by decide) (by decide +kernel) rfl rfl
  have k0 := k_wd (FU := FU) 17 [70, 82, 69, 81, 61, 68, 65, 73, 76, 89] 10 hF hC (by omega) ha rfl rfl
  have e0 : Wd plain n a [70, 82, 69, 81, 61, 68, 65, 73, 76, 89] ↔ Wd plain n a [70, 82, 69, 81, 61] ∧ Wd plain n (a + 5) [68, 65, 73, 76, 89] := wd_app (l1 := [70, 82, 69, 81, 61]) (l2 := [68, 65, 73, 76, 89])
  have m0 : ∀ b, b ≤ 100000 → _ := fun b hb => m_wd (FU := FU) (n := n) (a := b) (plain := plain) [68, 65, 73, 76, 89] 5 293153098841 5 hF hn hb (by decide) (by decide +kernel) rfl rfl
  have k1 := k_wd (FU := FU) 18 [70, 82, 69, 81, 61, 87, 69, 69, 75, 76, 89] 11 hF hC (by omega) ha rfl rfl
  have e1 : Wd plain n a [70, 82, 69, 81, 61, 87, 69, 69, 75, 76, 89] ↔ Wd plain n a [70, 82, 69, 81, 61] ∧ Wd plain n (a + 5) [87, 69, 69, 75, 76, 89] := wd_app (l1 := [70, 82, 69, 81, 61]) (l2 := [87, 69, 69, 75, 76, 89])
  have m1 : ∀ b, b ≤ 100000 → _ := fun b hb => m_wd (FU := FU) (n := n) (a := b) (plain := plain) [87, 69, 69, 75, 76, 89] 6 95955026922585 6 hF hn hb (by decide) (by decide +kernel) rfl rfl
  have k2 := k_wd (FU := FU) 19 [70, 82, 69, 81, 61, 77, 79, 78, 84, 72, 76, 89] 12 hF hC (by omega) ha rfl rfl
  have e2 : Wd plain n a [70, 82, 69, 81, 61, 77, 79, 78, 84, 72, 76, 89] ↔ Wd plain n a [70, 82, 69, 81, 61] ∧ Wd plain n (a + 5) [77, 79, 78, 84, 72, 76, 89] := wd_app (l1 := [70, 82, 69, 81, 61]) (l2 := [77, 79, 78, 84, 72, 76, 89])
  have m2 : ∀ b, b ≤ 100000 → _ := fun b hb => m_wd (FU := FU) (n := n) (a := b) (plain := plain) [77, 79, 78, 84, 72, 76, 89] 7 21760771046788185 7 hF hn hb (by decide) (by decide +kernel) rfl rfl
  have k3 := k_wd (FU := FU) 20 [70, 82, 69, 81, 61, 89, 69, 65, 82, 76, 89] 11 hF hC (by omega) ha rfl rfl
  have e3 : Wd plain n a [70, 82, 69, 81, 61, 89, 69, 65, 82, 76, 89] ↔ Wd plain n a [70, 82, 69, 81, 61] ∧ Wd plain n (a + 5) [89, 69, 65, 82, 76, 89] := wd_app (l1 := [70, 82, 69, 81, 61]) (l2 := [89, 69, 65, 82, 76, 89])
  have m3 : ∀ b, b ≤ 100000 → _ := fun b hb => m_wd (FU := FU) (n := n) (a := b) (plain := plain) [89, 69, 65, 82, 76, 89] 6 98153983528025 6 hF hn hb (by decide) (by decide +kernel) rfl rfl
  have start : ∀ (f b : Nat), f < 4 → b ≤ n → X = f_Rule_readFrom_23 FU row (nI n) FU 0 (nI (f + 1)) 0 1 7306 10519199 0 0 0 0 0 nW wN 0 ps 0 (nI b) → Y = f_M_readRule_96 FU (nI n) plain FU (nI b) 1 (nI f) 0 1 0 (-1) 0 0 mr 0 dr 0 wr wn 0 pr → _ := fun f b hf hb h1 h2 => (show (∃ (f Q' a' : Nat) (givn' : Int32) (intv' : Int32) (cnt' : Int32) (untl' : Int32) (wst' : Int32) (km' : Int32) (kd' : Int32) (ke' : Int32) (kw' : Int32) (nW' : Nat → Int32) (wN' : Nat → Int32) (nS' : Int32) (ps' : Nat → Int32) (pS' : Int32) (parts' : Int32) (iv' : Int32) (lim' : Int32) (unt' : Int32) (wb' : Int32) (mo' : Int32) (mr' : Nat → Int32) (md' : Int32) (dr' : Nat → Int32) (wd' : Int32) (wr' : Nat → Int32) (wn' : Nat → Int32) (po' : Int32) (pr' : Nat → Int32), f < 4 ∧ a' ≤ n ∧ RR Q' givn' intv' cnt' untl' wst' km' kd' ke' kw' nW' wN' nS' ps' pS' parts' iv' lim' unt' wb' mo' mr' md' dr' wd' wr' wn' po' pr' ∧ X = some ((1 : Int32), nI (f + 1), givn', intv', cnt', untl', wst', km', kd', ke', kw', nW', wN', nS', ps', pS', nI a') ∧ Y = some (nI a', 1, nI f, parts', iv', lim', unt', wb', mo', mr', md', dr', wd', wr', wn', po', pr')) ∨
    (∃ (a' : Nat) (g' : Int32), ∃ y z, a' ≤ n + 500 ∧ (g' = 0 ∨ (g' = 1 ∧ Wd plain n a' [44])) ∧ X = some ((0 : Int32), y) ∧ Y = some (nI a', g', z)) by
    rcases c_rloop (FU := FU) hF hC hf FU 0 b 0 0 1 7306 10519199 0 0 0 0 0 nW wN 0 ps 0 0 1 0 (-1) 0 0 mr 0 dr 0 wr wn 0 pr (by omega) (by omega) hb rfl RR_start with ⟨Q', a', givn', intv', cnt', untl', wst', km', kd', ke', kw', nW', wN', nS', ps', pS', parts', iv', lim', unt', wb', mo', mr', md', dr', wd', wr', wn', po', pr', c1, c2, c3, c4⟩ | ⟨b', a', g', givn', intv', cnt', untl', wst', km', kd', ke', kw', nW', wN', nS', ps', pS', z, c1, c2, c3, c4, c5⟩
    · exact Or.inl ⟨f, Q', a', _, _, _, _, _, _, _, _, _, _, _, _, _, _, _, _, _, _, _, _, _, _, _, _, _, _, _, _, hf, c1, c2, h1.trans c3, h2.trans c4⟩
    · exact Or.inr ⟨a', g', _, z, c2, c3, h1.trans c4, h2.trans c5⟩)
  by_cases q : Wd plain n a [70, 82, 69, 81, 61]
  · rw [mF.1 q, bd_ok, m_need, bd_ok, nd_1 1 (Or.inr rfl)] at eM
    have hq := wd_le q
    have hq : a + 5 ≤ n := hq
    by_cases d0 : Wd plain n (a + 5) [68, 65, 73, 76, 89]
    · rw [(m0 (a + 5) (by omega)).1 d0, bd_ok, if_neg (show ¬ (1 : Int32) = 0 by decide)] at eM
      rw [k0.1 (e0.mpr ⟨q, d0⟩), bd_ok, if_neg (show ¬ (1 : Int32) = 0 by decide), bd_ok, if_neg (show ¬ (1 : Int32) = 0 by decide)] at eK
      have hd : a + 5 + 5 ≤ n := wd_le d0
      unfold f_M_readRule_77 f_M_readRule_93 at eM
      rw [if_neg (show ¬ (0 : Int32) < 0 by decide), m_need, bd_ok, nd_1 1 (Or.inr rfl)] at eM
      exact start 0 (a + 5 + 5) (by omega) hd eK eM
    by_cases d1 : Wd plain n (a + 5) [87, 69, 69, 75, 76, 89]
    · rw [(m0 (a + 5) (by omega)).2 d0, bd_ok, if_pos rfl, (m1 (a + 5) (by omega)).1 d1, bd_ok, if_neg (show ¬ (1 : Int32) = 0 by decide)] at eM
      rw [k0.2 (fun w => d0 (e0.mp w).2), bd_ok, if_pos rfl, k1.1 (e1.mpr ⟨q, d1⟩), bd_ok, if_neg (show ¬ (1 : Int32) = 0 by decide), bd_ok, if_neg (show ¬ (2 : Int32) = 0 by decide)] at eK
      have hd : a + 5 + 6 ≤ n := wd_le d1
      unfold f_M_readRule_77 f_M_readRule_93 at eM
      rw [if_neg (show ¬ (1 : Int32) < 0 by decide), m_need, bd_ok, nd_1 1 (Or.inr rfl)] at eM
      exact start 1 (a + 5 + 6) (by omega) hd eK eM
    by_cases d2 : Wd plain n (a + 5) [77, 79, 78, 84, 72, 76, 89]
    · rw [(m0 (a + 5) (by omega)).2 d0, bd_ok, if_pos rfl, (m1 (a + 5) (by omega)).2 d1, bd_ok, if_pos rfl, (m2 (a + 5) (by omega)).1 d2, bd_ok, if_neg (show ¬ (1 : Int32) = 0 by decide)] at eM
      rw [k0.2 (fun w => d0 (e0.mp w).2), bd_ok, if_pos rfl, k1.2 (fun w => d1 (e1.mp w).2), bd_ok, if_pos rfl, k2.1 (e2.mpr ⟨q, d2⟩), bd_ok, if_neg (show ¬ (1 : Int32) = 0 by decide), bd_ok, if_neg (show ¬ (3 : Int32) = 0 by decide)] at eK
      have hd : a + 5 + 7 ≤ n := wd_le d2
      unfold f_M_readRule_77 f_M_readRule_93 at eM
      rw [if_neg (show ¬ (2 : Int32) < 0 by decide), m_need, bd_ok, nd_1 1 (Or.inr rfl)] at eM
      exact start 2 (a + 5 + 7) (by omega) hd eK eM
    by_cases d3 : Wd plain n (a + 5) [89, 69, 65, 82, 76, 89]
    · rw [(m0 (a + 5) (by omega)).2 d0, bd_ok, if_pos rfl, (m1 (a + 5) (by omega)).2 d1, bd_ok, if_pos rfl, (m2 (a + 5) (by omega)).2 d2, bd_ok, if_pos rfl, (m3 (a + 5) (by omega)).1 d3, bd_ok, if_neg (show ¬ (1 : Int32) = 0 by decide)] at eM
      rw [k0.2 (fun w => d0 (e0.mp w).2), bd_ok, if_pos rfl, k1.2 (fun w => d1 (e1.mp w).2), bd_ok, if_pos rfl, k2.2 (fun w => d2 (e2.mp w).2), bd_ok, if_pos rfl, k3.1 (e3.mpr ⟨q, d3⟩), bd_ok, if_neg (show ¬ (1 : Int32) = 0 by decide), bd_ok, if_neg (show ¬ (4 : Int32) = 0 by decide)] at eK
      have hd : a + 5 + 6 ≤ n := wd_le d3
      unfold f_M_readRule_77 f_M_readRule_93 at eM
      rw [if_neg (show ¬ (3 : Int32) < 0 by decide), m_need, bd_ok, nd_1 1 (Or.inr rfl)] at eM
      exact start 3 (a + 5 + 6) (by omega) hd eK eM
    · rw [(m0 (a + 5) (by omega)).2 d0, bd_ok, if_pos rfl, (m1 (a + 5) (by omega)).2 d1, bd_ok, if_pos rfl, (m2 (a + 5) (by omega)).2 d2, bd_ok, if_pos rfl, (m3 (a + 5) (by omega)).2 d3, bd_ok, if_pos rfl] at eM
      rw [k0.2 (fun w => d0 (e0.mp w).2), bd_ok, if_pos rfl, k1.2 (fun w => d1 (e1.mp w).2), bd_ok, if_pos rfl, k2.2 (fun w => d2 (e2.mp w).2), bd_ok, if_pos rfl, k3.2 (fun w => d3 (e3.mp w).2), bd_ok, if_pos rfl, bd_ok, if_pos rfl] at eK
      obtain ⟨g', z, h1, h2⟩ := m77_0 (FU := FU) (n := n) (a := a + 5) (plain := plain) (mr := mr) (dr := dr) (wr := wr) (wn := wn) (pr := pr) (fr0 := fr0) hF hn (by omega) (-1) 1 (Or.inr (by decide))
      exact Or.inr ⟨a + 5, g', _, z, by omega, Or.inl h1, eK, eM.trans h2⟩
  · rw [mF.2 q, bd_ok, m_need, bd_ok, nd_00] at eM
    rw [k0.2 (fun w => q (e0.mp w).1), bd_ok, if_pos rfl, k1.2 (fun w => q (e1.mp w).1), bd_ok, if_pos rfl, k2.2 (fun w => q (e2.mp w).1), bd_ok, if_pos rfl, k3.2 (fun w => q (e3.mp w).1), bd_ok, if_pos rfl, bd_ok, if_pos rfl] at eK
    have hY2 : ∃ a' g' z, a' ≤ n + 500 ∧ g' = 0 ∧ Y = some (nI a', g', z) := by
      by_cases d0 : Wd plain n a [68, 65, 73, 76, 89]
      · rw [(m0 a (by omega)).1 d0, bd_ok, if_neg (show ¬ (1 : Int32) = 0 by decide)] at eM
        obtain ⟨g', z, h1, h2⟩ := m77_0 (FU := FU) (n := n) (a := a + 5) (plain := plain) (mr := mr) (dr := dr) (wr := wr) (wn := wn) (pr := pr) (fr0 := fr0) hF hn (by omega) 0 0 (Or.inl rfl)
        exact ⟨a + 5, g', z, by omega, h1, eM.trans h2⟩
      by_cases d1 : Wd plain n a [87, 69, 69, 75, 76, 89]
      · rw [(m0 a (by omega)).2 d0, bd_ok, if_pos rfl, (m1 a (by omega)).1 d1, bd_ok, if_neg (show ¬ (1 : Int32) = 0 by decide)] at eM
        obtain ⟨g', z, h1, h2⟩ := m77_0 (FU := FU) (n := n) (a := a + 6) (plain := plain) (mr := mr) (dr := dr) (wr := wr) (wn := wn) (pr := pr) (fr0 := fr0) hF hn (by omega) 1 0 (Or.inl rfl)
        exact ⟨a + 6, g', z, by omega, h1, eM.trans h2⟩
      by_cases d2 : Wd plain n a [77, 79, 78, 84, 72, 76, 89]
      · rw [(m0 a (by omega)).2 d0, bd_ok, if_pos rfl, (m1 a (by omega)).2 d1, bd_ok, if_pos rfl, (m2 a (by omega)).1 d2, bd_ok, if_neg (show ¬ (1 : Int32) = 0 by decide)] at eM
        obtain ⟨g', z, h1, h2⟩ := m77_0 (FU := FU) (n := n) (a := a + 7) (plain := plain) (mr := mr) (dr := dr) (wr := wr) (wn := wn) (pr := pr) (fr0 := fr0) hF hn (by omega) 2 0 (Or.inl rfl)
        exact ⟨a + 7, g', z, by omega, h1, eM.trans h2⟩
      by_cases d3 : Wd plain n a [89, 69, 65, 82, 76, 89]
      · rw [(m0 a (by omega)).2 d0, bd_ok, if_pos rfl, (m1 a (by omega)).2 d1, bd_ok, if_pos rfl, (m2 a (by omega)).2 d2, bd_ok, if_pos rfl, (m3 a (by omega)).1 d3, bd_ok, if_neg (show ¬ (1 : Int32) = 0 by decide)] at eM
        obtain ⟨g', z, h1, h2⟩ := m77_0 (FU := FU) (n := n) (a := a + 6) (plain := plain) (mr := mr) (dr := dr) (wr := wr) (wn := wn) (pr := pr) (fr0 := fr0) hF hn (by omega) 3 0 (Or.inl rfl)
        exact ⟨a + 6, g', z, by omega, h1, eM.trans h2⟩
      rw [(m0 a (by omega)).2 d0, bd_ok, if_pos rfl, (m1 a (by omega)).2 d1, bd_ok, if_pos rfl, (m2 a (by omega)).2 d2, bd_ok, if_pos rfl, (m3 a (by omega)).2 d3, bd_ok, if_pos rfl] at eM
      obtain ⟨g', z, h1, h2⟩ := m77_0 (FU := FU) (n := n) (a := a) (plain := plain) (mr := mr) (dr := dr) (wr := wr) (wn := wn) (pr := pr) (fr0 := fr0) hF hn (by omega) (-1) 0 (Or.inl rfl)
      exact ⟨a, g', z, by omega, h1, eM.trans h2⟩
    obtain ⟨a', g', z, h1, h2, h3⟩ := hY2
    exact Or.inr ⟨a', g', _, z, h1, Or.inl h2, eK, h3⟩
