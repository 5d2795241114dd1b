/-! pure: the event, behind its head -/
def krest (FU n : Nat) (row : Nat → Int32) (b : Int32) (zo : Int32) (st : Int32) (le : Int32) (fq : Int32) (givn : Int32) (intv : Int32) (cnt : Int32) (untl : Int32) (wst : Int32) (km : Int32) (kd : Int32) (ke : Int32) (kw : Int32) (nW : Nat → Int32) (wN : Nat → Int32) (nS : Int32) (ps : Nat → Int32) (pS : Int32) (ar : Nat → Int32) (as : Int32) (lr : Nat → Int32) (ls : Int32) : Option (Int32 × Int32 × Int32 × Int32 × Int32 × Int32 × Int32 × Int32 × Int32 × Int32 × Int32 × Int32 × Int32 × Int32 × Int32 × (Nat → Int32) × (Nat → Int32) × Int32 × (Nat → Int32) × Int32 × (Nat → Int32) × Int32 × (Nat → Int32) × Int32 × Int32) := bd (f_Reader_takeWord FU 10 row (nI n) b) (fun z7 => ckz z7.1 ((if z7.1 = 0 then (f_Draft_readFrom_57 FU row (nI n) zo st le z7.1 fq givn intv cnt untl wst km kd ke kw nW wN nS ps pS ar as lr ls z7.2) else bd (f_Rule_readFrom FU fq givn intv cnt untl wst km kd ke kw nW wN nS ps pS row (nI n) z7.2) (fun z14 => (if z14.1 = 0 then (some (0, zo, st, le, z7.1, z14.2.1, z14.2.2.1, z14.2.2.2.1, z14.2.2.2.2.1, z14.2.2.2.2.2.1, z14.2.2.2.2.2.2.1, z14.2.2.2.2.2.2.2.1, z14.2.2.2.2.2.2.2.2.1, z14.2.2.2.2.2.2.2.2.2.1, z14.2.2.2.2.2.2.2.2.2.2.1, z14.2.2.2.2.2.2.2.2.2.2.2.1, z14.2.2.2.2.2.2.2.2.2.2.2.2.1, z14.2.2.2.2.2.2.2.2.2.2.2.2.2.1, z14.2.2.2.2.2.2.2.2.2.2.2.2.2.2.1, z14.2.2.2.2.2.2.2.2.2.2.2.2.2.2.2.1, ar, as, lr, ls, z14.2.2.2.2.2.2.2.2.2.2.2.2.2.2.2.2)) else bd (f_Reader_take FU 10 row (nI n) z14.2.2.2.2.2.2.2.2.2.2.2.2.2.2.2.2) (fun z16 => (if z16.1 = 0 then (some (0, zo, st, le, z7.1, z14.2.1, z14.2.2.1, z14.2.2.2.1, z14.2.2.2.2.1, z14.2.2.2.2.2.1, z14.2.2.2.2.2.2.1, z14.2.2.2.2.2.2.2.1, z14.2.2.2.2.2.2.2.2.1, z14.2.2.2.2.2.2.2.2.2.1, z14.2.2.2.2.2.2.2.2.2.2.1, z14.2.2.2.2.2.2.2.2.2.2.2.1, z14.2.2.2.2.2.2.2.2.2.2.2.2.1, z14.2.2.2.2.2.2.2.2.2.2.2.2.2.1, z14.2.2.2.2.2.2.2.2.2.2.2.2.2.2.1, z14.2.2.2.2.2.2.2.2.2.2.2.2.2.2.2.1, ar, as, lr, ls, z16.2)) else (f_Draft_readFrom_57 FU row (nI n) zo st le z7.1 z14.2.1 z14.2.2.1 z14.2.2.2.1 z14.2.2.2.2.1 z14.2.2.2.2.2.1 z14.2.2.2.2.2.2.1 z14.2.2.2.2.2.2.2.1 z14.2.2.2.2.2.2.2.2.1 z14.2.2.2.2.2.2.2.2.2.1 z14.2.2.2.2.2.2.2.2.2.2.1 z14.2.2.2.2.2.2.2.2.2.2.2.1 z14.2.2.2.2.2.2.2.2.2.2.2.2.1 z14.2.2.2.2.2.2.2.2.2.2.2.2.2.1 z14.2.2.2.2.2.2.2.2.2.2.2.2.2.2.1 z14.2.2.2.2.2.2.2.2.2.2.2.2.2.2.2.1 ar as lr ls z16.2))))))))
theorem c_57 {FU n a S D : Nat} {ty zo rec fq fr : Int32} {tx row plain : Nat → Int32} {givn : Int32} {intv : Int32} {cnt : Int32} {untl : Int32} {wst : Int32} {km : Int32} {kd : Int32} {ke : Int32} {kw : Int32} {nW : Nat → Int32} {wN : Nat → Int32} {nS : Int32} {ps : Nat → Int32} {pS : Int32} {ar : Nat → Int32} {as : Int32} {lr : Nat → Int32} {ls : Int32} {parts : Int32} {iv : Int32} {lim : Int32} {unt : Int32} {wb : Int32} {mo : Int32} {mr : Nat → Int32} {md : Int32} {dr : Nat → Int32} {wd : Int32} {wr : Nat → Int32} {wn : Nat → Int32} {po : Int32} {pr : Nat → Int32} {er wo : Nat → Int32} (hF : 300 < FU) (hC : CH n row plain) (ha : a ≤ n) :
    (∃ (sa sl : Nat) (ar' lr' er' wo' : Nat → Int32), sa ≤ 18 ∧ sl ≤ 18 ∧ RowT sa ar' er' ∧ RowT sl lr' wo' ∧ f_Draft_readFrom_57 FU row (nI n) zo (nI S) (nI D) rec fq givn intv cnt untl wst km kd ke kw nW wN nS ps pS ar as lr ls (nI a) = some (1, zo, nI S, nI D, rec, fq, givn, intv, cnt, untl, wst, km, kd, ke, kw, nW, wN, nS, ps, pS, ar', nI sa, lr', nI sl, nI n) ∧ f_M_readEvent_190 FU ty tx FU 0 (nI n) plain (nI a) 1 zo (nI S) (nI D) 0 er 0 wo fr parts iv lim unt wb mo mr md dr wd wr wn po pr = some (1, nI n, plain, nI n, 1, zo, nI S, nI D, nI sa, er', nI sl, wo', fr, parts, iv, lim, unt, wb, mo, mr, md, dr, wd, wr, wn, po, pr)) ∨
    ((∃ y, f_Draft_readFrom_57 FU row (nI n) zo (nI S) (nI D) rec fq givn intv cnt untl wst km kd ke kw nW wN nS ps pS ar as lr ls (nI a) = some (0, y)) ∧ ∃ z, f_M_readEvent_190 FU ty tx FU 0 (nI n) plain (nI a) 1 zo (nI S) (nI D) 0 er 0 wo fr parts iv lim unt wb mo mr md dr wd wr wn po pr = some (0, z)) := by
  have hn := hC.1
  have hl := c_lines (FU := FU) (n := n) (ty := ty) (tx := tx) (row := row) (plain := plain) (zo := zo) (st := nI S) (le := nI D) (r_freq := fr) (r_parts := parts) (r_interval := iv) (r_limit := lim) (r_until := unt) (r_weekBegin := wb) (r_months := mo) (r_month := mr) (r_monthDays := md) (r_monthDay := dr) (r_weekdays := wd) (r_weekday := wr) (r_weekdayNumber := wn) (r_positions := po) (r_position := pr) hF hC FU 0 a 0 0 ar lr er wo (by omega) (by omega) ha (by omega) (fun j hj => by omega) (fun j hj => by omega)
  unfold f_Draft_readFrom_57 f_Draft_readTimes f_Times_clear
  rcases hl with ⟨sa, sl, ar', lr', er', wo', c1, c2, c3, c4, c5, c6⟩ | ⟨f, b, ar', as', lr', ls', z, c1, c2, c3, c4⟩
  · have c5 : f_Draft_readTimes_18 FU row (nI n) FU 1 0 ar 0 lr 0 (nI a) = _ := c5
    refine Or.inl ⟨sa, sl, ar', lr', er', wo', c1, c2, c3, c4, ?_, c6⟩
    rw [bd_ok, bd_ok, c5, bd_ok, if_neg (show ¬ (1 : Int32) = 0 by decide)]
    unfold f_Reader_isAtEnd
    rw [if_neg (nI_nlt (Nat.le_refl n) (by omega)), bd_ok, if_neg (show ¬ (1 : Int32) = 0 by decide)]
  · have c3 : f_Draft_readTimes_18 FU row (nI n) FU 1 0 ar 0 lr 0 (nI a) = _ := c3
    refine Or.inr ⟨?_, z, c4⟩
    rw [bd_ok, bd_ok, c3, bd_ok]
    rcases c2 with rfl | ⟨rfl, c2⟩
    · rw [if_pos rfl]
      exact ⟨_, rfl⟩
    · unfold f_Reader_isAtEnd
      rw [if_neg (show ¬ (1 : Int32) = 0 by decide), if_pos (nI_lt c2 (by omega)), bd_ok, if_pos rfl]
      exact ⟨_, rfl⟩
theorem c_rest {FU n a S D : Nat} {ty zo fq : Int32} {tx row plain : Nat → Int32} {givn : Int32} {intv : Int32} {cnt : Int32} {untl : Int32} {wst : Int32} {km : Int32} {kd : Int32} {ke : Int32} {kw : Int32} {nW : Nat → Int32} {wN : Nat → Int32} {nS : Int32} {ps : Nat → Int32} {pS : Int32} {ar : Nat → Int32} {as : Int32} {lr : Nat → Int32} {ls : Int32} {mr : Nat → Int32} {dr : Nat → Int32} {wr : Nat → Int32} {wn : Nat → Int32} {pr : Nat → Int32} {er wo : Nat → Int32} (hF : 300 < FU) (hC : CH n row plain) (ha : a ≤ n) :
    (∃ (rec fq' fr' : Int32) (sa sl : Nat) (ar' lr' er' wo' : Nat → Int32) (givn' : Int32) (intv' : Int32) (cnt' : Int32) (untl' : Int32) (wst' : Int32) (km' : Int32) (kd' : Int32) (ke' : Int32) (kw' : Int32) (nW' : Nat → Int32) (wN' : Nat → Int32) (nS' : Int32) (ps' : Nat → Int32) (pS' : Int32) (parts' : Int32) (iv' : Int32) (lim' : Int32) (unt' : Int32) (wb' : Int32) (mo' : Int32) (mr' : Nat → Int32) (md' : Int32) (dr' : Nat → Int32) (wd' : Int32) (wr' : Nat → Int32) (wn' : Nat → Int32) (po' : Int32) (pr' : Nat → Int32), sa ≤ 18 ∧ sl ≤ 18 ∧ RowT sa ar' er' ∧ RowT sl lr' wo' ∧ ((rec = 0 ∧ fr' = -1) ∨ (rec = 1 ∧ ∃ f Q : Nat, f < 4 ∧ fq' = nI (f + 1) ∧ fr' = nI f ∧ RR Q givn' intv' cnt' untl' wst' km' kd' ke' kw' nW' wN' nS' ps' pS' parts' iv' lim' unt' wb' mo' mr' md' dr' wd' wr' wn' po' pr')) ∧ krest FU n row (nI a) zo (nI S) (nI D) fq givn intv cnt untl wst km kd ke kw nW wN nS ps pS ar as lr ls = some (1, zo, nI S, nI D, rec, fq', givn', intv', cnt', untl', wst', km', kd', ke', kw', nW', wN', nS', ps', pS', ar', nI sa, lr', nI sl, nI n) ∧ mrest FU n ty tx plain (nI a) 1 zo (nI S) (nI D) 0 er 0 wo (-1) 0 1 0 (-1) 0 0 mr 0 dr 0 wr wn 0 pr = some (1, nI n, plain, nI n, 1, zo, nI S, nI D, nI sa, er', nI sl, wo', fr', parts', iv', lim', unt', wb', mo', mr', md', dr', wd', wr', wn', po', pr')) ∨ ((∃ y, krest FU n row (nI a) zo (nI S) (nI D) fq givn intv cnt untl wst km kd ke kw nW wN nS ps pS ar as lr ls = some (0, y)) ∧ ∃ z, mrest FU n ty tx plain (nI a) 1 zo (nI S) (nI D) 0 er 0 wo (-1) 0 1 0 (-1) 0 0 mr 0 dr 0 wr wn 0 pr = some (0, z)) := by
  have hn := hC.1
  generalize hX : krest FU n row (nI a) zo (nI S) (nI D) fq givn intv cnt untl wst km kd ke kw nW wN nS ps pS ar as lr ls = X
  generalize hY : mrest FU n ty tx plain (nI a) 1 zo (nI S) (nI D) 0 er 0 wo (-1) 0 1 0 (-1) 0 0 mr 0 dr 0 wr wn 0 pr = Y
  have eK := hX.symm
  have eM := hY.symm
  unfold krest at eK
  unfold mrest at eM
  have w0 := m_wd (FU := FU) (n := n) (a := a) (plain := plain) [82, 82, 85, 76, 69, 58] 6 90513571857722 6 hF hn (by omega) (by decide) (by decide +kernel) rfl rfl
  have k0 := k_wd (FU := FU) (a := a) 10 [82, 82, 85, 76, 69, 58] 6 hF hC (by omega) ha rfl rfl
  by_cases q : Wd plain n a [82, 82, 85, 76, 69, 58]
  · have ha6 : a + 6 ≤ n := wd_le q
    rw [k0.1 q, bd_ok, ckz_1, if_neg (show ¬ (1 : Int32) = 0 by decide)] at eK
    rw [w0.1 q, bd_ok, if_neg (show ¬ (1 : Int32) = 0 by decide)] at eM
    rcases c_rule (FU := FU) (a := a + 6) (fq := fq) (fr0 := -1) (givn := givn) (intv := intv) (cnt := cnt) (untl := untl) (wst := wst) (km := km) (kd := kd) (ke := ke) (kw := kw) (nW := nW) (wN := wN) (nS := nS) (ps := ps) (pS := pS) (mr := mr) (dr := dr) (wr := wr) (wn := wn) (pr := pr) hF hC ha6 with ⟨f, Q, a', givn', intv', cnt', untl', wst', km', kd', ke', kw', nW', wN', nS', ps', pS', parts', iv', lim', unt', wb', mo', mr', md', dr', wd', wr', wn', po', pr', c1, c2, c3, c4, c5⟩ | ⟨a', g', y, z, c1, c2, c3, c4⟩
    · rw [c4, bd_ok, if_neg (show ¬ (1 : Int32) = 0 by decide)] at eK
      rw [c5, bd_ok] at eM
      have w10 := m_wd (FU := FU) (n := n) (a := a') (plain := plain) [10] 1 10 1 hF hn (by omega) (by decide) (by decide +kernel) rfl rfl
      have k10 := k_take (FU := FU) hC c2 10
      by_cases r : Wd plain n a' [10]
      · rw [k10.1 r, bd_ok, if_neg (show ¬ (1 : Int32) = 0 by decide)] at eK
        rw [w10.1 r, bd_ok, m_need, bd_ok, nd_1 1 (Or.inr rfl)] at eM
        rcases c_57 (FU := FU) (a := a' + 1) (S := S) (D := D) (ty := ty) (tx := tx) (zo := zo) (rec := 1) (fq := nI (f + 1)) (fr := nI f) (givn := givn') (intv := intv') (cnt := cnt') (untl := untl') (wst := wst') (km := km') (kd := kd') (ke := ke') (kw := kw') (nW := nW') (wN := wN') (nS := nS') (ps := ps') (pS := pS') (ar := ar) (as := as) (lr := lr) (ls := ls) (parts := parts') (iv := iv') (lim := lim') (unt := unt') (wb := wb') (mo := mo') (mr := mr') (md := md') (dr := dr') (wd := wd') (wr := wr') (wn := wn') (po := po') (pr := pr') (er := er) (wo := wo) hF hC (wd1.mp r).1 with ⟨sa, sl, ar', lr', er', wo', d1, d2, d3, d4, d5, d6⟩ | ⟨⟨y, d1⟩, z, d2⟩
        · exact Or.inl ⟨1, _, _, sa, sl, ar', lr', er', wo', _, _, _, _, _, _, _, _, _, _, _, _, _, _, _, _, _, _, _, _, _, _, _, _, _, _, _, _, d1, d2, d3, d4, Or.inr ⟨rfl, f, Q, c1, rfl, rfl, c3⟩, eK.trans d5, eM.trans d6⟩
        · exact Or.inr ⟨⟨y, eK.trans d1⟩, z, eM.trans d2⟩
      · rw [k10.2 r, bd_ok, if_pos rfl] at eK
        rw [w10.2 r, bd_ok, m_need, bd_ok, nd_00] at eM
        obtain ⟨m, eF⟩ : ∃ m, FU = m + 1 := ⟨FU - 1, by omega⟩
        rw [show f_M_readEvent_190 FU ty tx FU = f_M_readEvent_190 FU ty tx (m + 1) by rw [← eF], m_190_0] at eM
        exact Or.inr ⟨⟨_, eK⟩, _, eM⟩
    · rw [c3, bd_ok, if_pos rfl] at eK
      rw [c4, bd_ok] at eM
      have w10 := m_wd (FU := FU) (n := n) (a := a') (plain := plain) [10] 1 10 1 hF hn (by omega) (by decide) (by decide +kernel) rfl rfl
      have hz : ∃ b', bd (f_M_word FU 10 1 (nI n) plain (nI a')) (fun z34 => bd (f_M_need FU z34.1 g') (fun z35 => f_M_readEvent_190 FU ty tx FU 0 (nI n) plain z34.2 z35 zo (nI S) (nI D) 0 er 0 wo z.1 z.2.1 z.2.2.1 z.2.2.2.1 z.2.2.2.2.1 z.2.2.2.2.2.1 z.2.2.2.2.2.2.1 z.2.2.2.2.2.2.2.1 z.2.2.2.2.2.2.2.2.1 z.2.2.2.2.2.2.2.2.2.1 z.2.2.2.2.2.2.2.2.2.2.1 z.2.2.2.2.2.2.2.2.2.2.2.1 z.2.2.2.2.2.2.2.2.2.2.2.2.1 z.2.2.2.2.2.2.2.2.2.2.2.2.2.1 z.2.2.2.2.2.2.2.2.2.2.2.2.2.2)) = f_M_readEvent_190 FU ty tx FU 0 (nI n) plain (nI b') 0 zo (nI S) (nI D) 0 er 0 wo z.1 z.2.1 z.2.2.1 z.2.2.2.1 z.2.2.2.2.1 z.2.2.2.2.2.1 z.2.2.2.2.2.2.1 z.2.2.2.2.2.2.2.1 z.2.2.2.2.2.2.2.2.1 z.2.2.2.2.2.2.2.2.2.1 z.2.2.2.2.2.2.2.2.2.2.1 z.2.2.2.2.2.2.2.2.2.2.2.1 z.2.2.2.2.2.2.2.2.2.2.2.2.1 z.2.2.2.2.2.2.2.2.2.2.2.2.2.1 z.2.2.2.2.2.2.2.2.2.2.2.2.2.2 := by
        rcases c2 with rfl | ⟨rfl, c2⟩
        · by_cases r : Wd plain n a' [10]
          · exact ⟨a' + 1, by rw [w10.1 r, bd_ok, m_need, bd_ok, nd_g0]⟩
          · exact ⟨a', by rw [w10.2 r, bd_ok, m_need, bd_ok, nd_g0]⟩
        · have r : ¬ Wd plain n a' [10] := fun w => by
            have a1 := (wd1.mp w).2
            have a2 := (wd1.mp c2).2
            rw [a1] at a2
            exact absurd a2 (by decide)
          exact ⟨a', by rw [w10.2 r, bd_ok, m_need, bd_ok, nd_00]⟩
      obtain ⟨b', hz⟩ := hz
      obtain ⟨m, eF⟩ : ∃ m, FU = m + 1 := ⟨FU - 1, by omega⟩
      have hz2 := eM.trans hz
      rw [show f_M_readEvent_190 FU ty tx FU = f_M_readEvent_190 FU ty tx (m + 1) by rw [← eF], m_190_0] at hz2
      exact Or.inr ⟨⟨_, eK⟩, _, hz2⟩
  · rw [k0.2 q, bd_ok, ckz_0, if_pos rfl] at eK
    rw [w0.2 q, bd_ok, if_pos rfl] at eM
    rcases c_57 (FU := FU) (a := a) (S := S) (D := D) (ty := ty) (tx := tx) (zo := zo) (rec := 0) (fq := fq) (fr := -1) (givn := givn) (intv := intv) (cnt := cnt) (untl := untl) (wst := wst) (km := km) (kd := kd) (ke := ke) (kw := kw) (nW := nW) (wN := wN) (nS := nS) (ps := ps) (pS := pS) (ar := ar) (as := as) (lr := lr) (ls := ls) (parts := 0) (iv := 1) (lim := 0) (unt := (-1)) (wb := 0) (mo := 0) (mr := mr) (md := 0) (dr := dr) (wd := 0) (wr := wr) (wn := wn) (po := 0) (pr := pr) (er := er) (wo := wo) hF hC ha with ⟨sa, sl, ar', lr', er', wo', d1, d2, d3, d4, d5, d6⟩ | ⟨⟨y, d1⟩, z, d2⟩
    · exact Or.inl ⟨0, _, _, sa, sl, ar', lr', er', wo', _, _, _, _, _, _, _, _, _, _, _, _, _, _, _, _, _, _, _, _, _, _, _, _, _, _, _, _, d1, d2, d3, d4, Or.inl ⟨rfl, rfl⟩, eK.trans d5, eM.trans d6⟩
    · exact Or.inr ⟨⟨y, eK.trans d1⟩, z, eM.trans d2⟩
theorem c_zone {FU n a : Nat} {row plain : Nat → Int32} (hF : 300 < FU) (hC : CH n row plain) (ha : a ≤ n) :
    (∃ z, z < 3 ∧ a + 1 ≤ n ∧ f_Reader_takeDigits FU 1 row (nI n) (nI a) = some (nI z, nI (a + 1)) ∧ pk plain n a - 48 = nI z ∧ f_M_within FU (nI z) 0 2 = some 1) ∨
    (f_M_within FU (pk plain n a - 48) 0 2 = some 0 ∧ ∃ v b, f_Reader_takeDigits FU 1 row (nI n) (nI a) = some (v, nI b) ∧ (v < 0 ∨ (¬ v < 0 ∧ ¬ v < 3))) := by
  have hn := hC.1
  have kt := k_takeDigits (FU := FU) (k := 1) hF hC (by omega) ha
  by_cases hd : dg (pk plain n a)
  · have hd' := dg_pk.mp hd
    have hA : allD plain n a 1 := fun i hi => by
      have : i = 0 := by omega
      subst this
      exact hd'
    obtain ⟨d, d1, d2⟩ := dg_val hd'.2
    have ep : pk plain n a = nI (48 + d) := (if_pos hd'.1).trans d2
    have es : pk plain n a - 48 = nI d := by
      rw [ep, show (48 : Int32) = nI 48 from rfl, pk_sub (by omega), Nat.add_sub_cancel_left]
    have ev : dv plain n a 1 = nI d := by
      show 10 * (0 : Int32) + pk plain n (a + 0) - 48 = nI d
      rw [Nat.add_zero, ep, show (10 : Int32) * 0 = nI 0 from rfl, nI_add, show (48 : Int32) = nI 48 from rfl, pk_sub (by omega)]
      congr 1
      omega
    have hK : f_Reader_takeDigits FU 1 row (nI n) (nI a) = some (nI d, nI (a + 1)) := by
      rw [← ev]
      exact kt.1 hA
    by_cases h3 : d < 3
    · refine Or.inl ⟨d, h3, hd'.1, hK, es, ?_⟩
      rw [m_within, if_neg (nI_pos (by omega)), if_neg (show ¬ 2 < nI d from nI_nlt (a := 2) (by omega) (by omega))]
    · refine Or.inr ⟨?_, nI d, a + 1, hK, Or.inr ⟨nI_pos (by omega), nI_nlt (b := 3) (by omega) (by omega)⟩⟩
      rw [es, m_within, if_neg (nI_pos (by omega)), if_pos (show 2 < nI d from nI_lt (a := 2) (by omega) (by omega))]
  · have hA : ¬ allD plain n a 1 := fun w => hd (dg_pk.mpr (w 0 (by omega)))
    obtain ⟨a', h1, _, h2, h3⟩ := kt.2 hA
    refine Or.inr ⟨?_, -1, a', h3, Or.inl (by decide)⟩
    have hx : ∃ x : Int, pk plain n a = iI x ∧ 0 ≤ x ∧ x ≤ 126 := by
      unfold pk
      by_cases h : a < n
      · rw [if_pos h]
        rcases (hC.2 a h).2 with w | ⟨w1, w2⟩
        · exact ⟨10, w, by omega, by omega⟩
        · obtain ⟨x, e, x0, x1⟩ := v_iI (plain a)
          rw [e, show (32 : Int32) = iI 32 from rfl, iI_lt x0 x1 (by omega) (by omega)] at w1
          rw [e, show (126 : Int32) = iI 126 from rfl, iI_lt (by omega) (by omega) x0 x1] at w2
          exact ⟨x, e, by omega, by omega⟩
      · rw [if_neg h]
        exact ⟨0, rfl, by omega, by omega⟩
    obtain ⟨x, ex, x0, x1⟩ := hx
    have hr : ¬ (48 ≤ x ∧ x ≤ 57) := fun w => hd (by
      rw [ex]
      refine ⟨?_, ?_⟩
      · rw [show (48 : Int32) = iI 48 from rfl, iI_lt (by omega) (by omega) (by omega) (by omega)]; omega
      · rw [show (57 : Int32) = iI 57 from rfl, iI_lt (by omega) (by omega) (by omega) (by omega)]; omega)
    rw [ex, m_within, show (48 : Int32) = iI 48 from rfl, iI_sub]
    by_cases h : x < 48
    · rw [if_pos]
      rw [show (0 : Int32) = iI 0 from rfl, iI_lt (by omega) (by omega) (by omega) (by omega)]; omega
    · rw [if_neg, if_pos]
      · rw [show (2 : Int32) = iI 2 from rfl, iI_lt (by omega) (by omega) (by omega) (by omega)]; omega
      · rw [show (0 : Int32) = iI 0 from rfl, iI_lt (by omega) (by omega) (by omega) (by omega)]; omega
theorem c_draft {FU n : Nat} {ty sz at0 gd zo0 st0 le0 ex0 go0 fr0 zz ss dd rr fq : Int32} {tx pl row plain : Nat → Int32} {givn : Int32} {intv : Int32} {cnt : Int32} {untl : Int32} {wst : Int32} {km : Int32} {kd : Int32} {ke : Int32} {kw : Int32} {nW : Nat → Int32} {wN : Nat → Int32} {nS : Int32} {ps : Nat → Int32} {pS : Int32} {ar : Nat → Int32} {as : Int32} {lr : Nat → Int32} {ls : Int32} {parts : Int32} {iv : Int32} {lim : Int32} {unt : Int32} {wb : Int32} {mo : Int32} {mr : Nat → Int32} {md : Int32} {dr : Nat → Int32} {wd : Int32} {wr : Nat → Int32} {wn : Nat → Int32} {po : Int32} {pr : Nat → Int32} {er wo : Nat → Int32} (hF : 300 < FU) (hC : CH n row plain) (hu : f_M_unfold FU ty tx sz pl = some (nI n, plain)) :
    (∃ (zo : Int32) (S D : Nat), (zo = -1 ∨ ∃ z, z < 3 ∧ zo = nI z) ∧ S ≤ 10519199 ∧ 1 ≤ D ∧ D ≤ 1440 ∧ ∃ (rec fq' fr' : Int32) (sa sl : Nat) (ar' lr' er' wo' : Nat → Int32) (givn' : Int32) (intv' : Int32) (cnt' : Int32) (untl' : Int32) (wst' : Int32) (km' : Int32) (kd' : Int32) (ke' : Int32) (kw' : Int32) (nW' : Nat → Int32) (wN' : Nat → Int32) (nS' : Int32) (ps' : Nat → Int32) (pS' : Int32) (parts' : Int32) (iv' : Int32) (lim' : Int32) (unt' : Int32) (wb' : Int32) (mo' : Int32) (mr' : Nat → Int32) (md' : Int32) (dr' : Nat → Int32) (wd' : Int32) (wr' : Nat → Int32) (wn' : Nat → Int32) (po' : Int32) (pr' : Nat → Int32), sa ≤ 18 ∧ sl ≤ 18 ∧ RowT sa ar' er' ∧ RowT sl lr' wo' ∧ ((rec = 0 ∧ fr' = -1) ∨ (rec = 1 ∧ ∃ f Q : Nat, f < 4 ∧ fq' = nI (f + 1) ∧ fr' = nI f ∧ RR Q givn' intv' cnt' untl' wst' km' kd' ke' kw' nW' wN' nS' ps' pS' parts' iv' lim' unt' wb' mo' mr' md' dr' wd' wr' wn' po' pr')) ∧ f_Draft_readFrom FU zz ss dd rr fq givn intv cnt untl wst km kd ke kw nW wN nS ps pS ar as lr ls row (nI n) 0 = some (1, zo, nI S, nI D, rec, fq', givn', intv', cnt', untl', wst', km', kd', ke', kw', nW', wN', nS', ps', pS', ar', nI sa, lr', nI sl, nI n) ∧ f_M_readEvent FU ty tx sz pl at0 gd zo0 st0 le0 ex0 er go0 wo fr0 parts iv lim unt wb mo mr md dr wd wr wn po pr = some (1, nI n, plain, nI n, 1, zo, nI S, nI D, nI sa, er', nI sl, wo', fr', parts', iv', lim', unt', wb', mo', mr', md', dr', wd', wr', wn', po', pr')) ∨ ((∃ y, f_Draft_readFrom FU zz ss dd rr fq givn intv cnt untl wst km kd ke kw nW wN nS ps pS ar as lr ls row (nI n) 0 = some (0, y)) ∧ ∃ z, f_M_readEvent FU ty tx sz pl at0 gd zo0 st0 le0 ex0 er go0 wo fr0 parts iv lim unt wb mo mr md dr wd wr wn po pr = some (0, z)) := by
  have hn := hC.1
  have g01 : (1 : Int32) = 0 ∨ (1 : Int32) = 1 := Or.inr rfl
  generalize hX : f_Draft_readFrom FU zz ss dd rr fq givn intv cnt untl wst km kd ke kw nW wN nS ps pS ar as lr ls row (nI n) 0 = X
  generalize hY : f_M_readEvent FU ty tx sz pl at0 gd zo0 st0 le0 ex0 er go0 wo fr0 parts iv lim unt wb mo mr md dr wd wr wn po pr = Y
  have eK := hX.symm
  have eM := hY.symm
  unfold f_Draft_readFrom f_Draft_readStart at eK
  unfold f_M_readEvent f_M_forget at eM
  rw [hu, bd_ok, bd_ok] at eM
  dsimp only at eM
  have w0 := m_wd (FU := FU) (n := n) (a := 0) (plain := plain) [68, 84, 83, 84, 65, 82, 84] 7 19233015288910420 7 hF hn (by omega) (by decide) (by decide +kernel) rfl rfl
  have k0 := k_wd (FU := FU) (a := 0) 11 [68, 84, 83, 84, 65, 82, 84] 7 hF hC (by omega) (by omega) rfl rfl
  have w0 : (Wd plain n 0 [68, 84, 83, 84, 65, 82, 84] → f_M_word FU 19233015288910420 7 (nI n) plain 0 = some (1, nI 7)) ∧ (¬ Wd plain n 0 [68, 84, 83, 84, 65, 82, 84] → f_M_word FU 19233015288910420 7 (nI n) plain 0 = some (0, nI 0)) := by rw [Nat.zero_add] at w0; exact w0
  have k0 : (Wd plain n 0 [68, 84, 83, 84, 65, 82, 84] → f_Reader_takeWord FU 11 row (nI n) 0 = some (1, nI 7)) ∧ (¬ Wd plain n 0 [68, 84, 83, 84, 65, 82, 84] → f_Reader_takeWord FU 11 row (nI n) 0 = some (0, nI 0)) := by rw [Nat.zero_add] at k0; exact k0
  have wz : ∀ b, b ≤ 100 → _ := fun b hb => m_wd (FU := FU) (n := n) (a := b) (plain := plain) [59, 84, 90, 73, 68, 61] 6 65233478042685 6 hF hn (by omega) (by decide) (by decide +kernel) rfl rfl
  have x0 : ∀ b zo, b ≤ 96000 → ∃ z, f_M_readEvent_67 FU ty tx (nI n) plain (nI b) 0 zo st0 le0 0 er 0 wo (-1) 0 1 0 (-1) 0 0 mr 0 dr 0 wr wn 0 pr = some (0, z) := fun b zo hb => m67_0 hF hC hb
  by_cases q0 : Wd plain n 0 [68, 84, 83, 84, 65, 82, 84]
  rotate_left
  · rw [k0.2 q0, bd_ok, if_pos rfl, bd_ok, if_pos rfl] at eK
    rw [w0.2 q0, bd_ok, m_need, bd_ok, nd_00] at eM
    by_cases q : Wd plain n 0 [59, 84, 90, 73, 68, 61]
    · rw [(wz 0 (by omega)).1 q, bd_ok, if_neg (show ¬ (1 : Int32) = 0 by decide), m_peek hn (by omega), bd_ok, nm_eq] at eM
      rcases wi_or FU (pk plain n (0 + 6) - 48) 0 2 with e | e
      · rw [e, bd_ok, m_need, bd_ok, nd_g0, nm_eq, nI_1] at eM
        obtain ⟨z, hz⟩ := x0 (0 + 6 + 1) (pk plain n (0 + 6) - 48) (by omega)
        exact Or.inr ⟨⟨_, eK⟩, z, eM.trans hz⟩
      · rw [e, bd_ok, m_need, bd_ok, nd_g0, nm_eq, nI_1] at eM
        obtain ⟨z, hz⟩ := x0 (0 + 6 + 1) (pk plain n (0 + 6) - 48) (by omega)
        exact Or.inr ⟨⟨_, eK⟩, z, eM.trans hz⟩
    · rw [(wz 0 (by omega)).2 q, bd_ok, if_pos rfl] at eM
      obtain ⟨z, hz⟩ := x0 0 (-1) (by omega)
      exact Or.inr ⟨⟨_, eK⟩, z, eM.trans hz⟩
  have ha7 : 0 + 7 ≤ n := wd_le q0
  rw [k0.1 q0, bd_ok, if_neg (show ¬ (1 : Int32) = 0 by decide)] at eK
  rw [w0.1 q0, bd_ok, m_need, bd_ok, nd_1 1 g01] at eM
  have kz := k_wd (FU := FU) (a := 7) 12 [59, 84, 90, 73, 68, 61] 6 hF hC (by omega) (by omega) rfl rfl
  have last : ∀ (b : Nat) (zo : Int32), b ≤ n → (zo = -1 ∨ ∃ z, z < 3 ∧ zo = nI z) → X = bd (f_Draft_readStart_51 FU row (nI n) zo ss (nI b)) (fun z3 => (if z3.1 = 0 then (some (0, z3.2.1, z3.2.2.1, dd, rr, fq, givn, intv, cnt, untl, wst, km, kd, ke, kw, nW, wN, nS, ps, pS, ar, as, lr, ls, z3.2.2.2)) else bd (f_Draft_readDuration FU dd row (nI n) z3.2.2.2) (fun z5 => (if z5.1 = 0 then (some (0, z3.2.1, z3.2.2.1, z5.2.1, rr, fq, givn, intv, cnt, untl, wst, km, kd, ke, kw, nW, wN, nS, ps, pS, ar, as, lr, ls, z5.2.2)) else krest FU n row z5.2.2 z3.2.1 z3.2.2.1 z5.2.1 fq givn intv cnt untl wst km kd ke kw nW wN nS ps pS ar as lr ls)))) → Y = f_M_readEvent_67 FU ty tx (nI n) plain (nI b) 1 zo st0 le0 0 er 0 wo (-1) 0 1 0 (-1) 0 0 mr 0 dr 0 wr wn 0 pr → (∃ (zo : Int32) (S D : Nat), (zo = -1 ∨ ∃ z, z < 3 ∧ zo = nI z) ∧ S ≤ 10519199 ∧ 1 ≤ D ∧ D ≤ 1440 ∧ ∃ (rec fq' fr' : Int32) (sa sl : Nat) (ar' lr' er' wo' : Nat → Int32) (givn' : Int32) (intv' : Int32) (cnt' : Int32) (untl' : Int32) (wst' : Int32) (km' : Int32) (kd' : Int32) (ke' : Int32) (kw' : Int32) (nW' : Nat → Int32) (wN' : Nat → Int32) (nS' : Int32) (ps' : Nat → Int32) (pS' : Int32) (parts' : Int32) (iv' : Int32) (lim' : Int32) (unt' : Int32) (wb' : Int32) (mo' : Int32) (mr' : Nat → Int32) (md' : Int32) (dr' : Nat → Int32) (wd' : Int32) (wr' : Nat → Int32) (wn' : Nat → Int32) (po' : Int32) (pr' : Nat → Int32), sa ≤ 18 ∧ sl ≤ 18 ∧ RowT sa ar' er' ∧ RowT sl lr' wo' ∧ ((rec = 0 ∧ fr' = -1) ∨ (rec = 1 ∧ ∃ f Q : Nat, f < 4 ∧ fq' = nI (f + 1) ∧ fr' = nI f ∧ RR Q givn' intv' cnt' untl' wst' km' kd' ke' kw' nW' wN' nS' ps' pS' parts' iv' lim' unt' wb' mo' mr' md' dr' wd' wr' wn' po' pr')) ∧ X = some (1, zo, nI S, nI D, rec, fq', givn', intv', cnt', untl', wst', km', kd', ke', kw', nW', wN', nS', ps', pS', ar', nI sa, lr', nI sl, nI n) ∧ Y = some (1, nI n, plain, nI n, 1, zo, nI S, nI D, nI sa, er', nI sl, wo', fr', parts', iv', lim', unt', wb', mo', mr', md', dr', wd', wr', wn', po', pr')) ∨ ((∃ y, X = some (0, y)) ∧ ∃ z, Y = some (0, z)) := by
    intro b zo hb hzo eK eM
    rcases c_67 (FU := FU) (a := b) (ty := ty) (tx := tx) (st0 := ss) (du := dd) (plain := plain) (zo := zo) (st := st0) (le := le0) (ex := 0) (er := er) (go := 0) (wo := wo) (fr := (-1)) (parts := 0) (iv := 1) (lim := 0) (unt := (-1)) (wb := 0) (mo := 0) (mr := mr) (md := 0) (dr := dr) (wd := 0) (wr := wr) (wn := wn) (po := 0) (pr := pr) hF hC hb with ⟨S, D, a1, a', s1, s2, s3, s4, s5, s6, s7⟩ | ⟨⟨z, s1⟩, s2⟩
    · rw [s5, bd_ok, if_neg (show ¬ (1 : Int32) = 0 by decide), s6, bd_ok, if_neg (show ¬ (1 : Int32) = 0 by decide)] at eK
      rcases c_rest (FU := FU) (n := n) (a := a') (S := S) (D := D) (ty := ty) (tx := tx) (zo := zo) (fq := fq) (row := row) (plain := plain) (givn := givn) (intv := intv) (cnt := cnt) (untl := untl) (wst := wst) (km := km) (kd := kd) (ke := ke) (kw := kw) (nW := nW) (wN := wN) (nS := nS) (ps := ps) (pS := pS) (ar := ar) (as := as) (lr := lr) (ls := ls) (mr := mr) (dr := dr) (wr := wr) (wn := wn) (pr := pr) (er := er) (wo := wo) hF hC s4 with ⟨rec, fq', fr', sa, sl, ar', lr', er', wo', givn', intv', cnt', untl', wst', km', kd', ke', kw', nW', wN', nS', ps', pS', parts', iv', lim', unt', wb', mo', mr', md', dr', wd', wr', wn', po', pr', d1, d2, d3, d4, d5, d6, d7⟩ | ⟨⟨y, d1⟩, z, d2⟩
      · exact Or.inl ⟨zo, S, D, hzo, s1, s2, s3, rec, fq', fr', sa, sl, ar', lr', er', wo', _, _, _, _, _, _, _, _, _, _, _, _, _, _, _, _, _, _, _, _, _, _, _, _, _, _, _, _, d1, d2, d3, d4, d5, eK.trans d6, (eM.trans s7).trans d7⟩
      · exact Or.inr ⟨⟨y, eK.trans d1⟩, z, (eM.trans s7).trans d2⟩
    · refine Or.inr ⟨?_, z, eM.trans s1⟩
      rcases s2 with ⟨y, s2⟩ | ⟨s1', a1, y, s2, s3⟩
      · rw [s2, bd_ok, if_pos rfl] at eK
        exact ⟨_, eK⟩
      · rw [s2, bd_ok, if_neg (show ¬ (1 : Int32) = 0 by decide), s3, bd_ok, if_pos rfl] at eK
        exact ⟨_, eK⟩
  by_cases q : Wd plain n 7 [59, 84, 90, 73, 68, 61]
  · have ha13 : 7 + 6 ≤ n := wd_le q
    rw [kz.1 q, bd_ok, if_neg (show ¬ (1 : Int32) = 0 by decide)] at eK
    rw [(wz 7 (by omega)).1 q, bd_ok, if_neg (show ¬ (1 : Int32) = 0 by decide), m_peek hn (by omega), bd_ok, nm_eq] at eM
    rcases c_zone (FU := FU) (a := 7 + 6) hF hC ha13 with ⟨z, z1, z2, z3, z4, z5⟩ | ⟨z1, v, b, z2, z3⟩
    · rw [z3, bd_ok, if_neg (nI_pos (by omega)), if_pos (show nI z < 3 from nI_lt (b := 3) (by omega) (by omega))] at eK
      rw [z4, z5, bd_ok, m_need, bd_ok, nd_1 1 g01, nm_eq, nI_1] at eM
      exact last (7 + 6 + 1) (nI z) z2 (Or.inr ⟨z, z1, rfl⟩) eK eM
    · rw [z1, bd_ok, m_need, bd_ok, nd_00, nm_eq, nI_1] at eM
      obtain ⟨z, hz⟩ := x0 (7 + 6 + 1) (pk plain n (7 + 6) - 48) (by omega)
      refine Or.inr ⟨?_, z, eM.trans hz⟩
      rcases z3 with z3 | ⟨z3, z4⟩
      · rw [z2, bd_ok, if_pos z3, bd_ok, if_pos rfl] at eK
        exact ⟨_, eK⟩
      · rw [z2, bd_ok, if_neg z3, if_neg z4, bd_ok, if_pos rfl] at eK
        exact ⟨_, eK⟩
  · rw [kz.2 q, bd_ok, if_pos rfl] at eK
    rw [(wz 7 (by omega)).2 q, bd_ok, if_pos rfl] at eM
    exact last 7 (-1) (by omega) (Or.inl rfl) eK eM
