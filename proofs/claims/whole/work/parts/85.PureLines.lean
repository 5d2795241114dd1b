/-! pure: the loop over the lines of times -/
theorem m_271 {FU n b : Nat} {ty : Int32} {tx plain : Nat → Int32} {zo st le ex go : Int32} {er wr : Nat → Int32} {r_freq : Int32} {r_parts : Int32} {r_interval : Int32} {r_limit : Int32} {r_until : Int32} {r_weekBegin : Int32} {r_months : Int32} {r_month : Nat → Int32} {r_monthDays : Int32} {r_monthDay : Nat → Int32} {r_weekdays : Int32} {r_weekday : Nat → Int32} {r_weekdayNumber : Nat → Int32} {r_positions : Int32} {r_position : Nat → Int32} : f_M_readEvent_271 FU ty tx (nI n) plain (nI b) 0 zo st le ex er go wr r_freq r_parts r_interval r_limit r_until r_weekBegin r_months r_month r_monthDays r_monthDay r_weekdays r_weekday r_weekdayNumber r_positions r_position = some (0, nI n, plain, nI b, 0, zo, st, le, ex, er, go, wr, r_freq, r_parts, r_interval, r_limit, r_until, r_weekBegin, r_months, r_month, r_monthDays, r_monthDay, r_weekdays, r_weekday, r_weekdayNumber, r_positions, r_position) := by
  unfold f_M_readEvent_271
  rw [if_pos rfl]
theorem m_190_0 {FU n b m : Nat} {ty : Int32} {tx plain : Nat → Int32} {i zo st le ex go : Int32} {er wr : Nat → Int32} {r_freq : Int32} {r_parts : Int32} {r_interval : Int32} {r_limit : Int32} {r_until : Int32} {r_weekBegin : Int32} {r_months : Int32} {r_month : Nat → Int32} {r_monthDays : Int32} {r_monthDay : Nat → Int32} {r_weekdays : Int32} {r_weekday : Nat → Int32} {r_weekdayNumber : Nat → Int32} {r_positions : Int32} {r_position : Nat → Int32} : f_M_readEvent_190 FU ty tx (m + 1) i (nI n) plain (nI b) 0 zo st le ex er go wr r_freq r_parts r_interval r_limit r_until r_weekBegin r_months r_month r_monthDays r_monthDay r_weekdays r_weekday r_weekdayNumber r_positions r_position = some (0, nI n, plain, nI b, 0, zo, st, le, ex, er, go, wr, r_freq, r_parts, r_interval, r_limit, r_until, r_weekBegin, r_months, r_month, r_monthDays, r_monthDay, r_weekdays, r_weekday, r_weekdayNumber, r_positions, r_position) := by
  show f_M_readEvent_190_hd FU ty tx (f_M_readEvent_190 FU ty tx m) i (nI n) plain (nI b) 0 zo st le ex er go wr r_freq r_parts r_interval r_limit r_until r_weekBegin r_months r_month r_monthDays r_monthDay r_weekdays r_weekday r_weekdayNumber r_positions r_position = _
  unfold f_M_readEvent_190_hd
  rw [m_271, if_pos rfl, ite_self]
/-- no more lines: the class goes through the rest of its turns -/
theorem k_18_stay {FU n a : Nat} {row plain : Nat → Int32} (hF : 300 < FU) (hC : CH n row plain) (ha : a ≤ n) (q1 : ¬ Wd plain n a [69, 88, 68, 65, 84, 69, 58]) (q2 : ¬ Wd plain n a [82, 68, 65, 84, 69, 58]) (ar lr : Nat → Int32) (as ls : Int32) : ∀ m i, i ≤ 3 → 3 - i < m → f_Draft_readTimes_18 FU row (nI n) m 1 (nI i) ar as lr ls (nI a) = some (1, ar, as, lr, ls, nI a) := by
  intro m
  induction m with
  | zero => intro i _ h; omega
  | succ m ih =>
    intro i hi hm
    show f_Draft_readTimes_18_hd FU row (nI n) (f_Draft_readTimes_18 FU row (nI n) m) 1 (nI i) ar as lr ls (nI a) = _
    unfold f_Draft_readTimes_18_hd
    rw [if_neg (show ¬ (1 : Int32) = 0 by decide)]
    by_cases h3 : 3 ≤ i
    · rw [if_pos (show 3 ≤ nI i from nI_le (a := 3) h3 (by omega)), ckz_1]
    · rw [if_neg (show ¬ 3 ≤ nI i from nI_ge (b := 3) (by omega) (by omega)), (k_wd 14 _ 7 hF hC (by omega) ha rfl rfl).2 q1, bd_ok, if_pos rfl, (k_wd 15 _ 6 hF hC (by omega) ha rfl rfl).2 q2, bd_ok, if_pos rfl, nI_1]
      exact ih (i + 1) (by omega) (by omega)
theorem k_18_bad {FU n m : Nat} {row : Nat → Int32} (i : Int32) (ar lr : Nat → Int32) (as ls b : Int32) : f_Draft_readTimes_18 FU row (nI n) (m + 1) 0 i ar as lr ls b = some (0, ar, as, lr, ls, b) := by
  show f_Draft_readTimes_18_hd FU row (nI n) (f_Draft_readTimes_18 FU row (nI n) m) 0 i ar as lr ls b = _
  unfold f_Draft_readTimes_18_hd
  rw [if_pos rfl, ckz_0]
theorem c_lines {FU n : Nat} {ty : Int32} {tx row plain : Nat → Int32} {zo st le : Int32} {r_freq : Int32} {r_parts : Int32} {r_interval : Int32} {r_limit : Int32} {r_until : Int32} {r_weekBegin : Int32} {r_months : Int32} {r_month : Nat → Int32} {r_monthDays : Int32} {r_monthDay : Nat → Int32} {r_weekdays : Int32} {r_weekday : Nat → Int32} {r_weekdayNumber : Nat → Int32} {r_positions : Int32} {r_position : Nat → Int32} (hF : 300 < FU) (hC : CH n row plain) : ∀ (m i a sa sl : Nat) (ar lr er wr : Nat → Int32), i ≤ 3 → 3 - i < m → a ≤ n → sa + sl ≤ 6 * i → RowT sa ar er → RowT sl lr wr →
    (∃ sa' sl' ar' lr' er' wr', sa' ≤ 18 ∧ sl' ≤ 18 ∧ RowT sa' ar' er' ∧ RowT sl' lr' wr' ∧ f_Draft_readTimes_18 FU row (nI n) m 1 (nI i) ar (nI sa) lr (nI sl) (nI a) = some (1, ar', nI sa', lr', nI sl', nI n) ∧ f_M_readEvent_190 FU ty tx m (nI i) (nI n) plain (nI a) 1 zo st le (nI sa) er (nI sl) wr r_freq r_parts r_interval r_limit r_until r_weekBegin r_months r_month r_monthDays r_monthDay r_weekdays r_weekday r_weekdayNumber r_positions r_position = some (1, nI n, plain, nI n, 1, zo, st, le, nI sa', er', nI sl', wr', r_freq, r_parts, r_interval, r_limit, r_until, r_weekBegin, r_months, r_month, r_monthDays, r_monthDay, r_weekdays, r_weekday, r_weekdayNumber, r_positions, r_position)) ∨
    (∃ f b ar' as' lr' ls' z, b ≤ n ∧ (f = 0 ∨ (f = 1 ∧ b < n)) ∧ f_Draft_readTimes_18 FU row (nI n) m 1 (nI i) ar (nI sa) lr (nI sl) (nI a) = some (f, ar', as', lr', ls', nI b) ∧ f_M_readEvent_190 FU ty tx m (nI i) (nI n) plain (nI a) 1 zo st le (nI sa) er (nI sl) wr r_freq r_parts r_interval r_limit r_until r_weekBegin r_months r_month r_monthDays r_monthDay r_weekdays r_weekday r_weekdayNumber r_positions r_position = some (0, z)) := by
  have hn := hC.1
  intro m
  induction m with
  | zero => intro i a sa sl ar lr er wr _ h; omega
  | succ m ih =>
    intro i a sa sl ar lr er wr hi hm ha hs hA hL
    have eM : f_M_readEvent_190 FU ty tx (m + 1) (nI i) (nI n) plain (nI a) 1 zo st le (nI sa) er (nI sl) wr r_freq r_parts r_interval r_limit r_until r_weekBegin r_months r_month r_monthDays r_monthDay r_weekdays r_weekday r_weekdayNumber r_positions r_position = f_M_readEvent_190_hd FU ty tx (f_M_readEvent_190 FU ty tx m) (nI i) (nI n) plain (nI a) 1 zo st le (nI sa) er (nI sl) wr r_freq r_parts r_interval r_limit r_until r_weekBegin r_months r_month r_monthDays r_monthDay r_weekdays r_weekday r_weekdayNumber r_positions r_position := rfl
    have eK : f_Draft_readTimes_18 FU row (nI n) (m + 1) 1 (nI i) ar (nI sa) lr (nI sl) (nI a) = f_Draft_readTimes_18_hd FU row (nI n) (f_Draft_readTimes_18 FU row (nI n) m) 1 (nI i) ar (nI sa) lr (nI sl) (nI a) := rfl
    unfold f_M_readEvent_190_hd at eM
    have e271 : ∀ b, b ≤ n → f_M_readEvent_271 FU ty tx (nI n) plain (nI b) 1 zo st le (nI sa) er (nI sl) wr r_freq r_parts r_interval r_limit r_until r_weekBegin r_months r_month r_monthDays r_monthDay r_weekdays r_weekday r_weekdayNumber r_positions r_position = some (if b = n then 1 else 0, nI n, plain, nI b, 1, zo, st, le, nI sa, er, nI sl, wr, r_freq, r_parts, r_interval, r_limit, r_until, r_weekBegin, r_months, r_month, r_monthDays, r_monthDay, r_weekdays, r_weekday, r_weekdayNumber, r_positions, r_position) := by
      intro b hb
      unfold f_M_readEvent_271
      rw [if_neg (show ¬ (1 : Int32) = 0 by decide)]
      by_cases e : b = n
      · rw [if_pos e, e, if_pos rfl]
      · rw [if_neg e, if_neg (fun w => e ((nI_eq (by omega) (by omega)).mp w))]
    by_cases h3 : 3 ≤ i
    · rw [if_pos (show 3 ≤ nI i from nI_le (a := 3) h3 (by omega)), e271 a ha] at eM
      have eK2 : f_Draft_readTimes_18 FU row (nI n) (m + 1) 1 (nI i) ar (nI sa) lr (nI sl) (nI a) = some (1, ar, nI sa, lr, nI sl, nI a) := by
        rw [eK]
        unfold f_Draft_readTimes_18_hd
        rw [if_neg (show ¬ (1 : Int32) = 0 by decide), if_pos (show 3 ≤ nI i from nI_le (a := 3) h3 (by omega)), ckz_1]
      by_cases e : a = n
      · subst e
        rw [if_pos rfl] at eM
        exact Or.inl ⟨sa, sl, ar, lr, er, wr, by omega, by omega, hA, hL, eK2, eM⟩
      · rw [if_neg e] at eM
        exact Or.inr ⟨1, a, _, _, _, _, _, ha, Or.inr ⟨rfl, by omega⟩, eK2, eM⟩
    · rw [if_neg (show ¬ 3 ≤ nI i from nI_ge (b := 3) (by omega) (by omega)), if_neg (show ¬ (1 : Int32) = 0 by decide)] at eM
      obtain ⟨m', rfl⟩ : ∃ q, m = q + 1 := ⟨m - 1, by omega⟩
      by_cases hend : n ≤ a
      · have : a = n := by omega
        subst this
        rw [if_pos (nI_le hend (by omega)), e271 a ha, if_pos rfl] at eM
        refine Or.inl ⟨sa, sl, ar, lr, er, wr, by omega, by omega, hA, hL, ?_, eM⟩
        exact k_18_stay hF hC ha (fun w => by have := w.1; simp at this; omega) (fun w => by have := w.1; simp at this; omega) ar lr _ _ _ i (by omega) (by omega)
      · rw [if_neg (nI_ge (by omega) (by omega))] at eM
        have w1 := m_wd (FU := FU) (n := n) (a := a) (plain := plain) [69, 88, 68, 65, 84, 69, 58] 7 19518823570097466 7 hF hn (by omega) (by decide) (by decide +kernel) rfl rfl
        have w2 := m_wd (FU := FU) (n := n) (a := a) (plain := plain) [82, 68, 65, 84, 69, 58] 6 90453107295546 6 hF hn (by omega) (by decide) (by decide +kernel) rfl rfl
        unfold f_Draft_readTimes_18_hd at eK
        rw [if_neg (show ¬ (1 : Int32) = 0 by decide), if_neg (show ¬ 3 ≤ nI i from nI_ge (b := 3) (by omega) (by omega))] at eK
        by_cases q1 : Wd plain n a [69, 88, 68, 65, 84, 69, 58]
        · have han := wd_le q1
          rw [(k_wd 14 _ 7 hF hC (by omega) ha rfl rfl).1 q1, bd_ok, if_neg (show ¬ (1 : Int32) = 0 by decide)] at eK
          rw [w1.1 q1, bd_ok, if_neg (show ¬ (1 : Int32) = 0 by decide)] at eM
          unfold f_M_readEvent_245 at eM
          rw [m_need, bd_ok, nd_1 1 (Or.inr rfl)] at eM
          have hl := line_1 (FU := FU) (os := nI sa) (orr := er) hF hC FU 0 (a + 7) sl lr wr (by omega) (by omega) han (by omega) hL
          rcases hl with ⟨s', a', t', r', c1, c2, c3, c4, c5, c6⟩ | ⟨a'', a', g', s', t', s2, r', c1, c2, c3, c4, c5⟩
          · have c6 : f_M_readTimes FU 1 (nI n) plain (nI (a + 7)) 1 (nI sa) er (nI sl) wr = some (nI a', 1, nI sa, er, nI s', r') := c6
            have c5 : f_Times_readLineFrom FU lr (nI sl) row (nI n) (nI (a + 7)) = some (1, t', nI s', nI (a' + 1)) := c5
            rw [c6, bd_ok, (m_wd (FU := FU) (n := n) (a := a') (plain := plain) [10] 1 10 1 hF hn (by omega) (by decide) (by decide +kernel) rfl rfl).1 c3, bd_ok, m_need, bd_ok, nd_1 1 (Or.inr rfl), nI_1] at eM
            rw [c5, bd_ok, nI_1] at eK
            rw [eK, eM]
            exact ih (i + 1) (a' + 1) sa s' ar t' er r' (by omega) (by omega) c2 (by omega) hA c4
          · have c5 : f_M_readTimes FU 1 (nI n) plain (nI (a + 7)) 1 (nI sa) er (nI sl) wr = some (nI a', g', nI sa, er, s', r') := c5
            have c4 : f_Times_readLineFrom FU lr (nI sl) row (nI n) (nI (a + 7)) = some (0, t', s2, nI a'') := c4
            rw [c4, bd_ok, k_18_bad] at eK
            have w10 := m_wd (FU := FU) (n := n) (a := a') (plain := plain) [10] 1 10 1 hF hn (by omega) (by decide) (by decide +kernel) rfl rfl
            rw [c5, bd_ok] at eM
            have hz : ∃ b', bd (f_M_word FU 10 1 (nI n) plain (nI a')) (fun z27 => bd (f_M_need FU z27.1 g') (fun z28 => (f_M_readEvent_190 FU ty tx (m' + 1) (nI i + 1) (nI n) plain z27.2 z28 zo st le (nI sa) er s' r' r_freq r_parts r_interval r_limit r_until r_weekBegin r_months r_month r_monthDays r_monthDay r_weekdays r_weekday r_weekdayNumber r_positions r_position))) = f_M_readEvent_190 FU ty tx (m' + 1) (nI i + 1) (nI n) plain (nI b') 0 zo st le (nI sa) er s' r' r_freq r_parts r_interval r_limit r_until r_weekBegin r_months r_month r_monthDays r_monthDay r_weekdays r_weekday r_weekdayNumber r_positions r_position := by
              rcases c3 with rfl | ⟨rfl, c3⟩
              · by_cases q : Wd plain n a' [10]
                · exact ⟨a' + 1, by rw [w10.1 q, bd_ok, m_need, bd_ok, nd_g0]⟩
                · exact ⟨a', by rw [w10.2 q, bd_ok, m_need, bd_ok, nd_g0]⟩
              · exact ⟨a', by rw [w10.2 c3, bd_ok, m_need, bd_ok, nd_00]⟩
            obtain ⟨b', hz⟩ := hz
            rw [m_190_0] at hz
            exact Or.inr ⟨0, a'', _, _, _, _, _, c1, Or.inl rfl, eK, eM.trans hz⟩
        · rw [(k_wd 14 _ 7 hF hC (by omega) ha rfl rfl).2 q1, bd_ok, if_pos rfl] at eK
          rw [w1.2 q1, bd_ok, if_pos rfl] at eM
          by_cases q2 : Wd plain n a [82, 68, 65, 84, 69, 58]
          · have han := wd_le q2
            rw [(k_wd 15 _ 6 hF hC (by omega) ha rfl rfl).1 q2, bd_ok, if_neg (show ¬ (1 : Int32) = 0 by decide)] at eK
            rw [w2.1 q2, bd_ok, if_neg (show ¬ (1 : Int32) = 0 by decide)] at eM
            unfold f_M_readEvent_245 at eM
            rw [m_need, bd_ok, nd_1 1 (Or.inr rfl)] at eM
            have hl := line_0 (FU := FU) (os := nI sl) (orr := wr) hF hC FU 0 (a + 6) sa ar er (by omega) (by omega) han (by omega) hA
            rcases hl with ⟨s', a', t', r', c1, c2, c3, c4, c5, c6⟩ | ⟨a'', a', g', s', t', s2, r', c1, c2, c3, c4, c5⟩
            · have c6 : f_M_readTimes FU 0 (nI n) plain (nI (a + 6)) 1 (nI sa) er (nI sl) wr = some (nI a', 1, nI s', r', nI sl, wr) := c6
              have c5 : f_Times_readLineFrom FU ar (nI sa) row (nI n) (nI (a + 6)) = some (1, t', nI s', nI (a' + 1)) := c5
              rw [c6, bd_ok, (m_wd (FU := FU) (n := n) (a := a') (plain := plain) [10] 1 10 1 hF hn (by omega) (by decide) (by decide +kernel) rfl rfl).1 c3, bd_ok, m_need, bd_ok, nd_1 1 (Or.inr rfl), nI_1] at eM
              rw [c5, bd_ok, nI_1] at eK
              rw [eK, eM]
              exact ih (i + 1) (a' + 1) s' sl t' lr r' wr (by omega) (by omega) c2 (by omega) c4 hL
            · have c5 : f_M_readTimes FU 0 (nI n) plain (nI (a + 6)) 1 (nI sa) er (nI sl) wr = some (nI a', g', s', r', nI sl, wr) := c5
              have c4 : f_Times_readLineFrom FU ar (nI sa) row (nI n) (nI (a + 6)) = some (0, t', s2, nI a'') := c4
              rw [c4, bd_ok, k_18_bad] at eK
              have w10 := m_wd (FU := FU) (n := n) (a := a') (plain := plain) [10] 1 10 1 hF hn (by omega) (by decide) (by decide +kernel) rfl rfl
              rw [c5, bd_ok] at eM
              have hz : ∃ b', bd (f_M_word FU 10 1 (nI n) plain (nI a')) (fun z27 => bd (f_M_need FU z27.1 g') (fun z28 => (f_M_readEvent_190 FU ty tx (m' + 1) (nI i + 1) (nI n) plain z27.2 z28 zo st le s' r' (nI sl) wr r_freq r_parts r_interval r_limit r_until r_weekBegin r_months r_month r_monthDays r_monthDay r_weekdays r_weekday r_weekdayNumber r_positions r_position))) = f_M_readEvent_190 FU ty tx (m' + 1) (nI i + 1) (nI n) plain (nI b') 0 zo st le s' r' (nI sl) wr r_freq r_parts r_interval r_limit r_until r_weekBegin r_months r_month r_monthDays r_monthDay r_weekdays r_weekday r_weekdayNumber r_positions r_position := by
                rcases c3 with rfl | ⟨rfl, c3⟩
                · by_cases q : Wd plain n a' [10]
                  · exact ⟨a' + 1, by rw [w10.1 q, bd_ok, m_need, bd_ok, nd_g0]⟩
                  · exact ⟨a', by rw [w10.2 q, bd_ok, m_need, bd_ok, nd_g0]⟩
                · exact ⟨a', by rw [w10.2 c3, bd_ok, m_need, bd_ok, nd_00]⟩
              obtain ⟨b', hz⟩ := hz
              rw [m_190_0] at hz
              exact Or.inr ⟨0, a'', _, _, _, _, _, c1, Or.inl rfl, eK, eM.trans hz⟩
          · rw [w2.2 q2, bd_ok, if_pos rfl] at eM
            unfold f_M_readEvent_245 at eM
            obtain ⟨a', t1, t2⟩ := m_times0_0 (FU := FU) (plain := plain) (a := a) (s := sa) (os := nI sl) (orr := wr) hF hn (by omega) (by omega) er
            rw [m_need, bd_ok, nd_00, t2, bd_ok] at eM
            have w10 := m_wd (FU := FU) (n := n) (a := a') (plain := plain) [10] 1 10 1 hF hn (by omega) (by decide) (by decide +kernel) rfl rfl
            have hk := k_18_stay (FU := FU) hF hC ha q1 q2 ar lr (nI sa) (nI sl) (m' + 1 + 1) i (by omega) (by omega)
            by_cases q : Wd plain n a' [10]
            · rw [w10.1 q, bd_ok, m_need, bd_ok, nd_g0, m_190_0] at eM
              exact Or.inr ⟨1, a, _, _, _, _, _, ha, Or.inr ⟨rfl, by omega⟩, hk, eM⟩
            · rw [w10.2 q, bd_ok, m_need, bd_ok, nd_g0, m_190_0] at eM
              exact Or.inr ⟨1, a, _, _, _, _, _, ha, Or.inr ⟨rfl, by omega⟩, hk, eM⟩
