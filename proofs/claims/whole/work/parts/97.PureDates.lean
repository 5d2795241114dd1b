/-! pure: dates -/
/-- the day d lies in the month M + 1 of the year 2000 + Y -/
def DT (d Y M : Nat) : Prop := Y < 20 ∧ M < 12 ∧ fom Y (M + 1) ≤ d ∧ d < fom Y (M + 1) + lom Y (M + 1)
theorem t_year : ∀ Y, Y < 20 → fom (Y + 1) 1 = fom Y 12 + lom Y 12 ∧ fom Y 1 ≤ fom Y 12 := by decide +kernel
theorem t_mono : ∀ Y, Y < 20 → ∀ M, M < 12 → ∀ Z, Z < 20 → ∀ N, N < 12 → (12 * Y + M < 12 * Z + N → fom Y (M + 1) + lom Y (M + 1) ≤ fom Z (N + 1)) := by decide +kernel
theorem t_stp : ∀ Y, Y < 20 → ∀ M, M < 11 → fom Y (M + 1 + 1) = fom Y (M + 1) + lom Y (M + 1) := t_step
theorem t_end : fom 20 1 = 7305 := by decide
theorem DT_uni {d Y M Z N : Nat} (h : DT d Y M) (g : DT d Z N) : Y = Z ∧ M = N := by
  obtain ⟨a1, a2, a3, a4⟩ := h
  obtain ⟨b1, b2, b3, b4⟩ := g
  rcases Nat.lt_trichotomy (12 * Y + M) (12 * Z + N) with w | w | w
  · have := t_mono Y a1 M a2 Z b1 N b2 w; omega
  · omega
  · have := t_mono Z b1 N b2 Y a1 M a2 w; omega
theorem DT_le {d Y M e Z N : Nat} (h : DT d Y M) (g : DT e Z N) (hd : d ≤ e) : 12 * Y + M ≤ 12 * Z + N := by
  obtain ⟨a1, a2, a3, a4⟩ := h
  obtain ⟨b1, b2, b3, b4⟩ := g
  rcases Nat.lt_or_ge (12 * Z + N) (12 * Y + M) with w | w
  · have := t_mono Z b1 N b2 Y a1 M a2 w; omega
  · exact w
theorem DT_next {d Y M : Nat} (h : DT d Y M) (hd : d < 7304) : (d + 1 < fom Y (M + 1) + lom Y (M + 1) ∧ DT (d + 1) Y M) ∨ (d + 1 = fom Y (M + 1) + lom Y (M + 1) ∧ ((M < 11 ∧ DT (d + 1) Y (M + 1)) ∨ (M = 11 ∧ Y < 19 ∧ DT (d + 1) (Y + 1) 0))) := by
  obtain ⟨a1, a2, a3, a4⟩ := h
  by_cases w : d + 1 < fom Y (M + 1) + lom Y (M + 1)
  · exact Or.inl ⟨w, a1, a2, by omega, w⟩
  · right
    have e : d + 1 = fom Y (M + 1) + lom Y (M + 1) := by omega
    refine ⟨e, ?_⟩
    by_cases hM : M < 11
    · left
      have := t_stp Y a1 M hM
      have := t_lom31 Y a1 (M + 1) (by omega)
      exact ⟨hM, a1, by omega, by omega, by omega⟩
    · right
      have hM : M = 11 := by omega
      subst hM
      have h1 := (t_year Y a1).1
      have hY : Y < 19 := by
        rcases Nat.lt_or_ge Y 19 with w | w
        · exact w
        · have : Y = 19 := by omega
          subst this
          have h2 := t_end
          have h3 : fom (19 + 1) 1 = fom 19 12 + lom 19 12 := h1
          have e' : d + 1 = fom 19 12 + lom 19 12 := e
          rw [show (19 + 1 : Nat) = 20 from rfl] at h3
          omega
      have := t_lom31 (Y + 1) (by omega) 0 (by omega)
      have e' : d + 1 = fom Y 12 + lom Y 12 := e
      have e'' : fom (Y + 1) (0 + 1) = fom (Y + 1) 1 := rfl
      exact ⟨rfl, hY, by omega, by omega, by omega, by omega⟩
theorem DT_0 : DT 0 0 0 := ⟨by omega, by omega, by decide, by decide⟩
theorem DT_ex : ∀ d, d ≤ 7304 → ∃ Y M, DT d Y M := by
  intro d
  induction d with
  | zero => exact fun _ => ⟨0, 0, DT_0⟩
  | succ d ih =>
    intro hd
    obtain ⟨Y, M, h⟩ := ih (by omega)
    rcases DT_next h (by omega) with ⟨_, g⟩ | ⟨_, ⟨_, g⟩ | ⟨_, _, g⟩⟩
    · exact ⟨_, _, g⟩
    · exact ⟨_, _, g⟩
    · exact ⟨_, _, g⟩
theorem DT_first {Y M : Nat} (hY : Y < 20) (hM : M < 12) : DT (fom Y (M + 1)) Y M := by
  have := t_lom31 Y hY M hM
  exact ⟨hY, hM, by omega, by omega⟩
theorem DT_day {d Y M : Nat} (h : DT d Y M) : d ≤ 7304 ∧ fom Y 1 ≤ d ∧ d < fom (Y + 1) 1 := by
  obtain ⟨a1, a2, a3, a4⟩ := h
  have := t_max Y a1 M a2
  have hy := t_year Y a1
  refine ⟨by omega, ?_, ?_⟩
  · rcases Nat.eq_zero_or_pos M with w | w
    · subst w; exact a3
    · have h1 := t_mono Y a1 0 (by omega) Y a1 M a2 (by omega)
      have h2 : fom Y (0 + 1) + lom Y (0 + 1) ≤ fom Y (M + 1) := h1
      have h3 : fom Y (0 + 1) = fom Y 1 := rfl
      omega
  · rcases Nat.lt_or_ge M 11 with w | w
    · have h1 := t_mono Y a1 M a2 Y a1 11 (by omega) (by omega)
      have h2 : fom Y (M + 1) + lom Y (M + 1) ≤ fom Y 12 := h1
      have := t_lom31 Y a1 11 (by omega)
      have h4 : 28 ≤ lom Y 12 := this.1
      omega
    · have : M = 11 := by omega
      subst this
      have a4' : d < fom Y 12 + lom Y 12 := a4
      omega
/-- the class's date stands at d -/
def KD (d Y M : Nat) (dy yr mo yF yL mF mL : Int32) : Prop := DT d Y M ∧ dy = nI d ∧ yr = nI (2000 + Y) ∧ mo = nI (M + 1) ∧ yF = nI (fom Y 1) ∧ yL = nI (fom (Y + 1) 1 - fom Y 1) ∧ mF = nI (fom Y (M + 1)) ∧ mL = nI (lom Y (M + 1))
theorem KD.dok {d Y M : Nat} {dy yr mo yF yL mF mL : Int32} (h : KD d Y M dy yr mo yF yL mF mL) : DOK yr mo yF yL mF mL := by
  obtain ⟨⟨h1, h2, _, _⟩, _, e2, e3, e4, e5, e6, e7⟩ := h
  exact Or.inr ⟨Y, M + 1, h1, by omega, by omega, e2, e3, e4, e5, e6, e7⟩
theorem k_fm83 {FU d Y M : Nat} {x y z w : Int32} (h : DT d Y M) : ∀ q N, N ≤ M → M - N < q → f_Date_findMonth_83 FU (nI d) q (nI (2000 + Y)) (nI (N + 1)) x y z w = some (nI (2000 + Y), nI (M + 1), x, y, nI (fom Y (M + 1)), nI (lom Y (M + 1))) := by
  have hd := DT_day h
  obtain ⟨a1, a2, a3, a4⟩ := h
  intro q
  induction q with
  | zero => intro N _ h; omega
  | succ q ih =>
    intro N hN hq
    show f_Date_findMonth_83_hd FU (nI d) (f_Date_findMonth_83 FU (nI d) q) (nI (2000 + Y)) (nI (N + 1)) x y z w = _
    unfold f_Date_findMonth_83_hd
    have hend : N = M → f_Date_findMonth_125 FU (nI d) (nI (2000 + Y)) (nI (N + 1)) x y z w = some (nI (2000 + Y), nI (M + 1), x, y, nI (fom Y (M + 1)), nI (lom Y (M + 1))) := by
      intro e
      subst e
      unfold f_Date_findMonth_125
      rw [t_fom FU Y (by omega) N a2, bd_ok, t_lom FU Y a1 N a2, bd_ok]
    by_cases h11 : 12 ≤ N + 1
    · rw [if_pos (show 12 ≤ nI (N + 1) from nI_le (a := 12) h11 (by omega))]
      exact hend (by omega)
    · rw [if_neg (show ¬ 12 ≤ nI (N + 1) from nI_ge (b := 12) (by omega) (by omega)), nI_1, t_fom FU Y (by omega) (N + 1) (by omega), bd_ok, nm_eq]
      have hmx := t_max Y a1 (N + 1) (by omega)
      by_cases hlt : d < fom Y (N + 1 + 1)
      · rw [if_pos (nI_lt hlt (by omega))]
        refine hend ?_
        rcases Nat.lt_or_ge N M with w | w
        · have h1 := t_mono Y a1 N (by omega) Y a1 M a2 (by omega)
          have h2 := t_step Y a1 N (by omega)
          have : fom Y (N + 1 + 1) = fom Y (N + 2) := rfl
          omega
        · omega
      · rw [if_neg (nI_nlt (by omega) (by omega))]
        have hNM : N < M := by
          rcases Nat.lt_or_ge N M with w | w
          · exact w
          · have h2 := t_stp Y a1 N (by omega)
            have e : N = M := by omega
            subst e
            omega
        exact ih (N + 1) hNM (by omega)
theorem k_fm7 {FU d Y M : Nat} {m x y z w : Int32} (hF : 300 < FU) (h : DT d Y M) : ∀ q Z, Z ≤ Y → Y - Z < q → f_Date_findMonth_7 FU (nI d) q (nI (2000 + Z)) m x y z w = some (nI (2000 + Y), nI (M + 1), nI (fom Y 1), nI (fom (Y + 1) 1 - fom Y 1), nI (fom Y (M + 1)), nI (lom Y (M + 1))) := by
  have hd := DT_day h
  have a1 := h.1
  intro q
  induction q with
  | zero => intro N _ h; omega
  | succ q ih =>
    intro Z hZ hq
    show f_Date_findMonth_7_hd FU (nI d) (f_Date_findMonth_7 FU (nI d) q) (nI (2000 + Z)) m x y z w = _
    unfold f_Date_findMonth_7_hd
    have hend : Z = Y → f_Date_findMonth_47 FU (nI d) (nI (2000 + Z)) m x y z w = some (nI (2000 + Y), nI (M + 1), nI (fom Y 1), nI (fom (Y + 1) 1 - fom Y 1), nI (fom Y (M + 1)), nI (lom Y (M + 1))) := by
      intro e
      subst e
      unfold f_Date_findMonth_47
      have h1 : f_Date_firstOfMonth FU (nI (2000 + Z)) 1 = some (nI (fom Z 1)) := t_fom FU Z (by omega) 0 (by omega)
      have h2 : f_Date_firstOfMonth FU (nI (2000 + Z + 1)) 1 = some (nI (fom (Z + 1) 1)) := t_fom FU (Z + 1) (by omega) 0 (by omega)
      rw [h1, bd_ok, nI_1, h2, bd_ok, nm_eq, pk_sub (by omega)]
      exact k_fm83 h FU 0 (by omega) (by have := h.2.1; omega)
    by_cases h19 : 19 ≤ Z
    · rw [if_pos (show 2019 ≤ nI (2000 + Z) from nI_le (a := 2019) (by omega) (by omega))]
      exact hend (by omega)
    · have h2 : f_Date_firstOfMonth FU (nI (2000 + Z + 1)) 1 = some (nI (fom (Z + 1) 1)) := t_fom FU (Z + 1) (by omega) 0 (by omega)
      rw [if_neg (show ¬ 2019 ≤ nI (2000 + Z) from nI_ge (b := 2019) (by omega) (by omega)), nI_1, h2, bd_ok, nm_eq]
      have hym : ∀ A B, A < B → B < 20 → fom (A + 1) 1 ≤ fom B 1 := by
        intro A B hA hB
        have h1 := (t_year A (by omega)).1
        have h3 := t_mono A (by omega) 11 (by omega) B hB 0 (by omega) (by omega)
        have h4 : fom A 12 + lom A 12 ≤ fom B 1 := h3
        omega
      have hb : fom (Z + 1) 1 ≤ 7305 := by
        have h1 := (t_year Z (by omega)).1
        have h3 := t_max Z (by omega) 11 (by omega)
        have h4 : fom Z 12 + lom Z 12 ≤ 7305 := h3
        omega
      by_cases hlt : d < fom (Z + 1) 1
      · rw [if_pos (nI_lt hlt (by omega))]
        refine hend ?_
        rcases Nat.lt_or_ge Z Y with w | w
        · have := hym Z Y w a1
          omega
        · omega
      · rw [if_neg (nI_nlt (by omega) (by omega))]
        have hZY : Z < Y := by
          rcases Nat.lt_or_ge Z Y with w | w
          · exact w
          · have e : Z = Y := by omega
            subst e
            omega
        exact ih (Z + 1) hZY (by omega)
theorem k_move {FU d Y M : Nat} {dy yr mo yF yL mF mL : Int32} (hF : 300 < FU) (h : DT d Y M) (hD : DOK yr mo yF yL mF mL) : ∃ dy' yr' mo' yF' yL' mF' mL', f_Date_moveTo FU (nI d) dy yr mo yF yL mF mL = some (dy', yr', mo', yF', yL', mF', mL') ∧ KD d Y M dy' yr' mo' yF' yL' mF' mL' := by
  have hd := DT_day h
  have hfind : f_Date_moveTo_32 FU (nI d) yr mo yF yL mF mL = some (nI d, nI (2000 + Y), nI (M + 1), nI (fom Y 1), nI (fom (Y + 1) 1 - fom Y 1), nI (fom Y (M + 1)), nI (lom Y (M + 1))) := by
    unfold f_Date_moveTo_32 f_Date_findMonth
    have h2 := k_fm7 (FU := FU) (m := mo) (x := yF) (y := yL) (z := mF) (w := mL) hF h FU 0 (by omega) (by have := h.1; omega)
    have h3 : f_Date_findMonth_7 FU (nI d) FU 2000 mo yF yL mF mL = _ := h2
    rw [h3, bd_ok]
  have hgood : KD d Y M (nI d) (nI (2000 + Y)) (nI (M + 1)) (nI (fom Y 1)) (nI (fom (Y + 1) 1 - fom Y 1)) (nI (fom Y (M + 1))) (nI (lom Y (M + 1))) := ⟨h, rfl, rfl, rfl, rfl, rfl, rfl, rfl⟩
  unfold f_Date_moveTo
  rw [hfind]
  by_cases c1 : nI d < mF
  · rw [if_pos c1]
    exact ⟨_, _, _, _, _, _, _, rfl, hgood⟩
  · rw [if_neg c1]
    by_cases c2 : nI d < mF + mL
    · rw [if_pos c2]
      refine ⟨_, _, _, _, _, _, _, rfl, ?_⟩
      rcases hD with ⟨rfl, rfl⟩ | ⟨Z, N, hZ, hN1, hN2, rfl, rfl, rfl, rfl, rfl, rfl⟩
      · exact absurd c2 (nI_nlt (b := 0) (by omega) (by omega))
      · obtain ⟨N', rfl⟩ : ∃ q, N = q + 1 := ⟨N - 1, by omega⟩
        have hmx := t_max Z hZ N' (by omega)
        have g : DT d Z N' := by
          refine ⟨hZ, by omega, ?_, ?_⟩
          · rcases Nat.lt_or_ge d (fom Z (N' + 1)) with w | w
            · exact absurd (nI_lt w (by omega)) c1
            · exact w
          · rw [nI_add] at c2
            rcases Nat.lt_or_ge d (fom Z (N' + 1) + lom Z (N' + 1)) with w | w
            · exact w
            · exact absurd c2 (nI_nlt w (by omega))
        obtain ⟨rfl, rfl⟩ := DT_uni h g
        exact hgood
    · rw [if_neg c2]
      exact ⟨_, _, _, _, _, _, _, rfl, hgood⟩
/-- the reference's date stands at d -/
def MD (d Y M : Nat) (dy y m dd : Int32) : Prop := DT d Y M ∧ dy = nI d ∧ y = nI Y ∧ m = nI (M + 1) ∧ dd = nI (d - fom Y (M + 1) + 1)
theorem m_goTo51 {FU d Y M : Nat} {dy : Int32} (h : DT d Y M) : ∀ q N, N ≤ M → M - N < q → f_M_goTo_51 FU q (nI d) dy (nI Y) (nI (N + 1)) (nI (d - fom Y (N + 1) + 1)) = some (nI d, nI Y, nI (M + 1), nI (d - fom Y (M + 1) + 1)) := by
  have hd := DT_day h
  obtain ⟨a1, a2, a3, a4⟩ := h
  intro q
  induction q with
  | zero => intro N _ h; omega
  | succ q ih =>
    intro N hN hq
    show f_M_goTo_51_hd FU (f_M_goTo_51 FU q) (nI d) dy (nI Y) (nI (N + 1)) (nI (d - fom Y (N + 1) + 1)) = _
    unfold f_M_goTo_51_hd
    have l31 := t_lom31 Y a1 N (by omega)
    rw [t_dom FU Y a1 N (by omega), bd_ok, bd_ok, nm_eq, nm_eq]
    rcases Nat.lt_or_ge N M with w | w
    · have h1 := t_mono Y a1 N (by omega) Y a1 M a2 (by omega)
      have h2 := t_step Y a1 N (by omega)
      rw [if_neg (nI_ge (by omega) (by omega)), pk_sub (by omega), nI_1]
      have := ih (N + 1) w (by omega)
      rw [← this]
      congr 2
      have : fom Y (N + 1 + 1) = fom Y (N + 2) := rfl
      omega
    · have e : N = M := by omega
      subst e
      rw [if_pos (nI_le (by omega) (by omega))]
theorem m_goTo5 {FU d Y M : Nat} {dy m dd : Int32} (hF : 300 < FU) (h : DT d Y M) : ∀ q Z, Z ≤ Y → Y - Z < q → f_M_goTo_5 FU q (nI d) dy (nI Z) m dd = some (nI d, nI Y, nI (M + 1), nI (d - fom Y (M + 1) + 1)) := by
  have hd := DT_day h
  have a1 := h.1
  intro q
  induction q with
  | zero => intro N _ h; omega
  | succ q ih =>
    intro Z hZ hq
    show f_M_goTo_5_hd FU (f_M_goTo_5 FU q) (nI d) dy (nI Z) m dd = _
    unfold f_M_goTo_5_hd
    rw [nI_1, t_ny FU (Z + 1) (by omega), bd_ok, t_ny FU Z (by omega), bd_ok, nm_eq, nm_eq]
    have hym : ∀ A B, A < B → B < 20 → fom (A + 1) 1 ≤ fom B 1 := by
      intro A B hA hB
      have h1 := (t_year A (by omega)).1
      have h3 := t_mono A (by omega) 11 (by omega) B hB 0 (by omega) (by omega)
      have h4 : fom A 12 + lom A 12 ≤ fom B 1 := h3
      omega
    have hb : fom (Z + 1) 1 ≤ 7305 := by
      have h1 := (t_year Z (by omega)).1
      have h3 := t_max Z (by omega) 11 (by omega)
      have h4 : fom Z 12 + lom Z 12 ≤ 7305 := h3
      omega
    rcases Nat.lt_or_ge Z Y with w | w
    · have := hym Z Y w a1
      rw [if_neg (nI_nlt (by omega) (by omega))]
      exact ih (Z + 1) w (by omega)
    · have e : Z = Y := by omega
      subst e
      rw [if_pos (nI_lt hd.2.2 (by omega)), pk_sub hd.2.1, nI_1]
      exact m_goTo51 h FU 0 (by omega) (by have := h.2.1; omega)
theorem m_goTo {FU d Y M : Nat} {dy y m dd : Int32} (hF : 300 < FU) (h : DT d Y M) : f_M_goTo FU (nI d) dy y m dd = some (nI d, nI Y, nI (M + 1), nI (d - fom Y (M + 1) + 1)) := by
  unfold f_M_goTo
  exact m_goTo5 hF h FU 0 (by omega) (by have := h.1; omega)
theorem m_nxt {FU d Y M : Nat} (h : DT d Y M) (hd : d < 7304) : ∃ Z N, DT (d + 1) Z N ∧ f_M_nextDay FU (nI d) (nI Y) (nI (M + 1)) (nI (d - fom Y (M + 1) + 1)) = some (nI (d + 1), nI Z, nI (N + 1), nI (d + 1 - fom Z (N + 1) + 1)) := by
  have hdd := DT_day h
  have a := h
  obtain ⟨a1, a2, a3, a4⟩ := a
  have l31 := t_lom31 Y a1 M a2
  unfold f_M_nextDay f_M_nextDay_53
  rw [nm_eq, nm_eq, nI_1, nI_1, t_dom FU Y a1 M a2, bd_ok, nm_eq, nI_1, nm_eq]
  rcases DT_next h hd with ⟨w, g⟩ | ⟨w, ⟨hM, g⟩ | ⟨hM, hY, g⟩⟩
  · refine ⟨Y, M, g, ?_⟩
    rw [if_pos (nI_le (by omega) (by omega)), if_pos (show nI (M + 1) ≤ 12 from nI_le (b := 12) (by omega) (by omega)), show d - fom Y (M + 1) + 1 + 1 = d + 1 - fom Y (M + 1) + 1 by omega]
  · refine ⟨Y, M + 1, g, ?_⟩
    have hs := t_step Y a1 M hM
    have hs : fom Y (M + 1 + 1) = fom Y (M + 1) + lom Y (M + 1) := hs
    rw [if_neg (nI_ge (by omega) (by omega)), nI_1, if_pos (show nI (M + 1 + 1) ≤ 12 from nI_le (b := 12) (by omega) (by omega)), show d + 1 - fom Y (M + 1 + 1) + 1 = 1 by omega]
    rfl
  · refine ⟨Y + 1, 0, g, ?_⟩
    have hy := (t_year Y a1).1
    subst hM
    have hs : fom (Y + 1) (0 + 1) = fom Y (11 + 1) + lom Y (11 + 1) := hy
    rw [if_neg (nI_ge (by omega) (by omega)), nI_1, if_neg (show ¬ nI (11 + 1 + 1) ≤ 12 from nI_ge (a := 12) (by omega) (by omega)), nm_eq, show d + 1 - fom (Y + 1) (0 + 1) + 1 = 1 by omega]
    rfl
