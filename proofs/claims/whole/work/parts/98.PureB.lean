/-! pure: the rule's periods -/
def PV (f w d Y M : Nat) : Nat := if f = 0 then d else if f = 1 then (d + 6 - ((d + 5) % 7 + 7 - w) % 7) / 7 else if f = 2 then 12 * Y + M + 1 else Y
theorem PV_0 {w d Y M : Nat} : PV 0 w d Y M = d := rfl
theorem PV_1 {w d Y M : Nat} : PV 1 w d Y M = (d + 6 - ((d + 5) % 7 + 7 - w) % 7) / 7 := rfl
theorem PV_2 {w d Y M : Nat} : PV 2 w d Y M = 12 * Y + M + 1 := rfl
theorem PV_3 {w d Y M : Nat} : PV 3 w d Y M = Y := rfl
theorem f_of {f : Nat} (h : f < 4) : f = 0 ∨ f = 1 ∨ f = 2 ∨ f = 3 := by omega
theorem t_ylen : ∀ Y, Y < 20 → fom Y 1 + 365 ≤ fom (Y + 1) 1 ∧ fom (Y + 1) 1 ≤ fom Y 1 + 366 := by decide +kernel
theorem t_big : ∀ Y, Y < 110 → ∀ M, M < 12 → 7305 ≤ fom (20 + Y) (M + 1) ∧ fom (20 + Y) (M + 1) ≤ 100000 := by decide +kernel
theorem PV_mono {f w d Y M e Z N : Nat} (hf : f < 4) (hw : w < 7) (h : DT d Y M) (g : DT e Z N) (hd : d ≤ e) : PV f w d Y M ≤ PV f w e Z N := by
  have := DT_le h g hd
  have := h.2.1
  have := g.2.1
  rcases f_of hf with rfl | rfl | rfl | rfl
  · exact hd
  · rw [PV_1, PV_1]; omega
  · rw [PV_2, PV_2]; omega
  · rw [PV_3, PV_3]; omega
theorem PV_max {f w d Y M : Nat} (hf : f < 4) (h : DT d Y M) : PV f w d Y M ≤ 7304 ∧ (f = 2 → PV f w d Y M ≤ 240) ∧ (f = 3 → PV f w d Y M ≤ 19) := by
  have := DT_day h
  have := h.1
  have := h.2.1
  rcases f_of hf with rfl | rfl | rfl | rfl
  · rw [PV_0]; omega
  · rw [PV_1]; omega
  · rw [PV_2]; omega
  · rw [PV_3]; omega
theorem PV_win {f w d Y M e Z N : Nat} (hf : f < 4) (hw : w < 7) (h : DT d Y M) (g : DT e Z N) (hd : d ≤ e) (hp : PV f w d Y M = PV f w e Z N) : e < d + 366 := by
  have a := DT_day h
  have b := DT_day g
  have h2 := h.2.1
  have g2 := g.2.1
  rcases f_of hf with rfl | rfl | rfl | rfl
  · rw [PV_0, PV_0] at hp; omega
  · rw [PV_1, PV_1] at hp; omega
  · rw [PV_2, PV_2] at hp
    obtain ⟨rfl, rfl⟩ : Y = Z ∧ M = N := by omega
    have := t_lom31 Y h.1 M h2
    have := h.2.2.1
    have := g.2.2.2
    omega
  · rw [PV_3, PV_3] at hp
    subst hp
    have := t_ylen Y h.1
    omega
theorem PV_gap {f w d Y M S YS MS : Nat} (hf : f < 4) (hw : w < 7) (h : DT d Y M) (hS : DT S YS MS) (h0 : YS ≠ 0) (hd : d < fom (YS - 1) 1) : PV f w d Y M < PV f w S YS MS := by
  have a := DT_day hS
  have b := DT_day h
  have y := t_ylen (YS - 1) (by have := hS.1; omega)
  rw [show YS - 1 + 1 = YS by omega] at y
  have hm := h.2.1
  have l := DT_le h (DT_first (Y := YS - 1) (M := 0) (by have := hS.1; omega) (by omega)) (by show d ≤ fom (YS - 1) 1; omega)
  rcases f_of hf with rfl | rfl | rfl | rfl
  · rw [PV_0, PV_0]; omega
  · rw [PV_1, PV_1]; omega
  · rw [PV_2, PV_2]; omega
  · rw [PV_3, PV_3]; omega
theorem k_wk {x w : Nat} (hx : x < 7) (hw : w < 7) : ((nI x - nI w) + 7) - ((nI x - nI w) + 7) / 7 * 7 = nI ((x + 7 - w) % 7) := by
  have e : nI x - nI w + 7 = nI (x + 7 - w) := by
    rw [nI_iI, nI_iI, nI_iI, show (7 : Int32) = iI 7 from rfl, iI_sub, iI_add]
    exact congrArg iI (by omega)
  rw [e]
  exact pk_rem (d := 7) (by omega) (by omega) (by omega)
theorem k_first {FU f w S YS MS k iv : Nat} (hf : f < 4) (hw : w < 7) (hS : DT S YS MS) (hk : k ≤ 7304) (hiv : iv ≤ 99) (hb : (f = 2 → PV f w S YS MS + k * iv ≤ 339) ∧ (f = 3 → PV f w S YS MS + k * iv ≤ 118)) :
    ∃ F : Int, -6 ≤ F ∧ F ≤ 6000000 ∧ f_Rule_periodFirst FU (nI k) (nI (f + 1)) (nI iv) (nI w) (nI S) (nI (2000 + YS)) (nI (MS + 1)) = some (iI F) ∧
    (7304 < F → ∀ d Y M, DT d Y M → PV f w d Y M < PV f w S YS MS + k * iv) ∧
    (F ≤ 7304 → ∀ lo Yl Ml : Nat, (lo : Int) = max F 0 → DT lo Yl Ml → ∃ len hi : Nat, f_Rule_periodLength FU (nI (f + 1)) (nI (fom (Yl + 1) 1 - fom Yl 1)) (nI (lom Yl (Ml + 1))) = some (nI len) ∧ len ≤ 366 ∧ lo ≤ hi ∧ (hi : Int) + 1 = min (F + len) 7305 ∧ ∀ d Y M, DT d Y M → ((lo ≤ d ∧ d ≤ hi) ↔ PV f w d Y M = PV f w S YS MS + k * iv)) := by
  have hs : k * iv ≤ 723096 := by
    have := Nat.mul_le_mul hk hiv
    omega
  have a := DT_day hS
  have a1 := hS.1
  have a2 := hS.2.1
  unfold f_Rule_periodFirst f_Rule_periodLength
  rw [nm_eq, pk_mul]
  generalize k * iv = s at hs hb ⊢
  rcases f_of hf with rfl | rfl | rfl | rfl
  · refine ⟨((S + s : Nat) : Int), by omega, by omega, ?_, ?_, ?_⟩
    · rw [if_pos (show nI (0 + 1) = 1 from rfl)]
      unfold f_Date_day
      rw [bd_ok, nI_add, nI_iI]
    · intro h d Y M hd
      have := DT_day hd
      rw [PV_0, PV_0]
      omega
    · intro h lo Yl Ml h1 h2
      refine ⟨1, S + s, if_pos (show nI (0 + 1) = 1 from rfl), by decide, by omega, ?_, fun d Y M hd => ?_⟩
      · rw [Int.min_def]
        split <;> omega
      rw [PV_0, PV_0]
      omega
  · have e1 : ¬ nI (1 + 1) = 1 := by decide
    refine ⟨(S : Int) - (((S + 5) % 7 + 7 - w) % 7 : Nat) + 7 * s, by omega, by omega, ?_, ?_, ?_⟩
    · rw [if_neg e1, if_pos (show nI (1 + 1) = 2 from rfl)]
      unfold f_Date_day
      rw [bd_ok, (m_wdnow a.1).2, bd_ok, k_wk (by omega) hw, nI_iI S, nI_iI s, nI_iI, show (7 : Int32) = iI 7 from rfl, iI_mul, iI_sub, iI_add]
    · intro h d Y M hd
      have := DT_day hd
      rw [PV_1, PV_1]
      omega
    · intro h lo Yl Ml h1 h2
      refine ⟨7, (min ((S : Int) - (((S + 5) % 7 + 7 - w) % 7 : Nat) + 7 * s + 7) 7305 - 1).toNat, by rw [if_neg e1, if_pos (show nI (1 + 1) = 2 from rfl)]; rfl, by omega, by omega, by omega, fun d Y M hd => ?_⟩
      have := DT_day hd
      rw [PV_1, PV_1]
      omega
  · have e1 : ¬ nI (2 + 1) = 1 := by decide
    have e2 : ¬ nI (2 + 1) = 2 := by decide
    have hb2 := hb.1 rfl
    rw [PV_2] at hb2
    have hm := Nat.mod_lt (12 * YS + MS + s) (show 0 < 12 by omega)
    have hfm : 20 ≤ (12 * YS + MS + s) / 12 → 7305 ≤ fom ((12 * YS + MS + s) / 12) ((12 * YS + MS + s) % 12 + 1) ∧ fom ((12 * YS + MS + s) / 12) ((12 * YS + MS + s) % 12 + 1) ≤ 100000 := fun h => by
      have := t_big ((12 * YS + MS + s) / 12 - 20) (by omega) _ hm
      rw [show 20 + ((12 * YS + MS + s) / 12 - 20) = (12 * YS + MS + s) / 12 by omega] at this
      exact this
    have hlt : (12 * YS + MS + s) / 12 < 20 → fom ((12 * YS + MS + s) / 12) ((12 * YS + MS + s) % 12 + 1) ≤ 7304 := fun h => by
      have := DT_day (DT_first h hm)
      omega
    refine ⟨((fom ((12 * YS + MS + s) / 12) ((12 * YS + MS + s) % 12 + 1) : Nat) : Int), by omega, by omega, ?_, ?_, ?_⟩
    · rw [if_neg e1, if_neg e2, if_pos (show nI (2 + 1) = 3 from rfl)]
      unfold f_Date_monthNumber
      rw [bd_ok, nm_eq, show (((nI (2000 + YS) - 2000) * 12) + nI (MS + 1)) - 1 + nI s = nI (12 * YS + MS + s) from by
        rw [show (2000 : Int32) = nI 2000 from rfl, pk_sub (by omega), show (12 : Int32) = nI 12 from rfl, pk_mul, nI_add, show (1 : Int32) = nI 1 from rfl, pk_sub (by omega), nI_add]
        exact congrArg nI (by omega)]
      rw [show (nI (12 * YS + MS + s) - nI (12 * YS + MS + s) / 12 * 12) = nI ((12 * YS + MS + s) % 12) from pk_rem (d := 12) (by omega) (by omega) (by omega), show nI (12 * YS + MS + s) / 12 = nI ((12 * YS + MS + s) / 12) from pk_div (d := 12) (by omega) (by omega) (by omega), show (2000 : Int32) = nI 2000 from rfl, nI_add, nI_1, t_fom FU _ (by omega) _ hm, bd_ok, ← nI_iI]
    · intro h d Y M hd
      have := hd.1
      have := hd.2.1
      rw [PV_2, PV_2]
      omega
    · intro h lo Yl Ml h1 h2
      have hy : (12 * YS + MS + s) / 12 < 20 := by omega
      have hl : lo = fom ((12 * YS + MS + s) / 12) ((12 * YS + MS + s) % 12 + 1) := by omega
      have hF := DT_first hy hm
      rw [← hl] at hF
      obtain ⟨u1, u2⟩ := DT_uni h2 hF
      have tm := t_max _ hy _ hm
      have l31 := t_lom31 _ hy _ hm
      refine ⟨lom Yl (Ml + 1), lo + lom Yl (Ml + 1) - 1, by rw [if_neg e1, if_neg e2, if_pos (show nI (2 + 1) = 3 from rfl)]; unfold f_Date_monthLength; rw [bd_ok], ?_, ?_, ?_, fun d Y M hd => ?_⟩
      · rw [u1, u2]; omega
      · rw [u1, u2]; omega
      · rw [← hl, u1, u2]
        rw [← hl] at tm
        omega
      · rw [PV_2, PV_2]
        constructor
        · rintro ⟨v1, v2⟩
          have : DT d Yl Ml := by
            refine ⟨h2.1, h2.2.1, ?_, ?_⟩
            · rw [u1, u2, ← hl]; exact v1
            · rw [u1, u2, ← hl]; rw [u1, u2] at v2; omega
          obtain ⟨v3, v4⟩ := DT_uni hd this
          omega
        · intro v
          have h4 := hd.2.1
          obtain ⟨v3, v4⟩ : Y = Yl ∧ M = Ml := by omega
          subst v3 v4
          have := hd.2.2.1
          have := hd.2.2.2
          rw [hl, ← u1, ← u2]
          omega
  · have e1 : ¬ nI (3 + 1) = 1 := by decide
    have e2 : ¬ nI (3 + 1) = 2 := by decide
    have e3 : ¬ nI (3 + 1) = 3 := by decide
    have hb3 := hb.2 rfl
    rw [PV_3] at hb3
    have hfm : 20 ≤ YS + s → 7305 ≤ fom (YS + s) (0 + 1) ∧ fom (YS + s) (0 + 1) ≤ 100000 := fun h => by
      have := t_big (YS + s - 20) (by omega) 0 (by omega)
      rw [show 20 + (YS + s - 20) = YS + s by omega] at this
      exact this
    have hlt : YS + s < 20 → fom (YS + s) (0 + 1) ≤ 7304 := fun h => by
      have := DT_day (DT_first (M := 0) h (by omega))
      omega
    refine ⟨((fom (YS + s) (0 + 1) : Nat) : Int), by omega, by omega, ?_, ?_, ?_⟩
    · rw [if_neg e1, if_neg e2, if_neg e3]
      unfold f_Date_year
      rw [bd_ok, nI_add, show 2000 + YS + s = 2000 + (YS + s) by omega, show (1 : Int32) = nI (0 + 1) from rfl, t_fom FU _ (by omega) 0 (by omega), bd_ok, ← nI_iI]
    · intro h d Y M hd
      have := hd.1
      rw [PV_3, PV_3]
      omega
    · intro h lo Yl Ml h1 h2
      have hy : YS + s < 20 := by omega
      have hl : lo = fom (YS + s) (0 + 1) := by omega
      have hF := DT_first (M := 0) hy (by omega)
      rw [← hl] at hF
      obtain ⟨u1, u2⟩ := DT_uni h2 hF
      have yl := t_ylen _ hy
      have hl' : fom (YS + s) 1 = lo := hl.symm
      have te : fom (YS + s + 1) 1 ≤ 7305 := by
        have := (t_year _ hy).1
        have := t_max _ hy 11 (by omega)
        rw [show 11 + 1 = 12 from rfl] at this
        omega
      refine ⟨fom (Yl + 1) 1 - fom Yl 1, fom (Yl + 1) 1 - 1, by rw [if_neg e1, if_neg e2, if_neg e3]; unfold f_Date_yearLength; rw [bd_ok], ?_, ?_, ?_, fun d Y M hd => ?_⟩
      · rw [u1]; omega
      · rw [u1]; omega
      · rw [u1, ← hl]
        omega
      · rw [PV_3, PV_3]
        have v := DT_day hd
        constructor
        · rintro ⟨v1, v2⟩
          have l1 := DT_le h2 hd v1
          have m1 := hd.2.1
          have m2 := h2.2.1
          apply Classical.byContradiction
          intro c
          have : Yl + 1 ≤ Y := by omega
          have : fom (Yl + 1) 1 ≤ d := by
            have q1 := DT_first (Y := Yl + 1) (M := 0) (by have := hd.1; omega) (by omega)
            apply Classical.byContradiction
            intro c2
            have := DT_le hd q1 (by show d ≤ fom (Yl + 1) 1; omega)
            have q2 : Y = Yl + 1 ∧ M = 0 := by omega
            have := hd.2.2.1
            rw [q2.1, q2.2] at this
            exact c2 this
          have := t_ylen Yl h2.1
          omega
        · intro v1
          rw [v1] at v
          rw [u1]
          omega
