/-! pure: which days fit, both sides -/
def P1 (c4 : Nat) (mr : Nat → Int32) (M : Nat) : Prop := c4 = 0 ∨ ∃ j, j < c4 ∧ mr j = nI (M + 1)
def P2 (c5 : Nat) (dr : Nat → Int32) (d Y M : Nat) : Prop := c5 = 0 ∨ (∃ j, j < c5 ∧ dr j = iI ((d - fom Y (M + 1) + 1 : Nat) : Int)) ∨ (∃ j, j < c5 ∧ dr j = iI (-((lom Y (M + 1) + 1 - (d - fom Y (M + 1) + 1) : Nat) : Int)))
def dF (inM : Prop) [Decidable inM] (d Y M : Nat) : Nat := if inM then d - fom Y (M + 1) else d - fom Y 1
def dB (inM : Prop) [Decidable inM] (d Y M : Nat) : Nat := if inM then fom Y (M + 1) + lom Y (M + 1) - 1 - d else fom (Y + 1) 1 - 1 - d
def P3 (f c4 c6 : Nat) (wr wn : Nat → Int32) (d Y M : Nat) : Prop := c6 = 0 ∨ ∃ j, j < c6 ∧ wr j = nI ((d + 5) % 7) ∧ (wn j = 0 ∨ wn j = iI ((dF (f = 2 ∨ 0 < c4) d Y M / 7 + 1 : Nat) : Int) ∨ wn j = iI (-((dB (f = 2 ∨ 0 < c4) d Y M / 7 + 1 : Nat) : Int)))
def P4 (f c4 c5 c6 d Y M S YS MS : Nat) : Prop := (f = 1 ∧ (0 < c6 ∨ (d + 5) % 7 = (S + 5) % 7)) ∨ f = 0 ∨ (¬ f = 1 ∧ ¬ f = 0 ∧ (0 < c5 + c6 ∨ (d - fom Y (M + 1) = S - fom YS (MS + 1) ∧ (f = 2 ∨ 0 < c4 ∨ M = MS))))
theorem t_yl : ∀ Y, Y < 20 → fom (Y + 1) 1 ≤ fom Y 1 + 366 := by decide +kernel
theorem dFB {d Y M : Nat} {inM : Prop} [Decidable inM] (h : DT d Y M) : dF inM d Y M ≤ 366 ∧ dB inM d Y M ≤ 366 := by
  have hd := DT_day h
  obtain ⟨a1, a2, a3, a4⟩ := h
  have := t_yl Y a1
  have := t_lom31 Y a1 M a2
  unfold dF dB
  split <;> omega
theorem m_fitsWeekday {FU f c4 c6 d Y M : Nat} {wr wn : Nat → Int32} (hF : 300 < FU) (hf : f < 4) (h4 : c4 ≤ 8) (hc : c6 ≤ 8) (h : DT d Y M) (hr : ∀ j, j < c6 → ∃ x : Int, -53 ≤ x ∧ x ≤ 53 ∧ wn j = iI x) : ∃ z : Int32, (z = 0 ∨ z = 1) ∧ (z = 1 ↔ P3 f c4 c6 wr wn d Y M) ∧ f_M_fitsWeekday FU (nI f) (nI c4) (nI c6) wr wn (nI d) (nI Y) (nI (M + 1)) (nI (d - fom Y (M + 1) + 1)) = some z := by
  have hd := DT_day h
  have hbb := dFB (inM := (f = 2 ∨ 0 < c4)) h
  have a := h
  obtain ⟨a1, a2, a3, a4⟩ := a
  have l31 := t_lom31 Y a1 M a2
  have hstep : ∀ l, f_M_fitsWeekday_12 FU (nI f) (nI c4) (nI c6) wr wn (nI d) (nI Y) (nI (M + 1)) (nI (d - fom Y (M + 1) + 1)) l = f_M_fitsWeekday_104 FU (nI f) (nI c4) (nI c6) wr wn (nI d) (nI Y) (nI (M + 1)) (nI (d - fom Y (M + 1) + 1)) FU l (nI (dF (f = 2 ∨ 0 < c4) d Y M)) (nI (dB (f = 2 ∨ 0 < c4) d Y M)) (nI 0) := by
    intro l
    have e1 : f_M_fitsWeekday_33 FU (nI f) (nI c4) (nI c6) wr wn (nI d) (nI Y) (nI (M + 1)) (nI (d - fom Y (M + 1) + 1)) l 1 = f_M_fitsWeekday_104 FU (nI f) (nI c4) (nI c6) wr wn (nI d) (nI Y) (nI (M + 1)) (nI (d - fom Y (M + 1) + 1)) FU l (nI (d - fom Y (M + 1))) (nI (fom Y (M + 1) + lom Y (M + 1) - 1 - d)) (nI 0) := by
      unfold f_M_fitsWeekday_33 f_M_fitsWeekday_59
      rw [if_neg (show ¬ (1 : Int32) = 0 by decide), if_neg (show ¬ (1 : Int32) = 0 by decide), t_dom FU Y a1 M a2, bd_ok, nm_eq, pk_sub (by omega), p_pred (by omega), show d - fom Y (M + 1) + 1 - 1 = d - fom Y (M + 1) by omega, show lom Y (M + 1) - (d - fom Y (M + 1) + 1) = fom Y (M + 1) + lom Y (M + 1) - 1 - d by omega]
      rfl
    have e0 : f_M_fitsWeekday_33 FU (nI f) (nI c4) (nI c6) wr wn (nI d) (nI Y) (nI (M + 1)) (nI (d - fom Y (M + 1) + 1)) l 0 = f_M_fitsWeekday_104 FU (nI f) (nI c4) (nI c6) wr wn (nI d) (nI Y) (nI (M + 1)) (nI (d - fom Y (M + 1) + 1)) FU l (nI (d - fom Y 1)) (nI (fom (Y + 1) 1 - 1 - d)) (nI 0) := by
      unfold f_M_fitsWeekday_33 f_M_fitsWeekday_59
      rw [if_pos rfl, t_ny FU Y (by omega), bd_ok, if_pos rfl, nI_1, t_ny FU (Y + 1) (by omega), bd_ok, nm_eq, pk_sub hd.2.1, p_pred (by omega), pk_sub (by omega)]
      rfl
    unfold f_M_fitsWeekday_12
    rw [e0, e1]
    by_cases w2 : f = 2
    · rw [if_pos (by rw [w2]; rfl)]
      unfold dF dB
      rw [if_pos (Or.inl w2), if_pos (Or.inl w2)]
    · rw [if_neg (show ¬ nI f = 2 from fun w => w2 ((nI_eq (b := 2) (by omega) (by omega)).mp w))]
      unfold dF dB
      by_cases w4 : c4 = 0
      · rw [if_pos (show nI c4 ≤ 0 from nI_le (b := 0) (by omega) (by omega)), if_neg (by omega), if_neg (by omega)]
      · rw [if_neg (nI_le0 (by omega) (by omega)), if_pos (by omega), if_pos (by omega)]
  have hl := m_wloop (FU := FU) (c := c6) (d := d) (e1 := dF (f = 2 ∨ 0 < c4) d Y M) (e2 := dB (f = 2 ∨ 0 < c4) d Y M) (r := wn) (w := wr) (nI f) (nI c4) (nI Y) (nI (M + 1)) (nI (d - fom Y (M + 1) + 1)) hF hc hd.1 hbb.1 hbb.2 hr FU 0
  unfold f_M_fitsWeekday
  rw [hstep, hstep]
  unfold P3
  by_cases h0 : c6 = 0
  · rw [if_pos (by rw [h0]; rfl)]
    obtain ⟨z, h1, h2, h3⟩ := hl 1 (by omega) (by omega) (Or.inr rfl)
    exact ⟨z, h1, h2.trans ⟨fun _ => Or.inl h0, fun _ => Or.inl rfl⟩, h3⟩
  · rw [if_neg (show ¬ nI c6 = 0 from fun w => h0 ((nI_eq (b := 0) (by omega) (by omega)).mp w))]
    obtain ⟨z, h1, h2, h3⟩ := hl 0 (by omega) (by omega) (Or.inl rfl)
    refine ⟨z, h1, h2.trans ⟨?_, ?_⟩, h3⟩
    · rintro (w | ⟨j, a, b, d⟩)
      · exact absurd w (by decide)
      · exact Or.inr ⟨j, b, d⟩
    · rintro (w | ⟨j, b, d⟩)
      · exact absurd w h0
      · exact Or.inr ⟨j, by omega, b, d⟩
theorem m_fitsStart {FU f c4 c5 c6 d Y M S YS MS : Nat} (hf : f < 4) (h4 : c4 ≤ 8) (h5 : c5 ≤ 8) (h6 : c6 ≤ 8) (h : DT d Y M) (hS : DT S YS MS) : ∃ z : Int32, (z = 0 ∨ z = 1) ∧ (z = 1 ↔ P4 f c4 c5 c6 d Y M S YS MS) ∧ f_M_fitsStart FU (nI (MS + 1)) (nI (S - fom YS (MS + 1) + 1)) (nI ((S + 5) % 7)) (nI f) (nI c4) (nI c5) (nI c6) (nI d) (nI (M + 1)) (nI (d - fom Y (M + 1) + 1)) = some z := by
  have hd := DT_day h
  have hs := DT_day hS
  have aM := h.2.1
  have aMS := hS.2.1
  unfold f_M_fitsStart P4
  have z01 : ∀ P : Prop, ∃ z : Int32, (z = 0 ∨ z = 1) ∧ (z = 1 ↔ P) ∧ (P → z = 1) ∧ (¬ P → z = 0) := by
    intro P
    by_cases w : P
    · exact ⟨1, Or.inr rfl, ⟨fun _ => w, fun _ => rfl⟩, fun _ => rfl, fun v => absurd w v⟩
    · exact ⟨0, Or.inl rfl, ⟨fun v => absurd v (by decide), fun v => absurd v w⟩, fun v => absurd v w, fun _ => rfl⟩
  obtain ⟨z, h1, h2, h3, h3'⟩ := z01 ((f = 1 ∧ (0 < c6 ∨ (d + 5) % 7 = (S + 5) % 7)) ∨ f = 0 ∨ (¬ f = 1 ∧ ¬ f = 0 ∧ (0 < c5 + c6 ∨ (d - fom Y (M + 1) = S - fom YS (MS + 1) ∧ (f = 2 ∨ 0 < c4 ∨ M = MS)))))
  refine ⟨z, h1, h2, ?_⟩
  by_cases f1 : f = 1
  · rw [if_pos (by rw [f1]; rfl)]
    by_cases w6 : 0 < c6
    · rw [if_pos (show 0 < nI c6 from nI_lt (a := 0) w6 (by omega)), h3 (Or.inl ⟨f1, Or.inl w6⟩)]
    · rw [if_neg (show ¬ 0 < nI c6 from nI_nlt (a := 0) (by omega) (by omega)), (m_wdnow hd.1).1, bd_ok]
      by_cases v : (d + 5) % 7 = (S + 5) % 7
      · rw [if_pos (by rw [v]), h3 (Or.inl ⟨f1, Or.inr v⟩)]
      · rw [if_neg (fun w => v ((nI_eq (by omega) (by omega)).mp w)), h3' (by omega)]
  · rw [if_neg (show ¬ nI f = 1 from fun w => f1 ((nI_eq (b := 1) (by omega) (by omega)).mp w))]
    by_cases f0 : f = 0
    · rw [if_pos (by rw [f0]; rfl), h3 (Or.inr (Or.inl f0))]
    · rw [if_neg (show ¬ nI f = 0 from fun w => f0 ((nI_eq (b := 0) (by omega) (by omega)).mp w)), nI_add]
      by_cases w : 0 < c5 + c6
      · rw [if_neg (nI_le0 w (by omega)), h3 (Or.inr (Or.inr ⟨f1, f0, Or.inl w⟩))]
      · rw [if_pos (show nI (c5 + c6) ≤ 0 from nI_le (b := 0) (by omega) (by omega))]
        by_cases v : d - fom Y (M + 1) = S - fom YS (MS + 1)
        · rw [if_pos (by rw [v])]
          by_cases f2 : f = 2
          · rw [if_pos (by rw [f2]; rfl), h3 (Or.inr (Or.inr ⟨f1, f0, Or.inr ⟨v, Or.inl f2⟩⟩))]
          · rw [if_neg (show ¬ nI f = 2 from fun w => f2 ((nI_eq (b := 2) (by omega) (by omega)).mp w))]
            by_cases w4 : 0 < c4
            · rw [if_pos (show 0 < nI c4 from nI_lt (a := 0) w4 (by omega)), h3 (Or.inr (Or.inr ⟨f1, f0, Or.inr ⟨v, Or.inr (Or.inl w4)⟩⟩))]
            · rw [if_neg (show ¬ 0 < nI c4 from nI_nlt (a := 0) (by omega) (by omega))]
              by_cases u : M = MS
              · rw [if_pos (by rw [u]), h3 (Or.inr (Or.inr ⟨f1, f0, Or.inr ⟨v, Or.inr (Or.inr u)⟩⟩))]
              · rw [if_neg (fun w => u (by have := (nI_eq (by omega) (by omega)).mp w; omega)), h3' (by omega)]
        · rw [if_neg (fun w => v (by have := (nI_eq (by omega) (by omega)).mp w; omega)), h3' (by omega)]
/-- the class's -/
theorem k_wloop {FU s : Nat} {nW wN : Nat → Int32} (fq gv kw dy yF yL mF mL W X Z : Int32) (hF : 300 < FU) (hs : s ≤ 8) : ∀ q i, i ≤ s → s - i < q → ∃ z : Int32, (z = 0 ∨ z = 1) ∧ (z = 1 ↔ ∃ k, i ≤ k ∧ k < s ∧ (wN k = X ∨ wN k = Z) ∧ nW k = W) ∧ f_Rule_isOneOfWeekdays_95 FU fq gv kw nW wN (nI s) dy yF yL mF mL q W X Z (nI i) = some z := by
  intro q
  induction q with
  | zero => intro i _ h; omega
  | succ q ih =>
    intro i hi hq
    have e : f_Rule_isOneOfWeekdays_95 FU fq gv kw nW wN (nI s) dy yF yL mF mL (q + 1) W X Z (nI i) = f_Rule_isOneOfWeekdays_95_hd FU fq gv kw nW wN (nI s) dy yF yL mF mL (f_Rule_isOneOfWeekdays_95 FU fq gv kw nW wN (nI s) dy yF yL mF mL q) W X Z (nI i) := rfl
    unfold f_Rule_isOneOfWeekdays_95_hd f_Rule_isOneOfWeekdays_133 at e
    by_cases hin : s ≤ i
    · rw [if_pos (nI_le hin (by omega))] at e
      exact ⟨0, Or.inl rfl, ⟨fun w => absurd w (by decide), fun ⟨k, a, b, _⟩ => by omega⟩, e⟩
    · rw [if_neg (nI_ge (by omega) (by omega))] at e
      simp only [ck_ok (show i < 8 by omega) (show 8 < 2 ^ 31 by omega), nI_clamp (show i < 2 ^ 31 by omega), nI_1] at e
      rw [if_neg (show ¬ (1 : Int32) = 0 by decide), if_pos trivial] at e
      have hno : ¬ ((wN i = X ∨ wN i = Z) ∧ nW i = W) → f_Rule_isOneOfWeekdays_95 FU fq gv kw nW wN (nI s) dy yF yL mF mL (q + 1) W X Z (nI i) = f_Rule_isOneOfWeekdays_95 FU fq gv kw nW wN (nI s) dy yF yL mF mL q W X Z (nI (i + 1)) := by
        intro t
        rw [e]
        by_cases a : wN i = X
        · rw [if_pos a, if_neg (fun w => t ⟨Or.inl a, w⟩)]
        · rw [if_neg a]
          by_cases b : wN i = Z
          · rw [if_pos b, if_neg (fun w => t ⟨Or.inr b, w⟩)]
          · rw [if_neg b]
      by_cases t : (wN i = X ∨ wN i = Z) ∧ nW i = W
      · refine ⟨1, Or.inr rfl, ⟨fun _ => ⟨i, by omega, by omega, t⟩, fun _ => rfl⟩, ?_⟩
        rw [e]
        by_cases a : wN i = X
        · rw [if_pos a, if_pos t.2]
        · rw [if_neg a, if_pos (t.1.resolve_left a), if_pos t.2]
      · obtain ⟨z, h1, h2, h3⟩ := ih (i + 1) (by omega) (by omega)
        refine ⟨z, h1, h2.trans ⟨?_, ?_⟩, (hno t).trans h3⟩
        · rintro ⟨k, a, b, d⟩
          exact ⟨k, by omega, b, d⟩
        · rintro ⟨k, a, b, d⟩
          refine ⟨k, ?_, b, d⟩
          by_cases w : k = i
          · subst w; exact absurd d t
          · omega
theorem k_weekdays {FU Q f c4 c6 d Y M : Nat} {kw nS : Int32} {nW wN wr wn : Nat → Int32} {dy yr mo yF yL mF mL : Int32} (hF : 300 < FU) (hQ : Q < 256) (hf : f < 4) (h4 : c4 ≤ 8) (hb4 : Q.testBit 4 = true ↔ 0 < c4) (hc : c6 ≤ 8) (h0 : 0 < c6) (hI : I6 c6 kw nW wN nS wr wn) (h : KD d Y M dy yr mo yF yL mF mL) : ∃ z : Int32, (z = 0 ∨ z = 1) ∧ (z = 1 ↔ P3 f c4 c6 wr wn d Y M) ∧ f_Rule_isOneOfWeekdays FU (nI (f + 1)) (nI (kp Q)) kw nW wN nS dy yF yL mF mL = some z := by
  obtain ⟨hD, rfl, rfl, rfl, rfl, rfl, rfl, rfl⟩ := h
  have hd := DT_day hD
  have hbb := dFB (inM := (f = 2 ∨ 0 < c4)) hD
  have a := hD
  obtain ⟨a1, a2, a3, a4⟩ := a
  have l31 := t_lom31 Y a1 M a2
  have hmx := t_max Y a1 M a2
  have hyl := t_yl Y a1
  have hy1 : fom Y 1 ≤ 7304 := by omega
  obtain ⟨J1, J2, s, hs, rfl, J3, J4⟩ := hI
  have key : ∀ P : Prop, ((P ∨ (∃ k, k < s ∧ (wN k = iI ((dF (f = 2 ∨ 0 < c4) d Y M / 7 + 1 : Nat) : Int) ∨ wN k = iI (-((dB (f = 2 ∨ 0 < c4) d Y M / 7 + 1 : Nat) : Int))) ∧ nW k = nI ((d + 5) % 7))) ∧ (P ↔ bt kw ((d + 5) % 7))) → (P3 f c4 c6 wr wn d Y M) := by
    rintro P ⟨hP, hbt⟩
    refine Or.inr ?_
    rcases hP with hP | ⟨k, k1, k2, k3⟩
    · obtain ⟨j, j1, j2, j3⟩ := (J2 _ (by omega)).mp (hbt.mp hP)
      exact ⟨j, j1, j3, Or.inl j2⟩
    · obtain ⟨j, j1, j2, j3, j4⟩ := J3 k k1
      refine ⟨j, j1, by rw [← j3, k3], Or.inr ?_⟩
      rw [← j4]
      exact k2
  have key2 : P3 f c4 c6 wr wn d Y M → (bt kw ((d + 5) % 7) ∨ (∃ k, k < s ∧ (wN k = iI ((dF (f = 2 ∨ 0 < c4) d Y M / 7 + 1 : Nat) : Int) ∨ wN k = iI (-((dB (f = 2 ∨ 0 < c4) d Y M / 7 + 1 : Nat) : Int))) ∧ nW k = nI ((d + 5) % 7))) := by
    rintro (w | ⟨j, j1, j2, j3⟩)
    · omega
    · by_cases e : wn j = 0
      · exact Or.inl ((J2 _ (by omega)).mpr ⟨j, j1, e, j2⟩)
      · obtain ⟨k, k1, k2, k3⟩ := J4 j j1 e
        exact Or.inr ⟨k, k1, by rw [k3]; exact j3.resolve_left e, by rw [k2, j2]⟩
  unfold f_Rule_isOneOfWeekdays
  rw [(m_wdnow hd.1).2, bd_ok]
  by_cases hb : bt kw ((d + 5) % 7)
  · refine ⟨1, Or.inr rfl, ⟨fun _ => key _ ⟨Or.inl hb, Iff.rfl⟩, fun _ => rfl⟩, ?_⟩
    have hb' : ((kw >>> (nI ((d + 5) % 7) &&& 31)) &&& 1) = 1 := hb
    rw [if_pos hb']
  · have hb' : ¬ ((kw >>> (nI ((d + 5) % 7) &&& 31)) &&& 1) = 1 := hb
    rw [if_neg hb']
    by_cases hs0 : s = 0
    · refine ⟨0, Or.inl rfl, ⟨fun w => absurd w (by decide), fun w => ?_⟩, ?_⟩
      · rcases key2 w with v | ⟨k, k1, _⟩
        · exact absurd v hb
        · omega
      · rw [if_pos (by rw [hs0]; rfl)]
    · rw [if_neg (show ¬ nI s = 0 from fun w => hs0 ((nI_eq (b := 0) (by omega) (by omega)).mp w))]
      have fin : ∀ t : Int32, ∃ z : Int32, (z = 0 ∨ z = 1) ∧ (z = 1 ↔ P3 f c4 c6 wr wn d Y M) ∧ f_Rule_isOneOfWeekdays_95 FU (nI (f + 1)) (nI (kp Q)) kw nW wN (nI s) (nI d) (nI (fom Y 1)) (nI (fom (Y + 1) 1 - fom Y 1)) (nI (fom Y (M + 1))) (nI (lom Y (M + 1))) FU (nI ((d + 5) % 7)) (iI ((dF (f = 2 ∨ 0 < c4) d Y M / 7 + 1 : Nat) : Int)) (iI (-((dB (f = 2 ∨ 0 < c4) d Y M / 7 + 1 : Nat) : Int))) (nI 0) = some z := by
        intro t
        obtain ⟨z, h1, h2, h3⟩ := k_wloop (FU := FU) (s := s) (nW := nW) (wN := wN) (nI (f + 1)) (nI (kp Q)) kw (nI d) (nI (fom Y 1)) (nI (fom (Y + 1) 1 - fom Y 1)) (nI (fom Y (M + 1))) (nI (lom Y (M + 1))) (nI ((d + 5) % 7)) (iI ((dF (f = 2 ∨ 0 < c4) d Y M / 7 + 1 : Nat) : Int)) (iI (-((dB (f = 2 ∨ 0 < c4) d Y M / 7 + 1 : Nat) : Int))) hF (by omega) FU 0 (by omega) (by omega)
        refine ⟨z, h1, h2.trans ⟨?_, ?_⟩, h3⟩
        · rintro ⟨k, _, k1, k2⟩
          exact key (bt kw ((d + 5) % 7)) ⟨Or.inr ⟨k, k1, k2⟩, Iff.rfl⟩
        · intro w
          rcases key2 w with v | ⟨k, k1, k2⟩
          · exact absurd v hb
          · exact ⟨k, by omega, k1, k2⟩
      have wk : ∀ e : Nat, e ≤ 366 → f_Rule_weekOf FU (nI (e + 1)) = some (iI ((e / 7 + 1 : Nat) : Int)) := by
        intro e he
        unfold f_Rule_weekOf
        rw [show (6 : Int32) = nI 6 from rfl, show (7 : Int32) = nI 7 from rfl, nI_add, pk_div (by omega) (by omega) (by omega), nI_iI]
        congr 3
        omega
      have hin : ∀ b : Int32, (b = 0 ∨ b = 1) → ((f = 2 ∨ 0 < c4) ↔ b = 1) → f_Rule_isOneOfWeekdays_50 FU (nI (f + 1)) (nI (kp Q)) kw nW wN (nI s) (nI d) (nI (fom Y 1)) (nI (fom (Y + 1) 1 - fom Y 1)) (nI (fom Y (M + 1))) (nI (lom Y (M + 1))) (nI ((d + 5) % 7)) b = f_Rule_isOneOfWeekdays_95 FU (nI (f + 1)) (nI (kp Q)) kw nW wN (nI s) (nI d) (nI (fom Y 1)) (nI (fom (Y + 1) 1 - fom Y 1)) (nI (fom Y (M + 1))) (nI (lom Y (M + 1))) FU (nI ((d + 5) % 7)) (iI ((dF (f = 2 ∨ 0 < c4) d Y M / 7 + 1 : Nat) : Int)) (iI (-((dB (f = 2 ∨ 0 < c4) d Y M / 7 + 1 : Nat) : Int))) (nI 0) := by
        intro b hb01 hbi
        unfold f_Rule_isOneOfWeekdays_50 f_Rule_isOneOfWeekdays_66 f_Rule_isOneOfWeekdays_86 f_Date_dayOfYear f_Date_dayOfMonth f_Date_dayOfYearFromEnd f_Date_dayOfMonthFromEnd
        rcases hb01 with rfl | rfl
        · have hno : ¬ (f = 2 ∨ 0 < c4) := fun w => absurd (hbi.mp w) (by decide)
          have q1 : dF (f = 2 ∨ 0 < c4) d Y M = d - fom Y 1 := if_neg hno
          have q2 : dB (f = 2 ∨ 0 < c4) d Y M = fom (Y + 1) 1 - 1 - d := if_neg hno
          rw [if_pos rfl, bd_ok, pk_sub hd.2.1, nI_1, wk _ (by omega), bd_ok, if_pos rfl, bd_ok, nI_add, pk_sub (by omega), show fom Y 1 + (fom (Y + 1) 1 - fom Y 1) - d = fom (Y + 1) 1 - 1 - d + 1 by omega, wk _ (by omega), bd_ok, nm_eq, iI_neg, q1, q2]
          rfl
        · have hyes : (f = 2 ∨ 0 < c4) := hbi.mpr rfl
          have q1 : dF (f = 2 ∨ 0 < c4) d Y M = d - fom Y (M + 1) := if_pos hyes
          have q2 : dB (f = 2 ∨ 0 < c4) d Y M = fom Y (M + 1) + lom Y (M + 1) - 1 - d := if_pos hyes
          rw [if_neg (show ¬ (1 : Int32) = 0 by decide), bd_ok, pk_sub a3, nI_1, wk _ (by omega), bd_ok, if_neg (show ¬ (1 : Int32) = 0 by decide), bd_ok, nI_add, pk_sub (by omega), show fom Y (M + 1) + lom Y (M + 1) - d = fom Y (M + 1) + lom Y (M + 1) - 1 - d + 1 by omega, wk _ (by omega), bd_ok, nm_eq, iI_neg, q1, q2]
          rfl
      have h8 : f_Rule_has FU 8 (nI (kp Q)) = some (if Q.testBit 4 then 1 else 0) := kp_has FU Q hQ 4 (by omega)
      by_cases f2 : f = 2
      · rw [if_pos (by rw [f2]; rfl), hin 1 (Or.inr rfl) ⟨fun _ => rfl, fun _ => Or.inl f2⟩]
        exact fin 0
      · rw [if_neg (show ¬ nI (f + 1) = 3 from fun w => f2 (by have := (nI_eq (b := 3) (by omega) (by omega)).mp w; omega)), h8, bd_ok]
        cases hb4' : Q.testBit 4 with
        | true =>
          rw [if_pos rfl, if_neg (show ¬ (1 : Int32) = 0 by decide), hin 1 (Or.inr rfl) ⟨fun _ => rfl, fun _ => Or.inr (hb4.mp hb4')⟩]
          exact fin 0
        | false =>
          have hno : ¬ (f = 2 ∨ 0 < c4) := by
            rintro (w | w)
            · exact f2 w
            · rw [hb4.mpr w] at hb4'; cases hb4'
          rw [if_neg (show ¬ false = true by decide), if_pos rfl, hin 0 (Or.inl rfl) ⟨fun w => absurd w hno, fun w => absurd w (by decide)⟩]
          exact fin 0
