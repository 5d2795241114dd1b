/-! pure: which days fit -/
theorem m_fitsMonth {FU c : Nat} {r : Nat → Int32} (v : Int32) (hF : 300 < FU) (hc : c ≤ 8) : ∃ z : Int32, (z = 0 ∨ z = 1) ∧ (z = 1 ↔ (c = 0 ∨ ∃ j, j < c ∧ r j = v)) ∧ f_M_fitsMonth FU (nI c) r v = some z := by
  have key : ∀ q i (l : Int32), i ≤ c → c - i < q → (l = 0 ∨ l = 1) → ∃ z : Int32, (z = 0 ∨ z = 1) ∧ (z = 1 ↔ (l = 1 ∨ ∃ j, i ≤ j ∧ j < c ∧ r j = v)) ∧ f_M_fitsMonth_15 FU (nI c) r v q l (nI i) = some z := by
    intro q
    induction q with
    | zero => intro i l _ h; omega
    | succ q ih =>
      intro i l hi hq hl
      have e : f_M_fitsMonth_15 FU (nI c) r v (q + 1) l (nI i) = f_M_fitsMonth_15_hd FU (nI c) r v (f_M_fitsMonth_15 FU (nI c) r v q) l (nI i) := rfl
      unfold f_M_fitsMonth_15_hd at e
      by_cases hin : c ≤ i
      · rw [if_pos (nI_le hin (by omega))] at e
        refine ⟨l, hl, ⟨Or.inl, fun w => w.elim id (fun ⟨j, a, b, _⟩ => by omega)⟩, ?_⟩
        rcases hl with rfl | rfl
        · rw [e, ckz_0]
        · rw [e, ckz_1]
      · rw [if_neg (nI_ge (by omega) (by omega))] at e
        rcases hl with rfl | rfl
        · rw [if_pos rfl, ck_ok (show i < 8 by omega) (by omega), nI_clamp (show i < 2 ^ 31 by omega), nI_1] at e
          by_cases t : r i = v
          · rw [if_pos t] at e
            obtain ⟨z, h1, h2, h3⟩ := ih (i + 1) 1 (by omega) (by omega) (Or.inr rfl)
            exact ⟨z, h1, h2.trans ⟨fun _ => Or.inr ⟨i, by omega, by omega, t⟩, fun _ => Or.inl rfl⟩, e.trans h3⟩
          · rw [if_neg t] at e
            obtain ⟨z, h1, h2, h3⟩ := ih (i + 1) 0 (by omega) (by omega) (Or.inl rfl)
            refine ⟨z, h1, h2.trans ⟨?_, ?_⟩, e.trans h3⟩
            · rintro (w | ⟨j, a, b, d⟩)
              · exact Or.inl w
              · exact Or.inr ⟨j, by omega, b, d⟩
            · rintro (w | ⟨j, a, b, d⟩)
              · exact Or.inl w
              · refine Or.inr ⟨j, ?_, b, d⟩
                by_cases e : j = i
                · subst e; exact absurd d t
                · omega
        · rw [if_neg (show ¬ (1 : Int32) = 0 by decide), nI_1] at e
          obtain ⟨z, h1, h2, h3⟩ := ih (i + 1) 1 (by omega) (by omega) (Or.inr rfl)
          exact ⟨z, h1, h2.trans ⟨fun _ => Or.inl rfl, fun _ => Or.inl rfl⟩, e.trans h3⟩
  unfold f_M_fitsMonth
  by_cases h0 : c = 0
  · rw [if_pos (by rw [h0]; rfl)]
    obtain ⟨z, h1, h2, h3⟩ := key FU 0 1 (by omega) (by omega) (Or.inr rfl)
    exact ⟨z, h1, h2.trans ⟨fun _ => Or.inl h0, fun _ => Or.inl rfl⟩, h3⟩
  · rw [if_neg (show ¬ nI c = 0 from fun w => h0 ((nI_eq (b := 0) (by omega) (by omega)).mp w))]
    obtain ⟨z, h1, h2, h3⟩ := key FU 0 0 (by omega) (by omega) (Or.inl rfl)
    refine ⟨z, h1, h2.trans ⟨?_, ?_⟩, h3⟩
    · rintro (w | ⟨j, a, b, d⟩)
      · exact absurd w (by decide)
      · exact Or.inr ⟨j, b, d⟩
    · rintro (w | ⟨j, b, d⟩)
      · exact absurd w h0
      · exact Or.inr ⟨j, by omega, b, d⟩
theorem m_fitsMonthDay {FU c Y M dm : Nat} {r : Nat → Int32} (hF : 300 < FU) (hc : c ≤ 8) (hY : Y < 20) (hM : M < 12) (h1 : 1 ≤ dm) (h2 : dm ≤ lom Y (M + 1)) (hr : ∀ j, j < c → ∃ x : Int, x ≠ 0 ∧ -31 ≤ x ∧ x ≤ 31 ∧ r j = iI x) : ∃ z : Int32, (z = 0 ∨ z = 1) ∧ (z = 1 ↔ (c = 0 ∨ (∃ j, j < c ∧ r j = iI (dm : Int)) ∨ (∃ j, j < c ∧ r j = iI (-((lom Y (M + 1) + 1 - dm : Nat) : Int))))) ∧ f_M_fitsMonthDay FU (nI c) r (nI Y) (nI (M + 1)) (nI dm) = some z := by
  have l31 := t_lom31 Y hY M hM
  have key : ∀ q i (l : Int32), i ≤ c → c - i < q → (l = 0 ∨ l = 1) → ∃ z : Int32, (z = 0 ∨ z = 1) ∧ (z = 1 ↔ (l = 1 ∨ ∃ j, i ≤ j ∧ j < c ∧ (r j = iI (dm : Int) ∨ r j = iI (-((lom Y (M + 1) + 1 - dm : Nat) : Int))))) ∧ f_M_fitsMonthDay_15 FU (nI c) r (nI Y) (nI (M + 1)) (nI dm) q l (nI i) = some z := by
    intro q
    induction q with
    | zero => intro i l _ h; omega
    | succ q ih =>
      intro i l hi hq hl
      have e : f_M_fitsMonthDay_15 FU (nI c) r (nI Y) (nI (M + 1)) (nI dm) (q + 1) l (nI i) = f_M_fitsMonthDay_15_hd FU (nI c) r (nI Y) (nI (M + 1)) (nI dm) (f_M_fitsMonthDay_15 FU (nI c) r (nI Y) (nI (M + 1)) (nI dm) q) l (nI i) := rfl
      unfold f_M_fitsMonthDay_15_hd at e
      by_cases hin : c ≤ i
      · rw [if_pos (nI_le hin (by omega))] at e
        refine ⟨l, hl, ⟨Or.inl, fun w => w.elim id (fun ⟨j, a, b, _⟩ => by omega)⟩, ?_⟩
        rcases hl with rfl | rfl
        · rw [e, ckz_0]
        · rw [e, ckz_1]
      · rw [if_neg (nI_ge (by omega) (by omega)), ck_ok (show i < 8 by omega) (by omega), nm_eq, nI_clamp (show i < 2 ^ 31 by omega)] at e
        rcases hl with rfl | rfl
        · obtain ⟨x, x0, x1, x2, ex⟩ := hr i (by omega)
          rw [if_pos rfl, ex, t_dom FU Y hY M hM, bd_ok] at e
          unfold f_M_fitsMonthDay_61 at e
          have hT : (if iI x ≤ 0 then (if nI dm = nI (lom Y (M + 1)) + 1 + iI x then f_M_fitsMonthDay_15 FU (nI c) r (nI Y) (nI (M + 1)) (nI dm) q 1 (nI i + 1) else f_M_fitsMonthDay_15 FU (nI c) r (nI Y) (nI (M + 1)) (nI dm) q 0 (nI i + 1)) else (if nI dm = iI x then f_M_fitsMonthDay_15 FU (nI c) r (nI Y) (nI (M + 1)) (nI dm) q 1 (nI i + 1) else f_M_fitsMonthDay_15 FU (nI c) r (nI Y) (nI (M + 1)) (nI dm) q 0 (nI i + 1))) = @ite _ (x = (dm : Int) ∨ x = -((lom Y (M + 1) + 1 - dm : Nat) : Int)) (Classical.propDecidable _) (f_M_fitsMonthDay_15 FU (nI c) r (nI Y) (nI (M + 1)) (nI dm) q 1 (nI i + 1)) (f_M_fitsMonthDay_15 FU (nI c) r (nI Y) (nI (M + 1)) (nI dm) q 0 (nI i + 1)) := by
            have a1 : (iI x ≤ 0) = (x ≤ 0) := by
              rw [show (0 : Int32) = iI 0 from rfl, iI_le (by omega) (by omega) (by omega) (by omega)]
            have a2 : (nI dm = nI (lom Y (M + 1)) + 1 + iI x) = ((dm : Int) = (lom Y (M + 1) : Int) + 1 + x) := by
              rw [nI_1, nI_iI, nI_iI, iI_add, iI_eq (by omega) (by omega) (by omega) (by omega)]
              congr 1
            have a3 : (nI dm = iI x) = ((dm : Int) = x) := by
              rw [nI_iI, iI_eq (by omega) (by omega) (by omega) (by omega)]
            by_cases w : x ≤ 0
            · rw [if_pos (a1.mpr w)]
              by_cases v : (dm : Int) = (lom Y (M + 1) : Int) + 1 + x
              · rw [if_pos (a2.mpr v), if_pos (Or.inr (by omega))]
              · rw [if_neg (fun t => v (a2.mp t)), if_neg (fun t => by omega)]
            · rw [if_neg (fun t => w (a1.mp t))]
              by_cases v : (dm : Int) = x
              · rw [if_pos (a3.mpr v), if_pos (Or.inl v.symm)]
              · rw [if_neg (fun t => v (a3.mp t)), if_neg (fun t => by omega)]
          have e := e.trans hT
          rw [nI_1] at e
          have hxe : (x = (dm : Int) ∨ x = -((lom Y (M + 1) + 1 - dm : Nat) : Int)) ↔ (r i = iI (dm : Int) ∨ r i = iI (-((lom Y (M + 1) + 1 - dm : Nat) : Int))) := by
            rw [ex, iI_eq (by omega) (by omega) (by omega) (by omega), iI_eq (by omega) (by omega) (by omega) (by omega)]
          by_cases t : (x = (dm : Int) ∨ x = -((lom Y (M + 1) + 1 - dm : Nat) : Int))
          · rw [if_pos t] at e
            obtain ⟨z, h1, h2, h3⟩ := ih (i + 1) 1 (by omega) (by omega) (Or.inr rfl)
            exact ⟨z, h1, h2.trans ⟨fun _ => Or.inr ⟨i, by omega, by omega, hxe.mp t⟩, fun _ => Or.inl rfl⟩, e.trans h3⟩
          · rw [if_neg t] at e
            obtain ⟨z, h1, h2, h3⟩ := ih (i + 1) 0 (by omega) (by omega) (Or.inl rfl)
            refine ⟨z, h1, h2.trans ⟨?_, ?_⟩, e.trans h3⟩
            · rintro (w | ⟨j, a, b, d⟩)
              · exact Or.inl w
              · exact Or.inr ⟨j, by omega, b, d⟩
            · rintro (w | ⟨j, a, b, d⟩)
              · exact Or.inl w
              · refine Or.inr ⟨j, ?_, b, d⟩
                by_cases e : j = i
                · subst e; exact absurd (hxe.mpr d) t
                · omega
        · rw [if_neg (show ¬ (1 : Int32) = 0 by decide), nI_1] at e
          obtain ⟨z, h1, h2, h3⟩ := ih (i + 1) 1 (by omega) (by omega) (Or.inr rfl)
          exact ⟨z, h1, h2.trans ⟨fun _ => Or.inl rfl, fun _ => Or.inl rfl⟩, e.trans h3⟩
  unfold f_M_fitsMonthDay
  by_cases h0 : c = 0
  · rw [if_pos (by rw [h0]; rfl)]
    obtain ⟨z, h1, h2, h3⟩ := key FU 0 1 (by omega) (by omega) (Or.inr rfl)
    exact ⟨z, h1, h2.trans ⟨fun _ => Or.inl h0, fun _ => Or.inl rfl⟩, h3⟩
  · rw [if_neg (show ¬ nI c = 0 from fun w => h0 ((nI_eq (b := 0) (by omega) (by omega)).mp w))]
    obtain ⟨z, h1, h2, h3⟩ := key FU 0 0 (by omega) (by omega) (Or.inl rfl)
    refine ⟨z, h1, h2.trans ⟨?_, ?_⟩, h3⟩
    · rintro (w | ⟨j, a, b, d | d⟩)
      · exact absurd w (by decide)
      · exact Or.inr (Or.inl ⟨j, b, d⟩)
      · exact Or.inr (Or.inr ⟨j, b, d⟩)
    · rintro (w | ⟨j, b, d⟩ | ⟨j, b, d⟩)
      · exact absurd w h0
      · exact Or.inr ⟨j, by omega, b, Or.inl d⟩
      · exact Or.inr ⟨j, by omega, b, Or.inr d⟩
theorem m_wdnow {FU d : Nat} (hd : d ≤ 7304) : f_M_weekdayNow FU (nI d) = some (nI ((d + 5) % 7)) ∧ f_Date_weekday FU (nI d) = some (nI ((d + 5) % 7)) := by
  have h : nI d + 5 - (nI d + 5) / 7 * 7 = nI ((d + 5) % 7) := by
    rw [show (5 : Int32) = nI 5 from rfl, show (7 : Int32) = nI 7 from rfl, nI_add, pk_div (by omega) (by omega) (by omega), pk_mul, pk_sub (by omega)]
    congr 1
    omega
  unfold f_M_weekdayNow f_Date_weekday
  rw [h]
  exact ⟨rfl, rfl⟩
/-- the reference's test of one entry -/
theorem m_wloop {FU c d e1 e2 : Nat} {r w : Nat → Int32} (fr mo y m dd : Int32) (hF : 300 < FU) (hc : c ≤ 8) (hd : d ≤ 7304) (h1 : e1 ≤ 366) (h2 : e2 ≤ 366) (hr : ∀ j, j < c → ∃ x : Int, -53 ≤ x ∧ x ≤ 53 ∧ r j = iI x) : ∀ q i (l : Int32), i ≤ c → c - i < q → (l = 0 ∨ l = 1) → ∃ z : Int32, (z = 0 ∨ z = 1) ∧ (z = 1 ↔ (l = 1 ∨ ∃ j, i ≤ j ∧ j < c ∧ w j = nI ((d + 5) % 7) ∧ (r j = 0 ∨ r j = iI ((e1 / 7 + 1 : Nat) : Int) ∨ r j = iI (-((e2 / 7 + 1 : Nat) : Int))))) ∧ f_M_fitsWeekday_104 FU fr mo (nI c) w r (nI d) y m dd q l (nI e1) (nI e2) (nI i) = some z := by
  intro q
  induction q with
  | zero => intro i l _ h; omega
  | succ q ih =>
    intro i l hi hq hl
    have e : f_M_fitsWeekday_104 FU fr mo (nI c) w r (nI d) y m dd (q + 1) l (nI e1) (nI e2) (nI i) = f_M_fitsWeekday_104_hd FU fr mo (nI c) w r (nI d) y m dd (f_M_fitsWeekday_104 FU fr mo (nI c) w r (nI d) y m dd q) l (nI e1) (nI e2) (nI i) := rfl
    unfold f_M_fitsWeekday_104_hd at e
    by_cases hin : c ≤ i
    · rw [if_pos (nI_le hin (by omega))] at e
      refine ⟨l, hl, ⟨Or.inl, fun w => w.elim id (fun ⟨j, a, b, _⟩ => by omega)⟩, ?_⟩
      rcases hl with rfl | rfl
      · rw [e, ckz_0]
      · rw [e, ckz_1]
    · rw [if_neg (nI_ge (by omega) (by omega)), ck_ok (show i < 8 by omega) (by omega), nm_eq, nI_clamp (show i < 2 ^ 31 by omega)] at e
      obtain ⟨x, x1, x2, ex⟩ := hr i (by omega)
      have hs : ∃ s : Int32, (s = 0 ∨ s = 1) ∧ (s = 1 ↔ (r i = 0 ∨ r i = iI ((e1 / 7 + 1 : Nat) : Int) ∨ r i = iI (-((e2 / 7 + 1 : Nat) : Int)))) ∧ f_M_fitsWeekday_104 FU fr mo (nI c) w r (nI d) y m dd (q + 1) l (nI e1) (nI e2) (nI i) = f_M_fitsWeekday_164 FU fr mo (nI c) w r (nI d) y m dd (f_M_fitsWeekday_104 FU fr mo (nI c) w r (nI d) y m dd q) l (nI e1) (nI e2) (nI i) s := by
        have q1 : nI e1 / 7 + 1 = iI ((e1 / 7 + 1 : Nat) : Int) := by
          rw [show (7 : Int32) = nI 7 from rfl, pk_div (by omega) (by omega) (by omega), nI_1, nI_iI]
        have q2 : nI e2 / 7 + 1 = iI ((e2 / 7 + 1 : Nat) : Int) := by
          rw [show (7 : Int32) = nI 7 from rfl, pk_div (by omega) (by omega) (by omega), nI_1, nI_iI]
        rw [q1, q2, ex] at e
        rw [ex]
        by_cases z0 : x = 0
        · rw [if_pos (by rw [z0]; rfl)] at e
          exact ⟨1, Or.inr rfl, ⟨fun _ => Or.inl (by rw [z0]; rfl), fun _ => rfl⟩, e⟩
        · have hx0 : ¬ iI x = 0 := fun w => by
            rw [show (0 : Int32) = iI 0 from rfl, iI_eq (by omega) (by omega) (by omega) (by omega)] at w
            exact z0 w
          rw [if_neg hx0] at e
          have le : (iI x ≤ 0) = (x ≤ 0) := by
            rw [show (0 : Int32) = iI 0 from rfl, iI_le (by omega) (by omega) (by omega) (by omega)]
          have b1 : (iI x = iI ((e1 / 7 + 1 : Nat) : Int)) = (x = ((e1 / 7 + 1 : Nat) : Int)) := iI_eq (by omega) (by omega) (by omega) (by omega)
          have b2 : (iI x = iI (-((e2 / 7 + 1 : Nat) : Int))) = (x = -((e2 / 7 + 1 : Nat) : Int)) := iI_eq (by omega) (by omega) (by omega) (by omega)
          have b3 : (iI ((e2 / 7 + 1 : Nat) : Int) = -iI x) = (((e2 / 7 + 1 : Nat) : Int) = -x) := by
            rw [iI_neg, iI_eq (by omega) (by omega) (by omega) (by omega)]
          rw [b1, b2]
          by_cases w : x ≤ 0
          · rw [if_pos (le.mpr w)] at e
            by_cases v : ((e2 / 7 + 1 : Nat) : Int) = -x
            · rw [if_pos (b3.mpr v)] at e
              exact ⟨1, Or.inr rfl, ⟨fun _ => Or.inr (Or.inr (by omega)), fun _ => rfl⟩, e⟩
            · rw [if_neg (fun t => v (b3.mp t))] at e
              exact ⟨0, Or.inl rfl, ⟨fun t => absurd t (by decide), fun t => by rcases t with t | t | t; exact absurd t hx0; omega; omega⟩, e⟩
          · rw [if_neg (fun t => w (le.mp t))] at e
            by_cases v : x = ((e1 / 7 + 1 : Nat) : Int)
            · rw [if_pos (by rw [v])] at e
              exact ⟨1, Or.inr rfl, ⟨fun _ => Or.inr (Or.inl v), fun _ => rfl⟩, e⟩
            · rw [if_neg (fun t => v (b1.mp t.symm))] at e
              exact ⟨0, Or.inl rfl, ⟨fun t => absurd t (by decide), fun t => by rcases t with t | t | t; exact absurd t hx0; omega; omega⟩, e⟩
      obtain ⟨s, s1, s2, e⟩ := hs
      unfold f_M_fitsWeekday_164 f_M_fitsWeekday_189 at e
      rcases hl with rfl | rfl
      · rw [if_pos rfl, ck_ok (show i < 8 by omega) (by omega), (m_wdnow hd).1, bd_ok, nI_clamp (show i < 2 ^ 31 by omega), nI_1] at e
        by_cases t : w i = nI ((d + 5) % 7) ∧ s = 1
        · rw [if_pos t.1, if_neg (by rw [t.2]; decide)] at e
          obtain ⟨z, h1, h2, h3⟩ := ih (i + 1) 1 (by omega) (by omega) (Or.inr rfl)
          exact ⟨z, h1, h2.trans ⟨fun _ => Or.inr ⟨i, by omega, by omega, t.1, s2.mp t.2⟩, fun _ => Or.inl rfl⟩, e.trans h3⟩
        · have e2 : f_M_fitsWeekday_104 FU fr mo (nI c) w r (nI d) y m dd (q + 1) 0 (nI e1) (nI e2) (nI i) = f_M_fitsWeekday_104 FU fr mo (nI c) w r (nI d) y m dd q 0 (nI e1) (nI e2) (nI (i + 1)) := by
            rw [e]
            by_cases t1 : w i = nI ((d + 5) % 7)
            · have : s = 0 := s1.resolve_right (fun v => t ⟨t1, v⟩)
              rw [if_pos t1, if_pos this]
            · rw [if_neg t1]
          obtain ⟨z, h1, h2, h3⟩ := ih (i + 1) 0 (by omega) (by omega) (Or.inl rfl)
          refine ⟨z, h1, h2.trans ⟨?_, ?_⟩, e2.trans h3⟩
          · rintro (w | ⟨j, a, b, d⟩)
            · exact Or.inl w
            · exact Or.inr ⟨j, by omega, b, d⟩
          · rintro (w | ⟨j, a, b, d⟩)
            · exact Or.inl w
            · refine Or.inr ⟨j, ?_, b, d⟩
              by_cases e : j = i
              · subst e; exact absurd ⟨d.1, s2.mpr d.2⟩ t
              · omega
      · rw [if_neg (show ¬ (1 : Int32) = 0 by decide), nI_1] at e
        obtain ⟨z, h1, h2, h3⟩ := ih (i + 1) 1 (by omega) (by omega) (Or.inr rfl)
        exact ⟨z, h1, h2.trans ⟨fun _ => Or.inl rfl, fun _ => Or.inl rfl⟩, e.trans h3⟩
