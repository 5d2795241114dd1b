/-! pure: which days fit, and stay -/
theorem z01 (P : Prop) : ∃ z : Int32, (z = 0 ∨ z = 1) ∧ (z = 1 ↔ P) ∧ (P → z = 1) ∧ (¬ P → z = 0) := by
  by_cases w : P
  · exact ⟨1, Or.inr rfl, ⟨fun _ => w, fun _ => rfl⟩, fun _ => rfl, fun v => absurd w v⟩
  · exact ⟨0, Or.inl rfl, ⟨fun v => absurd v (by decide), fun v => absurd v w⟩, fun v => absurd v w, fun _ => rfl⟩
theorem kr_has {FU Q j c : Nat} (x : Int32) (hx : x = nI (kbit j)) (hQ : Q < 256) (hj : j < 8) (hb : Q.testBit j = true ↔ 0 < c) : f_Rule_has FU x (nI (kp Q)) = some (if 0 < c then 1 else 0) := by
  subst hx
  rw [kp_has FU Q hQ j hj]
  cases h : Q.testBit j with
  | true => rw [if_pos rfl, if_pos (hb.mp h)]
  | false => rw [if_neg (show ¬ false = true by decide), if_neg (fun w => by rw [hb.mpr w] at h; cases h)]
theorem k_fitsStart {FU Q f c4 c5 c6 d Y M S YS MS : Nat} (hQ : Q < 256) (hf : f < 4) (h4 : c4 ≤ 8) (h5 : c5 ≤ 8) (h6 : c6 ≤ 8) (b4 : Q.testBit 4 = true ↔ 0 < c4) (b5 : Q.testBit 5 = true ↔ 0 < c5) (b6 : Q.testBit 6 = true ↔ 0 < c6) (h : DT d Y M) (hS : DT S YS MS) : ∃ z : Int32, (z = 0 ∨ z = 1) ∧ (z = 1 ↔ P4 f c4 c5 c6 d Y M S YS MS) ∧ f_Rule_fitsStart FU (nI (f + 1)) (nI (kp Q)) (nI d) (nI (M + 1)) (nI (fom Y (M + 1))) (nI S) (nI (MS + 1)) (nI (fom YS (MS + 1))) = some z := by
  have hd := DT_day h
  have hs := DT_day hS
  have aM := h.2.1
  have aMS := hS.2.1
  have a3 := h.2.2.1
  have s3 := hS.2.2.1
  unfold f_Rule_fitsStart
  obtain ⟨z, h1, h2, h3, h3'⟩ := z01 (P4 f c4 c5 c6 d Y M S YS MS)
  unfold P4 at h3 h3'
  refine ⟨z, h1, h2, ?_⟩
  have H8 := kr_has (FU := FU) 8 rfl hQ (show 4 < 8 by omega) b4
  have H16 := kr_has (FU := FU) 16 rfl hQ (show 5 < 8 by omega) b5
  have H32 := kr_has (FU := FU) 32 rfl hQ (show 6 < 8 by omega) b6
  by_cases f1 : f = 1
  · rw [if_pos (by rw [f1]; rfl), H32, bd_ok]
    by_cases w6 : 0 < c6
    · rw [if_pos w6, if_neg (show ¬ (1 : Int32) = 0 by decide), h3 (Or.inl ⟨f1, Or.inl w6⟩)]
    · rw [if_neg w6, if_pos rfl, (m_wdnow hd.1).2, bd_ok, (m_wdnow hs.1).2, bd_ok]
      by_cases v : (d + 5) % 7 = (S + 5) % 7
      · rw [if_pos (by rw [v]), h3 (Or.inl ⟨f1, Or.inr v⟩)]
      · rw [if_neg (fun w => v ((nI_eq (by omega) (by omega)).mp w)), h3' (by omega)]
  · rw [if_neg (show ¬ nI (f + 1) = 2 from fun w => f1 (by have := (nI_eq (b := 2) (by omega) (by omega)).mp w; omega))]
    by_cases f0 : f = 0
    · rw [if_pos (by rw [f0]; rfl), h3 (Or.inr (Or.inl f0))]
    · rw [if_neg (show ¬ nI (f + 1) = 1 from fun w => f0 (by have := (nI_eq (b := 1) (by omega) (by omega)).mp w; omega)), H16, bd_ok]
      by_cases w5 : 0 < c5
      · rw [if_pos w5, if_neg (show ¬ (1 : Int32) = 0 by decide), h3 (Or.inr (Or.inr ⟨f1, f0, Or.inl (by omega)⟩))]
      · rw [if_neg w5, if_pos rfl, H32, bd_ok]
        by_cases w6 : 0 < c6
        · rw [if_pos w6, if_neg (show ¬ (1 : Int32) = 0 by decide), h3 (Or.inr (Or.inr ⟨f1, f0, Or.inl (by omega)⟩))]
        · rw [if_neg w6, if_pos rfl]
          unfold f_Date_dayOfMonth f_Date_month
          rw [bd_ok, bd_ok, pk_sub a3, pk_sub s3, nI_1, nI_1]
          by_cases v : d - fom Y (M + 1) = S - fom YS (MS + 1)
          · rw [if_pos (by rw [v])]
            by_cases f2 : f = 2
            · rw [if_pos (by rw [f2]; rfl), h3 (Or.inr (Or.inr ⟨f1, f0, Or.inr ⟨v, Or.inl f2⟩⟩))]
            · rw [if_neg (show ¬ nI (f + 1) = 3 from fun w => f2 (by have := (nI_eq (b := 3) (by omega) (by omega)).mp w; omega)), H8, bd_ok]
              by_cases w4 : 0 < c4
              · rw [if_pos w4, if_neg (show ¬ (1 : Int32) = 0 by decide), h3 (Or.inr (Or.inr ⟨f1, f0, Or.inr ⟨v, Or.inr (Or.inl w4)⟩⟩))]
              · rw [if_neg w4, if_pos rfl, bd_ok, bd_ok]
                by_cases u : M = MS
                · rw [if_pos (by rw [u]), h3 (Or.inr (Or.inr ⟨f1, f0, Or.inr ⟨v, Or.inr (Or.inr u)⟩⟩))]
                · rw [if_neg (fun w => u (by have := (nI_eq (by omega) (by omega)).mp w; omega)), h3' (by omega)]
          · rw [if_neg (fun w => v (by have := (nI_eq (by omega) (by omega)).mp w; omega)), h3' (by omega)]
theorem k_fits {FU Q f c4 c5 c6 d Y M S YS MS : Nat} {km kd ke kw nS : Int32} {nW wN mr dr wr wn : Nat → Int32} {dy yr mo yF yL mF mL : Int32} (hF : 300 < FU) (hQ : Q < 256) (hf : f < 4) (h4 : c4 ≤ 8) (h5 : c5 ≤ 8) (h6 : c6 ≤ 8) (b4 : Q.testBit 4 = true ↔ 0 < c4) (b5 : Q.testBit 5 = true ↔ 0 < c5) (b6 : Q.testBit 6 = true ↔ 0 < c6) (i4 : I4 c4 km mr) (i5 : I5 c5 kd ke dr) (i6 : I6 c6 kw nW wN nS wr wn) (h : KD d Y M dy yr mo yF yL mF mL) (hS : DT S YS MS) : ∃ z : Int32, (z = 0 ∨ z = 1) ∧ (z = 1 ↔ (P1 c4 mr M ∧ P2 c5 dr d Y M ∧ P3 f c4 c6 wr wn d Y M ∧ P4 f c4 c5 c6 d Y M S YS MS)) ∧ f_Rule_fits FU (nI (f + 1)) (nI (kp Q)) km kd ke kw nW wN nS dy mo yF yL mF mL (nI S) (nI (MS + 1)) (nI (fom YS (MS + 1))) = some z := by
  have hw : 0 < c6 → _ := fun h0 => k_weekdays (FU := FU) (f := f) (c4 := c4) hF hQ hf h4 b4 h6 h0 i6 h
  obtain ⟨hD, rfl, rfl, rfl, rfl, rfl, rfl, rfl⟩ := h
  have hd := DT_day hD
  obtain ⟨zs, s1, s2, s3⟩ := k_fitsStart (FU := FU) hQ hf h4 h5 h6 b4 b5 b6 hD hS
  have a := hD
  obtain ⟨a1, a2, a3, a4⟩ := a
  have l31 := t_lom31 Y a1 M a2
  have H8 := kr_has (FU := FU) 8 rfl hQ (show 4 < 8 by omega) b4
  have H16 := kr_has (FU := FU) 16 rfl hQ (show 5 < 8 by omega) b5
  have H32 := kr_has (FU := FU) 32 rfl hQ (show 6 < 8 by omega) b6
  have e63 : f_Rule_fits_63 FU (nI (f + 1)) (nI (kp Q)) km kd ke kw nW wN nS (nI d) (nI (M + 1)) (nI (fom Y 1)) (nI (fom (Y + 1) 1 - fom Y 1)) (nI (fom Y (M + 1))) (nI (lom Y (M + 1))) (nI S) (nI (MS + 1)) (nI (fom YS (MS + 1))) = some zs := by
    unfold f_Rule_fits_63
    rw [s3, bd_ok]
    rcases s1 with rfl | rfl
    · rw [ckz_0]
    · rw [ckz_1]
  have e44 : ∃ z : Int32, (z = 0 ∨ z = 1) ∧ (z = 1 ↔ (P3 f c4 c6 wr wn d Y M ∧ P4 f c4 c5 c6 d Y M S YS MS)) ∧ f_Rule_fits_44 FU (nI (f + 1)) (nI (kp Q)) km kd ke kw nW wN nS (nI d) (nI (M + 1)) (nI (fom Y 1)) (nI (fom (Y + 1) 1 - fom Y 1)) (nI (fom Y (M + 1))) (nI (lom Y (M + 1))) (nI S) (nI (MS + 1)) (nI (fom YS (MS + 1))) = some z := by
    unfold f_Rule_fits_44
    rw [H32, bd_ok, e63]
    by_cases w6 : 0 < c6
    · obtain ⟨z, z1, z2, z3⟩ := hw w6
      rw [if_pos w6, if_neg (show ¬ (1 : Int32) = 0 by decide), z3, bd_ok]
      rcases z1 with rfl | rfl
      · rw [if_pos rfl]
        exact ⟨0, Or.inl rfl, ⟨fun w => absurd w (by decide), fun w => absurd (z2.mpr w.1) (by decide)⟩, rfl⟩
      · rw [if_neg (show ¬ (1 : Int32) = 0 by decide)]
        exact ⟨zs, s1, ⟨fun w => ⟨z2.mp rfl, s2.mp w⟩, fun w => s2.mpr w.2⟩, rfl⟩
    · rw [if_neg w6, if_pos rfl]
      exact ⟨zs, s1, ⟨fun w => ⟨Or.inl (by omega), s2.mp w⟩, fun w => s2.mpr w.2⟩, rfl⟩
  obtain ⟨z44, p1, p2, p3⟩ := e44
  have e25 : ∃ z : Int32, (z = 0 ∨ z = 1) ∧ (z = 1 ↔ (P2 c5 dr d Y M ∧ P3 f c4 c6 wr wn d Y M ∧ P4 f c4 c5 c6 d Y M S YS MS)) ∧ f_Rule_fits_25 FU (nI (f + 1)) (nI (kp Q)) km kd ke kw nW wN nS (nI d) (nI (M + 1)) (nI (fom Y 1)) (nI (fom (Y + 1) 1 - fom Y 1)) (nI (fom Y (M + 1))) (nI (lom Y (M + 1))) (nI S) (nI (MS + 1)) (nI (fom YS (MS + 1))) = some z := by
    unfold f_Rule_fits_25
    rw [H16, bd_ok, p3]
    by_cases w5 : 0 < c5
    · have hm : ∃ z : Int32, (z = 0 ∨ z = 1) ∧ (z = 1 ↔ P2 c5 dr d Y M) ∧ f_Rule_isOneOfMonthDays FU kd ke (nI d) (nI (fom Y (M + 1))) (nI (lom Y (M + 1))) = some z := by
        obtain ⟨z, q1, q2, q3, q3'⟩ := z01 (P2 c5 dr d Y M)
        refine ⟨z, q1, q2, ?_⟩
        unfold f_Rule_isOneOfMonthDays f_Date_dayOfMonth f_Date_dayOfMonthFromEnd
        rw [bd_ok, bd_ok, pk_sub a3, nI_1, nI_add, pk_sub (by omega), show fom Y (M + 1) + lom Y (M + 1) - d = lom Y (M + 1) + 1 - (d - fom Y (M + 1) + 1) by omega]
        have J1 := i5.2.1 (d - fom Y (M + 1) + 1) (by omega) (by omega)
        have J2 := i5.2.2 (lom Y (M + 1) + 1 - (d - fom Y (M + 1) + 1)) (by omega) (by omega)
        by_cases g1 : bt kd (d - fom Y (M + 1) + 1)
        · have g1' : ((kd >>> (nI (d - fom Y (M + 1) + 1) &&& 31)) &&& 1) = 1 := g1
          rw [if_pos g1', q3 (Or.inr (Or.inl (J1.mp g1)))]
        · have g1' : ¬ ((kd >>> (nI (d - fom Y (M + 1) + 1) &&& 31)) &&& 1) = 1 := g1
          rw [if_neg g1']
          by_cases g2 : bt ke (lom Y (M + 1) + 1 - (d - fom Y (M + 1) + 1))
          · have g2' : ((ke >>> (nI (lom Y (M + 1) + 1 - (d - fom Y (M + 1) + 1)) &&& 31)) &&& 1) = 1 := g2
            rw [if_pos g2', q3 (Or.inr (Or.inr (J2.mp g2)))]
          · have g2' : ¬ ((ke >>> (nI (lom Y (M + 1) + 1 - (d - fom Y (M + 1) + 1)) &&& 31)) &&& 1) = 1 := g2
            rw [if_neg g2', q3']
            rintro (w | w | w)
            · omega
            · exact g1 (J1.mpr w)
            · exact g2 (J2.mpr w)
      obtain ⟨z, z1, z2, z3⟩ := hm
      rw [if_pos w5, if_neg (show ¬ (1 : Int32) = 0 by decide), z3, bd_ok]
      rcases z1 with rfl | rfl
      · rw [if_pos rfl]
        exact ⟨0, Or.inl rfl, ⟨fun w => absurd w (by decide), fun w => absurd (z2.mpr w.1) (by decide)⟩, rfl⟩
      · rw [if_neg (show ¬ (1 : Int32) = 0 by decide)]
        exact ⟨z44, p1, ⟨fun w => ⟨z2.mp rfl, p2.mp w⟩, fun w => p2.mpr w.2⟩, rfl⟩
    · rw [if_neg w5, if_pos rfl]
      exact ⟨z44, p1, ⟨fun w => ⟨Or.inl (by omega), p2.mp w⟩, fun w => p2.mpr w.2⟩, rfl⟩
  obtain ⟨z25, r1, r2, r3⟩ := e25
  unfold f_Rule_fits f_Date_month
  rw [H8, bd_ok, r3]
  by_cases w4 : 0 < c4
  · rw [if_pos w4, if_neg (show ¬ (1 : Int32) = 0 by decide), bd_ok]
    have J := i4.2 (M + 1) (by omega)
    by_cases g : bt km (M + 1)
    · rw [if_neg (fun w => (bt_not (by omega)).mp w g)]
      exact ⟨z25, r1, ⟨fun w => ⟨Or.inr (J.mp g), r2.mp w⟩, fun w => r2.mpr w.2⟩, rfl⟩
    · rw [if_pos ((bt_not (by omega)).mpr g)]
      refine ⟨0, Or.inl rfl, ⟨fun w => absurd w (by decide), fun w => ?_⟩, rfl⟩
      rcases w.1 with v | v
      · omega
      · exact absurd (J.mpr v) g
  · rw [if_neg w4, if_pos rfl]
    exact ⟨z25, r1, ⟨fun w => ⟨Or.inl (by omega), r2.mp w⟩, fun w => r2.mpr w.2⟩, rfl⟩
/-- the places that stay -/
def PS (c7 : Nat) (pr : Nat → Int32) (i n : Nat) : Prop := c7 = 0 ∨ ∃ j, j < c7 ∧ (pr j = iI ((i : Int) + 1) ∨ pr j = iI ((i : Int) - n))
theorem k_stays {FU Q c7 i n : Nat} {ps pr : Nat → Int32} {pS : Int32} (hF : 300 < FU) (hQ : Q < 256) (h7 : c7 ≤ 8) (b7 : Q.testBit 7 = true ↔ 0 < c7) (i7 : I7 c7 ps pS pr) (hi : i < n) (hn : n ≤ 366) : ∃ z : Int32, (z = 0 ∨ z = 1) ∧ (z = 1 ↔ PS c7 pr i n) ∧ f_Rule_staysAt FU (nI i) (nI n) (nI (kp Q)) ps pS = some z := by
  obtain ⟨rfl, J⟩ := i7
  have H64 := kr_has (FU := FU) 64 rfl hQ (show 7 < 8 by omega) b7
  have e1 : nI i + 1 = iI ((i : Int) + 1) := by rw [nI_iI, show (1 : Int32) = iI 1 from rfl, iI_add]
  have e2 : nI i - nI n = iI ((i : Int) - n) := by rw [nI_iI, nI_iI, iI_sub]
  have key : ∀ q k, k ≤ c7 → c7 - k < q → ∃ z : Int32, (z = 0 ∨ z = 1) ∧ (z = 1 ↔ (c7 = 0 ∨ ∃ j, k ≤ j ∧ j < c7 ∧ (pr j = iI ((i : Int) + 1) ∨ pr j = iI ((i : Int) - n)))) ∧ f_Rule_staysAt_2 FU (nI (kp Q)) ps (nI c7) q (nI i) (nI n) (nI k) = some z := by
    intro q
    induction q with
    | zero => intro k _ h; omega
    | succ q ih =>
      intro k hk hq
      have e : f_Rule_staysAt_2 FU (nI (kp Q)) ps (nI c7) (q + 1) (nI i) (nI n) (nI k) = f_Rule_staysAt_2_hd FU (nI (kp Q)) ps (nI c7) (f_Rule_staysAt_2 FU (nI (kp Q)) ps (nI c7) q) (nI i) (nI n) (nI k) := rfl
      unfold f_Rule_staysAt_2_hd at e
      by_cases hin : c7 ≤ k
      · rw [if_pos (nI_le hin (by omega)), H64, bd_ok] at e
        by_cases w : 0 < c7
        · rw [if_pos w, if_neg (show ¬ (1 : Int32) = 0 by decide)] at e
          exact ⟨0, Or.inl rfl, ⟨fun v => absurd v (by decide), fun v => by rcases v with v | ⟨j, a, b, _⟩ <;> omega⟩, e⟩
        · rw [if_neg w, if_pos rfl] at e
          exact ⟨1, Or.inr rfl, ⟨fun _ => Or.inl (by omega), fun _ => rfl⟩, e⟩
      · rw [if_neg (nI_ge (by omega) (by omega)), ck_ok (show k < 8 by omega) (by omega), ck_ok (show k < 8 by omega) (by omega), nI_clamp (show k < 2 ^ 31 by omega), (J k (by omega)).1, e1, e2, nI_1] at e
        by_cases t : pr k = iI ((i : Int) + 1) ∨ pr k = iI ((i : Int) - n)
        · refine ⟨1, Or.inr rfl, ⟨fun _ => Or.inr ⟨k, by omega, by omega, t⟩, fun _ => rfl⟩, ?_⟩
          rw [e]
          by_cases a : pr k = iI ((i : Int) + 1)
          · rw [if_pos a]
          · rw [if_neg a, if_pos (t.resolve_left a)]
        · rw [if_neg (fun w => t (Or.inl w)), if_neg (fun w => t (Or.inr w))] at e
          obtain ⟨z, h1, h2, h3⟩ := ih (k + 1) (by omega) (by omega)
          refine ⟨z, h1, h2.trans ⟨?_, ?_⟩, e.trans h3⟩
          · rintro (w | ⟨j, a, b, d⟩)
            · exact Or.inl w
            · exact Or.inr ⟨j, by omega, b, d⟩
          · rintro (w | ⟨j, a, b, d⟩)
            · exact Or.inl w
            · refine Or.inr ⟨j, ?_, b, d⟩
              by_cases w : j = k
              · subst w; exact absurd d t
              · omega
  obtain ⟨z, h1, h2, h3⟩ := key FU 0 (by omega) (by omega)
  refine ⟨z, h1, h2.trans ⟨?_, ?_⟩, h3⟩
  · rintro (w | ⟨j, a, b, d⟩)
    · exact Or.inl w
    · exact Or.inr ⟨j, b, d⟩
  · rintro (w | ⟨j, b, d⟩)
    · exact Or.inl w
    · exact Or.inr ⟨j, by omega, b, d⟩
theorem m_isPos {FU c7 i n : Nat} {pr : Nat → Int32} (hF : 300 < FU) (h7 : c7 ≤ 8) (hr : ∀ j, j < c7 → ∃ x : Int, x ≠ 0 ∧ -99 ≤ x ∧ x ≤ 99 ∧ pr j = iI x) (hi : i < n) (hn : n ≤ 366) : ∃ z : Int32, (z = 0 ∨ z = 1) ∧ (z = 1 ↔ PS c7 pr i n) ∧ f_M_isPosition FU (nI i) (nI c7) pr (nI n) = some z := by
  have key : ∀ q k (l : Int32), k ≤ c7 → c7 - k < q → (l = 0 ∨ l = 1) → ∃ z : Int32, (z = 0 ∨ z = 1) ∧ (z = 1 ↔ (l = 1 ∨ ∃ j, k ≤ j ∧ j < c7 ∧ (pr j = iI ((i : Int) + 1) ∨ pr j = iI ((i : Int) - n)))) ∧ f_M_isPosition_15 FU (nI c7) pr (nI n) q (nI i) l (nI k) = some z := by
    intro q
    induction q with
    | zero => intro k l _ h; omega
    | succ q ih =>
      intro k l hk hq hl
      have e : f_M_isPosition_15 FU (nI c7) pr (nI n) (q + 1) (nI i) l (nI k) = f_M_isPosition_15_hd FU (nI c7) pr (nI n) (f_M_isPosition_15 FU (nI c7) pr (nI n) q) (nI i) l (nI k) := rfl
      unfold f_M_isPosition_15_hd at e
      by_cases hin : c7 ≤ k
      · rw [if_pos (nI_le hin (by omega))] at e
        refine ⟨l, hl, ⟨Or.inl, fun w => w.elim id (fun ⟨j, a, b, _⟩ => by omega)⟩, ?_⟩
        rcases hl with rfl | rfl
        · rw [e, ckz_0]
        · rw [e, ckz_1]
      · rw [if_neg (nI_ge (by omega) (by omega))] at e
        rcases hl with rfl | rfl
        · obtain ⟨x, x0, x1, x2, ex⟩ := hr k (by omega)
          rw [if_pos rfl] at e
          simp only [ck_ok (show k < 8 by omega) (show 8 < 2 ^ 31 by omega), nI_clamp (show k < 2 ^ 31 by omega), ex] at e
          unfold f_M_isPosition_59 f_M_isPosition_62 at e
          have a1 : (iI x ≤ 0) = (x ≤ 0) := by
            rw [show (0 : Int32) = iI 0 from rfl, iI_le (by omega) (by omega) (by omega) (by omega)]
          have a2 : (nI i = nI n + iI x) = ((i : Int) = (n : Int) + x) := by
            rw [nI_iI, nI_iI, iI_add, iI_eq (by omega) (by omega) (by omega) (by omega)]
          have a3 : (nI i = iI x - 1) = ((i : Int) = x - 1) := by
            rw [nI_iI, show (1 : Int32) = iI 1 from rfl, iI_sub, iI_eq (by omega) (by omega) (by omega) (by omega)]
          have hxe : (pr k = iI ((i : Int) + 1) ∨ pr k = iI ((i : Int) - n)) ↔ (x = (i : Int) + 1 ∨ x = (i : Int) - n) := by
            rw [ex, iI_eq (by omega) (by omega) (by omega) (by omega), iI_eq (by omega) (by omega) (by omega) (by omega)]
          rw [nI_1] at e
          by_cases t : x = (i : Int) + 1 ∨ x = (i : Int) - n
          · have e2 : f_M_isPosition_15 FU (nI c7) pr (nI n) (q + 1) (nI i) 0 (nI k) = f_M_isPosition_15 FU (nI c7) pr (nI n) q (nI i) 1 (nI (k + 1)) := by
              rw [e]
              by_cases w : x ≤ 0
              · rw [if_pos (a1.mpr w), if_pos (a2.mpr (by omega))]
              · rw [if_neg (fun v => w (a1.mp v)), if_pos (a3.mpr (by omega))]
            obtain ⟨z, h1, h2, h3⟩ := ih (k + 1) 1 (by omega) (by omega) (Or.inr rfl)
            exact ⟨z, h1, h2.trans ⟨fun _ => Or.inr ⟨k, by omega, by omega, hxe.mpr t⟩, fun _ => Or.inl rfl⟩, e2.trans h3⟩
          · have e2 : f_M_isPosition_15 FU (nI c7) pr (nI n) (q + 1) (nI i) 0 (nI k) = f_M_isPosition_15 FU (nI c7) pr (nI n) q (nI i) 0 (nI (k + 1)) := by
              rw [e]
              by_cases w : x ≤ 0
              · rw [if_pos (a1.mpr w), if_neg (fun v => by have := a2.mp v; omega)]
              · rw [if_neg (fun v => w (a1.mp v)), if_neg (fun v => by have := a3.mp v; omega)]
            obtain ⟨z, h1, h2, h3⟩ := ih (k + 1) 0 (by omega) (by omega) (Or.inl rfl)
            refine ⟨z, h1, h2.trans ⟨?_, ?_⟩, e2.trans h3⟩
            · rintro (w | ⟨j, a, b, d⟩)
              · exact Or.inl w
              · exact Or.inr ⟨j, by omega, b, d⟩
            · rintro (w | ⟨j, a, b, d⟩)
              · exact Or.inl w
              · refine Or.inr ⟨j, ?_, b, d⟩
                by_cases w : j = k
                · subst w; exact absurd (hxe.mp d) t
                · omega
        · rw [if_neg (show ¬ (1 : Int32) = 0 by decide)] at e
          unfold f_M_isPosition_62 at e
          rw [nI_1] at e
          obtain ⟨z, h1, h2, h3⟩ := ih (k + 1) 1 (by omega) (by omega) (Or.inr rfl)
          exact ⟨z, h1, h2.trans ⟨fun _ => Or.inl rfl, fun _ => Or.inl rfl⟩, e.trans h3⟩
  unfold f_M_isPosition PS
  by_cases h0 : c7 = 0
  · rw [if_pos (by rw [h0]; rfl)]
    obtain ⟨z, h1, h2, h3⟩ := key FU 0 1 (by omega) (by omega) (Or.inr rfl)
    exact ⟨z, h1, h2.trans ⟨fun _ => Or.inl h0, fun _ => Or.inl rfl⟩, h3⟩
  · rw [if_neg (show ¬ nI c7 = 0 from fun w => h0 ((nI_eq (b := 0) (by omega) (by omega)).mp w))]
    obtain ⟨z, h1, h2, h3⟩ := key FU 0 0 (by omega) (by omega) (Or.inl rfl)
    refine ⟨z, h1, h2.trans ⟨?_, ?_⟩, h3⟩
    · rintro (w | ⟨j, a, b, d⟩)
      · exact absurd w (by decide)
      · exact Or.inr ⟨j, b, d⟩
    · rintro (w | ⟨j, b, d⟩)
      · exact absurd w h0
      · exact Or.inr ⟨j, by omega, b, d⟩
