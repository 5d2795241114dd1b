/-! pure: the class's days of a period -/
theorem m_period {FU f w d Y M : Nat} (hf : f < 4) (hw : w < 7) (h : DT d Y M) : f_M_periodNow FU (nI f) (nI w) (nI d) (nI Y) (nI (M + 1)) = some (nI (PV f w d Y M)) := by
  have hd := DT_day h
  unfold f_M_periodNow
  rcases f_of hf with rfl | rfl | rfl | rfl
  · rw [if_pos (show nI 0 = 0 from rfl), PV_0]
  · rw [if_neg (show ¬ nI 1 = 0 by decide), if_pos (show nI 1 = 1 from rfl), (m_wdnow hd.1).1, bd_ok, k_wk (by omega) hw, PV_1]
    have e : nI d - nI (((d + 5) % 7 + 7 - w) % 7) + 6 = nI (d + 6 - ((d + 5) % 7 + 7 - w) % 7) := by
      rw [nI_iI, nI_iI, nI_iI, show (6 : Int32) = iI 6 from rfl, iI_sub, iI_add]
      exact congrArg iI (by omega)
    rw [e, show nI (d + 6 - ((d + 5) % 7 + 7 - w) % 7) / 7 = nI ((d + 6 - ((d + 5) % 7 + 7 - w) % 7) / 7) from pk_div (d := 7) (by omega) (by omega) (by omega)]
  · rw [if_neg (show ¬ nI 2 = 0 by decide), if_neg (show ¬ nI 2 = 1 by decide), if_pos (show nI 2 = 2 from rfl), PV_2, show (12 : Int32) = nI 12 from rfl, pk_mul, nI_add]
    rfl
  · rw [if_neg (show ¬ nI 3 = 0 by decide), if_neg (show ¬ nI 3 = 1 by decide), if_neg (show ¬ nI 3 = 2 by decide), PV_3]
theorem AR_snoc {r : Nat → Int32} {D : List Nat} (h : AR r D) (d : Nat) : AR (upd r D.length (nI d)) (D ++ [d]) := by
  intro j hj
  rw [List.length_append] at hj
  by_cases e : j = D.length
  · subst e
    rw [pk_us, List.getD_eq_getElem?_getD, List.getElem?_append_right (Nat.le_refl _), Nat.sub_self]
    rfl
  · have hj' : j < D.length := by
      have : [d].length = 1 := rfl
      omega
    rw [pk_un e, h j hj', List.getD_eq_getElem?_getD, List.getD_eq_getElem?_getD, List.getElem?_append_left hj']
theorem rg_cons {d n : Nat} : List.range' d (n + 1) = d :: List.range' (d + 1) n := rfl
theorem k_gath {FU lo hi : Nat} {fit : Nat → Bool} {fq gv km kd ke kw nS sd sm sf : Int32} {nW wN : Nat → Int32} (hF : 300 < FU) (hh : hi ≤ 7304) (hw : hi < lo + 366) (hfit : ∀ d Y M (dy yr mo yF yL mF mL : Int32), KD d Y M dy yr mo yF yL mF mL → f_Rule_fits FU fq gv km kd ke kw nW wN nS dy mo yF yL mF mL sd sm sf = some (if fit d = true then 1 else 0)) : ∀ q d (D : List Nat) (r : Nat → Int32) (dy yr mo yF yL mF mL : Int32), d ≤ hi + 1 → hi + 1 - d < q → lo ≤ d → AR r D → D.length ≤ d - lo → DOK yr mo yF yL mF mL → ∃ dy' yr' mo' yF' yL' mF' mL' r' D', f_Expansion_gather_43 FU sd sm sf fq gv km kd ke kw nW wN nS q (nI hi) (nI d) dy yr mo yF yL mF mL r (nI D.length) = some (dy', yr', mo', yF', yL', mF', mL', r', nI D'.length) ∧ DOK yr' mo' yF' yL' mF' mL' ∧ AR r' D' ∧ D' = D ++ (List.range' d (hi + 1 - d)).filter fit := by
  intro q
  induction q with
  | zero => intro d D r dy yr mo yF yL mF mL _ h; omega
  | succ q ih =>
    intro d D r dy yr mo yF yL mF mL h1 h2 h3 h4 h5 h6
    show ∃ dy' yr' mo' yF' yL' mF' mL' r' D', f_Expansion_gather_43_hd FU sd sm sf fq gv km kd ke kw nW wN nS (f_Expansion_gather_43 FU sd sm sf fq gv km kd ke kw nW wN nS q) (nI hi) (nI d) dy yr mo yF yL mF mL r (nI D.length) = some (dy', yr', mo', yF', yL', mF', mL', r', nI D'.length) ∧ DOK yr' mo' yF' yL' mF' mL' ∧ AR r' D' ∧ D' = D ++ (List.range' d (hi + 1 - d)).filter fit
    unfold f_Expansion_gather_43_hd
    by_cases c : hi < d
    · rw [if_pos (nI_lt c (by omega)), show hi + 1 - d = 0 by omega]
      exact ⟨dy, yr, mo, yF, yL, mF, mL, r, D, rfl, h6, h4, by simp⟩
    · obtain ⟨Y, M, hD⟩ := DT_ex d (by omega)
      obtain ⟨dy', yr', mo', yF', yL', mF', mL', e1, e2⟩ := k_move (FU := FU) (dy := dy) hF hD h6
      rw [if_neg (nI_nlt (by omega) (by omega)), if_neg (show ¬ 366 ≤ nI D.length from nI_ge (b := 366) (by omega) (by omega)), e1, bd_ok]
      dsimp only
      rw [hfit d Y M dy' yr' mo' yF' yL' mF' mL' e2, bd_ok, nI_1, show hi + 1 - d = (hi + 1 - (d + 1)) + 1 by omega, rg_cons]
      by_cases g : fit d = true
      · rw [if_pos g, if_neg (show ¬ (1 : Int32) = 0 by decide), ck_ok (show D.length < 366 by omega) (by omega), nm_eq, nI_1, nI_clamp (show D.length < 2 ^ 31 by omega)]
        obtain ⟨b1, b2, b3, b4, b5, b6, b7, r2, D2, f1, f2, f3, f4⟩ := ih (d + 1) (D ++ [d]) (upd r D.length (nI d)) dy' yr' mo' yF' yL' mF' mL' (by omega) (by omega) (by omega) (AR_snoc h4 d) (by rw [List.length_append]; show D.length + 1 ≤ _; omega) e2.dok
        rw [List.length_append] at f1
        refine ⟨b1, b2, b3, b4, b5, b6, b7, r2, D2, f1, f2, f3, ?_⟩
        rw [f4, List.filter_cons_of_pos g, List.append_assoc]
        rfl
      · rw [if_neg g, if_pos rfl]
        obtain ⟨b1, b2, b3, b4, b5, b6, b7, r2, D2, f1, f2, f3, f4⟩ := ih (d + 1) D r dy' yr' mo' yF' yL' mF' mL' (by omega) (by omega) (by omega) h4 (by omega) e2.dok
        refine ⟨b1, b2, b3, b4, b5, b6, b7, r2, D2, f1, f2, f3, ?_⟩
        rw [f4, List.filter_cons_of_neg g]
theorem SL_rg (lo n : Nat) : SL (List.range' lo n) := List.pairwise_lt_range'
theorem DF_win {per : Nat → Nat} {fit : Nat → Bool} {q lo hi : Nat} (hh : hi ≤ 7304) (h : ∀ d, d ≤ 7304 → ((lo ≤ d ∧ d ≤ hi) ↔ per d = q)) : (List.range' lo (hi + 1 - lo)).filter fit = DF per fit q := by
  refine SL_ext (List.Pairwise.filter _ (SL_rg _ _)) SL_DF (fun x => ?_)
  rw [List.mem_filter, List.mem_range'_1, mem_DF]
  constructor
  · rintro ⟨a, b⟩
    have := (h x (by omega)).mp (by omega)
    exact ⟨by omega, this, b⟩
  · rintro ⟨a, b, c⟩
    have := (h x a).mpr b
    exact ⟨by omega, c⟩
/-- the start's period and every interval'th one behind it: first day, then the days that fit -/
theorem k_period {FU f w S YS MS k iv : Nat} {per : Nat → Nat} {fit : Nat → Bool} {gv km kd ke kw nS : Int32} {nW wN : Nat → Int32} (hF : 8000 < FU) (hf : f < 4) (hw : w < 7) (hS : DT S YS MS) (hk : k ≤ 7304) (hiv : iv ≤ 99) (hp : ∀ d Y M, DT d Y M → per d = PV f w d Y M) (hb : (f = 2 → per S + k * iv ≤ 339) ∧ (f = 3 → per S + k * iv ≤ 118))
    (hfit : ∀ d Y M (dy yr mo yF yL mF mL : Int32), KD d Y M dy yr mo yF yL mF mL → f_Rule_fits FU (nI (f + 1)) gv km kd ke kw nW wN nS dy mo yF yL mF mL (nI S) (nI (MS + 1)) (nI (fom YS (MS + 1))) = some (if fit d = true then 1 else 0)) :
    ∃ F : Int32, f_Rule_periodFirst FU (nI k) (nI (f + 1)) (nI iv) (nI w) (nI S) (nI (2000 + YS)) (nI (MS + 1)) = some F ∧
    ((¬ F ≤ 7304 ∧ ∀ d, d ≤ 7304 → per d < per S + k * iv) ∨ (F ≤ 7304 ∧ (∃ d, d ≤ 7304 ∧ per d = per S + k * iv) ∧ (DF per fit (per S + k * iv)).length ≤ 366 ∧ ∀ (dy yr mo yF yL mF mL : Int32) (r : Nat → Int32) (n : Int32), DOK yr mo yF yL mF mL → ∃ dy' yr' mo' yF' yL' mF' mL' r', f_Expansion_gather FU F (nI S) (nI (MS + 1)) (nI (fom YS (MS + 1))) dy yr mo yF yL mF mL r n (nI (f + 1)) gv km kd ke kw nW wN nS = some (dy', yr', mo', yF', yL', mF', mL', r', nI (DF per fit (per S + k * iv)).length) ∧ DOK yr' mo' yF' yL' mF' mL' ∧ AR r' (DF per fit (per S + k * iv)))) := by
  rw [hp S YS MS hS] at hb ⊢
  obtain ⟨F, F1, F2, F3, F4, F5⟩ := k_first (FU := FU) hf hw hS hk hiv hb
  refine ⟨iI F, F3, ?_⟩
  have c7 : (iI F ≤ 7304) = (F ≤ 7304) := iI_le (y := 7304) (by omega) (by omega) (by omega) (by omega)
  by_cases c : 7304 < F
  · refine Or.inl ⟨by rw [c7]; omega, fun d hd => ?_⟩
    obtain ⟨Y, M, hD⟩ := DT_ex d hd
    rw [hp d Y M hD]
    exact F4 c d Y M hD
  · obtain ⟨lo, hlo⟩ : ∃ lo : Nat, (lo : Int) = max F 0 := ⟨F.toNat, by omega⟩
    obtain ⟨Yl, Ml, hL⟩ := DT_ex lo (by omega)
    obtain ⟨len, hi, g1, g2, hlh, g3, g4⟩ := F5 (by omega) lo Yl Ml hlo hL
    have hh : hi ≤ 7304 := by omega
    have hmem : ∀ d, d ≤ 7304 → ((lo ≤ d ∧ d ≤ hi) ↔ per d = PV f w S YS MS + k * iv) := fun d hd => by
      obtain ⟨Y, M, hD⟩ := DT_ex d hd
      rw [hp d Y M hD]
      exact g4 d Y M hD
    refine Or.inr ⟨by rw [c7]; omega, ⟨lo, by omega, (hmem lo (by omega)).mp ⟨Nat.le_refl _, hlh⟩⟩, ?_, ?_⟩
    · refine win_len (lo := lo) SL_DF (fun x hx => ?_)
      have m := mem_DF.mp hx
      have := (hmem x m.1).mpr m.2.1
      omega
    · intro dy yr mo yF yL mF mL r n h6
      unfold f_Expansion_gather
      have ex : (if iI F < 0 then 0 else iI F) = nI lo := by
        have c0 : (iI F < 0) = (F < 0) := iI_lt (y := 0) (by omega) (by omega) (by omega) (by omega)
        by_cases v : F < 0
        · rw [if_pos (by rw [c0]; exact v), show lo = 0 by omega]
          rfl
        · rw [if_neg (by rw [c0]; exact v), nI_iI, show (lo : Int) = F by omega]
      obtain ⟨dy', yr', mo', yF', yL', mF', mL', e1, e2⟩ := k_move (FU := FU) (dy := dy) (by omega) hL h6
      rw [ex, e1, bd_ok]
      dsimp only
      have e3 := e2
      obtain ⟨_, q1, q2, q3, q4, q5, q6, q7⟩ := e3
      rw [q5, q7, g1, bd_ok, nm_eq, nm_eq]
      have eh : (if 7304 < iI F + nI len - 1 then 7304 else iI F + nI len - 1) = nI hi := by
        rw [nI_iI len, show (1 : Int32) = iI 1 from rfl, iI_add, iI_sub]
        have c0 : (7304 < iI (F + len - 1)) = (7304 < F + len - 1) := iI_lt (x := 7304) (by omega) (by omega) (by omega) (by omega)
        by_cases v : 7304 < F + len - 1
        · rw [if_pos (by rw [c0]; exact v), show hi = 7304 by omega]
          rfl
        · rw [if_neg (by rw [c0]; exact v), nI_iI, show (hi : Int) = F + len - 1 by omega]
      rw [eh, ← q5, ← q7]
      have k43 := k_gath (FU := FU) (lo := lo) (hi := hi) (fit := fit) (by omega) hh (by omega) hfit FU lo [] r dy' yr' mo' yF' yL' mF' mL' (by omega) (by omega) (by omega) (fun j hj => absurd hj (by simp)) (by simp) e2.dok
      obtain ⟨b1, b2, b3, b4, b5, b6, b7, r2, D2, f1, f2, f3, f4⟩ := k43
      rw [List.nil_append, DF_win hh hmem] at f4
      rw [f4] at f1 f3
      exact ⟨b1, b2, b3, b4, b5, b6, b7, r2, f1, f2, f3⟩
