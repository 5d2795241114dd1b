/-! pure: the reference books -/
theorem m_109 {FU p e n : Nat} {ch at_ to tx r bo ln ct : Nat → Int32} {G L : List Nat} {W : Nat → Int32} {th : Int32} {ty : Int32} {sz : Int32} {pl : Nat → Int32} {ai : Int32} {gd : Int32} {zo : Int32} {st : Int32} {le : Int32} {ex : Int32} {er : Nat → Int32} {go : Int32} {wo : Nat → Int32} {fq : Int32} {pa : Int32} {iv : Int32} {li : Int32} {un : Int32} {wb : Int32} {mo : Int32} {mr : Nat → Int32} {md : Int32} {dr : Nat → Int32} {wd : Int32} {wr : Nat → Int32} {wn : Nat → Int32} {po : Int32} {pr : Nat → Int32} {dy : Int32} {yy : Int32} {mm : Int32} {dd : Int32} {fg : Int32} {ft : Nat → Int32} {tk : Int32} (hF : 300 < FU) (hp : p < 4) (he : e < 16) (hn : n < 4) (hbo : bo p = nI n) (hW : WF FU zo ch at_ to W) (hG : AR wo G) (hGB : BL G) (hGl : G.length ≤ 18) (a1 : AR r L) (a3 : BL L) (a4 : L.length ≤ 99) : ∀ q j c (bg : Nat → Int32), j ≤ L.length → L.length - j < q → c ≤ 40 → ∃ bg' : Nat → Int32, f_M_book_109 FU ch at_ to tx q (nI p) (nI e) (nI c) (nI j) 0 ty sz pl ai gd zo st le ex er (nI G.length) wo fq pa iv li un wb mo mr md dr wd wr wn po pr dy yy mm dd fg ft tk (nI L.length) r bo ln ct bg = some (nI (c + (((L.drop j).filter (fun x => decide (¬ x ∈ G))).take (40 - c)).length), 0, 0, sz, pl, ai, gd, zo, st, le, ex, er, nI G.length, wo, fq, pa, iv, li, un, wb, mo, mr, md, dr, wd, wr, wn, po, pr, dy, yy, mm, dd, fg, ft, tk, nI L.length, r, upd bo p (nI (n + 1)), upd ln e le, upd ct e (nI (c + (((L.drop j).filter (fun x => decide (¬ x ∈ G))).take (40 - c)).length)), bg') ∧ (∀ i, i < 40 * e + c ∨ 40 * e + 40 ≤ i → bg' i = bg i) ∧ (∀ k, k < (((L.drop j).filter (fun x => decide (¬ x ∈ G))).take (40 - c)).length → bg' (40 * e + c + k) = W ((((L.drop j).filter (fun x => decide (¬ x ∈ G))).take (40 - c)).getD k 0)) := by
  intro q
  induction q with
  | zero => intro j c bg _ h; omega
  | succ q ih =>
    intro j c bg hj hq hc
    show ∃ bg' : Nat → Int32, f_M_book_109_hd FU ch at_ to tx (f_M_book_109 FU ch at_ to tx q) (nI p) (nI e) (nI c) (nI j) 0 ty sz pl ai gd zo st le ex er (nI G.length) wo fq pa iv li un wb mo mr md dr wd wr wn po pr dy yy mm dd fg ft tk (nI L.length) r bo ln ct bg = some (nI (c + (((L.drop j).filter (fun x => decide (¬ x ∈ G))).take (40 - c)).length), 0, 0, sz, pl, ai, gd, zo, st, le, ex, er, nI G.length, wo, fq, pa, iv, li, un, wb, mo, mr, md, dr, wd, wr, wn, po, pr, dy, yy, mm, dd, fg, ft, tk, nI L.length, r, upd bo p (nI (n + 1)), upd ln e le, upd ct e (nI (c + (((L.drop j).filter (fun x => decide (¬ x ∈ G))).take (40 - c)).length)), bg') ∧ (∀ i, i < 40 * e + c ∨ 40 * e + 40 ≤ i → bg' i = bg i) ∧ (∀ k, k < (((L.drop j).filter (fun x => decide (¬ x ∈ G))).take (40 - c)).length → bg' (40 * e + c + k) = W ((((L.drop j).filter (fun x => decide (¬ x ∈ G))).take (40 - c)).getD k 0))
    unfold f_M_book_109_hd
    by_cases hin : L.length ≤ j
    · rw [if_pos (nI_le hin (by omega)), ck_ok he (by omega), ck_ok he (by omega), ck_ok hp (by omega), nm_eq, ck_ok hp (by omega), nI_clamp (show p < 2 ^ 31 by omega), nI_clamp (show e < 2 ^ 31 by omega), hbo, nI_1, List.drop_of_length_le hin, List.filter_nil, List.take_nil]
      exact ⟨bg, rfl, fun i _ => rfl, fun k hk => absurd hk (by simp)⟩
    · have hx := a3 _ (getD_mem (show j < L.length by omega))
      rw [if_neg (nI_ge (by omega) (by omega)), nI_1 j]
      by_cases h40 : 40 ≤ c
      · rw [if_pos (show 40 ≤ nI c from nI_le (a := 40) h40 (by omega))]
        obtain ⟨bg', e1, e2, e3⟩ := ih (j + 1) c bg (by omega) (by omega) hc
        rw [show 40 - c = 0 by omega, List.take_zero] at e1 e3 ⊢
        exact ⟨bg', e1, e2, e3⟩
      · rw [if_neg (show ¬ 40 ≤ nI c from nI_ge (b := 40) (by omega) (by omega)), ck_ok (show j < 100 by omega) (by omega), nI_clamp (show j < 2 ^ 31 by omega), a1 j (by omega), m_isGone hF hG hGB hx hGl, bd_ok, drop_cons (show j < L.length by omega)]
        by_cases g : L.getD j 0 ∈ G
        · rw [if_pos g, if_neg (show ¬ (1 : Int32) = 0 by decide), List.filter_cons_of_neg (by simpa using g)]
          exact ih (j + 1) c bg (by omega) (by omega) hc
        · rw [if_neg g, if_pos rfl, ck_ok (show j < 100 by omega) (by omega), (hW _ hx).1, bd_ok, List.filter_cons_of_pos (by simpa using g), show 40 - c = (40 - (c + 1)) + 1 by omega, List.take_succ_cons, List.length_cons]
          have ei : (40 : Int32) * nI e + nI c = nI (40 * e + c) := by
            rw [show (40 : Int32) = nI 40 from rfl, pk_mul, nI_add]
          rw [ei, ck_ok (show 40 * e + c < 640 by omega) (by omega), nI_clamp (show 40 * e + c < 2 ^ 31 by omega), nI_1 c]
          obtain ⟨bg', e1, e2, e3⟩ := ih (j + 1) (c + 1) (upd bg (40 * e + c) (W (L.getD j 0))) (by omega) (by omega) (by omega)
          rw [show c + 1 + (((L.drop (j + 1)).filter (fun x => decide (¬ x ∈ G))).take (40 - (c + 1))).length = c + ((((L.drop (j + 1)).filter (fun x => decide (¬ x ∈ G))).take (40 - (c + 1))).length + 1) by omega] at e1
          refine ⟨bg', e1, fun i hi => ?_, fun k hk => ?_⟩
          · rw [e2 i (by omega), pk_un (by omega)]
          · cases k with
            | zero =>
              rw [Nat.add_zero, e2 _ (by omega), pk_us]
              rfl
            | succ k =>
              rw [show 40 * e + c + (k + 1) = 40 * e + (c + 1) + k by omega, e3 k (by omega)]
              rfl
theorem m_69 {FU p n : Nat} {ch at_ to tx bo ln ct bg : Nat → Int32} {G X : List Nat} {th : Int32} {ty : Int32} {sz : Int32} {pl : Nat → Int32} {ai : Int32} {gd : Int32} {zo : Int32} {st : Int32} {le : Int32} {ex : Int32} {er : Nat → Int32} {go : Int32} {wo : Nat → Int32} {fq : Int32} {pa : Int32} {iv : Int32} {li : Int32} {un : Int32} {wb : Int32} {mo : Int32} {mr : Nat → Int32} {md : Int32} {dr : Nat → Int32} {wd : Int32} {wr : Nat → Int32} {wn : Nat → Int32} {po : Int32} {pr : Nat → Int32} {dy : Int32} {yy : Int32} {mm : Int32} {dd : Int32} {fg : Int32} {ft : Nat → Int32} {tk : Int32} (hF : 300 < FU) (hp : p < 4) (hn : n < 4) (hbo : bo p = nI n) (hX : AR er X) (hXB : BL X) (hXl : X.length ≤ 18) : ∀ q i (L : List Nat) (r : Nat → Int32), i ≤ X.length → X.length - i < q → AR r L → SL L → BL L → L.length + (X.length - i) ≤ 99 → ∃ (L' : List Nat), ∃ (r' : Nat → Int32), f_M_book_69 FU ch at_ to tx q (nI p) (nI i) 0 ty sz pl ai gd zo st le (nI X.length) er (nI G.length) wo fq pa iv li un wb mo mr md dr wd wr wn po pr dy yy mm dd fg ft tk (nI L.length) r bo ln ct bg = f_M_book_109 FU ch at_ to tx FU (nI p) (nI (4 * p + n)) 0 0 0 ty sz pl ai gd zo st le (nI X.length) er (nI G.length) wo fq pa iv li un wb mo mr md dr wd wr wn po pr dy yy mm dd fg ft tk (nI L'.length) r' bo ln ct bg ∧ AR r' L' ∧ SL L' ∧ BL L' ∧ L'.length ≤ L.length + (X.length - i) ∧ (∀ x, x ∈ L' ↔ x ∈ L ∨ x ∈ X.drop i) := by
  intro q
  induction q with
  | zero => intro i L r _ h; omega
  | succ q ih =>
    intro i L r hi hq a1 a2 a3 a4
    show ∃ (L' : List Nat), ∃ (r' : Nat → Int32), f_M_book_69_hd FU ch at_ to tx (f_M_book_69 FU ch at_ to tx q) (nI p) (nI i) 0 ty sz pl ai gd zo st le (nI X.length) er (nI G.length) wo fq pa iv li un wb mo mr md dr wd wr wn po pr dy yy mm dd fg ft tk (nI L.length) r bo ln ct bg = f_M_book_109 FU ch at_ to tx FU (nI p) (nI (4 * p + n)) 0 0 0 ty sz pl ai gd zo st le (nI X.length) er (nI G.length) wo fq pa iv li un wb mo mr md dr wd wr wn po pr dy yy mm dd fg ft tk (nI L'.length) r' bo ln ct bg ∧ AR r' L' ∧ SL L' ∧ BL L' ∧ L'.length ≤ L.length + (X.length - i) ∧ (∀ x, x ∈ L' ↔ x ∈ L ∨ x ∈ X.drop i)
    unfold f_M_book_69_hd
    by_cases hin : X.length ≤ i
    · rw [if_pos (nI_le hin (by omega)), ck_ok hp (by omega), nm_eq, nI_clamp (show p < 2 ^ 31 by omega), hbo, show (4 : Int32) * nI p + nI n = nI (4 * p + n) from by rw [show (4 : Int32) = nI 4 from rfl, pk_mul, nI_add], List.drop_of_length_le hin]
      exact ⟨L, r, rfl, a1, a2, a3, by omega, fun x => by simp⟩
    · have hx := hXB _ (getD_mem (show i < X.length by omega))
      rw [if_neg (nI_ge (by omega) (by omega)), ck_ok (show i < 18 by omega) (by omega), nI_clamp (show i < 2 ^ 31 by omega), hX i (by omega), nI_1 i]
      obtain ⟨r1, e1, e2⟩ := m_add (FU := FU) hF a1 a2 a3 hx (by omega)
      have hl := (len_insL (m := X.getD i 0) (L := L)).2
      rw [e1, bd_ok]
      obtain ⟨L', r', f1, f2, f3, f4, f5, f6⟩ := ih (i + 1) (insL (X.getD i 0) L) r1 (by omega) (by omega) e2 (SL_ins a2) (BL_ins a3 hx) (by omega)
      refine ⟨L', r', f1, f2, f3, f4, by omega, fun x => ?_⟩
      rw [f6 x, mem_insL, drop_cons (show i < X.length by omega), List.mem_cons]
      constructor
      · rintro ((u | u) | u)
        · exact Or.inr (Or.inl u)
        · exact Or.inl u
        · exact Or.inr (Or.inr u)
      · rintro (u | u | u)
        · exact Or.inl (Or.inr u)
        · exact Or.inl (Or.inl u)
        · exact Or.inr u
