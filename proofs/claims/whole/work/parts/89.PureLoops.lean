/-! pure: the loops over the lists -/
theorem list_4 {FU n : Nat} {row plain : Nat → Int32} {givn : Int32} {intv : Int32} {cnt : Int32} {untl : Int32} {wst : Int32} {kd : Int32} {ke : Int32} {kw : Int32} {nW : Nat → Int32} {wN : Nat → Int32} {nS : Int32} {ps : Nat → Int32} {pS : Int32} {md : Int32} {dr : Nat → Int32} {wd : Int32} {wr : Nat → Int32} {wn : Nat → Int32} {po : Int32} {pr : Nat → Int32} {mo : Int32} (hF : 300 < FU) (hC : CH n row plain) : ∀ (m i a : Nat) (km : Int32) (mr : Nat → Int32), i ≤ 8 → 8 - i < m → a ≤ n → I4 i km mr →
    (∃ (i' a' : Nat) (km' : Int32) (mr' : Nat → Int32), 1 ≤ i' ∧ i' ≤ 8 ∧ a' ≤ n ∧ I4 i' km' mr' ∧ f_Rule_readPart_46 FU row (nI n) m 8 8 (nI i) givn intv cnt untl wst km kd ke kw nW wN nS ps pS (nI a) = some ((1 : Int32), givn, intv, cnt, untl, wst, km', kd, ke, kw, nW, wN, nS, ps, pS, nI a') ∧ f_M_readList_4 FU (nI n) plain m 4 (nI i) 1 (nI a) 1 mo mr md dr wd wr wn po pr = some (nI a', 1, nI i', mr', md, dr, wd, wr, wn, po, pr)) ∨
    (∃ (b a' i' : Nat) (km' : Int32) (mr' : Nat → Int32), b ≤ n ∧ a' ≤ n + 400 ∧ i' ≤ 8 ∧ f_Rule_readPart_46 FU row (nI n) m 8 8 (nI i) givn intv cnt untl wst km kd ke kw nW wN nS ps pS (nI a) = some ((0 : Int32), givn, intv, cnt, untl, wst, km', kd, ke, kw, nW, wN, nS, ps, pS, nI b) ∧ f_M_readList_4 FU (nI n) plain m 4 (nI i) 1 (nI a) 1 mo mr md dr wd wr wn po pr = some (nI a', 0, nI i', mr', md, dr, wd, wr, wn, po, pr)) := by
  have hn := hC.1
  intro m
  induction m with
  | zero => intro i a km mr _ h; omega
  | succ m ih =>
    intro i a km mr hi hm ha hI
    have eK : f_Rule_readPart_46 FU row (nI n) (m + 1) 8 8 (nI i) givn intv cnt untl wst km kd ke kw nW wN nS ps pS (nI a) = f_Rule_readPart_46_hd FU row (nI n) (f_Rule_readPart_46 FU row (nI n) m) 8 8 (nI i) givn intv cnt untl wst km kd ke kw nW wN nS ps pS (nI a) := rfl
    have eM : f_M_readList_4 FU (nI n) plain (m + 1) 4 (nI i) 1 (nI a) 1 mo mr md dr wd wr wn po pr = f_M_readList_4_hd FU (nI n) plain (f_M_readList_4 FU (nI n) plain m) 4 (nI i) 1 (nI a) 1 mo mr md dr wd wr wn po pr := rfl
    unfold f_Rule_readPart_46_hd at eK
    by_cases h8 : 8 ≤ i
    · rw [if_pos (show 8 ≤ nI i from nI_le (a := 8) h8 (by omega))] at eK
      unfold f_M_readList_4_hd at eM
      rw [if_neg (show ¬ (1 : Int32) = 0 by decide), if_pos (show 8 ≤ nI i from nI_le (a := 8) h8 (by omega)), m150_4, if_neg (show ¬ (1 : Int32) = 0 by decide), nd_00] at eM
      exact Or.inr ⟨a, a, i, _, _, ha, by omega, by omega, eK, eM⟩
    · rw [if_neg (show ¬ 8 ≤ nI i from nI_ge (b := 8) (by omega) (by omega))] at eK
      obtain ⟨m', rfl⟩ : ∃ q, m = q + 1 := ⟨m - 1, by omega⟩
      unfold f_M_readList_4_hd at eM
      rw [if_neg (show ¬ (1 : Int32) = 0 by decide), if_neg (show ¬ 8 ≤ nI i from nI_ge (b := 8) (by omega) (by omega)), if_pos rfl] at eM
      rcases rv_4 (FU := FU) (plain := plain) (intv := intv) (cnt := cnt) (untl := untl) (wst := wst) (km := km) (kd := kd) (ke := ke) (kw := kw) (nW := nW) (wN := wN) (nS := nS) (ps := ps) (pS := pS) hF hC ha with ⟨v, b1, v1, v2, vn, vm, vk⟩ | ⟨v, b1, b, v1, vb, vm, km1, vk⟩
      · -- good
        rw [vk, bd_ok, if_neg (show ¬ (1 : Int32) = 0 by decide)] at eK
        rw [vm, bd_ok, ck_ok (show i < 8 by omega) (by omega), nI_clamp (show i < 2 ^ 31 by omega)] at eM
        unfold f_M_readList_120 at eM
        rw [if_neg (show ¬ (1 : Int32) = 0 by decide)] at eM
        have hw := m_wd (FU := FU) (n := n) (a := b1) (plain := plain) [44] 1 44 1 hF hn (by omega) (by decide) (by decide +kernel) rfl rfl
        have hk := k_take (FU := FU) hC vn 44
        have hJ := hI.add v1 v2
        by_cases q : Wd plain n b1 [44]
        · rw [hw.1 q, bd_ok, if_neg (show ¬ (1 : Int32) = 0 by decide), nI_1] at eM
          rw [hk.1 q, bd_ok, if_neg (show ¬ (1 : Int32) = 0 by decide), nI_1] at eK
          rw [eK, eM]
          exact ih (i + 1) (b1 + 1) _ _ (by omega) (by omega) (wd1.mp q).1 hJ
        · rw [hw.2 q, bd_ok, if_pos rfl, nI_1, mml0_4, nd_1 1 (Or.inr rfl)] at eM
          rw [hk.2 q, bd_ok, if_pos rfl] at eK
          exact Or.inl ⟨i + 1, b1, _, _, by omega, by omega, vn, hJ, eK, eM⟩
      · -- bad
        rw [vk, bd_ok, if_pos rfl] at eK
        rw [vm, bd_ok, ck_ok (show i < 8 by omega) (by omega), nI_clamp (show i < 2 ^ 31 by omega)] at eM
        unfold f_M_readList_120 at eM
        rw [if_pos rfl, nI_1, mml0_4, nd_g0] at eM
        exact Or.inr ⟨b, b1, i + 1, _, _, vb, by omega, by omega, eK, eM⟩
theorem list_5 {FU n : Nat} {row plain : Nat → Int32} {givn : Int32} {intv : Int32} {cnt : Int32} {untl : Int32} {wst : Int32} {km : Int32} {kw : Int32} {nW : Nat → Int32} {wN : Nat → Int32} {nS : Int32} {ps : Nat → Int32} {pS : Int32} {mo : Int32} {mr : Nat → Int32} {wd : Int32} {wr : Nat → Int32} {wn : Nat → Int32} {po : Int32} {pr : Nat → Int32} {md : Int32} (hF : 300 < FU) (hC : CH n row plain) : ∀ (m i a : Nat) (kd : Int32) (ke : Int32) (dr : Nat → Int32), i ≤ 8 → 8 - i < m → a ≤ n → I5 i kd ke dr →
    (∃ (i' a' : Nat) (kd' : Int32) (ke' : Int32) (dr' : Nat → Int32), 1 ≤ i' ∧ i' ≤ 8 ∧ a' ≤ n ∧ I5 i' kd' ke' dr' ∧ f_Rule_readPart_46 FU row (nI n) m 16 8 (nI i) givn intv cnt untl wst km kd ke kw nW wN nS ps pS (nI a) = some ((1 : Int32), givn, intv, cnt, untl, wst, km, kd', ke', kw, nW, wN, nS, ps, pS, nI a') ∧ f_M_readList_4 FU (nI n) plain m 5 (nI i) 1 (nI a) 1 mo mr md dr wd wr wn po pr = some (nI a', 1, mo, mr, nI i', dr', wd, wr, wn, po, pr)) ∨
    (∃ (b a' i' : Nat) (kd' : Int32) (ke' : Int32) (dr' : Nat → Int32), b ≤ n ∧ a' ≤ n + 400 ∧ i' ≤ 8 ∧ f_Rule_readPart_46 FU row (nI n) m 16 8 (nI i) givn intv cnt untl wst km kd ke kw nW wN nS ps pS (nI a) = some ((0 : Int32), givn, intv, cnt, untl, wst, km, kd', ke', kw, nW, wN, nS, ps, pS, nI b) ∧ f_M_readList_4 FU (nI n) plain m 5 (nI i) 1 (nI a) 1 mo mr md dr wd wr wn po pr = some (nI a', 0, mo, mr, nI i', dr', wd, wr, wn, po, pr)) := by
  have hn := hC.1
  intro m
  induction m with
  | zero => intro i a kd ke dr _ h; omega
  | succ m ih =>
    intro i a kd ke dr hi hm ha hI
    have eK : f_Rule_readPart_46 FU row (nI n) (m + 1) 16 8 (nI i) givn intv cnt untl wst km kd ke kw nW wN nS ps pS (nI a) = f_Rule_readPart_46_hd FU row (nI n) (f_Rule_readPart_46 FU row (nI n) m) 16 8 (nI i) givn intv cnt untl wst km kd ke kw nW wN nS ps pS (nI a) := rfl
    have eM : f_M_readList_4 FU (nI n) plain (m + 1) 5 (nI i) 1 (nI a) 1 mo mr md dr wd wr wn po pr = f_M_readList_4_hd FU (nI n) plain (f_M_readList_4 FU (nI n) plain m) 5 (nI i) 1 (nI a) 1 mo mr md dr wd wr wn po pr := rfl
    unfold f_Rule_readPart_46_hd at eK
    by_cases h8 : 8 ≤ i
    · rw [if_pos (show 8 ≤ nI i from nI_le (a := 8) h8 (by omega))] at eK
      unfold f_M_readList_4_hd at eM
      rw [if_neg (show ¬ (1 : Int32) = 0 by decide), if_pos (show 8 ≤ nI i from nI_le (a := 8) h8 (by omega)), m150_5, if_neg (show ¬ (1 : Int32) = 0 by decide), nd_00] at eM
      exact Or.inr ⟨a, a, i, _, _, _, ha, by omega, by omega, eK, eM⟩
    · rw [if_neg (show ¬ 8 ≤ nI i from nI_ge (b := 8) (by omega) (by omega))] at eK
      obtain ⟨m', rfl⟩ : ∃ q, m = q + 1 := ⟨m - 1, by omega⟩
      unfold f_M_readList_4_hd at eM
      rw [if_neg (show ¬ (1 : Int32) = 0 by decide), if_neg (show ¬ 8 ≤ nI i from nI_ge (b := 8) (by omega) (by omega)), if_neg (show ¬ (5 : Int32) = 4 by decide), if_pos rfl] at eM
      rcases rv_5 (FU := FU) (plain := plain) (intv := intv) (cnt := cnt) (untl := untl) (wst := wst) (km := km) (kd := kd) (ke := ke) (kw := kw) (nW := nW) (wN := wN) (nS := nS) (ps := ps) (pS := pS) hF hC ha with ⟨v, b1, v1, v2, vn, vm, vk⟩ | ⟨v, b1, v1, v2, vn, vm, vk⟩ | ⟨v, b1, b, v1, vb, vm, ke1, vk⟩
      · -- good
        rw [vk, bd_ok, if_neg (show ¬ (1 : Int32) = 0 by decide)] at eK
        rw [vm, bd_ok, ck_ok (show i < 8 by omega) (by omega), nI_clamp (show i < 2 ^ 31 by omega)] at eM
        unfold f_M_readList_120 at eM
        rw [if_neg (show ¬ (1 : Int32) = 0 by decide)] at eM
        have hw := m_wd (FU := FU) (n := n) (a := b1) (plain := plain) [44] 1 44 1 hF hn (by omega) (by decide) (by decide +kernel) rfl rfl
        have hk := k_take (FU := FU) hC vn 44
        have hJ := hI.addP v1 v2
        by_cases q : Wd plain n b1 [44]
        · rw [hw.1 q, bd_ok, if_neg (show ¬ (1 : Int32) = 0 by decide), nI_1] at eM
          rw [hk.1 q, bd_ok, if_neg (show ¬ (1 : Int32) = 0 by decide), nI_1] at eK
          rw [eK, eM]
          exact ih (i + 1) (b1 + 1) _ _ _ (by omega) (by omega) (wd1.mp q).1 hJ
        · rw [hw.2 q, bd_ok, if_pos rfl, nI_1, mml0_5, nd_1 1 (Or.inr rfl)] at eM
          rw [hk.2 q, bd_ok, if_pos rfl] at eK
          exact Or.inl ⟨i + 1, b1, _, _, _, by omega, by omega, vn, hJ, eK, eM⟩
      · -- good, from the end
        rw [vk, bd_ok, if_neg (show ¬ (1 : Int32) = 0 by decide)] at eK
        rw [vm, bd_ok, ck_ok (show i < 8 by omega) (by omega), nI_clamp (show i < 2 ^ 31 by omega)] at eM
        unfold f_M_readList_120 at eM
        rw [if_neg (show ¬ (1 : Int32) = 0 by decide)] at eM
        have hw := m_wd (FU := FU) (n := n) (a := b1) (plain := plain) [44] 1 44 1 hF hn (by omega) (by decide) (by decide +kernel) rfl rfl
        have hk := k_take (FU := FU) hC vn 44
        have hJ := hI.addN v1 v2
        by_cases q : Wd plain n b1 [44]
        · rw [hw.1 q, bd_ok, if_neg (show ¬ (1 : Int32) = 0 by decide), nI_1] at eM
          rw [hk.1 q, bd_ok, if_neg (show ¬ (1 : Int32) = 0 by decide), nI_1] at eK
          rw [eK, eM]
          exact ih (i + 1) (b1 + 1) _ _ _ (by omega) (by omega) (wd1.mp q).1 hJ
        · rw [hw.2 q, bd_ok, if_pos rfl, nI_1, mml0_5, nd_1 1 (Or.inr rfl)] at eM
          rw [hk.2 q, bd_ok, if_pos rfl] at eK
          exact Or.inl ⟨i + 1, b1, _, _, _, by omega, by omega, vn, hJ, eK, eM⟩
      · -- bad
        rw [vk, bd_ok, if_pos rfl] at eK
        rw [vm, bd_ok, ck_ok (show i < 8 by omega) (by omega), nI_clamp (show i < 2 ^ 31 by omega)] at eM
        unfold f_M_readList_120 at eM
        rw [if_pos rfl, nI_1, mml0_5, nd_g0] at eM
        exact Or.inr ⟨b, b1, i + 1, _, _, _, vb, by omega, by omega, eK, eM⟩
theorem list_6 {FU n : Nat} {row plain : Nat → Int32} {givn : Int32} {intv : Int32} {cnt : Int32} {untl : Int32} {wst : Int32} {km : Int32} {kd : Int32} {ke : Int32} {ps : Nat → Int32} {pS : Int32} {mo : Int32} {mr : Nat → Int32} {md : Int32} {dr : Nat → Int32} {po : Int32} {pr : Nat → Int32} {wd : Int32} (hF : 300 < FU) (hC : CH n row plain) : ∀ (m i a : Nat) (kw : Int32) (nW : Nat → Int32) (wN : Nat → Int32) (nS : Int32) (wr : Nat → Int32) (wn : Nat → Int32), i ≤ 8 → 8 - i < m → a ≤ n → I6 i kw nW wN nS wr wn →
    (∃ (i' a' : Nat) (kw' : Int32) (nW' : Nat → Int32) (wN' : Nat → Int32) (nS' : Int32) (wr' : Nat → Int32) (wn' : Nat → Int32), 1 ≤ i' ∧ i' ≤ 8 ∧ a' ≤ n ∧ I6 i' kw' nW' wN' nS' wr' wn' ∧ f_Rule_readPart_46 FU row (nI n) m 32 8 (nI i) givn intv cnt untl wst km kd ke kw nW wN nS ps pS (nI a) = some ((1 : Int32), givn, intv, cnt, untl, wst, km, kd, ke, kw', nW', wN', nS', ps, pS, nI a') ∧ f_M_readList_4 FU (nI n) plain m 6 (nI i) 1 (nI a) 1 mo mr md dr wd wr wn po pr = some (nI a', 1, mo, mr, md, dr, nI i', wr', wn', po, pr)) ∨
    (∃ (b a' i' : Nat) (kw' : Int32) (nW' : Nat → Int32) (wN' : Nat → Int32) (nS' : Int32) (wr' : Nat → Int32) (wn' : Nat → Int32), b ≤ n ∧ a' ≤ n + 400 ∧ i' ≤ 8 ∧ f_Rule_readPart_46 FU row (nI n) m 32 8 (nI i) givn intv cnt untl wst km kd ke kw nW wN nS ps pS (nI a) = some ((0 : Int32), givn, intv, cnt, untl, wst, km, kd, ke, kw', nW', wN', nS', ps, pS, nI b) ∧ f_M_readList_4 FU (nI n) plain m 6 (nI i) 1 (nI a) 1 mo mr md dr wd wr wn po pr = some (nI a', 0, mo, mr, md, dr, nI i', wr', wn', po, pr)) := by
  have hn := hC.1
  intro m
  induction m with
  | zero => intro i a kw nW wN nS wr wn _ h; omega
  | succ m ih =>
    intro i a kw nW wN nS wr wn hi hm ha hI
    have eK : f_Rule_readPart_46 FU row (nI n) (m + 1) 32 8 (nI i) givn intv cnt untl wst km kd ke kw nW wN nS ps pS (nI a) = f_Rule_readPart_46_hd FU row (nI n) (f_Rule_readPart_46 FU row (nI n) m) 32 8 (nI i) givn intv cnt untl wst km kd ke kw nW wN nS ps pS (nI a) := rfl
    have eM : f_M_readList_4 FU (nI n) plain (m + 1) 6 (nI i) 1 (nI a) 1 mo mr md dr wd wr wn po pr = f_M_readList_4_hd FU (nI n) plain (f_M_readList_4 FU (nI n) plain m) 6 (nI i) 1 (nI a) 1 mo mr md dr wd wr wn po pr := rfl
    unfold f_Rule_readPart_46_hd at eK
    by_cases h8 : 8 ≤ i
    · rw [if_pos (show 8 ≤ nI i from nI_le (a := 8) h8 (by omega))] at eK
      unfold f_M_readList_4_hd at eM
      rw [if_neg (show ¬ (1 : Int32) = 0 by decide), if_pos (show 8 ≤ nI i from nI_le (a := 8) h8 (by omega)), m150_6, if_neg (show ¬ (1 : Int32) = 0 by decide), nd_00] at eM
      exact Or.inr ⟨a, a, i, _, _, _, _, _, _, ha, by omega, by omega, eK, eM⟩
    · rw [if_neg (show ¬ 8 ≤ nI i from nI_ge (b := 8) (by omega) (by omega))] at eK
      obtain ⟨m', rfl⟩ : ∃ q, m = q + 1 := ⟨m - 1, by omega⟩
      obtain ⟨s, hs, es, _, _⟩ := hI.2.2
      subst es
      rcases rv_6 (FU := FU) (plain := plain) (rc := f_M_readList_4 FU (nI n) plain (m' + 1)) (i := i) (s := s) (intv := intv) (cnt := cnt) (untl := untl) (wst := wst) (km := km) (kd := kd) (ke := ke) (kw := kw) (nW := nW) (wN := wN) (ps := ps) (pS := pS) (mo := mo) (mr := mr) (md := md) (dr := dr) (wd := wd) (wr := wr) (wn := wn) (po := po) (pr := pr) hF hC ha (by omega) (by omega) with ⟨w, b1, v1, vn, vm, vk⟩ | ⟨x, w, b1, x0, x1, x2, v1, vn, vm, vk⟩ | ⟨w, x, b1, b, v1, vb, vm, vk⟩
      · -- good
        rw [vk, bd_ok, if_neg (show ¬ (1 : Int32) = 0 by decide)] at eK
        rw [vm] at eM
        unfold f_M_readList_120 at eM
        rw [if_neg (show ¬ (1 : Int32) = 0 by decide)] at eM
        have hw := m_wd (FU := FU) (n := n) (a := b1) (plain := plain) [44] 1 44 1 hF hn (by omega) (by decide) (by decide +kernel) rfl rfl
        have hk := k_take (FU := FU) hC vn 44
        have hJ := hI.add0 v1
        by_cases q : Wd plain n b1 [44]
        · rw [hw.1 q, bd_ok, if_neg (show ¬ (1 : Int32) = 0 by decide), nI_1] at eM
          rw [hk.1 q, bd_ok, if_neg (show ¬ (1 : Int32) = 0 by decide), nI_1] at eK
          rw [eK, eM]
          exact ih (i + 1) (b1 + 1) _ _ _ _ _ _ (by omega) (by omega) (wd1.mp q).1 hJ
        · rw [hw.2 q, bd_ok, if_pos rfl, nI_1, mml0_6, nd_1 1 (Or.inr rfl)] at eM
          rw [hk.2 q, bd_ok, if_pos rfl] at eK
          exact Or.inl ⟨i + 1, b1, _, _, _, _, _, _, by omega, by omega, vn, hJ, eK, eM⟩
      · -- good, numbered
        obtain ⟨s2, hs2, es2, hJ2⟩ := hI.addN (w := w) (x := x) v1 x0 x1 x2
        have es3 : s = s2 := (nI_eq (by omega) (by omega)).mp es2
        subst es3
        rw [vk, bd_ok, if_neg (show ¬ (1 : Int32) = 0 by decide)] at eK
        rw [vm] at eM
        unfold f_M_readList_120 at eM
        rw [if_neg (show ¬ (1 : Int32) = 0 by decide)] at eM
        have hw := m_wd (FU := FU) (n := n) (a := b1) (plain := plain) [44] 1 44 1 hF hn (by omega) (by decide) (by decide +kernel) rfl rfl
        have hk := k_take (FU := FU) hC vn 44
        have hJ := hJ2
        by_cases q : Wd plain n b1 [44]
        · rw [hw.1 q, bd_ok, if_neg (show ¬ (1 : Int32) = 0 by decide), nI_1] at eM
          rw [hk.1 q, bd_ok, if_neg (show ¬ (1 : Int32) = 0 by decide), nI_1] at eK
          rw [eK, eM]
          exact ih (i + 1) (b1 + 1) _ _ _ _ _ _ (by omega) (by omega) (wd1.mp q).1 hJ
        · rw [hw.2 q, bd_ok, if_pos rfl, nI_1, mml0_6, nd_1 1 (Or.inr rfl)] at eM
          rw [hk.2 q, bd_ok, if_pos rfl] at eK
          exact Or.inl ⟨i + 1, b1, _, _, _, _, _, _, by omega, by omega, vn, hJ, eK, eM⟩
      · -- bad
        rw [vk, bd_ok, if_pos rfl] at eK
        rw [vm] at eM
        unfold f_M_readList_120 at eM
        rw [if_pos rfl, nI_1, mml0_6, nd_g0] at eM
        exact Or.inr ⟨b, b1, i + 1, _, _, _, _, _, _, vb, by omega, by omega, eK, eM⟩
theorem list_7 {FU n : Nat} {row plain : Nat → Int32} {givn : Int32} {intv : Int32} {cnt : Int32} {untl : Int32} {wst : Int32} {km : Int32} {kd : Int32} {ke : Int32} {kw : Int32} {nW : Nat → Int32} {wN : Nat → Int32} {nS : Int32} {mo : Int32} {mr : Nat → Int32} {md : Int32} {dr : Nat → Int32} {wd : Int32} {wr : Nat → Int32} {wn : Nat → Int32} {po : Int32} (hF : 300 < FU) (hC : CH n row plain) : ∀ (m i a : Nat) (ps : Nat → Int32) (pS : Int32) (pr : Nat → Int32), i ≤ 8 → 8 - i < m → a ≤ n → I7 i ps pS pr →
    (∃ (i' a' : Nat) (ps' : Nat → Int32) (pS' : Int32) (pr' : Nat → Int32), 1 ≤ i' ∧ i' ≤ 8 ∧ a' ≤ n ∧ I7 i' ps' pS' pr' ∧ f_Rule_readPart_46 FU row (nI n) m 64 8 (nI i) givn intv cnt untl wst km kd ke kw nW wN nS ps pS (nI a) = some ((1 : Int32), givn, intv, cnt, untl, wst, km, kd, ke, kw, nW, wN, nS, ps', pS', nI a') ∧ f_M_readList_4 FU (nI n) plain m 7 (nI i) 1 (nI a) 1 mo mr md dr wd wr wn po pr = some (nI a', 1, mo, mr, md, dr, wd, wr, wn, nI i', pr')) ∨
    (∃ (b a' i' : Nat) (ps' : Nat → Int32) (pS' : Int32) (pr' : Nat → Int32), b ≤ n ∧ a' ≤ n + 400 ∧ i' ≤ 8 ∧ f_Rule_readPart_46 FU row (nI n) m 64 8 (nI i) givn intv cnt untl wst km kd ke kw nW wN nS ps pS (nI a) = some ((0 : Int32), givn, intv, cnt, untl, wst, km, kd, ke, kw, nW, wN, nS, ps', pS', nI b) ∧ f_M_readList_4 FU (nI n) plain m 7 (nI i) 1 (nI a) 1 mo mr md dr wd wr wn po pr = some (nI a', 0, mo, mr, md, dr, wd, wr, wn, nI i', pr')) := by
  have hn := hC.1
  intro m
  induction m with
  | zero => intro i a ps pS pr _ h; omega
  | succ m ih =>
    intro i a ps pS pr hi hm ha hI
    have eK : f_Rule_readPart_46 FU row (nI n) (m + 1) 64 8 (nI i) givn intv cnt untl wst km kd ke kw nW wN nS ps pS (nI a) = f_Rule_readPart_46_hd FU row (nI n) (f_Rule_readPart_46 FU row (nI n) m) 64 8 (nI i) givn intv cnt untl wst km kd ke kw nW wN nS ps pS (nI a) := rfl
    have eM : f_M_readList_4 FU (nI n) plain (m + 1) 7 (nI i) 1 (nI a) 1 mo mr md dr wd wr wn po pr = f_M_readList_4_hd FU (nI n) plain (f_M_readList_4 FU (nI n) plain m) 7 (nI i) 1 (nI a) 1 mo mr md dr wd wr wn po pr := rfl
    unfold f_Rule_readPart_46_hd at eK
    by_cases h8 : 8 ≤ i
    · rw [if_pos (show 8 ≤ nI i from nI_le (a := 8) h8 (by omega))] at eK
      unfold f_M_readList_4_hd at eM
      rw [if_neg (show ¬ (1 : Int32) = 0 by decide), if_pos (show 8 ≤ nI i from nI_le (a := 8) h8 (by omega)), m150_7, if_neg (show ¬ (1 : Int32) = 0 by decide), nd_00] at eM
      exact Or.inr ⟨a, a, i, _, _, _, ha, by omega, by omega, eK, eM⟩
    · rw [if_neg (show ¬ 8 ≤ nI i from nI_ge (b := 8) (by omega) (by omega))] at eK
      obtain ⟨m', rfl⟩ : ∃ q, m = q + 1 := ⟨m - 1, by omega⟩
      unfold f_M_readList_4_hd at eM
      rw [if_neg (show ¬ (1 : Int32) = 0 by decide), if_neg (show ¬ 8 ≤ nI i from nI_ge (b := 8) (by omega) (by omega)), if_neg (show ¬ (7 : Int32) = 4 by decide), if_neg (show ¬ (7 : Int32) = 5 by decide), if_neg (show ¬ (7 : Int32) = 6 by decide)] at eM
      have ep : pS = nI i := hI.1
      subst ep
      rcases rv_7 (FU := FU) (plain := plain) (c := i) (intv := intv) (cnt := cnt) (untl := untl) (wst := wst) (km := km) (kd := kd) (ke := ke) (kw := kw) (nW := nW) (wN := wN) (nS := nS) (ps := ps) hF hC ha (by omega) with ⟨x, b1, v0, v1, v2, vn, vm, vk⟩ | ⟨v, b1, b, v1, vb, vm, ps1, pS1, vk⟩
      · -- good
        rw [vk, bd_ok, if_neg (show ¬ (1 : Int32) = 0 by decide)] at eK
        rw [vm, bd_ok, ck_ok (show i < 8 by omega) (by omega), nI_clamp (show i < 2 ^ 31 by omega)] at eM
        unfold f_M_readList_120 at eM
        rw [if_neg (show ¬ (1 : Int32) = 0 by decide)] at eM
        have hw := m_wd (FU := FU) (n := n) (a := b1) (plain := plain) [44] 1 44 1 hF hn (by omega) (by decide) (by decide +kernel) rfl rfl
        have hk := k_take (FU := FU) hC vn 44
        have hJ := hI.add v0 v1 v2
        by_cases q : Wd plain n b1 [44]
        · rw [hw.1 q, bd_ok, if_neg (show ¬ (1 : Int32) = 0 by decide), nI_1] at eM
          rw [hk.1 q, bd_ok, if_neg (show ¬ (1 : Int32) = 0 by decide), nI_1] at eK
          rw [eK, eM]
          exact ih (i + 1) (b1 + 1) _ _ _ (by omega) (by omega) (wd1.mp q).1 hJ
        · rw [hw.2 q, bd_ok, if_pos rfl, nI_1, mml0_7, nd_1 1 (Or.inr rfl)] at eM
          rw [hk.2 q, bd_ok, if_pos rfl] at eK
          exact Or.inl ⟨i + 1, b1, _, _, _, by omega, by omega, vn, hJ, eK, eM⟩
      · -- bad
        rw [vk, bd_ok, if_pos rfl] at eK
        rw [vm, bd_ok, ck_ok (show i < 8 by omega) (by omega), nI_clamp (show i < 2 ^ 31 by omega)] at eM
        unfold f_M_readList_120 at eM
        rw [if_pos rfl, nI_1, mml0_7, nd_g0] at eM
        exact Or.inr ⟨b, b1, i + 1, _, _, _, vb, by omega, by omega, eK, eM⟩
