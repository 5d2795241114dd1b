/-! pure: the reference closes a period -/
def LIM (li : Int32) (lim : Nat) : Prop := (li = 0 ∧ lim = 60) ∨ ∃ c, 1 ≤ c ∧ c ≤ 99 ∧ li = nI c ∧ lim = min 60 c
def UNT (un : Int32) (unt : Nat) : Prop := (un = -1 ∧ unt = 10519199) ∨ (un = nI unt ∧ unt ≤ 10519199)
theorem MC_le {lim unt c c' : Nat} {R L L' : List Nat} (h : MC lim unt R c L c' L') (h1 : lim ≤ 60) (h2 : c ≤ 60) (h3 : L.length ≤ c) : c' ≤ 60 ∧ L'.length ≤ c' := by
  obtain ⟨_, _, a3, a4, _⟩ := h
  rw [List.length_take] at a3
  omega
theorem lim_60 {li : Int32} {lim : Nat} (h : LIM li lim) : 1 ≤ lim ∧ lim ≤ 60 := by
  rcases h with ⟨_, rfl⟩ | ⟨c, h1, h2, _, rfl⟩ <;> omega
theorem m_cl {FU S unt lim : Nat} {li un po : Int32} {pr fr : Nat → Int32} {D : List Nat} {st : Nat → Nat → Bool} (hF : 300 < FU) (hS : S ≤ 10519199) (hL : LIM li lim) (hU : UNT un unt) (hst : ∀ i n, i < n → n ≤ 366 → f_M_isPosition FU (nI i) po pr (nI n) = some (if st i n = true then 1 else 0)) (hD : AR fr D) (hDl : D.length ≤ 366) (hDb : ∀ d, d ∈ D → d ≤ 7304) :
    ∀ q i T (L : List Nat) (r : Nat → Int32), i ≤ D.length → D.length - i < q → T ≤ 60 → L.length ≤ T → AR r L → SL L → BL L → ∃ (T' : Nat), ∃ (L' : List Nat), ∃ (r' : Nat → Int32), f_M_closePeriod_2 FU (nI S) li un po pr fr q (nI i) (nI D.length) (nI T) (nI L.length) r = some (0, nI T', nI L'.length, r') ∧ AR r' L' ∧ MC lim unt (pks st (S % 1440) S D.length i (D.drop i)) T L T' L' := by
  have hl := lim_60 hL
  intro q
  induction q with
  | zero => intro i T L r _ h; omega
  | succ q ih =>
    intro i T L r hi hq hT hLT a1 a2 a3
    show ∃ (T' : Nat), ∃ (L' : List Nat), ∃ (r' : Nat → Int32), f_M_closePeriod_2_hd FU (nI S) li un po pr fr (f_M_closePeriod_2 FU (nI S) li un po pr fr q) (nI i) (nI D.length) (nI T) (nI L.length) r = some (0, nI T', nI L'.length, r') ∧ AR r' L' ∧ MC lim unt (pks st (S % 1440) S D.length i (D.drop i)) T L T' L'
    unfold f_M_closePeriod_2_hd
    by_cases hin : D.length ≤ i
    · rw [if_pos (nI_le hin (by omega)), List.drop_of_length_le hin]
      exact ⟨T, L, r, rfl, a1, MC_nil a2 a3⟩
    · have hx := hDb _ (getD_mem (show i < D.length by omega))
      have em : 1440 * nI (D.getD i 0) + (nI S - nI S / 1440 * 1440) = nI (1440 * D.getD i 0 + S % 1440) := by
        rw [show nI S - nI S / 1440 * 1440 = nI (S % 1440) from pk_rem (d := 1440) (by omega) (by omega) (by omega), show (1440 : Int32) = nI 1440 from rfl, pk_mul, nI_add]
      rw [drop_cons (show i < D.length by omega)]
      unfold pks
      rw [if_neg (nI_ge (by omega) (by omega)), ck_ok (show i < 366 by omega) (by omega), nI_clamp (show i < 2 ^ 31 by omega), hD i (by omega), nm_eq, em]
      generalize hmm : 1440 * D.getD i 0 + S % 1440 = m
      have hm : m ≤ 10519199 := by omega
      have key : ∀ s0 : Int32, (s0 = 0 ∧ lim ≤ T) ∨ (s0 = 1 ∧ T < lim) → ∃ (T' : Nat), ∃ (L' : List Nat), ∃ (r' : Nat → Int32), f_M_closePeriod_62 FU (nI S) li un po pr fr (f_M_closePeriod_2 FU (nI S) li un po pr fr q) (nI i) (nI m) s0 (nI D.length) (nI T) (nI L.length) r = some (0, nI T', nI L'.length, r') ∧ AR r' L' ∧ MC lim unt (if S < m ∧ st i D.length = true then m :: pks st (S % 1440) S D.length (i + 1) (D.drop (i + 1)) else pks st (S % 1440) S D.length (i + 1) (D.drop (i + 1))) T L T' L' := by
        intro s0 hs
        unfold f_M_closePeriod_62
        rw [hst i _ (by omega) hDl, bd_ok, nI_1 i]
        by_cases v : st i D.length = true
        · rw [if_pos v, if_neg (show ¬ (1 : Int32) = 0 by decide)]
          by_cases w : m ≤ S
          · rw [if_neg (show ¬ (S < m ∧ st i D.length = true) by omega), if_pos (nI_le w (by omega))]
            have := ih (i + 1) T L r (by omega) (by omega) hT hLT a1 a2 a3
            split <;> exact this
          · rw [if_pos (show S < m ∧ st i D.length = true from ⟨by omega, v⟩), if_neg (nI_ge (by omega) (by omega))]
            have next : ∀ (h : MC lim unt [m] T L T L), ∃ (T' : Nat), ∃ (L' : List Nat), ∃ (r' : Nat → Int32), f_M_closePeriod_2 FU (nI S) li un po pr fr q (nI (i + 1)) (nI D.length) (nI T) (nI L.length) r = some (0, nI T', nI L'.length, r') ∧ AR r' L' ∧ MC lim unt (m :: pks st (S % 1440) S D.length (i + 1) (D.drop (i + 1))) T L T' L' := by
              intro h
              obtain ⟨T', L', r', e1, e2, e3⟩ := ih (i + 1) T L r (by omega) (by omega) hT hLT a1 a2 a3
              exact ⟨T', L', r', e1, e2, MC_app h e3⟩
            rcases hs with ⟨rfl, hs⟩ | ⟨rfl, hs⟩
            · rw [if_pos rfl]
              exact next (MC_full a2 a3 hs)
            · rw [if_neg (show ¬ (1 : Int32) = 0 by decide)]
              have add : m ≤ unt → ∃ (T' : Nat), ∃ (L' : List Nat), ∃ (r' : Nat → Int32), f_M_closePeriod_98 FU (nI S) li un po pr fr (f_M_closePeriod_2 FU (nI S) li un po pr fr q) (nI i) (nI m) (nI D.length) (nI T) (nI L.length) r = some (0, nI T', nI L'.length, r') ∧ AR r' L' ∧ MC lim unt (m :: pks st (S % 1440) S D.length (i + 1) (D.drop (i + 1))) T L T' L' := by
                intro hmu
                unfold f_M_closePeriod_98
                obtain ⟨r1, e1, e2⟩ := m_add (FU := FU) hF a1 a2 a3 hm (by omega)
                have hn := (len_insL (m := m) (L := L)).2
                rw [e1, bd_ok, nm_eq, nI_1 i, nI_1 T]
                obtain ⟨T', L', r', f1, f2, f3⟩ := ih (i + 1) (T + 1) (insL m L) r1 (by omega) (by omega) (by omega) (by omega) e2 (SL_ins a2) (BL_ins a3 hm)
                exact ⟨T', L', r', f1, f2, MC_app (MC_take a2 a3 hm hmu hs) f3⟩
              rcases hU with ⟨rfl, rfl⟩ | ⟨rfl, hu⟩
              · rw [if_pos (show (-1 : Int32) < 0 by decide)]
                exact add hm
              · rw [if_neg (nI_pos (by omega))]
                by_cases u : unt < m
                · rw [if_pos (nI_lt u (by omega))]
                  exact next (MC_gt a2 a3 (fun x hx => by rw [List.mem_singleton.mp hx]; exact u))
                · rw [if_neg (nI_nlt (by omega) (by omega))]
                  exact add (by omega)
        · rw [if_neg v, if_pos rfl, if_neg (show ¬ (S < m ∧ st i D.length = true) from fun x => v x.2)]
          exact ih (i + 1) T L r (by omega) (by omega) hT hLT a1 a2 a3
      by_cases t60 : 60 ≤ T
      · rw [if_pos (show 60 ≤ nI T from nI_le (a := 60) t60 (by omega))]
        exact key 0 (Or.inl ⟨rfl, by omega⟩)
      · rw [if_neg (show ¬ 60 ≤ nI T from nI_ge (b := 60) (by omega) (by omega))]
        rcases hL with ⟨rfl, rfl⟩ | ⟨c, h1, h2, rfl, rfl⟩
        · rw [if_pos rfl]
          exact key 1 (Or.inr ⟨rfl, by omega⟩)
        · rw [if_neg (nI_ne0 (by omega) (by omega))]
          by_cases u : c ≤ T
          · rw [if_pos (nI_le u (by omega))]
            exact key 0 (Or.inl ⟨rfl, by omega⟩)
          · rw [if_neg (nI_ge (by omega) (by omega))]
            exact key 1 (Or.inr ⟨rfl, by omega⟩)
theorem m_close {FU S unt lim T : Nat} {li un po : Int32} {pr fr r : Nat → Int32} {D L : List Nat} {st : Nat → Nat → Bool} (hF : 400 < FU) (hS : S ≤ 10519199) (hL : LIM li lim) (hU : UNT un unt) (hst : ∀ i n, i < n → n ≤ 366 → f_M_isPosition FU (nI i) po pr (nI n) = some (if st i n = true then 1 else 0)) (hD : AR fr D) (hDl : D.length ≤ 366) (hDb : ∀ d, d ∈ D → d ≤ 7304) (hT : T ≤ 60) (hLT : L.length ≤ T) (a1 : AR r L) (a2 : SL L) (a3 : BL L) : ∃ (T' : Nat), ∃ (L' : List Nat), ∃ (r' : Nat → Int32), f_M_closePeriod FU (nI S) li un po pr (nI D.length) fr (nI T) (nI L.length) r = some (0, nI T', nI L'.length, r') ∧ AR r' L' ∧ MC lim unt (pks st (S % 1440) S D.length 0 D) T L T' L' := by
  have := m_cl (FU := FU) (by omega) hS hL hU hst hD hDl hDb FU 0 T L r (by omega) (by omega) hT hLT a1 a2 a3
  rw [List.drop_zero] at this
  exact this
