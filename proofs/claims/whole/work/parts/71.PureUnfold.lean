/-! pure: the text without its folds -/
theorem okCh_nar {c : Int32} (h : okCh c) : vp_nar .char c = c := by
  obtain ⟨q, hq, rfl⟩ := okCh_n h
  unfold vp_nar
  rw [(pk_charN (show q < 65536 by omega)).1]
theorem unf {FU n : Nat} {T T' : Nat → Int32} (hn : n ≤ 240) (hT : ∀ j, j < n → T' j = T j ∧ okCh (T j)) : ∀ (d k s m m' : Nat) (plain p1 : Nat → Int32), n - k ≤ d → k ≤ n → s ≤ k → d < m → d < m' → (k < n → k = 0 ∨ ¬ T (k - 1) = 10 ∨ ¬ T k = 32) → (∀ j, j < s → p1 j = plain j ∧ okCh (plain j)) →
    ∃ s' plain' p1', f_M_unfold_7 FU (nI n) T m (nI k) (nI s) plain = some (nI s', plain') ∧ f_Text_unfoldInto_4 FU T' (nI n) m' (nI s) (nI k) p1 = some (nI s', p1') ∧ s' ≤ n ∧ ∀ j, j < s' → p1' j = plain' j ∧ okCh (plain' j) := by
  intro d
  induction d using Nat.strongRecOn with
  | _ d ih =>
  intro k s m m' plain p1 hd hk hs hm hm' hNB hag
  obtain ⟨m, rfl⟩ : ∃ q, m = q + 1 := ⟨m - 1, by omega⟩
  obtain ⟨m', rfl⟩ : ∃ q, m' = q + 1 := ⟨m' - 1, by omega⟩
  have eM : f_M_unfold_7 FU (nI n) T (m + 1) (nI k) (nI s) plain = f_M_unfold_7_hd FU (nI n) T (f_M_unfold_7 FU (nI n) T m) (nI k) (nI s) plain := rfl
  have eK : ∀ m' s k p1, f_Text_unfoldInto_4 FU T' (nI n) (m' + 1) (nI s) (nI k) p1 = f_Text_unfoldInto_4_hd FU T' (nI n) (f_Text_unfoldInto_4 FU T' (nI n) m') (nI s) (nI k) p1 := fun _ _ _ _ => rfl
  rw [eM, eK]
  by_cases hkn : n ≤ k
  · unfold f_M_unfold_7_hd f_Text_unfoldInto_4_hd
    rw [if_pos (nI_le hkn (by omega)), if_pos (nI_le hkn (by omega))]
    exact ⟨s, plain, p1, rfl, rfl, by omega, hag⟩
  · have hlt : ¬ nI n ≤ nI k := nI_ge (by omega) (by omega)
    have tk := hT k (by omega)
    by_cases hfold : T k = 10 ∧ k + 1 < n ∧ T (k + 1) = 32
    · obtain ⟨f1, f2, f3⟩ := hfold
      have tk1 := hT (k + 1) f2
      have hlt1 : ¬ nI n ≤ nI (k + 1) := nI_ge (by omega) (by omega)
      obtain ⟨m'', rfl⟩ : ∃ q, m' = q + 1 := ⟨m' - 1, by omega⟩
      obtain ⟨s', plain', p1', r1, r2, r3, r4⟩ := ih (d - 2) (by omega) (k + 2) s m m'' plain p1 (by omega) (by omega) (by omega) (by omega) (by omega) (fun _ => Or.inr (Or.inl (by rw [show k + 2 - 1 = k + 1 by omega, f3]; decide))) hag
      refine ⟨s', plain', p1', ?_, ?_, r3, r4⟩
      · unfold f_M_unfold_7_hd f_M_unfold_54 f_M_unfold_84
        rw [if_neg hlt, ck_ok (show k < 240 by omega) (by omega), nI_clamp (show k < 2 ^ 31 by omega), if_pos f1, nI_1, if_neg hlt1, ck_ok (show k + 1 < 240 by omega) (by omega), nI_clamp (show k + 1 < 2 ^ 31 by omega), if_pos f3, if_neg (by decide), if_neg (by decide), nm_eq, show nI k + 2 = nI (k + 2) from nI_add k 2]
        exact r1
      · have step1 : f_Text_unfoldInto_4_hd FU T' (nI n) (f_Text_unfoldInto_4 FU T' (nI n) (m'' + 1)) (nI s) (nI k) p1 = f_Text_unfoldInto_4 FU T' (nI n) (m'' + 1) (nI s) (nI (k + 1)) p1 := by
          unfold f_Text_unfoldInto_4_hd f_Text_unfoldInto_51 f_Text_unfoldInto_86
          rw [if_neg hlt]
          simp only [ck_ok (show k < 240 by omega) (by omega), nI_clamp (show k < 2 ^ 31 by omega), nI_1, ck_ok (show k + 1 < 240 by omega) (by omega), nI_clamp (show k + 1 < 2 ^ 31 by omega), tk.1, tk1.1, f1, f3, if_true, if_neg hlt1]
          rw [if_neg (show ¬ (10 : Int32) = 32 by decide), if_neg (show ¬ (1 : Int32) = 0 by decide)]
        have step2 : f_Text_unfoldInto_4 FU T' (nI n) (m'' + 1) (nI s) (nI (k + 1)) p1 = f_Text_unfoldInto_4 FU T' (nI n) m'' (nI s) (nI (k + 2)) p1 := by
          rw [eK]
          unfold f_Text_unfoldInto_4_hd f_Text_unfoldInto_51 f_Text_unfoldInto_86
          rw [if_neg hlt1]
          simp only [ck_ok (show k + 1 < 240 by omega) (by omega), nI_clamp (show k + 1 < 2 ^ 31 by omega), tk1.1, f3, if_true]
          rw [if_neg (show ¬ (32 : Int32) = 10 by decide), if_neg (show ¬ nI (k + 1) ≤ 0 from nI_nle (by omega) (by omega)), p_pred (by omega), show k + 1 - 1 = k by omega, ck_ok (show k < 240 by omega) (by omega), nI_clamp (show k < 2 ^ 31 by omega), tk.1, if_pos f1, if_neg (show ¬ (1 : Int32) = 0 by decide), nI_1]
        rw [step1, step2]
        exact r2
    · have hpl : ∀ j, j < s + 1 → upd p1 s (T k) j = upd plain s (T k) j ∧ okCh (upd plain s (T k) j) := by
        intro j hj
        by_cases q : j = s
        · subst q
          rw [pk_us, pk_us]
          exact ⟨rfl, tk.2⟩
        · rw [pk_un q, pk_un q]
          exact hag j (by omega)
      obtain ⟨s', plain', p1', r1, r2, r3, r4⟩ := ih (d - 1) (by omega) (k + 1) (s + 1) m m' (upd plain s (T k)) (upd p1 s (T k)) (by omega) (by omega) (by omega) (by omega) (by omega) (fun q => by
        by_cases w : T k = 10
        · exact Or.inr (Or.inr (fun v => hfold ⟨w, q, v⟩))
        · exact Or.inr (Or.inl (by rw [show k + 1 - 1 = k by omega]; exact w))) hpl
      refine ⟨s', plain', p1', ?_, ?_, r3, r4⟩
      · have key : f_M_unfold_54 FU (nI n) T (f_M_unfold_7 FU (nI n) T m) (nI k) 0 (nI s) plain = some (nI s', plain') := by
          unfold f_M_unfold_54 f_M_unfold_84
          rw [if_pos rfl, ck_ok (show k < 240 by omega) (by omega), nm_eq, ck_ok (show s < 240 by omega) (by omega), nm_eq, if_pos rfl, nm_eq, nI_1, nI_1, nI_clamp (show k < 2 ^ 31 by omega), nI_clamp (show s < 2 ^ 31 by omega)]
          exact r1
        unfold f_M_unfold_7_hd
        rw [if_neg hlt, ck_ok (show k < 240 by omega) (by omega), nI_clamp (show k < 2 ^ 31 by omega)]
        by_cases w : T k = 10
        · rw [if_pos w, nI_1]
          by_cases q : k + 1 < n
          · rw [if_neg (nI_ge (by omega) (by omega)), ck_ok (show k + 1 < 240 by omega) (by omega), nI_clamp (show k + 1 < 2 ^ 31 by omega), if_neg (fun v => hfold ⟨w, q, v⟩)]
            exact key
          · rw [if_pos (nI_le (by omega) (by omega))]
            exact key
        · rw [if_neg w]
          exact key
      · have key : f_Text_unfoldInto_51 FU T' (nI n) (f_Text_unfoldInto_4 FU T' (nI n) m') (nI s) (nI k) 0 p1 = some (nI s', p1') := by
          have copy : f_Text_unfoldInto_86 FU T' (nI n) (f_Text_unfoldInto_4 FU T' (nI n) m') (nI s) (nI k) 0 0 p1 = some (nI s', p1') := by
            unfold f_Text_unfoldInto_86
            rw [if_pos rfl, if_pos rfl, if_neg (show ¬ (240 : Int32) ≤ nI s from nI_ge (b := 240) (by omega) (by omega)), ck_ok (show k < 240 by omega) (by omega), nm_eq, ck_ok (show s < 240 by omega) (by omega), nI_1, nI_1, nI_clamp (show k < 2 ^ 31 by omega), nI_clamp (show s < 2 ^ 31 by omega), tk.1, okCh_nar tk.2]
            exact r2
          unfold f_Text_unfoldInto_51
          rw [ck_ok (show k < 240 by omega) (by omega), nI_clamp (show k < 2 ^ 31 by omega), tk.1]
          by_cases w : T k = 32
          · rw [if_pos w]
            by_cases k0 : k = 0
            · rw [if_pos ((p_le0 (by omega)).mpr k0)]
              exact copy
            · rw [if_neg (fun q => k0 ((p_le0 (by omega)).mp q)), p_pred (by omega), ck_ok (show k - 1 < 240 by omega) (by omega), nI_clamp (show k - 1 < 2 ^ 31 by omega), (hT (k - 1) (by omega)).1, if_neg]
              · exact copy
              · intro q
                rcases hNB (by omega) with v | v | v
                · exact k0 v
                · exact v q
                · exact v w
          · rw [if_neg w]
            exact copy
        unfold f_Text_unfoldInto_4_hd
        rw [if_neg hlt, ck_ok (show k < 240 by omega) (by omega), nI_clamp (show k < 2 ^ 31 by omega), tk.1]
        by_cases w : T k = 10
        · rw [if_pos w, nI_1]
          by_cases q : k + 1 < n
          · rw [if_neg (nI_ge (by omega) (by omega)), ck_ok (show k + 1 < 240 by omega) (by omega), nI_clamp (show k + 1 < 2 ^ 31 by omega), (hT (k + 1) q).1, if_neg (fun v => hfold ⟨w, q, v⟩)]
            exact key
          · rw [if_pos (nI_le (by omega) (by omega))]
            exact key
        · rw [if_neg w]
          exact key
/-- both readers hold the same text -/
theorem c_unfold {FU : Nat} (hF : 300 < FU) {row text : Nat → Int32} {size typed : Int32} (h : RT row size typed text) (rrow plain : Nat → Int32) (rsz rat msz : Int32) : ∃ n rrow' plain', n ≤ 240 ∧ f_Reader_load FU rrow rsz rat row size = some (rrow', nI n, 0) ∧ f_M_unfold FU typed text msz plain = some (nI n, plain') ∧ ∀ j, j < n → rrow' j = plain' j ∧ okCh (plain' j) := by
  obtain ⟨n, hn, rfl, rfl, hr⟩ := h
  obtain ⟨s', plain', p1', r1, r2, r3, r4⟩ := unf (FU := FU) hn hr n 0 0 FU FU plain rrow (by omega) (by omega) (by omega) (by omega) (by omega) (fun _ => Or.inl rfl) (fun j hj => by omega)
  refine ⟨s', p1', plain', by omega, ?_, r1, r4⟩
  unfold f_Reader_load f_Text_unfoldInto
  rw [show f_Text_unfoldInto_4 FU row (nI n) FU 0 0 rrow = some (nI s', p1') from r2, bd_ok]
