/-! pure: sorted rows of minutes -/
def insL (m : Nat) : List Nat → List Nat
  | [] => [m]
  | x :: l => if m < x then m :: x :: l else if m = x then x :: l else x :: insL m l
def SL (L : List Nat) : Prop := L.Pairwise (· < ·)
def AR (r : Nat → Int32) (L : List Nat) : Prop := ∀ j, j < L.length → r j = nI (L.getD j 0)
def BL (L : List Nat) : Prop := ∀ x, x ∈ L → x ≤ 10519199
theorem mem_insL {m x : Nat} : ∀ {L : List Nat}, x ∈ insL m L ↔ x = m ∨ x ∈ L
  | [] => by simp [insL]
  | y :: l => by
    unfold insL
    split
    · simp
    · split
      · rename_i h; subst h; simp
      · rw [List.mem_cons, mem_insL, List.mem_cons]
        constructor
        · rintro (h | h | h) <;> simp [h]
        · rintro (h | h | h) <;> simp [h]
theorem SL_ins {m : Nat} : ∀ {L : List Nat}, SL L → SL (insL m L)
  | [], _ => by simp [insL, SL]
  | y :: l, h => by
    have h1 := List.pairwise_cons.mp h
    unfold insL
    split
    · rename_i q
      exact List.pairwise_cons.mpr ⟨fun x hx => by
        rcases List.mem_cons.mp hx with e | e
        · omega
        · have := h1.1 x e; omega, h⟩
    · split
      · exact h
      · refine List.pairwise_cons.mpr ⟨fun x hx => ?_, SL_ins h1.2⟩
        rcases mem_insL.mp hx with e | e
        · omega
        · exact h1.1 x e
theorem ins_same {m : Nat} : ∀ {L : List Nat}, SL L → m ∈ L → insL m L = L
  | [], _, h => by simp at h
  | y :: l, h, hm => by
    have h1 := List.pairwise_cons.mp h
    unfold insL
    rcases List.mem_cons.mp hm with e | e
    · subst e; rw [if_neg (by omega), if_pos rfl]
    · have := h1.1 m e
      rw [if_neg (by omega), if_neg (by omega), ins_same h1.2 e]
theorem ins_at {m : Nat} : ∀ {L : List Nat} {p : Nat}, SL L → p ≤ L.length → (∀ j, j < p → L.getD j 0 < m) → (∀ j, p ≤ j → j < L.length → m < L.getD j 0) → insL m L = L.take p ++ m :: L.drop p
  | [], p, _, h, _, _ => by
    have : p = 0 := by simpa using h
    subst this
    rfl
  | y :: l, 0, _, _, _, hb => by
    have := hb 0 (by omega) (by simp)
    unfold insL
    rw [if_pos (by simpa using this)]
    rfl
  | y :: l, p + 1, hS, hp, ha, hb => by
    have h1 := List.pairwise_cons.mp hS
    have h0 : y < m := by simpa using ha 0 (by omega)
    unfold insL
    rw [if_neg (by omega), if_neg (by omega), ins_at (L := l) (p := p) h1.2 (by simpa using hp) (fun j hj => by simpa using ha (j + 1) (by omega)) (fun j h2 h3 => by simpa using hb (j + 1) (by omega) (by simpa using h3))]
    rfl
theorem get_at {m : Nat} {L : List Nat} {p : Nat} (hp : p ≤ L.length) (j : Nat) : (L.take p ++ m :: L.drop p).getD j 0 = if j < p then L.getD j 0 else if j = p then m else L.getD (j - 1) 0 := by
  have hl : (L.take p).length = p := by rw [List.length_take]; omega
  simp only [List.getD_eq_getElem?_getD]
  by_cases h1 : j < p
  · rw [if_pos h1, List.getElem?_append_left (by omega), List.getElem?_take_of_lt h1]
  · rw [if_neg h1, List.getElem?_append_right (by omega), hl]
    by_cases h2 : j = p
    · subst h2
      rw [if_pos rfl, Nat.sub_self]
      rfl
    · rw [if_neg h2]
      obtain ⟨k, rfl⟩ : ∃ k, j = p + 1 + k := ⟨j - p - 1, by omega⟩
      rw [show p + 1 + k - p = k + 1 by omega, List.getElem?_cons_succ, List.getElem?_drop, show p + 1 + k - 1 = p + k by omega]
theorem SL_idx {L : List Nat} (h : SL L) {i j : Nat} (hij : i < j) (hj : j < L.length) : L.getD i 0 < L.getD j 0 := by
  have := List.pairwise_iff_getElem.mp h i j (by omega) hj hij
  rw [List.getD_eq_getElem?_getD, List.getD_eq_getElem?_getD, List.getElem?_eq_getElem (by omega), List.getElem?_eq_getElem hj]
  exact this
theorem getD_mem {L : List Nat} {j : Nat} (h : j < L.length) : L.getD j 0 ∈ L := by
  rw [List.getD_eq_getElem?_getD, List.getElem?_eq_getElem h]
  exact List.getElem_mem h
theorem mem_getD {L : List Nat} {x : Nat} (h : x ∈ L) : ∃ j, j < L.length ∧ L.getD j 0 = x := by
  obtain ⟨j, hj, e⟩ := List.getElem_of_mem h
  exact ⟨j, hj, by rw [List.getD_eq_getElem?_getD, List.getElem?_eq_getElem hj]; exact e⟩
theorem BL_ins {m : Nat} {L : List Nat} (h : BL L) (hm : m ≤ 10519199) : BL (insL m L) := fun x hx => by
  rcases mem_insL.mp hx with e | e
  · omega
  · exact h x e
theorem take_getD {L : List Nat} {k j : Nat} (h : j < k) : (L.take k).getD j 0 = L.getD j 0 := by
  rw [List.getD_eq_getElem?_getD, List.getD_eq_getElem?_getD, List.getElem?_take_of_lt h]
/-- the class's search for the place -/
theorem ev_scan {FU s m : Nat} {r : Nat → Int32} {L : List Nat} (hr : AR r L) (hB : BL L) (hm : m ≤ 10519199) (hl : L.length ≤ 40) : ∀ q k, k ≤ L.length → k < q → ∃ p, p ≤ k ∧ (∀ j, p ≤ j → j < k → m < L.getD j 0) ∧ (0 < p → L.getD (p - 1) 0 ≤ m) ∧ f_Event_insert_5 FU q (nI m) (nI k) r (nI s) = f_Event_insert_27 FU (nI m) (nI p) r (nI s) := by
  intro q
  induction q with
  | zero => intro k _ h; omega
  | succ q ih =>
    intro k hk hq
    have e : f_Event_insert_5 FU (q + 1) (nI m) (nI k) r (nI s) = f_Event_insert_5_hd FU (f_Event_insert_5 FU q) (nI m) (nI k) r (nI s) := rfl
    unfold f_Event_insert_5_hd at e
    by_cases h0 : k = 0
    · subst h0
      rw [if_pos (show nI 0 ≤ 0 from nI_le (b := 0) (by omega) (by omega))] at e
      exact ⟨0, by omega, fun j _ h => by omega, fun h => by omega, e⟩
    · have hx : L.getD (k - 1) 0 ≤ 10519199 := hB _ (getD_mem (by omega))
      rw [if_neg (nI_le0 (by omega) (by omega)), p_pred (by omega), ck_ok (show k - 1 < 40 by omega) (by omega), nI_clamp (show k - 1 < 2 ^ 31 by omega), hr (k - 1) (by omega)] at e
      by_cases hc : L.getD (k - 1) 0 ≤ m
      · rw [if_pos (nI_le hc (by omega))] at e
        exact ⟨k, by omega, fun j h1 h2 => by omega, fun _ => hc, e⟩
      · rw [if_neg (nI_ge (by omega) (by omega)), show nI k + -1 = nI (k - 1) by rw [← p_pred (by omega), Int32.sub_eq_add_neg]] at e
        obtain ⟨p, h1, h2, h3, h4⟩ := ih (k - 1) (by omega) (by omega)
        refine ⟨p, by omega, fun j a b => ?_, h3, e.trans h4⟩
        by_cases e : j = k - 1
        · subst e; omega
        · exact h2 j a (by omega)
theorem ev_insert {FU m : Nat} {r : Nat → Int32} {L : List Nat} (hF : 300 < FU) (hr : AR r L) (hS : SL L) (hB : BL L) (hm : m ≤ 10519199) (hl : L.length ≤ 40) : ∃ r', f_Event_insert FU (nI m) r (nI L.length) = some (r', nI ((insL m L).take 40).length) ∧ AR r' ((insL m L).take 40) := by
  unfold f_Event_insert
  obtain ⟨p, p1, p2, p3, p4⟩ := ev_scan (FU := FU) (s := L.length) hr hB hm hl FU L.length (Nat.le_refl _) (by omega)
  rw [p4]
  unfold f_Event_insert_27
  have low : ∀ j, j < p → j + 1 < p ∨ j = p - 1 → L.getD j 0 ≤ m := by
    intro j hj _
    by_cases e : j = p - 1
    · subst e; exact p3 (by omega)
    · have := SL_idx hS (show j < p - 1 by omega) (by omega)
      have := p3 (by omega)
      omega
  by_cases heq : 0 < p ∧ L.getD (p - 1) 0 = m
  · have hmem : m ∈ L := by rw [← heq.2]; exact getD_mem (by omega)
    have el : (insL m L).take 40 = L := by rw [ins_same hS hmem, List.take_of_length_le hl]
    rw [el]
    refine ⟨r, ?_, hr⟩
    by_cases h40 : 40 ≤ p
    · rw [if_pos (show 40 ≤ nI p from nI_le (a := 40) h40 (by omega))]
    · rw [if_neg (show ¬ 40 ≤ nI p from nI_ge (b := 40) (by omega) (by omega)), if_neg (nI_le0 heq.1 (by omega)), p_pred heq.1, ck_ok (show p - 1 < 40 by omega) (by omega), nI_clamp (show p - 1 < 2 ^ 31 by omega), hr (p - 1) (by omega), if_pos (by rw [heq.2])]
  · have hlow : ∀ j, j < p → L.getD j 0 < m := by
      intro j hj
      by_cases e : j = p - 1
      · subst e
        have := p3 (by omega)
        have : L.getD (p - 1) 0 ≠ m := fun w => heq ⟨by omega, w⟩
        omega
      · have := SL_idx hS (show j < p - 1 by omega) (by omega)
        have := p3 (by omega)
        omega
    have ei := ins_at hS p1 hlow (fun j a b => p2 j a b)
    have hlen : (L.take p ++ m :: L.drop p).length = L.length + 1 := by
      rw [List.length_append, List.length_cons, List.length_take, List.length_drop]; omega
    by_cases h40 : 40 ≤ p
    · have hp : p = 40 := by omega
      rw [if_pos (show 40 ≤ nI p from nI_le (a := 40) h40 (by omega))]
      have el : (insL m L).take 40 = L := by
        rw [ei, hp, List.take_append_of_le_length (by rw [List.length_take]; omega), List.take_take, Nat.min_self, List.take_of_length_le (by omega)]
      rw [el]
      exact ⟨r, rfl, hr⟩
    · rw [if_neg (show ¬ 40 ≤ nI p from nI_ge (b := 40) (by omega) (by omega))]
      have hdo : f_Event_insert_53 FU (nI m) (nI p) r (nI L.length) = some (upd (va_cpy r r p (p + 1) ((if L.length < 40 then L.length else 39) - p)) p (nI m), nI (if L.length < 40 then L.length + 1 else 40)) := by
        unfold f_Event_insert_53
        have e1 : (if (40 : Int32) - 1 < nI L.length then (40 : Int32) - 1 else nI L.length) = nI (if L.length < 40 then L.length else 39) := by
          by_cases q : L.length < 40
          · rw [if_pos q, if_neg]
            exact nI_nlt (a := 39) (by omega) (by omega)
          · rw [if_neg q, if_pos (show (40 : Int32) - 1 < nI L.length from nI_lt (a := 39) (by omega) (by omega))]
            rfl
        have e2 : (if (40 : Int32) < nI L.length + 1 then (40 : Int32) else nI L.length + 1) = nI (if L.length < 40 then L.length + 1 else 40) := by
          rw [nI_1]
          by_cases q : L.length < 40
          · rw [if_pos q, if_neg]
            exact nI_nlt (a := 40) (by omega) (by omega)
          · rw [if_neg q, if_pos (show (40 : Int32) < nI (L.length + 1) from nI_lt (a := 40) (by omega) (by omega))]
            rfl
        have hw : (if L.length < 40 then L.length else 39) ≤ 39 ∧ p ≤ (if L.length < 40 then L.length else 39) := by
          split <;> omega
        rw [e1, e2, nm_eq, pk_sub hw.2, nI_1]
        unfold ckc
        rw [if_pos ⟨nI_pos (by omega), nI_pos (by omega), nI_pos (by omega), by rw [nI_clamp (by omega), nI_clamp (by omega)]; omega, by rw [nI_clamp (by omega), nI_clamp (by omega)]; omega⟩, ck_ok (show p < 40 by omega) (by omega), nm_eq, nI_clamp (show p < 2 ^ 31 by omega), nI_clamp (show p + 1 < 2 ^ 31 by omega), nI_clamp (by omega)]
      have hgo : (if nI p ≤ 0 then f_Event_insert_53 FU (nI m) (nI p) r (nI L.length) else ck (nI p - 1) 40 (if r (nI p - 1).toNatClampNeg = nI m then some (r, nI L.length) else f_Event_insert_53 FU (nI m) (nI p) r (nI L.length))) = f_Event_insert_53 FU (nI m) (nI p) r (nI L.length) := by
        by_cases h0 : p = 0
        · rw [if_pos (show nI p ≤ 0 from nI_le (b := 0) (by omega) (by omega))]
        · have hx : L.getD (p - 1) 0 ≤ 10519199 := hB _ (getD_mem (by omega))
          rw [if_neg (nI_le0 (by omega) (by omega)), p_pred (by omega), ck_ok (show p - 1 < 40 by omega) (by omega), nI_clamp (show p - 1 < 2 ^ 31 by omega), hr (p - 1) (by omega), if_neg]
          rw [nI_eq (by omega) (by omega)]
          exact fun w => heq ⟨by omega, w⟩
      rw [hgo, hdo, ei]
      refine ⟨_, congrArg some (congrArg (Prod.mk _) (congrArg nI ?_)), fun j hj => ?_⟩
      · rw [List.length_take, hlen]
        split <;> omega
      · rw [List.length_take, hlen] at hj
        rw [take_getD (by omega), get_at p1]
        by_cases a1 : j < p
        · rw [if_pos a1, pk_un (by omega), pk_cpy_out (by omega)]
          exact hr j (by omega)
        · rw [if_neg a1]
          by_cases a2 : j = p
          · rw [if_pos a2, a2, pk_us]
          · rw [if_neg a2, pk_un a2, pk_cpy_in (by omega) (by split <;> omega), show p + (j - (p + 1)) = j - 1 by omega]
            exact hr (j - 1) (by omega)
/-- the reference's -/
theorem m_scan {FU s m : Nat} {r : Nat → Int32} {L : List Nat} (hr : AR r L) (hB : BL L) (hm : m ≤ 10519199) (hl : L.length ≤ 99) : ∀ q k, k ≤ L.length → k < q → ∃ p, p ≤ k ∧ (∀ j, p ≤ j → j < k → m < L.getD j 0) ∧ (0 < p → L.getD (p - 1) 0 ≤ m) ∧ f_M_add_5 FU q (nI m) (nI k) (nI s) r = f_M_add_27 FU (nI m) (nI p) (nI s) r := by
  intro q
  induction q with
  | zero => intro k _ h; omega
  | succ q ih =>
    intro k hk hq
    have e : f_M_add_5 FU (q + 1) (nI m) (nI k) (nI s) r = f_M_add_5_hd FU (f_M_add_5 FU q) (nI m) (nI k) (nI s) r := rfl
    unfold f_M_add_5_hd at e
    by_cases h0 : k = 0
    · subst h0
      rw [if_pos (show nI 0 ≤ 0 from nI_le (b := 0) (by omega) (by omega))] at e
      exact ⟨0, by omega, fun j _ h => by omega, fun h => by omega, e⟩
    · have hx : L.getD (k - 1) 0 ≤ 10519199 := hB _ (getD_mem (by omega))
      rw [if_neg (nI_le0 (by omega) (by omega)), p_pred (by omega), ck_ok (show k - 1 < 100 by omega) (by omega), nI_clamp (show k - 1 < 2 ^ 31 by omega), hr (k - 1) (by omega)] at e
      by_cases hc : L.getD (k - 1) 0 ≤ m
      · rw [if_pos (nI_le hc (by omega))] at e
        exact ⟨k, by omega, fun j h1 h2 => by omega, fun _ => hc, e⟩
      · rw [if_neg (nI_ge (by omega) (by omega)), show nI k + -1 = nI (k - 1) by rw [← p_pred (by omega), Int32.sub_eq_add_neg]] at e
        obtain ⟨p, h1, h2, h3, h4⟩ := ih (k - 1) (by omega) (by omega)
        refine ⟨p, by omega, fun j a b => ?_, h3, e.trans h4⟩
        by_cases e : j = k - 1
        · subst e; omega
        · exact h2 j a (by omega)
theorem m_shift {FU p s : Nat} {v : Int32} {r : Nat → Int32} (hs : s ≤ 99) : ∀ q i (rr : Nat → Int32), p ≤ i → i ≤ s → i - p < q → (∀ j, j < i → rr j = r j) → (∀ j, i < j → j ≤ s → rr j = r (j - 1)) → ∃ r', f_M_add_49 FU q v (nI p) (nI i) (nI s) rr = some (nI (s + 1), r') ∧ (∀ j, j < p → r' j = r j) ∧ r' p = v ∧ ∀ j, p < j → j ≤ s → r' j = r (j - 1) := by
  intro q
  induction q with
  | zero => intro i rr _ _ h; omega
  | succ q ih =>
    intro i rr hpi his hq h1 h2
    have e : f_M_add_49 FU (q + 1) v (nI p) (nI i) (nI s) rr = f_M_add_49_hd FU (f_M_add_49 FU q) v (nI p) (nI i) (nI s) rr := rfl
    unfold f_M_add_49_hd at e
    by_cases hin : i ≤ p
    · have : i = p := by omega
      subst this
      rw [if_pos (nI_le hin (by omega)), ck_ok (show i < 100 by omega) (by omega), nm_eq, nI_1, nI_clamp (show i < 2 ^ 31 by omega)] at e
      exact ⟨_, e, fun j hj => by rw [pk_un (by omega)]; exact h1 j hj, pk_us, fun j a b => by rw [pk_un (by omega)]; exact h2 j a b⟩
    · rw [if_neg (nI_ge (by omega) (by omega)), p_pred (by omega), ck_ok (show i - 1 < 100 by omega) (by omega), nm_eq, ck_ok (show i < 100 by omega) (by omega), nI_clamp (show i - 1 < 2 ^ 31 by omega), nI_clamp (show i < 2 ^ 31 by omega), show nI i + -1 = nI (i - 1) by rw [← p_pred (by omega), Int32.sub_eq_add_neg]] at e
      obtain ⟨r', g1, g2⟩ := ih (i - 1) (upd rr i (rr (i - 1))) (by omega) (by omega) (by omega) (fun j hj => by rw [pk_un (by omega)]; exact h1 j (by omega)) (fun j a b => by
        by_cases w : j = i
        · subst w; rw [pk_us]; exact h1 _ (by omega)
        · rw [pk_un w]; exact h2 j (by omega) b)
      exact ⟨r', e.trans g1, g2⟩
theorem m_add {FU m : Nat} {r : Nat → Int32} {L : List Nat} (hF : 300 < FU) (hr : AR r L) (hS : SL L) (hB : BL L) (hm : m ≤ 10519199) (hl : L.length ≤ 99) : ∃ r', f_M_add FU (nI m) (nI L.length) r = some (nI (insL m L).length, r') ∧ AR r' (insL m L) := by
  unfold f_M_add
  obtain ⟨p, p1, p2, p3, p4⟩ := m_scan (FU := FU) (s := L.length) hr hB hm hl FU L.length (Nat.le_refl _) (by omega)
  rw [p4]
  unfold f_M_add_27
  by_cases heq : 0 < p ∧ L.getD (p - 1) 0 = m
  · have hmem : m ∈ L := by rw [← heq.2]; exact getD_mem (by omega)
    rw [ins_same hS hmem]
    refine ⟨r, ?_, hr⟩
    rw [if_neg (nI_le0 heq.1 (by omega)), p_pred heq.1, ck_ok (show p - 1 < 100 by omega) (by omega), nI_clamp (show p - 1 < 2 ^ 31 by omega), hr (p - 1) (by omega), if_pos (by rw [heq.2])]
  · have hlow : ∀ j, j < p → L.getD j 0 < m := by
      intro j hj
      by_cases e : j = p - 1
      · subst e
        have := p3 (by omega)
        have : L.getD (p - 1) 0 ≠ m := fun w => heq ⟨by omega, w⟩
        omega
      · have := SL_idx hS (show j < p - 1 by omega) (by omega)
        have := p3 (by omega)
        omega
    have ei := ins_at hS p1 hlow (fun j a b => p2 j a b)
    have hlen : (L.take p ++ m :: L.drop p).length = L.length + 1 := by
      rw [List.length_append, List.length_cons, List.length_take, List.length_drop]; omega
    obtain ⟨r', g1, g2, g3, g4⟩ := m_shift (FU := FU) (p := p) (s := L.length) (v := nI m) (r := r) hl FU L.length r p1 (Nat.le_refl _) (by omega) (fun j _ => rfl) (fun j a b => by omega)
    have hgo : (if nI p ≤ 0 then f_M_add_49 FU FU (nI m) (nI p) (nI L.length) (nI L.length) r else ck (nI p - 1) 100 (if r (nI p - 1).toNatClampNeg = nI m then some (nI L.length, r) else f_M_add_49 FU FU (nI m) (nI p) (nI L.length) (nI L.length) r)) = f_M_add_49 FU FU (nI m) (nI p) (nI L.length) (nI L.length) r := by
      by_cases h0 : p = 0
      · rw [if_pos (show nI p ≤ 0 from nI_le (b := 0) (by omega) (by omega))]
      · have hx : L.getD (p - 1) 0 ≤ 10519199 := hB _ (getD_mem (by omega))
        rw [if_neg (nI_le0 (by omega) (by omega)), p_pred (by omega), ck_ok (show p - 1 < 100 by omega) (by omega), nI_clamp (show p - 1 < 2 ^ 31 by omega), hr (p - 1) (by omega), if_neg]
        rw [nI_eq (by omega) (by omega)]
        exact fun w => heq ⟨by omega, w⟩
    rw [hgo, g1, ei, hlen]
    refine ⟨r', rfl, fun j hj => ?_⟩
    rw [hlen] at hj
    rw [get_at p1]
    by_cases a1 : j < p
    · rw [if_pos a1, g2 j a1]
      exact hr j (by omega)
    · rw [if_neg a1]
      by_cases a2 : j = p
      · rw [if_pos a2, a2, g3]
      · rw [if_neg a2, g4 j (by omega) (by omega)]
        exact hr (j - 1) (by omega)
theorem RowT_list {s : Nat} {t m : Nat → Int32} (h : RowT s t m) : ∃ G : List Nat, G.length = s ∧ AR t G ∧ AR m G ∧ BL G := by
  induction s with
  | zero => exact ⟨[], rfl, fun j hj => by simp at hj, fun j hj => by simp at hj, fun x hx => by simp at hx⟩
  | succ s ih =>
    obtain ⟨G, g1, g2, g3, g4⟩ := ih (fun j hj => h j (by omega))
    obtain ⟨e, T, hT, eT⟩ := h s (by omega)
    have gg : ∀ j, j < s → (G ++ [T]).getD j 0 = G.getD j 0 := fun j hj => by
      rw [List.getD_eq_getElem?_getD, List.getD_eq_getElem?_getD, List.getElem?_append_left (by omega)]
    have gs : (G ++ [T]).getD s 0 = T := by
      rw [List.getD_eq_getElem?_getD, List.getElem?_append_right (by omega), g1, Nat.sub_self]
      rfl
    refine ⟨G ++ [T], by simp [g1], fun j hj => ?_, fun j hj => ?_, fun x hx => ?_⟩
    · by_cases w : j = s
      · subst w; rw [gs, e, eT]
      · rw [gg j (by simp [g1] at hj; omega)]; exact g2 j (by simp [g1] at hj; omega)
    · by_cases w : j = s
      · subst w; rw [gs, eT]
      · rw [gg j (by simp [g1] at hj; omega)]; exact g3 j (by simp [g1] at hj; omega)
    · rcases List.mem_append.mp hx with w | w
      · exact g4 x w
      · rw [List.mem_singleton.mp w]; exact hT
theorem drop_cons {G : List Nat} {i : Nat} (h : i < G.length) : G.drop i = G.getD i 0 :: G.drop (i + 1) := by
  rw [List.drop_eq_getElem_cons h, List.getD_eq_getElem?_getD, List.getElem?_eq_getElem h]
  rfl
theorem k_contain {FU m : Nat} {r : Nat → Int32} {G : List Nat} (hF : 300 < FU) (hr : AR r G) (hB : BL G) (hm : m ≤ 10519199) (hl : G.length ≤ 18) : f_Times_contain FU (nI m) r (nI G.length) = some (if m ∈ G then 1 else 0) := by
  have key : ∀ q i, i ≤ G.length → G.length - i < q → f_Times_contain_2 FU r (nI G.length) q (nI m) (nI i) = some (if m ∈ G.drop i then 1 else 0) := by
    intro q
    induction q with
    | zero => intro i _ h; omega
    | succ q ih =>
      intro i hi hq
      show f_Times_contain_2_hd FU r (nI G.length) (f_Times_contain_2 FU r (nI G.length) q) (nI m) (nI i) = _
      unfold f_Times_contain_2_hd
      by_cases hin : G.length ≤ i
      · rw [if_pos (nI_le hin (by omega)), List.drop_of_length_le hin, if_neg (by simp)]
      · have hx := hB _ (getD_mem (show i < G.length by omega))
        rw [if_neg (nI_ge (by omega) (by omega)), ck_ok (show i < 18 by omega) (by omega), nI_clamp (show i < 2 ^ 31 by omega), hr i (by omega), nI_1, drop_cons (by omega)]
        by_cases e : G.getD i 0 = m
        · rw [if_pos (by rw [e]), if_pos (by rw [e]; exact List.mem_cons_self)]
        · rw [if_neg (fun w => e ((nI_eq (by omega) (by omega)).mp w)), ih (i + 1) (by omega) (by omega)]
          by_cases w : m ∈ G.drop (i + 1)
          · rw [if_pos w, if_pos (List.mem_cons_of_mem _ w)]
          · rw [if_neg w, if_neg]
            intro v
            rcases List.mem_cons.mp v with v | v
            · exact e v.symm
            · exact w v
  have := key FU 0 (by omega) (by omega)
  rw [List.drop_zero] at this
  exact this
theorem m_isGone {FU m : Nat} {r : Nat → Int32} {G : List Nat} (hF : 300 < FU) (hr : AR r G) (hB : BL G) (hm : m ≤ 10519199) (hl : G.length ≤ 18) : f_M_isGone FU (nI m) (nI G.length) r = some (if m ∈ G then 1 else 0) := by
  have key1 : ∀ q i, i ≤ G.length → G.length - i < q → f_M_isGone_4 FU (nI G.length) r q (nI m) 1 (nI i) = some 1 := by
    intro q
    induction q with
    | zero => intro i _ h; omega
    | succ q ih =>
      intro i hi hq
      show f_M_isGone_4_hd FU (nI G.length) r (f_M_isGone_4 FU (nI G.length) r q) (nI m) 1 (nI i) = _
      unfold f_M_isGone_4_hd
      by_cases hin : G.length ≤ i
      · rw [if_pos (nI_le hin (by omega)), ckz_1]
      · rw [if_neg (nI_ge (by omega) (by omega)), if_neg (show ¬ (1 : Int32) = 0 by decide), nI_1]
        exact ih (i + 1) (by omega) (by omega)
  have key : ∀ q i, i ≤ G.length → G.length - i < q → f_M_isGone_4 FU (nI G.length) r q (nI m) 0 (nI i) = some (if m ∈ G.drop i then 1 else 0) := by
    intro q
    induction q with
    | zero => intro i _ h; omega
    | succ q ih =>
      intro i hi hq
      show f_M_isGone_4_hd FU (nI G.length) r (f_M_isGone_4 FU (nI G.length) r q) (nI m) 0 (nI i) = _
      unfold f_M_isGone_4_hd
      by_cases hin : G.length ≤ i
      · rw [if_pos (nI_le hin (by omega)), List.drop_of_length_le hin, if_neg (by simp), ckz_0]
      · have hx := hB _ (getD_mem (show i < G.length by omega))
        rw [if_neg (nI_ge (by omega) (by omega)), if_pos rfl, ck_ok (show i < 18 by omega) (by omega), nI_clamp (show i < 2 ^ 31 by omega), hr i (by omega), nI_1, drop_cons (by omega)]
        by_cases e : G.getD i 0 = m
        · rw [if_pos (by rw [e]), if_pos (by rw [e]; exact List.mem_cons_self), key1 q (i + 1) (by omega) (by omega)]
        · rw [if_neg (fun w => e ((nI_eq (by omega) (by omega)).mp w)), ih (i + 1) (by omega) (by omega)]
          by_cases w : m ∈ G.drop (i + 1)
          · rw [if_pos w, if_pos (List.mem_cons_of_mem _ w)]
          · rw [if_neg w, if_neg]
            intro v
            rcases List.mem_cons.mp v with v | v
            · exact e v.symm
            · exact w v
  have := key FU 0 (by omega) (by omega)
  rw [List.drop_zero] at this
  exact this
