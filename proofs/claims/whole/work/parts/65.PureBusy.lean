/-! pure: a person's busy stretches -/
/-- k stretches, apart and in order, that are together the minutes of S -/
def BT (F B : Nat → Int32) (k : Nat) (S : Int → Prop) : Prop :=
  (∀ i, i < k → (F i).toInt < (B i).toInt) ∧ (∀ i, i + 1 < k → (B i).toInt < (F (i + 1)).toInt) ∧ (∀ i, i < k → -3000 ≤ (F i).toInt ∧ (B i).toInt ≤ 10530000) ∧ ∀ m : Int, S m ↔ ∃ i, i < k ∧ (F i).toInt ≤ m ∧ m < (B i).toInt
theorem BT.apart {F B : Nat → Int32} {k : Nat} {S : Int → Prop} (h : BT F B k S) : ∀ (d i : Nat), i + d + 1 < k → (B i).toInt < (F (i + d + 1)).toInt := by
  intro d
  induction d with
  | zero => intro i hi; exact h.2.1 i hi
  | succ d ih =>
    intro i hi
    have h1 := ih i (by omega)
    have h2 := h.1 (i + d + 1) (by omega)
    have h3 := h.2.1 (i + d + 1) (by omega)
    rw [show i + (d + 1) + 1 = i + d + 1 + 1 by omega]
    omega
theorem BT.lt {F B : Nat → Int32} {k : Nat} {S : Int → Prop} (h : BT F B k S) {i j : Nat} (hij : i < j) (hj : j < k) : (B i).toInt < (F j).toInt := by
  have := h.apart (j - i - 1) i (by omega)
  rw [show i + (j - i - 1) + 1 = j by omega] at this
  exact this
theorem BT.empty {F B : Nat → Int32} : BT F B 0 (fun _ => False) := ⟨fun _ h => by omega, fun _ h => by omega, fun _ h => by omega, fun m => ⟨fun h => h.elim, fun ⟨i, h, _⟩ => by omega⟩⟩
theorem i_le {a b : Int32} : a ≤ b ↔ a.toInt ≤ b.toInt := Int32.le_iff_toInt_le
theorem i_lt {a b : Int32} : a < b ↔ a.toInt < b.toInt := Int32.lt_iff_toInt_lt
theorem b_loop1 {FU k : Nat} {F B : Nat → Int32} (hk : k ≤ 160) (a b : Int32) : ∀ (m i : Nat), i ≤ k → k - i < m → ∃ fr, i ≤ fr ∧ fr ≤ k ∧ (∀ j, i ≤ j → j < fr → (B j).toInt < a.toInt) ∧ (fr < k → a.toInt ≤ (B fr).toInt) ∧ f_BusyTimes_add_2 FU m a b (nI i) F B (nI k) = f_BusyTimes_add_29 FU FU a b (nI fr) (nI fr) F B (nI k) := by
  intro m
  induction m with
  | zero => intro i _ h; omega
  | succ m ih =>
    intro i hi h
    have e0 : f_BusyTimes_add_2 FU (m + 1) a b (nI i) F B (nI k) = f_BusyTimes_add_2_hd FU (f_BusyTimes_add_2 FU m) a b (nI i) F B (nI k) := rfl
    rw [e0]
    unfold f_BusyTimes_add_2_hd
    by_cases hin : k ≤ i
    · rw [if_pos (nI_le hin (by omega))]
      exact ⟨i, Nat.le_refl _, hi, fun j h1 h2 => by omega, fun h => by omega, rfl⟩
    · rw [if_neg (nI_ge (by omega) (by omega)), ck_ok (show i < 160 by omega) (by omega), nI_clamp (by omega)]
      by_cases hc : a ≤ B i
      · rw [if_pos hc]
        exact ⟨i, Nat.le_refl _, hi, fun j h1 h2 => by omega, fun _ => i_le.mp hc, rfl⟩
      · rw [if_neg hc, nI_1]
        obtain ⟨fr, g1, g2, g3, g4, g5⟩ := ih (i + 1) (by omega) (by omega)
        refine ⟨fr, by omega, g2, fun j h1 h2 => ?_, g4, g5⟩
        by_cases hj : j = i
        · subst hj
          rw [i_le] at hc
          omega
        · exact g3 j (by omega) h2
theorem b_loop2 {FU k fr : Nat} {F B : Nat → Int32} (hk : k ≤ 160) (a b : Int32) : ∀ (m i : Nat), i ≤ k → k - i < m → ∃ to, i ≤ to ∧ to ≤ k ∧ (∀ j, i ≤ j → j < to → (F j).toInt ≤ b.toInt) ∧ (to < k → b.toInt < (F to).toInt) ∧ f_BusyTimes_add_29 FU m a b (nI fr) (nI i) F B (nI k) = f_BusyTimes_add_55 FU a b (nI fr) (nI to) F B (nI k) := by
  intro m
  induction m with
  | zero => intro i _ h; omega
  | succ m ih =>
    intro i hi h
    have e0 : f_BusyTimes_add_29 FU (m + 1) a b (nI fr) (nI i) F B (nI k) = f_BusyTimes_add_29_hd FU (f_BusyTimes_add_29 FU m) a b (nI fr) (nI i) F B (nI k) := rfl
    rw [e0]
    unfold f_BusyTimes_add_29_hd
    by_cases hin : k ≤ i
    · rw [if_pos (nI_le hin (by omega))]
      exact ⟨i, Nat.le_refl _, hi, fun j h1 h2 => by omega, fun h => by omega, rfl⟩
    · rw [if_neg (nI_ge (by omega) (by omega)), ck_ok (show i < 160 by omega) (by omega), nI_clamp (by omega)]
      by_cases hc : b < F i
      · rw [if_pos hc]
        exact ⟨i, Nat.le_refl _, hi, fun j h1 h2 => by omega, fun _ => i_lt.mp hc, rfl⟩
      · rw [if_neg hc, nI_1]
        obtain ⟨to, g1, g2, g3, g4, g5⟩ := ih (i + 1) (by omega) (by omega)
        refine ⟨to, by omega, g2, fun j h1 h2 => ?_, g4, g5⟩
        by_cases hj : j = i
        · subst hj
          rw [i_lt] at hc
          omega
        · exact g3 j (by omega) h2
theorem b_replace {FU k fr to : Nat} {F B : Nat → Int32} (x y : Int32) (h1 : fr ≤ to) (h2 : to ≤ k) (h3 : k - (to - fr) + 1 ≤ 160) (hk : k ≤ 160) : ∃ F' B', f_BusyTimes_replace FU (nI fr) (nI to) x y F B (nI k) = some (F', B', nI (k - (to - fr) + 1)) ∧
    (∀ i, F' i = if i < fr then F i else if i = fr then x else if i < k - (to - fr) + 1 then F (to + (i - (fr + 1))) else F' i) ∧ (∀ i, B' i = if i < fr then B i else if i = fr then y else if i < k - (to - fr) + 1 then B (to + (i - (fr + 1))) else B' i) := by
  unfold f_BusyTimes_replace
  have hcc : ∀ (α : Type) (q : Option α), ckc (nI to) (nI (fr + 1)) (nI (k - to)) 160 160 q = q := by
    intro α q
    unfold ckc
    rw [if_pos ⟨nI_pos (by omega), nI_pos (by omega), nI_pos (by omega), by rw [nI_clamp (by omega), nI_clamp (by omega)]; omega, by rw [nI_clamp (by omega), nI_clamp (by omega)]; omega⟩]
  rw [nm_eq, pk_sub h1, pk_sub (show to - fr ≤ k by omega), nI_1, nI_1, pk_sub h2, if_pos (show nI (k - (to - fr) + 1) ≤ 160 from nI_le (b := 160) h3 (by omega)), hcc, hcc, ck_ok (show fr < 160 by omega) (by omega), ck_ok (show fr < 160 by omega) (by omega), nI_clamp (show to < 2 ^ 31 by omega), nI_clamp (show fr + 1 < 2 ^ 31 by omega), nI_clamp (show k - to < 2 ^ 31 by omega), nI_clamp (show fr < 2 ^ 31 by omega)]
  have key : ∀ (G : Nat → Int32) (v : Int32) (i : Nat), upd (va_cpy G G to (fr + 1) (k - to)) fr v i = if i < fr then G i else if i = fr then v else if i < k - (to - fr) + 1 then G (to + (i - (fr + 1))) else upd (va_cpy G G to (fr + 1) (k - to)) fr v i := by
    intro G v i
    by_cases a1 : i < fr
    · rw [if_pos a1, pk_un (by omega), pk_cpy_out (by omega)]
    · rw [if_neg a1]
      by_cases a2 : i = fr
      · rw [if_pos a2, a2, pk_us]
      · rw [if_neg a2]
        by_cases a3 : i < k - (to - fr) + 1
        · rw [if_pos a3, pk_un a2, pk_cpy_in (by omega) (by omega)]
        · rw [if_neg a3]
  exact ⟨_, _, rfl, key F x, key B y⟩
theorem b_add {FU k : Nat} {F B : Nat → Int32} {S : Int → Prop} (hF : 200 < FU) (hk : k < 160) (h : BT F B k S) {a b : Int32} (hab : a.toInt < b.toInt) (ha : -3000 ≤ a.toInt) (hb : b.toInt ≤ 10530000) : ∃ F' B' k', f_BusyTimes_add FU a b F B (nI k) = some (F', B', nI k') ∧ k' ≤ k + 1 ∧ BT F' B' k' (fun m => S m ∨ (a.toInt ≤ m ∧ m < b.toInt)) := by
  unfold f_BusyTimes_add
  obtain ⟨fr, f1, f2, f3, f4, f5⟩ := b_loop1 (FU := FU) (F := F) (B := B) (show k ≤ 160 by omega) a b FU 0 (by omega) (by omega)
  obtain ⟨to, t1, t2, t3, t4, t5⟩ := b_loop2 (FU := FU) (fr := fr) (F := F) (B := B) (show k ≤ 160 by omega) a b FU fr f2 (by omega)
  rw [show (0 : Int32) = nI 0 from rfl, f5, t5]
  -- low and high
  have hlh : ∃ lo hi : Int32, f_BusyTimes_add_55 FU a b (nI fr) (nI to) F B (nI k) = bd (f_BusyTimes_replace FU (nI fr) (nI to) lo hi F B (nI k)) (fun z => some (z.1, z.2.1, z.2.2)) ∧ (to = fr → lo = a ∧ hi = b) ∧
      (fr < to → lo.toInt ≤ a.toInt ∧ lo.toInt ≤ (F fr).toInt ∧ (lo = a ∨ lo = F fr) ∧ b.toInt ≤ hi.toInt ∧ (B (to - 1)).toInt ≤ hi.toInt ∧ (hi = b ∨ hi = B (to - 1))) := by
    unfold f_BusyTimes_add_55 f_BusyTimes_add_75 f_BusyTimes_add_100
    by_cases hft : to ≤ fr
    · rw [if_pos (nI_le hft (by omega)), if_pos (nI_le hft (by omega))]
      exact ⟨a, b, rfl, fun _ => ⟨rfl, rfl⟩, fun q => by omega⟩
    · rw [if_neg (nI_ge (by omega) (by omega)), if_neg (nI_ge (by omega) (by omega)), ck_ok (show fr < 160 by omega) (by omega), p_pred (show 0 < to by omega), ck_ok (show to - 1 < 160 by omega) (by omega), nI_clamp (show fr < 2 ^ 31 by omega), nI_clamp (show to - 1 < 2 ^ 31 by omega)]
      refine ⟨_, _, rfl, fun q => by omega, fun _ => ?_⟩
      have l1 : ∀ x y : Int32, (if x < y then x else y).toInt ≤ y.toInt ∧ (if x < y then x else y).toInt ≤ x.toInt ∧ ((if x < y then x else y) = y ∨ (if x < y then x else y) = x) := by
        intro x y
        by_cases q : x < y
        · rw [if_pos q]
          have := i_lt.mp q
          exact ⟨by omega, by omega, Or.inr rfl⟩
        · rw [if_neg q]
          rw [i_lt] at q
          exact ⟨by omega, by omega, Or.inl rfl⟩
      have l2 : ∀ x y : Int32, y.toInt ≤ (if y < x then x else y).toInt ∧ x.toInt ≤ (if y < x then x else y).toInt ∧ ((if y < x then x else y) = y ∨ (if y < x then x else y) = x) := by
        intro x y
        by_cases q : y < x
        · rw [if_pos q]
          have := i_lt.mp q
          exact ⟨by omega, by omega, Or.inr rfl⟩
        · rw [if_neg q]
          rw [i_lt] at q
          exact ⟨by omega, by omega, Or.inl rfl⟩
      have m1 := l1 (F fr) a
      have m2 := l2 (B (to - 1)) b
      exact ⟨m1.1, m1.2.1, m1.2.2, m2.1, m2.2.1, m2.2.2⟩
  obtain ⟨lo, hi, e1, e2, e3⟩ := hlh
  obtain ⟨F', B', r1, r2, r3⟩ := b_replace (FU := FU) (F := F) (B := B) lo hi t1 t2 (show k - (to - fr) + 1 ≤ 160 by omega) (by omega)
  rw [e1, r1, bd_ok]
  have F1 : ∀ i, i < fr → F' i = F i := fun i q => by rw [r2 i, if_pos q]
  have F2 : F' fr = lo := by rw [r2 fr, if_neg (by omega), if_pos rfl]
  have F3 : ∀ i, fr < i → i < k - (to - fr) + 1 → F' i = F (to + (i - (fr + 1))) := fun i q1 q2 => by rw [r2 i, if_neg (by omega), if_neg (by omega), if_pos q2]
  have B1 : ∀ i, i < fr → B' i = B i := fun i q => by rw [r3 i, if_pos q]
  have B2 : B' fr = hi := by rw [r3 fr, if_neg (by omega), if_pos rfl]
  have B3 : ∀ i, fr < i → i < k - (to - fr) + 1 → B' i = B (to + (i - (fr + 1))) := fun i q1 q2 => by rw [r3 i, if_neg (by omega), if_neg (by omega), if_pos q2]
  -- what lies between
  have hlo : lo.toInt < hi.toInt := by
    by_cases q : to = fr
    · obtain ⟨q1, q2⟩ := e2 q
      rw [q1, q2]
      exact hab
    · obtain ⟨q1, q2, -, q3, -⟩ := e3 (by omega)
      omega
  have hlow : ∀ i, i < fr → (B i).toInt < lo.toInt := by
    intro i hi'
    have g1 := f3 i (by omega) hi'
    by_cases q : to = fr
    · rw [(e2 q).1]
      exact g1
    · obtain ⟨-, -, q1, -⟩ := e3 (by omega)
      rcases q1 with q1 | q1
      · rw [q1]
        exact g1
      · rw [q1]
        exact h.lt hi' (by omega)
  have hhigh : ∀ j, to ≤ j → j < k → hi.toInt < (F j).toInt := by
    intro j h1 h2
    have g1 : b.toInt < (F j).toInt := by
      have g2 := t4 (by omega)
      by_cases q : j = to
      · rw [q]
        exact g2
      · have g3 := h.1 to (by omega)
        have g4 := h.lt (show to < j by omega) h2
        omega
    by_cases q : to = fr
    · rw [(e2 q).2]
      exact g1
    · obtain ⟨-, -, -, -, -, q1⟩ := e3 (by omega)
      rcases q1 with q1 | q1
      · rw [q1]
        exact g1
      · rw [q1]
        exact h.lt (by omega) h2
  refine ⟨F', B', k - (to - fr) + 1, rfl, by omega, fun i hi' => ?_, fun i hi' => ?_, fun i hi' => ?_, fun m => ⟨fun hm => ?_, fun hm => ?_⟩⟩
  · rcases Nat.lt_trichotomy i fr with q | q | q
    · rw [F1 i q, B1 i q]
      exact h.1 i (by omega)
    · rw [q, F2, B2]
      exact hlo
    · rw [F3 i q hi', B3 i q hi']
      exact h.1 _ (by omega)
  · rcases Nat.lt_trichotomy i fr with q | q | q
    · rw [B1 i q]
      by_cases q2 : i + 1 = fr
      · rw [q2, F2]
        exact hlow i q
      · rw [F1 (i + 1) (by omega)]
        exact h.2.1 i (by omega)
    · rw [q, B2, F3 (fr + 1) (by omega) (by omega)]
      exact hhigh _ (by omega) (by omega)
    · rw [B3 i q (by omega), F3 (i + 1) (by omega) hi', show to + (i + 1 - (fr + 1)) = to + (i - (fr + 1)) + 1 by omega]
      exact h.2.1 _ (by omega)
  · rcases Nat.lt_trichotomy i fr with q | q | q
    · rw [F1 i q, B1 i q]
      exact h.2.2.1 i (by omega)
    · rw [q, F2, B2]
      by_cases q1 : to = fr
      · rw [(e2 q1).1, (e2 q1).2]
        exact ⟨ha, hb⟩
      · obtain ⟨-, -, q2, -, -, q3⟩ := e3 (by omega)
        have g1 := h.2.2.1 fr (by omega)
        have g2 := h.2.2.1 (to - 1) (by omega)
        refine ⟨?_, ?_⟩
        · rcases q2 with q2 | q2
          · rw [q2]; exact ha
          · rw [q2]; exact g1.1
        · rcases q3 with q3 | q3
          · rw [q3]; exact hb
          · rw [q3]; exact g2.2
    · rw [F3 i q hi', B3 i q hi']
      exact h.2.2.1 _ (by omega)
  · rcases hm with hm | hm
    · obtain ⟨i, i1, i2, i3⟩ := (h.2.2.2 m).mp hm
      rcases Nat.lt_or_ge i fr with q | q
      · exact ⟨i, by omega, by rw [F1 i q]; exact i2, by rw [B1 i q]; exact i3⟩
      · rcases Nat.lt_or_ge i to with q2 | q2
        · obtain ⟨g1, g2, -, g3, g4, -⟩ := e3 (by omega)
          refine ⟨fr, by omega, ?_, ?_⟩
          · rw [F2]
            by_cases q3 : i = fr
            · rw [q3] at i2; omega
            · have := h.lt (show fr < i by omega) i1
              have := h.1 fr (by omega)
              omega
          · rw [B2]
            by_cases q3 : i = to - 1
            · rw [q3] at i3; omega
            · have := h.lt (show i < to - 1 by omega) (by omega)
              have := h.1 (to - 1) (by omega)
              omega
        · refine ⟨fr + 1 + (i - to), by omega, ?_, ?_⟩
          · rw [F3 _ (by omega) (by omega), show to + (fr + 1 + (i - to) - (fr + 1)) = i by omega]
            exact i2
          · rw [B3 _ (by omega) (by omega), show to + (fr + 1 + (i - to) - (fr + 1)) = i by omega]
            exact i3
    · refine ⟨fr, by omega, ?_, ?_⟩
      · rw [F2]
        by_cases q : to = fr
        · rw [(e2 q).1]; exact hm.1
        · have := (e3 (by omega)).1; omega
      · rw [B2]
        by_cases q : to = fr
        · rw [(e2 q).2]; exact hm.2
        · have := (e3 (by omega)).2.2.2.1; omega
  · obtain ⟨i, i1, i2, i3⟩ := hm
    rcases Nat.lt_trichotomy i fr with q | q | q
    · rw [F1 i q] at i2
      rw [B1 i q] at i3
      exact Or.inl ((h.2.2.2 m).mpr ⟨i, by omega, i2, i3⟩)
    · rw [q, F2] at i2
      rw [q, B2] at i3
      by_cases q1 : to = fr
      · rw [(e2 q1).1] at i2
        rw [(e2 q1).2] at i3
        exact Or.inr ⟨i2, i3⟩
      · obtain ⟨-, -, q2, -, -, q3⟩ := e3 (by omega)
        by_cases w1 : a.toInt ≤ m
        · by_cases w2 : m < b.toInt
          · exact Or.inr ⟨w1, w2⟩
          · refine Or.inl ((h.2.2.2 m).mpr ⟨to - 1, by omega, ?_, ?_⟩)
            · have := t3 (to - 1) (by omega) (by omega)
              omega
            · rcases q3 with q3 | q3
              · rw [q3] at i3; omega
              · rw [← q3]; exact i3
        · refine Or.inl ((h.2.2.2 m).mpr ⟨fr, by omega, ?_, ?_⟩)
          · rcases q2 with q2 | q2
            · rw [q2] at i2; omega
            · rw [← q2]; exact i2
          · have := f4 (by omega)
            omega
    · rw [F3 i q i1] at i2
      rw [B3 i q i1] at i3
      exact Or.inl ((h.2.2.2 m).mpr ⟨_, by omega, i2, i3⟩)
