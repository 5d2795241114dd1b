/-! pure: the world's minutes, and how far they may lie from those of a zone -/
def OKW (x : Int32) (r : Option Int32) : Prop := ∃ v, r = some v ∧ ∃ o : Int, -840 ≤ o ∧ o ≤ 840 ∧ v = x - iI o
theorem OKW_0 (x : Int32) : OKW x (some x) := ⟨x, rfl, 0, by omega, by omega, by rw [show iI 0 = (0 : Int32) from rfl, Int32.sub_zero]⟩
theorem OKW_s (x o : Int32) (h : -840 ≤ o.toInt ∧ o.toInt ≤ 840) : OKW x (some (x - o)) := ⟨_, rfl, o.toInt, h.1, h.2, by rw [iI_self]⟩
theorem OKW_s0 (x : Int32) : OKW x (some (x - 0)) := ⟨_, rfl, 0, by omega, by omega, rfl⟩
theorem w_b2 {FU z n : Nat} {ch at_ to : Nat → Int32} (hz : z < 3) (hn : n ≤ 8) (ho : ∀ j, j < n → -840 ≤ (to (8 * z + j)).toInt ∧ (to (8 * z + j)).toInt ≤ 840) (x : Int32) : ∀ (m i : Nat), i ≤ n → n - i < m → OKW x (f_M_worldOf_110 FU ch at_ to m (nI z) x (nI n) (nI i)) := by
  intro m
  induction m with
  | zero => intro i _ h; omega
  | succ m ih =>
    intro i hi h
    show OKW x (f_M_worldOf_110_hd FU ch at_ to (f_M_worldOf_110 FU ch at_ to m) (nI z) x (nI n) (nI i))
    unfold f_M_worldOf_110_hd f_M_worldOf_139
    by_cases hin : n ≤ i
    · rw [if_pos (nI_le hin (by omega))]
      exact OKW_0 x
    · have hc : ¬ nI n ≤ nI i := nI_ge (by omega) (by omega)
      have hr := ih (i + 1) (by omega) (by omega)
      rw [if_neg hc]
      simp only [nm_eq, p_8, ck_ok (show 8 * z + i < 24 by omega) (by omega), p_eq0 (show i < 2 ^ 31 by omega), nI_1]
      by_cases h0 : i = 0
      · simp only [if_pos h0]
        split
        · exact hr
        · split
          · exact hr
          · exact OKW_s0 x
      · simp only [if_neg h0, p_pred (show 0 < 8 * z + i by omega), ck_ok (show 8 * z + i - 1 < 24 by omega) (by omega), nI_clamp (show 8 * z + i - 1 < 2 ^ 31 by omega)]
        split
        · exact hr
        · split
          · exact hr
          · have := ho (i - 1) (by omega)
            rw [show 8 * z + (i - 1) = 8 * z + i - 1 by omega] at this
            exact OKW_s x _ this
theorem w_b1 {FU z n : Nat} {ch at_ to : Nat → Int32} (hz : z < 3) (hn : n ≤ 8) (hF : 10 < FU) (ho : ∀ j, j < n → -840 ≤ (to (8 * z + j)).toInt ∧ (to (8 * z + j)).toInt ≤ 840) (x : Int32) : ∀ (m i : Nat), i ≤ n + 1 → n + 1 - i < m → OKW x (f_M_worldOf_18 FU ch at_ to m (nI z) x (nI n) (nI i)) := by
  intro m
  induction m with
  | zero => intro i _ h; omega
  | succ m ih =>
    intro i hi h
    show OKW x (f_M_worldOf_18_hd FU ch at_ to (f_M_worldOf_18 FU ch at_ to m) (nI z) x (nI n) (nI i))
    unfold f_M_worldOf_18_hd f_M_worldOf_48 f_M_worldOf_75
    by_cases hin : n < i
    · rw [if_pos (nI_lt hin (by omega))]
      exact w_b2 hz hn ho x FU 0 (by omega) (by omega)
    · have hc : ¬ nI n < nI i := nI_nlt (by omega) (by omega)
      have hr := ih (i + 1) (by omega) (by omega)
      rw [if_neg hc]
      simp only [nm_eq, p_8, p_eq0 (show i < 2 ^ 31 by omega), nI_1, nI_eq (show i < 2 ^ 31 by omega) (show n < 2 ^ 31 by omega)]
      by_cases h0 : i = 0
      · simp only [if_pos h0]
        by_cases hn0 : i = n
        · simp only [if_pos hn0]
          exact OKW_s0 x
        · simp only [if_neg hn0, ck_ok (show 8 * z + i < 24 by omega) (by omega)]
          split
          · exact hr
          · exact OKW_s0 x
      · have hq := ho (i - 1) (by omega)
        rw [show 8 * z + (i - 1) = 8 * z + i - 1 by omega] at hq
        simp only [if_neg h0, p_pred (show 0 < 8 * z + i by omega), ck_ok (show 8 * z + i - 1 < 24 by omega) (by omega), nI_clamp (show 8 * z + i - 1 < 2 ^ 31 by omega)]
        split
        · exact hr
        · by_cases hn0 : i = n
          · simp only [if_pos hn0]
            exact OKW_s x _ hq
          · simp only [if_neg hn0, ck_ok (show 8 * z + i < 24 by omega) (by omega)]
            split
            · exact hr
            · exact OKW_s x _ hq
/-- what a zone, or none, makes of a minute -/
def WF (FU : Nat) (zo : Int32) (ch at_ to : Nat → Int32) (W : Nat → Int32) : Prop := ∀ m, m ≤ 10519199 → f_M_worldOf FU zo (nI m) ch at_ to = some (W m) ∧ okMin (W m)
theorem okMin_of {m : Nat} {v : Int32} (hm : m ≤ 10519199) (h : ∃ o : Int, -840 ≤ o ∧ o ≤ 840 ∧ v = nI m - iI o) : okMin v := by
  obtain ⟨o, h1, h2, rfl⟩ := h
  unfold okMin
  rw [nI_iI, iI_sub, iI_toInt (by omega) (by omega)]
  omega
theorem WF_z {FU z : Nat} {zm zo : Nat → Nat → Int32} {zs ch at_ to : Nat → Int32} (hF : 10 < FU) (h : RZ zm zo zs ch at_ to) (hz : z < 3) : ∃ W, WF FU (nI z) ch at_ to W ∧ ∀ m, m ≤ 10519199 → f_Zone_toWorld FU (nI m) (zm z) (zo z) (zs z) = some (W m) := by
  obtain ⟨n, hr, e1, e2, e3⟩ := h z hz
  have h8 := hr.2.1
  have ho : ∀ j, j < n → -840 ≤ (to (8 * z + j)).toInt ∧ (to (8 * z + j)).toInt ≤ 840 := fun j hj => by
    rw [← (hr.2.2 j hj).2]
    exact (e3 j hj).2
  have key : ∀ m, ∃ v, m ≤ 10519199 → f_M_worldOf FU (nI z) (nI m) ch at_ to = some v ∧ okMin v := fun m => by
    have w : OKW (nI m) (f_M_worldOf FU (nI z) (nI m) ch at_ to) := by
      unfold f_M_worldOf
      rw [if_pos (nI_pos' (by omega)), ck_ok hz (by omega), nm_eq, nI_clamp (by omega), e2]
      exact w_b1 hz hr.2.1 hF ho _ FU 0 (by omega) (by omega)
    obtain ⟨v, h1, h2⟩ := w
    exact ⟨v, fun hm => ⟨h1, okMin_of hm h2⟩⟩
  obtain ⟨W, hW⟩ := Classical.axiomOfChoice key
  refine ⟨W, hW, fun m hm => ?_⟩
  rw [e1, z_world hr e2]
  exact (hW m hm).1
theorem WF_no {FU : Nat} {ch at_ to : Nat → Int32} (hF : 10 < FU) : WF FU (-1) ch at_ to nI := fun m hm => by
  refine ⟨?_, ?_⟩
  · unfold f_M_worldOf
    rw [if_neg (show ¬ (0 : Int32) ≤ -1 by decide)]
    obtain ⟨F, rfl⟩ : ∃ n, FU = n + 1 := ⟨FU - 1, by omega⟩
    show f_M_worldOf_18_hd (F + 1) ch at_ to (f_M_worldOf_18 (F + 1) ch at_ to F) (-1) (nI m) 0 0 = _
    unfold f_M_worldOf_18_hd f_M_worldOf_48 f_M_worldOf_75
    rw [if_neg (show ¬ (0 : Int32) < 0 by decide), if_pos rfl, nm_eq, if_pos rfl, if_pos rfl, Int32.sub_zero]
  · unfold okMin
    rw [nI_toInt (by omega)]
    omega
theorem k_mtw {FU : Nat} {W : Nat → Int32} {mi of : Nat → Int32} {sz : Int32} {L : List Nat} (hF : 300 < FU) (hl : L.length ≤ 40) (hB : BL L) (hW : ∀ m, m ≤ 10519199 → f_Zone_toWorld FU (nI m) mi of sz = some (W m)) {r : Nat → Int32} (hr : AR r L) : ∃ r' : Nat → Int32, f_Event_moveToWorld FU r (nI L.length) mi of sz = some r' ∧ ∀ j, j < L.length → r' j = W (L.getD j 0) := by
  have key : ∀ q i (s : Nat → Int32), i ≤ L.length → L.length - i < q → (∀ j, i ≤ j → j < L.length → s j = nI (L.getD j 0)) → (∀ j, j < i → s j = W (L.getD j 0)) → ∃ r' : Nat → Int32, f_Event_moveToWorld_2 FU (nI L.length) mi of sz q (nI i) s = some r' ∧ ∀ j, j < L.length → r' j = W (L.getD j 0) := by
    intro q
    induction q with
    | zero => intro i s _ h; omega
    | succ q ih =>
      intro i s hi hq h1 h2
      show ∃ r' : Nat → Int32, f_Event_moveToWorld_2_hd FU (nI L.length) mi of sz (f_Event_moveToWorld_2 FU (nI L.length) mi of sz q) (nI i) s = some r' ∧ ∀ j, j < L.length → r' j = W (L.getD j 0)
      unfold f_Event_moveToWorld_2_hd
      by_cases hin : L.length ≤ i
      · rw [if_pos (nI_le hin (by omega))]
        exact ⟨s, rfl, fun j hj => h2 j (by omega)⟩
      · have hx := hB _ (getD_mem (show i < L.length by omega))
        rw [if_neg (nI_ge (by omega) (by omega)), ck_ok (show i < 40 by omega) (by omega), nI_clamp (show i < 2 ^ 31 by omega), h1 i (by omega) (by omega), hW _ hx, bd_ok, ck_ok (show i < 40 by omega) (by omega), nI_1]
        refine ih (i + 1) _ (by omega) (by omega) (fun j a b => ?_) (fun j a => ?_)
        · rw [pk_un (by omega)]
          exact h1 j (by omega) b
        · by_cases e : j = i
          · subst e
            rw [pk_us]
          · rw [pk_un e]
            exact h2 j (by omega)
  exact key FU 0 r (by omega) (by omega) (fun j _ b => hr j b) (fun j a => by omega)
