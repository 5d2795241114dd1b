/-! pure: change, world -/
/-- zones of the class and of the reference -/
def RZ (zm zo : Nat → Nat → Int32) (zs : Nat → Int32) (ch at_ to : Nat → Int32) : Prop := ∀ z, z < 3 → ∃ n, zrel z n (zm z) (zo z) at_ to ∧ zs z = nI n ∧ ch z = nI n ∧
  ∀ j, j < n → (0 ≤ (zm z j).toInt ∧ (zm z j).toInt ≤ 10519199) ∧ -840 ≤ (zo z j).toInt ∧ (zo z j).toInt ≤ 840
theorem m_within (FU : Nat) (a b c : Int32) : f_M_within FU a b c = some (if a < b then 0 else if c < a then 0 else 1) := by
  unfold f_M_within
  split
  · rfl
  · split <;> rfl
theorem x_cases3 (x : Int32) (h0 : ¬ x < 0) (h3 : ¬ 3 ≤ x) : x = 0 ∨ x = 1 ∨ x = 2 := by
  obtain ⟨v, rfl, a, b⟩ := v_iI x
  rw [show (0 : Int32) = iI 0 from rfl, iI_lt a b (by omega) (by omega)] at h0
  rw [show (3 : Int32) = iI 3 from rfl, iI_le (by omega) (by omega) a b] at h3
  have : v = 0 ∨ v = 1 ∨ v = 2 := by omega
  rcases this with rfl | rfl | rfl
  · exact Or.inl rfl
  · exact Or.inr (Or.inl rfl)
  · exact Or.inr (Or.inr rfl)
theorem x_cases4 (x : Int32) (h0 : ¬ x < 0) (h3 : ¬ 4 ≤ x) : x = 0 ∨ x = 1 ∨ x = 2 ∨ x = 3 := by
  obtain ⟨v, rfl, a, b⟩ := v_iI x
  rw [show (0 : Int32) = iI 0 from rfl, iI_lt a b (by omega) (by omega)] at h0
  rw [show (4 : Int32) = iI 4 from rfl, iI_le (by omega) (by omega) a b] at h3
  have : v = 0 ∨ v = 1 ∨ v = 2 ∨ v = 3 := by omega
  rcases this with rfl | rfl | rfl | rfl
  · exact Or.inl rfl
  · exact Or.inr (Or.inl rfl)
  · exact Or.inr (Or.inr (Or.inl rfl))
  · exact Or.inr (Or.inr (Or.inr rfl))
theorem le2_3 (x : Int32) : (2 < x) = (3 ≤ x) := by
  obtain ⟨v, rfl, a, b⟩ := v_iI x
  rw [show (2 : Int32) = iI 2 from rfl, show (3 : Int32) = iI 3 from rfl, iI_lt (by omega) (by omega) a b, iI_le (by omega) (by omega) a b, eq_iff_iff]
  omega
theorem le3_4 (x : Int32) : (3 < x) = (4 ≤ x) := by
  obtain ⟨v, rfl, a, b⟩ := v_iI x
  rw [show (3 : Int32) = iI 3 from rfl, show (4 : Int32) = iI 4 from rfl, iI_lt (by omega) (by omega) a b, iI_le (by omega) (by omega) a b, eq_iff_iff]
  omega
theorem k_isZone (FU : Nat) (x : Int32) : f_K_isZone FU x = some (if x < 0 then 0 else if 3 ≤ x then 0 else 1) := by
  unfold f_K_isZone
  split
  · rfl
  · split <;> rfl
theorem k_isMinute (FU : Nat) (x : Int32) : f_K_isMinute FU x = some (if x < 0 then 0 else if 10519199 < x then 0 else 1) := by
  unfold f_K_isMinute
  split
  · rfl
  · split <;> rfl
theorem one_ne : ((1 : Int32) = 0) = False := by decide
/-- world: the same answers -/
theorem c_world {FU : Nat} {zm zo : Nat → Nat → Int32} {zs ch at_ to : Nat → Int32} (h : RZ zm zo zs ch at_ to) (x y th : Int32) (hs : ∀ z, z < 3 → ∀ x, ∃ r, f_M_worldOf FU (nI z) x ch at_ to = some r) : ∃ r, f_K_world FU x y zm zo zs = some r ∧ f_M_world FU x y th ch at_ to = some (r, 0) := by
  unfold f_K_world f_M_world
  simp only [k_isZone, k_isMinute, m_within, bd_ok, le2_3]
  by_cases h0 : x < 0
  · simp only [if_pos h0, if_true]
    exact ⟨_, rfl, rfl⟩
  · by_cases h3 : 3 ≤ x
    · simp only [if_neg h0, if_pos h3, if_true]
      exact ⟨_, rfl, rfl⟩
    · simp only [if_neg h0, if_neg h3, one_ne, if_false]
      by_cases hy : y < 0
      · simp only [if_pos hy, if_true]
        exact ⟨_, rfl, rfl⟩
      · by_cases hy3 : 10519199 < y
        · simp only [if_neg hy, if_pos hy3, if_true]
          exact ⟨_, rfl, rfl⟩
        · simp only [if_neg hy, if_neg hy3, one_ne, if_false]
          rcases x_cases3 x h0 h3 with rfl | rfl | rfl
          · obtain ⟨n, hz, e1, e2, -⟩ := h 0 (by omega)
            obtain ⟨r, hr⟩ := hs 0 (by omega) y
            rw [show (0 : Int32) = nI 0 from rfl, hr, e1, z_world hz e2, hr]
            exact ⟨r, rfl, rfl⟩
          · obtain ⟨n, hz, e1, e2, -⟩ := h 1 (by omega)
            obtain ⟨r, hr⟩ := hs 1 (by omega) y
            rw [show (1 : Int32) = nI 1 from rfl, hr, e1, z_world hz e2, hr]
            exact ⟨r, rfl, rfl⟩
          · obtain ⟨n, hz, e1, e2, -⟩ := h 2 (by omega)
            obtain ⟨r, hr⟩ := hs 2 (by omega) y
            rw [show (2 : Int32) = nI 2 from rfl, hr, e1, z_world hz e2, hr]
            exact ⟨r, rfl, rfl⟩
theorem m_wo2 {FU z n : Nat} {ch at_ to : Nat → Int32} (hz : z < 3) (hn : n ≤ 8) (x : Int32) : ∀ (m i : Nat), i ≤ n → n - i < m → (f_M_worldOf_110 FU ch at_ to m (nI z) x (nI n) (nI i)).isSome = true := by
  intro m
  induction m with
  | zero => intro i _ h; omega
  | succ m ih =>
    intro i hi h
    show (f_M_worldOf_110_hd FU ch at_ to (f_M_worldOf_110 FU ch at_ to m) (nI z) x (nI n) (nI i)).isSome = true
    unfold f_M_worldOf_110_hd f_M_worldOf_139
    by_cases hin : n ≤ i
    · rw [if_pos (nI_le hin (by omega))]
      rfl
    · have hc : ¬ nI n ≤ nI i := nI_ge (by omega) (by omega)
      have hr := ih (i + 1) (by omega) (by omega)
      rw [if_neg hc]
      simp only [nm_eq, p_8, ck_ok (show 8 * z + i < 24 by omega) (by omega), p_eq0 (show i < 2 ^ 31 by omega), nI_1]
      by_cases h0 : i = 0
      · simp only [if_pos h0]
        split
        · exact hr
        · split
          · exact hr
          · rfl
      · simp only [if_neg h0, p_pred (show 0 < 8 * z + i by omega), ck_ok (show 8 * z + i - 1 < 24 by omega) (by omega)]
        split
        · exact hr
        · split
          · exact hr
          · rfl
theorem m_wo1 {FU z n : Nat} {ch at_ to : Nat → Int32} (hz : z < 3) (hn : n ≤ 8) (hF : 10 < FU) (x : Int32) : ∀ (m i : Nat), i ≤ n + 1 → n + 1 - i < m → (f_M_worldOf_18 FU ch at_ to m (nI z) x (nI n) (nI i)).isSome = true := by
  intro m
  induction m with
  | zero => intro i _ h; omega
  | succ m ih =>
    intro i hi h
    show (f_M_worldOf_18_hd FU ch at_ to (f_M_worldOf_18 FU ch at_ to m) (nI z) x (nI n) (nI i)).isSome = true
    unfold f_M_worldOf_18_hd f_M_worldOf_48 f_M_worldOf_75
    by_cases hin : n < i
    · rw [if_pos (nI_lt hin (by omega))]
      exact m_wo2 hz hn x FU 0 (by omega) (by omega)
    · have hc : ¬ nI n < nI i := nI_nlt (by omega) (by omega)
      have hr := ih (i + 1) (by omega) (by omega)
      rw [if_neg hc]
      simp only [nm_eq, p_8, p_eq0 (show i < 2 ^ 31 by omega), nI_1, nI_eq (show i < 2 ^ 31 by omega) (show n < 2 ^ 31 by omega)]
      by_cases h0 : i = 0
      · simp only [if_pos h0]
        by_cases hn0 : i = n
        · simp only [if_pos hn0]
          rfl
        · simp only [if_neg hn0, ck_ok (show 8 * z + i < 24 by omega) (by omega)]
          split
          · exact hr
          · rfl
      · simp only [if_neg h0, p_pred (show 0 < 8 * z + i by omega), ck_ok (show 8 * z + i - 1 < 24 by omega) (by omega)]
        split
        · exact hr
        · by_cases hn0 : i = n
          · simp only [if_pos hn0]
            rfl
          · simp only [if_neg hn0, ck_ok (show 8 * z + i < 24 by omega) (by omega)]
            split
            · exact hr
            · rfl
theorem m_wo {FU z n : Nat} {ch at_ to : Nat → Int32} (hz : z < 3) (hn : n ≤ 8) (hF : 10 < FU) (hc : ch z = nI n) (x : Int32) : ∃ r, f_M_worldOf FU (nI z) x ch at_ to = some r := by
  refine Option.isSome_iff_exists.mp ?_
  unfold f_M_worldOf
  rw [if_pos (nI_pos' (by omega)), ck_ok hz (by omega), nm_eq, nI_clamp (by omega), hc]
  exact m_wo1 hz hn hF x FU 0 (by omega) (by omega)
theorem RZ.some {FU : Nat} (hF : 10 < FU) {zm zo : Nat → Nat → Int32} {zs ch at_ to : Nat → Int32} (h : RZ zm zo zs ch at_ to) : ∀ z, z < 3 → ∀ x, ∃ r, f_M_worldOf FU (nI z) x ch at_ to = some r := fun z hz x => by
  obtain ⟨n, hr, e1, e2, -⟩ := h z hz
  exact m_wo hz hr.2.1 hF e2 x
theorem sp3_at {α : Type} (b : Nat → Option α) {z : Nat} (hz : z < 3) : sp3 (nI z) (b 0) (b 1) (b 2) = b z := by
  match z, hz with
  | 0, _ => rfl
  | 1, _ => rfl
  | 2, _ => rfl
theorem sp4_at {α : Type} (b : Nat → Option α) {z : Nat} (hz : z < 4) : sp4 (nI z) (b 0) (b 1) (b 2) (b 3) = b z := by
  match z, hz with
  | 0, _ => rfl
  | 1, _ => rfl
  | 2, _ => rfl
  | 3, _ => rfl
theorem n_cases3 (x : Int32) : x < 0 ∨ 3 ≤ x ∨ ∃ z, z < 3 ∧ x = nI z := pk_ix x (n := 3) (by omega)
theorem n_cases4 (x : Int32) : x < 0 ∨ 4 ≤ x ∨ ∃ z, z < 4 ∧ x = nI z := pk_ix x (n := 4) (by omega)
theorem z_latest {FU n : Nat} {mi : Nat → Int32} (hn : n ≤ 8) : f_Zone_latestChange FU mi (nI n) = some (if n = 0 then -1 else mi (n - 1)) := by
  unfold f_Zone_latestChange
  by_cases h : n = 0
  · rw [if_pos ((p_le0 (by omega)).mpr h), if_pos h]
  · rw [if_neg (fun q => h ((p_le0 (by omega)).mp q)), if_neg h, p_pred (by omega), ck_ok (by omega) (by omega), nI_clamp (by omega)]
theorem z_full {FU n : Nat} (hn : n ≤ 8) : f_Zone_isFull FU (nI n) = some (if n = 8 then 1 else 0) := by
  unfold f_Zone_isFull
  rw [show (8 : Int32) = nI 8 from rfl]
  by_cases h : n = 8
  · rw [if_neg (by rw [nI_ltI (by omega) (by omega)]; omega), if_pos h]
  · rw [if_pos (by rw [nI_ltI (by omega) (by omega)]; omega), if_neg h]
theorem z_append {FU n : Nat} {mi of : Nat → Int32} (hn : n < 8) (x y : Int32) : f_Zone_append FU x y mi of (nI n) = some (nI (n + 1), upd mi n x, upd of n y, nI (n + 1)) := by
  unfold f_Zone_append
  rw [z_full (by omega), bd_ok, if_pos (if_neg (by omega)), ck_ok hn (by omega), ck_ok hn (by omega), nm_eq, nI_1, nI_clamp (by omega)]
theorem RZ.upd {zm zo : Nat → Nat → Int32} {zs ch at_ to : Nat → Int32} (h : RZ zm zo zs ch at_ to) {z n : Nat} (hz : z < 3) (hn : n < 8) (e1 : zs z = nI n) (e2 : ch z = nI n) {x y : Int32} (hx : 0 ≤ x.toInt ∧ x.toInt ≤ 10519199) (hy : -840 ≤ y.toInt ∧ y.toInt ≤ 840) :
    RZ (up zm z (upd (zm z) n x)) (up zo z (upd (zo z) n y)) (up zs z (nI (n + 1))) (upd ch z (nI (n + 1))) (upd at_ (8 * z + n) x) (upd to (8 * z + n) y) := by
  intro w hw
  by_cases hwz : w = z
  · subst hwz
    obtain ⟨n', hr, f1, f2, hb⟩ := h w hw
    have hn' : n' = n := by
      have := hr.2.1
      exact (nI_eq (by omega) (by omega)).mp (f1.symm.trans e1)
    subst hn'
    rw [up_same, up_same, up_same, pk_us]
    refine ⟨n' + 1, ⟨hw, by omega, fun j hj => ?_⟩, rfl, rfl, fun j hj => ?_⟩
    · by_cases hjn : j = n'
      · subst hjn
        rw [pk_us, pk_us, pk_us, pk_us]
        exact ⟨rfl, rfl⟩
      · rw [pk_un hjn, pk_un hjn, pk_un (by omega), pk_un (by omega)]
        exact hr.2.2 j (by omega)
    · by_cases hjn : j = n'
      · subst hjn
        rw [pk_us, pk_us]
        exact ⟨hx, hy⟩
      · rw [pk_un hjn, pk_un hjn]
        exact hb j (by omega)
  · obtain ⟨n', hr, f1, f2, hb⟩ := h w hw
    rw [up_ne _ _ hwz, up_ne _ _ hwz, up_ne _ _ hwz, pk_un hwz]
    have h8 := hr.2.1
    refine ⟨n', ⟨hw, h8, fun j hj => ?_⟩, f1, f2, hb⟩
    rw [pk_un (by omega), pk_un (by omega)]
    exact hr.2.2 j hj
/-- change: the same answers -/
theorem c_change {FU : Nat} {zm zo : Nat → Nat → Int32} {zs ch at_ to : Nat → Int32} (h : RZ zm zo zs ch at_ to) (x1 x2 x3 th : Int32) : ∃ (tc : Nat) (r b t : Int32) (zm' zo' : Nat → Nat → Int32) (zs' ch' at' to' : Nat → Int32),
    f_K_change FU x1 x2 x3 zm zo zs = some (tc, r, zm', zo', zs') ∧ f_M_change FU x1 x2 x3 th ch at_ to = some (b, t, ch', at', to') ∧ RZ zm' zo' zs' ch' at' to' ∧ ((tc = 0 ∧ t = 0 ∧ r = b) ∨ (tc = 1 ∧ t = 1) ∨ (tc = 2 ∧ t = 2)) := by
  unfold f_K_change f_M_change f_M_change_37 f_M_change_80 f_M_refuse
  simp only [k_isZone, k_isMinute, m_within, bd_ok, nm_eq, le2_3]
  rcases n_cases3 x1 with h0 | h0 | ⟨z, hz, rfl⟩
  · simp only [if_pos h0, if_true]
    exact ⟨1, _, _, _, _, _, _, _, _, _, rfl, rfl, h, Or.inr (Or.inl ⟨rfl, rfl⟩)⟩
  · simp only [if_pos h0, ite_self, if_true]
    exact ⟨1, _, _, _, _, _, _, _, _, _, rfl, rfl, h, Or.inr (Or.inl ⟨rfl, rfl⟩)⟩
  · have hz0 : ¬ nI z < 0 := nI_pos (by omega)
    have hz3 : ¬ 3 ≤ nI z := nI_ge (b := 3) (by omega) (by omega)
    simp only [if_neg hz0, if_neg hz3, one_ne, if_false, ck_ok hz (by omega), nI_clamp (show z < 2 ^ 31 by omega)]
    by_cases hm0 : x2 < 0
    · simp only [if_pos hm0, if_true]
      exact ⟨1, _, _, _, _, _, _, _, _, _, rfl, rfl, h, Or.inr (Or.inl ⟨rfl, rfl⟩)⟩
    · by_cases hm1 : 10519199 < x2
      · simp only [if_neg hm0, if_pos hm1, if_true]
        exact ⟨1, _, _, _, _, _, _, _, _, _, rfl, rfl, h, Or.inr (Or.inl ⟨rfl, rfl⟩)⟩
      · simp only [if_neg hm0, if_neg hm1, one_ne, if_false]
        obtain ⟨n, hr, e1, e2, hb⟩ := h z hz
        have h8 := hr.2.1
        have hx2 : 0 ≤ x2.toInt ∧ x2.toInt ≤ 10519199 := by
          rw [Int32.lt_iff_toInt_lt] at hm0 hm1
          exact ⟨Int.not_lt.mp hm0, Int.not_lt.mp hm1⟩
        -- the class: one branch for the zone
        have hsp : ∀ {α : Type} (b0 b1 b2 : Option α) (b : Nat → Option α), b 0 = b0 → b 1 = b1 → b 2 = b2 → sp3 (nI z) b0 b1 b2 = b z := fun b0 b1 b2 b q0 q1 q2 => by rw [← q0, ← q1, ← q2]; exact sp3_at b hz
        rw [hsp _ _ _ (fun w => bd (f_Zone_latestChange FU (zm w) (zs w)) (fun z10 => if z10 < x2 then (if x3 < -840 then some (1, 0, zm, zo, zs) else (if x3 ≤ 840 then sp3 (nI z) (bd (f_Zone_isFull FU (zs 0)) (fun z15 => if z15 = 0 then sp3 (nI z) (bd (f_Zone_append FU x2 x3 (zm 0) (zo 0) (zs 0)) (fun y => some (0, y.1, up zm 0 y.2.1, up zo 0 y.2.2.1, up zs 0 y.2.2.2))) (bd (f_Zone_append FU x2 x3 (zm 1) (zo 1) (zs 1)) (fun y => some (0, y.1, up zm 1 y.2.1, up zo 1 y.2.2.1, up zs 1 y.2.2.2))) (bd (f_Zone_append FU x2 x3 (zm 2) (zo 2) (zs 2)) (fun y => some (0, y.1, up zm 2 y.2.1, up zo 2 y.2.2.1, up zs 2 y.2.2.2))) else some (2, 0, zm, zo, zs))) (bd (f_Zone_isFull FU (zs 1)) (fun z15 => if z15 = 0 then sp3 (nI z) (bd (f_Zone_append FU x2 x3 (zm 0) (zo 0) (zs 0)) (fun y => some (0, y.1, up zm 0 y.2.1, up zo 0 y.2.2.1, up zs 0 y.2.2.2))) (bd (f_Zone_append FU x2 x3 (zm 1) (zo 1) (zs 1)) (fun y => some (0, y.1, up zm 1 y.2.1, up zo 1 y.2.2.1, up zs 1 y.2.2.2))) (bd (f_Zone_append FU x2 x3 (zm 2) (zo 2) (zs 2)) (fun y => some (0, y.1, up zm 2 y.2.1, up zo 2 y.2.2.1, up zs 2 y.2.2.2))) else some (2, 0, zm, zo, zs))) (bd (f_Zone_isFull FU (zs 2)) (fun z15 => if z15 = 0 then sp3 (nI z) (bd (f_Zone_append FU x2 x3 (zm 0) (zo 0) (zs 0)) (fun y => some (0, y.1, up zm 0 y.2.1, up zo 0 y.2.2.1, up zs 0 y.2.2.2))) (bd (f_Zone_append FU x2 x3 (zm 1) (zo 1) (zs 1)) (fun y => some (0, y.1, up zm 1 y.2.1, up zo 1 y.2.2.1, up zs 1 y.2.2.2))) (bd (f_Zone_append FU x2 x3 (zm 2) (zo 2) (zs 2)) (fun y => some (0, y.1, up zm 2 y.2.1, up zo 2 y.2.2.1, up zs 2 y.2.2.2))) else some (2, 0, zm, zo, zs))) else some (1, 0, zm, zo, zs))) else some (1, 0, zm, zo, zs))) rfl rfl rfl]
        try dsimp only
        rw [hsp _ _ _ (fun w => bd (f_Zone_isFull FU (zs w)) (fun z15 => if z15 = 0 then sp3 (nI z) (bd (f_Zone_append FU x2 x3 (zm 0) (zo 0) (zs 0)) (fun y => some (0, y.1, up zm 0 y.2.1, up zo 0 y.2.2.1, up zs 0 y.2.2.2))) (bd (f_Zone_append FU x2 x3 (zm 1) (zo 1) (zs 1)) (fun y => some (0, y.1, up zm 1 y.2.1, up zo 1 y.2.2.1, up zs 1 y.2.2.2))) (bd (f_Zone_append FU x2 x3 (zm 2) (zo 2) (zs 2)) (fun y => some (0, y.1, up zm 2 y.2.1, up zo 2 y.2.2.1, up zs 2 y.2.2.2))) else some (2, 0, zm, zo, zs))) rfl rfl rfl]
        try dsimp only
        rw [hsp _ _ _ (fun w => bd (f_Zone_append FU x2 x3 (zm w) (zo w) (zs w)) (fun y => some (0, y.1, up zm w y.2.1, up zo w y.2.2.1, up zs w y.2.2.2))) rfl rfl rfl]
        try dsimp only
        rw [e1, e2, z_latest h8, bd_ok, z_full h8, bd_ok]
        have hw3 : ¬ ((if x3 < -840 then (0 : Int32) else if 840 < x3 then 0 else 1) = 0) ↔ (¬ x3 < -840 ∧ x3 ≤ 840) := by
          by_cases a : x3 < -840
          · simp [a]
          · by_cases b : 840 < x3
            · simp [a, b, Int32.not_le.mpr b]
            · simp [a, b, Int32.not_lt.mp b]
        by_cases hx3 : ¬ x3 < -840 ∧ x3 ≤ 840
        · rw [if_neg (hw3.mpr hx3), if_neg hx3.1, if_pos hx3.2]
          have hx3' : -840 ≤ x3.toInt ∧ x3.toInt ≤ 840 := by
            have a1 := hx3.1
            have a2 := hx3.2
            rw [Int32.lt_iff_toInt_lt] at a1
            rw [Int32.le_iff_toInt_le] at a2
            exact ⟨Int.not_lt.mp a1, a2⟩
          simp only [p_8, ck_ok (show z < 3 by omega) (by omega), nI_clamp (show z < 2 ^ 31 by omega)]
          by_cases hn0 : n = 0
          · subst hn0
            have hlt : (-1 : Int32) < x2 := by
              rw [Int32.lt_iff_toInt_lt]
              exact Int.lt_of_lt_of_le (by decide) hx2.1
            rw [if_pos rfl, if_pos hlt, if_neg (show ¬ (0 : Nat) = 8 by omega), if_pos rfl, if_pos (show nI 0 ≤ 0 by decide), if_neg (by decide), z_append (by omega), bd_ok, ck_ok (show 8 * z + 0 < 24 by omega) (by omega), ck_ok (show 8 * z + 0 < 24 by omega) (by omega), nI_1, nI_clamp (by omega)]
            exact ⟨0, _, _, _, _, _, _, _, _, _, rfl, rfl, h.upd hz (by omega) e1 e2 hx2 hx3', Or.inl ⟨rfl, rfl, rfl⟩⟩
          · rw [if_neg hn0, if_neg (fun q => hn0 ((p_le0 (by omega)).mp q)), p_pred (show 0 < 8 * z + n by omega), ck_ok (show 8 * z + n - 1 < 24 by omega) (by omega), nI_clamp (show 8 * z + n - 1 < 2 ^ 31 by omega), show at_ (8 * z + n - 1) = zm z (n - 1) by rw [(hr.2.2 (n - 1) (by omega)).1, show 8 * z + (n - 1) = 8 * z + n - 1 by omega]]
            by_cases hl : zm z (n - 1) < x2
            · rw [if_pos hl, if_pos hl]
              by_cases hn8 : n = 8
              · rw [if_pos hn8, if_neg (by decide), if_pos (show nI n = 8 by rw [hn8]; rfl)]
                exact ⟨2, _, _, _, _, _, _, _, _, _, rfl, rfl, h, Or.inr (Or.inr ⟨rfl, rfl⟩)⟩
              · rw [if_neg hn8, if_pos rfl, if_neg (show ¬ nI n = 8 from fun q => hn8 ((nI_eq (by omega) (by omega : 8 < 2 ^ 31)).mp q)), z_append (by omega), bd_ok, ck_ok (show 8 * z + n < 24 by omega) (by omega), ck_ok (show 8 * z + n < 24 by omega) (by omega), nI_1, nI_clamp (by omega)]
                exact ⟨0, _, _, _, _, _, _, _, _, _, rfl, rfl, h.upd hz (by omega) e1 e2 hx2 hx3', Or.inl ⟨rfl, rfl, rfl⟩⟩
            · rw [if_neg hl, if_neg hl]
              exact ⟨1, _, _, _, _, _, _, _, _, _, rfl, rfl, h, Or.inr (Or.inl ⟨rfl, rfl⟩)⟩
        · rw [if_pos (Classical.byContradiction (fun q => hx3 (hw3.mp q)))]
          have hk : ∀ (A : Option (Nat × Int32 × (Nat → Nat → Int32) × (Nat → Nat → Int32) × (Nat → Int32))), (if x3 < -840 then some (1, 0, zm, zo, zs) else if x3 ≤ 840 then A else some (1, 0, zm, zo, zs)) = some (1, 0, zm, zo, zs) := by
            intro A
            by_cases a : x3 < -840
            · rw [if_pos a]
            · rw [if_neg a, if_neg (fun q => hx3 ⟨a, q⟩)]
          rw [hk, ite_self]
          exact ⟨1, _, _, _, _, _, _, _, _, _, rfl, rfl, h, Or.inr (Or.inl ⟨rfl, rfl⟩)⟩
