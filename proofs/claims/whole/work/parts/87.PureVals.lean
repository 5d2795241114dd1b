/-! pure: the lists of a rule -/
def I4 (c : Nat) (km : Int32) (r : Nat → Int32) : Prop := (∀ j, j < c → ∃ v, 1 ≤ v ∧ v ≤ 12 ∧ r j = nI v) ∧ ∀ v, v < 32 → (bt km v ↔ ∃ j, j < c ∧ r j = nI v)
def I5 (c : Nat) (kd ke : Int32) (r : Nat → Int32) : Prop := (∀ j, j < c → ∃ x : Int, x ≠ 0 ∧ -31 ≤ x ∧ x ≤ 31 ∧ r j = iI x) ∧ (∀ v : Nat, 1 ≤ v → v < 32 → (bt kd v ↔ ∃ j, j < c ∧ r j = iI v)) ∧ (∀ v : Nat, 1 ≤ v → v < 32 → (bt ke v ↔ ∃ j, j < c ∧ r j = iI (-(v : Int))))
def I6 (c : Nat) (kw : Int32) (nW wN : Nat → Int32) (nS : Int32) (wr wn : Nat → Int32) : Prop := (∀ j, j < c → (∃ w, w < 7 ∧ wr j = nI w) ∧ ∃ x : Int, -53 ≤ x ∧ x ≤ 53 ∧ wn j = iI x) ∧ (∀ w, w < 7 → (bt kw w ↔ ∃ j, j < c ∧ wn j = 0 ∧ wr j = nI w)) ∧ ∃ s, s ≤ c ∧ nS = nI s ∧ (∀ i, i < s → ∃ j, j < c ∧ wn j ≠ 0 ∧ nW i = wr j ∧ wN i = wn j) ∧ (∀ j, j < c → wn j ≠ 0 → ∃ i, i < s ∧ nW i = wr j ∧ wN i = wn j)
def I7 (c : Nat) (ps : Nat → Int32) (pS : Int32) (pr : Nat → Int32) : Prop := pS = nI c ∧ ∀ j, j < c → ps j = pr j ∧ ∃ x : Int, x ≠ 0 ∧ -99 ≤ x ∧ x ≤ 99 ∧ pr j = iI x
theorem I4.add {c v : Nat} {km : Int32} {r : Nat → Int32} (h : I4 c km r) (h1 : 1 ≤ v) (h2 : v ≤ 12) : I4 (c + 1) (km ||| (1 <<< (nI v &&& 31))) (upd r c (nI v)) := by
  refine ⟨fun j hj => ?_, fun u hu => ?_⟩
  · by_cases e : j = c
    · subst e; exact ⟨v, h1, h2, pk_us⟩
    · obtain ⟨w, a, b, d⟩ := h.1 j (by omega)
      exact ⟨w, a, b, by rw [pk_un e, d]⟩
  · rw [bt_or (by omega) hu, h.2 u hu]
    constructor
    · rintro (⟨j, a, b⟩ | e)
      · exact ⟨j, by omega, by rw [pk_un (by omega), b]⟩
      · exact ⟨c, by omega, by rw [pk_us, e]⟩
    · rintro ⟨j, a, b⟩
      by_cases e : j = c
      · subst e; rw [pk_us, nI_eq (by omega) (by omega)] at b; exact Or.inr b.symm
      · rw [pk_un e] at b; exact Or.inl ⟨j, by omega, b⟩
theorem I5.addP {c v : Nat} {kd ke : Int32} {r : Nat → Int32} (h : I5 c kd ke r) (h1 : 1 ≤ v) (h2 : v ≤ 31) : I5 (c + 1) (kd ||| (1 <<< (nI v &&& 31))) ke (upd r c (iI v)) := by
  refine ⟨fun j hj => ?_, fun u hu1 hu => ?_, fun u hu1 hu => ?_⟩
  · by_cases e : j = c
    · subst e; exact ⟨v, by omega, by omega, by omega, pk_us⟩
    · obtain ⟨w, a, b, d, f⟩ := h.1 j (by omega)
      exact ⟨w, a, b, d, by rw [pk_un e, f]⟩
  · rw [bt_or (by omega) hu, h.2.1 u hu1 hu]
    constructor
    · rintro (⟨j, a, b⟩ | e)
      · exact ⟨j, by omega, by rw [pk_un (by omega), b]⟩
      · exact ⟨c, by omega, by rw [pk_us, e]⟩
    · rintro ⟨j, a, b⟩
      by_cases e : j = c
      · subst e; rw [pk_us, iI_eq (by omega) (by omega) (by omega) (by omega)] at b; exact Or.inr (by omega)
      · rw [pk_un e] at b; exact Or.inl ⟨j, by omega, b⟩
  · rw [h.2.2 u hu1 hu]
    constructor
    · rintro ⟨j, a, b⟩
      exact ⟨j, by omega, by rw [pk_un (by omega), b]⟩
    · rintro ⟨j, a, b⟩
      by_cases e : j = c
      · subst e; rw [pk_us, iI_eq (by omega) (by omega) (by omega) (by omega)] at b; omega
      · rw [pk_un e] at b; exact ⟨j, by omega, b⟩
theorem I5.addN {c v : Nat} {kd ke : Int32} {r : Nat → Int32} (h : I5 c kd ke r) (h1 : 1 ≤ v) (h2 : v ≤ 31) : I5 (c + 1) kd (ke ||| (1 <<< (nI v &&& 31))) (upd r c (iI (-(v : Int)))) := by
  refine ⟨fun j hj => ?_, fun u hu1 hu => ?_, fun u hu1 hu => ?_⟩
  · by_cases e : j = c
    · subst e; exact ⟨-(v : Int), by omega, by omega, by omega, pk_us⟩
    · obtain ⟨w, a, b, d, f⟩ := h.1 j (by omega)
      exact ⟨w, a, b, d, by rw [pk_un e, f]⟩
  · rw [h.2.1 u hu1 hu]
    constructor
    · rintro ⟨j, a, b⟩
      exact ⟨j, by omega, by rw [pk_un (by omega), b]⟩
    · rintro ⟨j, a, b⟩
      by_cases e : j = c
      · subst e; rw [pk_us, iI_eq (by omega) (by omega) (by omega) (by omega)] at b; omega
      · rw [pk_un e] at b; exact ⟨j, by omega, b⟩
  · rw [bt_or (by omega) hu, h.2.2 u hu1 hu]
    constructor
    · rintro (⟨j, a, b⟩ | e)
      · exact ⟨j, by omega, by rw [pk_un (by omega), b]⟩
      · exact ⟨c, by omega, by rw [pk_us, e]⟩
    · rintro ⟨j, a, b⟩
      by_cases e : j = c
      · subst e; rw [pk_us, iI_eq (by omega) (by omega) (by omega) (by omega)] at b; exact Or.inr (by omega)
      · rw [pk_un e] at b; exact Or.inl ⟨j, by omega, b⟩
theorem I7.add {c : Nat} {x : Int} {ps pr : Nat → Int32} {pS : Int32} (h : I7 c ps pS pr) (h0 : x ≠ 0) (h1 : -99 ≤ x) (h2 : x ≤ 99) : I7 (c + 1) (upd ps c (iI x)) (nI (c + 1)) (upd pr c (iI x)) := by
  refine ⟨rfl, fun j hj => ?_⟩
  by_cases e : j = c
  · subst e; rw [pk_us, pk_us]; exact ⟨rfl, x, h0, h1, h2, rfl⟩
  · rw [pk_un e, pk_un e]; exact h.2 j (by omega)
theorem I6.add0 {c w : Nat} {kw nS : Int32} {nW wN wr wn : Nat → Int32} (h : I6 c kw nW wN nS wr wn) (hw : w < 7) : I6 (c + 1) (kw ||| (1 <<< (nI w &&& 31))) nW wN nS (upd wr c (nI w)) (upd wn c 0) := by
  obtain ⟨a, b, s, hs, e, p, q⟩ := h
  refine ⟨fun j hj => ?_, fun u hu => ?_, s, by omega, e, fun i hi => ?_, fun j hj hn => ?_⟩
  · by_cases e : j = c
    · subst e; rw [pk_us, pk_us]; exact ⟨⟨w, hw, rfl⟩, 0, by omega, by omega, rfl⟩
    · rw [pk_un e, pk_un e]; exact a j (by omega)
  · rw [bt_or (by omega) (by omega), b u hu]
    constructor
    · rintro (⟨j, a, b, d⟩ | e)
      · exact ⟨j, by omega, by rw [pk_un (by omega), b], by rw [pk_un (by omega), d]⟩
      · exact ⟨c, by omega, pk_us, by rw [pk_us, e]⟩
    · rintro ⟨j, a, b, d⟩
      by_cases e : j = c
      · subst e; rw [pk_us, nI_eq (by omega) (by omega)] at d; exact Or.inr d.symm
      · rw [pk_un e] at b d; exact Or.inl ⟨j, by omega, b, d⟩
  · obtain ⟨j, a, b, d, f⟩ := p i hi
    exact ⟨j, by omega, by rw [pk_un (by omega)]; exact b, by rw [pk_un (by omega), d], by rw [pk_un (by omega), f]⟩
  · by_cases e : j = c
    · subst e; exact absurd pk_us hn
    · rw [pk_un e] at hn
      rw [pk_un e, pk_un e]
      exact q j (by omega) hn
theorem I6.addN {c w : Nat} {x : Int} {kw nS : Int32} {nW wN wr wn : Nat → Int32} (h : I6 c kw nW wN nS wr wn) (hw : w < 7) (h0 : x ≠ 0) (h1 : -53 ≤ x) (h2 : x ≤ 53) : ∃ s, s ≤ c ∧ nS = nI s ∧ I6 (c + 1) kw (upd nW s (nI w)) (upd wN s (iI x)) (nI (s + 1)) (upd wr c (nI w)) (upd wn c (iI x)) := by
  obtain ⟨a, b, s, hs, e, p, q⟩ := h
  have hx0 : ¬ iI x = 0 := fun w => by
    rw [show (0 : Int32) = iI 0 from rfl, iI_eq (by omega) (by omega) (by omega) (by omega)] at w
    exact h0 w
  refine ⟨s, hs, e, fun j hj => ?_, fun u hu => ?_, s + 1, by omega, rfl, fun i hi => ?_, fun j hj hn => ?_⟩
  · by_cases e : j = c
    · subst e; rw [pk_us, pk_us]; exact ⟨⟨w, hw, rfl⟩, x, by omega, by omega, rfl⟩
    · rw [pk_un e, pk_un e]; exact a j (by omega)
  · rw [b u hu]
    constructor
    · rintro ⟨j, a, b, d⟩
      exact ⟨j, by omega, by rw [pk_un (by omega), b], by rw [pk_un (by omega), d]⟩
    · rintro ⟨j, a, b, d⟩
      by_cases e : j = c
      · subst e; rw [pk_us] at b; exact absurd b hx0
      · rw [pk_un e] at b d; exact ⟨j, by omega, b, d⟩
  · by_cases e : i = s
    · subst e; exact ⟨c, by omega, by rw [pk_us]; exact hx0, by rw [pk_us, pk_us], by rw [pk_us, pk_us]⟩
    · obtain ⟨j, a, b, d, f⟩ := p i (by omega)
      exact ⟨j, by omega, by rw [pk_un (by omega)]; exact b, by rw [pk_un e, pk_un (by omega), d], by rw [pk_un e, pk_un (by omega), f]⟩
  · by_cases e : j = c
    · subst e; exact ⟨s, by omega, by rw [pk_us, pk_us], by rw [pk_us, pk_us]⟩
    · rw [pk_un e] at hn
      obtain ⟨i, hi, d, f⟩ := q j (by omega) hn
      exact ⟨i, by omega, by rw [pk_un (by omega), pk_un e, d], by rw [pk_un (by omega), pk_un e, f]⟩
theorem m150_4 {FU n : Nat} {plain : Nat → Int32} {mo : Int32} {mr : Nat → Int32} {md : Int32} {dr : Nat → Int32} {wd : Int32} {wr : Nat → Int32} {wn : Nat → Int32} {po : Int32} {pr : Nat → Int32} (i l3 b g : Int32) : f_M_readList_150 FU (nI n) plain 4 i l3 b g mo mr md dr wd wr wn po pr = some (b, nd (if l3 = 0 then 1 else 0) g, i, mr, md, dr, wd, wr, wn, po, pr) := by
  unfold f_M_readList_150
  by_cases h : l3 = 0
  · rw [if_pos h, if_pos h]
    unfold f_M_readList_160 f_M_readList_177 f_M_readList_194 f_M_readList_212
    rw [m_need, bd_ok, if_pos rfl, if_neg (show ¬ (4 : Int32) = 5 by decide), if_neg (show ¬ (4 : Int32) = 6 by decide), if_neg (show ¬ (4 : Int32) = 7 by decide)]
  · rw [if_neg h, if_neg h]
    unfold f_M_readList_160 f_M_readList_177 f_M_readList_194 f_M_readList_212
    rw [m_need, bd_ok, if_pos rfl, if_neg (show ¬ (4 : Int32) = 5 by decide), if_neg (show ¬ (4 : Int32) = 6 by decide), if_neg (show ¬ (4 : Int32) = 7 by decide)]
theorem mml0_4 {FU n m : Nat} {plain : Nat → Int32} {mo : Int32} {mr : Nat → Int32} {md : Int32} {dr : Nat → Int32} {wd : Int32} {wr : Nat → Int32} {wn : Nat → Int32} {po : Int32} {pr : Nat → Int32} (i b g : Int32) : f_M_readList_4 FU (nI n) plain (m + 1) 4 i 0 b g mo mr md dr wd wr wn po pr = some (b, nd 1 g, i, mr, md, dr, wd, wr, wn, po, pr) := by
  show f_M_readList_4_hd FU (nI n) plain (f_M_readList_4 FU (nI n) plain m) 4 i 0 b g mo mr md dr wd wr wn po pr = _
  unfold f_M_readList_4_hd
  rw [if_pos rfl, m150_4, if_pos rfl]
theorem m150_5 {FU n : Nat} {plain : Nat → Int32} {mo : Int32} {mr : Nat → Int32} {md : Int32} {dr : Nat → Int32} {wd : Int32} {wr : Nat → Int32} {wn : Nat → Int32} {po : Int32} {pr : Nat → Int32} (i l3 b g : Int32) : f_M_readList_150 FU (nI n) plain 5 i l3 b g mo mr md dr wd wr wn po pr = some (b, nd (if l3 = 0 then 1 else 0) g, mo, mr, i, dr, wd, wr, wn, po, pr) := by
  unfold f_M_readList_150
  by_cases h : l3 = 0
  · rw [if_pos h, if_pos h]
    unfold f_M_readList_160 f_M_readList_177 f_M_readList_194 f_M_readList_212
    rw [m_need, bd_ok, if_neg (show ¬ (5 : Int32) = 4 by decide), if_pos rfl, if_neg (show ¬ (5 : Int32) = 6 by decide), if_neg (show ¬ (5 : Int32) = 7 by decide)]
  · rw [if_neg h, if_neg h]
    unfold f_M_readList_160 f_M_readList_177 f_M_readList_194 f_M_readList_212
    rw [m_need, bd_ok, if_neg (show ¬ (5 : Int32) = 4 by decide), if_pos rfl, if_neg (show ¬ (5 : Int32) = 6 by decide), if_neg (show ¬ (5 : Int32) = 7 by decide)]
theorem mml0_5 {FU n m : Nat} {plain : Nat → Int32} {mo : Int32} {mr : Nat → Int32} {md : Int32} {dr : Nat → Int32} {wd : Int32} {wr : Nat → Int32} {wn : Nat → Int32} {po : Int32} {pr : Nat → Int32} (i b g : Int32) : f_M_readList_4 FU (nI n) plain (m + 1) 5 i 0 b g mo mr md dr wd wr wn po pr = some (b, nd 1 g, mo, mr, i, dr, wd, wr, wn, po, pr) := by
  show f_M_readList_4_hd FU (nI n) plain (f_M_readList_4 FU (nI n) plain m) 5 i 0 b g mo mr md dr wd wr wn po pr = _
  unfold f_M_readList_4_hd
  rw [if_pos rfl, m150_5, if_pos rfl]
theorem m150_6 {FU n : Nat} {plain : Nat → Int32} {mo : Int32} {mr : Nat → Int32} {md : Int32} {dr : Nat → Int32} {wd : Int32} {wr : Nat → Int32} {wn : Nat → Int32} {po : Int32} {pr : Nat → Int32} (i l3 b g : Int32) : f_M_readList_150 FU (nI n) plain 6 i l3 b g mo mr md dr wd wr wn po pr = some (b, nd (if l3 = 0 then 1 else 0) g, mo, mr, md, dr, i, wr, wn, po, pr) := by
  unfold f_M_readList_150
  by_cases h : l3 = 0
  · rw [if_pos h, if_pos h]
    unfold f_M_readList_160 f_M_readList_177 f_M_readList_194 f_M_readList_212
    rw [m_need, bd_ok, if_neg (show ¬ (6 : Int32) = 4 by decide), if_neg (show ¬ (6 : Int32) = 5 by decide), if_pos rfl, if_neg (show ¬ (6 : Int32) = 7 by decide)]
  · rw [if_neg h, if_neg h]
    unfold f_M_readList_160 f_M_readList_177 f_M_readList_194 f_M_readList_212
    rw [m_need, bd_ok, if_neg (show ¬ (6 : Int32) = 4 by decide), if_neg (show ¬ (6 : Int32) = 5 by decide), if_pos rfl, if_neg (show ¬ (6 : Int32) = 7 by decide)]
theorem mml0_6 {FU n m : Nat} {plain : Nat → Int32} {mo : Int32} {mr : Nat → Int32} {md : Int32} {dr : Nat → Int32} {wd : Int32} {wr : Nat → Int32} {wn : Nat → Int32} {po : Int32} {pr : Nat → Int32} (i b g : Int32) : f_M_readList_4 FU (nI n) plain (m + 1) 6 i 0 b g mo mr md dr wd wr wn po pr = some (b, nd 1 g, mo, mr, md, dr, i, wr, wn, po, pr) := by
  show f_M_readList_4_hd FU (nI n) plain (f_M_readList_4 FU (nI n) plain m) 6 i 0 b g mo mr md dr wd wr wn po pr = _
  unfold f_M_readList_4_hd
  rw [if_pos rfl, m150_6, if_pos rfl]
theorem m150_7 {FU n : Nat} {plain : Nat → Int32} {mo : Int32} {mr : Nat → Int32} {md : Int32} {dr : Nat → Int32} {wd : Int32} {wr : Nat → Int32} {wn : Nat → Int32} {po : Int32} {pr : Nat → Int32} (i l3 b g : Int32) : f_M_readList_150 FU (nI n) plain 7 i l3 b g mo mr md dr wd wr wn po pr = some (b, nd (if l3 = 0 then 1 else 0) g, mo, mr, md, dr, wd, wr, wn, i, pr) := by
  unfold f_M_readList_150
  by_cases h : l3 = 0
  · rw [if_pos h, if_pos h]
    unfold f_M_readList_160 f_M_readList_177 f_M_readList_194 f_M_readList_212
    rw [m_need, bd_ok, if_neg (show ¬ (7 : Int32) = 4 by decide), if_neg (show ¬ (7 : Int32) = 5 by decide), if_neg (show ¬ (7 : Int32) = 6 by decide), if_pos rfl]
  · rw [if_neg h, if_neg h]
    unfold f_M_readList_160 f_M_readList_177 f_M_readList_194 f_M_readList_212
    rw [m_need, bd_ok, if_neg (show ¬ (7 : Int32) = 4 by decide), if_neg (show ¬ (7 : Int32) = 5 by decide), if_neg (show ¬ (7 : Int32) = 6 by decide), if_pos rfl]
theorem mml0_7 {FU n m : Nat} {plain : Nat → Int32} {mo : Int32} {mr : Nat → Int32} {md : Int32} {dr : Nat → Int32} {wd : Int32} {wr : Nat → Int32} {wn : Nat → Int32} {po : Int32} {pr : Nat → Int32} (i b g : Int32) : f_M_readList_4 FU (nI n) plain (m + 1) 7 i 0 b g mo mr md dr wd wr wn po pr = some (b, nd 1 g, mo, mr, md, dr, wd, wr, wn, i, pr) := by
  show f_M_readList_4_hd FU (nI n) plain (f_M_readList_4 FU (nI n) plain m) 7 i 0 b g mo mr md dr wd wr wn po pr = _
  unfold f_M_readList_4_hd
  rw [if_pos rfl, m150_7, if_pos rfl]
theorem nI_le0 {v : Nat} (h1 : 1 ≤ v) (h : v < 2 ^ 31) : ¬ nI v ≤ 0 := nI_ge (a := 0) h1 h
theorem rv_4 {FU n a : Nat} {row plain : Nat → Int32} {intv : Int32} {cnt : Int32} {untl : Int32} {wst : Int32} {km : Int32} {kd : Int32} {ke : Int32} {kw : Int32} {nW : Nat → Int32} {wN : Nat → Int32} {nS : Int32} {ps : Nat → Int32} {pS : Int32} (hF : 300 < FU) (hC : CH n row plain) (ha : a ≤ n) :
    (∃ v a' : Nat, 1 ≤ v ∧ v ≤ 12 ∧ a' ≤ n ∧ f_M_number FU 12 (nI n) plain (nI a) 1 = some (nI v, nI a', 1) ∧ f_Rule_readValue FU 8 intv cnt untl wst km kd ke kw nW wN nS ps pS row (nI n) (nI a) = some ((1 : Int32), intv, cnt, untl, wst, km ||| ((1 : Int32) <<< (nI v &&& 31)), kd, ke, kw, nW, wN, nS, ps, pS, nI a')) ∨ (∃ v a' b, a' ≤ a + 300 ∧ b ≤ n ∧ f_M_number FU 12 (nI n) plain (nI a) 1 = some (v, nI a', 0) ∧ ∃ km', f_Rule_readValue FU 8 intv cnt untl wst km kd ke kw nW wN nS ps pS row (nI n) (nI a) = some (0, intv, cnt, untl, wst, km', kd, ke, kw, nW, wN, nS, ps, pS, nI b)) := by
  obtain ⟨V, a', h1, h2, h3⟩ := c_number (FU := FU) (a := a) (most := 12) hF hC (by omega) (by omega) (by have := hC.1; omega)
  unfold f_Rule_readValue
  rw [if_neg (show ¬ (8 : Int32) = 1 by decide), if_neg (show ¬ (8 : Int32) = 2 by decide), if_neg (show ¬ (8 : Int32) = 4 by decide), if_pos rfl]
  rcases h3 with ⟨v1, v2, v3, v4, v5⟩ | ⟨v1, v2⟩
  · refine Or.inl ⟨V, a', v1, v2, v3, v4 1 (Or.inr rfl), ?_⟩
    rw [show (12 : Int32) = nI 12 from rfl, v5, bd_ok]
    unfold f_Rule_addMonth
    rw [nm_eq, if_neg (nI_le0 v1 (by omega)), bd_ok, ckz_1]
  · obtain ⟨b, c1, c2⟩ := v2 ha
    refine Or.inr ⟨nI V, a', b, by omega, c1, v1 1 (Or.inr rfl), km ||| ((1 : Int32) <<< ((0 : Int32) &&& 31)), ?_⟩
    rw [show (12 : Int32) = nI 12 from rfl, c2, bd_ok]
    unfold f_Rule_addMonth
    rw [nm_eq, if_pos (show (0 : Int32) ≤ 0 by decide), bd_ok, ckz_0]
theorem rv_5 {FU n a : Nat} {row plain : Nat → Int32} {intv : Int32} {cnt : Int32} {untl : Int32} {wst : Int32} {km : Int32} {kd : Int32} {ke : Int32} {kw : Int32} {nW : Nat → Int32} {wN : Nat → Int32} {nS : Int32} {ps : Nat → Int32} {pS : Int32} (hF : 300 < FU) (hC : CH n row plain) (ha : a ≤ n) :
    (∃ v a' : Nat, 1 ≤ v ∧ v ≤ 31 ∧ a' ≤ n ∧ f_M_signed FU 31 (nI n) plain (nI a) 1 = some (iI v, nI a', 1) ∧ f_Rule_readValue FU 16 intv cnt untl wst km kd ke kw nW wN nS ps pS row (nI n) (nI a) = some ((1 : Int32), intv, cnt, untl, wst, km, kd ||| ((1 : Int32) <<< (nI v &&& 31)), ke, kw, nW, wN, nS, ps, pS, nI a')) ∨ (∃ v a' : Nat, 1 ≤ v ∧ v ≤ 31 ∧ a' ≤ n ∧ f_M_signed FU 31 (nI n) plain (nI a) 1 = some (iI (-(v : Int)), nI a', 1) ∧ f_Rule_readValue FU 16 intv cnt untl wst km kd ke kw nW wN nS ps pS row (nI n) (nI a) = some ((1 : Int32), intv, cnt, untl, wst, km, kd, ke ||| ((1 : Int32) <<< (nI v &&& 31)), kw, nW, wN, nS, ps, pS, nI a')) ∨ (∃ v a' b, a' ≤ a + 300 ∧ b ≤ n ∧ f_M_signed FU 31 (nI n) plain (nI a) 1 = some (v, nI a', 0) ∧ ∃ ke', f_Rule_readValue FU 16 intv cnt untl wst km kd ke kw nW wN nS ps pS row (nI n) (nI a) = some (0, intv, cnt, untl, wst, km, kd, ke', kw, nW, wN, nS, ps, pS, nI b)) := by
  obtain ⟨x, a', h1, h2, h3⟩ := c_signed (FU := FU) (a := a) (most := 31) hF hC (by omega) (by omega) (by have := hC.1; omega)
  unfold f_Rule_readValue
  rw [if_neg (show ¬ (16 : Int32) = 1 by decide), if_neg (show ¬ (16 : Int32) = 2 by decide), if_neg (show ¬ (16 : Int32) = 4 by decide), if_neg (show ¬ (16 : Int32) = 8 by decide), if_pos rfl]
  rcases h3 with ⟨v0, v1, v2, v3, v4, v5⟩ | ⟨v1, v2⟩
  · have hx0 : ¬ iI x = 0 := fun w => by
      rw [show (0 : Int32) = iI 0 from rfl, iI_eq (by omega) (by omega) (by omega) (by omega)] at w
      exact v0 w
    by_cases hp : 0 < x
    · refine Or.inl ⟨x.toNat, a', by omega, by omega, v3, ?_, ?_⟩
      · rw [show ((x.toNat : Nat) : Int) = x by omega]
        exact v4 1 (Or.inr rfl)
      · rw [show (31 : Int32) = nI 31 from rfl, v5, bd_ok]
        unfold f_Rule_addMonthDay f_Rule_addMonthDay_32
        rw [if_neg, nm_eq, if_neg hx0, bd_ok, ckz_1, nI_iI x.toNat, show ((x.toNat : Nat) : Int) = x by omega]
        · rfl
        · rw [show (0 : Int32) = iI 0 from rfl, iI_le (by omega) (by omega) (by omega) (by omega)]
          omega
    · refine Or.inr (Or.inl ⟨(-x).toNat, a', by omega, by omega, v3, ?_, ?_⟩)
      · rw [show -(((-x).toNat : Nat) : Int) = x by omega]
        exact v4 1 (Or.inr rfl)
      · rw [show (31 : Int32) = nI 31 from rfl, v5, bd_ok]
        unfold f_Rule_addMonthDay f_Rule_addMonthDay_32
        rw [if_pos, nm_eq, if_neg hx0, bd_ok, ckz_1, nI_iI (-x).toNat, show (((-x).toNat : Nat) : Int) = -x by omega]
        · rw [iI_neg]
          rfl
        · rw [show (0 : Int32) = iI 0 from rfl, iI_le (by omega) (by omega) (by omega) (by omega)]
          omega
  · obtain ⟨b, c1, c2⟩ := v2 ha
    refine Or.inr (Or.inr ⟨iI x, a', b, by omega, c1, v1 1 (Or.inr rfl), ke ||| ((1 : Int32) <<< (-(0 : Int32) &&& 31)), ?_⟩)
    rw [show (31 : Int32) = nI 31 from rfl, c2, bd_ok]
    unfold f_Rule_addMonthDay f_Rule_addMonthDay_32
    rw [if_pos (show (0 : Int32) ≤ 0 by decide), nm_eq, if_pos rfl, bd_ok, ckz_0]
    rfl
theorem rv_7 {FU n a c : Nat} {row plain : Nat → Int32} {intv : Int32} {cnt : Int32} {untl : Int32} {wst : Int32} {km : Int32} {kd : Int32} {ke : Int32} {kw : Int32} {nW : Nat → Int32} {wN : Nat → Int32} {nS : Int32} {ps : Nat → Int32} (hF : 300 < FU) (hC : CH n row plain) (ha : a ≤ n) (hc : c < 8) :
    (∃ (x : Int) (a' : Nat), x ≠ 0 ∧ -99 ≤ x ∧ x ≤ 99 ∧ a' ≤ n ∧ f_M_signed FU 99 (nI n) plain (nI a) 1 = some (iI x, nI a', 1) ∧ f_Rule_readValue FU 64 intv cnt untl wst km kd ke kw nW wN nS ps (nI c) row (nI n) (nI a) = some (1, intv, cnt, untl, wst, km, kd, ke, kw, nW, wN, nS, upd ps c (iI x), nI (c + 1), nI a')) ∨ (∃ v a' b, a' ≤ a + 300 ∧ b ≤ n ∧ f_M_signed FU 99 (nI n) plain (nI a) 1 = some (v, nI a', 0) ∧ ∃ ps' pS', f_Rule_readValue FU 64 intv cnt untl wst km kd ke kw nW wN nS ps (nI c) row (nI n) (nI a) = some (0, intv, cnt, untl, wst, km, kd, ke, kw, nW, wN, nS, ps', pS', nI b)) := by
  obtain ⟨x, a', h1, h2, h3⟩ := c_signed (FU := FU) (a := a) (most := 99) hF hC (by omega) (by omega) (by have := hC.1; omega)
  unfold f_Rule_readValue
  rw [if_neg (show ¬ (64 : Int32) = 1 by decide), if_neg (show ¬ (64 : Int32) = 2 by decide), if_neg (show ¬ (64 : Int32) = 4 by decide), if_neg (show ¬ (64 : Int32) = 8 by decide), if_neg (show ¬ (64 : Int32) = 16 by decide), if_neg (show ¬ (64 : Int32) = 32 by decide), if_pos rfl]
  rcases h3 with ⟨v0, v1, v2, v3, v4, v5⟩ | ⟨v1, v2⟩
  · have hx0 : ¬ iI x = 0 := fun w => by
      rw [show (0 : Int32) = iI 0 from rfl, iI_eq (by omega) (by omega) (by omega) (by omega)] at w
      exact v0 w
    refine Or.inl ⟨x, a', v0, by omega, by omega, v3, v4 1 (Or.inr rfl), ?_⟩
    rw [show (99 : Int32) = nI 99 from rfl, v5, bd_ok]
    unfold f_Rule_addPosition f_Rule_addPosition_32
    rw [if_neg (show ¬ 8 ≤ nI c from nI_ge (b := 8) hc (by omega)), ck_ok hc (by omega), nm_eq, nI_1, nI_clamp (show c < 2 ^ 31 by omega), if_neg hx0, bd_ok, ckz_1]
  · obtain ⟨b, c1, c2⟩ := v2 ha
    refine Or.inr ⟨iI x, a', b, by omega, c1, v1 1 (Or.inr rfl), upd ps c 0, nI (c + 1), ?_⟩
    rw [show (99 : Int32) = nI 99 from rfl, c2, bd_ok]
    unfold f_Rule_addPosition f_Rule_addPosition_32
    rw [if_neg (show ¬ 8 ≤ nI c from nI_ge (b := 8) hc (by omega)), ck_ok hc (by omega), nm_eq, nI_1, nI_clamp (show c < 2 ^ 31 by omega), if_pos rfl, bd_ok, ckz_0]
