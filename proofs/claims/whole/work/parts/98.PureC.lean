/-! pure: the minutes that a rule names, in their order -/
def DF (per : Nat → Nat) (fit : Nat → Bool) (q : Nat) : List Nat := (List.range 7305).filter (fun d => decide (per d = q) && fit d)
def pks (st : Nat → Nat → Bool) (t S n : Nat) : Nat → List Nat → List Nat
  | _, [] => []
  | i, d :: D => if S < 1440 * d + t ∧ st i n = true then (1440 * d + t) :: pks st t S n (i + 1) D else pks st t S n (i + 1) D
def cpk (per : Nat → Nat) (fit : Nat → Bool) (st : Nat → Nat → Bool) (t S p0 iv q : Nat) : List Nat := if p0 ≤ q ∧ (q - p0) % iv = 0 then pks st t S (DF per fit q).length 0 (DF per fit q) else []
def rqs (cp : Nat → List Nat) : Nat → Nat → List Nat
  | 0, _ => []
  | n + 1, q => cp q ++ rqs cp n (q + 1)
def rfs (cp : Nat → List Nat) (q : Nat) : List Nat := rqs cp (7500 - q) q
theorem rfs_step {cp : Nat → List Nat} {q : Nat} (h : q < 7500) : rfs cp q = cp q ++ rfs cp (q + 1) := by
  unfold rfs
  rw [show 7500 - q = (7500 - (q + 1)) + 1 by omega]
  rfl
theorem rfs_skip {cp : Nat → List Nat} {q : Nat} : ∀ k, q + k ≤ 7500 → (∀ j, q ≤ j → j < q + k → cp j = []) → rfs cp q = rfs cp (q + k)
  | 0, _, _ => rfl
  | k + 1, h, g => by
    rw [rfs_skip k (by omega) (fun j a b => g j a (by omega)), rfs_step (q := q + k) (by omega), g (q + k) (by omega) (by omega)]
    rfl
theorem rfs_to {cp : Nat → List Nat} {q r : Nat} (h : q ≤ r) (hr : r ≤ 7500) (g : ∀ j, q ≤ j → j < r → cp j = []) : rfs cp q = rfs cp r := by
  have := rfs_skip (cp := cp) (q := q) (r - q) (by omega) (fun j a b => g j a (by omega))
  rw [show q + (r - q) = r by omega] at this
  exact this
theorem rfs_end {cp : Nat → List Nat} : rfs cp 7500 = [] := rfl
theorem rfs_none {cp : Nat → List Nat} {q : Nat} (hq : q ≤ 7500) (g : ∀ j, q ≤ j → cp j = []) : rfs cp q = [] := by
  rw [rfs_to (r := 7500) hq (by omega) (fun j a _ => g j a), rfs_end]
theorem mem_rqs {cp : Nat → List Nat} {x : Nat} : ∀ n q, x ∈ rqs cp n q → ∃ j, q ≤ j ∧ x ∈ cp j
  | 0, _, h => by simp [rqs] at h
  | n + 1, q, h => by
    rcases List.mem_append.mp h with u | u
    · exact ⟨q, by omega, u⟩
    · obtain ⟨j, a, b⟩ := mem_rqs n (q + 1) u
      exact ⟨j, by omega, b⟩
theorem SL_rqs {cp : Nat → List Nat} (h1 : ∀ q, SL (cp q)) (h2 : ∀ q r, q < r → ∀ x, x ∈ cp q → ∀ y, y ∈ cp r → x < y) : ∀ n q, SL (rqs cp n q)
  | 0, _ => List.Pairwise.nil
  | n + 1, q => by
    refine List.pairwise_append.mpr ⟨h1 q, SL_rqs h1 h2 n (q + 1), fun x hx y hy => ?_⟩
    obtain ⟨j, a, b⟩ := mem_rqs n (q + 1) hy
    exact h2 q j (by omega) x hx y b
theorem mem_DF {per : Nat → Nat} {fit : Nat → Bool} {q d : Nat} : d ∈ DF per fit q ↔ d ≤ 7304 ∧ per d = q ∧ fit d = true := by
  unfold DF
  rw [List.mem_filter, List.mem_range]
  simp
  omega
theorem SL_range (n : Nat) : SL (List.range n) := List.pairwise_lt_range
theorem SL_DF {per : Nat → Nat} {fit : Nat → Bool} {q : Nat} : SL (DF per fit q) := List.Pairwise.filter _ (SL_range _)
theorem mem_pks {st : Nat → Nat → Bool} {t S n x : Nat} : ∀ {D : List Nat} {i : Nat}, x ∈ pks st t S n i D → S < x ∧ ∃ d, d ∈ D ∧ x = 1440 * d + t
  | [], _, h => by simp [pks] at h
  | d :: D, i, h => by
    unfold pks at h
    split at h
    · rename_i c
      rcases List.mem_cons.mp h with u | u
      · exact ⟨by omega, d, List.mem_cons_self .., u⟩
      · obtain ⟨a, e, b, c⟩ := mem_pks u
        exact ⟨a, e, List.mem_cons_of_mem _ b, c⟩
    · obtain ⟨a, e, b, c⟩ := mem_pks h
      exact ⟨a, e, List.mem_cons_of_mem _ b, c⟩
theorem SL_pks {st : Nat → Nat → Bool} {t S n : Nat} : ∀ {D : List Nat} {i : Nat}, SL D → SL (pks st t S n i D)
  | [], _, _ => List.Pairwise.nil
  | d :: D, i, h => by
    have p := List.pairwise_cons.mp h
    unfold pks
    split
    · refine List.pairwise_cons.mpr ⟨fun y hy => ?_, SL_pks p.2⟩
      obtain ⟨_, e, b, c⟩ := mem_pks hy
      have := p.1 e b
      omega
    · exact SL_pks p.2
theorem mem_cpk {per : Nat → Nat} {fit : Nat → Bool} {st : Nat → Nat → Bool} {t S p0 iv q x : Nat} (h : x ∈ cpk per fit st t S p0 iv q) : p0 ≤ q ∧ (q - p0) % iv = 0 ∧ S < x ∧ ∃ d, d ≤ 7304 ∧ per d = q ∧ x = 1440 * d + t := by
  unfold cpk at h
  split at h
  · rename_i c
    obtain ⟨a, d, b, e⟩ := mem_pks h
    have := mem_DF.mp b
    exact ⟨c.1, c.2, a, d, this.1, this.2.1, e⟩
  · simp at h
theorem SL_rfs {per : Nat → Nat} {fit : Nat → Bool} {st : Nat → Nat → Bool} {t S p0 iv : Nat} (hm : ∀ d e, d ≤ e → e ≤ 7304 → per d ≤ per e) (q : Nat) : SL (rfs (cpk per fit st t S p0 iv) q) := by
  refine SL_rqs (fun q => ?_) (fun q r h x hx y hy => ?_) _ _
  · unfold cpk
    split
    · exact SL_pks SL_DF
    · exact List.Pairwise.nil
  · obtain ⟨_, _, _, d, d1, d2, d3⟩ := mem_cpk hx
    obtain ⟨_, _, _, e, e1, e2, e3⟩ := mem_cpk hy
    by_cases w : e ≤ d
    · have := hm e d w d1
      omega
    · omega
theorem mem_rfs {per : Nat → Nat} {fit : Nat → Bool} {st : Nat → Nat → Bool} {t S p0 iv q x : Nat} (h : x ∈ rfs (cpk per fit st t S p0 iv) q) : S < x ∧ ∃ d, d ≤ 7304 ∧ q ≤ per d ∧ x = 1440 * d + t := by
  obtain ⟨j, a, b⟩ := mem_rqs _ _ h
  obtain ⟨_, _, c, d, d1, d2, d3⟩ := mem_cpk b
  exact ⟨c, d, d1, by omega, d3⟩
theorem cpk_no {per : Nat → Nat} {fit : Nat → Bool} {st : Nat → Nat → Bool} {t S p0 iv q : Nat} (h : ∀ d, d ≤ 7304 → per d ≠ q) : cpk per fit st t S p0 iv q = [] := by
  have e : DF per fit q = [] := by
    apply List.eq_nil_iff_forall_not_mem.mpr
    intro x hx
    have := mem_DF.mp hx
    exact h x this.1 this.2.1
  unfold cpk
  rw [e]
  split <;> rfl
theorem cpk_off {per : Nat → Nat} {fit : Nat → Bool} {st : Nat → Nat → Bool} {t S p0 iv q : Nat} (h : ¬ (p0 ≤ q ∧ (q - p0) % iv = 0)) : cpk per fit st t S p0 iv q = [] := by
  unfold cpk
  rw [if_neg h]
/-- the minutes up to the rule's last one -/
def VF (unt : Nat) (R : List Nat) : List Nat := R.filter (fun y => decide (y ≤ unt))
theorem VF_cons_le {unt m : Nat} {R : List Nat} (h : m ≤ unt) : VF unt (m :: R) = m :: VF unt R := by
  unfold VF
  rw [List.filter_cons_of_pos (by simpa using h)]
theorem VF_gt {unt : Nat} {R : List Nat} (h : ∀ x, x ∈ R → unt < x) : VF unt R = [] := by
  unfold VF
  apply List.filter_eq_nil_iff.mpr
  intro x hx
  have := h x hx
  simp
  omega
theorem mem_VF {unt x : Nat} {R : List Nat} : x ∈ VF unt R ↔ x ∈ R ∧ x ≤ unt := by
  unfold VF
  rw [List.mem_filter]
  simp
theorem SL_VF {unt : Nat} {R : List Nat} (h : SL R) : SL (VF unt R) := List.Pairwise.filter _ h
theorem VF_app {unt : Nat} {R K : List Nat} : VF unt (R ++ K) = VF unt R ++ VF unt K := List.filter_append ..
/-- the class's way through the minutes -/
def KP (cnt unt : Nat) (G R : List Nat) (c : Nat) (L L' : List Nat) : Prop := SL L' ∧ BL L' ∧ L'.length ≤ 40 ∧ ∀ A : Nat → Prop, F40 A L → F40 (fun x => A x ∨ (x ∈ (VF unt R).take (cnt - c) ∧ ¬ x ∈ G)) L'
theorem KP_none {cnt unt c : Nat} {G R L : List Nat} (h1 : SL L) (h2 : BL L) (h3 : L.length ≤ 40) (h : (VF unt R).take (cnt - c) = []) : KP cnt unt G R c L L := by
  refine ⟨h1, h2, h3, fun A hA => F40_congr hA (fun x => ?_)⟩
  rw [h]
  simp
theorem KP_nil {cnt unt c : Nat} {G L : List Nat} (h1 : SL L) (h2 : BL L) (h3 : L.length ≤ 40) : KP cnt unt G [] c L L :=
  KP_none h1 h2 h3 (by simp [VF])
theorem KP_cnt {cnt unt c : Nat} {G R L : List Nat} (h1 : SL L) (h2 : BL L) (h3 : L.length ≤ 40) (h : cnt ≤ c) : KP cnt unt G R c L L :=
  KP_none h1 h2 h3 (by rw [show cnt - c = 0 by omega]; rfl)
theorem KP_unt {cnt unt c m : Nat} {G R L : List Nat} (h1 : SL L) (h2 : BL L) (h3 : L.length ≤ 40) (hR : SL (m :: R)) (h : unt < m) : KP cnt unt G (m :: R) c L L := by
  refine KP_none h1 h2 h3 ?_
  rw [VF_gt]
  · simp
  · intro x hx
    rcases List.mem_cons.mp hx with u | u
    · omega
    · have := (List.pairwise_cons.mp hR).1 x u
      omega
theorem KP_full {cnt unt c m : Nat} {G R L : List Nat} (h1 : SL L) (h2 : BL L) (h3 : L.length = 40) (hR : SL (m :: R)) (h : ∀ y, y ∈ L → y < m) : KP cnt unt G (m :: R) c L L := by
  refine ⟨h1, h2, by omega, fun A hA => F40_full hA h3 (fun x hx => Or.inl hx) (fun x hx => ?_)⟩
  rcases hx with u | u
  · exact Or.inl u
  · right
    intro y hy
    have a := h y hy
    have := (mem_VF.mp (List.mem_of_mem_take u.1)).1
    rcases List.mem_cons.mp this with v | v
    · omega
    · have := (List.pairwise_cons.mp hR).1 x v
      omega
theorem tk_cons {unt m cnt c : Nat} {R : List Nat} (hm : m ≤ unt) (hc : c < cnt) : (VF unt (m :: R)).take (cnt - c) = m :: (VF unt R).take (cnt - (c + 1)) := by
  rw [VF_cons_le hm, show cnt - c = (cnt - (c + 1)) + 1 by omega]
  rfl
theorem KP_take {cnt unt c m : Nat} {G R L L' : List Nat} (hm : m ≤ unt) (hc : c < cnt) (hG : ¬ m ∈ G) (h : KP cnt unt G R (c + 1) ((insL m L).take 40) L') : KP cnt unt G (m :: R) c L L' := by
  refine ⟨h.1, h.2.1, h.2.2.1, fun A hA => F40_congr (h.2.2.2 _ (F40_ins hA m)) (fun x => ?_)⟩
  rw [tk_cons hm hc, List.mem_cons]
  constructor
  · rintro ((u | u) | u)
    · exact Or.inl u
    · exact Or.inr ⟨Or.inl u, by rw [u]; exact hG⟩
    · exact Or.inr ⟨Or.inr u.1, u.2⟩
  · rintro (u | ⟨u | u, v⟩)
    · exact Or.inl (Or.inl u)
    · exact Or.inl (Or.inr u)
    · exact Or.inr ⟨u, v⟩
theorem KP_gone {cnt unt c m : Nat} {G R L L' : List Nat} (hm : m ≤ unt) (hc : c < cnt) (hG : m ∈ G) (h : KP cnt unt G R (c + 1) L L') : KP cnt unt G (m :: R) c L L' := by
  refine ⟨h.1, h.2.1, h.2.2.1, fun A hA => F40_congr (h.2.2.2 A hA) (fun x => ?_)⟩
  rw [tk_cons hm hc, List.mem_cons]
  constructor
  · rintro (u | u)
    · exact Or.inl u
    · exact Or.inr ⟨Or.inr u.1, u.2⟩
  · rintro (u | ⟨u | u, v⟩)
    · exact Or.inl u
    · exact absurd (u ▸ hG) v
    · exact Or.inr ⟨u, v⟩
/-- the reference's way -/
def MC (lim unt : Nat) (R : List Nat) (c : Nat) (L : List Nat) (c' : Nat) (L' : List Nat) : Prop := SL L' ∧ BL L' ∧ c' = c + ((VF unt R).take (lim - c)).length ∧ L'.length ≤ L.length + (c' - c) ∧ ∀ x, x ∈ L' ↔ x ∈ L ∨ x ∈ (VF unt R).take (lim - c)
theorem MC_none {lim unt c : Nat} {R L : List Nat} (h1 : SL L) (h2 : BL L) (h : (VF unt R).take (lim - c) = []) : MC lim unt R c L c L := by
  refine ⟨h1, h2, by rw [h]; rfl, by omega, fun x => ?_⟩
  rw [h]
  simp
theorem MC_nil {lim unt c : Nat} {L : List Nat} (h1 : SL L) (h2 : BL L) : MC lim unt [] c L c L := MC_none h1 h2 (by simp [VF])
theorem MC_full {lim unt c : Nat} {R L : List Nat} (h1 : SL L) (h2 : BL L) (h : lim ≤ c) : MC lim unt R c L c L := MC_none h1 h2 (by rw [show lim - c = 0 by omega]; rfl)
theorem MC_gt {lim unt c : Nat} {R L : List Nat} (h1 : SL L) (h2 : BL L) (h : ∀ x, x ∈ R → unt < x) : MC lim unt R c L c L := MC_none h1 h2 (by rw [VF_gt h]; simp)
theorem MC_app {lim unt c c1 c2 : Nat} {R K L L1 L2 : List Nat} (h : MC lim unt R c L c1 L1) (g : MC lim unt K c1 L1 c2 L2) : MC lim unt (R ++ K) c L c2 L2 := by
  obtain ⟨a1, a2, a3, a4, a5⟩ := h
  obtain ⟨b1, b2, b3, b4, b5⟩ := g
  have e : (VF unt (R ++ K)).take (lim - c) = (VF unt R).take (lim - c) ++ (VF unt K).take (lim - c1) := by
    rw [VF_app, List.take_append, a3, List.length_take]
    congr 2
    omega
  refine ⟨b1, b2, by rw [e, List.length_append]; omega, by omega, fun x => ?_⟩
  rw [e, List.mem_append, b5, a5]
  constructor
  · rintro ((u | u) | u)
    · exact Or.inl u
    · exact Or.inr (Or.inl u)
    · exact Or.inr (Or.inr u)
  · rintro (u | u | u)
    · exact Or.inl (Or.inl u)
    · exact Or.inl (Or.inr u)
    · exact Or.inr u
theorem MC_take {lim unt c m : Nat} {L : List Nat} (h1 : SL L) (h2 : BL L) (hb : m ≤ 10519199) (hm : m ≤ unt) (hc : c < lim) : MC lim unt [m] c L (c + 1) (insL m L) := by
  have e : (VF unt [m]).take (lim - c) = [m] := by
    rw [tk_cons hm hc]
    simp [VF]
  refine ⟨SL_ins h1, BL_ins h2 hb, by rw [e]; rfl, by have := (len_insL (m := m) (L := L)).2; omega, fun x => ?_⟩
  rw [e, mem_insL]
  simp
  exact Or.comm
theorem win_len {D : List Nat} {lo n : Nat} (h : SL D) (hb : ∀ x, x ∈ D → lo ≤ x ∧ x < lo + n) : D.length ≤ n := by
  have := pigeon (W := D) (K := List.range' lo n) (SL_nodup h) (fun x hx => by
    rw [List.mem_range'_1]
    exact hb x hx)
  rw [List.length_range'] at this
  exact this
