/-! pure: the least 40 of a set -/
theorem SL_ext : ∀ {L L' : List Nat}, SL L → SL L' → (∀ x, x ∈ L ↔ x ∈ L') → L = L'
  | [], [], _, _, _ => rfl
  | [], b :: K, _, _, h => absurd ((h b).mpr (List.mem_cons_self ..)) (by simp)
  | a :: L, [], _, _, h => absurd ((h a).mp (List.mem_cons_self ..)) (by simp)
  | a :: L, b :: K, h1, h2, h => by
    have p1 := List.pairwise_cons.mp h1
    have p2 := List.pairwise_cons.mp h2
    have e : a = b := by
      have u := (h a).mp (List.mem_cons_self ..)
      have v := (h b).mpr (List.mem_cons_self ..)
      rcases List.mem_cons.mp u with u | u
      · exact u
      · rcases List.mem_cons.mp v with v | v
        · exact v.symm
        · have := p2.1 a u
          have := p1.1 b v
          omega
    subst e
    rw [SL_ext p1.2 p2.2 (fun x => ?_)]
    constructor
    · intro hx
      rcases List.mem_cons.mp ((h x).mp (List.mem_cons_of_mem _ hx)) with u | u
      · have := p1.1 x hx
        omega
      · exact u
    · intro hx
      rcases List.mem_cons.mp ((h x).mpr (List.mem_cons_of_mem _ hx)) with u | u
      · have := p2.1 x hx
        omega
      · exact u
theorem SL_nodup {L : List Nat} (h : SL L) : L.Nodup := h.imp (fun u => Nat.ne_of_lt u)
theorem pigeon : ∀ {W K : List Nat}, W.Nodup → (∀ x, x ∈ W → x ∈ K) → W.length ≤ K.length
  | [], _, _, _ => Nat.zero_le _
  | a :: W, K, h, hs => by
    have p := List.nodup_cons.mp h
    have m := hs a (List.mem_cons_self ..)
    have := pigeon (K := K.erase a) p.2 (fun x hx => (List.mem_erase_of_ne (fun u => p.1 (by rw [← u]; exact hx))).mpr (hs x (List.mem_cons_of_mem _ hx)))
    rw [List.length_erase_of_mem m] at this
    have := List.length_pos_of_mem m
    rw [List.length_cons]
    omega
theorem SL_td {L : List Nat} (h : SL L) (k : Nat) : SL (L.take k) ∧ ∀ a, a ∈ L.take k → ∀ b, b ∈ L.drop k → a < b := by
  have h' : SL (L.take k ++ L.drop k) := by rw [List.take_append_drop]; exact h
  have p := List.pairwise_append.mp h'
  exact ⟨p.1, p.2.2⟩
theorem mem_td {L : List Nat} {x : Nat} (k : Nat) : x ∈ L ↔ x ∈ L.take k ∨ x ∈ L.drop k := by
  rw [← List.mem_append, List.take_append_drop]
def F40 (A : Nat → Prop) (L : List Nat) : Prop := SL L ∧ L.length ≤ 40 ∧ (∀ x, x ∈ L → A x) ∧ ∀ x, A x → ¬ x ∈ L → L.length = 40 ∧ ∀ y, y ∈ L → y < x
theorem F40_sub {A : Nat → Prop} {L K : List Nat} (h : F40 A L) (g : F40 A K) {x : Nat} (hx : x ∈ L) : x ∈ K := by
  apply Classical.byContradiction
  intro n
  have u := g.2.2.2 x (h.2.2.1 x hx) n
  by_cases w : ∀ y, y ∈ K → y ∈ L
  · have := pigeon (W := x :: K) (K := L) (List.nodup_cons.mpr ⟨n, SL_nodup g.1⟩) (fun y hy => by
      rcases List.mem_cons.mp hy with e | e
      · rw [e]; exact hx
      · exact w y e)
    rw [List.length_cons] at this
    have := h.2.1
    omega
  · apply w
    intro y hy
    apply Classical.byContradiction
    intro m
    have v := (h.2.2.2 y (g.2.2.1 y hy) m).2 x hx
    have := u.2 y hy
    omega
theorem F40_uni {A : Nat → Prop} {L K : List Nat} (h : F40 A L) (g : F40 A K) : L = K :=
  SL_ext h.1 g.1 (fun _ => ⟨F40_sub h g, F40_sub g h⟩)
theorem F40_congr {A B : Nat → Prop} {L : List Nat} (h : F40 A L) (e : ∀ x, A x ↔ B x) : F40 B L :=
  ⟨h.1, h.2.1, fun x hx => (e x).mp (h.2.2.1 x hx), fun x hx n => h.2.2.2 x ((e x).mpr hx) n⟩
theorem F40_full {A B : Nat → Prop} {L : List Nat} (h : F40 A L) (hl : L.length = 40) (h1 : ∀ x, A x → B x) (h2 : ∀ x, B x → A x ∨ ∀ y, y ∈ L → y < x) : F40 B L :=
  ⟨h.1, h.2.1, fun x hx => h1 x (h.2.2.1 x hx), fun x hx n => by
    rcases h2 x hx with u | u
    · exact h.2.2.2 x u n
    · exact ⟨hl, u⟩⟩
theorem len_insL {m : Nat} : ∀ {L : List Nat}, L.length ≤ (insL m L).length ∧ (insL m L).length ≤ L.length + 1
  | [] => by simp [insL]
  | a :: L => by
    have := len_insL (m := m) (L := L)
    unfold insL
    split
    · simp
    · split
      · simp
      · simp
        omega
theorem F40_ins {A : Nat → Prop} {L : List Nat} (h : F40 A L) (m : Nat) : F40 (fun x => A x ∨ x = m) ((insL m L).take 40) := by
  have s := SL_ins (m := m) h.1
  have t := SL_td s 40
  refine ⟨t.1, by rw [List.length_take]; omega, fun x hx => ?_, fun x hx n => ?_⟩
  · rcases mem_insL.mp (List.mem_of_mem_take hx) with u | u
    · exact Or.inr u
    · exact Or.inl (h.2.2.1 x u)
  · by_cases hI : x ∈ insL m L
    · have hd : x ∈ (insL m L).drop 40 := ((mem_td 40).mp hI).resolve_left n
      refine ⟨?_, fun y hy => t.2 y hy x hd⟩
      have := List.length_pos_of_mem hd
      rw [List.length_drop] at this
      rw [List.length_take]
      omega
    · have hm : ¬ x = m := fun u => hI (mem_insL.mpr (Or.inl u))
      have hL : ¬ x ∈ L := fun u => hI (mem_insL.mpr (Or.inr u))
      have u := h.2.2.2 x (hx.resolve_right hm) hL
      have l := len_insL (m := m) (L := L)
      refine ⟨by rw [List.length_take]; omega, fun y hy => ?_⟩
      rcases mem_insL.mp (List.mem_of_mem_take hy) with v | v
      · by_cases hmL : m ∈ L
        · rw [v]; exact u.2 m hmL
        · have l2 : 41 ≤ (insL m L).length := by
            have := pigeon (W := m :: L) (K := insL m L) (List.nodup_cons.mpr ⟨hmL, SL_nodup h.1⟩) (fun z hz => mem_insL.mpr (List.mem_cons.mp hz))
            rw [List.length_cons] at this
            omega
          have : 0 < ((insL m L).drop 40).length := by rw [List.length_drop]; omega
          obtain ⟨w, hw⟩ := List.exists_mem_of_length_pos this
          have a1 := t.2 y hy w hw
          rcases mem_insL.mp (List.mem_of_mem_drop hw) with c | c
          · omega
          · have := u.2 w c
            omega
      · exact u.2 y v
theorem F40_filter {L : List Nat} (h : SL L) (G : List Nat) : F40 (fun x => x ∈ L ∧ ¬ x ∈ G) ((L.filter (fun x => decide (¬ x ∈ G))).take 40) := by
  have s : SL (L.filter (fun x => decide (¬ x ∈ G))) := List.Pairwise.filter _ h
  have t := SL_td s 40
  have mf : ∀ x, x ∈ L.filter (fun x => decide (¬ x ∈ G)) ↔ x ∈ L ∧ ¬ x ∈ G := fun x => by rw [List.mem_filter]; simp
  refine ⟨t.1, by rw [List.length_take]; omega, fun x hx => (mf x).mp (List.mem_of_mem_take hx), fun x hx n => ?_⟩
  have hd := ((mem_td 40).mp ((mf x).mpr hx)).resolve_left n
  refine ⟨?_, fun y hy => t.2 y hy x hd⟩
  have := List.length_pos_of_mem hd
  rw [List.length_drop] at this
  rw [List.length_take]
  omega
/-- the reference stops at 59 days of the rule: enough -/
theorem F40_59 {S : Nat} {X U G L : List Nat} (hU : SL U) (hG : G.length ≤ 18) (h : F40 (fun x => (x = S ∨ x ∈ X ∨ x ∈ U.take 59) ∧ ¬ x ∈ G) L) : F40 (fun x => (x = S ∨ x ∈ X ∨ x ∈ U) ∧ ¬ x ∈ G) L := by
  have t := SL_td hU 59
  refine ⟨h.1, h.2.1, fun x hx => ?_, fun x hx n => ?_⟩
  · have u := h.2.2.1 x hx
    refine ⟨?_, u.2⟩
    rcases u.1 with v | v | v
    · exact Or.inl v
    · exact Or.inr (Or.inl v)
    · exact Or.inr (Or.inr (List.mem_of_mem_take v))
  · obtain ⟨hx, hg⟩ := hx
    by_cases hU' : x = S ∨ x ∈ X ∨ x ∈ U.take 59
    · exact h.2.2.2 x ⟨hU', hg⟩ n
    · have hd : x ∈ U.drop 59 := by
        rcases hx with v | v | v
        · exact absurd (Or.inl v) hU'
        · exact absurd (Or.inr (Or.inl v)) hU'
        · exact ((mem_td 59).mp v).resolve_left (fun w => hU' (Or.inr (Or.inr w)))
      have hl : (U.take 59).length = 59 := by
        have := List.length_pos_of_mem hd
        rw [List.length_drop] at this
        rw [List.length_take]
        omega
      have : ∃ w, w ∈ U.take 59 ∧ ¬ w ∈ G ∧ ¬ w ∈ L := by
        apply Classical.byContradiction
        intro c
        have := pigeon (W := U.take 59) (K := G ++ L) (SL_nodup t.1) (fun w hw => by
          rw [List.mem_append]
          apply Classical.byContradiction
          intro c2
          exact c ⟨w, hw, fun a => c2 (Or.inl a), fun a => c2 (Or.inr a)⟩)
        rw [hl, List.length_append] at this
        have := h.2.1
        omega
      obtain ⟨w, w1, w2, w3⟩ := this
      have a := h.2.2.2 w ⟨Or.inr (Or.inr w1), w2⟩ w3
      exact ⟨a.1, fun y hy => Nat.lt_trans (a.2 y hy) (t.2 w w1 x hd)⟩
