/-! pure: the class fills an event -/
theorem k_ruleDays {FU f w iv S YS MS cnt unt : Nat} {per : Nat → Nat} {fit : Nat → Bool} {st : Nat → Nat → Bool} {G L : List Nat} {gv km kd ke kw nS pS : Int32} {nW wN ps gr fr r : Nat → Int32} {s1 s2 s3 s4 s5 s6 s7 dy yr mo yF yL mF mL fs : Int32} (hP : KPar FU f w iv S (S / 1440) YS MS (S % 1440) cnt unt per fit st G gv km kd ke kw nS pS nW wN ps gr) (hs : DOK s2 s3 s4 s5 s6 s7) (hd : DOK yr mo yF yL mF mL) (a1 : AR r L) (a2 : SL L) (a3 : BL L) (a4 : L.length ≤ 40) : ∃ (s1' s2' s3' s4' s5' s6' s7' : Int32), DOK s2' s3' s4' s5' s6' s7' ∧ KRes cnt unt G (rfs (cpk per fit st (S % 1440) S (per (S / 1440)) iv) (per (S / 1440))) 1 L s1' s2' s3' s4' s5' s6' s7' (f_Expansion_offerRuleDays FU s1 s2 s3 s4 s5 s6 s7 dy yr mo yF yL mF mL fr fs r (nI L.length) (nI S) (nI (f + 1)) gv (nI iv) (nI cnt) (nI unt) (nI w) km kd ke kw nW wN nS ps pS gr (nI G.length)) := by
  have hP' := hP
  obtain ⟨hF, hS, ht, ⟨hG, hGB, hGl⟩, hst, hcnt, hunt, hf, hw, hD, ⟨hv1, hv2⟩, hp, hfit⟩ := hP'
  unfold f_Expansion_offerRuleDays f_Draft_rule f_Draft_start
  obtain ⟨s1', s2', s3', s4', s5', s6', s7', e1, e2⟩ := k_move (FU := FU) (dy := s1) (by omega) hD hs
  have e3 := e2
  obtain ⟨_, q1, q2, q3, q4, q5, q6, q7⟩ := e3
  rw [bd_ok, bd_ok, show nI S / 1440 = nI (S / 1440) from pk_div (d := 1440) (by omega) (by omega) (by omega), e1, bd_ok, bd_ok, nm_eq]
  dsimp only
  rw [show nI S - nI S / 1440 * 1440 = nI (S % 1440) from pk_rem (d := 1440) (by omega) (by omega) (by omega)]
  refine ⟨s1', s2', s3', s4', s5', s6', s7', e2.dok, ?_⟩
  rw [q1, q2, q3, q6]
  have := k_36 (s4 := s4') (s5 := s5') (s7 := s7') hP FU 0 1 L r dy yr mo yF yL mF mL fr fs (by omega) (by omega) (Or.inl rfl) (by omega) a1 a2 a3 a4 hd
  rw [Nat.zero_mul, Nat.add_zero] at this
  exact this
theorem F40_off {A : Nat → Prop} {L G : List Nat} (h : F40 A L) (m : Nat) : F40 (fun x => A x ∨ (x = m ∧ ¬ x ∈ G)) (if m ∈ G then L else (insL m L).take 40) := by
  by_cases g : m ∈ G
  · rw [if_pos g]
    refine F40_congr h (fun x => ⟨fun u => Or.inl u, fun u => ?_⟩)
    rcases u with u | u
    · exact u
    · exact absurd (u.1 ▸ g) u.2
  · rw [if_neg g]
    refine F40_congr (F40_ins h m) (fun x => ⟨fun u => ?_, fun u => ?_⟩)
    · rcases u with u | u
      · exact Or.inl u
      · exact Or.inr ⟨u, by rw [u]; exact g⟩
    · rcases u with u | u
      · exact Or.inl u
      · exact Or.inr u.1
theorem off_ok {L G : List Nat} {m : Nat} (a2 : SL L) (a3 : BL L) (a4 : L.length ≤ 40) (hm : m ≤ 10519199) : SL (if m ∈ G then L else (insL m L).take 40) ∧ BL (if m ∈ G then L else (insL m L).take 40) ∧ (if m ∈ G then L else (insL m L).take 40).length ≤ 40 := by
  by_cases g : m ∈ G
  · rw [if_pos g]; exact ⟨a2, a3, a4⟩
  · rw [if_neg g]; exact ⟨(SL_td (SL_ins a2) 40).1, BL_take (BL_ins a3 hm) 40, by rw [List.length_take]; omega⟩
theorem F40_nil : F40 (fun _ => False) [] := ⟨List.Pairwise.nil, by decide, fun x hx => absurd hx (by simp), fun x hx => absurd hx (by simp)⟩
/-- which minutes the rule adds to the start and to the lines of RDATE -/
def KRule (FU S : Nat) (G U : List Nat) (rec : Int32) (fq gv ivv kc ku ws km kd ke kw : Int32) (nW wN : Nat → Int32) (nS : Int32) (ps : Nat → Int32) (pS : Int32) (gr : Nat → Int32) : Prop :=
  (rec = 0 ∧ U = []) ∨ (rec = 1 ∧ ∃ (f w iv YS MS cnt unt : Nat), ∃ (per : Nat → Nat), ∃ (fit : Nat → Bool), ∃ (st : Nat → Nat → Bool), fq = nI (f + 1) ∧ ivv = nI iv ∧ kc = nI cnt ∧ ku = nI unt ∧ ws = nI w ∧ KPar FU f w iv S (S / 1440) YS MS (S % 1440) cnt unt per fit st G gv km kd ke kw nS pS nW wN ps gr ∧ U = (VF unt (rfs (cpk per fit st (S % 1440) S (per (S / 1440)) iv) (per (S / 1440)))).take (cnt - 1))
theorem k_fill19 {FU S : Nat} {G U X : List Nat} {dn dr rec fq gv ivv kc ku ws km kd ke kw nS pS : Int32} {nW wN ps gr ar : Nat → Int32} {s1 s2 s3 s4 s5 s6 s7 dy yr mo yF yL mF mL fs : Int32} {fr : Nat → Int32} (hF : 8000 < FU) (hG : AR gr G) (hGB : BL G) (hGl : G.length ≤ 18) (hX : AR ar X) (hXB : BL X) (hXl : X.length ≤ 18) (hR : KRule FU S G U rec fq gv ivv kc ku ws km kd ke kw nW wN nS ps pS gr) (hs : DOK s2 s3 s4 s5 s6 s7) (hd : DOK yr mo yF yL mF mL) : ∀ q i (A : Nat → Prop) (L : List Nat) (r : Nat → Int32), i ≤ X.length → X.length - i < q → AR r L → SL L → BL L → L.length ≤ 40 → F40 A L → ∃ (s1' s2' s3' s4' s5' s6' s7' dy' yr' mo' yF' yL' mF' mL' : Int32), ∃ (fr' : Nat → Int32), ∃ (fs' : Int32), ∃ (r' : Nat → Int32), ∃ (L' : List Nat), f_Expansion_fill_19 FU (nI S) dn rec fq gv ivv kc ku ws km kd ke kw nW wN nS ps pS ar (nI X.length) gr (nI G.length) q (nI i) s1 s2 s3 s4 s5 s6 s7 dy yr mo yF yL mF mL fr fs r (nI L.length) dr = some (s1', s2', s3', s4', s5', s6', s7', dy', yr', mo', yF', yL', mF', mL', fr', fs', r', nI L'.length, dr) ∧ DOK s2' s3' s4' s5' s6' s7' ∧ DOK yr' mo' yF' yL' mF' mL' ∧ AR r' L' ∧ BL L' ∧ F40 (fun x => A x ∨ ((x ∈ X.drop i ∨ x ∈ U) ∧ ¬ x ∈ G)) L' := by
  intro q
  induction q with
  | zero => intro i A L r _ h; omega
  | succ q ih =>
    intro i A L r hi hq a1 a2 a3 a4 hA
    show ∃ (s1' s2' s3' s4' s5' s6' s7' dy' yr' mo' yF' yL' mF' mL' : Int32), ∃ (fr' : Nat → Int32), ∃ (fs' : Int32), ∃ (r' : Nat → Int32), ∃ (L' : List Nat), f_Expansion_fill_19_hd FU (nI S) dn rec fq gv ivv kc ku ws km kd ke kw nW wN nS ps pS ar (nI X.length) gr (nI G.length) (f_Expansion_fill_19 FU (nI S) dn rec fq gv ivv kc ku ws km kd ke kw nW wN nS ps pS ar (nI X.length) gr (nI G.length) q) (nI i) s1 s2 s3 s4 s5 s6 s7 dy yr mo yF yL mF mL fr fs r (nI L.length) dr = some (s1', s2', s3', s4', s5', s6', s7', dy', yr', mo', yF', yL', mF', mL', fr', fs', r', nI L'.length, dr) ∧ DOK s2' s3' s4' s5' s6' s7' ∧ DOK yr' mo' yF' yL' mF' mL' ∧ AR r' L' ∧ BL L' ∧ F40 (fun x => A x ∨ ((x ∈ X.drop i ∨ x ∈ U) ∧ ¬ x ∈ G)) L'
    unfold f_Expansion_fill_19_hd f_Draft_added f_Times_size f_Draft_isRecurring
    rw [bd_ok, bd_ok]
    by_cases hin : X.length ≤ i
    · rw [if_pos (nI_le hin (by omega)), List.drop_of_length_le hin]
      rcases hR with ⟨rfl, rfl⟩ | ⟨rfl, f, w, iv, YS, MS, cnt, unt, per, fit, st, rfl, rfl, rfl, rfl, rfl, hP, rfl⟩
      · rw [ckz_0, bd_ok, if_pos rfl]
        exact ⟨s1, s2, s3, s4, s5, s6, s7, dy, yr, mo, yF, yL, mF, mL, fr, fs, r, L, rfl, hs, hd, a1, a3, F40_congr hA (fun x => by simp)⟩
      · rw [ckz_1, bd_ok, if_neg (show ¬ (1 : Int32) = 0 by decide)]
        obtain ⟨s1', s2', s3', s4', s5', s6', s7', g1, dy', yr', mo', yF', yL', mF', mL', fr', fs', r', L', g2, g3, g4, g5⟩ := k_ruleDays (s1 := s1) (dy := dy) (fr := fr) (fs := fs) hP hs hd a1 a2 a3 a4
        rw [g2, bd_ok]
        refine ⟨s1', s2', s3', s4', s5', s6', s7', dy', yr', mo', yF', yL', mF', mL', fr', fs', r', L', rfl, g1, g3, g4, g5.2.1, F40_congr (g5.2.2.2 A hA) (fun x => by simp)⟩
    · rw [if_neg (nI_ge (by omega) (by omega)), bd_ok]
      have hx := hXB _ (getD_mem (show i < X.length by omega))
      unfold f_Times_get
      rw [if_neg (nI_pos (by omega)), if_neg (nI_ge (by omega) (by omega)), ck_ok (show i < 18 by omega) (by omega), bd_ok, nI_clamp (show i < 2 ^ 31 by omega), hX i (by omega)]
      obtain ⟨r1, e1, e2⟩ := k_offer (FU := FU) (m := X.getD i 0) (by omega) a1 a2 a3 hx a4 hG hGB hGl
      have o := off_ok (G := G) a2 a3 a4 hx
      rw [e1, bd_ok, nI_1]
      obtain ⟨s1', s2', s3', s4', s5', s6', s7', dy', yr', mo', yF', yL', mF', mL', fr', fs', r', L', g1, g2, g3, g4, g5, g6⟩ := ih (i + 1) _ _ r1 (by omega) (by omega) e2 o.1 o.2.1 o.2.2 (F40_off (G := G) hA (X.getD i 0))
      refine ⟨s1', s2', s3', s4', s5', s6', s7', dy', yr', mo', yF', yL', mF', mL', fr', fs', r', L', g1, g2, g3, g4, g5, F40_congr g6 (fun x => ?_)⟩
      rw [drop_cons (show i < X.length by omega), List.mem_cons]
      constructor
      · rintro ((u | u) | ⟨u | u, v⟩)
        · exact Or.inl u
        · exact Or.inr ⟨Or.inl (Or.inl u.1), u.2⟩
        · exact Or.inr ⟨Or.inl (Or.inr u), v⟩
        · exact Or.inr ⟨Or.inr u, v⟩
      · rintro (u | ⟨(u | u) | u, v⟩)
        · exact Or.inl (Or.inl u)
        · exact Or.inl (Or.inr ⟨u, v⟩)
        · exact Or.inr ⟨Or.inl u, v⟩
        · exact Or.inr ⟨Or.inr u, v⟩
theorem k_fill {FU S : Nat} {G U X : List Nat} {dn n du rec fq gv ivv kc ku ws km kd ke kw nS pS : Int32} {nW wN ps gr ar r : Nat → Int32} {s1 s2 s3 s4 s5 s6 s7 dy yr mo yF yL mF mL fs : Int32} {fr : Nat → Int32} (hF : 8000 < FU) (hS : S ≤ 10519199) (hG : AR gr G) (hGB : BL G) (hGl : G.length ≤ 18) (hX : AR ar X) (hXB : BL X) (hXl : X.length ≤ 18) (hR : KRule FU S G U rec fq gv ivv kc ku ws km kd ke kw nW wN nS ps pS gr) (hs : DOK s2 s3 s4 s5 s6 s7) (hd : DOK yr mo yF yL mF mL) : ∃ (s1' s2' s3' s4' s5' s6' s7' dy' yr' mo' yF' yL' mF' mL' : Int32), ∃ (fr' : Nat → Int32), ∃ (fs' : Int32), ∃ (r' : Nat → Int32), ∃ (L' : List Nat), f_Expansion_fill FU s1 s2 s3 s4 s5 s6 s7 dy yr mo yF yL mF mL fr fs r n du (nI S) dn rec fq gv ivv kc ku ws km kd ke kw nW wN nS ps pS ar (nI X.length) gr (nI G.length) = some (s1', s2', s3', s4', s5', s6', s7', dy', yr', mo', yF', yL', mF', mL', fr', fs', r', nI L'.length, dn) ∧ DOK s2' s3' s4' s5' s6' s7' ∧ DOK yr' mo' yF' yL' mF' mL' ∧ AR r' L' ∧ BL L' ∧ F40 (fun x => (x = S ∨ x ∈ X ∨ x ∈ U) ∧ ¬ x ∈ G) L' := by
  unfold f_Expansion_fill f_Draft_duration f_Event_begin f_Draft_start
  rw [bd_ok, bd_ok, bd_ok]
  dsimp only
  have a1 : AR r [] := fun j hj => absurd hj (by simp)
  have a3 : BL [] := fun x hx => absurd hx (by simp)
  have a2 : SL [] := List.Pairwise.nil
  obtain ⟨r1, e1, e2⟩ := k_offer (FU := FU) (m := S) (by omega) a1 a2 a3 hS (by decide) hG hGB hGl
  have o := off_ok (G := G) a2 a3 (by decide) hS
  rw [show (0 : Int32) = nI ([] : List Nat).length from rfl, e1, bd_ok]
  obtain ⟨s1', s2', s3', s4', s5', s6', s7', dy', yr', mo', yF', yL', mF', mL', fr', fs', r', L', g1, g2, g3, g4, g5, g6⟩ := k_fill19 (dn := dn) (dr := dn) (s1 := s1) (dy := dy) (fr := fr) (fs := fs) hF hG hGB hGl hX hXB hXl hR hs hd FU 0 _ _ r1 (by omega) (by omega) e2 o.1 o.2.1 o.2.2 (F40_off (G := G) F40_nil S)
  refine ⟨s1', s2', s3', s4', s5', s6', s7', dy', yr', mo', yF', yL', mF', mL', fr', fs', r', L', g1, g2, g3, g4, g5, F40_congr g6 (fun x => ?_)⟩
  rw [List.drop_zero]
  constructor
  · rintro ((u | u) | ⟨u, v⟩)
    · exact u.elim
    · exact ⟨Or.inl u.1, u.2⟩
    · exact ⟨Or.inr u, v⟩
  · rintro ⟨u | u, v⟩
    · exact Or.inl (Or.inr ⟨u, v⟩)
    · exact Or.inr ⟨u, v⟩
