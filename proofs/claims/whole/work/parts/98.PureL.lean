/-! pure: a rule that was read, as both sides follow it -/
def MRule (FU S : Nat) (U : List Nat) (fr' : Int32) (iv lim unt wb mo : Int32) (mr : Nat → Int32) (md : Int32) (dr : Nat → Int32) (wd : Int32) (wr wn : Nat → Int32) (po : Int32) (pr : Nat → Int32) : Prop := (fr' = -1 ∧ U = []) ∨ (¬ fr' < 0 ∧ ∀ (L : List Nat) (dy y m dd fg tk : Int32) (fr r : Nat → Int32), L.length ≤ 1 → AR r L → SL L → BL L → ∃ (dy' y' m' dd' fg' tk' : Int32), ∃ (fw r' : Nat → Int32), ∃ (L' : List Nat), f_M_followRule FU (nI S) fr' iv lim unt wb mo mr md dr wd wr wn po pr dy y m dd fg fr tk (nI L.length) r = some (dy', y', m', dd', fg', fw, tk', nI L'.length, r') ∧ AR r' L' ∧ SL L' ∧ BL L' ∧ L'.length ≤ 60 ∧ ∀ x, x ∈ L' ↔ x ∈ L ∨ x ∈ U.take 59)
theorem per_ex (f w : Nat) : ∃ per : Nat → Nat, ∀ d Y M, DT d Y M → per d = PV f w d Y M := by
  have key : ∀ d : Nat, ∃ p : Nat, ∀ Y M, DT d Y M → p = PV f w d Y M := fun d => by
    by_cases h : ∃ Y M, DT d Y M
    · obtain ⟨Y, M, h⟩ := h
      refine ⟨PV f w d Y M, fun Z N g => ?_⟩
      obtain ⟨rfl, rfl⟩ := DT_uni h g
      rfl
    · exact ⟨0, fun Y M g => absurd ⟨Y, M, g⟩ h⟩
  exact Classical.axiomOfChoice key
theorem bool_of (P : Nat → Prop) : ∃ b : Nat → Bool, ∀ d, b d = true ↔ P d := by
  have key : ∀ d : Nat, ∃ b : Bool, b = true ↔ P d := fun d => by
    by_cases h : P d
    · exact ⟨true, ⟨fun _ => h, fun _ => rfl⟩⟩
    · exact ⟨false, ⟨fun u => absurd u (by decide), fun u => absurd u h⟩⟩
  exact Classical.axiomOfChoice key
theorem z_if {z : Int32} {b : Bool} {P : Prop} (h : z = 0 ∨ z = 1) (h1 : z = 1 ↔ P) (h2 : b = true ↔ P) : z = if b = true then 1 else 0 := by
  by_cases w : P
  · rw [if_pos (h2.mpr w), h1.mpr w]
  · rw [if_neg (fun u => w (h2.mp u))]
    rcases h with h | h
    · exact h
    · exact absurd (h1.mp h) w
theorem c_ruled {FU S f Q : Nat} {G : List Nat} {gr : Nat → Int32} {givn : Int32} {intv : Int32} {cnt : Int32} {untl : Int32} {wst : Int32} {km : Int32} {kd : Int32} {ke : Int32} {kw : Int32} {nW : Nat → Int32} {wN : Nat → Int32} {nS : Int32} {ps : Nat → Int32} {pS : Int32} {parts : Int32} {iv : Int32} {lim : Int32} {unt : Int32} {wb : Int32} {mo : Int32} {mr : Nat → Int32} {md : Int32} {dr : Nat → Int32} {wd : Int32} {wr : Nat → Int32} {wn : Nat → Int32} {po : Int32} {pr : Nat → Int32} (hF : 8000 < FU) (hS : S ≤ 10519199) (hG : AR gr G) (hGB : BL G) (hGl : G.length ≤ 18) (hf : f < 4) (hR : RR Q givn intv cnt untl wst km kd ke kw nW wN nS ps pS parts iv lim unt wb mo mr md dr wd wr wn po pr) : ∃ U : List Nat, SL U ∧ KRule FU S G U 1 (nI (f + 1)) givn intv cnt untl wst km kd ke kw nW wN nS ps pS gr ∧ MRule FU S U (nI f) iv lim unt wb mo mr md dr wd wr wn po pr := by
  obtain ⟨hQ, rfl, rfl, ⟨v, hv1, hv2, rfl, rfl⟩, ⟨hc1, hc2⟩, ⟨hu1, hu2⟩, ⟨w, hw, rfl, rfl⟩, ⟨c4, h4, rfl, b4, i4⟩, ⟨c5, h5, rfl, b5, i5⟩, ⟨c6, h6, rfl, b6, i6⟩, ⟨c7, h7, rfl, b7, i7⟩⟩ := hR
  obtain ⟨per, hp⟩ := per_ex f w
  obtain ⟨YS, MS, hD⟩ := DT_ex (S / 1440) (by omega)
  obtain ⟨fit, hfit⟩ := bool_of (fun d => ∃ Y M, DT d Y M ∧ P1 c4 mr M ∧ P2 c5 dr d Y M ∧ P3 f c4 c6 wr wn d Y M ∧ P4 f c4 c5 c6 d Y M (S / 1440) YS MS)
  have hfit' : ∀ d Y M, DT d Y M → (fit d = true ↔ (P1 c4 mr M ∧ P2 c5 dr d Y M ∧ P3 f c4 c6 wr wn d Y M ∧ P4 f c4 c5 c6 d Y M (S / 1440) YS MS)) := fun d Y M hd => by
    rw [hfit d]
    constructor
    · rintro ⟨Z, N, g, g2⟩
      obtain ⟨rfl, rfl⟩ := DT_uni hd g
      exact g2
    · intro g
      exact ⟨Y, M, hd, g⟩
  have hst0 : ∃ st : Nat → Nat → Bool, ∀ i n, st i n = true ↔ PS c7 pr i n := by
    have key : ∀ i : Nat, ∃ b : Nat → Bool, ∀ n, b n = true ↔ PS c7 pr i n := fun i => bool_of (fun n => PS c7 pr i n)
    exact Classical.axiomOfChoice key
  obtain ⟨st, hst⟩ := hst0
  obtain ⟨cn, lm, hcn, hcn2, hlm, hll⟩ : ∃ cn lm : Nat, cnt = nI cn ∧ cn ≤ 7306 ∧ LIM lim lm ∧ lm - 1 = min 59 (cn - 1) := by
    cases hb : Q.testBit 1 with
    | true =>
      obtain ⟨c, k1, k2, k3, k4⟩ := hc1 hb
      exact ⟨c, min 60 c, k3, by omega, Or.inr ⟨c, k1, k2, k4, rfl⟩, by omega⟩
    | false =>
      obtain ⟨k1, k2⟩ := hc2 hb
      exact ⟨7306, 60, k1, by omega, Or.inl ⟨k2, rfl⟩, by decide⟩
  obtain ⟨un, hun, hun2, hunt⟩ : ∃ un : Nat, untl = nI un ∧ un ≤ 10519199 ∧ UNT unt un := by
    cases hb : Q.testBit 2 with
    | true =>
      obtain ⟨T, k1, k2, k3⟩ := hu1 hb
      exact ⟨T, k2, k1, Or.inr ⟨k3, k1⟩⟩
    | false =>
      obtain ⟨k1, k2⟩ := hu2 hb
      exact ⟨10519199, k1, by omega, Or.inl ⟨k2, rfl⟩⟩
  have hmono := per_mono hf hw hp
  have hsl := SL_rfs (fit := fit) (st := st) (t := S % 1440) (S := S) (p0 := per (S / 1440)) (iv := v) hmono (per (S / 1440))
  refine ⟨(VF un (rfs (cpk per fit st (S % 1440) S (per (S / 1440)) v) (per (S / 1440)))).take (cn - 1), (SL_td (SL_VF hsl) _).1, ?_, ?_⟩
  · refine Or.inr ⟨rfl, f, w, v, YS, MS, cn, un, per, fit, st, rfl, rfl, hcn, hun, rfl, ?_, rfl⟩
    refine ⟨hF, hS, Nat.mod_lt _ (by omega), ⟨hG, hGB, hGl⟩, fun i n hi hn => ?_, hcn2, hun2, hf, hw, hD, ⟨hv1, hv2⟩, hp, fun d Y M dy yr mo' yF yL mF mL hk => ?_⟩
    · obtain ⟨z, z1, z2, z3⟩ := k_stays (FU := FU) (by omega) hQ h7 b7 i7 hi hn
      rw [z3, z_if z1 z2 (hst i n)]
    · obtain ⟨z, z1, z2, z3⟩ := k_fits (FU := FU) (by omega) hQ hf h4 h5 h6 b4 b5 b6 i4 i5 i6 hk hD
      rw [z3, z_if z1 z2 (hfit' d Y M hk.1)]
  · refine Or.inr ⟨nI_pos (by omega), fun L dy y m dd fg tk fr r hL a1 a2 a3 => ?_⟩
    have hP : MPar FU f w v S (S / 1440) YS MS lm un per fit st lim unt (nI c4) (nI c5) (nI c6) (nI c7) mr dr wr wn pr := by
      refine ⟨hF, hS, hlm, hunt, hf, hw, hD, ⟨hv1, hv2⟩, hp, fun i n hi hn => ?_, fun d Y M hd => ?_⟩
      · obtain ⟨z, z1, z2, z3⟩ := m_isPos (FU := FU) (by omega) h7 (fun j hj => (i7.2 j hj).2) hi hn
        rw [z3, z_if z1 z2 (hst i n)]
      · have l := hd.2.2
        obtain ⟨z1, a1, a2, a3⟩ := m_fitsMonth (FU := FU) (r := mr) (nI (M + 1)) (by omega) h4
        obtain ⟨z2, b1, b2, b3⟩ := m_fitsMonthDay (FU := FU) (r := dr) (dm := d - fom Y (M + 1) + 1) (by omega) h5 hd.1 hd.2.1 (by omega) (by omega) i5.1
        obtain ⟨z3, c1, c2, c3⟩ := m_fitsWeekday (FU := FU) (c4 := c4) (wr := wr) (by omega) hf h4 h6 hd (fun j hj => (i6.1 j hj).2)
        obtain ⟨z4, d1, d2, d3⟩ := m_fitsStart (FU := FU) hf h4 h5 h6 hd hD
        refine ⟨z1, z2, z3, z4, a3, b3, c3, d3, ?_⟩
        have n0 : ∀ z : Int32, (z = 0 ∨ z = 1) → (¬ z = 0 ↔ z = 1) := fun z h => by
          rcases h with rfl | rfl
          · exact ⟨fun u => absurd rfl u, fun u => absurd u (by decide)⟩
          · exact ⟨fun _ => rfl, fun _ => by decide⟩
        rw [hfit' d Y M hd, n0 z1 a1, n0 z2 b1, n0 z3 c1, n0 z4 d1, a2, b2, c2, d2]
        exact Iff.rfl
    obtain ⟨x1, x2, x3, x4, x5, fw, T', L', r', e1, e2, e3⟩ := m_follow (dy := dy) (y := y) (m := m) (dd := dd) (fg := fg) (tk := tk) (fr := fr) hP rfl hL a1 a2 a3
    have hl := lim_60 hlm
    obtain ⟨q1, q2, q3, q4, q5⟩ := e3
    rw [List.length_take] at q3
    refine ⟨x1, x2, x3, x4, x5, nI T', fw, r', L', e1, e2, q1, q2, by omega, fun x => ?_⟩
    rw [q5 x, List.take_take, hll]
