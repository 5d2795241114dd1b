/-! pure: the reference goes from day to day -/
def cb (p0 iv q : Nat) : Bool := decide (p0 ≤ q ∧ (q - p0) % iv = 0)
def DD (per : Nat → Nat) (fit : Nat → Bool) (b : Bool) (d q : Nat) : List Nat := if b = true then (List.range d).filter (fun e => decide (per e = q) && fit e) else []
theorem mem_DD {per : Nat → Nat} {fit : Nat → Bool} {b : Bool} {d q x : Nat} : x ∈ DD per fit b d q ↔ b = true ∧ x < d ∧ per x = q ∧ fit x = true := by
  unfold DD
  by_cases h : b = true
  · rw [if_pos h, List.mem_filter, List.mem_range]
    simp [h]
  · rw [if_neg h]
    simp [h]
theorem SL_DD {per : Nat → Nat} {fit : Nat → Bool} {b : Bool} {d q : Nat} : SL (DD per fit b d q) := by
  unfold DD
  split
  · exact List.Pairwise.filter _ (SL_range _)
  · exact List.Pairwise.nil
theorem DD_cpk {per : Nat → Nat} {fit : Nat → Bool} {st : Nat → Nat → Bool} {t S p0 iv q : Nat} : cpk per fit st t S p0 iv q = pks st t S (DD per fit (cb p0 iv q) 7305 q).length 0 (DD per fit (cb p0 iv q) 7305 q) := by
  unfold cpk DD cb
  by_cases h : p0 ≤ q ∧ (q - p0) % iv = 0
  · rw [if_pos h, if_pos (by simpa using h)]
    rfl
  · rw [if_neg h, if_neg (by simpa using h)]
    rfl
theorem DD_all {per : Nat → Nat} {fit : Nat → Bool} {b : Bool} {d q : Nat} (hd : d ≤ 7305) (h : ∀ e, d ≤ e → e ≤ 7304 → per e ≠ q) : DD per fit b d q = DD per fit b 7305 q := by
  refine SL_ext SL_DD SL_DD (fun x => ?_)
  rw [mem_DD, mem_DD]
  constructor
  · rintro ⟨a, c, e⟩
    exact ⟨a, by omega, e⟩
  · rintro ⟨a, c, e⟩
    refine ⟨a, ?_, e⟩
    apply Classical.byContradiction
    intro u
    exact h x (by omega) (by omega) e.1
theorem DD_succ {per : Nat → Nat} {fit : Nat → Bool} {b : Bool} {d q : Nat} : DD per fit b (d + 1) q = if b = true ∧ per d = q ∧ fit d = true then DD per fit b d q ++ [d] else DD per fit b d q := by
  unfold DD
  by_cases h : b = true
  · rw [if_pos h, if_pos h, List.range_succ, List.filter_append]
    by_cases g : per d = q ∧ fit d = true
    · rw [if_pos ⟨h, g⟩, List.filter_cons_of_pos (by simp [g.1, g.2])]
      rfl
    · rw [if_neg (fun x => g x.2), List.filter_cons_of_neg (by simpa using g)]
      simp
  · rw [if_neg h, if_neg h, if_neg (fun x => h x.1)]
theorem DD_len {per : Nat → Nat} {fit : Nat → Bool} {b : Bool} {d q : Nat} (hw : ∀ d e, d ≤ e → e ≤ 7304 → per d = per e → e < d + 366) (hd : d ≤ 7305) : (DD per fit b d q).length ≤ 366 := by
  cases h : DD per fit b d q with
  | nil => simp
  | cons a D =>
    rw [← h]
    refine win_len (lo := a) SL_DD (fun x hx => ?_)
    have ha : a ∈ DD per fit b d q := by rw [h]; exact List.mem_cons_self
    have a1 := mem_DD.mp ha
    have a2 := mem_DD.mp hx
    have hs : SL (a :: D) := by rw [← h]; exact SL_DD
    have ax : a ≤ x := by
      rw [h] at hx
      rcases List.mem_cons.mp hx with u | u
      · omega
      · have := (List.pairwise_cons.mp hs).1 x u
        omega
    exact ⟨ax, hw a x ax (by omega) (by rw [a1.2.2.1, a2.2.2.1])⟩
theorem mem_rfs2 {per : Nat → Nat} {fit : Nat → Bool} {st : Nat → Nat → Bool} {t S p0 iv q x : Nat} (h : x ∈ rfs (cpk per fit st t S p0 iv) q) : ∃ d, d ≤ 7304 ∧ q ≤ per d ∧ p0 ≤ per d ∧ x = 1440 * d + t := by
  obtain ⟨j, a, b⟩ := mem_rqs _ _ h
  obtain ⟨b1, _, _, d, d1, d2, d3⟩ := mem_cpk b
  exact ⟨d, d1, by omega, by omega, d3⟩
theorem DT_last : DT 7304 19 11 := ⟨by omega, by omega, by decide, by decide⟩
theorem m_nx {FU d Y M : Nat} (h : DT d Y M) : ∃ y m dd : Int32, f_M_nextDay FU (nI d) (nI Y) (nI (M + 1)) (nI (d - fom Y (M + 1) + 1)) = some (nI (d + 1), y, m, dd) ∧ (d < 7304 → ∃ Z N, DT (d + 1) Z N ∧ y = nI Z ∧ m = nI (N + 1) ∧ dd = nI (d + 1 - fom Z (N + 1) + 1)) := by
  by_cases c : d < 7304
  · obtain ⟨Z, N, h1, h2⟩ := m_nxt (FU := FU) h c
    exact ⟨_, _, _, h2, fun _ => ⟨Z, N, h1, rfl, rfl, rfl⟩⟩
  · obtain rfl : d = 7304 := by
      have := (DT_day h).1
      omega
    obtain ⟨rfl, rfl⟩ := DT_uni h DT_last
    unfold f_M_nextDay
    rw [nm_eq, nm_eq, t_dom FU 19 (by omega) 11 (by omega), bd_ok, nI_1, nI_1]
    split
    · unfold f_M_nextDay_53
      split
      · exact ⟨_, _, _, rfl, fun h => absurd h (by omega)⟩
      · exact ⟨_, _, _, rfl, fun h => absurd h (by omega)⟩
    · rw [nm_eq]
      unfold f_M_nextDay_53
      split
      · exact ⟨_, _, _, rfl, fun h => absurd h (by omega)⟩
      · exact ⟨_, _, _, rfl, fun h => absurd h (by omega)⟩
def MPar (FU f w iv S Sd YS MS lim unt : Nat) (per : Nat → Nat) (fit : Nat → Bool) (st : Nat → Nat → Bool) (li un mo md wd po : Int32) (mr dr wr wn pr : Nat → Int32) : Prop :=
  8000 < FU ∧ S ≤ 10519199 ∧ LIM li lim ∧ UNT un unt ∧ f < 4 ∧ w < 7 ∧ DT Sd YS MS ∧ (1 ≤ iv ∧ iv ≤ 99) ∧ (∀ d Y M, DT d Y M → per d = PV f w d Y M) ∧ (∀ i n, i < n → n ≤ 366 → f_M_isPosition FU (nI i) po pr (nI n) = some (if st i n = true then 1 else 0)) ∧
  (∀ d Y M, DT d Y M → ∃ z1 z2 z3 z4 : Int32, f_M_fitsMonth FU mo mr (nI (M + 1)) = some z1 ∧ f_M_fitsMonthDay FU md dr (nI Y) (nI (M + 1)) (nI (d - fom Y (M + 1) + 1)) = some z2 ∧ f_M_fitsWeekday FU (nI f) mo wd wr wn (nI d) (nI Y) (nI (M + 1)) (nI (d - fom Y (M + 1) + 1)) = some z3 ∧ f_M_fitsStart FU (nI (MS + 1)) (nI (Sd - fom YS (MS + 1) + 1)) (nI ((Sd + 5) % 7)) (nI f) mo md wd (nI d) (nI (M + 1)) (nI (d - fom Y (M + 1) + 1)) = some z4 ∧ (fit d = true ↔ (¬ z1 = 0 ∧ ¬ z2 = 0 ∧ ¬ z3 = 0 ∧ ¬ z4 = 0)))
theorem per_win {f w : Nat} {per : Nat → Nat} (hf : f < 4) (hw : w < 7) (hp : ∀ d Y M, DT d Y M → per d = PV f w d Y M) : ∀ d e, d ≤ e → e ≤ 7304 → per d = per e → e < d + 366 := fun d e h1 h2 h3 => by
  obtain ⟨Y, M, hd⟩ := DT_ex d (by omega)
  obtain ⟨Z, N, he⟩ := DT_ex e h2
  rw [hp d Y M hd, hp e Z N he] at h3
  exact PV_win hf hw hd he h1 h3
theorem ckd_ok {α : Type} {y : Int32} {k : Option α} (h : ¬ y = 0) : ckd y k = k := if_neg h
theorem m_165 {FU f w iv S Sd YS MS lim unt : Nat} {per : Nat → Nat} {fit : Nat → Bool} {st : Nat → Nat → Bool} {li un mo md wd po : Int32} {mr dr wr wn pr : Nat → Int32} {rc : Int32 → Int32 → Int32 → Int32 → Int32 → Int32 → Int32 → Int32 → Int32 → Int32 → Int32 → (Nat → Int32) → Int32 → Int32 → (Nat → Int32) → Option (Int32 × Int32 × Int32 × Int32 × Int32 × (Nat → Int32) × Int32 × Int32 × (Nat → Int32))} {x : Int32} {d Y M T : Nat} {ln : Int32} {fr r : Nat → Int32} (hP : MPar FU f w iv S Sd YS MS lim unt per fit st li un mo md wd po mr dr wr wn pr) (hd : DT d Y M) (hD : AR fr (DD per fit (cb (per Sd) iv (per d)) d (per d))) : ∃ fr' : Nat → Int32, AR fr' (DD per fit (cb (per Sd) iv (per d)) (d + 1) (per d)) ∧ f_M_followRule_165 FU (nI S) (nI f) (nI iv) li un (nI w) mo mr md dr wd wr wn po pr rc (nI (MS + 1)) (nI (Sd - fom YS (MS + 1) + 1)) (nI ((Sd + 5) % 7)) (nI (per Sd)) x 1 (nI (per d)) (nI d) (nI Y) (nI (M + 1)) (nI (d - fom Y (M + 1) + 1)) (nI (DD per fit (cb (per Sd) iv (per d)) d (per d)).length) fr (nI T) ln r = f_M_followRule_244 FU (nI S) (nI f) (nI iv) li un (nI w) mo mr md dr wd wr wn po pr rc (nI (MS + 1)) (nI (Sd - fom YS (MS + 1) + 1)) (nI ((Sd + 5) % 7)) (nI (per Sd)) x 1 (nI d) (nI Y) (nI (M + 1)) (nI (d - fom Y (M + 1) + 1)) (nI (DD per fit (cb (per Sd) iv (per d)) (d + 1) (per d)).length) fr' (nI T) ln r := by
  obtain ⟨hF, hS, hL, hU, hf, hw, hSd, ⟨hv1, hv2⟩, hp, hst, hfit⟩ := hP
  have hmax := per_max hf hp
  have hd4 := (DT_day hd).1
  have p1 := (hmax d hd4).1
  have p2 := (hmax Sd (DT_day hSd).1).1
  have hlen := DD_len (fit := fit) (b := (cb (per Sd) iv (per d))) (d := d + 1) (q := per d) (per_win hf hw hp) (by omega)
  unfold f_M_followRule_165
  rw [if_neg (show ¬ (1 : Int32) = 0 by decide)]
  have same : ¬ ((cb (per Sd) iv (per d)) = true ∧ fit d = true) → DD per fit (cb (per Sd) iv (per d)) (d + 1) (per d) = DD per fit (cb (per Sd) iv (per d)) d (per d) := fun h => by
    rw [DD_succ, if_neg (fun u => h ⟨u.1, u.2.2⟩)]
  by_cases c1 : per d < per Sd
  · rw [if_pos (nI_lt c1 (by omega)), same (fun u => by have := u.1; unfold cb at this; have := of_decide_eq_true this; omega)]
    exact ⟨fr, hD, rfl⟩
  · rw [if_neg (nI_nlt (by omega) (by omega)), ckd_ok (nI_ne0 (by omega) (by omega)), pk_sub (show per Sd ≤ per d by omega), pk_rem (by omega) (by omega) (by omega)]
    have hm := Nat.mod_lt (per d - per Sd) (show 0 < iv by omega)
    by_cases c2 : (per d - per Sd) % iv = 0
    · rw [if_pos (show nI ((per d - per Sd) % iv) = 0 by rw [c2]; rfl)]
      obtain ⟨z1, z2, z3, z4, e1, e2, e3, e4, e5⟩ := hfit d Y M hd
      rw [e1, bd_ok]
      by_cases w1 : z1 = 0
      · rw [if_pos w1, same (fun u => (e5.mp u.2).1 w1)]
        exact ⟨fr, hD, rfl⟩
      · rw [if_neg w1, e2, bd_ok]
        by_cases w2 : z2 = 0
        · rw [if_pos w2, same (fun u => (e5.mp u.2).2.1 w2)]
          exact ⟨fr, hD, rfl⟩
        · rw [if_neg w2, e3, bd_ok]
          by_cases w3 : z3 = 0
          · rw [if_pos w3, same (fun u => (e5.mp u.2).2.2.1 w3)]
            exact ⟨fr, hD, rfl⟩
          · rw [if_neg w3, e4, bd_ok]
            by_cases w4 : z4 = 0
            · rw [if_pos w4, same (fun u => (e5.mp u.2).2.2.2 w4)]
              exact ⟨fr, hD, rfl⟩
            · rw [if_neg w4]
              have e6 : DD per fit (cb (per Sd) iv (per d)) (d + 1) (per d) = DD per fit (cb (per Sd) iv (per d)) d (per d) ++ [d] := by
                rw [DD_succ, if_pos ⟨by unfold cb; exact decide_eq_true ⟨by omega, c2⟩, rfl, e5.mpr ⟨w1, w2, w3, w4⟩⟩]
              rw [e6, List.length_append] at hlen
              have h1 : [d].length = 1 := rfl
              rw [e6, ck_ok (show (DD per fit (cb (per Sd) iv (per d)) d (per d)).length < 366 by omega) (by omega), nm_eq, nI_1, nI_clamp (show (DD per fit (cb (per Sd) iv (per d)) d (per d)).length < 2 ^ 31 by omega), List.length_append]
              exact ⟨_, AR_snoc hD d, rfl⟩
    · rw [if_neg (show ¬ nI ((per d - per Sd) % iv) = 0 from nI_ne0 (by omega) (by omega)), same (fun u => by have := u.1; unfold cb at this; have := of_decide_eq_true this; omega)]
      exact ⟨fr, hD, rfl⟩
def MRes (lim unt : Nat) (R : List Nat) (T : Nat) (L : List Nat) (o : Option (Int32 × Int32 × Int32 × Int32 × Int32 × (Nat → Int32) × Int32 × Int32 × (Nat → Int32))) : Prop := ∃ dy y m dd fg : Int32, ∃ (fr : Nat → Int32), ∃ (T' : Nat), ∃ (L' : List Nat), ∃ (r : Nat → Int32), o = some (dy, y, m, dd, fg, fr, nI T', nI L'.length, r) ∧ AR r L' ∧ MC lim unt R T L T' L'
theorem m_stop {FU f w iv S Sd YS MS lim unt : Nat} {per : Nat → Nat} {fit : Nat → Bool} {st : Nat → Nat → Bool} {li un mo md wd po : Int32} {mr dr wr wn pr : Nat → Int32} {q : Nat} {l1 l2 l3 l4 x dy y m dd T ln : Int32} {fr r : Nat → Int32} (hF : 300 < FU) (hq : 0 < q) : f_M_followRule_73 FU (nI S) (nI f) (nI iv) li un (nI w) mo mr md dr wd wr wn po pr q l1 l2 l3 l4 x 0 dy y m dd 0 fr T ln r = some (dy, y, m, dd, 0, fr, T, ln, r) := by
  obtain ⟨q, rfl⟩ : ∃ n, q = n + 1 := ⟨q - 1, by omega⟩
  show f_M_followRule_73_hd FU (nI S) (nI f) (nI iv) li un (nI w) mo mr md dr wd wr wn po pr (f_M_followRule_73 FU (nI S) (nI f) (nI iv) li un (nI w) mo mr md dr wd wr wn po pr q) l1 l2 l3 l4 x 0 dy y m dd 0 fr T ln r = _
  unfold f_M_followRule_73_hd
  have e : f_M_followRule_251 FU (nI S) (nI f) (nI iv) li un (nI w) mo mr md dr wd wr wn po pr dy y m dd 0 fr T ln r = some (dy, y, m, dd, 0, fr, T, ln, r) := by
    unfold f_M_followRule_251 f_M_closePeriod
    obtain ⟨F, rfl⟩ : ∃ n, FU = n + 1 := ⟨FU - 1, by omega⟩
    have : f_M_closePeriod_2 (F + 1) (nI S) li un po pr fr (F + 1) 0 0 T ln r = some (0, T, ln, r) := by
      show f_M_closePeriod_2_hd (F + 1) (nI S) li un po pr fr (f_M_closePeriod_2 (F + 1) (nI S) li un po pr fr F) 0 0 T ln r = _
      unfold f_M_closePeriod_2_hd
      rw [if_pos (show (0 : Int32) ≤ 0 by decide)]
    rw [this, bd_ok]
  rw [e, if_pos (show (0 : Int32) = 0 from rfl)]
  split <;> rfl
