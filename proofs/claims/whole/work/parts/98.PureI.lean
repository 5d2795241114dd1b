/-! pure: the reference's loop over the days -/
theorem AR_nil (r : Nat → Int32) : AR r [] := fun _ h => absurd h (Nat.not_lt_zero _)
theorem m_go {FU f w iv S Sd YS MS lim unt : Nat} {per : Nat → Nat} {fit : Nat → Bool} {st : Nat → Nat → Bool} {li un mo md wd po : Int32} {mr dr wr wn pr : Nat → Int32} {q d Y M T : Nat} {L : List Nat} {x : Int32} {fr r : Nat → Int32} (hP : MPar FU f w iv S Sd YS MS lim unt per fit st li un mo md wd po mr dr wr wn pr) (hd : DT d Y M) (hD : AR fr (DD per fit (cb (per Sd) iv (per d)) d (per d)))
    (hrc : ∀ (fr' : Nat → Int32) (y m dd : Int32), (d < 7304 → ∃ Z N, DT (d + 1) Z N ∧ y = nI Z ∧ m = nI (N + 1) ∧ dd = nI (d + 1 - fom Z (N + 1) + 1)) → AR fr' (DD per fit (cb (per Sd) iv (per d)) (d + 1) (per d)) → MRes lim unt (rfs (cpk per fit st (S % 1440) S (per Sd) iv) (per d)) T L (f_M_followRule_73 FU (nI S) (nI f) (nI iv) li un (nI w) mo mr md dr wd wr wn po pr q (nI (MS + 1)) (nI (Sd - fom YS (MS + 1) + 1)) (nI ((Sd + 5) % 7)) (nI (per Sd)) (nI (per d)) 1 (nI (d + 1)) y m dd (nI (DD per fit (cb (per Sd) iv (per d)) (d + 1) (per d)).length) fr' (nI T) (nI L.length) r)) :
    MRes lim unt (rfs (cpk per fit st (S % 1440) S (per Sd) iv) (per d)) T L (f_M_followRule_165 FU (nI S) (nI f) (nI iv) li un (nI w) mo mr md dr wd wr wn po pr (f_M_followRule_73 FU (nI S) (nI f) (nI iv) li un (nI w) mo mr md dr wd wr wn po pr q) (nI (MS + 1)) (nI (Sd - fom YS (MS + 1) + 1)) (nI ((Sd + 5) % 7)) (nI (per Sd)) (nI (per d)) 1 (nI (per d)) (nI d) (nI Y) (nI (M + 1)) (nI (d - fom Y (M + 1) + 1)) (nI (DD per fit (cb (per Sd) iv (per d)) d (per d)).length) fr (nI T) (nI L.length) r) := by
  obtain ⟨fr', h1, h2⟩ := m_165 (rc := f_M_followRule_73 FU (nI S) (nI f) (nI iv) li un (nI w) mo mr md dr wd wr wn po pr q) (x := nI (per d)) (T := T) (ln := nI L.length) (r := r) hP hd hD
  rw [h2]
  unfold f_M_followRule_244
  obtain ⟨y, m, dd, e1, e2⟩ := m_nx (FU := FU) hd
  rw [e1, bd_ok]
  exact hrc fr' y m dd e2 h1
theorem m_halt {FU f w iv S Sd YS MS lim unt : Nat} {per : Nat → Nat} {fit : Nat → Bool} {st : Nat → Nat → Bool} {li un mo md wd po : Int32} {mr dr wr wn pr : Nat → Int32} {q d Y M T : Nat} {R L : List Nat} {l1 l2 l3 l4 x x7 : Int32} {fr r : Nat → Int32} (hF : 300 < FU) (hq : 0 < q) (hd : DT d Y M) (a1 : AR r L) (h : MC lim unt R T L T L) :
    MRes lim unt R T L (f_M_followRule_165 FU (nI S) (nI f) (nI iv) li un (nI w) mo mr md dr wd wr wn po pr (f_M_followRule_73 FU (nI S) (nI f) (nI iv) li un (nI w) mo mr md dr wd wr wn po pr q) l1 l2 l3 l4 x 0 x7 (nI d) (nI Y) (nI (M + 1)) (nI (d - fom Y (M + 1) + 1)) 0 fr (nI T) (nI L.length) r) := by
  unfold f_M_followRule_165 f_M_followRule_244
  obtain ⟨y, m, dd, e1, e2⟩ := m_nx (FU := FU) hd
  rw [if_pos (show (0 : Int32) = 0 from rfl), e1, bd_ok, m_stop (Sd := Sd) (YS := YS) (MS := MS) (lim := lim) (unt := unt) (per := per) (fit := fit) (st := st) hF hq]
  exact ⟨_, _, _, _, _, _, T, L, r, rfl, a1, h⟩
theorem m_enter {FU f w iv S Sd YS MS lim unt : Nat} {per : Nat → Nat} {fit : Nat → Bool} {st : Nat → Nat → Bool} {li un mo md wd po : Int32} {mr dr wr wn pr : Nat → Int32} {q d Y M T : Nat} {L : List Nat} {fr r : Nat → Int32} (hP : MPar FU f w iv S Sd YS MS lim unt per fit st li un mo md wd po mr dr wr wn pr) (hq : 0 < q) (hd : DT d Y M) (hfresh : ∀ e, e < d → ¬ (per Sd ≤ per e ∧ per d ≤ per e)) (hT : T ≤ 60) (a1 : AR r L) (a2 : SL L) (a3 : BL L)
    (hrc : ∀ (fr' : Nat → Int32) (y m dd : Int32), (d < 7304 → ∃ Z N, DT (d + 1) Z N ∧ y = nI Z ∧ m = nI (N + 1) ∧ dd = nI (d + 1 - fom Z (N + 1) + 1)) → AR fr' (DD per fit (cb (per Sd) iv (per d)) (d + 1) (per d)) → MRes lim unt (rfs (cpk per fit st (S % 1440) S (per Sd) iv) (per d)) T L (f_M_followRule_73 FU (nI S) (nI f) (nI iv) li un (nI w) mo mr md dr wd wr wn po pr q (nI (MS + 1)) (nI (Sd - fom YS (MS + 1) + 1)) (nI ((Sd + 5) % 7)) (nI (per Sd)) (nI (per d)) 1 (nI (d + 1)) y m dd (nI (DD per fit (cb (per Sd) iv (per d)) (d + 1) (per d)).length) fr' (nI T) (nI L.length) r)) :
    MRes lim unt (rfs (cpk per fit st (S % 1440) S (per Sd) iv) (per d)) T L (if 60 ≤ nI T then (f_M_followRule_165 FU (nI S) (nI f) (nI iv) li un (nI w) mo mr md dr wd wr wn po pr (f_M_followRule_73 FU (nI S) (nI f) (nI iv) li un (nI w) mo mr md dr wd wr wn po pr q) (nI (MS + 1)) (nI (Sd - fom YS (MS + 1) + 1)) (nI ((Sd + 5) % 7)) (nI (per Sd)) (nI (per d)) 0 (nI (per d)) (nI d) (nI Y) (nI (M + 1)) (nI (d - fom Y (M + 1) + 1)) 0 fr (nI T) (nI L.length) r) else (if li = 0 then (f_M_followRule_136 FU (nI S) (nI f) (nI iv) li un (nI w) mo mr md dr wd wr wn po pr (f_M_followRule_73 FU (nI S) (nI f) (nI iv) li un (nI w) mo mr md dr wd wr wn po pr q) (nI (MS + 1)) (nI (Sd - fom YS (MS + 1) + 1)) (nI ((Sd + 5) % 7)) (nI (per Sd)) (nI (per d)) (nI (per d)) (nI d) (nI Y) (nI (M + 1)) (nI (d - fom Y (M + 1) + 1)) 0 fr (nI T) (nI L.length) r) else (if li ≤ nI T then (f_M_followRule_165 FU (nI S) (nI f) (nI iv) li un (nI w) mo mr md dr wd wr wn po pr (f_M_followRule_73 FU (nI S) (nI f) (nI iv) li un (nI w) mo mr md dr wd wr wn po pr q) (nI (MS + 1)) (nI (Sd - fom YS (MS + 1) + 1)) (nI ((Sd + 5) % 7)) (nI (per Sd)) (nI (per d)) 0 (nI (per d)) (nI d) (nI Y) (nI (M + 1)) (nI (d - fom Y (M + 1) + 1)) 0 fr (nI T) (nI L.length) r) else (f_M_followRule_136 FU (nI S) (nI f) (nI iv) li un (nI w) mo mr md dr wd wr wn po pr (f_M_followRule_73 FU (nI S) (nI f) (nI iv) li un (nI w) mo mr md dr wd wr wn po pr q) (nI (MS + 1)) (nI (Sd - fom YS (MS + 1) + 1)) (nI ((Sd + 5) % 7)) (nI (per Sd)) (nI (per d)) (nI (per d)) (nI d) (nI Y) (nI (M + 1)) (nI (d - fom Y (M + 1) + 1)) 0 fr (nI T) (nI L.length) r)))) := by
  have hP' := hP
  obtain ⟨hF, hS, hL, hU, hf, hw, hSd, ⟨hv1, hv2⟩, hp, hst, hfit⟩ := hP'
  have hd4 := (DT_day hd).1
  have hl := lim_60 hL
  have e0 : DD per fit (cb (per Sd) iv (per d)) d (per d) = [] := by
    apply List.eq_nil_iff_forall_not_mem.mpr
    intro x hx
    have a := mem_DD.mp hx
    have b := a.1
    unfold cb at b
    have b := of_decide_eq_true b
    exact hfresh x a.2.1 ⟨by omega, by omega⟩
  have go : MRes lim unt (rfs (cpk per fit st (S % 1440) S (per Sd) iv) (per d)) T L (f_M_followRule_165 FU (nI S) (nI f) (nI iv) li un (nI w) mo mr md dr wd wr wn po pr (f_M_followRule_73 FU (nI S) (nI f) (nI iv) li un (nI w) mo mr md dr wd wr wn po pr q) (nI (MS + 1)) (nI (Sd - fom YS (MS + 1) + 1)) (nI ((Sd + 5) % 7)) (nI (per Sd)) (nI (per d)) 1 (nI (per d)) (nI d) (nI Y) (nI (M + 1)) (nI (d - fom Y (M + 1) + 1)) 0 fr (nI T) (nI L.length) r) := by
    have := m_go (fr := fr) (q := q) (T := T) (L := L) (r := r) (x := 0) hP hd (by rw [e0]; exact AR_nil fr) hrc
    rw [e0] at this
    exact this
  have go136 : MRes lim unt (rfs (cpk per fit st (S % 1440) S (per Sd) iv) (per d)) T L (f_M_followRule_136 FU (nI S) (nI f) (nI iv) li un (nI w) mo mr md dr wd wr wn po pr (f_M_followRule_73 FU (nI S) (nI f) (nI iv) li un (nI w) mo mr md dr wd wr wn po pr q) (nI (MS + 1)) (nI (Sd - fom YS (MS + 1) + 1)) (nI ((Sd + 5) % 7)) (nI (per Sd)) (nI (per d)) (nI (per d)) (nI d) (nI Y) (nI (M + 1)) (nI (d - fom Y (M + 1) + 1)) 0 fr (nI T) (nI L.length) r) := by
    unfold f_M_followRule_136 f_M_followRule_158
    rcases hU with ⟨rfl, rfl⟩ | ⟨rfl, hu⟩
    · rw [if_pos (show (-1 : Int32) < 0 by decide)]
      exact go
    · rw [if_neg (nI_pos (by omega)), show (1440 : Int32) * nI d = nI (1440 * d) from pk_mul 1440 d]
      by_cases u : unt < 1440 * d
      · rw [if_pos (nI_lt u (by omega))]
        refine m_halt (Sd := Sd) (YS := YS) (MS := MS) (per := per) (fit := fit) (st := st) (by omega) hq hd a1 (MC_gt a2 a3 (fun x hx => ?_))
        obtain ⟨e, b1, b2, b3, b4⟩ := mem_rfs2 hx
        apply Classical.byContradiction
        intro c
        exact hfresh e (by omega) ⟨b3, b2⟩
      · rw [if_neg (nI_nlt (by omega) (by omega))]
        exact go
  by_cases t60 : 60 ≤ T
  · rw [if_pos (show 60 ≤ nI T from nI_le (a := 60) t60 (by omega))]
    exact m_halt (Sd := Sd) (YS := YS) (MS := MS) (per := per) (fit := fit) (st := st) (by omega) hq hd a1 (MC_full a2 a3 (by omega))
  · rw [if_neg (show ¬ 60 ≤ nI T from nI_ge (b := 60) (by omega) (by omega))]
    rcases hL with ⟨rfl, rfl⟩ | ⟨c, h1, h2, rfl, rfl⟩
    · rw [if_pos rfl]
      exact go136
    · rw [if_neg (nI_ne0 (by omega) (by omega))]
      by_cases u : c ≤ T
      · rw [if_pos (nI_le u (by omega))]
        exact m_halt (Sd := Sd) (YS := YS) (MS := MS) (per := per) (fit := fit) (st := st) (by omega) hq hd a1 (MC_full a2 a3 (by omega))
      · rw [if_neg (nI_ge (by omega) (by omega))]
        exact go136
theorem m_73 {FU f w iv S Sd YS MS lim unt : Nat} {per : Nat → Nat} {fit : Nat → Bool} {st : Nat → Nat → Bool} {li un mo md wd po : Int32} {mr dr wr wn pr : Nat → Int32} (hP : MPar FU f w iv S Sd YS MS lim unt per fit st li un mo md wd po mr dr wr wn pr) : ∀ q d qq (fr : Nat → Int32) (T : Nat) (L : List Nat) (r : Nat → Int32) (y m dd : Int32), d ≤ 7305 → 7305 - d < q → (d ≤ 7304 → ∃ Y M, DT d Y M ∧ y = nI Y ∧ m = nI (M + 1) ∧ dd = nI (d - fom Y (M + 1) + 1)) → qq ≤ 7304 → (∀ e, e < d → per e ≤ qq) → (∀ e, d ≤ e → e ≤ 7304 → qq ≤ per e) → AR fr (DD per fit (cb (per Sd) iv qq) d qq) → T ≤ 60 → L.length ≤ T → AR r L → SL L → BL L → MRes lim unt (rfs (cpk per fit st (S % 1440) S (per Sd) iv) qq) T L (f_M_followRule_73 FU (nI S) (nI f) (nI iv) li un (nI w) mo mr md dr wd wr wn po pr q (nI (MS + 1)) (nI (Sd - fom YS (MS + 1) + 1)) (nI ((Sd + 5) % 7)) (nI (per Sd)) (nI qq) 1 (nI d) y m dd (nI (DD per fit (cb (per Sd) iv qq) d qq).length) fr (nI T) (nI L.length) r) := by
  have hP' := hP
  obtain ⟨hF, hS, hL, hU, hf, hw, hSd, ⟨hv1, hv2⟩, hp, hst, hfit⟩ := hP'
  have hl := lim_60 hL
  have hmax := per_max hf hp
  have hmono := per_mono hf hw hp
  have hwin := per_win hf hw hp
  intro q
  induction q with
  | zero => intro d qq fr T L r y m dd _ h; omega
  | succ q ih =>
    intro d qq fr T L r y m dd hd hq hdt hqq hlo hhi hD hT hLT a1 a2 a3
    show MRes lim unt (rfs (cpk per fit st (S % 1440) S (per Sd) iv) qq) T L (f_M_followRule_73_hd FU (nI S) (nI f) (nI iv) li un (nI w) mo mr md dr wd wr wn po pr (f_M_followRule_73 FU (nI S) (nI f) (nI iv) li un (nI w) mo mr md dr wd wr wn po pr q) (nI (MS + 1)) (nI (Sd - fom YS (MS + 1) + 1)) (nI ((Sd + 5) % 7)) (nI (per Sd)) (nI qq) 1 (nI d) y m dd (nI (DD per fit (cb (per Sd) iv qq) d qq).length) fr (nI T) (nI L.length) r)
    unfold f_M_followRule_73_hd
    have hcl := m_close (FU := FU) (by omega) hS hL hU hst hD (DD_len hwin hd) (fun x hx => by have := mem_DD.mp hx; omega) hT hLT a1 a2 a3
    by_cases c5 : 7305 ≤ d
    · rw [if_pos (show 7305 ≤ nI d from nI_le (a := 7305) c5 (by omega))]
      unfold f_M_followRule_251
      obtain ⟨T1, L1, r1, e1, e2, e3⟩ := hcl
      rw [e1, bd_ok]
      refine ⟨_, _, _, _, _, _, T1, L1, r1, rfl, e2, ?_⟩
      obtain rfl : d = 7305 := by omega
      rw [rfs_step (by omega), rfs_no (q := qq + 1) (fun j hj => cpk_no (fun e he u => by have := hlo e (by omega); omega)), List.append_nil, DD_cpk]
      exact e3
    · obtain ⟨Y, M, hdx, rfl, rfl, rfl⟩ := hdt (by omega)
      have hpd := hp d Y M hdx
      have hpm := (hmax d (by omega)).1
      rw [if_neg (show ¬ 7305 ≤ nI d from nI_ge (b := 7305) (by omega) (by omega)), if_neg (show ¬ (1 : Int32) = 0 by decide), m_period hf hw hdx, ← hpd, bd_ok]
      have hrc : ∀ (T : Nat) (L : List Nat) (r : Nat → Int32), T ≤ 60 → L.length ≤ T → AR r L → SL L → BL L → ∀ (fr' : Nat → Int32) (y m dd : Int32), (d < 7304 → ∃ Z N, DT (d + 1) Z N ∧ y = nI Z ∧ m = nI (N + 1) ∧ dd = nI (d + 1 - fom Z (N + 1) + 1)) → AR fr' (DD per fit (cb (per Sd) iv (per d)) (d + 1) (per d)) → MRes lim unt (rfs (cpk per fit st (S % 1440) S (per Sd) iv) (per d)) T L (f_M_followRule_73 FU (nI S) (nI f) (nI iv) li un (nI w) mo mr md dr wd wr wn po pr q (nI (MS + 1)) (nI (Sd - fom YS (MS + 1) + 1)) (nI ((Sd + 5) % 7)) (nI (per Sd)) (nI (per d)) 1 (nI (d + 1)) y m dd (nI (DD per fit (cb (per Sd) iv (per d)) (d + 1) (per d)).length) fr' (nI T) (nI L.length) r) := fun T L r b1 b2 b3 b4 b5 fr' y m dd b6 b7 =>
        ih (d + 1) (per d) fr' T L r y m dd (by omega) (by omega) (fun h => b6 (by omega)) hpm (fun e he => hmono e d (by omega) (by omega)) (fun e h1 h2 => hmono d e (by omega) h2) b7 b1 b2 b3 b4 b5
      by_cases ce : per d = qq
      · subst ce
        rw [if_pos rfl]
        exact m_go (x := 0) hP hdx hD (hrc T L r hT hLT a1 a2 a3)
      · have hgt : qq < per d := by have := hhi d (by omega) (by omega); omega
        rw [if_neg (fun u => ce ((nI_eq (by omega) (by omega)).mp u))]
        obtain ⟨T1, L1, r1, e1, e2, e3⟩ := hcl
        rw [e1, bd_ok]
        have hle := MC_le e3 hl.2 hT hLT
        have hen := m_enter (q := q) (fr := fr) (r := r1) hP (by omega) hdx (fun e he u => by have := hlo e he; omega) hle.1 e2 e3.1 e3.2.1 (hrc T1 L1 r1 hle.1 hle.2 e2 e3.1 e3.2.1)
        have er : rfs (cpk per fit st (S % 1440) S (per Sd) iv) qq = cpk per fit st (S % 1440) S (per Sd) iv qq ++ rfs (cpk per fit st (S % 1440) S (per Sd) iv) (per d) := by
          rw [rfs_step (by omega), rfs_to (q := qq + 1) (r := per d) (by omega) (by omega) (fun j h1 h2 => cpk_no (fun e he u => ?_))]
          by_cases ed : e < d
          · have := hlo e ed; omega
          · have := hmono d e (by omega) he; omega
        rw [DD_all (q := qq) (by omega) (fun e h1 h2 u => by have := hmono d e h1 h2; omega), ← DD_cpk] at e3
        obtain ⟨b1, b2, b3, b4, b5, b6, T2, L2, r2, g1, g2, g3⟩ := hen
        exact ⟨b1, b2, b3, b4, b5, b6, T2, L2, r2, g1, g2, by rw [er]; exact MC_app e3 g3⟩
