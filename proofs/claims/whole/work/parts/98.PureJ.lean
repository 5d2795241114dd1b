/-! pure: the reference follows a rule -/
theorem m_follow {FU f w iv S Sd YS MS lim unt : Nat} {per : Nat → Nat} {fit : Nat → Bool} {st : Nat → Nat → Bool} {li un mo md wd po : Int32} {mr dr wr wn pr : Nat → Int32} {L : List Nat} {dy y m dd fg tk : Int32} {fr r : Nat → Int32} (hP : MPar FU f w iv S Sd YS MS lim unt per fit st li un mo md wd po mr dr wr wn pr) (hSS : Sd = S / 1440) (hLT : L.length ≤ 1) (a1 : AR r L) (a2 : SL L) (a3 : BL L) : MRes lim unt (rfs (cpk per fit st (S % 1440) S (per Sd) iv) (per Sd)) 1 L (f_M_followRule FU (nI S) (nI f) (nI iv) li un (nI w) mo mr md dr wd wr wn po pr dy y m dd fg fr tk (nI L.length) r) := by
  have hP' := hP
  obtain ⟨hF, hS, hL, hU, hf, hw, hSd, ⟨hv1, hv2⟩, hp, hst, hfit⟩ := hP'
  have hl := lim_60 hL
  have hmax := per_max hf hp
  have hmono := per_mono hf hw hp
  have hs4 := DT_day hSd
  have key : ∀ d Y M, DT d Y M → d ≤ Sd → (∀ e, e < d → per e < per Sd) → MRes lim unt (rfs (cpk per fit st (S % 1440) S (per Sd) iv) (per Sd)) 1 L (f_M_followRule_54 FU (nI S) (nI f) (nI iv) li un (nI w) mo mr md dr wd wr wn po pr (nI (MS + 1)) (nI (Sd - fom YS (MS + 1) + 1)) (nI ((Sd + 5) % 7)) (nI (per Sd)) (nI d) (nI Sd) (nI YS) (nI (MS + 1)) (nI (Sd - fom YS (MS + 1) + 1)) fg fr tk (nI L.length) r) := by
    intro d Y M hd hle hlt
    have hd4 := (DT_day hd).1
    have hpd := hp d Y M hd
    have hpm := (hmax d hd4).1
    unfold f_M_followRule_54
    rw [m_goTo (by omega) hd, bd_ok]
    obtain ⟨F, hFF⟩ : ∃ n, FU = n + 1 := ⟨FU - 1, by omega⟩
    have e1 : f_M_followRule_73 FU (nI S) (nI f) (nI iv) li un (nI w) mo mr md dr wd wr wn po pr FU (nI (MS + 1)) (nI (Sd - fom YS (MS + 1) + 1)) (nI ((Sd + 5) % 7)) (nI (per Sd)) (-1) 1 (nI d) (nI Y) (nI (M + 1)) (nI (d - fom Y (M + 1) + 1)) 0 fr 1 (nI L.length) r = f_M_followRule_73_hd FU (nI S) (nI f) (nI iv) li un (nI w) mo mr md dr wd wr wn po pr (f_M_followRule_73 FU (nI S) (nI f) (nI iv) li un (nI w) mo mr md dr wd wr wn po pr F) (nI (MS + 1)) (nI (Sd - fom YS (MS + 1) + 1)) (nI ((Sd + 5) % 7)) (nI (per Sd)) (-1) 1 (nI d) (nI Y) (nI (M + 1)) (nI (d - fom Y (M + 1) + 1)) 0 fr 1 (nI L.length) r := by
      generalize hX : f_M_followRule_73 FU (nI S) (nI f) (nI iv) li un (nI w) mo mr md dr wd wr wn po pr = g
      subst hX
      rw [hFF]
      rfl
    show MRes lim unt (rfs (cpk per fit st (S % 1440) S (per Sd) iv) (per Sd)) 1 L (f_M_followRule_73 FU (nI S) (nI f) (nI iv) li un (nI w) mo mr md dr wd wr wn po pr FU (nI (MS + 1)) (nI (Sd - fom YS (MS + 1) + 1)) (nI ((Sd + 5) % 7)) (nI (per Sd)) (-1) 1 (nI d) (nI Y) (nI (M + 1)) (nI (d - fom Y (M + 1) + 1)) 0 fr 1 (nI L.length) r)
    rw [e1]
    unfold f_M_followRule_73_hd
    rw [if_neg (show ¬ 7305 ≤ nI d from nI_ge (b := 7305) (by omega) (by omega)), if_neg (show ¬ (1 : Int32) = 0 by decide), m_period hf hw hd, ← hpd, bd_ok, if_neg (fun u => nI_nm1 (show per d < 2 ^ 31 by omega) u.symm)]
    have hcl := m_close (FU := FU) (D := []) (T := 1) (fr := fr) (by omega) hS hL hU hst (AR_nil fr) (by decide) (fun x hx => absurd hx (by simp)) (by decide) hLT a1 a2 a3
    obtain ⟨T1, L1, r1, e1, e2, e3⟩ := hcl
    rw [show (0 : Int32) = nI ([] : List Nat).length from rfl, show (1 : Int32) = nI 1 from rfl, e1, bd_ok]
    have hle1 := MC_le e3 hl.2 (by decide) hLT
    have hen := m_enter (q := F) (fr := fr) (r := r1) hP (by omega) hd (fun e he u => by have := hlt e he; omega) hle1.1 e2 e3.1 e3.2.1 (fun fr' y m dd b6 b7 => m_73 hP F (d + 1) (per d) fr' T1 L1 r1 y m dd (by omega) (by omega) (fun h => b6 (by omega)) hpm (fun e he => hmono e d (by omega) hd4) (fun e h1 h2 => hmono d e (by omega) h2) b7 hle1.1 hle1.2 e2 e3.1 e3.2.1)
    have er : rfs (cpk per fit st (S % 1440) S (per Sd) iv) (per d) = rfs (cpk per fit st (S % 1440) S (per Sd) iv) (per Sd) := rfs_to (hmono d Sd hle hs4.1) (by have := (hmax Sd hs4.1).1; omega) (fun j h1 h2 => cpk_off (by omega))
    rw [er] at hen
    obtain ⟨b1, b2, b3, b4, b5, b6, T2, L2, r2, g1, g2, g3⟩ := hen
    exact ⟨b1, b2, b3, b4, b5, b6, T2, L2, r2, g1, g2, MC_app (R := []) e3 g3⟩
  unfold f_M_followRule
  rw [show nI S / 1440 = nI Sd from by rw [hSS]; exact pk_div (d := 1440) (by omega) (by omega) (by omega), m_goTo (by omega) hSd, bd_ok]
  dsimp only
  rw [(m_wdnow hs4.1).1, bd_ok, m_period hf hw hSd, ← hp Sd YS MS hSd, bd_ok]
  by_cases y0 : YS = 0
  · rw [if_pos (by rw [y0]; rfl)]
    exact key 0 0 0 DT_0 (by omega) (fun e he => by omega)
  · have y20 := hSd.1
    rw [if_neg (nI_ne0 (by omega) (by omega)), p_pred (by omega), t_ny FU _ (by omega), bd_ok]
    have hyl := t_ylen (YS - 1) (by omega)
    rw [show YS - 1 + 1 = YS by omega] at hyl
    refine key (fom (YS - 1) 1) (YS - 1) 0 (DT_first (M := 0) (by omega) (by omega)) (by omega) (fun e he => ?_)
    obtain ⟨Y, M, hE⟩ := DT_ex e (by omega)
    rw [hp e Y M hE, hp Sd YS MS hSd]
    exact PV_gap hf hw hE hSd y0 he
