/-! pure: an event is kept -/
theorem sp3_n0 {α : Type} {a b c : Option α} : sp3 (nI 0) a b c = a := if_pos rfl
theorem sp3_n1 {α : Type} {a b c : Option α} : sp3 (nI 1) a b c = b := by
  unfold sp3
  rw [if_neg (by decide), if_pos (by decide)]
theorem sp3_n2 {α : Type} {a b c : Option α} : sp3 (nI 2) a b c = c := by
  unfold sp3
  rw [if_neg (by decide), if_neg (by decide), if_pos (by decide)]
theorem k_keep {FU n k : Nat} {bs : Nat → Nat → Int32} {bz du bf bb : Nat → Int32} (hn : n < 4) : f_Person_keepSpare FU bs bz du (nI n) bf bb (nI k) = bd (f_BusyTimes_addInstances FU bf bb (nI k) (bs n) (bz n) (du n)) (fun z => some (nI (n + 1), z.1, z.2.1, z.2.2)) := by
  unfold f_Person_keepSpare
  rw [if_neg (show ¬ 4 ≤ nI n from nI_ge (b := 4) hn (by omega)), nI_1]
  exact sp4_at (fun i => bd (f_BusyTimes_addInstances FU bf bb (nI k) (bs i) (bz i) (du i)) (fun z => some (nI (n + 1), z.1, z.2.1, z.2.2))) hn
def KOK (N : Nat) (bs bs' : Nat → Nat → Int32) (bz bz' du du' : Nat → Int32) (D : Nat) (L' : List Nat) (W : Nat → Int32) : Prop := (∀ e, e ≠ N → bs' e = bs e ∧ bz' e = bz e ∧ du' e = du e) ∧ bz' N = nI L'.length ∧ du' N = nI D ∧ ∀ j, j < L'.length → bs' N j = W (L'.getD j 0)
theorem KOK_up {N D : Nat} {bs bs' : Nat → Nat → Int32} {bz du r : Nat → Int32} {L' : List Nat} {W : Nat → Int32} (h : ∀ e, e ≠ N → bs' e = bs e) (hr : ∀ j, j < L'.length → bs' N j = W (L'.getD j 0)) : KOK N bs bs' bz (up bz N (nI L'.length)) du (up du N (nI D)) D L' W := ⟨fun e he => ⟨h e he, up_ne _ _ he, up_ne _ _ he⟩, up_same _ _ _, up_same _ _ _, hr⟩
theorem kb_119 {FU p k S D : Nat} {G X : List Nat} {W : Nat → Int32} {SS : Int → Prop} {zm zo : Nat → Nat → Int32} {zs tr : Nat → Int32} {bs : Nat → Nat → Int32} {bz du bf bb rr : Nat → Int32} {tz rz ra zn rec fq gv ivv kc ku ws km kd ke kw nS pS : Int32} {nW wN ps gr ar fr : Nat → Int32} {s1 s2 s3 s4 s5 s6 s7 dy yr mo yF yL mF mL fs : Int32} {L' : List Nat} {bs' : Nat → Nat → Int32} {bz' du' : Nat → Int32} (hF : 300 < FU) (hp : p < 4) (hk : KOK 0 bs bs' bz bz' du du' D L' W) (hl : L'.length ≤ 40) (hBL : BL L') (hD1 : 1 ≤ D) (hD2 : D ≤ 1440) (hW : ∀ m, m ≤ 10519199 → okMin (W m)) (hk4 : k + 40 ≤ 160) (hBT : BT bf bb k SS) : ∃ (F' B' : Nat → Int32), ∃ (k' : Nat), f_K_bookP_119 FU (nI p) zm zo zs tr bs' bz' du' (nI 0) bf bb (nI k) tz rr rz ra zn (nI S) (nI D) rec fq gv ivv kc ku ws km kd ke kw nW wN nS ps pS ar (nI X.length) gr (nI G.length) s1 s2 s3 s4 s5 s6 s7 dy yr mo yF yL mF mL fr fs = some (0, nI L'.length, bs', bz', du', nI (0 + 1), F', B', nI k', 0, rr, rz, ra, zn, nI S, nI D, rec, fq, gv, ivv, kc, ku, ws, km, kd, ke, kw, nW, wN, nS, ps, pS, ar, nI X.length, gr, nI G.length, s1, s2, s3, s4, s5, s6, s7, dy, yr, mo, yF, yL, mF, mL, fr, fs) ∧ k' ≤ k + L'.length ∧ BT F' B' k' (fun m => SS m ∨ EvS (bs' 0) L'.length D 0 m) := by
  obtain ⟨h1, h2, h3, h4⟩ := hk
  unfold f_K_bookP_119 f_Text_clear f_Event_size
  obtain ⟨F', B', k', e1, e2, e3⟩ := b_addI (FU := FU) (bs := bs' 0) (by omega) hl hD1 hD2 (fun j hj => by rw [h4 j hj]; exact hW _ (hBL _ (getD_mem hj))) (by omega) hBT
  rw [ck_ok hp (by omega), show (nI 0) = nI 0 from rfl, k_keep (n := 0) (by omega), h2, h3, e1, bd_ok, bd_ok, bd_ok, bd_ok]
  exact ⟨F', B', k', rfl, e2, e3⟩
theorem kb_77 {FU p k S D : Nat} {G U X : List Nat} {W : Nat → Int32} {SS : Int → Prop} {zm zo : Nat → Nat → Int32} {zs tr : Nat → Int32} {bs : Nat → Nat → Int32} {bz du bf bb rr : Nat → Int32} {tz rz ra zn rec fq gv ivv kc ku ws km kd ke kw nS pS : Int32} {nW wN ps gr ar fr : Nat → Int32} {s1 s2 s3 s4 s5 s6 s7 dy yr mo yF yL mF mL fs : Int32} (hF : 8000 < FU) (hp : p < 4) (hS : S ≤ 10519199) (hG : AR gr G) (hGB : BL G) (hGl : G.length ≤ 18) (hX : AR ar X) (hXB : BL X) (hXl : X.length ≤ 18) (hR : KRule FU S G U rec fq gv ivv kc ku ws km kd ke kw nW wN nS ps pS gr) (hs : DOK s2 s3 s4 s5 s6 s7) (hd : DOK yr mo yF yL mF mL) (hD1 : 1 ≤ D) (hD2 : D ≤ 1440) (hzn : (zn = -1 ∧ W = nI) ∨ ∃ z, z < 3 ∧ zn = nI z ∧ ∀ m, m ≤ 10519199 → f_Zone_toWorld FU (nI m) (zm z) (zo z) (zs z) = some (W m)) (hW : ∀ m, m ≤ 10519199 → okMin (W m)) (hk4 : k + 40 ≤ 160) (hBT : BT bf bb k SS) : ∃ (bs' : Nat → Nat → Int32), ∃ (bz' du' F' B' : Nat → Int32), ∃ (k' : Nat), ∃ (L' : List Nat), ∃ (s1' s2' s3' s4' s5' s6' s7' dy' yr' mo' yF' yL' mF' mL' : Int32), ∃ (fr' : Nat → Int32), ∃ (fs' : Int32), f_K_bookP_77 FU (nI p) zm zo zs tr bs bz du (nI 0) bf bb (nI k) tz rr rz ra zn (nI S) (nI D) rec fq gv ivv kc ku ws km kd ke kw nW wN nS ps pS ar (nI X.length) gr (nI G.length) s1 s2 s3 s4 s5 s6 s7 dy yr mo yF yL mF mL fr fs = some (0, nI L'.length, bs', bz', du', nI (0 + 1), F', B', nI k', 0, rr, rz, ra, zn, nI S, nI D, rec, fq, gv, ivv, kc, ku, ws, km, kd, ke, kw, nW, wN, nS, ps, pS, ar, nI X.length, gr, nI G.length, s1', s2', s3', s4', s5', s6', s7', dy', yr', mo', yF', yL', mF', mL', fr', fs') ∧ KOK 0 bs bs' bz bz' du du' D L' W ∧ DOK s2' s3' s4' s5' s6' s7' ∧ DOK yr' mo' yF' yL' mF' mL' ∧ BL L' ∧ F40 (fun x => (x = S ∨ x ∈ X ∨ x ∈ U) ∧ ¬ x ∈ G) L' ∧ k' ≤ k + L'.length ∧ BT F' B' k' (fun m => SS m ∨ EvS (bs' 0) L'.length D 0 m) := by
  unfold f_K_bookP_77
  obtain ⟨s1', s2', s3', s4', s5', s6', s7', dy', yr', mo', yF', yL', mF', mL', fr', fs', r', L', g1, g2, g3, g4, g5, g6⟩ := k_fill (FU := FU) (dn := nI D) (n := bz 0) (du := du 0) (r := bs 0) (s1 := s1) (dy := dy) (fr := fr) (fs := fs) hF hS hG hGB hGl hX hXB hXl hR hs hd
  have hl := g6.2.1
  rw [g1, bd_ok]
  dsimp only
  unfold f_K_bookP_89 f_Draft_zone
  rw [bd_ok, k_isZone, bd_ok]
  rcases hzn with ⟨rfl, rfl⟩ | ⟨z, hz, rfl, hz3⟩
  · rw [if_pos (show (-1 : Int32) < 0 by decide), if_pos rfl]
    obtain ⟨F', B', k', e1, e2, e3⟩ := kb_119 (FU := FU) (zm := zm) (zo := zo) (zs := zs) (tr := tr) (tz := tz) (rr := rr) (rz := rz) (ra := ra) (zn := -1) (rec := rec) (fq := fq) (gv := gv) (ivv := ivv) (kc := kc) (ku := ku) (ws := ws) (km := km) (kd := kd) (ke := ke) (kw := kw) (nW := nW) (wN := wN) (nS := nS) (ps := ps) (pS := pS) (ar := ar) (X := X) (gr := gr) (G := G) (s1 := s1') (s2 := s2') (s3 := s3') (s4 := s4') (s5 := s5') (s6 := s6') (s7 := s7') (dy := dy') (yr := yr') (mo := mo') (yF := yF') (yL := yL') (mF := mF') (mL := mL') (fr := fr') (fs := fs') (S := S) (p := p) (by omega) hp (KOK_up (N := 0) (r := r') (bs' := up bs 0 r') (fun e he => up_ne _ _ he) (fun j hj => by rw [up_same]; exact g4 j hj)) hl g5 hD1 hD2 hW hk4 hBT
    exact ⟨_, _, _, F', B', k', L', s1', s2', s3', s4', s5', s6', s7', dy', yr', mo', yF', yL', mF', mL', fr', fs', e1, KOK_up (N := 0) (r := r') (fun e he => up_ne _ _ he) (fun j hj => by rw [up_same]; exact g4 j hj), g2, g3, g5, g6, e2, e3⟩
  · rw [if_neg (nI_pos (by omega)), if_neg (show ¬ 3 ≤ nI z from nI_ge (b := 3) hz (by omega)), if_neg (show ¬ (1 : Int32) = 0 by decide), bd_ok]
    have hz' : z = 0 ∨ z = 1 ∨ z = 2 := by omega
    rcases hz' with rfl | rfl | rfl
    · rw [sp3_n0, up_same, up_same]
      obtain ⟨r2, w1, w2⟩ := k_mtw (FU := FU) (by omega) hl g5 hz3 g4
      rw [w1, bd_ok]
      obtain ⟨F', B', k', e1, e2, e3⟩ := kb_119 (FU := FU) (zm := zm) (zo := zo) (zs := zs) (tr := tr) (tz := tz) (rr := rr) (rz := rz) (ra := ra) (zn := nI 0) (rec := rec) (fq := fq) (gv := gv) (ivv := ivv) (kc := kc) (ku := ku) (ws := ws) (km := km) (kd := kd) (ke := ke) (kw := kw) (nW := nW) (wN := wN) (nS := nS) (ps := ps) (pS := pS) (ar := ar) (X := X) (gr := gr) (G := G) (s1 := s1') (s2 := s2') (s3 := s3') (s4 := s4') (s5 := s5') (s6 := s6') (s7 := s7') (dy := dy') (yr := yr') (mo := mo') (yF := yF') (yL := yL') (mF := mF') (mL := mL') (fr := fr') (fs := fs') (S := S) (p := p) (by omega) hp (KOK_up (N := 0) (r := r2) (bs' := up (up bs 0 r') 0 r2) (fun e he => by rw [up_ne _ _ he, up_ne _ _ he]) (fun j hj => by rw [up_same]; exact w2 j hj)) hl g5 hD1 hD2 hW hk4 hBT
      exact ⟨_, _, _, F', B', k', L', s1', s2', s3', s4', s5', s6', s7', dy', yr', mo', yF', yL', mF', mL', fr', fs', e1, KOK_up (N := 0) (r := r2) (fun e he => by rw [up_ne _ _ he, up_ne _ _ he]) (fun j hj => by rw [up_same]; exact w2 j hj), g2, g3, g5, g6, e2, e3⟩
    · rw [sp3_n1, up_same, up_same]
      obtain ⟨r2, w1, w2⟩ := k_mtw (FU := FU) (by omega) hl g5 hz3 g4
      rw [w1, bd_ok]
      obtain ⟨F', B', k', e1, e2, e3⟩ := kb_119 (FU := FU) (zm := zm) (zo := zo) (zs := zs) (tr := tr) (tz := tz) (rr := rr) (rz := rz) (ra := ra) (zn := nI 1) (rec := rec) (fq := fq) (gv := gv) (ivv := ivv) (kc := kc) (ku := ku) (ws := ws) (km := km) (kd := kd) (ke := ke) (kw := kw) (nW := nW) (wN := wN) (nS := nS) (ps := ps) (pS := pS) (ar := ar) (X := X) (gr := gr) (G := G) (s1 := s1') (s2 := s2') (s3 := s3') (s4 := s4') (s5 := s5') (s6 := s6') (s7 := s7') (dy := dy') (yr := yr') (mo := mo') (yF := yF') (yL := yL') (mF := mF') (mL := mL') (fr := fr') (fs := fs') (S := S) (p := p) (by omega) hp (KOK_up (N := 0) (r := r2) (bs' := up (up bs 0 r') 0 r2) (fun e he => by rw [up_ne _ _ he, up_ne _ _ he]) (fun j hj => by rw [up_same]; exact w2 j hj)) hl g5 hD1 hD2 hW hk4 hBT
      exact ⟨_, _, _, F', B', k', L', s1', s2', s3', s4', s5', s6', s7', dy', yr', mo', yF', yL', mF', mL', fr', fs', e1, KOK_up (N := 0) (r := r2) (fun e he => by rw [up_ne _ _ he, up_ne _ _ he]) (fun j hj => by rw [up_same]; exact w2 j hj), g2, g3, g5, g6, e2, e3⟩
    · rw [sp3_n2, up_same, up_same]
      obtain ⟨r2, w1, w2⟩ := k_mtw (FU := FU) (by omega) hl g5 hz3 g4
      rw [w1, bd_ok]
      obtain ⟨F', B', k', e1, e2, e3⟩ := kb_119 (FU := FU) (zm := zm) (zo := zo) (zs := zs) (tr := tr) (tz := tz) (rr := rr) (rz := rz) (ra := ra) (zn := nI 2) (rec := rec) (fq := fq) (gv := gv) (ivv := ivv) (kc := kc) (ku := ku) (ws := ws) (km := km) (kd := kd) (ke := ke) (kw := kw) (nW := nW) (wN := wN) (nS := nS) (ps := ps) (pS := pS) (ar := ar) (X := X) (gr := gr) (G := G) (s1 := s1') (s2 := s2') (s3 := s3') (s4 := s4') (s5 := s5') (s6 := s6') (s7 := s7') (dy := dy') (yr := yr') (mo := mo') (yF := yF') (yL := yL') (mF := mF') (mL := mL') (fr := fr') (fs := fs') (S := S) (p := p) (by omega) hp (KOK_up (N := 0) (r := r2) (bs' := up (up bs 0 r') 0 r2) (fun e he => by rw [up_ne _ _ he, up_ne _ _ he]) (fun j hj => by rw [up_same]; exact w2 j hj)) hl g5 hD1 hD2 hW hk4 hBT
      exact ⟨_, _, _, F', B', k', L', s1', s2', s3', s4', s5', s6', s7', dy', yr', mo', yF', yL', mF', mL', fr', fs', e1, KOK_up (N := 0) (r := r2) (fun e he => by rw [up_ne _ _ he, up_ne _ _ he]) (fun j hj => by rw [up_same]; exact w2 j hj), g2, g3, g5, g6, e2, e3⟩
theorem kb_119b {FU p k S D : Nat} {G X : List Nat} {W : Nat → Int32} {SS : Int → Prop} {zm zo : Nat → Nat → Int32} {zs tr : Nat → Int32} {bs : Nat → Nat → Int32} {bz du bf bb rr : Nat → Int32} {tz rz ra zn rec fq gv ivv kc ku ws km kd ke kw nS pS : Int32} {nW wN ps gr ar fr : Nat → Int32} {s1 s2 s3 s4 s5 s6 s7 dy yr mo yF yL mF mL fs : Int32} {L' : List Nat} {bs' : Nat → Nat → Int32} {bz' du' : Nat → Int32} (hF : 300 < FU) (hp : p < 4) (hk : KOK 1 bs bs' bz bz' du du' D L' W) (hl : L'.length ≤ 40) (hBL : BL L') (hD1 : 1 ≤ D) (hD2 : D ≤ 1440) (hW : ∀ m, m ≤ 10519199 → okMin (W m)) (hk4 : k + 40 ≤ 160) (hBT : BT bf bb k SS) : ∃ (F' B' : Nat → Int32), ∃ (k' : Nat), f_K_bookP_119b FU (nI p) zm zo zs tr bs' bz' du' (nI 1) bf bb (nI k) tz rr rz ra zn (nI S) (nI D) rec fq gv ivv kc ku ws km kd ke kw nW wN nS ps pS ar (nI X.length) gr (nI G.length) s1 s2 s3 s4 s5 s6 s7 dy yr mo yF yL mF mL fr fs = some (0, nI L'.length, bs', bz', du', nI (1 + 1), F', B', nI k', 0, rr, rz, ra, zn, nI S, nI D, rec, fq, gv, ivv, kc, ku, ws, km, kd, ke, kw, nW, wN, nS, ps, pS, ar, nI X.length, gr, nI G.length, s1, s2, s3, s4, s5, s6, s7, dy, yr, mo, yF, yL, mF, mL, fr, fs) ∧ k' ≤ k + L'.length ∧ BT F' B' k' (fun m => SS m ∨ EvS (bs' 1) L'.length D 0 m) := by
  obtain ⟨h1, h2, h3, h4⟩ := hk
  unfold f_K_bookP_119b f_Text_clear f_Event_size
  obtain ⟨F', B', k', e1, e2, e3⟩ := b_addI (FU := FU) (bs := bs' 1) (by omega) hl hD1 hD2 (fun j hj => by rw [h4 j hj]; exact hW _ (hBL _ (getD_mem hj))) (by omega) hBT
  rw [ck_ok hp (by omega), show (nI 1) = nI 1 from rfl, k_keep (n := 1) (by omega), h2, h3, e1, bd_ok, bd_ok, bd_ok, bd_ok]
  exact ⟨F', B', k', rfl, e2, e3⟩
theorem kb_77b {FU p k S D : Nat} {G U X : List Nat} {W : Nat → Int32} {SS : Int → Prop} {zm zo : Nat → Nat → Int32} {zs tr : Nat → Int32} {bs : Nat → Nat → Int32} {bz du bf bb rr : Nat → Int32} {tz rz ra zn rec fq gv ivv kc ku ws km kd ke kw nS pS : Int32} {nW wN ps gr ar fr : Nat → Int32} {s1 s2 s3 s4 s5 s6 s7 dy yr mo yF yL mF mL fs : Int32} (hF : 8000 < FU) (hp : p < 4) (hS : S ≤ 10519199) (hG : AR gr G) (hGB : BL G) (hGl : G.length ≤ 18) (hX : AR ar X) (hXB : BL X) (hXl : X.length ≤ 18) (hR : KRule FU S G U rec fq gv ivv kc ku ws km kd ke kw nW wN nS ps pS gr) (hs : DOK s2 s3 s4 s5 s6 s7) (hd : DOK yr mo yF yL mF mL) (hD1 : 1 ≤ D) (hD2 : D ≤ 1440) (hzn : (zn = -1 ∧ W = nI) ∨ ∃ z, z < 3 ∧ zn = nI z ∧ ∀ m, m ≤ 10519199 → f_Zone_toWorld FU (nI m) (zm z) (zo z) (zs z) = some (W m)) (hW : ∀ m, m ≤ 10519199 → okMin (W m)) (hk4 : k + 40 ≤ 160) (hBT : BT bf bb k SS) : ∃ (bs' : Nat → Nat → Int32), ∃ (bz' du' F' B' : Nat → Int32), ∃ (k' : Nat), ∃ (L' : List Nat), ∃ (s1' s2' s3' s4' s5' s6' s7' dy' yr' mo' yF' yL' mF' mL' : Int32), ∃ (fr' : Nat → Int32), ∃ (fs' : Int32), f_K_bookP_77b FU (nI p) zm zo zs tr bs bz du (nI 1) bf bb (nI k) tz rr rz ra zn (nI S) (nI D) rec fq gv ivv kc ku ws km kd ke kw nW wN nS ps pS ar (nI X.length) gr (nI G.length) s1 s2 s3 s4 s5 s6 s7 dy yr mo yF yL mF mL fr fs = some (0, nI L'.length, bs', bz', du', nI (1 + 1), F', B', nI k', 0, rr, rz, ra, zn, nI S, nI D, rec, fq, gv, ivv, kc, ku, ws, km, kd, ke, kw, nW, wN, nS, ps, pS, ar, nI X.length, gr, nI G.length, s1', s2', s3', s4', s5', s6', s7', dy', yr', mo', yF', yL', mF', mL', fr', fs') ∧ KOK 1 bs bs' bz bz' du du' D L' W ∧ DOK s2' s3' s4' s5' s6' s7' ∧ DOK yr' mo' yF' yL' mF' mL' ∧ BL L' ∧ F40 (fun x => (x = S ∨ x ∈ X ∨ x ∈ U) ∧ ¬ x ∈ G) L' ∧ k' ≤ k + L'.length ∧ BT F' B' k' (fun m => SS m ∨ EvS (bs' 1) L'.length D 0 m) := by
  unfold f_K_bookP_77b
  obtain ⟨s1', s2', s3', s4', s5', s6', s7', dy', yr', mo', yF', yL', mF', mL', fr', fs', r', L', g1, g2, g3, g4, g5, g6⟩ := k_fill (FU := FU) (dn := nI D) (n := bz 1) (du := du 1) (r := bs 1) (s1 := s1) (dy := dy) (fr := fr) (fs := fs) hF hS hG hGB hGl hX hXB hXl hR hs hd
  have hl := g6.2.1
  rw [g1, bd_ok]
  dsimp only
  unfold f_K_bookP_89b f_Draft_zone
  rw [bd_ok, k_isZone, bd_ok]
  rcases hzn with ⟨rfl, rfl⟩ | ⟨z, hz, rfl, hz3⟩
  · rw [if_pos (show (-1 : Int32) < 0 by decide), if_pos rfl]
    obtain ⟨F', B', k', e1, e2, e3⟩ := kb_119b (FU := FU) (zm := zm) (zo := zo) (zs := zs) (tr := tr) (tz := tz) (rr := rr) (rz := rz) (ra := ra) (zn := -1) (rec := rec) (fq := fq) (gv := gv) (ivv := ivv) (kc := kc) (ku := ku) (ws := ws) (km := km) (kd := kd) (ke := ke) (kw := kw) (nW := nW) (wN := wN) (nS := nS) (ps := ps) (pS := pS) (ar := ar) (X := X) (gr := gr) (G := G) (s1 := s1') (s2 := s2') (s3 := s3') (s4 := s4') (s5 := s5') (s6 := s6') (s7 := s7') (dy := dy') (yr := yr') (mo := mo') (yF := yF') (yL := yL') (mF := mF') (mL := mL') (fr := fr') (fs := fs') (S := S) (p := p) (by omega) hp (KOK_up (N := 1) (r := r') (bs' := up bs 1 r') (fun e he => up_ne _ _ he) (fun j hj => by rw [up_same]; exact g4 j hj)) hl g5 hD1 hD2 hW hk4 hBT
    exact ⟨_, _, _, F', B', k', L', s1', s2', s3', s4', s5', s6', s7', dy', yr', mo', yF', yL', mF', mL', fr', fs', e1, KOK_up (N := 1) (r := r') (fun e he => up_ne _ _ he) (fun j hj => by rw [up_same]; exact g4 j hj), g2, g3, g5, g6, e2, e3⟩
  · rw [if_neg (nI_pos (by omega)), if_neg (show ¬ 3 ≤ nI z from nI_ge (b := 3) hz (by omega)), if_neg (show ¬ (1 : Int32) = 0 by decide), bd_ok]
    have hz' : z = 0 ∨ z = 1 ∨ z = 2 := by omega
    rcases hz' with rfl | rfl | rfl
    · rw [sp3_n0, up_same, up_same]
      obtain ⟨r2, w1, w2⟩ := k_mtw (FU := FU) (by omega) hl g5 hz3 g4
      rw [w1, bd_ok]
      obtain ⟨F', B', k', e1, e2, e3⟩ := kb_119b (FU := FU) (zm := zm) (zo := zo) (zs := zs) (tr := tr) (tz := tz) (rr := rr) (rz := rz) (ra := ra) (zn := nI 0) (rec := rec) (fq := fq) (gv := gv) (ivv := ivv) (kc := kc) (ku := ku) (ws := ws) (km := km) (kd := kd) (ke := ke) (kw := kw) (nW := nW) (wN := wN) (nS := nS) (ps := ps) (pS := pS) (ar := ar) (X := X) (gr := gr) (G := G) (s1 := s1') (s2 := s2') (s3 := s3') (s4 := s4') (s5 := s5') (s6 := s6') (s7 := s7') (dy := dy') (yr := yr') (mo := mo') (yF := yF') (yL := yL') (mF := mF') (mL := mL') (fr := fr') (fs := fs') (S := S) (p := p) (by omega) hp (KOK_up (N := 1) (r := r2) (bs' := up (up bs 1 r') 1 r2) (fun e he => by rw [up_ne _ _ he, up_ne _ _ he]) (fun j hj => by rw [up_same]; exact w2 j hj)) hl g5 hD1 hD2 hW hk4 hBT
      exact ⟨_, _, _, F', B', k', L', s1', s2', s3', s4', s5', s6', s7', dy', yr', mo', yF', yL', mF', mL', fr', fs', e1, KOK_up (N := 1) (r := r2) (fun e he => by rw [up_ne _ _ he, up_ne _ _ he]) (fun j hj => by rw [up_same]; exact w2 j hj), g2, g3, g5, g6, e2, e3⟩
    · rw [sp3_n1, up_same, up_same]
      obtain ⟨r2, w1, w2⟩ := k_mtw (FU := FU) (by omega) hl g5 hz3 g4
      rw [w1, bd_ok]
      obtain ⟨F', B', k', e1, e2, e3⟩ := kb_119b (FU := FU) (zm := zm) (zo := zo) (zs := zs) (tr := tr) (tz := tz) (rr := rr) (rz := rz) (ra := ra) (zn := nI 1) (rec := rec) (fq := fq) (gv := gv) (ivv := ivv) (kc := kc) (ku := ku) (ws := ws) (km := km) (kd := kd) (ke := ke) (kw := kw) (nW := nW) (wN := wN) (nS := nS) (ps := ps) (pS := pS) (ar := ar) (X := X) (gr := gr) (G := G) (s1 := s1') (s2 := s2') (s3 := s3') (s4 := s4') (s5 := s5') (s6 := s6') (s7 := s7') (dy := dy') (yr := yr') (mo := mo') (yF := yF') (yL := yL') (mF := mF') (mL := mL') (fr := fr') (fs := fs') (S := S) (p := p) (by omega) hp (KOK_up (N := 1) (r := r2) (bs' := up (up bs 1 r') 1 r2) (fun e he => by rw [up_ne _ _ he, up_ne _ _ he]) (fun j hj => by rw [up_same]; exact w2 j hj)) hl g5 hD1 hD2 hW hk4 hBT
      exact ⟨_, _, _, F', B', k', L', s1', s2', s3', s4', s5', s6', s7', dy', yr', mo', yF', yL', mF', mL', fr', fs', e1, KOK_up (N := 1) (r := r2) (fun e he => by rw [up_ne _ _ he, up_ne _ _ he]) (fun j hj => by rw [up_same]; exact w2 j hj), g2, g3, g5, g6, e2, e3⟩
    · rw [sp3_n2, up_same, up_same]
      obtain ⟨r2, w1, w2⟩ := k_mtw (FU := FU) (by omega) hl g5 hz3 g4
      rw [w1, bd_ok]
      obtain ⟨F', B', k', e1, e2, e3⟩ := kb_119b (FU := FU) (zm := zm) (zo := zo) (zs := zs) (tr := tr) (tz := tz) (rr := rr) (rz := rz) (ra := ra) (zn := nI 2) (rec := rec) (fq := fq) (gv := gv) (ivv := ivv) (kc := kc) (ku := ku) (ws := ws) (km := km) (kd := kd) (ke := ke) (kw := kw) (nW := nW) (wN := wN) (nS := nS) (ps := ps) (pS := pS) (ar := ar) (X := X) (gr := gr) (G := G) (s1 := s1') (s2 := s2') (s3 := s3') (s4 := s4') (s5 := s5') (s6 := s6') (s7 := s7') (dy := dy') (yr := yr') (mo := mo') (yF := yF') (yL := yL') (mF := mF') (mL := mL') (fr := fr') (fs := fs') (S := S) (p := p) (by omega) hp (KOK_up (N := 1) (r := r2) (bs' := up (up bs 1 r') 1 r2) (fun e he => by rw [up_ne _ _ he, up_ne _ _ he]) (fun j hj => by rw [up_same]; exact w2 j hj)) hl g5 hD1 hD2 hW hk4 hBT
      exact ⟨_, _, _, F', B', k', L', s1', s2', s3', s4', s5', s6', s7', dy', yr', mo', yF', yL', mF', mL', fr', fs', e1, KOK_up (N := 1) (r := r2) (fun e he => by rw [up_ne _ _ he, up_ne _ _ he]) (fun j hj => by rw [up_same]; exact w2 j hj), g2, g3, g5, g6, e2, e3⟩
theorem kb_119c {FU p k S D : Nat} {G X : List Nat} {W : Nat → Int32} {SS : Int → Prop} {zm zo : Nat → Nat → Int32} {zs tr : Nat → Int32} {bs : Nat → Nat → Int32} {bz du bf bb rr : Nat → Int32} {tz rz ra zn rec fq gv ivv kc ku ws km kd ke kw nS pS : Int32} {nW wN ps gr ar fr : Nat → Int32} {s1 s2 s3 s4 s5 s6 s7 dy yr mo yF yL mF mL fs : Int32} {L' : List Nat} {bs' : Nat → Nat → Int32} {bz' du' : Nat → Int32} (hF : 300 < FU) (hp : p < 4) (hk : KOK 2 bs bs' bz bz' du du' D L' W) (hl : L'.length ≤ 40) (hBL : BL L') (hD1 : 1 ≤ D) (hD2 : D ≤ 1440) (hW : ∀ m, m ≤ 10519199 → okMin (W m)) (hk4 : k + 40 ≤ 160) (hBT : BT bf bb k SS) : ∃ (F' B' : Nat → Int32), ∃ (k' : Nat), f_K_bookP_119c FU (nI p) zm zo zs tr bs' bz' du' (nI 2) bf bb (nI k) tz rr rz ra zn (nI S) (nI D) rec fq gv ivv kc ku ws km kd ke kw nW wN nS ps pS ar (nI X.length) gr (nI G.length) s1 s2 s3 s4 s5 s6 s7 dy yr mo yF yL mF mL fr fs = some (0, nI L'.length, bs', bz', du', nI (2 + 1), F', B', nI k', 0, rr, rz, ra, zn, nI S, nI D, rec, fq, gv, ivv, kc, ku, ws, km, kd, ke, kw, nW, wN, nS, ps, pS, ar, nI X.length, gr, nI G.length, s1, s2, s3, s4, s5, s6, s7, dy, yr, mo, yF, yL, mF, mL, fr, fs) ∧ k' ≤ k + L'.length ∧ BT F' B' k' (fun m => SS m ∨ EvS (bs' 2) L'.length D 0 m) := by
  obtain ⟨h1, h2, h3, h4⟩ := hk
  unfold f_K_bookP_119c f_Text_clear f_Event_size
  obtain ⟨F', B', k', e1, e2, e3⟩ := b_addI (FU := FU) (bs := bs' 2) (by omega) hl hD1 hD2 (fun j hj => by rw [h4 j hj]; exact hW _ (hBL _ (getD_mem hj))) (by omega) hBT
  rw [ck_ok hp (by omega), show (nI 2) = nI 2 from rfl, k_keep (n := 2) (by omega), h2, h3, e1, bd_ok, bd_ok, bd_ok, bd_ok]
  exact ⟨F', B', k', rfl, e2, e3⟩
theorem kb_77c {FU p k S D : Nat} {G U X : List Nat} {W : Nat → Int32} {SS : Int → Prop} {zm zo : Nat → Nat → Int32} {zs tr : Nat → Int32} {bs : Nat → Nat → Int32} {bz du bf bb rr : Nat → Int32} {tz rz ra zn rec fq gv ivv kc ku ws km kd ke kw nS pS : Int32} {nW wN ps gr ar fr : Nat → Int32} {s1 s2 s3 s4 s5 s6 s7 dy yr mo yF yL mF mL fs : Int32} (hF : 8000 < FU) (hp : p < 4) (hS : S ≤ 10519199) (hG : AR gr G) (hGB : BL G) (hGl : G.length ≤ 18) (hX : AR ar X) (hXB : BL X) (hXl : X.length ≤ 18) (hR : KRule FU S G U rec fq gv ivv kc ku ws km kd ke kw nW wN nS ps pS gr) (hs : DOK s2 s3 s4 s5 s6 s7) (hd : DOK yr mo yF yL mF mL) (hD1 : 1 ≤ D) (hD2 : D ≤ 1440) (hzn : (zn = -1 ∧ W = nI) ∨ ∃ z, z < 3 ∧ zn = nI z ∧ ∀ m, m ≤ 10519199 → f_Zone_toWorld FU (nI m) (zm z) (zo z) (zs z) = some (W m)) (hW : ∀ m, m ≤ 10519199 → okMin (W m)) (hk4 : k + 40 ≤ 160) (hBT : BT bf bb k SS) : ∃ (bs' : Nat → Nat → Int32), ∃ (bz' du' F' B' : Nat → Int32), ∃ (k' : Nat), ∃ (L' : List Nat), ∃ (s1' s2' s3' s4' s5' s6' s7' dy' yr' mo' yF' yL' mF' mL' : Int32), ∃ (fr' : Nat → Int32), ∃ (fs' : Int32), f_K_bookP_77c FU (nI p) zm zo zs tr bs bz du (nI 2) bf bb (nI k) tz rr rz ra zn (nI S) (nI D) rec fq gv ivv kc ku ws km kd ke kw nW wN nS ps pS ar (nI X.length) gr (nI G.length) s1 s2 s3 s4 s5 s6 s7 dy yr mo yF yL mF mL fr fs = some (0, nI L'.length, bs', bz', du', nI (2 + 1), F', B', nI k', 0, rr, rz, ra, zn, nI S, nI D, rec, fq, gv, ivv, kc, ku, ws, km, kd, ke, kw, nW, wN, nS, ps, pS, ar, nI X.length, gr, nI G.length, s1', s2', s3', s4', s5', s6', s7', dy', yr', mo', yF', yL', mF', mL', fr', fs') ∧ KOK 2 bs bs' bz bz' du du' D L' W ∧ DOK s2' s3' s4' s5' s6' s7' ∧ DOK yr' mo' yF' yL' mF' mL' ∧ BL L' ∧ F40 (fun x => (x = S ∨ x ∈ X ∨ x ∈ U) ∧ ¬ x ∈ G) L' ∧ k' ≤ k + L'.length ∧ BT F' B' k' (fun m => SS m ∨ EvS (bs' 2) L'.length D 0 m) := by
  unfold f_K_bookP_77c
  obtain ⟨s1', s2', s3', s4', s5', s6', s7', dy', yr', mo', yF', yL', mF', mL', fr', fs', r', L', g1, g2, g3, g4, g5, g6⟩ := k_fill (FU := FU) (dn := nI D) (n := bz 2) (du := du 2) (r := bs 2) (s1 := s1) (dy := dy) (fr := fr) (fs := fs) hF hS hG hGB hGl hX hXB hXl hR hs hd
  have hl := g6.2.1
  rw [g1, bd_ok]
  dsimp only
  unfold f_K_bookP_89c f_Draft_zone
  rw [bd_ok, k_isZone, bd_ok]
  rcases hzn with ⟨rfl, rfl⟩ | ⟨z, hz, rfl, hz3⟩
  · rw [if_pos (show (-1 : Int32) < 0 by decide), if_pos rfl]
    obtain ⟨F', B', k', e1, e2, e3⟩ := kb_119c (FU := FU) (zm := zm) (zo := zo) (zs := zs) (tr := tr) (tz := tz) (rr := rr) (rz := rz) (ra := ra) (zn := -1) (rec := rec) (fq := fq) (gv := gv) (ivv := ivv) (kc := kc) (ku := ku) (ws := ws) (km := km) (kd := kd) (ke := ke) (kw := kw) (nW := nW) (wN := wN) (nS := nS) (ps := ps) (pS := pS) (ar := ar) (X := X) (gr := gr) (G := G) (s1 := s1') (s2 := s2') (s3 := s3') (s4 := s4') (s5 := s5') (s6 := s6') (s7 := s7') (dy := dy') (yr := yr') (mo := mo') (yF := yF') (yL := yL') (mF := mF') (mL := mL') (fr := fr') (fs := fs') (S := S) (p := p) (by omega) hp (KOK_up (N := 2) (r := r') (bs' := up bs 2 r') (fun e he => up_ne _ _ he) (fun j hj => by rw [up_same]; exact g4 j hj)) hl g5 hD1 hD2 hW hk4 hBT
    exact ⟨_, _, _, F', B', k', L', s1', s2', s3', s4', s5', s6', s7', dy', yr', mo', yF', yL', mF', mL', fr', fs', e1, KOK_up (N := 2) (r := r') (fun e he => up_ne _ _ he) (fun j hj => by rw [up_same]; exact g4 j hj), g2, g3, g5, g6, e2, e3⟩
  · rw [if_neg (nI_pos (by omega)), if_neg (show ¬ 3 ≤ nI z from nI_ge (b := 3) hz (by omega)), if_neg (show ¬ (1 : Int32) = 0 by decide), bd_ok]
    have hz' : z = 0 ∨ z = 1 ∨ z = 2 := by omega
    rcases hz' with rfl | rfl | rfl
    · rw [sp3_n0, up_same, up_same]
      obtain ⟨r2, w1, w2⟩ := k_mtw (FU := FU) (by omega) hl g5 hz3 g4
      rw [w1, bd_ok]
      obtain ⟨F', B', k', e1, e2, e3⟩ := kb_119c (FU := FU) (zm := zm) (zo := zo) (zs := zs) (tr := tr) (tz := tz) (rr := rr) (rz := rz) (ra := ra) (zn := nI 0) (rec := rec) (fq := fq) (gv := gv) (ivv := ivv) (kc := kc) (ku := ku) (ws := ws) (km := km) (kd := kd) (ke := ke) (kw := kw) (nW := nW) (wN := wN) (nS := nS) (ps := ps) (pS := pS) (ar := ar) (X := X) (gr := gr) (G := G) (s1 := s1') (s2 := s2') (s3 := s3') (s4 := s4') (s5 := s5') (s6 := s6') (s7 := s7') (dy := dy') (yr := yr') (mo := mo') (yF := yF') (yL := yL') (mF := mF') (mL := mL') (fr := fr') (fs := fs') (S := S) (p := p) (by omega) hp (KOK_up (N := 2) (r := r2) (bs' := up (up bs 2 r') 2 r2) (fun e he => by rw [up_ne _ _ he, up_ne _ _ he]) (fun j hj => by rw [up_same]; exact w2 j hj)) hl g5 hD1 hD2 hW hk4 hBT
      exact ⟨_, _, _, F', B', k', L', s1', s2', s3', s4', s5', s6', s7', dy', yr', mo', yF', yL', mF', mL', fr', fs', e1, KOK_up (N := 2) (r := r2) (fun e he => by rw [up_ne _ _ he, up_ne _ _ he]) (fun j hj => by rw [up_same]; exact w2 j hj), g2, g3, g5, g6, e2, e3⟩
    · rw [sp3_n1, up_same, up_same]
      obtain ⟨r2, w1, w2⟩ := k_mtw (FU := FU) (by omega) hl g5 hz3 g4
      rw [w1, bd_ok]
      obtain ⟨F', B', k', e1, e2, e3⟩ := kb_119c (FU := FU) (zm := zm) (zo := zo) (zs := zs) (tr := tr) (tz := tz) (rr := rr) (rz := rz) (ra := ra) (zn := nI 1) (rec := rec) (fq := fq) (gv := gv) (ivv := ivv) (kc := kc) (ku := ku) (ws := ws) (km := km) (kd := kd) (ke := ke) (kw := kw) (nW := nW) (wN := wN) (nS := nS) (ps := ps) (pS := pS) (ar := ar) (X := X) (gr := gr) (G := G) (s1 := s1') (s2 := s2') (s3 := s3') (s4 := s4') (s5 := s5') (s6 := s6') (s7 := s7') (dy := dy') (yr := yr') (mo := mo') (yF := yF') (yL := yL') (mF := mF') (mL := mL') (fr := fr') (fs := fs') (S := S) (p := p) (by omega) hp (KOK_up (N := 2) (r := r2) (bs' := up (up bs 2 r') 2 r2) (fun e he => by rw [up_ne _ _ he, up_ne _ _ he]) (fun j hj => by rw [up_same]; exact w2 j hj)) hl g5 hD1 hD2 hW hk4 hBT
      exact ⟨_, _, _, F', B', k', L', s1', s2', s3', s4', s5', s6', s7', dy', yr', mo', yF', yL', mF', mL', fr', fs', e1, KOK_up (N := 2) (r := r2) (fun e he => by rw [up_ne _ _ he, up_ne _ _ he]) (fun j hj => by rw [up_same]; exact w2 j hj), g2, g3, g5, g6, e2, e3⟩
    · rw [sp3_n2, up_same, up_same]
      obtain ⟨r2, w1, w2⟩ := k_mtw (FU := FU) (by omega) hl g5 hz3 g4
      rw [w1, bd_ok]
      obtain ⟨F', B', k', e1, e2, e3⟩ := kb_119c (FU := FU) (zm := zm) (zo := zo) (zs := zs) (tr := tr) (tz := tz) (rr := rr) (rz := rz) (ra := ra) (zn := nI 2) (rec := rec) (fq := fq) (gv := gv) (ivv := ivv) (kc := kc) (ku := ku) (ws := ws) (km := km) (kd := kd) (ke := ke) (kw := kw) (nW := nW) (wN := wN) (nS := nS) (ps := ps) (pS := pS) (ar := ar) (X := X) (gr := gr) (G := G) (s1 := s1') (s2 := s2') (s3 := s3') (s4 := s4') (s5 := s5') (s6 := s6') (s7 := s7') (dy := dy') (yr := yr') (mo := mo') (yF := yF') (yL := yL') (mF := mF') (mL := mL') (fr := fr') (fs := fs') (S := S) (p := p) (by omega) hp (KOK_up (N := 2) (r := r2) (bs' := up (up bs 2 r') 2 r2) (fun e he => by rw [up_ne _ _ he, up_ne _ _ he]) (fun j hj => by rw [up_same]; exact w2 j hj)) hl g5 hD1 hD2 hW hk4 hBT
      exact ⟨_, _, _, F', B', k', L', s1', s2', s3', s4', s5', s6', s7', dy', yr', mo', yF', yL', mF', mL', fr', fs', e1, KOK_up (N := 2) (r := r2) (fun e he => by rw [up_ne _ _ he, up_ne _ _ he]) (fun j hj => by rw [up_same]; exact w2 j hj), g2, g3, g5, g6, e2, e3⟩
theorem kb_119d {FU p k S D : Nat} {G X : List Nat} {W : Nat → Int32} {SS : Int → Prop} {zm zo : Nat → Nat → Int32} {zs tr : Nat → Int32} {bs : Nat → Nat → Int32} {bz du bf bb rr : Nat → Int32} {tz rz ra zn rec fq gv ivv kc ku ws km kd ke kw nS pS : Int32} {nW wN ps gr ar fr : Nat → Int32} {s1 s2 s3 s4 s5 s6 s7 dy yr mo yF yL mF mL fs : Int32} {L' : List Nat} {bs' : Nat → Nat → Int32} {bz' du' : Nat → Int32} (hF : 300 < FU) (hp : p < 4) (hk : KOK 3 bs bs' bz bz' du du' D L' W) (hl : L'.length ≤ 40) (hBL : BL L') (hD1 : 1 ≤ D) (hD2 : D ≤ 1440) (hW : ∀ m, m ≤ 10519199 → okMin (W m)) (hk4 : k + 40 ≤ 160) (hBT : BT bf bb k SS) : ∃ (F' B' : Nat → Int32), ∃ (k' : Nat), f_K_bookP_119d FU (nI p) zm zo zs tr bs' bz' du' (nI 3) bf bb (nI k) tz rr rz ra zn (nI S) (nI D) rec fq gv ivv kc ku ws km kd ke kw nW wN nS ps pS ar (nI X.length) gr (nI G.length) s1 s2 s3 s4 s5 s6 s7 dy yr mo yF yL mF mL fr fs = some (0, nI L'.length, bs', bz', du', nI (3 + 1), F', B', nI k', 0, rr, rz, ra, zn, nI S, nI D, rec, fq, gv, ivv, kc, ku, ws, km, kd, ke, kw, nW, wN, nS, ps, pS, ar, nI X.length, gr, nI G.length, s1, s2, s3, s4, s5, s6, s7, dy, yr, mo, yF, yL, mF, mL, fr, fs) ∧ k' ≤ k + L'.length ∧ BT F' B' k' (fun m => SS m ∨ EvS (bs' 3) L'.length D 0 m) := by
  obtain ⟨h1, h2, h3, h4⟩ := hk
  unfold f_K_bookP_119d f_Text_clear f_Event_size
  obtain ⟨F', B', k', e1, e2, e3⟩ := b_addI (FU := FU) (bs := bs' 3) (by omega) hl hD1 hD2 (fun j hj => by rw [h4 j hj]; exact hW _ (hBL _ (getD_mem hj))) (by omega) hBT
  rw [ck_ok hp (by omega), show (nI 3) = nI 3 from rfl, k_keep (n := 3) (by omega), h2, h3, e1, bd_ok, bd_ok, bd_ok, bd_ok]
  exact ⟨F', B', k', rfl, e2, e3⟩
theorem kb_77d {FU p k S D : Nat} {G U X : List Nat} {W : Nat → Int32} {SS : Int → Prop} {zm zo : Nat → Nat → Int32} {zs tr : Nat → Int32} {bs : Nat → Nat → Int32} {bz du bf bb rr : Nat → Int32} {tz rz ra zn rec fq gv ivv kc ku ws km kd ke kw nS pS : Int32} {nW wN ps gr ar fr : Nat → Int32} {s1 s2 s3 s4 s5 s6 s7 dy yr mo yF yL mF mL fs : Int32} (hF : 8000 < FU) (hp : p < 4) (hS : S ≤ 10519199) (hG : AR gr G) (hGB : BL G) (hGl : G.length ≤ 18) (hX : AR ar X) (hXB : BL X) (hXl : X.length ≤ 18) (hR : KRule FU S G U rec fq gv ivv kc ku ws km kd ke kw nW wN nS ps pS gr) (hs : DOK s2 s3 s4 s5 s6 s7) (hd : DOK yr mo yF yL mF mL) (hD1 : 1 ≤ D) (hD2 : D ≤ 1440) (hzn : (zn = -1 ∧ W = nI) ∨ ∃ z, z < 3 ∧ zn = nI z ∧ ∀ m, m ≤ 10519199 → f_Zone_toWorld FU (nI m) (zm z) (zo z) (zs z) = some (W m)) (hW : ∀ m, m ≤ 10519199 → okMin (W m)) (hk4 : k + 40 ≤ 160) (hBT : BT bf bb k SS) : ∃ (bs' : Nat → Nat → Int32), ∃ (bz' du' F' B' : Nat → Int32), ∃ (k' : Nat), ∃ (L' : List Nat), ∃ (s1' s2' s3' s4' s5' s6' s7' dy' yr' mo' yF' yL' mF' mL' : Int32), ∃ (fr' : Nat → Int32), ∃ (fs' : Int32), f_K_bookP_77d FU (nI p) zm zo zs tr bs bz du (nI 3) bf bb (nI k) tz rr rz ra zn (nI S) (nI D) rec fq gv ivv kc ku ws km kd ke kw nW wN nS ps pS ar (nI X.length) gr (nI G.length) s1 s2 s3 s4 s5 s6 s7 dy yr mo yF yL mF mL fr fs = some (0, nI L'.length, bs', bz', du', nI (3 + 1), F', B', nI k', 0, rr, rz, ra, zn, nI S, nI D, rec, fq, gv, ivv, kc, ku, ws, km, kd, ke, kw, nW, wN, nS, ps, pS, ar, nI X.length, gr, nI G.length, s1', s2', s3', s4', s5', s6', s7', dy', yr', mo', yF', yL', mF', mL', fr', fs') ∧ KOK 3 bs bs' bz bz' du du' D L' W ∧ DOK s2' s3' s4' s5' s6' s7' ∧ DOK yr' mo' yF' yL' mF' mL' ∧ BL L' ∧ F40 (fun x => (x = S ∨ x ∈ X ∨ x ∈ U) ∧ ¬ x ∈ G) L' ∧ k' ≤ k + L'.length ∧ BT F' B' k' (fun m => SS m ∨ EvS (bs' 3) L'.length D 0 m) := by
  unfold f_K_bookP_77d
  obtain ⟨s1', s2', s3', s4', s5', s6', s7', dy', yr', mo', yF', yL', mF', mL', fr', fs', r', L', g1, g2, g3, g4, g5, g6⟩ := k_fill (FU := FU) (dn := nI D) (n := bz 3) (du := du 3) (r := bs 3) (s1 := s1) (dy := dy) (fr := fr) (fs := fs) hF hS hG hGB hGl hX hXB hXl hR hs hd
  have hl := g6.2.1
  rw [g1, bd_ok]
  dsimp only
  unfold f_K_bookP_89d f_Draft_zone
  rw [bd_ok, k_isZone, bd_ok]
  rcases hzn with ⟨rfl, rfl⟩ | ⟨z, hz, rfl, hz3⟩
  · rw [if_pos (show (-1 : Int32) < 0 by decide), if_pos rfl]
    obtain ⟨F', B', k', e1, e2, e3⟩ := kb_119d (FU := FU) (zm := zm) (zo := zo) (zs := zs) (tr := tr) (tz := tz) (rr := rr) (rz := rz) (ra := ra) (zn := -1) (rec := rec) (fq := fq) (gv := gv) (ivv := ivv) (kc := kc) (ku := ku) (ws := ws) (km := km) (kd := kd) (ke := ke) (kw := kw) (nW := nW) (wN := wN) (nS := nS) (ps := ps) (pS := pS) (ar := ar) (X := X) (gr := gr) (G := G) (s1 := s1') (s2 := s2') (s3 := s3') (s4 := s4') (s5 := s5') (s6 := s6') (s7 := s7') (dy := dy') (yr := yr') (mo := mo') (yF := yF') (yL := yL') (mF := mF') (mL := mL') (fr := fr') (fs := fs') (S := S) (p := p) (by omega) hp (KOK_up (N := 3) (r := r') (bs' := up bs 3 r') (fun e he => up_ne _ _ he) (fun j hj => by rw [up_same]; exact g4 j hj)) hl g5 hD1 hD2 hW hk4 hBT
    exact ⟨_, _, _, F', B', k', L', s1', s2', s3', s4', s5', s6', s7', dy', yr', mo', yF', yL', mF', mL', fr', fs', e1, KOK_up (N := 3) (r := r') (fun e he => up_ne _ _ he) (fun j hj => by rw [up_same]; exact g4 j hj), g2, g3, g5, g6, e2, e3⟩
  · rw [if_neg (nI_pos (by omega)), if_neg (show ¬ 3 ≤ nI z from nI_ge (b := 3) hz (by omega)), if_neg (show ¬ (1 : Int32) = 0 by decide), bd_ok]
    have hz' : z = 0 ∨ z = 1 ∨ z = 2 := by omega
    rcases hz' with rfl | rfl | rfl
    · rw [sp3_n0, up_same, up_same]
      obtain ⟨r2, w1, w2⟩ := k_mtw (FU := FU) (by omega) hl g5 hz3 g4
      rw [w1, bd_ok]
      obtain ⟨F', B', k', e1, e2, e3⟩ := kb_119d (FU := FU) (zm := zm) (zo := zo) (zs := zs) (tr := tr) (tz := tz) (rr := rr) (rz := rz) (ra := ra) (zn := nI 0) (rec := rec) (fq := fq) (gv := gv) (ivv := ivv) (kc := kc) (ku := ku) (ws := ws) (km := km) (kd := kd) (ke := ke) (kw := kw) (nW := nW) (wN := wN) (nS := nS) (ps := ps) (pS := pS) (ar := ar) (X := X) (gr := gr) (G := G) (s1 := s1') (s2 := s2') (s3 := s3') (s4 := s4') (s5 := s5') (s6 := s6') (s7 := s7') (dy := dy') (yr := yr') (mo := mo') (yF := yF') (yL := yL') (mF := mF') (mL := mL') (fr := fr') (fs := fs') (S := S) (p := p) (by omega) hp (KOK_up (N := 3) (r := r2) (bs' := up (up bs 3 r') 3 r2) (fun e he => by rw [up_ne _ _ he, up_ne _ _ he]) (fun j hj => by rw [up_same]; exact w2 j hj)) hl g5 hD1 hD2 hW hk4 hBT
      exact ⟨_, _, _, F', B', k', L', s1', s2', s3', s4', s5', s6', s7', dy', yr', mo', yF', yL', mF', mL', fr', fs', e1, KOK_up (N := 3) (r := r2) (fun e he => by rw [up_ne _ _ he, up_ne _ _ he]) (fun j hj => by rw [up_same]; exact w2 j hj), g2, g3, g5, g6, e2, e3⟩
    · rw [sp3_n1, up_same, up_same]
      obtain ⟨r2, w1, w2⟩ := k_mtw (FU := FU) (by omega) hl g5 hz3 g4
      rw [w1, bd_ok]
      obtain ⟨F', B', k', e1, e2, e3⟩ := kb_119d (FU := FU) (zm := zm) (zo := zo) (zs := zs) (tr := tr) (tz := tz) (rr := rr) (rz := rz) (ra := ra) (zn := nI 1) (rec := rec) (fq := fq) (gv := gv) (ivv := ivv) (kc := kc) (ku := ku) (ws := ws) (km := km) (kd := kd) (ke := ke) (kw := kw) (nW := nW) (wN := wN) (nS := nS) (ps := ps) (pS := pS) (ar := ar) (X := X) (gr := gr) (G := G) (s1 := s1') (s2 := s2') (s3 := s3') (s4 := s4') (s5 := s5') (s6 := s6') (s7 := s7') (dy := dy') (yr := yr') (mo := mo') (yF := yF') (yL := yL') (mF := mF') (mL := mL') (fr := fr') (fs := fs') (S := S) (p := p) (by omega) hp (KOK_up (N := 3) (r := r2) (bs' := up (up bs 3 r') 3 r2) (fun e he => by rw [up_ne _ _ he, up_ne _ _ he]) (fun j hj => by rw [up_same]; exact w2 j hj)) hl g5 hD1 hD2 hW hk4 hBT
      exact ⟨_, _, _, F', B', k', L', s1', s2', s3', s4', s5', s6', s7', dy', yr', mo', yF', yL', mF', mL', fr', fs', e1, KOK_up (N := 3) (r := r2) (fun e he => by rw [up_ne _ _ he, up_ne _ _ he]) (fun j hj => by rw [up_same]; exact w2 j hj), g2, g3, g5, g6, e2, e3⟩
    · rw [sp3_n2, up_same, up_same]
      obtain ⟨r2, w1, w2⟩ := k_mtw (FU := FU) (by omega) hl g5 hz3 g4
      rw [w1, bd_ok]
      obtain ⟨F', B', k', e1, e2, e3⟩ := kb_119d (FU := FU) (zm := zm) (zo := zo) (zs := zs) (tr := tr) (tz := tz) (rr := rr) (rz := rz) (ra := ra) (zn := nI 2) (rec := rec) (fq := fq) (gv := gv) (ivv := ivv) (kc := kc) (ku := ku) (ws := ws) (km := km) (kd := kd) (ke := ke) (kw := kw) (nW := nW) (wN := wN) (nS := nS) (ps := ps) (pS := pS) (ar := ar) (X := X) (gr := gr) (G := G) (s1 := s1') (s2 := s2') (s3 := s3') (s4 := s4') (s5 := s5') (s6 := s6') (s7 := s7') (dy := dy') (yr := yr') (mo := mo') (yF := yF') (yL := yL') (mF := mF') (mL := mL') (fr := fr') (fs := fs') (S := S) (p := p) (by omega) hp (KOK_up (N := 3) (r := r2) (bs' := up (up bs 3 r') 3 r2) (fun e he => by rw [up_ne _ _ he, up_ne _ _ he]) (fun j hj => by rw [up_same]; exact w2 j hj)) hl g5 hD1 hD2 hW hk4 hBT
      exact ⟨_, _, _, F', B', k', L', s1', s2', s3', s4', s5', s6', s7', dy', yr', mo', yF', yL', mF', mL', fr', fs', e1, KOK_up (N := 3) (r := r2) (fun e he => by rw [up_ne _ _ he, up_ne _ _ he]) (fun j hj => by rw [up_same]; exact w2 j hj), g2, g3, g5, g6, e2, e3⟩
theorem RQ.add {bs : Nat → Nat → Nat → Int32} {bz du : Nat → Nat → Int32} {pz : Nat → Int32} {bf bb : Nat → Nat → Int32} {bsz bo ln ct bg : Nat → Int32} (h : RQ bs bz du pz bf bb bsz bo ln ct bg) {p n k c d k' : Nat} {C D : Nat → Nat} {bs1 : Nat → Nat → Int32} {bz1 du1 F' B' bg' : Nat → Int32} (hp : p < 4) (hn : n < 4) (hM : MP p n C D bo ln ct bg)
    (hE : ∀ e, e < n → bz p e = nI (C (4 * p + e)) ∧ du p e = nI (D (4 * p + e)) ∧ ∀ j, j < C (4 * p + e) → bs p e j = bg (40 * (4 * p + e) + j)) (hc : c ≤ 40) (hd1 : 1 ≤ d) (hd2 : d ≤ 1440) (h1 : ∀ e, e ≠ n → bs1 e = bs p e ∧ bz1 e = bz p e ∧ du1 e = du p e) (h2 : bz1 n = nI c) (h3 : du1 n = nI d) (h4 : ∀ j, j < c → bs1 n j = bg' (40 * (4 * p + n) + j) ∧ okMin (bs1 n j)) (h5 : ∀ i, i < 40 * (4 * p + n) ∨ 40 * (4 * p + n) + 40 ≤ i → bg' i = bg i) (hk : k ≤ 40 * n) (h6 : k' ≤ k + c) (h7 : BT F' B' k' (fun m => MS p n C D bg 0 m ∨ EvS (bs1 n) c d 0 m)) :
    RQ (up bs p bs1) (up bz p bz1) (up du p du1) (up pz p (nI (n + 1))) (up bf p F') (up bb p B') (up bsz p (nI k')) (upd bo p (nI (n + 1))) (upd ln (4 * p + n) (nI d)) (upd ct (4 * p + n) (nI c)) bg' := by
  intro p' hp'
  by_cases e : p' = p
  · subst e
    obtain ⟨_, m2, m3, m4⟩ := hM
    have hC : ∀ e, e < n → (fun q => if q = 4 * p' + n then c else C q) (4 * p' + e) = C (4 * p' + e) := fun e he => if_neg (by omega)
    have hD : ∀ e, e < n → (fun q => if q = 4 * p' + n then d else D q) (4 * p' + e) = D (4 * p' + e) := fun e he => if_neg (by omega)
    have hC0 : (fun q => if q = 4 * p' + n then c else C q) (4 * p' + n) = c := if_pos rfl
    have hD0 : (fun q => if q = 4 * p' + n then d else D q) (4 * p' + n) = d := if_pos rfl
    refine ⟨n + 1, fun q => if q = 4 * p' + n then c else C q, fun q => if q = 4 * p' + n then d else D q, k', ⟨hp, by omega, pk_us, fun e he => ?_⟩, up_same _ _ _, fun e he => ?_, by omega, up_same _ _ _, ?_⟩
    · by_cases en : e = n
      · subst en
        rw [hC0, hD0, pk_us, pk_us]
        exact ⟨hc, rfl, hd1, hd2, rfl, fun j hj => by rw [← (h4 j hj).1]; exact (h4 j hj).2⟩
      · have he' : e < n := by omega
        obtain ⟨q1, q2, q3, q4, q5, q6⟩ := m4 e he'
        rw [hC e he', hD e he', pk_un (show 4 * p' + e ≠ 4 * p' + n by omega), pk_un (show 4 * p' + e ≠ 4 * p' + n by omega)]
        refine ⟨q1, q2, q3, q4, q5, fun j hj => ?_⟩
        rw [h5 _ (by omega)]
        exact q6 j hj
    · rw [up_same, up_same, up_same]
      by_cases en : e = n
      · subst en
        rw [hC0, hD0]
        exact ⟨h2, h3, fun j hj => (h4 j hj).1⟩
      · have he' : e < n := by omega
        obtain ⟨q1, q2, q3⟩ := hE e he'
        have q0 := (m4 e he').1
        obtain ⟨x1, x2, x3⟩ := h1 e en
        rw [hC e he', hD e he', x1, x2, x3]
        refine ⟨q1, q2, fun j hj => ?_⟩
        rw [h5 _ (by omega)]
        exact q3 j hj
    · rw [up_same, up_same]
      refine h7.iff (fun m => ?_)
      constructor
      · rintro ⟨i, i1, i2, j, j1, j2, j3, j4⟩
        by_cases en : i = n
        · subst en
          rw [hC0] at j2
          rw [hD0] at j4
          rw [← (h4 j j2).1] at j3 j4
          exact Or.inr ⟨j, j1, j2, j3, j4⟩
        · have he' : i < n := by omega
          have q0 := (m4 i he').1
          rw [hC i he'] at j2
          rw [hD i he'] at j4
          rw [h5 _ (by omega)] at j3 j4
          exact Or.inl ⟨i, i1, he', j, j1, j2, j3, j4⟩
      · rintro (⟨i, i1, i2, j, j1, j2, j3, j4⟩ | ⟨j, j1, j2, j3, j4⟩)
        · have q0 := (m4 i i2).1
          refine ⟨i, i1, by omega, j, j1, ?_, ?_, ?_⟩
          · rw [hC i i2]; exact j2
          · rw [h5 _ (by omega)]; exact j3
          · rw [hD i i2, h5 _ (by omega)]; exact j4
        · refine ⟨n, by omega, by omega, j, j1, ?_, ?_, ?_⟩
          · rw [hC0]; exact j2
          · rw [← (h4 j j2).1]; exact j3
          · rw [hD0, ← (h4 j j2).1]; exact j4
  · obtain ⟨n', C', D', k2, ⟨m1, m2, m3, m4⟩, b1, b2, b3, b4, b5⟩ := h p' hp'
    refine ⟨n', C', D', k2, ⟨m1, m2, by rw [pk_un e]; exact m3, fun i hi => ?_⟩, by rw [up_ne _ _ e]; exact b1, fun i hi => ?_, b3, by rw [up_ne _ _ e]; exact b4, ?_⟩
    · obtain ⟨q1, q2, q3, q4, q5, q6⟩ := m4 i hi
      rw [pk_un (show 4 * p' + i ≠ 4 * p + n by omega), pk_un (show 4 * p' + i ≠ 4 * p + n by omega)]
      refine ⟨q1, q2, q3, q4, q5, fun j hj => ?_⟩
      rw [h5 _ (by omega)]
      exact q6 j hj
    · rw [up_ne _ _ e, up_ne _ _ e, up_ne _ _ e]
      obtain ⟨q1, q2, q3⟩ := b2 i hi
      have q0 := (m4 i hi).1
      refine ⟨q1, q2, fun j hj => ?_⟩
      rw [h5 _ (by omega)]
      exact q3 j hj
    · rw [up_ne _ _ e, up_ne _ _ e]
      refine b5.iff (fun m => ?_)
      constructor
      · rintro ⟨i, i1, i2, j, j1, j2, j3, j4⟩
        have q0 := (m4 i i2).1
        rw [h5 _ (by omega)] at j3 j4
        exact ⟨i, i1, i2, j, j1, j2, j3, j4⟩
      · rintro ⟨i, i1, i2, j, j1, j2, j3, j4⟩
        have q0 := (m4 i i2).1
        refine ⟨i, i1, i2, j, j1, j2, ?_, ?_⟩
        · rw [h5 _ (by omega)]; exact j3
        · rw [h5 _ (by omega)]; exact j4
