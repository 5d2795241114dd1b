/-! pure: the class offers the minutes of the rule -/
theorem k_offer {FU m : Nat} {r gr : Nat → Int32} {L G : List Nat} (hF : 300 < FU) (hr : AR r L) (hS : SL L) (hB : BL L) (hm : m ≤ 10519199) (hl : L.length ≤ 40) (hG : AR gr G) (hGB : BL G) (hGl : G.length ≤ 18) : ∃ r', f_Expansion_offer FU (nI m) r (nI L.length) gr (nI G.length) = some (r', nI (if m ∈ G then L else (insL m L).take 40).length) ∧ AR r' (if m ∈ G then L else (insL m L).take 40) := by
  unfold f_Expansion_offer f_Draft_leftOut
  rw [bd_ok, k_contain hF hG hGB hm hGl, bd_ok]
  by_cases w : m ∈ G
  · rw [if_pos w, if_pos w, if_neg (show ¬ (1 : Int32) = 0 by decide)]
    exact ⟨r, rfl, hr⟩
  · rw [if_neg w, if_neg w, if_pos rfl]
    obtain ⟨r', e1, e2⟩ := ev_insert (FU := FU) hF hr hS hB hm hl
    rw [e1, bd_ok]
    exact ⟨r', rfl, e2⟩
theorem BL_take {L : List Nat} (h : BL L) (k : Nat) : BL (L.take k) := fun x hx => h x (List.mem_of_mem_take hx)
theorem k_isfull {FU m : Nat} {r : Nat → Int32} {L : List Nat} (hr : AR r L) (hS : SL L) (hB : BL L) (hm : m ≤ 10519199) (hl : L.length ≤ 40) : f_Event_isFullBefore FU (nI m) r (nI L.length) = some 0 ∨ (f_Event_isFullBefore FU (nI m) r (nI L.length) = some 1 ∧ L.length = 40 ∧ ∀ y, y ∈ L → y < m) := by
  unfold f_Event_isFullBefore
  by_cases h : L.length < 40
  · left
    rw [if_pos (show nI L.length < 40 from nI_lt (b := 40) h (by omega))]
  · have hx := hB _ (getD_mem (show 39 < L.length by omega))
    rw [if_neg (show ¬ nI L.length < 40 from nI_nlt (b := 40) (by omega) (by omega)), p_pred (by omega), ck_ok (show L.length - 1 < 40 by omega) (by omega), nI_clamp (show L.length - 1 < 2 ^ 31 by omega), hr _ (by omega), show L.length - 1 = 39 by omega]
    by_cases v : m ≤ L.getD 39 0
    · left
      rw [if_pos (nI_le v (by omega))]
    · right
      rw [if_neg (nI_ge (by omega) (by omega))]
      refine ⟨rfl, by omega, fun y hy => ?_⟩
      obtain ⟨j, h1, h2⟩ := mem_getD hy
      by_cases e : j = 39
      · subst e; omega
      · have := SL_idx hS (show j < 39 by omega) (by omega)
        omega
theorem rfs_no {cp : Nat → List Nat} {q : Nat} (g : ∀ j, q ≤ j → cp j = []) : rfs cp q = [] := by
  by_cases h : q ≤ 7500
  · exact rfs_none h g
  · unfold rfs
    rw [show 7500 - q = 0 by omega]
    rfl
def KRes (cnt unt : Nat) (G R : List Nat) (c : Nat) (L : List Nat) (s1 s2 s3 s4 s5 s6 s7 : Int32) (o : Option (Int32 × Int32 × Int32 × Int32 × Int32 × Int32 × Int32 × Int32 × Int32 × Int32 × Int32 × Int32 × Int32 × Int32 × (Nat → Int32) × Int32 × (Nat → Int32) × Int32)) : Prop := ∃ (dy yr mo yF yL mF mL : Int32), ∃ (fr : Nat → Int32), ∃ (fs : Int32), ∃ (r : Nat → Int32), ∃ (L' : List Nat), o = some (s1, s2, s3, s4, s5, s6, s7, dy, yr, mo, yF, yL, mF, mL, fr, fs, r, nI L'.length) ∧ DOK yr mo yF yL mF mL ∧ AR r L' ∧ KP cnt unt G R c L L'
theorem k_75 {FU S t cnt unt : Nat} {fq gv iv ws km kd ke kw nS pS l6 : Int32} {nW wN ps gr fr : Nat → Int32} {G D Rr : List Nat} {st : Nat → Nat → Bool} {k36 : Int32 → Int32 → Int32 → Int32 → Int32 → Int32 → Int32 → Int32 → Int32 → Int32 → Int32 → Int32 → Int32 → Int32 → Int32 → Int32 → Int32 → (Nat → Int32) → Int32 → (Nat → Int32) → Int32 → Option (Int32 × Int32 × Int32 × Int32 × Int32 × Int32 × Int32 × Int32 × Int32 × Int32 × Int32 × Int32 × Int32 × Int32 × (Nat → Int32) × Int32 × (Nat → Int32) × Int32)} {s1 s2 s3 s4 s5 s6 s7 dy yr mo yF yL mF mL : Int32} (hF : 8000 < FU) (hS : S ≤ 10519199) (ht : t < 1440) (hG : AR gr G) (hGB : BL G) (hGl : G.length ≤ 18) (hst : ∀ i n, i < n → n ≤ 366 → f_Rule_staysAt FU (nI i) (nI n) gv ps pS = some (if st i n = true then 1 else 0)) (hcnt : cnt ≤ 7306) (hunt : unt ≤ 10519199) (hD : AR fr D) (hDl : D.length ≤ 366) (hDb : ∀ d, d ∈ D → d ≤ 7304) (hdok : DOK yr mo yF yL mF mL)
    (hk : ∀ c (L : List Nat) (r : Nat → Int32), c ≤ 7306 → AR r L → SL L → BL L → L.length ≤ 40 → KRes cnt unt G Rr c L s1 s2 s3 s4 s5 s6 s7 (k36 (nI t) (nI c) (l6 + 1) s1 s2 s3 s4 s5 s6 s7 dy yr mo yF yL mF mL fr (nI D.length) r (nI L.length))) :
    ∀ q i c (L : List Nat) (r : Nat → Int32), i ≤ D.length → D.length - i < q → c ≤ 7306 → AR r L → SL L → BL L → L.length ≤ 40 → SL (pks st t S D.length i (D.drop i) ++ Rr) → KRes cnt unt G (pks st t S D.length i (D.drop i) ++ Rr) c L s1 s2 s3 s4 s5 s6 s7 (f_Expansion_offerRuleDays_75 FU (nI S) fq gv iv (nI cnt) (nI unt) ws km kd ke kw nW wN nS ps pS gr (nI G.length) k36 q (nI t) (nI c) l6 (nI i) s1 s2 s3 s4 s5 s6 s7 dy yr mo yF yL mF mL fr (nI D.length) r (nI L.length)) := by
  intro q
  induction q with
  | zero => intro i c L r _ h; omega
  | succ q ih =>
    intro i c L r hi hq hc a1 a2 a3 a4 hR
    show KRes cnt unt G _ c L s1 s2 s3 s4 s5 s6 s7 (f_Expansion_offerRuleDays_75_hd FU (nI S) fq gv iv (nI cnt) (nI unt) ws km kd ke kw nW wN nS ps pS gr (nI G.length) k36 (f_Expansion_offerRuleDays_75 FU (nI S) fq gv iv (nI cnt) (nI unt) ws km kd ke kw nW wN nS ps pS gr (nI G.length) k36 q) (nI t) (nI c) l6 (nI i) s1 s2 s3 s4 s5 s6 s7 dy yr mo yF yL mF mL fr (nI D.length) r (nI L.length))
    unfold f_Expansion_offerRuleDays_75_hd
    by_cases hin : D.length ≤ i
    · rw [if_pos (nI_le hin (by omega)), List.drop_of_length_le hin]
      exact hk c L r hc a1 a2 a3 a4
    · have hx := hDb _ (getD_mem (show i < D.length by omega))
      have em : nI (D.getD i 0) * 1440 + nI t = nI (1440 * D.getD i 0 + t) := by
        rw [show (1440 : Int32) = nI 1440 from rfl, pk_mul, nI_add, Nat.mul_comm]
      rw [drop_cons (show i < D.length by omega)] at hR ⊢
      unfold pks at hR ⊢
      unfold f_Draft_start
      rw [if_neg (nI_ge (by omega) (by omega)), ck_ok (show i < 366 by omega) (by omega), nI_clamp (show i < 2 ^ 31 by omega), hD i (by omega), nm_eq, em, bd_ok, nI_1 i]
      generalize hmm : 1440 * D.getD i 0 + t = m at hR ⊢
      have hm : m ≤ 10519199 := by omega
      by_cases w : m ≤ S
      · rw [if_neg (show ¬ (S < m ∧ st i D.length = true) by omega)] at hR ⊢
        rw [if_pos (nI_le w (by omega))]
        exact ih (i + 1) c L r (by omega) (by omega) hc a1 a2 a3 a4 hR
      · rw [if_neg (nI_ge (by omega) (by omega)), hst i _ (by omega) hDl, bd_ok]
        by_cases v : st i D.length = true
        · rw [if_pos (show S < m ∧ st i D.length = true from ⟨by omega, v⟩)] at hR ⊢
          rw [if_pos v, if_neg (show ¬ (1 : Int32) = 0 by decide)]
          unfold f_Rule_count f_Rule_until
          rw [bd_ok]
          by_cases u : cnt ≤ c
          · rw [if_pos (nI_le u (by omega))]
            exact ⟨dy, yr, mo, yF, yL, mF, mL, fr, nI D.length, r, L, rfl, hdok, a1, KP_cnt a2 a3 a4 u⟩
          · rw [if_neg (nI_ge (by omega) (by omega)), bd_ok]
            by_cases u2 : unt < m
            · rw [if_pos (nI_lt u2 (by omega))]
              exact ⟨dy, yr, mo, yF, yL, mF, mL, fr, nI D.length, r, L, rfl, hdok, a1, KP_unt a2 a3 a4 hR u2⟩
            · rw [if_neg (nI_nlt (by omega) (by omega))]
              rcases k_isfull (FU := FU) (m := m) a1 a2 a3 hm a4 with z | ⟨z, z1, z2⟩
              · rw [z, bd_ok, if_pos rfl]
                obtain ⟨r', e1, e2⟩ := k_offer (FU := FU) (m := m) (by omega) a1 a2 a3 hm a4 hG hGB hGl
                rw [e1, bd_ok, nI_1 c]
                dsimp only
                have hR' := (List.pairwise_cons.mp hR).2
                by_cases g : m ∈ G
                · rw [if_pos g] at e2 ⊢
                  obtain ⟨b1, b2, b3, b4, b5, b6, b7, b8, b9, b10, L', f1, f2, f3, f4⟩ := ih (i + 1) (c + 1) L r' (by omega) (by omega) (by omega) e2 a2 a3 a4 hR'
                  exact ⟨b1, b2, b3, b4, b5, b6, b7, b8, b9, b10, L', f1, f2, f3, KP_gone (by omega) (by omega) g f4⟩
                · rw [if_neg g] at e2 ⊢
                  obtain ⟨b1, b2, b3, b4, b5, b6, b7, b8, b9, b10, L', f1, f2, f3, f4⟩ := ih (i + 1) (c + 1) ((insL m L).take 40) r' (by omega) (by omega) (by omega) e2 (SL_td (SL_ins a2) 40).1 (BL_take (BL_ins a3 hm) 40) (by rw [List.length_take]; omega) hR'
                  exact ⟨b1, b2, b3, b4, b5, b6, b7, b8, b9, b10, L', f1, f2, f3, KP_take (by omega) (by omega) g f4⟩
              · rw [z, bd_ok, if_neg (show ¬ (1 : Int32) = 0 by decide)]
                exact ⟨dy, yr, mo, yF, yL, mF, mL, fr, nI D.length, r, L, rfl, hdok, a1, KP_full a2 a3 z1 hR z2⟩
        · rw [if_neg (show ¬ (S < m ∧ st i D.length = true) from fun x => v x.2)] at hR ⊢
          rw [if_neg v, if_pos rfl]
          exact ih (i + 1) c L r (by omega) (by omega) hc a1 a2 a3 a4 hR
/-- what both sides know of a rule, and of its start -/
def KPar (FU f w iv S Sd YS MS t cnt unt : Nat) (per : Nat → Nat) (fit : Nat → Bool) (st : Nat → Nat → Bool) (G : List Nat) (gv km kd ke kw nS pS : Int32) (nW wN ps gr : Nat → Int32) : Prop :=
  8000 < FU ∧ S ≤ 10519199 ∧ t < 1440 ∧ (AR gr G ∧ BL G ∧ G.length ≤ 18) ∧ (∀ i n, i < n → n ≤ 366 → f_Rule_staysAt FU (nI i) (nI n) gv ps pS = some (if st i n = true then 1 else 0)) ∧ cnt ≤ 7306 ∧ unt ≤ 10519199 ∧ f < 4 ∧ w < 7 ∧ DT Sd YS MS ∧ (1 ≤ iv ∧ iv ≤ 99) ∧ (∀ d Y M, DT d Y M → per d = PV f w d Y M) ∧ (∀ d Y M (dy yr mo yF yL mF mL : Int32), KD d Y M dy yr mo yF yL mF mL → f_Rule_fits FU (nI (f + 1)) gv km kd ke kw nW wN nS dy mo yF yL mF mL (nI Sd) (nI (MS + 1)) (nI (fom YS (MS + 1))) = some (if fit d = true then 1 else 0))
theorem per_mono {f w : Nat} {per : Nat → Nat} (hf : f < 4) (hw : w < 7) (hp : ∀ d Y M, DT d Y M → per d = PV f w d Y M) : ∀ d e, d ≤ e → e ≤ 7304 → per d ≤ per e := fun d e h1 h2 => by
  obtain ⟨Y, M, hd⟩ := DT_ex d (by omega)
  obtain ⟨Z, N, he⟩ := DT_ex e h2
  rw [hp d Y M hd, hp e Z N he]
  exact PV_mono hf hw hd he h1
theorem per_max {f w : Nat} {per : Nat → Nat} (hf : f < 4) (hp : ∀ d Y M, DT d Y M → per d = PV f w d Y M) : ∀ d, d ≤ 7304 → per d ≤ 7304 ∧ (f = 2 → per d ≤ 240) ∧ (f = 3 → per d ≤ 19) := fun d h => by
  obtain ⟨Y, M, hd⟩ := DT_ex d h
  rw [hp d Y M hd]
  exact PV_max hf hd
theorem k_36 {FU f w iv S Sd YS MS t cnt unt : Nat} {per : Nat → Nat} {fit : Nat → Bool} {st : Nat → Nat → Bool} {G : List Nat} {gv km kd ke kw nS pS s4 s5 s7 : Int32} {nW wN ps gr : Nat → Int32} (hP : KPar FU f w iv S Sd YS MS t cnt unt per fit st G gv km kd ke kw nS pS nW wN ps gr) : ∀ q k c (L : List Nat) (r : Nat → Int32) (dy yr mo yF yL mF mL : Int32) (fr : Nat → Int32) (fs : Int32), k ≤ 7305 → 7305 - k < q → (k = 0 ∨ ∃ d, d ≤ 7304 ∧ per d = per Sd + (k - 1) * iv) → c ≤ 7306 → AR r L → SL L → BL L → L.length ≤ 40 → DOK yr mo yF yL mF mL → KRes cnt unt G (rfs (cpk per fit st t S (per Sd) iv) (per Sd + k * iv)) c L (nI Sd) (nI (2000 + YS)) (nI (MS + 1)) s4 s5 (nI (fom YS (MS + 1))) s7 (f_Expansion_offerRuleDays_36 FU (nI S) (nI (f + 1)) gv (nI iv) (nI cnt) (nI unt) (nI w) km kd ke kw nW wN nS ps pS gr (nI G.length) q (nI t) (nI c) (nI k) (nI Sd) (nI (2000 + YS)) (nI (MS + 1)) s4 s5 (nI (fom YS (MS + 1))) s7 dy yr mo yF yL mF mL fr fs r (nI L.length)) := by
  obtain ⟨hF, hS, ht, ⟨hG, hGB, hGl⟩, hst, hcnt, hunt, hf, hw, hD, ⟨hv1, hv2⟩, hp, hfit⟩ := hP
  have hmono := per_mono hf hw hp
  have hmax := per_max hf hp
  have hSd := (DT_day hD).1
  intro q
  induction q with
  | zero => intro k c L r dy yr mo yF yL mF mL fr fs _ h; omega
  | succ q ih =>
    intro k c L r dy yr mo yF yL mF mL fr fs hk hq hprev hc a1 a2 a3 a4 h6
    show KRes cnt unt G _ c L (nI Sd) (nI (2000 + YS)) (nI (MS + 1)) s4 s5 (nI (fom YS (MS + 1))) s7 (f_Expansion_offerRuleDays_36_hd FU (nI S) (nI (f + 1)) gv (nI iv) (nI cnt) (nI unt) (nI w) km kd ke kw nW wN nS ps pS gr (nI G.length) (f_Expansion_offerRuleDays_36 FU (nI S) (nI (f + 1)) gv (nI iv) (nI cnt) (nI unt) (nI w) km kd ke kw nW wN nS ps pS gr (nI G.length) q) (nI t) (nI c) (nI k) (nI Sd) (nI (2000 + YS)) (nI (MS + 1)) s4 s5 (nI (fom YS (MS + 1))) s7 dy yr mo yF yL mF mL fr fs r (nI L.length))
    unfold f_Expansion_offerRuleDays_36_hd
    by_cases hk7 : 7304 < k
    · rw [if_pos (show 7304 < nI k from nI_lt (a := 7304) hk7 (by omega)), rfs_no (fun j hj => cpk_no (fun d hd e => ?_))]
      · exact ⟨dy, yr, mo, yF, yL, mF, mL, fr, fs, r, L, rfl, h6, a1, KP_nil a2 a3 a4⟩
      · have := (hmax d hd).1
        have := Nat.mul_le_mul hk7 hv1
        omega
    · rw [if_neg (show ¬ 7304 < nI k from nI_nlt (b := k) (a := 7304) (by omega) (by omega))]
      have hkv : k * iv = (k - 1) * iv + iv ∨ k = 0 := by
        by_cases e : k = 0
        · exact Or.inr e
        · left
          rw [← Nat.succ_mul]
          congr 1
          omega
      have hb : (f = 2 → per Sd + k * iv ≤ 339) ∧ (f = 3 → per Sd + k * iv ≤ 118) := by
        have z := hmax Sd hSd
        rcases hprev with e | ⟨d, d1, d2⟩
        · subst e
          rw [Nat.zero_mul]
          omega
        · have := hmax d d1
          rcases hkv with e | e
          · omega
          · subst e
            rw [Nat.zero_mul]
            omega
      have hk1 : k + 1 ≤ 7305 := by clear hprev hkv; omega
      have hq1 : 7305 - (k + 1) < q := by clear hprev hkv; omega
      clear hprev hkv
      obtain ⟨F, F1, F2⟩ := k_period (FU := FU) (k := k) hF hf hw hD (by omega) hv2 hp hb hfit
      rw [F1, bd_ok]
      rcases F2 with ⟨g1, g2⟩ | ⟨g1, ⟨d, d1, d2⟩, g3, g4⟩
      · rw [if_neg g1, rfs_no (fun j hj => cpk_no (fun d hd e => ?_))]
        · exact ⟨dy, yr, mo, yF, yL, mF, mL, fr, fs, r, L, rfl, h6, a1, KP_nil a2 a3 a4⟩
        · have := g2 d hd
          omega
      · have hqm := (hmax d d1).1
        rw [if_pos g1]
        obtain ⟨b1, b2, b3, b4, b5, b6, b7, fr', e1, e2, e3⟩ := g4 dy yr mo yF yL mF mL fr fs h6
        rw [e1, bd_ok]
        dsimp only
        have ecp : cpk per fit st t S (per Sd) iv (per Sd + k * iv) = pks st t S (DF per fit (per Sd + k * iv)).length 0 ((DF per fit (per Sd + k * iv)).drop 0) := by
          unfold cpk
          rw [if_pos ⟨by omega, by rw [Nat.add_sub_cancel_left]; exact Nat.mul_mod_left k iv⟩]
          rfl
        have enx : rfs (cpk per fit st t S (per Sd) iv) (per Sd + k * iv + 1) = rfs (cpk per fit st t S (per Sd) iv) (per Sd + (k + 1) * iv) := by
          have e : per Sd + (k + 1) * iv = per Sd + k * iv + iv := by rw [Nat.succ_mul]; omega
          rw [e]
          refine rfs_to (by omega) (by omega) (fun j h1 h2 => cpk_off (fun x => ?_))
          have x2 := x.2
          rw [show j - per Sd = (j - per Sd - k * iv) + k * iv by omega, Nat.add_mul_mod_self_right, Nat.mod_eq_of_lt (by omega)] at x2
          omega
        have hsl := SL_rfs (fit := fit) (st := st) (t := t) (S := S) (p0 := per Sd) (iv := iv) hmono (per Sd + k * iv)
        rw [rfs_step (show per Sd + k * iv < 7500 by omega), ecp, enx] at hsl ⊢
        refine k_75 (D := DF per fit (per Sd + k * iv)) hF hS ht hG hGB hGl hst hcnt hunt e3 g3 (fun x hx => (mem_DF.mp hx).1) e2 ?_ FU 0 c L r (by omega) (by omega) hc a1 a2 a3 a4 hsl
        intro c' L' r' z1 z2 z3 z4 z5
        rw [nI_1]
        exact ih (k + 1) c' L' r' b1 b2 b3 b4 b5 b6 b7 fr' _ hk1 hq1 (Or.inr ⟨d, d1, by rw [d2]; rfl⟩) z1 z2 z3 z4 z5 e2
