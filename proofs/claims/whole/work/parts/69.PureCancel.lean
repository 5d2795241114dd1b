/-! pure: cancel -/
/-- persons of the class and of the reference -/
def RQ (bs : Nat → Nat → Nat → Int32) (bz du : Nat → Nat → Int32) (pz : Nat → Int32) (bf bb : Nat → Nat → Int32) (bsz bo ln ct bg : Nat → Int32) : Prop := ∀ p, p < 4 → ∃ n C D k, MP p n C D bo ln ct bg ∧ pz p = nI n ∧
  (∀ e, e < n → bz p e = nI (C (4 * p + e)) ∧ du p e = nI (D (4 * p + e)) ∧ ∀ j, j < C (4 * p + e) → bs p e j = bg (40 * (4 * p + e) + j)) ∧ k ≤ 40 * n ∧ bsz p = nI k ∧ BT (bf p) (bb p) k (MS p n C D bg 0)
theorem RQ.P {bs : Nat → Nat → Nat → Int32} {bz du : Nat → Nat → Int32} {pz : Nat → Int32} {bf bb : Nat → Nat → Int32} {bsz bo ln ct bg : Nat → Int32} (h : RQ bs bz du pz bf bb bsz bo ln ct bg) : RP bs bz du pz bo ln ct bg := by
  intro p hp
  obtain ⟨n, C, D, k, ⟨-, hn, hb, hE⟩, h1, h2, -⟩ := h p hp
  refine ⟨n, hn, h1, hb, fun e he => ?_⟩
  obtain ⟨g1, g2, g3, g4, g5, g6⟩ := hE e he
  obtain ⟨f1, f2, f3⟩ := h2 e he
  exact ⟨C (4 * p + e), D (4 * p + e), g1, f1, g2, g3, g4, f2, g5, fun j hj => ⟨f3 j hj, by rw [f3 j hj]; exact g6 j hj⟩⟩
theorem RQ.B {bs : Nat → Nat → Nat → Int32} {bz du : Nat → Nat → Int32} {pz : Nat → Int32} {bf bb : Nat → Nat → Int32} {bsz bo ln ct bg : Nat → Int32} (h : RQ bs bz du pz bf bb bsz bo ln ct bg) : ∀ p, p < 4 → RB p (bf p) (bb p) (bsz p) bo ln ct bg := by
  intro p hp
  obtain ⟨n, C, D, k, hM, h1, h2, h3, h4, h5⟩ := h p hp
  have := hM.2.1
  exact ⟨n, C, D, k, hM, by omega, h4, h5⟩
theorem m_c81 {FU p q : Nat} {th : Int32} {bo ln ct : Nat → Int32} (hq : q < 15) (k36 : Int32 → Int32 → Int32 → (Nat → Int32) → (Nat → Int32) → (Nat → Int32) → (Nat → Int32) → Option (Int32 × Int32 × (Nat → Int32) × (Nat → Int32) × (Nat → Int32) × (Nat → Int32))) :
    ∀ (m j : Nat) (bg : Nat → Int32), j ≤ 40 → 40 - j < m → ∃ bg', f_M_cancel_81 FU k36 m (nI p) (nI q) (nI j) th bo ln ct bg = k36 (nI p) (nI (q + 1)) th bo ln ct bg' ∧ ∀ i, bg' i = if 40 * q + j ≤ i ∧ i < 40 * q + 40 then bg (i + 40) else bg i := by
  intro m
  induction m with
  | zero => intro j bg _ h; omega
  | succ m ih =>
    intro j bg hj hm
    have e0 : f_M_cancel_81 FU k36 (m + 1) (nI p) (nI q) (nI j) th bo ln ct bg = f_M_cancel_81_hd FU k36 (f_M_cancel_81 FU k36 m) (nI p) (nI q) (nI j) th bo ln ct bg := rfl
    rw [e0]
    unfold f_M_cancel_81_hd
    by_cases hin : 40 ≤ j
    · rw [if_pos (show (40 : Int32) ≤ nI j from nI_le (a := 40) hin (by omega)), nI_1]
      exact ⟨bg, rfl, fun i => by rw [if_neg (by omega)]⟩
    · rw [if_neg (show ¬ (40 : Int32) ≤ nI j from nI_ge (b := 40) (by omega) (by omega)), p_40b, show (40 : Int32) = nI 40 from rfl, nI_add, nI_add, nI_add, ck_ok (show 40 * q + 40 + j < 640 by omega) (by omega), nm_eq, ck_ok (show 40 * q + j < 640 by omega) (by omega), nI_clamp (show 40 * q + 40 + j < 2 ^ 31 by omega), nI_clamp (show 40 * q + j < 2 ^ 31 by omega), nI_1]
      obtain ⟨bg', r1, r2⟩ := ih (j + 1) (upd bg (40 * q + j) (bg (40 * q + 40 + j))) (by omega) (by omega)
      refine ⟨bg', r1, fun i => ?_⟩
      rw [r2 i]
      by_cases c1 : 40 * q + (j + 1) ≤ i ∧ i < 40 * q + 40
      · rw [if_pos c1, if_pos (by omega), pk_un (by omega)]
      · rw [if_neg c1]
        by_cases c2 : i = 40 * q + j
        · subst c2
          rw [pk_us, if_pos (by omega), show 40 * q + j + 40 = 40 * q + 40 + j by omega]
        · rw [pk_un c2, if_neg (by omega)]
theorem m_c36 {FU p n : Nat} {th : Int32} {bo : Nat → Int32} (hF : 200 < FU) (hp : p < 4) (hn : n < 4) (hb : bo p = nI n) :
    ∀ (m e : Nat) (ln ct bg : Nat → Int32), e ≤ n → n - e < m → ∃ ln' ct' bg', f_M_cancel_36 FU m (nI p) (nI (4 * p + e)) th bo ln ct bg = some (nI n, th, bo, ln', ct', bg') ∧ (∀ q, ln' q = if 4 * p + e ≤ q ∧ q < 4 * p + n then ln (q + 1) else ln q) ∧ (∀ q, ct' q = if 4 * p + e ≤ q ∧ q < 4 * p + n then ct (q + 1) else ct q) ∧
      ∀ i, bg' i = if 40 * (4 * p + e) ≤ i ∧ i < 40 * (4 * p + n) then bg (i + 40) else bg i := by
  intro m
  induction m with
  | zero => intro e ln ct bg _ h; omega
  | succ m ih =>
    intro e ln ct bg he hm
    have e0 : f_M_cancel_36 FU (m + 1) (nI p) (nI (4 * p + e)) th bo ln ct bg = f_M_cancel_36_hd FU (f_M_cancel_36 FU m) (nI p) (nI (4 * p + e)) th bo ln ct bg := rfl
    rw [e0]
    unfold f_M_cancel_36_hd
    rw [ck_ok hp (by omega), nI_clamp (show p < 2 ^ 31 by omega), hb, p_4]
    by_cases hin : n ≤ e
    · rw [if_pos (nI_le (by omega) (by omega)), ck_ok hp (by omega)]
      exact ⟨ln, ct, bg, rfl, fun q => by rw [if_neg (by omega)], fun q => by rw [if_neg (by omega)], fun i => by rw [if_neg (by omega)]⟩
    · rw [if_neg (nI_ge (by omega) (by omega)), nI_1]
      simp only [ck_ok (show 4 * p + e + 1 < 16 by omega) (by omega), ck_ok (show 4 * p + e < 16 by omega) (by omega), nm_eq, nI_clamp (show 4 * p + e + 1 < 2 ^ 31 by omega), nI_clamp (show 4 * p + e < 2 ^ 31 by omega)]
      obtain ⟨bg1, r1, r2⟩ := m_c81 (FU := FU) (p := p) (th := th) (bo := bo) (ln := upd ln (4 * p + e) (ln (4 * p + e + 1))) (ct := upd ct (4 * p + e) (ct (4 * p + e + 1))) (show 4 * p + e < 15 by omega) (f_M_cancel_36 FU m) FU 0 bg (by omega) (by omega)
      rw [show (0 : Int32) = nI 0 from rfl, r1]
      obtain ⟨ln', ct', bg', s1, s2, s3, s4⟩ := ih (e + 1) (upd ln (4 * p + e) (ln (4 * p + e + 1))) (upd ct (4 * p + e) (ct (4 * p + e + 1))) bg1 (by omega) (by omega)
      refine ⟨ln', ct', bg', s1, fun q => ?_, fun q => ?_, fun i => ?_⟩
      · rw [s2 q]
        by_cases c1 : 4 * p + (e + 1) ≤ q ∧ q < 4 * p + n
        · rw [if_pos c1, if_pos (by omega), pk_un (by omega)]
        · rw [if_neg c1]
          by_cases c2 : q = 4 * p + e
          · subst c2; rw [pk_us, if_pos (by omega)]
          · rw [pk_un c2, if_neg (by omega)]
      · rw [s3 q]
        by_cases c1 : 4 * p + (e + 1) ≤ q ∧ q < 4 * p + n
        · rw [if_pos c1, if_pos (by omega), pk_un (by omega)]
        · rw [if_neg c1]
          by_cases c2 : q = 4 * p + e
          · subst c2; rw [pk_us, if_pos (by omega)]
          · rw [pk_un c2, if_neg (by omega)]
      · rw [s4 i]
        by_cases c1 : 40 * (4 * p + (e + 1)) ≤ i ∧ i < 40 * (4 * p + n)
        · rw [if_pos c1, if_pos (by omega), r2 (i + 40), if_neg (by omega)]
        · rw [if_neg c1, r2 i]
          by_cases c2 : 40 * (4 * p + e) + 0 ≤ i ∧ i < 40 * (4 * p + e) + 40
          · rw [if_pos c2, if_pos (by omega)]
          · rw [if_neg c2, if_neg (by omega)]
theorem m_cancel {FU p n e : Nat} {bo ln ct bg : Nat → Int32} (hF : 200 < FU) (hp : p < 4) (hn : n ≤ 4) (hb : bo p = nI n) (he : e < n) (th : Int32) : ∃ ln' ct' bg', f_M_cancel FU (nI p) (nI e) th bo ln ct bg = some (nI (n - 1), 0, upd bo p (nI (n - 1)), ln', ct', bg') ∧ (∀ q, ln' q = if 4 * p + e ≤ q ∧ q < 4 * p + (n - 1) then ln (q + 1) else ln q) ∧ (∀ q, ct' q = if 4 * p + e ≤ q ∧ q < 4 * p + (n - 1) then ct (q + 1) else ct q) ∧
      ∀ i, bg' i = if 40 * (4 * p + e) ≤ i ∧ i < 40 * (4 * p + (n - 1)) then bg (i + 40) else bg i := by
  unfold f_M_cancel
  rw [m_isEvent hp hb, bd_ok, if_neg (nI_pos (by omega)), if_neg (nI_ge he (by omega)), if_neg (by decide), ck_ok hp (by omega), nm_eq, ck_ok hp (by omega), nm_eq, nI_clamp (show p < 2 ^ 31 by omega), hb, p_pred (by omega), p_4]
  exact m_c36 hF hp (by omega) pk_us FU e ln ct bg (by omega) (by omega)
/-- the class: which event stands where behind a removal -/
def sh (e j : Nat) : Nat := if j < e then j else j + 1
theorem k_rm10 {α : Type} (b01 b02 b03 b04 b12 b13 b14 b23 b24 b34 : Option α) : rm10 (nI 0) (nI 1) b01 b02 b03 b04 b12 b13 b14 b23 b24 b34 = b01 ∧ rm10 (nI 0) (nI 2) b01 b02 b03 b04 b12 b13 b14 b23 b24 b34 = b02 ∧ rm10 (nI 0) (nI 3) b01 b02 b03 b04 b12 b13 b14 b23 b24 b34 = b03 ∧ rm10 (nI 0) (nI 4) b01 b02 b03 b04 b12 b13 b14 b23 b24 b34 = b04 ∧
    rm10 (nI 1) (nI 2) b01 b02 b03 b04 b12 b13 b14 b23 b24 b34 = b12 ∧ rm10 (nI 1) (nI 3) b01 b02 b03 b04 b12 b13 b14 b23 b24 b34 = b13 ∧ rm10 (nI 1) (nI 4) b01 b02 b03 b04 b12 b13 b14 b23 b24 b34 = b14 ∧ rm10 (nI 2) (nI 3) b01 b02 b03 b04 b12 b13 b14 b23 b24 b34 = b23 ∧ rm10 (nI 2) (nI 4) b01 b02 b03 b04 b12 b13 b14 b23 b24 b34 = b24 ∧ rm10 (nI 3) (nI 4) b01 b02 b03 b04 b12 b13 b14 b23 b24 b34 = b34 :=
  ⟨rfl, rfl, rfl, rfl, rfl, rfl, rfl, rfl, rfl, rfl⟩
theorem k_cancelP {FU p n e : Nat} {bs : Nat → Nat → Int32} {bz du F B : Nat → Int32} {kk : Int32} {C D : Nat → Nat} (hF : 200 < FU) (hp : p < 4) (hn : n ≤ 4) (he : e < n) (hE : ∀ i, i < n → EvOk (bs i) (bz i) (du i) (C i) (D i)) :
    ∃ bs' bz' du' F' B' k', f_K_cancelP FU (nI p) (nI e) bs bz du (nI n) F B kk = some (0, nI (n - 1), bs', bz', du', nI (n - 1), F', B', nI k') ∧ k' ≤ 40 * (n - 1) ∧ (∀ j, j < n - 1 → bs' j = bs (sh e j) ∧ bz' j = bz (sh e j) ∧ du' j = du (sh e j)) ∧ BT F' B' k' (PeS (fun j => bs (sh e j)) (fun j => C (sh e j)) (fun j => D (sh e j)) (n - 1) 0) := by
  -- the recount over a permuted row
  have rcnt : ∀ (bs' : Nat → Nat → Int32) (bz' du' : Nat → Int32), (∀ j, j < n - 1 → bs' j = bs (sh e j) ∧ bz' j = bz (sh e j) ∧ du' j = du (sh e j)) → ∃ F' B' k', f_Person_recountBusyTimes FU bs' bz' du' (nI (n - 1)) F B kk = some (F', B', nI k') ∧ k' ≤ 40 * (n - 1) ∧ BT F' B' k' (PeS (fun j => bs (sh e j)) (fun j => C (sh e j)) (fun j => D (sh e j)) (n - 1) 0) := by
    intro bs' bz' du' hh
    obtain ⟨F', B', k', r1, r2, r3⟩ := b_recount (FU := FU) (n := n - 1) (bs := bs') (bz := bz') (du := du') (C := fun j => C (sh e j)) (D := fun j => D (sh e j)) hF (by omega) (fun j hj => by
      obtain ⟨h1, h2, h3⟩ := hh j hj
      rw [h1, h2, h3]
      exact hE (sh e j) (by unfold sh; split <;> omega)) F B kk
    refine ⟨F', B', k', r1, r2, r3.iff (fun m => ⟨fun ⟨i, w1, w2, w3⟩ => ⟨i, w1, w2, ?_⟩, fun ⟨i, w1, w2, w3⟩ => ⟨i, w1, w2, ?_⟩⟩)⟩
    · rw [(hh i w2).1]; exact w3
    · rw [(hh i w2).1] at w3; exact w3
  unfold f_K_cancelP
  rw [k_isPerson, bd_ok, if_neg (n_not4 hp).1, if_neg (n_not4 hp).2, if_neg (by decide), ck_ok hp (by omega), k_has, bd_ok, if_neg (nI_pos (by omega)), if_neg (nI_ge he (by omega)), if_neg (by decide), ck_ok hp (by omega)]
  obtain ⟨-, -⟩ : True ∧ True := ⟨trivial, trivial⟩
  match n, e, hn, he with
  | 1, 0, _, _ =>
    have hh : ∀ j, j < 1 - 1 → bs j = bs (sh 0 j) ∧ bz j = bz (sh 0 j) ∧ du j = du (sh 0 j) := fun j hj => by omega
    obtain ⟨F', B', k', r1, r2, r3⟩ := rcnt bs bz du hh
    rw [(k_rm10 _ _ _ _ _ _ _ _ _ _).1, show (0 : Int32) = nI (1 - 1) from rfl, r1, bd_ok]
    exact ⟨_, _, _, _, _, _, rfl, r2, hh, r3⟩
  | 2, 0, _, _ =>
    have hh : ∀ j, j < 2 - 1 → pm4 1 0 2 3 bs j = bs (sh 0 j) ∧ pm4 1 0 2 3 bz j = bz (sh 0 j) ∧ pm4 1 0 2 3 du j = du (sh 0 j) := fun j hj => by
      match j, hj with
      | 0, _ => exact ⟨rfl, rfl, rfl⟩
    obtain ⟨F', B', k', r1, r2, r3⟩ := rcnt _ _ _ hh
    rw [(k_rm10 _ _ _ _ _ _ _ _ _ _).2.1, show (1 : Int32) = nI (2 - 1) from rfl, r1, bd_ok]
    exact ⟨_, _, _, _, _, _, rfl, r2, hh, r3⟩
  | 3, 0, _, _ =>
    have hh : ∀ j, j < 3 - 1 → pm4 1 2 0 3 bs j = bs (sh 0 j) ∧ pm4 1 2 0 3 bz j = bz (sh 0 j) ∧ pm4 1 2 0 3 du j = du (sh 0 j) := fun j hj => by
      match j, hj with
      | 0, _ => exact ⟨rfl, rfl, rfl⟩
      | 1, _ => exact ⟨rfl, rfl, rfl⟩
    obtain ⟨F', B', k', r1, r2, r3⟩ := rcnt _ _ _ hh
    rw [(k_rm10 _ _ _ _ _ _ _ _ _ _).2.2.1, show (2 : Int32) = nI (3 - 1) from rfl, r1, bd_ok]
    exact ⟨_, _, _, _, _, _, rfl, r2, hh, r3⟩
  | 4, 0, _, _ =>
    have hh : ∀ j, j < 4 - 1 → pm4 1 2 3 0 bs j = bs (sh 0 j) ∧ pm4 1 2 3 0 bz j = bz (sh 0 j) ∧ pm4 1 2 3 0 du j = du (sh 0 j) := fun j hj => by
      match j, hj with
      | 0, _ => exact ⟨rfl, rfl, rfl⟩
      | 1, _ => exact ⟨rfl, rfl, rfl⟩
      | 2, _ => exact ⟨rfl, rfl, rfl⟩
    obtain ⟨F', B', k', r1, r2, r3⟩ := rcnt _ _ _ hh
    rw [(k_rm10 _ _ _ _ _ _ _ _ _ _).2.2.2.1, show (3 : Int32) = nI (4 - 1) from rfl, r1, bd_ok]
    exact ⟨_, _, _, _, _, _, rfl, r2, hh, r3⟩
  | 2, 1, _, _ =>
    have hh : ∀ j, j < 2 - 1 → bs j = bs (sh 1 j) ∧ bz j = bz (sh 1 j) ∧ du j = du (sh 1 j) := fun j hj => by
      match j, hj with
      | 0, _ => exact ⟨rfl, rfl, rfl⟩
    obtain ⟨F', B', k', r1, r2, r3⟩ := rcnt _ _ _ hh
    rw [(k_rm10 _ _ _ _ _ _ _ _ _ _).2.2.2.2.1, show (1 : Int32) = nI (2 - 1) from rfl, r1, bd_ok]
    exact ⟨_, _, _, _, _, _, rfl, r2, hh, r3⟩
  | 3, 1, _, _ =>
    have hh : ∀ j, j < 3 - 1 → pm4 0 2 1 3 bs j = bs (sh 1 j) ∧ pm4 0 2 1 3 bz j = bz (sh 1 j) ∧ pm4 0 2 1 3 du j = du (sh 1 j) := fun j hj => by
      match j, hj with
      | 0, _ => exact ⟨rfl, rfl, rfl⟩
      | 1, _ => exact ⟨rfl, rfl, rfl⟩
    obtain ⟨F', B', k', r1, r2, r3⟩ := rcnt _ _ _ hh
    rw [(k_rm10 _ _ _ _ _ _ _ _ _ _).2.2.2.2.2.1, show (2 : Int32) = nI (3 - 1) from rfl, r1, bd_ok]
    exact ⟨_, _, _, _, _, _, rfl, r2, hh, r3⟩
  | 4, 1, _, _ =>
    have hh : ∀ j, j < 4 - 1 → pm4 0 2 3 1 bs j = bs (sh 1 j) ∧ pm4 0 2 3 1 bz j = bz (sh 1 j) ∧ pm4 0 2 3 1 du j = du (sh 1 j) := fun j hj => by
      match j, hj with
      | 0, _ => exact ⟨rfl, rfl, rfl⟩
      | 1, _ => exact ⟨rfl, rfl, rfl⟩
      | 2, _ => exact ⟨rfl, rfl, rfl⟩
    obtain ⟨F', B', k', r1, r2, r3⟩ := rcnt _ _ _ hh
    rw [(k_rm10 _ _ _ _ _ _ _ _ _ _).2.2.2.2.2.2.1, show (3 : Int32) = nI (4 - 1) from rfl, r1, bd_ok]
    exact ⟨_, _, _, _, _, _, rfl, r2, hh, r3⟩
  | 3, 2, _, _ =>
    have hh : ∀ j, j < 3 - 1 → bs j = bs (sh 2 j) ∧ bz j = bz (sh 2 j) ∧ du j = du (sh 2 j) := fun j hj => by
      match j, hj with
      | 0, _ => exact ⟨rfl, rfl, rfl⟩
      | 1, _ => exact ⟨rfl, rfl, rfl⟩
    obtain ⟨F', B', k', r1, r2, r3⟩ := rcnt _ _ _ hh
    rw [(k_rm10 _ _ _ _ _ _ _ _ _ _).2.2.2.2.2.2.2.1, show (2 : Int32) = nI (3 - 1) from rfl, r1, bd_ok]
    exact ⟨_, _, _, _, _, _, rfl, r2, hh, r3⟩
  | 4, 2, _, _ =>
    have hh : ∀ j, j < 4 - 1 → pm4 0 1 3 2 bs j = bs (sh 2 j) ∧ pm4 0 1 3 2 bz j = bz (sh 2 j) ∧ pm4 0 1 3 2 du j = du (sh 2 j) := fun j hj => by
      match j, hj with
      | 0, _ => exact ⟨rfl, rfl, rfl⟩
      | 1, _ => exact ⟨rfl, rfl, rfl⟩
      | 2, _ => exact ⟨rfl, rfl, rfl⟩
    obtain ⟨F', B', k', r1, r2, r3⟩ := rcnt _ _ _ hh
    rw [(k_rm10 _ _ _ _ _ _ _ _ _ _).2.2.2.2.2.2.2.2.1, show (3 : Int32) = nI (4 - 1) from rfl, r1, bd_ok]
    exact ⟨_, _, _, _, _, _, rfl, r2, hh, r3⟩
  | 4, 3, _, _ =>
    have hh : ∀ j, j < 4 - 1 → bs j = bs (sh 3 j) ∧ bz j = bz (sh 3 j) ∧ du j = du (sh 3 j) := fun j hj => by
      match j, hj with
      | 0, _ => exact ⟨rfl, rfl, rfl⟩
      | 1, _ => exact ⟨rfl, rfl, rfl⟩
      | 2, _ => exact ⟨rfl, rfl, rfl⟩
    obtain ⟨F', B', k', r1, r2, r3⟩ := rcnt _ _ _ hh
    rw [(k_rm10 _ _ _ _ _ _ _ _ _ _).2.2.2.2.2.2.2.2.2, show (3 : Int32) = nI (4 - 1) from rfl, r1, bd_ok]
    exact ⟨_, _, _, _, _, _, rfl, r2, hh, r3⟩
theorem ck01 {α : Type} {k : Option α} : ck 0 1 k = k := ck_ok (i := 0) (n := 1) (by omega) (by omega)
theorem updL0 (f : Nat → Int64) (x : Int64) : vp_updL f (0 : Int32).toNatClampNeg x 0 = x := pk_uLs
/-- change by the law's helper -/
theorem c_changeL {FU : Nat} {zm zo : Nat → Nat → Int32} {zs ch at_ to : Nat → Int32} (h : RZ zm zo zs ch at_ to) (x1 x2 x3 th : Int32) (out : Nat → Int64) : ∃ (t b : Int32) (zm' zo' : Nat → Nat → Int32) (zs' ch' at' to' : Nat → Int32) (out' : Nat → Int64),
    f_L_change FU x1 x2 x3 zm zo zs out = some (t, zm', zo', zs', out') ∧ f_M_change FU x1 x2 x3 th ch at_ to = some (b, t, ch', at', to') ∧ RZ zm' zo' zs' ch' at' to' ∧ (t = 0 → out' 0 = b.toInt64) := by
  obtain ⟨tc, r, b, t, zm', zo', zs', ch', at', to', h1, h2, h3, h4⟩ := c_change (FU := FU) h x1 x2 x3 th
  unfold f_L_change f_L_changeA
  rw [h1]
  rcases h4 with ⟨rfl, rfl, rfl⟩ | ⟨rfl, rfl⟩ | ⟨rfl, rfl⟩
  · simp only [bd_ok, nm_eq, ck01, if_true]
    exact ⟨0, r, _, _, _, _, _, _, _, rfl, h2, h3, fun _ => updL0 out r.toInt64⟩
  · simp only [bd_ok, Nat.reduceEqDiff, if_false, if_true]
    exact ⟨1, b, _, _, _, _, _, _, _, rfl, h2, h3, fun q => absurd q (by decide)⟩
  · simp only [bd_ok, Nat.reduceEqDiff, if_false, if_true]
    exact ⟨2, b, _, _, _, _, _, _, _, rfl, h2, h3, fun q => absurd q (by decide)⟩
theorem if5_at {α : Type} (b : Nat → Option α) (c : Option α) {p : Nat} (hp : p < 4) : (if nI p = 0 then b 0 else if nI p = 1 then b 1 else if nI p = 2 then b 2 else if nI p = 3 then b 3 else c) = b p := by
  match p, hp with
  | 0, _ => rfl
  | 1, _ => rfl
  | 2, _ => rfl
  | 3, _ => rfl
theorem if5_no {α : Type} (b0 b1 b2 b3 c : Option α) {x : Int32} (h : x < 0 ∨ 4 ≤ x) : (if x = 0 then b0 else if x = 1 then b1 else if x = 2 then b2 else if x = 3 then b3 else c) = c := by
  have ne : ∀ p, p < 4 → ¬ x = nI p := fun p hp q => by
    subst q
    rcases h with h | h
    · exact (n_not4 hp).1 h
    · exact (n_not4 hp).2 h
  rw [if_neg (show ¬ x = 0 from ne 0 (by omega)), if_neg (show ¬ x = 1 from ne 1 (by omega)), if_neg (show ¬ x = 2 from ne 2 (by omega)), if_neg (show ¬ x = 3 from ne 3 (by omega))]
/-- behind a removal -/
theorem RQ.rem {bs : Nat → Nat → Nat → Int32} {bz du : Nat → Nat → Int32} {pz : Nat → Int32} {bf bb : Nat → Nat → Int32} {bsz bo ln ct bg : Nat → Int32} (h : RQ bs bz du pz bf bb bsz bo ln ct bg) {p n e : Nat} {C D : Nat → Nat} (hp : p < 4) (hM : MP p n C D bo ln ct bg) (he : e < n)
    (h2 : ∀ e, e < n → bz p e = nI (C (4 * p + e)) ∧ du p e = nI (D (4 * p + e)) ∧ ∀ j, j < C (4 * p + e) → bs p e j = bg (40 * (4 * p + e) + j))
    {bs' : Nat → Nat → Int32} {bz' du' F' B' ln' ct' bg' : Nat → Int32} {k' : Nat} (hk : k' ≤ 40 * (n - 1)) (hb : ∀ j, j < n - 1 → bs' j = bs p (sh e j) ∧ bz' j = bz p (sh e j) ∧ du' j = du p (sh e j))
    (hB : BT F' B' k' (PeS (fun j => bs p (sh e j)) (fun j => C (4 * p + sh e j)) (fun j => D (4 * p + sh e j)) (n - 1) 0))
    (hln : ∀ q, ln' q = if 4 * p + e ≤ q ∧ q < 4 * p + (n - 1) then ln (q + 1) else ln q) (hct : ∀ q, ct' q = if 4 * p + e ≤ q ∧ q < 4 * p + (n - 1) then ct (q + 1) else ct q) (hbg : ∀ i, bg' i = if 40 * (4 * p + e) ≤ i ∧ i < 40 * (4 * p + (n - 1)) then bg (i + 40) else bg i) :
    RQ (up bs p bs') (up bz p bz') (up du p du') (up pz p (nI (n - 1))) (up bf p F') (up bb p B') (up bsz p (nI k')) (upd bo p (nI (n - 1))) ln' ct' bg' := by
  have hn := hM.2.1
  have hsh : ∀ j, j < n - 1 → sh e j < n ∧ 4 * p + sh e j = (if 4 * p + e ≤ 4 * p + j ∧ 4 * p + j < 4 * p + (n - 1) then 4 * p + j + 1 else 4 * p + j) := by
    intro j hj
    unfold sh
    by_cases q : j < e
    · rw [if_pos q, if_neg (by omega)]; omega
    · rw [if_neg q, if_pos (by omega)]; omega
  have Lg : ∀ (g g' : Nat → Int32), (∀ q, g' q = if 4 * p + e ≤ q ∧ q < 4 * p + (n - 1) then g (q + 1) else g q) → ∀ j, j < n - 1 → g' (4 * p + j) = g (4 * p + sh e j) := by
    intro g g' hg j hj
    rw [hg, (hsh j hj).2]
    split <;> rfl
  have Lb : ∀ j i, j < n - 1 → i < 40 → bg' (40 * (4 * p + j) + i) = bg (40 * (4 * p + sh e j) + i) := by
    intro j i hj hi
    rw [hbg]
    unfold sh
    by_cases q : j < e
    · rw [if_pos q, if_neg (by omega)]
    · rw [if_neg q, if_pos (by omega), show 40 * (4 * p + j) + i + 40 = 40 * (4 * p + (j + 1)) + i by omega]
  intro w hw
  by_cases hwp : w = p
  · subst hwp
    have hE := hM.2.2.2
    refine ⟨n - 1, fun q => C (4 * w + sh e (q - 4 * w)), fun q => D (4 * w + sh e (q - 4 * w)), k', ⟨hp, by omega, pk_us, fun j hj => ?_⟩, up_same _ _ _, fun j hj => ?_, hk, up_same _ _ _, ?_⟩
    · simp only [Nat.add_sub_cancel_left]
      obtain ⟨g1, g2, g3, g4, g5, g6⟩ := hE (sh e j) (hsh j hj).1
      refine ⟨g1, by rw [Lg ct ct' hct j hj]; exact g2, g3, g4, by rw [Lg ln ln' hln j hj]; exact g5, fun i hi => ?_⟩
      rw [Lb j i hj (by omega)]
      exact g6 i hi
    · simp only [Nat.add_sub_cancel_left, up_same]
      obtain ⟨b1, b2, b3⟩ := hb j hj
      obtain ⟨f1, f2, f3⟩ := h2 (sh e j) (hsh j hj).1
      have gC := (hE (sh e j) (hsh j hj).1).1
      rw [b1, b2, b3]
      refine ⟨f1, f2, fun i hi => ?_⟩
      rw [Lb j i hj (by omega)]
      exact f3 i hi
    · rw [up_same, up_same]
      refine hB.iff (fun m => ⟨fun ⟨i, w1, w2, j, v1, v2, v3, v4⟩ => ?_, fun ⟨i, w1, w2, j, v1, v2, v3, v4⟩ => ?_⟩)
      · simp only [Nat.add_sub_cancel_left] at v2 v4
        have gC := (hE (sh e i) (hsh i w2).1).1
        rw [Lb i j w2 (by omega)] at v3 v4
        have f3 := (h2 (sh e i) (hsh i w2).1).2.2 j v2
        exact ⟨i, w1, w2, j, v1, v2, by show (bs w (sh e i) j).toInt ≤ m; rw [f3]; exact v3, by show m < (bs w (sh e i) j).toInt + (D (4 * w + sh e i) : Int); rw [f3]; exact v4⟩
      · have gC := (hE (sh e i) (hsh i w2).1).1
        have f3 := (h2 (sh e i) (hsh i w2).1).2.2 j v2
        have v3 : (bs w (sh e i) j).toInt ≤ m := v3
        have v4 : m < (bs w (sh e i) j).toInt + (D (4 * w + sh e i) : Int) := v4
        rw [f3] at v3 v4
        refine ⟨i, w1, w2, j, v1, ?_, ?_, ?_⟩
        · simp only [Nat.add_sub_cancel_left]; exact v2
        · rw [Lb i j w2 (Nat.lt_of_lt_of_le v2 gC)]; exact v3
        · rw [Lb i j w2 (Nat.lt_of_lt_of_le v2 gC)]; simp only [Nat.add_sub_cancel_left]; exact v4
  · obtain ⟨n', C', D', k2, ⟨g0, g1, g2, g3⟩, f1, f2, f3, f4, f5⟩ := h w hw
    have a1 : ∀ (g g' : Nat → Int32), (∀ q, g' q = if 4 * p + e ≤ q ∧ q < 4 * p + (n - 1) then g (q + 1) else g q) → ∀ j, j < 4 → g' (4 * w + j) = g (4 * w + j) := by
      intro g g' hg j hj
      rw [hg, if_neg (by omega)]
    have a2 : ∀ j i, j < 4 → i < 40 → bg' (40 * (4 * w + j) + i) = bg (40 * (4 * w + j) + i) := by
      intro j i hj hi
      rw [hbg, if_neg (by omega)]
    rw [up_ne _ _ hwp, up_ne _ _ hwp, up_ne _ _ hwp, up_ne _ _ hwp, up_ne _ _ hwp, up_ne _ _ hwp, up_ne _ _ hwp]
    refine ⟨n', C', D', k2, ⟨g0, g1, by rw [pk_un hwp]; exact g2, fun j hj => ?_⟩, f1, fun j hj => ?_, f3, f4, f5.iff (fun m => ⟨fun ⟨i, w1, w2, j, v1, v2, v3, v4⟩ => ?_, fun ⟨i, w1, w2, j, v1, v2, v3, v4⟩ => ?_⟩)⟩
    · obtain ⟨e1, e2, e3, e4, e5, e6⟩ := g3 j hj
      refine ⟨e1, by rw [a1 ct ct' hct j (by omega)]; exact e2, e3, e4, by rw [a1 ln ln' hln j (by omega)]; exact e5, fun i hi => ?_⟩
      rw [a2 j i (by omega) (by omega)]
      exact e6 i hi
    · obtain ⟨e1, e2, e3⟩ := f2 j hj
      have := (g3 j hj).1
      refine ⟨e1, e2, fun i hi => ?_⟩
      rw [a2 j i (by omega) (by omega)]
      exact e3 i hi
    · have := (g3 i w2).1
      rw [a2 i j (by omega) (by omega)] at v3 v4
      exact ⟨i, w1, w2, j, v1, v2, v3, v4⟩
    · have := (g3 i w2).1
      rw [← a2 i j (by omega) (by omega)] at v3 v4
      exact ⟨i, w1, w2, j, v1, v2, v3, v4⟩
/-- cancel by the law's helper -/
theorem c_cancelL {FU : Nat} (hF : 200 < FU) {bs : Nat → Nat → Nat → Int32} {bz du : Nat → Nat → Int32} {pz : Nat → Int32} {bf bb : Nat → Nat → Int32} {bsz bo ln ct bg : Nat → Int32} (h : RQ bs bz du pz bf bb bsz bo ln ct bg) (x y th : Int32) (out : Nat → Int64) :
    ∃ (t b : Int32) (bs' : Nat → Nat → Nat → Int32) (bz' du' : Nat → Nat → Int32) (pz' : Nat → Int32) (bf' bb' : Nat → Nat → Int32) (bsz' bo' ln' ct' bg' : Nat → Int32) (out' : Nat → Int64),
      f_L_cancel FU x y bs bz du pz bf bb bsz out = some (t, bs', bz', du', pz', bf', bb', bsz', out') ∧ f_M_cancel FU x y th bo ln ct bg = some (b, t, bo', ln', ct', bg') ∧ RQ bs' bz' du' pz' bf' bb' bsz' bo' ln' ct' bg' ∧ (t = 0 → out' 0 = b.toInt64) := by
  have refused : ∀ z : Int32, f_M_isEvent FU x y bo = some 0 → f_M_cancel FU x y th bo ln ct bg = some (0, 1, bo, ln, ct, bg) := by
    intro z hz
    unfold f_M_cancel f_M_refuse
    rw [hz, bd_ok, if_pos rfl, bd_ok]
  unfold f_L_cancel
  by_cases h0 : x < 0 ∨ 4 ≤ x
  · rw [if5_no _ _ _ _ _ h0]
    unfold f_L_cancelN f_K_cancelN
    have e0 : f_K_isPerson FU x = some 0 := by
      rw [k_isPerson]
      rcases h0 with h0 | h0
      · rw [if_pos h0]
      · rw [if_pos h0, ite_self]
    rw [e0, bd_ok, if_pos rfl, bd_ok, if_neg (by decide), if_pos rfl, bd_ok]
    exact ⟨1, 0, _, _, _, _, _, _, _, _, _, _, _, _, rfl, refused 0 (m_isEventN h0 y), h, fun q => absurd q (by decide)⟩
  · obtain ⟨p, hp, rfl⟩ : ∃ p, p < 4 ∧ x = nI p := by
      rcases n_cases4 x with q | q | q
      · exact absurd (Or.inl q) h0
      · exact absurd (Or.inr q) h0
      · exact q
    rw [if5_at (fun i => bd (f_L_cancelP FU (nI p) y (bs i) (bz i) (du i) (pz i) (bf i) (bb i) (bsz i) out) (fun y => some (y.1, up bs i y.2.1, up bz i y.2.2.1, up du i y.2.2.2.1, up pz i y.2.2.2.2.1, up bf i y.2.2.2.2.2.1, up bb i y.2.2.2.2.2.2.1, up bsz i y.2.2.2.2.2.2.2.1, y.2.2.2.2.2.2.2.2))) _ hp]
    obtain ⟨n, C, D, k, hM, h1, h2, h3, h4, h5⟩ := h p hp
    have hn := hM.2.1
    unfold f_L_cancelP
    rw [h1]
    by_cases hy : y < 0 ∨ nI n ≤ y
    · have e1 : f_M_isEvent FU (nI p) y bo = some 0 := by
        rw [m_isEvent hp hM.2.2.1]
        rcases hy with hy | hy
        · rw [if_pos hy]
        · rw [if_pos hy, ite_self]
      have e2 : f_Person_has FU y (nI n) = some 0 := by
        rw [k_has]
        rcases hy with hy | hy
        · rw [if_pos hy]
        · rw [if_pos hy, ite_self]
      have e3 : ∀ F B kk, f_K_cancelP FU (nI p) y (bs p) (bz p) (du p) (nI n) F B kk = some (1, 0, bs p, bz p, du p, nI n, F, B, kk) := by
        intro F B kk
        unfold f_K_cancelP
        rw [k_isPerson, bd_ok, if_neg (n_not4 hp).1, if_neg (n_not4 hp).2, if_neg (by decide), ck_ok hp (by omega), e2, bd_ok, if_pos rfl]
      rw [e3]
      simp only [bd_ok, Nat.reduceEqDiff, if_false, if_true]
      have us : ∀ {α : Type} (f : Nat → α), up f p (f p) = f := by
        intro α f
        funext j
        by_cases q : j = p
        · rw [q, up_same]
        · rw [up_ne _ _ q]
      rw [us, us, us, us, us, us, ← h1, us]
      exact ⟨1, 0, _, _, _, _, _, _, _, _, _, _, _, _, rfl, refused 0 e1, h, fun q => absurd q (by decide)⟩
    · obtain ⟨e, he, rfl⟩ : ∃ e, e < n ∧ y = nI e := by
        rcases n_casesN n (by omega) y with q | q | q
        · exact absurd (Or.inl q) hy
        · exact absurd (Or.inr q) hy
        · exact q
      have hE := hM.2.2.2
      obtain ⟨bs', bz', du', F', B', k', r1, r2, r3, r4⟩ := k_cancelP (FU := FU) (bs := bs p) (bz := bz p) (du := du p) (F := bf p) (B := bb p) (kk := bsz p) (C := fun i => C (4 * p + i)) (D := fun i => D (4 * p + i)) hF hp hn he (fun i hi => by
        obtain ⟨g1, g2, g3, g4, g5, g6⟩ := hE i hi
        obtain ⟨f1, f2, f3⟩ := h2 i hi
        exact ⟨g1, f1, g3, g4, f2, fun j hj => by rw [f3 j hj]; exact g6 j hj⟩)
      obtain ⟨ln', ct', bg', s1, s2, s3, s4⟩ := m_cancel (FU := FU) (ln := ln) (ct := ct) (bg := bg) hF hp hn hM.2.2.1 he th
      rw [r1]
      simp only [bd_ok, nm_eq, ck01, if_true]
      exact ⟨0, nI (n - 1), _, _, _, _, _, _, _, _, _, _, _, _, rfl, s1, h.rem hp hM he h2 r2 r3 r4 s2 s3 s4, fun _ => updL0 out _⟩
