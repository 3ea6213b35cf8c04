def mv_pw (v : Nat → Int32) (B D f t : Nat) (p : Int32) : Nat → Int32 :=
  mv_vu (mv_vu (mv_vu (mv_vu (mv_vu (mv_vu (mv_vu (mv_vu (mv_vu (mv_vu v (64 + 8 * B + 0) (nI t)) (64 + 8 * B + 1) (nI (f + 1))) (64 + 8 * B + 2) (nI 0)) (64 + 8 * B + 3) (nI 0)) (64 + 8 * B + 4) p) (64 + 8 * B + 5) (nI 0)) (64 + 8 * B + 6) (nI 0)) (64 + 8 * B + 7) (nI D)) 4 (nI (B + 1))) 5 (v 5 + nI 1)
theorem mv_pv_pw {v : Nat → Int32} {C B D f t : Nat} : mv_pv v C B D f t = mv_pw v B D f t (mv_pp v C D f t) := rfl
section A1
variable {h0 : mv_Hp} {I : Nat → Nat → Int32} {r C B D : Nat} {v : Nat → Int32}
theorem mv_VV_pw (hV : mv_VV v C B D) (hB : B < 8) {f t : Nat} {p : Int32} (hf : f ≤ 5) (ht : t ≤ 5) : mv_VV (mv_pw v B D f t p) C (B + 1) D := by
  obtain ⟨e0, e3, e4, hC4, hB8, hW, hVC, hVB⟩ := hV
  have g : ∀ k, k < 64 → k ≠ 4 → k ≠ 5 → mv_pw v B D f t p k = v k := fun k h1 h2 h3 => by
    unfold mv_pw
    rw [mv_vu_ne h3, mv_vu_ne h2, mv_vu_ne (by omega), mv_vu_ne (by omega), mv_vu_ne (by omega), mv_vu_ne (by omega), mv_vu_ne (by omega), mv_vu_ne (by omega), mv_vu_ne (by omega), mv_vu_ne (by omega)]
  refine ⟨by rw [g 0 (by omega) (by omega) (by omega)]; exact e0, by rw [g 3 (by omega) (by omega) (by omega)]; exact e3, by unfold mv_pw; rw [mv_vu_ne (by omega), mv_vu_eq], hC4, by omega, fun w hw => by rw [g _ (by omega) (by omega) (by omega)]; exact hW w hw, mv_VC_congr hC4 hVC (fun k h1 h2 h3 => g k h2 (by omega) (by omega)), fun b hb => ?_⟩
  by_cases e : b = B
  · subst e
    refine ⟨⟨t, ht, ?_⟩, ⟨f + 1, 0, 0, by omega, by omega, by omega, ?_, ?_, ?_, by omega⟩, Or.inl ?_⟩ <;> (unfold mv_pw; simp (disch := omega) only [mv_vu_ne, mv_vu_eq])
  · have h2 : ∀ k, k < 8 → mv_pw v B D f t p (64 + 8 * b + k) = v (64 + 8 * b + k) := fun k hk => by
      unfold mv_pw
      rw [mv_vu_ne (by omega), mv_vu_ne (by omega), mv_vu_ne (by omega), mv_vu_ne (by omega), mv_vu_ne (by omega), mv_vu_ne (by omega), mv_vu_ne (by omega), mv_vu_ne (by omega), mv_vu_ne (by omega), mv_vu_ne (by omega)]
    rw [h2 0 (by omega), h2 1 (by omega), h2 2 (by omega), h2 3 (by omega), h2 5 (by omega)]
    exact hVB b (by omega)
theorem mv_PV_pw (hP : mv_PV v B) {f t : Nat} {p : Int32} (hp : p = mv_n4 ∨ ∃ x, x ≤ 1000000 ∧ p = nI x) : mv_PV (mv_pw v B D f t p) (B + 1) := by
  intro b hb
  by_cases e : b = B
  · subst e
    have : mv_pw v b D f t p (64 + 8 * b + 4) = p := by unfold mv_pw; simp (disch := omega) only [mv_vu_ne, mv_vu_eq]
    rw [this]; exact hp
  · have : mv_pw v B D f t p (64 + 8 * b + 4) = v (64 + 8 * b + 4) := by
      unfold mv_pw
      rw [mv_vu_ne (by omega), mv_vu_ne (by omega), mv_vu_ne (by omega), mv_vu_ne (by omega), mv_vu_ne (by omega), mv_vu_ne (by omega), mv_vu_ne (by omega), mv_vu_ne (by omega), mv_vu_ne (by omega), mv_vu_ne (by omega)]
    rw [this]; exact hP b (by omega)
theorem mv_pp_val {f t : Nat} (hD : D < 90000) : mv_pp v C D f t = mv_n4 ∨ ∃ x, x ≤ 1000000 ∧ mv_pp v C D f t = nI x := by
  unfold mv_pp mv_oN
  by_cases h : nI (mv_AR v C (nI t) (nI f) 30 0 D) = nI 1000000
  · rw [if_pos h]; exact Or.inl rfl
  · rw [if_neg h]; exact Or.inr ⟨_, mv_AR_le _ _ _ _ _ _ _ (by omega), rfl⟩
theorem ro_addB (hR : mv_RS h0 r) (hW : mv_RV h0 I r v C B) (hV : mv_VV v C B D) (hB : B < 8) {f t : Nat} {p : Int32} (hf : f ≤ 5) : ∃ I', F_X5_addBundle r (nI f) (nI t) p (mv_hp h0 I) = some ((), mv_hp h0 I') ∧ mv_RV h0 I' r (mv_pw v B D f t p) C (B + 1) ∧ mv_fr r I I' := by
  have hC4 := hV.2.2.2.1
  obtain ⟨-, k1, k2, k3⟩ := hR.2.2.2.2.2.2.2.2.1 B hB
  obtain ⟨⟨a1, a2, a3, a4, a5, a6, a7, a8, a9⟩, w2, w3, w4⟩ := hW
  have F1 : mv_fr r I (mv_si I (mv_bi h0 r B) (mv_vu (mv_vu (mv_vu (mv_vu (mv_vu (mv_vu (mv_vu (mv_vu (I (mv_bi h0 r B)) 0 (nI t)) 1 (nI f)) 2 mv_n4) 3 mv_n4) 4 p) 5 (nI 0)) 6 (nI 0)) 7 (nI D))) := mv_fr_si (by omega) (by omega)
  have e1 : F_X0_begin (mv_bi h0 r B) (nI f) (nI t) p (nI D) (mv_hp h0 I) = some ((), mv_hp h0 (mv_si I (mv_bi h0 r B) (mv_vu (mv_vu (mv_vu (mv_vu (mv_vu (mv_vu (mv_vu (mv_vu (I (mv_bi h0 r B)) 0 (nI t)) 1 (nI f)) 2 mv_n4) 3 mv_n4) 4 p) 5 (nI 0)) 6 (nI 0)) 7 (nI D)))) := by
    unfold F_X0_begin
    have hz : (nI 0 : Int32) = 0 ∨ (nI 0 : Int32) = 1 := Or.inl rfl
    simp (disch := first | assumption | omega) only [li0, li4, lin4, ev_sI k3, mv_si_eq, mv_si_si, ev_sZ k3 hz, ev_pu]
  generalize hJ : mv_si I (mv_bi h0 r B) (mv_vu (mv_vu (mv_vu (mv_vu (mv_vu (mv_vu (mv_vu (mv_vu (I (mv_bi h0 r B)) 0 (nI t)) 1 (nI f)) 2 mv_n4) 3 mv_n4) 4 p) 5 (nI 0)) 6 (nI 0)) 7 (nI D)) = J at F1 e1
  have hJ1 : ∀ i, i ≠ mv_bi h0 r B → J i = I i := fun i hi => by rw [← hJ]; exact mv_si_ne hi
  have W1 : mv_RV h0 J r (mv_vu (mv_vu (mv_vu (mv_vu (mv_vu (mv_vu (mv_vu (mv_vu v (64 + 8 * B + 0) (nI t)) (64 + 8 * B + 1) (nI (f + 1))) (64 + 8 * B + 2) (nI 0)) (64 + 8 * B + 3) (nI 0)) (64 + 8 * B + 4) p) (64 + 8 * B + 5) (nI 0)) (64 + 8 * B + 6) (nI 0)) (64 + 8 * B + 7) (nI D)) C (B + 1) := by
    refine ⟨?_, fun w hw => ?_, fun c hc => ?_, fun b hb => ?_⟩
    · rw [hJ1 r (by omega)]
      simp (disch := omega) only [mv_vu_ne]
      exact ⟨a1, a2, a3, a4, a5, a6, a7, a8, a9⟩
    · rw [hJ1 _ (by omega)]
      simp (disch := omega) only [mv_vu_ne]
      exact w2 w hw
    · obtain ⟨q1, q2, q3, q4, q5, q6⟩ := w3 c hc
      unfold mv_RC
      rw [hJ1 _ (by omega), hJ1 _ (by omega)]
      refine ⟨?_, ?_, ?_, ?_, ?_, fun j h1 h2 => ?_⟩ <;> try (simp (disch := omega) only [mv_vu_ne]; assumption)
      simp (disch := omega) only [mv_vu_ne] at h2 ⊢
      exact q6 j h1 h2
    · unfold mv_RB
      by_cases e : b = B
      · subst e
        rw [← hJ, mv_si_eq]
        refine ⟨?_, ?_, ?_, ?_, ?_, ?_, ?_, ?_⟩ <;> simp (disch := omega) only [mv_vu_ne, mv_vu_eq, mv_dn0]
        rw [mv_dns (by omega)]
      · have ne : mv_bi h0 r b ≠ mv_bi h0 r B := fun z => e (hR.2.2.2.2.2.2.2.2.2 b B (by omega) (by omega) z)
        rw [hJ1 _ ne]
        simp (disch := omega) only [mv_vu_ne]
        exact w4 b (by omega)
  obtain ⟨I2, e2, W2, F2⟩ := st_r hR (by omega) W1 4 4 (nI (B + 1)) (by omega)
  obtain ⟨I3, e3, W3, F3⟩ := st_r hR (by omega) W2 8 5 (v 5 + nI 1) (by omega)
  have r1 : J r 4 = nI B := by rw [hJ1 r (by omega), a2]; exact hV.2.2.1
  have r2 : I2 r 8 = v 5 := by rw [W2.1.2.2.2.2.2.1]; simp (disch := omega) only [mv_vu_ne]
  refine ⟨I3, ?_, W3, mv_fr_trans (mv_fr_trans F1 F2) F3⟩
  unfold F_X5_addBundle J_X5_addBundle_68
  rw [ro_gI hR, a2, hV.2.2.1, ev_f (nI_pos (by omega)), ro_gI hR, a2, hV.2.2.1, ro_g2 hR, ro_l3 hR, ev_t (nI_lt hB (by omega)), ro_g2 hR, ro_gI hR, a2, hV.2.2.1, ro_a3 hR hB, ev_f (by simp), ro_gI hR, a3, hV.1, ev_rc k3, ev_bd e1, ro_gI hR, r1, li1, nI_add, e2, ro_gI hR, r2, e3]
  rfl
/-- the bundles' row with one taken out and put behind the last -/
def mv_pr (P : Nat → Nat → Option Nat) (r b c : Nat) : Nat → Nat → Option Nat := fun x i => if x = r + 3 ∧ b ≤ i ∧ i < c then P (r + 3) (i + 1) else P x i
def mv_pq (P : Nat → Nat → Option Nat) (r b B : Nat) : Nat → Nat → Option Nat := mv_u2 (mv_pr P r b (B - 1)) (r + 3) (B - 1) (P (r + 3) b)
theorem mv_pr_s {P : Nat → Nat → Option Nat} {r b c : Nat} (h : b ≤ c) : mv_u2 (mv_pr P r b c) (r + 3) c (P (r + 3) (c + 1)) = mv_pr P r b (c + 1) := by
  funext x i
  unfold mv_u2 mv_pr
  by_cases hx : x = r + 3
  · subst hx
    by_cases hi : i = c
    · subst hi; rw [if_pos rfl, if_pos rfl, if_pos ⟨rfl, by omega, by omega⟩]
    · by_cases h2 : b ≤ i ∧ i < c
      · rw [if_pos rfl, if_neg hi, if_pos ⟨rfl, h2⟩, if_pos ⟨rfl, by omega⟩]
      · rw [if_pos rfl, if_neg hi, if_neg (fun z => h2 z.2), if_neg (fun z => by omega)]
  · rw [if_neg hx, if_neg (fun z => hx z.1), if_neg (fun z => hx z.1)]
theorem mv_pr_0 {P : Nat → Nat → Option Nat} {r b : Nat} : mv_pr P r b b = P := by
  funext x i; unfold mv_pr; rw [if_neg (fun z => by omega)]
theorem mv_pq_ne {P : Nat → Nat → Option Nat} {r b B x : Nat} (hx : x ≠ r + 3) : mv_pq P r b B x = P x := by
  funext i
  unfold mv_pq mv_u2 mv_pr
  rw [if_neg hx, if_neg (fun z => hx z.1)]
def mv_ps1 (b B i : Nat) : Nat := if b ≤ i ∧ i < B - 1 then i + 1 else if i = B - 1 then b else i
theorem mv_pq_at {P : Nat → Nat → Option Nat} {r b B i : Nat} : mv_pq P r b B (r + 3) i = P (r + 3) (mv_ps1 b B i) := by
  unfold mv_pq mv_u2 mv_pr mv_ps1
  rw [if_pos rfl]
  by_cases h1 : i = B - 1
  · rw [if_pos h1, if_neg (by omega), if_pos h1]
  · rw [if_neg h1]
    by_cases h2 : b ≤ i ∧ i < B - 1
    · rw [if_pos ⟨rfl, h2⟩, if_pos h2]
    · rw [if_neg (fun z => h2 z.2), if_neg h2, if_neg h1]
theorem mv_ps1_lt {b B i : Nat} (hb : b < B) (hB : B ≤ 8) (hi : i < 8) : mv_ps1 b B i < 8 := by unfold mv_ps1; split <;> (try split) <;> omega
theorem mv_ps1_inj {b B i i' : Nat} (hb : b < B) (hB : B ≤ 8) (h : mv_ps1 b B i = mv_ps1 b B i') : i = i' := by
  unfold mv_ps1 at h
  split at h <;> (try split at h) <;> (try split at h) <;> (try split at h) <;> omega
theorem mv_bi_pq {r b B i : Nat} : mv_bi (mv_hq h0 (mv_pq h0.2.2.2 r b B)) r i = mv_bi h0 r (mv_ps1 b B i) := by
  show (mv_pq h0.2.2.2 r b B (r + 3) i).getD 0 = _
  rw [mv_pq_at]; rfl
theorem mv_RS_pq {b : Nat} (hR : mv_RS h0 r) (hb : b < B) (hB : B ≤ 8) : mv_RS (mv_hq h0 (mv_pq h0.2.2.2 r b B)) r := by
  obtain ⟨a1, a2, a3, a4, a5, a6, a7, a8, a9, a10⟩ := hR
  have hne : ∀ x, x ≠ r + 3 → (mv_hq h0 (mv_pq h0.2.2.2 r b B)).2.2.2 x = h0.2.2.2 x := fun x hx => mv_pq_ne hx
  refine ⟨a1, a2, a3, a4, by rw [hne r (by omega)]; exact a5, by rw [hne r (by omega)]; exact a6, by rw [hne r (by omega)]; exact a7, fun c hc => ?_, fun i hi => ?_, fun i i' hi hi' h => ?_⟩
  · rw [hne _ (by omega), hne _ (by omega)]; exact a8 c hc
  · rw [mv_bi_pq]
    have := a9 _ (mv_ps1_lt hb hB hi)
    refine ⟨?_, this.2⟩
    show mv_pq h0.2.2.2 r b B (r + 3) i = _
    rw [mv_pq_at]; exact this.1
  · rw [mv_bi_pq, mv_bi_pq] at h
    exact mv_ps1_inj hb hB (a10 _ _ (mv_ps1_lt hb hB hi) (mv_ps1_lt hb hB hi') h)
/-- a vector without bundle b -/
def mv_rv (v : Nat → Int32) (b B : Nat) : Nat → Int32 := fun k => if 64 + 8 * b ≤ k then (if k + 8 < 128 then v (k + 8) else nI 0) else if k = 4 then nI (B - 1) else if k = 7 then v 7 + nI 1 else v k
theorem mv_VV_rv {b : Nat} (hV : mv_VV v C B D) (hb : b < B) : mv_VV (mv_rv v b B) C (B - 1) D := by
  obtain ⟨e0, e3, e4, hC4, hB8, hW, hVC, hVB⟩ := hV
  have g : ∀ k, k < 64 → k ≠ 4 → k ≠ 7 → mv_rv v b B k = v k := fun k h1 h2 h3 => by
    unfold mv_rv
    rw [if_neg (by omega), if_neg h2, if_neg h3]
  refine ⟨by rw [g 0 (by omega) (by omega) (by omega)]; exact e0, by rw [g 3 (by omega) (by omega) (by omega)]; exact e3, by unfold mv_rv; rw [if_neg (by omega), if_pos rfl], hC4, by omega, fun w hw => by rw [g _ (by omega) (by omega) (by omega)]; exact hW w hw, mv_VC_congr hC4 hVC (fun k h1 h2 h3 => g k h2 (by omega) (by omega)), fun i hi => ?_⟩
  by_cases e : i < b
  · have h2 : ∀ k, k < 8 → mv_rv v b B (64 + 8 * i + k) = v (64 + 8 * i + k) := fun k hk => by
      unfold mv_rv
      rw [if_neg (by omega), if_neg (by omega), if_neg (by omega)]
    rw [h2 0 (by omega), h2 1 (by omega), h2 2 (by omega), h2 3 (by omega), h2 5 (by omega)]
    exact hVB i (by omega)
  · have h2 : ∀ k, k < 8 → mv_rv v b B (64 + 8 * i + k) = v (64 + 8 * (i + 1) + k) := fun k hk => by
      unfold mv_rv
      rw [if_pos (by omega), if_pos (by omega), show 64 + 8 * i + k + 8 = 64 + 8 * (i + 1) + k by omega]
    rw [h2 0 (by omega), h2 1 (by omega), h2 2 (by omega), h2 3 (by omega), h2 5 (by omega)]
    exact hVB (i + 1) (by omega)
theorem mv_PV_rv {b : Nat} (hP : mv_PV v B) (hb : b < B) (hB8 : B ≤ 8) : mv_PV (mv_rv v b B) (B - 1) := by
  intro i hi
  by_cases e : i < b
  · have : mv_rv v b B (64 + 8 * i + 4) = v (64 + 8 * i + 4) := by unfold mv_rv; rw [if_neg (by omega), if_neg (by omega), if_neg (by omega)]
    rw [this]; exact hP i (by omega)
  · have : mv_rv v b B (64 + 8 * i + 4) = v (64 + 8 * (i + 1) + 4) := by unfold mv_rv; rw [if_pos (by omega), if_pos (by omega), show 64 + 8 * i + 4 + 8 = 64 + 8 * (i + 1) + 4 by omega]
    rw [this]; exact hP (i + 1) (by omega)
theorem ro_remB (hR : mv_RS h0 r) (hW : mv_RV h0 I r v C B) (hV : mv_VV v C B D) {b : Nat} (hb : b < B) : ∃ I', F_X5_removeBundle r (nI b) (mv_hp h0 I) = some ((), mv_hp (mv_hq h0 (mv_pq h0.2.2.2 r b B)) I') ∧ mv_RV (mv_hq h0 (mv_pq h0.2.2.2 r b B)) I' r (mv_rv v b B) C (B - 1) ∧ mv_fr r I I' := by
  have hB8 := hV.2.2.2.2.1
  have hC4 := hV.2.2.2.1
  have kb : ∀ i, i < 8 → h0.1[mv_bi h0 r i]? = some (0, 8) := fun i hi => (hR.2.2.2.2.2.2.2.2.1 i hi).2.2.2
  have pb : ∀ i, i < 8 → h0.2.2.2 (r + 3) i = some (mv_bi h0 r i) := fun i hi => (hR.2.2.2.2.2.2.2.2.1 i hi).1
  have g2 : ∀ c (g : Option Nat → mv_M Unit), mv_bd (mv_gR 5 12 2 (some r)) g (mv_hp (mv_hq h0 (mv_pr h0.2.2.2 r b c)) I) = g (some (r + 3)) (mv_hp (mv_hq h0 (mv_pr h0.2.2.2 r b c)) I) := fun c g => (ev_gR (h0 := mv_hq h0 (mv_pr h0.2.2.2 r b c)) hR.1).trans (by
    have : (mv_hq h0 (mv_pr h0.2.2.2 r b c)).2.2.2 r 2 = some (r + 3) := by
      show mv_pr h0.2.2.2 r b c r 2 = _
      unfold mv_pr
      rw [if_neg (fun z => by omega)]
      exact hR.2.2.2.2.2.2.1
    rw [this])
  have gI : ∀ (P : Nat → Nat → Option Nat) (J : Nat → Nat → Int32) k (g : Int32 → mv_M Unit), mv_bd (mv_gI 5 12 k (some r)) g (mv_hp (mv_hq h0 P) J) = g (J r k) (mv_hp (mv_hq h0 P) J) := fun P J k g => ev_gI (h0 := mv_hq h0 P) hR.1
  have sI : ∀ (P : Nat → Nat → Option Nat) (J : Nat → Nat → Int32) k x (g : Unit → mv_M Unit), mv_bd (mv_sI 5 12 k (some r) x) g (mv_hp (mv_hq h0 P) J) = g () (mv_hp (mv_hq h0 P) (mv_si J r (mv_vu (J r) k x))) := fun P J k x g => ev_sI (h0 := mv_hq h0 P) hR.1
  have i4 : I r 4 = nI B := hW.1.2.1.trans hV.2.2.1
  have i10 : I r 10 = v 7 := hW.1.2.2.2.2.2.2.2.1
  have loop : ∀ (k n c : Nat), c + k = B - 1 → b ≤ c → k < n → Lp_X5_removeBundle_16 r (some (mv_bi h0 r b)) n (nI c) (nI c) (mv_hp (mv_hq h0 (mv_pr h0.2.2.2 r b c)) I) = some ((), mv_hp (mv_hq h0 (mv_pq h0.2.2.2 r b B)) (mv_si I r (mv_vu (mv_vu (I r) 4 (nI (B - 1))) 10 (v 7 + nI 1)))) := by
    intro k
    induction k with
    | zero =>
      intro n c hc hbc hn
      obtain ⟨n, rfl⟩ := Nat.exists_eq_succ_of_ne_zero (show n ≠ 0 by omega)
      have hc' : c = B - 1 := by omega
      subst hc'
      rw [Lp_X5_removeBundle_16, gI, i4, li1, nI_add, ev_t (nI_le (by omega) (by omega))]
      unfold J_X5_removeBundle_66
      have e : mv_u2 (mv_pr h0.2.2.2 r b (B - 1)) (r + 3) (B - 1) (some (mv_bi h0 r b)) = mv_pq h0.2.2.2 r b B := by
        unfold mv_pq
        rw [pb b (by omega)]
      rw [g2, ev_aT (h0 := mv_hq h0 (mv_pr h0.2.2.2 r b (B - 1))) hR.2.2.2.1 (kb b (by omega)) (show B - 1 < 8 by omega) (by omega)]
      show mv_bd (mv_gI 5 12 4 (some r)) _ (mv_hp (mv_hq h0 (mv_u2 (mv_pr h0.2.2.2 r b (B - 1)) (r + 3) (B - 1) (some (mv_bi h0 r b)))) I) = _
      rw [e, gI, i4, sI, gI, mv_si_eq, mv_vu_ne (by omega), i10, sI, mv_si_eq, mv_si_si, li1, pk_sub (by omega)]
      rfl
    | succ k ih =>
      intro n c hc hbc hn
      obtain ⟨n, rfl⟩ := Nat.exists_eq_succ_of_ne_zero (show n ≠ 0 by omega)
      have nx := ih n (c + 1) (by omega) (by omega) (by omega)
      rw [← mv_pr_s hbc, pb (c + 1) (by omega)] at nx
      have rd : (mv_hq h0 (mv_pr h0.2.2.2 r b c)).2.2.2 (r + 3) (c + 1) = some (mv_bi h0 r (c + 1)) := by
        show mv_pr h0.2.2.2 r b c (r + 3) (c + 1) = _
        unfold mv_pr
        rw [if_neg (fun z => by omega)]
        exact pb (c + 1) (by omega)
      rw [Lp_X5_removeBundle_16, gI, i4, li1, nI_add, ev_f (nI_ge (by omega) (by omega)), g2, ev_aL (h0 := mv_hq h0 (mv_pr h0.2.2.2 r b c)) hR.2.2.2.1 (by decide), ev_f (nI_ge (by omega) (by omega)), g2, g2, ev_aR (h0 := mv_hq h0 (mv_pr h0.2.2.2 r b c)) hR.2.2.2.1 (show c + 1 < 8 by omega) (by omega), rd, ev_aT (h0 := mv_hq h0 (mv_pr h0.2.2.2 r b c)) hR.2.2.2.1 (kb (c + 1) (by omega)) (show c < 8 by omega) (by omega), ev_bpu]
      exact nx
  have e0 := loop (B - 1 - b) mv_FU b (by omega) (Nat.le_refl _) (by show _ < 1000; omega)
  rw [mv_pr_0, mv_hq_self] at e0
  refine ⟨mv_si I r (mv_vu (mv_vu (I r) 4 (nI (B - 1))) 10 (v 7 + nI 1)), ?_, ⟨?_, fun w hw => ?_, fun c hc => ?_, fun i hi => ?_⟩, mv_fr_si (by omega) (by omega)⟩
  · unfold F_X5_removeBundle
    rw [ro_rc hR, ev_bd (ro_bundleAt hR hW hV hb), ev_f (by simp), e0]
  · obtain ⟨a1, a2, a3, a4, a5, a6, a7, a8, a9⟩ := hW.1
    have g : ∀ k, k < 64 → k ≠ 4 → k ≠ 7 → mv_rv v b B k = v k := fun k h1 h2 h3 => by
      unfold mv_rv
      rw [if_neg (by omega), if_neg h2, if_neg h3]
    rw [mv_si_eq, g 3 (by omega) (by omega) (by omega), g 0 (by omega) (by omega) (by omega), g 1 (by omega) (by omega) (by omega), g 2 (by omega) (by omega) (by omega), g 5 (by omega) (by omega) (by omega), g 6 (by omega) (by omega) (by omega), g 8 (by omega) (by omega) (by omega), show mv_rv v b B 4 = nI (B - 1) by unfold mv_rv; rw [if_neg (by omega), if_pos rfl], show mv_rv v b B 7 = v 7 + nI 1 by unfold mv_rv; rw [if_neg (by omega), if_neg (by omega), if_pos rfl]]
    refine ⟨?_, ?_, ?_, ?_, ?_, ?_, ?_, ?_, ?_⟩ <;> simp (disch := omega) only [mv_vu_ne, mv_vu_eq] <;> assumption
  · rw [mv_si_ne (by omega), show mv_rv v b B (9 + w) = v (9 + w) by unfold mv_rv; rw [if_neg (by omega), if_neg (by omega), if_neg (by omega)]]
    exact hW.2.1 w hw
  · obtain ⟨q1, q2, q3, q4, q5, q6⟩ := hW.2.2.1 c hc
    have g : ∀ k, 16 ≤ k → k < 64 → mv_rv v b B k = v k := fun k h1 h2 => by
      unfold mv_rv
      rw [if_neg (by omega), if_neg (by omega), if_neg (by omega)]
    unfold mv_RC
    rw [mv_si_ne (by omega), mv_si_ne (by omega), g _ (by omega) (by omega), g _ (by omega) (by omega), g _ (by omega) (by omega), g _ (by omega) (by omega), g _ (by omega) (by omega)]
    exact ⟨q1, q2, q3, q4, q5, fun j h1 h2 => by rw [g _ (by omega) (by omega)]; exact q6 j h1 h2⟩
  · rw [mv_bi_pq]
    have hlt := mv_ps1_lt hb hB8 (show i < 8 by omega)
    obtain ⟨-, k1, k2, -⟩ := hR.2.2.2.2.2.2.2.2.1 _ hlt
    have := hW.2.2.2 (mv_ps1 b B i) (by unfold mv_ps1; split <;> (try split) <;> omega)
    unfold mv_RB at this ⊢
    rw [mv_si_ne (by omega)]
    by_cases e : i < b
    · have es : mv_ps1 b B i = i := by unfold mv_ps1; rw [if_neg (by omega), if_neg (by omega)]
      have h2 : ∀ k, k < 8 → mv_rv v b B (64 + 8 * i + k) = v (64 + 8 * i + k) := fun k hk => by
        unfold mv_rv
        rw [if_neg (by omega), if_neg (by omega), if_neg (by omega)]
      rw [es] at this ⊢
      rw [h2 0 (by omega), h2 1 (by omega), h2 2 (by omega), h2 3 (by omega), h2 4 (by omega), h2 5 (by omega), h2 6 (by omega), h2 7 (by omega)]
      exact this
    · have es : mv_ps1 b B i = i + 1 := by unfold mv_ps1; rw [if_pos (by omega)]
      have h2 : ∀ k, k < 8 → mv_rv v b B (64 + 8 * i + k) = v (64 + 8 * (i + 1) + k) := fun k hk => by
        unfold mv_rv
        rw [if_pos (by omega), if_pos (by omega), show 64 + 8 * i + k + 8 = 64 + 8 * (i + 1) + k by omega]
      rw [es] at this ⊢
      rw [h2 0 (by omega), h2 1 (by omega), h2 2 (by omega), h2 3 (by omega), h2 4 (by omega), h2 5 (by omega), h2 6 (by omega), h2 7 (by omega)]
      exact this
end A1
