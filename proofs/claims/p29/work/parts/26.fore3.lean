theorem mv_bit0 {T c : Nat} : T &&& 2 ^ c = 0 ↔ ¬ T.testBit c = true := by
  rw [mv_and0]
  constructor
  · intro h z
    exact h c ⟨z, by simp⟩
  · rintro h c' ⟨z1, z2⟩
    rw [Nat.testBit_two_pow] at z2
    have : c = c' := by simpa using z2
    subst this
    exact h z1
theorem mv_shlS {c : Nat} (hc : c < 8) : (1 : Int32) <<< (nI c &&& 31) = nI (2 ^ c) := by rw [li1, li31, mv_and, mv_shl hc]
theorem mv_vu_32 {f : Nat → Int32} {x y : Int32} : mv_vu (mv_vu f 2 x) 3 y 2 = x := by rw [mv_vu_ne (by omega), mv_vu_eq]
theorem mv_vu_33 {f : Nat → Int32} {x y : Int32} : mv_vu (mv_vu f 2 x) 3 y 3 = y := mv_vu_eq
def mv_bk (T : Nat) (lb : Nat → Nat) (c : Nat) (s : Option Nat × Nat) : Option Nat × Nat := if T.testBit c = true ∧ ¬ s.2 ≤ lb c then (some c, lb c) else s
def mv_hd (v : Nat → Int32) (C b D : Nat) : Nat → Nat := fun c => mv_AR v C (v (64 + 8 * b + 0)) mv_n4 30 (2 ^ c) D
theorem mv_bk_gl {v : Nat → Int32} {C B b D T : Nat} (hC4 : C ≤ 4) (hD : D < 100000) (hT : ∀ c, T.testBit c = true ↔ (c < C ∧ mv_cn v C B b D c = true)) : mv_it (mv_bk T (mv_hd v C b D)) 4 0 (none, mv_AB v C b D) = mv_gl v C B b D := by
  have hle : mv_AB v C b D ≤ 1000000 := mv_AR_le _ _ _ _ _ _ _ (by omega)
  have key : ∀ k, mv_it (mv_bk T (mv_hd v C b D)) k 0 (none, mv_AB v C b D) = mv_it (mv_gf v C B b D) (min k C) 0 (none, mv_AB v C b D) ∧ (mv_it (mv_gf v C B b D) (min k C) 0 (none, mv_AB v C b D)).2 ≤ 1000000 := by
    intro k
    induction k with
    | zero => rw [Nat.zero_min]; exact ⟨rfl, hle⟩
    | succ k ih =>
      obtain ⟨e1, e2⟩ := ih
      rw [mv_it_last, e1, Nat.zero_add]
      by_cases hk : k < C
      · rw [show min (k + 1) C = k + 1 by omega, mv_it_last, Nat.zero_add, show min k C = k by omega]
        rw [show min k C = k by omega] at e2
        generalize mv_it (mv_gf v C B b D) k 0 (none, mv_AB v C b D) = s at e2
        unfold mv_bk mv_gf mv_gq
        by_cases q : mv_cn v C B b D k = true
        · rw [if_pos q]
          have : T.testBit k = true := (hT k).mpr ⟨hk, q⟩
          by_cases z : s.2 ≤ mv_hd v C b D k
          · have z' : s.2 ≤ mv_AR v C (v (64 + 8 * b + 0)) mv_n4 30 (2 ^ k) D := z
            rw [if_neg (fun y => y.2 z), if_pos z']; exact ⟨rfl, e2⟩
          · have z' : ¬ s.2 ≤ mv_AR v C (v (64 + 8 * b + 0)) mv_n4 30 (2 ^ k) D := z
            rw [if_pos ⟨this, z⟩, if_neg z']
            exact ⟨rfl, by show mv_AR _ _ _ _ _ _ _ ≤ _; omega⟩
        · rw [if_neg q, if_pos e2, if_neg (fun y => q ((hT k).mp y.1).2)]; exact ⟨rfl, e2⟩
      · rw [show min (k + 1) C = C by omega]
        rw [show min k C = C by omega] at e2 ⊢
        unfold mv_bk
        rw [if_neg (fun y => hk ((hT k).mp y.1).1)]
        exact ⟨rfl, e2⟩
  have := (key 4).1
  rw [show min 4 C = C by omega] at this
  exact this
section F3
variable {β : Type} {h0 : mv_Hp} {I : Nat → Nat → Int32} {r C B D : Nat} {v : Nat → Int32}
theorem fo_best (hF : mv_FS h0) (hr : r + 20 ≤ 145) (hR : mv_RS h0 r) (hW : mv_RV h0 I r v C B) (hV : mv_VV v C B D) {b T : Nat} (hb : b < B) (hD : D < 90000) (ha : v (64 + 8 * b + 3) = nI 0) (hT16 : T < 16) (hT : ∀ c, T.testBit c = true ↔ (c < C ∧ mv_cn v C B b D c = true)) : ∃ f g, F_X2_bestTaker 145 (some r) (some (mv_bi h0 r b)) (nI T) (mv_hp h0 I) = some (mv_ob (mv_gl v C B b D).1, mv_hp h0 (mv_fo I f g)) := by
  obtain ⟨⟨t, t1, t2⟩, -⟩ := hV.2.2.2.2.2.2.2 b hb
  have hB8 := hV.2.2.2.2.1
  have hC4 := hV.2.2.2.1
  have hW' := hW.2.2.2 b hb
  have hd : ∀ c, c < 4 → (mv_LO v C b D).1 c = mv_hd v C b D c := by
    intro c hc
    unfold mv_LO mv_hd
    rw [t2]
    exact (mv_dp_hand hC4 (mv_ok_nI (by omega)) (mv_sw_ok hV) (by decide) hc (by omega)).symm
  have hdle : ∀ c, mv_hd v C b D c ≤ 1000000 := fun c => mv_AR_le _ _ _ _ _ _ _ (by omega)
  obtain ⟨f, g, e, p1, p2, p3, p4⟩ := fo_look (fr := mv_dn (v (64 + 8 * b + 1))) (to := v (64 + 8 * b + 0)) hF hr hR hW hV (show D < 100000 by omega)
  have p2' : ∀ c, c < 4 → g c = mv_cv (mv_hd v C b D c) := fun c hc => (p2 c hc).trans (congrArg mv_cv (hd c hc))
  refine ⟨f, g, ?_⟩
  unfold F_X2_bestTaker
  rw [ro_bI hR (by omega), hW'.2.1, ro_bI hR (by omega), hW'.1, ro_gI hR, hW.1.2.2.1, hV.1, fo_rc hF, ev_bd e, fo_rc hF, ev_bd (fo_stay hF hr hR hW hV hD hb (by omega) ha p1 p2), li4, lin4, li0]
  obtain ⟨n, s, e1, hs, hs2⟩ := mv_lp (L := fun n c (s : Option Nat × Nat) => Lp_X2_bestTaker_31 145 (nI T) n (mv_ob s.1) (mv_cv s.2) (nI c) (mv_hp h0 (mv_fo I f g))) (fun c s => s = mv_it (mv_bk T (mv_hd v C b D)) c 0 (none, mv_AB v C b D) ∧ s.2 ≤ 1000000) 4 (by omega)
    (fun n c s hc hP => by
      obtain ⟨p, hle⟩ := hP
      rw [Lp_X2_bestTaker_31, fo_g0 hF, fo_l hF, ev_f (nI_ge hc (by omega)), mv_shlS (by omega), mv_and]
      unfold J_X2_bestTaker_75
      have e0 := mv_it_last (mv_bk T (mv_hd v C b D)) c 0 (none, mv_AB v C b D)
      rw [Nat.zero_add, ← p] at e0
      have h16 : T &&& 2 ^ c < 2 ^ 31 := Nat.lt_of_le_of_lt Nat.and_le_left (by omega)
      by_cases q : T.testBit c = true
      · rw [ev_f (fun z => mv_bit0.mp ((mv_eq0 h16).mp z) q), fo_g0 hF, fo_a hF hc, mv_fo_2, p2' c hc]
        by_cases z : s.2 ≤ mv_hd v C b D c
        · rw [ev_t ((mv_cv_le hle (hdle c)).mpr z), li1, nI_add]
          refine ⟨s, rfl, ?_, hle⟩
          rw [e0]; unfold mv_bk; rw [if_neg (fun y => y.2 z)]
        · rw [ev_f (fun y => z ((mv_cv_le hle (hdle c)).mp y)), fo_g0 hF, fo_a hF hc, mv_fo_2, p2' c hc, li1, nI_add]
          refine ⟨(some c, mv_hd v C b D c), rfl, ?_, hdle c⟩
          rw [e0]; unfold mv_bk; rw [if_pos ⟨q, z⟩]
      · rw [ev_t ((mv_eq0 h16).mpr (mv_bit0.mpr q)), li1, nI_add]
        refine ⟨s, rfl, ?_, hle⟩
        rw [e0]; unfold mv_bk; rw [if_neg (fun y => q y.1)])
    (none, mv_AB v C b D) ⟨rfl, mv_AB_le hV (by omega)⟩
  have e1' : Lp_X2_bestTaker_31 145 (nI T) mv_FU mv_n4 (mv_cv (mv_AB v C b D)) (nI 0) (mv_hp h0 (mv_fo I f g)) = Lp_X2_bestTaker_31 145 (nI T) (n + 1) (mv_ob s.1) (mv_cv s.2) (nI 4) (mv_hp h0 (mv_fo I f g)) := e1
  rw [e1', Lp_X2_bestTaker_31, fo_g0 hF, fo_l hF, ev_t (nI_le (Nat.le_refl _) (by omega)), hs, mv_bk_gl hC4 (by omega) hT]
  rfl
theorem fo_byHands (hR : mv_RS h0 r) (hW : mv_RV h0 I r v C B) (hV : mv_VV v C B D) {b : Nat} (hb : b < B) (hD : D < 90000) : F_X2_arrivalByHands 145 (some r) (some (mv_bi h0 r b)) (mv_hp h0 I) = some (mv_oN (mv_AN v C b D), mv_hp h0 I) := by
  obtain ⟨⟨t, t1, t2⟩, ⟨l, w, a, q1, q2, q3, q4, q5, q6, q7⟩, -⟩ := hV.2.2.2.2.2.2.2 b hb
  have hB8 := hV.2.2.2.2.1
  have hC4 := hV.2.2.2.1
  have hW' := hW.2.2.2 b hb
  have hto : mv_ok (v (64 + 8 * b + 0)) := by rw [t2]; exact mv_ok_nI (by omega)
  have loop : ∀ (k n S c : Nat), c + k = 30 → k < n → S < 16 → Lp_X2_arrivalByHands_37 145 (some r) (some (mv_bi h0 r b)) n (nI S) (nI (c + 1)) (mv_hp h0 I) = some (mv_oN (nI (mv_AR v C (v (64 + 8 * b + 0)) (v (64 + 8 * b + 1) - nI 1) k S (D + c))), mv_hp h0 I) := by
    intro k
    induction k with
    | zero =>
      intro n S c hc hn hS
      obtain ⟨n, rfl⟩ := Nat.exists_eq_succ_of_ne_zero (show n ≠ 0 by omega)
      have hc' : c = 30 := by omega
      subst hc'
      rw [Lp_X2_arrivalByHands_37, ev_t (by decide)]
      rfl
    | succ k ih =>
      intro n S c hc hn hS
      obtain ⟨n, rfl⟩ := Nat.exists_eq_succ_of_ne_zero (show n ≠ 0 by omega)
      have hl16 := mv_st1_lt (v := v) (D := D + c + 1) (lies := v (64 + 8 * b + 1) - nI 1) hC4 hS
      have a1 : ∀ x : Nat, S &&& x < 2 ^ 31 := fun x => Nat.lt_of_le_of_lt Nat.and_le_left (by omega)
      rw [Lp_X2_arrivalByHands_37, li30, ev_f (nI_nlt (by omega) (by omega)), ro_gI hR, hW.1.2.2.1, hV.1, nI_add, ev_bpu, ro_bI hR (by omega), hW'.1, ro_rc hR, ro_carriersIn' hR hW hV (by omega), mv_tbc_tb hto, mv_and]
      rw [mv_AR, show D + (c + 1) = D + c + 1 by omega]
      have j97 : ∀ S1, S1 ||| (if v (64 + 8 * b + 1) - nI 1 < nI 0 then 0 else mv_tb v C (v (64 + 8 * b + 1) - nI 1) (D + c + 1)) = mv_st1 v C (v (64 + 8 * b + 1) - nI 1) S (D + c + 1) → J_X2_arrivalByHands_97 (Lp_X2_arrivalByHands_37 145 (some r) (some (mv_bi h0 r b)) n) 145 (some r) (some (mv_bi h0 r b)) (nI S1) (nI (c + 1)) (nI (D + c + 1)) (mv_hp h0 I) = some (mv_oN (nI (mv_AR v C (v (64 + 8 * b + 0)) (v (64 + 8 * b + 1) - nI 1) k (mv_st1 v C (v (64 + 8 * b + 1) - nI 1) S (D + c + 1)) (D + c + 1))), mv_hp h0 I) := by
        intro S1 hS1
        have e := ih n (mv_st1 v C (v (64 + 8 * b + 1) - nI 1) S (D + c + 1)) (c + 1) (by omega) (by omega) hl16
        unfold J_X2_arrivalByHands_97
        have e2 : mv_tbc v C (mv_dn (v (64 + 8 * b + 1))) (D + c + 1) = if v (64 + 8 * b + 1) - nI 1 < nI 0 then 0 else mv_tb v C (v (64 + 8 * b + 1) - nI 1) (D + c + 1) := by
          rw [q4]
          by_cases hl : l = 0
          · subst hl
            rw [mv_dn0, mv_tbc_n4 hV, if_pos (by decide)]
          · obtain ⟨l, rfl⟩ := Nat.exists_eq_succ_of_ne_zero hl
            rw [mv_dns (by omega), pk_sub (by omega), show l + 1 - 1 = l by omega, if_neg (show ¬ nI l < nI 0 from nI_pos (by omega)), mv_tbc_tb (mv_ok_nI (by omega))]
        rw [ro_bI hR (by omega), hW'.2.1, ro_rc hR, ro_carriersIn' hR hW hV (by omega), e2, mv_or, hS1, ev_bpu, li1, nI_add, e]
        rfl
      by_cases z : S &&& mv_tb v C (v (64 + 8 * b + 0)) (D + c + 1) = 0
      · rw [ev_t ((mv_eq0 (a1 _)).mpr z), if_pos z, ro_rc hR, ro_stallOn' hR hW (by omega), ro_rc hR, ro_carriersIn' hR hW hV (by omega), mv_tbc_tb (mv_sw_ok hV _), mv_and]
        by_cases y : S &&& mv_tb v C (mv_sw v (D + c + 1)) (D + c + 1) = 0
        · rw [ev_t ((mv_eq0 (a1 _)).mpr y)]
          exact j97 S (by unfold mv_st1; rw [if_pos y, Nat.or_zero])
        · rw [ev_f (fun x => y ((mv_eq0 (a1 _)).mp x)), mv_or, ev_bpu]
          exact j97 _ (by unfold mv_st1; rw [if_neg y])
      · rw [ev_f (fun x => z ((mv_eq0 (a1 _)).mp x)), if_neg z]
        unfold mv_oN
        rw [if_neg (fun x => by have := (mv_eq (by omega) (by omega)).mp x; omega)]
        rfl
  unfold F_X2_arrivalByHands J_X2_arrivalByHands_33 mv_AN
  rw [ro_bI hR (by omega), hW'.2.2.2.1, q6, li4, lin4]
  by_cases h : a = 0
  · subst h
    rw [ev_t mv_dn0, if_pos (nI_le (Nat.le_refl _) (by omega)), ro_bI hR (by omega), hW'.2.2.1, q5]
    unfold mv_AB mv_wm
    rw [q5]
    by_cases hw : w = 0
    · subst hw
      rw [ev_t mv_dn0, if_pos rfl, li1]
      exact loop 30 mv_FU 0 0 (by omega) (by decide) (by omega)
    · obtain ⟨w, rfl⟩ := Nat.exists_eq_succ_of_ne_zero hw
      have h16 : 2 ^ w < 16 := Nat.lt_of_lt_of_le (Nat.pow_lt_pow_right (by decide) (show w < 4 by omega)) (by decide)
      rw [ev_f (fun z => hw ((mv_dn_n4 (by omega)).mp z)), ro_bI hR (by omega), hW'.2.2.1, q5, mv_dns (by omega), mv_shlS (by omega), li1, if_neg (fun z => hw ((mv_eq (by omega) (by omega)).mp z)), nI_clamp (by omega)]
      exact loop 30 mv_FU (2 ^ w) 0 (by omega) (by decide) h16
  · obtain ⟨a, rfl⟩ := Nat.exists_eq_succ_of_ne_zero h
    rw [ev_f (fun z => h ((mv_dn_n4 (by omega)).mp z)), if_neg (nI_ge (by omega) (by omega)), ro_bI hR (by omega), hW'.2.2.2.1, q6, mv_dns (by omega), pk_sub (by omega), show a + 1 - 1 = a by omega]
    unfold mv_oN
    rw [if_neg (fun z => by have := (mv_eq (by omega) (by omega)).mp z; omega)]
    rfl
def mv_au1 (v : Nat → Int32) (C D : Nat) (b : Nat) (s : Int32 × Int32) : Int32 × Int32 := if v (64 + 8 * b + 3) ≤ nI 0 ∧ ¬ mv_AB v C b D = 1000000 then (s.1 + nI 1, s.2 + nI (mv_AB v C b D)) else s
def mv_au (v : Nat → Int32) (C B D : Nat) : Int32 × Int32 := mv_it (mv_au1 v C D) B 0 (nI 0, nI 0)
theorem fo_addUp (hF : mv_FS h0) (hr : r + 20 ≤ 145) (hR : mv_RS h0 r) (hW : mv_RV h0 I r v C B) (hV : mv_VV v C B D) (hD : D < 90000) : ∃ f g, F_X2_addUpArrivals 145 (some r) (mv_hp h0 I) = some ((), mv_hp h0 (mv_fo I f g)) ∧ f 2 = (mv_au v C B D).1 ∧ f 3 = (mv_au v C B D).2 := by
  have hB8 := hV.2.2.2.2.1
  have hC4 := hV.2.2.2.1
  have hW' : ∀ f g, mv_RV h0 (mv_fo I f g) r v C B := fun f g => mv_RV_fo hr hR hC4 hB8 hW
  unfold F_X2_addUpArrivals
  rw [fo_sI hF, fo_sI hF, mv_si_eq, mv_si_si, li0]
  have e0 : mv_si I 145 (mv_vu (mv_vu (I 145) 2 (nI 0)) 3 (nI 0)) = mv_fo I (mv_vu (mv_vu (I 145) 2 (nI 0)) 3 (nI 0)) (I 146) := by
    have := mv_fo_s1 (I := I) (f := I 145) (g := I 146) (f' := mv_vu (mv_vu (I 145) 2 (nI 0)) 3 (nI 0))
    rw [mv_fo_self] at this
    exact this
  rw [e0]
  obtain ⟨n, ⟨f, g⟩, e1, h1, h2⟩ := mv_lp (L := fun n c (s : (Nat → Int32) × (Nat → Int32)) => Lp_X2_addUpArrivals_12 145 (some r) n (nI c) (mv_hp h0 (mv_fo I s.1 s.2))) (fun c s => s.1 2 = (mv_it (mv_au1 v C D) c 0 (nI 0, nI 0)).1 ∧ s.1 3 = (mv_it (mv_au1 v C D) c 0 (nI 0, nI 0)).2) B (by omega)
    (fun n b s hb hP => by
      obtain ⟨f, g⟩ := s
      obtain ⟨p1, p2⟩ := hP
      dsimp only at p1 p2
      obtain ⟨-, ⟨l, w, a, q1, q2, q3, q4, q5, q6, q7⟩, -⟩ := hV.2.2.2.2.2.2.2 b hb
      have e0 := mv_it_last (mv_au1 v C D) b 0 (nI 0, nI 0)
      rw [Nat.zero_add] at e0
      dsimp only
      rw [Lp_X2_addUpArrivals_12, ro_gI hR, (hW' f g).1.2.1, hV.2.2.1, ev_f (nI_ge hb (by omega)), ro_rc hR, ro_bundleAt' hR (hW' f g) hV hb, ev_f (by simp), ro_bI hR (by omega), ((hW' f g).2.2.2 b hb).2.2.2.1, q6, li4, lin4]
      unfold J_X2_addUpArrivals_78
      by_cases h : a = 0
      · subst h
        obtain ⟨f2, g2, e2, z1, z2⟩ := fo_arrivalOf hF hr hR (hW' f g) hV hb hD
        rw [mv_fo_fo] at e2
        rw [mv_fo_1] at z1 z2
        have hAN : mv_AN v C b D = nI (mv_AB v C b D) := by unfold mv_AN; rw [q6, if_pos (nI_le (Nat.le_refl _) (by omega))]
        rw [ev_t mv_dn0, fo_rc hF, ev_bd e2, hAN]
        have hle := mv_AB_le (b := b) hV (show D < 100000 by omega)
        by_cases y : mv_AB v C b D = 1000000
        · rw [ev_t (by unfold mv_oN; rw [if_pos (by rw [y])]), li1, nI_add]
          refine ⟨(f2, g2), rfl, ?_, ?_⟩
          · show f2 2 = _
            rw [e0, z1, p1]; unfold mv_au1; rw [if_neg (fun x => x.2 y)]
          · show f2 3 = _
            rw [e0, z2, p2]; unfold mv_au1; rw [if_neg (fun x => x.2 y)]
        · have y2 : mv_oN (nI (mv_AB v C b D)) = nI (mv_AB v C b D) := by unfold mv_oN; rw [if_neg (fun x => y ((mv_eq (by omega) (by omega)).mp x))]
          rw [y2, ev_f (mv_n4_ne (by omega)), fo_gI hF, fo_sI hF, fo_gI hF, fo_sI hF, mv_fo_1, mv_fo_s1, mv_fo_1, mv_fo_s1, li1, nI_add, mv_vu_ne (by omega), z1, z2, p1, p2]
          have yes : v (64 + 8 * b + 3) ≤ nI 0 := by rw [q6]; exact nI_le (Nat.le_refl _) (by omega)
          have yes3 : ∀ s, mv_au1 v C D b s = (s.1 + nI 1, s.2 + nI (mv_AB v C b D)) := fun s => by unfold mv_au1; rw [if_pos ⟨yes, y⟩]
          refine ⟨(mv_vu (mv_vu f2 2 ((mv_it (mv_au1 v C D) b 0 (nI 0, nI 0)).1 + nI 1)) 3 ((mv_it (mv_au1 v C D) b 0 (nI 0, nI 0)).2 + nI (mv_AB v C b D)), g2), rfl, ?_, ?_⟩
          · rw [e0, yes3]; dsimp only; exact mv_vu_32
          · rw [e0, yes3]; dsimp only; exact mv_vu_33
      · rw [ev_f (fun z => h ((mv_dn_n4 (by omega)).mp z)), li1, nI_add]
        have no : ¬ v (64 + 8 * b + 3) ≤ nI 0 := by rw [q6]; exact nI_ge (by omega) (by omega)
        refine ⟨(f, g), rfl, ?_, ?_⟩
        · show f 2 = _
          rw [e0, p1]; unfold mv_au1; rw [if_neg (fun x => no x.1)]
        · show f 3 = _
          rw [e0, p2]; unfold mv_au1; rw [if_neg (fun x => no x.1)])
    (mv_vu (mv_vu (I 145) 2 (nI 0)) 3 (nI 0), I 146) ⟨by dsimp only; exact mv_vu_32, by dsimp only; exact mv_vu_33⟩
  dsimp only at e1 h1 h2
  rw [e1, Lp_X2_addUpArrivals_12, ro_gI hR, (hW' f g).1.2.1, hV.2.2.1, ev_t (nI_le (Nat.le_refl _) (by omega))]
  exact ⟨f, g, rfl, h1, h2⟩
end F3
