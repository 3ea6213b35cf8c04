/-! the class: the Roads at r, its cells r .. r + 19; what they hold, said by a vector of the reference -/
def mv_dn (x : Int32) : Int32 := if x = nI 0 then mv_n4 else x - nI 1
def mv_bi (h0 : mv_Hp) (r b : Nat) : Nat := (h0.2.2.2 (r + 3) b).getD 0
def mv_RS (h0 : mv_Hp) (r : Nat) : Prop :=
  h0.1[r]? = some (5, 12) ∧ h0.1[r + 1]? = some (8, 7) ∧ h0.1[r + 2]? = some (8 + 2, 4) ∧ h0.1[r + 3]? = some (8 + 3, 8) ∧
  h0.2.2.2 r 0 = some (r + 1) ∧ h0.2.2.2 r 1 = some (r + 2) ∧ h0.2.2.2 r 2 = some (r + 3) ∧
  (∀ c, c < 4 → h0.1[r + 4 + 2 * c]? = some (1, 6) ∧ h0.1[r + 5 + 2 * c]? = some (8, 7) ∧ h0.2.2.2 (r + 2) c = some (r + 4 + 2 * c) ∧ h0.2.2.2 (r + 4 + 2 * c) 0 = some (r + 5 + 2 * c)) ∧
  (∀ b, b < 8 → h0.2.2.2 (r + 3) b = some (mv_bi h0 r b) ∧ r + 12 ≤ mv_bi h0 r b ∧ mv_bi h0 r b < r + 20 ∧ h0.1[mv_bi h0 r b]? = some (0, 8)) ∧
  (∀ b b', b < 8 → b' < 8 → mv_bi h0 r b = mv_bi h0 r b' → b = b')
def mv_RC (I : Nat → Nat → Int32) (q p : Nat) (v : Nat → Int32) (k : Nat) : Prop :=
  I q 1 = v (k + 0) ∧ I q 2 = v (k + 8) ∧ I q 3 = v (k + 9) ∧ I q 4 = v (k + 10) ∧ I q 5 = v (k + 11) ∧ ∀ j, j < 7 → j < (v (k + 0)).toNatClampNeg → I p j = v (k + (1 + j))
def mv_RB (I : Nat → Nat → Int32) (q : Nat) (v : Nat → Int32) (k : Nat) : Prop :=
  I q 0 = v (k + 0) ∧ I q 1 = mv_dn (v (k + 1)) ∧ I q 2 = mv_dn (v (k + 2)) ∧ I q 3 = mv_dn (v (k + 3)) ∧ I q 4 = v (k + 4) ∧ I q 5 = v (k + 5) ∧ I q 6 = v (k + 6) ∧ I q 7 = v (k + 7)
def mv_RV (h0 : mv_Hp) (I : Nat → Nat → Int32) (r : Nat) (v : Nat → Int32) (C B : Nat) : Prop :=
  (I r 3 = v 3 ∧ I r 4 = v 4 ∧ I r 5 = v 0 ∧ I r 6 = v 1 ∧ I r 7 = v 2 ∧ I r 8 = v 5 ∧ I r 9 = v 6 ∧ I r 10 = v 7 ∧ I r 11 = v 8) ∧
  (∀ w, w < 7 → I (r + 1) w = v (9 + w)) ∧
  (∀ c, c < C → mv_RC I (r + 4 + 2 * c) (r + 5 + 2 * c) v (16 + 12 * c)) ∧
  (∀ b, b < B → mv_RB I (mv_bi h0 r b) v (64 + 8 * b))
theorem mv_dn0 : mv_dn (nI 0) = mv_n4 := by decide
theorem mv_dns {n : Nat} (h : n + 1 < 2 ^ 31) : mv_dn (nI (n + 1)) = nI n := by
  unfold mv_dn
  rw [if_neg (show ¬ nI (n + 1) = nI 0 from nI_ne0 (by omega) h), pk_sub (by omega)]; rfl
theorem mv_n4_ne {n : Nat} (h : n < 2 ^ 31) : ¬ nI n = mv_n4 := by
  intro e
  have h1 := nI_pos h
  rw [e] at h1
  exact h1 (by decide)
theorem mv_n1_ne {n : Nat} (h : n < 2 ^ 31) : ¬ nI n = mv_n1 := by
  intro e
  have h1 := nI_pos h
  rw [e] at h1
  exact h1 (by decide)
/-- the class's town of a carrier -/
def mv_tc (v : Nat → Int32) (C c D : Nat) : Int32 := if c < C then (if v (16 + 12 * c + 9) ≤ nI D then v (16 + 12 * c + (1 + D % (v (16 + 12 * c + 0)).toNatClampNeg)) else mv_n1) else mv_n1
def mv_tbc (v : Nat → Int32) (C : Nat) (t : Int32) (D : Nat) : Nat := mv_bits (fun c => decide (mv_tc v C c D = t)) C
section C1
variable {β : Type} {h0 : mv_Hp} {I : Nat → Nat → Int32} {r C B D : Nat} {v : Nat → Int32}
theorem ro_rc {g : Nat → mv_M β} (hR : mv_RS h0 r) : mv_bd (mv_rc 5 12 (some r)) g (mv_hp h0 I) = g r (mv_hp h0 I) := ev_rc hR.1
theorem ro_gI {k : Nat} {g : Int32 → mv_M β} (hR : mv_RS h0 r) : mv_bd (mv_gI 5 12 k (some r)) g (mv_hp h0 I) = g (I r k) (mv_hp h0 I) := ev_gI hR.1
theorem ro_sI {k : Nat} {x : Int32} {g : Unit → mv_M β} (hR : mv_RS h0 r) : mv_bd (mv_sI 5 12 k (some r) x) g (mv_hp h0 I) = g () (mv_hp h0 (mv_si I r (mv_vu (I r) k x))) := ev_sI hR.1
theorem ro_g0 {g : Option Nat → mv_M β} (hR : mv_RS h0 r) : mv_bd (mv_gR 5 12 0 (some r)) g (mv_hp h0 I) = g (some (r + 1)) (mv_hp h0 I) := (ev_gR hR.1).trans (by rw [hR.2.2.2.2.1])
theorem ro_g1 {g : Option Nat → mv_M β} (hR : mv_RS h0 r) : mv_bd (mv_gR 5 12 1 (some r)) g (mv_hp h0 I) = g (some (r + 2)) (mv_hp h0 I) := (ev_gR hR.1).trans (by rw [hR.2.2.2.2.2.1])
theorem ro_g2 {g : Option Nat → mv_M β} (hR : mv_RS h0 r) : mv_bd (mv_gR 5 12 2 (some r)) g (mv_hp h0 I) = g (some (r + 3)) (mv_hp h0 I) := (ev_gR hR.1).trans (by rw [hR.2.2.2.2.2.2.1])
theorem ro_l1 {g : Int32 → mv_M β} (hR : mv_RS h0 r) : mv_bd (mv_aL (some (r + 1))) g (mv_hp h0 I) = g (nI 7) (mv_hp h0 I) := ev_aL hR.2.1 (by decide)
theorem ro_l2 {g : Int32 → mv_M β} (hR : mv_RS h0 r) : mv_bd (mv_aL (some (r + 2))) g (mv_hp h0 I) = g (nI 4) (mv_hp h0 I) := ev_aL hR.2.2.1 (by decide)
theorem ro_l3 {g : Int32 → mv_M β} (hR : mv_RS h0 r) : mv_bd (mv_aL (some (r + 3))) g (mv_hp h0 I) = g (nI 8) (mv_hp h0 I) := ev_aL hR.2.2.2.1 (by decide)
theorem ro_a1 {w : Nat} {g : Int32 → mv_M β} (hR : mv_RS h0 r) (hw : w < 7) : mv_bd (mv_aI (some (r + 1)) (nI w)) g (mv_hp h0 I) = g (I (r + 1) w) (mv_hp h0 I) := ev_aI hR.2.1 hw (by omega)
theorem ro_s1 {w : Nat} {x : Int32} {g : Unit → mv_M β} (hR : mv_RS h0 r) (hw : w < 7) : mv_bd (mv_aS (some (r + 1)) (nI w) x) g (mv_hp h0 I) = g () (mv_hp h0 (mv_si I (r + 1) (mv_vu (I (r + 1)) w x))) := ev_aS hR.2.1 hw (by omega)
theorem ro_a2 {c : Nat} {g : Option Nat → mv_M β} (hR : mv_RS h0 r) (hc : c < 4) : mv_bd (mv_aR 2 (some (r + 2)) (nI c)) g (mv_hp h0 I) = g (some (r + 4 + 2 * c)) (mv_hp h0 I) := (ev_aR hR.2.2.1 hc (by omega)).trans (by rw [(hR.2.2.2.2.2.2.2.1 c hc).2.2.1])
theorem ro_a3 {b : Nat} {g : Option Nat → mv_M β} (hR : mv_RS h0 r) (hb : b < 8) : mv_bd (mv_aR 3 (some (r + 3)) (nI b)) g (mv_hp h0 I) = g (some (mv_bi h0 r b)) (mv_hp h0 I) := (ev_aR hR.2.2.2.1 hb (by omega)).trans (by rw [(hR.2.2.2.2.2.2.2.2.1 b hb).1])
theorem ro_cI {c k : Nat} {g : Int32 → mv_M β} (hR : mv_RS h0 r) (hc : c < 4) : mv_bd (mv_gI 1 6 k (some (r + 4 + 2 * c))) g (mv_hp h0 I) = g (I (r + 4 + 2 * c) k) (mv_hp h0 I) := ev_gI (hR.2.2.2.2.2.2.2.1 c hc).1
theorem ro_cS {c k : Nat} {x : Int32} {g : Unit → mv_M β} (hR : mv_RS h0 r) (hc : c < 4) : mv_bd (mv_sI 1 6 k (some (r + 4 + 2 * c)) x) g (mv_hp h0 I) = g () (mv_hp h0 (mv_si I (r + 4 + 2 * c) (mv_vu (I (r + 4 + 2 * c)) k x))) := ev_sI (hR.2.2.2.2.2.2.2.1 c hc).1
theorem ro_cR {c : Nat} {g : Option Nat → mv_M β} (hR : mv_RS h0 r) (hc : c < 4) : mv_bd (mv_gR 1 6 0 (some (r + 4 + 2 * c))) g (mv_hp h0 I) = g (some (r + 5 + 2 * c)) (mv_hp h0 I) := (ev_gR (hR.2.2.2.2.2.2.2.1 c hc).1).trans (by rw [(hR.2.2.2.2.2.2.2.1 c hc).2.2.2])
theorem ro_tl {c : Nat} {g : Int32 → mv_M β} (hR : mv_RS h0 r) (hc : c < 4) : mv_bd (mv_aL (some (r + 5 + 2 * c))) g (mv_hp h0 I) = g (nI 7) (mv_hp h0 I) := ev_aL (hR.2.2.2.2.2.2.2.1 c hc).2.1 (by decide)
theorem ro_ta {c j : Nat} {g : Int32 → mv_M β} (hR : mv_RS h0 r) (hc : c < 4) (hj : j < 7) : mv_bd (mv_aI (some (r + 5 + 2 * c)) (nI j)) g (mv_hp h0 I) = g (I (r + 5 + 2 * c) j) (mv_hp h0 I) := ev_aI (hR.2.2.2.2.2.2.2.1 c hc).2.1 hj (by omega)
theorem ro_ts {c j : Nat} {x : Int32} {g : Unit → mv_M β} (hR : mv_RS h0 r) (hc : c < 4) (hj : j < 7) : mv_bd (mv_aS (some (r + 5 + 2 * c)) (nI j) x) g (mv_hp h0 I) = g () (mv_hp h0 (mv_si I (r + 5 + 2 * c) (mv_vu (I (r + 5 + 2 * c)) j x))) := ev_aS (hR.2.2.2.2.2.2.2.1 c hc).2.1 hj (by omega)
theorem ro_bI {b k : Nat} {g : Int32 → mv_M β} (hR : mv_RS h0 r) (hb : b < 8) : mv_bd (mv_gI 0 8 k (some (mv_bi h0 r b))) g (mv_hp h0 I) = g (I (mv_bi h0 r b) k) (mv_hp h0 I) := ev_gI (hR.2.2.2.2.2.2.2.2.1 b hb).2.2.2
theorem ro_bS {b k : Nat} {x : Int32} {g : Unit → mv_M β} (hR : mv_RS h0 r) (hb : b < 8) : mv_bd (mv_sI 0 8 k (some (mv_bi h0 r b)) x) g (mv_hp h0 I) = g () (mv_hp h0 (mv_si I (mv_bi h0 r b) (mv_vu (I (mv_bi h0 r b)) k x))) := ev_sI (hR.2.2.2.2.2.2.2.2.1 b hb).2.2.2
theorem ro_bZ {b k : Nat} {x : Int32} {g : Unit → mv_M β} (hR : mv_RS h0 r) (hb : b < 8) (hx : x = 0 ∨ x = 1) : mv_bd (mv_sZ 0 8 k (some (mv_bi h0 r b)) x) g (mv_hp h0 I) = g () (mv_hp h0 (mv_si I (mv_bi h0 r b) (mv_vu (I (mv_bi h0 r b)) k x))) := ev_sZ (hR.2.2.2.2.2.2.2.2.1 b hb).2.2.2 hx
theorem ro_stallOn (hR : mv_RS h0 r) (hW : mv_RV h0 I r v C B) {D1 : Nat} (hD : D1 < 2 ^ 30) : F_X5_stallOn r (nI D1) (mv_hp h0 I) = some (mv_sw v D1, mv_hp h0 I) := by
  have h7 : D1 % 7 < 7 := Nat.mod_lt _ (by decide)
  unfold F_X5_stallOn
  rw [li7, ev_rm (by omega) (by omega) (by omega), ev_f (nI_pos (by omega)), ro_g0 hR, ro_l1 hR, ev_f (nI_ge h7 (by omega)), ro_g0 hR, ro_a1 hR h7, hW.2.1 _ h7]
  rfl
theorem ro_stallOn' (hR : mv_RS h0 r) (hW : mv_RV h0 I r v C B) {D1 : Nat} {g : Int32 → mv_M β} (hD : D1 < 2 ^ 30) : mv_bd (F_X5_stallOn r (nI D1)) g (mv_hp h0 I) = g (mv_sw v D1) (mv_hp h0 I) := ev_bd (ro_stallOn hR hW hD)
theorem ro_townOf (hR : mv_RS h0 r) (hW : mv_RV h0 I r v C B) (hV : mv_VV v C B D) {c D1 : Nat} (hc : c < 2 ^ 30) (hD : D1 < 2 ^ 30) : F_X5_townOf r (nI c) (nI D1) (mv_hp h0 I) = some (mv_tc v C c D1, mv_hp h0 I) := by
  obtain ⟨e0, e3, e4, hC4, hB8, -, hVC, -⟩ := hV
  unfold F_X5_townOf mv_tc
  rw [ev_f (nI_pos (by omega)), ro_gI hR, hW.1.1, e3]
  by_cases hcC : c < C
  · obtain ⟨n, hn1, hn7, hl, ht⟩ := hVC c hcC
    obtain ⟨w1, w2, w3, w4, w5, w6⟩ := hW.2.2.1 c hcC
    have hm : D1 % n < n := Nat.mod_lt _ (by omega)
    rw [ev_f (nI_ge hcC (by omega)), ro_g1 hR, ro_l2 hR, ev_t (nI_lt (by omega) (by omega)), ro_g1 hR, ro_a2 hR (by omega), ev_f (by simp), ro_cI hR (by omega), w1, hl, li1, ev_f (nI_nlt hn1 (by omega)), ev_f (nI_pos (by omega)), ro_cI hR (by omega), w3, if_pos hcC]
    by_cases ha : v (16 + 12 * c + 9) ≤ nI D1
    · rw [ev_t ha, if_pos ha, ro_cI hR (by omega), w1, hl, ev_rm (by omega) (by omega) (by omega), ro_cR hR (by omega), ro_tl hR (by omega), ev_f (nI_ge (by omega) (by omega)), ro_cR hR (by omega), ro_ta hR (by omega) (by omega), w6 _ (by omega) (by rw [hl, nI_clamp (by omega)]; exact hm), nI_clamp (by omega)]
      rfl
    · rw [ev_f ha, if_neg ha]; rfl
  · rw [ev_t (nI_le (by omega) (by omega)), if_neg hcC]; rfl
theorem ro_townOf' (hR : mv_RS h0 r) (hW : mv_RV h0 I r v C B) (hV : mv_VV v C B D) {c D1 : Nat} {g : Int32 → mv_M β} (hc : c < 2 ^ 30) (hD : D1 < 2 ^ 30) : mv_bd (F_X5_townOf r (nI c) (nI D1)) g (mv_hp h0 I) = g (mv_tc v C c D1) (mv_hp h0 I) := ev_bd (ro_townOf hR hW hV hc hD)
theorem ro_townN {x : Int32} {h : mv_Hp} {g : Int32 → mv_M β} : mv_bd (F_X5_townOf r mv_n4 x) g h = g mv_n1 h := ev_bd (by unfold F_X5_townOf; rw [ev_t (by decide)]; rfl)
theorem ro_carriersIn (hR : mv_RS h0 r) (hW : mv_RV h0 I r v C B) (hV : mv_VV v C B D) {t : Int32} {D1 : Nat} (hD : D1 < 2 ^ 30) : F_X5_carriersIn r t (nI D1) (mv_hp h0 I) = some (nI (mv_tbc v C t D1), mv_hp h0 I) := by
  have e3 := hV.2.1
  have hC4 := hV.2.2.2.1
  unfold F_X5_carriersIn
  rw [li0]
  have key := mv_it_go (L := fun n c s => Lp_X5_carriersIn_5 r t (nI D1) n (nI s) (nI c) (mv_hp h0 I)) (fun c s => if decide (mv_tc v C c D1 = t) then s ||| 2 ^ c else s) (fun s => some (nI s, mv_hp h0 I)) C 0 (by omega)
    (fun n c s hc => by
      rw [Lp_X5_carriersIn_5]
      unfold J_X5_carriersIn_32
      rw [ro_gI hR, hW.1.1, e3, ev_f (nI_ge hc (by omega)), ro_rc hR, ro_townOf' hR hW hV (by omega) hD]
      by_cases ht : mv_tc v C c D1 = t
      · rw [ev_t ht, ev_bpu, li1, show nI 1 <<< (nI c &&& 31) = nI (2 ^ c) by rw [li31, mv_and, mv_shl (by omega)], mv_or, nI_add]; simp [ht]
      · rw [ev_f ht, li1, nI_add]; simp [ht])
    (fun n s => by
      rw [Lp_X5_carriersIn_5, ro_gI hR, hW.1.1, e3, ev_t (nI_le (Nat.le_refl _) (by omega))]
      rfl)
  exact key.trans (by rw [mv_it_bits]; rfl)
theorem ro_carriersIn' (hR : mv_RS h0 r) (hW : mv_RV h0 I r v C B) (hV : mv_VV v C B D) {t : Int32} {D1 : Nat} {g : Int32 → mv_M β} (hD : D1 < 2 ^ 30) : mv_bd (F_X5_carriersIn r t (nI D1)) g (mv_hp h0 I) = g (nI (mv_tbc v C t D1)) (mv_hp h0 I) := ev_bd (ro_carriersIn hR hW hV hD)
theorem ro_bundleAt (hR : mv_RS h0 r) (hW : mv_RV h0 I r v C B) (hV : mv_VV v C B D) {b : Nat} (hb : b < B) : F_X5_bundleAt r (nI b) (mv_hp h0 I) = some (some (mv_bi h0 r b), mv_hp h0 I) := by
  have e4 := hV.2.2.1
  have hB8 := hV.2.2.2.2.1
  unfold F_X5_bundleAt J_X5_bundleAt_26
  rw [ev_f (nI_pos (by omega)), ro_gI hR, hW.1.2.1, e4, ev_f (nI_ge hb (by omega)), ro_g2 hR, ro_l3 hR, ev_f (nI_ge (by omega) (by omega)), ev_f (by decide), ro_g2 hR, ro_a3 hR (by omega)]
  rfl
theorem ro_bundleAt' (hR : mv_RS h0 r) (hW : mv_RV h0 I r v C B) (hV : mv_VV v C B D) {b : Nat} {g : Option Nat → mv_M β} (hb : b < B) : mv_bd (F_X5_bundleAt r (nI b)) g (mv_hp h0 I) = g (some (mv_bi h0 r b)) (mv_hp h0 I) := ev_bd (ro_bundleAt hR hW hV hb)
/-- no such bundle: below 0, or from B on -/
theorem ro_bundleNo (hR : mv_RS h0 r) (hW : mv_RV h0 I r v C B) (hV : mv_VV v C B D) {x : Int32} (hx : x < 0 ∨ nI B ≤ x) : F_X5_bundleAt r x (mv_hp h0 I) = some (none, mv_hp h0 I) := by
  have e4 := hV.2.2.1
  unfold F_X5_bundleAt J_X5_bundleAt_25 J_X5_bundleAt_26
  by_cases h1 : x < 0
  · rw [ev_t h1, ev_t rfl]; rfl
  · have h2 : nI B ≤ x := hx.resolve_left h1
    rw [ev_f h1, ro_gI hR, hW.1.2.1, e4, ev_t h2, ev_t rfl]; rfl
theorem ro_carrierAt (hR : mv_RS h0 r) (hW : mv_RV h0 I r v C B) (hV : mv_VV v C B D) {c : Nat} (hc : c < C) : F_X5_carrierAt r (nI c) (mv_hp h0 I) = some (some (r + 4 + 2 * c), mv_hp h0 I) := by
  have e3 := hV.2.1
  have hC4 := hV.2.2.2.1
  unfold F_X5_carrierAt J_X5_carrierAt_26
  rw [ev_f (nI_pos (by omega)), ro_gI hR, hW.1.1, e3, ev_f (nI_ge hc (by omega)), ro_g1 hR, ro_l2 hR, ev_f (nI_ge (by omega) (by omega)), ev_f (by decide), ro_g1 hR, ro_a2 hR (by omega)]
  rfl
theorem ro_carrierAt' (hR : mv_RS h0 r) (hW : mv_RV h0 I r v C B) (hV : mv_VV v C B D) {c : Nat} {g : Option Nat → mv_M β} (hc : c < C) : mv_bd (F_X5_carrierAt r (nI c)) g (mv_hp h0 I) = g (some (r + 4 + 2 * c)) (mv_hp h0 I) := ev_bd (ro_carrierAt hR hW hV hc)
theorem ro_carrierNo (hR : mv_RS h0 r) (hW : mv_RV h0 I r v C B) (hV : mv_VV v C B D) {x : Int32} (hx : x < 0 ∨ nI C ≤ x) : F_X5_carrierAt r x (mv_hp h0 I) = some (none, mv_hp h0 I) := by
  have e3 := hV.2.1
  unfold F_X5_carrierAt J_X5_carrierAt_25 J_X5_carrierAt_26
  by_cases h1 : x < 0
  · rw [ev_t h1, ev_t rfl]; rfl
  · have h2 : nI C ≤ x := hx.resolve_left h1
    rw [ev_f h1, ro_gI hR, hW.1.1, e3, ev_t h2, ev_t rfl]; rfl
theorem mv_dn_eq {w c : Nat} (hw : w < 2 ^ 30) (hc : c < 2 ^ 30) : mv_dn (nI w) = nI c ↔ nI w = nI (c + 1) := by
  cases w with
  | zero =>
    rw [mv_dn0, mv_eq (by omega) (by omega)]
    exact ⟨fun e => absurd e.symm (mv_n4_ne (by omega)), fun e => by omega⟩
  | succ w => rw [mv_dns (by omega), mv_eq (by omega) (by omega), mv_eq (by omega) (by omega)]; omega
theorem mv_dn_n4 {w : Nat} (hw : w < 2 ^ 30) : mv_dn (nI w) = mv_n4 ↔ w = 0 := by
  cases w with
  | zero => exact ⟨fun _ => rfl, fun _ => mv_dn0⟩
  | succ w => rw [mv_dns (by omega)]; exact ⟨fun e => absurd e (mv_n4_ne (by omega)), fun e => by omega⟩
theorem ro_bundlesWith (hR : mv_RS h0 r) (hW : mv_RV h0 I r v C B) (hV : mv_VV v C B D) {c : Nat} (hc : c < 2 ^ 30) : F_X5_bundlesWith r (nI c) (mv_hp h0 I) = some (mv_hs v B c, mv_hp h0 I) := by
  have e4 := hV.2.2.1
  have hC4 := hV.2.2.2.1
  have hB8 := hV.2.2.2.2.1
  unfold F_X5_bundlesWith
  rw [li0]
  exact mv_it_go (L := fun n b s => Lp_X5_bundlesWith_4 r (nI c) n s (nI b) (mv_hp h0 I)) (fun b n => n + (if v (64 + 8 * b + 2) = nI (c + 1) then nI 1 else nI 0)) (fun s => some (s, mv_hp h0 I)) B (nI 0) (by omega)
    (fun n b s hb => by
      obtain ⟨-, ⟨l, w, a, q1, q2, q3, q4, q5, q6, q7⟩, -⟩ := hV.2.2.2.2.2.2.2 b hb
      rw [Lp_X5_bundlesWith_4]
      unfold J_X5_bundlesWith_36
      rw [ro_gI hR, hW.1.2.1, e4, ev_f (nI_ge hb (by omega)), ro_rc hR, ro_bundleAt' hR hW hV hb, ev_f (by simp), ro_bI hR (by omega), (hW.2.2.2 b hb).2.2.1, q5, li1, nI_add]
      by_cases h : nI w = nI (c + 1)
      · rw [ev_t ((mv_dn_eq (by omega) hc).mpr h), if_pos h]
      · rw [ev_f (fun z => h ((mv_dn_eq (by omega) hc).mp z)), if_neg h, show s + nI 0 = s from Int32.add_zero s])
    (fun n s => by
      rw [Lp_X5_bundlesWith_4, ro_gI hR, hW.1.2.1, e4, ev_t (nI_le (Nat.le_refl _) (by omega))]; rfl)
theorem ro_bundlesWith' (hR : mv_RS h0 r) (hW : mv_RV h0 I r v C B) (hV : mv_VV v C B D) {c : Nat} {g : Int32 → mv_M β} (hc : c < 2 ^ 30) : mv_bd (F_X5_bundlesWith r (nI c)) g (mv_hp h0 I) = g (mv_hs v B c) (mv_hp h0 I) := ev_bd (ro_bundlesWith hR hW hV hc)
def mv_ful (v : Nat → Int32) (B c : Nat) : Int32 := if mv_hs v B c < v 1 then nI 0 else nI 1
theorem ro_isFull' (hR : mv_RS h0 r) (hW : mv_RV h0 I r v C B) (hV : mv_VV v C B D) {c : Nat} {g : Int32 → mv_M β} (hc : c < 2 ^ 30) : mv_bd (F_X5_isFull r (nI c)) g (mv_hp h0 I) = g (mv_ful v B c) (mv_hp h0 I) := ev_bd (by
  unfold F_X5_isFull J_X5_isFull_17 mv_ful
  rw [ro_rc hR, ro_bundlesWith' hR hW hV hc, ro_gI hR, hW.1.2.2.2.1, ev_ite, ev_rz (Or.inl rfl : (0 : Int32) = 0 ∨ (0 : Int32) = 1), ev_rz (Or.inr rfl : (1 : Int32) = 0 ∨ (1 : Int32) = 1)]
  split <;> rfl)
theorem ro_illToday (hR : mv_RS h0 r) (hW : mv_RV h0 I r v C B) (hV : mv_VV v C B D) (hD : D < 100000) (hn : ∀ c, c < C → (mv_tc v C c D = mv_n1 ↔ mv_tw v c D = mv_n4)) : F_X5_illToday r (mv_hp h0 I) = some (mv_io v C D, mv_hp h0 I) := by
  have e3 := hV.2.1
  have hC4 := hV.2.2.2.1
  unfold F_X5_illToday
  rw [li0]
  exact mv_it_go (L := fun n b s => Lp_X5_illToday_4 r n s (nI b) (mv_hp h0 I)) (fun c n => n + (if mv_tw v c D = mv_n4 then nI 1 else nI 0)) (fun s => some (s, mv_hp h0 I)) C (nI 0) (by omega)
    (fun n c s hc => by
      rw [Lp_X5_illToday_4]
      unfold J_X5_illToday_28
      rw [ro_gI hR, hW.1.1, e3, ev_f (nI_ge hc (by omega)), ro_gI hR, hW.1.2.2.1, hV.1, ro_rc hR, ro_townOf' hR hW hV (by omega) (by omega), li1, nI_add, show -nI 1 = mv_n1 from rfl]
      by_cases h : mv_tw v c D = mv_n4
      · rw [ev_t ((hn c hc).mpr h), if_pos h]
      · rw [ev_f (fun z => h ((hn c hc).mp z)), if_neg h, show s + nI 0 = s from Int32.add_zero s])
    (fun n s => by
      rw [Lp_X5_illToday_4, ro_gI hR, hW.1.1, e3, ev_t (nI_le (Nat.le_refl _) (by omega))]; rfl)
theorem mv_bb_1 {w : Nat} (hw : w < 2 ^ 30) : (if nI w ≤ nI 0 then nI 0 else nI 1) = if mv_dn (nI w) = mv_n4 then nI 0 else nI 1 := by
  by_cases h : w = 0
  · subst h; rw [if_pos (nI_le (Nat.le_refl _) (by omega)), if_pos mv_dn0]
  · rw [if_neg (nI_ge (by omega) (by omega)), if_neg (fun z => h ((mv_dn_n4 hw).mp z))]
theorem ro_lying (hR : mv_RS h0 r) (hW : mv_RV h0 I r v C B) (hV : mv_VV v C B D) : F_X5_lyingBundles r (mv_hp h0 I) = some (mv_bb v B 1, mv_hp h0 I) := by
  have e4 := hV.2.2.1
  have hB8 := hV.2.2.2.2.1
  unfold F_X5_lyingBundles
  rw [li0]
  exact mv_it_go (L := fun n b s => Lp_X5_lyingBundles_4 r n s (nI b) (mv_hp h0 I)) (fun b n => n + (if v (64 + 8 * b + 1) ≤ nI 0 then nI 0 else nI 1)) (fun s => some (s, mv_hp h0 I)) B (nI 0) (by omega)
    (fun n b s hb => by
      obtain ⟨-, ⟨l, w, a, q1, q2, q3, q4, q5, q6, q7⟩, -⟩ := hV.2.2.2.2.2.2.2 b hb
      rw [Lp_X5_lyingBundles_4]
      unfold J_X5_lyingBundles_34
      rw [ro_gI hR, hW.1.2.1, e4, ev_f (nI_ge hb (by omega)), ro_rc hR, ro_bundleAt' hR hW hV hb, ev_f (by simp), ro_bI hR (by omega), (hW.2.2.2 b hb).2.1, q4, li1, nI_add, mv_bb_1 (by omega), li4, lin4]
      by_cases h : mv_dn (nI l) = mv_n4
      · rw [ev_t h, if_pos h, show s + nI 0 = s from Int32.add_zero s]
      · rw [ev_f h, if_neg h])
    (fun n s => by
      rw [Lp_X5_lyingBundles_4, ro_gI hR, hW.1.2.1, e4, ev_t (nI_le (Nat.le_refl _) (by omega))]; rfl)
theorem ro_arrived (hR : mv_RS h0 r) (hW : mv_RV h0 I r v C B) (hV : mv_VV v C B D) (hD : D < 100000) : F_X5_arrivedBundles r (mv_hp h0 I) = some (mv_bb v B 3, mv_hp h0 I) := by
  have e4 := hV.2.2.1
  have hB8 := hV.2.2.2.2.1
  unfold F_X5_arrivedBundles
  rw [li0]
  exact mv_it_go (L := fun n b s => Lp_X5_arrivedBundles_4 r n s (nI b) (mv_hp h0 I)) (fun b n => n + (if v (64 + 8 * b + 3) ≤ nI 0 then nI 0 else nI 1)) (fun s => some (s, mv_hp h0 I)) B (nI 0) (by omega)
    (fun n b s hb => by
      obtain ⟨-, ⟨l, w, a, q1, q2, q3, q4, q5, q6, q7⟩, -⟩ := hV.2.2.2.2.2.2.2 b hb
      rw [Lp_X5_arrivedBundles_4]
      unfold J_X5_arrivedBundles_34
      rw [ro_gI hR, hW.1.2.1, e4, ev_f (nI_ge hb (by omega)), ro_rc hR, ro_bundleAt' hR hW hV hb, ev_f (by simp), ro_bI hR (by omega), (hW.2.2.2 b hb).2.2.2.1, q6, li1, nI_add, mv_bb_1 (by omega), li4, lin4]
      by_cases h : mv_dn (nI a) = mv_n4
      · rw [ev_t h, if_pos h, show s + nI 0 = s from Int32.add_zero s]
      · rw [ev_f h, if_neg h])
    (fun n s => by
      rw [Lp_X5_arrivedBundles_4, ro_gI hR, hW.1.2.1, e4, ev_t (nI_le (Nat.le_refl _) (by omega))]; rfl)
theorem ro_broken (hR : mv_RS h0 r) (hW : mv_RV h0 I r v C B) (hV : mv_VV v C B D) : F_X5_brokenBundles r (mv_hp h0 I) = some (mv_bb v B 5, mv_hp h0 I) := by
  have e4 := hV.2.2.1
  have hB8 := hV.2.2.2.2.1
  unfold F_X5_brokenBundles
  rw [li0]
  exact mv_it_go (L := fun n b s => Lp_X5_brokenBundles_4 r n s (nI b) (mv_hp h0 I)) (fun b n => n + (if v (64 + 8 * b + 5) ≤ nI 0 then nI 0 else nI 1)) (fun s => some (s, mv_hp h0 I)) B (nI 0) (by omega)
    (fun n b s hb => by
      obtain ⟨-, -, p5⟩ := hV.2.2.2.2.2.2.2 b hb
      rw [Lp_X5_brokenBundles_4]
      unfold J_X5_brokenBundles_32
      rw [ro_gI hR, hW.1.2.1, e4, ev_f (nI_ge hb (by omega)), ro_rc hR, ro_bundleAt' hR hW hV hb, ev_f (by simp), ro_bI hR (by omega), (hW.2.2.2 b hb).2.2.2.2.2.1, li1, nI_add]
      rcases p5 with p5 | p5
      · rw [p5, ev_t (show nI 0 = (0 : Int32) from rfl), if_pos (by decide), show s + nI 0 = s from Int32.add_zero s]
      · rw [p5, ev_f (by decide), if_neg (by decide)])
    (fun n s => by
      rw [Lp_X5_brokenBundles_4, ro_gI hR, hW.1.2.1, e4, ev_t (nI_le (Nat.le_refl _) (by omega))]; rfl)
end C1
