theorem mv_and (a b : Nat) : nI a &&& nI b = nI (a &&& b) := by
  apply Int32.toBitVec_inj.1
  show BitVec.ofNat 32 a &&& BitVec.ofNat 32 b = BitVec.ofNat 32 (a &&& b)
  apply BitVec.eq_of_getLsbD_eq
  intro i hi
  simp [hi]
theorem mv_or (a b : Nat) : nI a ||| nI b = nI (a ||| b) := by
  apply Int32.toBitVec_inj.1
  show BitVec.ofNat 32 a ||| BitVec.ofNat 32 b = BitVec.ofNat 32 (a ||| b)
  apply BitVec.eq_of_getLsbD_eq
  intro i hi
  simp [hi]
theorem mv_shl {c : Nat} (h : c < 8) : nI 1 <<< nI (c &&& 31) = nI (2 ^ c) := by
  rcases (show c = 0 ∨ c = 1 ∨ c = 2 ∨ c = 3 ∨ c = 4 ∨ c = 5 ∨ c = 6 ∨ c = 7 by omega) with rfl | rfl | rfl | rfl | rfl | rfl | rfl | rfl <;> rfl
theorem mv_le {a b : Nat} (ha : a < 2 ^ 31) (hb : b < 2 ^ 31) : nI a ≤ nI b ↔ a ≤ b := nI_leI ha hb
theorem mv_lt {a b : Nat} (ha : a < 2 ^ 31) (hb : b < 2 ^ 31) : nI a < nI b ↔ a < b := nI_ltI ha hb
theorem mv_eq {a b : Nat} (ha : a < 2 ^ 31) (hb : b < 2 ^ 31) : nI a = nI b ↔ a = b := nI_eq ha hb
theorem mv_lt0 {a : Nat} (ha : a < 2 ^ 31) : nI a < 0 ↔ False := ⟨fun h => nI_pos ha h, False.elim⟩
theorem mv_le0 {a : Nat} (ha : a < 2 ^ 31) : nI a ≤ 0 ↔ a = 0 := by rw [show (0 : Int32) = nI 0 from rfl, mv_le ha (by omega)]; omega
theorem mv_eq0 {a : Nat} (ha : a < 2 ^ 31) : nI a = 0 ↔ a = 0 := by rw [show (0 : Int32) = nI 0 from rfl, mv_eq ha (by omega)]
theorem mv_ix64 (b w : Nat) : (64 : Int32) + (8 : Int32) * nI b + nI w = nI (64 + 8 * b + w) := by rw [li64, li8, pk_mul, nI_add, nI_add]
theorem mv_ix16 (b w : Nat) : (16 : Int32) + (12 : Int32) * nI b + nI w = nI (16 + 12 * b + w) := by rw [li16, li12, pk_mul, nI_add, nI_add]
/-- a set of the carriers c < n with f c, a bit for each -/
def mv_bits (f : Nat → Bool) : Nat → Nat
  | 0 => 0
  | n + 1 => if f n then mv_bits f n ||| 2 ^ n else mv_bits f n
theorem mv_bits_test (f : Nat → Bool) : ∀ n k, (mv_bits f n).testBit k = (decide (k < n) && f k)
  | 0, k => by simp [mv_bits]
  | n + 1, k => by
    unfold mv_bits
    by_cases hk : k = n
    · subst hk
      by_cases h : f k = true
      · simp [h, mv_bits_test f k k]
      · simp [h, mv_bits_test f k k]
    · have e : decide (k < n + 1) = decide (k < n) := by
        by_cases h : k < n
        · simp [h, Nat.lt_succ_of_lt h]
        · have : ¬ k < n + 1 := by omega
          simp [h, this]
      by_cases h : f n = true
      · simp only [h, if_true, Nat.testBit_or, mv_bits_test f n k, e, Nat.testBit_two_pow]
        have : ¬ n = k := fun z => hk z.symm
        simp [this]
      · simp [h, mv_bits_test f n k, e]
theorem mv_bits_lt (f : Nat → Bool) : ∀ n, mv_bits f n < 2 ^ n
  | 0 => by simp [mv_bits]
  | n + 1 => by
    unfold mv_bits
    have h := mv_bits_lt f n
    have e : 2 ^ (n + 1) = 2 ^ n + 2 ^ n := by rw [Nat.pow_succ]; omega
    split
    · exact Nat.or_lt_two_pow (by omega) (by rw [e]; have : 0 < 2 ^ n := Nat.two_pow_pos n; omega)
    · omega
theorem mv_it_bits (f : Nat → Bool) : ∀ n, mv_it (fun c s => if f c then s ||| 2 ^ c else s) n 0 0 = mv_bits f n
  | 0 => rfl
  | n + 1 => by rw [mv_it_last, mv_it_bits f n, Nat.zero_add]; rfl
/-- the town of a carrier on a day; the stall; who is there -/
def mv_tw (v : Nat → Int32) (c D : Nat) : Int32 := if v (16 + 12 * c + 9) ≤ nI D then v (16 + 12 * c + (1 + D % (v (16 + 12 * c + 0)).toNatClampNeg)) else mv_n4
def mv_sw (v : Nat → Int32) (D : Nat) : Int32 := v (9 + D % 7)
def mv_tb (v : Nat → Int32) (C : Nat) (t : Int32) (D : Nat) : Nat := mv_bits (fun c => decide (mv_tw v c D = t)) C
/-- tours of 1 to 7 towns -/
def mv_VC (v : Nat → Int32) (C : Nat) : Prop := ∀ c, c < C → ∃ n, 1 ≤ n ∧ n ≤ 7 ∧ v (16 + 12 * c + 0) = nI n ∧ ∀ j, j < n → ∃ t, t ≤ 5 ∧ v (16 + 12 * c + (1 + j)) = nI t
theorem ev_t {α : Type} {p : Prop} [Decidable p] {f g : mv_M α} {h : mv_Hp} (q : p) : (if p then f else g) h = f h := by rw [if_pos q]
theorem ev_f {α : Type} {p : Prop} [Decidable p] {f g : mv_M α} {h : mv_Hp} (q : ¬ p) : (if p then f else g) h = g h := by rw [if_neg q]
section M1
variable {h0 : mv_Hp} {I : Nat → Nat → Int32} {C : Nat} {β : Type}
theorem mo_of (hM : mv_MS h0) {b w : Nat} (hb : 64 + 8 * b + w < 128) : F_X7_of 147 (nI b) (nI w) (mv_hp h0 I) = some (I 148 (64 + 8 * b + w), mv_hp h0 I) := by
  unfold F_X7_of
  rw [mo_g0 hM, mv_ix64, mo_r148 hM hb, ev_pu]
theorem mo_of' (hM : mv_MS h0) {b w : Nat} {g : Int32 → mv_M β} (hb : 64 + 8 * b + w < 128) : mv_bd (F_X7_of 147 (nI b) (nI w)) g (mv_hp h0 I) = g (I 148 (64 + 8 * b + w)) (mv_hp h0 I) := ev_bd (mo_of hM hb)
theorem mo_ofC (hM : mv_MS h0) {c w : Nat} (hb : 16 + 12 * c + w < 128) : F_X7_ofCarrier 147 (nI c) (nI w) (mv_hp h0 I) = some (I 148 (16 + 12 * c + w), mv_hp h0 I) := by
  unfold F_X7_ofCarrier
  rw [mo_g0 hM, mv_ix16, mo_r148 hM hb, ev_pu]
theorem mo_ofC' (hM : mv_MS h0) {c w : Nat} {g : Int32 → mv_M β} (hb : 16 + 12 * c + w < 128) : mv_bd (F_X7_ofCarrier 147 (nI c) (nI w)) g (mv_hp h0 I) = g (I 148 (16 + 12 * c + w)) (mv_hp h0 I) := ev_bd (mo_ofC hM hb)
theorem mo_lays' (hM : mv_MS h0) {b w : Nat} {x : Int32} {g : Unit → mv_M β} (hb : 64 + 8 * b + w < 128) : mv_bd (F_X7_lays 147 (nI b) (nI w) x) g (mv_hp h0 I) = g () (mv_hp h0 (mv_si I 148 (mv_vu (I 148) (64 + 8 * b + w) x))) := ev_bd (by
  unfold F_X7_lays
  rw [mo_g0 hM, mv_ix64, mo_w148 hM hb, ev_pu])
theorem mo_addsC' (hM : mv_MS h0) {c w : Nat} {x : Int32} {g : Unit → mv_M β} (hb : 16 + 12 * c + w < 128) : mv_bd (F_X7_addsCarrier 147 (nI c) (nI w) x) g (mv_hp h0 I) = g () (mv_hp h0 (mv_si I 148 (mv_vu (I 148) (16 + 12 * c + w) (I 148 (16 + 12 * c + w) + x)))) := ev_bd (by
  unfold F_X7_addsCarrier
  rw [mo_g0 hM, mv_ix16, mo_r148 hM hb, mo_w148 hM hb, ev_pu])
theorem mo_stallOn (hM : mv_MS h0) {D : Nat} (hD : D < 2 ^ 30) : F_X7_stallOn 147 (nI D) (mv_hp h0 I) = some (mv_sw (I 148) D, mv_hp h0 I) := by
  unfold F_X7_stallOn
  have h7 : D % 7 < 7 := Nat.mod_lt _ (by decide)
  rw [mo_g0 hM, li7, ev_rm (by omega) (by decide) (by decide), li9, nI_add, mo_r148 hM (by omega), ev_pu]
  rfl
theorem mo_stallOn' (hM : mv_MS h0) {D : Nat} {g : Int32 → mv_M β} (hD : D < 2 ^ 30) : mv_bd (F_X7_stallOn 147 (nI D)) g (mv_hp h0 I) = g (mv_sw (I 148) D) (mv_hp h0 I) := ev_bd (mo_stallOn hM hD)
theorem mo_townOf (hM : mv_MS h0) (hV : mv_VC (I 148) C) (hC4 : C ≤ 4) {c D : Nat} (hc : c < C) (hD : D < 2 ^ 30) : F_X7_townOf 147 (nI c) (nI D) (mv_hp h0 I) = some (mv_tw (I 148) c D, mv_hp h0 I) := by
  obtain ⟨n, hn1, hn7, hl, -⟩ := hV c hc
  unfold F_X7_townOf J_X7_townOf_31
  have hm : D % n < n := Nat.mod_lt _ (by omega)
  rw [mo_rc hM, li9, mo_ofC' hM (by omega), ev_ite, mo_rc hM, li0, mo_ofC' hM (by omega), hl, ev_rm (by omega) (by omega) (by omega), mo_rc hM, li1, nI_add, mo_ofC' hM (by omega), ev_pu, ev_pu]
  unfold mv_tw
  rw [hl, nI_clamp (by omega)]
  split <;> rfl
theorem mo_townOf' (hM : mv_MS h0) (hV : mv_VC (I 148) C) (hC4 : C ≤ 4) {c D : Nat} {g : Int32 → mv_M β} (hc : c < C) (hD : D < 2 ^ 30) : mv_bd (F_X7_townOf 147 (nI c) (nI D)) g (mv_hp h0 I) = g (mv_tw (I 148) c D) (mv_hp h0 I) := ev_bd (mo_townOf hM hV hC4 hc hD)
theorem mo_thereOn (hM : mv_MS h0) (hV : mv_VC (I 148) C) (hC4 : C ≤ 4) (hC : I 148 3 = nI C) {t : Int32} {D : Nat} (hD : D < 2 ^ 30) : F_X7_thereOn 147 t (nI D) (mv_hp h0 I) = some (nI (mv_tb (I 148) C t D), mv_hp h0 I) := by
  unfold F_X7_thereOn
  rw [li0]
  have key := mv_it_go (L := fun n c s => Lp_X7_thereOn_5 147 t (nI D) n (nI s) (nI c) (mv_hp h0 I)) (fun c s => if decide (mv_tw (I 148) c D = t) then s ||| 2 ^ c else s) (fun s => some (nI s, mv_hp h0 I)) C 0 (by omega)
    (fun n c s hc => by
      rw [Lp_X7_thereOn_5]
      unfold J_X7_thereOn_36
      simp (disch := first | assumption | omega) only [li0, li1, li2, li3, li4, li5, li6, li7, li8, li9, li10, li11, li12, li13, li14, li15, li16, li17, li18, li19, li30, li31, li33, li39, li40, li41, li42, li43, li44, li45, li46, li47, li48, li49, li50, li51, li52, li53, li54, li55, li56, li57, li58, li59, li60, li61, li62, li64, li126, li128, li300, li384, li421, li512, li1000, li1663, li9999, li10000, li1000000, li2147483647, lin1, lin2, lin3, lin4, mo_rc hM, mo_gI hM, mo_sI hM, mo_g0 hM, mo_g1 hM, mo_g2 hM, mo_g4 hM, mo_g6 hM, mo_g11 hM, mo_r148 hM, mo_r149 hM, mo_r150 hM, mo_r151 hM, mo_r152 hM, mo_r153 hM, mo_w148 hM, mo_w149 hM, mo_w150 hM, mo_w151 hM, mo_w152 hM, mo_w153 hM, ev_pu, ev_bpu, ev_ite, nI_add, pk_mul, mv_le, mv_lt, mv_eq, mv_lt0, mv_le0, mv_eq0, mv_or, mv_and, hC, mo_townOf' hM hV hC4, mv_shl]
      rw [if_neg (by omega)]
      by_cases ht : mv_tw (I 148) c D = t
      · simp [ht]
      · simp [ht])
    (fun n s => by
      rw [Lp_X7_thereOn_5]
      simp (disch := first | assumption | omega) only [li0, li1, li2, li3, li4, li5, li6, li7, li8, li9, li10, li11, li12, li13, li14, li15, li16, li17, li18, li19, li30, li31, li33, li39, li40, li41, li42, li43, li44, li45, li46, li47, li48, li49, li50, li51, li52, li53, li54, li55, li56, li57, li58, li59, li60, li61, li62, li64, li126, li128, li300, li384, li421, li512, li1000, li1663, li9999, li10000, li1000000, li2147483647, lin1, lin2, lin3, lin4, mo_rc hM, mo_gI hM, mo_sI hM, mo_g0 hM, mo_g1 hM, mo_g2 hM, mo_g4 hM, mo_g6 hM, mo_g11 hM, mo_r148 hM, mo_r149 hM, mo_r150 hM, mo_r151 hM, mo_r152 hM, mo_r153 hM, mo_w148 hM, mo_w149 hM, mo_w150 hM, mo_w151 hM, mo_w152 hM, mo_w153 hM, ev_pu, ev_bpu, ev_ite, nI_add, pk_mul, mv_le, mv_lt, mv_eq, mv_lt0, mv_le0, mv_eq0, mv_or, mv_and, hC]
      rw [if_pos (Nat.le_refl _)])
  exact key.trans (by rw [mv_it_bits]; rfl)
theorem mo_thereOn' (hM : mv_MS h0) (hV : mv_VC (I 148) C) (hC4 : C ≤ 4) (hC : I 148 3 = nI C) {t : Int32} {D : Nat} {g : Int32 → mv_M β} (hD : D < 2 ^ 30) : mv_bd (F_X7_thereOn 147 t (nI D)) g (mv_hp h0 I) = g (nI (mv_tb (I 148) C t D)) (mv_hp h0 I) := ev_bd (mo_thereOn hM hV hC4 hC hD)
/-- the arrival, day by day: of a set of carriers S behind day D -/
def mv_st1 (v : Nat → Int32) (C : Nat) (lies : Int32) (S D : Nat) : Nat :=
  (S ||| (if S &&& mv_tb v C (mv_sw v D) D = 0 then 0 else mv_tb v C (mv_sw v D) D)) ||| (if lies < nI 0 then 0 else mv_tb v C lies D)
def mv_AR (v : Nat → Int32) (C : Nat) (to lies : Int32) : Nat → Nat → Nat → Nat
  | 0, _, _ => 1000000
  | n + 1, S, D => if S &&& mv_tb v C to (D + 1) = 0 then mv_AR v C to lies n (mv_st1 v C lies S (D + 1)) (D + 1) else D + 1
theorem mv_tb_lt {v : Nat → Int32} {C D : Nat} {t : Int32} (hC4 : C ≤ 4) : mv_tb v C t D < 16 := Nat.lt_of_lt_of_le (mv_bits_lt _ C) (Nat.pow_le_pow_right (by decide) hC4 : 2 ^ C ≤ 2 ^ 4)
theorem mv_st1_lt {v : Nat → Int32} {C D S : Nat} {lies : Int32} (hC4 : C ≤ 4) (hS : S < 16) : mv_st1 v C lies S D < 16 := by
  unfold mv_st1
  have h1 := mv_tb_lt (v := v) (D := D) (t := mv_sw v D) hC4
  have h2 := mv_tb_lt (v := v) (D := D) (t := lies) hC4
  exact Nat.or_lt_two_pow (n := 4) (Nat.or_lt_two_pow (n := 4) hS (by split <;> omega)) (by split <;> omega)
theorem mo_arrLoop (hM : mv_MS h0) (hV : mv_VC (I 148) C) (hC4 : C ≤ 4) (hC : I 148 3 = nI C) {to lies : Int32} {D0 : Nat} (hD0 : D0 < 100000) : ∀ (k n S D : Nat), D + k = D0 + 30 → k + 1 < n → S < 16 → Lp_X7_arrivalOf_13 147 to lies (nI D0) n (nI 1000000) (nI S) (nI (D + 1)) (mv_hp h0 I) = some (nI (mv_AR (I 148) C to lies k S D), mv_hp h0 I) := by
  intro k
  induction k with
  | zero =>
    intro n S D hD hn hS
    obtain ⟨n, rfl⟩ := Nat.exists_eq_succ_of_ne_zero (show n ≠ 0 by omega)
    rw [Lp_X7_arrivalOf_13]
    unfold J_X7_arrivalOf_106
    simp (disch := first | assumption | omega) only [li0, li1, li2, li3, li4, li5, li6, li7, li8, li9, li10, li11, li12, li13, li14, li15, li16, li17, li18, li19, li30, li31, li33, li39, li40, li41, li42, li43, li44, li45, li46, li47, li48, li49, li50, li51, li52, li53, li54, li55, li56, li57, li58, li59, li60, li61, li62, li64, li126, li128, li300, li384, li421, li512, li1000, li1663, li9999, li10000, li1000000, li2147483647, lin1, lin2, lin3, lin4, mo_rc hM, mo_gI hM, mo_sI hM, mo_g0 hM, mo_g1 hM, mo_g2 hM, mo_g4 hM, mo_g6 hM, mo_g11 hM, mo_r148 hM, mo_r149 hM, mo_r150 hM, mo_r151 hM, mo_r152 hM, mo_r153 hM, mo_w148 hM, mo_w149 hM, mo_w150 hM, mo_w151 hM, mo_w152 hM, mo_w153 hM, ev_pu, ev_bpu, ev_ite, nI_add, pk_mul, mv_le, mv_lt, mv_eq, mv_lt0, mv_le0, mv_eq0, mv_or, mv_and]
    rw [if_pos (by omega)]
    rfl
  | succ k ih =>
    intro n S D hD hn hS
    obtain ⟨n, rfl⟩ := Nat.exists_eq_succ_of_ne_zero (show n ≠ 0 by omega)
    obtain ⟨n, rfl⟩ := Nat.exists_eq_succ_of_ne_zero (show n ≠ 0 by omega)
    rw [Lp_X7_arrivalOf_13]
    have q1 := mv_tb_lt (v := I 148) (D := D + 1) (t := to) hC4
    have q2 := mv_tb_lt (v := I 148) (D := D + 1) (t := mv_sw (I 148) (D + 1)) hC4
    have q3 : S &&& mv_tb (I 148) C to (D + 1) ≤ S := Nat.and_le_left
    have q4 : S &&& mv_tb (I 148) C (mv_sw (I 148) (D + 1)) (D + 1) ≤ S := Nat.and_le_left
    unfold J_X7_arrivalOf_47 J_X7_arrivalOf_77 J_X7_arrivalOf_97
    simp (disch := first | assumption | omega) only [li0, li1, li2, li3, li4, li5, li6, li7, li8, li9, li10, li11, li12, li13, li14, li15, li16, li17, li18, li19, li30, li31, li33, li39, li40, li41, li42, li43, li44, li45, li46, li47, li48, li49, li50, li51, li52, li53, li54, li55, li56, li57, li58, li59, li60, li61, li62, li64, li126, li128, li300, li384, li421, li512, li1000, li1663, li9999, li10000, li1000000, li2147483647, lin1, lin2, lin3, lin4, mo_rc hM, mo_gI hM, mo_sI hM, mo_g0 hM, mo_g1 hM, mo_g2 hM, mo_g4 hM, mo_g6 hM, mo_g11 hM, mo_r148 hM, mo_r149 hM, mo_r150 hM, mo_r151 hM, mo_r152 hM, mo_r153 hM, mo_w148 hM, mo_w149 hM, mo_w150 hM, mo_w151 hM, mo_w152 hM, mo_w153 hM, ev_pu, ev_bpu, ev_ite, nI_add, pk_mul, mv_le, mv_lt, mv_eq, mv_lt0, mv_le0, mv_eq0, mv_or, mv_and, mo_thereOn' hM hV hC4 hC, mo_stallOn' hM]
    rw [if_neg (by omega), if_pos trivial]
    unfold mv_AR
    by_cases hz : S &&& mv_tb (I 148) C to (D + 1) = 0
    · rw [if_pos hz, if_pos hz]
      have e := ih (n + 1) (mv_st1 (I 148) C lies S (D + 1)) (D + 1) (by omega) (by omega) (mv_st1_lt hC4 hS)
      rw [← e]
      unfold mv_st1
      by_cases c1 : S &&& mv_tb (I 148) C (mv_sw (I 148) (D + 1)) (D + 1) = 0 <;> by_cases c2 : lies < nI 0 <;> simp [c1, c2]
    · rw [if_neg hz, if_neg hz]
      have e : ∀ S', Lp_X7_arrivalOf_13 147 to lies (nI D0) (n + 1) (nI (D + 1)) S' (nI (D + 1 + 1)) (mv_hp h0 I) = some (nI (D + 1), mv_hp h0 I) := by
        intro S'
        rw [Lp_X7_arrivalOf_13]
        unfold J_X7_arrivalOf_106
        simp (disch := first | assumption | omega) only [li0, li1, li2, li3, li4, li5, li6, li7, li8, li9, li10, li11, li12, li13, li14, li15, li16, li17, li18, li19, li30, li31, li33, li39, li40, li41, li42, li43, li44, li45, li46, li47, li48, li49, li50, li51, li52, li53, li54, li55, li56, li57, li58, li59, li60, li61, li62, li64, li126, li128, li300, li384, li421, li512, li1000, li1663, li9999, li10000, li1000000, li2147483647, lin1, lin2, lin3, lin4, mo_rc hM, mo_gI hM, mo_sI hM, mo_g0 hM, mo_g1 hM, mo_g2 hM, mo_g4 hM, mo_g6 hM, mo_g11 hM, mo_r148 hM, mo_r149 hM, mo_r150 hM, mo_r151 hM, mo_r152 hM, mo_r153 hM, mo_w148 hM, mo_w149 hM, mo_w150 hM, mo_w151 hM, mo_w152 hM, mo_w153 hM, ev_pu, ev_bpu, ev_ite, nI_add, pk_mul, mv_le, mv_lt, mv_eq, mv_lt0, mv_le0, mv_eq0, mv_or, mv_and]
        split
        · rfl
        · rw [if_neg (by omega)]
      split <;> split <;> exact e _
theorem mo_arrivalOf (hM : mv_MS h0) (hV : mv_VC (I 148) C) (hC4 : C ≤ 4) (hC : I 148 3 = nI C) {to lies : Int32} {D S : Nat} (hD : D < 100000) (hS : S < 16) : F_X7_arrivalOf 147 to lies (nI S) (nI D) (mv_hp h0 I) = some (nI (mv_AR (I 148) C to lies 30 S D), mv_hp h0 I) := by
  unfold F_X7_arrivalOf
  simp (disch := first | assumption | omega) only [li0, li1, li2, li3, li4, li5, li6, li7, li8, li9, li10, li11, li12, li13, li14, li15, li16, li17, li18, li19, li30, li31, li33, li39, li40, li41, li42, li43, li44, li45, li46, li47, li48, li49, li50, li51, li52, li53, li54, li55, li56, li57, li58, li59, li60, li61, li62, li64, li126, li128, li300, li384, li421, li512, li1000, li1663, li9999, li10000, li1000000, li2147483647, lin1, lin2, lin3, lin4, mo_rc hM, mo_gI hM, mo_sI hM, mo_g0 hM, mo_g1 hM, mo_g2 hM, mo_g4 hM, mo_g6 hM, mo_g11 hM, mo_r148 hM, mo_r149 hM, mo_r150 hM, mo_r151 hM, mo_r152 hM, mo_r153 hM, mo_w148 hM, mo_w149 hM, mo_w150 hM, mo_w151 hM, mo_w152 hM, mo_w153 hM, ev_pu, ev_bpu, ev_ite, nI_add, pk_mul, mv_le, mv_lt, mv_eq, mv_lt0, mv_le0, mv_eq0, mv_or, mv_and]
  exact mo_arrLoop hM hV hC4 hC hD 30 mv_FU S D rfl (by decide) hS
theorem mo_arrivalOf' (hM : mv_MS h0) (hV : mv_VC (I 148) C) (hC4 : C ≤ 4) (hC : I 148 3 = nI C) {to lies : Int32} {D S : Nat} {g : Int32 → mv_M β} (hD : D < 100000) (hS : S < 16) : mv_bd (F_X7_arrivalOf 147 to lies (nI S) (nI D)) g (mv_hp h0 I) = g (nI (mv_AR (I 148) C to lies 30 S D)) (mv_hp h0 I) := ev_bd (mo_arrivalOf hM hV hC4 hC hD hS)
end M1
