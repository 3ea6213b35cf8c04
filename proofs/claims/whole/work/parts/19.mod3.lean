def mv_rem (x y : Int32) : Int32 := x - x / y * y
theorem ev_rmc {β : Type} {x : Int32} {y : Nat} {g : Int32 → mv_M β} {h : mv_Hp} (h1 : 0 < y) (h2 : y < 2 ^ 31) : mv_bd (mv_rm x (nI y)) g h = g (mv_rem x (nI y)) h := by
  unfold mv_rm
  rw [if_neg (nI_ne0 h1 h2), ev_bpu]; rfl
theorem mv_AR_le (v : Nat → Int32) (C : Nat) (to lies : Int32) : ∀ (n S D : Nat), D + n ≤ 1000000 → mv_AR v C to lies n S D ≤ 1000000
  | 0, _, _, _ => Nat.le_refl _
  | n + 1, S, D, h => by
    unfold mv_AR
    split
    · exact mv_AR_le v C to lies n _ _ (by omega)
    · omega
/-- a bundle is posted: what the vector is then -/
def mv_pp (v : Nat → Int32) (C D f t : Nat) : Int32 := mv_oN (nI (mv_AR v C (nI t) (nI f) 30 0 D))
def mv_pv (v : Nat → Int32) (C B D f t : Nat) : Nat → Int32 :=
  mv_vu (mv_vu (mv_vu (mv_vu (mv_vu (mv_vu (mv_vu (mv_vu (mv_vu (mv_vu v (64 + 8 * B + 0) (nI t)) (64 + 8 * B + 1) (nI (f + 1))) (64 + 8 * B + 2) (nI 0)) (64 + 8 * B + 3) (nI 0)) (64 + 8 * B + 4) (mv_pp v C D f t)) (64 + 8 * B + 5) (nI 0)) (64 + 8 * B + 6) (nI 0)) (64 + 8 * B + 7) (nI D)) 4 (nI (B + 1))) 5 (v 5 + nI 1)
/-- a bundle changes hands -/
def mv_lo (v : Nat → Int32) : Int32 := mv_rem (nI 421 * v 2 + nI 1663) (nI 10000)
def mv_ch1 (v : Nat → Int32) (b c : Nat) : Nat → Int32 :=
  mv_vu (mv_vu (mv_vu (mv_vu (mv_vu (mv_vu v (64 + 8 * b + 1) (nI 0)) (64 + 8 * b + 2) (nI (c + 1))) (64 + 8 * b + 6) (v (64 + 8 * b + 6) + nI 1)) 8 (v 8 + nI 1)) (16 + 12 * c + 10) (v (16 + 12 * c + 10) + nI 1)) 2 (mv_lo v)
def mv_chg (v : Nat → Int32) (b c : Nat) : Nat → Int32 :=
  if v (16 + 12 * c + 8) ≤ mv_rem (mv_lo v) (nI 10) then mv_ch1 v b c
  else if v (64 + 8 * b + 5) = nI 0 then mv_vu (mv_vu (mv_ch1 v b c) (64 + 8 * b + 5) (nI 1)) (16 + 12 * c + 11) (v (16 + 12 * c + 11) + nI 1)
  else mv_ch1 v b c
section M3
variable {h0 : mv_Hp} {I : Nat → Nat → Int32} {C B D : Nat} {β : Type}
theorem mo_goPost (hM : mv_MS h0) (hV : mv_VV (I 148) C B D) (hB : B < 8) (hD : D < 100000) {f t : Nat} : F_X7_goPost 147 (nI f) (nI t) (mv_hp h0 I) = some (mv_pp (I 148) C D f t, mv_hp h0 (mv_si I 148 (mv_pv (I 148) C B D f t))) := by
  obtain ⟨e0, e3, e4, hC4, hB8, -, hVC, hVB⟩ := hV
  unfold F_X7_goPost
  simp (disch := first | assumption | omega) only [li0, li1, li2, li3, li4, li5, li6, li7, li8, li9, li10, li11, li12, li13, li14, li15, li16, li17, li18, li19, li30, li31, li33, li39, li40, li41, li42, li43, li44, li45, li46, li47, li48, li49, li50, li51, li52, li53, li54, li55, li56, li57, li58, li59, li60, li61, li62, li64, li126, li128, li300, li384, li421, li512, li1000, li1663, li9999, li10000, li1000000, li2147483647, lin1, lin2, lin3, lin4, mo_rc hM, mo_gI hM, mo_sI hM, mo_g0 hM, mo_g1 hM, mo_g2 hM, mo_g4 hM, mo_g6 hM, mo_g11 hM, mo_r148 hM, mo_r149 hM, mo_r150 hM, mo_r151 hM, mo_r152 hM, mo_r153 hM, mo_w148 hM, mo_w149 hM, mo_w150 hM, mo_w151 hM, mo_w152 hM, mo_w153 hM, ev_pu, ev_bpu, ev_ite, nI_add, pk_mul, mv_le, mv_lt, mv_eq, mv_lt0, mv_le0, mv_eq0, mv_or, mv_and, e0, e4, mo_arrivalOf' hM hVC hC4 e3, mo_orNone', mo_lays' hM, mv_si_eq, mv_si_si, mv_vu_eq, mv_vu_ne]
  rfl
theorem mo_goPost' (hM : mv_MS h0) (hV : mv_VV (I 148) C B D) (hB : B < 8) (hD : D < 100000) {f t : Nat} {g : Int32 → mv_M β} : mv_bd (F_X7_goPost 147 (nI f) (nI t)) g (mv_hp h0 I) = g (mv_pp (I 148) C D f t) (mv_hp h0 (mv_si I 148 (mv_pv (I 148) C B D f t))) := ev_bd (mo_goPost hM hV hB hD)
theorem mo_changes (hM : mv_MS h0) {b c : Nat} (hb : b < 8) (hc : c < 4) : F_X7_changes 147 (nI b) (nI c) (mv_hp h0 I) = some ((), mv_hp h0 (mv_si I 148 (mv_chg (I 148) b c))) := by
  unfold F_X7_changes J_X7_changes_118
  simp (disch := first | assumption | omega) only [li0, li1, li2, li3, li4, li5, li6, li7, li8, li9, li10, li11, li12, li13, li14, li15, li16, li17, li18, li19, li30, li31, li33, li39, li40, li41, li42, li43, li44, li45, li46, li47, li48, li49, li50, li51, li52, li53, li54, li55, li56, li57, li58, li59, li60, li61, li62, li64, li126, li128, li300, li384, li421, li512, li1000, li1663, li9999, li10000, li1000000, li2147483647, lin1, lin2, lin3, lin4, mo_rc hM, mo_gI hM, mo_sI hM, mo_g0 hM, mo_g1 hM, mo_g2 hM, mo_g4 hM, mo_g6 hM, mo_g11 hM, mo_r148 hM, mo_r149 hM, mo_r150 hM, mo_r151 hM, mo_r152 hM, mo_r153 hM, mo_w148 hM, mo_w149 hM, mo_w150 hM, mo_w151 hM, mo_w152 hM, mo_w153 hM, ev_pu, ev_bpu, ev_ite, nI_add, pk_mul, mv_le, mv_lt, mv_eq, mv_lt0, mv_le0, mv_eq0, mv_or, mv_and, mo_of' hM, mo_ofC' hM, mo_lays' hM, mo_addsC' hM, mv_si_eq, mv_si_si, mv_vu_eq, mv_vu_ne, ev_rmc]
  unfold mv_chg
  have e : mv_rem (nI 421 * I 148 2 + nI 1663) (nI 10000) = mv_lo (I 148) := rfl
  rw [e]
  by_cases c1 : I 148 (16 + 12 * c + 8) ≤ mv_rem (mv_lo (I 148)) (nI 10)
  · rw [if_pos c1, if_pos c1]; rfl
  · rw [if_neg c1, if_neg c1]
    by_cases c2 : I 148 (64 + 8 * b + 5) = nI 0
    · rw [if_pos c2, if_pos c2]; rfl
    · rw [if_neg c2, if_neg c2]; rfl
theorem mo_changes' (hM : mv_MS h0) {b c : Nat} {g : Unit → mv_M β} (hb : b < 8) (hc : c < 4) : mv_bd (F_X7_changes 147 (nI b) (nI c)) g (mv_hp h0 I) = g () (mv_hp h0 (mv_si I 148 (mv_chg (I 148) b c))) := ev_bd (mo_changes hM hb hc)
end M3
/-- who takes the bundle -/
def mv_hr (v : Nat → Int32) (b D : Nat) : Int32 := if nI 0 ≤ v (64 + 8 * b + 2) - nI 1 then mv_tw v ((v (64 + 8 * b + 2)).toNatClampNeg - 1) D else v (64 + 8 * b + 1) - nI 1
def mv_gs (v : Nat → Int32) (C b D : Nat) : Nat :=
  if v (64 + 8 * b + 2) - nI 1 < nI 0 then mv_tb v C (mv_hr v b D) D
  else if mv_hr v b D < nI 0 then 0
  else if mv_hr v b D = mv_sw v D then mv_tb v C (mv_hr v b D) D else 0
def mv_cn (v : Nat → Int32) (C B b D c : Nat) : Bool := (mv_gs v C b D).testBit c && (!decide (nI c = v (64 + 8 * b + 2) - nI 1) && !decide (v 1 ≤ mv_hs v B c))
def mv_gq (v : Nat → Int32) (C B b D c : Nat) : Nat := if mv_cn v C B b D c then mv_AR v C (v (64 + 8 * b + 0)) mv_n4 30 (2 ^ c) D else 1000000
def mv_gf (v : Nat → Int32) (C B b D : Nat) (c : Nat) (s : Option Nat × Nat) : Option Nat × Nat := if s.2 ≤ mv_gq v C B b D c then s else (some c, mv_gq v C B b D c)
def mv_gl (v : Nat → Int32) (C B b D : Nat) : Option Nat × Nat := mv_it (mv_gf v C B b D) C 0 (none, mv_AB v C b D)
def mv_go (v : Nat → Int32) (C B b D : Nat) : Nat → Int32 := match (mv_gl v C B b D).1 with
  | none => v
  | some c => mv_chg v b c
def mv_ob (o : Option Nat) : Int32 := match o with
  | none => mv_n4
  | some c => nI c
section M4
variable {h0 : mv_Hp} {I : Nat → Nat → Int32} {C B D : Nat} {β : Type}
theorem mv_shr_bit {S c : Nat} (hS : S < 16) (hc : c < 8) : (nI S >>> (nI (c &&& 31))) &&& nI 1 = nI 1 ↔ S.testBit c = true := by
  have e : nI S >>> nI (c &&& 31) = nI (S / 2 ^ c) := by
    rcases (show c = 0 ∨ c = 1 ∨ c = 2 ∨ c = 3 ∨ c = 4 ∨ c = 5 ∨ c = 6 ∨ c = 7 by omega) with rfl | rfl | rfl | rfl | rfl | rfl | rfl | rfl <;> exact pk_shrN (by omega) _ _ (by decide)
  have hle : S / 2 ^ c ≤ S := Nat.div_le_self _ _
  have hand : S / 2 ^ c &&& 1 = S / 2 ^ c % 2 := Nat.and_one_is_mod _
  rw [e, mv_and, hand, mv_eq (by omega) (by omega), Nat.testBit_eq_decide_div_mod_eq]
  simp
theorem mo_goLoop (hM : mv_MS h0) (hV : mv_VV (I 148) C B D) (hD : D < 100000) {b : Nat} (hb : b < B) : ∀ (k n c : Nat) (s : Option Nat × Nat), c + k = C → k < n → s.2 ≤ 1000000 → (∀ x, s.1 = some x → x < C) → Lp_X7_goesOn_98 147 (nI b) (nI D) (I 148 (64 + 8 * b + 2) - nI 1) (nI (mv_gs (I 148) C b D)) n (mv_ob s.1) (nI s.2) (nI c) (mv_hp h0 I) = some ((), mv_hp h0 (mv_si I 148 (match (mv_it (mv_gf (I 148) C B b D) k c s).1 with | none => I 148 | some c => mv_chg (I 148) b c))) := by
  obtain ⟨e0, e3, e4, hC4, hB8, -, hVC, hVB⟩ := hV
  have hgs : mv_gs (I 148) C b D < 16 := by
    unfold mv_gs
    split
    · exact mv_tb_lt hC4
    · split
      · omega
      · split
        · exact mv_tb_lt hC4
        · omega
  intro k
  induction k with
  | zero =>
    intro n c s hc hn hs hx
    obtain ⟨n, rfl⟩ := Nat.exists_eq_succ_of_ne_zero (show n ≠ 0 by omega)
    obtain ⟨o, le⟩ := s
    rw [Lp_X7_goesOn_98]
    unfold J_X7_goesOn_227
    cases o with
    | none =>
      simp (disch := first | assumption | omega) only [li0, li1, li2, li3, li4, li5, li6, li7, li8, li9, li10, li11, li12, li13, li14, li15, li16, li17, li18, li19, li30, li31, li33, li39, li40, li41, li42, li43, li44, li45, li46, li47, li48, li49, li50, li51, li52, li53, li54, li55, li56, li57, li58, li59, li60, li61, li62, li64, li126, li128, li300, li384, li421, li512, li1000, li1663, li9999, li10000, li1000000, li2147483647, lin1, lin2, lin3, lin4, mo_rc hM, mo_gI hM, mo_sI hM, mo_g0 hM, mo_g1 hM, mo_g2 hM, mo_g4 hM, mo_g6 hM, mo_g11 hM, mo_r148 hM, mo_r149 hM, mo_r150 hM, mo_r151 hM, mo_r152 hM, mo_r153 hM, mo_w148 hM, mo_w149 hM, mo_w150 hM, mo_w151 hM, mo_w152 hM, mo_w153 hM, ev_pu, ev_bpu, ev_ite, nI_add, pk_mul, mv_le, mv_lt, mv_eq, mv_lt0, mv_le0, mv_eq0, mv_or, mv_and, e3]
      rw [if_pos (by omega), if_pos (show mv_ob none < nI 0 by decide)]
      show _ = some ((), mv_hp h0 (mv_si I 148 (I 148)))
      rw [mv_si_self]
    | some x =>
      have hxc := hx x rfl
      show _ = some ((), mv_hp h0 (mv_si I 148 (mv_chg (I 148) b x)))
      show _ = _
      simp only [mv_ob]
      simp (disch := first | assumption | omega) only [li0, li1, li2, li3, li4, li5, li6, li7, li8, li9, li10, li11, li12, li13, li14, li15, li16, li17, li18, li19, li30, li31, li33, li39, li40, li41, li42, li43, li44, li45, li46, li47, li48, li49, li50, li51, li52, li53, li54, li55, li56, li57, li58, li59, li60, li61, li62, li64, li126, li128, li300, li384, li421, li512, li1000, li1663, li9999, li10000, li1000000, li2147483647, lin1, lin2, lin3, lin4, mo_rc hM, mo_gI hM, mo_sI hM, mo_g0 hM, mo_g1 hM, mo_g2 hM, mo_g4 hM, mo_g6 hM, mo_g11 hM, mo_r148 hM, mo_r149 hM, mo_r150 hM, mo_r151 hM, mo_r152 hM, mo_r153 hM, mo_w148 hM, mo_w149 hM, mo_w150 hM, mo_w151 hM, mo_w152 hM, mo_w153 hM, ev_pu, ev_bpu, ev_ite, nI_add, pk_mul, mv_le, mv_lt, mv_eq, mv_lt0, mv_le0, mv_eq0, mv_or, mv_and, e3, mo_changes' hM]
      rw [if_pos (by omega), if_neg (by omega)]
  | succ k ih =>
    intro n c s hc hn hs hx
    obtain ⟨n, rfl⟩ := Nat.exists_eq_succ_of_ne_zero (show n ≠ 0 by omega)
    obtain ⟨o, le⟩ := s
    have hs' : le ≤ 1000000 := hs
    have hq1 : mv_gq (I 148) C B b D c ≤ 1000000 := by
      unfold mv_gq
      split
      · exact mv_AR_le _ _ _ _ _ _ _ (by omega)
      · omega
    have hp16 : 2 ^ c < 16 := by
      rcases (show c = 0 ∨ c = 1 ∨ c = 2 ∨ c = 3 by omega) with rfl | rfl | rfl | rfl <;> decide
    have step := ih n (c + 1) (mv_gf (I 148) C B b D c (o, le)) (by omega) (by omega) (by unfold mv_gf; split <;> assumption) (by
      intro x hx2
      unfold mv_gf at hx2
      split at hx2
      · exact hx x hx2
      · have : c = x := Option.some.inj hx2
        omega)
    have e5 : mv_it (mv_gf (I 148) C B b D) (k + 1) c (o, le) = mv_it (mv_gf (I 148) C B b D) k (c + 1) (mv_gf (I 148) C B b D c (o, le)) := rfl
    rw [e5, ← step]
    have fin : ∀ q, q ≤ 1000000 → mv_gq (I 148) C B b D c = q → J_X7_goesOn_175 (Lp_X7_goesOn_98 147 (nI b) (nI D) (I 148 (64 + 8 * b + 2) - nI 1) (nI (mv_gs (I 148) C b D)) n) 147 (nI b) (nI D) (I 148 (64 + 8 * b + 2) - nI 1) (nI (mv_gs (I 148) C b D)) (mv_ob o) (nI le) (nI c) (nI q) (mv_hp h0 I) = Lp_X7_goesOn_98 147 (nI b) (nI D) (I 148 (64 + 8 * b + 2) - nI 1) (nI (mv_gs (I 148) C b D)) n (mv_ob (mv_gf (I 148) C B b D c (o, le)).1) (nI (mv_gf (I 148) C B b D c (o, le)).2) (nI (c + 1)) (mv_hp h0 I) := by
      intro q hq eq
      unfold J_X7_goesOn_175 J_X7_goesOn_191 J_X7_goesOn_207 mv_gf
      simp (disch := first | assumption | omega) only [li0, li1, li2, li3, li4, li5, li6, li7, li8, li9, li10, li11, li12, li13, li14, li15, li16, li17, li18, li19, li30, li31, li33, li39, li40, li41, li42, li43, li44, li45, li46, li47, li48, li49, li50, li51, li52, li53, li54, li55, li56, li57, li58, li59, li60, li61, li62, li64, li126, li128, li300, li384, li421, li512, li1000, li1663, li9999, li10000, li1000000, li2147483647, lin1, lin2, lin3, lin4, mo_rc hM, mo_gI hM, mo_sI hM, mo_g0 hM, mo_g1 hM, mo_g2 hM, mo_g4 hM, mo_g6 hM, mo_g11 hM, mo_r148 hM, mo_r149 hM, mo_r150 hM, mo_r151 hM, mo_r152 hM, mo_r153 hM, mo_w148 hM, mo_w149 hM, mo_w150 hM, mo_w151 hM, mo_w152 hM, mo_w153 hM, ev_pu, ev_bpu, ev_ite, nI_add, pk_mul, mv_le, mv_lt, mv_eq, mv_lt0, mv_le0, mv_eq0, mv_or, mv_and]
      rw [eq]
      by_cases z : le ≤ q
      · simp only [if_pos z]
      · simp only [if_neg z]; rfl
    rw [Lp_X7_goesOn_98]
    unfold J_X7_goesOn_145 J_X7_goesOn_146
    simp (disch := first | assumption | omega) only [li0, li1, li2, li3, li4, li5, li6, li7, li8, li9, li10, li11, li12, li13, li14, li15, li16, li17, li18, li19, li30, li31, li33, li39, li40, li41, li42, li43, li44, li45, li46, li47, li48, li49, li50, li51, li52, li53, li54, li55, li56, li57, li58, li59, li60, li61, li62, li64, li126, li128, li300, li384, li421, li512, li1000, li1663, li9999, li10000, li1000000, li2147483647, lin1, lin2, lin3, lin4, mo_rc hM, mo_gI hM, mo_sI hM, mo_g0 hM, mo_g1 hM, mo_g2 hM, mo_g4 hM, mo_g6 hM, mo_g11 hM, mo_r148 hM, mo_r149 hM, mo_r150 hM, mo_r151 hM, mo_r152 hM, mo_r153 hM, mo_w148 hM, mo_w149 hM, mo_w150 hM, mo_w151 hM, mo_w152 hM, mo_w153 hM, ev_pu, ev_bpu, ev_ite, nI_add, pk_mul, mv_le, mv_lt, mv_eq, mv_lt0, mv_le0, mv_eq0, mv_or, mv_and, e3, e4, mo_has' hM hB8 e4, mo_of' hM]
    rw [if_neg (by omega)]
    have no : mv_cn (I 148) C B b D c = false → mv_gq (I 148) C B b D c = 1000000 := by intro z; unfold mv_gq; rw [z]; rfl
    have y0 : (nI 0 = nI 0) = True := eq_self _
    by_cases c1 : (mv_gs (I 148) C b D).testBit c = true
    · rw [if_pos ((mv_shr_bit hgs (by omega)).mpr c1)]
      by_cases c2 : nI c = I 148 (64 + 8 * b + 2) - nI 1
      · rw [if_pos c2]
        exact fin 1000000 (Nat.le_refl _) (no (by unfold mv_cn; simp [c2]))
      · rw [if_neg c2]
        by_cases c3 : I 148 1 ≤ mv_hs (I 148) B c
        · rw [if_pos c3]
          exact fin 1000000 (Nat.le_refl _) (no (by unfold mv_cn; simp [c3]))
        · rw [if_neg c3]
          have yes : mv_gq (I 148) C B b D c = mv_AR (I 148) C (I 148 (64 + 8 * b + 0)) mv_n4 30 (2 ^ c) D := by unfold mv_gq mv_cn; simp [c1, c2, c3]
          rw [mv_shl (by omega), mo_arrivalOf' hM hVC hC4 e3 hD hp16, ← yes]
          exact fin _ hq1 rfl
    · rw [if_neg (fun z => c1 ((mv_shr_bit hgs (by omega)).mp z))]
      exact fin 1000000 (Nat.le_refl _) (no (by unfold mv_cn; simp [c1]))
end M4
