def mv_hs (v : Nat → Int32) (B c : Nat) : Int32 := mv_it (fun b n => n + (if v (64 + 8 * b + 2) = nI (c + 1) then nI 1 else nI 0)) B 0 (nI 0)
def mv_bb (v : Nat → Int32) (B w : Nat) : Int32 := mv_it (fun b n => n + (if v (64 + 8 * b + w) ≤ nI 0 then nI 0 else nI 1)) B 0 (nI 0)
def mv_io (v : Nat → Int32) (C D : Nat) : Int32 := mv_it (fun c n => n + (if mv_tw v c D = mv_n4 then nI 1 else nI 0)) C 0 (nI 0)
def mv_wm (v : Nat → Int32) (b : Nat) : Nat := if v (64 + 8 * b + 2) = nI 0 then 0 else 2 ^ ((v (64 + 8 * b + 2)).toNatClampNeg - 1)
def mv_AB (v : Nat → Int32) (C b D : Nat) : Nat := mv_AR v C (v (64 + 8 * b + 0)) (v (64 + 8 * b + 1) - nI 1) 30 (mv_wm v b) D
def mv_AN (v : Nat → Int32) (C b D : Nat) : Int32 := if v (64 + 8 * b + 3) ≤ nI 0 then nI (mv_AB v C b D) else v (64 + 8 * b + 3) - nI 1
/-- a bundle lies, is with a carrier, or has come -/
def mv_VB (v : Nat → Int32) (C B D : Nat) : Prop := ∀ b, b < B → (∃ t, t ≤ 5 ∧ v (64 + 8 * b + 0) = nI t) ∧ (∃ l w a, l ≤ 6 ∧ w ≤ C ∧ a ≤ D + 1 ∧ v (64 + 8 * b + 1) = nI l ∧ v (64 + 8 * b + 2) = nI w ∧ v (64 + 8 * b + 3) = nI a ∧ ((l ≠ 0 ∧ w = 0 ∧ a = 0) ∨ (l = 0 ∧ w ≠ 0 ∧ a = 0) ∨ (l = 0 ∧ w = 0 ∧ a ≠ 0))) ∧ (v (64 + 8 * b + 5) = nI 0 ∨ v (64 + 8 * b + 5) = nI 1)
def mv_VV (v : Nat → Int32) (C B D : Nat) : Prop := v 0 = nI D ∧ v 3 = nI C ∧ v 4 = nI B ∧ C ≤ 4 ∧ B ≤ 8 ∧ (∀ w, w < 7 → ∃ t, t ≤ 6 ∧ v (9 + w) = nI t) ∧ mv_VC v C ∧ mv_VB v C B D
section M2
variable {h0 : mv_Hp} {I : Nat → Nat → Int32} {C B D : Nat} {β : Type}
theorem mo_has (hM : mv_MS h0) (hB8 : B ≤ 8) (hB : I 148 4 = nI B) {c : Nat} : F_X7_has 147 (nI c) (mv_hp h0 I) = some (mv_hs (I 148) B c, mv_hp h0 I) := by
  unfold F_X7_has
  rw [li0]
  exact mv_it_go (L := fun n b s => Lp_X7_has_4 147 (nI c) n s (nI b) (mv_hp h0 I)) (fun b n => n + (if I 148 (64 + 8 * b + 2) = nI (c + 1) then nI 1 else nI 0)) (fun s => some (s, mv_hp h0 I)) B (nI 0) (by omega)
    (fun n b s hb => by
      rw [Lp_X7_has_4]
      unfold J_X7_has_32
      simp (disch := first | assumption | omega) only [li0, li1, li2, li3, li4, li5, li6, li7, li8, li9, li10, li11, li12, li13, li14, li15, li16, li17, li18, li19, li30, li31, li33, li39, li40, li41, li42, li43, li44, li45, li46, li47, li48, li49, li50, li51, li52, li53, li54, li55, li56, li57, li58, li59, li60, li61, li62, li64, li126, li128, li300, li384, li421, li512, li1000, li1663, li9999, li10000, li1000000, li2147483647, lin1, lin2, lin3, lin4, mo_rc hM, mo_gI hM, mo_sI hM, mo_g0 hM, mo_g1 hM, mo_g2 hM, mo_g4 hM, mo_g6 hM, mo_g11 hM, mo_r148 hM, mo_r149 hM, mo_r150 hM, mo_r151 hM, mo_r152 hM, mo_r153 hM, mo_w148 hM, mo_w149 hM, mo_w150 hM, mo_w151 hM, mo_w152 hM, mo_w153 hM, ev_pu, ev_bpu, ev_ite, nI_add, pk_mul, mv_le, mv_lt, mv_eq, mv_lt0, mv_le0, mv_eq0, mv_or, mv_and, hB, mo_of' hM]
      rw [if_neg (by omega)]
      split <;> rfl)
    (fun n s => by
      rw [Lp_X7_has_4]
      simp (disch := first | assumption | omega) only [li0, li1, li2, li3, li4, li5, li6, li7, li8, li9, li10, li11, li12, li13, li14, li15, li16, li17, li18, li19, li30, li31, li33, li39, li40, li41, li42, li43, li44, li45, li46, li47, li48, li49, li50, li51, li52, li53, li54, li55, li56, li57, li58, li59, li60, li61, li62, li64, li126, li128, li300, li384, li421, li512, li1000, li1663, li9999, li10000, li1000000, li2147483647, lin1, lin2, lin3, lin4, mo_rc hM, mo_gI hM, mo_sI hM, mo_g0 hM, mo_g1 hM, mo_g2 hM, mo_g4 hM, mo_g6 hM, mo_g11 hM, mo_r148 hM, mo_r149 hM, mo_r150 hM, mo_r151 hM, mo_r152 hM, mo_r153 hM, mo_w148 hM, mo_w149 hM, mo_w150 hM, mo_w151 hM, mo_w152 hM, mo_w153 hM, ev_pu, ev_bpu, ev_ite, nI_add, pk_mul, mv_le, mv_lt, mv_eq, mv_lt0, mv_le0, mv_eq0, mv_or, mv_and, hB]
      rw [if_pos (Nat.le_refl _)])
theorem mo_has' (hM : mv_MS h0) (hB8 : B ≤ 8) (hB : I 148 4 = nI B) {c : Nat} {g : Int32 → mv_M β} : mv_bd (F_X7_has 147 (nI c)) g (mv_hp h0 I) = g (mv_hs (I 148) B c) (mv_hp h0 I) := ev_bd (mo_has hM hB8 hB)
theorem mo_bb (hM : mv_MS h0) (hB8 : B ≤ 8) (hB : I 148 4 = nI B) {w : Nat} (hw : w < 8) : F_X7_bundlesBy 147 (nI w) (mv_hp h0 I) = some (mv_bb (I 148) B w, mv_hp h0 I) := by
  unfold F_X7_bundlesBy
  rw [li0]
  exact mv_it_go (L := fun n b s => Lp_X7_bundlesBy_4 147 (nI w) n s (nI b) (mv_hp h0 I)) (fun b n => n + (if I 148 (64 + 8 * b + w) ≤ nI 0 then nI 0 else nI 1)) (fun s => some (s, mv_hp h0 I)) B (nI 0) (by omega)
    (fun n b s hb => by
      rw [Lp_X7_bundlesBy_4]
      unfold J_X7_bundlesBy_29
      simp (disch := first | assumption | omega) only [li0, li1, li2, li3, li4, li5, li6, li7, li8, li9, li10, li11, li12, li13, li14, li15, li16, li17, li18, li19, li30, li31, li33, li39, li40, li41, li42, li43, li44, li45, li46, li47, li48, li49, li50, li51, li52, li53, li54, li55, li56, li57, li58, li59, li60, li61, li62, li64, li126, li128, li300, li384, li421, li512, li1000, li1663, li9999, li10000, li1000000, li2147483647, lin1, lin2, lin3, lin4, mo_rc hM, mo_gI hM, mo_sI hM, mo_g0 hM, mo_g1 hM, mo_g2 hM, mo_g4 hM, mo_g6 hM, mo_g11 hM, mo_r148 hM, mo_r149 hM, mo_r150 hM, mo_r151 hM, mo_r152 hM, mo_r153 hM, mo_w148 hM, mo_w149 hM, mo_w150 hM, mo_w151 hM, mo_w152 hM, mo_w153 hM, ev_pu, ev_bpu, ev_ite, nI_add, pk_mul, mv_le, mv_lt, mv_eq, mv_lt0, mv_le0, mv_eq0, mv_or, mv_and, hB, mo_of' hM]
      rw [if_neg (by omega)]
      split <;> rfl)
    (fun n s => by
      rw [Lp_X7_bundlesBy_4]
      simp (disch := first | assumption | omega) only [li0, li1, li2, li3, li4, li5, li6, li7, li8, li9, li10, li11, li12, li13, li14, li15, li16, li17, li18, li19, li30, li31, li33, li39, li40, li41, li42, li43, li44, li45, li46, li47, li48, li49, li50, li51, li52, li53, li54, li55, li56, li57, li58, li59, li60, li61, li62, li64, li126, li128, li300, li384, li421, li512, li1000, li1663, li9999, li10000, li1000000, li2147483647, lin1, lin2, lin3, lin4, mo_rc hM, mo_gI hM, mo_sI hM, mo_g0 hM, mo_g1 hM, mo_g2 hM, mo_g4 hM, mo_g6 hM, mo_g11 hM, mo_r148 hM, mo_r149 hM, mo_r150 hM, mo_r151 hM, mo_r152 hM, mo_r153 hM, mo_w148 hM, mo_w149 hM, mo_w150 hM, mo_w151 hM, mo_w152 hM, mo_w153 hM, ev_pu, ev_bpu, ev_ite, nI_add, pk_mul, mv_le, mv_lt, mv_eq, mv_lt0, mv_le0, mv_eq0, mv_or, mv_and, hB]
      rw [if_pos (Nat.le_refl _)])
theorem mo_bb' (hM : mv_MS h0) (hB8 : B ≤ 8) (hB : I 148 4 = nI B) {w : Nat} {g : Int32 → mv_M β} (hw : w < 8) : mv_bd (F_X7_bundlesBy 147 (nI w)) g (mv_hp h0 I) = g (mv_bb (I 148) B w) (mv_hp h0 I) := ev_bd (mo_bb hM hB8 hB hw)
theorem mo_ill (hM : mv_MS h0) (hV : mv_VC (I 148) C) (hC4 : C ≤ 4) (hC : I 148 3 = nI C) (hDv : I 148 0 = nI D) (hD : D < 100000) : F_X7_illOnes 147 (mv_hp h0 I) = some (mv_io (I 148) C D, mv_hp h0 I) := by
  unfold F_X7_illOnes
  rw [li0]
  exact mv_it_go (L := fun n b s => Lp_X7_illOnes_4 147 n s (nI b) (mv_hp h0 I)) (fun c n => n + (if mv_tw (I 148) c D = mv_n4 then nI 1 else nI 0)) (fun s => some (s, mv_hp h0 I)) C (nI 0) (by omega)
    (fun n b s hb => by
      rw [Lp_X7_illOnes_4]
      unfold J_X7_illOnes_36
      simp (disch := first | assumption | omega) only [li0, li1, li2, li3, li4, li5, li6, li7, li8, li9, li10, li11, li12, li13, li14, li15, li16, li17, li18, li19, li30, li31, li33, li39, li40, li41, li42, li43, li44, li45, li46, li47, li48, li49, li50, li51, li52, li53, li54, li55, li56, li57, li58, li59, li60, li61, li62, li64, li126, li128, li300, li384, li421, li512, li1000, li1663, li9999, li10000, li1000000, li2147483647, lin1, lin2, lin3, lin4, mo_rc hM, mo_gI hM, mo_sI hM, mo_g0 hM, mo_g1 hM, mo_g2 hM, mo_g4 hM, mo_g6 hM, mo_g11 hM, mo_r148 hM, mo_r149 hM, mo_r150 hM, mo_r151 hM, mo_r152 hM, mo_r153 hM, mo_w148 hM, mo_w149 hM, mo_w150 hM, mo_w151 hM, mo_w152 hM, mo_w153 hM, ev_pu, ev_bpu, ev_ite, nI_add, pk_mul, mv_le, mv_lt, mv_eq, mv_lt0, mv_le0, mv_eq0, mv_or, mv_and, hC, hDv, mo_townOf' hM hV hC4]
      rw [if_neg (by omega)]
      split <;> rfl)
    (fun n s => by
      rw [Lp_X7_illOnes_4]
      simp (disch := first | assumption | omega) only [li0, li1, li2, li3, li4, li5, li6, li7, li8, li9, li10, li11, li12, li13, li14, li15, li16, li17, li18, li19, li30, li31, li33, li39, li40, li41, li42, li43, li44, li45, li46, li47, li48, li49, li50, li51, li52, li53, li54, li55, li56, li57, li58, li59, li60, li61, li62, li64, li126, li128, li300, li384, li421, li512, li1000, li1663, li9999, li10000, li1000000, li2147483647, lin1, lin2, lin3, lin4, mo_rc hM, mo_gI hM, mo_sI hM, mo_g0 hM, mo_g1 hM, mo_g2 hM, mo_g4 hM, mo_g6 hM, mo_g11 hM, mo_r148 hM, mo_r149 hM, mo_r150 hM, mo_r151 hM, mo_r152 hM, mo_r153 hM, mo_w148 hM, mo_w149 hM, mo_w150 hM, mo_w151 hM, mo_w152 hM, mo_w153 hM, ev_pu, ev_bpu, ev_ite, nI_add, pk_mul, mv_le, mv_lt, mv_eq, mv_lt0, mv_le0, mv_eq0, mv_or, mv_and, hC]
      rw [if_pos (Nat.le_refl _)])
theorem mv_two_lt {w : Nat} (h : w ≤ 4) : (if nI w = nI 0 then 0 else 2 ^ ((nI w).toNatClampNeg - 1)) < 16 := by
  rcases (show w = 0 ∨ w = 1 ∨ w = 2 ∨ w = 3 ∨ w = 4 by omega) with rfl | rfl | rfl | rfl | rfl <;> decide
theorem mo_AB (hM : mv_MS h0) (hV : mv_VV (I 148) C B D) {b D1 : Nat} (hb : b < B) (hD : D1 < 100000) : F_X7_arrivalBehind 147 (nI b) (nI D1) (mv_hp h0 I) = some (nI (mv_AB (I 148) C b D1), mv_hp h0 I) := by
  obtain ⟨-, hC, hB, hC4, hB8, -, hVC, hVB⟩ := hV
  obtain ⟨-, ⟨l, w, a, hl, hw, -, -, ew, -⟩, -⟩ := hVB b hb
  unfold F_X7_arrivalBehind J_X7_arrivalBehind_38 mv_AB mv_wm
  have h16 := mv_two_lt (w := w) (by omega)
  simp (disch := first | assumption | omega) only [li0, li1, li2, li3, li4, li5, li6, li7, li8, li9, li10, li11, li12, li13, li14, li15, li16, li17, li18, li19, li30, li31, li33, li39, li40, li41, li42, li43, li44, li45, li46, li47, li48, li49, li50, li51, li52, li53, li54, li55, li56, li57, li58, li59, li60, li61, li62, li64, li126, li128, li300, li384, li421, li512, li1000, li1663, li9999, li10000, li1000000, li2147483647, lin1, lin2, lin3, lin4, mo_rc hM, mo_gI hM, mo_sI hM, mo_g0 hM, mo_g1 hM, mo_g2 hM, mo_g4 hM, mo_g6 hM, mo_g11 hM, mo_r148 hM, mo_r149 hM, mo_r150 hM, mo_r151 hM, mo_r152 hM, mo_r153 hM, mo_w148 hM, mo_w149 hM, mo_w150 hM, mo_w151 hM, mo_w152 hM, mo_w153 hM, ev_pu, ev_bpu, ev_ite, nI_add, pk_mul, mv_le, mv_lt, mv_eq, mv_lt0, mv_le0, mv_eq0, mv_or, mv_and, mo_of' hM, ew]
  rcases (show w = 0 ∨ w = 1 ∨ w = 2 ∨ w = 3 ∨ w = 4 by omega) with rfl | rfl | rfl | rfl | rfl
  · rw [if_pos rfl, mo_arrivalOf' hM hVC hC4 hC hD (by decide)]; rfl
  · rw [if_neg (by decide), show nI 1 <<< ((nI 1 - nI 1) &&& nI 31) = nI (2 ^ 0) from rfl, mo_arrivalOf' hM hVC hC4 hC hD (by decide)]; rfl
  · rw [if_neg (by decide), show nI 1 <<< ((nI 2 - nI 1) &&& nI 31) = nI (2 ^ 1) from rfl, mo_arrivalOf' hM hVC hC4 hC hD (by decide)]; rfl
  · rw [if_neg (by decide), show nI 1 <<< ((nI 3 - nI 1) &&& nI 31) = nI (2 ^ 2) from rfl, mo_arrivalOf' hM hVC hC4 hC hD (by decide)]; rfl
  · rw [if_neg (by decide), show nI 1 <<< ((nI 4 - nI 1) &&& nI 31) = nI (2 ^ 3) from rfl, mo_arrivalOf' hM hVC hC4 hC hD (by decide)]; rfl
theorem mo_AB' (hM : mv_MS h0) (hV : mv_VV (I 148) C B D) {b D1 : Nat} {g : Int32 → mv_M β} (hb : b < B) (hD : D1 < 100000) : mv_bd (F_X7_arrivalBehind 147 (nI b) (nI D1)) g (mv_hp h0 I) = g (nI (mv_AB (I 148) C b D1)) (mv_hp h0 I) := ev_bd (mo_AB hM hV hb hD)
theorem mo_AN (hM : mv_MS h0) (hV : mv_VV (I 148) C B D) {b : Nat} (hb : b < B) (hD : D < 100000) : F_X7_arrivalNow 147 (nI b) (mv_hp h0 I) = some (mv_AN (I 148) C b D, mv_hp h0 I) := by
  have hB8 := hV.2.2.2.2.1
  unfold F_X7_arrivalNow J_X7_arrivalNow_31 mv_AN
  simp (disch := first | assumption | omega) only [li0, li1, li2, li3, li4, li5, li6, li7, li8, li9, li10, li11, li12, li13, li14, li15, li16, li17, li18, li19, li30, li31, li33, li39, li40, li41, li42, li43, li44, li45, li46, li47, li48, li49, li50, li51, li52, li53, li54, li55, li56, li57, li58, li59, li60, li61, li62, li64, li126, li128, li300, li384, li421, li512, li1000, li1663, li9999, li10000, li1000000, li2147483647, lin1, lin2, lin3, lin4, mo_rc hM, mo_gI hM, mo_sI hM, mo_g0 hM, mo_g1 hM, mo_g2 hM, mo_g4 hM, mo_g6 hM, mo_g11 hM, mo_r148 hM, mo_r149 hM, mo_r150 hM, mo_r151 hM, mo_r152 hM, mo_r153 hM, mo_w148 hM, mo_w149 hM, mo_w150 hM, mo_w151 hM, mo_w152 hM, mo_w153 hM, ev_pu, ev_bpu, ev_ite, nI_add, pk_mul, mv_le, mv_lt, mv_eq, mv_lt0, mv_le0, mv_eq0, mv_or, mv_and, mo_of' hM, hV.1, mo_AB' hM hV]
  split <;> rfl
theorem mo_AN' (hM : mv_MS h0) (hV : mv_VV (I 148) C B D) {b : Nat} {g : Int32 → mv_M β} (hb : b < B) (hD : D < 100000) : mv_bd (F_X7_arrivalNow 147 (nI b)) g (mv_hp h0 I) = g (mv_AN (I 148) C b D) (mv_hp h0 I) := ev_bd (mo_AN hM hV hb hD)
def mv_oN (x : Int32) : Int32 := if x = nI 1000000 then mv_n4 else x
theorem mo_orNone (x : Int32) (h : mv_Hp) : F_X7_orNone x h = some (mv_oN x, h) := by
  unfold F_X7_orNone J_X7_orNone_12 mv_oN
  simp only [li0, li1, li2, li3, li4, li5, li6, li7, li8, li9, li10, li11, li12, li13, li14, li15, li16, li17, li18, li19, li30, li31, li33, li39, li40, li41, li42, li43, li44, li45, li46, li47, li48, li49, li50, li51, li52, li53, li54, li55, li56, li57, li58, li59, li60, li61, li62, li64, li126, li128, li300, li384, li421, li512, li1000, li1663, li9999, li10000, li1000000, li2147483647, lin1, lin2, lin3, lin4, ev_ite, ev_pu]
  split <;> rfl
theorem mo_orNone' (x : Int32) (h : mv_Hp) {g : Int32 → mv_M β} : mv_bd (F_X7_orNone x) g h = g (mv_oN x) h := ev_bd (mo_orNone x h)
def mv_hD (v : Nat → Int32) (C b D : Nat) : Int32 := if v (64 + 8 * b + 4) = mv_n4 then nI 0 else if mv_AN v C b D = nI 1000000 then nI 0 else nI 1
theorem mo_hD (hM : mv_MS h0) (hV : mv_VV (I 148) C B D) {b : Nat} (hb : b < B) (hD : D < 100000) : F_X7_hasDelay 147 (nI b) (mv_hp h0 I) = some (mv_hD (I 148) C b D, mv_hp h0 I) := by
  have hB8 := hV.2.2.2.2.1
  unfold F_X7_hasDelay J_X7_hasDelay_25 J_X7_hasDelay_26 mv_hD
  simp (disch := first | assumption | omega) only [li0, li1, li2, li3, li4, li5, li6, li7, li8, li9, li10, li11, li12, li13, li14, li15, li16, li17, li18, li19, li30, li31, li33, li39, li40, li41, li42, li43, li44, li45, li46, li47, li48, li49, li50, li51, li52, li53, li54, li55, li56, li57, li58, li59, li60, li61, li62, li64, li126, li128, li300, li384, li421, li512, li1000, li1663, li9999, li10000, li1000000, li2147483647, lin1, lin2, lin3, lin4, mo_rc hM, mo_gI hM, mo_sI hM, mo_g0 hM, mo_g1 hM, mo_g2 hM, mo_g4 hM, mo_g6 hM, mo_g11 hM, mo_r148 hM, mo_r149 hM, mo_r150 hM, mo_r151 hM, mo_r152 hM, mo_r153 hM, mo_w148 hM, mo_w149 hM, mo_w150 hM, mo_w151 hM, mo_w152 hM, mo_w153 hM, ev_pu, ev_bpu, ev_ite, nI_add, pk_mul, mv_le, mv_lt, mv_eq, mv_lt0, mv_le0, mv_eq0, mv_or, mv_and, mo_of' hM, mo_AN' hM hV, ev_rz (Or.inl rfl : nI 0 = 0 ∨ nI 0 = 1), ev_rz (Or.inr rfl : nI 1 = 0 ∨ nI 1 = 1)]
  split
  · rfl
  · split <;> rfl
theorem mo_hD' (hM : mv_MS h0) (hV : mv_VV (I 148) C B D) {b : Nat} {g : Int32 → mv_M β} (hb : b < B) (hD : D < 100000) : mv_bd (F_X7_hasDelay 147 (nI b)) g (mv_hp h0 I) = g (mv_hD (I 148) C b D) (mv_hp h0 I) := ev_bd (mo_hD hM hV hb hD)
theorem mo_dO (hM : mv_MS h0) (hV : mv_VV (I 148) C B D) {b : Nat} (hb : b < B) (hD : D < 100000) : F_X7_delayOf 147 (nI b) (mv_hp h0 I) = some (mv_AN (I 148) C b D - I 148 (64 + 8 * b + 4), mv_hp h0 I) := by
  have hB8 := hV.2.2.2.2.1
  unfold F_X7_delayOf
  simp (disch := first | assumption | omega) only [li0, li1, li2, li3, li4, li5, li6, li7, li8, li9, li10, li11, li12, li13, li14, li15, li16, li17, li18, li19, li30, li31, li33, li39, li40, li41, li42, li43, li44, li45, li46, li47, li48, li49, li50, li51, li52, li53, li54, li55, li56, li57, li58, li59, li60, li61, li62, li64, li126, li128, li300, li384, li421, li512, li1000, li1663, li9999, li10000, li1000000, li2147483647, lin1, lin2, lin3, lin4, mo_rc hM, mo_gI hM, mo_sI hM, mo_g0 hM, mo_g1 hM, mo_g2 hM, mo_g4 hM, mo_g6 hM, mo_g11 hM, mo_r148 hM, mo_r149 hM, mo_r150 hM, mo_r151 hM, mo_r152 hM, mo_r153 hM, mo_w148 hM, mo_w149 hM, mo_w150 hM, mo_w151 hM, mo_w152 hM, mo_w153 hM, ev_pu, ev_bpu, ev_ite, nI_add, pk_mul, mv_le, mv_lt, mv_eq, mv_lt0, mv_le0, mv_eq0, mv_or, mv_and, mo_of' hM, mo_AN' hM hV]
theorem mo_dO' (hM : mv_MS h0) (hV : mv_VV (I 148) C B D) {b : Nat} {g : Int32 → mv_M β} (hb : b < B) (hD : D < 100000) : mv_bd (F_X7_delayOf 147 (nI b)) g (mv_hp h0 I) = g (mv_AN (I 148) C b D - I 148 (64 + 8 * b + 4)) (mv_hp h0 I) := ev_bd (mo_dO hM hV hb hD)
end M2
