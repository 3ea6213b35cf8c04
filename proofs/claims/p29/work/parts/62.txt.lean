section PT
variable {v : Nat → Int32} {C B D M : Nat} {sg : Nat → Nat}
theorem p_VR_ac {i : Nat} (hC : C < 4) (hn : mv_nT sg i ≤ 7) (hr : mv_rg sg i ≤ 9) (H : p_VR v C B D) : p_VR (mv_ac sg v C i) (C + 1) B D := by
  obtain ⟨⟨p1, p2, p3, p4, p5⟩, ⟨a, a1, a2, a3⟩, q3, q4⟩ := H
  have lo : ∀ k, k ≠ 3 → (k < 16 + 12 * C ∨ 16 + 12 * C + 12 ≤ k) → mv_ac sg v C i k = v k := fun k h1 h2 => by
    unfold mv_ac; rw [if_neg h1, if_neg (by omega)]
  have g8 : mv_ac sg v C i (16 + 12 * C + 8) = nI (mv_rg sg i) := by
    unfold mv_ac; rw [if_neg (by omega), if_pos (by omega), if_neg (by omega), if_neg (by omega), if_pos rfl]
  have g9 : ∀ k, 9 ≤ k → k < 12 → mv_ac sg v C i (16 + 12 * C + k) = nI 0 := fun k h1 h2 => by
    unfold mv_ac; rw [if_neg (by omega), if_pos (by omega), if_neg (by omega), if_neg (by omega), if_neg (by omega)]
  have hd : p_hd (mv_ac sg v C i) (C + 1) = p_hd v C := by
    show p_hd (mv_ac sg v C i) C + p_k (mv_ac sg v C i) (16 + 12 * C + 10) = _
    rw [p_hd_congr (fun c hc => lo _ (by omega) (by omega)), p_k_of (g9 10 (by omega) (by omega)) (by omega)]
    rfl
  refine ⟨⟨by rw [lo 1 (by omega) (by omega)]; exact p1, by rw [lo 2 (by omega) (by omega)]; exact p2, by rw [lo 4 (by omega) (by omega), lo 5 (by omega) (by omega), lo 7 (by omega) (by omega)]; exact p3, by rw [hd]; exact p4, by rw [hd, lo 8 (by omega) (by omega)]; exact p5⟩, ⟨a, by rw [p_cn_congr (fun b hb => lo _ (by omega) (by omega))]; exact a1, a2, by rw [lo 6 (by omega) (by omega)]; exact a3⟩, fun c hc => ?_, fun b hb => p_VB1_congr (fun i hi => lo _ (by omega) (by omega)) (q4 b hb)⟩
  by_cases e : c = C
  · subst e
    exact ⟨mv_rg sg i, 0, 0, 0, hr, by omega, by omega, by omega, g8, g9 9 (by omega) (by omega), g9 10 (by omega) (by omega), g9 11 (by omega) (by omega)⟩
  · exact p_VC1_congr (fun i h1 h2 => lo _ (by omega) (by omega)) (q3 c (by omega))
theorem p_rg {i : Nat} (h : sg (i + mv_nT sg i) = 42 → mv_Dg (sg (i + mv_nT sg i + 1)) = true) : mv_rg sg i ≤ 9 := by
  unfold mv_rg
  split
  · next e =>
    have := h e
    unfold mv_Dg at this
    have h2 : 48 ≤ sg (i + mv_nT sg i + 1) ∧ sg (i + mv_nT sg i + 1) ≤ 57 := by simpa using this
    omega
  · omega
theorem p_VR_tv (hin : ∀ k, sg k ≠ 0 → k < M) : ∀ (f i K C : Nat) (v : Nat → Int32), mv_gx (mv_faT sg) (mv_en sg) 59 sg M f i = (none, K) → C + K ≤ 4 → p_VR v C B D → p_VR (mv_tv sg K v C i) (C + K) B D
  | 0, i, K, C, v, h, _, _ => by cases h
  | f + 1, i, K, C, v, h, hC, hV => by
    rw [mv_gx] at h
    cases hfa : mv_faT sg i with
    | some p => rw [hfa] at h; cases h
    | none =>
      rw [hfa] at h
      dsimp only at h
      obtain ⟨h1, h2, h3, h4⟩ := mv_enT hin hfa
      have hn7 : mv_nT sg i ≤ 7 := mv_tn_le sg 7 i
      by_cases hE : M ≤ mv_en sg i
      · rw [if_pos hE] at h
        have hK : 1 = K := (Prod.mk.inj h).2
        subst hK
        exact p_VR_ac (by omega) hn7 (p_rg h4) hV
      · rw [if_neg hE] at h
        by_cases hs : sg (mv_en sg i) = 59
        · rw [if_pos hs] at h
          have hh := Prod.mk.inj h
          obtain ⟨K, rfl⟩ := Nat.exists_eq_succ_of_ne_zero (show K ≠ 0 by omega)
          have hK : (mv_gx (mv_faT sg) (mv_en sg) 59 sg M f (mv_en sg i + 1)).2 = K := by omega
          have := p_VR_tv hin f (mv_en sg i + 1) K (C + 1) (mv_ac sg v C i) (Prod.ext hh.1 hK) (by omega) (p_VR_ac (by omega) hn7 (p_rg h4) hV)
          rw [show C + 1 + K = C + (K + 1) by omega] at this
          exact this
        · rw [if_neg hs] at h; cases h
theorem p_VR_lv (hin : ∀ k, sg k ≠ 0 → k < M) (hD : D < 90000) : ∀ (f i K B : Nat) (v : Nat → Int32), mv_gx (mv_faL sg) (fun i => i + 3) 44 sg M f i = (none, K) → B + K ≤ 8 → mv_VV v C B D → p_VR v C B D → p_VR (mv_lv sg C D K v B i) C (B + K) D
  | 0, i, K, B, v, h, _, _, _ => by cases h
  | f + 1, i, K, B, v, h, hB, hV, H => by
    rw [mv_gx] at h
    cases hfa : mv_faL sg i with
    | some p => rw [hfa] at h; cases h
    | none =>
      rw [hfa] at h
      dsimp only at h
      obtain ⟨z1, z2, z3, z4, z5⟩ := mv_enL hin hfa
      have t1 := mv_T48 z2
      have t2 := mv_T48 z4
      by_cases hE : M ≤ i + 3
      · rw [if_pos hE] at h
        have hK : 1 = K := (Prod.mk.inj h).2
        subst hK
        exact p_VR_po hV (by omega) (by omega) (by omega) (by omega) (by omega) H
      · rw [if_neg hE] at h
        by_cases hs : sg (i + 3) = 44
        · rw [if_pos hs] at h
          have hh := Prod.mk.inj h
          obtain ⟨K, rfl⟩ := Nat.exists_eq_succ_of_ne_zero (show K ≠ 0 by omega)
          have hK : (mv_gx (mv_faL sg) (fun i => i + 3) 44 sg M f (i + 3 + 1)).2 = K := by omega
          have := p_VR_lv hin hD f (i + 3 + 1) K (B + 1) (mv_pv v C B D (sg i - 48) (sg (i + 2) - 48)) (Prod.ext hh.1 hK) (by omega) (mv_VV_pw hV (by omega) (by omega) (by omega)) (p_VR_po hV (by omega) (by omega) (by omega) (by omega) (by omega) H)
          rw [show B + 1 + K = B + (K + 1) by omega] at this
          exact this
        · rw [if_neg hs] at h; cases h
/-- a text without a fault is not empty, and does not end with a sign between two -/
theorem p_gx_last {s : Nat} {fa : Nat → Option Nat} {en : Nat → Nat} (hen : ∀ i, fa i = none → i + 1 ≤ en i ∧ en i ≤ M ∧ ∀ j, i ≤ j → j < en i → ¬ sg j = s) : ∀ f i K, mv_gx fa en s sg M f i = (none, K) → i < M ∧ ¬ sg (M - 1) = s
  | 0, i, K, h => by cases h
  | f + 1, i, K, h => by
    rw [mv_gx] at h
    cases hfa : fa i with
    | some p => rw [hfa] at h; cases h
    | none =>
      rw [hfa] at h
      obtain ⟨h1, h2, h3⟩ := hen i hfa
      dsimp only at h
      by_cases hE : M ≤ en i
      · have : en i = M := by omega
        exact ⟨by omega, h3 (M - 1) (by omega) (by omega)⟩
      · rw [if_neg hE] at h
        by_cases hs : sg (en i) = s
        · rw [if_pos hs] at h
          have h4 := Prod.mk.inj h
          obtain ⟨r1, r2⟩ := p_gx_last hen f (en i + 1) (mv_gx fa en s sg M f (en i + 1)).2 (Prod.ext h4.1 rfl)
          exact ⟨by omega, r2⟩
        · rw [if_neg hs] at h; cases h
end PT
/-- how often a sign stands in a pad -/
def p_nc (s : Nat) (l : List Nat) : Nat := mv_cnt (p_sg l) s l.length
theorem p_sg_app {l m : List Nat} {k : Nat} (h : k < l.length) : p_sg (l ++ m) k = p_sg l k := by
  unfold p_sg
  rw [List.getD_eq_getElem?_getD, List.getD_eq_getElem?_getD, List.getElem?_append_left h]
theorem p_sg_end {l : List Nat} {c : Nat} : p_sg (l ++ [c]) l.length = c := by
  unfold p_sg
  rw [List.getD_eq_getElem?_getD, List.getElem?_append_right (Nat.le_refl _)]
  simp
theorem mv_cnt_cg {f g : Nat → Nat} {s : Nat} : ∀ k, (∀ i, i < k → f i = g i) → mv_cnt f s k = mv_cnt g s k
  | 0, _ => rfl
  | k + 1, h => by
    show mv_cnt f s k + (if f k = s then 1 else 0) = mv_cnt g s k + (if g k = s then 1 else 0)
    rw [mv_cnt_cg k (fun i hi => h i (by omega)), h k (by omega)]
theorem p_nc_app {s c : Nat} {l : List Nat} : p_nc s (l ++ [c]) = p_nc s l + (if c = s then 1 else 0) := by
  unfold p_nc
  rw [List.length_append]
  show mv_cnt (p_sg (l ++ [c])) s l.length + (if p_sg (l ++ [c]) l.length = s then 1 else 0) = _
  rw [p_sg_end, mv_cnt_cg l.length (fun i hi => p_sg_app hi)]
theorem p_nc_nil {s : Nat} : p_nc s [] = 0 := rfl
/-- of a text of tours without a fault: so many tours -/
theorem p_fineT {l : List Nat} {K : Nat} (hK : mv_tx (p_sg l) l.length 100 0 = (none, K)) : K = 1 + p_nc 59 l ∧ 0 < l.length ∧ ¬ p_sg l (l.length - 1) = 59 := by
  have hin : ∀ k, p_sg l k ≠ 0 → k < l.length := fun k hk => by
    apply Classical.byContradiction
    intro z
    exact hk (p_sg_out (by omega))
  have hgx : mv_gx (mv_faT (p_sg l)) (mv_en (p_sg l)) 59 (p_sg l) l.length 100 0 = (none, K) := by rw [← mv_tx_gx]; exact hK
  obtain ⟨h1, h2⟩ := p_cntT hin hK
  obtain ⟨h3, h4⟩ := p_gx_last (mv_hskip hin) 100 0 K hgx
  exact ⟨h2.symm, h3, h4⟩
theorem p_fineL {l : List Nat} {K : Nat} (hK : mv_ly (p_sg l) l.length 100 0 = (none, K)) : K = 1 + p_nc 44 l ∧ 0 < l.length ∧ ¬ p_sg l (l.length - 1) = 44 := by
  have hin : ∀ k, p_sg l k ≠ 0 → k < l.length := fun k hk => by
    apply Classical.byContradiction
    intro z
    exact hk (p_sg_out (by omega))
  have hgx : mv_gx (mv_faL (p_sg l)) (fun i => i + 3) 44 (p_sg l) l.length 100 0 = (none, K) := by rw [← mv_ly_gx]; exact hK
  obtain ⟨h1, h2⟩ := p_cntL hin hK
  obtain ⟨h3, h4⟩ := p_gx_last (mv_hskipL hin) 100 0 K hgx
  exact ⟨h2.symm, h3, h4⟩
/-- a text of n readings as the law types it: l, and perhaps a sign between two behind it -/
def p_ty (s n : Nat) (l : List Nat) : Prop := ∃ l', (n = 0 → l' = []) ∧ (0 < n → p_nc s l' + 1 = n) ∧ (l = l' ∨ l = l' ++ [s])
theorem p_ty_T {n K : Nat} {l : List Nat} (h : p_ty 59 n l) (hK : mv_tx (p_sg l) l.length 100 0 = (none, K)) : K = n := by
  obtain ⟨k1, k2, k3⟩ := p_fineT hK
  obtain ⟨l', h0, h1, h | h⟩ := h
  · subst h
    by_cases hn : n = 0
    · rw [h0 hn] at k2; exact absurd k2 (by decide)
    · have := h1 (by omega); omega
  · exfalso
    apply k3
    rw [h, List.length_append, show l'.length + [59].length - 1 = l'.length from rfl, p_sg_end]
theorem p_ty_L {n K : Nat} {l : List Nat} (h : p_ty 44 n l) (hK : mv_ly (p_sg l) l.length 100 0 = (none, K)) : K = n := by
  obtain ⟨k1, k2, k3⟩ := p_fineL hK
  obtain ⟨l', h0, h1, h | h⟩ := h
  · subst h
    by_cases hn : n = 0
    · rw [h0 hn] at k2; exact absurd k2 (by decide)
    · have := h1 (by omega); omega
  · exfalso
    apply k3
    rw [h, List.length_append, show l'.length + [44].length - 1 = l'.length from rfl, p_sg_end]
