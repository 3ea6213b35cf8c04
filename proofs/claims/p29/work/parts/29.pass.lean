section S6
variable {v v' : Nat → Int32} {C B D : Nat}
theorem mv_tw_6 (h : ∀ k, k ≠ 6 → v' k = v k) (c D : Nat) : mv_tw v' c D = mv_tw v c D := by
  unfold mv_tw
  rw [h (16 + 12 * c + 9) (by omega), h (16 + 12 * c + 0) (by omega), h (16 + 12 * c + (1 + D % (v (16 + 12 * c + 0)).toNatClampNeg)) (by omega)]
theorem mv_sw_6 (h : ∀ k, k ≠ 6 → v' k = v k) (D : Nat) : mv_sw v' D = mv_sw v D := by
  unfold mv_sw; rw [h _ (by omega)]
theorem mv_tb_6 (h : ∀ k, k ≠ 6 → v' k = v k) (C : Nat) (t : Int32) (D : Nat) : mv_tb v' C t D = mv_tb v C t D := by
  unfold mv_tb
  have : (fun c => decide (mv_tw v' c D = t)) = (fun c => decide (mv_tw v c D = t)) := by funext c; rw [mv_tw_6 h]
  rw [this]
theorem mv_hs_6 (h : ∀ k, k ≠ 6 → v' k = v k) (B c : Nat) : mv_hs v' B c = mv_hs v B c := by
  unfold mv_hs
  have : ∀ b, v' (64 + 8 * b + 2) = v (64 + 8 * b + 2) := fun b => h _ (by omega)
  simp only [this]
theorem mv_st1_6 (h : ∀ k, k ≠ 6 → v' k = v k) (C : Nat) (lies : Int32) (S D : Nat) : mv_st1 v' C lies S D = mv_st1 v C lies S D := by
  unfold mv_st1; rw [mv_tb_6 h, mv_tb_6 h, mv_sw_6 h]
theorem mv_AR_6 (h : ∀ k, k ≠ 6 → v' k = v k) (C : Nat) (to lies : Int32) : ∀ n S D, mv_AR v' C to lies n S D = mv_AR v C to lies n S D
  | 0, _, _ => rfl
  | n + 1, S, D => by rw [mv_AR, mv_AR, mv_tb_6 h, mv_st1_6 h, mv_AR_6 h C to lies n]
theorem mv_gl_6 (h : ∀ k, k ≠ 6 → v' k = v k) (C B b D : Nat) : mv_gl v' C B b D = mv_gl v C B b D := by
  have h2 := h (64 + 8 * b + 2) (by omega)
  have h0 := h (64 + 8 * b + 0) (by omega)
  have h1 := h (64 + 8 * b + 1) (by omega)
  have hAB : mv_AB v' C b D = mv_AB v C b D := by unfold mv_AB mv_wm; rw [h2, h1, h0, mv_AR_6 h]
  have hhr : mv_hr v' b D = mv_hr v b D := by unfold mv_hr; rw [h2, h1, mv_tw_6 h]
  have hgs : mv_gs v' C b D = mv_gs v C b D := by unfold mv_gs; rw [h2, hhr, mv_tb_6 h, mv_sw_6 h]
  have hgq : ∀ c, mv_gq v' C B b D c = mv_gq v C B b D c := by
    intro c
    unfold mv_gq mv_cn
    rw [hgs, h2, h 1 (by omega), mv_hs_6 h, h0, mv_AR_6 h]
  have hgf : mv_gf v' C B b D = mv_gf v C B b D := by funext c s; unfold mv_gf; rw [hgq]
  unfold mv_gl
  rw [hAB, hgf]
theorem mv_ch1_v6 {b c : Nat} : mv_ch1 v b c 6 = v 6 := by
  unfold mv_ch1; rw [mv_vu_ne (by omega), mv_vu_ne (by omega), mv_vu_ne (by omega), mv_vu_ne (by omega), mv_vu_ne (by omega), mv_vu_ne (by omega)]
theorem mv_ch1_6 {b c : Nat} {x : Int32} : mv_ch1 (mv_vu v 6 x) b c = mv_vu (mv_ch1 v b c) 6 x := by
  unfold mv_ch1 mv_lo
  rw [mv_vu_ne (show 64 + 8 * b + 6 ≠ 6 by omega), mv_vu_ne (show 16 + 12 * c + 10 ≠ 6 by omega), mv_vu_ne (show 8 ≠ 6 by omega), mv_vu_ne (show 2 ≠ 6 by omega), mv_vu_comm (v := v) (k := 6) (by omega), mv_vu_comm (k := 6) (j := 64 + 8 * b + 2) (by omega), mv_vu_comm (k := 6) (j := 64 + 8 * b + 6) (by omega), mv_vu_comm (k := 6) (j := 8) (by omega), mv_vu_comm (k := 6) (j := 16 + 12 * c + 10) (by omega), mv_vu_comm (k := 6) (j := 2) (by omega)]
theorem mv_chg_v6 {b c : Nat} : mv_chg v b c 6 = v 6 := by
  unfold mv_chg
  split
  · exact mv_ch1_v6
  · split
    · rw [mv_vu_ne (by omega), mv_vu_ne (by omega)]; exact mv_ch1_v6
    · exact mv_ch1_v6
theorem mv_chg_6 {b c : Nat} {x : Int32} : mv_chg (mv_vu v 6 x) b c = mv_vu (mv_chg v b c) 6 x := by
  unfold mv_chg
  rw [mv_vu_ne (show 64 + 8 * b + 5 ≠ 6 by omega), mv_vu_ne (show 16 + 12 * c + 11 ≠ 6 by omega), mv_vu_ne (show 16 + 12 * c + 8 ≠ 6 by omega), mv_ch1_6, show mv_lo (mv_vu v 6 x) = mv_lo v by unfold mv_lo; rw [mv_vu_ne (by omega)]]
  split
  · rfl
  · split
    · rw [mv_vu_comm (k := 6) (j := 64 + 8 * b + 5) (by omega), mv_vu_comm (k := 6) (j := 16 + 12 * c + 11) (by omega)]
    · rfl
theorem mv_go_v6 {b : Nat} : mv_go v C B b D 6 = v 6 := by
  unfold mv_go
  cases (mv_gl v C B b D).1 with
  | none => rfl
  | some c => exact mv_chg_v6
theorem mv_go_6 {b : Nat} {x : Int32} : mv_go (mv_vu v 6 x) C B b D = mv_vu (mv_go v C B b D) 6 x := by
  unfold mv_go
  rw [mv_gl_6 (v := v) (v' := mv_vu v 6 x) (fun k hk => mv_vu_ne hk)]
  cases (mv_gl v C B b D).1 with
  | none => rfl
  | some c => exact mv_chg_6
def mv_ad (s : Nat × (Nat → Int32)) : Nat → Int32 := mv_vu s.2 6 (s.2 6 + nI s.1)
theorem mv_ad_df {b : Nat} {s : Nat × (Nat → Int32)} (ha : s.2 (64 + 8 * b + 3) = nI 0) : mv_mo (mv_ad s) C B b D = mv_ad (mv_df C B D b s) := by
  obtain ⟨m, v⟩ := s
  have ha' : v (64 + 8 * b + 3) = nI 0 := ha
  unfold mv_mo mv_df mv_ad
  dsimp only
  rw [mv_vu_ne (show 64 + 8 * b + 2 ≠ 6 by omega), mv_vu_ne (show 64 + 8 * b + 0 ≠ 6 by omega), mv_tw_6 (v := v) (fun k hk => mv_vu_ne hk), mv_vu_eq, mv_go_6]
  by_cases q : nI 0 ≤ v (64 + 8 * b + 2) - nI 1 ∧ mv_tw v ((v (64 + 8 * b + 2)).toNatClampNeg - 1) D = v (64 + 8 * b + 0)
  · rw [if_pos q, if_pos q]
    dsimp only
    rw [mv_vu_comm (v := v) (k := 6) (by omega), mv_vu_comm (k := 6) (j := 64 + 8 * b + 3) (by omega), mv_vu_vu, mv_vu_ne (show 6 ≠ 64 + 8 * b + 3 by omega), mv_vu_ne (show 6 ≠ 64 + 8 * b + 2 by omega), Int32.add_assoc, nI_add]
  · rw [if_neg q, if_neg q, if_pos ha']
    dsimp only
    rw [mv_go_v6]
theorem mv_df_done {b a : Nat} {s : Nat × (Nat → Int32)} (hw : s.2 (64 + 8 * b + 2) = nI 0) (ha : s.2 (64 + 8 * b + 3) = nI a) (h0 : a ≠ 0) (h1 : a < 2 ^ 31) : mv_df C B D b s = s := by
  unfold mv_df
  rw [hw, if_neg (fun z => absurd z.1 (by decide)), ha, if_neg (fun z => h0 ((mv_eq h1 (by omega)).mp z))]
theorem mv_VV_ad {s : Nat × (Nat → Int32)} (h : mv_VV s.2 C B D) : mv_VV (mv_ad s) C B D := mv_VV_of h (fun k hr => by unfold mv_rel at hr; exact mv_vu_ne (by omega))
theorem mv_df_v6 {b : Nat} {s : Nat × (Nat → Int32)} : (mv_df C B D b s).2 6 = s.2 6 := by
  unfold mv_df
  split
  · show mv_vu _ _ _ 6 = _
    rw [mv_vu_ne (by omega), mv_vu_ne (by omega)]
  · split
    · exact mv_go_v6
    · rfl
theorem mv_dl_v6 : (mv_dl C B D v).2 6 = v 6 := by
  have key : ∀ k s, (mv_it (mv_df C B D) k 0 s).2 6 = s.2 6 := by
    intro k s
    induction k with
    | zero => rfl
    | succ k ih => rw [mv_it_last, mv_df_v6, ih]
  unfold mv_dl
  rw [key]
  show mv_vu v 0 (nI D) 6 = v 6
  exact mv_vu_ne (by decide)
theorem mv_dy_v6 : (mv_dy C B D v).2 6 = v 6 + nI (mv_dy C B D v).1 := by
  show mv_vu (mv_dl C B D v).2 6 ((mv_dl C B D v).2 6 + nI (mv_dl C B D v).1) 6 = _
  rw [mv_vu_eq, mv_dl_v6]; rfl
theorem mv_ps_v6 {n : Nat} : (mv_ps C B D n v).2.2 6 = v 6 + nI (mv_ps C B D n v).2.1 := by
  have key : ∀ k, (mv_it (mv_ds C B) k 0 (D, 0, v)).2.2 6 = v 6 + nI (mv_it (mv_ds C B) k 0 (D, 0, v)).2.1 := by
    intro k
    induction k with
    | zero => show v 6 = v 6 + nI 0; exact (Int32.add_zero _).symm
    | succ k ih =>
      rw [mv_it_last]
      generalize mv_it (mv_ds C B) k 0 (D, 0, v) = s at ih
      show (mv_dy C B (s.1 + 1) s.2.2).2 6 = v 6 + nI (s.2.1 + (mv_dy C B (s.1 + 1) s.2.2).1)
      rw [mv_dy_v6, ih, Int32.add_assoc, nI_add]
  exact key n
end S6
section P1
variable {h0 : mv_Hp} {I : Nat → Nat → Int32} {r C B D : Nat} {v : Nat → Int32}
theorem ro_passDay (hF : mv_FS h0) (hr : r + 20 ≤ 145) (hR : mv_RS h0 r) (hW : mv_RV h0 I r v C B) (hV : mv_VV v C B D) (hD : D + 1 < 90000) : ∃ I', F_X5_passDay r (some 145) (mv_hp h0 I) = some ((), mv_hp h0 I') ∧ mv_RV h0 I' r (mv_dy C B (D + 1) v).2 C B ∧ mv_fr r I I' := by
  have hB8 := hV.2.2.2.2.1
  have hC4 := hV.2.2.2.1
  obtain ⟨I1, e1, W1, F1⟩ := st_r hR hB8 hW 5 0 (nI (D + 1)) (by omega)
  have ad0 : mv_ad (0, mv_vu v 0 (nI (D + 1))) = mv_vu v 0 (nI (D + 1)) := by
    show mv_vu (mv_vu v 0 (nI (D + 1))) 6 (mv_vu v 0 (nI (D + 1)) 6 + nI 0) = _
    rw [show ∀ x : Int32, x + nI 0 = x from fun x => Int32.add_zero x, mv_vu_self]
  unfold F_X5_passDay
  rw [ro_gI hR, hW.1.2.2.1, hV.1, li1, nI_add, e1, li0]
  obtain ⟨n, I2, e2, W2, V2, F2⟩ := mv_lp (L := fun n b (J : Nat → Nat → Int32) => Lp_X5_passDay_12 r (some 145) n (nI b) (mv_hp h0 J)) (fun b J => mv_RV h0 J r (mv_ad (mv_it (mv_df C B (D + 1)) b 0 (0, mv_vu v 0 (nI (D + 1))))) C B ∧ mv_VV (mv_it (mv_df C B (D + 1)) b 0 (0, mv_vu v 0 (nI (D + 1)))).2 C B (D + 1) ∧ mv_fr r I J) B (by omega)
    (fun n b J hb hP => by
      obtain ⟨p1, p2, p3⟩ := hP
      have e0 := mv_it_last (mv_df C B (D + 1)) b 0 (0, mv_vu v 0 (nI (D + 1)))
      rw [Nat.zero_add] at e0
      rw [e0]
      generalize mv_it (mv_df C B (D + 1)) b 0 (0, mv_vu v 0 (nI (D + 1))) = s at p1 p2
      have pV := mv_VV_ad p2
      obtain ⟨-, ⟨l, w, a, q1, q2, q3, q4, q5, q6, q7⟩, -⟩ := p2.2.2.2.2.2.2.2 b hb
      have q6' : mv_ad s (64 + 8 * b + 3) = nI a := by unfold mv_ad; rw [mv_vu_ne (by omega)]; exact q6
      rw [Lp_X5_passDay_12]
      unfold J_X5_passDay_45
      rw [ro_gI hR, p1.1.2.1, pV.2.2.1, ev_f (nI_ge hb (by omega)), ro_rc hR, ro_bundleAt' hR p1 pV hb, ev_f (by simp), ro_bI hR (by omega), (p1.2.2.2 b hb).2.2.2.1, q6', li4, lin4, li1, nI_add]
      by_cases ha : a = 0
      · subst ha
        obtain ⟨J2, z1, z2, z3⟩ := ro_move hF hr hR p1 pV hD hb q6'
        rw [ev_t mv_dn0, ro_rc hR, ev_bd z1]
        rw [mv_ad_df q6] at z2
        exact ⟨J2, rfl, z2, mv_VV_df p2 hb, mv_fr_trans p3 z3⟩
      · rw [ev_f (fun z => ha ((mv_dn_n4 (by omega)).mp z))]
        have : w = 0 := by omega
        subst this
        rw [mv_df_done q5 q6 ha (by omega)]
        exact ⟨J, rfl, p1, p2, p3⟩)
    I1 ⟨by show mv_RV h0 I1 r (mv_ad (0, mv_vu v 0 (nI (D + 1)))) C B; rw [ad0]; exact W1, mv_VV_day hV, F1⟩
  have pV := mv_VV_ad V2
  rw [e2, Lp_X5_passDay_12, ro_gI hR, W2.1.2.1, pV.2.2.1, ev_t (nI_le (Nat.le_refl _) (by omega))]
  exact ⟨I2, rfl, W2, F2⟩
end P1
