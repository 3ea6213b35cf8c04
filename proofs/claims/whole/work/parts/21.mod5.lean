section M6
variable {h0 : mv_Hp} {I : Nat → Nat → Int32} {C B D : Nat} {β : Type}
theorem mo_goDay (hM : mv_MS h0) (hV : mv_VV (I 148) C B D) (hD : D + 1 < 100000) : F_X7_goDay 147 (mv_hp h0 I) = some (nI (mv_dy C B (D + 1) (I 148)).1, mv_hp h0 (mv_si I 148 (mv_dy C B (D + 1) (I 148)).2)) := by
  have hB8 := hV.2.2.2.2.1
  unfold F_X7_goDay
  rw [mo_g0 hM, li0, mo_r148 hM (by omega), hV.1, li1, nI_add, mo_w148 hM (by omega)]
  have key := mv_it_go' (L := fun n b s => Lp_X7_goDay_14 147 n (nI s.1) (nI b) (mv_hp h0 (mv_si I 148 s.2))) (mv_df C B (D + 1)) (fun s => some (nI s.1, mv_hp h0 (mv_si I 148 (mv_vu s.2 6 (s.2 6 + nI s.1))))) B (fun _ s => mv_VV s.2 C B (D + 1)) (0, mv_vu (I 148) 0 (nI (D + 1))) (by omega)
    (fun n b s hb hP => by
      refine ⟨?_, mv_VV_df hP hb⟩
      have hP0 := hP
      obtain ⟨e0, e3, e4, hC4, -, -, hVC, hVB⟩ := hP
      obtain ⟨-, ⟨l, w, a, q1, q2, q3, q4, q5, q6, q7⟩, p5⟩ := hVB b hb
      obtain ⟨m, v⟩ := s
      have e0' : v 0 = nI (D + 1) := e0
      have e4' : v 4 = nI B := e4
      have q5' : v (64 + 8 * b + 2) = nI w := q5
      have hVC' : mv_VC (mv_si I 148 v 148) C := by rw [mv_si_eq]; exact hVC
      have hV' : mv_VV (mv_si I 148 v 148) C B (D + 1) := by rw [mv_si_eq]; exact hP0
      have j84 : (J_X7_goDay_84 (Lp_X7_goDay_14 147 n) 147 (nI m) (nI b) (mv_hp h0 (mv_si I 148 v))) = Lp_X7_goDay_14 147 n (nI m) (nI (b + 1)) (mv_hp h0 (mv_si I 148 (if v (64 + 8 * b + 3) = nI 0 then mv_go v C B b (D + 1) else v))) := by
        unfold J_X7_goDay_84 J_X7_goDay_98
        rw [mo_rc hM, li3, mo_of' hM (by omega), mv_si_eq]
        by_cases c : v (64 + 8 * b + 3) = nI 0
        · rw [ev_t (show v (64 + 8 * b + 3) = 0 from c), if_pos c, mo_rc hM, mo_goesOn' hM hV' (by omega) hb, li1, nI_add, mv_si_eq, mv_si_si]
        · rw [ev_f (show ¬ v (64 + 8 * b + 3) = 0 from c), if_neg c, li1, nI_add]
      have d0 : ¬ (nI 0 ≤ v (64 + 8 * b + 2) - nI 1 ∧ mv_tw v ((v (64 + 8 * b + 2)).toNatClampNeg - 1) (D + 1) = v (64 + 8 * b + 0)) → mv_df C B (D + 1) b (m, v) = (m, if v (64 + 8 * b + 3) = nI 0 then mv_go v C B b (D + 1) else v) := by
        intro z
        unfold mv_df
        rw [if_neg z]
        by_cases c : v (64 + 8 * b + 3) = nI 0
        · rw [if_pos c, if_pos c]
        · rw [if_neg c, if_neg c]
      have d1 : (nI 0 ≤ v (64 + 8 * b + 2) - nI 1 ∧ mv_tw v ((v (64 + 8 * b + 2)).toNatClampNeg - 1) (D + 1) = v (64 + 8 * b + 0)) → mv_df C B (D + 1) b (m, v) = (m + 1, mv_vu (mv_vu v (64 + 8 * b + 2) (nI 0)) (64 + 8 * b + 3) (nI (D + 1 + 1))) := by
        intro z
        unfold mv_df
        rw [if_pos z]
      show Lp_X7_goDay_14 147 (n + 1) (nI m) (nI b) (mv_hp h0 (mv_si I 148 v)) = Lp_X7_goDay_14 147 n (nI (mv_df C B (D + 1) b (m, v)).1) (nI (b + 1)) (mv_hp h0 (mv_si I 148 (mv_df C B (D + 1) b (m, v)).2))
      rw [Lp_X7_goDay_14, mo_g0 hM, li4, mo_r148 hM (by omega), mv_si_eq, e4', ev_f (nI_ge hb (by omega)), mo_rc hM, li2, mo_of' hM (by omega), ev_bpu, mv_si_eq, li1]
      rcases mv_w_cases (w := w) (by omega) with ⟨rfl, hw⟩ | ⟨hw1, hw⟩
      · have e6 : v (64 + 8 * b + 2) - nI 1 = mv_n1 := by rw [q5']; exact hw
        rw [d0 (fun z => absurd z.1 (by rw [e6]; decide)), e6, ev_t (show mv_n1 < 0 by decide), j84]
      · have e6 : v (64 + 8 * b + 2) - nI 1 = nI (w - 1) := by rw [q5']; exact hw
        have e7 : (v (64 + 8 * b + 2)).toNatClampNeg - 1 = w - 1 := by rw [q5', nI_clamp (by omega)]
        rw [e6, ev_f (show ¬ nI (w - 1) < 0 from nI_pos (by omega)), mo_g0 hM, li0, mo_r148 hM (by omega), mv_si_eq, e0', mo_rc hM, mo_townOf' hM hVC' hC4 (by omega) (by omega), mo_rc hM, mo_of' hM (by omega), mv_si_eq]
        by_cases c : mv_tw v (w - 1) (D + 1) = v (64 + 8 * b + 0)
        · rw [ev_t c, d1 ⟨by rw [e6]; exact nI_le (Nat.zero_le _) (by omega), by rw [e7]; exact c⟩]
          unfold J_X7_goDay_98
          rw [mo_rc hM, mo_lays' hM (by omega), mo_g0 hM, mo_r148 hM (by omega), mv_si_eq, mv_si_eq, mv_si_si, mv_vu_ne (by omega), e0', mo_rc hM, li3, nI_add, mo_lays' hM (by omega), mv_si_eq, mv_si_si, nI_add, li1, nI_add]
        · rw [ev_f c, d0 (fun z => c (by rw [← e7]; exact z.2)), j84])
    (fun n s hP => by
      obtain ⟨e0, e3, e4, -⟩ := hP
      show Lp_X7_goDay_14 147 (n + 1) (nI s.1) (nI B) (mv_hp h0 (mv_si I 148 s.2)) = _
      rw [Lp_X7_goDay_14, mo_g0 hM, li4, mo_r148 hM (by omega), mv_si_eq, e4, ev_t (nI_le (Nat.le_refl _) (by omega)), mo_g0 hM, li6, mo_r148 hM (by omega), mo_w148 hM (by omega), mv_si_eq, mv_si_si]
      rfl)
    (mv_VV_day hV)
  exact key.1
theorem mo_goDay' (hM : mv_MS h0) (hV : mv_VV (I 148) C B D) (hD : D + 1 < 100000) {g : Int32 → mv_M β} : mv_bd (F_X7_goDay 147) g (mv_hp h0 I) = g (nI (mv_dy C B (D + 1) (I 148)).1) (mv_hp h0 (mv_si I 148 (mv_dy C B (D + 1) (I 148)).2)) := ev_bd (mo_goDay hM hV hD)
theorem mo_goPass (hM : mv_MS h0) (hV : mv_VV (I 148) C B D) {N : Nat} (hN : N ≤ 30) (hD : D + N < 99999) : F_X7_goPass 147 (nI N) (mv_hp h0 I) = some (nI (mv_ps C B D N (I 148)).2.1, mv_hp h0 (mv_si I 148 (mv_ps C B D N (I 148)).2.2)) := by
  unfold F_X7_goPass
  rw [li0]
  have key := mv_it_go' (L := fun n k s => Lp_X7_goPass_4 147 (nI N) n (nI s.2.1) (nI k) (mv_hp h0 (mv_si I 148 s.2.2))) (mv_ds C B) (fun s => some (nI s.2.1, mv_hp h0 (mv_si I 148 s.2.2))) N (fun k s => mv_VV s.2.2 C B s.1 ∧ s.1 = D + k) (D, 0, I 148) (by omega)
    (fun n k s hk hP => by
      obtain ⟨hP, hs⟩ := hP
      refine ⟨?_, mv_VV_dy hP, by show s.1 + 1 = D + (k + 1); omega⟩
      have hV' : mv_VV (mv_si I 148 s.2.2 148) C B s.1 := by rw [mv_si_eq]; exact hP
      show Lp_X7_goPass_4 147 (nI N) (n + 1) (nI s.2.1) (nI k) (mv_hp h0 (mv_si I 148 s.2.2)) = _
      rw [Lp_X7_goPass_4, ev_f (nI_ge hk (by omega)), mo_rc hM, mo_goDay' hM hV' (by omega), ev_bpu, nI_add, li1, nI_add, mv_si_eq, mv_si_si]
      rfl)
    (fun n s hP => by
      show Lp_X7_goPass_4 147 (nI N) (n + 1) (nI s.2.1) (nI N) (mv_hp h0 (mv_si I 148 s.2.2)) = _
      rw [Lp_X7_goPass_4, ev_t (nI_le (Nat.le_refl _) (by omega))]
      rfl)
    ⟨hV, rfl⟩
  have e := key.1
  dsimp only at e
  rw [mv_si_self] at e
  exact e
theorem mo_goPass' (hM : mv_MS h0) (hV : mv_VV (I 148) C B D) {N : Nat} (hN : N ≤ 30) (hD : D + N < 99999) {g : Int32 → mv_M β} : mv_bd (F_X7_goPass 147 (nI N)) g (mv_hp h0 I) = g (nI (mv_ps C B D N (I 148)).2.1) (mv_hp h0 (mv_si I 148 (mv_ps C B D N (I 148)).2.2)) := ev_bd (mo_goPass hM hV hN hD)
/-- copies: 128 places of row a from x on into row t from y on -/
def mv_cp (f g : Nat → Int32) (x y n : Nat) : Nat → Int32 := fun j => if y ≤ j ∧ j < y + n then f (x + (j - y)) else g j
theorem mv_cp_0 {f g : Nat → Int32} {x y : Nat} : mv_cp f g x y 0 = g := by funext j; unfold mv_cp; rw [if_neg (by omega)]
theorem mv_cp_s {f g : Nat → Int32} {x y n : Nat} : mv_vu (mv_cp f g x y n) (y + n) (f (x + n)) = mv_cp f g x y (n + 1) := by
  funext j
  unfold mv_vu mv_cp
  by_cases h : j = y + n
  · subst h; rw [if_pos rfl, if_pos (by omega), show x + (y + n - y) = x + n by omega]
  · rw [if_neg h]
    by_cases h2 : y ≤ j ∧ j < y + n
    · rw [if_pos h2, if_pos (by omega)]
    · rw [if_neg h2, if_neg (by omega)]
theorem mo_copies {a t x y na nt : Nat} (ha : h0.1[a]? = some (8, na)) (ht : h0.1[t]? = some (8, nt)) (hx : x + 128 ≤ na) (hy : y + 128 ≤ nt) (hn : na < 10000) (hn2 : nt < 10000) (hat : a ≠ t) : F_X7_copies (some a) (nI x) (some t) (nI y) (mv_hp h0 I) = some ((), mv_hp h0 (mv_si I t (mv_cp (I a) (I t) x y 128))) := by
  unfold F_X7_copies
  rw [li0]
  have key : ∀ (k n c : Nat), c + k = 128 → k < n → Lp_X7_copies_3 (some a) (nI x) (some t) (nI y) n (nI c) (mv_hp h0 (mv_si I t (mv_cp (I a) (I t) x y c))) = some ((), mv_hp h0 (mv_si I t (mv_cp (I a) (I t) x y 128))) := by
    intro k
    induction k with
    | zero =>
      intro n c hc hn
      obtain ⟨n, rfl⟩ := Nat.exists_eq_succ_of_ne_zero (show n ≠ 0 by omega)
      rw [Lp_X7_copies_3, li128, ev_t (nI_le (by omega) (by omega)), show c = 128 by omega]
      rfl
    | succ k ih =>
      intro n c hc hn
      obtain ⟨n, rfl⟩ := Nat.exists_eq_succ_of_ne_zero (show n ≠ 0 by omega)
      rw [Lp_X7_copies_3, li128, ev_f (nI_ge (by omega) (by omega)), nI_add, ev_aI ha (by omega) (by omega), nI_add, ev_aS ht (by omega) (by omega), li1, nI_add, mv_si_eq, mv_si_si, mv_si_ne hat, mv_cp_s]
      exact ih n (c + 1) (by omega) (by omega)
  have e := key 128 mv_FU 0 (by omega) (by decide)
  rw [mv_cp_0, mv_si_self] at e
  exact e
theorem mo_copies' {a t x y na nt : Nat} {g : Unit → mv_M β} (ha : h0.1[a]? = some (8, na)) (ht : h0.1[t]? = some (8, nt)) (hx : x + 128 ≤ na) (hy : y + 128 ≤ nt) (hn : na < 10000) (hn2 : nt < 10000) (hat : a ≠ t) : mv_bd (F_X7_copies (some a) (nI x) (some t) (nI y)) g (mv_hp h0 I) = g () (mv_hp h0 (mv_si I t (mv_cp (I a) (I t) x y 128))) := ev_bd (mo_copies ha ht hx hy hn hn2 hat)
/-- records: the row of the past, and how many are known -/
def mv_rp (v p : Nat → Int32) (k : Nat) : Nat → Int32 := if k = 4 then mv_cp v (mv_cp p p 128 0 384) 0 384 128 else mv_cp v p 0 (128 * k) 128
def mv_rk (k : Nat) : Nat := if k = 4 then 4 else k + 1
theorem mo_records (hM : mv_MS h0) {k : Nat} (hk : k ≤ 4) (hkv : I 147 3 = nI k) : F_X7_records 147 (mv_hp h0 I) = some ((), mv_hp h0 (mv_si (mv_si I 150 (mv_rp (I 148) (I 150) k)) 147 (mv_vu (I 147) 3 (nI (mv_rk k))))) := by
  have k148 : h0.1[148]? = some (8, 128) := by rw [hM.1]; rfl
  have k150 : h0.1[150]? = some (8, 512) := by rw [hM.1]; rfl
  have j49 : ∀ (J : Nat → Nat → Int32) (q : Nat), q ≤ 3 → J 147 3 = nI q → J_X7_records_49 147 (mv_hp h0 J) = some ((), mv_hp h0 (mv_si (mv_si J 150 (mv_cp (J 148) (J 150) 0 (128 * q) 128)) 147 (mv_vu (J 147) 3 (nI (q + 1))))) := by
    intro J q hq hJ
    unfold J_X7_records_49
    rw [mo_g0 hM, mo_g2 hM, mo_gI hM, hJ, li128, pk_mul, li0, mo_copies' k148 k150 (by omega) (by omega) (by omega) (by omega) (by decide), mo_gI hM, mo_sI hM, mv_si_ne (by decide), hJ, li1, nI_add, ev_pu]
  unfold F_X7_records
  rw [mo_gI hM, hkv, li4]
  by_cases h4 : k = 4
  · subst h4
    rw [ev_t rfl, li0]
    have key : ∀ (r n c : Nat), c + r = 384 → r < n → Lp_X7_records_10 147 n (nI c) (mv_hp h0 (mv_si I 150 (mv_cp (I 150) (I 150) 128 0 c))) = Lp_X7_records_10 147 (n - r) (nI 384) (mv_hp h0 (mv_si I 150 (mv_cp (I 150) (I 150) 128 0 384))) := by
      intro r
      induction r with
      | zero => intro n c hc hn; rw [show c = 384 by omega]; rfl
      | succ r ih =>
        intro n c hc hn
        obtain ⟨n, rfl⟩ := Nat.exists_eq_succ_of_ne_zero (show n ≠ 0 by omega)
        have e1 : mv_cp (I 150) (I 150) 128 0 c (c + 128) = I 150 (128 + c) := by unfold mv_cp; rw [if_neg (by omega), Nat.add_comm]
        have e2 := mv_cp_s (f := I 150) (g := I 150) (x := 128) (y := 0) (n := c)
        rw [Nat.zero_add] at e2
        rw [Lp_X7_records_10, li384, ev_f (nI_ge (by omega) (by omega)), mo_g2 hM, mo_g2 hM, li128, nI_add, mo_r150 hM (by omega), mo_w150 hM (by omega), li1, nI_add, mv_si_eq, mv_si_si, e1, e2, ih n (c + 1) (by omega) (by omega)]
        rw [show n + 1 - (r + 1) = n - r by omega]
    have e := key 384 mv_FU 0 (by omega) (by decide)
    rw [mv_cp_0, mv_si_self] at e
    rw [e, show mv_FU - 384 = 615 + 1 from rfl, Lp_X7_records_10, li384, ev_t (nI_le (Nat.le_refl _) (by omega)), mo_gI hM, mo_sI hM, mv_si_ne (by decide), hkv, li1, pk_sub (by omega), j49 _ 3 (by omega) (by rw [mv_si_eq, mv_vu_eq])]
    unfold mv_rp mv_rk
    rw [if_pos rfl, if_pos rfl]
    congr 3
    funext i
    unfold mv_si
    by_cases h1 : i = 147
    · subst h1; simp; funext j; unfold mv_vu; by_cases h : j = 3 <;> simp [h]
    · by_cases h2 : i = 150
      · subst h2; simp
      · simp [h1, h2]
  · rw [ev_f (fun z => h4 ((mv_eq (by omega) (by omega)).mp z)), j49 I k (by omega) hkv]
    unfold mv_rp mv_rk
    rw [if_neg h4, if_neg h4]
theorem mo_records' (hM : mv_MS h0) {k : Nat} {g : Unit → mv_M β} (hk : k ≤ 4) (hkv : I 147 3 = nI k) : mv_bd (F_X7_records 147) g (mv_hp h0 I) = g () (mv_hp h0 (mv_si (mv_si I 150 (mv_rp (I 148) (I 150) k)) 147 (mv_vu (I 147) 3 (nI (mv_rk k))))) := ev_bd (mo_records hM hk hkv)
end M6
