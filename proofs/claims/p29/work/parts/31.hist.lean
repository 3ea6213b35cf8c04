def mv_hq (h0 : mv_Hp) (P : Nat → Nat → Option Nat) : mv_Hp := (h0.1, h0.2.1, h0.2.2.1, P)
theorem mv_hq_self {h0 : mv_Hp} : mv_hq h0 h0.2.2.2 = h0 := rfl
theorem ev_aT {β : Type} {h0 : mv_Hp} {I : Nat → Nat → Int32} {t c m n i j x : Nat} {g : Unit → mv_M β} (hk : h0.1[i]? = some (8 + t, n)) (hx : h0.1[x]? = some (c, m)) (hj : j < n) (hn : n < 2 ^ 31) : mv_bd (mv_aT t c m (some i) (nI j) (some x)) g (mv_hp h0 I) = g () (mv_hp (mv_hq h0 (mv_u2 h0.2.2.2 i j (some x))) I) := by
  unfold mv_bd mv_aT
  simp only [mv_hp, hk]
  rw [if_pos ⟨trivial, ev_in hj hn, hx⟩, nI_clamp (by omega)]
  rfl
def mv_blk (r : Nat) : Prop := r = 1 ∨ r = 21 ∨ r = 41 ∨ r = 63 ∨ r = 83 ∨ r = 103 ∨ r = 123
def mv_sr (h0 : mv_Hp) (i : Nat) : Nat := (h0.2.2.2 62 i).getD 0
def mv_HS (h0 : mv_Hp) : Prop := h0.1[61]? = some (3, 2) ∧ h0.1[62]? = some (8 + 1, 4) ∧ h0.2.2.2 61 0 = some 62 ∧ (∀ i, i < 4 → h0.2.2.2 62 i = some (mv_sr h0 i) ∧ (mv_sr h0 i = 63 ∨ mv_sr h0 i = 83 ∨ mv_sr h0 i = 103 ∨ mv_sr h0 i = 123)) ∧ ∀ i j, i < 4 → j < 4 → mv_sr h0 i = mv_sr h0 j → i = j
/-- the shape of all that the law makes -/
def mv_CS (h0 : mv_Hp) : Prop := h0.1 = mv_K0 ∧ mv_MS h0 ∧ (h0.2.2.2 0 0 = some 1 ∧ h0.2.2.2 0 1 = some 21 ∧ h0.2.2.2 0 2 = some 41 ∧ h0.2.2.2 0 3 = some 61 ∧ h0.2.2.2 0 4 = some 143 ∧ h0.2.2.2 0 5 = some 145) ∧ mv_FS h0 ∧ mv_HS h0 ∧ h0.2.2.2 143 0 = some 144 ∧ ∀ r, mv_blk r → mv_RS h0 r
theorem mv_bi_congr {h0 h0' : mv_Hp} {r b : Nat} (h : h0'.2.2.2 (r + 3) b = h0.2.2.2 (r + 3) b) : mv_bi h0' r b = mv_bi h0 r b := by unfold mv_bi; rw [h]
theorem mv_RS_congr {h0 h0' : mv_Hp} {r : Nat} (h1 : h0'.1 = h0.1) (h : ∀ i, r ≤ i → i < r + 20 → h0'.2.2.2 i = h0.2.2.2 i) (hR : mv_RS h0 r) : mv_RS h0' r := by
  obtain ⟨a1, a2, a3, a4, a5, a6, a7, a8, a9, a10⟩ := hR
  have hb : ∀ b, mv_bi h0' r b = mv_bi h0 r b := fun b => mv_bi_congr (by rw [h (r + 3) (by omega) (by omega)])
  unfold mv_RS
  rw [h1, h r (by omega) (by omega)]
  refine ⟨a1, a2, a3, a4, a5, a6, a7, fun c hc => ?_, fun b hb8 => ?_, fun b b' q1 q2 q3 => a10 b b' q1 q2 (by rw [← hb, ← hb]; exact q3)⟩
  · rw [h (r + 2) (by omega) (by omega), h (r + 4 + 2 * c) (by omega) (by omega)]
    exact a8 c hc
  · rw [h (r + 3) (by omega) (by omega), hb]
    exact a9 b hb8
/-- the state of one block, said by a vector -/
def mv_PV (v : Nat → Int32) (B : Nat) : Prop := ∀ b, b < B → v (64 + 8 * b + 4) = mv_n4 ∨ ∃ x, x ≤ 1000000 ∧ v (64 + 8 * b + 4) = nI x
def mv_OK (j : Nat) (h0 : mv_Hp) (I : Nat → Nat → Int32) (r : Nat) (v : Nat → Int32) : Prop := ∃ D C B, D ≤ 30 * j ∧ (mv_VV v C B D ∧ mv_PV v B) ∧ mv_RV h0 I r v C B
theorem mv_VV_v {v v' : Nat → Int32} {C B D : Nat} (h : ∀ k, k < 128 → v' k = v k) (hV : mv_VV v C B D) : mv_VV v' C B D := by
  obtain ⟨e0, e3, e4, hC4, hB8, hW, hVC, hVB⟩ := hV
  refine ⟨by rw [h _ (by omega)]; exact e0, by rw [h _ (by omega)]; exact e3, by rw [h _ (by omega)]; exact e4, hC4, hB8, fun w hw => ?_, fun c hc => ?_, fun b hb => ?_⟩
  · rw [h _ (by omega)]; exact hW w hw
  · obtain ⟨n, h1, h7, e, ht⟩ := hVC c hc
    exact ⟨n, h1, h7, by rw [h _ (by omega)]; exact e, fun j hj => by rw [h _ (by omega)]; exact ht j hj⟩
  · have := hVB b hb
    rw [h _ (by omega), h _ (by omega), h _ (by omega), h _ (by omega), h _ (by omega)]
    exact this
theorem mv_RV_v {h0 : mv_Hp} {I : Nat → Nat → Int32} {r C B : Nat} {v v' : Nat → Int32} (hC : C ≤ 4) (hB : B ≤ 8) (h : ∀ k, k < 128 → v' k = v k) (hW : mv_RV h0 I r v C B) : mv_RV h0 I r v' C B := by
  obtain ⟨w1, w2, w3, w4⟩ := hW
  refine ⟨by rw [h _ (by omega), h _ (by omega), h _ (by omega), h _ (by omega), h _ (by omega), h _ (by omega), h _ (by omega), h _ (by omega), h _ (by omega)]; exact w1, fun w hw => by rw [h _ (by omega)]; exact w2 w hw, fun c hc => ?_, fun b hb => ?_⟩
  · obtain ⟨q1, q2, q3, q4, q5, q6⟩ := w3 c hc
    unfold mv_RC
    rw [h _ (by omega), h _ (by omega), h _ (by omega), h _ (by omega), h _ (by omega)]
    exact ⟨q1, q2, q3, q4, q5, fun j h1 h2 => by rw [h _ (by omega)]; exact q6 j h1 h2⟩
  · have := w4 b hb
    unfold mv_RB at this ⊢
    rw [h _ (by omega), h _ (by omega), h _ (by omega), h _ (by omega), h _ (by omega), h _ (by omega), h _ (by omega), h _ (by omega)]
    exact this
theorem mv_OK_v {j j' : Nat} {h0 : mv_Hp} {I : Nat → Nat → Int32} {r : Nat} {v v' : Nat → Int32} (hj : j ≤ j') (h : ∀ k, k < 128 → v' k = v k) (hO : mv_OK j h0 I r v) : mv_OK j' h0 I r v' := by
  obtain ⟨D, C, B, h1, ⟨h2, h4⟩, h3⟩ := hO
  have hB8 := h2.2.2.2.2.1
  exact ⟨D, C, B, by omega, ⟨mv_VV_v h h2, fun b hb => by rw [h _ (by omega)]; exact h4 b hb⟩, mv_RV_v h2.2.2.2.1 h2.2.2.2.2.1 h h3⟩
theorem mv_OK_congr {j : Nat} {h0 h0' : mv_Hp} {I I' : Nat → Nat → Int32} {r : Nat} {v : Nat → Int32} (hR : mv_RS h0 r) (hP : ∀ b, h0'.2.2.2 (r + 3) b = h0.2.2.2 (r + 3) b) (h : ∀ i, r ≤ i → i < r + 20 → I' i = I i) (hO : mv_OK j h0 I r v) : mv_OK j h0' I' r v := by
  obtain ⟨D, C, B, h1, h2, h3⟩ := hO
  exact ⟨D, C, B, h1, h2, mv_RV_congr hR h2.1.2.2.2.1 h2.1.2.2.2.2.1 (fun b _ => mv_bi_congr (hP b)) h h3⟩
def mv_at (p : Nat → Int32) (k : Nat) : Nat → Int32 := fun i => p (128 * k + i)
def mv_PD (I : Nat → Nat → Int32) (M : Nat) (pd : Nat → Int32) : Prop := I 143 1 = nI M ∧ M ≤ 60 ∧ ∀ k, k < M → ∃ s, 33 ≤ s ∧ s ≤ 126 ∧ I 144 k = nI s ∧ pd k = nI s
/-- the class's cells, said by what the reference holds -/
def mv_CI (j : Nat) (h0 : mv_Hp) (I : Nat → Nat → Int32) (v : Nat → Int32) (L : Nat) (p : Nat → Int32) (z : Int32) (ks : Nat → Int32) (M : Nat) (pd : Nat → Int32) : Prop :=
  mv_CS h0 ∧ mv_OK j h0 I 1 v ∧ (I 61 1 = nI L ∧ L ≤ 4 ∧ ∀ k, k < L → mv_OK j h0 I (mv_sr h0 k) (mv_at p k)) ∧ (I 0 6 = z ∧ (z = 0 ∨ (z = 1 ∧ mv_OK j h0 I 41 ks))) ∧ mv_PD I M pd
section H1
variable {β : Type} {h0 : mv_Hp} {I : Nat → Nat → Int32}
theorem hi_rc {g : Nat → mv_M β} (hH : mv_HS h0) : mv_bd (mv_rc 3 2 (some 61)) g (mv_hp h0 I) = g 61 (mv_hp h0 I) := ev_rc hH.1
theorem hi_gI {k : Nat} {g : Int32 → mv_M β} (hH : mv_HS h0) : mv_bd (mv_gI 3 2 k (some 61)) g (mv_hp h0 I) = g (I 61 k) (mv_hp h0 I) := ev_gI hH.1
theorem hi_sI {k : Nat} {x : Int32} {g : Unit → mv_M β} (hH : mv_HS h0) : mv_bd (mv_sI 3 2 k (some 61) x) g (mv_hp h0 I) = g () (mv_hp h0 (mv_si I 61 (mv_vu (I 61) k x))) := ev_sI hH.1
theorem hi_g0 {g : Option Nat → mv_M β} (hH : mv_HS h0) : mv_bd (mv_gR 3 2 0 (some 61)) g (mv_hp h0 I) = g (some 62) (mv_hp h0 I) := (ev_gR hH.1).trans (by rw [hH.2.2.1])
theorem hi_l {g : Int32 → mv_M β} (hH : mv_HS h0) : mv_bd (mv_aL (some 62)) g (mv_hp h0 I) = g (nI 4) (mv_hp h0 I) := ev_aL hH.2.1 (by decide)
theorem hi_a {i : Nat} {g : Option Nat → mv_M β} (hH : mv_HS h0) (hi : i < 4) : mv_bd (mv_aR 1 (some 62) (nI i)) g (mv_hp h0 I) = g (some (mv_sr h0 i)) (mv_hp h0 I) := (ev_aR hH.2.1 hi (by omega)).trans (by rw [(hH.2.2.2.1 i hi).1])
theorem hi_stateAt (hH : mv_HS h0) {i : Nat} (hi : i < 4) : F_X3_stateAt 61 (nI i) (mv_hp h0 I) = some (some (mv_sr h0 i), mv_hp h0 I) := by
  unfold F_X3_stateAt J_X3_stateAt_23
  rw [ev_f (nI_pos (by omega)), hi_g0 hH, hi_l hH, ev_f (nI_ge hi (by omega)), hi_g0 hH, hi_a hH hi]
  rfl
/-- the rows of states, turned by one -/
def mv_pd (P : Nat → Nat → Option Nat) (c : Nat) : Nat → Nat → Option Nat := fun x i => if x = 62 ∧ i < c then P 62 (i + 1) else P x i
def mv_pt (P : Nat → Nat → Option Nat) : Nat → Nat → Option Nat := mv_u2 (mv_pd P 3) 62 3 (P 62 0)
theorem mv_pd_s {P : Nat → Nat → Option Nat} {c : Nat} : mv_u2 (mv_pd P c) 62 c (P 62 (c + 1)) = mv_pd P (c + 1) := by
  funext x i
  unfold mv_u2 mv_pd
  by_cases hx : x = 62
  · subst hx
    by_cases hi : i = c
    · subst hi; simp
    · by_cases h2 : i < c
      · rw [if_pos rfl, if_neg hi, if_pos ⟨rfl, h2⟩, if_pos ⟨rfl, by omega⟩]
      · rw [if_pos rfl, if_neg hi, if_neg (fun z => h2 z.2), if_neg (fun z => by omega)]
  · rw [if_neg hx, if_neg (fun z => hx z.1), if_neg (fun z => hx z.1)]
theorem mv_pt_ne {P : Nat → Nat → Option Nat} {x : Nat} (hx : x ≠ 62) : mv_pt P x = P x := by
  funext i
  unfold mv_pt mv_u2 mv_pd
  rw [if_neg hx, if_neg (fun z => hx z.1)]
theorem mv_pt_lt {P : Nat → Nat → Option Nat} {i : Nat} (hi : i < 3) : mv_pt P 62 i = P 62 (i + 1) := by
  unfold mv_pt mv_u2 mv_pd
  rw [if_pos rfl, if_neg (by omega), if_pos ⟨rfl, hi⟩]
theorem mv_pt_3 {P : Nat → Nat → Option Nat} : mv_pt P 62 3 = P 62 0 := by
  unfold mv_pt mv_u2
  rw [if_pos rfl, if_pos rfl]
theorem mv_st63 {k : mv_Hp} (hC : mv_CS k) {i : Nat} (hi : i < 4) : mv_RS k (mv_sr k i) := by
  refine hC.2.2.2.2.2.2 _ ?_
  rcases (hC.2.2.2.2.1.2.2.2.1 i hi).2 with h | h | h | h <;> rw [h] <;> unfold mv_blk <;> omega
theorem hi_drop (hC : mv_CS h0) : F_X3_dropOldest 61 (mv_hp h0 I) = some ((), mv_hp (mv_hq h0 (mv_pt h0.2.2.2)) (mv_si I 61 (mv_vu (I 61) 1 (nI 3)))) := by
  have hH := hC.2.2.2.2.1
  have hst : ∀ i, i < 4 → h0.1[mv_sr h0 i]? = some (5, 12) := fun i hi => (mv_st63 hC hi).1
  have q1 : ∀ P, (mv_hq h0 P).1[61]? = some (3, 2) := fun P => hH.1
  have q2 : ∀ P, (mv_hq h0 P).1[62]? = some (8 + 1, 4) := fun P => hH.2.1
  have q3 : ∀ P i, i < 4 → (mv_hq h0 P).1[mv_sr h0 i]? = some (5, 12) := fun P i hi => hst i hi
  unfold F_X3_dropOldest
  rw [hi_rc hH, li0, ev_bd (hi_stateAt hH (show 0 < 4 by omega))]
  have g0 : ∀ c (g : Option Nat → mv_M Unit), mv_bd (mv_gR 3 2 0 (some 61)) g (mv_hp (mv_hq h0 (mv_pd h0.2.2.2 c)) I) = g (some 62) (mv_hp (mv_hq h0 (mv_pd h0.2.2.2 c)) I) := fun c g => (ev_gR (q1 _)).trans (by
    have : (mv_hq h0 (mv_pd h0.2.2.2 c)).2.2.2 61 0 = some 62 := by
      show mv_pd h0.2.2.2 c 61 0 = some 62
      unfold mv_pd
      rw [if_neg (fun z => by omega)]
      exact hH.2.2.1
    rw [this])
  have z0 : mv_pd h0.2.2.2 0 = h0.2.2.2 := by funext x i; unfold mv_pd; rw [if_neg (fun z => by omega)]
  have key := mv_it_go (L := fun n c (_ : Unit) => Lp_X3_dropOldest_10 61 (some (mv_sr h0 0)) n (nI c) (nI c) (mv_hp (mv_hq h0 (mv_pd h0.2.2.2 c)) I)) (fun _ s => s) (fun _ => some ((), mv_hp (mv_hq h0 (mv_pt h0.2.2.2)) (mv_si I 61 (mv_vu (I 61) 1 (nI 3))))) 3 () (by omega)
    (fun n c _ hc => by
      have rd : (mv_hq h0 (mv_pd h0.2.2.2 c)).2.2.2 62 (c + 1) = some (mv_sr h0 (c + 1)) := by
        show mv_pd h0.2.2.2 c 62 (c + 1) = _
        unfold mv_pd
        rw [if_neg (fun z => by omega)]
        exact (hH.2.2.2.1 (c + 1) (by omega)).1
      rw [Lp_X3_dropOldest_10, g0, ev_aL (q2 _) (by decide), li1, nI_add, ev_f (nI_ge (show c + 1 < 4 by omega) (by omega)), g0, g0, ev_aR (q2 _) (show c + 1 < 4 by omega) (by omega), rd, ev_aT (q2 _) (q3 _ (c + 1) (by omega)) (show c < 4 by omega) (by omega), ev_bpu]
      have e := mv_pd_s (P := h0.2.2.2) (c := c)
      rw [(hH.2.2.2.1 (c + 1) (by omega)).1] at e
      show Lp_X3_dropOldest_10 61 (some (mv_sr h0 0)) n (nI (c + 1)) (nI (c + 1)) (mv_hp (mv_hq h0 (mv_u2 (mv_pd h0.2.2.2 c) 62 c (some (mv_sr h0 (c + 1))))) I) = _
      rw [e])
    (fun n _ => by
      rw [Lp_X3_dropOldest_10, g0, ev_aL (q2 _) (by decide), li1, nI_add, ev_t (nI_le (by omega) (by omega)), g0, ev_aL (q2 _) (by decide), ev_f (nI_ge (show 3 < 4 by omega) (by omega)), g0, ev_aT (q2 _) (q3 _ 0 (by omega)) (show 3 < 4 by omega) (by omega)]
      unfold J_X3_dropOldest_61
      have e : mv_u2 (mv_pd h0.2.2.2 3) 62 3 (some (mv_sr h0 0)) = mv_pt h0.2.2.2 := by
        unfold mv_pt
        rw [(hH.2.2.2.1 0 (by omega)).1]
      show mv_bd (mv_sI 3 2 1 (some 61) (nI 3)) _ (mv_hp (mv_hq h0 (mv_u2 (mv_pd h0.2.2.2 3) 62 3 (some (mv_sr h0 0)))) I) = _
      rw [e, ev_sI (q1 _), ev_pu])
  rw [z0, mv_hq_self] at key
  exact key
end H1
