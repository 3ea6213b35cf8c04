theorem mv_VV_w {v : Nat → Int32} {C B D w t : Nat} (hw : w < 7) (ht : t ≤ 6) (hV : mv_VV v C B D) : mv_VV (mv_vu v (9 + w) (nI t)) C B D := by
  obtain ⟨e0, e3, e4, hC4, hB8, hW, hVC, hVB⟩ := hV
  refine ⟨by rw [mv_vu_ne (by omega)]; exact e0, by rw [mv_vu_ne (by omega)]; exact e3, by rw [mv_vu_ne (by omega)]; exact e4, hC4, hB8, fun w' hw' => ?_, mv_VC_congr hC4 hVC (fun k h1 h2 h3 => mv_vu_ne (by omega)), fun b hb => ?_⟩
  · by_cases e : w' = w
    · subst e; rw [mv_vu_eq]; exact ⟨t, ht, rfl⟩
    · rw [mv_vu_ne (by omega)]; exact hW w' hw'
  · have := hVB b hb
    rw [mv_vu_ne (by omega), mv_vu_ne (by omega), mv_vu_ne (by omega), mv_vu_ne (by omega), mv_vu_ne (by omega)]
    exact this
theorem week_no {a : Int32} (h : a < 0 ∨ nI 7 ≤ a) (k : mv_Hp) : F_X6_isWeekday a k = some (nI 0, k) := by
  unfold F_X6_isWeekday J_X6_isWeekday_14 J_X6_isWeekday_15
  rw [li7, ev_rz (Or.inl rfl : (0 : Int32) = 0 ∨ (0 : Int32) = 1)]
  by_cases h1 : a < 0
  · rw [ev_t h1]; rfl
  · rw [ev_f h1, ev_t (h.resolve_left h1)]; rfl
theorem week_yes {w : Nat} (hw : w < 7) (k : mv_Hp) : F_X6_isWeekday (nI w) k = some (nI 1, k) := by
  unfold F_X6_isWeekday J_X6_isWeekday_15
  rw [li7, ev_f (nI_pos (by omega)), ev_f (nI_ge hw (by omega)), ev_rz (Or.inr rfl)]; rfl
theorem ro_stallMove {h0 : mv_Hp} {I : Nat → Nat → Int32} {r w : Nat} {x : Int32} (hR : mv_RS h0 r) (hw : w < 7) : F_X5_moveStall r (nI w) x (mv_hp h0 I) = some ((), mv_hp h0 (mv_si I (r + 1) (mv_vu (I (r + 1)) w x))) := by
  unfold F_X5_moveStall J_X5_moveStall_20
  rw [ev_f (nI_pos (by omega)), ro_g0 hR, ro_l1 hR, ev_f (nI_ge hw (by omega)), ro_g0 hR, ro_s1 hR hw]
  rfl
/-- the best of the towns so far -/
def mv_bt (v : Nat → Int32) (C B D w : Nat) (t : Nat) (s : Int32 × Int32 × Int32) : Int32 × Int32 × Int32 :=
  if s.2.1 < (mv_au (mv_vu v (9 + w) (nI t)) C B D).1 ∨ ((mv_au (mv_vu v (9 + w) (nI t)) C B D).1 = s.2.1 ∧ ¬ s.2.2 ≤ (mv_au (mv_vu v (9 + w) (nI t)) C B D).2) then (nI t, (mv_au (mv_vu v (9 + w) (nI t)) C B D).1, (mv_au (mv_vu v (9 + w) (nI t)) C B D).2) else s
