theorem mv_fo148 {I : Nat → Nat → Int32} {f g : Nat → Int32} : mv_fo I f g 148 = I 148 := mv_fo_ne (by omega) (by omega)
/-- the first day with p, of n from d on -/
def mv_first (p : Nat → Bool) : Nat → Nat → Int32
  | 0, _ => mv_n4
  | n + 1, d => if p d then nI d else mv_first p n (d + 1)
def mv_me (v : Nat → Int32) (a b : Nat) (z : Int32) (d : Nat) : Bool := !decide (mv_tw v a d < nI 0) && (decide (mv_tw v a d = mv_tw v b d) && (decide (z = 0) || decide (mv_tw v a d = mv_sw v d)))
