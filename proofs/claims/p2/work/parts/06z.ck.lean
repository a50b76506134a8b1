theorem am_ck (j : Nat) (h : j < 320) : am_chk j = true := sorry
