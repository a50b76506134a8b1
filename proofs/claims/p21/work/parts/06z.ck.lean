theorem am_ck (j : Nat) (h : j < 164) : am_chk j = true := sorry
