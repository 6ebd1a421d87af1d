def f_Mod_thrown (w : Mp) (h0 : Nat) : Option (Int32) := (gI w (some h0) 5 0).bind fun v_1 => some v_1
