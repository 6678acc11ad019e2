set_option maxRecDepth 100000 in
set_option maxHeartbeats 4000000 in
theorem z0_pic (n w : Nat) : (hB27 (ip_f0 n w) n w) = zP (zc n w) 168 z0 := rfl
