/-! the parity of an input bit's shares is the bit -/
theorem nI_tn (x : Int32) : nI x.toBitVec.toNat = x := by
  apply Int32.toBitVec_inj.mp
  apply BitVec.eq_of_toNat_eq
  show x.toBitVec.toNat % 2 ^ 32 = x.toBitVec.toNat
  exact Nat.mod_eq_of_lt x.toBitVec.isLt
theorem pbf_0 {y : Nat} (hb : y / 1 % 2 = 0) : pb16 (y + 1) = (pb16 y + 1) % 2 := by
  have e1 : (y + 1) / 2 = y / 2 := by omega
  have e2 : (y + 1) / 4 = y / 4 := by omega
  have e3 : (y + 1) / 8 = y / 8 := by omega
  have e4 : (y + 1) / 16 = y / 16 := by omega
  have e5 : (y + 1) / 32 = y / 32 := by omega
  have e6 : (y + 1) / 64 = y / 64 := by omega
  have e7 : (y + 1) / 128 = y / 128 := by omega
  have e8 : (y + 1) / 256 = y / 256 := by omega
  have e9 : (y + 1) / 512 = y / 512 := by omega
  have e10 : (y + 1) / 1024 = y / 1024 := by omega
  have e11 : (y + 1) / 2048 = y / 2048 := by omega
  have e12 : (y + 1) / 4096 = y / 4096 := by omega
  have e13 : (y + 1) / 8192 = y / 8192 := by omega
  have e14 : (y + 1) / 16384 = y / 16384 := by omega
  have e15 : (y + 1) / 32768 = y / 32768 := by omega
  unfold pb16
  rw [e1, e2, e3, e4, e5, e6, e7, e8, e9, e10, e11, e12, e13, e14, e15]
  clear e1 e2 e3 e4 e5 e6 e7 e8 e9 e10 e11 e12 e13 e14 e15
  omega
theorem pbf_1 {y : Nat} (hb : y / 2 % 2 = 0) : pb16 (y + 2) = (pb16 y + 1) % 2 := by
  have e2 : (y + 2) / 4 = y / 4 := by omega
  have e3 : (y + 2) / 8 = y / 8 := by omega
  have e4 : (y + 2) / 16 = y / 16 := by omega
  have e5 : (y + 2) / 32 = y / 32 := by omega
  have e6 : (y + 2) / 64 = y / 64 := by omega
  have e7 : (y + 2) / 128 = y / 128 := by omega
  have e8 : (y + 2) / 256 = y / 256 := by omega
  have e9 : (y + 2) / 512 = y / 512 := by omega
  have e10 : (y + 2) / 1024 = y / 1024 := by omega
  have e11 : (y + 2) / 2048 = y / 2048 := by omega
  have e12 : (y + 2) / 4096 = y / 4096 := by omega
  have e13 : (y + 2) / 8192 = y / 8192 := by omega
  have e14 : (y + 2) / 16384 = y / 16384 := by omega
  have e15 : (y + 2) / 32768 = y / 32768 := by omega
  have e1 : (y + 2) / 2 = y / 2 + 1 := by omega
  unfold pb16
  rw [e1, e2, e3, e4, e5, e6, e7, e8, e9, e10, e11, e12, e13, e14, e15]
  clear e1 e2 e3 e4 e5 e6 e7 e8 e9 e10 e11 e12 e13 e14 e15
  omega
theorem pbf_2 {y : Nat} (hb : y / 4 % 2 = 0) : pb16 (y + 4) = (pb16 y + 1) % 2 := by
  have e3 : (y + 4) / 8 = y / 8 := by omega
  have e4 : (y + 4) / 16 = y / 16 := by omega
  have e5 : (y + 4) / 32 = y / 32 := by omega
  have e6 : (y + 4) / 64 = y / 64 := by omega
  have e7 : (y + 4) / 128 = y / 128 := by omega
  have e8 : (y + 4) / 256 = y / 256 := by omega
  have e9 : (y + 4) / 512 = y / 512 := by omega
  have e10 : (y + 4) / 1024 = y / 1024 := by omega
  have e11 : (y + 4) / 2048 = y / 2048 := by omega
  have e12 : (y + 4) / 4096 = y / 4096 := by omega
  have e13 : (y + 4) / 8192 = y / 8192 := by omega
  have e14 : (y + 4) / 16384 = y / 16384 := by omega
  have e15 : (y + 4) / 32768 = y / 32768 := by omega
  have e1 : (y + 4) / 2 = y / 2 + 2 := by omega
  have e2 : (y + 4) / 4 = y / 4 + 1 := by omega
  unfold pb16
  rw [e1, e2, e3, e4, e5, e6, e7, e8, e9, e10, e11, e12, e13, e14, e15]
  clear e1 e2 e3 e4 e5 e6 e7 e8 e9 e10 e11 e12 e13 e14 e15
  omega
theorem pbf_3 {y : Nat} (hb : y / 8 % 2 = 0) : pb16 (y + 8) = (pb16 y + 1) % 2 := by
  have e4 : (y + 8) / 16 = y / 16 := by omega
  have e5 : (y + 8) / 32 = y / 32 := by omega
  have e6 : (y + 8) / 64 = y / 64 := by omega
  have e7 : (y + 8) / 128 = y / 128 := by omega
  have e8 : (y + 8) / 256 = y / 256 := by omega
  have e9 : (y + 8) / 512 = y / 512 := by omega
  have e10 : (y + 8) / 1024 = y / 1024 := by omega
  have e11 : (y + 8) / 2048 = y / 2048 := by omega
  have e12 : (y + 8) / 4096 = y / 4096 := by omega
  have e13 : (y + 8) / 8192 = y / 8192 := by omega
  have e14 : (y + 8) / 16384 = y / 16384 := by omega
  have e15 : (y + 8) / 32768 = y / 32768 := by omega
  have e1 : (y + 8) / 2 = y / 2 + 4 := by omega
  have e2 : (y + 8) / 4 = y / 4 + 2 := by omega
  have e3 : (y + 8) / 8 = y / 8 + 1 := by omega
  unfold pb16
  rw [e1, e2, e3, e4, e5, e6, e7, e8, e9, e10, e11, e12, e13, e14, e15]
  clear e1 e2 e3 e4 e5 e6 e7 e8 e9 e10 e11 e12 e13 e14 e15
  omega
theorem pbf_4 {y : Nat} (hb : y / 16 % 2 = 0) : pb16 (y + 16) = (pb16 y + 1) % 2 := by
  have e5 : (y + 16) / 32 = y / 32 := by omega
  have e6 : (y + 16) / 64 = y / 64 := by omega
  have e7 : (y + 16) / 128 = y / 128 := by omega
  have e8 : (y + 16) / 256 = y / 256 := by omega
  have e9 : (y + 16) / 512 = y / 512 := by omega
  have e10 : (y + 16) / 1024 = y / 1024 := by omega
  have e11 : (y + 16) / 2048 = y / 2048 := by omega
  have e12 : (y + 16) / 4096 = y / 4096 := by omega
  have e13 : (y + 16) / 8192 = y / 8192 := by omega
  have e14 : (y + 16) / 16384 = y / 16384 := by omega
  have e15 : (y + 16) / 32768 = y / 32768 := by omega
  have e1 : (y + 16) / 2 = y / 2 + 8 := by omega
  have e2 : (y + 16) / 4 = y / 4 + 4 := by omega
  have e3 : (y + 16) / 8 = y / 8 + 2 := by omega
  have e4 : (y + 16) / 16 = y / 16 + 1 := by omega
  unfold pb16
  rw [e1, e2, e3, e4, e5, e6, e7, e8, e9, e10, e11, e12, e13, e14, e15]
  clear e1 e2 e3 e4 e5 e6 e7 e8 e9 e10 e11 e12 e13 e14 e15
  omega
theorem pbf_5 {y : Nat} (hb : y / 32 % 2 = 0) : pb16 (y + 32) = (pb16 y + 1) % 2 := by
  have e6 : (y + 32) / 64 = y / 64 := by omega
  have e7 : (y + 32) / 128 = y / 128 := by omega
  have e8 : (y + 32) / 256 = y / 256 := by omega
  have e9 : (y + 32) / 512 = y / 512 := by omega
  have e10 : (y + 32) / 1024 = y / 1024 := by omega
  have e11 : (y + 32) / 2048 = y / 2048 := by omega
  have e12 : (y + 32) / 4096 = y / 4096 := by omega
  have e13 : (y + 32) / 8192 = y / 8192 := by omega
  have e14 : (y + 32) / 16384 = y / 16384 := by omega
  have e15 : (y + 32) / 32768 = y / 32768 := by omega
  have e1 : (y + 32) / 2 = y / 2 + 16 := by omega
  have e2 : (y + 32) / 4 = y / 4 + 8 := by omega
  have e3 : (y + 32) / 8 = y / 8 + 4 := by omega
  have e4 : (y + 32) / 16 = y / 16 + 2 := by omega
  have e5 : (y + 32) / 32 = y / 32 + 1 := by omega
  unfold pb16
  rw [e1, e2, e3, e4, e5, e6, e7, e8, e9, e10, e11, e12, e13, e14, e15]
  clear e1 e2 e3 e4 e5 e6 e7 e8 e9 e10 e11 e12 e13 e14 e15
  omega
theorem pbf_6 {y : Nat} (hb : y / 64 % 2 = 0) : pb16 (y + 64) = (pb16 y + 1) % 2 := by
  have e7 : (y + 64) / 128 = y / 128 := by omega
  have e8 : (y + 64) / 256 = y / 256 := by omega
  have e9 : (y + 64) / 512 = y / 512 := by omega
  have e10 : (y + 64) / 1024 = y / 1024 := by omega
  have e11 : (y + 64) / 2048 = y / 2048 := by omega
  have e12 : (y + 64) / 4096 = y / 4096 := by omega
  have e13 : (y + 64) / 8192 = y / 8192 := by omega
  have e14 : (y + 64) / 16384 = y / 16384 := by omega
  have e15 : (y + 64) / 32768 = y / 32768 := by omega
  have e1 : (y + 64) / 2 = y / 2 + 32 := by omega
  have e2 : (y + 64) / 4 = y / 4 + 16 := by omega
  have e3 : (y + 64) / 8 = y / 8 + 8 := by omega
  have e4 : (y + 64) / 16 = y / 16 + 4 := by omega
  have e5 : (y + 64) / 32 = y / 32 + 2 := by omega
  have e6 : (y + 64) / 64 = y / 64 + 1 := by omega
  unfold pb16
  rw [e1, e2, e3, e4, e5, e6, e7, e8, e9, e10, e11, e12, e13, e14, e15]
  clear e1 e2 e3 e4 e5 e6 e7 e8 e9 e10 e11 e12 e13 e14 e15
  omega
theorem pbf_7 {y : Nat} (hb : y / 128 % 2 = 0) : pb16 (y + 128) = (pb16 y + 1) % 2 := by
  have e8 : (y + 128) / 256 = y / 256 := by omega
  have e9 : (y + 128) / 512 = y / 512 := by omega
  have e10 : (y + 128) / 1024 = y / 1024 := by omega
  have e11 : (y + 128) / 2048 = y / 2048 := by omega
  have e12 : (y + 128) / 4096 = y / 4096 := by omega
  have e13 : (y + 128) / 8192 = y / 8192 := by omega
  have e14 : (y + 128) / 16384 = y / 16384 := by omega
  have e15 : (y + 128) / 32768 = y / 32768 := by omega
  have e1 : (y + 128) / 2 = y / 2 + 64 := by omega
  have e2 : (y + 128) / 4 = y / 4 + 32 := by omega
  have e3 : (y + 128) / 8 = y / 8 + 16 := by omega
  have e4 : (y + 128) / 16 = y / 16 + 8 := by omega
  have e5 : (y + 128) / 32 = y / 32 + 4 := by omega
  have e6 : (y + 128) / 64 = y / 64 + 2 := by omega
  have e7 : (y + 128) / 128 = y / 128 + 1 := by omega
  unfold pb16
  rw [e1, e2, e3, e4, e5, e6, e7, e8, e9, e10, e11, e12, e13, e14, e15]
  clear e1 e2 e3 e4 e5 e6 e7 e8 e9 e10 e11 e12 e13 e14 e15
  omega
theorem pbf_8 {y : Nat} (hb : y / 256 % 2 = 0) : pb16 (y + 256) = (pb16 y + 1) % 2 := by
  have e9 : (y + 256) / 512 = y / 512 := by omega
  have e10 : (y + 256) / 1024 = y / 1024 := by omega
  have e11 : (y + 256) / 2048 = y / 2048 := by omega
  have e12 : (y + 256) / 4096 = y / 4096 := by omega
  have e13 : (y + 256) / 8192 = y / 8192 := by omega
  have e14 : (y + 256) / 16384 = y / 16384 := by omega
  have e15 : (y + 256) / 32768 = y / 32768 := by omega
  have e1 : (y + 256) / 2 = y / 2 + 128 := by omega
  have e2 : (y + 256) / 4 = y / 4 + 64 := by omega
  have e3 : (y + 256) / 8 = y / 8 + 32 := by omega
  have e4 : (y + 256) / 16 = y / 16 + 16 := by omega
  have e5 : (y + 256) / 32 = y / 32 + 8 := by omega
  have e6 : (y + 256) / 64 = y / 64 + 4 := by omega
  have e7 : (y + 256) / 128 = y / 128 + 2 := by omega
  have e8 : (y + 256) / 256 = y / 256 + 1 := by omega
  unfold pb16
  rw [e1, e2, e3, e4, e5, e6, e7, e8, e9, e10, e11, e12, e13, e14, e15]
  clear e1 e2 e3 e4 e5 e6 e7 e8 e9 e10 e11 e12 e13 e14 e15
  omega
theorem pbf_9 {y : Nat} (hb : y / 512 % 2 = 0) : pb16 (y + 512) = (pb16 y + 1) % 2 := by
  have e10 : (y + 512) / 1024 = y / 1024 := by omega
  have e11 : (y + 512) / 2048 = y / 2048 := by omega
  have e12 : (y + 512) / 4096 = y / 4096 := by omega
  have e13 : (y + 512) / 8192 = y / 8192 := by omega
  have e14 : (y + 512) / 16384 = y / 16384 := by omega
  have e15 : (y + 512) / 32768 = y / 32768 := by omega
  have e1 : (y + 512) / 2 = y / 2 + 256 := by omega
  have e2 : (y + 512) / 4 = y / 4 + 128 := by omega
  have e3 : (y + 512) / 8 = y / 8 + 64 := by omega
  have e4 : (y + 512) / 16 = y / 16 + 32 := by omega
  have e5 : (y + 512) / 32 = y / 32 + 16 := by omega
  have e6 : (y + 512) / 64 = y / 64 + 8 := by omega
  have e7 : (y + 512) / 128 = y / 128 + 4 := by omega
  have e8 : (y + 512) / 256 = y / 256 + 2 := by omega
  have e9 : (y + 512) / 512 = y / 512 + 1 := by omega
  unfold pb16
  rw [e1, e2, e3, e4, e5, e6, e7, e8, e9, e10, e11, e12, e13, e14, e15]
  clear e1 e2 e3 e4 e5 e6 e7 e8 e9 e10 e11 e12 e13 e14 e15
  omega
theorem pbf_10 {y : Nat} (hb : y / 1024 % 2 = 0) : pb16 (y + 1024) = (pb16 y + 1) % 2 := by
  have e11 : (y + 1024) / 2048 = y / 2048 := by omega
  have e12 : (y + 1024) / 4096 = y / 4096 := by omega
  have e13 : (y + 1024) / 8192 = y / 8192 := by omega
  have e14 : (y + 1024) / 16384 = y / 16384 := by omega
  have e15 : (y + 1024) / 32768 = y / 32768 := by omega
  have e1 : (y + 1024) / 2 = y / 2 + 512 := by omega
  have e2 : (y + 1024) / 4 = y / 4 + 256 := by omega
  have e3 : (y + 1024) / 8 = y / 8 + 128 := by omega
  have e4 : (y + 1024) / 16 = y / 16 + 64 := by omega
  have e5 : (y + 1024) / 32 = y / 32 + 32 := by omega
  have e6 : (y + 1024) / 64 = y / 64 + 16 := by omega
  have e7 : (y + 1024) / 128 = y / 128 + 8 := by omega
  have e8 : (y + 1024) / 256 = y / 256 + 4 := by omega
  have e9 : (y + 1024) / 512 = y / 512 + 2 := by omega
  have e10 : (y + 1024) / 1024 = y / 1024 + 1 := by omega
  unfold pb16
  rw [e1, e2, e3, e4, e5, e6, e7, e8, e9, e10, e11, e12, e13, e14, e15]
  clear e1 e2 e3 e4 e5 e6 e7 e8 e9 e10 e11 e12 e13 e14 e15
  omega
theorem pbf_11 {y : Nat} (hb : y / 2048 % 2 = 0) : pb16 (y + 2048) = (pb16 y + 1) % 2 := by
  have e12 : (y + 2048) / 4096 = y / 4096 := by omega
  have e13 : (y + 2048) / 8192 = y / 8192 := by omega
  have e14 : (y + 2048) / 16384 = y / 16384 := by omega
  have e15 : (y + 2048) / 32768 = y / 32768 := by omega
  have e1 : (y + 2048) / 2 = y / 2 + 1024 := by omega
  have e2 : (y + 2048) / 4 = y / 4 + 512 := by omega
  have e3 : (y + 2048) / 8 = y / 8 + 256 := by omega
  have e4 : (y + 2048) / 16 = y / 16 + 128 := by omega
  have e5 : (y + 2048) / 32 = y / 32 + 64 := by omega
  have e6 : (y + 2048) / 64 = y / 64 + 32 := by omega
  have e7 : (y + 2048) / 128 = y / 128 + 16 := by omega
  have e8 : (y + 2048) / 256 = y / 256 + 8 := by omega
  have e9 : (y + 2048) / 512 = y / 512 + 4 := by omega
  have e10 : (y + 2048) / 1024 = y / 1024 + 2 := by omega
  have e11 : (y + 2048) / 2048 = y / 2048 + 1 := by omega
  unfold pb16
  rw [e1, e2, e3, e4, e5, e6, e7, e8, e9, e10, e11, e12, e13, e14, e15]
  clear e1 e2 e3 e4 e5 e6 e7 e8 e9 e10 e11 e12 e13 e14 e15
  omega
theorem pbf_12 {y : Nat} (hb : y / 4096 % 2 = 0) : pb16 (y + 4096) = (pb16 y + 1) % 2 := by
  have e13 : (y + 4096) / 8192 = y / 8192 := by omega
  have e14 : (y + 4096) / 16384 = y / 16384 := by omega
  have e15 : (y + 4096) / 32768 = y / 32768 := by omega
  have e1 : (y + 4096) / 2 = y / 2 + 2048 := by omega
  have e2 : (y + 4096) / 4 = y / 4 + 1024 := by omega
  have e3 : (y + 4096) / 8 = y / 8 + 512 := by omega
  have e4 : (y + 4096) / 16 = y / 16 + 256 := by omega
  have e5 : (y + 4096) / 32 = y / 32 + 128 := by omega
  have e6 : (y + 4096) / 64 = y / 64 + 64 := by omega
  have e7 : (y + 4096) / 128 = y / 128 + 32 := by omega
  have e8 : (y + 4096) / 256 = y / 256 + 16 := by omega
  have e9 : (y + 4096) / 512 = y / 512 + 8 := by omega
  have e10 : (y + 4096) / 1024 = y / 1024 + 4 := by omega
  have e11 : (y + 4096) / 2048 = y / 2048 + 2 := by omega
  have e12 : (y + 4096) / 4096 = y / 4096 + 1 := by omega
  unfold pb16
  rw [e1, e2, e3, e4, e5, e6, e7, e8, e9, e10, e11, e12, e13, e14, e15]
  clear e1 e2 e3 e4 e5 e6 e7 e8 e9 e10 e11 e12 e13 e14 e15
  omega
theorem pbf_13 {y : Nat} (hb : y / 8192 % 2 = 0) : pb16 (y + 8192) = (pb16 y + 1) % 2 := by
  have e14 : (y + 8192) / 16384 = y / 16384 := by omega
  have e15 : (y + 8192) / 32768 = y / 32768 := by omega
  have e1 : (y + 8192) / 2 = y / 2 + 4096 := by omega
  have e2 : (y + 8192) / 4 = y / 4 + 2048 := by omega
  have e3 : (y + 8192) / 8 = y / 8 + 1024 := by omega
  have e4 : (y + 8192) / 16 = y / 16 + 512 := by omega
  have e5 : (y + 8192) / 32 = y / 32 + 256 := by omega
  have e6 : (y + 8192) / 64 = y / 64 + 128 := by omega
  have e7 : (y + 8192) / 128 = y / 128 + 64 := by omega
  have e8 : (y + 8192) / 256 = y / 256 + 32 := by omega
  have e9 : (y + 8192) / 512 = y / 512 + 16 := by omega
  have e10 : (y + 8192) / 1024 = y / 1024 + 8 := by omega
  have e11 : (y + 8192) / 2048 = y / 2048 + 4 := by omega
  have e12 : (y + 8192) / 4096 = y / 4096 + 2 := by omega
  have e13 : (y + 8192) / 8192 = y / 8192 + 1 := by omega
  unfold pb16
  rw [e1, e2, e3, e4, e5, e6, e7, e8, e9, e10, e11, e12, e13, e14, e15]
  clear e1 e2 e3 e4 e5 e6 e7 e8 e9 e10 e11 e12 e13 e14 e15
  omega
theorem pbf_14 {y : Nat} (hb : y / 16384 % 2 = 0) : pb16 (y + 16384) = (pb16 y + 1) % 2 := by
  have e15 : (y + 16384) / 32768 = y / 32768 := by omega
  have e1 : (y + 16384) / 2 = y / 2 + 8192 := by omega
  have e2 : (y + 16384) / 4 = y / 4 + 4096 := by omega
  have e3 : (y + 16384) / 8 = y / 8 + 2048 := by omega
  have e4 : (y + 16384) / 16 = y / 16 + 1024 := by omega
  have e5 : (y + 16384) / 32 = y / 32 + 512 := by omega
  have e6 : (y + 16384) / 64 = y / 64 + 256 := by omega
  have e7 : (y + 16384) / 128 = y / 128 + 128 := by omega
  have e8 : (y + 16384) / 256 = y / 256 + 64 := by omega
  have e9 : (y + 16384) / 512 = y / 512 + 32 := by omega
  have e10 : (y + 16384) / 1024 = y / 1024 + 16 := by omega
  have e11 : (y + 16384) / 2048 = y / 2048 + 8 := by omega
  have e12 : (y + 16384) / 4096 = y / 4096 + 4 := by omega
  have e13 : (y + 16384) / 8192 = y / 8192 + 2 := by omega
  have e14 : (y + 16384) / 16384 = y / 16384 + 1 := by omega
  unfold pb16
  rw [e1, e2, e3, e4, e5, e6, e7, e8, e9, e10, e11, e12, e13, e14, e15]
  clear e1 e2 e3 e4 e5 e6 e7 e8 e9 e10 e11 e12 e13 e14 e15
  omega
theorem pbf_15 {y : Nat} (hb : y / 32768 % 2 = 0) : pb16 (y + 32768) = (pb16 y + 1) % 2 := by
  have e1 : (y + 32768) / 2 = y / 2 + 16384 := by omega
  have e2 : (y + 32768) / 4 = y / 4 + 8192 := by omega
  have e3 : (y + 32768) / 8 = y / 8 + 4096 := by omega
  have e4 : (y + 32768) / 16 = y / 16 + 2048 := by omega
  have e5 : (y + 32768) / 32 = y / 32 + 1024 := by omega
  have e6 : (y + 32768) / 64 = y / 64 + 512 := by omega
  have e7 : (y + 32768) / 128 = y / 128 + 256 := by omega
  have e8 : (y + 32768) / 256 = y / 256 + 128 := by omega
  have e9 : (y + 32768) / 512 = y / 512 + 64 := by omega
  have e10 : (y + 32768) / 1024 = y / 1024 + 32 := by omega
  have e11 : (y + 32768) / 2048 = y / 2048 + 16 := by omega
  have e12 : (y + 32768) / 4096 = y / 4096 + 8 := by omega
  have e13 : (y + 32768) / 8192 = y / 8192 + 4 := by omega
  have e14 : (y + 32768) / 16384 = y / 16384 + 2 := by omega
  have e15 : (y + 32768) / 32768 = y / 32768 + 1 := by omega
  unfold pb16
  rw [e1, e2, e3, e4, e5, e6, e7, e8, e9, e10, e11, e12, e13, e14, e15]
  clear e1 e2 e3 e4 e5 e6 e7 e8 e9 e10 e11 e12 e13 e14 e15
  omega
theorem pb_flip {y o : Nat} (ho : o < 16) (hb : y / 2 ^ o % 2 = 0) : pb16 (y + 2 ^ o) = (pb16 y + 1) % 2 := by
  match o, ho, hb with
  | 0, _, hb => exact pbf_0 hb
  | 1, _, hb => exact pbf_1 hb
  | 2, _, hb => exact pbf_2 hb
  | 3, _, hb => exact pbf_3 hb
  | 4, _, hb => exact pbf_4 hb
  | 5, _, hb => exact pbf_5 hb
  | 6, _, hb => exact pbf_6 hb
  | 7, _, hb => exact pbf_7 hb
  | 8, _, hb => exact pbf_8 hb
  | 9, _, hb => exact pbf_9 hb
  | 10, _, hb => exact pbf_10 hb
  | 11, _, hb => exact pbf_11 hb
  | 12, _, hb => exact pbf_12 hb
  | 13, _, hb => exact pbf_13 hb
  | 14, _, hb => exact pbf_14 hb
  | 15, _, hb => exact pbf_15 hb
  | k + 16, h, _ => exact absurd h (by omega)
theorem pb16_le {y : Nat} : pb16 y = 0 ∨ pb16 y = 1 := by
  unfold pb16
  omega
theorem or_clear {y o : Nat} (hb : y / 2 ^ o % 2 = 0) : y ||| 2 ^ o = y + 2 ^ o := by
  have h1 : y = 2 ^ (o + 1) * (y / 2 ^ (o + 1)) + y % 2 ^ (o + 1) := (Nat.div_add_mod y (2 ^ (o + 1))).symm
  have hp : 0 < 2 ^ o := Nat.two_pow_pos o
  have h2 : y % 2 ^ (o + 1) < 2 ^ o := by
    rw [Nat.pow_succ, Nat.mod_mul, hb]
    have := Nat.mod_lt y hp
    omega
  have e1 := Nat.two_pow_add_eq_or_of_lt (i := o + 1) (b := y % 2 ^ (o + 1)) (Nat.mod_lt _ (Nat.two_pow_pos _)) (y / 2 ^ (o + 1))
  have e2 := Nat.two_pow_add_eq_or_of_lt (i := o) (b := y % 2 ^ (o + 1)) h2 1
  have hps : 2 ^ (o + 1) = 2 ^ o * 2 := Nat.pow_succ 2 o
  have h3 : 2 ^ o * 1 + y % 2 ^ (o + 1) < 2 ^ (o + 1) := by
    generalize y % 2 ^ (o + 1) = z at h2
    omega
  have e3 := Nat.two_pow_add_eq_or_of_lt (i := o + 1) h3 (y / 2 ^ (o + 1))
  rw [Nat.mul_one] at e2 e3
  have e4 : y ||| 2 ^ o = 2 ^ (o + 1) * (y / 2 ^ (o + 1)) ||| (2 ^ o ||| y % 2 ^ (o + 1)) := by
    rw [Nat.or_comm (2 ^ o), ← Nat.or_assoc, ← e1, ← h1]
  rw [e4, ← e2, ← e3]
  generalize y % 2 ^ (o + 1) = z at h1
  omega
theorem xor_01 {a b : Nat} (ha : a = 0 ∨ a = 1) (hb : b = 0 ∨ b = 1) : nI a ^^^ nI b = nI ((a + b) % 2) := by
  rcases ha with rfl | rfl <;> rcases hb with rfl | rfl <;> rfl
theorem par_shX {y o v : Nat} (hy : y < 65536) (ho : o < 16) (hb : y / 2 ^ o % 2 = 0) (hv : v = 0 ∨ v = 1) : par (shX (nI y) o v) = nI v := by
  unfold shX
  rw [par_16 hy, xor_01 pb16_le hv, shl_nn (by omega)]
  have hlt : 2 ^ o ≤ 32768 := Nat.pow_le_pow_right (n := 2) (by omega) (show o ≤ 15 by omega)
  have hor : y ||| 2 ^ o < 65536 := Nat.or_lt_two_pow (n := 16) hy (by omega)
  have hs : (pb16 y + v) % 2 = 0 ∨ (pb16 y + v) % 2 = 1 := by omega
  have h01 := pb16_le (y := y)
  rcases hs with e | e
  · rw [e, Nat.zero_mul, or_nn (by omega) (by omega), Nat.or_zero, par_16 hy]
    congr 1
    omega
  · rw [e, Nat.one_mul, or_nn (by omega) (by omega), par_16 hor, or_clear hb, pb_flip ho hb]
    congr 1
    omega
section DBV
variable {q n : Nat} {Qs : Nat → Int32} {s : Int32} {le : Nat → Bool} {o : Nat}
theorem dB_01 (hQ : ∀ k, k < q → Qs k = 0 ∨ Qs k = 1) (i : Nat) : ∃ b, (b = 0 ∨ b = 1) ∧ dB q Qs s i = nI b := by
  unfold dB
  split
  · next z =>
    rcases hQ i z with e | e <;> rw [e]
    · exact ⟨0, Or.inl rfl, rfl⟩
    · exact ⟨1, Or.inr rfl, rfl⟩
  · next z =>
    unfold lgb
    rcases and1_01 (((lcg (sdI q s i)).toUInt32 >>> (((16 : Int32)).toUInt32 &&& Int32.toUInt32 31)).toInt32) with e | e <;> rw [e]
    · exact ⟨0, Or.inl rfl, rfl⟩
    · exact ⟨1, Or.inr rfl, rfl⟩
theorem bit_add {y p b o : Nat} (hy : y < 2 ^ p) (hb : b = 0 ∨ b = 1) (hn : ¬ o = p) (h : y / 2 ^ o % 2 = 0) : (y + b * 2 ^ p) / 2 ^ o % 2 = 0 := by
  by_cases z : o < p
  · obtain ⟨k, rfl⟩ : ∃ k, p = o + (k + 1) := ⟨p - o - 1, by omega⟩
    have e : b * 2 ^ (o + (k + 1)) = (b * 2 ^ k * 2) * 2 ^ o := by
      rw [Nat.pow_add, Nat.pow_succ, Nat.mul_comm (2 ^ o), ← Nat.mul_assoc, ← Nat.mul_assoc]
    rw [e, Nat.add_mul_div_right _ _ (Nat.two_pow_pos o)]
    omega
  · have h1 : 2 ^ (p + 1) ≤ 2 ^ o := Nat.pow_le_pow_right (by omega) (by omega)
    rw [Nat.pow_succ] at h1
    have h2 : b * 2 ^ p ≤ 2 ^ p := by rcases hb with rfl | rfl <;> omega
    rw [Nat.div_eq_of_lt (by omega)]
theorem dBut_v (hQ : ∀ k, k < q → Qs k = 0 ∨ Qs k = 1) (ho : le o = true) : ∀ c p i y, p + c ≤ 16 → y < 2 ^ p → y / 2 ^ o % 2 = 0 → ∃ y', (dBut q Qs s le c p i (nI y)).1 = nI y' ∧ y' < 2 ^ (p + c) ∧ y' / 2 ^ o % 2 = 0
  | 0, p, i, y, h, hy, hb => ⟨y, rfl, hy, hb⟩
  | c + 1, p, i, y, h, hy, hb => by
    have hp : 2 ^ p ≤ 2 ^ (p + 1) := Nat.pow_le_pow_right (by omega) (by omega)
    by_cases z : le p = true
    · have e : dBut q Qs s le (c + 1) p i (nI y) = dBut q Qs s le c (p + 1) i (nI y) := if_pos z
      rw [e, show p + (c + 1) = p + 1 + c by omega]
      exact dBut_v hQ ho c (p + 1) i y (by omega) (by omega) hb
    · obtain ⟨b, b1, b2⟩ := dB_01 (s := s) hQ i
      have h16 : 2 ^ p ≤ 32768 := Nat.pow_le_pow_right (n := 2) (by omega) (show p ≤ 15 by omega)
      have hb2 : b * 2 ^ p ≤ 2 ^ p := by rcases b1 with rfl | rfl <;> omega
      have e : dBut q Qs s le (c + 1) p i (nI y) = dBut q Qs s le c (p + 1) (i + 1) (nI (y + b * 2 ^ p)) := by
        show (if le p = true then _ else _) = _
        rw [if_neg z, b2, or_sh hy (by omega) (by omega)]
      rw [e, show p + (c + 1) = p + 1 + c by omega]
      refine dBut_v hQ ho c (p + 1) (i + 1) _ (by omega) ?_ (bit_add hy b1 (fun q => z (by rw [← q]; exact ho)) hb)
      rw [Nat.pow_succ]
      omega
end DBV
