set_option maxHeartbeats 200000 in
theorem s_count1 {fu x x1 x2 v : Nat} (hx : x < 2 ^ 64) (l1 : rp_m 85 8 < 2 ^ 64) (l2 : rp_m 51 8 < 2 ^ 62) (l3 : rp_m 15 8 < 2 ^ 64) (g0 : (x / 2 &&& rp_m 85 8) ≤ x) (g1 : x - (x / 2 &&& rp_m 85 8) = x1) (g2 : (x1 &&& rp_m 51 8) + (x1 / 4 &&& rp_m 51 8) = x2) (g3 : (x2 + x2 / 16) &&& rp_m 15 8 = v) {s u z : Nat} (hv : v < 2 ^ 64) (hs : s < 2 ^ 64) (hu : u < 2 ^ 64) (k1 : v + v / 2 ^ 8 = s) (k2 : s + s / 2 ^ 16 = u) (k3 : u + u / 2 ^ 32 = z) :
    m_J13_bitCount_95d88 fu (lN x) = some (nI (z % 2 ^ 7), ()) := by
  have m1 : (6148914691236517205 : Int64) = lN (rp_m 85 8) := by decide
  have m2 : (3689348814741910323 : Int64) = lN (rp_m 51 8) := by decide
  have m3 : (1085102592571150095 : Int64) = lN (rp_m 15 8) := by decide
  have a1 : (x1 &&& rp_m 51 8) ≤ rp_m 51 8 := Nat.and_le_right
  have a2 : (x1 / 4 &&& rp_m 51 8) ≤ rp_m 51 8 := Nat.and_le_right
  generalize rp_m 85 8 = M1 at *
  generalize rp_m 51 8 = M2 at *
  generalize rp_m 15 8 = M3 at *
  have hx1 : x1 < 2 ^ 64 := by rw [← g1]; exact Nat.lt_of_le_of_lt (Nat.sub_le _ _) hx
  have hx2 : x2 < 2 ^ 63 := by
    generalize (x1 &&& M2) = p at *
    generalize (x1 / 4 &&& M2) = r at *
    omega
  have hd : x / 2 ^ 1 < 2 ^ 64 := Nat.lt_of_le_of_lt (Nat.div_le_self _ _) hx
  have hd1 : x1 / 2 ^ 2 < 2 ^ 64 := Nat.lt_of_le_of_lt (Nat.div_le_self _ _) hx1
  have hd2 : x2 + x2 / 2 ^ 4 < 2 ^ 64 := by
    have := Nat.div_le_self x2 (2 ^ 4)
    omega
  unfold m_J13_bitCount_95d88
  rw [sh_l (k := 1) (K := 1) rfl (by decide) hx, m1, m2, m3, wb_and hd l1, show x / 2 ^ 1 = x / 2 from rfl, lN_sub g0, Option.bind_some, g1]
  rw [sh_l (k := 2) (K := 2) rfl (by decide) hx1, wb_and hx1 (by omega), wb_and hd1 (by omega), lN_add, Option.bind_some, show x1 / 2 ^ 2 = x1 / 4 from rfl, g2]
  rw [sh_l (k := 4) (K := 4) rfl (by decide) (show x2 < 2 ^ 64 by omega), lN_add, wb_and hd2 l3, Option.bind_some, show x2 / 2 ^ 4 = x2 / 16 from rfl, g3]
  rw [sh_l (k := 8) (K := 8) rfl (by decide) hv, lN_add, Option.bind_some, k1]
  rw [sh_l (k := 16) (K := 16) rfl (by decide) hs, lN_add, Option.bind_some, k2]
  rw [sh_l (k := 32) (K := 32) rfl (by decide) hu, lN_add, Option.bind_some, k3]
  rw [lN_i, show (127 : Int32) = nI (2 ^ 7 - 1) from rfl, fa_mask]
