def byt : Nat → Nat → List Nat
  | 0, _ => []
  | n + 1, x => x % 256 :: byt n (x / 256)
theorem byt_v : ∀ n x, x < 256 ^ n → vl_v (byt n x) = x := by
  intro n
  induction n with
  | zero => intro x h; rw [Nat.pow_zero] at h; show 0 = x; omega
  | succ n ih =>
    intro x h
    have h2 : x / 256 < 256 ^ n := by rw [Nat.pow_succ] at h; omega
    show x % 256 + 256 * vl_v (byt n (x / 256)) = x
    rw [ih _ h2]
    omega
theorem byt_lt : ∀ n x, ∀ b ∈ byt n x, b < 256 := by
  intro n
  induction n with
  | zero => intro x b h; exact absurd h (by simp [byt])
  | succ n ih =>
    intro x b h
    rcases List.mem_cons.mp (show b ∈ x % 256 :: byt n (x / 256) from h) with e | e
    · rw [e]; exact Nat.mod_lt _ (by decide)
    · exact ih _ b e
def sl : List Nat → Nat
  | [] => 0
  | a :: l => a + sl l
theorem pc_mod {x : Nat} : pc (x % 256) = cnt (fun i => x.testBit i) 8 := by
  unfold pc
  refine cnt_c 8 (fun i hi => ?_)
  rw [show (256 : Nat) = 2 ^ 8 from rfl, Nat.testBit_mod_two_pow, decide_eq_true hi, Bool.true_and]
theorem byt_c : ∀ n x, cnt (fun i => x.testBit i) (8 * n) = sl ((byt n x).map pc) := by
  intro n
  induction n with
  | zero => intro x; rfl
  | succ n ih =>
    intro x
    show _ = pc (x % 256) + sl ((byt n (x / 256)).map pc)
    rw [show 8 * (n + 1) = 8 + 8 * n by omega, cnt_add, ← ih, pc_mod]
    congr 1
    refine cnt_c _ (fun i _ => ?_)
    rw [show (256 : Nat) = 2 ^ 8 from rfl, Nat.testBit_div_two_pow, Nat.add_comm]
theorem s_count {fu x : Nat} (hx : x < 2 ^ 64) : m_J13_bitCount_95d88 fu (lN x) = some (nI (cnt (fun i => x.testBit i) 64), ()) := by
  obtain ⟨x1, x2, g0, g1, g2, g3⟩ := vl_pc (byt 8 x) 8 rfl (byt_lt 8 x)
  rw [byt_v 8 x (Nat.lt_of_lt_of_le hx (by decide))] at g0 g1
  have hc := byt_c 8 x
  obtain ⟨c0, c1, c2, c3, c4, c5, c6, c7, e, p0, p1, p2, p3, p4, p5, p6, p7⟩ : ∃ c0 c1 c2 c3 c4 c5 c6 c7, (byt 8 x).map pc = [c0, c1, c2, c3, c4, c5, c6, c7] ∧ c0 ≤ 8 ∧ c1 ≤ 8 ∧ c2 ≤ 8 ∧ c3 ≤ 8 ∧ c4 ≤ 8 ∧ c5 ≤ 8 ∧ c6 ≤ 8 ∧ c7 ≤ 8 := ⟨_, _, _, _, _, _, _, _, rfl, pc_le, pc_le, pc_le, pc_le, pc_le, pc_le, pc_le, pc_le⟩
  rw [e] at g3 hc
  obtain ⟨s, u, z, v1, v2, v3, v4, v5, v6, v7⟩ := s_count2 p0 p1 p2 p3 p4 p5 p6 p7
  rw [s_count1 hx (by decide) (by decide) (by decide) g0 g1 g2 g3 v1 v2 v3 v4 v5 v6, v7]
  congr 3
  exact hc.symm
