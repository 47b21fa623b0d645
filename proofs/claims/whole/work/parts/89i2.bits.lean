theorem sh_l {k : Nat} {K : Int32} (e : K = nI k) (hk : k < 64) {a : Nat} (ha : a < 2 ^ 64) : ((lN a).toUInt64 >>> (K.toInt64.toUInt64 &&& Int64.toUInt64 63)).toInt64 = lN (a / 2 ^ k) := by rw [e, wb_shr ha hk]
theorem vl_div {b : Nat} {l : List Nat} (h : b < 256) : vl_v (b :: l) / 256 = vl_v l := by
  show (b + 256 * vl_v l) / 256 = vl_v l
  omega
theorem vl_lt : ∀ l : List Nat, (∀ b ∈ l, b < 256) → vl_v l < 256 ^ l.length := by
  intro l
  induction l with
  | nil => intro _; decide
  | cons b l ih =>
    intro h
    have hb := h b List.mem_cons_self
    have h2 := ih (fun x hx => h x (List.mem_cons_of_mem _ hx))
    show b + 256 * vl_v l < 256 ^ (l.length + 1)
    rw [Nat.pow_succ]
    omega
def za : List Nat → List Nat → List Nat
  | [], m => m
  | a :: l, [] => a :: l
  | a :: l, b :: m => (a + b) :: za l m
theorem vl_za : ∀ l m : List Nat, vl_v l + vl_v m = vl_v (za l m) := by
  intro l
  induction l with
  | nil => intro m; exact Nat.zero_add _
  | cons a l ih =>
    intro m
    cases m with
    | nil => rfl
    | cons b m =>
      show (a + 256 * vl_v l) + (b + 256 * vl_v m) = (a + b) + 256 * vl_v (za l m)
      rw [← ih m]
      omega
theorem vl_8lt {a0 a1 a2 a3 a4 a5 a6 a7 : Nat} (h0 : a0 < 256) (h1 : a1 < 256) (h2 : a2 < 256) (h3 : a3 < 256) (h4 : a4 < 256) (h5 : a5 < 256) (h6 : a6 < 256) (h7 : a7 < 256) : vl_v [a0, a1, a2, a3, a4, a5, a6, a7] < 2 ^ 64 := by
  have := vl_lt [a0, a1, a2, a3, a4, a5, a6, a7] (by
    intro b hb
    simp only [List.mem_cons, List.not_mem_nil, or_false] at hb
    rcases hb with rfl | rfl | rfl | rfl | rfl | rfl | rfl | rfl <;> assumption)
  exact Nat.lt_of_lt_of_le this (by rw [show [a0, a1, a2, a3, a4, a5, a6, a7].length = 8 from rfl]; decide)
/-- the last three steps: the bytes are added -/
theorem s_count2 {c0 c1 c2 c3 c4 c5 c6 c7 : Nat} (h0 : c0 ≤ 8) (h1 : c1 ≤ 8) (h2 : c2 ≤ 8) (h3 : c3 ≤ 8) (h4 : c4 ≤ 8) (h5 : c5 ≤ 8) (h6 : c6 ≤ 8) (h7 : c7 ≤ 8) :
    ∃ s u z, vl_v [c0, c1, c2, c3, c4, c5, c6, c7] < 2 ^ 64 ∧ s < 2 ^ 64 ∧ u < 2 ^ 64 ∧ vl_v [c0, c1, c2, c3, c4, c5, c6, c7] + vl_v [c0, c1, c2, c3, c4, c5, c6, c7] / 2 ^ 8 = s ∧ s + s / 2 ^ 16 = u ∧ u + u / 2 ^ 32 = z ∧ z % 2 ^ 7 = c0 + (c1 + (c2 + (c3 + (c4 + (c5 + (c6 + (c7 + 0))))))) := by
  have d2 : ∀ {b0 b1 : Nat} {l : List Nat}, b0 < 256 → b1 < 256 → vl_v (b0 :: b1 :: l) / 2 ^ 16 = vl_v l := fun {b0 b1 l} g0 g1 => by
    rw [show (2 : Nat) ^ 16 = 256 * 256 from rfl, ← Nat.div_div_eq_div_mul, vl_div g0, vl_div g1]
  have d4 : ∀ {b0 b1 b2 b3 : Nat} {l : List Nat}, b0 < 256 → b1 < 256 → b2 < 256 → b3 < 256 → vl_v (b0 :: b1 :: b2 :: b3 :: l) / 2 ^ 32 = vl_v l := fun {b0 b1 b2 b3 l} g0 g1 g2 g3 => by
    rw [show (2 : Nat) ^ 32 = 2 ^ 16 * 2 ^ 16 from rfl, ← Nat.div_div_eq_div_mul, d2 g0 g1, d2 g2 g3]
  refine ⟨vl_v [c0 + c1, c1 + c2, c2 + c3, c3 + c4, c4 + c5, c5 + c6, c6 + c7, c7], vl_v [c0 + c1 + (c2 + c3), c1 + c2 + (c3 + c4), c2 + c3 + (c4 + c5), c3 + c4 + (c5 + c6), c4 + c5 + (c6 + c7), c5 + c6 + c7, c6 + c7, c7], vl_v [c0 + c1 + (c2 + c3) + (c4 + c5 + (c6 + c7)), c1 + c2 + (c3 + c4) + (c5 + c6 + c7), c2 + c3 + (c4 + c5) + (c6 + c7), c3 + c4 + (c5 + c6) + c7, c4 + c5 + (c6 + c7), c5 + c6 + c7, c6 + c7, c7], vl_8lt (by omega) (by omega) (by omega) (by omega) (by omega) (by omega) (by omega) (by omega), vl_8lt (by omega) (by omega) (by omega) (by omega) (by omega) (by omega) (by omega) (by omega), vl_8lt (by omega) (by omega) (by omega) (by omega) (by omega) (by omega) (by omega) (by omega), ?_, ?_, ?_, ?_⟩
  · rw [show (2 : Nat) ^ 8 = 256 from rfl, vl_div (by omega)]
    exact vl_za [c0, c1, c2, c3, c4, c5, c6, c7] [c1, c2, c3, c4, c5, c6, c7]
  · rw [d2 (by omega) (by omega)]
    exact vl_za [c0 + c1, c1 + c2, c2 + c3, c3 + c4, c4 + c5, c5 + c6, c6 + c7, c7] [c2 + c3, c3 + c4, c4 + c5, c5 + c6, c6 + c7, c7]
  · rw [d4 (by omega) (by omega) (by omega) (by omega)]
    exact vl_za [c0 + c1 + (c2 + c3), c1 + c2 + (c3 + c4), c2 + c3 + (c4 + c5), c3 + c4 + (c5 + c6), c4 + c5 + (c6 + c7), c5 + c6 + c7, c6 + c7, c7] [c4 + c5 + (c6 + c7), c5 + c6 + c7, c6 + c7, c7]
  · generalize hl : [c1 + c2 + (c3 + c4) + (c5 + c6 + c7), c2 + c3 + (c4 + c5) + (c6 + c7), c3 + c4 + (c5 + c6) + c7, c4 + c5 + (c6 + c7), c5 + c6 + c7, c6 + c7, c7] = L
    show (c0 + c1 + (c2 + c3) + (c4 + c5 + (c6 + c7)) + 256 * vl_v L) % 128 = _
    omega
