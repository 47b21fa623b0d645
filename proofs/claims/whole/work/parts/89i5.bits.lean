theorem s_countB {fu : Nat} {f : Nat → Bool} : m_J13_bitCount_95d88 fu (lN (bs f 41)) = some (nI (cnt f 41), ()) := by
  rw [s_count bs_41]
  congr 3
  rw [show (64 : Nat) = 41 + 23 from rfl, cnt_add, cnt_c (f := fun i => (bs f 41).testBit i) (g := f) 41 (fun i hi => by rw [bs_bit, decide_eq_true hi, Bool.true_and]), cnt_c (f := fun i => (bs f 41).testBit (41 + i)) (g := fun _ => false) 23 (fun i hi => by rw [bs_bit, decide_eq_false (by omega), Bool.false_and]), cnt_0, Nat.add_zero]
-- ints of eight bits
theorem bits_bs {f : Nat → Bool} : ∀ n, n ≤ 31 → bits f n = nI (bs f n) := by
  intro n
  induction n with
  | zero => intro _; rfl
  | succ n ih =>
    intro hn
    have e : ∀ k, k < 31 → ((1 : Int32) <<< (nI k &&& 31)) = nI (2 ^ k) := by decide +kernel
    by_cases c : f n = true
    · rw [bits_t c, bs_t c, ih (by omega), e n (by omega), fa_or]
    · rw [bits_f c, bs_f c, ih (by omega)]
theorem bc8 : ∀ x, x < 256 → m_J6_bitCount_0f7a4 0 (nI x) = some (nI (pc x), ()) := by decide +kernel
theorem pc_bs {f : Nat → Bool} {n : Nat} (hn : n ≤ 8) : pc (bs f n) = cnt f n := by
  unfold pc
  have e : cnt (fun i => (bs f n).testBit i) 8 = cnt (fun i => (bs f n).testBit i) (n + (8 - n)) := by rw [show n + (8 - n) = 8 by omega]
  rw [e, cnt_add, cnt_c (f := fun i => (bs f n).testBit i) (g := f) n (fun i hi => by rw [bs_bit, decide_eq_true hi, Bool.true_and]), cnt_c (f := fun i => (bs f n).testBit (n + i)) (g := fun _ => false) (8 - n) (fun i hi => by rw [bs_bit, decide_eq_false (by omega), Bool.false_and]), cnt_0, Nat.add_zero]
theorem bs_8 {f : Nat → Bool} {n : Nat} (hn : n ≤ 8) : bs f n < 256 := Nat.lt_of_lt_of_le bs_lt (by rw [show (256 : Nat) = 2 ^ 8 from rfl]; exact Nat.pow_le_pow_right (by decide) hn)
theorem s_bitc {fu n : Nat} {f : Nat → Bool} (hn : n ≤ 8) : m_J6_bitCount_0f7a4 fu (bits f n) = some (nI (cnt f n), ()) := by
  rw [bits_bs n (by omega), show m_J6_bitCount_0f7a4 fu (nI (bs f n)) = m_J6_bitCount_0f7a4 0 (nI (bs f n)) from rfl, bc8 _ (bs_8 hn), pc_bs hn]
theorem bm8 : ∀ x, x < 256 → x = 0 ∨ (nI x ≠ 0 ∧ (nI x &&& (nI x - 1)) = nI (x &&& (x - 1)) ∧ (x &&& (x - 1)) < 256 ∧ pc x = pc (x &&& (x - 1)) + 1) := by decide +kernel
theorem s_bitm_n {fu : Nat} : ∀ n x c, x < 256 → pc x < n → lfix (b_X6_bits_4 fu) n (nI c, nI x) = some (nI (c + pc x), ()) := by
  intro n
  induction n with
  | zero => intro x c _ h; omega
  | succ n ih =>
    intro x c hx h
    show b_X6_bits_4 fu (lfix (b_X6_bits_4 fu) n) (nI c, nI x) = _
    generalize lfix (b_X6_bits_4 fu) n = K at ih ⊢
    unfold b_X6_bits_4
    dsimp only
    rcases bm8 x hx with rfl | ⟨h1, h2, h3, h4⟩
    · rw [if_pos (show nI 0 = 0 from rfl), show pc 0 = 0 from by decide, Nat.add_zero]
    · rw [if_neg h1, h2, nI_1, ih _ (c + 1) h3 (by omega), h4, show c + 1 + pc (x &&& (x - 1)) = c + (pc (x &&& (x - 1)) + 1) by omega]
theorem s_bitmx {fu x : Nat} (hfu : 5000 ≤ fu) (hx : x < 256) : m_X6_bits fu (nI x) = some (nI (pc x), ()) := by
  unfold m_X6_bits
  have := s_bitm_n (fu := fu) fu x 0 hx (by have := pc_le (b := x); omega)
  rw [Nat.zero_add] at this
  exact this
theorem s_bitm {fu n : Nat} {f : Nat → Bool} (hfu : 5000 ≤ fu) (hn : n ≤ 8) : m_X6_bits fu (bits f n) = some (nI (cnt f n), ()) := by
  rw [bits_bs n (by omega), s_bitmx hfu (bs_8 hn), pc_bs hn]
