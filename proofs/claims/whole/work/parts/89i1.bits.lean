-- PURE 18: sets as bits of a long, of an int (the wb_ and fa_ rows: from the kit's BITS and NUMBERS families, given for pasting)
theorem wb_tb (n : Nat) : (lN n).toBitVec = BitVec.ofNat 64 n := rfl
theorem wb_inj {a b : Int64} (h : a.toBitVec = b.toBitVec) : a = b := Int64.toBitVec_inj.mp h
theorem wb_tn {n : Nat} (h : n < 2 ^ 64) : (lN n).toBitVec.toNat = n := by rw [wb_tb, BitVec.toNat_ofNat, Nat.mod_eq_of_lt h]
theorem wb_of (x : Int64) : ∃ n, n < 2 ^ 64 ∧ x = lN n := ⟨x.toBitVec.toNat, x.toBitVec.isLt, wb_inj (by rw [wb_tb]; simp)⟩
theorem wb_of32 (x : Int32) : ∃ n, n < 2 ^ 32 ∧ x = nI n := ⟨x.toBitVec.toNat, x.toBitVec.isLt, Int32.toBitVec_inj.mp (by show _ = BitVec.ofNat 32 _; simp)⟩
theorem wb_c : ∀ k, k < 64 → ((nI k).toInt64 &&& 63) = lN k := by decide +kernel
theorem wb_cu : ∀ k, k < 64 → ((nI k).toInt64.toUInt64 &&& Int64.toUInt64 63) = UInt64.ofNat k := by decide +kernel
theorem wb_sm : ∀ k, k < 64 → (BitVec.ofNat 64 k).smod 64 = BitVec.ofNat 64 k := by decide +kernel
theorem wb_pw {a b : Nat} (h : a ≤ b) : 2 ^ b = 2 ^ a * 2 ^ (b - a) := by rw [← Nat.pow_add]; congr 1; omega
theorem wb_lt2 {a b : Nat} (h : a < b) : 2 ^ a < 2 ^ b := Nat.pow_lt_pow_right (by decide) h
theorem wb_mod (n : Nat) : lN n = lN (n % 2 ^ 64) := wb_inj (by rw [wb_tb, wb_tb]; apply BitVec.eq_of_toNat_eq; rw [BitVec.toNat_ofNat, BitVec.toNat_ofNat, Nat.mod_mod])
theorem wb_shr {n k : Nat} (hn : n < 2 ^ 64) (hk : k < 64) : ((lN n).toUInt64 >>> ((nI k).toInt64.toUInt64 &&& Int64.toUInt64 63)).toInt64 = lN (n / 2 ^ k) := by
  rw [wb_cu k hk]
  apply wb_inj
  apply BitVec.eq_of_toNat_eq
  show ((lN n).toUInt64 >>> UInt64.ofNat k).toNat = (BitVec.ofNat 64 _).toNat
  have h1 : (UInt64.ofNat k).toNat = k := by
    show (BitVec.ofNat 64 k).toNat = k
    rw [BitVec.toNat_ofNat, Nat.mod_eq_of_lt (by omega)]
  have h2 : (lN n).toUInt64.toNat = n := wb_tn hn
  rw [UInt64.toNat_shiftRight, h1, h2, Nat.mod_eq_of_lt hk, Nat.shiftRight_eq_div_pow, BitVec.toNat_ofNat, Nat.mod_eq_of_lt (Nat.lt_of_le_of_lt (Nat.div_le_self _ _) hn)]
theorem wb_shl (n : Nat) {k : Nat} (hk : k < 64) : lN n <<< ((nI k).toInt64 &&& 63) = lN (n * 2 ^ k) := by
  rw [wb_c k hk]
  apply wb_inj
  rw [Int64.toBitVec_shiftLeft, wb_tb, wb_tb, wb_tb, wb_sm k hk]
  apply BitVec.eq_of_toNat_eq
  rw [BitVec.shiftLeft_eq', BitVec.toNat_shiftLeft, BitVec.toNat_ofNat, BitVec.toNat_ofNat, BitVec.toNat_ofNat, Nat.mod_eq_of_lt (show k < 2 ^ 64 by omega), Nat.shiftLeft_eq, Nat.mul_mod, Nat.mod_mod, ← Nat.mul_mod]
theorem wb_and {a b : Nat} (ha : a < 2 ^ 64) (hb : b < 2 ^ 64) : lN a &&& lN b = lN (a &&& b) := by
  apply wb_inj
  rw [Int64.toBitVec_and, wb_tb, wb_tb, wb_tb]
  apply BitVec.eq_of_toNat_eq
  rw [BitVec.toNat_and, BitVec.toNat_ofNat, BitVec.toNat_ofNat, BitVec.toNat_ofNat, Nat.mod_eq_of_lt ha, Nat.mod_eq_of_lt hb, Nat.mod_eq_of_lt (Nat.and_lt_two_pow _ hb)]
theorem wb_or {a b : Nat} (ha : a < 2 ^ 64) (hb : b < 2 ^ 64) : lN a ||| lN b = lN (a ||| b) := by
  apply wb_inj
  rw [Int64.toBitVec_or, wb_tb, wb_tb, wb_tb]
  apply BitVec.eq_of_toNat_eq
  rw [BitVec.toNat_or, BitVec.toNat_ofNat, BitVec.toNat_ofNat, BitVec.toNat_ofNat, Nat.mod_eq_of_lt ha, Nat.mod_eq_of_lt hb, Nat.mod_eq_of_lt (Nat.or_lt_two_pow ha hb)]
theorem wb_mask {n k : Nat} (hn : n < 2 ^ 64) (hk : k < 64) : lN n &&& lN (2 ^ k - 1) = lN (n % 2 ^ k) := by
  rw [wb_and hn (by have := wb_lt2 hk; omega), Nat.and_two_pow_sub_one_eq_mod]
theorem wb_a1 {n : Nat} (hn : n < 2 ^ 64) : lN n &&& 1 = lN (n % 2) := wb_mask (k := 1) hn (by decide)
theorem wb_bit {n k : Nat} (hn : n < 2 ^ 64) (hk : k < 64) : ((lN n).toUInt64 >>> ((nI k).toInt64.toUInt64 &&& Int64.toUInt64 63)).toInt64 &&& 1 = lN (n / 2 ^ k % 2) := by
  rw [wb_shr hn hk, wb_a1 (Nat.lt_of_le_of_lt (Nat.div_le_self _ _) hn)]
theorem fa_and (a b : Nat) : nI a &&& nI b = nI (a &&& b) := by
  apply Int32.toBitVec_inj.1
  show BitVec.ofNat 32 a &&& BitVec.ofNat 32 b = BitVec.ofNat 32 (a &&& b)
  apply BitVec.eq_of_getLsbD_eq
  intro i hi
  simp [hi]
theorem fa_or (a b : Nat) : nI a ||| nI b = nI (a ||| b) := by
  apply Int32.toBitVec_inj.1
  show BitVec.ofNat 32 a ||| BitVec.ofNat 32 b = BitVec.ofNat 32 (a ||| b)
  apply BitVec.eq_of_getLsbD_eq
  intro i hi
  simp [hi]
theorem fa_mask (n k : Nat) : nI n &&& nI (2 ^ k - 1) = nI (n % 2 ^ k) := by rw [fa_and, Nat.and_two_pow_sub_one_eq_mod]
def bs (f : Nat → Bool) : Nat → Nat
  | 0 => 0
  | n + 1 => if f n then bs f n ||| 2 ^ n else bs f n
theorem bs_t {f : Nat → Bool} {n : Nat} (h : f n = true) : bs f (n + 1) = bs f n ||| 2 ^ n := by
  show (if f n then bs f n ||| 2 ^ n else bs f n) = _
  rw [if_pos h]
theorem bs_f {f : Nat → Bool} {n : Nat} (h : ¬ f n = true) : bs f (n + 1) = bs f n := by
  show (if f n then bs f n ||| 2 ^ n else bs f n) = _
  rw [if_neg h]
theorem bs_bit {f : Nat → Bool} : ∀ n i, (bs f n).testBit i = (decide (i < n) && f i) := by
  intro n
  induction n with
  | zero => intro i; rw [show bs f 0 = 0 from rfl, Nat.zero_testBit]; simp
  | succ n ih =>
    intro i
    by_cases c : f n = true
    · rw [bs_t c, Nat.testBit_or, ih, Nat.testBit_two_pow]
      rcases Nat.lt_trichotomy i n with h | h | h
      · simp [h, show i < n + 1 by omega, show ¬ n = i by omega]
      · subst h; simp [c]
      · simp [show ¬ i < n by omega, show ¬ i < n + 1 by omega, show ¬ n = i by omega]
    · rw [bs_f c, ih]
      by_cases h : i = n
      · subst h; simp [c]
      · rw [show decide (i < n) = decide (i < n + 1) from decide_eq_decide.mpr (by omega)]
theorem bs_lt {f : Nat → Bool} {n : Nat} : bs f n < 2 ^ n := Nat.lt_pow_two_of_testBit _ (fun i hi => by rw [bs_bit, decide_eq_false (show ¬ i < n by omega), Bool.false_and])
theorem bs_ext {x : Nat} {f : Nat → Bool} {n : Nat} (h : ∀ i, x.testBit i = (decide (i < n) && f i)) : x = bs f n := Nat.eq_of_testBit_eq (fun i => by rw [h, bs_bit])
theorem bs_41 {f : Nat → Bool} : bs f 41 < 2 ^ 64 := Nat.lt_of_lt_of_le bs_lt (by decide)
theorem bs_or {a n : Nat} (ha : a < 2 ^ 64) (hn : n < 63) : lN a ||| ((1 : Int64) <<< ((nI n).toInt64 &&& 63)) = lN (a ||| 2 ^ n) := by
  rw [show (1 : Int64) = lN 1 from rfl, wb_shl 1 (by omega), Nat.one_mul, wb_or ha (wb_lt2 (by omega))]
theorem s_isIn {fu x i : Nat} (hx : x < 2 ^ 64) (hi : i < 64) : m_X5_isIn fu (lN x) (nI i) = some (bI (x.testBit i = true), ()) := by
  unfold m_X5_isIn b_X5_isIn_15
  rw [wb_bit hx hi]
  have e : (x.testBit i = true) = (x / 2 ^ i % 2 = 1) := by rw [Nat.testBit_eq_decide_div_mod_eq, decide_eq_true_eq]
  by_cases c : x / 2 ^ i % 2 = 1
  · rw [c, if_pos ((lg_zero (lN 1) 1).mpr rfl), gd_t (Or.inr rfl), bI_t (by rw [e]; exact c)]
  · rw [show x / 2 ^ i % 2 = 0 by omega, if_neg (fun q => absurd ((lg_zero _ _).mp q) (by decide)), gd_t (Or.inl rfl), bI_f (by rw [e]; exact c)]
theorem s_isInB {fu i : Nat} {f : Nat → Bool} (hi : i < 41) : m_X5_isIn fu (lN (bs f 41)) (nI i) = some (bI (f i = true), ()) := by
  rw [s_isIn bs_41 (by omega)]
  congr 2
  exact bI_c (by rw [bs_bit, decide_eq_true hi, Bool.true_and])
def po (f : Nat → Bool) : Nat → Bool := fun i => f (i - 1)
def dw (f : Nat → Bool) : Nat → Bool := fun i => f (min 40 (i + 1))
theorem s_poured {fu : Nat} {f : Nat → Bool} : m_X5_depthsPouredInto fu (lN (bs f 41)) = some (lN (bs (po f) 41), ()) := by
  unfold m_X5_depthsPouredInto
  have hx : bs f 41 < 2 ^ 41 := bs_lt
  rw [show ((1 : Int32).toInt64 &&& 63) = ((nI 1).toInt64 &&& 63) from rfl, wb_shl _ (by decide), wb_a1 bs_41, wb_or (by omega) (by omega), show (2199023255551 : Int64) = lN (2 ^ 41 - 1) from rfl, wb_mask (Nat.or_lt_two_pow (by omega) (by omega)) (by decide)]
  congr 3
  apply bs_ext
  intro i
  rw [Nat.testBit_mod_two_pow, Nat.testBit_or, Nat.testBit_mul_two_pow, show bs f 41 % 2 = bs f 41 % 2 ^ 1 from rfl, Nat.testBit_mod_two_pow, bs_bit, bs_bit]
  by_cases h : i < 41
  · cases i with
    | zero => simp [po]
    | succ i => simp [po, show i < 41 by omega]
  · simp [h]
theorem s_drawn {fu : Nat} {f : Nat → Bool} : m_X5_depthsDrawnInto fu (lN (bs f 41)) = some (lN (bs (dw f) 41), ()) := by
  unfold m_X5_depthsDrawnInto
  have hx : bs f 41 < 2 ^ 41 := bs_lt
  rw [show ((1 : Int32).toInt64.toUInt64 &&& Int64.toUInt64 63) = ((nI 1).toInt64.toUInt64 &&& Int64.toUInt64 63) from rfl, wb_shr bs_41 (by decide), show (1099511627776 : Int64) = lN (2 ^ 40) from rfl, wb_and bs_41 (by decide), wb_or (by omega) (Nat.and_lt_two_pow _ (by decide))]
  congr 3
  apply bs_ext
  intro i
  rw [Nat.testBit_or, Nat.testBit_div_two_pow, Nat.testBit_and, Nat.testBit_two_pow, bs_bit, bs_bit]
  rcases Nat.lt_trichotomy i 40 with h | h | h
  · simp [dw, show i < 41 by omega, show i + 1 < 41 by omega, show ¬ 40 = i by omega, show min 40 (i + 1) = i + 1 by omega]
  · subst h; simp [dw]
  · simp [show ¬ i < 41 by omega, show ¬ i + 1 < 41 by omega]
def wb (f : Nat → Bool) (first : Bool) : Nat → Bool := fun i => if first then (po f i || f i) || dw f i else (po f i && f i) && dw f i
theorem s_wonBefore {fu : Nat} {f : Nat → Bool} {b : Int32} : m_X5_depthsWonBefore fu (lN (bs f 41)) b = some (lN (bs (wb f (decide (b ≠ 0))) 41), ()) := by
  unfold m_X5_depthsWonBefore b_X5_depthsWonBefore_30
  rw [s_poured, s_drawn, Option.bind_some, Option.bind_some]
  have h1 : bs (po f) 41 < 2 ^ 64 := bs_41
  have h2 : bs f 41 < 2 ^ 64 := bs_41
  have h3 : bs (dw f) 41 < 2 ^ 64 := bs_41
  by_cases c : b = 0
  · rw [if_pos c, wb_and h1 h2, wb_and (Nat.and_lt_two_pow _ h2) h3]
    congr 3
    apply bs_ext
    intro i
    rw [Nat.testBit_and, Nat.testBit_and, bs_bit, bs_bit, bs_bit]
    by_cases h : i < 41 <;> simp [h, c, wb]
  · rw [if_neg c, wb_or h1 h2, wb_or (Nat.or_lt_two_pow h1 h2) h3]
    congr 3
    apply bs_ext
    intro i
    rw [Nat.testBit_or, Nat.testBit_or, bs_bit, bs_bit, bs_bit]
    by_cases h : i < 41 <;> simp [h, c, wb]
-- how many bits: byte by byte
def vl_v : List Nat → Nat
  | [] => 0
  | b :: l => b + 256 * vl_v l
def rp_m (s : Nat) : Nat → Nat
  | 0 => 0
  | n + 1 => s + 256 * rp_m s n
theorem and_8 {b h s m : Nat} (hb : b < 256) (hs : s < 256) : (b + 256 * h) &&& (s + 256 * m) = (b &&& s) + 256 * (h &&& m) := by
  have e1 : ((b + 256 * h) &&& (s + 256 * m)) % 2 ^ 8 = (b &&& s) := by
    rw [Nat.and_mod_two_pow, show (b + 256 * h) % 2 ^ 8 = b by omega, show (s + 256 * m) % 2 ^ 8 = s by omega]
  have e2 : ((b + 256 * h) &&& (s + 256 * m)) / 2 ^ 8 = (h &&& m) := by
    rw [Nat.and_div_two_pow, show (b + 256 * h) / 2 ^ 8 = h by omega, show (s + 256 * m) / 2 ^ 8 = m by omega]
  generalize (b + 256 * h) &&& (s + 256 * m) = X at e1 e2 ⊢
  generalize (b &&& s) = Y at e1 ⊢
  generalize (h &&& m) = Z at e2 ⊢
  omega
theorem vl_and {s : Nat} (hs : s < 256) : ∀ l : List Nat, (∀ b ∈ l, b < 256) → vl_v l &&& rp_m s l.length = vl_v (l.map (· &&& s)) := by
  intro l
  induction l with
  | nil => intro _; exact Nat.zero_and _
  | cons b l ih =>
    intro h
    show (b + 256 * vl_v l) &&& (s + 256 * rp_m s l.length) = (b &&& s) + 256 * vl_v (l.map (· &&& s))
    rw [and_8 (h b List.mem_cons_self) hs, ih (fun x hx => h x (List.mem_cons_of_mem _ hx))]
theorem t85 : ∀ b, b < 256 → ∀ e, e < 2 → (b / 2 + 128 * e) &&& 85 = (b / 2) &&& 85 := by decide +kernel
theorem t51 : ∀ b, b < 256 → ∀ e, e < 4 → (b / 4 + 64 * e) &&& 51 = (b / 4) &&& 51 := by decide +kernel
theorem t15 : ∀ b, b < 69 → ∀ e, e < 5 → (b + b / 16 + 16 * e) &&& 15 = (b + b / 16) % 16 := by decide +kernel
theorem vl_s1 : ∀ l : List Nat, (∀ b ∈ l, b < 256) → vl_v l / 2 &&& rp_m 85 l.length = vl_v (l.map (fun b => (b / 2) &&& 85)) := by
  intro l
  induction l with
  | nil => intro _; rfl
  | cons b l ih =>
    intro h
    have hb := h b List.mem_cons_self
    show (b + 256 * vl_v l) / 2 &&& (85 + 256 * rp_m 85 l.length) = ((b / 2) &&& 85) + 256 * vl_v (l.map (fun b => (b / 2) &&& 85))
    rw [show (b + 256 * vl_v l) / 2 = (b / 2 + 128 * (vl_v l % 2)) + 256 * (vl_v l / 2) by omega, and_8 (by omega) (by decide), ih (fun x hx => h x (List.mem_cons_of_mem _ hx)), t85 b hb _ (by omega)]
theorem vl_s2 : ∀ l : List Nat, (∀ b ∈ l, b < 256) → vl_v l / 4 &&& rp_m 51 l.length = vl_v (l.map (fun b => (b / 4) &&& 51)) := by
  intro l
  induction l with
  | nil => intro _; rfl
  | cons b l ih =>
    intro h
    have hb := h b List.mem_cons_self
    show (b + 256 * vl_v l) / 4 &&& (51 + 256 * rp_m 51 l.length) = ((b / 4) &&& 51) + 256 * vl_v (l.map (fun b => (b / 4) &&& 51))
    rw [show (b + 256 * vl_v l) / 4 = (b / 4 + 64 * (vl_v l % 4)) + 256 * (vl_v l / 4) by omega, and_8 (by omega) (by decide), ih (fun x hx => h x (List.mem_cons_of_mem _ hx)), t51 b hb _ (by omega)]
theorem vl_s4 : ∀ l : List Nat, (∀ b ∈ l, b < 69 ∧ b % 16 ≤ 4) → vl_v l % 16 ≤ 4 ∧ (vl_v l + vl_v l / 16) &&& rp_m 15 l.length = vl_v (l.map (fun b => (b + b / 16) % 16)) := by
  intro l
  induction l with
  | nil => intro _; exact ⟨by decide, rfl⟩
  | cons b l ih =>
    intro h
    have hb := h b List.mem_cons_self
    obtain ⟨i1, i2⟩ := ih (fun x hx => h x (List.mem_cons_of_mem _ hx))
    refine ⟨by show (b + 256 * vl_v l) % 16 ≤ 4; omega, ?_⟩
    show (b + 256 * vl_v l) + (b + 256 * vl_v l) / 16 &&& (15 + 256 * rp_m 15 l.length) = (b + b / 16) % 16 + 256 * vl_v (l.map (fun b => (b + b / 16) % 16))
    rw [show (b + 256 * vl_v l) + (b + 256 * vl_v l) / 16 = (b + b / 16 + 16 * (vl_v l % 16)) + 256 * (vl_v l + vl_v l / 16) by omega, and_8 (by omega) (by decide), i2, t15 b hb.1 _ (by omega)]
theorem vl_sub {F G : Nat → Nat} : ∀ l : List Nat, (∀ b ∈ l, G b ≤ F b) → vl_v (l.map G) ≤ vl_v (l.map F) ∧ vl_v (l.map F) - vl_v (l.map G) = vl_v (l.map (fun b => F b - G b)) := by
  intro l
  induction l with
  | nil => intro _; exact ⟨Nat.le_refl _, rfl⟩
  | cons b l ih =>
    intro h
    have hb := h b List.mem_cons_self
    obtain ⟨i1, i2⟩ := ih (fun x hx => h x (List.mem_cons_of_mem _ hx))
    constructor
    · show G b + 256 * vl_v (l.map G) ≤ F b + 256 * vl_v (l.map F); omega
    · show (F b + 256 * vl_v (l.map F)) - (G b + 256 * vl_v (l.map G)) = (F b - G b) + 256 * vl_v (l.map (fun b => F b - G b)); omega
theorem vl_add {F G : Nat → Nat} : ∀ l : List Nat, vl_v (l.map F) + vl_v (l.map G) = vl_v (l.map (fun b => F b + G b)) := by
  intro l
  induction l with
  | nil => rfl
  | cons b l ih =>
    show (F b + 256 * vl_v (l.map F)) + (G b + 256 * vl_v (l.map G)) = (F b + G b) + 256 * vl_v (l.map (fun b => F b + G b))
    omega
def sw_1 (b : Nat) : Nat := b - ((b / 2) &&& 85)
def sw_2 (b : Nat) : Nat := (b &&& 51) + ((b / 4) &&& 51)
def sw_3 (b : Nat) : Nat := (b + b / 16) % 16
def pc (b : Nat) : Nat := cnt (fun i => b.testBit i) 8
theorem pc_b : ∀ b, b < 256 → ((b / 2) &&& 85) ≤ b ∧ sw_1 b < 256 ∧ sw_2 (sw_1 b) < 69 ∧ sw_2 (sw_1 b) % 16 ≤ 4 ∧ sw_3 (sw_2 (sw_1 b)) = pc b := by decide +kernel
/-- the number of its set bits -/
theorem vl_pc (l : List Nat) (n : Nat) (hn : l.length = n) (h : ∀ b ∈ l, b < 256) : ∃ x1 x2, (vl_v l / 2 &&& rp_m 85 n) ≤ vl_v l ∧ vl_v l - (vl_v l / 2 &&& rp_m 85 n) = x1 ∧ (x1 &&& rp_m 51 n) + (x1 / 4 &&& rp_m 51 n) = x2 ∧ (x2 + x2 / 16) &&& rp_m 15 n = vl_v (l.map pc) := by
  subst hn
  have e1 := vl_s1 l h
  have q1 := vl_sub (F := id) (G := fun b => (b / 2) &&& 85) l (fun b hb => (pc_b b (h b hb)).1)
  rw [List.map_id] at q1
  have h1 : ∀ b ∈ l.map sw_1, b < 256 := fun b hb => by
    obtain ⟨a, ha, rfl⟩ := List.mem_map.mp hb
    exact (pc_b a (h a ha)).2.1
  have e2 := vl_and (s := 51) (by decide) (l.map sw_1) h1
  have e3 := vl_s2 (l.map sw_1) h1
  rw [List.length_map] at e2 e3
  have q2 := vl_add (F := fun b => b &&& 51) (G := fun b => (b / 4) &&& 51) (l.map sw_1)
  have h2 : ∀ b ∈ (l.map sw_1).map sw_2, b < 69 ∧ b % 16 ≤ 4 := fun b hb => by
    obtain ⟨a, ha, e⟩ := List.mem_map.mp hb
    obtain ⟨a2, ha2, e2⟩ := List.mem_map.mp ha
    subst e2
    subst e
    exact ⟨(pc_b a2 (h a2 ha2)).2.2.1, (pc_b a2 (h a2 ha2)).2.2.2.1⟩
  have e4 := (vl_s4 ((l.map sw_1).map sw_2) h2).2
  rw [List.length_map, List.length_map] at e4
  refine ⟨vl_v (l.map sw_1), vl_v ((l.map sw_1).map sw_2), by rw [e1]; exact q1.1, by rw [e1]; exact q1.2, by rw [e2, e3]; exact q2, ?_⟩
  rw [e4, List.map_map, List.map_map]
  congr 1
  exact List.map_congr_left (fun a ha => (pc_b a (h a ha)).2.2.2.2)
theorem cnt_add {f : Nat → Bool} {a : Nat} : ∀ b, cnt f (a + b) = cnt f a + cnt (fun i => f (a + i)) b := by
  intro b
  induction b with
  | zero => rfl
  | succ b ih =>
    by_cases c : f (a + b) = true
    · rw [show a + (b + 1) = (a + b) + 1 from rfl, cnt_t c, cnt_t (f := fun i => f (a + i)) c, ih]; rfl
    · rw [show a + (b + 1) = (a + b) + 1 from rfl, cnt_f c, cnt_f (f := fun i => f (a + i)) c, ih]
theorem cnt_0 : ∀ n, cnt (fun _ => false) n = 0 := by
  intro n
  induction n with
  | zero => rfl
  | succ n ih => rw [cnt_f (by decide), ih]
theorem pc_le {b : Nat} : pc b ≤ 8 := cnt_le 8
