abbrev eI (cA : Nat → ClassId) (n : Nat) (f : Nat → Int32) : va_E := .inl (cA 0, n, .inl f)
abbrev eJ (cA : Nat → ClassId) (n : Nat) (f : Nat → Int64) : va_E := .inl (cA 1, n, .inr (.inl f))
abbrev eZ (cA : Nat → ClassId) (n : Nat) (f : Nat → Int32) : va_E := .inl (cA 2, n, .inl f)
abbrev eOJ (cA : Nat → ClassId) (am : Nat → Nat) (b : Nat) : va_E := .inl (cA 3, 8, .inr (.inr (.inr (.inr (fun i => if i < 8 then some (am (b + i)) else none)))))
abbrev eOZ (cA : Nat → ClassId) (am : Nat → Nat) (b : Nat) : va_E := .inl (cA 4, 8, .inr (.inr (.inr (.inr (fun i => if i < 8 then some (am (b + i)) else none)))))
theorem inb_lt {i : Int32} {n : Nat} (h : inb i n) : i.toNatClampNeg < n := Nat.not_le.mp fun q => h (Or.inr q)
theorem rf_lt {am : Nat → Nat} {b i : Nat} (h : i < 8) : va_rf ((fun i => if i < 8 then some (am (b + i)) else none) i) = Value.ref (am (b + i)) := by simp [va_rf, h]

abbrev e_X0 (a1 : Nat) (a2 : Nat) (a3 : Nat) : va_E := .inr (0, [.ref a1, .ref a2, .ref a3])
set_option maxRecDepth 20000 in
theorem inX0 : ∀ w ∈ u_ws RX0 TX0 3, w ∈ gw := by decide +kernel
abbrev e_X1 (a1 : Nat) (a2 : Nat) (a3 : Nat) (f : Nat → Int32) : va_E := .inr (1, [.int (f 0), .int (f 1), .int (f 2), .int (f 3), .int (f 4), .int (f 5), .int (f 6), .int (f 7), .int (f 8), .ref a1, .ref a2, .ref a3])
set_option maxRecDepth 20000 in
theorem inX1 : ∀ w ∈ u_ws RX1 TX1 12, w ∈ gw := by decide +kernel
abbrev e_X2 (a1 : Nat) (f : Nat → Int32) : va_E := .inr (2, [.ref a1, .int (f 1), .int (f 2), .int (f 3), .int (f 4)])
set_option maxRecDepth 20000 in
theorem inX2 : ∀ w ∈ u_ws RX2 TX2 5, w ∈ gw := by decide +kernel
abbrev e_X3 (a1 : Nat) (f : Nat → Int32) : va_E := .inr (3, [.int (f 0), .int (f 1), .int (f 2), .int (f 3), .int (f 4), .int (f 5), .int (f 6), .ref a1, .int (f 8)])
set_option maxRecDepth 20000 in
theorem inX3 : ∀ w ∈ u_ws RX3 TX3 9, w ∈ gw := by decide +kernel
abbrev e_X4 (a1 : Nat) (f : Nat → Int32) : va_E := .inr (4, [.ref a1, .int (f 1)])
set_option maxRecDepth 20000 in
theorem inX4 : ∀ w ∈ u_ws RX4 TX4 2, w ∈ gw := by decide +kernel
abbrev e_X5 (ad : Nat → Nat) (f : Nat → Int32) : va_E := .inr (5, [.ref (ad 1), .ref (ad 5), .ref (ad 9), .int (f 3), .ref (ad 13), .ref (ad 17), .ref (ad 19), .ref (ad 20), .ref (ad 22), .ref (ad 24), .ref (ad 26), .ref (ad 28), .ref (ad 29), .ref (ad 30), .ref (ad 31), .ref (ad 32), .ref (ad 33)])
set_option maxRecDepth 20000 in
theorem inX5 : ∀ w ∈ u_ws RX5 TX5 17, w ∈ gw := by decide +kernel
abbrev e_X6 (am : Nat → Nat) (kv tv : Value) (f : Nat → Int32) (g : Nat → Int64) : va_E := .inr (6, [.ref (am 1), .ref (am 2), .ref (am 3), .ref (am 4), .ref (am 13), .ref (am 14), .ref (am 15), .int (f 7), .ref (am 16), .int (f 9), .int (f 10), .int (f 11), .int (f 12), .int (f 13), .int (f 14), .int (f 15), .int (f 16), .ref (am 17), .ref (am 18), .ref (am 19), .int (f 20), kv, tv, .int (f 23), .int (f 24), .int (f 25), .int (f 26), .int (f 27), .ref (am 20), .int (f 29), .ref (am 21), .int (f 31), .ref (am 22), .int (f 33), .ref (am 23), .int (f 35), .int (f 36), .int (f 37), .long (g 38), .long (g 39), .int (f 40), .ref (am 24), .int (f 42), .int (f 43), .int (f 44), .ref (am 25), .ref (am 26), .ref (am 35), .ref (am 36)])
set_option maxRecDepth 20000 in
theorem inX6 : ∀ w ∈ u_ws RX6 TX6 49, w ∈ gw := by decide +kernel
