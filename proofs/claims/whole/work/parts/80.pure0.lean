-- PURE 0: words on numbers; the guards of both sides; loops
theorem gd_t {α : Type} {c : Prop} [Decidable c] {k : Option α} (h : c) : gd c k = k := by unfold gd; rw [if_pos h]
abbrev bI (p : Prop) [Decidable p] : Int32 := if p then 1 else 0
theorem bI_bz {p : Prop} [Decidable p] : bz (bI p) := by
  by_cases h : p
  · exact Or.inr (if_pos h)
  · exact Or.inl (if_neg h)
theorem bI_0 {p : Prop} [Decidable p] : bI p = 0 ↔ ¬ p := by by_cases h : p <;> simp [bI, h]
theorem bI_1 {p : Prop} [Decidable p] : bI p = 1 ↔ p := by by_cases h : p <;> simp [bI, h]
theorem bI_t {p : Prop} [Decidable p] (h : p) : bI p = 1 := if_pos h
theorem bI_f {p : Prop} [Decidable p] (h : ¬ p) : bI p = 0 := if_neg h
theorem bI_c {p q : Prop} [Decidable p] [Decidable q] (h : p ↔ q) : bI p = bI q := by
  by_cases hp : p
  · rw [bI_t hp, bI_t (h.mp hp)]
  · rw [bI_f hp, bI_f (fun hq => hp (h.mpr hq))]
theorem i_lt (a b : Int32) : a < b ↔ a.toInt < b.toInt := Int32.lt_iff_toInt_lt
theorem i_le (a b : Int32) : a ≤ b ↔ a.toInt ≤ b.toInt := Int32.le_iff_toInt_le
theorem i_eq (a b : Int32) : a = b ↔ a.toInt = b.toInt := ⟨fun h => by rw [h], fun h => Int32.toInt_inj.mp h⟩
theorem l_lt (a b : Int64) : a < b ↔ a.toInt < b.toInt := Int64.lt_iff_toInt_lt
theorem l_le (a b : Int64) : a ≤ b ↔ a.toInt ≤ b.toInt := Int64.le_iff_toInt_le
theorem l_eq (a b : Int64) : a = b ↔ a.toInt = b.toInt := ⟨fun h => by rw [h], fun h => Int64.toInt_inj.mp h⟩
theorem lg_neg (x y : Int64) : lg_cmp x y < 0 ↔ x < y := by
  unfold lg_cmp
  by_cases h : x > y
  · rw [if_pos h]
    exact ⟨fun q => absurd q (by decide), fun q => by rw [l_lt] at q; have h2 : y < x := h; rw [l_lt] at h2; omega⟩
  · rw [if_neg h]
    by_cases h2 : x = y
    · rw [if_pos h2]
      exact ⟨fun q => absurd q (by decide), fun q => by rw [l_lt] at q; rw [l_eq] at h2; omega⟩
    · rw [if_neg h2]
      exact ⟨fun _ => by rw [l_lt]; rw [l_eq] at h2; have h3 : ¬ y < x := h; rw [l_lt] at h3; omega, fun _ => by decide⟩
theorem lg_pos (x y : Int64) : 0 < lg_cmp x y ↔ y < x := by
  unfold lg_cmp
  by_cases h : x > y
  · rw [if_pos h]
    exact ⟨fun _ => h, fun _ => by decide⟩
  · rw [if_neg h]
    by_cases h2 : x = y
    · rw [if_pos h2]
      exact ⟨fun q => absurd q (by decide), fun q => absurd q h⟩
    · rw [if_neg h2]
      exact ⟨fun q => absurd q (by decide), fun q => absurd q h⟩
theorem lg_zero (x y : Int64) : lg_cmp x y = 0 ↔ x = y := by
  unfold lg_cmp
  by_cases h : x > y
  · rw [if_pos h]
    exact ⟨fun q => absurd q (by decide), fun q => by have h2 : y < x := h; rw [l_lt] at h2; rw [l_eq] at q; omega⟩
  · rw [if_neg h]
    by_cases h2 : x = y
    · rw [if_pos h2]; exact ⟨fun _ => h2, fun _ => rfl⟩
    · rw [if_neg h2]
      exact ⟨fun q => absurd q (by decide), fun q => absurd q h2⟩
/-- a loop with an invariant: each turn goes on, or the loop ends with what is wanted -/
theorem lf {X R : Type} (F : (X → Option R) → X → Option R) (I : Nat → X → Prop) (e : Nat) (P : Option R → Prop)
    (hs : ∀ i x k, i < e → I i x → (∃ x', I (i + 1) x' ∧ F k x = k x') ∨ P (F k x)) (he : ∀ x k, I e x → P (F k x)) :
    ∀ n i x, i ≤ e → e - i < n → I i x → P (lfix F n x) := by
  intro n
  induction n with
  | zero => intro i x _ h; omega
  | succ n ih =>
    intro i x hi hn hI
    show P (F (lfix F n) x)
    rcases Nat.lt_or_ge i e with h | h
    · rcases hs i x (lfix F n) h hI with ⟨x', h1, h2⟩ | h1
      · rw [h2]; exact ih (i + 1) x' (by omega) (by omega) h1
      · exact h1
    · have : i = e := by omega
      subst this
      exact he x _ hI
theorem s_isWithin (fu : Nat) (a b c : Int32) : m_X5_isWithin fu a b c = some (bI (b ≤ a ∧ a ≤ c), ()) := by
  unfold m_X5_isWithin b_X5_isWithin_14 b_X5_isWithin_15
  by_cases h1 : a < b
  · have h2 : ¬ (b ≤ a ∧ a ≤ c) := fun h => by rw [i_lt] at h1; have := h.1; rw [i_le] at this; omega
    rw [if_pos h1, gd_t (Or.inl rfl), bI_f h2]
  · rw [if_neg h1]
    by_cases h3 : c < a
    · have h2 : ¬ (b ≤ a ∧ a ≤ c) := fun h => by rw [i_lt] at h3; have := h.2; rw [i_le] at this; omega
      rw [if_pos h3, gd_t (Or.inl rfl), bI_f h2]
    · have h2 : b ≤ a ∧ a ≤ c := by rw [i_lt] at h1 h3; rw [i_le, i_le]; omega
      rw [if_neg h3, gd_t (Or.inr rfl), bI_t h2]
theorem s_in (fu : Nat) (a b c : Int64) : m_X6_in fu a b c = some (bI (b ≤ a ∧ a ≤ c), ()) := by
  unfold m_X6_in b_X6_in_17 b_X6_in_18
  by_cases h1 : a < b
  · have h2 : ¬ (b ≤ a ∧ a ≤ c) := fun h => by rw [l_lt] at h1; have := h.1; rw [l_le] at this; omega
    rw [if_pos ((lg_neg a b).mpr h1), gd_t (Or.inl rfl), bI_f h2]
  · rw [if_neg (fun q => h1 ((lg_neg a b).mp q))]
    by_cases h3 : c < a
    · have h2 : ¬ (b ≤ a ∧ a ≤ c) := fun h => by rw [l_lt] at h3; have := h.2; rw [l_le] at this; omega
      rw [if_pos ((lg_pos a c).mpr h3), gd_t (Or.inl rfl), bI_f h2]
    · have h2 : b ≤ a ∧ a ≤ c := by rw [l_lt] at h1 h3; rw [l_le, l_le]; omega
      rw [if_neg (fun q => h3 ((lg_pos a c).mp q)), gd_t (Or.inr rfl), bI_t h2]
theorem w_le (a b : Int32) : a.toInt64 ≤ b.toInt64 ↔ a ≤ b := by rw [l_le, i_le, Int32.toInt_toInt64, Int32.toInt_toInt64]
/-- ints told as longs -/
theorem s_in32 (fu : Nat) (a b c : Int32) : m_X6_in fu a.toInt64 b.toInt64 c.toInt64 = some (bI (b ≤ a ∧ a ≤ c), ()) := by
  rw [s_in]
  congr 2
  exact bI_c (by rw [w_le, w_le])
theorem s_isShelf (fu : Nat) (a : Int32) : m_X5_isShelf fu a = some (bI (0 ≤ a ∧ a ≤ 7), ()) := by
  unfold m_X5_isShelf; rw [s_isWithin, Option.bind_some, gd_t bI_bz]
theorem s_isKind (fu : Nat) (a : Int32) : m_X5_isKind fu a = some (bI (0 ≤ a ∧ a ≤ 5), ()) := by
  unfold m_X5_isKind; rw [s_isWithin, Option.bind_some, gd_t bI_bz]
theorem s_isEchoSize (fu : Nat) (a : Int32) : m_X5_isEchoSize fu a = some (bI (0 ≤ a ∧ a ≤ 13), ()) := by
  unfold m_X5_isEchoSize; rw [s_isWithin, Option.bind_some, gd_t bI_bz]
theorem s_isVoice (fu : Nat) (t now : Nat → Int32) (v : Int32) : m_X5_isVoice fu t now v = some (bI (0 ≤ v ∧ v ≤ now 8 - 1), ()) := by
  unfold m_X5_isVoice; rw [s_isWithin, Option.bind_some, gd_t bI_bz]
theorem s_mVoice (fu : Nat) (t : Nat → Int32) (tL : Nat → Int64) (v : Int32) : m_X6_isVoice fu t tL v = some (bI (0 ≤ v ∧ v ≤ t 16 - 1), ()) := by
  unfold m_X6_isVoice; rw [show (0 : Int64) = (0 : Int32).toInt64 from rfl, s_in32, Option.bind_some, gd_t bI_bz]
theorem s_isUnder (fu : Nat) (k u : Int32) : m_X5_isUnder fu k u = some (bI (k = u ∨ u = 0 ∨ (k = 3 ∧ u = 1) ∨ (k = 4 ∧ u = 2)), ()) := by
  unfold m_X5_isUnder b_X5_isUnder_19 b_X5_isUnder_29 b_X5_isUnder_33 b_X5_isUnder_34
  rw [gd_t (Or.inr rfl), gd_t (Or.inl rfl)]
  by_cases h1 : k = u
  · rw [bI_t (Or.inl h1)]; simp [h1]
  · by_cases h2 : u = 0
    · rw [bI_t (Or.inr (Or.inl h2))]; simp [h2]
    · by_cases h3 : k = 3 ∧ u = 1
      · rw [bI_t (Or.inr (Or.inr (Or.inl h3)))]; simp [h3.1, h3.2]
      · by_cases h4 : k = 4 ∧ u = 2
        · rw [bI_t (Or.inr (Or.inr (Or.inr h4)))]; simp [h4.1, h4.2]
        · rw [bI_f (by simp only [h1, h2, h3, h4, or_self, not_false_eq_true])]
          by_cases h5 : k = 3 <;> by_cases h6 : u = 1 <;> by_cases h7 : k = 4 <;> by_cases h8 : u = 2 <;> simp_all
theorem s_mUnder (fu : Nat) (k u : Int32) : m_X6_isUnder fu k u = some (bI (k = u ∨ u = 0 ∨ (k = 3 ∧ u = 1) ∨ (k = 4 ∧ u = 2)), ()) := by
  unfold m_X6_isUnder b_X6_isUnder_19 b_X6_isUnder_29 b_X6_isUnder_33 b_X6_isUnder_34
  rw [gd_t (Or.inr rfl), gd_t (Or.inl rfl)]
  by_cases h1 : k = u
  · rw [bI_t (Or.inl h1)]; simp [h1]
  · by_cases h2 : u = 0
    · rw [bI_t (Or.inr (Or.inl h2))]; simp [h2]
    · by_cases h3 : k = 3 ∧ u = 1
      · rw [bI_t (Or.inr (Or.inr (Or.inl h3)))]; simp [h3.1, h3.2]
      · by_cases h4 : k = 4 ∧ u = 2
        · rw [bI_t (Or.inr (Or.inr (Or.inr h4)))]; simp [h4.1, h4.2]
        · rw [bI_f (by simp only [h1, h2, h3, h4, or_self, not_false_eq_true])]
          by_cases h5 : k = 3 <;> by_cases h6 : u = 1 <;> by_cases h7 : k = 4 <;> by_cases h8 : u = 2 <;> simp_all
theorem s_ref (fu : Nat) (t r : Nat → Int32) : (m_X5_refuse fu t r (-2) = some (-2, upd r 0 (r 0 + 1)) ∧ m_X5_refuse fu t r (-3) = some (-3, upd r 1 (r 1 + 1)) ∧ m_X5_refuse fu t r (-4) = some (-4, upd r 2 (r 2 + 1))) ∧ m_X5_refuse fu t r (-5) = some (-5, upd r 3 (r 3 + 1)) ∧ m_X5_refuse fu t r (-6) = some (-6, upd r 4 (r 4 + 1)) := ⟨⟨rfl, rfl, rfl⟩, rfl, rfl⟩
theorem s_mref (fu : Nat) (t : Nat → Int32) (tL : Nat → Int64) (r : Nat → Int32) : (m_X6_refuse fu t tL r (-2) = some (-2, upd r 2 (r 2 + 1)) ∧ m_X6_refuse fu t tL r (-3) = some (-3, upd r 3 (r 3 + 1)) ∧ m_X6_refuse fu t tL r (-4) = some (-4, upd r 4 (r 4 + 1))) ∧ m_X6_refuse fu t tL r (-5) = some (-5, upd r 5 (r 5 + 1)) ∧ m_X6_refuse fu t tL r (-6) = some (-6, upd r 6 (r 6 + 1)) := ⟨⟨rfl, rfl, rfl⟩, rfl, rfl⟩
