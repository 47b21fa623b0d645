-- PURE 25: the tape: tokens on both sides
def le_t (B : Nat → Nat) (z j : Nat) : Prop := j < z ∧ 97 ≤ B j ∧ B j ≤ 122
def di_t (B : Nat → Nat) (z j : Nat) : Prop := j < z ∧ 48 ≤ B j ∧ B j ≤ 57
def sp_t (B : Nat → Nat) (z j : Nat) : Prop := j < z ∧ B j = 32
theorem sc_ex {P : Nat → Prop} {z i : Nat} (hP : ∀ j, P j → j < z) (hi : i ≤ z) : ∃ r, i ≤ r ∧ r ≤ z ∧ (∀ j, i ≤ j → j < r → P j) ∧ ¬ P r := by
  obtain ⟨r, ⟨h1, h2⟩, h3⟩ := pk_least (fun r => i ≤ r ∧ ¬ P r) ⟨z, hi, fun q => absurd (hP z q) (by omega)⟩
  refine ⟨r, h1, ?_, fun j j1 j2 => Classical.byContradiction fun q => h3 j j2 ⟨j1, q⟩, h2⟩
  refine Classical.byContradiction fun q => ?_
  exact h3 z (by omega) ⟨hi, fun q2 => absurd (hP z q2) (by omega)⟩
/-- the next token: its kind, where it begins, the place behind it -/
def NX (B : Nat → Nat) (z p tk fr at' : Nat) : Prop := p ≤ fr ∧ fr ≤ z ∧ at' ≤ z ∧ (∀ j, p ≤ j → j < fr → sp_t B z j) ∧ ¬ sp_t B z fr ∧
  ((fr = z ∧ tk = 0 ∧ at' = z) ∨ (le_t B z fr ∧ tk = 1 ∧ fr < at' ∧ (∀ j, fr ≤ j → j < at' → le_t B z j) ∧ ¬ le_t B z at') ∨ (di_t B z fr ∧ tk = 2 ∧ fr < at' ∧ (∀ j, fr ≤ j → j < at' → di_t B z j) ∧ ¬ di_t B z at') ∨
    ((fr < z ∧ ¬ le_t B z fr ∧ ¬ di_t B z fr) ∧ at' = fr + 1 ∧ ((B fr = 59 ∧ tk = 3) ∨ (¬ B fr = 59 ∧ tk = 4))))
theorem NX.ex (B : Nat → Nat) {z p : Nat} (hp : p ≤ z) : ∃ tk fr at', NX B z p tk fr at' := by
  obtain ⟨fr, f1, f2, f3, f4⟩ := sc_ex (P := sp_t B z) (z := z) (fun j h => h.1) hp
  rcases Nat.lt_or_ge fr z with c | c
  · by_cases c1 : le_t B z fr
    · obtain ⟨a, a1, a2, a3, a4⟩ := sc_ex (P := le_t B z) (z := z) (fun j h => h.1) f2
      have : fr ≠ a := fun e => a4 (e ▸ c1)
      exact ⟨1, fr, a, f1, f2, a2, f3, f4, Or.inr (Or.inl ⟨c1, rfl, by omega, a3, a4⟩)⟩
    · by_cases c2 : di_t B z fr
      · obtain ⟨a, a1, a2, a3, a4⟩ := sc_ex (P := di_t B z) (z := z) (fun j h => h.1) f2
        have : fr ≠ a := fun e => a4 (e ▸ c2)
        exact ⟨2, fr, a, f1, f2, a2, f3, f4, Or.inr (Or.inr (Or.inl ⟨c2, rfl, by omega, a3, a4⟩))⟩
      · by_cases c3 : B fr = 59
        · exact ⟨3, fr, fr + 1, f1, f2, c, f3, f4, Or.inr (Or.inr (Or.inr ⟨⟨c, c1, c2⟩, rfl, Or.inl ⟨c3, rfl⟩⟩))⟩
        · exact ⟨4, fr, fr + 1, f1, f2, c, f3, f4, Or.inr (Or.inr (Or.inr ⟨⟨c, c1, c2⟩, rfl, Or.inr ⟨c3, rfl⟩⟩))⟩
  · exact ⟨0, fr, z, f1, f2, Nat.le_refl _, f3, f4, Or.inl ⟨by omega, rfl, rfl⟩⟩
/-- the value of digits -/
def dv_t (B : Nat → Nat) (fr : Nat) : Nat → Nat
  | 0 => 0
  | n + 1 => dv_t B fr n * 10 + (B (fr + n) - 48)
def fg_t (B : Nat → Nat) (fr n : Nat) : Nat := if n ≤ 3 then dv_t B fr n else 1000
theorem dv_s {B : Nat → Nat} {fr n : Nat} : dv_t B fr (n + 1) = dv_t B fr n * 10 + (B (fr + n) - 48) := rfl
theorem dv_b {B : Nat → Nat} {fr z : Nat} : ∀ n, (∀ j, fr ≤ j → j < fr + n → di_t B z j) → dv_t B fr n < 10 ^ n := by
  intro n
  induction n with
  | zero => intro _; show 0 < 1; decide
  | succ n ih =>
    intro h
    have h1 := ih (fun j j1 j2 => h j j1 (by omega))
    have h2 := h (fr + n) (by omega) (by omega)
    have h3 := h2.2.2
    rw [dv_s, Nat.pow_succ]
    omega
/-- the tape of both sides -/
def TB (B : Nat → Nat) (z : Nat) (bytes mt : Nat → Int32) : Prop := z ≤ 250 ∧ ∀ i, i < z → B i ≤ 255 ∧ bytes i = nI (B i) ∧ mt i = nI (B i)
theorem nI_60 {a : Nat} (ha : a < 2 ^ 31) (b : Nat) (hb : b < 2 ^ 31) : nI a < nI b ↔ a < b := nI_ltI ha hb
theorem s_letter {fu b : Nat} (hb : b ≤ 255) : m_X6_isLetter fu (nI b) = some (bI (97 ≤ b ∧ b ≤ 122), ()) := by
  unfold m_X6_isLetter b_X6_isLetter_16 b_X6_isLetter_17
  by_cases c1 : b < 97
  · rw [if_pos (show nI b < (97 : Int32) from nI_lt (b := 97) c1 (by decide)), gd_t (Or.inl rfl), bI_f (fun q => by omega)]
  · rw [if_neg (show ¬ nI b < (97 : Int32) from nI_nlt (b := 97) (by omega) (by omega))]
    by_cases c2 : 122 < b
    · rw [if_pos (show (122 : Int32) < nI b from nI_lt (a := 122) c2 (by omega)), gd_t (Or.inl rfl), bI_f (fun q => by omega)]
    · rw [if_neg (show ¬ (122 : Int32) < nI b from nI_nlt (a := 122) (by omega) (by decide)), gd_t (Or.inr rfl), bI_t ⟨by omega, by omega⟩]
theorem s_digit {fu b : Nat} (hb : b ≤ 255) : m_X6_isDigit fu (nI b) = some (bI (48 ≤ b ∧ b ≤ 57), ()) := by
  unfold m_X6_isDigit b_X6_isDigit_16 b_X6_isDigit_17
  by_cases c1 : b < 48
  · rw [if_pos (show nI b < (48 : Int32) from nI_lt (b := 48) c1 (by decide)), gd_t (Or.inl rfl), bI_f (fun q => by omega)]
  · rw [if_neg (show ¬ nI b < (48 : Int32) from nI_nlt (b := 48) (by omega) (by omega))]
    by_cases c2 : 57 < b
    · rw [if_pos (show (57 : Int32) < nI b from nI_lt (a := 57) c2 (by omega)), gd_t (Or.inl rfl), bI_f (fun q => by omega)]
    · rw [if_neg (show ¬ (57 : Int32) < nI b from nI_nlt (a := 57) (by omega) (by decide)), gd_t (Or.inr rfl), bI_t ⟨by omega, by omega⟩]
theorem s_byteAt {fu z j : Nat} {B : Nat → Nat} {t bytes mt : Nat → Int32} (hT : TB B z bytes mt) (h1 : t 1 = nI z) (hj : j < 1000) : m_X2_byteAt fu t bytes (nI j) = some (if j < z then nI (B j) else -1, ()) := by
  obtain ⟨hz, hB⟩ := hT
  unfold m_X2_byteAt b_X2_byteAt_28 b_X2_byteAt_29
  rw [if_neg (nI_pos (by omega))]
  by_cases c : j < z
  · rw [if_neg (show ¬ t 1 ≤ nI j by rw [h1]; exact nI_ge c (by omega)), if_neg (show ¬ (250 : Int32) ≤ nI j from nI_ge (b := 250) (by omega) (by decide)), gd_t (inb_n (by omega) (by decide)), nI_clamp (by omega), (hB j c).2.1, if_pos c]
  · rw [if_pos (show t 1 ≤ nI j by rw [h1]; exact nI_le (by omega) (by omega)), if_neg c]
/-- which token a place begins -/
def tk_t (B : Nat → Nat) (z j : Nat) : Nat := if j < z then (if 97 ≤ B j ∧ B j ≤ 122 then 1 else if 48 ≤ B j ∧ B j ≤ 57 then 2 else if B j = 59 then 3 else 4) else 0
theorem s_tokenOf {fu z j : Nat} {B : Nat → Nat} {bytes mt : Nat → Int32} (hT : TB B z bytes mt) : m_X2_tokenOf fu (if j < z then nI (B j) else -1) = some (nI (tk_t B z j), ()) := by
  unfold m_X2_tokenOf b_X2_tokenOf_21 b_X2_tokenOf_35 b_X2_tokenOf_46 tk_t
  by_cases c : j < z
  · have hb := (hT.2 j c).1
    rw [if_pos c, if_pos c, if_neg (nI_m1 (by omega))]
    generalize B j = b at hb ⊢
    have e : ∀ k : Nat, k < 300 → ((nI b < nI k) ↔ b < k) ∧ ((nI k < nI b) ↔ k < b) ∧ ((nI b = nI k) ↔ b = k) := fun k hk => ⟨nI_ltI (by omega) (by omega), nI_ltI (by omega) (by omega), nI_eq (by omega) (by omega)⟩
    have e97 := e 97 (by decide)
    have e122 := e 122 (by decide)
    have e48 := e 48 (by decide)
    have e57 := e 57 (by decide)
    have e59 := e 59 (by decide)
    by_cases c59 : b = 59
    · subst c59
      rw [if_pos (show nI 59 < (97 : Int32) by decide), if_neg (show ¬ nI 59 < (48 : Int32) by decide), if_pos (show (57 : Int32) < nI 59 by decide), if_pos (show nI 59 = (59 : Int32) from rfl)]
      rfl
    · have n59 : ¬ nI b = (59 : Int32) := fun q => c59 (e59.2.2.mp q)
      by_cases c1 : b < 97
      · rw [if_pos (show nI b < (97 : Int32) from e97.1.mpr c1), if_neg (show ¬ (97 ≤ b ∧ b ≤ 122) by omega)]
        by_cases c2 : b < 48
        · rw [if_pos (show nI b < (48 : Int32) from e48.1.mpr c2), if_neg n59, if_neg (show ¬ (48 ≤ b ∧ b ≤ 57) by omega), if_neg c59]
          rfl
        · rw [if_neg (show ¬ nI b < (48 : Int32) from fun q => c2 (e48.1.mp q))]
          by_cases c3 : 57 < b
          · rw [if_pos (show (57 : Int32) < nI b from e57.2.1.mpr c3), if_neg n59, if_neg (show ¬ (48 ≤ b ∧ b ≤ 57) by omega), if_neg c59]
            rfl
          · rw [if_neg (show ¬ (57 : Int32) < nI b from fun q => c3 (e57.2.1.mp q)), if_pos (show 48 ≤ b ∧ b ≤ 57 by omega)]
            rfl
      · rw [if_neg (show ¬ nI b < (97 : Int32) from fun q => c1 (e97.1.mp q))]
        by_cases c2 : 122 < b
        · rw [if_pos (show (122 : Int32) < nI b from e122.2.1.mpr c2), if_neg (show ¬ (97 ≤ b ∧ b ≤ 122) by omega), if_neg (show ¬ nI b < (48 : Int32) from fun q => by have := e48.1.mp q; omega), if_pos (show (57 : Int32) < nI b from e57.2.1.mpr (by omega)), if_neg n59, if_neg (show ¬ (48 ≤ b ∧ b ≤ 57) by omega), if_neg c59]
          rfl
        · rw [if_neg (show ¬ (122 : Int32) < nI b from fun q => c2 (e122.2.1.mp q)), if_pos (show 97 ≤ b ∧ b ≤ 122 by omega)]
          rfl
  · rw [if_neg c, if_neg c, if_pos rfl]
    rfl
theorem tk_1 {B : Nat → Nat} {z j : Nat} : tk_t B z j = 1 ↔ le_t B z j := by
  unfold tk_t le_t
  by_cases c : j < z
  · by_cases c1 : 97 ≤ B j ∧ B j ≤ 122
    · rw [if_pos c, if_pos c1]; exact ⟨fun _ => ⟨c, c1⟩, fun _ => rfl⟩
    · rw [if_pos c, if_neg c1]
      refine ⟨fun q => ?_, fun q => absurd q.2 c1⟩
      split at q <;> (try split at q) <;> omega
  · rw [if_neg c]; exact ⟨fun q => by omega, fun q => absurd q.1 c⟩
theorem tk_2 {B : Nat → Nat} {z j : Nat} : tk_t B z j = 2 ↔ di_t B z j := by
  unfold tk_t di_t
  by_cases c : j < z
  · by_cases c1 : 97 ≤ B j ∧ B j ≤ 122
    · rw [if_pos c, if_pos c1]; exact ⟨fun q => by omega, fun q => by omega⟩
    · rw [if_pos c, if_neg c1]
      by_cases c2 : 48 ≤ B j ∧ B j ≤ 57
      · rw [if_pos c2]; exact ⟨fun _ => ⟨c, c2⟩, fun _ => rfl⟩
      · rw [if_neg c2]
        refine ⟨fun q => ?_, fun q => absurd q.2 c2⟩
        split at q <;> omega
  · rw [if_neg c]; exact ⟨fun q => by omega, fun q => absurd q.1 c⟩
theorem NX.tk {B : Nat → Nat} {z p tk fr a : Nat} (h : NX B z p tk fr a) : tk_t B z fr = tk ∧ tk ≤ 4 := by
  obtain ⟨h1, h2, h3, h4, h5, h6⟩ := h
  rcases h6 with ⟨rfl, rfl, rfl⟩ | ⟨c, rfl, -⟩ | ⟨c, rfl, -⟩ | ⟨⟨c1, c2, c3⟩, -, c4⟩
  · exact ⟨by unfold tk_t; rw [if_neg (Nat.lt_irrefl _)], by omega⟩
  · exact ⟨tk_1.mpr c, by omega⟩
  · exact ⟨tk_2.mpr c, by omega⟩
  · have n1 : ¬ (97 ≤ B fr ∧ B fr ≤ 122) := fun q => c2 ⟨c1, q⟩
    have n2 : ¬ (48 ≤ B fr ∧ B fr ≤ 57) := fun q => c3 ⟨c1, q⟩
    unfold tk_t
    rw [if_pos c1, if_neg n1, if_neg n2]
    rcases c4 with ⟨c4, rfl⟩ | ⟨c4, rfl⟩
    · rw [if_pos c4]; exact ⟨rfl, by omega⟩
    · rw [if_neg c4]; exact ⟨rfl, by omega⟩
/-- the class steps to the next token -/
theorem s_step {fu z p tk fr a : Nat} {B : Nat → Nat} {t bytes mt : Nat → Int32} (hfu : 5000 ≤ fu) (hT : TB B z bytes mt) (h1 : t 1 = nI z) (h3 : t 3 = nI p) (hN : NX B z p tk fr a) :
    ∃ t', m_X2_step fu t bytes = some t' ∧ t' 1 = nI z ∧ t' 2 = nI fr ∧ t' 4 = nI tk ∧ (tk ≠ 0 → t' 3 = nI a) := by
  obtain ⟨hk1, hk2⟩ := hN.tk
  obtain ⟨n1, n2, n3, n4, n5, n6⟩ := hN
  have hz := hT.1
  unfold m_X2_step
  refine lf (b_X2_step_10 fu bytes) (fun j x => x.1 = nI (j - p) ∧ p ≤ j ∧ x.2 1 = nI z ∧ x.2 2 = nI j) fr (fun o => ∃ t', o = some t' ∧ t' 1 = nI z ∧ t' 2 = nI fr ∧ t' 4 = nI tk ∧ (tk ≠ 0 → t' 3 = nI a)) ?_ ?_ fu p _ n1 (by omega) ⟨by rw [Nat.sub_self]; rfl, Nat.le_refl _, (show upd t 2 (t 3) 1 = nI z from (pk_un (by decide)).trans h1), (show upd t 2 (t 3) 2 = nI p from pk_us.trans h3)⟩
  · rintro j ⟨x1, x2⟩ k hj ⟨e1, e2, e3, e4⟩
    dsimp only at e1 e2 e3 e4
    subst e1
    obtain ⟨s1, s2⟩ := n4 j e2 hj
    left
    unfold b_X2_step_10
    dsimp only
    rw [if_neg (show ¬ (250 : Int32) ≤ nI (j - p) from nI_ge (b := 250) (by omega) (by decide)), e4, s_byteAt hT e3 (by omega), Option.bind_some, if_pos s1, s2]
    dsimp only
    rw [if_pos (show nI 32 = (32 : Int32) from rfl), nI_1, nI_1]
    exact ⟨(nI (j - p + 1), upd x2 2 (nI (j + 1))), ⟨by rw [show j + 1 - p = j - p + 1 by omega], by omega, (show upd x2 2 (nI (j + 1)) 1 = nI z from (pk_un (by decide)).trans e3), (show upd x2 2 (nI (j + 1)) 2 = nI (j + 1) from pk_us)⟩, rfl⟩
  · rintro ⟨x1, x2⟩ k ⟨e1, e2, e3, e4⟩
    dsimp only at e1 e2 e3 e4
    subst e1
    have e46 : ∃ t', b_X2_step_46 fu bytes x2 = some t' ∧ t' 1 = nI z ∧ t' 2 = nI fr ∧ t' 4 = nI tk ∧ (tk ≠ 0 → t' 3 = nI a) := by
      unfold b_X2_step_46 b_X2_step_87 b_X2_step_130
      rw [e4, s_byteAt hT e3 (by omega), Option.bind_some]
      dsimp only
      rw [s_tokenOf hT, Option.bind_some, hk1]
      dsimp only
      rw [nI_1]
      have u1 : upd (upd x2 4 (nI tk)) 3 (nI (fr + 1)) 1 = nI z := (pk_un (by decide)).trans ((pk_un (by decide)).trans e3)
      have u2 : upd (upd x2 4 (nI tk)) 3 (nI (fr + 1)) 2 = nI fr := (pk_un (by decide)).trans ((pk_un (by decide)).trans e4)
      have u4 : upd (upd x2 4 (nI tk)) 3 (nI (fr + 1)) 4 = nI tk := (pk_un (by decide)).trans pk_us
      have u3 : upd (upd x2 4 (nI tk)) 3 (nI (fr + 1)) 3 = nI (fr + 1) := pk_us
      have run : (∀ j, fr ≤ j → j < a → tk_t B z j = tk) → ¬ tk_t B z a = tk → fr < a → ∃ t', lfix (b_X2_step_89 fu bytes) fu ((0 : Int32), upd (upd x2 4 (nI tk)) 3 (nI (fr + 1))) = some t' ∧ t' 1 = nI z ∧ t' 2 = nI fr ∧ t' 4 = nI tk ∧ (tk ≠ 0 → t' 3 = nI a) := by
        intro q1 q2 q3
        refine lf (b_X2_step_89 fu bytes) (fun j x => x.1 = nI (j - (fr + 1)) ∧ fr + 1 ≤ j ∧ x.2 1 = nI z ∧ x.2 2 = nI fr ∧ x.2 4 = nI tk ∧ x.2 3 = nI j) a (fun o => ∃ t', o = some t' ∧ t' 1 = nI z ∧ t' 2 = nI fr ∧ t' 4 = nI tk ∧ (tk ≠ 0 → t' 3 = nI a)) ?_ ?_ fu (fr + 1) _ q3 (by omega) ⟨by rw [Nat.sub_self]; rfl, Nat.le_refl _, u1, u2, u4, u3⟩
        · rintro j ⟨y1, y2⟩ k2 hj ⟨f1, f2, f3, f4, f5, f6⟩
          dsimp only at f1 f2 f3 f4 f5 f6
          subst f1
          left
          unfold b_X2_step_89
          dsimp only
          rw [if_neg (show ¬ (250 : Int32) ≤ nI (j - (fr + 1)) from nI_ge (b := 250) (by omega) (by decide)), f6, s_byteAt hT f3 (by omega), Option.bind_some]
          dsimp only
          rw [s_tokenOf hT, Option.bind_some, q1 j (by omega) hj, if_pos (show nI tk = y2 4 from f5.symm), nI_1, nI_1]
          exact ⟨(nI (j - (fr + 1) + 1), upd y2 3 (nI (j + 1))), ⟨by rw [show j + 1 - (fr + 1) = j - (fr + 1) + 1 by omega], by omega, (show upd y2 3 (nI (j + 1)) 1 = nI z from (pk_un (by decide)).trans f3), (show upd y2 3 (nI (j + 1)) 2 = nI fr from (pk_un (by decide)).trans f4), (show upd y2 3 (nI (j + 1)) 4 = nI tk from (pk_un (by decide)).trans f5), (show upd y2 3 (nI (j + 1)) 3 = nI (j + 1) from pk_us)⟩, rfl⟩
        · rintro ⟨y1, y2⟩ k2 ⟨f1, f2, f3, f4, f5, f6⟩
          dsimp only at f1 f2 f3 f4 f5 f6
          subst f1
          have ht4 : tk_t B z a ≤ 4 := by unfold tk_t; split <;> (try split) <;> (try split) <;> (try split) <;> omega
          unfold b_X2_step_89 b_X2_step_130
          dsimp only
          rw [if_neg (show ¬ (250 : Int32) ≤ nI (a - (fr + 1)) from nI_ge (b := 250) (by omega) (by decide)), f6, s_byteAt hT f3 (by omega), Option.bind_some]
          dsimp only
          rw [s_tokenOf hT, Option.bind_some, if_neg (show ¬ nI (tk_t B z a) = y2 4 by rw [f5]; exact fun q => q2 ((nI_eq (by omega) (by omega)).mp q))]
          exact ⟨y2, rfl, f3, f4, f5, fun _ => f6⟩
      rcases n6 with ⟨rfl, rfl, rfl⟩ | ⟨c, rfl, c2, c3, c4⟩ | ⟨c, rfl, c2, c3, c4⟩ | ⟨⟨c1, c2, c3⟩, rfl, c4⟩
      · rw [if_neg (show ¬ nI 0 = (1 : Int32) by decide), if_neg (show ¬ nI 0 = (2 : Int32) by decide)]
        exact ⟨_, rfl, u1, u2, u4, fun q => absurd rfl q⟩
      · rw [if_pos (show nI 1 = (1 : Int32) from rfl)]
        exact run (fun j j1 j2 => tk_1.mpr (c3 j j1 j2)) (fun q => c4 (tk_1.mp q)) c2
      · rw [if_neg (show ¬ nI 2 = (1 : Int32) by decide), if_pos (show nI 2 = (2 : Int32) from rfl)]
        exact run (fun j j1 j2 => tk_2.mpr (c3 j j1 j2)) (fun q => c4 (tk_2.mp q)) c2
      · rcases c4 with ⟨c4, rfl⟩ | ⟨c4, rfl⟩
        · rw [if_neg (show ¬ nI 3 = (1 : Int32) by decide), if_neg (show ¬ nI 3 = (2 : Int32) by decide)]
          exact ⟨_, rfl, u1, u2, u4, fun _ => u3⟩
        · rw [if_neg (show ¬ nI 4 = (1 : Int32) by decide), if_neg (show ¬ nI 4 = (2 : Int32) by decide)]
          exact ⟨_, rfl, u1, u2, u4, fun _ => u3⟩
    unfold b_X2_step_10
    dsimp only
    by_cases c250 : (250 : Int32) ≤ nI (fr - p)
    · rw [if_pos c250]; exact e46
    · rw [if_neg c250, e4, s_byteAt hT e3 (by omega), Option.bind_some]
      dsimp only
      rw [if_neg (show ¬ (if fr < z then nI (B fr) else -1) = (32 : Int32) by
        by_cases c : fr < z
        · rw [if_pos c]
          have hb := (hT.2 fr c).1
          exact fun q => n5 ⟨c, (nI_eq (b := 32) (by omega) (by decide)).mp q⟩
        · rw [if_neg c]; decide)]
      exact e46
/-- the reference looks at the next token -/
theorem s_look {fu z p tk fr a : Nat} {B : Nat → Nat} {m bytes mt : Nat → Int32} {mL : Nat → Int64} (hfu : 5000 ≤ fu) (hT : TB B z bytes mt) (h7 : m 7 = nI z) (h23 : m 23 = nI p) (hN : NX B z p tk fr a) :
    ∃ m', m_X6_look fu m mL mt = some m' ∧ m' 23 = nI a ∧ m' 24 = nI tk ∧ m' 25 = nI fr ∧ (tk = 2 → m' 26 = nI (fg_t B fr (a - fr))) ∧ ∀ j, j ≠ 23 → j ≠ 24 → j ≠ 25 → j ≠ 26 → m' j = m j := by
  obtain ⟨hk1, hk2⟩ := hN.tk
  obtain ⟨n1, n2, n3, n4, n5, n6⟩ := hN
  have hz := hT.1
  unfold m_X6_look
  refine lf (b_X6_look_0 fu mL mt) (fun j x => p ≤ j ∧ x 23 = nI j ∧ ∀ i, i ≠ 23 → x i = m i) fr (fun o => ∃ m', o = some m' ∧ m' 23 = nI a ∧ m' 24 = nI tk ∧ m' 25 = nI fr ∧ (tk = 2 → m' 26 = nI (fg_t B fr (a - fr))) ∧ ∀ j, j ≠ 23 → j ≠ 24 → j ≠ 25 → j ≠ 26 → m' j = m j) ?_ ?_ fu p _ n1 (by omega) ⟨Nat.le_refl _, h23, fun _ _ => rfl⟩
  · rintro j x k hj ⟨e2, e3, e4⟩
    obtain ⟨s1, s2⟩ := n4 j e2 hj
    have x7 : x 7 = nI z := (e4 7 (by decide)).trans h7
    left
    unfold b_X6_look_0
    rw [if_neg (show ¬ x 7 ≤ x 23 by rw [x7, e3]; exact nI_ge s1 (by omega)), gd_t (show inb (x 23) 250 by rw [e3]; exact inb_n (by omega) (by decide)), if_pos (show mt (x 23).toNatClampNeg = (32 : Int32) by rw [e3, nI_clamp (by omega), (hT.2 j s1).2.2, s2]; rfl), e3, nI_1]
    exact ⟨upd x 23 (nI (j + 1)), ⟨by omega, pk_us, fun i hi => (pk_un hi).trans (e4 i hi)⟩, rfl⟩
  · rintro x k ⟨e2, e3, e4⟩
    have x7 : x 7 = nI z := (e4 7 (by decide)).trans h7
    have e38 : ∃ m', b_X6_look_38 fu mL mt x = some m' ∧ m' 23 = nI a ∧ m' 24 = nI tk ∧ m' 25 = nI fr ∧ (tk = 2 → m' 26 = nI (fg_t B fr (a - fr))) ∧ ∀ j, j ≠ 23 → j ≠ 24 → j ≠ 25 → j ≠ 26 → m' j = m j := by
      unfold b_X6_look_38 b_X6_look_251 b_X6_look_264
      rcases n6 with ⟨rfl, rfl, rfl⟩ | ⟨c, rfl, c2, c3, c4⟩ | ⟨c, rfl, c2, c3, c4⟩ | ⟨⟨c1, c2, c3⟩, rfl, c4⟩
      · rw [if_pos (show x 23 = x 7 by rw [e3, x7])]
        refine ⟨_, rfl, ?_, pk_us, ?_, fun q => absurd q (by decide), fun j j1 j2 j3 j4 => ?_⟩
        · rw [pk_un (by decide), pk_un (by decide), pk_un (by decide)]; exact e3
        · rw [pk_un (by decide), pk_un (by decide), pk_us]; exact e3
        · rw [pk_un j2, pk_un j4, pk_un j3]; exact e4 j j1
      · have hc := c.1
        have hb := (hT.2 fr hc).1
        have hbv : mt (x 23).toNatClampNeg = nI (B fr) := by rw [e3, nI_clamp (by omega)]; exact (hT.2 fr hc).2.2
        rw [if_neg (show ¬ x 23 = x 7 by rw [e3, x7]; exact fun q => by have := (nI_eq (by omega) (by omega)).mp q; omega), gd_t (show inb (x 23) 250 by rw [e3]; exact inb_n (by omega) (by decide)), hbv, s_letter hb, Option.bind_some]
        dsimp only
        rw [bI_t c.2, if_neg n10]
        refine lf (b_X6_look_90 fu mL mt) (fun j y => fr ≤ j ∧ y 23 = nI j ∧ y 24 = nI 1 ∧ y 25 = nI fr ∧ ∀ i, i ≠ 23 → i ≠ 24 → i ≠ 25 → i ≠ 26 → y i = m i) a (fun o => ∃ m', o = some m' ∧ m' 23 = nI a ∧ m' 24 = nI 1 ∧ m' 25 = nI fr ∧ (1 = 2 → m' 26 = nI (fg_t B fr (a - fr))) ∧ ∀ j, j ≠ 23 → j ≠ 24 → j ≠ 25 → j ≠ 26 → m' j = m j) ?_ ?_ fu fr _ (by omega) (by omega) ⟨Nat.le_refl _, by rw [pk_un (by decide), pk_un (by decide), pk_un (by decide)]; exact e3, pk_us, by rw [pk_un (by decide), pk_un (by decide), pk_us]; exact e3, fun j j1 j2 j3 j4 => by rw [pk_un j2, pk_un j4, pk_un j3]; exact e4 j j1⟩
        · rintro j y k2 hj ⟨f1, f2, f3, f4, f5⟩
          have hl := c3 j f1 hj
          have hbj := (hT.2 j hl.1).1
          have y7 : y 7 = nI z := (f5 7 (by decide) (by decide) (by decide) (by decide)).trans h7
          left
          unfold b_X6_look_90
          rw [if_neg (show ¬ y 7 ≤ y 23 by rw [y7, f2]; exact nI_ge hl.1 (by omega)), gd_t (show inb (y 23) 250 by rw [f2]; exact inb_n (by omega) (by decide)), show mt (y 23).toNatClampNeg = nI (B j) from by rw [f2, nI_clamp (by omega)]; exact (hT.2 j hl.1).2.2, s_letter hbj, Option.bind_some]
          dsimp only
          rw [bI_t hl.2, if_neg n10, f2, nI_1]
          exact ⟨upd y 23 (nI (j + 1)), ⟨by omega, pk_us, (pk_un (by decide)).trans f3, (pk_un (by decide)).trans f4, fun i i1 i2 i3 i4 => (pk_un i1).trans (f5 i i1 i2 i3 i4)⟩, rfl⟩
        · rintro y k2 ⟨f1, f2, f3, f4, f5⟩
          have y7 : y 7 = nI z := (f5 7 (by decide) (by decide) (by decide) (by decide)).trans h7
          unfold b_X6_look_90 b_X6_look_264
          by_cases ca : a < z
          · have hbj := (hT.2 a ca).1
            rw [if_neg (show ¬ y 7 ≤ y 23 by rw [y7, f2]; exact nI_ge ca (by omega)), gd_t (show inb (y 23) 250 by rw [f2]; exact inb_n (by omega) (by decide)), show mt (y 23).toNatClampNeg = nI (B a) from by rw [f2, nI_clamp (by omega)]; exact (hT.2 a ca).2.2, s_letter hbj, Option.bind_some]
            dsimp only
            rw [bI_f (fun q => c4 ⟨ca, q⟩), if_pos p00]
            exact ⟨y, rfl, f2, f3, f4, fun q => absurd q (by decide), f5⟩
          · rw [if_pos (show y 7 ≤ y 23 by rw [y7, f2]; exact nI_le (by omega) (by omega))]
            exact ⟨y, rfl, f2, f3, f4, fun q => absurd q (by decide), f5⟩
      · have hc := c.1
        have hb := (hT.2 fr hc).1
        have hbv : mt (x 23).toNatClampNeg = nI (B fr) := by rw [e3, nI_clamp (by omega)]; exact (hT.2 fr hc).2.2
        have i250 : inb (x 23) 250 := by rw [e3]; exact inb_n (by omega) (by decide)
        rw [if_neg (show ¬ x 23 = x 7 by rw [e3, x7]; exact fun q => by have := (nI_eq (by omega) (by omega)).mp q; omega), gd_t i250, gd_t i250, hbv, s_letter hb, Option.bind_some]
        dsimp only
        rw [bI_f (fun q => by have h1 := c.2; omega), if_pos p00, s_digit hb, Option.bind_some]
        dsimp only
        rw [bI_t c.2, if_neg n10]
        refine lf (b_X6_look_149 fu mL mt) (fun j y => fr ≤ j ∧ y 23 = nI j ∧ y 24 = nI 2 ∧ y 25 = nI fr ∧ y 26 = nI (fg_t B fr (j - fr)) ∧ ∀ i, i ≠ 23 → i ≠ 24 → i ≠ 25 → i ≠ 26 → y i = m i) a (fun o => ∃ m', o = some m' ∧ m' 23 = nI a ∧ m' 24 = nI 2 ∧ m' 25 = nI fr ∧ (2 = 2 → m' 26 = nI (fg_t B fr (a - fr))) ∧ ∀ j, j ≠ 23 → j ≠ 24 → j ≠ 25 → j ≠ 26 → m' j = m j) ?_ ?_ fu fr _ (by omega) (by omega) ⟨Nat.le_refl _, by rw [pk_un (by decide), pk_un (by decide), pk_un (by decide)]; exact e3, pk_us, by rw [pk_un (by decide), pk_un (by decide), pk_us]; exact e3, by rw [pk_un (by decide), pk_us, Nat.sub_self]; rfl, fun j j1 j2 j3 j4 => by rw [pk_un j2, pk_un j4, pk_un j3]; exact e4 j j1⟩
        · rintro j y k2 hj ⟨f1, f2, f3, f4, f6, f5⟩
          have hl := c3 j f1 hj
          have hbj := (hT.2 j hl.1).1
          have y7 : y 7 = nI z := (f5 7 (by decide) (by decide) (by decide) (by decide)).trans h7
          have hbv : mt (y 23).toNatClampNeg = nI (B j) := by rw [f2, nI_clamp (by omega)]; exact (hT.2 j hl.1).2.2
          have j250 : inb (y 23) 250 := by rw [f2]; exact inb_n (by omega) (by decide)
          left
          have e215 : ∀ v : Int32, v = nI (fg_t B fr (j + 1 - fr)) → ∃ x', (fr ≤ j + 1 ∧ x' 23 = nI (j + 1) ∧ x' 24 = nI 2 ∧ x' 25 = nI fr ∧ x' 26 = nI (fg_t B fr (j + 1 - fr)) ∧ ∀ i, i ≠ 23 → i ≠ 24 → i ≠ 25 → i ≠ 26 → x' i = m i) ∧ b_X6_look_215 fu mL mt k2 v y = k2 x' := by
            rintro v rfl
            unfold b_X6_look_215
            rw [f2, nI_1]
            exact ⟨upd (upd y 26 (nI (fg_t B fr (j + 1 - fr)))) 23 (nI (j + 1)), ⟨by omega, pk_us, (pk_un (by decide)).trans ((pk_un (by decide)).trans f3), (pk_un (by decide)).trans ((pk_un (by decide)).trans f4), (pk_un (by decide)).trans pk_us, fun i i1 i2 i3 i4 => (pk_un i1).trans ((pk_un i4).trans (f5 i i1 i2 i3 i4))⟩, rfl⟩
          unfold b_X6_look_149
          rw [if_neg (show ¬ y 7 ≤ y 23 by rw [y7, f2]; exact nI_ge hl.1 (by omega)), gd_t j250, gd_t j250, hbv, s_digit hbj, Option.bind_some]
          dsimp only
          rw [bI_t hl.2, if_neg n10]
          have hs : y 23 - y 25 = nI (j - fr) := by rw [f2, f4, pk_sub f1]
          by_cases c5 : 3 ≤ j - fr
          · rw [if_pos (show (3 : Int32) ≤ y 23 - y 25 by rw [hs]; exact nI_le (a := 3) c5 (by omega))]
            exact e215 1000 (by unfold fg_t; rw [if_neg (by omega)]; rfl)
          · rw [if_neg (show ¬ (3 : Int32) ≤ y 23 - y 25 by rw [hs]; exact nI_ge (b := 3) (by omega) (by decide)), f6]
            refine e215 _ ?_
            have e1 : fg_t B fr (j + 1 - fr) = dv_t B fr (j - fr) * 10 + (B j - 48) := by
              unfold fg_t
              rw [if_pos (by omega), show j + 1 - fr = (j - fr) + 1 by omega, dv_s, show fr + (j - fr) = j by omega]
            have e2 : fg_t B fr (j - fr) = dv_t B fr (j - fr) := by unfold fg_t; rw [if_pos (by omega)]
            rw [e1, e2, show (10 : Int32) = nI 10 from rfl, pk_mul, nI_add, show (48 : Int32) = nI 48 from rfl, pk_sub (by have := hl.2.1; omega)]
            congr 1
            have := hl.2.1
            omega
        · rintro y k2 ⟨f1, f2, f3, f4, f6, f5⟩
          have y7 : y 7 = nI z := (f5 7 (by decide) (by decide) (by decide) (by decide)).trans h7
          unfold b_X6_look_149 b_X6_look_264
          by_cases ca : a < z
          · have hbj := (hT.2 a ca).1
            rw [if_neg (show ¬ y 7 ≤ y 23 by rw [y7, f2]; exact nI_ge ca (by omega)), gd_t (show inb (y 23) 250 by rw [f2]; exact inb_n (by omega) (by decide)), show mt (y 23).toNatClampNeg = nI (B a) from by rw [f2, nI_clamp (by omega)]; exact (hT.2 a ca).2.2, s_digit hbj, Option.bind_some]
            dsimp only
            rw [bI_f (fun q => c4 ⟨ca, q⟩), if_pos p00]
            exact ⟨y, rfl, f2, f3, f4, fun _ => f6, f5⟩
          · rw [if_pos (show y 7 ≤ y 23 by rw [y7, f2]; exact nI_le (by omega) (by omega))]
            exact ⟨y, rfl, f2, f3, f4, fun _ => f6, f5⟩
      · have hb := (hT.2 fr c1).1
        have hbv : mt (x 23).toNatClampNeg = nI (B fr) := by rw [e3, nI_clamp (by omega)]; exact (hT.2 fr c1).2.2
        have i250 : inb (x 23) 250 := by rw [e3]; exact inb_n (by omega) (by decide)
        rw [if_neg (show ¬ x 23 = x 7 by rw [e3, x7]; exact fun q => by have := (nI_eq (by omega) (by omega)).mp q; omega), gd_t i250, gd_t i250, gd_t i250, hbv, s_letter hb, Option.bind_some]
        dsimp only
        rw [bI_f (fun q => c2 ⟨c1, q⟩), if_pos p00, s_digit hb, Option.bind_some]
        dsimp only
        rw [bI_f (fun q => c3 ⟨c1, q⟩), if_pos p00]
        have g23 : upd (upd x 25 (x 23)) 26 (0 : Int32) 23 + 1 = nI (fr + 1) := by rw [pk_un (by decide), pk_un (by decide), e3, nI_1]
        rw [g23]
        rcases c4 with ⟨c4, rfl⟩ | ⟨c4, rfl⟩
        · rw [if_pos (show nI (B fr) = (59 : Int32) by rw [c4]; rfl)]
          exact ⟨_, rfl, pk_us, (pk_un (by decide)).trans pk_us, by rw [pk_un (by decide), pk_un (by decide), pk_un (by decide), pk_us]; exact e3, fun q => absurd q (by decide), fun j j1 j2 j3 j4 => by rw [pk_un j1, pk_un j2, pk_un j4, pk_un j3]; exact e4 j j1⟩
        · rw [if_neg (show ¬ nI (B fr) = (59 : Int32) from fun q => c4 ((nI_eq (b := 59) (by omega) (by decide)).mp q))]
          exact ⟨_, rfl, pk_us, (pk_un (by decide)).trans pk_us, by rw [pk_un (by decide), pk_un (by decide), pk_un (by decide), pk_us]; exact e3, fun q => absurd q (by decide), fun j j1 j2 j3 j4 => by rw [pk_un j1, pk_un j2, pk_un j4, pk_un j3]; exact e4 j j1⟩
    unfold b_X6_look_0
    by_cases c : fr < z
    · have hb := (hT.2 fr c).1
      rw [if_neg (show ¬ x 7 ≤ x 23 by rw [x7, e3]; exact nI_ge c (by omega)), gd_t (show inb (x 23) 250 by rw [e3]; exact inb_n (by omega) (by decide)), if_neg (show ¬ mt (x 23).toNatClampNeg = (32 : Int32) by rw [e3, nI_clamp (by omega), (hT.2 fr c).2.2]; exact fun q => n5 ⟨c, (nI_eq (b := 32) (by omega) (by decide)).mp q⟩)]
      exact e38
    · rw [if_pos (show x 7 ≤ x 23 by rw [x7, e3]; exact nI_le (by omega) (by omega))]
      exact e38
