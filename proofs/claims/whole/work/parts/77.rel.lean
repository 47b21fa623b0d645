-- THE RELATION between the class's cells and the reference's
def RS (d r y w q n : Nat) (ks as ps : Nat → Nat) (now nk na np m mk mb mp : Nat → Int32) : Prop :=
  (now 0 = nI d ∧ m 9 = nI d ∧ d ≤ 40) ∧ (now 1 = nI r ∧ m 10 = nI r ∧ r ≤ 9) ∧ (now 2 = nI y ∧ m 11 = nI y ∧ y ≤ 9999) ∧ (now 3 = nI w ∧ m 12 = nI w ∧ 2 ≤ w ∧ w ≤ 9) ∧ (now 4 = nI q ∧ m 13 = nI q ∧ q < w) ∧
  (now 5 = m 14 ∧ now 6 = m 15 ∧ now 7 = m 20) ∧ (now 8 = nI n ∧ m 16 = nI n ∧ n ≤ 8) ∧
  ∀ i, i < 8 → (nk i = nI (ks i) ∧ mk i = nI (ks i) ∧ ks i ≤ 5) ∧ (na i = nI (as i) ∧ mb i = nI (as i) ∧ as i ≤ 9) ∧ (np i = nI (ps i) ∧ mp i = nI (ps i) ∧ ps i ≤ 20)
def RH (n : Nat) (hold sz : Nat → Int32) (el : Nat → Int64) (sh rs rz shn : Nat → Int32) (MR : Nat → Nat → Int64) : Prop :=
  ∀ s, s < 8 → (hold s = -1 ∧ sz s = 0 ∧ sh s = 0) ∨
    (∃ t z : Nat, t ≤ 4 ∧ z ≤ 40 ∧ hold s = nI t ∧ sz s = nI z ∧ sh s = 1 ∧ rs s = nI t ∧ rz s = nI z ∧ ∀ i, i < z → el (s * 40 + i) = MR s i) ∨
    (∃ v : Nat, v < n ∧ hold s = nI (10 + v) ∧ sz s = 0 ∧ sh s = 2 ∧ shn s = nI v)
def RT (tape bytes m mt : Nat → Int32) : Prop := ∃ z : Nat, z ≤ 250 ∧ tape 1 = nI z ∧ m 7 = nI z ∧ ∀ i, i < z → ∃ b : Nat, b ≤ 255 ∧ bytes i = nI b ∧ mt i = nI b
def RR (a b : Nat → Int32) : Prop := ∀ k, k < 5 → a k = b (k + 2)
def Rel (fu : Nat) (C : Nat → Nat → Int32) (E : Nat → Int64) (M : Nat → Nat → Int32) (_ML : Nat → Int64) (MR : Nat → Nat → Int64) (_MV : Nat → Int64) (_MY : Nat → Nat → Int32) : Prop :=
  5000 ≤ fu ∧ (∃ (d r y w q n : Nat) (ks as ps : Nat → Nat), RS d r y w q n ks as ps (C 1) (C 2) (C 3) (C 4) (M 0) (M 17) (M 18) (M 19) ∧ RH n (C 14) (C 15) E (M 1) (M 2) (M 3) (M 14) MR) ∧ RT (C 17) (C 18) (M 0) (M 15) ∧ RR (C 19) (M 16)
/-- what is kept: nothing, or the same on both sides -/
def RelK (ko : Option (Nat → Nat)) (t now nk na np m mk mb mp : Nat → Int32) : Prop := match ko with
  | none => t 3 = 0
  | some _ => t 3 = 1 ∧ ∃ (d r y w q n : Nat) (ks as ps : Nat → Nat), RS d r y w q n ks as ps now nk na np m mk mb mp
