-- PURE 23: buckets by turns
def gm (f : Nat → Bool) : Nat → Bool → Nat → Bool
  | 0, _ => f
  | n + 1, b => wb (gm f n (!b)) b
def mv (d j : Nat) : Nat := if j = 0 then d - 1 else if j = 1 then d else min 40 (d + 1)
theorem mv_le {d j : Nat} (hd : d ≤ 40) : mv d j ≤ 40 := by unfold mv; split <;> (try split) <;> omega
theorem gm_s {f : Nat → Bool} {n : Nat} {b : Bool} {d : Nat} : gm f (n + 1) b d = if gm f n (!b) (mv d 0) = b ∨ gm f n (!b) (mv d 1) = b ∨ gm f n (!b) (mv d 2) = b then b else !b := by
  show wb (gm f n (!b)) b d = _
  unfold wb po dw
  rw [show mv d 0 = d - 1 from rfl, show mv d 1 = d from rfl, show mv d 2 = min 40 (d + 1) from rfl]
  cases b <;> cases gm f n (!_) (d - 1) <;> cases gm f n (!_) d <;> cases gm f n (!_) (min 40 (d + 1)) <;> rfl
theorem s_heldm {fu d : Nat} (hd : d ≤ 40) : ∀ j, j < 3 → m_X6_held fu (nI d + (nI j + (-1))) = some (nI (mv d j), ()) := by
  intro j hj
  rcases (show j = 0 ∨ j = 1 ∨ j = 2 by omega) with rfl | rfl | rfl
  · rw [show nI 0 + (-1) = -(1 : Int32) from by decide, ← Int32.sub_eq_add_neg, show (1 : Int32) = nI 1 from rfl, s_heldI (pk_sub_toInt (by omega) (by decide))]
    congr 3
    show _ = d - 1
    omega
  · rw [show nI 1 + (-1) = (0 : Int32) from by decide, Int32.add_zero, s_heldI (nI_toInt (by omega))]
    congr 3
    show _ = d
    omega
  · rw [show nI 2 + (-1) = (1 : Int32) from by decide, nI_1, s_heldI (nI_toInt (by omega))]
    congr 3
theorem bI_b {a b : Bool} : bI (a = true) = bI (b = true) ↔ a = b := by cases a <;> cases b <;> decide
theorem bI_n {b : Bool} : (if bI (b = true) = 0 then (1 : Int32) else 0) = bI ((!b) = true) := by cases b <;> decide
theorem s_makes_n {fu : Nat} {t yb : Nat → Int32} {mL : Nat → Int64} {f : Nat → Bool} (hfu : 5000 ≤ fu) (hy : ∀ i, i < 41 → yb i = bI (f i = true)) : ∀ (n D d : Nat) (b : Bool), n < D → n ≤ 100 → d ≤ 40 → lfix (F_X6_makes fu t mL yb) D (nI d, nI n, bI (b = true)) = some (bI (gm f n b d = true), ()) := by
  intro n
  induction n with
  | zero =>
    intro D d b hD _ hd
    obtain ⟨D', rfl⟩ : ∃ D', D = D' + 1 := ⟨D - 1, by omega⟩
    show G_X6_makes fu t mL yb (lfix (F_X6_makes fu t mL yb) D') (nI d) (nI 0) (bI (b = true)) = _
    unfold G_X6_makes
    rw [if_pos (show nI 0 = 0 from rfl), gd_t (inb_n (by omega) (by decide)), nI_clamp (by omega), hy d (by omega), gd_t bI_bz]
    rfl
  | succ n ih =>
    intro D d b hD hn hd
    obtain ⟨D', rfl⟩ : ∃ D', D = D' + 1 := ⟨D - 1, by omega⟩
    show G_X6_makes fu t mL yb (lfix (F_X6_makes fu t mL yb) D') (nI d) (nI (n + 1)) (bI (b = true)) = _
    have hrc : ∀ e, e ≤ 40 → lfix (F_X6_makes fu t mL yb) D' (nI e, nI n, bI ((!b) = true)) = some (bI (gm f n (!b) e = true), ()) := fun e he => ih D' e (!b) (by omega) (by omega) he
    generalize lfix (F_X6_makes fu t mL yb) D' = rc at hrc
    unfold G_X6_makes
    rw [if_neg (nI_ne0 (by omega) (by omega))]
    refine lf (b_X6_makes_14 fu t mL yb rc) (fun j x => x = (nI d, nI (n + 1), bI (b = true), nI j + (-1)) ∧ ∀ i, i < j → ¬ gm f n (!b) (mv d i) = b) 3 (fun o => o = some (bI (gm f (n + 1) b d = true), ())) ?_ ?_ fu 0 _ (Nat.zero_le _) (by omega) ⟨rfl, fun i hi => absurd hi (by omega)⟩
    · rintro j x k hj ⟨rfl, h2⟩
      have e40 : b_X6_makes_14 fu t mL yb rc k (nI d, nI (n + 1), bI (b = true), nI j + (-1)) = if bI (gm f n (!b) (mv d j) = true) = bI (b = true) then gd (bz (bI (b = true))) (some (bI (b = true), ())) else k (nI d, nI (n + 1), bI (b = true), nI (j + 1) + (-1)) := by
        unfold b_X6_makes_14 b_X6_makes_40
        dsimp only
        have h1 : ¬ (1 : Int32) < nI j + (-1) := by
          rcases (show j = 0 ∨ j = 1 ∨ j = 2 by omega) with rfl | rfl | rfl <;> decide
        have h3 : nI j + (-1) + 1 = nI (j + 1) + (-1) := by
          rcases (show j = 0 ∨ j = 1 ∨ j = 2 by omega) with rfl | rfl | rfl <;> decide
        have e1 := hrc (mv d j) (mv_le hd)
        rw [if_neg h1, s_heldm hd j hj, Option.bind_some, nI_pred, h3]
        dsimp only
        cases b with
        | false =>
          rw [if_pos (show bI (false = true) = 0 from rfl)]
          have e2 : rc (nI (mv d j), nI n, (1 : Int32)) = some (bI (gm f n (!false) (mv d j) = true), ()) := e1
          rw [e2, Option.bind_some]
        | true =>
          rw [if_neg (show ¬ bI (true = true) = 0 by decide)]
          have e2 : rc (nI (mv d j), nI n, (0 : Int32)) = some (bI (gm f n (!true) (mv d j) = true), ()) := e1
          rw [e2, Option.bind_some]
      rw [e40]
      by_cases c : gm f n (!b) (mv d j) = b
      · rw [if_pos (bI_b.mpr c), gd_t bI_bz]
        right
        rw [gm_s, if_pos (by
          rcases (show j = 0 ∨ j = 1 ∨ j = 2 by omega) with rfl | rfl | rfl
          · exact Or.inl c
          · exact Or.inr (Or.inl c)
          · exact Or.inr (Or.inr c))]
      · rw [if_neg (fun q => c (bI_b.mp q))]
        exact Or.inl ⟨_, ⟨rfl, fun i hi => by
          rcases Nat.lt_or_ge i j with q | q
          · exact h2 i q
          · have : i = j := by omega
            subst this; exact c⟩, rfl⟩
    · rintro x k ⟨rfl, h2⟩
      unfold b_X6_makes_14 b_X6_makes_64
      dsimp only
      have hg : gm f (n + 1) b d = !b := by
        rw [gm_s, if_neg (by
          rintro (q | q | q)
          · exact h2 0 (by decide) q
          · exact h2 1 (by decide) q
          · exact h2 2 (by decide) q)]
      rw [if_pos (show (1 : Int32) < nI 3 + (-1) by decide), hg]
      cases b with
      | false => rw [if_pos (show bI (false = true) = 0 from rfl), gd_t (Or.inr rfl)]; rfl
      | true => rw [if_neg (show ¬ bI (true = true) = 0 by decide), gd_t (Or.inl rfl)]; rfl
theorem s_makes {fu n d : Nat} {b : Bool} {B : Int32} {t yb : Nat → Int32} {mL : Nat → Int64} {f : Nat → Bool} (hfu : 5000 ≤ fu) (hy : ∀ i, i < 41 → yb i = bI (f i = true)) (hn : n ≤ 8) (hd : d ≤ 40) (hB : B = bI (b = true)) : m_X6_makes fu t mL yb (nI d) (nI n) B = some (bI (gm f n b d = true), ()) := by
  subst hB
  exact s_makes_n hfu hy n 10 d b (by omega) (by omega) hd
theorem bs_ff : ∀ n, bs (fun _ => false) n = 0 := by
  intro n
  induction n with
  | zero => rfl
  | succ n ih => rw [bs_f (by decide), ih]
def fm_v (W : Nat → Bool) (d : Nat) : Int32 := if W (mv d 0) = true then 0 else if W (mv d 1) = true then 1 else if W (mv d 2) = true then 2 else -1
theorem s_firstMove {fu d : Nat} {t now : Nat → Int32} {W : Nat → Bool} (h0 : now 0 = nI d) (hd : d ≤ 40) : m_X5_firstMoveInto fu t now (lN (bs W 41)) = some (fm_v W d, ()) := by
  unfold m_X5_firstMoveInto b_X5_firstMoveInto_57 fm_v
  rw [s_poured, Option.bind_some, h0]
  dsimp only
  rw [s_isInB (by omega), Option.bind_some, s_isInB (by omega), Option.bind_some, s_drawn, Option.bind_some]
  dsimp only
  rw [s_isInB (by omega), Option.bind_some]
  dsimp only
  rw [show po W d = W (mv d 0) from rfl, show W d = W (mv d 1) from rfl, show dw W d = W (mv d 2) from rfl]
  cases W (mv d 0) <;> cases W (mv d 1) <;> cases W (mv d 2) <;> rfl
