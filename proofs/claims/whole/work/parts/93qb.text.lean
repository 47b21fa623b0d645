-- PURE 26: words and numbers on both sides
abbrev WK (k : Nat) (B : Nat → Nat) (tk fr a : Nat) : Prop := tk = 1 ∧ a - fr = lenS.getD k 0 ∧ ∀ j, j < lenS.getD k 0 → nI (B (fr + j)) = chS k j
theorem len_5 : ∀ k, k < 6 → lenS.getD k 0 ≤ 5 ∧ 3 ≤ lenS.getD k 0 := by decide
theorem s_isAtWord {fu k z p tk fr a : Nat} {B : Nat → Nat} {t bytes mt : Nat → Int32} (hfu : 5000 ≤ fu) (hk : k < 6) (hT : TB B z bytes mt) (hN : NX B z p tk fr a) (h1 : t 1 = nI z) (h2 : t 2 = nI fr) (h4 : t 4 = nI tk) (h3 : tk ≠ 0 → t 3 = nI a) : m_X2_isAtWord fu k t bytes = some (bI (WK k B tk fr a), ()) := by
  obtain ⟨-, hk4⟩ := hN.tk
  obtain ⟨n1, n2, n3, n4, n5, n6⟩ := hN
  obtain ⟨l5, -⟩ := len_5 k hk
  have hz := hT.1
  unfold m_X2_isAtWord b_X2_isAtWord_24
  by_cases c1 : tk = 1
  · have hfa : fr < a := by
      rcases n6 with ⟨-, q, -⟩ | ⟨-, -, q, -⟩ | ⟨-, q, -⟩ | ⟨-, -, ⟨-, q⟩ | ⟨-, q⟩⟩
      · omega
      · exact q
      · omega
      · omega
      · omega
    rw [if_pos (show t 4 = (1 : Int32) by rw [h4, c1]; rfl)]
    have hs : t 3 - t 2 = nI (a - fr) := by rw [h3 (by omega), h2, pk_sub (by omega)]
    by_cases c2 : a - fr = lenS.getD k 0
    · rw [if_pos (show t 3 - t 2 = Int32.ofNat (lenS.getD k 0) by rw [hs, c2]; rfl)]
      refine lf (b_X2_isAtWord_28 fu k t bytes) (fun j x => x = nI j ∧ ∀ i, i < j → nI (B (fr + i)) = chS k i) (lenS.getD k 0) (fun o => o = some (bI (WK k B tk fr a), ())) ?_ ?_ fu 0 _ (Nat.zero_le _) (by omega) ⟨rfl, fun i hi => absurd hi (by omega)⟩
      · rintro j x k2 hj ⟨rfl, e2⟩
        unfold b_X2_isAtWord_28
        rw [if_neg (show ¬ Int32.ofNat (lenS.getD k 0) ≤ nI j from nI_ge hj (by omega)), h2, nI_add, s_byteAt hT h1 (by omega), Option.bind_some, gd_t (inb_n hj (by omega)), if_pos (show fr + j < z by omega), nI_clamp (by omega), nI_1]
        by_cases c3 : nI (B (fr + j)) = chS k j
        · rw [if_pos c3]
          exact Or.inl ⟨_, ⟨rfl, fun i hi => by
            rcases Nat.lt_or_ge i j with q | q
            · exact e2 i q
            · have : i = j := by omega
              subst this; exact c3⟩, rfl⟩
        · rw [if_neg c3, bI_f (fun q => c3 (q.2.2 j hj))]
          exact Or.inr rfl
      · rintro x k2 ⟨rfl, e2⟩
        unfold b_X2_isAtWord_28
        rw [if_pos (show Int32.ofNat (lenS.getD k 0) ≤ nI (lenS.getD k 0) from nI_le (Nat.le_refl _) (by omega)), bI_t ⟨c1, c2, e2⟩]
    · rw [if_neg (show ¬ t 3 - t 2 = Int32.ofNat (lenS.getD k 0) by rw [hs]; exact fun q => c2 ((nI_eq (by omega) (by omega)).mp q)), bI_f (fun q => c2 q.2.1)]
  · rw [if_neg (show ¬ t 4 = (1 : Int32) by rw [h4]; exact fun q => c1 ((nI_eq (b := 1) (by omega) (by decide)).mp q)), bI_f (fun q => c1 q.1)]
theorem s_isWord {fu k z p tk fr a : Nat} {B : Nat → Nat} {m bytes mt : Nat → Int32} {mL : Nat → Int64} (hfu : 5000 ≤ fu) (hk : k < 6) (hT : TB B z bytes mt) (hN : NX B z p tk fr a) (h3 : m 23 = nI a) (h4 : m 24 = nI tk) (h2 : m 25 = nI fr) : m_X6_isWord fu k m mL mt = some (bI (WK k B tk fr a), ()) := by
  obtain ⟨-, hk4⟩ := hN.tk
  obtain ⟨n1, n2, n3, n4, n5, n6⟩ := hN
  obtain ⟨l5, -⟩ := len_5 k hk
  have hz := hT.1
  unfold m_X6_isWord b_X6_isWord_24
  by_cases c1 : tk = 1
  · have hfa : fr < a := by
      rcases n6 with ⟨-, q, -⟩ | ⟨-, -, q, -⟩ | ⟨-, q, -⟩ | ⟨-, -, ⟨-, q⟩ | ⟨-, q⟩⟩
      · omega
      · exact q
      · omega
      · omega
      · omega
    rw [if_pos (show m 24 = (1 : Int32) by rw [h4, c1]; rfl)]
    have hs : m 23 - m 25 = nI (a - fr) := by rw [h3, h2, pk_sub (by omega)]
    by_cases c2 : a - fr = lenS.getD k 0
    · rw [if_pos (show m 23 - m 25 = Int32.ofNat (lenS.getD k 0) by rw [hs, c2]; rfl)]
      refine lf (b_X6_isWord_28 fu k m mL mt) (fun j x => x = nI j ∧ ∀ i, i < j → nI (B (fr + i)) = chS k i) (lenS.getD k 0) (fun o => o = some (bI (WK k B tk fr a), ())) ?_ ?_ fu 0 _ (Nat.zero_le _) (by omega) ⟨rfl, fun i hi => absurd hi (by omega)⟩
      · rintro j x k2 hj ⟨rfl, e2⟩
        have hx : m 25 + nI j = nI (fr + j) := by rw [h2, nI_add]
        unfold b_X6_isWord_28
        rw [if_neg (show ¬ Int32.ofNat (lenS.getD k 0) ≤ nI j from nI_ge hj (by omega)), gd_t (show inb (m 25 + nI j) 250 by rw [hx]; exact inb_n (by omega) (by decide)), gd_t (inb_n hj (by omega)), show mt (m 25 + nI j).toNatClampNeg = nI (B (fr + j)) from by rw [hx, nI_clamp (by omega)]; exact (hT.2 _ (by omega)).2.2, nI_clamp (by omega), nI_1]
        by_cases c3 : nI (B (fr + j)) = chS k j
        · rw [if_pos c3]
          exact Or.inl ⟨_, ⟨rfl, fun i hi => by
            rcases Nat.lt_or_ge i j with q | q
            · exact e2 i q
            · have : i = j := by omega
              subst this; exact c3⟩, rfl⟩
        · rw [if_neg c3, bI_f (fun q => c3 (q.2.2 j hj))]
          exact Or.inr rfl
      · rintro x k2 ⟨rfl, e2⟩
        unfold b_X6_isWord_28
        rw [if_pos (show Int32.ofNat (lenS.getD k 0) ≤ nI (lenS.getD k 0) from nI_le (Nat.le_refl _) (by omega)), bI_t ⟨c1, c2, e2⟩]
    · rw [if_neg (show ¬ m 23 - m 25 = Int32.ofNat (lenS.getD k 0) by rw [hs]; exact fun q => c2 ((nI_eq (by omega) (by omega)).mp q)), bI_f (fun q => c2 q.2.1)]
  · rw [if_neg (show ¬ m 24 = (1 : Int32) by rw [h4]; exact fun q => c1 ((nI_eq (b := 1) (by omega) (by decide)).mp q)), bI_f (fun q => c1 q.1)]
/-- two of the words have not the same first letter -/
theorem WK.ne {k k' : Nat} {B : Nat → Nat} {tk fr a : Nat} (hk : k < 6) (hk' : k' < 6) (hd : ¬ chS k 0 = chS k' 0) (h : WK k B tk fr a) : ¬ WK k' B tk fr a := fun h' => by
  have h1 := h.2.2 0 (by have := (len_5 k hk).2; omega)
  have h2 := h'.2.2 0 (by have := (len_5 k' hk').2; omega)
  exact hd (h1.symm.trans h2)
/-- the reference has looked at the token from p on -/
def LK (B : Nat → Nat) (z p : Nat) (m : Nat → Int32) : Prop := ∃ tk fr a, NX B z p tk fr a ∧ m 23 = nI a ∧ m 24 = nI tk ∧ m 25 = nI fr ∧ (tk = 2 → m 26 = nI (fg_t B fr (a - fr)))
theorem s_lookL {fu z p : Nat} {B : Nat → Nat} {m bytes mt : Nat → Int32} {mL : Nat → Int64} (hfu : 5000 ≤ fu) (hT : TB B z bytes mt) (h7 : m 7 = nI z) (h23 : m 23 = nI p) (hp : p ≤ z) :
    ∃ m', m_X6_look fu m mL mt = some m' ∧ LK B z p m' ∧ ∀ j, j ≠ 23 → j ≠ 24 → j ≠ 25 → j ≠ 26 → m' j = m j := by
  obtain ⟨tk, fr, a, hN⟩ := NX.ex B hp
  obtain ⟨m', e1, e2, e3, e4, e5, e6⟩ := s_look (fu := fu) (mL := mL) hfu hT h7 h23 hN
  exact ⟨m', e1, ⟨tk, fr, a, hN, e2, e3, e4, e5⟩, e6⟩
theorem s_number {fu z p i : Nat} {B : Nat → Nat} {t bytes mt m told : Nat → Int32} {mL : Nat → Int64} {l2 l3 : Int32} (hfu : 5000 ≤ fu) (hT : TB B z bytes mt) (h1 : t 1 = nI z) (h3 : t 3 = nI p) (h7 : m 7 = nI z) (hL : LK B z p m) (hi : i < 4) (hl2 : 0 ≤ l2) (hl3 : l3 ≤ 999) :
    (∃ t' fr, m_X2_readNumber fu t bytes l2 l3 = some (-1, t') ∧ t' 2 = nI fr ∧ t' 1 = nI z ∧ m_X6_number fu m mL mt told (nI i) l2 l3 = some (0, (upd m 27 (nI fr), told))) ∨
    (∃ V t' p' m', m_X2_readNumber fu t bytes l2 l3 = some (nI V, t') ∧ V ≤ 999 ∧ l2 ≤ nI V ∧ nI V ≤ l3 ∧ t' 1 = nI z ∧ t' 3 = nI p' ∧ p < p' ∧ p' ≤ z ∧ m_X6_number fu m mL mt told (nI i) l2 l3 = some (1, (m', upd told i (nI V))) ∧ LK B z p' m' ∧ ∀ j, j ≠ 23 → j ≠ 24 → j ≠ 25 → j ≠ 26 → m' j = m j) := by
  obtain ⟨tk, fr, a, hN, g23, g24, g25, g26⟩ := hL
  obtain ⟨-, hk4⟩ := hN.tk
  have hz := hT.1
  obtain ⟨t', e1, e2, e3, e4, e5⟩ := s_step (fu := fu) hfu hT h1 h3 hN
  obtain ⟨n1, n2, n3, n4, n5, n6⟩ := id hN
  have wr : m_X6_wrong fu m mL = some (0, upd m 27 (nI fr)) := by unfold m_X6_wrong; rw [g25]
  unfold m_X2_readNumber m_X6_number b_X2_readNumber_25 b_X6_number_23
  rw [e1, Option.bind_some, wr, Option.bind_some]
  dsimp only
  rw [gd_t (Or.inl rfl)]
  by_cases c1 : tk = 2
  · have hd : di_t B z fr ∧ fr < a ∧ (∀ j, fr ≤ j → j < a → di_t B z j) := by
      rcases n6 with ⟨-, q, -⟩ | ⟨-, q, -⟩ | ⟨q, -, q2, q3, -⟩ | ⟨-, -, ⟨-, q⟩ | ⟨-, q⟩⟩
      · omega
      · omega
      · exact ⟨q, q2, q3⟩
      · omega
      · omega
    obtain ⟨d1, d2, d3⟩ := hd
    have t3 : t' 3 = nI a := e5 (by omega)
    have hs : t' 3 - t' 2 = nI (a - fr) := by rw [t3, e3, pk_sub (by omega)]
    have f26 := g26 c1
    rw [if_pos (show t' 4 = (2 : Int32) by rw [e4, c1]; rfl), if_pos (show m 24 = (2 : Int32) by rw [g24, c1]; rfl), s_in32, Option.bind_some]
    dsimp only
    by_cases c2 : a - fr ≤ 3
    · rw [if_pos (show t' 3 - t' 2 ≤ (3 : Int32) by rw [hs]; exact nI_le (b := 3) c2 (by decide))]
      have hfg : fg_t B fr (a - fr) = dv_t B fr (a - fr) := if_pos c2
      rw [hfg] at f26
      have hdv : dv_t B fr (a - fr) < 1000 := by
        have h1 := dv_b (B := B) (fr := fr) (z := z) (a - fr) (fun j j1 j2 => d3 j j1 (by omega))
        have h2 : (10 : Nat) ^ (a - fr) ≤ 10 ^ 3 := Nat.pow_le_pow_right (by decide) c2
        omega
      have A : lfix (b_X2_readNumber_35 fu bytes) fu (l2, l3, (0 : Int32), t' 2, t') = some (if l2 ≤ nI (dv_t B fr (a - fr)) ∧ nI (dv_t B fr (a - fr)) ≤ l3 then nI (dv_t B fr (a - fr)) else -1, t') := by
        refine lf (b_X2_readNumber_35 fu bytes) (fun j x => fr ≤ j ∧ x = (l2, l3, nI (dv_t B fr (j - fr)), nI j, t')) a (fun o => o = some (if l2 ≤ nI (dv_t B fr (a - fr)) ∧ nI (dv_t B fr (a - fr)) ≤ l3 then nI (dv_t B fr (a - fr)) else -1, t')) ?_ ?_ fu fr _ (by omega) (by omega) ⟨Nat.le_refl _, by rw [Nat.sub_self, e3]; rfl⟩
        · rintro j x k hj ⟨j1, rfl⟩
          have hdj := d3 j j1 hj
          left
          unfold b_X2_readNumber_35
          dsimp only
          rw [if_neg (show ¬ t' 3 ≤ nI j by rw [t3]; exact nI_ge hj (by omega)), s_byteAt hT e2 (by omega), Option.bind_some, if_pos hdj.1, nI_1]
          refine ⟨_, ⟨by omega, rfl⟩, ?_⟩
          congr 1
          rw [show j + 1 - fr = (j - fr) + 1 by omega, dv_s, show fr + (j - fr) = j by omega, show (10 : Int32) = nI 10 from rfl, pk_mul, nI_add, show (48 : Int32) = nI 48 from rfl, pk_sub (by have := hdj.2.1; omega), show 10 * dv_t B fr (j - fr) + B j - 48 = dv_t B fr (j - fr) * 10 + (B j - 48) by have := hdj.2.1; omega]
        · rintro x k ⟨j1, rfl⟩
          unfold b_X2_readNumber_35 b_X2_readNumber_79
          dsimp only
          rw [if_pos (show t' 3 ≤ nI a by rw [t3]; exact nI_le (Nat.le_refl _) (by omega)), s_isWithin, Option.bind_some]
          dsimp only
          by_cases c3 : l2 ≤ nI (dv_t B fr (a - fr)) ∧ nI (dv_t B fr (a - fr)) ≤ l3
          · rw [bI_t c3, if_neg n10, if_pos c3]
          · rw [bI_f c3, if_pos p00, if_neg c3]
      rw [A]
      by_cases c3 : l2 ≤ nI (dv_t B fr (a - fr)) ∧ nI (dv_t B fr (a - fr)) ≤ l3
      · right
        obtain ⟨m', b1, b2, b3⟩ := s_lookL (fu := fu) (mL := mL) hfu hT h7 g23 n3
        rw [if_pos c3, show bI (l2 ≤ m 26 ∧ m 26 ≤ l3) = 1 from bI_t (by rw [f26]; exact c3), if_neg n10, gd_t (inb_n hi (by decide)), b1, Option.bind_some, nI_clamp (by omega), f26]
        exact ⟨_, t', a, m', rfl, by omega, c3.1, c3.2, e2, t3, by omega, n3, rfl, b2, b3⟩
      · left
        rw [if_neg c3, show bI (l2 ≤ m 26 ∧ m 26 ≤ l3) = 0 from bI_f (by rw [f26]; exact c3), if_pos p00]
        exact ⟨t', fr, rfl, e3, e2, rfl⟩
    · left
      rw [if_neg (show ¬ t' 3 - t' 2 ≤ (3 : Int32) by rw [hs]; exact nI_ge (a := 3) (by omega) (by omega))]
      have hfg : fg_t B fr (a - fr) = 1000 := if_neg c2
      rw [hfg] at f26
      rw [show bI (l2 ≤ m 26 ∧ m 26 ≤ l3) = 0 from bI_f (by
        rw [f26]
        intro q
        have h1 := i_tr q.2 hl3
        exact absurd h1 (by decide)), if_pos p00]
      exact ⟨t', fr, rfl, e3, e2, rfl⟩
  · left
    rw [if_neg (show ¬ t' 4 = (2 : Int32) by rw [e4]; exact fun q => c1 ((nI_eq (b := 2) (by omega) (by decide)).mp q)), if_neg (show ¬ m 24 = (2 : Int32) by rw [g24]; exact fun q => c1 ((nI_eq (b := 2) (by omega) (by decide)).mp q))]
    exact ⟨t', fr, rfl, e3, e2, rfl⟩
/-- the first number behind a word -/
theorem s_tells {fu z p : Nat} {B : Nat → Nat} {t bytes mt m told : Nat → Int32} {mL : Nat → Int64} {l2 l3 : Int32} (hfu : 5000 ≤ fu) (hT : TB B z bytes mt) (h1 : t 1 = nI z) (h3 : t 3 = nI p) (h7 : m 7 = nI z) (h23 : m 23 = nI p) (hp : p ≤ z) (hl2 : 0 ≤ l2) (hl3 : l3 ≤ 999) :
    (∃ t' fr m', m_X2_readNumber fu t bytes l2 l3 = some (-1, t') ∧ t' 2 = nI fr ∧ t' 1 = nI z ∧ m_X6_tells fu m mL mt told l2 l3 = some (0, (m', told)) ∧ m' 27 = nI fr ∧ ∀ j, j ≠ 23 → j ≠ 24 → j ≠ 25 → j ≠ 26 → j ≠ 27 → m' j = m j) ∨
    (∃ V t' p' m', m_X2_readNumber fu t bytes l2 l3 = some (nI V, t') ∧ V ≤ 999 ∧ l2 ≤ nI V ∧ nI V ≤ l3 ∧ t' 1 = nI z ∧ t' 3 = nI p' ∧ p < p' ∧ p' ≤ z ∧ m_X6_tells fu m mL mt told l2 l3 = some (1, (m', upd told 0 (nI V))) ∧ LK B z p' m' ∧ ∀ j, j ≠ 23 → j ≠ 24 → j ≠ 25 → j ≠ 26 → m' j = m j) := by
  obtain ⟨m1, b1, b2, b3⟩ := s_lookL (fu := fu) (mL := mL) hfu hT h7 h23 hp
  unfold m_X6_tells
  rw [b1, Option.bind_some]
  rcases s_number (fu := fu) (mL := mL) (told := told) (i := 0) (l2 := l2) (l3 := l3) hfu hT h1 h3 ((b3 7 (by decide) (by decide) (by decide) (by decide)).trans h7) b2 (by decide) hl2 hl3 with ⟨t', fr, q1, q2, q3, q4⟩ | ⟨V, t', p', m', q1, q2, q3, q4, q5, q6, q7, q8, q9, q10, q11⟩
  · left
    rw [show m_X6_number fu m1 mL mt told (0 : Int32) l2 l3 = some (0, (upd m1 27 (nI fr), told)) from q4, Option.bind_some, gd_t (Or.inl rfl)]
    exact ⟨t', fr, upd m1 27 (nI fr), q1, q2, q3, rfl, pk_us, fun j j1 j2 j3 j4 j5 => (pk_un j5).trans (b3 j j1 j2 j3 j4)⟩
  · right
    rw [show m_X6_number fu m1 mL mt told (0 : Int32) l2 l3 = some (1, (m', upd told 0 (nI V))) from q9, Option.bind_some, gd_t (Or.inr rfl)]
    exact ⟨V, t', p', m', q1, q2, q3, q4, q5, q6, q7, q8, rfl, q10, fun j j1 j2 j3 j4 => (q11 j j1 j2 j3 j4).trans (b3 j j1 j2 j3 j4)⟩
