-- PURE 11: shelves
theorem RH.put {n s : Nat} {hold sz hold' sz' : Nat → Int32} {el el' : Nat → Int64} {sh rs rz shn sh' rs' rz' shn' : Nat → Int32} {MR MR' : Nat → Nat → Int64} (h : RH n hold sz el sh rs rz shn MR)
    (e : ∀ s', s' < 8 → s' ≠ s → (hold' s' = hold s' ∧ sz' s' = sz s') ∧ (∀ i, i < 40 → el' (s' * 40 + i) = el (s' * 40 + i)) ∧ (sh' s' = sh s' ∧ rs' s' = rs s' ∧ rz' s' = rz s' ∧ shn' s' = shn s') ∧ (∀ i, i < 40 → MR' s' i = MR s' i))
    (hs : (hold' s = -1 ∧ sz' s = 0 ∧ sh' s = 0) ∨
    (∃ t z : Nat, t ≤ 4 ∧ z ≤ 40 ∧ hold' s = nI t ∧ sz' s = nI z ∧ sh' s = 1 ∧ rs' s = nI t ∧ rz' s = nI z ∧ ∀ i, i < z → el' (s * 40 + i) = MR' s i) ∨
    (∃ v : Nat, v < n ∧ hold' s = nI (10 + v) ∧ sz' s = 0 ∧ sh' s = 2 ∧ shn' s = nI v)) : RH n hold' sz' el' sh' rs' rz' shn' MR' := fun s' hs' => by
  by_cases c : s' = s
  · subst c; exact hs
  · obtain ⟨⟨e1, e2⟩, e3, ⟨e4, e5, e6, e7⟩, e8⟩ := e s' hs' c
    rw [e1, e2, e4, e5, e6, e7]
    rcases h s' hs' with q | ⟨t, z, q1, q2, q3, q4, q5, q6, q7, q8⟩ | q
    · exact Or.inl q
    · exact Or.inr (Or.inl ⟨t, z, q1, q2, q3, q4, q5, q6, q7, fun i hi => by rw [e3 i (by omega), e8 i (by omega)]; exact q8 i hi⟩)
    · exact Or.inr (Or.inr q)
theorem s_fill {fu a b : Nat} {el : Nat → Int64} (hfu : 5000 ≤ fu) (hab : a ≤ b) (hb : b ≤ 320) : ∃ e', m_J7_fill_bad5a fu 320 el (nI a) (nI b) 0 = some e' ∧ (∀ i, a ≤ i → i < b → e' i = 0) ∧ ∀ i, (i < a ∨ b ≤ i) → e' i = el i := by
  unfold m_J7_fill_bad5a m_J7_rangeCheck_23922
  rw [if_pos (nI_le hab (by omega)), if_pos (nI_pos' (by omega)), if_pos (show nI b ≤ Int32.ofNat 320 from nI_le (b := 320) hb (by decide)), Option.bind_some]
  refine lf (b_J7_fill_bad5a_10 fu 320) (fun i x => x.1 = nI b ∧ x.2.1 = 0 ∧ x.2.2.1 = nI (a + i) ∧ (∀ j, a ≤ j → j < a + i → x.2.2.2 j = 0) ∧ ∀ j, (j < a ∨ a + i ≤ j) → x.2.2.2 j = el j) (b - a) (fun o => ∃ e', o = some e' ∧ (∀ i, a ≤ i → i < b → e' i = 0) ∧ ∀ i, (i < a ∨ b ≤ i) → e' i = el i) ?_ ?_ fu 0 _ (Nat.zero_le _) (by omega) ⟨rfl, rfl, rfl, fun j h1 h2 => by omega, fun j _ => by rfl⟩
  · rintro i ⟨x1, x2, x3, x4⟩ k hi ⟨e1, e2, e3, e4, e5⟩
    dsimp only at e1 e2 e3 e4 e5
    subst e1 e2 e3
    refine Or.inl ⟨(nI b, 0, nI (a + (i + 1)), vp_updL x4 (a + i) 0), ⟨rfl, rfl, rfl, fun j h1 h2 => ?_, fun j h1 => ?_⟩, ?_⟩
    · dsimp only
      by_cases c : j = a + i
      · subst c; exact pk_uLs
      · rw [pk_uLn c]; exact e4 j h1 (by omega)
    · dsimp only
      rw [pk_uLn (by omega)]; exact e5 j (by omega)
    · unfold b_J7_fill_bad5a_10
      dsimp only
      rw [if_neg (nI_ge (by omega) (by omega)), gd_t (inb_n (by omega) (by decide)), nI_clamp (by omega), nI_1, Nat.add_assoc]
  · rintro ⟨x1, x2, x3, x4⟩ k ⟨e1, e2, e3, e4, e5⟩
    dsimp only at e1 e2 e3 e4 e5
    subst e1 e2 e3
    refine ⟨x4, ?_, fun j h1 h2 => e4 j h1 (by omega), fun j h1 => e5 j (by omega)⟩
    unfold b_J7_fill_bad5a_10
    dsimp only
    rw [if_pos (nI_le (by omega) (by omega))]
theorem s_putRow {fu s z : Nat} {t : Int32} {hd sz : Nat → Int32} {el : Nat → Int64} (hfu : 5000 ≤ fu) (hs : s < 8) (hz : z ≤ 40) : ∃ e', m_X0_putRow fu hd sz el (nI s) t (nI z) = some (upd hd s t, upd sz s (nI z), e') ∧ (∀ i, i < z → e' (s * 40 + i) = 0) ∧ ∀ i, (i < s * 40 ∨ s * 40 + 40 ≤ i) → e' i = el i := by
  obtain ⟨e', h1, h2, h3⟩ := s_fill (fu := fu) (a := s * 40) (b := s * 40 + z) (el := el) hfu (by omega) (by omega)
  refine ⟨e', ?_, fun i hi => h2 _ (by omega) (by omega), fun i hi => h3 i (by omega)⟩
  unfold m_X0_putRow b_X0_putRow_49
  have ea : nI s * (40 : Int32) = nI (s * 40) := by rw [show (40 : Int32) = nI 40 from rfl, pk_mul]
  rw [s_isShelf, Option.bind_some, bI_t (x_sh hs), if_neg one_n, s_isWithin, Option.bind_some, bI_t (show (0 : Int32) ≤ nI z ∧ nI z ≤ (40 : Int32) from w_0n (m := 40) (by omega) (by decide)), if_neg one_n, gd_t (ib8 hs), gd_t (ib8 hs), ea, nI_add, h1, Option.bind_some, cl8 hs]
theorem s_mrow {fu s : Nat} {m : Nat → Int32} {mL : Nat → Int64} {sh rs rz r : Nat → Int32} {MR : Nat → Nat → Int64} (hfu : 5000 ≤ fu) (hs : s < 8) : ∃ R', lfix (b_X6_row_67 fu m mL) fu (nI s, (0 : Int32), sh, rs, rz, MR, r) = some ((1 : Int32), (sh, rs, rz, R', r)) ∧ (∀ i, i < 40 → R' s i = 0) ∧ ∀ s', s' ≠ s → R' s' = MR s' := by
  refine lf (b_X6_row_67 fu m mL) (fun i x => x.1 = nI s ∧ x.2.1 = nI i ∧ x.2.2.1 = sh ∧ x.2.2.2.1 = rs ∧ x.2.2.2.2.1 = rz ∧ x.2.2.2.2.2.2 = r ∧ (∀ j, j < i → x.2.2.2.2.2.1 s j = 0) ∧ ∀ s', s' ≠ s → x.2.2.2.2.2.1 s' = MR s') 40 (fun o => ∃ R', o = some ((1 : Int32), (sh, rs, rz, R', r)) ∧ (∀ i, i < 40 → R' s i = 0) ∧ ∀ s', s' ≠ s → R' s' = MR s') ?_ ?_ fu 0 _ (Nat.zero_le _) (by omega) ⟨rfl, rfl, rfl, rfl, rfl, rfl, fun j h1 => absurd h1 (Nat.not_lt_zero _), fun _ _ => by rfl⟩
  · rintro i ⟨x1, x2, x3, x4, x5, x6, x7⟩ k hi ⟨e1, e2, e3, e4, e5, e6, e7, e8⟩
    dsimp only at e1 e2 e3 e4 e5 e6 e7 e8
    subst e1 e2 e3 e4 e5 e6
    refine Or.inl ⟨(nI s, nI (i + 1), x3, x4, x5, va_up x6 s (vp_updL (x6 s) i 0), x7), ⟨rfl, rfl, rfl, rfl, rfl, rfl, fun j h1 => ?_, fun s' h1 => ?_⟩, ?_⟩
    · dsimp only
      rw [va_up_self]
      by_cases c : j = i
      · subst c; exact pk_uLs
      · rw [pk_uLn c]; exact e7 j (by omega)
    · dsimp only
      rw [va_up_ne _ _ h1]; exact e8 s' h1
    · unfold b_X6_row_67
      dsimp only
      rw [if_neg (show ¬ (40 : Int32) ≤ nI i from nI_ge (b := 40) (by omega) (by omega)), gd_t (ib8 hs), gd_t (ib8 hs), gd_t (inb_n (by omega) (by decide)), cl8 hs, nI_clamp (by omega), nI_1]
  · rintro ⟨x1, x2, x3, x4, x5, x6, x7⟩ k ⟨e1, e2, e3, e4, e5, e6, e7, e8⟩
    dsimp only at e1 e2 e3 e4 e5 e6 e7 e8
    subst e1 e2 e3 e4 e5 e6
    refine ⟨x6, ?_, e7, e8⟩
    unfold b_X6_row_67
    dsimp only
    rw [if_pos (show (40 : Int32) ≤ nI 40 by decide)]
theorem s_fit {fu t : Nat} {x : Int64} (ht : t ≤ 4) : ∃ y, m_X0_asKept fu (nI t) x = some (y, ()) ∧ m_X6_fit fu (nI t) x = some (y, ()) := by
  rcases (by omega : t = 0 ∨ t = 1 ∨ t = 2 ∨ t = 3 ∨ t = 4) with rfl | rfl | rfl | rfl | rfl
  · exact ⟨_, rfl, rfl⟩
  · exact ⟨_, rfl, rfl⟩
  · exact ⟨_, rfl, rfl⟩
  · exact ⟨_, rfl, rfl⟩
  · by_cases c : lg_cmp x 0 = 0
    · refine ⟨0, ?_, ?_⟩
      · unfold m_X0_asKept b_X0_asKept_61
        rw [if_neg (by decide), if_neg (by decide), if_neg (by decide), if_neg (by decide), if_pos (by decide), if_pos c]
      · unfold m_X6_fit b_X6_fit_59
        rw [if_neg (by decide), if_neg (by decide), if_neg (by decide), if_neg (by decide), if_pos c]
    · refine ⟨1, ?_, ?_⟩
      · unfold m_X0_asKept b_X0_asKept_61
        rw [if_neg (by decide), if_neg (by decide), if_neg (by decide), if_neg (by decide), if_pos (by decide), if_neg c]
      · unfold m_X6_fit b_X6_fit_59
        rw [if_neg (by decide), if_neg (by decide), if_neg (by decide), if_neg (by decide), if_neg c]
theorem nI_nm1 {n : Nat} (h : n < 2 ^ 31) : ¬ nI n = -1 := fun e => by
  rw [i_eq, nI_toInt h] at e
  have : (-1 : Int32).toInt = -1 := by decide
  omega
theorem k_row {t : Nat} (ht : t ≤ 4) : ¬ (10 : Int32) ≤ nI t ∧ ¬ nI t = -1 := ⟨nI_ge (b := 10) (by omega) (by decide), nI_nm1 (by omega)⟩
theorem k_voice {v : Nat} (hv : v < 8) : (10 : Int32) ≤ nI (10 + v) ∧ ¬ nI (10 + v) = -1 := ⟨nI_le (a := 10) (by omega) (by omega), nI_nm1 (by omega)⟩
/-- a shelf as both sides see it -/
theorem RH.see {n : Nat} {hold sz : Nat → Int32} {el : Nat → Int64} {sh rs rz shn : Nat → Int32} {MR : Nat → Nat → Int64} {s : Nat} (fu : Nat) (hn : n ≤ 8) (h : RH n hold sz el sh rs rz shn MR) (hs : s < 8) :
    (m_X0_hasVoice fu hold (nI s) = some (0, ()) ∧ m_X0_isBare fu hold (nI s) = some (1, ()) ∧ hold s = -1 ∧ sz s = 0 ∧ sh s = 0) ∨
    (∃ t z : Nat, m_X0_hasVoice fu hold (nI s) = some (0, ()) ∧ m_X0_isBare fu hold (nI s) = some (0, ()) ∧ t ≤ 4 ∧ z ≤ 40 ∧ hold s = nI t ∧ sz s = nI z ∧ sh s = 1 ∧ rs s = nI t ∧ rz s = nI z ∧ ∀ i, i < z → el (s * 40 + i) = MR s i) ∨
    (∃ v : Nat, m_X0_hasVoice fu hold (nI s) = some (1, ()) ∧ m_X0_isBare fu hold (nI s) = some (0, ()) ∧ v < n ∧ hold s = nI (10 + v) ∧ sz s = 0 ∧ sh s = 2 ∧ shn s = nI v) := by
  rw [s_hasVoice hs, s_isBare hs]
  rcases h s hs with ⟨a1, a2, a3⟩ | ⟨t, z, b1, b2, b3, b4⟩ | ⟨v, c1, c2, c3⟩
  · exact Or.inl ⟨by rw [bI_f (by rw [a1]; decide)], by rw [bI_t a1], a1, a2, a3⟩
  · exact Or.inr (Or.inl ⟨t, z, by rw [bI_f (by rw [b3]; exact (k_row b1).1)], by rw [bI_f (by rw [b3]; exact (k_row b1).2)], b1, b2, b3, b4⟩)
  · exact Or.inr (Or.inr ⟨v, by rw [bI_t (by rw [c2]; exact (k_voice (by omega)).1)], by rw [bI_f (by rw [c2]; exact (k_voice (by omega)).2)], c1, c2, c3⟩)
theorem s_putElement {fu s z j t : Nat} {hd sz : Nat → Int32} {el : Nat → Int64} {x y : Int64} (hs : s < 8) (hz : sz s = nI z) (h40 : z ≤ 40) (hj : j < z) (hh : hd s = nI t) (hy : m_X0_asKept fu (nI t) x = some (y, ())) :
    m_X0_putElement fu hd sz el (nI s) (nI j) x = some (vp_updL el (s * 40 + j) y) := by
  unfold m_X0_putElement b_X0_putElement_30
  have h1 := (hp_1 (z := z) (i := nI j) h40).mpr ⟨j, hj, rfl⟩
  have e : (nI s * (40 : Int32)) + nI j = nI (s * 40 + j) := by rw [show (40 : Int32) = nI 40 from rfl, pk_mul, nI_add]
  rw [s_hasPlaces hs, Option.bind_some, hz, bI_t h1, if_neg one_n, s_holdingOf hs, Option.bind_some, hh]
  dsimp only
  rw [hy, Option.bind_some, e, gd_t (inb_n (by omega) (by decide)), nI_clamp (by omega)]

theorem R_0 (fu : Nat) (C : Nat → Nat → Int32) (E : Nat → Int64) (M : Nat → Nat → Int32) (ML : Nat → Int64) (MR : Nat → Nat → Int64) (MV : Nat → Int64) (MY : Nat → Nat → Int32) (h : Rel fu C E M ML MR MV MY) (v1 : Int32) (v2 : Int32) (v3 : Int32) : ∃ (oX : Int32 × ((Nat → Int32) × (Nat → Int32) × (Nat → Int64) × (Nat → Int32))) (oM : Int32 × ((Nat → Int32) × (Nat → Int32) × (Nat → Int32) × (Nat → Nat → Int64) × (Nat → Int32))), m_X5_row fu (C 0) (C 14) (C 15) E (C 19) v1 v2 v3 = some oX ∧ m_X6_row fu (M 0) ML (M 1) (M 2) (M 3) MR (M 16) v1 v2 v3 = some oM ∧ oX.1 = oM.1 ∧ Rel fu (upC (upC (upC C 14 oX.2.1) 15 oX.2.2.1) 19 oX.2.2.2.2) oX.2.2.2.1 (upC (upC (upC (upC M 1 oM.2.1) 2 oM.2.2.1) 3 oM.2.2.2.1) 16 oM.2.2.2.2.2) ML oM.2.2.2.2.1 MV MY := by
  obtain ⟨hf, ⟨d, r, y, w, q, n, ks, as, ps, hS, hH⟩, hT, hr⟩ := id h
  obtain ⟨hn1, hn2, hn8⟩ := hS.2.2.2.2.2.2.1
  unfold m_X5_row m_X6_row b_X5_row_26 b_X6_row_36
  rw [s_isShelf, s_i (A := 0) (B := 7) (a := 0) (b := 7) rfl rfl, Option.bind_some, Option.bind_some]
  dsimp only
  by_cases c1 : 0 ≤ v1 ∧ v1 ≤ 7
  · rw [bI_t c1, if_neg (by decide), if_neg (by decide), s_isWithin, s_i (A := 0) (B := 4) (a := 0) (b := 4) rfl rfl, Option.bind_some, Option.bind_some]
    dsimp only
    by_cases c2 : 0 ≤ v2 ∧ v2 ≤ 4
    · rw [bI_t c2, if_neg (by decide), if_neg (by decide), s_isWithin, s_i (A := 0) (B := 40) (a := 0) (b := 40) rfl rfl, Option.bind_some, Option.bind_some]
      dsimp only
      by_cases c3 : 0 ≤ v3 ∧ v3 ≤ 40
      · obtain ⟨s, hs, rfl⟩ := i_0_7 c1
        obtain ⟨t, ht, rfl⟩ := i_rng (m := 4) (by decide) c2
        obtain ⟨z, hz, rfl⟩ := i_rng (m := 40) (by decide) c3
        obtain ⟨e', f1, f2, f3⟩ := s_putRow (fu := fu) (t := nI t) (hd := C 14) (sz := C 15) (el := E) hf hs hz
        obtain ⟨R', g1, g2, g3⟩ := s_mrow (fu := fu) (m := M 0) (mL := ML) (sh := upd (M 1) s 1) (rs := upd (M 2) s (nI t)) (rz := upd (M 3) s (nI z)) (r := M 16) (MR := MR) hf hs
        simp only [gd_t (ib8 hs), cl8 hs]
        rw [bI_t c3, if_neg (by decide), if_neg (by decide), f1, g1, Option.bind_some]
        refine ⟨_, _, rfl, rfl, rfl, hf, ⟨d, r, y, w, q, n, ks, as, ps, hS, ?_⟩, hT, hr⟩
        refine hH.put (s := s) (fun s' hs' ne => ⟨⟨pk_un ne, pk_un ne⟩, fun i hi => f3 _ (by omega), ⟨pk_un ne, pk_un ne, pk_un ne, rfl⟩, fun i _ => congrFun (g3 s' ne) i⟩) (Or.inr (Or.inl ⟨t, z, ht, hz, pk_us, pk_us, pk_us, pk_us, pk_us, fun i hi => ?_⟩))
        exact (f2 i hi).trans (g2 i (by omega)).symm
      · rw [bI_f c3, if_pos rfl, if_pos rfl]
        rw [(s_ref fu _ _).1.1, (s_mref fu _ _ _).1.1, Option.bind_some, Option.bind_some]; exact ⟨_, _, rfl, rfl, rfl, h.go rfl rfl rfl rfl rfl rfl rfl rfl rfl (fun _ _ => rfl) rfl rfl rfl rfl rfl rfl rfl rfl hr.r2⟩
    · rw [bI_f c2, if_pos rfl, if_pos rfl]
      rw [(s_ref fu _ _).1.1, (s_mref fu _ _ _).1.1, Option.bind_some, Option.bind_some]; exact ⟨_, _, rfl, rfl, rfl, h.go rfl rfl rfl rfl rfl rfl rfl rfl rfl (fun _ _ => rfl) rfl rfl rfl rfl rfl rfl rfl rfl hr.r2⟩
  · rw [bI_f c1, if_pos rfl, if_pos rfl]
    rw [(s_ref fu _ _).1.1, (s_mref fu _ _ _).1.1, Option.bind_some, Option.bind_some]; exact ⟨_, _, rfl, rfl, rfl, h.go rfl rfl rfl rfl rfl rfl rfl rfl rfl (fun _ _ => rfl) rfl rfl rfl rfl rfl rfl rfl rfl hr.r2⟩

theorem R_1 (fu : Nat) (C : Nat → Nat → Int32) (E : Nat → Int64) (M : Nat → Nat → Int32) (ML : Nat → Int64) (MR : Nat → Nat → Int64) (MV : Nat → Int64) (MY : Nat → Nat → Int32) (h : Rel fu C E M ML MR MV MY) (v1 : Int32) (v2 : Int32) (v3 : Int32) (v4 : Int32) : ∃ (oX : Int32 × ((Nat → Int64) × (Nat → Int32))) (oM : Int32 × ((Nat → Nat → Int64) × (Nat → Int32))), m_X5_set fu (C 0) (C 14) (C 15) E (C 19) v1 v2 ((v3.toInt64 <<< ((32 : Int32).toInt64 &&& 63)) ||| (v4.toInt64 &&& (4294967295 : Int64))) = some oX ∧ m_X6_set fu (M 0) ML (M 1) (M 2) (M 3) MR (M 16) v1 v2 ((v3.toInt64 <<< ((32 : Int32).toInt64 &&& 63)) ||| (v4.toInt64 &&& (4294967295 : Int64))) = some oM ∧ oX.1 = oM.1 ∧ Rel fu (upC C 19 oX.2.2) oX.2.1 (upC M 16 oM.2.2) ML oM.2.1 MV MY := by
  obtain ⟨hf, ⟨d, r, y, w, q, n, ks, as, ps, hS, hH⟩, hT, hr⟩ := id h
  obtain ⟨hn1, hn2, hn8⟩ := hS.2.2.2.2.2.2.1
  generalize (v3.toInt64 <<< ((32 : Int32).toInt64 &&& 63)) ||| (v4.toInt64 &&& (4294967295 : Int64)) = x
  unfold m_X5_set m_X6_set m_X6_noRow b_X6_noRow_55
  rw [s_isShelf, s_i (A := 0) (B := 7) (a := 0) (b := 7) rfl rfl, Option.bind_some, Option.bind_some]
  dsimp only
  by_cases c1 : 0 ≤ v1 ∧ v1 ≤ 7
  · obtain ⟨s, hs, rfl⟩ := i_0_7 c1
    rw [bI_t c1, if_neg (by decide), if_neg (by decide)]
    simp only [gd_t (ib8 hs), cl8 hs]
    rcases hH.see fu hn8 hs with ⟨a1, a2, a3, a4, a5⟩ | ⟨t, z, b1, b2, b3, b4, b5, b6, b7, b8, b9, b10⟩ | ⟨v, k1, k2, k3, k4, k5, k6, k7⟩
    · rw [a1, Option.bind_some, a2, a5, if_pos rfl, Option.bind_some, if_neg one_n, if_neg (by decide), if_pos rfl, (s_mref fu _ _ _).1.2.2, Option.bind_some, Option.bind_some]
      dsimp only
      rw [if_neg (by decide), (s_ref fu _ _).1.2.2, Option.bind_some]
      exact ⟨_, _, rfl, rfl, rfl, h.go rfl rfl rfl rfl rfl rfl rfl rfl rfl (fun _ _ => rfl) rfl rfl rfl rfl rfl rfl rfl rfl (hr.r4)⟩
    · rw [b1, Option.bind_some, b2, if_pos rfl, Option.bind_some, if_pos rfl, b7, if_neg (by decide), if_neg (by decide), Option.bind_some]
      dsimp only
      rw [if_pos rfl, s_hasPlaces hs, b6, b9, s_min, Option.bind_some, Option.bind_some]
      dsimp only
      by_cases ci : 0 ≤ v2 ∧ v2 ≤ nI z - 1
      · obtain ⟨j, hj, rfl⟩ := (x_ix (by omega)).mp ci
        obtain ⟨y', q1, q2⟩ := s_fit (fu := fu) (x := x) b3
        rw [bI_t ci, bI_t ((hp_1 b4).mpr ⟨j, hj, rfl⟩), if_neg (by decide), if_neg (by decide), s_putElement hs b6 b4 hj b5 q1, b8, q2, Option.bind_some, Option.bind_some, gd_t (inb_n (by omega) (by decide)), nI_clamp (by omega)]
        refine ⟨_, _, rfl, rfl, rfl, hf, ⟨d, r, y, w, q, n, ks, as, ps, hS, ?_⟩, hT, hr⟩
        refine hH.put (s := s) (fun s' hs' ne => ⟨⟨rfl, rfl⟩, fun i hi => pk_uLn (by omega), ⟨rfl, rfl, rfl, rfl⟩, fun i _ => congrFun (va_up_ne _ _ ne) i⟩) (Or.inr (Or.inl ⟨t, z, b3, b4, b5, b6, b7, b8, b9, fun i hi => ?_⟩))
        show vp_updL E (s * 40 + j) y' (s * 40 + i) = va_up MR s (vp_updL (MR s) j y') s i
        rw [va_up_self]
        by_cases ce : i = j
        · subst ce; rw [pk_uLs, pk_uLs]
        · rw [pk_uLn ce, pk_uLn (by omega)]; exact b10 i hi
      · rw [bI_f ci, bI_f (fun e => ci e.2), if_pos rfl, if_pos rfl]
        rw [(s_ref fu _ _).1.1, (s_mref fu _ _ _).1.1, Option.bind_some, Option.bind_some]; exact ⟨_, _, rfl, rfl, rfl, h.go rfl rfl rfl rfl rfl rfl rfl rfl rfl (fun _ _ => rfl) rfl rfl rfl rfl rfl rfl rfl rfl hr.r2⟩
    · rw [k1, Option.bind_some, if_neg one_n, k6, if_pos rfl, (s_mref fu _ _ _).1.2.1, Option.bind_some, Option.bind_some]
      dsimp only
      rw [if_neg (by decide), (s_ref fu _ _).1.2.1, Option.bind_some]
      exact ⟨_, _, rfl, rfl, rfl, h.go rfl rfl rfl rfl rfl rfl rfl rfl rfl (fun _ _ => rfl) rfl rfl rfl rfl rfl rfl rfl rfl (hr.r3)⟩
  · rw [bI_f c1, if_pos rfl, if_pos rfl, (s_mref fu _ _ _).1.1, Option.bind_some, Option.bind_some]
    dsimp only
    rw [if_neg (by decide), (s_ref fu _ _).1.1, Option.bind_some]
    exact ⟨_, _, rfl, rfl, rfl, h.go rfl rfl rfl rfl rfl rfl rfl rfl rfl (fun _ _ => rfl) rfl rfl rfl rfl rfl rfl rfl rfl (hr.r2)⟩

theorem R_5 (fu : Nat) (C : Nat → Nat → Int32) (E : Nat → Int64) (M : Nat → Nat → Int32) (ML : Nat → Int64) (MR : Nat → Nat → Int64) (MV : Nat → Int64) (MY : Nat → Nat → Int32) (h : Rel fu C E M ML MR MV MY) (v1 : Int32) (v2 : Int32) : ∃ (oX : Int32 × ((Nat → Int32) × (Nat → Int32) × (Nat → Int32))) (oM : Int32 × ((Nat → Int32) × (Nat → Int32) × (Nat → Int32))), m_X5_show fu (C 0) (C 1) (C 14) (C 15) (C 19) v1 v2 = some oX ∧ m_X6_show fu (M 0) ML (M 1) (M 14) (M 16) v1 v2 = some oM ∧ oX.1 = oM.1 ∧ Rel fu (upC (upC (upC C 14 oX.2.1) 15 oX.2.2.1) 19 oX.2.2.2) E (upC (upC (upC M 1 oM.2.1) 14 oM.2.2.1) 16 oM.2.2.2) ML MR MV MY := by
  obtain ⟨hf, ⟨d, r, y, w, q, n, ks, as, ps, hS, hH⟩, hT, hr⟩ := id h
  obtain ⟨hn1, hn2, hn8⟩ := hS.2.2.2.2.2.2.1
  unfold m_X5_show m_X6_show b_X5_show_20 b_X6_show_25 b_X5_show_27 b_X6_show_32 b_X6_show_47
  rw [s_isShelf, s_i (A := 0) (B := 7) (a := 0) (b := 7) rfl rfl, Option.bind_some, Option.bind_some]
  dsimp only
  by_cases c1 : 0 ≤ v1 ∧ v1 ≤ 7
  · obtain ⟨s, hs, rfl⟩ := i_0_7 c1
    rw [bI_t c1, if_neg n10, if_neg n10]
    unfold m_X0_putVoice b_X0_putVoice_25 b_X0_putVoice_33
    rw [s_isShelf, Option.bind_some, bI_t c1, if_neg one_n]
    simp only [gd_t (ib8 hs), cl8 hs]
    by_cases c2 : v2 = -1
    · subst c2
      simp only [if_true]
      rw [Option.bind_some]
      refine ⟨_, _, rfl, rfl, rfl, hf, ⟨d, r, y, w, q, n, ks, as, ps, hS, ?_⟩, hT, hr⟩
      exact hH.put (s := s) (fun s' hs' ne => ⟨⟨pk_un ne, pk_un ne⟩, fun i hi => rfl, ⟨pk_un ne, rfl, rfl, pk_un ne⟩, fun i _ => rfl⟩) (Or.inl ⟨pk_us, pk_us, pk_us⟩)
    · rw [if_neg c2, if_neg c2, if_neg c2, if_neg c2]
      simp only [s_isVoice, s_mVoice, Option.bind_some, hn1, hn2]
      by_cases c3 : 0 ≤ v2 ∧ v2 ≤ nI n - 1
      · obtain ⟨v, hv, rfl⟩ := v_ok hn8 c3
        rw [bI_t c3, if_neg n10, if_neg n10]
        refine ⟨_, _, rfl, rfl, rfl, hf, ⟨d, r, y, w, q, n, ks, as, ps, hS, ?_⟩, hT, hr⟩
        refine hH.put (s := s) (fun s' hs' ne => ⟨⟨pk_un ne, pk_un ne⟩, fun i hi => rfl, ⟨pk_un ne, rfl, rfl, pk_un ne⟩, fun i _ => rfl⟩) (Or.inr (Or.inr ⟨v, hv, ?_, pk_us, pk_us, pk_us⟩))
        show upd (C 14) s ((10 : Int32) + nI v) s = nI (10 + v)
        rw [pk_us, show (10 : Int32) = nI 10 from rfl, nI_add]
      · rw [bI_f c3, if_pos rfl, if_pos rfl]
        rw [(s_ref fu _ _).1.1, (s_mref fu _ _ _).1.1, Option.bind_some, Option.bind_some]; exact ⟨_, _, rfl, rfl, rfl, h.go rfl rfl rfl rfl rfl rfl rfl rfl rfl (fun _ _ => rfl) rfl rfl rfl rfl rfl rfl rfl rfl hr.r2⟩
  · rw [bI_f c1, if_pos rfl, if_pos rfl]
    rw [(s_ref fu _ _).1.1, (s_mref fu _ _ _).1.1, Option.bind_some, Option.bind_some]; exact ⟨_, _, rfl, rfl, rfl, h.go rfl rfl rfl rfl rfl rfl rfl rfl rfl (fun _ _ => rfl) rfl rfl rfl rfl rfl rfl rfl rfl hr.r2⟩
