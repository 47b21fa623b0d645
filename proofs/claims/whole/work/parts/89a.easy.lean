-- PURE 10: small questions
theorem s_i {fu : Nat} {x a b : Int32} {A B : Int64} (hA : A = a.toInt64) (hB : B = b.toInt64) : m_X6_in fu x.toInt64 A B = some (bI (a ≤ x ∧ x ≤ b), ()) := by rw [hA, hB, s_in32]
theorem i_tr {a b c : Int32} (h : a ≤ b) (h2 : b ≤ c) : a ≤ c := by rw [i_le] at h h2 ⊢; omega
theorem n10 : ¬ (1 : Int32) = 0 := by decide
theorem p00 : (0 : Int32) = 0 := rfl
theorem one_n : ¬ ((1 : Int32), ()).1 = 0 := by decide
theorem RR.r2 {r r' : Nat → Int32} (h : RR r r') : RR (upd r 0 (r 0 + 1)) (upd r' 2 (r' 2 + 1)) := h.ref (c := 1) ⟨by decide, 0, by decide, rfl, rfl⟩
theorem RR.r3 {r r' : Nat → Int32} (h : RR r r') : RR (upd r 1 (r 1 + 1)) (upd r' 3 (r' 3 + 1)) := h.ref (c := 1) ⟨by decide, 1, by decide, rfl, rfl⟩
theorem RR.r4 {r r' : Nat → Int32} (h : RR r r') : RR (upd r 2 (r 2 + 1)) (upd r' 4 (r' 4 + 1)) := h.ref (c := 1) ⟨by decide, 2, by decide, rfl, rfl⟩
theorem RR.r5 {r r' : Nat → Int32} (h : RR r r') : RR (upd r 3 (r 3 + 1)) (upd r' 5 (r' 5 + 1)) := h.ref (c := 1) ⟨by decide, 3, by decide, rfl, rfl⟩
theorem RR.r6 {r r' : Nat → Int32} (h : RR r r') : RR (upd r 4 (r 4 + 1)) (upd r' 6 (r' 6 + 1)) := h.ref (c := 1) ⟨by decide, 4, by decide, rfl, rfl⟩
/-- two loops side by side -/
theorem lf2 {X R Y S : Type} (F : (X → Option R) → X → Option R) (G : (Y → Option S) → Y → Option S) (I : Nat → X → Y → Prop) (e : Nat) (P : Option R → Option S → Prop)
    (hs : ∀ i x y k k', i < e → I i x y → (∃ x' y', I (i + 1) x' y' ∧ F k x = k x' ∧ G k' y = k' y') ∨ P (F k x) (G k' y)) (he : ∀ x y k k', I e x y → P (F k x) (G k' y)) :
    ∀ n i x y, i ≤ e → e - i < n → I i x y → P (lfix F n x) (lfix G n y) := by
  intro n
  induction n with
  | zero => intro i x y _ h; omega
  | succ n ih =>
    intro i x y hi hn hI
    show P (F (lfix F n) x) (G (lfix G n) y)
    rcases Nat.lt_or_ge i e with h | h
    · rcases hs i x y (lfix F n) (lfix G n) h hI with ⟨x', y', h1, h2, h3⟩ | h1
      · rw [h2, h3]; exact ih (i + 1) x' y' (by omega) (by omega) h1
      · exact h1
    · have : i = e := by omega
      subst this
      exact he x y _ _ hI
/-- a place in a row -/
theorem x_ix {z : Nat} {i : Int32} (hz : z ≤ 1000) : (0 ≤ i ∧ i ≤ nI z - 1) ↔ ∃ j : Nat, j < z ∧ i = nI j := by
  constructor
  · intro h
    rcases Nat.eq_zero_or_pos z with e | e
    · subst e
      exfalso
      have h1 := h.1; have h2 := h.2
      rw [i_le] at h1 h2
      rw [show (nI 0 - 1 : Int32).toInt = -1 from by decide] at h2
      have : (0 : Int32).toInt = 0 := by decide
      omega
    · rw [show (1 : Int32) = nI 1 from rfl, pk_sub e] at h
      obtain ⟨j, h1, h2⟩ := i_rng (by omega) h
      exact ⟨j, by omega, h2⟩
  · rintro ⟨j, hj, rfl⟩
    rw [show (1 : Int32) = nI 1 from rfl, pk_sub (by omega)]
    exact ⟨nI_pos' (by omega), nI_le (by omega) (by omega)⟩
theorem x_sh {s : Nat} (hs : s < 8) : (0 : Int32) ≤ nI s ∧ nI s ≤ (7 : Int32) := w_0n (m := 7) (by omega) (by decide)
theorem s_elementAt_n {fu : Nat} {sz : Nat → Int32} {el : Nat → Int64} {s : Nat} {i : Int32} (hs : s < 8) (hn : ¬ ((0 ≤ (1 : Int32) ∧ (1 : Int32) ≤ sz s) ∧ (0 ≤ i ∧ i ≤ sz s - 1))) : m_X0_elementAt fu sz el (nI s) i = some (0, ()) := by
  unfold m_X0_elementAt b_X0_elementAt_25
  rw [s_hasPlaces hs, Option.bind_some, bI_f hn, if_pos rfl]
theorem s_elementAt_bad {fu : Nat} {sz : Nat → Int32} {el : Nat → Int64} {s i : Int32} (hs : ¬ (0 ≤ s ∧ s ≤ 7)) : m_X0_elementAt fu sz el s i = some (0, ()) := by
  unfold m_X0_elementAt b_X0_elementAt_25
  rw [s_hasPlaces_bad hs, Option.bind_some, if_pos rfl]
theorem ib8 {s : Nat} (hs : s < 8) : inb (nI s) 8 := inb_n hs (by decide)
theorem cl8 {s : Nat} (hs : s < 8) : (nI s).toNatClampNeg = s := nI_clamp (by omega)
theorem RH.mono {n n' : Nat} {hold sz : Nat → Int32} {el : Nat → Int64} {sh rs rz shn : Nat → Int32} {MR : Nat → Nat → Int64} (h : RH n hold sz el sh rs rz shn MR) (hn : n ≤ n') : RH n' hold sz el sh rs rz shn MR := fun s hs => by
  rcases h s hs with c | c | ⟨v, c1, c2⟩
  · exact Or.inl c
  · exact Or.inr (Or.inl c)
  · exact Or.inr (Or.inr ⟨v, by omega, c2⟩)
def upN (f : Nat → Nat) (i v : Nat) : Nat → Nat := fun j => if j = i then v else f j
theorem upN_s {f : Nat → Nat} {i v : Nat} : upN f i v i = v := if_pos rfl
theorem upN_n {f : Nat → Nat} {i v j : Nat} (h : j ≠ i) : upN f i v j = f j := if_neg h

theorem R_3 (fu : Nat) (C : Nat → Nat → Int32) (E : Nat → Int64) (M : Nat → Nat → Int32) (ML : Nat → Int64) (MR : Nat → Nat → Int64) (MV : Nat → Int64) (MY : Nat → Nat → Int32) (h : Rel fu C E M ML MR MV MY) (v1 : Int32) (v2 : Int32) : ∃ (oX : Int64 × Unit) (oM : Int64 × Unit), m_X5_element fu (C 0) (C 15) E v1 v2 = some oX ∧ m_X6_element fu (M 0) ML (M 1) (M 3) MR v1 v2 = some oM ∧ oX.1 = oM.1 ∧ Rel fu C E M ML MR MV MY := by
  obtain ⟨hf, ⟨d, r, y, w, q, n, ks, as, ps, hS, hH⟩, hT, hr⟩ := id h
  obtain ⟨hn1, hn2, hn8⟩ := hS.2.2.2.2.2.2.1
  unfold m_X5_element m_X6_element b_X6_element_51 b_X6_element_52
  rw [s_i (A := 0) (B := 7) (a := 0) (b := 7) rfl rfl, Option.bind_some]
  dsimp only
  by_cases cs : 0 ≤ v1 ∧ v1 ≤ 7
  · obtain ⟨s, hs, rfl⟩ := i_0_7 cs
    rw [bI_t cs, if_neg (by decide)]
    simp only [gd_t (ib8 hs), cl8 hs]
    rw [s_min, Option.bind_some]
    dsimp only
    rcases hH s hs with ⟨a1, a2, a3⟩ | ⟨t, z, ht, hz, b1, b2, b3, b4, b5, b6⟩ | ⟨v, hv, c1, c2, c3, c4⟩
    · rw [a3, if_neg (by decide), s_elementAt_n hs (by rw [a2]; exact fun e => absurd e.1.2 (by decide)), Option.bind_some]
      exact ⟨_, _, rfl, rfl, rfl, h⟩
    · rw [b3, if_pos rfl, b5]
      by_cases ci : 0 ≤ v2 ∧ v2 ≤ nI z - 1
      · obtain ⟨j, hj, rfl⟩ := (x_ix (by omega)).mp ci
        rw [bI_t ci, if_neg (by decide), gd_t (inb_n (by omega) (by decide)), s_elementAt hs b2 hz hj, Option.bind_some, b6 j hj, nI_clamp (by omega)]
        exact ⟨_, _, rfl, rfl, rfl, h⟩
      · rw [bI_f ci, if_pos rfl, s_elementAt_n hs (by rw [b2]; exact fun e => ci e.2), Option.bind_some]
        exact ⟨_, _, rfl, rfl, rfl, h⟩
    · rw [c3, if_neg (by decide), s_elementAt_n hs (by rw [c2]; exact fun e => absurd e.1.2 (by decide)), Option.bind_some]
      exact ⟨_, _, rfl, rfl, rfl, h⟩
  · rw [bI_f cs, if_pos rfl, s_elementAt_bad cs, Option.bind_some]
    exact ⟨_, _, rfl, rfl, rfl, h⟩

theorem R_4 (fu : Nat) (C : Nat → Nat → Int32) (E : Nat → Int64) (M : Nat → Nat → Int32) (ML : Nat → Int64) (MR : Nat → Nat → Int64) (MV : Nat → Int64) (MY : Nat → Nat → Int32) (h : Rel fu C E M ML MR MV MY) (v1 : Int32) : ∃ (oX : Int32 × Unit) (oM : Int32 × Unit), m_X5_holds fu (C 0) (C 14) v1 = some oX ∧ m_X6_holds fu (M 0) ML (M 1) (M 2) (M 14) v1 = some oM ∧ oX.1 = oM.1 ∧ Rel fu C E M ML MR MV MY := by
  obtain ⟨hf, ⟨d, r, y, w, q, n, ks, as, ps, hS, hH⟩, hT, hr⟩ := id h
  obtain ⟨hn1, hn2, hn8⟩ := hS.2.2.2.2.2.2.1
  unfold m_X5_holds m_X6_holds b_X6_holds_21 b_X6_holds_51
  rw [s_i (A := 0) (B := 7) (a := 0) (b := 7) rfl rfl, Option.bind_some]
  dsimp only
  by_cases cs : 0 ≤ v1 ∧ v1 ≤ 7
  · obtain ⟨s, hs, rfl⟩ := i_0_7 cs
    rw [bI_t cs, if_neg (by decide)]
    simp only [gd_t (ib8 hs), cl8 hs]
    rw [s_holdingOf hs, Option.bind_some]
    dsimp only
    rcases hH s hs with ⟨a1, a2, a3⟩ | ⟨t, z, ht, hz, b1, b2, b3, b4, b5, b6⟩ | ⟨v, hv, c1, c2, c3, c4⟩
    · rw [a3, if_pos rfl, a1]
      exact ⟨_, _, rfl, rfl, rfl, h⟩
    · rw [b3, if_neg (by decide), if_pos rfl, b1, b4]
      exact ⟨_, _, rfl, rfl, rfl, h⟩
    · rw [c3, if_neg (by decide), if_neg (by decide), c1, c4, show (10 : Int32) = nI 10 from rfl, nI_add]
      exact ⟨_, _, rfl, rfl, rfl, h⟩
  · rw [bI_f cs, if_pos rfl, s_holdingOf_bad cs, Option.bind_some]
    exact ⟨_, _, rfl, rfl, rfl, h⟩

theorem R_7 (fu : Nat) (C : Nat → Nat → Int32) (E : Nat → Int64) (M : Nat → Nat → Int32) (ML : Nat → Int64) (MR : Nat → Nat → Int64) (MV : Nat → Int64) (MY : Nat → Nat → Int32) (h : Rel fu C E M ML MR MV MY) (v1 : Int32) (v2 : Int32) (v3 : Int32) : ∃ (oX : Int32 × ((Nat → Int32) × (Nat → Int32) × (Nat → Int32) × (Nat → Int32) × (Nat → Int32))) (oM : Int32 × ((Nat → Int32) × (Nat → Int32) × (Nat → Int32) × (Nat → Int32) × (Nat → Int32))), m_X5_voice fu (C 0) (C 1) (C 2) (C 3) (C 4) (C 19) v1 v2 v3 = some oX ∧ m_X6_voice fu (M 0) ML (M 16) (M 17) (M 18) (M 19) v1 v2 v3 = some oM ∧ oX.1 = oM.1 ∧ Rel fu (upC (upC (upC (upC (upC C 1 oX.2.1) 2 oX.2.2.1) 3 oX.2.2.2.1) 4 oX.2.2.2.2.1) 19 oX.2.2.2.2.2) E (upC (upC (upC (upC (upC M 0 oM.2.1) 16 oM.2.2.1) 17 oM.2.2.2.1) 18 oM.2.2.2.2.1) 19 oM.2.2.2.2.2) ML MR MV MY := by
  obtain ⟨hf, ⟨d, r, y, w, q, n, ks, as, ps, hS, hH⟩, hT, hr⟩ := id h
  obtain ⟨hn1, hn2, hn8⟩ := hS.2.2.2.2.2.2.1
  unfold m_X5_voice m_X6_voice b_X5_voice_27 b_X6_voice_36
  rw [s_isKind, s_i (A := 0) (B := 5) (a := 0) (b := 5) rfl rfl, Option.bind_some, Option.bind_some]
  dsimp only
  by_cases c1 : 0 ≤ v1 ∧ v1 ≤ 5
  · rw [bI_t c1, if_neg (by decide), if_neg (by decide), s_isWithin, s_i (A := 0) (B := 9) (a := 0) (b := 9) rfl rfl, Option.bind_some, Option.bind_some]
    dsimp only
    by_cases c2 : 0 ≤ v2 ∧ v2 ≤ 9
    · rw [bI_t c2, if_neg (by decide), if_neg (by decide), s_isWithin, s_i (A := 0) (B := 20) (a := 0) (b := 20) rfl rfl, Option.bind_some, Option.bind_some]
      dsimp only
      by_cases c3 : 0 ≤ v3 ∧ v3 ≤ 20
      · rw [bI_t c3, if_neg (by decide), if_neg (by decide)]
        unfold m_X1_hasRoom b_X1_hasRoom_14
        rw [gd_t (Or.inl rfl), gd_t (Or.inr rfl), hn1, hn2]
        by_cases c4 : n = 8
        · subst c4
          rw [if_pos (show (8 : Int32) ≤ nI 8 by decide), Option.bind_some, if_pos (show ((0 : Int32), ()).1 = 0 from rfl), if_pos (show nI 8 = (8 : Int32) from rfl)]
          rw [(s_ref fu _ _).2.2, (s_mref fu _ _ _).2.2, Option.bind_some, Option.bind_some]; exact ⟨_, _, rfl, rfl, rfl, h.go rfl rfl rfl rfl rfl rfl rfl rfl rfl (fun _ _ => rfl) rfl rfl rfl rfl rfl rfl rfl rfl hr.r6⟩
        · obtain ⟨k, hk, rfl⟩ := i_rng (m := 5) (by decide) c1
          obtain ⟨a, ha, rfl⟩ := i_rng (m := 9) (by decide) c2
          obtain ⟨p, hp, rfl⟩ := i_rng (m := 20) (by decide) c3
          rw [if_neg (show ¬ (8 : Int32) ≤ nI n from nI_ge (b := 8) (by omega) (by decide)), Option.bind_some, if_neg (show ¬ nI n = (8 : Int32) from fun e => c4 ((nI_eq (b := 8) (by omega) (by decide)).mp e))]
          dsimp only
          rw [if_neg (by decide)]
          unfold m_X1_addVoice m_X6_addVoice b_X1_addVoice_53
          rw [hn1, hn2, s_isWithin, Option.bind_some, bI_t (show (0 : Int32) ≤ nI n ∧ nI n ≤ (7 : Int32) from w_0n (m := 7) (by omega) (by decide)), if_neg (by decide), gd_t (inb_n (by omega) (by decide)), gd_t (inb_n (by omega) (by decide)), gd_t (inb_n (by omega) (by decide)), gd_t (inb_n (by omega) (by decide)), gd_t (inb_n (by omega) (by decide)), gd_t (inb_n (by omega) (by decide)), nI_clamp (by omega), Option.bind_some, Option.bind_some, nI_1]
          refine ⟨_, _, rfl, rfl, rfl, ?_⟩
          obtain ⟨a1, a2, a3, a4, a5, a6, a7, a8⟩ := hS
          refine ⟨hf, ⟨d, r, y, w, q, n + 1, upN ks n k, upN as n a, upN ps n p, ⟨a1, a2, a3, a4, a5, a6, ⟨rfl, rfl, by omega⟩, fun i hi => ?_⟩, hH.mono (by omega)⟩, hT, hr⟩
          by_cases ci : i = n
          · subst ci
            show (upd (C 2) i (nI k) i = _ ∧ upd (M 17) i (nI k) i = _ ∧ _) ∧ (upd (C 3) i (nI a) i = _ ∧ upd (M 18) i (nI a) i = _ ∧ _) ∧ (upd (C 4) i (nI p) i = _ ∧ upd (M 19) i (nI p) i = _ ∧ _)
            simp only [pk_us, upN_s, true_and]
            exact ⟨hk, ha, hp⟩
          · show (upd (C 2) n (nI k) i = _ ∧ upd (M 17) n (nI k) i = _ ∧ _) ∧ (upd (C 3) n (nI a) i = _ ∧ upd (M 18) n (nI a) i = _ ∧ _) ∧ (upd (C 4) n (nI p) i = _ ∧ upd (M 19) n (nI p) i = _ ∧ _)
            simp only [pk_un ci, upN_n ci]
            exact a8 i hi
      · rw [bI_f c3, if_pos rfl, if_pos rfl]
        rw [(s_ref fu _ _).1.1, (s_mref fu _ _ _).1.1, Option.bind_some, Option.bind_some]; exact ⟨_, _, rfl, rfl, rfl, h.go rfl rfl rfl rfl rfl rfl rfl rfl rfl (fun _ _ => rfl) rfl rfl rfl rfl rfl rfl rfl rfl hr.r2⟩
    · rw [bI_f c2, if_pos rfl, if_pos rfl]
      rw [(s_ref fu _ _).1.1, (s_mref fu _ _ _).1.1, Option.bind_some, Option.bind_some]; exact ⟨_, _, rfl, rfl, rfl, h.go rfl rfl rfl rfl rfl rfl rfl rfl rfl (fun _ _ => rfl) rfl rfl rfl rfl rfl rfl rfl rfl hr.r2⟩
  · rw [bI_f c1, if_pos rfl, if_pos rfl]
    rw [(s_ref fu _ _).1.1, (s_mref fu _ _ _).1.1, Option.bind_some, Option.bind_some]; exact ⟨_, _, rfl, rfl, rfl, h.go rfl rfl rfl rfl rfl rfl rfl rfl rfl (fun _ _ => rfl) rfl rfl rfl rfl rfl rfl rfl rfl hr.r2⟩

theorem R_8 (fu : Nat) (C : Nat → Nat → Int32) (E : Nat → Int64) (M : Nat → Nat → Int32) (ML : Nat → Int64) (MR : Nat → Nat → Int64) (MV : Nat → Int64) (MY : Nat → Nat → Int32) (h : Rel fu C E M ML MR MV MY) (v1 : Int32) (v2 : Int32) : ∃ (oX : Int32 × ((Nat → Int32) × (Nat → Int32))) (oM : Int32 × ((Nat → Int32) × (Nat → Int32))), m_X5_pitch fu (C 0) (C 1) (C 4) (C 19) v1 v2 = some oX ∧ m_X6_pitch fu (M 0) ML (M 16) (M 19) v1 v2 = some oM ∧ oX.1 = oM.1 ∧ Rel fu (upC (upC C 4 oX.2.1) 19 oX.2.2) E (upC (upC M 16 oM.2.1) 19 oM.2.2) ML MR MV MY := by
  obtain ⟨hf, ⟨d, r, y, w, q, n, ks, as, ps, hS, hH⟩, hT, hr⟩ := id h
  obtain ⟨hn1, hn2, hn8⟩ := hS.2.2.2.2.2.2.1
  unfold m_X5_pitch m_X6_pitch b_X5_pitch_18 b_X6_pitch_20
  rw [s_isVoice, s_mVoice, Option.bind_some, Option.bind_some, hn1, hn2]
  dsimp only
  by_cases c1 : 0 ≤ v1 ∧ v1 ≤ nI n - 1
  · rw [bI_t c1, if_neg (by decide), if_neg (by decide), s_isWithin, s_i (A := 0) (B := 20) (a := 0) (b := 20) rfl rfl, Option.bind_some, Option.bind_some]
    dsimp only
    by_cases c3 : 0 ≤ v2 ∧ v2 ≤ 20
    · obtain ⟨v, hv, rfl⟩ := v_ok hn8 c1
      obtain ⟨p, hp, rfl⟩ := i_rng (m := 20) (by decide) c3
      have hv8 : v < 8 := by omega
      unfold m_X1_putPitch b_X1_putPitch_17
      rw [bI_t c3, if_neg (by decide), if_neg (by decide), s_pitchOf hv8, Option.bind_some, s_isWithin, Option.bind_some, bI_t (x_sh hv8), if_neg (by decide), gd_t (inb_n hv8 (by decide)), gd_t (inb_n hv8 (by decide)), gd_t (inb_n hv8 (by decide)), nI_clamp (by omega), Option.bind_some]
      obtain ⟨a1, a2, a3, a4, a5, a6, a7, a8⟩ := hS
      refine ⟨_, _, rfl, rfl, ?_, ?_⟩
      · exact (a8 v hv8).2.2.1.trans (a8 v hv8).2.2.2.1.symm
      · refine ⟨hf, ⟨d, r, y, w, q, n, ks, as, upN ps v p, ⟨a1, a2, a3, a4, a5, a6, a7, fun i hi => ⟨(a8 i hi).1, (a8 i hi).2.1, ?_⟩⟩, hH⟩, hT, hr⟩
        by_cases ci : i = v
        · subst ci
          show (upd (C 4) i (nI p) i = _ ∧ upd (M 19) i (nI p) i = _ ∧ _)
          simp only [pk_us, upN_s, true_and]
          exact hp
        · show (upd (C 4) v (nI p) i = _ ∧ upd (M 19) v (nI p) i = _ ∧ _)
          simp only [pk_un ci, upN_n ci]
          exact (a8 i hi).2.2
    · rw [bI_f c3, if_pos rfl, if_pos rfl]
      rw [(s_ref fu _ _).1.1, (s_mref fu _ _ _).1.1, Option.bind_some, Option.bind_some]; exact ⟨_, _, rfl, rfl, rfl, h.go rfl rfl rfl rfl rfl rfl rfl rfl rfl (fun _ _ => rfl) rfl rfl rfl rfl rfl rfl rfl rfl hr.r2⟩
  · rw [bI_f c1, if_pos rfl, if_pos rfl]
    rw [(s_ref fu _ _).1.1, (s_mref fu _ _ _).1.1, Option.bind_some, Option.bind_some]; exact ⟨_, _, rfl, rfl, rfl, h.go rfl rfl rfl rfl rfl rfl rfl rfl rfl (fun _ _ => rfl) rfl rfl rfl rfl rfl rfl rfl rfl hr.r2⟩

theorem R_10 (fu : Nat) (C : Nat → Nat → Int32) (E : Nat → Int64) (M : Nat → Nat → Int32) (ML : Nat → Int64) (MR : Nat → Nat → Int64) (MV : Nat → Int64) (MY : Nat → Nat → Int32) (h : Rel fu C E M ML MR MV MY) (v1 : Int32) (v2 : Int32) : ∃ (oX : Int32 × ((Nat → Int32) × (Nat → Int32))) (oM : Int32 × ((Nat → Int32) × (Nat → Int32))), m_X5_weigh fu (C 0) (C 1) (C 19) v1 v2 = some oX ∧ m_X6_weigh fu (M 0) ML (M 16) v1 v2 = some oM ∧ oX.1 = oM.1 ∧ Rel fu (upC (upC C 1 oX.2.1) 19 oX.2.2) E (upC (upC M 0 oM.2.1) 16 oM.2.2) ML MR MV MY := by
  obtain ⟨hf, ⟨d, r, y, w, q, n, ks, as, ps, hS, hH⟩, hT, hr⟩ := id h
  obtain ⟨hn1, hn2, hn8⟩ := hS.2.2.2.2.2.2.1
  unfold m_X5_weigh m_X6_weigh b_X5_weigh_21 b_X6_weigh_27
  rw [s_isWithin, s_i (A := 2) (B := 9) (a := 2) (b := 9) rfl rfl, Option.bind_some, Option.bind_some]
  dsimp only
  by_cases c1 : 2 ≤ v1 ∧ v1 ≤ 9
  · have c1' : 0 ≤ v1 ∧ v1 ≤ nI 9 := ⟨i_tr (by decide) c1.1, c1.2⟩
    obtain ⟨ww, hw, rfl⟩ := i_rng (m := 9) (by decide) c1'
    have hw2 : 2 ≤ ww := (nI_le_iff (a := 2) (by decide) (by omega)).mp c1.1
    rw [bI_t c1, if_neg (by decide), if_neg (by decide), s_isWithin, s_min, Option.bind_some, Option.bind_some]
    dsimp only
    by_cases c3 : 0 ≤ v2 ∧ v2 ≤ nI ww - 1
    · obtain ⟨p, hp, rfl⟩ := (x_ix (by omega)).mp c3
      rw [bI_t c3, if_neg (by decide), if_neg (by decide)]
      obtain ⟨a1, a2, a3, a4, a5, a6, a7, a8⟩ := hS
      refine ⟨_, _, rfl, rfl, ?_, ?_⟩
      · show (10 : Int32) * C 1 3 + C 1 4 = (10 : Int32) * M 0 12 + M 0 13
        rw [a4.1, a4.2.1, a5.1, a5.2.1]
      · exact ⟨hf, ⟨d, r, y, ww, p, n, ks, as, ps, ⟨a1, a2, a3, ⟨rfl, rfl, hw2, hw⟩, ⟨rfl, rfl, hp⟩, a6, a7, a8⟩, hH⟩, hT, hr⟩
    · rw [bI_f c3, if_pos rfl, if_pos rfl]
      rw [(s_ref fu _ _).1.1, (s_mref fu _ _ _).1.1, Option.bind_some, Option.bind_some]; exact ⟨_, _, rfl, rfl, rfl, h.go rfl rfl rfl rfl rfl rfl rfl rfl rfl (fun _ _ => rfl) rfl rfl rfl rfl rfl rfl rfl rfl hr.r2⟩
  · rw [bI_f c1, if_pos rfl, if_pos rfl]
    rw [(s_ref fu _ _).1.1, (s_mref fu _ _ _).1.1, Option.bind_some, Option.bind_some]; exact ⟨_, _, rfl, rfl, rfl, h.go rfl rfl rfl rfl rfl rfl rfl rfl rfl (fun _ _ => rfl) rfl rfl rfl rfl rfl rfl rfl rfl hr.r2⟩

theorem R_11 (fu : Nat) (C : Nat → Nat → Int32) (E : Nat → Int64) (M : Nat → Nat → Int32) (ML : Nat → Int64) (MR : Nat → Nat → Int64) (MV : Nat → Int64) (MY : Nat → Nat → Int32) (h : Rel fu C E M ML MR MV MY) (v1 : Int32) : ∃ (oX : Int32 × ((Nat → Int32) × (Nat → Int32) × (Nat → Int32))) (oM : Int32 × ((Nat → Int32) × (Nat → Int32) × (Nat → Int32))), m_X5_feed fu (C 0) (C 17) (C 18) (C 19) v1 = some oX ∧ m_X6_feed fu (M 0) ML (M 15) (M 16) v1 = some oM ∧ oX.1 = oM.1 ∧ Rel fu (upC (upC (upC C 17 oX.2.1) 18 oX.2.2.1) 19 oX.2.2.2) E (upC (upC (upC M 0 oM.2.1) 15 oM.2.2.1) 16 oM.2.2.2) ML MR MV MY := by
  obtain ⟨hf, ⟨d, r, y, w, q, n, ks, as, ps, hS, hH⟩, hT, hr⟩ := id h
  obtain ⟨hn1, hn2, hn8⟩ := hS.2.2.2.2.2.2.1
  obtain ⟨z, z1, z2, z3, z4⟩ := hT
  unfold m_X5_feed m_X6_feed
  rw [s_isWithin, s_i (A := 0) (B := 255) (a := 0) (b := 255) rfl rfl, Option.bind_some, Option.bind_some]
  dsimp only
  by_cases c1 : 0 ≤ v1 ∧ v1 ≤ 255
  · rw [bI_t c1, if_neg (by decide), if_neg (by decide)]
    unfold m_X2_hasRoom b_X2_hasRoom_15
    rw [gd_t (Or.inl rfl), gd_t (Or.inr rfl), z2, z3]
    by_cases c4 : z = 250
    · subst c4
      rw [if_pos (show (250 : Int32) ≤ nI 250 by decide), Option.bind_some, if_pos (show ((0 : Int32), ()).1 = 0 from rfl), if_pos (show nI 250 = (250 : Int32) from rfl)]
      rw [(s_ref fu _ _).2.2, (s_mref fu _ _ _).2.2, Option.bind_some, Option.bind_some]; exact ⟨_, _, rfl, rfl, rfl, h.go rfl rfl rfl rfl rfl rfl rfl rfl rfl (fun _ _ => rfl) rfl rfl rfl rfl rfl rfl rfl rfl hr.r6⟩
    · obtain ⟨b, hb, rfl⟩ := i_rng (m := 255) (by decide) c1
      rw [if_neg (show ¬ (250 : Int32) ≤ nI z from nI_ge (b := 250) (by omega) (by decide)), Option.bind_some, if_neg (show ¬ nI z = (250 : Int32) from fun e => c4 ((nI_eq (b := 250) (by omega) (by decide)).mp e))]
      dsimp only
      rw [if_neg (by decide)]
      unfold m_X2_put b_X2_put_34
      rw [z2, s_isWithin, Option.bind_some, bI_t (show (0 : Int32) ≤ nI z ∧ nI z ≤ (249 : Int32) from w_0n (m := 249) (by omega) (by decide)), if_neg (by decide), gd_t (inb_n (by omega) (by decide)), gd_t (inb_n (by omega) (by decide)), nI_clamp (by omega), Option.bind_some, nI_1]
      refine ⟨_, _, rfl, rfl, rfl, hf, ⟨d, r, y, w, q, n, ks, as, ps, hS, hH⟩, ⟨z + 1, by omega, rfl, rfl, fun i hi => ?_⟩, hr⟩
      show ∃ b', _ ∧ upd (C 18) z (nI b) i = _ ∧ upd (M 15) z (nI b) i = _
      by_cases ci : i = z
      · subst ci
        exact ⟨b, hb, pk_us, pk_us⟩
      · simp only [pk_un ci]
        exact z4 i (by omega)
  · rw [bI_f c1, if_pos rfl, if_pos rfl]
    rw [(s_ref fu _ _).1.1, (s_mref fu _ _ _).1.1, Option.bind_some, Option.bind_some]; exact ⟨_, _, rfl, rfl, rfl, h.go rfl rfl rfl rfl rfl rfl rfl rfl rfl (fun _ _ => rfl) rfl rfl rfl rfl rfl rfl rfl rfl hr.r2⟩

theorem R_12 (fu : Nat) (C : Nat → Nat → Int32) (E : Nat → Int64) (M : Nat → Nat → Int32) (ML : Nat → Int64) (MR : Nat → Nat → Int64) (MV : Nat → Int64) (MY : Nat → Nat → Int32) (h : Rel fu C E M ML MR MV MY) : ∃ (oX : Int32 × (Nat → Int32)) (oM : Int32 × (Nat → Int32)), m_X5_wipe fu (C 0) (C 17)  = some oX ∧ m_X6_wipe fu (M 0) ML  = some oM ∧ oX.1 = oM.1 ∧ Rel fu (upC C 17 oX.2) E (upC M 0 oM.2) ML MR MV MY := by
  obtain ⟨hf, ⟨d, r, y, w, q, n, ks, as, ps, hS, hH⟩, hT, hr⟩ := id h
  obtain ⟨hn1, hn2, hn8⟩ := hS.2.2.2.2.2.2.1
  obtain ⟨z, z1, z2, z3, z4⟩ := hT
  refine ⟨_, _, rfl, rfl, ?_, hf, ⟨d, r, y, w, q, n, ks, as, ps, hS, hH⟩, ⟨0, by omega, rfl, rfl, fun i hi => absurd hi (Nat.not_lt_zero _)⟩, hr⟩
  exact z2.trans z3.symm

theorem R_50 (fu : Nat) (C : Nat → Nat → Int32) (E : Nat → Int64) (M : Nat → Nat → Int32) (ML : Nat → Int64) (MR : Nat → Nat → Int64) (MV : Nat → Int64) (MY : Nat → Nat → Int32) (h : Rel fu C E M ML MR MV MY) (v1 : Int32) : ∃ (oX : Int32 × (Nat → Int32)) (oM : Int32 × (Nat → Int32)), m_X5_seed fu (C 0) (C 1) v1 = some oX ∧ m_X6_seed fu (M 0) ML v1 = some oM ∧ oX.1 = oM.1 ∧ Rel fu (upC C 1 oX.2) E (upC M 0 oM.2) ML MR MV MY := by
  obtain ⟨hf, ⟨d, r, y, w, q, n, ks, as, ps, hS, hH⟩, hT, hr⟩ := id h
  obtain ⟨hn1, hn2, hn8⟩ := hS.2.2.2.2.2.2.1
  obtain ⟨a1, a2, a3, a4, a5, a6, a7, a8⟩ := hS
  exact ⟨_, _, rfl, rfl, a6.2.2, hf, ⟨d, r, y, w, q, n, ks, as, ps, ⟨a1, a2, a3, a4, a5, ⟨a6.1, a6.2.1, rfl⟩, a7, a8⟩, hH⟩, hT, hr⟩

theorem R_15 (fu : Nat) (C : Nat → Nat → Int32) (E : Nat → Int64) (M : Nat → Nat → Int32) (ML : Nat → Int64) (MR : Nat → Nat → Int64) (MV : Nat → Int64) (MY : Nat → Nat → Int32) (h : Rel fu C E M ML MR MV MY) (v1 : Int32) (v2 : Int32) : ∃ (oX : Int32 × ((Nat → Int32) × (Nat → Int32))) (oM : Int32 × (Nat → Int32)), m_X5_back fu (C 0) (C 1) (C 2) (C 4) (C 19) (C 20) v1 v2 = some oX ∧ m_X6_back fu (M 0) ML (M 16) (M 17) (M 19) v1 v2 = some oM ∧ oX.1 = oM.1 ∧ Rel fu (upC (upC C 19 oX.2.1) 20 oX.2.2) E (upC M 16 oM.2) ML MR MV MY := by
  obtain ⟨hf, ⟨d, r, y, w, q, n, ks, as, ps, hS, hH⟩, hT, hr⟩ := id h
  obtain ⟨hn1, hn2, hn8⟩ := hS.2.2.2.2.2.2.1
  unfold m_X5_back m_X6_back b_X5_back_18 b_X6_back_29 b_X6_back_35
  rw [s_isVoice, s_mVoice, Option.bind_some, Option.bind_some, hn1, hn2]
  dsimp only
  by_cases c1 : 0 ≤ v1 ∧ v1 ≤ nI n - 1
  · rw [bI_t c1, if_neg (by decide), if_neg (by decide), s_isWithin, s_i (A := 0) (B := 39) (a := 0) (b := 39) rfl rfl, Option.bind_some, Option.bind_some]
    dsimp only
    by_cases c3 : 0 ≤ v2 ∧ v2 ≤ 39
    · obtain ⟨v, hv, rfl⟩ := v_ok hn8 c1
      obtain ⟨p, hp, rfl⟩ := i_rng (m := 39) (by decide) c3
      obtain ⟨t', e1, e2, -⟩ := s_standsFor (fu := fu) (t := C 20) (v := v) hS (by omega)
      have e3 := s_MT (m' := M 0) (v := v) hS (fun _ _ => rfl) (by omega)
      rw [bI_t c3, if_neg (by decide), if_neg (by decide), e1, Option.bind_some, s_returnOf e2 (by omega), s_comesBack e3 (by omega), Option.bind_some, Option.bind_some]
      exact ⟨_, _, rfl, rfl, rfl, h.go rfl rfl rfl rfl rfl rfl rfl rfl rfl (fun _ _ => rfl) rfl rfl rfl rfl rfl rfl rfl rfl (hr)⟩
    · rw [bI_f c3, if_pos rfl, if_pos rfl]
      rw [(s_ref fu _ _).1.1, (s_mref fu _ _ _).1.1, Option.bind_some, Option.bind_some]; exact ⟨_, _, rfl, rfl, rfl, h.go rfl rfl rfl rfl rfl rfl rfl rfl rfl (fun _ _ => rfl) rfl rfl rfl rfl rfl rfl rfl rfl hr.r2⟩
  · rw [bI_f c1, if_pos rfl, if_pos rfl]
    rw [(s_ref fu _ _).1.1, (s_mref fu _ _ _).1.1, Option.bind_some, Option.bind_some]; exact ⟨_, _, rfl, rfl, rfl, h.go rfl rfl rfl rfl rfl rfl rfl rfl rfl (fun _ _ => rfl) rfl rfl rfl rfl rfl rfl rfl rfl hr.r2⟩
