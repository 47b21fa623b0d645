theorem R_26 (fu : Nat) (C : Nat → Nat → Int32) (E : Nat → Int64) (M : Nat → Nat → Int32) (ML : Nat → Int64) (MR : Nat → Nat → Int64) (MV : Nat → Int64) (MY : Nat → Nat → Int32) (h : Rel fu C E M ML MR MV MY) (v1 : Int32) (v2 : Int32) : ∃ (oX : Int32 × ((Nat → Int32) × (Nat → Int32) × (Nat → Int32) × (Nat → Int32) × (Nat → Int32))) (oM : Int32 × ((Nat → Int32) × (Nat → Int32) × (Nat → Int32) × (Nat → Int32))), m_X5_ask fu (C 0) (C 1) (C 2) (C 4) (C 19) (C 20) (C 21) (C 26) (C 27) v1 v2 = some oX ∧ m_X6_ask fu (M 0) ML (M 16) (M 17) (M 19) (M 21) (M 22) v1 v2 = some oM ∧ oX.1 = oM.1 ∧ Rel fu (upC (upC (upC (upC (upC C 19 oX.2.1) 20 oX.2.2.1) 21 oX.2.2.2.1) 26 oX.2.2.2.2.1) 27 oX.2.2.2.2.2) E (upC (upC (upC (upC M 0 oM.2.1) 16 oM.2.2.1) 21 oM.2.2.2.1) 22 oM.2.2.2.2) ML MR MV MY := by
  obtain ⟨hf, ⟨d, r, y, w, q, n, ks, as, ps, hS, hH⟩, hT, hr⟩ := id h
  obtain ⟨hn1, hn2, hn8⟩ := hS.2.2.2.2.2.2.1
  unfold m_X5_ask m_X6_ask b_X5_ask_13 b_X6_ask_13
  simp only [s_isVoice, s_mVoice, Option.bind_some, hn1, hn2]
  by_cases c1 : 0 ≤ v1 ∧ v1 ≤ nI n - 1
  · rw [bI_t c1, if_neg n10, if_neg n10]
    by_cases c2 : (-1 : Int32) ≤ v2
    · rw [if_pos c2, if_pos c2]
      obtain ⟨v, hv, rfl⟩ := v_ok hn8 c1
      have hv8 : v < 8 := by omega
      obtain ⟨W, hW⟩ := AS.ex (fun l => wg (ks v) (pt (ks v) (ps v) y) d w q l = 1)
      obtain ⟨tr', th', td', ts', e1, g1, g2, g3, g4⟩ := s_shortest (fu := fu) (t := C 0) (tr := C 20) (th := C 21) (td := C 26) (ts := C 27) hf hS hv8 hW
      rw [e1, Option.bind_some]
      dsimp only
      have T : MT (upd (M 0) 40 (-1)) (M 17) (M 19) v (ks v) (ps v) d y w q := s_MT hS (fun j hj => pk_un (by omega)) hv8
      have B : ∃ (b : Int32) (m' w' h' : Nat → Int32), ((m_X6_finds fu (upd (M 0) 40 (-1)) ML (M 17) (M 19) (M 21) (M 22) (nI v) (1 : Int32)).bind fun o13 => if o13.1 = 0 then (m_X6_finds fu o13.2.1 ML (M 17) (M 19) o13.2.2.1 o13.2.2.2 (nI v) (2 : Int32)).bind fun o16 => if o16.1 = 0 then b_X6_ask_48 fu ML (M 17) (M 19) v2 (0 : Int32) o16.2.1 (M 16) o16.2.2.1 o16.2.2.2 else b_X6_ask_43 fu ML (M 17) (M 19) v2 o16.2.1 (M 16) o16.2.2.1 o16.2.2.2 else b_X6_ask_43 fu ML (M 17) (M 19) v2 o13.2.1 (M 16) o13.2.2.1 o13.2.2.2) = b_X6_ask_48 fu ML (M 17) (M 19) v2 b m' (M 16) w' h' ∧ (∀ j, j < 31 → m' j = M 0 j) ∧ ((b = 0 ∧ W.length = 0 ∧ m' 40 = -1) ∨ (b = 1 ∧ 0 < W.length ∧ m' 40 = nI W.length ∧ Bf w' W)) := by
        rcases hW with ⟨a, ha, hp, hno, rfl⟩ | ⟨hno, hW⟩
        · obtain ⟨m', w', h', a1, a2, a3, a4⟩ := (s_finds (fu := fu) (mL := ML) (mw := M 21) (mh := M 22) (nn := 1) hf (Or.inl rfl) T).1 a ha hp hno
          refine ⟨1, m', w', h', ?_, fun j hj => (a4 j hj).trans (pk_un (by omega)), Or.inr ⟨rfl, Nat.zero_lt_one, a2, a3⟩⟩
          have s1 : m_X6_finds fu (upd (M 0) 40 (-1)) ML (M 17) (M 19) (M 21) (M 22) (nI v) (1 : Int32) = some (1, (m', w', h')) := a1
          rw [s1, Option.bind_some, if_neg (show ¬ ((1 : Int32), m', w', h').1 = 0 from n10)]
          rfl
        · obtain ⟨m', w', h', a1, a2, a3⟩ := (s_finds (fu := fu) (mL := ML) (mw := M 21) (mh := M 22) (nn := 1) hf (Or.inl rfl) T).2 hno
          have T2 : MT m' (M 17) (M 19) v (ks v) (ps v) d y w q := s_MT hS (fun j hj => (a3 j (by omega)).trans (pk_un (by omega))) hv8
          have s1 : m_X6_finds fu (upd (M 0) 40 (-1)) ML (M 17) (M 19) (M 21) (M 22) (nI v) (1 : Int32) = some (0, (m', w', h')) := a1
          rw [s1, Option.bind_some, if_pos (show ((0 : Int32), m', w', h').1 = 0 from rfl)]
          dsimp only
          rcases hW with ⟨a, ha, hp, hno2, rfl⟩ | ⟨hno2, rfl⟩
          · obtain ⟨m2, w2, h2, b1, b2, b3, b4⟩ := (s_finds (fu := fu) (mL := ML) (mw := w') (mh := h') (nn := 2) hf (Or.inr rfl) T2).1 a ha hp hno2
            have s2 : m_X6_finds fu m' ML (M 17) (M 19) w' h' (nI v) (2 : Int32) = some (1, (m2, w2, h2)) := b1
            refine ⟨1, m2, w2, h2, ?_, fun j hj => (b4 j hj).trans ((a3 j hj).trans (pk_un (by omega))), Or.inr ⟨rfl, Nat.zero_lt_succ _, b2, b3⟩⟩
            rw [s2, Option.bind_some, if_neg (show ¬ ((1 : Int32), m2, w2, h2).1 = 0 from n10)]
            rfl
          · obtain ⟨m2, w2, h2, b1, b2, b3⟩ := (s_finds (fu := fu) (mL := ML) (mw := w') (mh := h') (nn := 2) hf (Or.inr rfl) T2).2 hno2
            have s2 : m_X6_finds fu m' ML (M 17) (M 19) w' h' (nI v) (2 : Int32) = some (0, (m2, w2, h2)) := b1
            refine ⟨0, m2, w2, h2, ?_, fun j hj => (b3 j hj).trans ((a3 j hj).trans (pk_un (by omega))), Or.inl ⟨rfl, rfl, b2.trans (a2.trans pk_us)⟩⟩
            rw [s2, Option.bind_some, if_pos (show ((0 : Int32), m2, w2, h2).1 = 0 from rfl)]
      obtain ⟨b, m', w', h', B1, B2, B3⟩ := B
      rw [B1]
      unfold b_X5_ask_51 b_X5_ask_80 b_X6_ask_48 b_X6_ask_66 b_X6_ask_90
      have hm : ∀ j, j < 21 → m' j = M 0 j := fun j hj => B2 j (by omega)
      by_cases c3 : v2 = -1
      · rw [if_pos c3, if_pos c3]
        rcases B3 with ⟨rfl, b2, b3⟩ | ⟨rfl, b2, b3, b4⟩
        · rw [if_pos (show td' 1 = 0 by rw [g1, b2]; rfl), if_pos p00]
          exact ⟨_, _, rfl, rfl, rfl, h.go rfl rfl rfl rfl rfl rfl rfl rfl rfl (hm) rfl rfl rfl rfl rfl rfl rfl rfl (hr)⟩
        · rw [if_neg (show ¬ td' 1 = 0 by rw [g1]; exact nI_ne0 b2 (by omega)), if_neg n10]
          exact ⟨_, _, rfl, rfl, g1.trans b3.symm, h.go rfl rfl rfl rfl rfl rfl rfl rfl rfl (hm) rfl rfl rfl rfl rfl rfl rfl rfl (hr)⟩
      · rw [if_neg c3, if_neg c3]
        obtain ⟨j, hj, rfl⟩ := i_from (x := v2) (fun q => by rw [i_lt] at q; rw [i_le] at c2; omega) c3
        rcases B3 with ⟨rfl, b2, b3⟩ | ⟨rfl, b2, b3, b4⟩
        · rw [if_pos (show td' 1 ≤ nI j by rw [g1]; exact nI_le (by omega) hj), if_pos (show m' 40 ≤ nI j by rw [b3, i_le, nI_toInt hj, tm1]; omega), (s_ref fu _ _).2.1, (s_mref fu _ _ _).2.1, Option.bind_some, Option.bind_some]
          exact ⟨_, _, rfl, rfl, rfl, h.go rfl rfl rfl rfl rfl rfl rfl rfl rfl (hm) rfl rfl rfl rfl rfl rfl rfl rfl (hr.r5)⟩
        · by_cases c4 : W.length ≤ j
          · rw [if_pos (show td' 1 ≤ nI j by rw [g1]; exact nI_le c4 hj), if_pos (show m' 40 ≤ nI j by rw [b3]; exact nI_le c4 hj), (s_ref fu _ _).2.1, (s_mref fu _ _ _).2.1, Option.bind_some, Option.bind_some]
            exact ⟨_, _, rfl, rfl, rfl, h.go rfl rfl rfl rfl rfl rfl rfl rfl rfl (hm) rfl rfl rfl rfl rfl rfl rfl rfl (hr.r5)⟩
          · have hlt : j < W.length := by omega
            rw [if_neg (show ¬ td' 1 ≤ nI j by rw [g1]; exact nI_ge hlt (by omega)), if_neg (show ¬ m' 40 ≤ nI j by rw [b3]; exact nI_ge hlt (by omega)), s_soundAt ⟨g1, g2, g3, g4⟩ (List.getElem?_eq_getElem hlt), Option.bind_some, gd_t (inb_n (by omega) (by decide)), nI_clamp hj, b4 j _ (List.getElem?_eq_getElem hlt)]
            exact ⟨_, _, rfl, rfl, rfl, h.go rfl rfl rfl rfl rfl rfl rfl rfl rfl (hm) rfl rfl rfl rfl rfl rfl rfl rfl (hr)⟩
    · rw [if_neg c2, if_neg c2]
      rw [(s_ref fu _ _).1.1, (s_mref fu _ _ _).1.1, Option.bind_some, Option.bind_some]; exact ⟨_, _, rfl, rfl, rfl, h.go rfl rfl rfl rfl rfl rfl rfl rfl rfl (fun _ _ => rfl) rfl rfl rfl rfl rfl rfl rfl rfl hr.r2⟩
  · rw [bI_f c1, if_pos p00, if_pos p00]
    rw [(s_ref fu _ _).1.1, (s_mref fu _ _ _).1.1, Option.bind_some, Option.bind_some]; exact ⟨_, _, rfl, rfl, rfl, h.go rfl rfl rfl rfl rfl rfl rfl rfl rfl (fun _ _ => rfl) rfl rfl rfl rfl rfl rfl rfl rfl hr.r2⟩
