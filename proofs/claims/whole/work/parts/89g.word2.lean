-- PURE 16: words made up; shouts in truth; rains
theorem er_take {l : List Nat} {i b x : Nat} (h : l[i]? = some x) : (l.take (i + 1)).eraseIdx b = if i = b then (l.take i).eraseIdx b else (l.take i).eraseIdx b ++ [x] := by
  have hi : i < l.length := (List.getElem?_eq_some_iff.mp h).1
  have hl : (l.take i).length = i := by rw [List.length_take]; omega
  rw [List.take_add_one, h]
  show (l.take i ++ [x]).eraseIdx b = _
  rcases Nat.lt_trichotomy b i with c | c | c
  · rw [List.eraseIdx_append_of_lt_length (by omega), if_neg (by omega)]
  · subst c
    rw [List.eraseIdx_append_of_length_le (by omega), if_pos rfl, hl, Nat.sub_self, List.eraseIdx_of_length_le (l := l.take b) (by omega)]
    exact List.append_nil _
  · rw [List.eraseIdx_append_of_length_le (by omega), if_neg (by omega), List.eraseIdx_of_length_le (l := l.take i) (by omega), List.eraseIdx_of_length_le (l := [x]) (by simp only [List.length_cons, List.length_nil]; omega)]
theorem s_takes {fu b : Nat} {t g f1 g1 : Nat → Int32} {l : List Nat} {but : Int32} (hfu : 5000 ≤ fu) (W : WD f1 g1 l) (hb : ∀ i, i < l.length → (nI i = but ↔ i = b)) :
    ∃ t' g', m_X4_takes fu t g f1 g1 but = some (t', g') ∧ t' 1 = nI (l.eraseIdx b).length ∧ Bf g' (l.eraseIdx b) := by
  obtain ⟨w1, w2, w3, w4⟩ := id W
  unfold m_X4_takes m_X4_clear
  rw [Option.bind_some]
  refine lf (b_X4_takes_6 fu f1 g1) (fun i x => x.1 = but ∧ x.2.1 = nI i ∧ x.2.2.1 1 = nI ((l.take i).eraseIdx b).length ∧ Bf x.2.2.2 ((l.take i).eraseIdx b)) l.length (fun o => ∃ t' g', o = some (t', g') ∧ t' 1 = nI (l.eraseIdx b).length ∧ Bf g' (l.eraseIdx b)) ?_ ?_ fu 0 _ (Nat.zero_le _) (by omega) ⟨rfl, rfl, rfl, by rw [List.take_zero]; exact Bf_nil⟩
  · rintro i ⟨x1, x2, x3, x4⟩ k hi ⟨e1, e2, e3, e4⟩
    dsimp only at e1 e2 e3 e4
    subst e1 e2
    obtain ⟨x, hx⟩ : ∃ x, l[i]? = some x := ⟨l[i], List.getElem?_eq_getElem hi⟩
    left
    unfold b_X4_takes_6 b_X4_takes_28
    dsimp only
    rw [if_neg (by rw [w1]; exact nI_ge hi (by omega))]
    by_cases c : i = b
    · rw [if_pos ((hb i hi).mpr c), nI_1]
      exact ⟨(x1, nI (i + 1), x3, x4), ⟨rfl, rfl, by rw [er_take hx, if_pos c]; exact e3, by rw [er_take hx, if_pos c]; exact e4⟩, rfl⟩
    · have hl : ((l.take i).eraseIdx b).length ≤ i := Nat.le_trans (List.length_eraseIdx_le ..) (by rw [List.length_take]; omega)
      obtain ⟨t2, g2, a1, a2, a3⟩ := s_add (fu := fu) (x := x) e3 (by omega) e4
      rw [if_neg (fun e => c ((hb i hi).mp e)), s_soundAt W hx, Option.bind_some]
      dsimp only
      rw [a1, Option.bind_some, nI_1]
      exact ⟨(x1, nI (i + 1), t2, g2), ⟨rfl, rfl, by rw [er_take hx, if_neg c]; exact a2, by rw [er_take hx, if_neg c]; exact a3⟩, rfl⟩
  · rintro ⟨x1, x2, x3, x4⟩ k ⟨e1, e2, e3, e4⟩
    dsimp only at e1 e2 e3 e4
    subst e1 e2
    unfold b_X4_takes_6
    dsimp only
    rw [if_pos (by rw [w1]; exact nI_le (Nat.le_refl _) (by omega))]
    rw [List.take_length] at e3 e4
    exact ⟨x3, x4, rfl, e3, e4⟩
theorem mem_er {l : List Nat} {b : Nat} (h : ∀ x ∈ l, x < 40) : ∀ x ∈ l.eraseIdx b, x < 40 := fun x hx => h x (List.mem_of_mem_eraseIdx hx)
theorem s_sameAs {fu : Nat} {t h p g : Nat → Int32} {L1 L2 : List Nat} (hfu : 5000 ≤ fu) (c1 : t 8 = nI L1.length) (l1 : L1.length ≤ 13) (b1 : Bf h L1) (s1 : ∀ x ∈ L1, x < 40) (c2 : p 8 = nI L2.length) (l2 : L2.length ≤ 13) (b2 : Bf g L2) (s2 : ∀ x ∈ L2, x < 40) : m_X3_heardSameAs fu t h p g = some (bI (L1 = L2), ()) := by
  unfold m_X3_heardSameAs
  by_cases c : L1.length = L2.length
  · rw [if_pos (by rw [c1, c2, c])]
    refine lf (b_X3_heardSameAs_15 fu t h p g) (fun i x => x = nI i ∧ ∀ j, j < i → L1[j]? = L2[j]?) L1.length (fun o => o = some (bI (L1 = L2), ())) ?_ ?_ fu 0 _ (Nat.zero_le _) (by omega) ⟨rfl, fun j hj => absurd hj (Nat.not_lt_zero _)⟩
    · rintro i x k hi ⟨e1, e2⟩
      subst e1
      have g1 := List.getElem?_eq_getElem hi
      have g2 := List.getElem?_eq_getElem (l := L2) (i := i) (by omega)
      unfold b_X3_heardSameAs_15
      rw [if_neg (by rw [c1]; exact nI_ge hi (by omega)), s_heardAt c1 l1 b1 g1, s_heardAt c2 l2 b2 g2, Option.bind_some, Option.bind_some]
      dsimp only
      have u1 := s1 _ (List.getElem_mem hi)
      have u2 := s2 _ (List.getElem_mem (l := L2) (n := i) (by omega))
      by_cases e : L1[i] = L2[i]
      · rw [if_pos (by rw [e]), nI_1]
        refine Or.inl ⟨nI (i + 1), ⟨rfl, fun j hj => ?_⟩, rfl⟩
        rcases Nat.lt_or_ge j i with q | q
        · exact e2 j q
        · have : j = i := by omega
          subst this
          rw [g1, g2, e]
      · rw [if_neg (fun q => e ((nI_eq (by omega) (by omega)).mp q))]
        refine Or.inr ?_
        rw [bI_f (fun q => e (by subst q; rfl))]
    · rintro x k ⟨e1, e2⟩
      subst e1
      unfold b_X3_heardSameAs_15
      rw [if_pos (by rw [c1]; exact nI_le (Nat.le_refl _) (by omega)), bI_t (List.ext_getElem? (fun j => by
        rcases Nat.lt_or_ge j L1.length with q | q
        · exact e2 j q
        · rw [List.getElem?_eq_none q, List.getElem?_eq_none (by omega)]))]
  · rw [if_neg (by rw [c1, c2]; exact fun e => c ((nI_eq (by omega) (by omega)).mp e)), bI_f (fun e => c (by rw [e]))]
/-- two lists beside each other, as the reference compares them -/
theorem s_alike2 {fu : Nat} {m r w g o : Nat → Int32} {mL : Nat → Int64} {sh rz mk mp : Nat → Int32} {MR : Nat → Nat → Int64} {L1 L2 : List Nat} {s0 : Int32} (hfu : 5000 ≤ fu) (c2 : m 33 = nI L2.length) (l2 : L2.length ≤ 13) (b2 : Bf g L2) (s2 : ∀ x ∈ L2, x < 40) (b1 : Bf o L1) (s1 : ∀ x ∈ L1, x < 40) (h0 : (s0 = 1 ∧ L1.length = L2.length) ∨ (s0 = 0 ∧ L1.length ≠ L2.length)) :
    lfix (b_X6_alike_108 fu mL sh rz MR mk mp) fu (s0, (0 : Int32), m, r, w, g, o) = some (bI (L1 = L2), (m, r, w, g, o)) := by
  refine lf (b_X6_alike_108 fu mL sh rz MR mk mp) (fun i x => x.2.1 = nI i ∧ x.2.2 = (m, r, w, g, o) ∧ ((x.1 = 1 ∧ L1.length = L2.length ∧ ∀ j, j < i → L1[j]? = L2[j]?) ∨ (x.1 = 0 ∧ L1 ≠ L2))) L2.length (fun z => z = some (bI (L1 = L2), (m, r, w, g, o))) ?_ ?_ fu 0 _ (Nat.zero_le _) (by omega) ⟨rfl, rfl, ?_⟩
  · rintro i ⟨x1, x2, x3⟩ k hi ⟨e1, e2, e3⟩
    dsimp only at e1 e2 e3
    subst e1 e2
    unfold b_X6_alike_108 b_X6_alike_144 b_X6_alike_152 b_X6_alike_162
    dsimp only
    rw [if_neg (by rw [c2]; exact nI_ge hi (by omega))]
    rcases e3 with ⟨rfl, e4, e5⟩ | ⟨rfl, e4⟩
    · have hi1 : i < L1.length := by omega
      have g1 := List.getElem?_eq_getElem hi1
      have g2 := List.getElem?_eq_getElem hi
      have u1 := s1 _ (List.getElem_mem hi1)
      have u2 := s2 _ (List.getElem_mem hi)
      rw [if_neg n10, gd_t (inb_n (by omega) (by decide)), gd_t (inb_n (by omega) (by decide)), nI_clamp (by omega), nI_1]
      left
      by_cases e : L1[i] = L2[i]
      · rw [if_pos (by rw [b2 i _ g2, b1 i _ g1, e])]
        refine ⟨(1, nI (i + 1), m, r, w, g, o), ⟨rfl, rfl, Or.inl ⟨rfl, e4, fun j hj => ?_⟩⟩, rfl⟩
        rcases Nat.lt_or_ge j i with q | q
        · exact e5 j q
        · have : j = i := by omega
          subst this
          rw [g1, g2, e]
      · rw [if_neg (fun q => by rw [b2 i _ g2, b1 i _ g1] at q; exact e ((nI_eq (by omega) (by omega)).mp q).symm)]
        exact ⟨(0, nI (i + 1), m, r, w, g, o), ⟨rfl, rfl, Or.inr ⟨rfl, fun q => e (by subst q; rfl)⟩⟩, rfl⟩
    · right
      rw [if_pos p00, if_pos p00, bI_f e4]
  · rintro ⟨x1, x2, x3⟩ k ⟨e1, e2, e3⟩
    dsimp only at e1 e2 e3
    subst e1 e2
    unfold b_X6_alike_108 b_X6_alike_152 b_X6_alike_162
    dsimp only
    rw [if_pos (by rw [c2]; exact nI_le (Nat.le_refl _) (by omega))]
    rcases e3 with ⟨rfl, e4, e5⟩ | ⟨rfl, e4⟩
    · rw [if_neg n10, bI_t (List.ext_getElem? (fun j => by
        rcases Nat.lt_or_ge j L2.length with q | q
        · exact e5 j q
        · rw [List.getElem?_eq_none q, List.getElem?_eq_none (by omega)]))]
    · rw [if_pos p00, bI_f e4]
  · rcases h0 with ⟨a, b⟩ | ⟨a, b⟩
    · exact Or.inl ⟨a, b, fun j hj => absurd hj (Nat.not_lt_zero _)⟩
    · exact Or.inr ⟨a, fun e => b (by rw [e])⟩
theorem s_shout {fu d r y w q n : Nat} {ks as ps : Nat → Nat} {t now nk na np m mk mb mp tr th f g mw h : Nat → Int32} {mL : Nat → Int64} {l : List Nat} {v : Nat} (hfu : 5000 ≤ fu) (hS : RS d r y w q n ks as ps now nk na np m mk mb mp) (W : WD f g l) (W2 : WM m mw l) (hv : v < 8) :
    ∃ c now' tr' th' m' h', m_X5_shoutInTruth fu t now nk np tr th f g (nI v) = some (c, (now', tr', th')) ∧ m_X6_shouts fu m mL mk mp mw h (nI v) = some (c, (m', h')) ∧ RS d r y w q n ks as ps now' nk na np m' mk mb mp ∧ (∀ j, j ≠ 14 → j ≠ 15 → j ≠ 33 → m' j = m j) := by
  obtain ⟨t', e1, e2, -⟩ := s_standsFor (fu := fu) (t := tr) (v := v) hS hv
  have e3 := s_MT (m' := m) (v := v) hS (fun _ _ => rfl) hv
  obtain ⟨t2, h2', e4, e5⟩ := s_weighs (fu := fu) (h := th) hfu e2 W
  obtain ⟨m2, mh, e6, e7⟩ := s_weighedOf (fu := fu) (mL := mL) (h := h) hfu e3 W2
  obtain ⟨a1, a2, a3, a4, a5, a6, a7, a8⟩ := id hS
  have hS2 : RS d r y w q n ks as ps now nk na np m2 mk mb mp := hS.cong (fun _ _ => rfl) (fun j h1 h2 => e7 j (by omega)) (e7 20 (by decide)) (fun _ _ => ⟨⟨rfl, rfl, rfl⟩, rfl, rfl, rfl⟩)
  obtain ⟨b1, b2, b3, b4, b5, b6, b7, b8⟩ := id hS2
  unfold m_X5_shoutInTruth m_X6_shouts b_X5_shoutInTruth_58 b_X6_shouts_21 b_X6_shouts_40
  rw [e1, Option.bind_some, e4, e6, Option.bind_some, Option.bind_some]
  dsimp only
  by_cases c : wg (ks v) (pt (ks v) (ps v) y) d w q l = 1
  · rw [if_pos c, if_pos c, if_pos c]
    refine ⟨_, _, _, _, _, _, rfl, rfl, ⟨b1, b2, b3, b4, b5, ⟨?_, ?_, b6.2.2⟩, b7, b8⟩, fun j h1 h2 h3 => ?_⟩
    · show now 5 + 1 = m2 14 + 1
      rw [b6.1]
    · show now 6 = m2 15 + 0
      rw [b6.2.1, Int32.add_zero]
    · rw [pk_un h2, pk_un h1]; exact e7 j h3
  · rw [if_neg c, if_neg c, if_neg c]
    refine ⟨_, _, _, _, _, _, rfl, rfl, ⟨b1, b2, b3, b4, b5, ⟨?_, ?_, b6.2.2⟩, b7, b8⟩, fun j h1 h2 h3 => ?_⟩
    · show now 5 = m2 14 + 0
      rw [b6.1, Int32.add_zero]
    · show now 6 + 1 = m2 15 + 1
      rw [b6.2.1]
    · rw [pk_un h2, pk_un h1]; exact e7 j h3
theorem x_draw {x : Int32} {b : Nat} (h0 : 0 < b) (hb : b < 2 ^ 31) : ∃ z, z < b ∧ ((x.toUInt32 >>> ((16 : Int32).toUInt32 &&& Int32.toUInt32 31)).toInt32) - ((x.toUInt32 >>> ((16 : Int32).toUInt32 &&& Int32.toUInt32 31)).toInt32) / nI b * nI b = nI z := by
  have hx : x = nI x.toBitVec.toNat := by
    apply Int32.toBitVec_inj.mp
    apply BitVec.eq_of_toNat_eq
    rw [pk_tn x.toBitVec.isLt]
  have hlt := x.toBitVec.isLt
  generalize x.toBitVec.toNat = N at hx hlt
  subst hx
  rw [pk_ushrN hlt 16 16 (by decide)]
  exact ⟨N / 2 ^ 16 % b, Nat.mod_lt _ h0, pk_rem (by omega) h0 hb⟩
theorem s_draw {fu b : Nat} {now m : Nat → Int32} {mL : Nat → Int64} (h0 : 0 < b) (hb : b < 2 ^ 31) (e : now 7 = m 20) : ∃ z sd, z < b ∧ m_X1_draw fu now (nI b) = some (nI z, upd now 7 sd) ∧ m_X6_draw fu m mL (nI b) = some (nI z, upd m 20 sd) := by
  obtain ⟨z, h1, h2⟩ := x_draw (x := (now 7 * (1103515245 : Int32)) + (12345 : Int32)) h0 hb
  refine ⟨z, (now 7 * (1103515245 : Int32)) + (12345 : Int32), h1, ?_, ?_⟩
  · unfold m_X1_draw b_X1_draw_32
    rw [if_neg (nI_nle h0 hb), gd_t (nI_ne0 h0 hb), h2]
  · unfold m_X6_draw
    rw [gd_t (nI_ne0 h0 hb), ← e, h2]
def itd (r d : Nat) : Nat → Nat
  | 0 => d
  | t + 1 => dn (itd r d t) r
def ity (y : Nat) : Nat → Nat
  | 0 => y
  | t + 1 => dy (ity y t)
theorem s_passDays {fu n k p d r y w q : Nat} {t : Nat → Int32} (hfu : 5000 ≤ fu) (hn : n ≤ 1000) (h : TR t k p d r y w q) : ∃ t', m_X3_passDays fu t (nI n) = some t' ∧ TR t' k p (itd r d n) r (ity y n) w q := by
  unfold m_X3_passDays
  refine lf (b_X3_passDays_2 fu) (fun i x => x.1 = nI n ∧ x.2.1 = nI i ∧ TR x.2.2 k p (itd r d i) r (ity y i) w q) n (fun o => ∃ t', o = some t' ∧ TR t' k p (itd r d n) r (ity y n) w q) ?_ ?_ fu 0 _ (Nat.zero_le _) (by omega) ⟨rfl, rfl, h⟩
  · rintro i ⟨x1, x2, x3⟩ k hi ⟨e1, e2, e3⟩
    dsimp only at e1 e2 e3
    subst e1 e2
    obtain ⟨t', g1, g2⟩ := e3.pass (fu := fu)
    left
    unfold b_X3_passDays_2
    dsimp only
    rw [if_neg (nI_ge hi (by omega)), g1, Option.bind_some, nI_1]
    exact ⟨(nI n, nI (i + 1), t'), ⟨rfl, rfl, g2⟩, rfl⟩
  · rintro ⟨x1, x2, x3⟩ k ⟨e1, e2, e3⟩
    dsimp only at e1 e2 e3
    subst e1 e2
    unfold b_X3_passDays_2
    dsimp only
    rw [if_pos (nI_le (Nat.le_refl _) (by omega))]
    exact ⟨x3, rfl, e3⟩
def ff (P : Nat → Bool) : Nat → Nat → Int32
  | 0, _ => -1
  | n + 1, i => if P i then nI i else ff P n (i + 1)
theorem ff_t {P : Nat → Bool} {n i : Nat} (h : P i = true) : ff P (n + 1) i = nI i := if_pos h
theorem ff_f {P : Nat → Bool} {n i : Nat} (h : ¬ P i = true) : ff P (n + 1) i = ff P n (i + 1) := if_neg h

theorem R_25 (fu : Nat) (C : Nat → Nat → Int32) (E : Nat → Int64) (M : Nat → Nat → Int32) (ML : Nat → Int64) (MR : Nat → Nat → Int64) (MV : Nat → Int64) (MY : Nat → Nat → Int32) (h : Rel fu C E M ML MR MV MY) (v1 : Int32) (v2 : Int32) (v3 : Int32) : ∃ (oX : Int32 × ((Nat → Int32) × (Nat → Int32) × (Nat → Int32) × (Nat → Int32) × (Nat → Int32) × (Nat → Int32) × (Nat → Int32))) (oM : Int32 × ((Nat → Int32) × (Nat → Int32) × (Nat → Int32) × (Nat → Int32))), m_X5_ends fu (C 0) (C 1) (C 2) (C 4) (C 14) (C 15) E (C 19) (C 20) (C 21) (C 24) (C 25) (C 26) (C 27) v1 v2 v3 = some oX ∧ m_X6_ends fu (M 0) ML (M 1) (M 3) MR (M 16) (M 17) (M 19) (M 21) (M 22) v1 v2 v3 = some oM ∧ oX.1 = oM.1 ∧ Rel fu (upC (upC (upC (upC (upC (upC (upC C 19 oX.2.1) 20 oX.2.2.1) 21 oX.2.2.2.1) 24 oX.2.2.2.2.1) 25 oX.2.2.2.2.2.1) 26 oX.2.2.2.2.2.2.1) 27 oX.2.2.2.2.2.2.2) E (upC (upC (upC (upC M 0 oM.2.1) 16 oM.2.2.1) 21 oM.2.2.2.1) 22 oM.2.2.2.2) ML MR MV MY := by
  obtain ⟨hf, ⟨d, r, y, w, q, n, ks, as, ps, hS, hH⟩, hT, hr⟩ := id h
  obtain ⟨hn1, hn2, hn8⟩ := hS.2.2.2.2.2.2.1
  unfold m_X5_ends m_X6_ends b_X5_ends_21 b_X5_ends_22
  simp only [s_isVoice, s_mVoice, Option.bind_some, hn1, hn2]
  have fin : ∀ ok may : Int32, (0 ≤ v2 ∧ v2 ≤ 12 → (¬ ok = 0 ↔ (v2 ≤ 11 ∧ ¬ may = 0))) → ok = 0 → ∃ c r1 t1 s1 m1 r1' w1, m_X5_takeWord fu (C 0) (C 14) (C 15) E (C 19) (C 24) (C 25) v1 v2 ok = some (c, (r1, t1, s1)) ∧ m_X6_noWord fu (M 0) ML (M 1) (M 3) MR (M 16) (M 21) v1 v2 11 may = some (c, (m1, r1', w1)) ∧ (∀ j, j ≠ 31 → m1 j = M 0 j) ∧ RR r1 r1' ∧ ¬ c = 0 := by
    intro ok may hok h0
    obtain ⟨c, r1, t1, s1, m1, r1', w1, h1, h2, h3, h4, h5⟩ := R_word h hS hH v1 v2 ok 11 may hok (by decide)
    rcases h5 with c0 | ⟨-, o, -⟩
    · exact ⟨c, r1, t1, s1, m1, r1', w1, h1, h2, h3, h4, c0⟩
    · exact absurd h0 o
  by_cases c1 : 0 ≤ v3 ∧ v3 ≤ nI n - 1
  · rw [bI_t c1, if_neg n10]
    obtain ⟨v, hv, rfl⟩ := v_ok hn8 c1
    have hv8 : v < 8 := by omega
    by_cases c2 : 12 ≤ v2
    · rw [if_pos c2]
      obtain ⟨c, r1, t1, s1, m1, r1', w1, h1, h2, h3, h4, c0⟩ := fin 0 1 (fun e => ⟨fun q => absurd rfl q, fun q => by
        have := q.1
        rw [i_le] at this c2
        have e1 : (12 : Int32).toInt = 12 := by decide
        have e2 : (11 : Int32).toInt = 11 := by decide
        omega⟩) rfl
      rw [h1, h2, Option.bind_some, Option.bind_some]
      dsimp only
      rw [if_neg c0, if_neg c0]
      exact ⟨_, _, rfl, rfl, rfl, h.go rfl rfl rfl rfl rfl rfl rfl rfl rfl (m21 h3) rfl rfl rfl rfl rfl rfl rfl rfl (h4)⟩
    · rw [if_neg c2]
      have hv11 : v2 ≤ 11 := by
        rw [i_le] at c2 ⊢
        have e1 : (12 : Int32).toInt = 12 := by decide
        have e2 : (11 : Int32).toInt = 11 := by decide
        omega
      obtain ⟨c, r1, t1, s1, m1, r1', w1, h1, h2, h3, h4, h5⟩ := R_word h hS hH v1 v2 1 11 1 (fun e => ⟨fun q => ⟨hv11, q⟩, fun q => q.2⟩) (by decide)
      rw [h1, h2, Option.bind_some, Option.bind_some]
      dsimp only
      rcases h5 with c0 | ⟨c0, ok, s', l, g1, g2, g3, g4, g5, g6⟩
      · rw [if_neg c0, if_neg c0]
        exact ⟨_, _, rfl, rfl, rfl, h.go rfl rfl rfl rfl rfl rfl rfl rfl rfl (m21 h3) rfl rfl rfl rfl rfl rfl rfl rfl (h4)⟩
      rw [if_pos c0, if_pos c0]
      subst g3
      have hl12 := g4.2.1
      have hl11 : l.length ≤ 11 := (nI_le_iff (b := 11) (by omega) (by decide)).mp hv11
      obtain ⟨t', e1, e2, -⟩ := s_standsFor (fu := fu) (t := C 20) (v := v) hS (by omega)
      have e3 := s_MT (m' := upd m1 31 (nI l.length + 1)) (v := v) hS (fun j hj => (pk_un (by omega)).trans (h3 j (by omega))) (by omega)
      rw [e1, Option.bind_some]
      obtain ⟨a, b, f1, f2, f3, f4, f5, f6⟩ := lf2 (b_X5_ends_50 fu (C 0) (C 1) (C 2) (C 4) (C 14) (C 15) E) (b_X6_ends_33 fu ML (M 1) (M 3) MR (M 17) (M 19)) (fun i x x' => x.1 = nI i ∧ x.2.1 = r1 ∧ x.2.2.2.2.1 = t1 ∧ x.2.2.2.2.2.1 = s1 ∧ x'.1 = nI l.length ∧ x'.2.1 = nI v ∧ x'.2.2.1 = nI i ∧ x'.2.2.2.2.1 = r1' ∧ TR x.2.2.1 (ks v) (ps v) d r y w q ∧ SM (upd m1 31 (nI l.length + 1)) x'.2.2.2.1 ∧ Bf x'.2.2.2.2.2.1 l) 40 (fun o o' => ∃ a b, o = some a ∧ o' = some b ∧ a.1 = b.1 ∧ a.2.1 = r1 ∧ b.2.2.1 = r1' ∧ SM (upd m1 31 (nI l.length + 1)) b.2.1)
        (by
          rintro i ⟨x1, x2, x3, x4, x5, x6, x7, x8⟩ ⟨y1, y2, y3, y4, y5, y6, y7⟩ k k' hi ⟨u1, u2, u3, u4, u5, u6, u7, u8, u9, u10, u11⟩
          dsimp only at u1 u2 u3 u4 u5 u6 u7 u8 u9 u10 u11
          subst u1 u2 u3 u4 u5 u6 u7 u8
          obtain ⟨ta, ga, a1, a2, a3⟩ := s_takes (fu := fu) (t := x7) (g := x8) (b := l.length) (but := -1) hf g4 (fun j hj => ⟨fun e => absurd e (nI_nm1 (by omega)), fun e => by omega⟩)
          rw [List.eraseIdx_of_length_le (Nat.le_refl _)] at a2 a3
          obtain ⟨tb, gb, a4, a5, a6⟩ := s_add (fu := fu) (x := i) a2 (by omega) a3
          have hm : ∀ x ∈ l ++ [i], x < 40 := fun x hx => by
            rcases List.mem_append.mp hx with q | q
            · exact g4.2.2.2 x q
            · rw [List.mem_singleton.mp q]; exact hi
          have hll : (l ++ [i]).length ≤ 12 := by simp only [List.length_append, List.length_cons, List.length_nil]; omega
          obtain ⟨t2, h2', e4, e5⟩ := s_weighs (fu := fu) (h := x4) hf u9 (l := l ++ [i]) ⟨a5, hll, a6, hm⟩
          have hb2 : Bf (upd y6 l.length (nI i)) (l ++ [i]) := Bf_push u11
          have h31 : y4 31 = nI (l ++ [i]).length := by
            rw [u10 31 (by decide), pk_us, nI_1]; simp
          obtain ⟨m2, mh, e6, e7⟩ := s_gets (fu := fu) (mL := ML) (h := y7) hf (e3.sm u10) (l := l ++ [i]) ⟨h31, hll, hb2, hm⟩
          unfold b_X5_ends_50 b_X6_ends_33
          dsimp only
          rw [if_neg (show ¬ (40 : Int32) ≤ nI i from nI_ge (b := 40) hi (by decide)), if_neg (show ¬ (40 : Int32) ≤ nI i from nI_ge (b := 40) hi (by decide)), a1, Option.bind_some]
          dsimp only
          rw [a4, Option.bind_some]
          dsimp only
          rw [e4, Option.bind_some]
          rw [gd_t (inb_n (by omega) (by decide)), nI_clamp (by omega), e6, Option.bind_some]
          dsimp only
          by_cases c : wg (ks v) (pt (ks v) (ps v) y) d w q (l ++ [i]) = 1
          · rw [if_pos c, bI_t c, if_neg n10]
            exact Or.inr ⟨_, _, rfl, rfl, rfl, rfl, rfl, u10.tr e7⟩
          · rw [if_neg c, bI_f c, if_pos p00, nI_1 i]
            exact Or.inl ⟨(nI (i + 1), x2, t2, h2', x5, x6, tb, gb), (nI l.length, nI v, nI (i + 1), m2, y5, upd y6 l.length (nI i), mh), ⟨rfl, rfl, rfl, rfl, rfl, rfl, rfl, rfl, u9.sb e5, u10.tr e7, Bf_cong u11 (fun j hj => pk_un (by omega))⟩, rfl, rfl⟩)
        (by
          rintro ⟨x1, x2, x3, x4, x5, x6, x7, x8⟩ ⟨y1, y2, y3, y4, y5, y6, y7⟩ k k' ⟨u1, u2, u3, u4, u5, u6, u7, u8, u9, u10, u11⟩
          dsimp only at u1 u2 u3 u4 u5 u6 u7 u8 u9 u10 u11
          subst u1 u2 u3 u4 u5 u6 u7 u8
          unfold b_X5_ends_50 b_X6_ends_33
          dsimp only
          rw [if_pos (show (40 : Int32) ≤ nI 40 by decide), if_pos (show (40 : Int32) ≤ nI 40 by decide)]
          exact ⟨_, _, rfl, rfl, rfl, rfl, rfl, u10⟩) fu 0 ((0 : Int32), r1, t', C 21, t1, s1, C 26, C 27) (nI l.length, nI v, (0 : Int32), upd m1 31 (nI l.length + 1), r1', w1, M 22) (Nat.zero_le _) (by omega) ⟨rfl, rfl, rfl, rfl, rfl, rfl, rfl, rfl, e2, SM.rf, g5.2.2.1⟩
      exact ⟨a, b, f1, f2, f3, h.go rfl rfl rfl rfl rfl rfl rfl rfl rfl (fun j hj => (f6 j (by omega)).trans ((pk_un (by omega)).trans (h3 j (by omega)))) rfl rfl rfl rfl rfl rfl rfl rfl (by show RR a.2.1 b.2.2.1; rw [f4, f5]; exact h4)⟩
  · rw [bI_f c1, if_pos p00]
    obtain ⟨c, r1, t1, s1, m1, r1', w1, h1, h2, h3, h4, c0⟩ := fin 0 0 (fun e => ⟨fun q => absurd rfl q, fun q => absurd rfl q.2⟩) rfl
    rw [h1, h2, Option.bind_some, Option.bind_some]
    dsimp only
    rw [if_neg c0, if_neg c0]
    exact ⟨_, _, rfl, rfl, rfl, h.go rfl rfl rfl rfl rfl rfl rfl rfl rfl (m21 h3) rfl rfl rfl rfl rfl rfl rfl rfl (h4)⟩

theorem R_47 (fu : Nat) (C : Nat → Nat → Int32) (E : Nat → Int64) (M : Nat → Nat → Int32) (ML : Nat → Int64) (MR : Nat → Nat → Int64) (MV : Nat → Int64) (MY : Nat → Nat → Int32) (h : Rel fu C E M ML MR MV MY) (v1 : Int32) (v2 : Int32) (v3 : Int32) : ∃ (oX : Int32 × ((Nat → Int32) × (Nat → Int32) × (Nat → Int32) × (Nat → Int32) × (Nat → Int32) × (Nat → Int32))) (oM : Int32 × ((Nat → Int32) × (Nat → Int32) × (Nat → Int32) × (Nat → Int32))), m_X5_shout fu (C 0) (C 1) (C 2) (C 4) (C 14) (C 15) E (C 19) (C 20) (C 21) (C 24) (C 25) v1 v2 v3 = some oX ∧ m_X6_shout fu (M 0) ML (M 1) (M 3) MR (M 16) (M 17) (M 19) (M 21) (M 22) v1 v2 v3 = some oM ∧ oX.1 = oM.1 ∧ Rel fu (upC (upC (upC (upC (upC (upC C 1 oX.2.1) 19 oX.2.2.1) 20 oX.2.2.2.1) 21 oX.2.2.2.2.1) 24 oX.2.2.2.2.2.1) 25 oX.2.2.2.2.2.2) E (upC (upC (upC (upC M 0 oM.2.1) 16 oM.2.2.1) 21 oM.2.2.2.1) 22 oM.2.2.2.2) ML MR MV MY := by
  obtain ⟨hf, ⟨d, r, y, w, q, n, ks, as, ps, hS, hH⟩, hT, hr⟩ := id h
  obtain ⟨hn1, hn2, hn8⟩ := hS.2.2.2.2.2.2.1
  unfold m_X5_shout m_X6_shout b_X6_shout_30
  simp only [s_isVoice, s_mVoice, Option.bind_some, hn1, hn2]
  by_cases c1 : 0 ≤ v3 ∧ v3 ≤ nI n - 1
  · rw [bI_t c1]
    obtain ⟨v, hv, rfl⟩ := v_ok hn8 c1
    have hv8 : v < 8 := by omega
    obtain ⟨c, r1, t1, s1, m1, r1', w1, h1, h2, h3, h4, h5⟩ := R_word h hS hH v1 v2 1 12 1 (fun e => ⟨fun q => ⟨e.2, q⟩, fun q => q.2⟩) (by decide)
    rw [h1, h2, Option.bind_some, Option.bind_some]
    dsimp only
    rcases h5 with c0 | ⟨c0, ok, s', l, g1, g2, g3, g4, g5, g6⟩
    · rw [if_neg c0, if_neg c0]
      exact ⟨_, _, rfl, rfl, rfl, h.go rfl rfl rfl rfl rfl rfl rfl rfl rfl (m21 h3) rfl rfl rfl rfl rfl rfl rfl rfl h4⟩
    rw [if_pos c0, if_pos c0]
    have hS1 : RS d r y w q n ks as ps (C 1) (C 2) (C 3) (C 4) m1 (M 17) (M 18) (M 19) := hS.cong (fun _ _ => rfl) (fun j h1 h2 => h3 j (by omega)) (h3 20 (by decide)) (fun _ _ => ⟨⟨rfl, rfl, rfl⟩, rfl, rfl, rfl⟩)
    obtain ⟨x, now', tr', th', m', h', b1, b2, b3, b4⟩ := s_shout (fu := fu) (t := C 0) (tr := C 20) (th := C 21) (h := M 22) (mL := ML) hf hS1 g4 g5 hv8
    rw [b1, b2, Option.bind_some, Option.bind_some]
    refine ⟨_, _, rfl, rfl, rfl, hf, ⟨d, r, y, w, q, n, ks, as, ps, b3, hH⟩, ?_, h4⟩
    obtain ⟨z, z1, z2, z3, z4⟩ := hT
    exact ⟨z, z1, z2, ((b4 7 (by decide) (by decide) (by decide)).trans (h3 7 (by decide))).trans z3, z4⟩
  · rw [bI_f c1]
    obtain ⟨c, r1, t1, s1, m1, r1', w1, h1, h2, h3, h4, h5⟩ := R_word h hS hH v1 v2 0 12 0 (fun e => ⟨fun q => absurd rfl q, fun q => absurd rfl q.2⟩) (by decide)
    rw [h1, h2, Option.bind_some, Option.bind_some]
    dsimp only
    rcases h5 with c0 | ⟨c0, ok, -⟩
    · rw [if_neg c0, if_neg c0]
      exact ⟨_, _, rfl, rfl, rfl, h.go rfl rfl rfl rfl rfl rfl rfl rfl rfl (m21 h3) rfl rfl rfl rfl rfl rfl rfl rfl h4⟩
    · exact absurd rfl ok

theorem R_49 (fu : Nat) (C : Nat → Nat → Int32) (E : Nat → Int64) (M : Nat → Nat → Int32) (ML : Nat → Int64) (MR : Nat → Nat → Int64) (MV : Nat → Int64) (MY : Nat → Nat → Int32) (h : Rel fu C E M ML MR MV MY) (v1 : Int32) (v2 : Int32) (v3 : Int32) : ∃ (oX : Int32 × ((Nat → Int32) × (Nat → Int32) × (Nat → Int32) × (Nat → Int32) × (Nat → Int32) × (Nat → Int32))) (oM : Int32 × ((Nat → Int32) × (Nat → Int32) × (Nat → Int32) × (Nat → Int32))), m_X5_drawn fu (C 0) (C 1) (C 2) (C 4) (C 14) (C 15) E (C 19) (C 20) (C 21) (C 24) (C 25) v1 v2 v3 = some oX ∧ m_X6_drawn fu (M 0) ML (M 1) (M 3) MR (M 16) (M 17) (M 19) (M 21) (M 22) v1 v2 v3 = some oM ∧ oX.1 = oM.1 ∧ Rel fu (upC (upC (upC (upC (upC (upC C 1 oX.2.1) 19 oX.2.2.1) 20 oX.2.2.2.1) 21 oX.2.2.2.2.1) 24 oX.2.2.2.2.2.1) 25 oX.2.2.2.2.2.2) E (upC (upC (upC (upC M 0 oM.2.1) 16 oM.2.2.1) 21 oM.2.2.2.1) 22 oM.2.2.2.2) ML MR MV MY := by
  obtain ⟨hf, ⟨d, r, y, w, q, n, ks, as, ps, hS, hH⟩, hT, hr⟩ := id h
  obtain ⟨hn1, hn2, hn8⟩ := hS.2.2.2.2.2.2.1
  unfold m_X5_drawn m_X6_drawn
  simp only [s_isWithin, s_i (x := v3) (A := 1) (B := 40) (a := 1) (b := 40) rfl rfl, Option.bind_some, hn1]
  by_cases c1 : 1 ≤ v3 ∧ v3 ≤ 40
  · obtain ⟨e, he, rfl⟩ := i_rng (m := 40) (by decide) ⟨i_tr (by decide) c1.1, c1.2⟩
    rw [bI_t c1]
    obtain ⟨c, r1, t1, s1, m1, r1', w1, h1, h2, h3, h4, h5⟩ := R_word h hS hH v1 v2 1 12 1 (fun e => ⟨fun q => ⟨e.2, q⟩, fun q => q.2⟩) (by decide)
    rw [h1, h2, Option.bind_some, Option.bind_some]
    dsimp only
    rcases h5 with c0 | ⟨c0, ok, s', l, g1, g2, g3, g4, g5, g6⟩
    · rw [if_neg c0, if_neg c0]
      exact ⟨_, _, rfl, rfl, rfl, h.go rfl rfl rfl rfl rfl rfl rfl rfl rfl (m21 h3) rfl rfl rfl rfl rfl rfl rfl rfl h4⟩
    rw [if_pos c0, if_pos c0]
    obtain ⟨z, z1, z2, z3, z4⟩ := id hT
    have hm16 : m1 16 = nI n := (h3 16 (by decide)).trans hn2
    by_cases hn0 : n = 0
    · rw [if_pos (show nI n = 0 by rw [hn0]; rfl), if_pos (show m1 16 = 0 by rw [hm16, hn0]; rfl), (s_ref fu _ _).2.1, (s_mref fu _ _ _).2.1, Option.bind_some, Option.bind_some]
      exact ⟨_, _, rfl, rfl, rfl, h.go rfl rfl rfl rfl rfl rfl rfl rfl rfl (m21 h3) rfl rfl rfl rfl rfl rfl rfl rfl (h4.r5)⟩
    rw [if_neg (show ¬ nI n = 0 from nI_ne0 (by omega) (by omega)), if_neg (show ¬ m1 16 = 0 by rw [hm16]; exact nI_ne0 (by omega) (by omega))]
    have hS1 : RS d r y w q n ks as ps (C 1) (C 2) (C 3) (C 4) m1 (M 17) (M 18) (M 19) := hS.cong (fun _ _ => rfl) (fun j h1 h2 => h3 j (by omega)) (h3 20 (by decide)) (fun _ _ => ⟨⟨rfl, rfl, rfl⟩, rfl, rfl, rfl⟩)
    obtain ⟨a, b, f1, f2, f3, f4, f5, f6, dd, rr, yy, f7⟩ := lf2 (b_X5_drawn_46 fu (C 0) (C 2) (C 4) (C 14) (C 15) E) (b_X6_drawn_47 fu ML (M 1) (M 3) MR (M 17) (M 19)) (fun i x x' => x.1 = nI e ∧ x.2.1 = x'.2.1 ∧ x.2.2.1 = nI i ∧ x.2.2.2.2.1 = r1 ∧ x.2.2.2.2.2.2.2.1 = t1 ∧ x.2.2.2.2.2.2.2.2 = s1 ∧ x'.1 = nI e ∧ x'.2.2.1 = nI i ∧ x'.2.2.2.2.1 = r1' ∧ x'.2.2.2.2.2.1 = w1 ∧ x'.2.2.2.1 7 = M 0 7 ∧ x'.2.2.2.1 31 = m1 31 ∧ ∃ dd rr yy, RS dd rr yy w q n ks as ps x.2.2.2.1 (C 2) (C 3) (C 4) x'.2.2.2.1 (M 17) (M 18) (M 19)) e (fun o o' => ∃ a b, o = some a ∧ o' = some b ∧ a.1 = b.1 ∧ a.2.2.1 = r1 ∧ b.2.2.1 = r1' ∧ b.2.1 7 = M 0 7 ∧ ∃ dd rr yy, RS dd rr yy w q n ks as ps a.2.1 (C 2) (C 3) (C 4) b.2.1 (M 17) (M 18) (M 19))
      (by
        rintro i ⟨x1, x2, x3, x4, x5, x6, x7, x8, x9⟩ ⟨y1, y2, y3, y4, y5, y6, y7⟩ k k' hi ⟨u1, u2, u3, u4, u5, u6, u7, u8, u9, u10, u11, u12, dd, rr, yy, u13⟩
        dsimp only at u1 u2 u3 u4 u5 u6 u7 u8 u9 u10 u11 u12 u13
        subst u1 u2 u3 u4 u5 u6 u7 u8 u9 u10
        obtain ⟨za, sa, a1, a2, a3⟩ := s_draw (fu := fu) (b := 10) (mL := ML) (by decide) (by decide) u13.2.2.2.2.2.1.2.2
        have S2 : RS dd za yy w q n ks as ps (upd (upd x4 7 sa) 1 (nI za)) (C 2) (C 3) (C 4) (upd (upd y4 20 sa) 10 (nI za)) (M 17) (M 18) (M 19) := by
          obtain ⟨p1, p2, p3, p4, p5, p6, p7, p8⟩ := u13
          exact ⟨p1, ⟨rfl, rfl, by omega⟩, p3, p4, p5, ⟨p6.1, p6.2.1, rfl⟩, p7, p8⟩
        obtain ⟨zb, sb, a4, a5, a6⟩ := s_draw (fu := fu) (b := n) (mL := ML) (by omega) (by omega) S2.2.2.2.2.2.1.2.2
        have S3 : RS dd za yy w q n ks as ps (upd (upd (upd x4 7 sa) 1 (nI za)) 7 sb) (C 2) (C 3) (C 4) (upd (upd (upd y4 20 sa) 10 (nI za)) 20 sb) (M 17) (M 18) (M 19) := by
          obtain ⟨p1, p2, p3, p4, p5, p6, p7, p8⟩ := S2
          exact ⟨p1, p2, p3, p4, p5, ⟨p6.1, p6.2.1, rfl⟩, p7, p8⟩
        have W3 : WM (upd (upd (upd y4 20 sa) 10 (nI za)) 20 sb) y6 l := ⟨(show y4 31 = _ from u12.trans g5.1), g5.2⟩
        obtain ⟨x, now', tr', th', m', h', b1, b2, b3, b4⟩ := s_shout (fu := fu) (t := C 0) (tr := x6) (th := x7) (h := y7) (mL := ML) hf S3 g4 W3 (v := zb) (by omega)
        obtain ⟨now2, m2, p1, p2, p3, p4⟩ := b3.pass (fu := fu) ML
        left
        unfold b_X5_drawn_46 b_X6_drawn_47 b_X5_drawn_93 b_X6_drawn_86
        dsimp only
        rw [if_neg (nI_ge hi (by omega)), if_neg (nI_ge hi (by omega)), show (10 : Int32) = nI 10 from rfl, a2, a3, Option.bind_some, Option.bind_some]
        dsimp only
        rw [show upd x4 7 sa 8 = nI n from (pk_un (by decide)).trans u13.2.2.2.2.2.2.1.1, show upd y4 20 sa 16 = nI n from (pk_un (by decide)).trans u13.2.2.2.2.2.2.1.2.1, a5, a6, Option.bind_some, Option.bind_some]
        dsimp only
        rw [b1, b2, Option.bind_some, Option.bind_some, nI_1]
        dsimp only
        have q7 : m2 7 = M 0 7 := ((p4 7 (by decide) (by decide)).trans (b4 7 (by decide) (by decide) (by decide))).trans u11
        have q31 : m2 31 = m1 31 := ((p4 31 (by decide) (by decide)).trans (b4 31 (by decide) (by decide) (by decide))).trans u12
        by_cases c : x = 1
        · rw [if_pos c, if_pos c, p1, p2, Option.bind_some, Option.bind_some]
          exact ⟨(nI e, x2 + 1, nI (i + 1), now2, x5, tr', th', x8, x9), (nI e, x2 + 1, nI (i + 1), m2, y5, y6, h'), ⟨rfl, rfl, rfl, rfl, rfl, rfl, rfl, rfl, rfl, rfl, q7, q31, _, _, _, p3⟩, rfl, rfl⟩
        · rw [if_neg c, if_neg c, p1, p2, Option.bind_some, Option.bind_some, Int32.add_zero]
          exact ⟨(nI e, x2, nI (i + 1), now2, x5, tr', th', x8, x9), (nI e, x2, nI (i + 1), m2, y5, y6, h'), ⟨rfl, rfl, rfl, rfl, rfl, rfl, rfl, rfl, rfl, rfl, q7, q31, _, _, _, p3⟩, rfl, rfl⟩)
      (by
        rintro ⟨x1, x2, x3, x4, x5, x6, x7, x8, x9⟩ ⟨y1, y2, y3, y4, y5, y6, y7⟩ k k' ⟨u1, u2, u3, u4, u5, u6, u7, u8, u9, u10, u11, u12, dd, rr, yy, u13⟩
        dsimp only at u1 u2 u3 u4 u5 u6 u7 u8 u9 u10 u11 u12 u13
        subst u1 u2 u3 u4 u5 u6 u7 u8 u9 u10
        unfold b_X5_drawn_46 b_X6_drawn_47
        dsimp only
        rw [if_pos (nI_le (Nat.le_refl _) (by omega)), if_pos (nI_le (Nat.le_refl _) (by omega))]
        exact ⟨_, _, rfl, rfl, rfl, rfl, rfl, u11, _, _, _, u13⟩) fu 0 (nI e, (0 : Int32), (0 : Int32), C 1, r1, C 20, C 21, t1, s1) (nI e, (0 : Int32), (0 : Int32), m1, r1', w1, M 22) (Nat.zero_le _) (by omega) ⟨rfl, rfl, rfl, rfl, rfl, rfl, rfl, rfl, rfl, rfl, h3 7 (by decide), rfl, d, r, y, hS1⟩
    exact ⟨a, b, f1, f2, f3, hf, ⟨dd, rr, yy, w, q, n, ks, as, ps, f7, hH⟩, ⟨z, z1, z2, f6.trans z3, z4⟩, by show RR a.2.2.1 b.2.2.1; rw [f4, f5]; exact h4⟩
  · rw [bI_f c1]
    obtain ⟨c, r1, t1, s1, m1, r1', w1, h1, h2, h3, h4, h5⟩ := R_word h hS hH v1 v2 0 12 0 (fun e => ⟨fun q => absurd rfl q, fun q => absurd rfl q.2⟩) (by decide)
    rw [h1, h2, Option.bind_some, Option.bind_some]
    dsimp only
    rcases h5 with c0 | ⟨c0, ok, -⟩
    · rw [if_neg c0, if_neg c0]
      exact ⟨_, _, rfl, rfl, rfl, h.go rfl rfl rfl rfl rfl rfl rfl rfl rfl (m21 h3) rfl rfl rfl rfl rfl rfl rfl rfl h4⟩
    · exact absurd rfl ok
