-- PURE 5: the word is taken, on both sides
theorem i_0_7 {a : Int32} (h : 0 ≤ a ∧ a ≤ 7) : ∃ j : Nat, j < 8 ∧ a = nI j := by
  obtain ⟨j, h1, h2⟩ := nI_of2 (x := a) (M := 7) (n := 7) (by decide) (fun q => by rw [i_lt] at q; have := h.1; rw [i_le] at this; omega) h.2
  exact ⟨j, by omega, h2⟩
theorem i_rng {a : Int32} {m : Nat} (hm : m < 2 ^ 31) (h : 0 ≤ a ∧ a ≤ nI m) : ∃ j : Nat, j ≤ m ∧ a = nI j := by
  obtain ⟨j, h1, h2⟩ := nI_of2 (x := a) (M := nI m) (n := m) (nI_toInt hm) (fun q => by rw [i_lt] at q; have := h.1; rw [i_le] at this; omega) h.2
  exact ⟨j, h1, h2⟩
theorem nI_le_iff {a b : Nat} (ha : a < 2 ^ 31) (hb : b < 2 ^ 31) : nI a ≤ nI b ↔ a ≤ b := nI_leI ha hb
theorem s_holdingOf {fu : Nat} {hd : Nat → Int32} {s : Nat} (hs : s < 8) : m_X0_holdingOf fu hd (nI s) = some (hd s, ()) := by
  unfold m_X0_holdingOf b_X0_holdingOf_17
  rw [s_isShelf, Option.bind_some, bI_t (show (0 : Int32) ≤ nI s ∧ nI s ≤ (7 : Int32) from w_0n (m := 7) (by omega) (by decide)), if_neg (show ¬ ((1 : Int32), ()).1 = 0 by decide), gd_t (inb_n hs (by decide)), nI_clamp (by omega)]
theorem s_holdingOf_bad {fu : Nat} {hd : Nat → Int32} {s : Int32} (hs : ¬ (0 ≤ s ∧ s ≤ 7)) : m_X0_holdingOf fu hd s = some (-1, ()) := by
  unfold m_X0_holdingOf b_X0_holdingOf_17
  rw [s_isShelf, Option.bind_some, bI_f hs, if_pos rfl]
theorem s_isBare {fu : Nat} {hd : Nat → Int32} {s : Nat} (hs : s < 8) : m_X0_isBare fu hd (nI s) = some (bI (hd s = -1), ()) := by
  unfold m_X0_isBare b_X0_isBare_14
  rw [s_holdingOf hs, Option.bind_some]
  dsimp only
  by_cases c : hd s = -1
  · rw [if_pos c, gd_t (Or.inr rfl), bI_t c]
  · rw [if_neg c, gd_t (Or.inl rfl), bI_f c]
theorem s_hasVoice {fu : Nat} {hd : Nat → Int32} {s : Nat} (hs : s < 8) : m_X0_hasVoice fu hd (nI s) = some (bI (10 ≤ hd s), ()) := by
  unfold m_X0_hasVoice b_X0_hasVoice_15
  rw [s_holdingOf hs, Option.bind_some]
  dsimp only
  by_cases c : hd s < 10
  · rw [if_pos c, gd_t (Or.inl rfl), bI_f (fun e => by rw [i_lt] at c; rw [i_le] at e; omega)]
  · rw [if_neg c, gd_t (Or.inr rfl), bI_t (by rw [i_lt] at c; rw [i_le]; omega)]
theorem s_hasPlaces {fu : Nat} {sz : Nat → Int32} {s : Nat} {i n : Int32} (hs : s < 8) : m_X0_hasPlaces fu sz (nI s) i n = some (bI ((0 ≤ n ∧ n ≤ sz s) ∧ (0 ≤ i ∧ i ≤ sz s - n)), ()) := by
  unfold m_X0_hasPlaces b_X0_hasPlaces_41 b_X0_hasPlaces_42
  have hb : inb (nI s) 8 := inb_n hs (by decide)
  rw [s_isShelf, Option.bind_some, bI_t (show (0 : Int32) ≤ nI s ∧ nI s ≤ (7 : Int32) from w_0n (m := 7) (by omega) (by decide)), if_neg (show ¬ ((1 : Int32), ()).1 = 0 by decide), gd_t hb, gd_t hb, nI_clamp (by omega), s_isWithin, Option.bind_some, s_isWithin, Option.bind_some, gd_t (Or.inl rfl), gd_t (Or.inr rfl)]
  dsimp only
  by_cases c1 : 0 ≤ n ∧ n ≤ sz s
  · rw [bI_t c1, if_neg (by decide)]
    by_cases c2 : 0 ≤ i ∧ i ≤ sz s - n
    · rw [bI_t c2, if_neg (by decide), bI_t ⟨c1, c2⟩]
    · rw [bI_f c2, if_pos rfl, bI_f (fun e => c2 e.2)]
  · rw [bI_f c1, if_pos rfl, bI_f (fun e => c1 e.1)]
theorem s_hasPlaces_bad {fu : Nat} {sz : Nat → Int32} {s i n : Int32} (hs : ¬ (0 ≤ s ∧ s ≤ 7)) : m_X0_hasPlaces fu sz s i n = some (0, ()) := by
  unfold m_X0_hasPlaces b_X0_hasPlaces_41 b_X0_hasPlaces_42
  rw [s_isShelf, Option.bind_some, bI_f hs, if_pos rfl, gd_t (Or.inl rfl)]
/-- n places from the first one on -/
theorem hp_0 {z n : Nat} (hz : z ≤ 40) (hn : n ≤ 40) : ((0 ≤ nI n ∧ nI n ≤ nI z) ∧ ((0 : Int32) ≤ 0 ∧ (0 : Int32) ≤ nI z - nI n)) ↔ n ≤ z := by
  constructor
  · intro h
    exact (nI_le_iff (by omega) (by omega)).mp h.1.2
  · intro h
    exact ⟨⟨nI_pos' (by omega), nI_le h (by omega)⟩, by decide, by rw [pk_sub h]; exact nI_pos' (by omega)⟩
/-- one place, i -/
theorem hp_1 {z : Nat} {i : Int32} (hz : z ≤ 40) : ((0 ≤ (1 : Int32) ∧ (1 : Int32) ≤ nI z) ∧ (0 ≤ i ∧ i ≤ nI z - 1)) ↔ ∃ j : Nat, j < z ∧ i = nI j := by
  constructor
  · rintro ⟨h1, h2⟩
    have hz1 : 1 ≤ z := (nI_le_iff (a := 1) (by omega) (by omega)).mp h1.2
    rw [show (1 : Int32) = nI 1 from rfl, pk_sub hz1] at h2
    obtain ⟨j, h3, h4⟩ := i_rng (by omega) h2
    exact ⟨j, by omega, h4⟩
  · rintro ⟨j, hj, rfl⟩
    exact ⟨⟨by decide, nI_le (a := 1) (by omega) (by omega)⟩, nI_pos' (by omega), by rw [show (1 : Int32) = nI 1 from rfl, pk_sub (by omega)]; exact nI_le (by omega) (by omega)⟩
theorem s_elementAt {fu : Nat} {sz : Nat → Int32} {el : Nat → Int64} {s z i : Nat} (hs : s < 8) (hz : sz s = nI z) (h40 : z ≤ 40) (hi : i < z) : m_X0_elementAt fu sz el (nI s) (nI i) = some (el (s * 40 + i), ()) := by
  unfold m_X0_elementAt b_X0_elementAt_25
  have h1 := (hp_1 (z := z) (i := nI i) h40).mpr ⟨i, hi, rfl⟩
  have e : (nI s * (40 : Int32)) + nI i = nI (s * 40 + i) := by rw [show (40 : Int32) = nI 40 from rfl, pk_mul, nI_add]
  rw [s_hasPlaces hs, Option.bind_some, hz, bI_t h1, if_neg (show ¬ ((1 : Int32), ()).1 = 0 by decide), e, gd_t (inb_n (by omega) (by decide)), nI_clamp (by omega)]
def Ref2 (r r' : Nat → Int32) (c : Int32) (r1 r1' : Nat → Int32) : Prop := ¬ c = 0 ∧ ∃ k, k < 5 ∧ r1 = upd r k (r k + 1) ∧ r1' = upd r' (k + 2) (r' (k + 2) + 1)
theorem RR.ref {r r' r1 r1' : Nat → Int32} {c : Int32} (h : RR r r') (q : Ref2 r r' c r1 r1') : RR r1 r1' := fun j hj => by
  obtain ⟨-, k, hk, rfl, rfl⟩ := q
  by_cases c : j = k
  · subst c; rw [pk_us, pk_us, h j hj]
  · rw [pk_un c, pk_un (by omega), h j hj]
/-- a sound among the elements -/
def gs (x : Int64) : Prop := 0 ≤ x ∧ x < 40
theorem gs_n {x : Int64} (h : gs x) : ∃ a : Nat, a < 40 ∧ x = lN a ∧ x.toInt32 = nI a := by
  obtain ⟨h1, h2⟩ := h
  obtain ⟨k, hk, rfl⟩ := pk_lOf (x := x) (fun q => by rw [l_lt] at q; rw [l_le] at h1; omega)
  have : k < 40 := by
    rw [show (40 : Int64) = lN 40 from rfl] at h2
    exact (pk_lLT hk (by decide)).mp h2
  exact ⟨k, this, rfl, lN_i k⟩
theorem s_add {fu : Nat} {t g : Nat → Int32} {l : List Nat} {x : Nat} (hc : t 1 = nI l.length) (hl : l.length < 12) (hb : Bf g l) : ∃ t' g', m_X4_add fu t g (nI x) = some (t', g') ∧ t' 1 = nI (l ++ [x]).length ∧ Bf g' (l ++ [x]) := by
  refine ⟨upd t 1 (t 1 + 1), upd g (t 1).toNatClampNeg (nI x), ?_, ?_, ?_⟩
  · unfold m_X4_add b_X4_add_33
    have hw : (0 : Int32) ≤ t 1 ∧ t 1 ≤ (11 : Int32) := by rw [hc]; exact w_0n (m := 11) (by omega) (by decide)
    rw [s_isWithin, Option.bind_some, bI_t hw, if_neg (show ¬ ((1 : Int32), ()).1 = 0 by decide), gd_t (by rw [hc]; exact inb_n hl (by decide))]
  · rw [pk_us, hc, nI_1]; simp
  · rw [hc, nI_clamp (by omega)]; exact Bf_push hb
/-- the sounds of the first elements of a row -/
def wl (e : Nat → Int64) (n : Nat) : List Nat := (List.range n).map (fun i => (e i).toInt.toNat)
theorem wl_len {e : Nat → Int64} {n : Nat} : (wl e n).length = n := by simp [wl]
theorem wl_at {e : Nat → Int64} {n i : Nat} (h : i < n) : (wl e n)[i]? = some (e i).toInt.toNat := by simp [wl, h]
theorem wl_succ {e : Nat → Int64} {n : Nat} : wl e (n + 1) = wl e n ++ [(e n).toInt.toNat] := by simp [wl, List.range_succ]
theorem gs_w {x : Int64} (h : gs x) : x.toInt32 = nI x.toInt.toNat ∧ x.toInt.toNat < 40 ∧ x = lN x.toInt.toNat := by
  obtain ⟨a, h1, rfl, h3⟩ := gs_n h
  have e : (lN a).toInt.toNat = a := by rw [pk_lT (by omega)]; rfl
  rw [e]
  exact ⟨h3, h1, rfl⟩
theorem wl_lt {e : Nat → Int64} {n : Nat} (h : ∀ i, i < n → gs (e i)) : ∀ x ∈ wl e n, x < 40 := by
  intro x hx
  obtain ⟨i, hi, rfl⟩ := List.mem_map.mp hx
  exact (gs_w (h i (List.mem_range.mp hi))).2.1
theorem s_loopX {fu : Nat} {t hd sz : Nat → Int32} {el e : Nat → Int64} {r told snd : Nat → Int32} {s z n : Nat} (hfu : 5000 ≤ fu) (hs : s < 8) (hz : sz s = nI z) (h40 : z ≤ 40) (hn : n ≤ z) (h12 : n ≤ 12) (he : ∀ i, i < z → el (s * 40 + i) = e i) (h0 : told 1 = 0) :
    ((∀ i, i < n → gs (e i)) → ∃ t1 s1, lfix (b_X5_takeWordAndRow_138 fu t hd sz el) fu (nI s, nI n, (0 : Int32), r, told, snd) = some (0, (r, t1, s1)) ∧ WD t1 s1 (wl e n)) ∧
    (∀ j, j < n → ¬ gs (e j) → (∀ i, i < j → gs (e i)) → ∃ t1 s1, lfix (b_X5_takeWordAndRow_138 fu t hd sz el) fu (nI s, nI n, (0 : Int32), r, told, snd) = some (-5, (upd r 3 (r 3 + 1), t1, s1))) := by
  have step : ∀ (i : Nat) (t1 s1 : Nat → Int32) k, i < n → gs (e i) → t1 1 = nI (wl e i).length → Bf s1 (wl e i) → ∃ t2 s2, t2 1 = nI (wl e (i + 1)).length ∧ Bf s2 (wl e (i + 1)) ∧ b_X5_takeWordAndRow_138 fu t hd sz el k (nI s, nI n, nI i, r, t1, s1) = k (nI s, nI n, nI (i + 1), r, t2, s2) := by
    intro i t1 s1 k hi hg h1 h2
    obtain ⟨g1, g2, -⟩ := gs_w hg
    obtain ⟨t2, s2, a1, a2, a3⟩ := s_add (fu := fu) (x := (e i).toInt.toNat) h1 (by rw [wl_len]; omega) h2
    refine ⟨t2, s2, by rw [wl_succ]; exact a2, by rw [wl_succ]; exact a3, ?_⟩
    unfold b_X5_takeWordAndRow_138
    dsimp only
    rw [if_neg (nI_ge hi (by omega)), s_elementAt hs hz h40 (by omega), Option.bind_some, he i (by omega)]
    dsimp only
    rw [if_neg (fun q => by have := (lg_neg _ _).mp q; have h3 := hg.1; rw [l_lt] at this; rw [l_le] at h3; omega), if_pos ((lg_neg _ _).mpr hg.2), g1, a1, Option.bind_some, nI_1]
  constructor
  · intro hg
    refine lf (b_X5_takeWordAndRow_138 fu t hd sz el) (fun i x => x.1 = nI s ∧ x.2.1 = nI n ∧ x.2.2.1 = nI i ∧ x.2.2.2.1 = r ∧ x.2.2.2.2.1 1 = nI (wl e i).length ∧ Bf x.2.2.2.2.2 (wl e i)) n (fun o => ∃ t1 s1, o = some (0, (r, t1, s1)) ∧ WD t1 s1 (wl e n)) ?_ ?_ fu 0 _ (Nat.zero_le _) (by omega) ⟨rfl, rfl, rfl, rfl, h0, Bf_nil⟩
    · rintro i ⟨x1, x2, x3, x4, x5, x6⟩ k hi ⟨e1, e2, e3, e4, e5, e6⟩
      dsimp only at e1 e2 e3 e4 e5 e6
      subst e1 e2 e3 e4
      obtain ⟨t2, s2, a1, a2, a3⟩ := step i x5 x6 k hi (hg i hi) e5 e6
      exact Or.inl ⟨_, ⟨rfl, rfl, rfl, rfl, a1, a2⟩, a3⟩
    · rintro ⟨x1, x2, x3, x4, x5, x6⟩ k ⟨e1, e2, e3, e4, e5, e6⟩
      dsimp only at e1 e2 e3 e4 e5 e6
      subst e1 e2 e3 e4
      refine ⟨x5, x6, ?_, e5, by rw [wl_len]; exact h12, e6, wl_lt hg⟩
      unfold b_X5_takeWordAndRow_138
      dsimp only
      rw [if_pos (nI_le (Nat.le_refl _) (by omega))]
  · intro j hj hb hg
    refine lf (b_X5_takeWordAndRow_138 fu t hd sz el) (fun i x => x.1 = nI s ∧ x.2.1 = nI n ∧ x.2.2.1 = nI i ∧ x.2.2.2.1 = r ∧ x.2.2.2.2.1 1 = nI (wl e i).length ∧ Bf x.2.2.2.2.2 (wl e i)) j (fun o => ∃ t1 s1, o = some (-5, (upd r 3 (r 3 + 1), t1, s1))) ?_ ?_ fu 0 _ (Nat.zero_le _) (by omega) ⟨rfl, rfl, rfl, rfl, h0, Bf_nil⟩
    · rintro i ⟨x1, x2, x3, x4, x5, x6⟩ k hi ⟨e1, e2, e3, e4, e5, e6⟩
      dsimp only at e1 e2 e3 e4 e5 e6
      subst e1 e2 e3 e4
      obtain ⟨t2, s2, a1, a2, a3⟩ := step i x5 x6 k (by omega) (hg i hi) e5 e6
      exact Or.inl ⟨_, ⟨rfl, rfl, rfl, rfl, a1, a2⟩, a3⟩
    · rintro ⟨x1, x2, x3, x4, x5, x6⟩ k ⟨e1, e2, e3, e4, e5, e6⟩
      dsimp only at e1 e2 e3 e4 e5 e6
      subst e1 e2 e3 e4
      refine ⟨x5, x6, ?_⟩
      unfold b_X5_takeWordAndRow_138 b_X5_takeWordAndRow_172
      dsimp only
      rw [if_neg (nI_ge hj (by omega)), s_elementAt hs hz h40 (by omega), Option.bind_some, he j (by omega), (s_ref fu t x4).2.1, Option.bind_some]
      dsimp only
      by_cases c1 : e j < 0
      · rw [if_pos ((lg_neg _ _).mpr c1)]
      · rw [if_neg (fun q => c1 ((lg_neg _ _).mp q)), if_neg (fun q => hb ⟨by rw [l_le]; rw [l_lt] at c1; omega, (lg_neg _ _).mp q⟩)]
