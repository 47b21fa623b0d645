-- PURE 12: voices alone, days, numbers
theorem RS.day {d r y w q n d' r' y' : Nat} {ks as ps : Nat → Nat} {now nk na np m mk mb mp now' m' : Nat → Int32} (h : RS d r y w q n ks as ps now nk na np m mk mb mp)
    (e0 : now' 0 = nI d' ∧ m' 9 = nI d' ∧ d' ≤ 40) (e1 : now' 1 = nI r' ∧ m' 10 = nI r' ∧ r' ≤ 9) (e2 : now' 2 = nI y' ∧ m' 11 = nI y' ∧ y' ≤ 9999)
    (k : now' 3 = now 3 ∧ now' 4 = now 4 ∧ now' 8 = now 8) (k2 : m' 12 = m 12 ∧ m' 13 = m 13 ∧ m' 16 = m 16) (k3 : now' 5 = m' 14 ∧ now' 6 = m' 15 ∧ now' 7 = m' 20) : RS d' r' y' w q n ks as ps now' nk na np m' mk mb mp := by
  obtain ⟨a1, a2, a3, a4, a5, a6, a7, a8⟩ := h
  exact ⟨e0, e1, e2, ⟨k.1.trans a4.1, k2.1.trans a4.2.1, a4.2.2⟩, ⟨k.2.1.trans a5.1, k2.2.1.trans a5.2.1, a5.2.2⟩, k3, ⟨k.2.2.trans a7.1, k2.2.2.trans a7.2.1, a7.2.2⟩, a8⟩
/-- a depth a day later; a day later -/
def dn (d r : Nat) : Nat := min 40 (d + 1 - r)
def dy (y : Nat) : Nat := min 9999 (y + 1)
theorem dn_le {d r : Nat} : dn d r ≤ 40 := Nat.min_le_left _ _
theorem dy_le {y : Nat} : dy y ≤ 9999 := Nat.min_le_left _ _
theorem x_sub {a b : Nat} (ha : a < 2 ^ 30) (hb : b < 2 ^ 30) (h : a < b) : (nI a - nI b).toInt = (a : Int) - b := pk_sub_toInt ha hb
theorem t40 : (40 : Int32).toInt = 40 := by decide
theorem t0 : (0 : Int32).toInt = 0 := by decide
theorem s_depthBehind {fu d r : Nat} (hd : d ≤ 40) (hr : r ≤ 9) : m_X5_depthBehind fu (nI d) (nI r) = some (nI (dn d r), ()) := by
  unfold m_X5_depthBehind
  rw [nI_1]
  by_cases c : d + 1 < r
  · have e : (nI (d + 1) - nI r).toInt = ((d + 1 : Nat) : Int) - r := pk_sub_toInt (by omega) (by omega)
    have h1 : nI (d + 1) - nI r < 40 := by rw [i_lt, e, t40]; omega
    rw [if_pos h1, if_neg (by rw [i_lt, e, t0]; omega)]
    have : dn d r = 0 := by unfold dn; omega
    rw [this]; rfl
  · rw [pk_sub (by omega)]
    by_cases c2 : d + 1 - r < 40
    · rw [if_pos (show nI (d + 1 - r) < (40 : Int32) from nI_lt (b := 40) c2 (by decide))]
      have e : dn d r = d + 1 - r := by unfold dn; omega
      rw [e]
      by_cases c3 : d + 1 - r = 0
      · rw [c3]; rfl
      · rw [if_pos (show (0 : Int32) < nI (d + 1 - r) from nI_lt (a := 0) (by omega) (by omega))]
    · rw [if_neg (show ¬ nI (d + 1 - r) < (40 : Int32) from nI_nlt (b := 40) (by omega) (by omega)), if_pos (by decide)]
      have e : dn d r = 40 := by unfold dn; omega
      rw [e]; rfl
theorem s_dayBehind {fu y : Nat} (hy : y ≤ 9999) : m_X5_dayBehind fu (nI y) = some (nI (dy y), ()) := by
  unfold m_X5_dayBehind dy
  rw [nI_1]
  by_cases c : y + 1 < 9999
  · rw [if_pos (show nI (y + 1) < (9999 : Int32) from nI_lt (b := 9999) c (by decide)), Nat.min_eq_right (by omega)]
  · rw [if_neg (show ¬ nI (y + 1) < (9999 : Int32) from nI_nlt (b := 9999) (by omega) (by omega)), Nat.min_eq_left (by omega)]; rfl
theorem s_heldI {fu : Nat} {x : Int32} {z : Int} (e : x.toInt = z) : m_X6_held fu x = some (nI (min 40 z.toNat), ()) := by
  unfold m_X6_held b_X6_held_20
  by_cases c : 0 ≤ x
  · rw [if_pos c]
    obtain ⟨k, hk, rfl⟩ := nI_of (x := x) (fun q => by rw [i_le] at c; rw [i_lt] at q; omega)
    rw [nI_toInt hk] at e
    subst e
    by_cases c2 : k ≤ 40
    · rw [if_pos (show nI k ≤ (40 : Int32) from nI_le (b := 40) c2 (by decide))]
      rw [Int.toNat_natCast, Nat.min_eq_right c2]
    · rw [if_neg (show ¬ nI k ≤ (40 : Int32) from nI_ge (a := 40) (by omega) hk)]
      rw [Int.toNat_natCast, Nat.min_eq_left (by omega)]; rfl
  · rw [if_neg c]
    rw [i_le, t0, e] at c
    rw [show z.toNat = 0 by omega]; rfl
theorem s_held {fu d r : Nat} (hd : d ≤ 40) (hr : r ≤ 9) : m_X6_held fu ((nI d + 1) - nI r) = some (nI (dn d r), ()) := by
  rw [nI_1, s_heldI (z := ((d + 1 : Nat) : Int) - r) (pk_sub_toInt (by omega) (by omega))]
  rw [show (((d + 1 : Nat) : Int) - r).toNat = d + 1 - r by omega]
  rfl
theorem s_passes {fu d r y : Nat} {m : Nat → Int32} {mL : Nat → Int64} (h9 : m 9 = nI d) (hd : d ≤ 40) (h10 : m 10 = nI r) (hr : r ≤ 9) (h11 : m 11 = nI y) (hy : y ≤ 9999) : m_X6_passes fu m mL = some (upd (upd m 9 (nI (dn d r))) 11 (nI (dy y))) := by
  unfold m_X6_passes b_X6_passes_41
  rw [h9, h10, s_held hd hr, Option.bind_some, h11]
  dsimp only
  by_cases c : 9999 ≤ y
  · rw [if_pos (show (9999 : Int32) ≤ nI y from nI_le (a := 9999) c (by omega))]
    have : dy y = 9999 := by unfold dy; omega
    rw [this]; rfl
  · rw [if_neg (show ¬ (9999 : Int32) ≤ nI y from nI_ge (b := 9999) (by omega) (by decide)), nI_1]
    have : dy y = y + 1 := by unfold dy; omega
    rw [this]
theorem s_passDay1 {fu d r y : Nat} {t : Nat → Int32} (h9 : t 0 = nI d) (hd : d ≤ 40) (h10 : t 1 = nI r) (hr : r ≤ 9) (h11 : t 2 = nI y) (hy : y ≤ 9999) : m_X1_passDay fu t = some (upd (upd t 0 (nI (dn d r))) 2 (nI (dy y))) := by
  unfold m_X1_passDay
  rw [h9, h10, h11, s_depthBehind hd hr, s_dayBehind hy, Option.bind_some, Option.bind_some]
theorem s_passDay3 {fu d r y : Nat} {t : Nat → Int32} (h9 : t 2 = nI d) (hd : d ≤ 40) (h10 : t 3 = nI r) (hr : r ≤ 9) (h11 : t 4 = nI y) (hy : y ≤ 9999) : m_X3_passDay fu t = some (upd (upd t 2 (nI (dn d r))) 4 (nI (dy y))) := by
  unfold m_X3_passDay
  rw [h9, h10, h11, s_depthBehind hd hr, s_dayBehind hy, Option.bind_some, Option.bind_some]
theorem RS.pass {fu d r y w q n : Nat} {ks as ps : Nat → Nat} {now nk na np m mk mb mp : Nat → Int32} (mL : Nat → Int64) (h : RS d r y w q n ks as ps now nk na np m mk mb mp) :
    ∃ now' m', m_X1_passDay fu now = some now' ∧ m_X6_passes fu m mL = some m' ∧ RS (dn d r) r (dy y) w q n ks as ps now' nk na np m' mk mb mp ∧ (∀ j, j ≠ 9 → j ≠ 11 → m' j = m j) := by
  obtain ⟨a1, a2, a3, a4, a5, a6, a7, a8⟩ := id h
  refine ⟨_, _, s_passDay1 a1.1 a1.2.2 a2.1 a2.2.2 a3.1 a3.2.2, s_passes a1.2.1 a1.2.2 a2.2.1 a2.2.2 a3.2.1 a3.2.2, ?_, fun j h1 h2 => by rw [pk_un h2, pk_un h1]⟩
  exact h.day ⟨rfl, rfl, dn_le⟩ a2 ⟨rfl, rfl, dy_le⟩ ⟨rfl, rfl, rfl⟩ ⟨rfl, rfl, rfl⟩ a6
def cnt (f : Nat → Bool) : Nat → Nat
  | 0 => 0
  | n + 1 => if f n then cnt f n + 1 else cnt f n
theorem cnt_t {f : Nat → Bool} {n : Nat} (h : f n = true) : cnt f (n + 1) = cnt f n + 1 := by
  show (if f n then cnt f n + 1 else cnt f n) = _
  rw [if_pos h]
theorem cnt_f {f : Nat → Bool} {n : Nat} (h : ¬ f n = true) : cnt f (n + 1) = cnt f n := by
  show (if f n then cnt f n + 1 else cnt f n) = _
  rw [if_neg h]
theorem cnt_le {f : Nat → Bool} : ∀ n, cnt f n ≤ n := by
  intro n
  induction n with
  | zero => exact Nat.le_refl _
  | succ n ih =>
    by_cases c : f n = true
    · rw [cnt_t c]; omega
    · rw [cnt_f c]; omega
theorem cnt_c {f g : Nat → Bool} : ∀ n, (∀ i, i < n → f i = g i) → cnt f n = cnt g n := by
  intro n
  induction n with
  | zero => intro _; rfl
  | succ n ih =>
    intro h
    have e := h n (by omega)
    by_cases c : f n = true
    · rw [cnt_t c, cnt_t (e ▸ c), ih (fun i hi => h i (by omega))]
    · rw [cnt_f c, cnt_f (e ▸ c), ih (fun i hi => h i (by omega))]
def tot (f : Nat → Nat → Bool) : Nat → Nat
  | 0 => 0
  | n + 1 => tot f n + cnt (f n) n
/-- two voices that return the same -/
def twb (ks ps : Nat → Nat) (d y v o : Nat) : Bool := (List.range 40).all (fun s => decide (ro (rt (ks v) (pt (ks v) (ps v) y) d s) = ro (rt (ks o) (pt (ks o) (ps o) y) d s)))
theorem twb_iff {ks ps : Nat → Nat} {d y v o : Nat} : twb ks ps d y v o = true ↔ ∀ s, s < 40 → ro (rt (ks v) (pt (ks v) (ps v) y) d s) = ro (rt (ks o) (pt (ks o) (ps o) y) d s) := by
  unfold twb
  rw [List.all_eq_true]
  exact ⟨fun h s hs => of_decide_eq_true (h s (List.mem_range.mpr hs)), fun h s hs => decide_eq_true (h s (List.mem_range.mp hs))⟩
theorem twb_sym {ks ps : Nat → Nat} {d y v o : Nat} : twb ks ps d y v o = twb ks ps d y o v := by
  rw [Bool.eq_iff_iff, twb_iff, twb_iff]
  exact ⟨fun h s hs => (h s hs).symm, fun h s hs => (h s hs).symm⟩
theorem s_areTwins {fu d r y w q n : Nat} {ks as ps : Nat → Nat} {t now nk na np m mk mb mp tr to : Nat → Int32} {v o : Nat} (hfu : 5000 ≤ fu) (hS : RS d r y w q n ks as ps now nk na np m mk mb mp) (hv : v < 8) (ho : o < 8) :
    ∃ tr' to', m_X5_areTwins fu t now nk np tr to (nI v) (nI o) = some (bI (twb ks ps d y v o = true), (tr', to')) := by
  obtain ⟨t1, e1, T1, -⟩ := s_standsFor (fu := fu) (t := tr) hS hv
  obtain ⟨t2, e2, T2, -⟩ := s_standsFor (fu := fu) (t := to) hS ho
  unfold m_X5_areTwins
  rw [e1, Option.bind_some, e2, Option.bind_some]
  refine lf (b_X5_areTwins_26 fu t now nk np) (fun i x => x.1 = nI i ∧ x.2.1 = t1 ∧ x.2.2 = t2 ∧ ∀ s, s < i → ro (rt (ks v) (pt (ks v) (ps v) y) d s) = ro (rt (ks o) (pt (ks o) (ps o) y) d s)) 40 (fun r => ∃ tr' to', r = some (bI (twb ks ps d y v o = true), (tr', to'))) ?_ ?_ fu 0 _ (Nat.zero_le _) (by omega) ⟨rfl, rfl, rfl, fun s h => absurd h (Nat.not_lt_zero _)⟩
  · rintro i ⟨x1, x2, x3⟩ k hi ⟨f1, f2, f3, f4⟩
    dsimp only at f1 f2 f3 f4
    subst f1 f2 f3
    unfold b_X5_areTwins_26
    dsimp only
    rw [if_neg (show ¬ (40 : Int32) ≤ nI i from nI_ge (b := 40) hi (by decide)), s_returnOf T1 hi, s_returnOf T2 hi, Option.bind_some, Option.bind_some]
    dsimp only
    by_cases c : ro (rt (ks v) (pt (ks v) (ps v) y) d i) = ro (rt (ks o) (pt (ks o) (ps o) y) d i)
    · rw [if_pos c, nI_1]
      refine Or.inl ⟨_, ⟨rfl, rfl, rfl, fun s hs => ?_⟩, rfl⟩
      rcases Nat.lt_or_ge s i with g | g
      · exact f4 s g
      · rw [show s = i by omega]; exact c
    · rw [if_neg c]
      refine Or.inr ⟨x2, x3, ?_⟩
      rw [bI_f (fun e => c (twb_iff.mp e i hi))]
  · rintro ⟨x1, x2, x3⟩ k ⟨f1, f2, f3, f4⟩
    dsimp only at f1 f2 f3 f4
    subst f1 f2 f3
    unfold b_X5_areTwins_26
    dsimp only
    rw [if_pos (show (40 : Int32) ≤ nI 40 by decide)]
    refine ⟨x2, x3, ?_⟩
    rw [bI_t (show twb ks ps d y v o = true from twb_iff.mpr f4)]
theorem s_mTwins {fu d r y w q n : Nat} {ks as ps : Nat → Nat} {now nk na np m mk mb mp : Nat → Int32} {mL : Nat → Int64} {v o : Nat} (hfu : 5000 ≤ fu) (hS : RS d r y w q n ks as ps now nk na np m mk mb mp) (hv : v < 8) (ho : o < 8) :
    m_X6_areTwins fu m mL mk mp (nI v) (nI o) = some (bI (twb ks ps d y v o = true), ()) := by
  have T1 := s_MT (m' := m) hS (fun _ _ => rfl) hv
  have T2 := s_MT (m' := m) hS (fun _ _ => rfl) ho
  unfold m_X6_areTwins
  refine lf (b_X6_areTwins_2 fu m mL mk mp) (fun i x => x.1 = nI v ∧ x.2.1 = nI o ∧ x.2.2 = nI i ∧ ∀ s, s < i → ro (rt (ks v) (pt (ks v) (ps v) y) d s) = ro (rt (ks o) (pt (ks o) (ps o) y) d s)) 40 (fun r => r = some (bI (twb ks ps d y v o = true), ())) ?_ ?_ fu 0 _ (Nat.zero_le _) (by omega) ⟨rfl, rfl, rfl, fun s h => absurd h (Nat.not_lt_zero _)⟩
  · rintro i ⟨x1, x2, x3⟩ k hi ⟨f1, f2, f3, f4⟩
    dsimp only at f1 f2 f3 f4
    subst f1 f2 f3
    unfold b_X6_areTwins_2
    dsimp only
    rw [if_neg (show ¬ (40 : Int32) ≤ nI i from nI_ge (b := 40) hi (by decide)), s_comesBack T1 hi, s_comesBack T2 hi, Option.bind_some, Option.bind_some]
    dsimp only
    by_cases c : ro (rt (ks v) (pt (ks v) (ps v) y) d i) = ro (rt (ks o) (pt (ks o) (ps o) y) d i)
    · rw [if_pos c, nI_1]
      refine Or.inl ⟨_, ⟨rfl, rfl, rfl, fun s hs => ?_⟩, rfl⟩
      rcases Nat.lt_or_ge s i with g | g
      · exact f4 s g
      · rw [show s = i by omega]; exact c
    · rw [if_neg c]
      right
      rw [bI_f (fun e => c (twb_iff.mp e i hi))]
  · rintro ⟨x1, x2, x3⟩ k ⟨f1, f2, f3, f4⟩
    dsimp only at f1 f2 f3 f4
    subst f1 f2 f3
    unfold b_X6_areTwins_2
    dsimp only
    rw [if_pos (show (40 : Int32) ≤ nI 40 by decide), bI_t (show twb ks ps d y v o = true from twb_iff.mpr f4)]

theorem R_9 (fu : Nat) (C : Nat → Nat → Int32) (E : Nat → Int64) (M : Nat → Nat → Int32) (ML : Nat → Int64) (MR : Nat → Nat → Int64) (MV : Nat → Int64) (MY : Nat → Nat → Int32) (h : Rel fu C E M ML MR MV MY) (v1 : Int32) (v2 : Int32) : ∃ (oX : Int32 × ((Nat → Int32) × (Nat → Int32))) (oM : Int32 × ((Nat → Int32) × (Nat → Int32))), m_X5_tell fu (C 0) (C 1) (C 19) v1 v2 = some oX ∧ m_X6_tell fu (M 0) ML (M 16) v1 v2 = some oM ∧ oX.1 = oM.1 ∧ Rel fu (upC (upC C 1 oX.2.1) 19 oX.2.2) E (upC (upC M 0 oM.2.1) 16 oM.2.2) ML MR MV MY := by
  obtain ⟨hf, ⟨d, r, y, w, q, n, ks, as, ps, hS, hH⟩, hT, hr⟩ := id h
  obtain ⟨hn1, hn2, hn8⟩ := hS.2.2.2.2.2.2.1
  obtain ⟨a1, a2, a3, a4, a5, a6, a7, a8⟩ := hS
  unfold m_X5_tell m_X6_tell b_X5_tell_33 b_X5_tell_67 b_X5_tell_102 b_X5_tell_109 b_X6_tell_39 b_X6_tell_45 b_X6_tell_79 b_X6_tell_93 b_X6_tell_110 b_X6_tell_127
  have z01 : ((0 : Int32) = 1) = False := eq_false (by decide)
  have z02 : ((0 : Int32) = 2) = False := eq_false (by decide)
  have z12 : ((1 : Int32) = 2) = False := eq_false (by decide)
  have z10 : ((1 : Int32) = 0) = False := eq_false (by decide)
  have z20 : ((2 : Int32) = 0) = False := eq_false (by decide)
  have z21 : ((2 : Int32) = 1) = False := eq_false (by decide)
  by_cases w0 : v1 = 0
  · subst w0
    simp only [if_true, s_isWithin, s_i (x := 0) (A := 0) (B := 2) (a := 0) (b := 2) rfl rfl, s_i (A := 0) (B := 40) (a := 0) (b := 40) rfl rfl, Option.bind_some, bI_t (show (0 : Int32) ≤ 0 ∧ (0 : Int32) ≤ 2 by decide), z10, z01, z02, if_false]
    by_cases c : 0 ≤ v2 ∧ v2 ≤ 40
    · obtain ⟨p, hp, rfl⟩ := i_rng (m := 40) (by decide) c
      rw [bI_t c, if_neg n10, if_neg n10]
      exact ⟨_, _, rfl, rfl, a1.1.trans a1.2.1.symm, hf, ⟨p, r, y, w, q, n, ks, as, ps, ⟨⟨rfl, rfl, hp⟩, a2, a3, a4, a5, a6, a7, a8⟩, hH⟩, hT, hr⟩
    · rw [bI_f c, if_pos rfl, if_pos rfl]
      rw [(s_ref fu _ _).1.1, (s_mref fu _ _ _).1.1, Option.bind_some, Option.bind_some]; exact ⟨_, _, rfl, rfl, rfl, h.go rfl rfl rfl rfl rfl rfl rfl rfl rfl (fun _ _ => rfl) rfl rfl rfl rfl rfl rfl rfl rfl hr.r2⟩
  · by_cases w1 : v1 = 1
    · subst w1
      simp only [if_true, s_isWithin, s_i (x := 1) (A := 0) (B := 2) (a := 0) (b := 2) rfl rfl, s_i (A := 0) (B := 9) (a := 0) (b := 9) rfl rfl, Option.bind_some, bI_t (show (0 : Int32) ≤ 1 ∧ (1 : Int32) ≤ 2 by decide), z10, z12, if_false]
      by_cases c : 0 ≤ v2 ∧ v2 ≤ 9
      · obtain ⟨p, hp, rfl⟩ := i_rng (m := 9) (by decide) c
        rw [bI_t c, if_neg n10, if_neg n10]
        exact ⟨_, _, rfl, rfl, a2.1.trans a2.2.1.symm, hf, ⟨d, p, y, w, q, n, ks, as, ps, ⟨a1, ⟨rfl, rfl, hp⟩, a3, a4, a5, a6, a7, a8⟩, hH⟩, hT, hr⟩
      · rw [bI_f c, if_pos rfl, if_pos rfl]
        rw [(s_ref fu _ _).1.1, (s_mref fu _ _ _).1.1, Option.bind_some, Option.bind_some]; exact ⟨_, _, rfl, rfl, rfl, h.go rfl rfl rfl rfl rfl rfl rfl rfl rfl (fun _ _ => rfl) rfl rfl rfl rfl rfl rfl rfl rfl hr.r2⟩
    · by_cases w2 : v1 = 2
      · subst w2
        simp only [if_true, s_isWithin, s_i (x := 2) (A := 0) (B := 2) (a := 0) (b := 2) rfl rfl, s_i (A := 0) (B := 9999) (a := 0) (b := 9999) rfl rfl, Option.bind_some, bI_t (show (0 : Int32) ≤ 2 ∧ (2 : Int32) ≤ 2 by decide), z10, z20, z21, if_false]
        by_cases c : 0 ≤ v2 ∧ v2 ≤ 9999
        · obtain ⟨p, hp, rfl⟩ := i_rng (m := 9999) (by decide) c
          rw [bI_t c, if_neg n10, if_neg n10]
          exact ⟨_, _, rfl, rfl, a3.1.trans a3.2.1.symm, hf, ⟨d, r, p, w, q, n, ks, as, ps, ⟨a1, a2, ⟨rfl, rfl, hp⟩, a4, a5, a6, a7, a8⟩, hH⟩, hT, hr⟩
        · rw [bI_f c, if_pos rfl, if_pos rfl]
          rw [(s_ref fu _ _).1.1, (s_mref fu _ _ _).1.1, Option.bind_some, Option.bind_some]; exact ⟨_, _, rfl, rfl, rfl, h.go rfl rfl rfl rfl rfl rfl rfl rfl rfl (fun _ _ => rfl) rfl rfl rfl rfl rfl rfl rfl rfl hr.r2⟩
      · have nc : ¬ (0 ≤ v1 ∧ v1 ≤ 2) := fun e => by
          obtain ⟨j, hj, rfl⟩ := i_rng (m := 2) (by decide) e
          rcases (by omega : j = 0 ∨ j = 1 ∨ j = 2) with rfl | rfl | rfl
          · exact w0 rfl
          · exact w1 rfl
          · exact w2 rfl
        simp only [w0, w1, w2, if_false, s_i (x := v1) (A := 0) (B := 2) (a := 0) (b := 2) rfl rfl, Option.bind_some, bI_f nc, if_true]
        rw [(s_ref fu _ _).1.1, (s_mref fu _ _ _).1.1, Option.bind_some, Option.bind_some]; exact ⟨_, _, rfl, rfl, rfl, h.go rfl rfl rfl rfl rfl rfl rfl rfl rfl (fun _ _ => rfl) rfl rfl rfl rfl rfl rfl rfl rfl hr.r2⟩

theorem R_14 (fu : Nat) (C : Nat → Nat → Int32) (E : Nat → Int64) (M : Nat → Nat → Int32) (ML : Nat → Int64) (MR : Nat → Nat → Int64) (MV : Nat → Int64) (MY : Nat → Nat → Int32) (h : Rel fu C E M ML MR MV MY) (v1 : Int32) (v2 : Int32) : ∃ (oX : Int32 × ((Nat → Int32) × (Nat → Int32))) (oM : Int32 × (Nat → Int32)), m_X5_voiceOf fu (C 0) (C 1) (C 2) (C 3) (C 4) (C 19) (C 20) v1 v2 = some oX ∧ m_X6_voiceOf fu (M 0) ML (M 16) (M 17) (M 18) (M 19) v1 v2 = some oM ∧ oX.1 = oM.1 ∧ Rel fu (upC (upC C 19 oX.2.1) 20 oX.2.2) E (upC M 16 oM.2) ML MR MV MY := by
  obtain ⟨hf, ⟨d, r, y, w, q, n, ks, as, ps, hS, hH⟩, hT, hr⟩ := id h
  obtain ⟨hn1, hn2, hn8⟩ := hS.2.2.2.2.2.2.1
  unfold m_X5_voiceOf m_X6_voiceOf b_X5_voiceOf_17 b_X6_voiceOf_20 b_X6_voiceOf_73
  simp only [s_isVoice, s_mVoice, Option.bind_some, hn1, hn2]
  by_cases c1 : 0 ≤ v1 ∧ v1 ≤ nI n - 1
  · obtain ⟨v, hv, rfl⟩ := v_ok hn8 c1
    have hv8 : v < 8 := by omega
    obtain ⟨a1, a2, a3, a4, a5, a6, a7, a8⟩ := id hS
    obtain ⟨b1, b2, b3⟩ := a8 v hv8
    rw [bI_t c1, if_neg n10, if_neg n10]
    simp only [s_isWithin, s_i (x := v2) (A := 0) (B := 3) (a := 0) (b := 3) rfl rfl, Option.bind_some]
    by_cases c3 : 0 ≤ v2 ∧ v2 ≤ 3
    · obtain ⟨j, hj, rfl⟩ := i_rng (m := 3) (by decide) c3
      rw [bI_t c3, if_neg n10, if_neg n10]
      rcases (by omega : j = 0 ∨ j = 1 ∨ j = 2 ∨ j = 3) with rfl | rfl | rfl | rfl
      · simp only [show (nI 0 = (0 : Int32)) = True from eq_true rfl, if_true, s_kindOf hv8, gd_t (ib8 hv8), cl8 hv8, Option.bind_some]
        exact ⟨_, _, rfl, rfl, b1.1.trans b1.2.1.symm, h.go rfl rfl rfl rfl rfl rfl rfl rfl rfl (fun _ _ => rfl) rfl rfl rfl rfl rfl rfl rfl rfl (hr)⟩
      · simp only [show (nI 1 = (0 : Int32)) = False from eq_false (by decide), show (nI 1 = (1 : Int32)) = True from eq_true rfl, if_true, if_false, s_aOf hv8, gd_t (ib8 hv8), cl8 hv8, Option.bind_some]
        exact ⟨_, _, rfl, rfl, b2.1.trans b2.2.1.symm, h.go rfl rfl rfl rfl rfl rfl rfl rfl rfl (fun _ _ => rfl) rfl rfl rfl rfl rfl rfl rfl rfl (hr)⟩
      · simp only [show (nI 2 = (0 : Int32)) = False from eq_false (by decide), show (nI 2 = (1 : Int32)) = False from eq_false (by decide), show (nI 2 = (2 : Int32)) = True from eq_true rfl, if_true, if_false, s_pitchOf hv8, gd_t (ib8 hv8), cl8 hv8, Option.bind_some]
        exact ⟨_, _, rfl, rfl, b3.1.trans b3.2.1.symm, h.go rfl rfl rfl rfl rfl rfl rfl rfl rfl (fun _ _ => rfl) rfl rfl rfl rfl rfl rfl rfl rfl (hr)⟩
      · obtain ⟨t', e1, e2, -⟩ := s_standsFor (fu := fu) (t := C 20) hS hv8
        have e3 := s_MT (m' := M 0) hS (fun _ _ => rfl) hv8
        simp only [show (nI 3 = (0 : Int32)) = False from eq_false (by decide), show (nI 3 = (1 : Int32)) = False from eq_false (by decide), show (nI 3 = (2 : Int32)) = False from eq_false (by decide), if_false, e1, Option.bind_some, s_pitchToday e2, s_mpitchOf e3]
        exact ⟨_, _, rfl, rfl, rfl, h.go rfl rfl rfl rfl rfl rfl rfl rfl rfl (fun _ _ => rfl) rfl rfl rfl rfl rfl rfl rfl rfl (hr)⟩
    · rw [bI_f c3, if_pos rfl, if_pos rfl]
      rw [(s_ref fu _ _).1.1, (s_mref fu _ _ _).1.1, Option.bind_some, Option.bind_some]; exact ⟨_, _, rfl, rfl, rfl, h.go rfl rfl rfl rfl rfl rfl rfl rfl rfl (fun _ _ => rfl) rfl rfl rfl rfl rfl rfl rfl rfl hr.r2⟩
  · rw [bI_f c1, if_pos rfl, if_pos rfl]
    rw [(s_ref fu _ _).1.1, (s_mref fu _ _ _).1.1, Option.bind_some, Option.bind_some]; exact ⟨_, _, rfl, rfl, rfl, h.go rfl rfl rfl rfl rfl rfl rfl rfl rfl (fun _ _ => rfl) rfl rfl rfl rfl rfl rfl rfl rfl hr.r2⟩

theorem R_16 (fu : Nat) (C : Nat → Nat → Int32) (E : Nat → Int64) (M : Nat → Nat → Int32) (ML : Nat → Int64) (MR : Nat → Nat → Int64) (MV : Nat → Int64) (MY : Nat → Nat → Int32) (h : Rel fu C E M ML MR MV MY) (v1 : Int32) : ∃ (oX : Int32 × ((Nat → Int32) × (Nat → Int32))) (oM : Int32 × (Nat → Int32)), m_X5_lost fu (C 0) (C 1) (C 2) (C 4) (C 19) (C 20) v1 = some oX ∧ m_X6_lost fu (M 0) ML (M 16) (M 17) (M 19) v1 = some oM ∧ oX.1 = oM.1 ∧ Rel fu (upC (upC C 19 oX.2.1) 20 oX.2.2) E (upC M 16 oM.2) ML MR MV MY := by
  obtain ⟨hf, ⟨d, r, y, w, q, n, ks, as, ps, hS, hH⟩, hT, hr⟩ := id h
  obtain ⟨hn1, hn2, hn8⟩ := hS.2.2.2.2.2.2.1
  unfold m_X5_lost m_X6_lost
  simp only [s_isVoice, s_mVoice, Option.bind_some, hn1, hn2]
  by_cases c1 : 0 ≤ v1 ∧ v1 ≤ nI n - 1
  · obtain ⟨v, hv, rfl⟩ := v_ok hn8 c1
    have hv8 : v < 8 := by omega
    obtain ⟨t', e1, e2, -⟩ := s_standsFor (fu := fu) (t := C 20) hS hv8
    have e3 := s_MT (m' := M 0) hS (fun _ _ => rfl) hv8
    rw [bI_t c1, if_neg n10, if_neg n10, e1, Option.bind_some]
    obtain ⟨a, b, g1, g2, g3, g4, g5⟩ := lf2 (b_X5_lost_31 fu (C 0) (C 1) (C 2) (C 4)) (b_X6_lost_19 fu (M 0) ML (M 17) (M 19)) (fun i x y => x.1 = y.2.1 ∧ x.2.1 = nI i ∧ x.2.2.1 = C 19 ∧ x.2.2.2 = t' ∧ y.1 = nI v ∧ y.2.2.1 = nI i ∧ y.2.2.2 = M 16) 40 (fun o o' => ∃ a b, o = some a ∧ o' = some b ∧ a.1 = b.1 ∧ a.2.1 = C 19 ∧ b.2 = M 16)
      (by
        rintro i ⟨x1, x2, x3, x4⟩ ⟨y1, y2, y3, y4⟩ k k' hi ⟨f1, f2, f3, f4, f5, f6, f7⟩
        dsimp only at f1 f2 f3 f4 f5 f6 f7
        subst f1 f2 f3 f4 f5 f6 f7
        left
        unfold b_X5_lost_31 b_X6_lost_19 b_X5_lost_52 b_X6_lost_41
        dsimp only
        rw [if_neg (show ¬ (40 : Int32) ≤ nI i from nI_ge (b := 40) hi (by decide)), if_neg (show ¬ (40 : Int32) ≤ nI i from nI_ge (b := 40) hi (by decide)), s_returnOf e2 hi, s_comesBack e3 hi]
        simp only [Option.bind_some, nI_1]
        by_cases c : ro (rt (ks v) (pt (ks v) (ps v) y) d i) = -1
        · rw [if_pos c, if_pos c]
          exact ⟨_, _, ⟨rfl, rfl, rfl, rfl, rfl, rfl, rfl⟩, rfl, rfl⟩
        · rw [if_neg c, if_neg c, Int32.add_zero]
          exact ⟨_, _, ⟨rfl, rfl, rfl, rfl, rfl, rfl, rfl⟩, rfl, rfl⟩)
      (by
        rintro ⟨x1, x2, x3, x4⟩ ⟨y1, y2, y3, y4⟩ k k' ⟨f1, f2, f3, f4, f5, f6, f7⟩
        dsimp only at f1 f2 f3 f4 f5 f6 f7
        subst f1 f2 f3 f4 f5 f6 f7
        unfold b_X5_lost_31 b_X6_lost_19
        dsimp only
        rw [if_pos (show (40 : Int32) ≤ nI 40 by decide), if_pos (show (40 : Int32) ≤ nI 40 by decide)]
        exact ⟨_, _, rfl, rfl, rfl, rfl, rfl⟩) fu 0 ((0 : Int32), (0 : Int32), C 19, t') (nI v, (0 : Int32), (0 : Int32), M 16) (Nat.zero_le _) (by omega) ⟨rfl, rfl, rfl, rfl, rfl, rfl, rfl⟩
    exact ⟨a, b, g1, g2, g3, h.go rfl rfl rfl rfl rfl rfl rfl rfl rfl (fun _ _ => rfl) rfl rfl rfl rfl rfl rfl rfl rfl (by show RR a.2.1 b.2; rw [g4, g5]; exact hr)⟩
  · rw [bI_f c1, if_pos rfl, if_pos rfl]
    rw [(s_ref fu _ _).1.1, (s_mref fu _ _ _).1.1, Option.bind_some, Option.bind_some]; exact ⟨_, _, rfl, rfl, rfl, h.go rfl rfl rfl rfl rfl rfl rfl rfl rfl (fun _ _ => rfl) rfl rfl rfl rfl rfl rfl rfl rfl hr.r2⟩

theorem R_43 (fu : Nat) (C : Nat → Nat → Int32) (E : Nat → Int64) (M : Nat → Nat → Int32) (ML : Nat → Int64) (MR : Nat → Nat → Int64) (MV : Nat → Int64) (MY : Nat → Nat → Int32) (h : Rel fu C E M ML MR MV MY) (v1 : Int32) : ∃ (oX : Int32 × ((Nat → Int32) × (Nat → Int32))) (oM : Int32 × (Nat → Int32)), m_X5_plain fu (C 0) (C 1) (C 2) (C 4) (C 19) (C 20) v1 = some oX ∧ m_X6_plain fu (M 0) ML (M 16) (M 17) (M 19) v1 = some oM ∧ oX.1 = oM.1 ∧ Rel fu (upC (upC C 19 oX.2.1) 20 oX.2.2) E (upC M 16 oM.2) ML MR MV MY := by
  obtain ⟨hf, ⟨d, r, y, w, q, n, ks, as, ps, hS, hH⟩, hT, hr⟩ := id h
  obtain ⟨hn1, hn2, hn8⟩ := hS.2.2.2.2.2.2.1
  unfold m_X5_plain m_X6_plain
  simp only [s_isVoice, s_mVoice, Option.bind_some, hn1, hn2]
  by_cases c1 : 0 ≤ v1 ∧ v1 ≤ nI n - 1
  · obtain ⟨v, hv, rfl⟩ := v_ok hn8 c1
    have hv8 : v < 8 := by omega
    obtain ⟨t', e1, e2, -⟩ := s_standsFor (fu := fu) (t := C 20) hS hv8
    have e3 := s_MT (m' := M 0) hS (fun _ _ => rfl) hv8
    rw [bI_t c1, if_neg n10, if_neg n10, e1, Option.bind_some]
    obtain ⟨a, b, g1, g2, g3, g4, g5⟩ := lf2 (b_X5_plain_31 fu (C 0) (C 1) (C 2) (C 4)) (b_X6_plain_19 fu (M 0) ML (M 17) (M 19)) (fun i x y => x.1 = y.2.1 ∧ x.2.1 = nI i ∧ x.2.2.1 = C 19 ∧ x.2.2.2 = t' ∧ y.1 = nI v ∧ y.2.2.1 = nI i ∧ y.2.2.2 = M 16) 40 (fun o o' => ∃ a b, o = some a ∧ o' = some b ∧ a.1 = b.1 ∧ a.2.1 = C 19 ∧ b.2 = M 16)
      (by
        rintro i ⟨x1, x2, x3, x4⟩ ⟨y1, y2, y3, y4⟩ k k' hi ⟨f1, f2, f3, f4, f5, f6, f7⟩
        dsimp only at f1 f2 f3 f4 f5 f6 f7
        subst f1 f2 f3 f4 f5 f6 f7
        left
        unfold b_X5_plain_31 b_X6_plain_19 b_X5_plain_52 b_X6_plain_41
        dsimp only
        rw [if_neg (show ¬ (40 : Int32) ≤ nI i from nI_ge (b := 40) hi (by decide)), if_neg (show ¬ (40 : Int32) ≤ nI i from nI_ge (b := 40) hi (by decide)), s_returnOf e2 hi, s_comesBack e3 hi]
        simp only [Option.bind_some, nI_1]
        by_cases c : ro (rt (ks v) (pt (ks v) (ps v) y) d i) = nI i
        · rw [if_pos c, if_pos c]
          exact ⟨_, _, ⟨rfl, rfl, rfl, rfl, rfl, rfl, rfl⟩, rfl, rfl⟩
        · rw [if_neg c, if_neg c, Int32.add_zero]
          exact ⟨_, _, ⟨rfl, rfl, rfl, rfl, rfl, rfl, rfl⟩, rfl, rfl⟩)
      (by
        rintro ⟨x1, x2, x3, x4⟩ ⟨y1, y2, y3, y4⟩ k k' ⟨f1, f2, f3, f4, f5, f6, f7⟩
        dsimp only at f1 f2 f3 f4 f5 f6 f7
        subst f1 f2 f3 f4 f5 f6 f7
        unfold b_X5_plain_31 b_X6_plain_19
        dsimp only
        rw [if_pos (show (40 : Int32) ≤ nI 40 by decide), if_pos (show (40 : Int32) ≤ nI 40 by decide)]
        exact ⟨_, _, rfl, rfl, rfl, rfl, rfl⟩) fu 0 ((0 : Int32), (0 : Int32), C 19, t') (nI v, (0 : Int32), (0 : Int32), M 16) (Nat.zero_le _) (by omega) ⟨rfl, rfl, rfl, rfl, rfl, rfl, rfl⟩
    exact ⟨a, b, g1, g2, g3, h.go rfl rfl rfl rfl rfl rfl rfl rfl rfl (fun _ _ => rfl) rfl rfl rfl rfl rfl rfl rfl rfl (by show RR a.2.1 b.2; rw [g4, g5]; exact hr)⟩
  · rw [bI_f c1, if_pos rfl, if_pos rfl]
    rw [(s_ref fu _ _).1.1, (s_mref fu _ _ _).1.1, Option.bind_some, Option.bind_some]; exact ⟨_, _, rfl, rfl, rfl, h.go rfl rfl rfl rfl rfl rfl rfl rfl rfl (fun _ _ => rfl) rfl rfl rfl rfl rfl rfl rfl rfl hr.r2⟩

theorem R_45 (fu : Nat) (C : Nat → Nat → Int32) (E : Nat → Int64) (M : Nat → Nat → Int32) (ML : Nat → Int64) (MR : Nat → Nat → Int64) (MV : Nat → Int64) (MY : Nat → Nat → Int32) (h : Rel fu C E M ML MR MV MY) (v1 : Int32) : ∃ (oX : Int32 × (Nat → Int32)) (oM : Int32 × (Nat → Int32)), m_X5_ofKind fu (C 0) (C 1) (C 2) (C 19) v1 = some oX ∧ m_X6_ofKind fu (M 0) ML (M 16) (M 17) v1 = some oM ∧ oX.1 = oM.1 ∧ Rel fu (upC C 19 oX.2) E (upC M 16 oM.2) ML MR MV MY := by
  obtain ⟨hf, ⟨d, r, y, w, q, n, ks, as, ps, hS, hH⟩, hT, hr⟩ := id h
  obtain ⟨hn1, hn2, hn8⟩ := hS.2.2.2.2.2.2.1
  unfold m_X5_ofKind m_X6_ofKind
  simp only [s_isKind, s_i (x := v1) (A := 0) (B := 5) (a := 0) (b := 5) rfl rfl, Option.bind_some]
  by_cases c1 : 0 ≤ v1 ∧ v1 ≤ 5
  · rw [bI_t c1, if_neg n10, if_neg n10]
    obtain ⟨a, b, g1, g2, g3, g4, g5⟩ := lf2 (b_X5_ofKind_18 fu (C 0) (C 1) (C 2)) (b_X6_ofKind_23 fu (M 0) ML (M 17)) (fun i x y => x.1 = v1 ∧ x.2.1 = y.2.1 ∧ x.2.2.1 = nI i ∧ x.2.2.2 = C 19 ∧ y.1 = v1 ∧ y.2.2.1 = nI i ∧ y.2.2.2 = M 16) n (fun o o' => ∃ a b, o = some a ∧ o' = some b ∧ a.1 = b.1 ∧ a.2 = C 19 ∧ b.2 = M 16)
      (by
        rintro i ⟨x1, x2, x3, x4⟩ ⟨y1, y2, y3, y4⟩ k k' hi ⟨f1, f2, f3, f4, f5, f6, f7⟩
        dsimp only at f1 f2 f3 f4 f5 f6 f7
        subst f1 f2 f3 f4 f5 f6 f7
        left
        have hi8 : i < 8 := by omega
        obtain ⟨b1, b2, b3⟩ := hS.2.2.2.2.2.2.2 i hi8
        unfold b_X5_ofKind_18 b_X6_ofKind_23 b_X5_ofKind_44 b_X6_ofKind_47
        dsimp only
        rw [hn1, hn2, if_neg (nI_ge hi (by omega)), if_neg (nI_ge hi (by omega)), s_kindOf hi8]
        simp only [Option.bind_some, nI_1, gd_t (ib8 hi8), cl8 hi8, b1.1, b1.2.1]
        by_cases c : nI (ks i) = y1
        · rw [if_pos c, if_pos c]
          exact ⟨(y1, x2 + 1, nI (i + 1), C 19), (y1, x2 + 1, nI (i + 1), M 16), ⟨rfl, rfl, rfl, rfl, rfl, rfl, rfl⟩, rfl, rfl⟩
        · rw [if_neg c, if_neg c, Int32.add_zero]
          exact ⟨(y1, x2, nI (i + 1), C 19), (y1, x2, nI (i + 1), M 16), ⟨rfl, rfl, rfl, rfl, rfl, rfl, rfl⟩, rfl, rfl⟩)
      (by
        rintro ⟨x1, x2, x3, x4⟩ ⟨y1, y2, y3, y4⟩ k k' ⟨f1, f2, f3, f4, f5, f6, f7⟩
        dsimp only at f1 f2 f3 f4 f5 f6 f7
        subst f1 f2 f3 f4 f5 f6 f7
        unfold b_X5_ofKind_18 b_X6_ofKind_23
        dsimp only
        rw [hn1, hn2, if_pos (nI_le (Nat.le_refl _) (by omega)), if_pos (nI_le (Nat.le_refl _) (by omega))]
        exact ⟨_, _, rfl, rfl, rfl, rfl, rfl⟩) fu 0 (v1, (0 : Int32), (0 : Int32), C 19) (v1, (0 : Int32), (0 : Int32), M 16) (Nat.zero_le _) (by omega) ⟨rfl, rfl, rfl, rfl, rfl, rfl, rfl⟩
    exact ⟨a, b, g1, g2, g3, h.go rfl rfl rfl rfl rfl rfl rfl rfl rfl (fun _ _ => rfl) rfl rfl rfl rfl rfl rfl rfl rfl (by show RR a.2 b.2; rw [g4, g5]; exact hr)⟩
  · rw [bI_f c1, if_pos rfl, if_pos rfl]
    rw [(s_ref fu _ _).1.1, (s_mref fu _ _ _).1.1, Option.bind_some, Option.bind_some]; exact ⟨_, _, rfl, rfl, rfl, h.go rfl rfl rfl rfl rfl rfl rfl rfl rfl (fun _ _ => rfl) rfl rfl rfl rfl rfl rfl rfl rfl hr.r2⟩
