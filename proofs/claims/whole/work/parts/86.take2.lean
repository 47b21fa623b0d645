-- PURE 6: the word is taken by the reference; both together
theorem gs_39 (x : Int64) : (0 ≤ x ∧ x ≤ 39) ↔ gs x := by
  unfold gs
  rw [l_le, l_le, l_lt, show (39 : Int64).toInt = 39 from rfl, show (40 : Int64).toInt = 40 from rfl]
  omega
theorem s_loopM {fu : Nat} {m : Nat → Int32} {mL : Nat → Int64} {MR : Nat → Nat → Int64} {r mw : Nat → Int32} {s z n : Nat} (hfu : 5000 ≤ fu) (hs : s < 8) (h40 : z ≤ 40) (hn : n ≤ z) (h12 : n ≤ 12) :
    ((∀ i, i < n → gs (MR s i)) → ∃ w1, m_X6_takeWord fu m mL MR r mw (nI s) (nI n) = some (0, (upd m 31 (nI n), r, w1)) ∧ WM (upd m 31 (nI n)) w1 (wl (MR s) n)) ∧
    (∀ j, j < n → ¬ gs (MR s j) → (∀ i, i < j → gs (MR s i)) → ∃ w1, m_X6_takeWord fu m mL MR r mw (nI s) (nI n) = some (-5, (upd m 31 (nI n), upd r 5 (r 5 + 1), w1))) := by
  have hb : inb (nI s) 8 := inb_n hs (by decide)
  have step : ∀ (i : Nat) (w1 : Nat → Int32) k, i < n → gs (MR s i) → Bf w1 (wl (MR s) i) → ∃ w2, Bf w2 (wl (MR s) (i + 1)) ∧ b_X6_takeWord_7 fu mL MR k (nI s, nI n, nI i, upd m 31 (nI n), r, w1) = k (nI s, nI n, nI (i + 1), upd m 31 (nI n), r, w2) := by
    intro i w1 k hi hg h2
    obtain ⟨g1, g2, -⟩ := gs_w hg
    refine ⟨upd w1 i (nI (MR s i).toInt.toNat), ?_, ?_⟩
    · rw [wl_succ]
      have := Bf_push (x := (MR s i).toInt.toNat) h2
      rwa [wl_len] at this
    · unfold b_X6_takeWord_7
      dsimp only
      have hi40 : inb (nI i) 40 := inb_n (by omega) (by decide)
      have hi12 : inb (nI i) 12 := inb_n (by omega) (by decide)
      simp only [gd_t hb, gd_t hi40, gd_t hi12, nI_clamp (show s < 2 ^ 31 by omega), nI_clamp (show i < 2 ^ 31 by omega)]
      rw [if_neg (nI_ge hi (by omega)), s_in, Option.bind_some, bI_t ((gs_39 _).mpr hg), if_neg (show ¬ ((1 : Int32), ()).1 = 0 by decide), g1, nI_1]
  unfold m_X6_takeWord
  constructor
  · intro hg
    refine lf (b_X6_takeWord_7 fu mL MR) (fun i x => x.1 = nI s ∧ x.2.1 = nI n ∧ x.2.2.1 = nI i ∧ x.2.2.2.1 = upd m 31 (nI n) ∧ x.2.2.2.2.1 = r ∧ Bf x.2.2.2.2.2 (wl (MR s) i)) n (fun o => ∃ w1, o = some (0, (upd m 31 (nI n), r, w1)) ∧ WM (upd m 31 (nI n)) w1 (wl (MR s) n)) ?_ ?_ fu 0 _ (Nat.zero_le _) (by omega) ⟨rfl, rfl, rfl, rfl, rfl, Bf_nil⟩
    · rintro i ⟨x1, x2, x3, x4, x5, x6⟩ k hi ⟨e1, e2, e3, e4, e5, e6⟩
      dsimp only at e1 e2 e3 e4 e5 e6
      subst e1 e2 e3 e4 e5
      obtain ⟨w2, a2, a3⟩ := step i x6 k hi (hg i hi) e6
      exact Or.inl ⟨_, ⟨rfl, rfl, rfl, rfl, rfl, a2⟩, a3⟩
    · rintro ⟨x1, x2, x3, x4, x5, x6⟩ k ⟨e1, e2, e3, e4, e5, e6⟩
      dsimp only at e1 e2 e3 e4 e5 e6
      subst e1 e2 e3 e4 e5
      refine ⟨x6, ?_, by rw [pk_us, wl_len], by rw [wl_len]; exact h12, e6, wl_lt hg⟩
      unfold b_X6_takeWord_7
      dsimp only
      rw [if_pos (nI_le (Nat.le_refl _) (by omega))]
  · intro j hj hbad hg
    refine lf (b_X6_takeWord_7 fu mL MR) (fun i x => x.1 = nI s ∧ x.2.1 = nI n ∧ x.2.2.1 = nI i ∧ x.2.2.2.1 = upd m 31 (nI n) ∧ x.2.2.2.2.1 = r ∧ Bf x.2.2.2.2.2 (wl (MR s) i)) j (fun o => ∃ w1, o = some (-5, (upd m 31 (nI n), upd r 5 (r 5 + 1), w1))) ?_ ?_ fu 0 _ (Nat.zero_le _) (by omega) ⟨rfl, rfl, rfl, rfl, rfl, Bf_nil⟩
    · rintro i ⟨x1, x2, x3, x4, x5, x6⟩ k hi ⟨e1, e2, e3, e4, e5, e6⟩
      dsimp only at e1 e2 e3 e4 e5 e6
      subst e1 e2 e3 e4 e5
      obtain ⟨w2, a2, a3⟩ := step i x6 k (by omega) (hg i hi) e6
      exact Or.inl ⟨_, ⟨rfl, rfl, rfl, rfl, rfl, a2⟩, a3⟩
    · rintro ⟨x1, x2, x3, x4, x5, x6⟩ k ⟨e1, e2, e3, e4, e5, e6⟩
      dsimp only at e1 e2 e3 e4 e5 e6
      subst e1 e2 e3 e4 e5
      refine ⟨x6, ?_⟩
      unfold b_X6_takeWord_7
      dsimp only
      have hi40 : inb (nI j) 40 := inb_n (by omega) (by decide)
      simp only [gd_t hb, gd_t hi40, nI_clamp (show s < 2 ^ 31 by omega), nI_clamp (show j < 2 ^ 31 by omega)]
      rw [if_neg (nI_ge hj (by omega)), s_in, Option.bind_some, bI_f (fun q => hbad ((gs_39 _).mp q)), if_pos rfl, (s_mref fu (upd m 31 (nI n)) mL x5).2.1, Option.bind_some]
/-- what a shelf holds, as both sides have it -/
theorem s_mbad {x : Int32} {fu : Nat} : m_X6_in fu x.toInt64 (0 : Int64) (7 : Int64) = some (bI (0 ≤ x ∧ x ≤ 7), ()) := by
  rw [show (0 : Int64) = (0 : Int32).toInt64 from rfl, show (7 : Int64) = (7 : Int32).toInt64 from rfl, s_in32]
theorem s_m12 {x : Int32} {fu : Nat} : m_X6_in fu x.toInt64 (0 : Int64) (12 : Int64) = some (bI (0 ≤ x ∧ x ≤ 12), ()) := by
  rw [show (0 : Int64) = (0 : Int32).toInt64 from rfl, show (12 : Int64) = (12 : Int32).toInt64 from rfl, s_in32]
theorem s_min {x y : Int32} {fu : Nat} : m_X6_in fu x.toInt64 (0 : Int64) y.toInt64 = some (bI (0 ≤ x ∧ x ≤ y), ()) := by
  rw [show (0 : Int64) = (0 : Int32).toInt64 from rfl, s_in32]
/-- both sides take a word and look at a row: the same refusal, or the same word -/
def Took (hd sz : Nat → Int32) (el : Nat → Int64) (rz : Nat → Int32) (MR : Nat → Nat → Int64) (r r' m : Nat → Int32) (s n p mX : Int32) (c : Int32) (r1 t1 s1 m1 r1' w1 : Nat → Int32) : Prop :=
  (∀ j, j ≠ 31 → m1 j = m j) ∧ (Ref2 r r' c r1 r1' ∨ (c = 0 ∧ r1 = r ∧ r1' = r' ∧ ∃ (s' p' a z : Nat) (l : List Nat), s' < 8 ∧ s = nI s' ∧ p' < 8 ∧ p = nI p' ∧ n = nI l.length ∧ WD t1 s1 l ∧ WM m1 w1 l ∧ mX = nI a ∧ sz p' = nI z ∧ rz p' = nI z ∧ z ≤ 40 ∧ a ≤ z ∧ (∀ i, i < z → el (p' * 40 + i) = MR p' i) ∧ ∀ i x, l[i]? = some x → MR s' i = lN x))
theorem s_take2 {fu nv : Nat} {hd sz : Nat → Int32} {el : Nat → Int64} {sh rs rz shn : Nat → Int32} {MR : Nat → Nat → Int64} (hfu : 5000 ≤ fu) (hnv : nv ≤ 8) (hR : RH nv hd sz el sh rs rz shn MR) (t r told snd m : Nat → Int32) (mL : Nat → Int64) (r' mw : Nat → Int32) (s n p mX ok l4 l5 l6 l7 : Int32)
    (hok : ¬ ok = 0 ↔ ((0 ≤ l4 ∧ l4 ≤ l5) ∧ ¬ l7 = 0)) (hm : ¬ ok = 0 → ∃ a : Nat, a ≤ 40 ∧ mX = nI a ∧ l6 * l4 = nI a) :
    ∃ c r1 t1 s1 m1 r1' w1, m_X5_takeWordAndRow fu t hd sz el r told snd s n p mX ok = some (c, (r1, t1, s1)) ∧ m_X6_noWords fu m mL sh rz MR r' mw s n p l4 l5 l6 l7 = some (c, (m1, r1', w1)) ∧ Took hd sz el rz MR r r' m s n p mX c r1 t1 s1 m1 r1' w1 ∧ (c = 0 → ¬ ok = 0) := by
  have R2 : Ref2 r r' (-2) (upd r 0 (r 0 + 1)) (upd r' 2 (r' 2 + 1)) := ⟨by decide, 0, by decide, rfl, rfl⟩
  have R3 : Ref2 r r' (-3) (upd r 1 (r 1 + 1)) (upd r' 3 (r' 3 + 1)) := ⟨by decide, 1, by decide, rfl, rfl⟩
  have R4 : Ref2 r r' (-4) (upd r 2 (r 2 + 1)) (upd r' 4 (r' 4 + 1)) := ⟨by decide, 2, by decide, rfl, rfl⟩
  have R5 : Ref2 r r' (-5) (upd r 3 (r 3 + 1)) (upd r' 5 (r' 5 + 1)) := ⟨by decide, 3, by decide, rfl, rfl⟩
  have X2 : b_X5_takeWordAndRow_29 fu t hd sz el r told snd = some (-2, (upd r 0 (r 0 + 1), told, snd)) := by unfold b_X5_takeWordAndRow_29; rw [(s_ref fu t r).1.1, Option.bind_some]
  have X3 : b_X5_takeWordAndRow_58 fu t hd sz el r told snd = some (-3, (upd r 1 (r 1 + 1), told, snd)) := by unfold b_X5_takeWordAndRow_58; rw [(s_ref fu t r).1.2.1, Option.bind_some]
  have X4 : b_X5_takeWordAndRow_87 fu t hd sz el r told snd = some (-4, (upd r 2 (r 2 + 1), told, snd)) := by unfold b_X5_takeWordAndRow_87; rw [(s_ref fu t r).1.2.2, Option.bind_some]
  have X1 : b_X5_takeWordAndRow_121 fu t hd sz el r told snd = some (-2, (upd r 0 (r 0 + 1), told, snd)) := by unfold b_X5_takeWordAndRow_121; rw [(s_ref fu t r).1.1, Option.bind_some]
  have M2 : b_X6_noWords_54 fu mL sh rz MR m r' mw = some (-2, (m, upd r' 2 (r' 2 + 1), mw)) := by unfold b_X6_noWords_54; rw [(s_mref fu m mL r').1.1, Option.bind_some]
  have M3 : b_X6_noWords_81 fu mL sh rz MR m r' mw = some (-3, (m, upd r' 3 (r' 3 + 1), mw)) := by unfold b_X6_noWords_81; rw [(s_mref fu m mL r').1.2.1, Option.bind_some]
  have M4 : b_X6_noWords_106 fu mL sh rz MR m r' mw = some (-4, (m, upd r' 4 (r' 4 + 1), mw)) := by unfold b_X6_noWords_106; rw [(s_mref fu m mL r').1.2.2, Option.bind_some]
  have M1 : b_X6_noWords_137 fu mL sh rz MR m r' mw = some (-2, (m, upd r' 2 (r' 2 + 1), mw)) := by unfold b_X6_noWords_137; rw [(s_mref fu m mL r').1.1, Option.bind_some]
  unfold m_X5_takeWordAndRow m_X6_noWords
  rw [X2, X3, X4, X1, M2, M3, M4, M1]
  simp only [s_isShelf, s_isWithin, s_mbad, s_m12, s_min, Option.bind_some]
  have bad : ∀ {a b}, a = some ((-2 : Int32), (upd r 0 (r 0 + 1), told, snd)) → b = some ((-2 : Int32), (m, upd r' 2 (r' 2 + 1), mw)) → ∃ c r1 t1 s1 m1 r1' w1, a = some (c, (r1, t1, s1)) ∧ b = some (c, (m1, r1', w1)) ∧ Took hd sz el rz MR r r' m s n p mX c r1 t1 s1 m1 r1' w1 ∧ (c = 0 → ¬ ok = 0) := fun ha hb => ⟨_, _, _, _, _, _, _, ha, hb, ⟨fun _ _ => rfl, Or.inl R2⟩, fun e => absurd e (by decide)⟩
  by_cases c1 : 0 ≤ s ∧ s ≤ 7
  case neg => exact bad (by rw [bI_f c1, if_pos rfl]) (by rw [bI_f c1, if_pos rfl])
  by_cases c2 : 0 ≤ n ∧ n ≤ 12
  case neg => exact bad (by rw [bI_t c1, if_neg (by decide), bI_f c2, if_pos rfl]) (by rw [bI_t c1, if_neg (by decide), bI_f c2, if_pos rfl])
  by_cases c3 : 0 ≤ p ∧ p ≤ 7
  case neg => exact bad (by rw [bI_t c1, if_neg (by decide), bI_t c2, if_neg (by decide), bI_f c3, if_pos rfl]) (by rw [bI_t c1, if_neg (by decide), bI_t c2, if_neg (by decide), bI_f c3, if_pos rfl])
  by_cases c4 : ok = 0
  · refine bad (by rw [bI_t c1, if_neg (by decide), bI_t c2, if_neg (by decide), bI_t c3, if_neg (by decide), if_pos c4]) ?_
    rw [bI_t c1, if_neg (by decide), bI_t c2, if_neg (by decide), bI_t c3, if_neg (by decide)]
    by_cases c5 : 0 ≤ l4 ∧ l4 ≤ l5
    · rw [bI_t c5, if_neg (by decide), if_pos (by
        refine Classical.byContradiction fun q => ?_
        exact (hok.mpr ⟨c5, q⟩) c4)]
    · rw [bI_f c5, if_pos rfl]
  obtain ⟨c5, c6⟩ := hok.mp c4
  obtain ⟨a, ha40, hma, hml⟩ := hm c4
  rw [bI_t c1, bI_t c2, bI_t c3, bI_t c5]
  simp only [show ¬ ((1 : Int32) = 0) by decide, if_false, if_neg c4, if_neg c6]
  obtain ⟨s', hs', rfl⟩ := i_0_7 c1
  obtain ⟨n', hn', rfl⟩ := i_rng (m := 12) (by decide) c2
  obtain ⟨p', hp', rfl⟩ := i_0_7 c3
  have hbs : inb (nI s') 8 := inb_n hs' (by decide)
  have hbp : inb (nI p') 8 := inb_n hp' (by decide)
  simp only [s_hasVoice hs', s_hasVoice hp', s_isBare hs', s_isBare hp', s_hasPlaces hs', s_hasPlaces hp', Option.bind_some, gd_t hbs, gd_t hbp, nI_clamp (show s' < 2 ^ 31 by omega), nI_clamp (show p' < 2 ^ 31 by omega)]
  have V10 : ∀ v : Nat, v < 20 → (10 : Int32) ≤ nI (10 + v) := fun v hv => nI_le (a := 10) (by omega) (by omega)
  have T10 : ∀ v : Nat, v ≤ 4 → ¬ (10 : Int32) ≤ nI v := fun v hv => nI_ge (b := 10) (by omega) (by decide)
  have N1 : ∀ v : Nat, v < 30 → ¬ nI v = (-1 : Int32) := fun v hv e => by
    have e2 := congrArg Int32.toInt e
    rw [nI_toInt (by omega)] at e2
    have : (-1 : Int32).toInt = -1 := by decide
    omega
  have other : ∀ {a b}, a = some ((-3 : Int32), (upd r 1 (r 1 + 1), told, snd)) → b = some ((-3 : Int32), (m, upd r' 3 (r' 3 + 1), mw)) → ∃ c r1 t1 s1 m1 r1' w1, a = some (c, (r1, t1, s1)) ∧ b = some (c, (m1, r1', w1)) ∧ Took hd sz el rz MR r r' m (nI s') (nI n') (nI p') mX c r1 t1 s1 m1 r1' w1 ∧ (c = 0 → ¬ ok = 0) := fun ha hb => ⟨_, _, _, _, _, _, _, ha, hb, ⟨fun _ _ => rfl, Or.inl R3⟩, fun e => absurd e (by decide)⟩
  have nothing : ∀ {a b}, a = some ((-4 : Int32), (upd r 2 (r 2 + 1), told, snd)) → b = some ((-4 : Int32), (m, upd r' 4 (r' 4 + 1), mw)) → ∃ c r1 t1 s1 m1 r1' w1, a = some (c, (r1, t1, s1)) ∧ b = some (c, (m1, r1', w1)) ∧ Took hd sz el rz MR r r' m (nI s') (nI n') (nI p') mX c r1 t1 s1 m1 r1' w1 ∧ (c = 0 → ¬ ok = 0) := fun ha hb => ⟨_, _, _, _, _, _, _, ha, hb, ⟨fun _ _ => rfl, Or.inl R4⟩, fun e => absurd e (by decide)⟩
  -- what the two shelves hold
  have sh2 : ∀ x, x < 8 → (10 ≤ hd x ↔ sh x = 2) ∧ (hd x = -1 ↔ sh x = 0) ∧ (¬ sh x = 2 → ¬ sh x = 0 → ∃ z, z ≤ 40 ∧ sz x = nI z ∧ rz x = nI z ∧ ∀ i, i < z → el (x * 40 + i) = MR x i) := by
    intro x hx
    rcases hR x hx with ⟨h1, h2, h3⟩ | ⟨tt, z, h1, h2, h3, h4, h5, h6, h7, h8⟩ | ⟨v, h1, h2, h3, h4, h5⟩
    · rw [h1, h3]
      exact ⟨⟨fun e => absurd e (by decide), fun e => absurd e (by decide)⟩, ⟨fun _ => rfl, fun _ => rfl⟩, fun _ e => absurd rfl e⟩
    · rw [h3, h5]
      exact ⟨⟨fun e => absurd e (T10 tt h1), fun e => absurd e (by decide)⟩, ⟨fun e => absurd e (N1 tt (by omega)), fun e => absurd e (by decide)⟩, fun _ _ => ⟨z, h2, h4, h7, h8⟩⟩
    · rw [h2, h4]
      exact ⟨⟨fun _ => rfl, fun _ => V10 v (by omega)⟩, ⟨fun e => absurd e (N1 (10 + v) (by omega)), fun e => absurd e (by decide)⟩, fun e => absurd rfl e⟩
  obtain ⟨hS2, hS0, hSr⟩ := sh2 s' hs'
  obtain ⟨hP2, hP0, hPr⟩ := sh2 p' hp'
  by_cases d1 : sh s' = 2
  · exact other (by rw [bI_t (hS2.mpr d1), if_neg (by decide)]) (by rw [if_pos d1])
  by_cases d2 : sh p' = 2
  · exact other (by rw [bI_f (fun e => d1 (hS2.mp e)), if_pos rfl, bI_t (hP2.mpr d2), if_neg (by decide)]) (by rw [if_neg d1, if_pos d2])
  by_cases d3 : sh s' = 0
  · exact nothing (by rw [bI_f (fun e => d1 (hS2.mp e)), if_pos rfl, bI_f (fun e => d2 (hP2.mp e)), if_pos rfl, bI_t (hS0.mpr d3), if_neg (by decide)]) (by rw [if_neg d1, if_neg d2, if_pos d3])
  by_cases d4 : sh p' = 0
  · exact nothing (by rw [bI_f (fun e => d1 (hS2.mp e)), if_pos rfl, bI_f (fun e => d2 (hP2.mp e)), if_pos rfl, bI_f (fun e => d3 (hS0.mp e)), if_pos rfl, bI_t (hP0.mpr d4), if_neg (by decide)]) (by rw [if_neg d1, if_neg d2, if_neg d3, if_pos d4])
  obtain ⟨zs, hz1, hz2, hz3, hz4⟩ := hSr d1 d3
  obtain ⟨zp, hy1, hy2, hy3, hy4⟩ := hPr d2 d4
  rw [bI_f (fun e => d1 (hS2.mp e)), if_pos rfl, bI_f (fun e => d2 (hP2.mp e)), if_pos rfl, bI_f (fun e => d3 (hS0.mp e)), if_pos rfl, bI_f (fun e => d4 (hP0.mp e)), if_pos rfl, if_neg d1, if_neg d2, if_neg d3, if_neg d4, hz2, hz3, hy2, hy3, hma, hml]
  by_cases d5 : n' ≤ zs
  case neg =>
    refine ⟨-2, upd r 0 (r 0 + 1), told, snd, m, upd r' 2 (r' 2 + 1), mw, ?_, ?_, ⟨fun _ _ => rfl, Or.inl R2⟩, fun e => absurd e (by decide)⟩
    · rw [bI_f (fun e => d5 ((hp_0 hz1 (by omega)).mp e)), if_pos rfl]
    · rw [if_pos (nI_lt (by omega) (by omega))]
  rw [bI_t ((hp_0 hz1 (by omega)).mpr d5), if_neg (by decide), if_neg (nI_nlt d5 (by omega))]
  by_cases d6 : a ≤ zp
  case neg =>
    refine ⟨-2, upd r 0 (r 0 + 1), told, snd, m, upd r' 2 (r' 2 + 1), mw, ?_, ?_, ⟨fun _ _ => rfl, Or.inl R2⟩, fun e => absurd e (by decide)⟩
    · rw [bI_f (fun e => d6 ((hp_0 hy1 ha40).mp e)), if_pos rfl]
    · rw [if_neg (nI_ge (by omega) (by omega))]
  rw [bI_t ((hp_0 hy1 ha40).mpr d6), if_neg (by decide), if_pos (nI_le d6 (by omega))]
  have hcl : m_X4_clear fu told = some (upd told 1 0) := rfl
  rw [hcl, Option.bind_some]
  obtain ⟨lx1, lx2⟩ := s_loopX (fu := fu) (t := t) (hd := hd) (r := r) (told := upd told 1 0) (snd := snd) hfu hs' hz2 hz1 d5 hn' hz4 pk_us
  obtain ⟨lm1, lm2⟩ := s_loopM (fu := fu) (m := m) (mL := mL) (MR := MR) (r := r') (mw := mw) hfu hs' hz1 d5 hn'
  by_cases g : ∀ i, i < n' → gs (MR s' i)
  · obtain ⟨t1, s1, h1, h2⟩ := lx1 g
    obtain ⟨w1, h3, h4⟩ := lm1 g
    refine ⟨0, r, t1, s1, upd m 31 (nI n'), r', w1, h1, by rw [h3, Option.bind_some], ⟨fun j hj => pk_un hj, Or.inr ⟨rfl, rfl, rfl, s', p', a, zp, wl (MR s') n', hs', rfl, hp', rfl, by rw [wl_len], h2, h4, rfl, hy2, hy3, hy1, d6, hy4, ?_⟩⟩, fun _ => c4⟩
    intro i x hx
    have hi : i < n' := by have := (List.getElem?_eq_some_iff.mp hx).1; rwa [wl_len] at this
    rw [wl_at hi] at hx
    cases hx
    exact (gs_w (g i hi)).2.2
  · obtain ⟨j, hj1, hj2⟩ := pk_least (fun j => j < n' ∧ ¬ gs (MR s' j)) (by
      refine Classical.byContradiction fun q => g fun i hi => ?_
      exact Classical.byContradiction fun q2 => q ⟨i, hi, q2⟩)
    have hall : ∀ i, i < j → gs (MR s' i) := fun i hi => Classical.byContradiction fun q => hj2 i hi ⟨by omega, q⟩
    obtain ⟨t1, s1, h1⟩ := lx2 j hj1.1 hj1.2 hall
    obtain ⟨w1, h3⟩ := lm2 j hj1.1 hj1.2 hall
    exact ⟨-5, _, t1, s1, upd m 31 (nI n'), _, w1, h1, by rw [h3, Option.bind_some], ⟨fun j hj => pk_un hj, Or.inl R5⟩, fun e => absurd e (by decide)⟩
