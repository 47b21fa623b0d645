-- PURE 19: depths that get a yes; the weights and depths by which most do
theorem nI_m1 {i : Nat} (h : i < 2 ^ 31) : ¬ nI i = (-1 : Int32) := fun e => by
  have e2 := congrArg Int32.toInt e
  rw [nI_toInt h, tm1] at e2
  omega
def fi (f : Nat → Bool) : Nat → Int32
  | 0 => -1
  | n + 1 => if fi f n = -1 ∧ f n = true then nI n else fi f n
def gr (f : Nat → Bool) : Nat → Int32
  | 0 => -1
  | n + 1 => if f n = true then nI n else gr f n
theorem fi_none {f : Nat → Bool} : ∀ n, (∀ j, j < n → ¬ f j = true) → fi f n = -1 := by
  intro n
  induction n with
  | zero => intro _; rfl
  | succ n ih =>
    intro h
    show (if fi f n = -1 ∧ f n = true then nI n else fi f n) = -1
    rw [if_neg (fun q => h n (by omega) q.2)]
    exact ih (fun j hj => h j (by omega))
theorem fi_at {f : Nat → Bool} {i : Nat} (h : ∀ j, j < i → ¬ f j = true) (hi : f i = true) : ∀ n, i < n → n < 2 ^ 31 → fi f n = nI i := by
  intro n
  induction n with
  | zero => intro q; omega
  | succ n ih =>
    intro h1 h2
    show (if fi f n = -1 ∧ f n = true then nI n else fi f n) = nI i
    rcases Nat.lt_or_ge i n with c | c
    · have e := ih c (by omega)
      rw [e, if_neg (fun q => nI_m1 (by omega) q.1)]
    · have : i = n := by omega
      subst this
      rw [if_pos ⟨fi_none i h, hi⟩]
theorem gr_none {f : Nat → Bool} : ∀ n, (∀ j, j < n → ¬ f j = true) → gr f n = -1 := by
  intro n
  induction n with
  | zero => intro _; rfl
  | succ n ih =>
    intro h
    show (if f n = true then nI n else gr f n) = -1
    rw [if_neg (h n (by omega))]
    exact ih (fun j hj => h j (by omega))
theorem gr_at {f : Nat → Bool} {i : Nat} (hi : f i = true) : ∀ n, (∀ j, i < j → j < n → ¬ f j = true) → i < n → gr f n = nI i := by
  intro n
  induction n with
  | zero => intro _ q; omega
  | succ n ih =>
    intro h h1
    show (if f n = true then nI n else gr f n) = nI i
    rcases Nat.lt_or_ge i n with c | c
    · rw [if_neg (h n c (by omega))]
      exact ih (fun j h2 h3 => h j h2 (by omega)) c
    · have : i = n := by omega
      subst this
      rw [if_pos hi]
def tw (f : Nat → Bool) (a : Nat) : Int32 := if a = 0 then nI (cnt f 41) else if a = 1 then fi f 41 else gr f 41
theorem tw_0 {f : Nat → Bool} : tw f 0 = nI (cnt f 41) := by unfold tw; rw [if_pos rfl]
theorem tw_1 {f : Nat → Bool} : tw f 1 = fi f 41 := by unfold tw; rw [if_neg (by decide), if_pos rfl]
theorem tw_2 {f : Nat → Bool} : tw f 2 = gr f 41 := by unfold tw; rw [if_neg (by decide), if_neg (by decide)]
theorem s_tellOf {fu a : Nat} {f : Nat → Bool} (hfu : 5000 ≤ fu) (ha : a ≤ 2) : m_X5_tellOf fu (lN (bs f 41)) (nI a) = some (tw f a, ()) := by
  unfold m_X5_tellOf
  rcases (show a = 0 ∨ a = 1 ∨ a = 2 by omega) with rfl | rfl | rfl
  · rw [if_pos (show nI 0 = 0 from rfl), s_countB, Option.bind_some, tw_0]
  · rw [if_neg (show ¬ nI 1 = 0 by decide)]
    refine lf (b_X5_tellOf_11 fu) (fun i x => x.1 = lN (bs f 41) ∧ x.2.1 = nI 1 ∧ x.2.2 = nI i ∧ ∀ j, j < i → ¬ f j = true) 41 (fun o => o = some (tw f 1, ())) ?_ ?_ fu 0 _ (Nat.zero_le _) (by omega) ⟨rfl, rfl, rfl, fun j hj => absurd hj (by omega)⟩
    · rintro i ⟨x1, x2, x3⟩ k hi ⟨e1, e2, e3, e4⟩
      dsimp only at e1 e2 e3 e4
      subst e1 e2 e3
      unfold b_X5_tellOf_11 b_X5_tellOf_30
      dsimp only
      rw [if_neg (show ¬ (40 : Int32) < nI i from nI_nlt (a := 40) (by omega) (by decide)), if_pos (show nI 1 = (1 : Int32) from rfl), s_isInB hi, Option.bind_some]
      dsimp only
      by_cases c : f i = true
      · rw [bI_t c, if_neg n10]
        right
        rw [tw_1, fi_at e4 c 41 hi (by decide)]
      · rw [bI_f c, if_pos p00, nI_1]
        exact Or.inl ⟨_, ⟨rfl, rfl, rfl, fun j hj => by
          rcases Nat.lt_or_ge j i with q | q
          · exact e4 j q
          · have : j = i := by omega
            subst this; exact c⟩, rfl⟩
    · rintro ⟨x1, x2, x3⟩ k ⟨e1, e2, e3, e4⟩
      dsimp only at e1 e2 e3 e4
      subst e1 e2 e3
      unfold b_X5_tellOf_11
      dsimp only
      rw [if_pos (show (40 : Int32) < nI 41 by decide), tw_1, fi_none 41 e4]
  · rw [if_neg (show ¬ nI 2 = 0 by decide)]
    refine lf (b_X5_tellOf_11 fu) (fun i x => x.1 = lN (bs f 41) ∧ x.2.1 = nI 2 ∧ x.2.2 = nI i ∧ ∀ j, 41 ≤ j + i → j < 41 → ¬ f j = true) 41 (fun o => o = some (tw f 2, ())) ?_ ?_ fu 0 _ (Nat.zero_le _) (by omega) ⟨rfl, rfl, rfl, fun j h1 h2 => absurd h1 (by omega)⟩
    · rintro i ⟨x1, x2, x3⟩ k hi ⟨e1, e2, e3, e4⟩
      dsimp only at e1 e2 e3 e4
      subst e1 e2 e3
      unfold b_X5_tellOf_11 b_X5_tellOf_30
      dsimp only
      rw [if_neg (show ¬ (40 : Int32) < nI i from nI_nlt (a := 40) (by omega) (by decide)), if_neg (show ¬ nI 2 = (1 : Int32) by decide), show (40 : Int32) - nI i = nI (40 - i) from pk_sub (a := 40) (by omega), s_isInB (show 40 - i < 41 by omega), Option.bind_some]
      dsimp only
      by_cases c : f (40 - i) = true
      · rw [bI_t c, if_neg n10]
        right
        rw [tw_2, gr_at c 41 (fun j h1 h2 => e4 j (by omega) h2) (by omega)]
      · rw [bI_f c, if_pos p00, nI_1]
        exact Or.inl ⟨_, ⟨rfl, rfl, rfl, fun j h1 h2 => by
          rcases Nat.lt_or_ge (j + i) 41 with q | q
          · have : j = 40 - i := by omega
            subst this; exact c
          · exact e4 j q h2⟩, rfl⟩
    · rintro ⟨x1, x2, x3⟩ k ⟨e1, e2, e3, e4⟩
      dsimp only at e1 e2 e3 e4
      subst e1 e2 e3
      unfold b_X5_tellOf_11
      dsimp only
      rw [if_pos (show (40 : Int32) < nI 41 by decide), tw_2, gr_none 41 (fun j hj => e4 j (by omega) hj)]
/-- depths by which a voice gets a yes -/
def dys (k p y w q : Nat) (l : List Nat) : Nat → Bool := fun d => decide (wg k (pt k p y) d w q l = 1)
theorem s_depthsOfYes {fu d r y w q n v : Nat} {ks as ps : Nat → Nat} {t now nk na np m mk mb mp tr th f g : Nat → Int32} {l : List Nat} (hfu : 5000 ≤ fu) (hS : RS d r y w q n ks as ps now nk na np m mk mb mp) (hv : v < 8) (Wd : WD f g l) :
    ∃ t' h' d', m_X5_depthsOfYes fu t now nk np tr th f g (nI v) = some (lN (bs (dys (ks v) (ps v) y w q l) 41), (t', h')) ∧ TR t' (ks v) (ps v) d' r y w q := by
  obtain ⟨t0, e1, e2, -⟩ := s_standsFor (fu := fu) (t := tr) (v := v) hS hv
  unfold m_X5_depthsOfYes
  rw [e1, Option.bind_some]
  refine lf (b_X5_depthsOfYes_17 fu t now nk np f g) (fun i x => x.1 = lN (bs (dys (ks v) (ps v) y w q l) i) ∧ x.2.1 = nI i ∧ ∃ d', TR x.2.2.1 (ks v) (ps v) d' r y w q) 41 (fun o => ∃ t' h' d', o = some (lN (bs (dys (ks v) (ps v) y w q l) 41), (t', h')) ∧ TR t' (ks v) (ps v) d' r y w q) ?_ ?_ fu 0 _ (Nat.zero_le _) (by omega) ⟨rfl, rfl, d, e2⟩
  · rintro i ⟨x1, x2, x3, x4⟩ k hi ⟨u1, u2, d', u3⟩
    dsimp only at u1 u2 u3
    subst u1 u2
    have hb : bs (dys (ks v) (ps v) y w q l) i < 2 ^ 64 := Nat.lt_of_lt_of_le bs_lt (Nat.pow_le_pow_right (by decide) (by omega))
    obtain ⟨t2, h2, a1, a2⟩ := s_weighs (fu := fu) (h := x4) hfu (u3.depth (d' := i) (by omega)) Wd
    left
    unfold b_X5_depthsOfYes_17 b_X5_depthsOfYes_55
    dsimp only
    rw [if_neg (show ¬ (40 : Int32) < nI i from nI_nlt (a := 40) (by omega) (by decide)), a1, Option.bind_some, nI_1]
    dsimp only
    by_cases c : wg (ks v) (pt (ks v) (ps v) y) i w q l = 1
    · rw [if_pos c, bs_or hb (by omega), ← bs_t (f := dys (ks v) (ps v) y w q l) (show dys (ks v) (ps v) y w q l i = true from decide_eq_true c)]
      exact ⟨(_, _, t2, h2), ⟨rfl, rfl, i, (u3.depth (by omega)).sb a2⟩, rfl⟩
    · rw [if_neg c]
      exact ⟨(_, _, t2, h2), ⟨by rw [bs_f (show ¬ dys (ks v) (ps v) y w q l i = true from fun e => c (of_decide_eq_true e))], rfl, i, (u3.depth (by omega)).sb a2⟩, rfl⟩
  · rintro ⟨x1, x2, x3, x4⟩ k ⟨u1, u2, d', u3⟩
    dsimp only at u1 u2 u3
    subst u1 u2
    unfold b_X5_depthsOfYes_17
    dsimp only
    rw [if_pos (show (40 : Int32) < nI 41 by decide)]
    exact ⟨x3, x4, d', rfl, u3⟩
/-- the reference's well while depths are tried -/
theorem MT.at {m0 m mk mp : Nat → Int32} {v k p d y w q i : Nat} (h : MT m0 mk mp v k p d y w q) (c : KP m0 m) (h9 : m 9 = nI i) (hi : i ≤ 40) (h11 : m 11 = m0 11) : MT m mk mp v k p i y w q := h.kp c h9 hi (h11.trans h.2.2.2.2.1) h.2.2.2.2.2.2.2.2.2.2.1
theorem fi_s {f : Nat → Bool} {n : Nat} : fi f (n + 1) = if fi f n = -1 ∧ f n = true then nI n else fi f n := rfl
theorem gr_s {f : Nat → Bool} {n : Nat} : gr f (n + 1) = if f n = true then nI n else gr f n := rfl
