-- PURE 20: what to ask; a told log
/-- one word after the other: those of one sound, then those of two -/
def aw (nn k : Nat) : List Nat := if nn = 1 then [k] else [k / 40, k % 40]
def an (nn : Nat) : Nat := if nn = 1 then 40 else 1600
theorem aw_lt {nn k : Nat} (hk : k < an nn) : ∀ x ∈ aw nn k, x < 40 := by
  intro x hx
  unfold aw at hx
  unfold an at hk
  by_cases c : nn = 1
  · rw [if_pos c] at hx hk
    simp only [List.mem_cons, List.not_mem_nil, or_false] at hx
    omega
  · rw [if_neg c] at hx hk
    simp only [List.mem_cons, List.not_mem_nil, or_false] at hx
    omega
theorem s_add0 {fu x : Nat} {td ts : Nat → Int32} : ∃ t' g', m_X4_add fu (upd td 1 0) ts (nI x) = some (t', g') ∧ t' 1 = nI [x].length ∧ Bf g' [x] := s_add (l := []) pk_us (by decide) Bf_nil
theorem WD.one {t g : Nat → Int32} {x : Nat} (h1 : t 1 = nI [x].length) (h2 : Bf g [x]) (hx : x < 40) : WD t g [x] := ⟨h1, by show 1 ≤ 12; decide, h2, fun y hy => by simp only [List.mem_cons, List.not_mem_nil, or_false] at hy; omega⟩
theorem WD.two {t g : Nat → Int32} {x z : Nat} (h1 : t 1 = nI [x, z].length) (h2 : Bf g [x, z]) (hx : x < 40) (hz : z < 40) : WD t g [x, z] := ⟨h1, by show 2 ≤ 12; decide, h2, fun y hy => by simp only [List.mem_cons, List.not_mem_nil, or_false] at hy; omega⟩
section AskX
variable {fu k p d r y w q : Nat} {t now nk np : Nat → Int32} {K : (Int32 × (Nat → Int32) × (Nat → Int32) × (Nat → Int32) × (Nat → Int32)) → Option ((Nat → Int32) × (Nat → Int32) × (Nat → Int32) × (Nat → Int32))}
/-- the second sounds behind a first one -/
theorem s_ask2 {f e : Nat} (hfu : 5000 ≤ fu) (hf : f < 40) (he : e ≤ 40) (hno : ∀ j, j < e → ¬ wg k (pt k p y) d w q [f, j] = 1) {tr th td ts : Nat → Int32} (T : TR tr k p d r y w q) :
    (e = 40 → ∃ tr' th' td' ts', lfix (b_X5_findShortestYes_67 fu t now nk np K) fu (nI f, (0 : Int32), tr, th, td, ts) = K (nI (f + 1), tr', th', td', ts') ∧ TR tr' k p d r y w q) ∧
    (e < 40 → wg k (pt k p y) d w q [f, e] = 1 → ∃ tr' th' td' ts', lfix (b_X5_findShortestYes_67 fu t now nk np K) fu (nI f, (0 : Int32), tr, th, td, ts) = some (tr', th', td', ts') ∧ WD td' ts' [f, e]) := by
  have step : ∀ (i : Nat) (x3 x4 x5 x6 : Nat → Int32) K2, i < 40 → TR x3 k p d r y w q → ∃ t2 h2 d2 s2, TR t2 k p d r y w q ∧ WD d2 s2 [f, i] ∧ b_X5_findShortestYes_67 fu t now nk np K K2 (nI f, nI i, x3, x4, x5, x6) = if wg k (pt k p y) d w q [f, i] = 1 then some (t2, h2, d2, s2) else K2 (nI f, nI (i + 1), t2, h2, d2, s2) := by
    intro i x3 x4 x5 x6 K2 hi hT
    obtain ⟨t1, g1, a1, a2, a3⟩ := s_add0 (fu := fu) (x := f) (td := x5) (ts := x6)
    obtain ⟨t2, g2, b1, b2, b3⟩ := s_add (fu := fu) (x := i) (l := [f]) a2 (show 1 < 12 by decide) a3
    obtain ⟨t3, h3, c1, c2⟩ := s_weighs (fu := fu) (h := x4) hfu hT (WD.two (x := f) (z := i) b2 b3 hf hi)
    refine ⟨t3, h3, t2, g2, hT.sb c2, WD.two b2 b3 hf hi, ?_⟩
    unfold b_X5_findShortestYes_67 m_X4_clear
    dsimp only
    rw [if_neg (show ¬ (40 : Int32) ≤ nI i from nI_ge (b := 40) hi (by decide)), Option.bind_some, a1, Option.bind_some]
    dsimp only
    rw [b1, Option.bind_some]
    dsimp only
    rw [c1, Option.bind_some, nI_1]
  constructor
  · rintro rfl
    refine lf (b_X5_findShortestYes_67 fu t now nk np K) (fun i x => x.1 = nI f ∧ x.2.1 = nI i ∧ TR x.2.2.1 k p d r y w q) 40 (fun o => ∃ tr' th' td' ts', o = K (nI (f + 1), tr', th', td', ts') ∧ TR tr' k p d r y w q) ?_ ?_ fu 0 _ (Nat.zero_le _) (by omega) ⟨rfl, rfl, T⟩
    · rintro i ⟨x1, x2, x3, x4, x5, x6⟩ k2 hi ⟨e1, e2, e3⟩
      dsimp only at e1 e2 e3
      subst e1 e2
      obtain ⟨t2, h2, d2, s2, a1, a2, a3⟩ := step i x3 x4 x5 x6 k2 hi e3
      rw [if_neg (hno i hi)] at a3
      exact Or.inl ⟨_, ⟨rfl, rfl, a1⟩, a3⟩
    · rintro ⟨x1, x2, x3, x4, x5, x6⟩ k2 ⟨e1, e2, e3⟩
      dsimp only at e1 e2 e3
      subst e1 e2
      unfold b_X5_findShortestYes_67
      dsimp only
      rw [if_pos (show (40 : Int32) ≤ nI 40 by decide), nI_1]
      exact ⟨_, _, _, _, rfl, e3⟩
  · intro h1 h2
    refine lf (b_X5_findShortestYes_67 fu t now nk np K) (fun i x => x.1 = nI f ∧ x.2.1 = nI i ∧ TR x.2.2.1 k p d r y w q) e (fun o => ∃ tr' th' td' ts', o = some (tr', th', td', ts') ∧ WD td' ts' [f, e]) ?_ ?_ fu 0 _ (Nat.zero_le _) (by omega) ⟨rfl, rfl, T⟩
    · rintro i ⟨x1, x2, x3, x4, x5, x6⟩ k2 hi ⟨e1, e2, e3⟩
      dsimp only at e1 e2 e3
      subst e1 e2
      obtain ⟨t2, h2, d2, s2, a1, a2, a3⟩ := step i x3 x4 x5 x6 k2 (by omega) e3
      rw [if_neg (hno i hi)] at a3
      exact Or.inl ⟨_, ⟨rfl, rfl, a1⟩, a3⟩
    · rintro ⟨x1, x2, x3, x4, x5, x6⟩ k2 ⟨e1, e2, e3⟩
      dsimp only at e1 e2 e3
      subst e1 e2
      obtain ⟨t2, h2', d2, s2, a1, a2, a3⟩ := step e x3 x4 x5 x6 k2 h1 e3
      rw [if_pos h2] at a3
      exact ⟨_, _, _, _, a3, a2⟩
end AskX
/-- the shortest word that gets a yes, W; none: no sounds -/
def AS (P : List Nat → Prop) (W : List Nat) : Prop :=
  (∃ a, a < 40 ∧ P [a] ∧ (∀ j, j < a → ¬ P [j]) ∧ W = [a]) ∨ ((∀ j, j < 40 → ¬ P [j]) ∧ ((∃ a, a < 1600 ∧ P [a / 40, a % 40] ∧ (∀ j, j < a → ¬ P [j / 40, j % 40]) ∧ W = [a / 40, a % 40]) ∨ ((∀ j, j < 1600 → ¬ P [j / 40, j % 40]) ∧ W = [])))
theorem AS.ex (P : List Nat → Prop) : ∃ W, AS P W := by
  by_cases c : ∃ a, a < 40 ∧ P [a]
  · obtain ⟨a, ⟨h1, h2⟩, h3⟩ := pk_least (fun a => a < 40 ∧ P [a]) c
    exact ⟨_, Or.inl ⟨a, h1, h2, fun j hj q => h3 j hj ⟨by omega, q⟩, rfl⟩⟩
  · have c1 : ∀ j, j < 40 → ¬ P [j] := fun j hj q => c ⟨j, hj, q⟩
    by_cases c2 : ∃ a, a < 1600 ∧ P [a / 40, a % 40]
    · obtain ⟨a, ⟨h1, h2⟩, h3⟩ := pk_least (fun a => a < 1600 ∧ P [a / 40, a % 40]) c2
      exact ⟨_, Or.inr ⟨c1, Or.inl ⟨a, h1, h2, fun j hj q => h3 j hj ⟨by omega, q⟩, rfl⟩⟩⟩
    · exact ⟨[], Or.inr ⟨c1, Or.inr ⟨fun j hj q => c2 ⟨j, hj, q⟩, rfl⟩⟩⟩
theorem s_shortest {fu d r y w q n v : Nat} {ks as ps : Nat → Nat} {t now nk na np m mk mb mp tr th td ts : Nat → Int32} {W : List Nat} (hfu : 5000 ≤ fu) (hS : RS d r y w q n ks as ps now nk na np m mk mb mp) (hv : v < 8) (hW : AS (fun l => wg (ks v) (pt (ks v) (ps v) y) d w q l = 1) W) :
    ∃ tr' th' td' ts', m_X5_findShortestYes fu t now nk np tr th td ts (nI v) = some (tr', th', td', ts') ∧ WD td' ts' W := by
  obtain ⟨t0, e1, e2, -⟩ := s_standsFor (fu := fu) (t := tr) (v := v) hS hv
  unfold m_X5_findShortestYes
  rw [e1, Option.bind_some]
  have step : ∀ (i : Nat) (x2 x3 x4 x5 : Nat → Int32) K2, i < 40 → TR x2 (ks v) (ps v) d r y w q → ∃ t2 h2 d2 s2, TR t2 (ks v) (ps v) d r y w q ∧ WD d2 s2 [i] ∧ b_X5_findShortestYes_14 fu t now nk np K2 (nI i, x2, x3, x4, x5) = if wg (ks v) (pt (ks v) (ps v) y) d w q [i] = 1 then some (t2, h2, d2, s2) else K2 (nI (i + 1), t2, h2, d2, s2) := by
    intro i x2 x3 x4 x5 K2 hi hT
    obtain ⟨t1, g1, a1, a2, a3⟩ := s_add0 (fu := fu) (x := i) (td := x4) (ts := x5)
    obtain ⟨t3, h3, c1, c2⟩ := s_weighs (fu := fu) (h := x3) hfu hT (WD.one (x := i) a2 a3 hi)
    refine ⟨t3, h3, t1, g1, hT.sb c2, WD.one a2 a3 hi, ?_⟩
    unfold b_X5_findShortestYes_14 m_X4_clear
    dsimp only
    rw [if_neg (show ¬ (40 : Int32) ≤ nI i from nI_ge (b := 40) hi (by decide)), Option.bind_some, a1, Option.bind_some]
    dsimp only
    rw [c1, Option.bind_some, nI_1]
  rcases hW with ⟨a, ha, hp, hno, rfl⟩ | ⟨hno, hW⟩
  · refine lf (b_X5_findShortestYes_14 fu t now nk np) (fun i x => x.1 = nI i ∧ TR x.2.1 (ks v) (ps v) d r y w q) a (fun o => ∃ tr' th' td' ts', o = some (tr', th', td', ts') ∧ WD td' ts' [a]) ?_ ?_ fu 0 _ (Nat.zero_le _) (by omega) ⟨rfl, e2⟩
    · rintro i ⟨x1, x2, x3, x4, x5⟩ k2 hi ⟨u1, u2⟩
      dsimp only at u1 u2
      subst u1
      obtain ⟨t2, h2, d2, s2, a1, a2, a3⟩ := step i x2 x3 x4 x5 k2 (by omega) u2
      rw [if_neg (hno i hi)] at a3
      exact Or.inl ⟨_, ⟨rfl, a1⟩, a3⟩
    · rintro ⟨x1, x2, x3, x4, x5⟩ k2 ⟨u1, u2⟩
      dsimp only at u1 u2
      subst u1
      obtain ⟨t2, h2, d2, s2, a1, a2, a3⟩ := step a x2 x3 x4 x5 k2 ha u2
      rw [if_pos hp] at a3
      exact ⟨_, _, _, _, a3, a2⟩
  · refine lf (b_X5_findShortestYes_14 fu t now nk np) (fun i x => x.1 = nI i ∧ TR x.2.1 (ks v) (ps v) d r y w q) 40 (fun o => ∃ tr' th' td' ts', o = some (tr', th', td', ts') ∧ WD td' ts' W) ?_ ?_ fu 0 _ (Nat.zero_le _) (by omega) ⟨rfl, e2⟩
    · rintro i ⟨x1, x2, x3, x4, x5⟩ k2 hi ⟨u1, u2⟩
      dsimp only at u1 u2
      subst u1
      obtain ⟨t2, h2, d2, s2, a1, a2, a3⟩ := step i x2 x3 x4 x5 k2 (by omega) u2
      rw [if_neg (hno i hi)] at a3
      exact Or.inl ⟨_, ⟨rfl, a1⟩, a3⟩
    · rintro ⟨x1, x2, x3, x4, x5⟩ k2 ⟨u1, u2⟩
      dsimp only at u1 u2
      subst u1
      unfold b_X5_findShortestYes_14
      dsimp only
      rw [if_pos (show (40 : Int32) ≤ nI 40 by decide)]
      rcases hW with ⟨a, ha, hp, hno2, rfl⟩ | ⟨hno2, rfl⟩
      · refine lf (b_X5_findShortestYes_59 fu t now nk np) (fun i x => x.1 = nI i ∧ TR x.2.1 (ks v) (ps v) d r y w q) (a / 40) (fun o => ∃ tr' th' td' ts', o = some (tr', th', td', ts') ∧ WD td' ts' [a / 40, a % 40]) ?_ ?_ fu 0 _ (Nat.zero_le _) (by omega) ⟨rfl, u2⟩
        · rintro i ⟨z1, z2, z3, z4, z5⟩ k3 hi ⟨w1, w2⟩
          dsimp only at w1 w2
          subst w1
          obtain ⟨tr', th', td', ts', a3, a4⟩ := (s_ask2 (t := t) (now := now) (nk := nk) (np := np) (K := k3) (f := i) (e := 40) (th := z3) (td := z4) (ts := z5) hfu (by omega) (Nat.le_refl _) (fun j hj => by
            have := hno2 (i * 40 + j) (by omega)
            rwa [show (i * 40 + j) / 40 = i by omega, show (i * 40 + j) % 40 = j by omega] at this) w2).1 rfl
          left
          unfold b_X5_findShortestYes_59
          dsimp only
          rw [if_neg (show ¬ (40 : Int32) ≤ nI i from nI_ge (b := 40) (by omega) (by decide)), a3]
          exact ⟨_, ⟨rfl, a4⟩, rfl⟩
        · rintro ⟨z1, z2, z3, z4, z5⟩ k3 ⟨w1, w2⟩
          dsimp only at w1 w2
          subst w1
          obtain ⟨tr', th', td', ts', a3, a4⟩ := (s_ask2 (t := t) (now := now) (nk := nk) (np := np) (K := k3) (f := a / 40) (e := a % 40) (th := z3) (td := z4) (ts := z5) hfu (by omega) (by omega) (fun j hj => by
            have := hno2 (a / 40 * 40 + j) (by omega)
            rwa [show (a / 40 * 40 + j) / 40 = a / 40 by omega, show (a / 40 * 40 + j) % 40 = j by omega] at this) w2).2 (by omega) hp
          unfold b_X5_findShortestYes_59
          dsimp only
          rw [if_neg (show ¬ (40 : Int32) ≤ nI (a / 40) from nI_ge (b := 40) (by omega) (by decide)), a3]
          exact ⟨_, _, _, _, rfl, a4⟩
      · refine lf (b_X5_findShortestYes_59 fu t now nk np) (fun i x => x.1 = nI i ∧ TR x.2.1 (ks v) (ps v) d r y w q) 40 (fun o => ∃ tr' th' td' ts', o = some (tr', th', td', ts') ∧ WD td' ts' []) ?_ ?_ fu 0 _ (Nat.zero_le _) (by omega) ⟨rfl, u2⟩
        · rintro i ⟨z1, z2, z3, z4, z5⟩ k3 hi ⟨w1, w2⟩
          dsimp only at w1 w2
          subst w1
          obtain ⟨tr', th', td', ts', a3, a4⟩ := (s_ask2 (t := t) (now := now) (nk := nk) (np := np) (K := k3) (f := i) (e := 40) (th := z3) (td := z4) (ts := z5) hfu (by omega) (Nat.le_refl _) (fun j hj => by
            have := hno2 (i * 40 + j) (by omega)
            rwa [show (i * 40 + j) / 40 = i by omega, show (i * 40 + j) % 40 = j by omega] at this) w2).1 rfl
          left
          unfold b_X5_findShortestYes_59
          dsimp only
          rw [if_neg (show ¬ (40 : Int32) ≤ nI i from nI_ge (b := 40) (by omega) (by decide)), a3]
          exact ⟨_, ⟨rfl, a4⟩, rfl⟩
        · rintro ⟨z1, z2, z3, z4, z5⟩ k3 ⟨w1, w2⟩
          dsimp only at w1 w2
          subst w1
          unfold b_X5_findShortestYes_59 m_X4_clear
          dsimp only
          rw [if_pos (show (40 : Int32) ≤ nI 40 by decide), Option.bind_some]
          exact ⟨_, _, _, _, rfl, pk_us, by decide, Bf_nil, fun x hx => absurd hx (by simp)⟩
/-- the reference looks for it by one number -/
theorem s_finds {fu v k p d y w q nn : Nat} {m mk mp mw mh : Nat → Int32} {mL : Nat → Int64} (hfu : 5000 ≤ fu) (hn : nn = 1 ∨ nn = 2) (T : MT m mk mp v k p d y w q) :
    (∀ a, a < an nn → wg k (pt k p y) d w q (aw nn a) = 1 → (∀ j, j < a → ¬ wg k (pt k p y) d w q (aw nn j) = 1) → ∃ m' w' h', m_X6_finds fu m mL mk mp mw mh (nI v) (nI nn) = some (1, (m', w', h')) ∧ m' 40 = nI nn ∧ Bf w' (aw nn a) ∧ ∀ j, j < 31 → m' j = m j) ∧
    ((∀ j, j < an nn → ¬ wg k (pt k p y) d w q (aw nn j) = 1) → ∃ m' w' h', m_X6_finds fu m mL mk mp mw mh (nI v) (nI nn) = some (0, (m', w', h')) ∧ m' 40 = m 40 ∧ ∀ j, j < 31 → m' j = m j) := by
  have hN : an nn ≤ 1600 := by unfold an; split <;> omega
  have T1 : MT (upd m 31 (nI nn)) mk mp v k p d y w q := by
    obtain ⟨b0, b1, b2, b3, b4, b5, b6, b7⟩ := T
    exact ⟨b0, b1, b2, (pk_un (by decide)).trans b3, (pk_un (by decide)).trans b4, (pk_un (by decide)).trans b5, (pk_un (by decide)).trans b6, b7⟩
  have step : ∀ (i : Nat) (x4 x5 x6 : Nat → Int32) K2, i < an nn → SM (upd m 31 (nI nn)) x4 → ∃ m2 w2 h2, SM (upd m 31 (nI nn)) m2 ∧ Bf w2 (aw nn i) ∧ b_X6_finds_7 fu mL mk mp K2 (nI v, nI nn, nI i, x4, x5, x6) = if wg k (pt k p y) d w q (aw nn i) = 1 then some (1, (upd m2 40 (nI nn), w2, h2)) else K2 (nI v, nI nn, nI (i + 1), m2, w2, h2) := by
    intro i x4 x5 x6 K2 hi hs
    have hw : ∃ w2, Bf w2 (aw nn i) ∧ (aw nn i).length = nn ∧ ∀ K3 : (Nat → Int32) → Option (Int32 × ((Nat → Int32) × (Nat → Int32) × (Nat → Int32))), (if nI nn = (1 : Int32) then K3 (upd (upd x5 0 (nI i)) 1 (nI (i % 40))) else K3 (upd (upd x5 0 (nI (i / 40))) 1 (nI (i % 40)))) = K3 w2 := by
      rcases hn with rfl | rfl
      · refine ⟨upd (upd x5 0 (nI i)) 1 (nI (i % 40)), ?_, rfl, fun K3 => if_pos rfl⟩
        intro j x hj
        match j with
        | 0 => cases hj; rfl
        | j + 1 => cases hj
      · refine ⟨upd (upd x5 0 (nI (i / 40))) 1 (nI (i % 40)), ?_, rfl, fun K3 => if_neg (by decide)⟩
        intro j x hj
        match j with
        | 0 => cases hj; rfl
        | 1 => cases hj; rfl
        | j + 2 => cases hj
    obtain ⟨w2, hw1, hw2, hw3⟩ := hw
    obtain ⟨m2, h2, a1, a2⟩ := s_gets (fu := fu) (mL := mL) (h := x6) hfu (T1.sm hs) (l := aw nn i) (mw := w2) ⟨(hs 31 (by decide)).trans (pk_us.trans (by rw [hw2])), by rw [hw2]; omega, hw1, aw_lt hi⟩
    refine ⟨m2, w2, h2, hs.tr a2, hw1, ?_⟩
    unfold b_X6_finds_7 b_X6_finds_21 b_X6_finds_42
    dsimp only
    have e0 : ((0 : Int32)).toNatClampNeg = 0 := rfl
    have e1 : ((1 : Int32)).toNatClampNeg = 1 := rfl
    have i0 : inb (0 : Int32) 12 := inb_n (n := 0) (by decide) (by decide)
    have i1 : inb (1 : Int32) 12 := inb_n (n := 1) (by decide) (by decide)
    have hd : nI i / (40 : Int32) = nI (i / 40) := pk_div (d := 40) (by omega) (by decide) (by decide)
    have hr : nI i - nI i / (40 : Int32) * (40 : Int32) = nI (i % 40) := pk_rem (d := 40) (by omega) (by decide) (by decide)
    have fin : (m_X6_gets fu x4 mL mk mp w2 x6 (nI v)).bind (fun o4 => if o4.1 = 0 then K2 (nI v, nI nn, nI i + 1, o4.2.1, w2, o4.2.2) else some ((1 : Int32), ((upd o4.2.1 40 (nI nn)), w2, o4.2.2))) = if wg k (pt k p y) d w q (aw nn i) = 1 then some (1, (upd m2 40 (nI nn), w2, h2)) else K2 (nI v, nI nn, nI (i + 1), m2, w2, h2) := by
      rw [a1, Option.bind_some, nI_1]
      dsimp only
      by_cases c : wg k (pt k p y) d w q (aw nn i) = 1
      · rw [bI_t c, if_neg n10, if_pos c]
      · rw [bI_f c, if_pos p00, if_neg c]
    rw [hr, hd]
    simp only [gd_t i0, gd_t i1, e0, e1]
    rw [← fin]
    rcases hn with rfl | rfl
    · rw [if_pos (show nI 1 = (1 : Int32) from rfl), if_neg (show ¬ (40 : Int32) ≤ nI i from nI_ge (b := 40) hi (by decide))]
      exact hw3 (fun ww => (m_X6_gets fu x4 mL mk mp ww x6 (nI v)).bind (fun o4 => if o4.1 = 0 then K2 (nI v, nI 1, nI i + 1, o4.2.1, ww, o4.2.2) else some ((1 : Int32), ((upd o4.2.1 40 (nI 1)), ww, o4.2.2))))
    · rw [if_neg (show ¬ nI 2 = (1 : Int32) by decide), if_neg (show ¬ (1600 : Int32) ≤ nI i from nI_ge (b := 1600) hi (by decide))]
      exact hw3 (fun ww => (m_X6_gets fu x4 mL mk mp ww x6 (nI v)).bind (fun o4 => if o4.1 = 0 then K2 (nI v, nI 2, nI i + 1, o4.2.1, ww, o4.2.2) else some ((1 : Int32), ((upd o4.2.1 40 (nI 2)), ww, o4.2.2))))
  unfold m_X6_finds
  constructor
  · intro a ha hp hno
    refine lf (b_X6_finds_7 fu mL mk mp) (fun i x => x.1 = nI v ∧ x.2.1 = nI nn ∧ x.2.2.1 = nI i ∧ SM (upd m 31 (nI nn)) x.2.2.2.1) a (fun o => ∃ m' w' h', o = some (1, (m', w', h')) ∧ m' 40 = nI nn ∧ Bf w' (aw nn a) ∧ ∀ j, j < 31 → m' j = m j) ?_ ?_ fu 0 _ (Nat.zero_le _) (by omega) ⟨rfl, rfl, rfl, SM.rf⟩
    · rintro i ⟨x1, x2, x3, x4, x5, x6⟩ k2 hi ⟨u1, u2, u3, u4⟩
      dsimp only at u1 u2 u3 u4
      subst u1 u2 u3
      obtain ⟨m2, w2, h2, a1, a2, a3⟩ := step i x4 x5 x6 k2 (by omega) u4
      rw [if_neg (hno i hi)] at a3
      exact Or.inl ⟨_, ⟨rfl, rfl, rfl, a1⟩, a3⟩
    · rintro ⟨x1, x2, x3, x4, x5, x6⟩ k2 ⟨u1, u2, u3, u4⟩
      dsimp only at u1 u2 u3 u4
      subst u1 u2 u3
      obtain ⟨m2, w2, h2, a1, a2, a3⟩ := step a x4 x5 x6 k2 ha u4
      rw [if_pos hp] at a3
      exact ⟨_, _, _, a3, pk_us, a2, fun j hj => (pk_un (by omega)).trans ((a1 j (by omega)).trans (pk_un (by omega)))⟩
  · intro hno
    refine lf (b_X6_finds_7 fu mL mk mp) (fun i x => x.1 = nI v ∧ x.2.1 = nI nn ∧ x.2.2.1 = nI i ∧ SM (upd m 31 (nI nn)) x.2.2.2.1) (an nn) (fun o => ∃ m' w' h', o = some (0, (m', w', h')) ∧ m' 40 = m 40 ∧ ∀ j, j < 31 → m' j = m j) ?_ ?_ fu 0 _ (Nat.zero_le _) (by omega) ⟨rfl, rfl, rfl, SM.rf⟩
    · rintro i ⟨x1, x2, x3, x4, x5, x6⟩ k2 hi ⟨u1, u2, u3, u4⟩
      dsimp only at u1 u2 u3 u4
      subst u1 u2 u3
      obtain ⟨m2, w2, h2, a1, a2, a3⟩ := step i x4 x5 x6 k2 hi u4
      rw [if_neg (hno i hi)] at a3
      exact Or.inl ⟨_, ⟨rfl, rfl, rfl, a1⟩, a3⟩
    · rintro ⟨x1, x2, x3, x4, x5, x6⟩ k2 ⟨u1, u2, u3, u4⟩
      dsimp only at u1 u2 u3 u4
      subst u1 u2 u3
      unfold b_X6_finds_7 b_X6_finds_21
      dsimp only
      refine ⟨x4, x5, x6, ?_, (u4 40 (by decide)).trans (pk_un (by decide)), fun j hj => (u4 j (by omega)).trans (pk_un (by omega))⟩
      rcases hn with rfl | rfl
      · rw [if_pos (show nI 1 = (1 : Int32) from rfl), if_pos (show (40 : Int32) ≤ nI (an 1) by decide)]
      · rw [if_neg (show ¬ nI 2 = (1 : Int32) by decide), if_pos (show (1600 : Int32) ≤ nI (an 2) by decide)]
