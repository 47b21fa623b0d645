-- PURE 28: the whole tape is read on both sides
def KZ (m m' : Nat → Int32) : Prop := ∀ j, (j < 9 ∨ (17 ≤ j ∧ j < 20)) → m' j = m j
theorem KS.kz {m m' : Nat → Int32} (h : KS m m') : KZ m m' := fun j hj => h j (by omega)
theorem KZ.tr {a b c : Nat → Int32} (h : KZ a b) (h2 : KZ b c) : KZ a c := fun j hj => (h2 j hj).trans (h j hj)
abbrev oS := Option (Int32 × ((Nat → Int32) × (Nat → Int32) × (Nat → Int32) × (Nat → Int32) × (Nat → Int32)))
/-- both find the fault at the same place, or both come to the same -/
def BR (N0 z : Nat) (m : Nat → Int32) (o o' : oS) : Prop :=
  (∃ t' x1 x2 x3 x4 m' y1 y2 y3 told' F, o = some (-1, (t', x1, x2, x3, x4)) ∧ t' 2 = nI F ∧ t' 1 = nI z ∧ o' = some (0, (m', y1, y2, y3, told')) ∧ m' 27 = nI F ∧ KZ m m') ∨
  (∃ t' x1 x2 x3 x4 m' y1 y2 y3 told' c, o = some (nI c, (t', x1, x2, x3, x4)) ∧ c ≤ 250 ∧ t' 1 = nI z ∧ o' = some (1, (m', y1, y2, y3, told')) ∧ m' 29 = nI c ∧ SR N0 x1 x2 x3 x4 m' y1 y2 y3 ∧ KZ m m')
theorem BR.kz {N0 z : Nat} {m m0 : Nat → Int32} {o o' : oS} (h : BR N0 z m o o') (k : KZ m0 m) : BR N0 z m0 o o' := by
  rcases h with ⟨t', x1, x2, x3, x4, m', y1, y2, y3, told', F, h1, h2, h3, h4, h5, h6⟩ | ⟨t', x1, x2, x3, x4, m', y1, y2, y3, told', c, h1, h2, h3, h4, h5, h6, h7⟩
  · exact Or.inl ⟨t', x1, x2, x3, x4, m', y1, y2, y3, told', F, h1, h2, h3, h4, h5, k.tr h6⟩
  · exact Or.inr ⟨t', x1, x2, x3, x4, m', y1, y2, y3, told', c, h1, h2, h3, h4, h5, h6, k.tr h7⟩
/-- what comes behind a statement in the class -/
def aft (fu : Nat) (bytes : Nat → Int32) (K : (Int32 × (Nat → Int32) × (Nat → Int32) × (Nat → Int32) × (Nat → Int32) × (Nat → Int32)) → oS) (i : Int32) (t x1 x2 x3 x4 : Nat → Int32) : oS :=
  (m_X2_step fu t bytes).bind fun o7 => (if o7 4 = 0 then some (i, (o7, x1, x2, x3, x4)) else (if o7 4 = (3 : Int32) then K ((i + (1 : Int32)), o7, x1, x2, x3, x4) else some ((-1 : Int32), (o7, x1, x2, x3, x4))))
/-- a statement and what comes behind it, both from one place on -/
theorem s_round {N0 fu z p i : Nat} {B : Nat → Nat} {t bytes mt m told now nk na np mk mb mp : Nat → Int32} {mL : Nat → Int64} {KX : (Int32 × (Nat → Int32) × (Nat → Int32) × (Nat → Int32) × (Nat → Int32) × (Nat → Int32)) → oS} {KM : (Nat → Int32) × (Nat → Int32) × (Nat → Int32) × (Nat → Int32) × (Nat → Int32) → oS} (hfu : 5000 ≤ fu) (hT : TB B z bytes mt) (h1 : t 1 = nI z) (h3 : t 3 = nI p) (h7 : m 7 = nI z) (h23 : m 23 = nI p) (hp : p ≤ z) (hi : i ≤ 250) (hR : SR N0 now nk na np m mk mb mp)
    (next : ∀ t' x1 x2 x3 x4 m' y1 y2 y3 told' p', t' 1 = nI z → t' 3 = nI p' → p < p' → p' ≤ z → LK B z p' m' → SR N0 x1 x2 x3 x4 m' y1 y2 y3 → KS m m' → BR N0 z m' (aft fu bytes KX (nI i) t' x1 x2 x3 x4) (KM (m', y1, y2, y3, told'))) :
    BR N0 z m (b_X2_readInto_7 fu bytes KX (nI i, t, now, nk, na, np)) ((m_X6_look fu m mL mt).bind fun o3 => (m_X6_statement fu o3 mL mt mk mb mp told).bind fun o5 => (if o5.1 = 0 then some ((0 : Int32), (o5.2.1, o5.2.2.1, o5.2.2.2.1, o5.2.2.2.2.1, o5.2.2.2.2.2)) else KM (o5.2.1, o5.2.2.1, o5.2.2.2.1, o5.2.2.2.2.1, o5.2.2.2.2.2))) := by
  obtain ⟨tk, fr, a, hN⟩ := NX.ex B hp
  obtain ⟨t1, e1, e2, e3, e4, e5⟩ := s_step (fu := fu) hfu hT h1 h3 hN
  obtain ⟨m1, f1, f2, f3, f4, f5, f6⟩ := s_look (fu := fu) (mL := mL) hfu hT h7 h23 hN
  have kz : KZ m m1 := fun j hj => f6 j (by omega) (by omega) (by omega) (by omega)
  have hR1 : SR N0 now nk na np m1 mk mb mp := hR.mem (fun j hj => f6 j (by omega) (by omega) (by omega) (by omega))
  have S := s_statement (fu := fu) (mL := mL) (told := told) hfu hT hN e2 e3 e4 e5 ((f6 7 (by decide) (by decide) (by decide) (by decide)).trans h7) f2 f3 f4 hR1
  unfold b_X2_readInto_7
  dsimp only
  rw [if_neg (show ¬ (250 : Int32) < nI i from nI_nlt (a := 250) hi (by decide)), e1, Option.bind_some, f1, Option.bind_some]
  rcases S with ⟨t', x1, x2, x3, x4, m', y1, y2, y3, told', F, g1, g2, g3, g4, g5, g6⟩ | ⟨t', x1, x2, x3, x4, m', y1, y2, y3, told', p', g1, g2, g3, g4, g5, g6, g7, g8, g9⟩
  · rw [g1, g4, Option.bind_some, Option.bind_some]
    dsimp only
    rw [if_pos p00, if_pos p00]
    exact Or.inl ⟨_, _, _, _, _, _, _, _, _, _, F, rfl, g2, g3, rfl, g5, kz.tr g6.kz⟩
  · rw [g1, g6, Option.bind_some, Option.bind_some]
    dsimp only
    rw [if_neg n10, if_neg n10]
    have k2 : KS m m' := (KS.of f6).tr g9
    exact (next t' x1 x2 x3 x4 m' y1 y2 y3 told' p' g2 g3 g4 g5 g7 g8 k2).kz (kz.tr g9.kz)
theorem s_loop {N0 fu z : Nat} {B : Nat → Nat} {bytes mt : Nat → Int32} {mL : Nat → Int64} (hfu : 5000 ≤ fu) (hT : TB B z bytes mt) : ∀ (N n1 n2 p i : Nat) (t m told x1 x2 x3 x4 y1 y2 y3 : Nat → Int32), z - p < N → N ≤ n1 → N ≤ n2 → 2 * i ≤ p + 1 → p ≤ z → t 1 = nI z → t 3 = nI p → m 7 = nI z → LK B z p m → SR N0 x1 x2 x3 x4 m y1 y2 y3 → m 29 = nI i →
    BR N0 z m (aft fu bytes (lfix (b_X2_readInto_7 fu bytes) n1) (nI i) t x1 x2 x3 x4) (lfix (b_X6_readAll_23 fu mL mt) n2 (m, y1, y2, y3, told)) := by
  intro N
  induction N with
  | zero => intro n1 n2 p i t m told x1 x2 x3 x4 y1 y2 y3 h; omega
  | succ N ih =>
    intro n1 n2 p i t m told x1 x2 x3 x4 y1 y2 y3 hN hn1 hn2 hi hp h1 h3 h7 hL hR h29
    have hz := hT.1
    obtain ⟨k1, rfl⟩ : ∃ k, n1 = k + 1 := ⟨n1 - 1, by omega⟩
    obtain ⟨k2, rfl⟩ : ∃ k, n2 = k + 1 := ⟨n2 - 1, by omega⟩
    show BR N0 z m (aft fu bytes (fun x => b_X2_readInto_7 fu bytes (lfix (b_X2_readInto_7 fu bytes) k1) x) (nI i) t x1 x2 x3 x4) (b_X6_readAll_23 fu mL mt (lfix (b_X6_readAll_23 fu mL mt) k2) (m, y1, y2, y3, told))
    have ih2 := fun p i t m told x1 x2 x3 x4 y1 y2 y3 (hq : z - p < N) => ih k1 k2 p i t m told x1 x2 x3 x4 y1 y2 y3 hq (by omega) (by omega)
    generalize lfix (b_X2_readInto_7 fu bytes) k1 = KX at ih2 ⊢
    generalize lfix (b_X6_readAll_23 fu mL mt) k2 = KM at ih2 ⊢
    obtain ⟨tk, fr, a, hNX, g23, g24, g25, -⟩ := hL
    obtain ⟨-, hk4⟩ := hNX.tk
    obtain ⟨t1, e1, e2, e3, e4, e5⟩ := s_step (fu := fu) hfu hT h1 h3 hNX
    unfold aft b_X6_readAll_23
    rw [e1, Option.bind_some]
    dsimp only
    by_cases c0 : tk = 0
    · rw [if_pos (show t1 4 = 0 by rw [e4, c0]; rfl), if_pos (show m 24 = 0 by rw [g24, c0]; rfl)]
      exact Or.inr ⟨_, _, _, _, _, _, _, _, _, _, i, rfl, by omega, e2, rfl, h29, hR, fun _ _ => rfl⟩
    · rw [if_neg (show ¬ t1 4 = 0 by rw [e4]; exact nI_ne0 (by omega) (by omega)), if_neg (show ¬ m 24 = 0 by rw [g24]; exact nI_ne0 (by omega) (by omega))]
      by_cases c3 : tk = 3
      · have ha : p < a ∧ a ≤ z := by
          obtain ⟨n1, n2, n3, n4, n5, n6⟩ := hNX
          rcases n6 with ⟨-, q, -⟩ | ⟨-, q, -⟩ | ⟨-, q, -⟩ | ⟨-, q, -⟩ <;> omega
        rw [if_pos (show t1 4 = (3 : Int32) by rw [e4, c3]; rfl), if_pos (show m 24 = (3 : Int32) by rw [g24, c3]; rfl), nI_1]
        have := s_round (N0 := N0) (fu := fu) (mL := mL) (told := told) (KX := KX) (KM := fun x => KM ((upd x.1 29 (x.1 29 + (1 : Int32))), x.2.1, x.2.2.1, x.2.2.2.1, x.2.2.2.2)) (i := i + 1) hfu hT e2 (e5 c0) h7 g23 ha.2 (by omega) hR (fun t' x1 x2 x3 x4 m' y1 y2 y3 told' p' r1 r2 r3 r4 r5 r6 r7 => by
          have r29 : m' 29 = nI i := (r7 29 (by omega)).trans h29
          dsimp only
          rw [r29, nI_1]
          have hk : KZ m' (upd m' 29 (nI (i + 1))) := fun j hj => pk_un (by omega)
          exact (ih2 p' (i + 1) t' (upd m' 29 (nI (i + 1))) told' x1 x2 x3 x4 y1 y2 y3 (by omega) (by omega) r4 r1 r2 ((pk_un (by decide)).trans ((r7 7 (by omega)).trans h7)) (r5.up (Or.inr (by decide))) (r6.mem (fun j hj => pk_un (by omega))) pk_us).kz hk)
        exact this
      · rw [if_neg (show ¬ t1 4 = (3 : Int32) by rw [e4]; exact fun q => c3 ((nI_eq (b := 3) (by omega) (by decide)).mp q)), if_neg (show ¬ m 24 = (3 : Int32) by rw [g24]; exact fun q => c3 ((nI_eq (b := 3) (by omega) (by decide)).mp q))]
        unfold m_X6_wrong
        rw [Option.bind_some]
        dsimp only
        rw [gd_t (Or.inl rfl)]
        exact Or.inl ⟨_, _, _, _, _, _, _, _, _, _, fr, rfl, e3, e2, rfl, pk_us.trans g25, fun j hj => pk_un (by omega)⟩
theorem s_readAll {N0 fu z : Nat} {B : Nat → Nat} {t bytes mt m told now nk na np mk mb mp : Nat → Int32} {mL : Nat → Int64} (hfu : 5000 ≤ fu) (hT : TB B z bytes mt) (h1 : t 1 = nI z) (h7 : m 7 = nI z) (hR : SR N0 now nk na np m mk mb mp) :
    BR N0 z m (m_X2_readInto fu t bytes now nk na np) (m_X6_readAll fu m mL mt mk mb mp told) := by
  obtain ⟨k1, rfl⟩ : ∃ k, fu = k + 1 := ⟨fu - 1, by omega⟩
  have hz := hT.1
  have hk : KZ m (upd (upd m 29 1) 23 0) := fun j hj => (pk_un (by omega)).trans (pk_un (by omega))
  have := s_round (N0 := N0) (fu := k1 + 1) (mL := mL) (told := told) (t := upd t 3 0) (m := upd (upd m 29 1) 23 0) (KX := lfix (b_X2_readInto_7 (k1 + 1) bytes) k1) (KM := lfix (b_X6_readAll_23 (k1 + 1) mL mt) (k1 + 1)) (i := 1) (p := 0) hfu hT ((pk_un (by decide)).trans h1) pk_us ((pk_un (by decide)).trans ((pk_un (by decide)).trans h7)) pk_us (Nat.zero_le _) (by decide) (hR.mem (now := now) (fun j hj => (pk_un (by omega)).trans (pk_un (by omega)))) (fun t' x1 x2 x3 x4 m' y1 y2 y3 told' p' r1 r2 r3 r4 r5 r6 r7 => s_loop hfu hT (z + 1) k1 (k1 + 1) p' 1 t' m' told' x1 x2 x3 x4 y1 y2 y3 (by omega) (by omega) (by omega) (by omega) r4 r1 r2 ((r7 7 (by omega)).trans ((pk_un (by decide)).trans ((pk_un (by decide)).trans h7))) r5 r6 ((r7 29 (by omega)).trans ((pk_un (by decide)).trans pk_us)))
  exact this.kz hk
