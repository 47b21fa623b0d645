-- PURE 27: a statement on both sides
def SR (N0 : Nat) (now nk na np m mk mb mp : Nat → Int32) : Prop := ∃ (d r y w q n : Nat) (ks as ps : Nat → Nat), N0 ≤ n ∧ RS d r y w q n ks as ps now nk na np m mk mb mp
def KS (m m' : Nat → Int32) : Prop := ∀ j, (j < 9 ∨ j = 14 ∨ j = 15 ∨ (17 ≤ j ∧ j < 23) ∨ 28 ≤ j) → m' j = m j
theorem KS.rf {m : Nat → Int32} : KS m m := fun _ _ => rfl
theorem KS.of {m m' : Nat → Int32} (h : ∀ j, j ≠ 23 → j ≠ 24 → j ≠ 25 → j ≠ 26 → m' j = m j) : KS m m' := fun j hj => h j (by omega) (by omega) (by omega) (by omega)
theorem KS.of2 {m m' : Nat → Int32} (h : ∀ j, j ≠ 23 → j ≠ 24 → j ≠ 25 → j ≠ 26 → j ≠ 27 → m' j = m j) : KS m m' := fun j hj => h j (by omega) (by omega) (by omega) (by omega) (by omega)
theorem KS.tr {a b c : Nat → Int32} (h : KS a b) (h2 : KS b c) : KS a c := fun j hj => (h2 j hj).trans (h j hj)
theorem KS.up {m m' : Nat → Int32} {i : Nat} {v : Int32} (h : KS m m') (hi : i = 9 ∨ i = 10 ∨ i = 11 ∨ i = 12 ∨ i = 13 ∨ i = 16 ∨ i = 27) : KS m (upd m' i v) := fun j hj => (pk_un (by omega)).trans (h j hj)
theorem LK.up {B : Nat → Nat} {z p i : Nat} {m : Nat → Int32} {v : Int32} (h : LK B z p m) (hi : i < 23 ∨ 27 ≤ i) : LK B z p (upd m i v) := by
  obtain ⟨tk, fr, a, h1, h2, h3, h4, h5⟩ := h
  exact ⟨tk, fr, a, h1, (pk_un (by omega)).trans h2, (pk_un (by omega)).trans h3, (pk_un (by omega)).trans h4, fun q => (pk_un (by omega)).trans (h5 q)⟩
theorem SR.mem {N0 : Nat} {now nk na np m m' mk mb mp : Nat → Int32} (h : SR N0 now nk na np m mk mb mp) (e : ∀ j, j < 23 → m' j = m j) : SR N0 now nk na np m' mk mb mp := by
  obtain ⟨d, r, y, w, q, n, ks, as, ps, h0, hS⟩ := h
  exact ⟨d, r, y, w, q, n, ks, as, ps, h0, hS.cong (fun _ _ => rfl) (fun j _ h2 => e j (by omega)) (e 20 (by decide)) (fun i hi => ⟨⟨rfl, rfl, rfl⟩, rfl, rfl, rfl⟩)⟩
theorem SR.d0 {N0 : Nat} {now nk na np m mk mb mp : Nat → Int32} {V : Nat} (h : SR N0 now nk na np m mk mb mp) (hV : V ≤ 40) : SR N0 (upd now 0 (nI V)) nk na np (upd m 9 (nI V)) mk mb mp := by
  obtain ⟨d, r, y, w, q, n, ks, as, ps, h0, a1, a2, a3, a4, a5, a6, a7, a8⟩ := h
  exact ⟨V, r, y, w, q, n, ks, as, ps, h0, ⟨rfl, rfl, hV⟩, a2, a3, a4, a5, a6, a7, a8⟩
theorem SR.d1 {N0 : Nat} {now nk na np m mk mb mp : Nat → Int32} {V : Nat} (h : SR N0 now nk na np m mk mb mp) (hV : V ≤ 9) : SR N0 (upd now 1 (nI V)) nk na np (upd m 10 (nI V)) mk mb mp := by
  obtain ⟨d, r, y, w, q, n, ks, as, ps, h0, a1, a2, a3, a4, a5, a6, a7, a8⟩ := h
  exact ⟨d, V, y, w, q, n, ks, as, ps, h0, a1, ⟨rfl, rfl, hV⟩, a3, a4, a5, a6, a7, a8⟩
theorem SR.d2 {N0 : Nat} {now nk na np m mk mb mp : Nat → Int32} {V : Nat} (h : SR N0 now nk na np m mk mb mp) (hV : V ≤ 9999) : SR N0 (upd now 2 (nI V)) nk na np (upd m 11 (nI V)) mk mb mp := by
  obtain ⟨d, r, y, w, q, n, ks, as, ps, h0, a1, a2, a3, a4, a5, a6, a7, a8⟩ := h
  exact ⟨d, r, V, w, q, n, ks, as, ps, h0, a1, a2, ⟨rfl, rfl, hV⟩, a4, a5, a6, a7, a8⟩
theorem SR.wq {N0 : Nat} {now nk na np m mk mb mp : Nat → Int32} {W Q : Nat} (h : SR N0 now nk na np m mk mb mp) (h2 : 2 ≤ W) (h9 : W ≤ 9) (hQ : Q < W) : SR N0 (upd (upd now 3 (nI W)) 4 (nI Q)) nk na np (upd (upd m 12 (nI W)) 13 (nI Q)) mk mb mp := by
  obtain ⟨d, r, y, w, q, n, ks, as, ps, h0, a1, a2, a3, a4, a5, a6, a7, a8⟩ := h
  exact ⟨d, r, y, W, Q, n, ks, as, ps, h0, a1, a2, a3, ⟨rfl, rfl, h2, h9⟩, ⟨rfl, rfl, hQ⟩, a6, a7, a8⟩
theorem SR.pp {N0 d r y w q n v p : Nat} {ks as ps : Nat → Nat} {now nk na np m mk mb mp : Nat → Int32} (h : RS d r y w q n ks as ps now nk na np m mk mb mp) (h0 : N0 ≤ n) (hp : p ≤ 20) : SR N0 now nk na (upd np v (nI p)) m mk mb (upd mp v (nI p)) := by
  obtain ⟨a1, a2, a3, a4, a5, a6, a7, a8⟩ := h
  refine ⟨d, r, y, w, q, n, ks, as, upN ps v p, h0, a1, a2, a3, a4, a5, a6, a7, fun i hi => ⟨(a8 i hi).1, (a8 i hi).2.1, ?_⟩⟩
  by_cases ci : i = v
  · subst ci
    simp only [pk_us, upN_s, true_and]
    exact hp
  · simp only [pk_un ci, upN_n ci]
    exact (a8 i hi).2.2
theorem SR.add {N0 d r y w q n k a p : Nat} {ks as ps : Nat → Nat} {now nk na np m mk mb mp : Nat → Int32} (h : RS d r y w q n ks as ps now nk na np m mk mb mp) (h0 : N0 ≤ n) (hn : n < 8) (hk : k ≤ 5) (ha : a ≤ 9) (hp : p ≤ 20) : SR N0 (upd now 8 (nI (n + 1))) (upd nk n (nI k)) (upd na n (nI a)) (upd np n (nI p)) (upd m 16 (nI (n + 1))) (upd mk n (nI k)) (upd mb n (nI a)) (upd mp n (nI p)) := by
  obtain ⟨a1, a2, a3, a4, a5, a6, a7, a8⟩ := h
  refine ⟨d, r, y, w, q, n + 1, upN ks n k, upN as n a, upN ps n p, by omega, a1, a2, a3, a4, a5, a6, ⟨rfl, rfl, by omega⟩, fun i hi => ?_⟩
  by_cases ci : i = n
  · subst ci
    simp only [pk_us, upN_s, true_and]
    exact ⟨hk, ha, hp⟩
  · simp only [pk_un ci, upN_n ci]
    exact a8 i hi
theorem nI_of_le {V k : Nat} (hV : V ≤ 999) (hk : k < 2 ^ 31) (h : nI V ≤ nI k) : V ≤ k := (nI_le_iff (by omega) hk).mp h
theorem i_sub999 {n : Nat} (hn : n ≤ 999) : nI n - 1 ≤ 999 := by
  rw [i_le, show (1 : Int32) = nI 1 from rfl, pk_sub_toInt (by omega) (by decide), show (999 : Int32).toInt = 999 from by decide]
  omega
/-- both fail at the same place, or both go on alike -/
def BS (N0 : Nat) (B : Nat → Nat) (z p : Nat) (m : Nat → Int32) (o : Option (Int32 × ((Nat → Int32) × (Nat → Int32) × (Nat → Int32) × (Nat → Int32) × (Nat → Int32)))) (o' : Option (Int32 × ((Nat → Int32) × (Nat → Int32) × (Nat → Int32) × (Nat → Int32) × (Nat → Int32)))) : Prop :=
  (∃ t' x1 x2 x3 x4 m' y1 y2 y3 told' F, o = some (0, (t', x1, x2, x3, x4)) ∧ t' 2 = nI F ∧ t' 1 = nI z ∧ o' = some (0, (m', y1, y2, y3, told')) ∧ m' 27 = nI F ∧ KS m m') ∨
  (∃ t' x1 x2 x3 x4 m' y1 y2 y3 told' p', o = some (1, (t', x1, x2, x3, x4)) ∧ t' 1 = nI z ∧ t' 3 = nI p' ∧ p < p' ∧ p' ≤ z ∧ o' = some (1, (m', y1, y2, y3, told')) ∧ LK B z p' m' ∧ SR N0 x1 x2 x3 x4 m' y1 y2 y3 ∧ KS m m')
theorem s_statement {N0 fu z p tk fr a : Nat} {B : Nat → Nat} {t bytes mt m told now nk na np mk mb mp : Nat → Int32} {mL : Nat → Int64} (hfu : 5000 ≤ fu) (hT : TB B z bytes mt) (hN : NX B z p tk fr a) (h1 : t 1 = nI z) (h2 : t 2 = nI fr) (h4 : t 4 = nI tk) (h3 : tk ≠ 0 → t 3 = nI a)
    (h7 : m 7 = nI z) (h23 : m 23 = nI a) (h24 : m 24 = nI tk) (h25 : m 25 = nI fr) (hR : SR N0 now nk na np m mk mb mp) :
    BS N0 B z p m (m_X2_readStatement fu t bytes now nk na np) (m_X6_statement fu m mL mt mk mb mp told) := by
  have A : ∀ k, k < 6 → m_X2_isAtWord fu k t bytes = some (bI (WK k B tk fr a), ()) := fun k hk => s_isAtWord hfu hk hT hN h1 h2 h4 h3
  have R : ∀ k, k < 6 → m_X6_isWord fu k m mL mt = some (bI (WK k B tk fr a), ()) := fun k hk => s_isWord hfu hk hT hN h23 h24 h25
  have ne : ∀ k k', k < 6 → k' < 6 → ¬ chS k 0 = chS k' 0 → WK k B tk fr a → bI (WK k' B tk fr a) = 0 := fun k k' hk hk' hd h => bI_f (h.ne hk hk' hd)
  have wr : m_X6_wrong fu m mL = some (0, upd m 27 (nI fr)) := by unfold m_X6_wrong; rw [h25]
  have pa : tk = 1 → t 3 = nI a ∧ p < a ∧ a ≤ z := fun q => by
    obtain ⟨n1, n2, n3, n4, n5, n6⟩ := hN
    refine ⟨h3 (by omega), ?_, n3⟩
    rcases n6 with ⟨-, q2, -⟩ | ⟨-, -, q2, -⟩ | ⟨-, q2, -⟩ | ⟨-, -, ⟨-, q2⟩ | ⟨-, q2⟩⟩ <;> omega
  have z14 : gd (inb (0 : Int32) 4) = (fun (o : Option (Int32 × ((Nat → Int32) × (Nat → Int32) × (Nat → Int32) × (Nat → Int32) × (Nat → Int32)))) => o) := funext fun o => gd_t (inb_n (n := 0) (by decide) (by decide))
  have z24 : gd (inb (1 : Int32) 4) = (fun (o : Option (Int32 × ((Nat → Int32) × (Nat → Int32) × (Nat → Int32) × (Nat → Int32) × (Nat → Int32)))) => o) := funext fun o => gd_t (inb_n (n := 1) (by decide) (by decide))
  have z34 : gd (inb (2 : Int32) 4) = (fun (o : Option (Int32 × ((Nat → Int32) × (Nat → Int32) × (Nat → Int32) × (Nat → Int32) × (Nat → Int32)))) => o) := funext fun o => gd_t (inb_n (n := 2) (by decide) (by decide))
  have b0 : ∀ (o : Option (Int32 × ((Nat → Int32) × (Nat → Int32) × (Nat → Int32) × (Nat → Int32) × (Nat → Int32)))), gd (bz (0 : Int32)) o = o := fun o => gd_t (Or.inl rfl)
  have b1 : ∀ (o : Option (Int32 × ((Nat → Int32) × (Nat → Int32) × (Nat → Int32) × (Nat → Int32) × (Nat → Int32)))), gd (bz (1 : Int32)) o = o := fun o => gd_t (Or.inr rfl)
  have c0 : (0 : Int32).toNatClampNeg = 0 := rfl
  have c1 : (1 : Int32).toNatClampNeg = 1 := rfl
  have c2 : (2 : Int32).toNatClampNeg = 2 := rfl
  have u10 : ∀ (f : Nat → Int32) (v : Int32), upd f 0 v 0 = v := fun _ _ => pk_us
  have u20 : ∀ (f : Nat → Int32) (v v' : Int32), upd (upd f 0 v) 1 v' 0 = v := fun _ _ _ => (pk_un (by decide)).trans pk_us
  have u21 : ∀ (f : Nat → Int32) (v v' : Int32), upd (upd f 0 v) 1 v' 1 = v' := fun _ _ _ => pk_us
  have u30 : ∀ (f : Nat → Int32) (v v' v'' : Int32), upd (upd (upd f 0 v) 1 v') 2 v'' 0 = v := fun _ _ _ _ => (pk_un (by decide)).trans ((pk_un (by decide)).trans pk_us)
  have u31 : ∀ (f : Nat → Int32) (v v' v'' : Int32), upd (upd (upd f 0 v) 1 v') 2 v'' 1 = v' := fun _ _ _ _ => (pk_un (by decide)).trans pk_us
  have u32 : ∀ (f : Nat → Int32) (v v' v'' : Int32), upd (upd (upd f 0 v) 1 v') 2 v'' 2 = v'' := fun _ _ _ _ => pk_us
  have m1n : ∀ {V : Nat}, V ≤ 999 → ¬ nI V = (-1 : Int32) := fun hV => nI_m1 (by omega)
  obtain ⟨d, r, y, w, q, n, ks, as, ps, hN0, hS⟩ := id hR
  obtain ⟨hn1, hn2, hn8⟩ := hS.2.2.2.2.2.2.1
  unfold m_X2_readStatement m_X6_statement b_X6_statement_83
  simp only [A 0 (by decide), A 1 (by decide), A 2 (by decide), A 3 (by decide), A 4 (by decide), A 5 (by decide), R 0 (by decide), R 1 (by decide), R 2 (by decide), R 3 (by decide), R 4 (by decide), R 5 (by decide), Option.bind_some, wr, b0]
  by_cases w0 : WK 0 B tk fr a
  · obtain ⟨t3, p1, p2⟩ := pa w0.1
    simp only [bI_t w0, ne 0 1 (by decide) (by decide) (by decide) w0, ne 0 2 (by decide) (by decide) (by decide) w0, ne 0 3 (by decide) (by decide) (by decide) w0, ne 0 4 (by decide) (by decide) (by decide) w0, ne 0 5 (by decide) (by decide) (by decide) w0, if_neg n10, if_true]
    unfold m_X2_readVoice m_X1_hasRoom b_X1_hasRoom_14
    rw [gd_t (Or.inl rfl), gd_t (Or.inr rfl)]
    by_cases c8 : n = 8
    · rw [if_pos (show (8 : Int32) ≤ now 8 by rw [hn1, c8]; decide), if_pos (show (8 : Int32) ≤ m 16 by rw [hn2, c8]; decide), Option.bind_some, if_pos (show ((0 : Int32), ()).1 = 0 from rfl), Option.bind_some]
      dsimp only
      rw [b0]
      exact Or.inl ⟨_, _, _, _, _, _, _, _, _, _, fr, rfl, h2, h1, rfl, pk_us, KS.rf.up (by omega)⟩
    · have hn : n < 8 := by omega
      rw [if_neg (show ¬ (8 : Int32) ≤ now 8 by rw [hn1]; exact nI_ge (b := 8) hn (by decide)), if_neg (show ¬ (8 : Int32) ≤ m 16 by rw [hn2]; exact nI_ge (b := 8) hn (by decide)), Option.bind_some, if_neg (show ¬ ((1 : Int32), ()).1 = 0 from n10)]
      rcases s_tells (fu := fu) (mL := mL) (told := told) (l2 := 0) (l3 := 5) hfu hT h1 t3 h7 h23 p2 (by decide) (by decide) with ⟨t', F, m', q1, q2, q3, q4, q5, q6⟩ | ⟨V, t', p', m', q1, q2, q3, q4, q5, q6, q7, q8, q9, q10, q11⟩
      · rw [q1, q4, Option.bind_some, Option.bind_some]
        dsimp only
        rw [if_pos rfl, if_pos p00, Option.bind_some]
        dsimp only
        unfold b_X6_statement_53 b_X6_statement_54 b_X6_statement_81
        rw [if_pos p00, b0, b0]
        exact Or.inl ⟨_, _, _, _, _, _, _, _, _, _, F, rfl, q2, q3, rfl, q5, KS.of2 q6⟩
      · rw [q1, q9, Option.bind_some, Option.bind_some]
        dsimp only
        rw [if_neg (m1n q2), if_neg n10]
        rcases s_number (fu := fu) (mL := mL) (told := upd told 0 (nI V)) (i := 1) (l2 := 0) (l3 := 9) hfu hT q5 q6 ((q11 7 (by decide) (by decide) (by decide) (by decide)).trans h7) q10 (by decide) (by decide) (by decide) with ⟨t2, F, r1, r2, r3, r4⟩ | ⟨V2, t2, p2', m2, r1, r2, r3, r4, r5, r6, r7, r8, r9, r10, r11⟩
        · rw [r1, show m_X6_number fu m' mL mt (upd told 0 (nI V)) (1 : Int32) 0 9 = _ from r4, Option.bind_some, Option.bind_some]
          dsimp only
          rw [if_pos rfl, if_pos p00, Option.bind_some]
          dsimp only
          unfold b_X6_statement_53 b_X6_statement_54 b_X6_statement_81
          rw [if_pos p00, b0, b0]
          exact Or.inl ⟨_, _, _, _, _, _, _, _, _, _, F, rfl, r2, r3, rfl, pk_us, (KS.of q11).up (by omega)⟩
        · rw [r1, show m_X6_number fu m' mL mt (upd told 0 (nI V)) (1 : Int32) 0 9 = _ from r9, Option.bind_some, Option.bind_some]
          dsimp only
          rw [if_neg (m1n r2), if_neg n10]
          rcases s_number (fu := fu) (mL := mL) (told := upd (upd told 0 (nI V)) 1 (nI V2)) (i := 2) (l2 := 0) (l3 := 20) hfu hT r5 r6 ((r11 7 (by decide) (by decide) (by decide) (by decide)).trans ((q11 7 (by decide) (by decide) (by decide) (by decide)).trans h7)) r10 (by decide) (by decide) (by decide) with ⟨t4, F, s1, s2, s3, s4⟩ | ⟨V3, t4, p3, m3, s1, s2, s3, s4, s5, s6, s7, s8, s9, s10, s11⟩
          · rw [s1, show m_X6_number fu m2 mL mt (upd (upd told 0 (nI V)) 1 (nI V2)) (2 : Int32) 0 20 = _ from s4, Option.bind_some, Option.bind_some]
            dsimp only
            rw [if_pos rfl, if_pos p00, Option.bind_some]
            dsimp only
            unfold b_X6_statement_53 b_X6_statement_54 b_X6_statement_81
            rw [if_pos p00, b0, b0]
            exact Or.inl ⟨_, _, _, _, _, _, _, _, _, _, F, rfl, s2, s3, rfl, pk_us, ((KS.of q11).tr (KS.of r11)).up (by omega)⟩
          · rw [s1, show m_X6_number fu m2 mL mt (upd (upd told 0 (nI V)) 1 (nI V2)) (2 : Int32) 0 20 = _ from s9, Option.bind_some, Option.bind_some]
            dsimp only
            rw [if_neg (m1n s2), if_neg n10]
            unfold b_X6_statement_54 b_X6_statement_81 m_X1_addVoice m_X6_addVoice b_X1_addVoice_53
            have hm16 : m3 16 = nI n := (s11 16 (by decide) (by decide) (by decide) (by decide)).trans ((r11 16 (by decide) (by decide) (by decide) (by decide)).trans ((q11 16 (by decide) (by decide) (by decide) (by decide)).trans hn2))
            have hm3 : ∀ j, j < 23 → m3 j = m j := fun j hj => (s11 j (by omega) (by omega) (by omega) (by omega)).trans ((r11 j (by omega) (by omega) (by omega) (by omega)).trans (q11 j (by omega) (by omega) (by omega) (by omega)))
            have i8 : inb (nI n) 8 := inb_n hn (by decide)
            rw [hn1, hm16, s_isWithin, Option.bind_some, bI_t (show (0 : Int32) ≤ nI n ∧ nI n ≤ (7 : Int32) from w_0n (m := 7) (by omega) (by decide)), if_neg (show ¬ ((1 : Int32), ()).1 = 0 from n10), gd_t i8, gd_t i8, gd_t i8, gd_t i8, gd_t i8, gd_t i8, nI_clamp (show n < 2 ^ 31 by omega), Option.bind_some, Option.bind_some, nI_1]
            dsimp only
            rw [if_neg n10, z14, z24, z34, c0, c1, c2, u30, u31, u32]
            dsimp only
            rw [b1, Option.bind_some, b1]
            have hS3 : RS d r y w q n ks as ps now nk na np m3 mk mb mp := hS.cong (fun _ _ => rfl) (fun j _ h2 => hm3 j (by omega)) (hm3 20 (by decide)) (fun i hi => ⟨⟨rfl, rfl, rfl⟩, rfl, rfl, rfl⟩)
            exact Or.inr ⟨_, _, _, _, _, _, _, _, _, _, p3, rfl, s5, s6, by omega, s8, rfl, s10.up (Or.inl (by decide)), SR.add hS3 hN0 hn (nI_of_le q2 (by decide) q4) (nI_of_le r2 (by decide) r4) (nI_of_le s2 (by decide) s4), (((KS.of q11).tr (KS.of r11)).tr (KS.of s11)).up (by omega)⟩
  by_cases w1 : WK 1 B tk fr a
  · obtain ⟨t3, p1, p2⟩ := pa w1.1
    simp only [bI_f w0, bI_t w1, if_neg n10, if_true]
    unfold m_X2_readPitch
    rw [hn1, hn2]
    rcases s_tells (fu := fu) (mL := mL) (told := told) (l2 := 0) (l3 := nI n - 1) hfu hT h1 t3 h7 h23 p2 (by decide) (i_sub999 (by omega)) with ⟨t', F, m', q1, q2, q3, q4, q5, q6⟩ | ⟨V, t', p', m', q1, q2, q3, q4, q5, q6, q7, q8, q9, q10, q11⟩
    · rw [q1, q4, Option.bind_some, Option.bind_some]
      dsimp only
      rw [if_pos rfl, if_pos p00, Option.bind_some]
      dsimp only
      unfold b_X6_statement_121 b_X6_statement_122 b_X6_statement_144
      rw [if_pos p00, b0, b0]
      exact Or.inl ⟨_, _, _, _, _, _, _, _, _, _, F, rfl, q2, q3, rfl, q5, KS.of2 q6⟩
    · rw [q1, q9, Option.bind_some, Option.bind_some]
      dsimp only
      rw [if_neg (m1n q2), if_neg n10]
      rcases s_number (fu := fu) (mL := mL) (told := upd told 0 (nI V)) (i := 1) (l2 := 0) (l3 := 20) hfu hT q5 q6 ((q11 7 (by decide) (by decide) (by decide) (by decide)).trans h7) q10 (by decide) (by decide) (by decide) with ⟨t2, F, r1, r2, r3, r4⟩ | ⟨V2, t2, p2', m2, r1, r2, r3, r4, r5, r6, r7, r8, r9, r10, r11⟩
      · rw [r1, show m_X6_number fu m' mL mt (upd told 0 (nI V)) (1 : Int32) 0 20 = _ from r4, Option.bind_some, Option.bind_some]
        dsimp only
        rw [if_pos rfl, if_pos p00, Option.bind_some]
        dsimp only
        unfold b_X6_statement_121 b_X6_statement_122 b_X6_statement_144
        rw [if_pos p00, b0, b0]
        exact Or.inl ⟨_, _, _, _, _, _, _, _, _, _, F, rfl, r2, r3, rfl, pk_us, (KS.of q11).up (by omega)⟩
      · rw [r1, show m_X6_number fu m' mL mt (upd told 0 (nI V)) (1 : Int32) 0 20 = _ from r9, Option.bind_some, Option.bind_some]
        dsimp only
        obtain ⟨vv, hv, hve⟩ := v_ok hn8 ⟨q3, q4⟩
        have hVv : V = vv := (nI_eq (by omega) (by omega)).mp hve
        subst hVv
        have hv8 : V < 8 := by omega
        have i8 : inb (nI V) 8 := inb_n hv8 (by decide)
        have hm3 : ∀ j, j < 23 → m2 j = m j := fun j hj => (r11 j (by omega) (by omega) (by omega) (by omega)).trans (q11 j (by omega) (by omega) (by omega) (by omega))
        have hS3 : RS d r y w q n ks as ps now nk na np m2 mk mb mp := hS.cong (fun _ _ => rfl) (fun j _ h2 => hm3 j (by omega)) (hm3 20 (by decide)) (fun i hi => ⟨⟨rfl, rfl, rfl⟩, rfl, rfl, rfl⟩)
        unfold m_X1_putPitch b_X1_putPitch_17 b_X6_statement_122 b_X6_statement_144
        rw [if_neg (m1n r2), if_neg n10, if_neg n10, s_isWithin, Option.bind_some, bI_t (x_sh hv8), if_neg (show ¬ ((1 : Int32), ()).1 = 0 from n10), gd_t i8, nI_clamp (show V < 2 ^ 31 by omega), Option.bind_some, Option.bind_some, z14, z24, c0, c1, u20, u21]
        dsimp only
        rw [gd_t i8, b1, b1, nI_clamp (show V < 2 ^ 31 by omega)]
        exact Or.inr ⟨_, _, _, _, _, _, _, _, _, _, p2', rfl, r5, r6, by omega, r8, rfl, r10, SR.pp hS3 hN0 (nI_of_le r2 (by decide) r4), (KS.of q11).tr (KS.of r11)⟩
  by_cases w2 : WK 2 B tk fr a
  · obtain ⟨t3, p1, p2⟩ := pa w2.1
    simp only [bI_f w0, bI_f w1, bI_t w2, ne 2 3 (by decide) (by decide) (by decide) w2, ne 2 4 (by decide) (by decide) (by decide) w2, ne 2 5 (by decide) (by decide) (by decide) w2, if_neg n10, if_true]
    unfold m_X2_readWeight
    rcases s_tells (fu := fu) (mL := mL) (told := told) (l2 := 2) (l3 := 9) hfu hT h1 t3 h7 h23 p2 (by decide) (by decide) with ⟨t', F, m', q1, q2, q3, q4, q5, q6⟩ | ⟨V, t', p', m', q1, q2, q3, q4, q5, q6, q7, q8, q9, q10, q11⟩
    · rw [q1, q4, Option.bind_some, Option.bind_some]
      dsimp only
      rw [if_pos rfl, if_pos p00, Option.bind_some]
      dsimp only
      unfold b_X6_statement_307 b_X6_statement_308 b_X6_statement_327 b_X6_statement_348
      rw [if_pos p00, if_pos p00, b0, b0]
      exact Or.inl ⟨_, _, _, _, _, _, _, _, _, _, F, rfl, q2, q3, rfl, (pk_un (by decide)).trans ((pk_un (by decide)).trans q5), ((KS.of2 q6).up (by omega)).up (by omega)⟩
    · rw [q1, q9, Option.bind_some, Option.bind_some]
      dsimp only
      rw [if_neg (m1n q2), if_neg n10, z14, c0, u10]
      dsimp only
      have hV2 : 2 ≤ V := (nI_le_iff (a := 2) (by decide) (by omega)).mp q3
      have hV9 : V ≤ 9 := nI_of_le q2 (by decide) q4
      rcases s_number (fu := fu) (mL := mL) (told := upd told 0 (nI V)) (i := 1) (l2 := 0) (l3 := nI V - 1) hfu hT q5 q6 ((q11 7 (by decide) (by decide) (by decide) (by decide)).trans h7) q10 (by decide) (by decide) (i_sub999 q2) with ⟨t2, F, r1, r2, r3, r4⟩ | ⟨V2, t2, p2', m2, r1, r2, r3, r4, r5, r6, r7, r8, r9, r10, r11⟩
      · rw [r1, show m_X6_number fu m' mL mt (upd told 0 (nI V)) (1 : Int32) 0 (nI V - 1) = _ from r4, Option.bind_some, Option.bind_some]
        dsimp only
        rw [if_pos rfl, if_pos p00, Option.bind_some]
        dsimp only
        unfold b_X6_statement_307 b_X6_statement_308 b_X6_statement_327 b_X6_statement_348
        rw [if_pos p00, if_pos p00, b0, b0]
        exact Or.inl ⟨_, _, _, _, _, _, _, _, _, _, F, rfl, r2, r3, rfl, (pk_un (by decide)).trans ((pk_un (by decide)).trans pk_us), (((KS.of q11).up (by omega)).up (by omega)).up (by omega)⟩
      · rw [r1, show m_X6_number fu m' mL mt (upd told 0 (nI V)) (1 : Int32) 0 (nI V - 1) = _ from r9, Option.bind_some, Option.bind_some]
        dsimp only
        have hQ : V2 < V := by
          have h := r4
          rw [show (1 : Int32) = nI 1 from rfl, pk_sub (by omega)] at h
          have := nI_of_le r2 (by omega) h
          omega
        have hm3 : ∀ j, j < 23 → m2 j = m j := fun j hj => (r11 j (by omega) (by omega) (by omega) (by omega)).trans (q11 j (by omega) (by omega) (by omega) (by omega))
        rw [if_neg (m1n r2), if_neg n10, Option.bind_some]
        dsimp only
        unfold b_X6_statement_308 b_X6_statement_327 b_X6_statement_348
        rw [if_neg n10, if_neg n10, z14, z24, c0, c1, u20, u21]
        dsimp only
        rw [b1, b1]
        exact Or.inr ⟨_, _, _, _, _, _, _, _, _, _, p2', rfl, r5, r6, by omega, r8, rfl, (r10.up (Or.inl (by decide))).up (Or.inl (by decide)), (hR.mem hm3).wq hV2 hV9 hQ, ((((KS.of q11).tr (KS.of r11)).up (by omega)).up (by omega))⟩
  by_cases w3 : WK 3 B tk fr a
  · obtain ⟨t3, p1, p2⟩ := pa w3.1
    simp only [bI_f w0, bI_f w1, bI_f w2, bI_t w3, if_neg n10, if_true]
    rcases s_tells (fu := fu) (mL := mL) (told := told) (l2 := 0) (l3 := 40) hfu hT h1 t3 h7 h23 p2 (by decide) (by decide) with ⟨t', F, m', q1, q2, q3, q4, q5, q6⟩ | ⟨V, t', p', m', q1, q2, q3, q4, q5, q6, q7, q8, q9, q10, q11⟩
    · rw [q1, q4, Option.bind_some, Option.bind_some]
      dsimp only
      unfold b_X2_readStatement_77 b_X6_statement_181
      rw [if_pos rfl, if_pos p00, b0, b0]
      exact Or.inl ⟨_, _, _, _, _, _, _, _, _, _, F, rfl, q2, q3, rfl, (pk_un (by decide)).trans q5, (KS.of2 q6).up (by omega)⟩
    · rw [q1, q9, Option.bind_some, Option.bind_some]
      dsimp only
      unfold b_X2_readStatement_77 b_X6_statement_181
      rw [if_neg (m1n q2), if_neg n10, z14, c0, u10]
      dsimp only
      rw [b1, b1]
      exact Or.inr ⟨_, _, _, _, _, _, _, _, _, _, p', rfl, q5, q6, by omega, q8, rfl, q10.up (Or.inl (by decide)), (hR.mem (fun j hj => q11 j (by omega) (by omega) (by omega) (by omega))).d0 (nI_of_le q2 (by decide) q4), (KS.of q11).up (by omega)⟩
  by_cases w4 : WK 4 B tk fr a
  · obtain ⟨t3, p1, p2⟩ := pa w4.1
    simp only [bI_f w0, bI_f w1, bI_f w2, bI_f w3, bI_t w4, if_neg n10, if_true]
    rcases s_tells (fu := fu) (mL := mL) (told := told) (l2 := 0) (l3 := 9) hfu hT h1 t3 h7 h23 p2 (by decide) (by decide) with ⟨t', F, m', q1, q2, q3, q4, q5, q6⟩ | ⟨V, t', p', m', q1, q2, q3, q4, q5, q6, q7, q8, q9, q10, q11⟩
    · rw [q1, q4, Option.bind_some, Option.bind_some]
      dsimp only
      unfold b_X2_readStatement_110 b_X6_statement_221
      rw [if_pos rfl, if_pos p00, b0, b0]
      exact Or.inl ⟨_, _, _, _, _, _, _, _, _, _, F, rfl, q2, q3, rfl, (pk_un (by decide)).trans q5, (KS.of2 q6).up (by omega)⟩
    · rw [q1, q9, Option.bind_some, Option.bind_some]
      dsimp only
      unfold b_X2_readStatement_110 b_X6_statement_221
      rw [if_neg (m1n q2), if_neg n10, z14, c0, u10]
      dsimp only
      rw [b1, b1]
      exact Or.inr ⟨_, _, _, _, _, _, _, _, _, _, p', rfl, q5, q6, by omega, q8, rfl, q10.up (Or.inl (by decide)), (hR.mem (fun j hj => q11 j (by omega) (by omega) (by omega) (by omega))).d1 (nI_of_le q2 (by decide) q4), (KS.of q11).up (by omega)⟩
  by_cases w5 : WK 5 B tk fr a
  · obtain ⟨t3, p1, p2⟩ := pa w5.1
    simp only [bI_f w0, bI_f w1, bI_f w2, bI_f w3, bI_f w4, bI_t w5, if_neg n10, if_true]
    rcases s_tells (fu := fu) (mL := mL) (told := told) (l2 := 0) (l3 := 999) hfu hT h1 t3 h7 h23 p2 (by decide) (by decide) with ⟨t', F, m', q1, q2, q3, q4, q5, q6⟩ | ⟨V, t', p', m', q1, q2, q3, q4, q5, q6, q7, q8, q9, q10, q11⟩
    · rw [q1, q4, Option.bind_some, Option.bind_some]
      dsimp only
      unfold b_X2_readStatement_144 b_X6_statement_262
      rw [if_pos rfl, if_pos p00, b0, b0]
      exact Or.inl ⟨_, _, _, _, _, _, _, _, _, _, F, rfl, q2, q3, rfl, (pk_un (by decide)).trans q5, (KS.of2 q6).up (by omega)⟩
    · rw [q1, q9, Option.bind_some, Option.bind_some]
      dsimp only
      unfold b_X2_readStatement_144 b_X6_statement_262
      rw [if_neg (m1n q2), if_neg n10, z14, c0, u10]
      dsimp only
      rw [b1, b1]
      exact Or.inr ⟨_, _, _, _, _, _, _, _, _, _, p', rfl, q5, q6, by omega, q8, rfl, q10.up (Or.inl (by decide)), (hR.mem (fun j hj => q11 j (by omega) (by omega) (by omega) (by omega))).d2 (by omega), (KS.of q11).up (by omega)⟩
  · simp only [bI_f w0, bI_f w1, bI_f w2, bI_f w3, bI_f w4, bI_f w5, if_true]
    exact Or.inl ⟨_, _, _, _, _, _, _, _, _, _, fr, rfl, h2, h1, rfl, pk_us, KS.rf.up (by omega)⟩
