abbrev st1 : Nat → Int32 := upd (upd (upd (upd (fun _ => 0) 0 10) 1 1) 3 5) 7 1
abbrev stm : Nat → Int32 := upd (upd (upd (upd (fun _ => 0) 9 10) 10 1) 12 5) 20 1
def C00 (o : Nat → Int32) : Nat → Nat → Int32 := fun i => if i = 14 then o else if i = 1 then st1 else if i = 5 then st1 else if i = 9 then st1 else fun _ => 0
def M00 : Nat → Nat → Int32 := fun i => if i = 0 then stm else fun _ => 0
theorem w_start {cA : Nat → ClassId} {fu : Nat} {o : Nat → Int32} {u u2 : Nat → Nat} : w1_X5_init cA fu o u ++ w1_X6_init cA u2 = wL cA u u2 (kvO none) (kvO none) (C00 o) (fun _ => 0) M00 (fun _ => 0) (fun _ _ => 0) (fun _ => 0) (fun _ _ => 0) ++ (w4 cA none (fun _ => 0) (fun _ => 0) (fun _ => 0) (fun _ => 0) (fun _ => 0) ++ w4 cA none (fun _ => 0) (fun _ => 0) (fun _ => 0) (fun _ => 0) (fun _ => 0)) := rfl
theorem r_start {fu : Nat} {o : Nat → Int32} (hfu : 5000 ≤ fu) (ho : ∀ i, i < 8 → o i = -1) : Rel fu (C00 o) (fun _ => 0) M00 (fun _ => 0) (fun _ _ => 0) (fun _ => 0) (fun _ _ => 0) := by
  refine ⟨hfu, ⟨10, 1, 0, 5, 0, 0, fun _ => 0, fun _ => 0, fun _ => 0, ?_, ?_⟩, ⟨0, by decide, rfl, rfl, fun i hi => absurd hi (by omega)⟩, fun k _ => rfl⟩
  · exact ⟨⟨rfl, rfl, by decide⟩, ⟨rfl, rfl, by decide⟩, ⟨rfl, rfl, by decide⟩, ⟨rfl, rfl, by decide, by decide⟩, ⟨rfl, rfl, by decide⟩, ⟨rfl, rfl, rfl⟩, ⟨rfl, rfl, by decide⟩, fun i _ => ⟨⟨rfl, rfl, Nat.zero_le _⟩, ⟨rfl, rfl, Nat.zero_le _⟩, ⟨rfl, rfl, Nat.zero_le _⟩⟩⟩
  · exact fun i hi => Or.inl ⟨ho i hi, rfl, rfl⟩
def tmS (i : Nat) : Term := .string "WellIsAskedFirst$Tape" ([46, 55, 60, 65, 75, 79].getD i 0)
abbrev FF : List Cond := flatC (Jvm.Cond.and given_1 narrow_1)
set_option maxRecDepth 100000 in
theorem ff_s : ∀ i, i < 6 → Cond.exactly (tmS i) "java/lang/String" ∈ FF ∧ Cond.eq (.field (tmS i) "java/lang/String" "coder" "B") (.int 0) ∈ FF ∧ Cond.arrayOf (.field (tmS i) "java/lang/String" "value" "[B") .byte ∈ FF ∧ Cond.eq (.length (.field (tmS i) "java/lang/String" "value" "[B")) (.int (Int32.ofNat (lenS.getD i 0))) ∈ FF := by decide +kernel
set_option maxRecDepth 100000 in
theorem ff_e : ∀ i, i < 6 → ∀ j, j < lenS.getD i 0 → Cond.eq (.elem (.field (tmS i) "java/lang/String" "value" "[B") (.int (Int32.ofNat j))) (.int ((bytS.getD i []).getD j 0)) ∈ FF := by decide +kernel
set_option maxRecDepth 100000 in
theorem ff_n : ∀ i, i < 6 → ∀ j, j < 6 → i ≠ j → Cond.not (Cond.eq (tmS i) (tmS j)) ∈ FF ∨ Cond.not (Cond.eq (tmS j) (tmS i)) ∈ FF := by decide +kernel
set_option maxRecDepth 100000 in
theorem ff_r : ∀ x ∈ strR, Cond.stringRef x.1 x.2.1 x.2.2.1 ∈ lw_tbl ∧ x.2.2.2 < 6 ∧ ((Term.string x.1 x.2.1) = tmS x.2.2.2 ∨ Cond.eq (tmS x.2.2.2) (.string x.1 x.2.1) ∈ FF) := by decide +kernel
set_option maxRecDepth 100000 in
theorem ss_start {s : State} {b : Nat} (hts : ∀ w ∈ lw_tbl, w.before #[Value.ref b] s = true) (hgv : (Jvm.Cond.and given_1 narrow_1).before #[Value.ref b] s = true) : ∃ (Ks Vs : Nat → Nat) (fv : Value), SS Ks Vs fv (fun q : Nat => s.heap.size ≤ q) s := by
  have hF : ∀ c ∈ FF, c.before #[Value.ref b] s = true := flat_of_before _ hgv
  have hA : ∀ a : Nat, a < s.heap.size → ¬ (fun q : Nat => s.heap.size ≤ q) a := fun a h h2 => absurd h (Nat.not_lt.mpr h2)
  obtain ⟨Ks, Vs, k1, k2⟩ := vk_Sof (args := #[Value.ref b]) (s := s) (N := 6) (tm := tmS) (len := lenS) (byt := bytS) (A := fun q : Nat => s.heap.size ≤ q) (by decide) (fun i hi => hF _ (ff_s i hi).1) (fun i hi => hF _ (ff_s i hi).2.1) (fun i hi => hF _ (ff_s i hi).2.2.1) (fun i hi => hF _ (ff_s i hi).2.2.2) (fun i hi j hj => hF _ (ff_e i hi j hj)) (fun i j hi hj hij => (ff_n i hi j hj hij).imp (hF _) (hF _)) hA
  have hc : va_Z "java/lang/String" "COMPACT_STRINGS" "Z" (.int 1) (fun q : Nat => s.heap.size ≤ q) s s.heap := va_Zof (args := #[Value.ref b]) (hts _ (by decide +kernel)) (hts _ (by decide +kernel)) (va_eqt (hF _ (by decide +kernel))) hA
  have hz : va_Zq "jdk/internal/util/Preconditions" "SIOOBE_FORMATTER" "Ljava/util/function/BiFunction;" (fun q : Nat => s.heap.size ≤ q) s s.heap := va_Zqof (args := #[Value.ref b]) (hts _ (by decide +kernel)) (hts _ (by decide +kernel)) (hF _ (by decide +kernel)) hA
  have hr : ∀ x ∈ strR, vk_R x.1 x.2.1 x.2.2.1 (Ks x.2.2.2) s := fun x hx => by
    obtain ⟨r1, r2, r3⟩ := ff_r x hx
    refine vk_R.of (A := #[Value.ref b]) (hts _ r1) ?_
    rcases r3 with r3 | r3
    · rw [r3]; exact k2 _ r2
    · exact va_eqR (hF _ r3) (k2 _ r2)
  rcases hz with hz | ⟨t, hz⟩
  · exact ⟨Ks, Vs, .null, k1, hc, hz, Or.inl rfl, hr⟩
  · exact ⟨Ks, Vs, .ref t, k1, hc, hz, Or.inr ⟨t, rfl⟩, hr⟩
set_option maxRecDepth 100000 in
theorem k_start {s : State} {b : Nat} (hts : ∀ w ∈ lw_tbl, w.before #[Value.ref b] s = true) : ∃ (D : va_G) (cA : Nat → ClassId), va_K D CL (TY cA) s := by
  have htg : ∀ w ∈ gw, w.before #[Value.ref b] s = true := fun w h => hts w (gw_in h)
  obtain ⟨c0, iS0, hKn0⟩ := u_known (C := RX0) (T := TX0) (N := 3) (n := 3) htg inX0 (htg _ q_1_90)
  obtain ⟨c1, iS1, hKn1⟩ := u_known (C := RX1) (T := TX1) (N := 12) (n := 12) htg inX1 (htg _ q_1_26)
  obtain ⟨c2, iS2, hKn2⟩ := u_known (C := RX2) (T := TX2) (N := 5) (n := 5) htg inX2 (htg _ q_1_110)
  obtain ⟨c3, iS3, hKn3⟩ := u_known (C := RX3) (T := TX3) (N := 9) (n := 9) htg inX3 (htg _ q_1_134)
  obtain ⟨c4, iS4, hKn4⟩ := u_known (C := RX4) (T := TX4) (N := 2) (n := 2) htg inX4 (htg _ q_1_174)
  obtain ⟨c5, iS5, hKn5⟩ := u_known (C := RX5) (T := TX5) (N := 17) (n := 17) htg inX5 (hts (.instantiable RX5 17) (by decide +kernel))
  obtain ⟨c6, iS6, hKn6⟩ := u_known (C := RX6) (T := TX6) (N := 49) (n := 49) htg inX6 (htg _ q_4_180)
  obtain ⟨a0, k0, m0, f0, g0, h0⟩ := Cond.arrayClass_spec (htg _ q_1_88)
  obtain ⟨a1, k1, m1, f1, g1, h1⟩ := Cond.arrayClass_spec (htg _ q_1_108)
  obtain ⟨a2, k2, m2, f2, g2, h2⟩ := Cond.arrayClass_spec (htg _ q_5_97)
  obtain ⟨m3, a3, k3, -, -, g3, h3, f3⟩ := arrayOver_specB (hts _ (nw_in q_4_186))
  obtain ⟨m4, a4, k4, -, -, g4, h4, f4⟩ := arrayOver_specB (hts _ (nw_in q_4_188))
  refine ⟨(fun k => match k with | 0 => c0 | 1 => c1 | 2 => c2 | 3 => c3 | 4 => c4 | 5 => c5 | _ => c6, fun k => match k with | 0 => iS0 | 1 => iS1 | 2 => iS2 | 3 => iS3 | 4 => iS4 | 5 => iS5 | _ => iS6), (fun k => match k with | 0 => a0 | 1 => a1 | 2 => a2 | 3 => a3 | _ => a4), fun k q hq => ?_, fun k q hq => ?_⟩
  · match k, hq with
    | 0, hq => cases hq; exact hKn0
    | 1, hq => cases hq; exact hKn1
    | 2, hq => cases hq; exact hKn2
    | 3, hq => cases hq; exact hKn3
    | 4, hq => cases hq; exact hKn4
    | 5, hq => cases hq; exact hKn5
    | 6, hq => cases hq; exact hKn6
    | k + 7, hq => simp [CL] at hq
  · match k, hq with
    | 0, hq => cases hq; exact ⟨fun n z => ⟨fun k h => (by cases h), k0, g0, m0, h0⟩, f0⟩
    | 1, hq => cases hq; exact ⟨fun n z => ⟨fun k h => (by cases h), k1, g1, m1, h1⟩, f1⟩
    | 2, hq => cases hq; exact ⟨fun n z => ⟨fun k h => (by cases h), k2, g2, m2, h2⟩, f2⟩
    | 3, hq => cases hq; exact ⟨fun n z => ⟨fun k h => (by cases h), k3, g3, m3, h3⟩, f3⟩
    | 4, hq => cases hq; exact ⟨fun n z => ⟨fun k h => (by cases h), k4, g4, m4, h4⟩, f4⟩
    | k + 5, hq => simp [TY] at hq
theorem n_start {s : State} {b : Nat} (hts : ∀ w ∈ lw_tbl, w.before #[Value.ref b] s = true) : NW s := fun w hw => by
  have h1 := hts w (nw_in hw)
  have h2 := (List.mem_filter.mp hw).2
  cases w with
  | fieldLinkNest => exact va_Nw.of rfl h1
  | methodLinkNest => exact va_Nw.of rfl h1
  | arrayOver ty =>
    cases ty with
    | array t => exact h1
    | _ => exact absurd h2 Bool.false_ne_true
  | _ => exact absurd h2 Bool.false_ne_true
set_option maxHeartbeats 40000000 in
set_option maxRecDepth 100000 in
/-- THE LAW, from its entry -/
theorem whole_start {p : Program} {e : Env} {s : State} {m : MethodId} {below : List Frame} {meth : Method} {c : Code} (l : Launch) (hflags : l.flags = flags0) {b L : Nat} {xs : Nat → Int32} (hL : L ≤ 3584) (C0 : lw_At p s m meth c b L xs) : W p l e room_1 s m #[Value.ref b] below meth c s.heap [] 0 0 (lw_Z below #[Value.ref b] s) (entryFrame m ([Value.ref b] : List Value).toArray 4) := by
  obtain ⟨hx, hb, hr, hml, hown, hts, hX, hbl, hlocks, hgv⟩ := id C0
  have htg : ∀ w ∈ gw, w.before #[Value.ref b] s = true := fun w h => hts w (gw_in h)
  have hA : ∀ q : Nat, s.heap.size ≤ q → (fun q : Nat => s.heap.size ≤ q) q := fun _ h => h
  obtain ⟨Ks, Vs, fv, hSS⟩ := ss_start hts hgv
  obtain ⟨D, cA, hK⟩ := k_start hts
  have hN := n_start hts
  have hLC : LC p s m meth c b L xs D cA Ks Vs fv := ⟨C0, hK, hN, hSS⟩
  obtain ⟨ofill, hfill, hof⟩ := s_fillI (fu := 5000) (n := 8) (p0 := fun _ => 0) (v := (-1 : Int32)) (Nat.le_refl _) (by decide)
  have hS : va_S (fun q : Nat => s.heap.size ≤ q) s.heap s.heap [] := va_S.rf
  have hP : va_P D CL [] s.heap := fun k q h => by simp at h
  have hD : va_D (fun q : Nat => s.heap.size ≤ q) [] := ⟨fun i j p q h => by simp at h, fun k q h => by simp at h⟩
  have hl := lv_entry ([.ref b]) (n := 4) (Nat.le_of_ble_eq_true rfl)
  rw [lg_entry_eq]
  generalize (lg_sl ([.ref b]) ++ List.replicate (4 - (lg_sl ([.ref b])).length) Slot.unset).toArray = ls at hl ⊢
  have hl : lv_has ls 4 [(0, .ref b)] := hl
  refine va_new (ci := 5) (fs := [.null, .null, .null, .int 0, .null, .null, .null, .null, .null, .null, .null, .null, .null, .null, .null, .null, .null]) (C := RX5) (T := TX5) (N := 17) hx hb htg inX5 tyX5 tyX5_ok hown (hts (.classLink R_law 7 RX5) (by decide +kernel)) (hts (.instantiable RX5 17) (by decide +kernel)) (htg _ q_1_1) hK hP hD hS hA rfl (fun j hj => by rcases (show j = 0 ∨ j = 1 ∨ j = 2 ∨ j = 3 ∨ j = 4 ∨ j = 5 ∨ j = 6 ∨ j = 7 ∨ j = 8 ∨ j = 9 ∨ j = 10 ∨ j = 11 ∨ j = 12 ∨ j = 13 ∨ j = 14 ∨ j = 15 ∨ j = 16 by omega) with rfl | rfl | rfl | rfl | rfl | rfl | rfl | rfl | rfl | rfl | rfl | rfl | rfl | rfl | rfl | rfl | rfl <;> rfl) (Nat.le_of_ble_eq_true rfl) (Nat.le_of_ble_eq_true rfl) dL_law_0 (fun q H (hP : va_P D CL [(q, .inr (5, [.null, .null, .null, .int 0, .null, .null, .null, .null, .null, .null, .null, .null, .null, .null, .null, .null, .null]))] H) (hD : va_D (fun q : Nat => s.heap.size ≤ q) [(q, .inr (5, [.null, .null, .null, .int 0, .null, .null, .null, .null, .null, .null, .null, .null, .null, .null, .null, .null, .null]))]) hS => ?_)
  refine lv_dup hx hb dL_law_3 rfl ?_
  refine xr_vc (w1 := w1_X5_init cA 5000 ofill) (wr := []) (va_runI (As := []) (rest := [.ref q]) ⟨hx, hb, hml, hown, htg⟩ (c_X5_init l D cA _ 5000 ofill hfill q) (cwI 0 htg (gU (gw_of (by decide +kernel : Cond.code yX5_init cX5_init 1 ((Option.none : Option Jvm.ClassFile.FieldType)) ∈ lw_tbl) rfl)) rfl rfl rfl (htg _ q_1_1) (hts (.methodLink R_law 9 yX5_init) (by decide +kernel)) (hts (.instanceMethod yX5_init) (by decide +kernel)) rfl hd_X5_init.2 ⟨Nat.le_of_ble_eq_true rfl, Nat.le_of_ble_eq_true rfl⟩) (xpS (As := [.ref q]) hN hK hP hD [0] rfl (by decide)) rfl rfl hl.1 rfl (lv_room (Nat.le_of_ble_eq_true rfl)) dL_law_4 ⟨Nat.le_of_ble_eq_true rfl, Nat.le_of_ble_eq_true rfl⟩) hP hD hS hA [0] [] rfl rfl (by decide) (by decide) (fun ad H locs hu hP2 hD2 hS2 => ?_)
  subst hu
  have hP : va_P D CL (w1_X5_init cA 5000 ofill ad) H := hP2
  have hD : va_D (fun q : Nat => s.heap.size ≤ q) (w1_X5_init cA 5000 ofill ad) := hD2
  have hS := hS2
  refine lv_astore_n (lv' := [(1, .ref (ad 0)), (0, .ref b)]) hx hb dL_law_7 rfl hl (by decide) rfl (fun ls hl => ?_)
  refine va_new (ci := 6) (fs := (.null :: .null :: .null :: .null :: .null :: .null :: .null :: .int 0 :: .null :: .int 0 :: .int 0 :: .int 0 :: .int 0 :: .int 0 :: .int 0 :: .int 0 :: .int 0 :: .null :: .null :: .null :: .int 0 :: .null :: .null :: .int 0 :: .int 0 :: .int 0 :: .int 0 :: .int 0 :: .null :: .int 0 :: .null :: .int 0 :: .null :: .int 0 :: .null :: .int 0 :: .int 0 :: .int 0 :: .long 0 :: .long 0 :: .int 0 :: .null :: .int 0 :: .int 0 :: .int 0 :: .null :: .null :: .null :: .null :: [])) (C := RX6) (T := TX6) (N := 49) hx hb htg inX6 tyX6 tyX6_ok hown (hts (.classLink R_law 10 RX6) (by decide +kernel)) (htg _ q_4_180) (htg _ q_1_8) hK hP hD hS hA rfl (fun j hj => by rcases (show j = 0 ∨ j = 1 ∨ j = 2 ∨ j = 3 ∨ j = 4 ∨ j = 5 ∨ j = 6 ∨ j = 7 ∨ j = 8 ∨ j = 9 ∨ j = 10 ∨ j = 11 ∨ j = 12 ∨ j = 13 ∨ j = 14 ∨ j = 15 ∨ j = 16 ∨ j = 17 ∨ j = 18 ∨ j = 19 ∨ j = 20 ∨ j = 21 ∨ j = 22 ∨ j = 23 ∨ j = 24 ∨ j = 25 ∨ j = 26 ∨ j = 27 ∨ j = 28 ∨ j = 29 ∨ j = 30 ∨ j = 31 ∨ j = 32 ∨ j = 33 ∨ j = 34 ∨ j = 35 ∨ j = 36 ∨ j = 37 ∨ j = 38 ∨ j = 39 ∨ j = 40 ∨ j = 41 ∨ j = 42 ∨ j = 43 ∨ j = 44 ∨ j = 45 ∨ j = 46 ∨ j = 47 ∨ j = 48 by omega) with rfl | rfl | rfl | rfl | rfl | rfl | rfl | rfl | rfl | rfl | rfl | rfl | rfl | rfl | rfl | rfl | rfl | rfl | rfl | rfl | rfl | rfl | rfl | rfl | rfl | rfl | rfl | rfl | rfl | rfl | rfl | rfl | rfl | rfl | rfl | rfl | rfl | rfl | rfl | rfl | rfl | rfl | rfl | rfl | rfl | rfl | rfl | rfl | rfl <;> rfl) (Nat.le_of_ble_eq_true rfl) (Nat.le_of_ble_eq_true rfl) dL_law_8 (fun q H (hP : va_P D CL (w1_X5_init cA 5000 ofill ad ++ [(q, .inr (6, (.null :: .null :: .null :: .null :: .null :: .null :: .null :: .int 0 :: .null :: .int 0 :: .int 0 :: .int 0 :: .int 0 :: .int 0 :: .int 0 :: .int 0 :: .int 0 :: .null :: .null :: .null :: .int 0 :: .null :: .null :: .int 0 :: .int 0 :: .int 0 :: .int 0 :: .int 0 :: .null :: .int 0 :: .null :: .int 0 :: .null :: .int 0 :: .null :: .int 0 :: .int 0 :: .int 0 :: .long 0 :: .long 0 :: .int 0 :: .null :: .int 0 :: .int 0 :: .int 0 :: .null :: .null :: .null :: .null :: [])))]) H) (hD : va_D (fun q : Nat => s.heap.size ≤ q) (w1_X5_init cA 5000 ofill ad ++ [(q, .inr (6, (.null :: .null :: .null :: .null :: .null :: .null :: .null :: .int 0 :: .null :: .int 0 :: .int 0 :: .int 0 :: .int 0 :: .int 0 :: .int 0 :: .int 0 :: .int 0 :: .null :: .null :: .null :: .int 0 :: .null :: .null :: .int 0 :: .int 0 :: .int 0 :: .int 0 :: .int 0 :: .null :: .int 0 :: .null :: .int 0 :: .null :: .int 0 :: .null :: .int 0 :: .int 0 :: .int 0 :: .long 0 :: .long 0 :: .int 0 :: .null :: .int 0 :: .int 0 :: .int 0 :: .null :: .null :: .null :: .null :: [])))])) hS => ?_)
  refine lv_dup hx hb dL_law_11 rfl ?_
  refine xr_vc (w1 := w1_X6_init cA) (wc := [(q, .inr (6, (.null :: .null :: .null :: .null :: .null :: .null :: .null :: .int 0 :: .null :: .int 0 :: .int 0 :: .int 0 :: .int 0 :: .int 0 :: .int 0 :: .int 0 :: .int 0 :: .null :: .null :: .null :: .int 0 :: .null :: .null :: .int 0 :: .int 0 :: .int 0 :: .int 0 :: .int 0 :: .null :: .int 0 :: .null :: .int 0 :: .null :: .int 0 :: .null :: .int 0 :: .int 0 :: .int 0 :: .long 0 :: .long 0 :: .int 0 :: .null :: .int 0 :: .int 0 :: .int 0 :: .null :: .null :: .null :: .null :: [])))]) (wr := w1_X5_init cA 5000 ofill ad) (va_runI (As := []) (rest := [.ref q]) ⟨hx, hb, hml, hown, htg⟩ (c_X6_init l D cA _ q) (cwI 0 htg (gU q_4_183) rfl rfl rfl (htg _ q_1_8) (hts (.methodLink R_law 12 yX6_init) (by decide +kernel)) (htg _ q_4_182) rfl hd_X6_init.2 ⟨Nat.le_of_ble_eq_true rfl, Nat.le_of_ble_eq_true rfl⟩) (xpS (As := [.ref q]) hN hK hP hD [34] rfl (by decide)) rfl rfl hl.1 rfl (lv_room (Nat.le_of_ble_eq_true rfl)) dL_law_12 ⟨Nat.le_of_ble_eq_true rfl, Nat.le_of_ble_eq_true rfl⟩) hP hD hS hA [34] (0 :: 1 :: 2 :: 3 :: 4 :: 5 :: 6 :: 7 :: 8 :: 9 :: 10 :: 11 :: 12 :: 13 :: 14 :: 15 :: 16 :: 17 :: 18 :: 19 :: 20 :: 21 :: 22 :: 23 :: 24 :: 25 :: 26 :: 27 :: 28 :: 29 :: 30 :: 31 :: 32 :: 33 :: []) rfl rfl (by decide) (by decide) (fun am H locs hu hP3 hD3 hS3 => ?_)
  subst hu
  have hP := hP3
  have hD := hD3
  have hS := hS3
  rw [w_start] at hP hD
  refine lv_astore_n (lv' := [(2, .ref (am 0)), (1, .ref (ad 0)), (0, .ref b)]) hx hb dL_law_15 rfl hl (by decide) rfl (fun ls hl => ?_)
  refine lv_iconst (v := (0 : Int32)) hx hb dL_law_16 (by decide) ?_
  refine lv_istore_n (lv' := [(3, .int 0), (2, .ref (am 0)), (1, .ref (ad 0)), (0, .ref b)]) hx hb dL_law_17 rfl hl (by decide) rfl (fun ls hl => ?_)
  exact law_loop hL hLC 5000 ad am (L + 1) 0 0 rfl (Nat.zero_le _) (by omega) _ _ _ _ _ _ _ none none _ _ _ _ _ _ _ _ _ _ (r_start (Nat.le_refl _) hof) rfl H locs ls hP hD hS (lv_sub hl [3, 2, 1, 0] rfl)
