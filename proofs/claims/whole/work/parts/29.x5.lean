def m_X5_seed (fu : Nat) (t : Nat → Int32) (t_now : Nat → Int32) (l1 : Int32) : Option (Int32 × (Nat → Int32)) :=
  some (t_now 7, (upd t_now 7 l1))
abbrev rm_X5_seed : Room := ({ frames := 0, cells := 0, slots := 0, locals := 0 } : Room)
abbrev w0_X5_seed (cA : Nat → ClassId) (ad : Nat → Nat) (t : Nat → Int32) (t_now : Nat → Int32) : va_W := [((ad 0), e_X5 ad t), ((ad 1), e_X1 (ad 2) (ad 3) (ad 4) t_now)]
abbrev w1_X5_seed (cA : Nat → ClassId) (ad : Nat → Nat) (t : Nat → Int32) (u : (Nat → Int32)) : va_W := [((ad 0), e_X5 ad t), ((ad 1), e_X1 (ad 2) (ad 3) (ad 4) u)]
theorem hd_X5_seed : yX5_seed.cls = RX5 ∧ yX5_seed.cls ≠ "java/lang/invoke/MethodHandle" ∧ yX5_seed.cls ≠ "java/lang/invoke/VarHandle" ∧ (parseMethodDescriptor yX5_seed.desc).map (fun d => d.parameters.length) = some 1 := by decide +kernel
set_option maxHeartbeats 40000000 in
set_option maxRecDepth 100000 in
theorem c_X5_seed (l : Launch) (D : va_G) (cA : Nat → ClassId) (sz : Nat) (fu : Nat) (ad : Nat → Nat) (t : Nat → Int32) (t_now : Nat → Int32) (l1 : Int32) (out : Int32 × (Nat → Int32)) (hm : m_X5_seed fu t t_now l1 = some out) : MI l yX5_seed (wU yX5_seed cX5_seed 3 ((Option.some Jvm.ClassFile.FieldType.int))) rm_X5_seed D cA sz [.ref (ad 0), .int l1] (w0_X5_seed cA ad t t_now) out (w1_X5_seed cA ad t) := by
  refine Met.ofW (cc := cX5_seed) (maxL := 3) (ret := (Option.some Jvm.ClassFile.FieldType.int)) (by decide) rfl ?_
  intro p e s m args below meth c s₁ B hml hv
  obtain ⟨hargs, hsz, hP, hK, hD0, hN⟩ := hv
  have hx := B.exec
  have hb := B.bytes
  have hr := B.returns
  have htg : ∀ w ∈ gw, w.before args s = true := fun w h => atoms_spec (ws := wU yX5_seed cX5_seed 3 ((Option.some Jvm.ClassFile.FieldType.int))) B.pre w (List.mem_cons_of_mem _ h)
  have hown : s.vm.findClass RX5 = some m.cls := findClass_of_methodNamed B.named
  have hlocks := B.notSynchronized
  subst hsz
  have hD := hD0.self (sz := s.heap.size)
  have hA : ∀ q : Nat, s.heap.size ≤ q → va_A (w0_X5_seed cA ad t t_now) s.heap.size q := fun q h => Or.inr h
  have hS : va_S (va_A (w0_X5_seed cA ad t t_now) s.heap.size) s.heap s.heap [] := va_S.rf
  generalize va_A (w0_X5_seed cA ad t t_now) s.heap.size = A at hA hD hS ⊢
  obtain ⟨Q, hQ⟩ : ∃ Q : State → Prop, Q = MQ below (va_Qi (fun (r : Int32) (u : (Nat → Int32)) => (r, u) = out) (pst0 D cA A (w1_X5_seed cA ad t)) A) args s 0 0 A := ⟨_, rfl⟩
  refine (?_ : W p l e rm_X5_seed s m args below meth c s.heap [] 0 0 (MQ below (va_Qi (fun (r : Int32) (u : (Nat → Int32)) => (r, u) = out) (pst0 D cA A (w1_X5_seed cA ad t)) A) args s 0 0 A) (entryFrame m args 3))
  rw [← hQ]
  have hP : va_P D CL [((ad 0), e_X5 ad t), ((ad 1), e_X1 (ad 2) (ad 3) (ad 4) t_now)] s.heap := hP
  have hD : va_D A [((ad 0), e_X5 ad t), ((ad 1), e_X1 (ad 2) (ad 3) (ad 4) t_now)] := hD
  unfold m_X5_seed at hm
  subst hargs
  have hl := lv_entry ([.ref (ad 0), .int l1]) (n := 3) (Nat.le_of_ble_eq_true rfl)
  rw [lg_entry_eq]
  generalize (lg_sl ([.ref (ad 0), .int l1]) ++ List.replicate (3 - (lg_sl ([.ref (ad 0), .int l1])).length) Slot.unset).toArray = ls at hl ⊢
  have hl : lv_has ls 3 [(0, .ref (ad 0)), (1, .int l1)] := hl
  refine lv_aload_n hx hb dX5_seed_0 rfl (lv_at hl 0 rfl) ?_
  refine va_get (D := D) (ci := 5) (v := .ref (ad 1)) (C := RX5) (T := TX5) (N := 17) hx hb htg inX5 hown hK hP 0 rfl rfl 0 (by decide) (htg _ q_1_188) (fun _ h9 => h9) rfl dX5_seed_1 ?_
  refine va_getN (D := D) (ci := 1) (v := .int (t_now 7)) (C := RX1) (T := TX1) (N := 12) hx hb htg inX1 hown hK hP 1 rfl rfl 7 (by decide) (va_Nw.use rfl (hN _ q_1_56)) (fun _ h9 => h9) rfl dX5_seed_4 ?_
  refine lv_istore_n (lv' := [(2, .int (t_now 7)), (0, .ref (ad 0)), (1, .int l1)]) hx hb dX5_seed_7 rfl hl (by decide) rfl (fun ls hl => ?_)
  refine lv_aload_n hx hb dX5_seed_8 rfl (lv_at hl 1 rfl) ?_
  refine va_get (D := D) (ci := 5) (v := .ref (ad 1)) (C := RX5) (T := TX5) (N := 17) hx hb htg inX5 hown hK hP 0 rfl rfl 0 (by decide) (htg _ q_1_188) (fun _ h9 => h9) rfl dX5_seed_9 ?_
  refine lv_iload_n hx hb dX5_seed_12 rfl (lv_at hl 2 rfl) ?_
  refine va_putN (D := D) (ci := 1) (v := .int l1) (ty := .int) (C := RX1) (T := TX1) (N := 12) hx hb htg inX1 tyX1 tyX1_ok nmX1 hown hK hP hD hS 1 rfl rfl 7 (by decide) (va_Nw.use rfl (hN _ q_1_56)) (fun _ h9 => h9) rfl (by decide +kernel) rfl rfl (Nat.le_of_ble_eq_true rfl) dX5_seed_13 (fun H locs (hP : va_P D CL [((ad 0), e_X5 ad t), ((ad 1), e_X1 (ad 2) (ad 3) (ad 4) (upd t_now 7 l1))] H) (hD : va_D A [((ad 0), e_X5 ad t), ((ad 1), e_X1 (ad 2) (ad 3) (ad 4) (upd t_now 7 l1))]) hS => ?_)
  refine lv_iload_n hx hb dX5_seed_16 rfl (lv_at hl 0 rfl) ?_
  rw [hQ]
  exact W.iret (v := t_now 7) hx hb hr (fun t9 ht hW => ⟨⟨t_now 7, (upd t_now 7 l1), rfl, (Option.some.inj hm), by rw [ht]; exact hP, va_K.moved hW.alike hK, hD⟩, hS.F ht⟩) hS.2.2 dX5_seed_17
def m_X5_image (fu : Nat) (t : Nat → Int32) (t_now : Nat → Int32) (t_now_kinds : Nat → Int32) (t_now_as : Nat → Int32) (t_now_pitches : Nat → Int32) (t_kept : Nat → Int32) (t_kept_kinds : Nat → Int32) (t_kept_as : Nat → Int32) (t_kept_pitches : Nat → Int32) : Option (Int32 × ((Nat → Int32) × (Nat → Int32) × (Nat → Int32) × (Nat → Int32) × (Nat → Int32))) :=
  (m_X1_becomes fu t_kept t_kept_kinds t_kept_as t_kept_pitches t_now t_now_kinds t_now_as t_now_pitches).bind fun o1 =>
  some ((1 : Int32), ((upd t 3 (1 : Int32)), o1.1, o1.2.1, o1.2.2.1, o1.2.2.2))
abbrev rm_X5_image : Room := ({ frames := 1, cells := 0, slots := 0, locals := 22 } : Room)
abbrev w0_X5_image (cA : Nat → ClassId) (ad : Nat → Nat) (t : Nat → Int32) (t_now : Nat → Int32) (t_now_kinds : Nat → Int32) (t_now_as : Nat → Int32) (t_now_pitches : Nat → Int32) (t_kept : Nat → Int32) (t_kept_kinds : Nat → Int32) (t_kept_as : Nat → Int32) (t_kept_pitches : Nat → Int32) : va_W := [((ad 0), e_X5 ad t), ((ad 1), e_X1 (ad 2) (ad 3) (ad 4) t_now), ((ad 2), eI cA 8 t_now_kinds), ((ad 3), eI cA 8 t_now_as), ((ad 4), eI cA 8 t_now_pitches), ((ad 5), e_X1 (ad 6) (ad 7) (ad 8) t_kept), ((ad 6), eI cA 8 t_kept_kinds), ((ad 7), eI cA 8 t_kept_as), ((ad 8), eI cA 8 t_kept_pitches)]
abbrev w1_X5_image (cA : Nat → ClassId) (ad : Nat → Nat) (t_now : Nat → Int32) (t_now_kinds : Nat → Int32) (t_now_as : Nat → Int32) (t_now_pitches : Nat → Int32) (u : (Nat → Int32) × (Nat → Int32) × (Nat → Int32) × (Nat → Int32) × (Nat → Int32)) : va_W := [((ad 0), e_X5 ad u.1), ((ad 1), e_X1 (ad 2) (ad 3) (ad 4) t_now), ((ad 2), eI cA 8 t_now_kinds), ((ad 3), eI cA 8 t_now_as), ((ad 4), eI cA 8 t_now_pitches), ((ad 5), e_X1 (ad 6) (ad 7) (ad 8) u.2.1), ((ad 6), eI cA 8 u.2.2.1), ((ad 7), eI cA 8 u.2.2.2.1), ((ad 8), eI cA 8 u.2.2.2.2)]
theorem hd_X5_image : yX5_image.cls = RX5 ∧ yX5_image.cls ≠ "java/lang/invoke/MethodHandle" ∧ yX5_image.cls ≠ "java/lang/invoke/VarHandle" ∧ (parseMethodDescriptor yX5_image.desc).map (fun d => d.parameters.length) = some 0 := by decide +kernel
set_option maxHeartbeats 40000000 in
set_option maxRecDepth 100000 in
theorem c_X5_image (l : Launch) (D : va_G) (cA : Nat → ClassId) (sz : Nat) (fu : Nat) (ad : Nat → Nat) (t : Nat → Int32) (t_now : Nat → Int32) (t_now_kinds : Nat → Int32) (t_now_as : Nat → Int32) (t_now_pitches : Nat → Int32) (t_kept : Nat → Int32) (t_kept_kinds : Nat → Int32) (t_kept_as : Nat → Int32) (t_kept_pitches : Nat → Int32) (out : Int32 × ((Nat → Int32) × (Nat → Int32) × (Nat → Int32) × (Nat → Int32) × (Nat → Int32))) (hm : m_X5_image fu t t_now t_now_kinds t_now_as t_now_pitches t_kept t_kept_kinds t_kept_as t_kept_pitches = some out) : MI l yX5_image (wU yX5_image cX5_image 1 ((Option.some Jvm.ClassFile.FieldType.int))) rm_X5_image D cA sz [.ref (ad 0)] (w0_X5_image cA ad t t_now t_now_kinds t_now_as t_now_pitches t_kept t_kept_kinds t_kept_as t_kept_pitches) out (w1_X5_image cA ad t_now t_now_kinds t_now_as t_now_pitches) := by
  refine Met.ofW (cc := cX5_image) (maxL := 1) (ret := (Option.some Jvm.ClassFile.FieldType.int)) (by decide) rfl ?_
  intro p e s m args below meth c s₁ B hml hv
  obtain ⟨hargs, hsz, hP, hK, hD0, hN⟩ := hv
  have hx := B.exec
  have hb := B.bytes
  have hr := B.returns
  have htg : ∀ w ∈ gw, w.before args s = true := fun w h => atoms_spec (ws := wU yX5_image cX5_image 1 ((Option.some Jvm.ClassFile.FieldType.int))) B.pre w (List.mem_cons_of_mem _ h)
  have hown : s.vm.findClass RX5 = some m.cls := findClass_of_methodNamed B.named
  have hlocks := B.notSynchronized
  subst hsz
  have hD := hD0.self (sz := s.heap.size)
  have hA : ∀ q : Nat, s.heap.size ≤ q → va_A (w0_X5_image cA ad t t_now t_now_kinds t_now_as t_now_pitches t_kept t_kept_kinds t_kept_as t_kept_pitches) s.heap.size q := fun q h => Or.inr h
  have hS : va_S (va_A (w0_X5_image cA ad t t_now t_now_kinds t_now_as t_now_pitches t_kept t_kept_kinds t_kept_as t_kept_pitches) s.heap.size) s.heap s.heap [] := va_S.rf
  generalize va_A (w0_X5_image cA ad t t_now t_now_kinds t_now_as t_now_pitches t_kept t_kept_kinds t_kept_as t_kept_pitches) s.heap.size = A at hA hD hS ⊢
  obtain ⟨Q, hQ⟩ : ∃ Q : State → Prop, Q = MQ below (va_Qi (fun (r : Int32) (u : (Nat → Int32) × (Nat → Int32) × (Nat → Int32) × (Nat → Int32) × (Nat → Int32)) => (r, u) = out) (pst0 D cA A (w1_X5_image cA ad t_now t_now_kinds t_now_as t_now_pitches)) A) args s 0 0 A := ⟨_, rfl⟩
  refine (?_ : W p l e rm_X5_image s m args below meth c s.heap [] 0 0 (MQ below (va_Qi (fun (r : Int32) (u : (Nat → Int32) × (Nat → Int32) × (Nat → Int32) × (Nat → Int32) × (Nat → Int32)) => (r, u) = out) (pst0 D cA A (w1_X5_image cA ad t_now t_now_kinds t_now_as t_now_pitches)) A) args s 0 0 A) (entryFrame m args 1))
  rw [← hQ]
  have hP : va_P D CL [((ad 0), e_X5 ad t), ((ad 1), e_X1 (ad 2) (ad 3) (ad 4) t_now), ((ad 2), eI cA 8 t_now_kinds), ((ad 3), eI cA 8 t_now_as), ((ad 4), eI cA 8 t_now_pitches), ((ad 5), e_X1 (ad 6) (ad 7) (ad 8) t_kept), ((ad 6), eI cA 8 t_kept_kinds), ((ad 7), eI cA 8 t_kept_as), ((ad 8), eI cA 8 t_kept_pitches)] s.heap := hP
  have hD : va_D A [((ad 0), e_X5 ad t), ((ad 1), e_X1 (ad 2) (ad 3) (ad 4) t_now), ((ad 2), eI cA 8 t_now_kinds), ((ad 3), eI cA 8 t_now_as), ((ad 4), eI cA 8 t_now_pitches), ((ad 5), e_X1 (ad 6) (ad 7) (ad 8) t_kept), ((ad 6), eI cA 8 t_kept_kinds), ((ad 7), eI cA 8 t_kept_as), ((ad 8), eI cA 8 t_kept_pitches)] := hD
  unfold m_X5_image at hm
  subst hargs
  have hl := lv_entry ([.ref (ad 0)]) (n := 1) (Nat.le_of_ble_eq_true rfl)
  rw [lg_entry_eq]
  generalize (lg_sl ([.ref (ad 0)]) ++ List.replicate (1 - (lg_sl ([.ref (ad 0)])).length) Slot.unset).toArray = ls at hl ⊢
  have hl : lv_has ls 1 [(0, .ref (ad 0))] := hl
  refine lv_aload_n hx hb dX5_image_0 rfl (lv_at hl 0 rfl) ?_
  refine va_get (D := D) (ci := 5) (v := .ref (ad 5)) (C := RX5) (T := TX5) (N := 17) hx hb htg inX5 hown hK hP 0 rfl rfl 1 (by decide) (htg _ q_1_189) (fun _ h9 => h9) rfl dX5_image_1 ?_
  refine lv_aload_n hx hb dX5_image_4 rfl (lv_at hl 0 rfl) ?_
  refine va_get (D := D) (ci := 5) (v := .ref (ad 1)) (C := RX5) (T := TX5) (N := 17) hx hb htg inX5 hown hK hP 0 rfl rfl 0 (by decide) (htg _ q_1_188) (fun _ h9 => h9) rfl dX5_image_5 ?_
  obtain ⟨o1, ho2, hm⟩ := bd_s hm
  refine xr_v (wr := [((ad 0), e_X5 ad t)]) (wn := [((ad 0), e_X5 ad t), ((ad 1), e_X1 (ad 2) (ad 3) (ad 4) t_now), ((ad 2), eI cA 8 t_now_kinds), ((ad 3), eI cA 8 t_now_as), ((ad 4), eI cA 8 t_now_pitches), ((ad 5), e_X1 (ad 6) (ad 7) (ad 8) o1.1), ((ad 6), eI cA 8 o1.2.1), ((ad 7), eI cA 8 o1.2.2.1), ((ad 8), eI cA 8 o1.2.2.2)]) (va_runVN (As := [.ref (ad 1)]) (rest := []) ⟨hx, hb, hml, hown, htg⟩ (c_X1_becomes l D cA _ fu (ad 5) (ad 6) (ad 7) (ad 8) (ad 1) (ad 2) (ad 3) (ad 4) t_kept t_kept_kinds t_kept_as t_kept_pitches t_now t_now_kinds t_now_as t_now_pitches o1 ho2) ⟨va_cnB 1 htg (gU q_2_215) rfl rfl rfl (hN _ q_2_212) (htg _ q_1_2) hd_X1_becomes.2 ⟨Nat.le_of_ble_eq_true rfl, Nat.le_of_ble_eq_true rfl⟩, htg _ q_2_214, htg _ q_p2_14⟩ (xpV hN hK hP hD [5, 6, 7, 8, 1, 2, 3, 4] rfl (by decide) rfl rfl) rfl rfl hl.1 rfl (lv_room (Nat.le_of_ble_eq_true rfl)) dX5_image_8 ⟨Nat.zero_le _, Nat.zero_le _⟩) hP hD hS hA [5, 6, 7, 8, 1, 2, 3, 4] [0] [0, 5, 6, 7, 8, 1, 2, 3, 4] rfl rfl (by decide) (by decide) rfl (by decide) (fun H locs hP hD hS => ?_)
  refine lv_aload_n hx hb dX5_image_11 rfl (lv_at hl 0 rfl) ?_
  refine lv_iconst (v := (1 : Int32)) hx hb dX5_image_12 (by decide) ?_
  refine va_put (D := D) (ci := 5) (v := .int (1 : Int32)) (ty := .boolean) (C := RX5) (T := TX5) (N := 17) hx hb htg inX5 tyX5 tyX5_ok nmX5 hown hK hP hD hS 0 rfl rfl 3 (by decide) (htg _ q_1_191) (fun _ h9 => h9) rfl (by decide +kernel) (by decide) rfl (Nat.le_of_ble_eq_true rfl) dX5_image_13 (fun H locs (hP : va_P D CL [((ad 0), e_X5 ad (upd t 3 (1 : Int32))), ((ad 1), e_X1 (ad 2) (ad 3) (ad 4) t_now), ((ad 2), eI cA 8 t_now_kinds), ((ad 3), eI cA 8 t_now_as), ((ad 4), eI cA 8 t_now_pitches), ((ad 5), e_X1 (ad 6) (ad 7) (ad 8) o1.1), ((ad 6), eI cA 8 o1.2.1), ((ad 7), eI cA 8 o1.2.2.1), ((ad 8), eI cA 8 o1.2.2.2)] H) (hD : va_D A [((ad 0), e_X5 ad (upd t 3 (1 : Int32))), ((ad 1), e_X1 (ad 2) (ad 3) (ad 4) t_now), ((ad 2), eI cA 8 t_now_kinds), ((ad 3), eI cA 8 t_now_as), ((ad 4), eI cA 8 t_now_pitches), ((ad 5), e_X1 (ad 6) (ad 7) (ad 8) o1.1), ((ad 6), eI cA 8 o1.2.1), ((ad 7), eI cA 8 o1.2.2.1), ((ad 8), eI cA 8 o1.2.2.2)]) hS => ?_)
  refine lv_iconst (v := (1 : Int32)) hx hb dX5_image_16 (by decide) ?_
  rw [hQ]
  exact W.iret (v := (1 : Int32)) hx hb hr (fun t9 ht hW => ⟨⟨(1 : Int32), ((upd t 3 (1 : Int32)), o1.1, o1.2.1, o1.2.2.1, o1.2.2.2), rfl, (Option.some.inj hm), by rw [ht]; exact hP, va_K.moved hW.alike hK, hD⟩, hS.F ht⟩) hS.2.2 dX5_image_17
def m_X5_again (fu : Nat) (t : Nat → Int32) (t_now : Nat → Int32) (t_now_kinds : Nat → Int32) (t_now_as : Nat → Int32) (t_now_pitches : Nat → Int32) (t_kept : Nat → Int32) (t_kept_kinds : Nat → Int32) (t_kept_as : Nat → Int32) (t_kept_pitches : Nat → Int32) (t_shelves_holding : Nat → Int32) (t_refusals : Nat → Int32) : Option (Int32 × ((Nat → Int32) × (Nat → Int32) × (Nat → Int32) × (Nat → Int32) × (Nat → Int32) × (Nat → Int32))) :=
  (if t 3 = 0 then
    (m_X5_refuse fu t t_refusals (-5 : Int32)).bind fun o6 =>
    some (o6.1, (t_now, t_now_kinds, t_now_as, t_now_pitches, t_shelves_holding, o6.2))
  else
    (m_X1_becomes fu t_now t_now_kinds t_now_as t_now_pitches t_kept t_kept_kinds t_kept_as t_kept_pitches).bind fun o2 =>
    (m_X0_dropVoicesFrom fu t_shelves_holding (o2.1 8)).bind fun o4 =>
    some ((1 : Int32), (o2.1, o2.2.1, o2.2.2.1, o2.2.2.2, o4, t_refusals)))
abbrev rm_X5_again : Room := ({ frames := 2, cells := 0, slots := 0, locals := 44 } : Room)
abbrev w0_X5_again (cA : Nat → ClassId) (ad : Nat → Nat) (t : Nat → Int32) (t_now : Nat → Int32) (t_now_kinds : Nat → Int32) (t_now_as : Nat → Int32) (t_now_pitches : Nat → Int32) (t_kept : Nat → Int32) (t_kept_kinds : Nat → Int32) (t_kept_as : Nat → Int32) (t_kept_pitches : Nat → Int32) (t_shelves_holding : Nat → Int32) (t_refusals : Nat → Int32) : va_W := [((ad 0), e_X5 ad t), ((ad 1), e_X1 (ad 2) (ad 3) (ad 4) t_now), ((ad 2), eI cA 8 t_now_kinds), ((ad 3), eI cA 8 t_now_as), ((ad 4), eI cA 8 t_now_pitches), ((ad 5), e_X1 (ad 6) (ad 7) (ad 8) t_kept), ((ad 6), eI cA 8 t_kept_kinds), ((ad 7), eI cA 8 t_kept_as), ((ad 8), eI cA 8 t_kept_pitches), ((ad 13), e_X0 (ad 14) (ad 15) (ad 16)), ((ad 14), eI cA 8 t_shelves_holding), ((ad 19), eI cA 5 t_refusals)]
abbrev w1_X5_again (cA : Nat → ClassId) (ad : Nat → Nat) (t : Nat → Int32) (t_kept : Nat → Int32) (t_kept_kinds : Nat → Int32) (t_kept_as : Nat → Int32) (t_kept_pitches : Nat → Int32) (u : (Nat → Int32) × (Nat → Int32) × (Nat → Int32) × (Nat → Int32) × (Nat → Int32) × (Nat → Int32)) : va_W := [((ad 0), e_X5 ad t), ((ad 1), e_X1 (ad 2) (ad 3) (ad 4) u.1), ((ad 2), eI cA 8 u.2.1), ((ad 3), eI cA 8 u.2.2.1), ((ad 4), eI cA 8 u.2.2.2.1), ((ad 5), e_X1 (ad 6) (ad 7) (ad 8) t_kept), ((ad 6), eI cA 8 t_kept_kinds), ((ad 7), eI cA 8 t_kept_as), ((ad 8), eI cA 8 t_kept_pitches), ((ad 13), e_X0 (ad 14) (ad 15) (ad 16)), ((ad 14), eI cA 8 u.2.2.2.2.1), ((ad 19), eI cA 5 u.2.2.2.2.2)]
theorem hd_X5_again : yX5_again.cls = RX5 ∧ yX5_again.cls ≠ "java/lang/invoke/MethodHandle" ∧ yX5_again.cls ≠ "java/lang/invoke/VarHandle" ∧ (parseMethodDescriptor yX5_again.desc).map (fun d => d.parameters.length) = some 0 := by decide +kernel
set_option maxHeartbeats 40000000 in
set_option maxRecDepth 100000 in
theorem c_X5_again (l : Launch) (D : va_G) (cA : Nat → ClassId) (sz : Nat) (fu : Nat) (ad : Nat → Nat) (t : Nat → Int32) (t_now : Nat → Int32) (t_now_kinds : Nat → Int32) (t_now_as : Nat → Int32) (t_now_pitches : Nat → Int32) (t_kept : Nat → Int32) (t_kept_kinds : Nat → Int32) (t_kept_as : Nat → Int32) (t_kept_pitches : Nat → Int32) (t_shelves_holding : Nat → Int32) (t_refusals : Nat → Int32) (out : Int32 × ((Nat → Int32) × (Nat → Int32) × (Nat → Int32) × (Nat → Int32) × (Nat → Int32) × (Nat → Int32))) (hm : m_X5_again fu t t_now t_now_kinds t_now_as t_now_pitches t_kept t_kept_kinds t_kept_as t_kept_pitches t_shelves_holding t_refusals = some out) : MI l yX5_again (wU yX5_again cX5_again 1 ((Option.some Jvm.ClassFile.FieldType.int))) rm_X5_again D cA sz [.ref (ad 0)] (w0_X5_again cA ad t t_now t_now_kinds t_now_as t_now_pitches t_kept t_kept_kinds t_kept_as t_kept_pitches t_shelves_holding t_refusals) out (w1_X5_again cA ad t t_kept t_kept_kinds t_kept_as t_kept_pitches) := by
  refine Met.ofW (cc := cX5_again) (maxL := 1) (ret := (Option.some Jvm.ClassFile.FieldType.int)) (by decide) rfl ?_
  intro p e s m args below meth c s₁ B hml hv
  obtain ⟨hargs, hsz, hP, hK, hD0, hN⟩ := hv
  have hx := B.exec
  have hb := B.bytes
  have hr := B.returns
  have htg : ∀ w ∈ gw, w.before args s = true := fun w h => atoms_spec (ws := wU yX5_again cX5_again 1 ((Option.some Jvm.ClassFile.FieldType.int))) B.pre w (List.mem_cons_of_mem _ h)
  have hown : s.vm.findClass RX5 = some m.cls := findClass_of_methodNamed B.named
  have hlocks := B.notSynchronized
  subst hsz
  have hD := hD0.self (sz := s.heap.size)
  have hA : ∀ q : Nat, s.heap.size ≤ q → va_A (w0_X5_again cA ad t t_now t_now_kinds t_now_as t_now_pitches t_kept t_kept_kinds t_kept_as t_kept_pitches t_shelves_holding t_refusals) s.heap.size q := fun q h => Or.inr h
  have hS : va_S (va_A (w0_X5_again cA ad t t_now t_now_kinds t_now_as t_now_pitches t_kept t_kept_kinds t_kept_as t_kept_pitches t_shelves_holding t_refusals) s.heap.size) s.heap s.heap [] := va_S.rf
  generalize va_A (w0_X5_again cA ad t t_now t_now_kinds t_now_as t_now_pitches t_kept t_kept_kinds t_kept_as t_kept_pitches t_shelves_holding t_refusals) s.heap.size = A at hA hD hS ⊢
  obtain ⟨Q, hQ⟩ : ∃ Q : State → Prop, Q = MQ below (va_Qi (fun (r : Int32) (u : (Nat → Int32) × (Nat → Int32) × (Nat → Int32) × (Nat → Int32) × (Nat → Int32) × (Nat → Int32)) => (r, u) = out) (pst0 D cA A (w1_X5_again cA ad t t_kept t_kept_kinds t_kept_as t_kept_pitches)) A) args s 0 0 A := ⟨_, rfl⟩
  refine (?_ : W p l e rm_X5_again s m args below meth c s.heap [] 0 0 (MQ below (va_Qi (fun (r : Int32) (u : (Nat → Int32) × (Nat → Int32) × (Nat → Int32) × (Nat → Int32) × (Nat → Int32) × (Nat → Int32)) => (r, u) = out) (pst0 D cA A (w1_X5_again cA ad t t_kept t_kept_kinds t_kept_as t_kept_pitches)) A) args s 0 0 A) (entryFrame m args 1))
  rw [← hQ]
  have hP : va_P D CL [((ad 0), e_X5 ad t), ((ad 1), e_X1 (ad 2) (ad 3) (ad 4) t_now), ((ad 2), eI cA 8 t_now_kinds), ((ad 3), eI cA 8 t_now_as), ((ad 4), eI cA 8 t_now_pitches), ((ad 5), e_X1 (ad 6) (ad 7) (ad 8) t_kept), ((ad 6), eI cA 8 t_kept_kinds), ((ad 7), eI cA 8 t_kept_as), ((ad 8), eI cA 8 t_kept_pitches), ((ad 13), e_X0 (ad 14) (ad 15) (ad 16)), ((ad 14), eI cA 8 t_shelves_holding), ((ad 19), eI cA 5 t_refusals)] s.heap := hP
  have hD : va_D A [((ad 0), e_X5 ad t), ((ad 1), e_X1 (ad 2) (ad 3) (ad 4) t_now), ((ad 2), eI cA 8 t_now_kinds), ((ad 3), eI cA 8 t_now_as), ((ad 4), eI cA 8 t_now_pitches), ((ad 5), e_X1 (ad 6) (ad 7) (ad 8) t_kept), ((ad 6), eI cA 8 t_kept_kinds), ((ad 7), eI cA 8 t_kept_as), ((ad 8), eI cA 8 t_kept_pitches), ((ad 13), e_X0 (ad 14) (ad 15) (ad 16)), ((ad 14), eI cA 8 t_shelves_holding), ((ad 19), eI cA 5 t_refusals)] := hD
  unfold m_X5_again at hm
  subst hargs
  have hl := lv_entry ([.ref (ad 0)]) (n := 1) (Nat.le_of_ble_eq_true rfl)
  rw [lg_entry_eq]
  generalize (lg_sl ([.ref (ad 0)]) ++ List.replicate (1 - (lg_sl ([.ref (ad 0)])).length) Slot.unset).toArray = ls at hl ⊢
  have hl : lv_has ls 1 [(0, .ref (ad 0))] := hl
  refine lv_aload_n hx hb dX5_again_0 rfl (lv_at hl 0 rfl) ?_
  refine va_get (D := D) (ci := 5) (v := .int (t 3)) (C := RX5) (T := TX5) (N := 17) hx hb htg inX5 hown hK hP 0 rfl rfl 3 (by decide) (htg _ q_1_191) (fun _ h9 => h9) rfl dX5_again_1 ?_
  refine lv_if_ne (tgt := 14) hx hb dX5_again_4 (by decide) (fun c1 => ?_) (fun c1 => ?_)
  · have hm := it_f c1 hm
    refine lv_aload_n hx hb dX5_again_14 rfl (lv_at hl 0 rfl) ?_
    refine va_get (D := D) (ci := 5) (v := .ref (ad 1)) (C := RX5) (T := TX5) (N := 17) hx hb htg inX5 hown hK hP 0 rfl rfl 0 (by decide) (htg _ q_1_188) (fun _ h9 => h9) rfl dX5_again_15 ?_
    refine lv_aload_n hx hb dX5_again_18 rfl (lv_at hl 0 rfl) ?_
    refine va_get (D := D) (ci := 5) (v := .ref (ad 5)) (C := RX5) (T := TX5) (N := 17) hx hb htg inX5 hown hK hP 0 rfl rfl 1 (by decide) (htg _ q_1_189) (fun _ h9 => h9) rfl dX5_again_19 ?_
    obtain ⟨o2, ho3, hm⟩ := bd_s hm
    refine xr_v (wr := [((ad 0), e_X5 ad t), ((ad 13), e_X0 (ad 14) (ad 15) (ad 16)), ((ad 14), eI cA 8 t_shelves_holding), ((ad 19), eI cA 5 t_refusals)]) (wn := [((ad 0), e_X5 ad t), ((ad 1), e_X1 (ad 2) (ad 3) (ad 4) o2.1), ((ad 2), eI cA 8 o2.2.1), ((ad 3), eI cA 8 o2.2.2.1), ((ad 4), eI cA 8 o2.2.2.2), ((ad 5), e_X1 (ad 6) (ad 7) (ad 8) t_kept), ((ad 6), eI cA 8 t_kept_kinds), ((ad 7), eI cA 8 t_kept_as), ((ad 8), eI cA 8 t_kept_pitches), ((ad 13), e_X0 (ad 14) (ad 15) (ad 16)), ((ad 14), eI cA 8 t_shelves_holding), ((ad 19), eI cA 5 t_refusals)]) (va_runVN (As := [.ref (ad 5)]) (rest := []) ⟨hx, hb, hml, hown, htg⟩ (c_X1_becomes l D cA _ fu (ad 1) (ad 2) (ad 3) (ad 4) (ad 5) (ad 6) (ad 7) (ad 8) t_now t_now_kinds t_now_as t_now_pitches t_kept t_kept_kinds t_kept_as t_kept_pitches o2 ho3) ⟨va_cnB 1 htg (gU q_2_215) rfl rfl rfl (hN _ q_2_212) (htg _ q_1_2) hd_X1_becomes.2 ⟨Nat.le_of_ble_eq_true rfl, Nat.le_of_ble_eq_true rfl⟩, htg _ q_2_214, htg _ q_p2_14⟩ (xpV hN hK hP hD [1, 2, 3, 4, 5, 6, 7, 8] rfl (by decide) rfl rfl) rfl rfl hl.1 rfl (lv_room (Nat.le_of_ble_eq_true rfl)) dX5_again_22 ⟨Nat.zero_le _, Nat.zero_le _⟩) hP hD hS hA [1, 2, 3, 4, 5, 6, 7, 8] [0, 9, 10, 11] [0, 4, 5, 6, 7, 8, 9, 10, 11, 1, 2, 3] rfl rfl (by decide) (by decide) rfl (by decide) (fun H locs hP hD hS => ?_)
    refine lv_aload_n hx hb dX5_again_25 rfl (lv_at hl 0 rfl) ?_
    refine va_get (D := D) (ci := 5) (v := .ref (ad 13)) (C := RX5) (T := TX5) (N := 17) hx hb htg inX5 hown hK hP 0 rfl rfl 4 (by decide) (htg _ q_1_192) (fun _ h9 => h9) rfl dX5_again_26 ?_
    refine lv_aload_n hx hb dX5_again_29 rfl (lv_at hl 0 rfl) ?_
    refine va_get (D := D) (ci := 5) (v := .ref (ad 1)) (C := RX5) (T := TX5) (N := 17) hx hb htg inX5 hown hK hP 0 rfl rfl 0 (by decide) (htg _ q_1_188) (fun _ h9 => h9) rfl dX5_again_30 ?_
    refine va_getN (D := D) (ci := 1) (v := .int (o2.1 8)) (C := RX1) (T := TX1) (N := 12) hx hb htg inX1 hown hK hP 1 rfl rfl 8 (by decide) (va_Nw.use rfl (hN _ q_1_58)) (fun _ h9 => h9) rfl dX5_again_33 ?_
    obtain ⟨o4, ho5, hm⟩ := bd_s hm
    refine xr_v (wr := [((ad 0), e_X5 ad t), ((ad 1), e_X1 (ad 2) (ad 3) (ad 4) o2.1), ((ad 2), eI cA 8 o2.2.1), ((ad 3), eI cA 8 o2.2.2.1), ((ad 4), eI cA 8 o2.2.2.2), ((ad 5), e_X1 (ad 6) (ad 7) (ad 8) t_kept), ((ad 6), eI cA 8 t_kept_kinds), ((ad 7), eI cA 8 t_kept_as), ((ad 8), eI cA 8 t_kept_pitches), ((ad 19), eI cA 5 t_refusals)]) (wn := [((ad 0), e_X5 ad t), ((ad 1), e_X1 (ad 2) (ad 3) (ad 4) o2.1), ((ad 2), eI cA 8 o2.2.1), ((ad 3), eI cA 8 o2.2.2.1), ((ad 4), eI cA 8 o2.2.2.2), ((ad 5), e_X1 (ad 6) (ad 7) (ad 8) t_kept), ((ad 6), eI cA 8 t_kept_kinds), ((ad 7), eI cA 8 t_kept_as), ((ad 8), eI cA 8 t_kept_pitches), ((ad 13), e_X0 (ad 14) (ad 15) (ad 16)), ((ad 14), eI cA 8 o4), ((ad 19), eI cA 5 t_refusals)]) (va_runVN (As := [.int (o2.1 8)]) (rest := []) ⟨hx, hb, hml, hown, htg⟩ (c_X0_dropVoicesFrom l D cA _ fu (ad 13) (ad 14) (ad 15) (ad 16) t_shelves_holding (o2.1 8) o4 ho5) ⟨va_cnB 1 htg (gU q_4_170) rfl rfl rfl (hN _ q_4_167) (htg _ q_1_3) hd_X0_dropVoicesFrom.2 ⟨Nat.le_of_ble_eq_true rfl, Nat.le_of_ble_eq_true rfl⟩, htg _ q_4_169, htg _ q_p5_5⟩ (xpV hN hK hP hD [9, 10] rfl (by decide) rfl rfl) rfl rfl hl.1 rfl (lv_room (Nat.le_of_ble_eq_true rfl)) dX5_again_36 ⟨Nat.zero_le _, Nat.zero_le _⟩) hP hD hS hA [9, 10] [0, 1, 2, 3, 4, 5, 6, 7, 8, 11] [0, 1, 2, 3, 4, 5, 6, 7, 8, 10, 11, 9] rfl rfl (by decide) (by decide) rfl (by decide) (fun H locs hP hD hS => ?_)
    refine lv_iconst (v := (1 : Int32)) hx hb dX5_again_39 (by decide) ?_
    rw [hQ]
    exact W.iret (v := (1 : Int32)) hx hb hr (fun t9 ht hW => ⟨⟨(1 : Int32), (o2.1, o2.2.1, o2.2.2.1, o2.2.2.2, o4, t_refusals), rfl, (Option.some.inj hm), by rw [ht]; exact hP, va_K.moved hW.alike hK, hD⟩, hS.F ht⟩) hS.2.2 dX5_again_40
  · have hm := it_t c1 hm
    refine lv_aload_n hx hb dX5_again_7 rfl (lv_at hl 0 rfl) ?_
    refine lv_bipush (v := (-5 : Int32)) hx hb dX5_again_8 (by decide) ?_
    obtain ⟨o6, ho7, hm⟩ := bd_s hm
    refine xr_i (wr := [((ad 1), e_X1 (ad 2) (ad 3) (ad 4) t_now), ((ad 2), eI cA 8 t_now_kinds), ((ad 3), eI cA 8 t_now_as), ((ad 4), eI cA 8 t_now_pitches), ((ad 5), e_X1 (ad 6) (ad 7) (ad 8) t_kept), ((ad 6), eI cA 8 t_kept_kinds), ((ad 7), eI cA 8 t_kept_as), ((ad 8), eI cA 8 t_kept_pitches), ((ad 13), e_X0 (ad 14) (ad 15) (ad 16)), ((ad 14), eI cA 8 t_shelves_holding)]) (wn := [((ad 0), e_X5 ad t), ((ad 1), e_X1 (ad 2) (ad 3) (ad 4) t_now), ((ad 2), eI cA 8 t_now_kinds), ((ad 3), eI cA 8 t_now_as), ((ad 4), eI cA 8 t_now_pitches), ((ad 5), e_X1 (ad 6) (ad 7) (ad 8) t_kept), ((ad 6), eI cA 8 t_kept_kinds), ((ad 7), eI cA 8 t_kept_as), ((ad 8), eI cA 8 t_kept_pitches), ((ad 13), e_X0 (ad 14) (ad 15) (ad 16)), ((ad 14), eI cA 8 t_shelves_holding), ((ad 19), eI cA 5 o6.2)]) (va_runV (As := [.int (-5 : Int32)]) (rest := []) ⟨hx, hb, hml, hown, htg⟩ (c_X5_refuse l D cA _ fu ad t t_refusals (-5 : Int32) o6 ho7) (cwV 1 htg (gV q_2_10 q_2_12 q_p1_0 q_1_1 q_2_13) rfl rfl rfl hd_X5_refuse ⟨Nat.le_of_ble_eq_true rfl, Nat.le_of_ble_eq_true rfl⟩) (xpV hN hK hP hD [0, 11] rfl (by decide) rfl rfl) rfl rfl hl.1 rfl (lv_room (Nat.le_of_ble_eq_true rfl)) dX5_again_10 ⟨Nat.zero_le _, Nat.zero_le _⟩) hP hD hS hA [0, 11] [1, 2, 3, 4, 5, 6, 7, 8, 9, 10] [10, 0, 1, 2, 3, 4, 5, 6, 7, 8, 9, 11] rfl rfl (by decide) (by decide) rfl (by decide) (fun H locs hP hD hS => ?_)
    rw [hQ]
    exact W.iret (v := o6.1) hx hb hr (fun t9 ht hW => ⟨⟨o6.1, (t_now, t_now_kinds, t_now_as, t_now_pitches, t_shelves_holding, o6.2), rfl, (Option.some.inj hm), by rw [ht]; exact hP, va_K.moved hW.alike hK, hD⟩, hS.F ht⟩) hS.2.2 dX5_again_13
def m_X5_status (fu : Nat) (t : Nat → Int32) (t_now : Nat → Int32) (t_shelves_holding : Nat → Int32) (t_tape : Nat → Int32) (t_refusals : Nat → Int32) (l1 : Int32) : Option (Int32 × Unit) :=
  (m_X5_isWithin fu l1 (12 : Int32) (16 : Int32)).bind fun o1 =>
  (if o1.1 = 0 then
    (if l1 = (0 : Int32) then
      some (t_now 8, ())
    else (if l1 = (1 : Int32) then
      some (t_now 0, ())
    else (if l1 = (2 : Int32) then
      some (t_now 1, ())
    else (if l1 = (3 : Int32) then
      some (t_now 2, ())
    else (if l1 = (4 : Int32) then
      some (t_now 3, ())
    else (if l1 = (5 : Int32) then
      some (t_now 4, ())
    else (if l1 = (6 : Int32) then
      some (t_now 5, ())
    else (if l1 = (7 : Int32) then
      some (t_now 6, ())
    else (if l1 = (8 : Int32) then
      some (t_tape 1, ())
    else (if l1 = (9 : Int32) then
      some (t_now 7, ())
    else (if l1 = (10 : Int32) then
      (m_X0_countHolding fu t_shelves_holding).bind fun o15 =>
      some (o15.1, ())
    else some ((-1 : Int32), ()))))))))))))
  else
    gd (inb (l1 - (12 : Int32)) 5) (
    some ((t_refusals (l1 - (12 : Int32)).toNatClampNeg), ())))
abbrev rm_X5_status : Room := ({ frames := 1, cells := 0, slots := 0, locals := 22 } : Room)
abbrev w0_X5_status (cA : Nat → ClassId) (ad : Nat → Nat) (t : Nat → Int32) (t_now : Nat → Int32) (t_shelves_holding : Nat → Int32) (t_tape : Nat → Int32) (t_refusals : Nat → Int32) : va_W := [((ad 0), e_X5 ad t), ((ad 1), e_X1 (ad 2) (ad 3) (ad 4) t_now), ((ad 13), e_X0 (ad 14) (ad 15) (ad 16)), ((ad 14), eI cA 8 t_shelves_holding), ((ad 17), e_X2 (ad 18) t_tape), ((ad 19), eI cA 5 t_refusals)]
abbrev w1_X5_status (cA : Nat → ClassId) (ad : Nat → Nat) (t : Nat → Int32) (t_now : Nat → Int32) (t_shelves_holding : Nat → Int32) (t_tape : Nat → Int32) (t_refusals : Nat → Int32) (u : Unit) : va_W := [((ad 0), e_X5 ad t), ((ad 1), e_X1 (ad 2) (ad 3) (ad 4) t_now), ((ad 13), e_X0 (ad 14) (ad 15) (ad 16)), ((ad 14), eI cA 8 t_shelves_holding), ((ad 17), e_X2 (ad 18) t_tape), ((ad 19), eI cA 5 t_refusals)]
theorem hd_X5_status : yX5_status.cls = RX5 ∧ yX5_status.cls ≠ "java/lang/invoke/MethodHandle" ∧ yX5_status.cls ≠ "java/lang/invoke/VarHandle" ∧ (parseMethodDescriptor yX5_status.desc).map (fun d => d.parameters.length) = some 1 := by decide +kernel
set_option maxHeartbeats 40000000 in
set_option maxRecDepth 100000 in
theorem c_X5_status (l : Launch) (D : va_G) (cA : Nat → ClassId) (sz : Nat) (fu : Nat) (ad : Nat → Nat) (t : Nat → Int32) (t_now : Nat → Int32) (t_shelves_holding : Nat → Int32) (t_tape : Nat → Int32) (t_refusals : Nat → Int32) (l1 : Int32) (out : Int32 × Unit) (hm : m_X5_status fu t t_now t_shelves_holding t_tape t_refusals l1 = some out) : MI l yX5_status (wU yX5_status cX5_status 2 ((Option.some Jvm.ClassFile.FieldType.int))) rm_X5_status D cA sz [.ref (ad 0), .int l1] (w0_X5_status cA ad t t_now t_shelves_holding t_tape t_refusals) out (w1_X5_status cA ad t t_now t_shelves_holding t_tape t_refusals) := by
  refine Met.ofW (cc := cX5_status) (maxL := 2) (ret := (Option.some Jvm.ClassFile.FieldType.int)) (by decide) rfl ?_
  intro p e s m args below meth c s₁ B hml hv
  obtain ⟨hargs, hsz, hP, hK, hD0, hN⟩ := hv
  have hx := B.exec
  have hb := B.bytes
  have hr := B.returns
  have htg : ∀ w ∈ gw, w.before args s = true := fun w h => atoms_spec (ws := wU yX5_status cX5_status 2 ((Option.some Jvm.ClassFile.FieldType.int))) B.pre w (List.mem_cons_of_mem _ h)
  have hown : s.vm.findClass RX5 = some m.cls := findClass_of_methodNamed B.named
  have hlocks := B.notSynchronized
  subst hsz
  have hD := hD0.self (sz := s.heap.size)
  have hA : ∀ q : Nat, s.heap.size ≤ q → va_A (w0_X5_status cA ad t t_now t_shelves_holding t_tape t_refusals) s.heap.size q := fun q h => Or.inr h
  have hS : va_S (va_A (w0_X5_status cA ad t t_now t_shelves_holding t_tape t_refusals) s.heap.size) s.heap s.heap [] := va_S.rf
  generalize va_A (w0_X5_status cA ad t t_now t_shelves_holding t_tape t_refusals) s.heap.size = A at hA hD hS ⊢
  obtain ⟨Q, hQ⟩ : ∃ Q : State → Prop, Q = MQ below (va_Qi (fun (r : Int32) (u : Unit) => (r, u) = out) (pst0 D cA A (w1_X5_status cA ad t t_now t_shelves_holding t_tape t_refusals)) A) args s 0 0 A := ⟨_, rfl⟩
  refine (?_ : W p l e rm_X5_status s m args below meth c s.heap [] 0 0 (MQ below (va_Qi (fun (r : Int32) (u : Unit) => (r, u) = out) (pst0 D cA A (w1_X5_status cA ad t t_now t_shelves_holding t_tape t_refusals)) A) args s 0 0 A) (entryFrame m args 2))
  rw [← hQ]
  have hP : va_P D CL [((ad 0), e_X5 ad t), ((ad 1), e_X1 (ad 2) (ad 3) (ad 4) t_now), ((ad 13), e_X0 (ad 14) (ad 15) (ad 16)), ((ad 14), eI cA 8 t_shelves_holding), ((ad 17), e_X2 (ad 18) t_tape), ((ad 19), eI cA 5 t_refusals)] s.heap := hP
  have hD : va_D A [((ad 0), e_X5 ad t), ((ad 1), e_X1 (ad 2) (ad 3) (ad 4) t_now), ((ad 13), e_X0 (ad 14) (ad 15) (ad 16)), ((ad 14), eI cA 8 t_shelves_holding), ((ad 17), e_X2 (ad 18) t_tape), ((ad 19), eI cA 5 t_refusals)] := hD
  unfold m_X5_status at hm
  subst hargs
  have hl := lv_entry ([.ref (ad 0), .int l1]) (n := 2) (Nat.le_of_ble_eq_true rfl)
  rw [lg_entry_eq]
  generalize (lg_sl ([.ref (ad 0), .int l1]) ++ List.replicate (2 - (lg_sl ([.ref (ad 0), .int l1])).length) Slot.unset).toArray = ls at hl ⊢
  have hl : lv_has ls 2 [(0, .ref (ad 0)), (1, .int l1)] := hl
  refine lv_iload_n hx hb dX5_status_0 rfl (lv_at hl 1 rfl) ?_
  refine lv_bipush (v := (12 : Int32)) hx hb dX5_status_1 (by decide) ?_
  refine lv_bipush (v := (16 : Int32)) hx hb dX5_status_3 (by decide) ?_
  obtain ⟨o1, ho2, hm⟩ := bd_s hm
  refine xr_i (wr := [((ad 0), e_X5 ad t), ((ad 1), e_X1 (ad 2) (ad 3) (ad 4) t_now), ((ad 13), e_X0 (ad 14) (ad 15) (ad 16)), ((ad 14), eI cA 8 t_shelves_holding), ((ad 17), e_X2 (ad 18) t_tape), ((ad 19), eI cA 5 t_refusals)]) (wn := [((ad 0), e_X5 ad t), ((ad 1), e_X1 (ad 2) (ad 3) (ad 4) t_now), ((ad 13), e_X0 (ad 14) (ad 15) (ad 16)), ((ad 14), eI cA 8 t_shelves_holding), ((ad 17), e_X2 (ad 18) t_tape), ((ad 19), eI cA 5 t_refusals)]) (va_runS (As := [.int l1, .int (12 : Int32), .int (16 : Int32)]) (rest := []) ⟨hx, hb, hml, hown, htg⟩ (c_X5_isWithin l D cA _ fu l1 (12 : Int32) (16 : Int32) o1 ho2) (cwS 3 htg (gS q_2_7 q_2_8 q_1_1 q_2_9) rfl rfl rfl hd_X5_isWithin ⟨Nat.le_of_ble_eq_true rfl, Nat.le_of_ble_eq_true rfl⟩) (xpS hN hK hP hD [] rfl (by decide)) rfl rfl hl.1 rfl (lv_room (Nat.le_of_ble_eq_true rfl)) dX5_status_5 ⟨Nat.zero_le _, Nat.zero_le _⟩) hP hD hS hA [] [0, 1, 2, 3, 4, 5] [0, 1, 2, 3, 4, 5] rfl rfl (by decide) (by decide) rfl (by decide) (fun H locs hP hD hS => ?_)
  refine lv_if_eq (tgt := 21) hx hb dX5_status_8 (by decide) (fun c3 => ?_) (fun c3 => ?_)
  · have hm := it_t c3 hm
    refine lv_iload_n hx hb dX5_status_21 rfl (lv_at hl 1 rfl) ?_
    by_cases c4 : l1 = (0 : Int32)
    · have hm := it_t c4 hm
      have he : (l1).toInt = 0 := by rw [c4]; decide
      refine lv_tableIn (tgt := 80) (off := 58) hx hb dX5_status_22 (by rw [he]; decide) (by rw [he]; decide) (by rw [he]; rfl) (by decide) ?_
      refine lv_aload_n hx hb dX5_status_80 rfl (lv_at hl 0 rfl) ?_
      refine va_get (D := D) (ci := 5) (v := .ref (ad 1)) (C := RX5) (T := TX5) (N := 17) hx hb htg inX5 hown hK hP 0 rfl rfl 0 (by decide) (htg _ q_1_188) (fun _ h9 => h9) rfl dX5_status_81 ?_
      refine va_getN (D := D) (ci := 1) (v := .int (t_now 8)) (C := RX1) (T := TX1) (N := 12) hx hb htg inX1 hown hK hP 1 rfl rfl 8 (by decide) (va_Nw.use rfl (hN _ q_1_58)) (fun _ h9 => h9) rfl dX5_status_84 ?_
      rw [hQ]
      exact W.iret (v := t_now 8) hx hb hr (fun t9 ht hW => ⟨⟨t_now 8, (), rfl, (Option.some.inj hm), by rw [ht]; exact hP, va_K.moved hW.alike hK, hD⟩, hS.F ht⟩) hS.2.2 dX5_status_87
    have hm := it_f c4 hm
    by_cases c5 : l1 = (1 : Int32)
    · have hm := it_t c5 hm
      have he : (l1).toInt = 1 := by rw [c5]; decide
      refine lv_tableIn (tgt := 88) (off := 66) hx hb dX5_status_22 (by rw [he]; decide) (by rw [he]; decide) (by rw [he]; rfl) (by decide) ?_
      refine lv_aload_n hx hb dX5_status_88 rfl (lv_at hl 0 rfl) ?_
      refine va_get (D := D) (ci := 5) (v := .ref (ad 1)) (C := RX5) (T := TX5) (N := 17) hx hb htg inX5 hown hK hP 0 rfl rfl 0 (by decide) (htg _ q_1_188) (fun _ h9 => h9) rfl dX5_status_89 ?_
      refine va_getN (D := D) (ci := 1) (v := .int (t_now 0)) (C := RX1) (T := TX1) (N := 12) hx hb htg inX1 hown hK hP 1 rfl rfl 0 (by decide) (va_Nw.use rfl (hN _ q_1_34)) (fun _ h9 => h9) rfl dX5_status_92 ?_
      rw [hQ]
      exact W.iret (v := t_now 0) hx hb hr (fun t9 ht hW => ⟨⟨t_now 0, (), rfl, (Option.some.inj hm), by rw [ht]; exact hP, va_K.moved hW.alike hK, hD⟩, hS.F ht⟩) hS.2.2 dX5_status_95
    have hm := it_f c5 hm
    by_cases c6 : l1 = (2 : Int32)
    · have hm := it_t c6 hm
      have he : (l1).toInt = 2 := by rw [c6]; decide
      refine lv_tableIn (tgt := 96) (off := 74) hx hb dX5_status_22 (by rw [he]; decide) (by rw [he]; decide) (by rw [he]; rfl) (by decide) ?_
      refine lv_aload_n hx hb dX5_status_96 rfl (lv_at hl 0 rfl) ?_
      refine va_get (D := D) (ci := 5) (v := .ref (ad 1)) (C := RX5) (T := TX5) (N := 17) hx hb htg inX5 hown hK hP 0 rfl rfl 0 (by decide) (htg _ q_1_188) (fun _ h9 => h9) rfl dX5_status_97 ?_
      refine va_getN (D := D) (ci := 1) (v := .int (t_now 1)) (C := RX1) (T := TX1) (N := 12) hx hb htg inX1 hown hK hP 1 rfl rfl 1 (by decide) (va_Nw.use rfl (hN _ q_1_38)) (fun _ h9 => h9) rfl dX5_status_100 ?_
      rw [hQ]
      exact W.iret (v := t_now 1) hx hb hr (fun t9 ht hW => ⟨⟨t_now 1, (), rfl, (Option.some.inj hm), by rw [ht]; exact hP, va_K.moved hW.alike hK, hD⟩, hS.F ht⟩) hS.2.2 dX5_status_103
    have hm := it_f c6 hm
    by_cases c7 : l1 = (3 : Int32)
    · have hm := it_t c7 hm
      have he : (l1).toInt = 3 := by rw [c7]; decide
      refine lv_tableIn (tgt := 104) (off := 82) hx hb dX5_status_22 (by rw [he]; decide) (by rw [he]; decide) (by rw [he]; rfl) (by decide) ?_
      refine lv_aload_n hx hb dX5_status_104 rfl (lv_at hl 0 rfl) ?_
      refine va_get (D := D) (ci := 5) (v := .ref (ad 1)) (C := RX5) (T := TX5) (N := 17) hx hb htg inX5 hown hK hP 0 rfl rfl 0 (by decide) (htg _ q_1_188) (fun _ h9 => h9) rfl dX5_status_105 ?_
      refine va_getN (D := D) (ci := 1) (v := .int (t_now 2)) (C := RX1) (T := TX1) (N := 12) hx hb htg inX1 hown hK hP 1 rfl rfl 2 (by decide) (va_Nw.use rfl (hN _ q_1_42)) (fun _ h9 => h9) rfl dX5_status_108 ?_
      rw [hQ]
      exact W.iret (v := t_now 2) hx hb hr (fun t9 ht hW => ⟨⟨t_now 2, (), rfl, (Option.some.inj hm), by rw [ht]; exact hP, va_K.moved hW.alike hK, hD⟩, hS.F ht⟩) hS.2.2 dX5_status_111
    have hm := it_f c7 hm
    by_cases c8 : l1 = (4 : Int32)
    · have hm := it_t c8 hm
      have he : (l1).toInt = 4 := by rw [c8]; decide
      refine lv_tableIn (tgt := 112) (off := 90) hx hb dX5_status_22 (by rw [he]; decide) (by rw [he]; decide) (by rw [he]; rfl) (by decide) ?_
      refine lv_aload_n hx hb dX5_status_112 rfl (lv_at hl 0 rfl) ?_
      refine va_get (D := D) (ci := 5) (v := .ref (ad 1)) (C := RX5) (T := TX5) (N := 17) hx hb htg inX5 hown hK hP 0 rfl rfl 0 (by decide) (htg _ q_1_188) (fun _ h9 => h9) rfl dX5_status_113 ?_
      refine va_getN (D := D) (ci := 1) (v := .int (t_now 3)) (C := RX1) (T := TX1) (N := 12) hx hb htg inX1 hown hK hP 1 rfl rfl 3 (by decide) (va_Nw.use rfl (hN _ q_1_46)) (fun _ h9 => h9) rfl dX5_status_116 ?_
      rw [hQ]
      exact W.iret (v := t_now 3) hx hb hr (fun t9 ht hW => ⟨⟨t_now 3, (), rfl, (Option.some.inj hm), by rw [ht]; exact hP, va_K.moved hW.alike hK, hD⟩, hS.F ht⟩) hS.2.2 dX5_status_119
    have hm := it_f c8 hm
    by_cases c9 : l1 = (5 : Int32)
    · have hm := it_t c9 hm
      have he : (l1).toInt = 5 := by rw [c9]; decide
      refine lv_tableIn (tgt := 120) (off := 98) hx hb dX5_status_22 (by rw [he]; decide) (by rw [he]; decide) (by rw [he]; rfl) (by decide) ?_
      refine lv_aload_n hx hb dX5_status_120 rfl (lv_at hl 0 rfl) ?_
      refine va_get (D := D) (ci := 5) (v := .ref (ad 1)) (C := RX5) (T := TX5) (N := 17) hx hb htg inX5 hown hK hP 0 rfl rfl 0 (by decide) (htg _ q_1_188) (fun _ h9 => h9) rfl dX5_status_121 ?_
      refine va_getN (D := D) (ci := 1) (v := .int (t_now 4)) (C := RX1) (T := TX1) (N := 12) hx hb htg inX1 hown hK hP 1 rfl rfl 4 (by decide) (va_Nw.use rfl (hN _ q_1_50)) (fun _ h9 => h9) rfl dX5_status_124 ?_
      rw [hQ]
      exact W.iret (v := t_now 4) hx hb hr (fun t9 ht hW => ⟨⟨t_now 4, (), rfl, (Option.some.inj hm), by rw [ht]; exact hP, va_K.moved hW.alike hK, hD⟩, hS.F ht⟩) hS.2.2 dX5_status_127
    have hm := it_f c9 hm
    by_cases c10 : l1 = (6 : Int32)
    · have hm := it_t c10 hm
      have he : (l1).toInt = 6 := by rw [c10]; decide
      refine lv_tableIn (tgt := 128) (off := 106) hx hb dX5_status_22 (by rw [he]; decide) (by rw [he]; decide) (by rw [he]; rfl) (by decide) ?_
      refine lv_aload_n hx hb dX5_status_128 rfl (lv_at hl 0 rfl) ?_
      refine va_get (D := D) (ci := 5) (v := .ref (ad 1)) (C := RX5) (T := TX5) (N := 17) hx hb htg inX5 hown hK hP 0 rfl rfl 0 (by decide) (htg _ q_1_188) (fun _ h9 => h9) rfl dX5_status_129 ?_
      refine va_getN (D := D) (ci := 1) (v := .int (t_now 5)) (C := RX1) (T := TX1) (N := 12) hx hb htg inX1 hown hK hP 1 rfl rfl 5 (by decide) (va_Nw.use rfl (hN _ q_1_52)) (fun _ h9 => h9) rfl dX5_status_132 ?_
      rw [hQ]
      exact W.iret (v := t_now 5) hx hb hr (fun t9 ht hW => ⟨⟨t_now 5, (), rfl, (Option.some.inj hm), by rw [ht]; exact hP, va_K.moved hW.alike hK, hD⟩, hS.F ht⟩) hS.2.2 dX5_status_135
    have hm := it_f c10 hm
    by_cases c11 : l1 = (7 : Int32)
    · have hm := it_t c11 hm
      have he : (l1).toInt = 7 := by rw [c11]; decide
      refine lv_tableIn (tgt := 136) (off := 114) hx hb dX5_status_22 (by rw [he]; decide) (by rw [he]; decide) (by rw [he]; rfl) (by decide) ?_
      refine lv_aload_n hx hb dX5_status_136 rfl (lv_at hl 0 rfl) ?_
      refine va_get (D := D) (ci := 5) (v := .ref (ad 1)) (C := RX5) (T := TX5) (N := 17) hx hb htg inX5 hown hK hP 0 rfl rfl 0 (by decide) (htg _ q_1_188) (fun _ h9 => h9) rfl dX5_status_137 ?_
      refine va_getN (D := D) (ci := 1) (v := .int (t_now 6)) (C := RX1) (T := TX1) (N := 12) hx hb htg inX1 hown hK hP 1 rfl rfl 6 (by decide) (va_Nw.use rfl (hN _ q_1_54)) (fun _ h9 => h9) rfl dX5_status_140 ?_
      rw [hQ]
      exact W.iret (v := t_now 6) hx hb hr (fun t9 ht hW => ⟨⟨t_now 6, (), rfl, (Option.some.inj hm), by rw [ht]; exact hP, va_K.moved hW.alike hK, hD⟩, hS.F ht⟩) hS.2.2 dX5_status_143
    have hm := it_f c11 hm
    by_cases c12 : l1 = (8 : Int32)
    · have hm := it_t c12 hm
      have he : (l1).toInt = 8 := by rw [c12]; decide
      refine lv_tableIn (tgt := 144) (off := 122) hx hb dX5_status_22 (by rw [he]; decide) (by rw [he]; decide) (by rw [he]; rfl) (by decide) ?_
      refine lv_aload_n hx hb dX5_status_144 rfl (lv_at hl 0 rfl) ?_
      refine va_get (D := D) (ci := 5) (v := .ref (ad 17)) (C := RX5) (T := TX5) (N := 17) hx hb htg inX5 hown hK hP 0 rfl rfl 5 (by decide) (htg _ q_1_193) (fun _ h9 => h9) rfl dX5_status_145 ?_
      refine va_getN (D := D) (ci := 2) (v := .int (t_tape 1)) (C := RX2) (T := TX2) (N := 5) hx hb htg inX2 hown hK hP 4 rfl rfl 1 (by decide) (va_Nw.use rfl (hN _ q_1_117)) (fun _ h9 => h9) rfl dX5_status_148 ?_
      rw [hQ]
      exact W.iret (v := t_tape 1) hx hb hr (fun t9 ht hW => ⟨⟨t_tape 1, (), rfl, (Option.some.inj hm), by rw [ht]; exact hP, va_K.moved hW.alike hK, hD⟩, hS.F ht⟩) hS.2.2 dX5_status_151
    have hm := it_f c12 hm
    by_cases c13 : l1 = (9 : Int32)
    · have hm := it_t c13 hm
      have he : (l1).toInt = 9 := by rw [c13]; decide
      refine lv_tableIn (tgt := 152) (off := 130) hx hb dX5_status_22 (by rw [he]; decide) (by rw [he]; decide) (by rw [he]; rfl) (by decide) ?_
      refine lv_aload_n hx hb dX5_status_152 rfl (lv_at hl 0 rfl) ?_
      refine va_get (D := D) (ci := 5) (v := .ref (ad 1)) (C := RX5) (T := TX5) (N := 17) hx hb htg inX5 hown hK hP 0 rfl rfl 0 (by decide) (htg _ q_1_188) (fun _ h9 => h9) rfl dX5_status_153 ?_
      refine va_getN (D := D) (ci := 1) (v := .int (t_now 7)) (C := RX1) (T := TX1) (N := 12) hx hb htg inX1 hown hK hP 1 rfl rfl 7 (by decide) (va_Nw.use rfl (hN _ q_1_56)) (fun _ h9 => h9) rfl dX5_status_156 ?_
      rw [hQ]
      exact W.iret (v := t_now 7) hx hb hr (fun t9 ht hW => ⟨⟨t_now 7, (), rfl, (Option.some.inj hm), by rw [ht]; exact hP, va_K.moved hW.alike hK, hD⟩, hS.F ht⟩) hS.2.2 dX5_status_159
    have hm := it_f c13 hm
    by_cases c14 : l1 = (10 : Int32)
    · have hm := it_t c14 hm
      have he : (l1).toInt = 10 := by rw [c14]; decide
      refine lv_tableIn (tgt := 160) (off := 138) hx hb dX5_status_22 (by rw [he]; decide) (by rw [he]; decide) (by rw [he]; rfl) (by decide) ?_
      refine lv_aload_n hx hb dX5_status_160 rfl (lv_at hl 0 rfl) ?_
      refine va_get (D := D) (ci := 5) (v := .ref (ad 13)) (C := RX5) (T := TX5) (N := 17) hx hb htg inX5 hown hK hP 0 rfl rfl 4 (by decide) (htg _ q_1_192) (fun _ h9 => h9) rfl dX5_status_161 ?_
      obtain ⟨o15, ho16, hm⟩ := bd_s hm
      refine xr_i (wr := [((ad 0), e_X5 ad t), ((ad 1), e_X1 (ad 2) (ad 3) (ad 4) t_now), ((ad 17), e_X2 (ad 18) t_tape), ((ad 19), eI cA 5 t_refusals)]) (wn := [((ad 0), e_X5 ad t), ((ad 1), e_X1 (ad 2) (ad 3) (ad 4) t_now), ((ad 13), e_X0 (ad 14) (ad 15) (ad 16)), ((ad 14), eI cA 8 t_shelves_holding), ((ad 17), e_X2 (ad 18) t_tape), ((ad 19), eI cA 5 t_refusals)]) (va_runVN (As := []) (rest := []) ⟨hx, hb, hml, hown, htg⟩ (c_X0_countHolding l D cA _ fu (ad 13) (ad 14) (ad 15) (ad 16) t_shelves_holding o15 ho16) ⟨va_cnB 0 htg (gU q_4_178) rfl rfl rfl (hN _ q_4_175) (htg _ q_1_3) hd_X0_countHolding.2 ⟨Nat.le_of_ble_eq_true rfl, Nat.le_of_ble_eq_true rfl⟩, htg _ q_4_177, htg _ q_p5_6⟩ (xpV hN hK hP hD [2, 3] rfl (by decide) rfl rfl) rfl rfl hl.1 rfl (lv_room (Nat.le_of_ble_eq_true rfl)) dX5_status_164 ⟨Nat.zero_le _, Nat.zero_le _⟩) hP hD hS hA [2, 3] [0, 1, 4, 5] [0, 1, 4, 5, 2, 3] rfl rfl (by decide) (by decide) rfl (by decide) (fun H locs hP hD hS => ?_)
      rw [hQ]
      exact W.iret (v := o15.1) hx hb hr (fun t9 ht hW => ⟨⟨o15.1, (), rfl, (Option.some.inj hm), by rw [ht]; exact hP, va_K.moved hW.alike hK, hD⟩, hS.F ht⟩) hS.2.2 dX5_status_167
    have hm := it_f c14 hm
    have ho : (l1).toInt < 0 ∨ 10 < (l1).toInt := by
      refine Classical.byContradiction fun hh => ?_
      have h1 : 0 ≤ (l1).toInt ∧ (l1).toInt ≤ 10 := by omega
      have h2 : (l1).toInt = 0 ∨ (l1).toInt = 1 ∨ (l1).toInt = 2 ∨ (l1).toInt = 3 ∨ (l1).toInt = 4 ∨ (l1).toInt = 5 ∨ (l1).toInt = 6 ∨ (l1).toInt = 7 ∨ (l1).toInt = 8 ∨ (l1).toInt = 9 ∨ (l1).toInt = 10 := by omega
      rcases h2 with h2 | h2 | h2 | h2 | h2 | h2 | h2 | h2 | h2 | h2 | h2
      · exact c4 (Int32.toInt_inj.mp (h2.trans (by decide)))
      · exact c5 (Int32.toInt_inj.mp (h2.trans (by decide)))
      · exact c6 (Int32.toInt_inj.mp (h2.trans (by decide)))
      · exact c7 (Int32.toInt_inj.mp (h2.trans (by decide)))
      · exact c8 (Int32.toInt_inj.mp (h2.trans (by decide)))
      · exact c9 (Int32.toInt_inj.mp (h2.trans (by decide)))
      · exact c10 (Int32.toInt_inj.mp (h2.trans (by decide)))
      · exact c11 (Int32.toInt_inj.mp (h2.trans (by decide)))
      · exact c12 (Int32.toInt_inj.mp (h2.trans (by decide)))
      · exact c13 (Int32.toInt_inj.mp (h2.trans (by decide)))
      · exact c14 (Int32.toInt_inj.mp (h2.trans (by decide)))
    refine lv_tableOut (tgt := 168) hx hb dX5_status_22 ho (by decide) ?_
    refine lv_iconst (v := (-1 : Int32)) hx hb dX5_status_168 (by decide) ?_
    rw [hQ]
    exact W.iret (v := (-1 : Int32)) hx hb hr (fun t9 ht hW => ⟨⟨(-1 : Int32), (), rfl, (Option.some.inj hm), by rw [ht]; exact hP, va_K.moved hW.alike hK, hD⟩, hS.F ht⟩) hS.2.2 dX5_status_169
  · have hm := it_f c3 hm
    refine lv_aload_n hx hb dX5_status_11 rfl (lv_at hl 0 rfl) ?_
    refine va_get (D := D) (ci := 5) (v := .ref (ad 19)) (C := RX5) (T := TX5) (N := 17) hx hb htg inX5 hown hK hP 0 rfl rfl 6 (by decide) (htg _ q_1_194) (fun _ h9 => h9) rfl dX5_status_12 ?_
    refine lv_iload_n hx hb dX5_status_15 rfl (lv_at hl 1 rfl) ?_
    refine lv_bipush (v := (12 : Int32)) hx hb dX5_status_16 (by decide) ?_
    refine lv_isub hx hb dX5_status_18 ?_
    obtain ⟨hi17, hm⟩ := gd_s hm
    refine va_iald hx hb hK hP 5 0 rfl rfl hi17 dX5_status_19 ?_
    rw [hQ]
    exact W.iret (v := (t_refusals (l1 - (12 : Int32)).toNatClampNeg)) hx hb hr (fun t9 ht hW => ⟨⟨(t_refusals (l1 - (12 : Int32)).toNatClampNeg), (), rfl, (Option.some.inj hm), by rw [ht]; exact hP, va_K.moved hW.alike hK, hD⟩, hS.F ht⟩) hS.2.2 dX5_status_20
