def m_X3_standsFor (fu : Nat) (t : Nat → Int32) (p1 : Nat → Int32) (p1_kinds : Nat → Int32) (p1_pitches : Nat → Int32) (l2 : Int32) : Option ((Nat → Int32)) :=
  (m_X1_kindOf fu p1 p1_kinds l2).bind fun o1 =>
  (m_X1_pitchOf fu p1 p1_pitches l2).bind fun o3 =>
  some (upd (upd (upd (upd (upd (upd (upd (upd t 0 o1.1) 1 o3.1) 2 (p1 0)) 3 (p1 1)) 4 (p1 2)) 5 (p1 3)) 6 (p1 4)) 8 (0 : Int32))
abbrev rm_X3_standsFor : Room := ({ frames := 2, cells := 0, slots := 0, locals := 43 } : Room)
abbrev w0_X3_standsFor (cA : Nat → ClassId) (a0 : Nat) (a1 : Nat) (p1a0 : Nat) (p1a1 : Nat) (p1a2 : Nat) (p1a3 : Nat) (t : Nat → Int32) (p1 : Nat → Int32) (p1_kinds : Nat → Int32) (p1_pitches : Nat → Int32) : va_W := [(a0, e_X3 a1 t), (p1a0, e_X1 p1a1 p1a2 p1a3 p1), (p1a1, eI cA 8 p1_kinds), (p1a3, eI cA 8 p1_pitches)]
abbrev w1_X3_standsFor (cA : Nat → ClassId) (a0 : Nat) (a1 : Nat) (p1a0 : Nat) (p1a1 : Nat) (p1a2 : Nat) (p1a3 : Nat) (p1 : Nat → Int32) (p1_kinds : Nat → Int32) (p1_pitches : Nat → Int32) (u : (Nat → Int32)) : va_W := [(a0, e_X3 a1 u), (p1a0, e_X1 p1a1 p1a2 p1a3 p1), (p1a1, eI cA 8 p1_kinds), (p1a3, eI cA 8 p1_pitches)]
theorem hd_X3_standsFor : yX3_standsFor.cls = RX3 ∧ yX3_standsFor.cls ≠ "java/lang/invoke/MethodHandle" ∧ yX3_standsFor.cls ≠ "java/lang/invoke/VarHandle" ∧ (parseMethodDescriptor yX3_standsFor.desc).map (fun d => d.parameters.length) = some 2 := by decide +kernel
set_option maxHeartbeats 40000000 in
set_option maxRecDepth 100000 in
theorem c_X3_standsFor (l : Launch) (D : va_G) (cA : Nat → ClassId) (sz : Nat) (fu : Nat) (a0 : Nat) (a1 : Nat) (p1a0 : Nat) (p1a1 : Nat) (p1a2 : Nat) (p1a3 : Nat) (t : Nat → Int32) (p1 : Nat → Int32) (p1_kinds : Nat → Int32) (p1_pitches : Nat → Int32) (l2 : Int32) (out : (Nat → Int32)) (hm : m_X3_standsFor fu t p1 p1_kinds p1_pitches l2 = some out) : MV l yX3_standsFor (wU yX3_standsFor cX3_standsFor 3 ((Option.none : Option Jvm.ClassFile.FieldType))) rm_X3_standsFor D cA sz [.ref a0, .ref p1a0, .int l2] (w0_X3_standsFor cA a0 a1 p1a0 p1a1 p1a2 p1a3 t p1 p1_kinds p1_pitches) out (w1_X3_standsFor cA a0 a1 p1a0 p1a1 p1a2 p1a3 p1 p1_kinds p1_pitches) := by
  refine Met.ofW (cc := cX3_standsFor) (maxL := 3) (ret := (Option.none : Option Jvm.ClassFile.FieldType)) (by decide) rfl ?_
  intro p e s m args below meth c s₁ B hml hv
  obtain ⟨hargs, hsz, hP, hK, hD0, hN⟩ := hv
  have hx := B.exec
  have hb := B.bytes
  have hr := B.returns
  have htg : ∀ w ∈ gw, w.before args s = true := fun w h => atoms_spec (ws := wU yX3_standsFor cX3_standsFor 3 ((Option.none : Option Jvm.ClassFile.FieldType))) B.pre w (List.mem_cons_of_mem _ h)
  have hown : s.vm.findClass RX3 = some m.cls := findClass_of_methodNamed B.named
  have hlocks := B.notSynchronized
  subst hsz
  have hD := hD0.self (sz := s.heap.size)
  have hA : ∀ q : Nat, s.heap.size ≤ q → va_A (w0_X3_standsFor cA a0 a1 p1a0 p1a1 p1a2 p1a3 t p1 p1_kinds p1_pitches) s.heap.size q := fun q h => Or.inr h
  have hS : va_S (va_A (w0_X3_standsFor cA a0 a1 p1a0 p1a1 p1a2 p1a3 t p1 p1_kinds p1_pitches) s.heap.size) s.heap s.heap [] := va_S.rf
  generalize va_A (w0_X3_standsFor cA a0 a1 p1a0 p1a1 p1a2 p1a3 t p1 p1_kinds p1_pitches) s.heap.size = A at hA hD hS ⊢
  obtain ⟨Q, hQ⟩ : ∃ Q : State → Prop, Q = MQ below (va_Qv (fun (u : (Nat → Int32)) => u = out) (pst0 D cA A (w1_X3_standsFor cA a0 a1 p1a0 p1a1 p1a2 p1a3 p1 p1_kinds p1_pitches)) A) args s 0 0 A := ⟨_, rfl⟩
  refine (?_ : W p l e rm_X3_standsFor s m args below meth c s.heap [] 0 0 (MQ below (va_Qv (fun (u : (Nat → Int32)) => u = out) (pst0 D cA A (w1_X3_standsFor cA a0 a1 p1a0 p1a1 p1a2 p1a3 p1 p1_kinds p1_pitches)) A) args s 0 0 A) (entryFrame m args 3))
  rw [← hQ]
  have hP : va_P D CL [(a0, e_X3 a1 t), (p1a0, e_X1 p1a1 p1a2 p1a3 p1), (p1a1, eI cA 8 p1_kinds), (p1a3, eI cA 8 p1_pitches)] s.heap := hP
  have hD : va_D A [(a0, e_X3 a1 t), (p1a0, e_X1 p1a1 p1a2 p1a3 p1), (p1a1, eI cA 8 p1_kinds), (p1a3, eI cA 8 p1_pitches)] := hD
  unfold m_X3_standsFor at hm
  subst hargs
  have hl := lv_entry ([.ref a0, .ref p1a0, .int l2]) (n := 3) (Nat.le_of_ble_eq_true rfl)
  rw [lg_entry_eq]
  generalize (lg_sl ([.ref a0, .ref p1a0, .int l2]) ++ List.replicate (3 - (lg_sl ([.ref a0, .ref p1a0, .int l2])).length) Slot.unset).toArray = ls at hl ⊢
  have hl : lv_has ls 3 [(0, .ref a0), (1, .ref p1a0), (2, .int l2)] := hl
  refine lv_aload_n hx hb dX3_standsFor_0 rfl (lv_at hl 0 rfl) ?_
  refine lv_aload_n hx hb dX3_standsFor_1 rfl (lv_at hl 1 rfl) ?_
  refine lv_iload_n hx hb dX3_standsFor_2 rfl (lv_at hl 2 rfl) ?_
  obtain ⟨o1, ho2, hm⟩ := bd_s hm
  refine xr_i (wr := [(a0, e_X3 a1 t), (p1a3, eI cA 8 p1_pitches)]) (wn := [(a0, e_X3 a1 t), (p1a0, e_X1 p1a1 p1a2 p1a3 p1), (p1a1, eI cA 8 p1_kinds), (p1a3, eI cA 8 p1_pitches)]) (va_runVN (As := [.int l2]) (rest := [.ref a0]) ⟨hx, hb, hml, hown, htg⟩ (c_X1_kindOf l D cA _ fu p1a0 p1a1 p1a2 p1a3 p1 p1_kinds l2 o1 ho2) ⟨va_cnB 1 htg (gU q_2_105) rfl rfl rfl (hN _ q_2_127) (htg _ q_1_2) hd_X1_kindOf.2 ⟨Nat.le_of_ble_eq_true rfl, Nat.le_of_ble_eq_true rfl⟩, htg _ q_2_104, htg _ q_p1_12⟩ (xpV hN hK hP hD [1, 2] rfl (by decide) rfl rfl) rfl rfl hl.1 rfl (lv_room (Nat.le_of_ble_eq_true rfl)) dX3_standsFor_3 ⟨Nat.zero_le _, Nat.zero_le _⟩) hP hD hS hA [1, 2] [0, 3] [0, 2, 3, 1] rfl rfl (by decide) (by decide) rfl (by decide) (fun H locs hP hD hS => ?_)
  refine va_put (D := D) (ci := 3) (v := .int o1.1) (ty := .int) (C := RX3) (T := TX3) (N := 9) hx hb htg inX3 tyX3 tyX3_ok nmX3 hown hK hP hD hS 0 rfl rfl 0 (by decide) (htg _ q_1_139) (fun _ h9 => h9) rfl (by decide +kernel) rfl rfl (Nat.le_of_ble_eq_true rfl) dX3_standsFor_6 (fun H locs (hP : va_P D CL [(a0, e_X3 a1 (upd t 0 o1.1)), (p1a0, e_X1 p1a1 p1a2 p1a3 p1), (p1a1, eI cA 8 p1_kinds), (p1a3, eI cA 8 p1_pitches)] H) (hD : va_D A [(a0, e_X3 a1 (upd t 0 o1.1)), (p1a0, e_X1 p1a1 p1a2 p1a3 p1), (p1a1, eI cA 8 p1_kinds), (p1a3, eI cA 8 p1_pitches)]) hS => ?_)
  refine lv_aload_n hx hb dX3_standsFor_9 rfl (lv_at hl 0 rfl) ?_
  refine lv_aload_n hx hb dX3_standsFor_10 rfl (lv_at hl 1 rfl) ?_
  refine lv_iload_n hx hb dX3_standsFor_11 rfl (lv_at hl 2 rfl) ?_
  obtain ⟨o3, ho4, hm⟩ := bd_s hm
  refine xr_i (wr := [(a0, e_X3 a1 (upd t 0 o1.1)), (p1a1, eI cA 8 p1_kinds)]) (wn := [(a0, e_X3 a1 (upd t 0 o1.1)), (p1a0, e_X1 p1a1 p1a2 p1a3 p1), (p1a1, eI cA 8 p1_kinds), (p1a3, eI cA 8 p1_pitches)]) (va_runVN (As := [.int l2]) (rest := [.ref a0]) ⟨hx, hb, hml, hown, htg⟩ (c_X1_pitchOf l D cA _ fu p1a0 p1a1 p1a2 p1a3 p1 p1_pitches l2 o3 ho4) ⟨va_cnB 1 htg (gU q_2_113) rfl rfl rfl (hN _ q_2_128) (htg _ q_1_2) hd_X1_pitchOf.2 ⟨Nat.le_of_ble_eq_true rfl, Nat.le_of_ble_eq_true rfl⟩, htg _ q_2_112, htg _ q_p1_13⟩ (xpV hN hK hP hD [1, 3] rfl (by decide) rfl rfl) rfl rfl hl.1 rfl (lv_room (Nat.le_of_ble_eq_true rfl)) dX3_standsFor_12 ⟨Nat.zero_le _, Nat.zero_le _⟩) hP hD hS hA [1, 3] [0, 2] [0, 2, 1, 3] rfl rfl (by decide) (by decide) rfl (by decide) (fun H locs hP hD hS => ?_)
  refine va_put (D := D) (ci := 3) (v := .int o3.1) (ty := .int) (C := RX3) (T := TX3) (N := 9) hx hb htg inX3 tyX3 tyX3_ok nmX3 hown hK hP hD hS 0 rfl rfl 1 (by decide) (htg _ q_1_141) (fun _ h9 => h9) rfl (by decide +kernel) rfl rfl (Nat.le_of_ble_eq_true rfl) dX3_standsFor_15 (fun H locs (hP : va_P D CL [(a0, e_X3 a1 (upd (upd t 0 o1.1) 1 o3.1)), (p1a0, e_X1 p1a1 p1a2 p1a3 p1), (p1a1, eI cA 8 p1_kinds), (p1a3, eI cA 8 p1_pitches)] H) (hD : va_D A [(a0, e_X3 a1 (upd (upd t 0 o1.1) 1 o3.1)), (p1a0, e_X1 p1a1 p1a2 p1a3 p1), (p1a1, eI cA 8 p1_kinds), (p1a3, eI cA 8 p1_pitches)]) hS => ?_)
  refine lv_aload_n hx hb dX3_standsFor_18 rfl (lv_at hl 0 rfl) ?_
  refine lv_aload_n hx hb dX3_standsFor_19 rfl (lv_at hl 1 rfl) ?_
  refine va_getN (D := D) (ci := 1) (v := .int (p1 0)) (C := RX1) (T := TX1) (N := 12) hx hb htg inX1 hown hK hP 1 rfl rfl 0 (by decide) (va_Nw.use rfl (hN _ q_1_32)) (fun _ h9 => h9) rfl dX3_standsFor_20 ?_
  refine va_put (D := D) (ci := 3) (v := .int (p1 0)) (ty := .int) (C := RX3) (T := TX3) (N := 9) hx hb htg inX3 tyX3 tyX3_ok nmX3 hown hK hP hD hS 0 rfl rfl 2 (by decide) (htg _ q_1_143) (fun _ h9 => h9) rfl (by decide +kernel) rfl rfl (Nat.le_of_ble_eq_true rfl) dX3_standsFor_23 (fun H locs (hP : va_P D CL [(a0, e_X3 a1 (upd (upd (upd t 0 o1.1) 1 o3.1) 2 (p1 0))), (p1a0, e_X1 p1a1 p1a2 p1a3 p1), (p1a1, eI cA 8 p1_kinds), (p1a3, eI cA 8 p1_pitches)] H) (hD : va_D A [(a0, e_X3 a1 (upd (upd (upd t 0 o1.1) 1 o3.1) 2 (p1 0))), (p1a0, e_X1 p1a1 p1a2 p1a3 p1), (p1a1, eI cA 8 p1_kinds), (p1a3, eI cA 8 p1_pitches)]) hS => ?_)
  refine lv_aload_n hx hb dX3_standsFor_26 rfl (lv_at hl 0 rfl) ?_
  refine lv_aload_n hx hb dX3_standsFor_27 rfl (lv_at hl 1 rfl) ?_
  refine va_getN (D := D) (ci := 1) (v := .int (p1 1)) (C := RX1) (T := TX1) (N := 12) hx hb htg inX1 hown hK hP 1 rfl rfl 1 (by decide) (va_Nw.use rfl (hN _ q_1_36)) (fun _ h9 => h9) rfl dX3_standsFor_28 ?_
  refine va_put (D := D) (ci := 3) (v := .int (p1 1)) (ty := .int) (C := RX3) (T := TX3) (N := 9) hx hb htg inX3 tyX3 tyX3_ok nmX3 hown hK hP hD hS 0 rfl rfl 3 (by decide) (htg _ q_1_145) (fun _ h9 => h9) rfl (by decide +kernel) rfl rfl (Nat.le_of_ble_eq_true rfl) dX3_standsFor_31 (fun H locs (hP : va_P D CL [(a0, e_X3 a1 (upd (upd (upd (upd t 0 o1.1) 1 o3.1) 2 (p1 0)) 3 (p1 1))), (p1a0, e_X1 p1a1 p1a2 p1a3 p1), (p1a1, eI cA 8 p1_kinds), (p1a3, eI cA 8 p1_pitches)] H) (hD : va_D A [(a0, e_X3 a1 (upd (upd (upd (upd t 0 o1.1) 1 o3.1) 2 (p1 0)) 3 (p1 1))), (p1a0, e_X1 p1a1 p1a2 p1a3 p1), (p1a1, eI cA 8 p1_kinds), (p1a3, eI cA 8 p1_pitches)]) hS => ?_)
  refine lv_aload_n hx hb dX3_standsFor_34 rfl (lv_at hl 0 rfl) ?_
  refine lv_aload_n hx hb dX3_standsFor_35 rfl (lv_at hl 1 rfl) ?_
  refine va_getN (D := D) (ci := 1) (v := .int (p1 2)) (C := RX1) (T := TX1) (N := 12) hx hb htg inX1 hown hK hP 1 rfl rfl 2 (by decide) (va_Nw.use rfl (hN _ q_1_40)) (fun _ h9 => h9) rfl dX3_standsFor_36 ?_
  refine va_put (D := D) (ci := 3) (v := .int (p1 2)) (ty := .int) (C := RX3) (T := TX3) (N := 9) hx hb htg inX3 tyX3 tyX3_ok nmX3 hown hK hP hD hS 0 rfl rfl 4 (by decide) (htg _ q_1_147) (fun _ h9 => h9) rfl (by decide +kernel) rfl rfl (Nat.le_of_ble_eq_true rfl) dX3_standsFor_39 (fun H locs (hP : va_P D CL [(a0, e_X3 a1 (upd (upd (upd (upd (upd t 0 o1.1) 1 o3.1) 2 (p1 0)) 3 (p1 1)) 4 (p1 2))), (p1a0, e_X1 p1a1 p1a2 p1a3 p1), (p1a1, eI cA 8 p1_kinds), (p1a3, eI cA 8 p1_pitches)] H) (hD : va_D A [(a0, e_X3 a1 (upd (upd (upd (upd (upd t 0 o1.1) 1 o3.1) 2 (p1 0)) 3 (p1 1)) 4 (p1 2))), (p1a0, e_X1 p1a1 p1a2 p1a3 p1), (p1a1, eI cA 8 p1_kinds), (p1a3, eI cA 8 p1_pitches)]) hS => ?_)
  refine lv_aload_n hx hb dX3_standsFor_42 rfl (lv_at hl 0 rfl) ?_
  refine lv_aload_n hx hb dX3_standsFor_43 rfl (lv_at hl 1 rfl) ?_
  refine va_getN (D := D) (ci := 1) (v := .int (p1 3)) (C := RX1) (T := TX1) (N := 12) hx hb htg inX1 hown hK hP 1 rfl rfl 3 (by decide) (va_Nw.use rfl (hN _ q_1_44)) (fun _ h9 => h9) rfl dX3_standsFor_44 ?_
  refine va_put (D := D) (ci := 3) (v := .int (p1 3)) (ty := .int) (C := RX3) (T := TX3) (N := 9) hx hb htg inX3 tyX3 tyX3_ok nmX3 hown hK hP hD hS 0 rfl rfl 5 (by decide) (htg _ q_1_148) (fun _ h9 => h9) rfl (by decide +kernel) rfl rfl (Nat.le_of_ble_eq_true rfl) dX3_standsFor_47 (fun H locs (hP : va_P D CL [(a0, e_X3 a1 (upd (upd (upd (upd (upd (upd t 0 o1.1) 1 o3.1) 2 (p1 0)) 3 (p1 1)) 4 (p1 2)) 5 (p1 3))), (p1a0, e_X1 p1a1 p1a2 p1a3 p1), (p1a1, eI cA 8 p1_kinds), (p1a3, eI cA 8 p1_pitches)] H) (hD : va_D A [(a0, e_X3 a1 (upd (upd (upd (upd (upd (upd t 0 o1.1) 1 o3.1) 2 (p1 0)) 3 (p1 1)) 4 (p1 2)) 5 (p1 3))), (p1a0, e_X1 p1a1 p1a2 p1a3 p1), (p1a1, eI cA 8 p1_kinds), (p1a3, eI cA 8 p1_pitches)]) hS => ?_)
  refine lv_aload_n hx hb dX3_standsFor_50 rfl (lv_at hl 0 rfl) ?_
  refine lv_aload_n hx hb dX3_standsFor_51 rfl (lv_at hl 1 rfl) ?_
  refine va_getN (D := D) (ci := 1) (v := .int (p1 4)) (C := RX1) (T := TX1) (N := 12) hx hb htg inX1 hown hK hP 1 rfl rfl 4 (by decide) (va_Nw.use rfl (hN _ q_1_48)) (fun _ h9 => h9) rfl dX3_standsFor_52 ?_
  refine va_put (D := D) (ci := 3) (v := .int (p1 4)) (ty := .int) (C := RX3) (T := TX3) (N := 9) hx hb htg inX3 tyX3 tyX3_ok nmX3 hown hK hP hD hS 0 rfl rfl 6 (by decide) (htg _ q_1_150) (fun _ h9 => h9) rfl (by decide +kernel) rfl rfl (Nat.le_of_ble_eq_true rfl) dX3_standsFor_55 (fun H locs (hP : va_P D CL [(a0, e_X3 a1 (upd (upd (upd (upd (upd (upd (upd t 0 o1.1) 1 o3.1) 2 (p1 0)) 3 (p1 1)) 4 (p1 2)) 5 (p1 3)) 6 (p1 4))), (p1a0, e_X1 p1a1 p1a2 p1a3 p1), (p1a1, eI cA 8 p1_kinds), (p1a3, eI cA 8 p1_pitches)] H) (hD : va_D A [(a0, e_X3 a1 (upd (upd (upd (upd (upd (upd (upd t 0 o1.1) 1 o3.1) 2 (p1 0)) 3 (p1 1)) 4 (p1 2)) 5 (p1 3)) 6 (p1 4))), (p1a0, e_X1 p1a1 p1a2 p1a3 p1), (p1a1, eI cA 8 p1_kinds), (p1a3, eI cA 8 p1_pitches)]) hS => ?_)
  refine lv_aload_n hx hb dX3_standsFor_58 rfl (lv_at hl 0 rfl) ?_
  refine lv_iconst (v := (0 : Int32)) hx hb dX3_standsFor_59 (by decide) ?_
  refine va_put (D := D) (ci := 3) (v := .int (0 : Int32)) (ty := .int) (C := RX3) (T := TX3) (N := 9) hx hb htg inX3 tyX3 tyX3_ok nmX3 hown hK hP hD hS 0 rfl rfl 8 (by decide) (htg _ q_1_152) (fun _ h9 => h9) rfl (by decide +kernel) rfl rfl (Nat.le_of_ble_eq_true rfl) dX3_standsFor_60 (fun H locs (hP : va_P D CL [(a0, e_X3 a1 (upd (upd (upd (upd (upd (upd (upd (upd t 0 o1.1) 1 o3.1) 2 (p1 0)) 3 (p1 1)) 4 (p1 2)) 5 (p1 3)) 6 (p1 4)) 8 (0 : Int32))), (p1a0, e_X1 p1a1 p1a2 p1a3 p1), (p1a1, eI cA 8 p1_kinds), (p1a3, eI cA 8 p1_pitches)] H) (hD : va_D A [(a0, e_X3 a1 (upd (upd (upd (upd (upd (upd (upd (upd t 0 o1.1) 1 o3.1) 2 (p1 0)) 3 (p1 1)) 4 (p1 2)) 5 (p1 3)) 6 (p1 4)) 8 (0 : Int32))), (p1a0, e_X1 p1a1 p1a2 p1a3 p1), (p1a1, eI cA 8 p1_kinds), (p1a3, eI cA 8 p1_pitches)]) hS => ?_)
  rw [hQ]
  exact W.vret hx hb hr (fun t9 ht hW => ⟨⟨(upd (upd (upd (upd (upd (upd (upd (upd t 0 o1.1) 1 o3.1) 2 (p1 0)) 3 (p1 1)) 4 (p1 2)) 5 (p1 3)) 6 (p1 4)) 8 (0 : Int32)), rfl, (Option.some.inj hm), by rw [ht]; exact hP, va_K.moved hW.alike hK, hD⟩, hS.F ht⟩) hS.2.2 dX3_standsFor_63
def b_X3_pitchToday_27 (fu : Nat) (t : Nat → Int32) (s0 : Int32) : Option (Int32 × Unit) :=
  some (s0, ())
def m_X3_pitchToday (fu : Nat) (t : Nat → Int32) : Option (Int32 × Unit) :=
  (if t 0 = (5 : Int32) then
    b_X3_pitchToday_27 fu t (t 1 + (t 4 / (10 : Int32)))
  else
    b_X3_pitchToday_27 fu t (t 1))
abbrev rm_X3_pitchToday : Room := ({ frames := 0, cells := 0, slots := 0, locals := 0 } : Room)
abbrev w0_X3_pitchToday (cA : Nat → ClassId) (a0 : Nat) (a1 : Nat) (t : Nat → Int32) : va_W := [(a0, e_X3 a1 t)]
abbrev w1_X3_pitchToday (cA : Nat → ClassId) (a0 : Nat) (a1 : Nat) (t : Nat → Int32) (u : Unit) : va_W := [(a0, e_X3 a1 t)]
theorem hd_X3_pitchToday : yX3_pitchToday.cls = RX3 ∧ yX3_pitchToday.cls ≠ "java/lang/invoke/MethodHandle" ∧ yX3_pitchToday.cls ≠ "java/lang/invoke/VarHandle" ∧ (parseMethodDescriptor yX3_pitchToday.desc).map (fun d => d.parameters.length) = some 0 := by decide +kernel
set_option maxHeartbeats 40000000 in
set_option maxRecDepth 100000 in
theorem c_X3_pitchToday (l : Launch) (D : va_G) (cA : Nat → ClassId) (sz : Nat) (fu : Nat) (a0 : Nat) (a1 : Nat) (t : Nat → Int32) (out : Int32 × Unit) (hm : m_X3_pitchToday fu t = some out) : MI l yX3_pitchToday (wU yX3_pitchToday cX3_pitchToday 1 ((Option.some Jvm.ClassFile.FieldType.int))) rm_X3_pitchToday D cA sz [.ref a0] (w0_X3_pitchToday cA a0 a1 t) out (w1_X3_pitchToday cA a0 a1 t) := by
  refine Met.ofW (cc := cX3_pitchToday) (maxL := 1) (ret := (Option.some Jvm.ClassFile.FieldType.int)) (by decide) rfl ?_
  intro p e s m args below meth c s₁ B hml hv
  obtain ⟨hargs, hsz, hP, hK, hD0, hN⟩ := hv
  have hx := B.exec
  have hb := B.bytes
  have hr := B.returns
  have htg : ∀ w ∈ gw, w.before args s = true := fun w h => atoms_spec (ws := wU yX3_pitchToday cX3_pitchToday 1 ((Option.some Jvm.ClassFile.FieldType.int))) B.pre w (List.mem_cons_of_mem _ h)
  have hown : s.vm.findClass RX3 = some m.cls := findClass_of_methodNamed B.named
  have hlocks := B.notSynchronized
  subst hsz
  have hD := hD0.self (sz := s.heap.size)
  have hA : ∀ q : Nat, s.heap.size ≤ q → va_A (w0_X3_pitchToday cA a0 a1 t) s.heap.size q := fun q h => Or.inr h
  have hS : va_S (va_A (w0_X3_pitchToday cA a0 a1 t) s.heap.size) s.heap s.heap [] := va_S.rf
  generalize va_A (w0_X3_pitchToday cA a0 a1 t) s.heap.size = A at hA hD hS ⊢
  obtain ⟨Q, hQ⟩ : ∃ Q : State → Prop, Q = MQ below (va_Qi (fun (r : Int32) (u : Unit) => (r, u) = out) (pst0 D cA A (w1_X3_pitchToday cA a0 a1 t)) A) args s 0 0 A := ⟨_, rfl⟩
  refine (?_ : W p l e rm_X3_pitchToday s m args below meth c s.heap [] 0 0 (MQ below (va_Qi (fun (r : Int32) (u : Unit) => (r, u) = out) (pst0 D cA A (w1_X3_pitchToday cA a0 a1 t)) A) args s 0 0 A) (entryFrame m args 1))
  rw [← hQ]
  have hP : va_P D CL [(a0, e_X3 a1 t)] s.heap := hP
  have hD : va_D A [(a0, e_X3 a1 t)] := hD
  have B_27 : ∀ (s0 : Int32) (H : Heap) (locs : List Loc) (ls : Array Slot), b_X3_pitchToday_27 fu t s0 = some out → va_P D CL [(a0, e_X3 a1 t)] H → va_D A [(a0, e_X3 a1 t)] → va_S A s.heap H locs → lv_has ls 1 [(0, .ref a0)] → W p l e rm_X3_pitchToday s m args below meth c H locs 0 0 Q (F0 m 27 ls [.int s0]) := by
    intro  s0 H locs ls hm hP hD hS hl
    unfold b_X3_pitchToday_27 at hm
    rw [hQ]
    exact W.iret (v := s0) hx hb hr (fun t9 ht hW => ⟨⟨s0, (), rfl, (Option.some.inj hm), by rw [ht]; exact hP, va_K.moved hW.alike hK, hD⟩, hS.F ht⟩) hS.2.2 dX3_pitchToday_27
  unfold m_X3_pitchToday at hm
  subst hargs
  have hl := lv_entry ([.ref a0]) (n := 1) (Nat.le_of_ble_eq_true rfl)
  rw [lg_entry_eq]
  generalize (lg_sl ([.ref a0]) ++ List.replicate (1 - (lg_sl ([.ref a0])).length) Slot.unset).toArray = ls at hl ⊢
  have hl : lv_has ls 1 [(0, .ref a0)] := hl
  refine lv_aload_n hx hb dX3_pitchToday_0 rfl (lv_at hl 0 rfl) ?_
  refine va_get (D := D) (ci := 3) (v := .int (t 0)) (C := RX3) (T := TX3) (N := 9) hx hb htg inX3 hown hK hP 0 rfl rfl 0 (by decide) (htg _ q_1_139) (fun _ h9 => h9) rfl dX3_pitchToday_1 ?_
  refine lv_iconst (v := (5 : Int32)) hx hb dX3_pitchToday_4 (by decide) ?_
  refine lv_icmp_ne (tgt := 23) hx hb dX3_pitchToday_5 (by decide) (fun c1 => ?_) (fun c1 => ?_)
  · have hm := it_f c1 hm
    refine lv_aload_n hx hb dX3_pitchToday_23 rfl (lv_at hl 0 rfl) ?_
    refine va_get (D := D) (ci := 3) (v := .int (t 1)) (C := RX3) (T := TX3) (N := 9) hx hb htg inX3 hown hK hP 0 rfl rfl 1 (by decide) (htg _ q_1_141) (fun _ h9 => h9) rfl dX3_pitchToday_24 ?_
    exact B_27 _ _ _ _ hm hP hD hS (lv_sub hl [0] rfl)
  · have hm := it_t c1 hm
    refine lv_aload_n hx hb dX3_pitchToday_8 rfl (lv_at hl 0 rfl) ?_
    refine va_get (D := D) (ci := 3) (v := .int (t 1)) (C := RX3) (T := TX3) (N := 9) hx hb htg inX3 hown hK hP 0 rfl rfl 1 (by decide) (htg _ q_1_141) (fun _ h9 => h9) rfl dX3_pitchToday_9 ?_
    refine lv_aload_n hx hb dX3_pitchToday_12 rfl (lv_at hl 0 rfl) ?_
    refine va_get (D := D) (ci := 3) (v := .int (t 4)) (C := RX3) (T := TX3) (N := 9) hx hb htg inX3 hown hK hP 0 rfl rfl 4 (by decide) (htg _ q_1_147) (fun _ h9 => h9) rfl dX3_pitchToday_13 ?_
    refine lv_bipush (v := (10 : Int32)) hx hb dX3_pitchToday_16 (by decide) ?_
    refine lv_idiv hx hb dX3_pitchToday_18 (by decide) ?_
    refine lv_iadd hx hb dX3_pitchToday_19 ?_
    refine lv_goto (tgt := 27) hx hb dX3_pitchToday_20 (by decide) ?_
    exact B_27 _ _ _ _ hm hP hD hS (lv_sub hl [0] rfl)
def b_X3_returnOf_46 (fu : Nat) (t : Nat → Int32) (l1 : Int32) (l3 : Int32) : Option (Int32 × Unit) :=
  (m_X3_pitchToday fu t).bind fun o1 =>
    some (((l1 + (((l3 + o1.1) / (3 : Int32)) * ((1 : Int32) + (l1 - l1 / (3 : Int32) * (3 : Int32))))) - (l1 + (((l3 + o1.1) / (3 : Int32)) * ((1 : Int32) + (l1 - l1 / (3 : Int32) * (3 : Int32))))) / (40 : Int32) * (40 : Int32)), ())
def b_X3_returnOf_30 (fu : Nat) (t : Nat → Int32) (l1 : Int32) (l2 : Int32) (s0 : Int32) : Option (Int32 × Unit) :=
  (if l2 = 0 then
      (if ((l1 + s0) - (l1 + s0) / (7 : Int32) * (7 : Int32)) = 0 then
        some ((-1 : Int32), ())
      else
        b_X3_returnOf_46 fu t l1 s0)
    else
      b_X3_returnOf_46 fu t l1 s0)
def m_X3_returnOf (fu : Nat) (t : Nat → Int32) (l1 : Int32) : Option (Int32 × Unit) :=
  (m_X5_isUnder fu (t 0) (1 : Int32)).bind fun o9 =>
  (if t 0 = (3 : Int32) then
    b_X3_returnOf_30 fu t l1 o9.1 (t 2 / (2 : Int32))
  else
    b_X3_returnOf_30 fu t l1 o9.1 (t 2))
abbrev rm_X3_returnOf : Room := ({ frames := 1, cells := 0, slots := 0, locals := 21 } : Room)
abbrev w0_X3_returnOf (cA : Nat → ClassId) (a0 : Nat) (a1 : Nat) (t : Nat → Int32) : va_W := [(a0, e_X3 a1 t)]
abbrev w1_X3_returnOf (cA : Nat → ClassId) (a0 : Nat) (a1 : Nat) (t : Nat → Int32) (u : Unit) : va_W := [(a0, e_X3 a1 t)]
theorem hd_X3_returnOf : yX3_returnOf.cls = RX3 ∧ yX3_returnOf.cls ≠ "java/lang/invoke/MethodHandle" ∧ yX3_returnOf.cls ≠ "java/lang/invoke/VarHandle" ∧ (parseMethodDescriptor yX3_returnOf.desc).map (fun d => d.parameters.length) = some 1 := by decide +kernel
set_option maxHeartbeats 40000000 in
set_option maxRecDepth 100000 in
theorem c_X3_returnOf (l : Launch) (D : va_G) (cA : Nat → ClassId) (sz : Nat) (fu : Nat) (a0 : Nat) (a1 : Nat) (t : Nat → Int32) (l1 : Int32) (out : Int32 × Unit) (hm : m_X3_returnOf fu t l1 = some out) : MI l yX3_returnOf (wU yX3_returnOf cX3_returnOf 4 ((Option.some Jvm.ClassFile.FieldType.int))) rm_X3_returnOf D cA sz [.ref a0, .int l1] (w0_X3_returnOf cA a0 a1 t) out (w1_X3_returnOf cA a0 a1 t) := by
  refine Met.ofW (cc := cX3_returnOf) (maxL := 4) (ret := (Option.some Jvm.ClassFile.FieldType.int)) (by decide) rfl ?_
  intro p e s m args below meth c s₁ B hml hv
  obtain ⟨hargs, hsz, hP, hK, hD0, hN⟩ := hv
  have hx := B.exec
  have hb := B.bytes
  have hr := B.returns
  have htg : ∀ w ∈ gw, w.before args s = true := fun w h => atoms_spec (ws := wU yX3_returnOf cX3_returnOf 4 ((Option.some Jvm.ClassFile.FieldType.int))) B.pre w (List.mem_cons_of_mem _ h)
  have hown : s.vm.findClass RX3 = some m.cls := findClass_of_methodNamed B.named
  have hlocks := B.notSynchronized
  subst hsz
  have hD := hD0.self (sz := s.heap.size)
  have hA : ∀ q : Nat, s.heap.size ≤ q → va_A (w0_X3_returnOf cA a0 a1 t) s.heap.size q := fun q h => Or.inr h
  have hS : va_S (va_A (w0_X3_returnOf cA a0 a1 t) s.heap.size) s.heap s.heap [] := va_S.rf
  generalize va_A (w0_X3_returnOf cA a0 a1 t) s.heap.size = A at hA hD hS ⊢
  obtain ⟨Q, hQ⟩ : ∃ Q : State → Prop, Q = MQ below (va_Qi (fun (r : Int32) (u : Unit) => (r, u) = out) (pst0 D cA A (w1_X3_returnOf cA a0 a1 t)) A) args s 0 0 A := ⟨_, rfl⟩
  refine (?_ : W p l e rm_X3_returnOf s m args below meth c s.heap [] 0 0 (MQ below (va_Qi (fun (r : Int32) (u : Unit) => (r, u) = out) (pst0 D cA A (w1_X3_returnOf cA a0 a1 t)) A) args s 0 0 A) (entryFrame m args 4))
  rw [← hQ]
  have hP : va_P D CL [(a0, e_X3 a1 t)] s.heap := hP
  have hD : va_D A [(a0, e_X3 a1 t)] := hD
  have B_46 : ∀ (l1 : Int32) (l3 : Int32) (H : Heap) (locs : List Loc) (ls : Array Slot), b_X3_returnOf_46 fu t l1 l3 = some out → va_P D CL [(a0, e_X3 a1 t)] H → va_D A [(a0, e_X3 a1 t)] → va_S A s.heap H locs → lv_has ls 4 [(0, .ref a0), (1, .int l1), (3, .int l3)] → W p l e rm_X3_returnOf s m args below meth c H locs 0 0 Q (F0 m 46 ls []) := by
    intro  l1 l3 H locs ls hm hP hD hS hl
    unfold b_X3_returnOf_46 at hm
    refine lv_iload_n hx hb dX3_returnOf_46 rfl (lv_at hl 1 rfl) ?_
    refine lv_iload_n hx hb dX3_returnOf_47 rfl (lv_at hl 2 rfl) ?_
    refine lv_aload_n hx hb dX3_returnOf_48 rfl (lv_at hl 0 rfl) ?_
    obtain ⟨o1, ho2, hm⟩ := bd_s hm
    refine xr_i (wr := []) (wn := [(a0, e_X3 a1 t)]) (va_runV (As := []) (rest := [.int l3, .int l1]) ⟨hx, hb, hml, hown, htg⟩ (c_X3_pitchToday l D cA _ fu a0 a1 t o1 ho2) (cwV 0 htg (gV q_2_146 q_2_148 q_p2_5 q_1_6 q_2_149) rfl rfl rfl hd_X3_pitchToday ⟨Nat.le_of_ble_eq_true rfl, Nat.le_of_ble_eq_true rfl⟩) (xpV hN hK hP hD [0] rfl (by decide) rfl rfl) rfl rfl hl.1 rfl (lv_room (Nat.le_of_ble_eq_true rfl)) dX3_returnOf_49 ⟨Nat.zero_le _, Nat.zero_le _⟩) hP hD hS hA [0] [] [0] rfl rfl (by decide) (by decide) rfl (by decide) (fun H locs hP hD hS => ?_)
    refine lv_iadd hx hb dX3_returnOf_52 ?_
    refine lv_iconst (v := (3 : Int32)) hx hb dX3_returnOf_53 (by decide) ?_
    refine lv_idiv hx hb dX3_returnOf_54 (by decide) ?_
    refine lv_iconst (v := (1 : Int32)) hx hb dX3_returnOf_55 (by decide) ?_
    refine lv_iload_n hx hb dX3_returnOf_56 rfl (lv_at hl 1 rfl) ?_
    refine lv_iconst (v := (3 : Int32)) hx hb dX3_returnOf_57 (by decide) ?_
    refine lv_irem hx hb dX3_returnOf_58 (by decide) ?_
    refine lv_iadd hx hb dX3_returnOf_59 ?_
    refine lv_imul hx hb dX3_returnOf_60 ?_
    refine lv_iadd hx hb dX3_returnOf_61 ?_
    refine lv_bipush (v := (40 : Int32)) hx hb dX3_returnOf_62 (by decide) ?_
    refine lv_irem hx hb dX3_returnOf_64 (by decide) ?_
    rw [hQ]
    exact W.iret (v := ((l1 + (((l3 + o1.1) / (3 : Int32)) * ((1 : Int32) + (l1 - l1 / (3 : Int32) * (3 : Int32))))) - (l1 + (((l3 + o1.1) / (3 : Int32)) * ((1 : Int32) + (l1 - l1 / (3 : Int32) * (3 : Int32))))) / (40 : Int32) * (40 : Int32))) hx hb hr (fun t9 ht hW => ⟨⟨((l1 + (((l3 + o1.1) / (3 : Int32)) * ((1 : Int32) + (l1 - l1 / (3 : Int32) * (3 : Int32))))) - (l1 + (((l3 + o1.1) / (3 : Int32)) * ((1 : Int32) + (l1 - l1 / (3 : Int32) * (3 : Int32))))) / (40 : Int32) * (40 : Int32)), (), rfl, (Option.some.inj hm), by rw [ht]; exact hP, va_K.moved hW.alike hK, hD⟩, hS.F ht⟩) hS.2.2 dX3_returnOf_65
  have B_30 : ∀ (l1 : Int32) (l2 : Int32) (s0 : Int32) (H : Heap) (locs : List Loc) (ls : Array Slot), b_X3_returnOf_30 fu t l1 l2 s0 = some out → va_P D CL [(a0, e_X3 a1 t)] H → va_D A [(a0, e_X3 a1 t)] → va_S A s.heap H locs → lv_has ls 4 [(0, .ref a0), (1, .int l1), (2, .int l2)] → W p l e rm_X3_returnOf s m args below meth c H locs 0 0 Q (F0 m 30 ls [.int s0]) := by
    intro  l1 l2 s0 H locs ls hm hP hD hS hl
    unfold b_X3_returnOf_30 at hm
    refine lv_istore_n (lv' := [(3, .int s0), (0, .ref a0), (1, .int l1), (2, .int l2)]) hx hb dX3_returnOf_30 rfl hl (by decide) rfl (fun ls hl => ?_)
    refine lv_iload_n hx hb dX3_returnOf_31 rfl (lv_at hl 3 rfl) ?_
    refine lv_if_ne (tgt := 46) hx hb dX3_returnOf_32 (by decide) (fun c6 => ?_) (fun c6 => ?_)
    · have hm := it_f c6 hm
      exact B_46 _ _ _ _ _ hm hP hD hS (lv_sub hl [1, 2, 0] rfl)
    · have hm := it_t c6 hm
      refine lv_iload_n hx hb dX3_returnOf_35 rfl (lv_at hl 2 rfl) ?_
      refine lv_iload_n hx hb dX3_returnOf_36 rfl (lv_at hl 0 rfl) ?_
      refine lv_iadd hx hb dX3_returnOf_37 ?_
      refine lv_bipush (v := (7 : Int32)) hx hb dX3_returnOf_38 (by decide) ?_
      refine lv_irem hx hb dX3_returnOf_40 (by decide) ?_
      refine lv_if_ne (tgt := 46) hx hb dX3_returnOf_41 (by decide) (fun c8 => ?_) (fun c8 => ?_)
      · have hm := it_f c8 hm
        exact B_46 _ _ _ _ _ hm hP hD hS (lv_sub hl [1, 2, 0] rfl)
      · have hm := it_t c8 hm
        refine lv_iconst (v := (-1 : Int32)) hx hb dX3_returnOf_44 (by decide) ?_
        rw [hQ]
        exact W.iret (v := (-1 : Int32)) hx hb hr (fun t9 ht hW => ⟨⟨(-1 : Int32), (), rfl, (Option.some.inj hm), by rw [ht]; exact hP, va_K.moved hW.alike hK, hD⟩, hS.F ht⟩) hS.2.2 dX3_returnOf_45
  unfold m_X3_returnOf at hm
  subst hargs
  have hl := lv_entry ([.ref a0, .int l1]) (n := 4) (Nat.le_of_ble_eq_true rfl)
  rw [lg_entry_eq]
  generalize (lg_sl ([.ref a0, .int l1]) ++ List.replicate (4 - (lg_sl ([.ref a0, .int l1])).length) Slot.unset).toArray = ls at hl ⊢
  have hl : lv_has ls 4 [(0, .ref a0), (1, .int l1)] := hl
  refine lv_aload_n hx hb dX3_returnOf_0 rfl (lv_at hl 0 rfl) ?_
  refine va_get (D := D) (ci := 3) (v := .int (t 0)) (C := RX3) (T := TX3) (N := 9) hx hb htg inX3 hown hK hP 0 rfl rfl 0 (by decide) (htg _ q_1_139) (fun _ h9 => h9) rfl dX3_returnOf_1 ?_
  refine lv_iconst (v := (1 : Int32)) hx hb dX3_returnOf_4 (by decide) ?_
  obtain ⟨o9, ho10, hm⟩ := bd_s hm
  refine xr_i (wr := [(a0, e_X3 a1 t)]) (wn := [(a0, e_X3 a1 t)]) (va_runSN (As := [.int (t 0), .int (1 : Int32)]) (rest := []) ⟨hx, hb, hml, hown, htg⟩ (c_X5_isUnder l D cA _ fu (t 0) (1 : Int32) o9 ho10) ⟨va_cnB 2 htg (gU q_2_109) rfl rfl rfl (hN _ q_2_133) (htg _ q_1_1) hd_X5_isUnder.2 ⟨Nat.le_of_ble_eq_true rfl, Nat.le_of_ble_eq_true rfl⟩, htg _ q_2_108, trivial⟩ (xpS hN hK hP hD [] rfl (by decide)) rfl rfl hl.1 rfl (lv_room (Nat.le_of_ble_eq_true rfl)) dX3_returnOf_5 ⟨Nat.zero_le _, Nat.zero_le _⟩) hP hD hS hA [] [0] [0] rfl rfl (by decide) (by decide) rfl (by decide) (fun H locs hP hD hS => ?_)
  refine lv_istore_n (lv' := [(2, .int o9.1), (0, .ref a0), (1, .int l1)]) hx hb dX3_returnOf_8 rfl hl (by decide) rfl (fun ls hl => ?_)
  refine lv_aload_n hx hb dX3_returnOf_9 rfl (lv_at hl 1 rfl) ?_
  refine va_get (D := D) (ci := 3) (v := .int (t 0)) (C := RX3) (T := TX3) (N := 9) hx hb htg inX3 hown hK hP 0 rfl rfl 0 (by decide) (htg _ q_1_139) (fun _ h9 => h9) rfl dX3_returnOf_10 ?_
  refine lv_iconst (v := (3 : Int32)) hx hb dX3_returnOf_13 (by decide) ?_
  refine lv_icmp_ne (tgt := 26) hx hb dX3_returnOf_14 (by decide) (fun c11 => ?_) (fun c11 => ?_)
  · have hm := it_f c11 hm
    refine lv_aload_n hx hb dX3_returnOf_26 rfl (lv_at hl 1 rfl) ?_
    refine va_get (D := D) (ci := 3) (v := .int (t 2)) (C := RX3) (T := TX3) (N := 9) hx hb htg inX3 hown hK hP 0 rfl rfl 2 (by decide) (htg _ q_1_143) (fun _ h9 => h9) rfl dX3_returnOf_27 ?_
    exact B_30 _ _ _ _ _ _ hm hP hD hS (lv_sub hl [1, 2, 0] rfl)
  · have hm := it_t c11 hm
    refine lv_aload_n hx hb dX3_returnOf_17 rfl (lv_at hl 1 rfl) ?_
    refine va_get (D := D) (ci := 3) (v := .int (t 2)) (C := RX3) (T := TX3) (N := 9) hx hb htg inX3 hown hK hP 0 rfl rfl 2 (by decide) (htg _ q_1_143) (fun _ h9 => h9) rfl dX3_returnOf_18 ?_
    refine lv_iconst (v := (2 : Int32)) hx hb dX3_returnOf_21 (by decide) ?_
    refine lv_idiv hx hb dX3_returnOf_22 (by decide) ?_
    refine lv_goto (tgt := 30) hx hb dX3_returnOf_23 (by decide) ?_
    exact B_30 _ _ _ _ _ _ hm hP hD hS (lv_sub hl [1, 2, 0] rfl)
def b_X3_hearBack_44 (fu : Nat) (t : Nat → Int32) (t_heard : Nat → Int32) : Option ((Nat → Int32) × (Nat → Int32)) :=
  some (t, t_heard)
def m_X3_hearBack (fu : Nat) (t : Nat → Int32) (t_heard : Nat → Int32) (l1 : Int32) : Option ((Nat → Int32) × (Nat → Int32)) :=
  (m_X3_returnOf fu t l1).bind fun o1 =>
  (if o1.1 = (-1 : Int32) then
    b_X3_hearBack_44 fu t t_heard
  else
    (m_X5_isWithin fu (t 8) (0 : Int32) (12 : Int32)).bind fun o4 =>
    (if o4.1 = 0 then
      b_X3_hearBack_44 fu t t_heard
    else
      gd (inb (t 8) 13) (
      b_X3_hearBack_44 fu (upd t 8 (t 8 + (1 : Int32))) (upd t_heard (t 8).toNatClampNeg o1.1))))
abbrev rm_X3_hearBack : Room := ({ frames := 2, cells := 0, slots := 0, locals := 44 } : Room)
abbrev w0_X3_hearBack (cA : Nat → ClassId) (a0 : Nat) (a1 : Nat) (t : Nat → Int32) (t_heard : Nat → Int32) : va_W := [(a0, e_X3 a1 t), (a1, eI cA 13 t_heard)]
abbrev w1_X3_hearBack (cA : Nat → ClassId) (a0 : Nat) (a1 : Nat) (u : (Nat → Int32) × (Nat → Int32)) : va_W := [(a0, e_X3 a1 u.1), (a1, eI cA 13 u.2)]
theorem hd_X3_hearBack : yX3_hearBack.cls = RX3 ∧ yX3_hearBack.cls ≠ "java/lang/invoke/MethodHandle" ∧ yX3_hearBack.cls ≠ "java/lang/invoke/VarHandle" ∧ (parseMethodDescriptor yX3_hearBack.desc).map (fun d => d.parameters.length) = some 1 := by decide +kernel
set_option maxHeartbeats 40000000 in
set_option maxRecDepth 100000 in
theorem c_X3_hearBack (l : Launch) (D : va_G) (cA : Nat → ClassId) (sz : Nat) (fu : Nat) (a0 : Nat) (a1 : Nat) (t : Nat → Int32) (t_heard : Nat → Int32) (l1 : Int32) (out : (Nat → Int32) × (Nat → Int32)) (hm : m_X3_hearBack fu t t_heard l1 = some out) : MV l yX3_hearBack (wU yX3_hearBack cX3_hearBack 3 ((Option.none : Option Jvm.ClassFile.FieldType))) rm_X3_hearBack D cA sz [.ref a0, .int l1] (w0_X3_hearBack cA a0 a1 t t_heard) out (w1_X3_hearBack cA a0 a1) := by
  refine Met.ofW (cc := cX3_hearBack) (maxL := 3) (ret := (Option.none : Option Jvm.ClassFile.FieldType)) (by decide) rfl ?_
  intro p e s m args below meth c s₁ B hml hv
  obtain ⟨hargs, hsz, hP, hK, hD0, hN⟩ := hv
  have hx := B.exec
  have hb := B.bytes
  have hr := B.returns
  have htg : ∀ w ∈ gw, w.before args s = true := fun w h => atoms_spec (ws := wU yX3_hearBack cX3_hearBack 3 ((Option.none : Option Jvm.ClassFile.FieldType))) B.pre w (List.mem_cons_of_mem _ h)
  have hown : s.vm.findClass RX3 = some m.cls := findClass_of_methodNamed B.named
  have hlocks := B.notSynchronized
  subst hsz
  have hD := hD0.self (sz := s.heap.size)
  have hA : ∀ q : Nat, s.heap.size ≤ q → va_A (w0_X3_hearBack cA a0 a1 t t_heard) s.heap.size q := fun q h => Or.inr h
  have hS : va_S (va_A (w0_X3_hearBack cA a0 a1 t t_heard) s.heap.size) s.heap s.heap [] := va_S.rf
  generalize va_A (w0_X3_hearBack cA a0 a1 t t_heard) s.heap.size = A at hA hD hS ⊢
  obtain ⟨Q, hQ⟩ : ∃ Q : State → Prop, Q = MQ below (va_Qv (fun (u : (Nat → Int32) × (Nat → Int32)) => u = out) (pst0 D cA A (w1_X3_hearBack cA a0 a1)) A) args s 0 0 A := ⟨_, rfl⟩
  refine (?_ : W p l e rm_X3_hearBack s m args below meth c s.heap [] 0 0 (MQ below (va_Qv (fun (u : (Nat → Int32) × (Nat → Int32)) => u = out) (pst0 D cA A (w1_X3_hearBack cA a0 a1)) A) args s 0 0 A) (entryFrame m args 3))
  rw [← hQ]
  have hP : va_P D CL [(a0, e_X3 a1 t), (a1, eI cA 13 t_heard)] s.heap := hP
  have hD : va_D A [(a0, e_X3 a1 t), (a1, eI cA 13 t_heard)] := hD
  have B_44 : ∀ (t : Nat → Int32) (t_heard : Nat → Int32) (H : Heap) (locs : List Loc) (ls : Array Slot), b_X3_hearBack_44 fu t t_heard = some out → va_P D CL [(a0, e_X3 a1 t), (a1, eI cA 13 t_heard)] H → va_D A [(a0, e_X3 a1 t), (a1, eI cA 13 t_heard)] → va_S A s.heap H locs → lv_has ls 3 [(0, .ref a0)] → W p l e rm_X3_hearBack s m args below meth c H locs 0 0 Q (F0 m 44 ls []) := by
    intro  t t_heard H locs ls hm hP hD hS hl
    unfold b_X3_hearBack_44 at hm
    rw [hQ]
    exact W.vret hx hb hr (fun t9 ht hW => ⟨⟨(t, t_heard), rfl, (Option.some.inj hm), by rw [ht]; exact hP, va_K.moved hW.alike hK, hD⟩, hS.F ht⟩) hS.2.2 dX3_hearBack_44
  unfold m_X3_hearBack at hm
  subst hargs
  have hl := lv_entry ([.ref a0, .int l1]) (n := 3) (Nat.le_of_ble_eq_true rfl)
  rw [lg_entry_eq]
  generalize (lg_sl ([.ref a0, .int l1]) ++ List.replicate (3 - (lg_sl ([.ref a0, .int l1])).length) Slot.unset).toArray = ls at hl ⊢
  have hl : lv_has ls 3 [(0, .ref a0), (1, .int l1)] := hl
  refine lv_aload_n hx hb dX3_hearBack_0 rfl (lv_at hl 0 rfl) ?_
  refine lv_iload_n hx hb dX3_hearBack_1 rfl (lv_at hl 1 rfl) ?_
  obtain ⟨o1, ho2, hm⟩ := bd_s hm
  refine xr_i (wr := [(a1, eI cA 13 t_heard)]) (wn := [(a0, e_X3 a1 t), (a1, eI cA 13 t_heard)]) (va_runV (As := [.int l1]) (rest := []) ⟨hx, hb, hml, hown, htg⟩ (c_X3_returnOf l D cA _ fu a0 a1 t l1 o1 ho2) (cwV 1 htg (gV q_2_142 q_2_144 q_p2_4 q_1_6 q_2_145) rfl rfl rfl hd_X3_returnOf ⟨Nat.le_of_ble_eq_true rfl, Nat.le_of_ble_eq_true rfl⟩) (xpV hN hK hP hD [0] rfl (by decide) rfl rfl) rfl rfl hl.1 rfl (lv_room (Nat.le_of_ble_eq_true rfl)) dX3_hearBack_2 ⟨Nat.zero_le _, Nat.zero_le _⟩) hP hD hS hA [0] [1] [1, 0] rfl rfl (by decide) (by decide) rfl (by decide) (fun H locs hP hD hS => ?_)
  refine lv_istore_n (lv' := [(2, .int o1.1), (0, .ref a0), (1, .int l1)]) hx hb dX3_hearBack_5 rfl hl (by decide) rfl (fun ls hl => ?_)
  refine lv_iload_n hx hb dX3_hearBack_6 rfl (lv_at hl 0 rfl) ?_
  refine lv_iconst (v := (-1 : Int32)) hx hb dX3_hearBack_7 (by decide) ?_
  refine lv_icmp_eq (tgt := 44) hx hb dX3_hearBack_8 (by decide) (fun c3 => ?_) (fun c3 => ?_)
  · have hm := it_t c3 hm
    exact B_44 _ _ _ _ _ hm hP hD hS (lv_sub hl [1] rfl)
  · have hm := it_f c3 hm
    refine lv_aload_n hx hb dX3_hearBack_11 rfl (lv_at hl 1 rfl) ?_
    refine va_get (D := D) (ci := 3) (v := .int (t 8)) (C := RX3) (T := TX3) (N := 9) hx hb htg inX3 hown hK hP 0 rfl rfl 8 (by decide) (htg _ q_1_152) (fun _ h9 => h9) rfl dX3_hearBack_12 ?_
    refine lv_iconst (v := (0 : Int32)) hx hb dX3_hearBack_15 (by decide) ?_
    refine lv_bipush (v := (12 : Int32)) hx hb dX3_hearBack_16 (by decide) ?_
    obtain ⟨o4, ho5, hm⟩ := bd_s hm
    refine xr_i (wr := [(a0, e_X3 a1 t), (a1, eI cA 13 t_heard)]) (wn := [(a0, e_X3 a1 t), (a1, eI cA 13 t_heard)]) (va_runSN (As := [.int (t 8), .int (0 : Int32), .int (12 : Int32)]) (rest := []) ⟨hx, hb, hml, hown, htg⟩ (c_X5_isWithin l D cA _ fu (t 8) (0 : Int32) (12 : Int32) o4 ho5) ⟨va_cnB 3 htg (gU q_2_9) rfl rfl rfl (hN _ q_2_150) (htg _ q_1_1) hd_X5_isWithin.2 ⟨Nat.le_of_ble_eq_true rfl, Nat.le_of_ble_eq_true rfl⟩, htg _ q_2_8, trivial⟩ (xpS hN hK hP hD [] rfl (by decide)) rfl rfl hl.1 rfl (lv_room (Nat.le_of_ble_eq_true rfl)) dX3_hearBack_18 ⟨Nat.zero_le _, Nat.zero_le _⟩) hP hD hS hA [] [0, 1] [0, 1] rfl rfl (by decide) (by decide) rfl (by decide) (fun H locs hP hD hS => ?_)
    refine lv_if_eq (tgt := 44) hx hb dX3_hearBack_21 (by decide) (fun c6 => ?_) (fun c6 => ?_)
    · have hm := it_t c6 hm
      exact B_44 _ _ _ _ _ hm hP hD hS (lv_sub hl [1] rfl)
    · have hm := it_f c6 hm
      refine lv_aload_n hx hb dX3_hearBack_24 rfl (lv_at hl 1 rfl) ?_
      refine va_get (D := D) (ci := 3) (v := .ref a1) (C := RX3) (T := TX3) (N := 9) hx hb htg inX3 hown hK hP 0 rfl rfl 7 (by decide) (htg _ q_1_151) (fun _ h9 => h9) rfl dX3_hearBack_25 ?_
      refine lv_aload_n hx hb dX3_hearBack_28 rfl (lv_at hl 1 rfl) ?_
      refine va_get (D := D) (ci := 3) (v := .int (t 8)) (C := RX3) (T := TX3) (N := 9) hx hb htg inX3 hown hK hP 0 rfl rfl 8 (by decide) (htg _ q_1_152) (fun _ h9 => h9) rfl dX3_hearBack_29 ?_
      refine lv_iload_n hx hb dX3_hearBack_32 rfl (lv_at hl 0 rfl) ?_
      obtain ⟨hi7, hm⟩ := gd_s hm
      refine va_iast hx hb hK hP hD hS 1 0 rfl rfl hi7 dX3_hearBack_33 (fun H locs (hP : va_P D CL [(a0, e_X3 a1 t), (a1, eI cA 13 (upd t_heard (t 8).toNatClampNeg o1.1))] H) (hD : va_D A [(a0, e_X3 a1 t), (a1, eI cA 13 (upd t_heard (t 8).toNatClampNeg o1.1))]) hS => ?_)
      refine lv_aload_n hx hb dX3_hearBack_34 rfl (lv_at hl 1 rfl) ?_
      refine lv_dup hx hb dX3_hearBack_35 rfl ?_
      refine va_get (D := D) (ci := 3) (v := .int (t 8)) (C := RX3) (T := TX3) (N := 9) hx hb htg inX3 hown hK hP 0 rfl rfl 8 (by decide) (htg _ q_1_152) (fun _ h9 => h9) rfl dX3_hearBack_36 ?_
      refine lv_iconst (v := (1 : Int32)) hx hb dX3_hearBack_39 (by decide) ?_
      refine lv_iadd hx hb dX3_hearBack_40 ?_
      refine va_put (D := D) (ci := 3) (v := .int (t 8 + (1 : Int32))) (ty := .int) (C := RX3) (T := TX3) (N := 9) hx hb htg inX3 tyX3 tyX3_ok nmX3 hown hK hP hD hS 0 rfl rfl 8 (by decide) (htg _ q_1_152) (fun _ h9 => h9) rfl (by decide +kernel) rfl rfl (Nat.le_of_ble_eq_true rfl) dX3_hearBack_41 (fun H locs (hP : va_P D CL [(a0, e_X3 a1 (upd t 8 (t 8 + (1 : Int32)))), (a1, eI cA 13 (upd t_heard (t 8).toNatClampNeg o1.1))] H) (hD : va_D A [(a0, e_X3 a1 (upd t 8 (t 8 + (1 : Int32)))), (a1, eI cA 13 (upd t_heard (t 8).toNatClampNeg o1.1))]) hS => ?_)
      exact B_44 _ _ _ _ _ hm hP hD hS (lv_sub hl [1] rfl)
def b_X3_turnRound_69 (fu : Nat) (t : Nat → Int32) (t_heard : Nat → Int32) : Option ((Nat → Int32)) :=
  some t_heard
def b_X3_turnRound_63 (fu : Nat) (t : Nat → Int32) (k_2 : (Int32 × (Nat → Int32)) → Option ((Nat → Int32))) (l1 : Int32) (t_heard : Nat → Int32) : Option ((Nat → Int32)) :=
  k_2 ((l1 + (1 : Int32)), t_heard)
def b_X3_turnRound_2 (fu : Nat) (t : Nat → Int32) (k_2 : (Int32 × (Nat → Int32)) → Option ((Nat → Int32))) (x : Int32 × (Nat → Int32)) : Option ((Nat → Int32)) :=
  (if (t 8 / (2 : Int32)) ≤ x.1 then
        b_X3_turnRound_69 fu t x.2
      else
        (if (6 : Int32) ≤ x.1 then
          b_X3_turnRound_69 fu t x.2
        else
          (m_X5_isWithin fu ((t 8 - (1 : Int32)) - x.1) (0 : Int32) (12 : Int32)).bind fun o4 =>
          (if o4.1 = 0 then
            b_X3_turnRound_63 fu t k_2 x.1 x.2
          else
            gd (inb x.1 13) (
            gd (inb ((t 8 - (1 : Int32)) - x.1) 13) (
            gd (inb x.1 13) (
            gd (inb ((t 8 - (1 : Int32)) - x.1) 13) (
            b_X3_turnRound_63 fu t k_2 x.1 (upd (upd x.2 x.1.toNatClampNeg (x.2 ((t 8 - (1 : Int32)) - x.1).toNatClampNeg)) ((t 8 - (1 : Int32)) - x.1).toNatClampNeg (x.2 x.1.toNatClampNeg)))))))))
def m_X3_turnRound (fu : Nat) (t : Nat → Int32) (t_heard : Nat → Int32) : Option ((Nat → Int32)) :=
  lfix (b_X3_turnRound_2 fu t) fu ((0 : Int32), t_heard)
abbrev rm_X3_turnRound : Room := ({ frames := 1, cells := 0, slots := 0, locals := 22 } : Room)
abbrev w0_X3_turnRound (cA : Nat → ClassId) (a0 : Nat) (a1 : Nat) (t : Nat → Int32) (t_heard : Nat → Int32) : va_W := [(a0, e_X3 a1 t), (a1, eI cA 13 t_heard)]
abbrev w1_X3_turnRound (cA : Nat → ClassId) (a0 : Nat) (a1 : Nat) (t : Nat → Int32) (u : (Nat → Int32)) : va_W := [(a0, e_X3 a1 t), (a1, eI cA 13 u)]
theorem hd_X3_turnRound : yX3_turnRound.cls = RX3 ∧ yX3_turnRound.cls ≠ "java/lang/invoke/MethodHandle" ∧ yX3_turnRound.cls ≠ "java/lang/invoke/VarHandle" ∧ (parseMethodDescriptor yX3_turnRound.desc).map (fun d => d.parameters.length) = some 0 := by decide +kernel
set_option maxHeartbeats 40000000 in
set_option maxRecDepth 100000 in
theorem c_X3_turnRound (l : Launch) (D : va_G) (cA : Nat → ClassId) (sz : Nat) (fu : Nat) (a0 : Nat) (a1 : Nat) (t : Nat → Int32) (t_heard : Nat → Int32) (out : (Nat → Int32)) (hm : m_X3_turnRound fu t t_heard = some out) : MV l yX3_turnRound (wU yX3_turnRound cX3_turnRound 4 ((Option.none : Option Jvm.ClassFile.FieldType))) rm_X3_turnRound D cA sz [.ref a0] (w0_X3_turnRound cA a0 a1 t t_heard) out (w1_X3_turnRound cA a0 a1 t) := by
  refine Met.ofW (cc := cX3_turnRound) (maxL := 4) (ret := (Option.none : Option Jvm.ClassFile.FieldType)) (by decide) rfl ?_
  intro p e s m args below meth c s₁ B hml hv
  obtain ⟨hargs, hsz, hP, hK, hD0, hN⟩ := hv
  have hx := B.exec
  have hb := B.bytes
  have hr := B.returns
  have htg : ∀ w ∈ gw, w.before args s = true := fun w h => atoms_spec (ws := wU yX3_turnRound cX3_turnRound 4 ((Option.none : Option Jvm.ClassFile.FieldType))) B.pre w (List.mem_cons_of_mem _ h)
  have hown : s.vm.findClass RX3 = some m.cls := findClass_of_methodNamed B.named
  have hlocks := B.notSynchronized
  subst hsz
  have hD := hD0.self (sz := s.heap.size)
  have hA : ∀ q : Nat, s.heap.size ≤ q → va_A (w0_X3_turnRound cA a0 a1 t t_heard) s.heap.size q := fun q h => Or.inr h
  have hS : va_S (va_A (w0_X3_turnRound cA a0 a1 t t_heard) s.heap.size) s.heap s.heap [] := va_S.rf
  generalize va_A (w0_X3_turnRound cA a0 a1 t t_heard) s.heap.size = A at hA hD hS ⊢
  obtain ⟨Q, hQ⟩ : ∃ Q : State → Prop, Q = MQ below (va_Qv (fun (u : (Nat → Int32)) => u = out) (pst0 D cA A (w1_X3_turnRound cA a0 a1 t)) A) args s 0 0 A := ⟨_, rfl⟩
  refine (?_ : W p l e rm_X3_turnRound s m args below meth c s.heap [] 0 0 (MQ below (va_Qv (fun (u : (Nat → Int32)) => u = out) (pst0 D cA A (w1_X3_turnRound cA a0 a1 t)) A) args s 0 0 A) (entryFrame m args 4))
  rw [← hQ]
  have hP : va_P D CL [(a0, e_X3 a1 t), (a1, eI cA 13 t_heard)] s.heap := hP
  have hD : va_D A [(a0, e_X3 a1 t), (a1, eI cA 13 t_heard)] := hD
  have B_69 : ∀ (t_heard : Nat → Int32) (H : Heap) (locs : List Loc) (ls : Array Slot), b_X3_turnRound_69 fu t t_heard = some out → va_P D CL [(a0, e_X3 a1 t), (a1, eI cA 13 t_heard)] H → va_D A [(a0, e_X3 a1 t), (a1, eI cA 13 t_heard)] → va_S A s.heap H locs → lv_has ls 4 [(0, .ref a0)] → W p l e rm_X3_turnRound s m args below meth c H locs 0 0 Q (F0 m 69 ls []) := by
    intro  t_heard H locs ls hm hP hD hS hl
    unfold b_X3_turnRound_69 at hm
    rw [hQ]
    exact W.vret hx hb hr (fun t9 ht hW => ⟨⟨t_heard, rfl, (Option.some.inj hm), by rw [ht]; exact hP, va_K.moved hW.alike hK, hD⟩, hS.F ht⟩) hS.2.2 dX3_turnRound_69
  have B_63 : ∀ (k_2 : (Int32 × (Nat → Int32)) → Option ((Nat → Int32))) (HK_2 : ∀ (x : Int32 × (Nat → Int32)) (H : Heap) (locs : List Loc) (ls : Array Slot), k_2 x = some out → va_P D CL [(a0, e_X3 a1 t), (a1, eI cA 13 x.2)] H → va_D A [(a0, e_X3 a1 t), (a1, eI cA 13 x.2)] → va_S A s.heap H locs → lv_has ls 4 [(0, .ref a0), (1, .int x.1)] → W p l e rm_X3_turnRound s m args below meth c H locs 0 0 Q (F0 m 2 ls [])) (l1 : Int32) (t_heard : Nat → Int32) (H : Heap) (locs : List Loc) (ls : Array Slot), b_X3_turnRound_63 fu t k_2 l1 t_heard = some out → va_P D CL [(a0, e_X3 a1 t), (a1, eI cA 13 t_heard)] H → va_D A [(a0, e_X3 a1 t), (a1, eI cA 13 t_heard)] → va_S A s.heap H locs → lv_has ls 4 [(0, .ref a0), (1, .int l1)] → W p l e rm_X3_turnRound s m args below meth c H locs 0 0 Q (F0 m 63 ls []) := by
    intro k_2 HK_2 l1 t_heard H locs ls hm hP hD hS hl
    unfold b_X3_turnRound_63 at hm
    refine lv_iinc (v := (l1 + (1 : Int32))) (lv' := [(1, .int (l1 + (1 : Int32))), (0, .ref a0)]) hx hb dX3_turnRound_63 hl (k := 1) rfl rfl (by decide) rfl (fun ls hl => ?_)
    refine lv_goto (tgt := 2) hx hb dX3_turnRound_66 (by decide) ?_
    exact HK_2 _ _ _ _ hm hP hD hS (lv_sub hl [1, 0] rfl)
  have B_2 : ∀ (n : Nat) (x : Int32 × (Nat → Int32)) (H : Heap) (locs : List Loc) (ls : Array Slot), lfix (b_X3_turnRound_2 fu t) n x = some out → va_P D CL [(a0, e_X3 a1 t), (a1, eI cA 13 x.2)] H → va_D A [(a0, e_X3 a1 t), (a1, eI cA 13 x.2)] → va_S A s.heap H locs → lv_has ls 4 [(0, .ref a0), (1, .int x.1)] → W p l e rm_X3_turnRound s m args below meth c H locs 0 0 Q (F0 m 2 ls []) := by
    intro  n
    induction n with
    | zero => intro x H locs ls hm; cases (show none = some out from hm)
    | succ n HK_2 =>
      intro x H locs ls hm hP hD hS hl
      replace hm : b_X3_turnRound_2 fu t (lfix (b_X3_turnRound_2 fu t) n) x = some out := hm
      unfold b_X3_turnRound_2 at hm
      refine lv_iload_n hx hb dX3_turnRound_2 rfl (lv_at hl 1 rfl) ?_
      refine lv_aload_n hx hb dX3_turnRound_3 rfl (lv_at hl 0 rfl) ?_
      refine va_get (D := D) (ci := 3) (v := .int (t 8)) (C := RX3) (T := TX3) (N := 9) hx hb htg inX3 hown hK hP 0 rfl rfl 8 (by decide) (htg _ q_1_152) (fun _ h9 => h9) rfl dX3_turnRound_4 ?_
      refine lv_iconst (v := (2 : Int32)) hx hb dX3_turnRound_7 (by decide) ?_
      refine lv_idiv hx hb dX3_turnRound_8 (by decide) ?_
      refine lv_icmp_ge (tgt := 69) hx hb dX3_turnRound_9 (by decide) (fun c2 => ?_) (fun c2 => ?_)
      · have hm := it_t c2 hm
        exact B_69 _ _ _ _ hm hP hD hS (lv_sub hl [0] rfl)
      · have hm := it_f c2 hm
        refine lv_iload_n hx hb dX3_turnRound_12 rfl (lv_at hl 1 rfl) ?_
        refine lv_bipush (v := (6 : Int32)) hx hb dX3_turnRound_13 (by decide) ?_
        refine lv_icmp_ge (tgt := 69) hx hb dX3_turnRound_15 (by decide) (fun c3 => ?_) (fun c3 => ?_)
        · have hm := it_t c3 hm
          exact B_69 _ _ _ _ hm hP hD hS (lv_sub hl [0] rfl)
        · have hm := it_f c3 hm
          refine lv_aload_n hx hb dX3_turnRound_18 rfl (lv_at hl 0 rfl) ?_
          refine va_get (D := D) (ci := 3) (v := .int (t 8)) (C := RX3) (T := TX3) (N := 9) hx hb htg inX3 hown hK hP 0 rfl rfl 8 (by decide) (htg _ q_1_152) (fun _ h9 => h9) rfl dX3_turnRound_19 ?_
          refine lv_iconst (v := (1 : Int32)) hx hb dX3_turnRound_22 (by decide) ?_
          refine lv_isub hx hb dX3_turnRound_23 ?_
          refine lv_iload_n hx hb dX3_turnRound_24 rfl (lv_at hl 1 rfl) ?_
          refine lv_isub hx hb dX3_turnRound_25 ?_
          refine lv_istore_n (lv' := [(2, .int ((t 8 - (1 : Int32)) - x.1)), (0, .ref a0), (1, .int x.1)]) hx hb dX3_turnRound_26 rfl hl (by decide) rfl (fun ls hl => ?_)
          refine lv_iload_n hx hb dX3_turnRound_27 rfl (lv_at hl 0 rfl) ?_
          refine lv_iconst (v := (0 : Int32)) hx hb dX3_turnRound_28 (by decide) ?_
          refine lv_bipush (v := (12 : Int32)) hx hb dX3_turnRound_29 (by decide) ?_
          obtain ⟨o4, ho5, hm⟩ := bd_s hm
          refine xr_i (wr := [(a0, e_X3 a1 t), (a1, eI cA 13 x.2)]) (wn := [(a0, e_X3 a1 t), (a1, eI cA 13 x.2)]) (va_runSN (As := [.int ((t 8 - (1 : Int32)) - x.1), .int (0 : Int32), .int (12 : Int32)]) (rest := []) ⟨hx, hb, hml, hown, htg⟩ (c_X5_isWithin l D cA _ fu ((t 8 - (1 : Int32)) - x.1) (0 : Int32) (12 : Int32) o4 ho5) ⟨va_cnB 3 htg (gU q_2_9) rfl rfl rfl (hN _ q_2_150) (htg _ q_1_1) hd_X5_isWithin.2 ⟨Nat.le_of_ble_eq_true rfl, Nat.le_of_ble_eq_true rfl⟩, htg _ q_2_8, trivial⟩ (xpS hN hK hP hD [] rfl (by decide)) rfl rfl hl.1 rfl (lv_room (Nat.le_of_ble_eq_true rfl)) dX3_turnRound_31 ⟨Nat.zero_le _, Nat.zero_le _⟩) hP hD hS hA [] [0, 1] [0, 1] rfl rfl (by decide) (by decide) rfl (by decide) (fun H locs hP hD hS => ?_)
          refine lv_if_eq (tgt := 63) hx hb dX3_turnRound_34 (by decide) (fun c6 => ?_) (fun c6 => ?_)
          · have hm := it_t c6 hm
            exact B_63 _ HK_2 _ _ _ _ _ hm hP hD hS (lv_sub hl [1, 2] rfl)
          · have hm := it_f c6 hm
            refine lv_aload_n hx hb dX3_turnRound_37 rfl (lv_at hl 1 rfl) ?_
            refine va_get (D := D) (ci := 3) (v := .ref a1) (C := RX3) (T := TX3) (N := 9) hx hb htg inX3 hown hK hP 0 rfl rfl 7 (by decide) (htg _ q_1_151) (fun _ h9 => h9) rfl dX3_turnRound_38 ?_
            refine lv_iload_n hx hb dX3_turnRound_41 rfl (lv_at hl 2 rfl) ?_
            obtain ⟨hi7, hm⟩ := gd_s hm
            refine va_iald hx hb hK hP 1 0 rfl rfl hi7 dX3_turnRound_42 ?_
            refine lv_istore_n (lv' := [(3, .int (x.2 x.1.toNatClampNeg)), (2, .int ((t 8 - (1 : Int32)) - x.1)), (0, .ref a0), (1, .int x.1)]) hx hb dX3_turnRound_43 rfl hl (by decide) rfl (fun ls hl => ?_)
            refine lv_aload_n hx hb dX3_turnRound_44 rfl (lv_at hl 2 rfl) ?_
            refine va_get (D := D) (ci := 3) (v := .ref a1) (C := RX3) (T := TX3) (N := 9) hx hb htg inX3 hown hK hP 0 rfl rfl 7 (by decide) (htg _ q_1_151) (fun _ h9 => h9) rfl dX3_turnRound_45 ?_
            refine lv_iload_n hx hb dX3_turnRound_48 rfl (lv_at hl 3 rfl) ?_
            refine lv_aload_n hx hb dX3_turnRound_49 rfl (lv_at hl 2 rfl) ?_
            refine va_get (D := D) (ci := 3) (v := .ref a1) (C := RX3) (T := TX3) (N := 9) hx hb htg inX3 hown hK hP 0 rfl rfl 7 (by decide) (htg _ q_1_151) (fun _ h9 => h9) rfl dX3_turnRound_50 ?_
            refine lv_iload_n hx hb dX3_turnRound_53 rfl (lv_at hl 1 rfl) ?_
            obtain ⟨hi8, hm⟩ := gd_s hm
            refine va_iald hx hb hK hP 1 0 rfl rfl hi8 dX3_turnRound_54 ?_
            obtain ⟨hi9, hm⟩ := gd_s hm
            refine va_iast hx hb hK hP hD hS 1 0 rfl rfl hi9 dX3_turnRound_55 (fun H locs (hP : va_P D CL [(a0, e_X3 a1 t), (a1, eI cA 13 (upd x.2 x.1.toNatClampNeg (x.2 ((t 8 - (1 : Int32)) - x.1).toNatClampNeg)))] H) (hD : va_D A [(a0, e_X3 a1 t), (a1, eI cA 13 (upd x.2 x.1.toNatClampNeg (x.2 ((t 8 - (1 : Int32)) - x.1).toNatClampNeg)))]) hS => ?_)
            refine lv_aload_n hx hb dX3_turnRound_56 rfl (lv_at hl 2 rfl) ?_
            refine va_get (D := D) (ci := 3) (v := .ref a1) (C := RX3) (T := TX3) (N := 9) hx hb htg inX3 hown hK hP 0 rfl rfl 7 (by decide) (htg _ q_1_151) (fun _ h9 => h9) rfl dX3_turnRound_57 ?_
            refine lv_iload_n hx hb dX3_turnRound_60 rfl (lv_at hl 1 rfl) ?_
            refine lv_iload_n hx hb dX3_turnRound_61 rfl (lv_at hl 0 rfl) ?_
            obtain ⟨hi10, hm⟩ := gd_s hm
            refine va_iast hx hb hK hP hD hS 1 0 rfl rfl hi10 dX3_turnRound_62 (fun H locs (hP : va_P D CL [(a0, e_X3 a1 t), (a1, eI cA 13 (upd (upd x.2 x.1.toNatClampNeg (x.2 ((t 8 - (1 : Int32)) - x.1).toNatClampNeg)) ((t 8 - (1 : Int32)) - x.1).toNatClampNeg (x.2 x.1.toNatClampNeg)))] H) (hD : va_D A [(a0, e_X3 a1 t), (a1, eI cA 13 (upd (upd x.2 x.1.toNatClampNeg (x.2 ((t 8 - (1 : Int32)) - x.1).toNatClampNeg)) ((t 8 - (1 : Int32)) - x.1).toNatClampNeg (x.2 x.1.toNatClampNeg)))]) hS => ?_)
            exact B_63 _ HK_2 _ _ _ _ _ hm hP hD hS (lv_sub hl [2, 3] rfl)
  unfold m_X3_turnRound at hm
  subst hargs
  have hl := lv_entry ([.ref a0]) (n := 4) (Nat.le_of_ble_eq_true rfl)
  rw [lg_entry_eq]
  generalize (lg_sl ([.ref a0]) ++ List.replicate (4 - (lg_sl ([.ref a0])).length) Slot.unset).toArray = ls at hl ⊢
  have hl : lv_has ls 4 [(0, .ref a0)] := hl
  refine lv_iconst (v := (0 : Int32)) hx hb dX3_turnRound_0 (by decide) ?_
  refine lv_istore_n (lv' := [(1, .int (0 : Int32)), (0, .ref a0)]) hx hb dX3_turnRound_1 rfl hl (by decide) rfl (fun ls hl => ?_)
  exact B_2 fu _ _ _ _ hm hP hD hS (lv_sub hl [1, 0] rfl)
def b_X3_hears_69 (fu : Nat) (p1 : Nat → Int32) (p1_sounds : Nat → Int32) (t : Nat → Int32) (t_heard : Nat → Int32) : Option ((Nat → Int32) × (Nat → Int32)) :=
  some (t, t_heard)
def b_X3_hears_34 (fu : Nat) (p1 : Nat → Int32) (p1_sounds : Nat → Int32) (k_34 : (Int32 × (Nat → Int32) × (Nat → Int32)) → Option ((Nat → Int32) × (Nat → Int32))) (x : Int32 × (Nat → Int32) × (Nat → Int32)) : Option ((Nat → Int32) × (Nat → Int32)) :=
  (if p1 1 ≤ x.1 then
        (if x.2.1 0 = (4 : Int32) then
          (m_X3_turnRound fu x.2.1 x.2.2).bind fun o3 =>
          b_X3_hears_69 fu p1 p1_sounds x.2.1 o3
        else
          b_X3_hears_69 fu p1 p1_sounds x.2.1 x.2.2)
      else
        (m_X4_soundAt fu p1 p1_sounds x.1).bind fun o5 =>
        (m_X3_hearBack fu x.2.1 x.2.2 o5.1).bind fun o7 =>
        k_34 ((x.1 + (1 : Int32)), o7.1, o7.2))
def b_X3_hears_32 (fu : Nat) (p1 : Nat → Int32) (p1_sounds : Nat → Int32) (t : Nat → Int32) (t_heard : Nat → Int32) : Option ((Nat → Int32) × (Nat → Int32)) :=
  lfix (b_X3_hears_34 fu p1 p1_sounds) fu ((0 : Int32), t, t_heard)
def m_X3_hears (fu : Nat) (t : Nat → Int32) (t_heard : Nat → Int32) (p1 : Nat → Int32) (p1_sounds : Nat → Int32) : Option ((Nat → Int32) × (Nat → Int32)) :=
  (if p1 1 ≤ 0 then
    b_X3_hears_32 fu p1 p1_sounds (upd t 8 (0 : Int32)) t_heard
  else
    (m_X5_isUnder fu (t 0) (2 : Int32)).bind fun o10 =>
    (if o10.1 = 0 then
      b_X3_hears_32 fu p1 p1_sounds (upd t 8 (0 : Int32)) t_heard
    else
      (m_X4_soundAt fu p1 p1_sounds (0 : Int32)).bind fun o13 =>
      (m_X3_hearBack fu (upd t 8 (0 : Int32)) t_heard o13.1).bind fun o15 =>
      b_X3_hears_32 fu p1 p1_sounds o15.1 o15.2))
abbrev rm_X3_hears : Room := ({ frames := 3, cells := 0, slots := 0, locals := 66 } : Room)
abbrev w0_X3_hears (cA : Nat → ClassId) (a0 : Nat) (a1 : Nat) (p1a0 : Nat) (p1a1 : Nat) (t : Nat → Int32) (t_heard : Nat → Int32) (p1 : Nat → Int32) (p1_sounds : Nat → Int32) : va_W := [(a0, e_X3 a1 t), (a1, eI cA 13 t_heard), (p1a0, e_X4 p1a1 p1), (p1a1, eI cA 12 p1_sounds)]
abbrev w1_X3_hears (cA : Nat → ClassId) (a0 : Nat) (a1 : Nat) (p1a0 : Nat) (p1a1 : Nat) (p1 : Nat → Int32) (p1_sounds : Nat → Int32) (u : (Nat → Int32) × (Nat → Int32)) : va_W := [(a0, e_X3 a1 u.1), (a1, eI cA 13 u.2), (p1a0, e_X4 p1a1 p1), (p1a1, eI cA 12 p1_sounds)]
theorem hd_X3_hears : yX3_hears.cls = RX3 ∧ yX3_hears.cls ≠ "java/lang/invoke/MethodHandle" ∧ yX3_hears.cls ≠ "java/lang/invoke/VarHandle" ∧ (parseMethodDescriptor yX3_hears.desc).map (fun d => d.parameters.length) = some 1 := by decide +kernel
set_option maxHeartbeats 40000000 in
set_option maxRecDepth 100000 in
theorem c_X3_hears (l : Launch) (D : va_G) (cA : Nat → ClassId) (sz : Nat) (fu : Nat) (a0 : Nat) (a1 : Nat) (p1a0 : Nat) (p1a1 : Nat) (t : Nat → Int32) (t_heard : Nat → Int32) (p1 : Nat → Int32) (p1_sounds : Nat → Int32) (out : (Nat → Int32) × (Nat → Int32)) (hm : m_X3_hears fu t t_heard p1 p1_sounds = some out) : MV l yX3_hears (wU yX3_hears cX3_hears 3 ((Option.none : Option Jvm.ClassFile.FieldType))) rm_X3_hears D cA sz [.ref a0, .ref p1a0] (w0_X3_hears cA a0 a1 p1a0 p1a1 t t_heard p1 p1_sounds) out (w1_X3_hears cA a0 a1 p1a0 p1a1 p1 p1_sounds) := by
  refine Met.ofW (cc := cX3_hears) (maxL := 3) (ret := (Option.none : Option Jvm.ClassFile.FieldType)) (by decide) rfl ?_
  intro p e s m args below meth c s₁ B hml hv
  obtain ⟨hargs, hsz, hP, hK, hD0, hN⟩ := hv
  have hx := B.exec
  have hb := B.bytes
  have hr := B.returns
  have htg : ∀ w ∈ gw, w.before args s = true := fun w h => atoms_spec (ws := wU yX3_hears cX3_hears 3 ((Option.none : Option Jvm.ClassFile.FieldType))) B.pre w (List.mem_cons_of_mem _ h)
  have hown : s.vm.findClass RX3 = some m.cls := findClass_of_methodNamed B.named
  have hlocks := B.notSynchronized
  subst hsz
  have hD := hD0.self (sz := s.heap.size)
  have hA : ∀ q : Nat, s.heap.size ≤ q → va_A (w0_X3_hears cA a0 a1 p1a0 p1a1 t t_heard p1 p1_sounds) s.heap.size q := fun q h => Or.inr h
  have hS : va_S (va_A (w0_X3_hears cA a0 a1 p1a0 p1a1 t t_heard p1 p1_sounds) s.heap.size) s.heap s.heap [] := va_S.rf
  generalize va_A (w0_X3_hears cA a0 a1 p1a0 p1a1 t t_heard p1 p1_sounds) s.heap.size = A at hA hD hS ⊢
  obtain ⟨Q, hQ⟩ : ∃ Q : State → Prop, Q = MQ below (va_Qv (fun (u : (Nat → Int32) × (Nat → Int32)) => u = out) (pst0 D cA A (w1_X3_hears cA a0 a1 p1a0 p1a1 p1 p1_sounds)) A) args s 0 0 A := ⟨_, rfl⟩
  refine (?_ : W p l e rm_X3_hears s m args below meth c s.heap [] 0 0 (MQ below (va_Qv (fun (u : (Nat → Int32) × (Nat → Int32)) => u = out) (pst0 D cA A (w1_X3_hears cA a0 a1 p1a0 p1a1 p1 p1_sounds)) A) args s 0 0 A) (entryFrame m args 3))
  rw [← hQ]
  have hP : va_P D CL [(a0, e_X3 a1 t), (a1, eI cA 13 t_heard), (p1a0, e_X4 p1a1 p1), (p1a1, eI cA 12 p1_sounds)] s.heap := hP
  have hD : va_D A [(a0, e_X3 a1 t), (a1, eI cA 13 t_heard), (p1a0, e_X4 p1a1 p1), (p1a1, eI cA 12 p1_sounds)] := hD
  have B_69 : ∀ (t : Nat → Int32) (t_heard : Nat → Int32) (H : Heap) (locs : List Loc) (ls : Array Slot), b_X3_hears_69 fu p1 p1_sounds t t_heard = some out → va_P D CL [(a0, e_X3 a1 t), (a1, eI cA 13 t_heard), (p1a0, e_X4 p1a1 p1), (p1a1, eI cA 12 p1_sounds)] H → va_D A [(a0, e_X3 a1 t), (a1, eI cA 13 t_heard), (p1a0, e_X4 p1a1 p1), (p1a1, eI cA 12 p1_sounds)] → va_S A s.heap H locs → lv_has ls 3 [(0, .ref a0), (1, .ref p1a0)] → W p l e rm_X3_hears s m args below meth c H locs 0 0 Q (F0 m 69 ls []) := by
    intro  t t_heard H locs ls hm hP hD hS hl
    unfold b_X3_hears_69 at hm
    rw [hQ]
    exact W.vret hx hb hr (fun t9 ht hW => ⟨⟨(t, t_heard), rfl, (Option.some.inj hm), by rw [ht]; exact hP, va_K.moved hW.alike hK, hD⟩, hS.F ht⟩) hS.2.2 dX3_hears_69
  have B_34 : ∀ (n : Nat) (x : Int32 × (Nat → Int32) × (Nat → Int32)) (H : Heap) (locs : List Loc) (ls : Array Slot), lfix (b_X3_hears_34 fu p1 p1_sounds) n x = some out → va_P D CL [(a0, e_X3 a1 x.2.1), (a1, eI cA 13 x.2.2), (p1a0, e_X4 p1a1 p1), (p1a1, eI cA 12 p1_sounds)] H → va_D A [(a0, e_X3 a1 x.2.1), (a1, eI cA 13 x.2.2), (p1a0, e_X4 p1a1 p1), (p1a1, eI cA 12 p1_sounds)] → va_S A s.heap H locs → lv_has ls 3 [(0, .ref a0), (1, .ref p1a0), (2, .int x.1)] → W p l e rm_X3_hears s m args below meth c H locs 0 0 Q (F0 m 34 ls []) := by
    intro  n
    induction n with
    | zero => intro x H locs ls hm; cases (show none = some out from hm)
    | succ n HK_34 =>
      intro x H locs ls hm hP hD hS hl
      replace hm : b_X3_hears_34 fu p1 p1_sounds (lfix (b_X3_hears_34 fu p1 p1_sounds) n) x = some out := hm
      unfold b_X3_hears_34 at hm
      refine lv_iload_n hx hb dX3_hears_34 rfl (lv_at hl 2 rfl) ?_
      refine lv_aload_n hx hb dX3_hears_35 rfl (lv_at hl 1 rfl) ?_
      refine va_getN (D := D) (ci := 4) (v := .int (p1 1)) (C := RX4) (T := TX4) (N := 2) hx hb htg inX4 hown hK hP 2 rfl rfl 1 (by decide) (va_Nw.use rfl (hN _ q_1_181)) (fun _ h9 => h9) rfl dX3_hears_36 ?_
      refine lv_icmp_ge (tgt := 57) hx hb dX3_hears_39 (by decide) (fun c1 => ?_) (fun c1 => ?_)
      · have hm := it_t c1 hm
        refine lv_aload_n hx hb dX3_hears_57 rfl (lv_at hl 0 rfl) ?_
        refine va_get (D := D) (ci := 3) (v := .int (x.2.1 0)) (C := RX3) (T := TX3) (N := 9) hx hb htg inX3 hown hK hP 0 rfl rfl 0 (by decide) (htg _ q_1_139) (fun _ h9 => h9) rfl dX3_hears_58 ?_
        refine lv_iconst (v := (4 : Int32)) hx hb dX3_hears_61 (by decide) ?_
        refine lv_icmp_ne (tgt := 69) hx hb dX3_hears_62 (by decide) (fun c2 => ?_) (fun c2 => ?_)
        · have hm := it_f c2 hm
          exact B_69 _ _ _ _ _ hm hP hD hS (lv_sub hl [0, 1] rfl)
        · have hm := it_t c2 hm
          refine lv_aload_n hx hb dX3_hears_65 rfl (lv_at hl 0 rfl) ?_
          obtain ⟨o3, ho4, hm⟩ := bd_s hm
          refine xr_v (wr := [(p1a0, e_X4 p1a1 p1), (p1a1, eI cA 12 p1_sounds)]) (wn := [(a0, e_X3 a1 x.2.1), (a1, eI cA 13 o3), (p1a0, e_X4 p1a1 p1), (p1a1, eI cA 12 p1_sounds)]) (va_runV (As := []) (rest := []) ⟨hx, hb, hml, hown, htg⟩ (c_X3_turnRound l D cA _ fu a0 a1 x.2.1 x.2.2 o3 ho4) (cwV 0 htg (gV q_2_151 q_2_153 q_p2_6 q_1_6 q_2_154) rfl rfl rfl hd_X3_turnRound ⟨Nat.le_of_ble_eq_true rfl, Nat.le_of_ble_eq_true rfl⟩) (xpV hN hK hP hD [0, 1] rfl (by decide) rfl rfl) rfl rfl hl.1 rfl (lv_room (Nat.le_of_ble_eq_true rfl)) dX3_hears_66 ⟨Nat.zero_le _, Nat.zero_le _⟩) hP hD hS hA [0, 1] [2, 3] [2, 3, 0, 1] rfl rfl (by decide) (by decide) rfl (by decide) (fun H locs hP hD hS => ?_)
          exact B_69 _ _ _ _ _ hm hP hD hS (lv_sub hl [0, 1] rfl)
      · have hm := it_f c1 hm
        refine lv_aload_n hx hb dX3_hears_42 rfl (lv_at hl 0 rfl) ?_
        refine lv_aload_n hx hb dX3_hears_43 rfl (lv_at hl 1 rfl) ?_
        refine lv_iload_n hx hb dX3_hears_44 rfl (lv_at hl 2 rfl) ?_
        obtain ⟨o5, ho6, hm⟩ := bd_s hm
        refine xr_i (wr := [(a0, e_X3 a1 x.2.1), (a1, eI cA 13 x.2.2)]) (wn := [(a0, e_X3 a1 x.2.1), (a1, eI cA 13 x.2.2), (p1a0, e_X4 p1a1 p1), (p1a1, eI cA 12 p1_sounds)]) (va_runVN (As := [.int x.1]) (rest := [.ref a0]) ⟨hx, hb, hml, hown, htg⟩ (c_X4_soundAt l D cA _ fu p1a0 p1a1 p1 p1_sounds x.1 o5 ho6) ⟨va_cnB 1 htg (gU q_2_137) rfl rfl rfl (hN _ q_2_134) (htg _ q_1_7) hd_X4_soundAt.2 ⟨Nat.le_of_ble_eq_true rfl, Nat.le_of_ble_eq_true rfl⟩, htg _ q_2_136, htg _ q_p2_2⟩ (xpV hN hK hP hD [2, 3] rfl (by decide) rfl rfl) rfl rfl hl.1 rfl (lv_room (Nat.le_of_ble_eq_true rfl)) dX3_hears_45 ⟨Nat.zero_le _, Nat.zero_le _⟩) hP hD hS hA [2, 3] [0, 1] [0, 1, 2, 3] rfl rfl (by decide) (by decide) rfl (by decide) (fun H locs hP hD hS => ?_)
        obtain ⟨o7, ho8, hm⟩ := bd_s hm
        refine xr_v (wr := [(p1a0, e_X4 p1a1 p1), (p1a1, eI cA 12 p1_sounds)]) (wn := [(a0, e_X3 a1 o7.1), (a1, eI cA 13 o7.2), (p1a0, e_X4 p1a1 p1), (p1a1, eI cA 12 p1_sounds)]) (va_runV (As := [.int o5.1]) (rest := []) ⟨hx, hb, hml, hown, htg⟩ (c_X3_hearBack l D cA _ fu a0 a1 x.2.1 x.2.2 o5.1 o7 ho8) (cwV 1 htg (gV q_2_138 q_2_140 q_p2_3 q_1_6 q_2_141) rfl rfl rfl hd_X3_hearBack ⟨Nat.le_of_ble_eq_true rfl, Nat.le_of_ble_eq_true rfl⟩) (xpV hN hK hP hD [0, 1] rfl (by decide) rfl rfl) rfl rfl hl.1 rfl (lv_room (Nat.le_of_ble_eq_true rfl)) dX3_hears_48 ⟨Nat.zero_le _, Nat.zero_le _⟩) hP hD hS hA [0, 1] [2, 3] [2, 3, 0, 1] rfl rfl (by decide) (by decide) rfl (by decide) (fun H locs hP hD hS => ?_)
        refine lv_iinc (v := (x.1 + (1 : Int32))) (lv' := [(2, .int (x.1 + (1 : Int32))), (0, .ref a0), (1, .ref p1a0)]) hx hb dX3_hears_51 hl (k := 2) rfl rfl (by decide) rfl (fun ls hl => ?_)
        refine lv_goto (tgt := 34) hx hb dX3_hears_54 (by decide) ?_
        exact HK_34 _ _ _ _ hm hP hD hS (lv_sub hl [1, 2, 0] rfl)
  have B_32 : ∀ (t : Nat → Int32) (t_heard : Nat → Int32) (H : Heap) (locs : List Loc) (ls : Array Slot), b_X3_hears_32 fu p1 p1_sounds t t_heard = some out → va_P D CL [(a0, e_X3 a1 t), (a1, eI cA 13 t_heard), (p1a0, e_X4 p1a1 p1), (p1a1, eI cA 12 p1_sounds)] H → va_D A [(a0, e_X3 a1 t), (a1, eI cA 13 t_heard), (p1a0, e_X4 p1a1 p1), (p1a1, eI cA 12 p1_sounds)] → va_S A s.heap H locs → lv_has ls 3 [(0, .ref a0), (1, .ref p1a0)] → W p l e rm_X3_hears s m args below meth c H locs 0 0 Q (F0 m 32 ls []) := by
    intro  t t_heard H locs ls hm hP hD hS hl
    unfold b_X3_hears_32 at hm
    refine lv_iconst (v := (0 : Int32)) hx hb dX3_hears_32 (by decide) ?_
    refine lv_istore_n (lv' := [(2, .int (0 : Int32)), (0, .ref a0), (1, .ref p1a0)]) hx hb dX3_hears_33 rfl hl (by decide) rfl (fun ls hl => ?_)
    exact B_34 fu _ _ _ _ hm hP hD hS (lv_sub hl [1, 2, 0] rfl)
  unfold m_X3_hears at hm
  subst hargs
  have hl := lv_entry ([.ref a0, .ref p1a0]) (n := 3) (Nat.le_of_ble_eq_true rfl)
  rw [lg_entry_eq]
  generalize (lg_sl ([.ref a0, .ref p1a0]) ++ List.replicate (3 - (lg_sl ([.ref a0, .ref p1a0])).length) Slot.unset).toArray = ls at hl ⊢
  have hl : lv_has ls 3 [(0, .ref a0), (1, .ref p1a0)] := hl
  refine lv_aload_n hx hb dX3_hears_0 rfl (lv_at hl 0 rfl) ?_
  refine lv_iconst (v := (0 : Int32)) hx hb dX3_hears_1 (by decide) ?_
  refine va_put (D := D) (ci := 3) (v := .int (0 : Int32)) (ty := .int) (C := RX3) (T := TX3) (N := 9) hx hb htg inX3 tyX3 tyX3_ok nmX3 hown hK hP hD hS 0 rfl rfl 8 (by decide) (htg _ q_1_152) (fun _ h9 => h9) rfl (by decide +kernel) rfl rfl (Nat.le_of_ble_eq_true rfl) dX3_hears_2 (fun H locs (hP : va_P D CL [(a0, e_X3 a1 (upd t 8 (0 : Int32))), (a1, eI cA 13 t_heard), (p1a0, e_X4 p1a1 p1), (p1a1, eI cA 12 p1_sounds)] H) (hD : va_D A [(a0, e_X3 a1 (upd t 8 (0 : Int32))), (a1, eI cA 13 t_heard), (p1a0, e_X4 p1a1 p1), (p1a1, eI cA 12 p1_sounds)]) hS => ?_)
  refine lv_aload_n hx hb dX3_hears_5 rfl (lv_at hl 1 rfl) ?_
  refine va_getN (D := D) (ci := 4) (v := .int (p1 1)) (C := RX4) (T := TX4) (N := 2) hx hb htg inX4 hown hK hP 2 rfl rfl 1 (by decide) (va_Nw.use rfl (hN _ q_1_181)) (fun _ h9 => h9) rfl dX3_hears_6 ?_
  refine lv_if_le (tgt := 32) hx hb dX3_hears_9 (by decide) (fun c9 => ?_) (fun c9 => ?_)
  · have hm := it_t c9 hm
    exact B_32 _ _ _ _ _ hm hP hD hS (lv_sub hl [0, 1] rfl)
  · have hm := it_f c9 hm
    refine lv_aload_n hx hb dX3_hears_12 rfl (lv_at hl 0 rfl) ?_
    refine va_get (D := D) (ci := 3) (v := .int (t 0)) (C := RX3) (T := TX3) (N := 9) hx hb htg inX3 hown hK hP 0 rfl rfl 0 (by decide) (htg _ q_1_139) (fun _ h9 => h9) rfl dX3_hears_13 ?_
    refine lv_iconst (v := (2 : Int32)) hx hb dX3_hears_16 (by decide) ?_
    obtain ⟨o10, ho11, hm⟩ := bd_s hm
    refine xr_i (wr := [(a0, e_X3 a1 (upd t 8 (0 : Int32))), (a1, eI cA 13 t_heard), (p1a0, e_X4 p1a1 p1), (p1a1, eI cA 12 p1_sounds)]) (wn := [(a0, e_X3 a1 (upd t 8 (0 : Int32))), (a1, eI cA 13 t_heard), (p1a0, e_X4 p1a1 p1), (p1a1, eI cA 12 p1_sounds)]) (va_runSN (As := [.int (t 0), .int (2 : Int32)]) (rest := []) ⟨hx, hb, hml, hown, htg⟩ (c_X5_isUnder l D cA _ fu (t 0) (2 : Int32) o10 ho11) ⟨va_cnB 2 htg (gU q_2_109) rfl rfl rfl (hN _ q_2_133) (htg _ q_1_1) hd_X5_isUnder.2 ⟨Nat.le_of_ble_eq_true rfl, Nat.le_of_ble_eq_true rfl⟩, htg _ q_2_108, trivial⟩ (xpS hN hK hP hD [] rfl (by decide)) rfl rfl hl.1 rfl (lv_room (Nat.le_of_ble_eq_true rfl)) dX3_hears_17 ⟨Nat.zero_le _, Nat.zero_le _⟩) hP hD hS hA [] [0, 1, 2, 3] [0, 1, 2, 3] rfl rfl (by decide) (by decide) rfl (by decide) (fun H locs hP hD hS => ?_)
    refine lv_if_eq (tgt := 32) hx hb dX3_hears_20 (by decide) (fun c12 => ?_) (fun c12 => ?_)
    · have hm := it_t c12 hm
      exact B_32 _ _ _ _ _ hm hP hD hS (lv_sub hl [0, 1] rfl)
    · have hm := it_f c12 hm
      refine lv_aload_n hx hb dX3_hears_23 rfl (lv_at hl 0 rfl) ?_
      refine lv_aload_n hx hb dX3_hears_24 rfl (lv_at hl 1 rfl) ?_
      refine lv_iconst (v := (0 : Int32)) hx hb dX3_hears_25 (by decide) ?_
      obtain ⟨o13, ho14, hm⟩ := bd_s hm
      refine xr_i (wr := [(a0, e_X3 a1 (upd t 8 (0 : Int32))), (a1, eI cA 13 t_heard)]) (wn := [(a0, e_X3 a1 (upd t 8 (0 : Int32))), (a1, eI cA 13 t_heard), (p1a0, e_X4 p1a1 p1), (p1a1, eI cA 12 p1_sounds)]) (va_runVN (As := [.int (0 : Int32)]) (rest := [.ref a0]) ⟨hx, hb, hml, hown, htg⟩ (c_X4_soundAt l D cA _ fu p1a0 p1a1 p1 p1_sounds (0 : Int32) o13 ho14) ⟨va_cnB 1 htg (gU q_2_137) rfl rfl rfl (hN _ q_2_134) (htg _ q_1_7) hd_X4_soundAt.2 ⟨Nat.le_of_ble_eq_true rfl, Nat.le_of_ble_eq_true rfl⟩, htg _ q_2_136, htg _ q_p2_2⟩ (xpV hN hK hP hD [2, 3] rfl (by decide) rfl rfl) rfl rfl hl.1 rfl (lv_room (Nat.le_of_ble_eq_true rfl)) dX3_hears_26 ⟨Nat.zero_le _, Nat.zero_le _⟩) hP hD hS hA [2, 3] [0, 1] [0, 1, 2, 3] rfl rfl (by decide) (by decide) rfl (by decide) (fun H locs hP hD hS => ?_)
      obtain ⟨o15, ho16, hm⟩ := bd_s hm
      refine xr_v (wr := [(p1a0, e_X4 p1a1 p1), (p1a1, eI cA 12 p1_sounds)]) (wn := [(a0, e_X3 a1 o15.1), (a1, eI cA 13 o15.2), (p1a0, e_X4 p1a1 p1), (p1a1, eI cA 12 p1_sounds)]) (va_runV (As := [.int o13.1]) (rest := []) ⟨hx, hb, hml, hown, htg⟩ (c_X3_hearBack l D cA _ fu a0 a1 (upd t 8 (0 : Int32)) t_heard o13.1 o15 ho16) (cwV 1 htg (gV q_2_138 q_2_140 q_p2_3 q_1_6 q_2_141) rfl rfl rfl hd_X3_hearBack ⟨Nat.le_of_ble_eq_true rfl, Nat.le_of_ble_eq_true rfl⟩) (xpV hN hK hP hD [0, 1] rfl (by decide) rfl rfl) rfl rfl hl.1 rfl (lv_room (Nat.le_of_ble_eq_true rfl)) dX3_hears_29 ⟨Nat.zero_le _, Nat.zero_le _⟩) hP hD hS hA [0, 1] [2, 3] [2, 3, 0, 1] rfl rfl (by decide) (by decide) rfl (by decide) (fun H locs hP hD hS => ?_)
      exact B_32 _ _ _ _ _ hm hP hD hS (lv_sub hl [0, 1] rfl)
def b_X3_heardAt_28 (fu : Nat) (t : Nat → Int32) (t_heard : Nat → Int32) (s0 : Int32) : Option (Int32 × Unit) :=
  some (s0, ())
def b_X3_heardAt_27 (fu : Nat) (t : Nat → Int32) (t_heard : Nat → Int32)  : Option (Int32 × Unit) :=
  b_X3_heardAt_28 fu t t_heard (-1 : Int32)
def m_X3_heardAt (fu : Nat) (t : Nat → Int32) (t_heard : Nat → Int32) (l1 : Int32) : Option (Int32 × Unit) :=
  (if t 8 ≤ l1 then
    b_X3_heardAt_27 fu t t_heard 
  else
    (m_X5_isWithin fu l1 (0 : Int32) (12 : Int32)).bind fun o2 =>
    (if o2.1 = 0 then
      b_X3_heardAt_27 fu t t_heard 
    else
      gd (inb l1 13) (
      b_X3_heardAt_28 fu t t_heard (t_heard l1.toNatClampNeg))))
abbrev rm_X3_heardAt : Room := ({ frames := 1, cells := 0, slots := 0, locals := 22 } : Room)
abbrev w0_X3_heardAt (cA : Nat → ClassId) (a0 : Nat) (a1 : Nat) (t : Nat → Int32) (t_heard : Nat → Int32) : va_W := [(a0, e_X3 a1 t), (a1, eI cA 13 t_heard)]
abbrev w1_X3_heardAt (cA : Nat → ClassId) (a0 : Nat) (a1 : Nat) (t : Nat → Int32) (t_heard : Nat → Int32) (u : Unit) : va_W := [(a0, e_X3 a1 t), (a1, eI cA 13 t_heard)]
theorem hd_X3_heardAt : yX3_heardAt.cls = RX3 ∧ yX3_heardAt.cls ≠ "java/lang/invoke/MethodHandle" ∧ yX3_heardAt.cls ≠ "java/lang/invoke/VarHandle" ∧ (parseMethodDescriptor yX3_heardAt.desc).map (fun d => d.parameters.length) = some 1 := by decide +kernel
set_option maxHeartbeats 40000000 in
set_option maxRecDepth 100000 in
theorem c_X3_heardAt (l : Launch) (D : va_G) (cA : Nat → ClassId) (sz : Nat) (fu : Nat) (a0 : Nat) (a1 : Nat) (t : Nat → Int32) (t_heard : Nat → Int32) (l1 : Int32) (out : Int32 × Unit) (hm : m_X3_heardAt fu t t_heard l1 = some out) : MI l yX3_heardAt (wU yX3_heardAt cX3_heardAt 2 ((Option.some Jvm.ClassFile.FieldType.int))) rm_X3_heardAt D cA sz [.ref a0, .int l1] (w0_X3_heardAt cA a0 a1 t t_heard) out (w1_X3_heardAt cA a0 a1 t t_heard) := by
  refine Met.ofW (cc := cX3_heardAt) (maxL := 2) (ret := (Option.some Jvm.ClassFile.FieldType.int)) (by decide) rfl ?_
  intro p e s m args below meth c s₁ B hml hv
  obtain ⟨hargs, hsz, hP, hK, hD0, hN⟩ := hv
  have hx := B.exec
  have hb := B.bytes
  have hr := B.returns
  have htg : ∀ w ∈ gw, w.before args s = true := fun w h => atoms_spec (ws := wU yX3_heardAt cX3_heardAt 2 ((Option.some Jvm.ClassFile.FieldType.int))) B.pre w (List.mem_cons_of_mem _ h)
  have hown : s.vm.findClass RX3 = some m.cls := findClass_of_methodNamed B.named
  have hlocks := B.notSynchronized
  subst hsz
  have hD := hD0.self (sz := s.heap.size)
  have hA : ∀ q : Nat, s.heap.size ≤ q → va_A (w0_X3_heardAt cA a0 a1 t t_heard) s.heap.size q := fun q h => Or.inr h
  have hS : va_S (va_A (w0_X3_heardAt cA a0 a1 t t_heard) s.heap.size) s.heap s.heap [] := va_S.rf
  generalize va_A (w0_X3_heardAt cA a0 a1 t t_heard) s.heap.size = A at hA hD hS ⊢
  obtain ⟨Q, hQ⟩ : ∃ Q : State → Prop, Q = MQ below (va_Qi (fun (r : Int32) (u : Unit) => (r, u) = out) (pst0 D cA A (w1_X3_heardAt cA a0 a1 t t_heard)) A) args s 0 0 A := ⟨_, rfl⟩
  refine (?_ : W p l e rm_X3_heardAt s m args below meth c s.heap [] 0 0 (MQ below (va_Qi (fun (r : Int32) (u : Unit) => (r, u) = out) (pst0 D cA A (w1_X3_heardAt cA a0 a1 t t_heard)) A) args s 0 0 A) (entryFrame m args 2))
  rw [← hQ]
  have hP : va_P D CL [(a0, e_X3 a1 t), (a1, eI cA 13 t_heard)] s.heap := hP
  have hD : va_D A [(a0, e_X3 a1 t), (a1, eI cA 13 t_heard)] := hD
  have B_28 : ∀ (s0 : Int32) (H : Heap) (locs : List Loc) (ls : Array Slot), b_X3_heardAt_28 fu t t_heard s0 = some out → va_P D CL [(a0, e_X3 a1 t), (a1, eI cA 13 t_heard)] H → va_D A [(a0, e_X3 a1 t), (a1, eI cA 13 t_heard)] → va_S A s.heap H locs → lv_has ls 2 [(0, .ref a0)] → W p l e rm_X3_heardAt s m args below meth c H locs 0 0 Q (F0 m 28 ls [.int s0]) := by
    intro  s0 H locs ls hm hP hD hS hl
    unfold b_X3_heardAt_28 at hm
    rw [hQ]
    exact W.iret (v := s0) hx hb hr (fun t9 ht hW => ⟨⟨s0, (), rfl, (Option.some.inj hm), by rw [ht]; exact hP, va_K.moved hW.alike hK, hD⟩, hS.F ht⟩) hS.2.2 dX3_heardAt_28
  have B_27 : ∀  (H : Heap) (locs : List Loc) (ls : Array Slot), b_X3_heardAt_27 fu t t_heard  = some out → va_P D CL [(a0, e_X3 a1 t), (a1, eI cA 13 t_heard)] H → va_D A [(a0, e_X3 a1 t), (a1, eI cA 13 t_heard)] → va_S A s.heap H locs → lv_has ls 2 [(0, .ref a0)] → W p l e rm_X3_heardAt s m args below meth c H locs 0 0 Q (F0 m 27 ls []) := by
    intro   H locs ls hm hP hD hS hl
    unfold b_X3_heardAt_27 at hm
    refine lv_iconst (v := (-1 : Int32)) hx hb dX3_heardAt_27 (by decide) ?_
    exact B_28 _ _ _ _ hm hP hD hS (lv_sub hl [0] rfl)
  unfold m_X3_heardAt at hm
  subst hargs
  have hl := lv_entry ([.ref a0, .int l1]) (n := 2) (Nat.le_of_ble_eq_true rfl)
  rw [lg_entry_eq]
  generalize (lg_sl ([.ref a0, .int l1]) ++ List.replicate (2 - (lg_sl ([.ref a0, .int l1])).length) Slot.unset).toArray = ls at hl ⊢
  have hl : lv_has ls 2 [(0, .ref a0), (1, .int l1)] := hl
  refine lv_iload_n hx hb dX3_heardAt_0 rfl (lv_at hl 1 rfl) ?_
  refine lv_aload_n hx hb dX3_heardAt_1 rfl (lv_at hl 0 rfl) ?_
  refine va_get (D := D) (ci := 3) (v := .int (t 8)) (C := RX3) (T := TX3) (N := 9) hx hb htg inX3 hown hK hP 0 rfl rfl 8 (by decide) (htg _ q_1_152) (fun _ h9 => h9) rfl dX3_heardAt_2 ?_
  refine lv_icmp_ge (tgt := 27) hx hb dX3_heardAt_5 (by decide) (fun c1 => ?_) (fun c1 => ?_)
  · have hm := it_t c1 hm
    exact B_27  _ _ _ hm hP hD hS (lv_sub hl [0] rfl)
  · have hm := it_f c1 hm
    refine lv_iload_n hx hb dX3_heardAt_8 rfl (lv_at hl 1 rfl) ?_
    refine lv_iconst (v := (0 : Int32)) hx hb dX3_heardAt_9 (by decide) ?_
    refine lv_bipush (v := (12 : Int32)) hx hb dX3_heardAt_10 (by decide) ?_
    obtain ⟨o2, ho3, hm⟩ := bd_s hm
    refine xr_i (wr := [(a0, e_X3 a1 t), (a1, eI cA 13 t_heard)]) (wn := [(a0, e_X3 a1 t), (a1, eI cA 13 t_heard)]) (va_runSN (As := [.int l1, .int (0 : Int32), .int (12 : Int32)]) (rest := []) ⟨hx, hb, hml, hown, htg⟩ (c_X5_isWithin l D cA _ fu l1 (0 : Int32) (12 : Int32) o2 ho3) ⟨va_cnB 3 htg (gU q_2_9) rfl rfl rfl (hN _ q_2_150) (htg _ q_1_1) hd_X5_isWithin.2 ⟨Nat.le_of_ble_eq_true rfl, Nat.le_of_ble_eq_true rfl⟩, htg _ q_2_8, trivial⟩ (xpS hN hK hP hD [] rfl (by decide)) rfl rfl hl.1 rfl (lv_room (Nat.le_of_ble_eq_true rfl)) dX3_heardAt_12 ⟨Nat.zero_le _, Nat.zero_le _⟩) hP hD hS hA [] [0, 1] [0, 1] rfl rfl (by decide) (by decide) rfl (by decide) (fun H locs hP hD hS => ?_)
    refine lv_if_eq (tgt := 27) hx hb dX3_heardAt_15 (by decide) (fun c4 => ?_) (fun c4 => ?_)
    · have hm := it_t c4 hm
      exact B_27  _ _ _ hm hP hD hS (lv_sub hl [0] rfl)
    · have hm := it_f c4 hm
      refine lv_aload_n hx hb dX3_heardAt_18 rfl (lv_at hl 0 rfl) ?_
      refine va_get (D := D) (ci := 3) (v := .ref a1) (C := RX3) (T := TX3) (N := 9) hx hb htg inX3 hown hK hP 0 rfl rfl 7 (by decide) (htg _ q_1_151) (fun _ h9 => h9) rfl dX3_heardAt_19 ?_
      refine lv_iload_n hx hb dX3_heardAt_22 rfl (lv_at hl 1 rfl) ?_
      obtain ⟨hi5, hm⟩ := gd_s hm
      refine va_iald hx hb hK hP 1 0 rfl rfl hi5 dX3_heardAt_23 ?_
      refine lv_goto (tgt := 28) hx hb dX3_heardAt_24 (by decide) ?_
      exact B_28 _ _ _ _ hm hP hD hS (lv_sub hl [0] rfl)
def b_X3_total_4 (fu : Nat) (t : Nat → Int32) (t_heard : Nat → Int32) (k_4 : (Int32 × Int32) → Option (Int32 × Unit)) (x : Int32 × Int32) : Option (Int32 × Unit) :=
  (if t 8 ≤ x.2 then
        some (x.1, ())
      else
        (m_X3_heardAt fu t t_heard x.2).bind fun o2 =>
        k_4 ((x.1 + o2.1), (x.2 + (1 : Int32))))
def m_X3_total (fu : Nat) (t : Nat → Int32) (t_heard : Nat → Int32) : Option (Int32 × Unit) :=
  lfix (b_X3_total_4 fu t t_heard) fu ((0 : Int32), (0 : Int32))
abbrev rm_X3_total : Room := ({ frames := 2, cells := 0, slots := 0, locals := 43 } : Room)
abbrev w0_X3_total (cA : Nat → ClassId) (a0 : Nat) (a1 : Nat) (t : Nat → Int32) (t_heard : Nat → Int32) : va_W := [(a0, e_X3 a1 t), (a1, eI cA 13 t_heard)]
abbrev w1_X3_total (cA : Nat → ClassId) (a0 : Nat) (a1 : Nat) (t : Nat → Int32) (t_heard : Nat → Int32) (u : Unit) : va_W := [(a0, e_X3 a1 t), (a1, eI cA 13 t_heard)]
theorem hd_X3_total : yX3_total.cls = RX3 ∧ yX3_total.cls ≠ "java/lang/invoke/MethodHandle" ∧ yX3_total.cls ≠ "java/lang/invoke/VarHandle" ∧ (parseMethodDescriptor yX3_total.desc).map (fun d => d.parameters.length) = some 0 := by decide +kernel
set_option maxHeartbeats 40000000 in
set_option maxRecDepth 100000 in
theorem c_X3_total (l : Launch) (D : va_G) (cA : Nat → ClassId) (sz : Nat) (fu : Nat) (a0 : Nat) (a1 : Nat) (t : Nat → Int32) (t_heard : Nat → Int32) (out : Int32 × Unit) (hm : m_X3_total fu t t_heard = some out) : MI l yX3_total (wU yX3_total cX3_total 3 ((Option.some Jvm.ClassFile.FieldType.int))) rm_X3_total D cA sz [.ref a0] (w0_X3_total cA a0 a1 t t_heard) out (w1_X3_total cA a0 a1 t t_heard) := by
  refine Met.ofW (cc := cX3_total) (maxL := 3) (ret := (Option.some Jvm.ClassFile.FieldType.int)) (by decide) rfl ?_
  intro p e s m args below meth c s₁ B hml hv
  obtain ⟨hargs, hsz, hP, hK, hD0, hN⟩ := hv
  have hx := B.exec
  have hb := B.bytes
  have hr := B.returns
  have htg : ∀ w ∈ gw, w.before args s = true := fun w h => atoms_spec (ws := wU yX3_total cX3_total 3 ((Option.some Jvm.ClassFile.FieldType.int))) B.pre w (List.mem_cons_of_mem _ h)
  have hown : s.vm.findClass RX3 = some m.cls := findClass_of_methodNamed B.named
  have hlocks := B.notSynchronized
  subst hsz
  have hD := hD0.self (sz := s.heap.size)
  have hA : ∀ q : Nat, s.heap.size ≤ q → va_A (w0_X3_total cA a0 a1 t t_heard) s.heap.size q := fun q h => Or.inr h
  have hS : va_S (va_A (w0_X3_total cA a0 a1 t t_heard) s.heap.size) s.heap s.heap [] := va_S.rf
  generalize va_A (w0_X3_total cA a0 a1 t t_heard) s.heap.size = A at hA hD hS ⊢
  obtain ⟨Q, hQ⟩ : ∃ Q : State → Prop, Q = MQ below (va_Qi (fun (r : Int32) (u : Unit) => (r, u) = out) (pst0 D cA A (w1_X3_total cA a0 a1 t t_heard)) A) args s 0 0 A := ⟨_, rfl⟩
  refine (?_ : W p l e rm_X3_total s m args below meth c s.heap [] 0 0 (MQ below (va_Qi (fun (r : Int32) (u : Unit) => (r, u) = out) (pst0 D cA A (w1_X3_total cA a0 a1 t t_heard)) A) args s 0 0 A) (entryFrame m args 3))
  rw [← hQ]
  have hP : va_P D CL [(a0, e_X3 a1 t), (a1, eI cA 13 t_heard)] s.heap := hP
  have hD : va_D A [(a0, e_X3 a1 t), (a1, eI cA 13 t_heard)] := hD
  have B_4 : ∀ (n : Nat) (x : Int32 × Int32) (H : Heap) (locs : List Loc) (ls : Array Slot), lfix (b_X3_total_4 fu t t_heard) n x = some out → va_P D CL [(a0, e_X3 a1 t), (a1, eI cA 13 t_heard)] H → va_D A [(a0, e_X3 a1 t), (a1, eI cA 13 t_heard)] → va_S A s.heap H locs → lv_has ls 3 [(0, .ref a0), (1, .int x.1), (2, .int x.2)] → W p l e rm_X3_total s m args below meth c H locs 0 0 Q (F0 m 4 ls []) := by
    intro  n
    induction n with
    | zero => intro x H locs ls hm; cases (show none = some out from hm)
    | succ n HK_4 =>
      intro x H locs ls hm hP hD hS hl
      replace hm : b_X3_total_4 fu t t_heard (lfix (b_X3_total_4 fu t t_heard) n) x = some out := hm
      unfold b_X3_total_4 at hm
      refine lv_iload_n hx hb dX3_total_4 rfl (lv_at hl 2 rfl) ?_
      refine lv_aload_n hx hb dX3_total_5 rfl (lv_at hl 0 rfl) ?_
      refine va_get (D := D) (ci := 3) (v := .int (t 8)) (C := RX3) (T := TX3) (N := 9) hx hb htg inX3 hown hK hP 0 rfl rfl 8 (by decide) (htg _ q_1_152) (fun _ h9 => h9) rfl dX3_total_6 ?_
      refine lv_icmp_ge (tgt := 26) hx hb dX3_total_9 (by decide) (fun c1 => ?_) (fun c1 => ?_)
      · have hm := it_t c1 hm
        refine lv_iload_n hx hb dX3_total_26 rfl (lv_at hl 1 rfl) ?_
        rw [hQ]
        exact W.iret (v := x.1) hx hb hr (fun t9 ht hW => ⟨⟨x.1, (), rfl, (Option.some.inj hm), by rw [ht]; exact hP, va_K.moved hW.alike hK, hD⟩, hS.F ht⟩) hS.2.2 dX3_total_27
      · have hm := it_f c1 hm
        refine lv_iload_n hx hb dX3_total_12 rfl (lv_at hl 1 rfl) ?_
        refine lv_aload_n hx hb dX3_total_13 rfl (lv_at hl 0 rfl) ?_
        refine lv_iload_n hx hb dX3_total_14 rfl (lv_at hl 2 rfl) ?_
        obtain ⟨o2, ho3, hm⟩ := bd_s hm
        refine xr_i (wr := []) (wn := [(a0, e_X3 a1 t), (a1, eI cA 13 t_heard)]) (va_runV (As := [.int x.2]) (rest := [.int x.1]) ⟨hx, hb, hml, hown, htg⟩ (c_X3_heardAt l D cA _ fu a0 a1 t t_heard x.2 o2 ho3) (cwV 1 htg (gV q_2_159 q_2_161 q_p2_8 q_1_6 q_2_162) rfl rfl rfl hd_X3_heardAt ⟨Nat.le_of_ble_eq_true rfl, Nat.le_of_ble_eq_true rfl⟩) (xpV hN hK hP hD [0, 1] rfl (by decide) rfl rfl) rfl rfl hl.1 rfl (lv_room (Nat.le_of_ble_eq_true rfl)) dX3_total_15 ⟨Nat.zero_le _, Nat.zero_le _⟩) hP hD hS hA [0, 1] [] [0, 1] rfl rfl (by decide) (by decide) rfl (by decide) (fun H locs hP hD hS => ?_)
        refine lv_iadd hx hb dX3_total_18 ?_
        refine lv_istore_n (lv' := [(1, .int (x.1 + o2.1)), (0, .ref a0), (2, .int x.2)]) hx hb dX3_total_19 rfl hl (by decide) rfl (fun ls hl => ?_)
        refine lv_iinc (v := (x.2 + (1 : Int32))) (lv' := [(2, .int (x.2 + (1 : Int32))), (1, .int (x.1 + o2.1)), (0, .ref a0)]) hx hb dX3_total_20 hl (k := 2) rfl rfl (by decide) rfl (fun ls hl => ?_)
        refine lv_goto (tgt := 4) hx hb dX3_total_23 (by decide) ?_
        exact HK_4 _ _ _ _ hm hP hD hS (lv_sub hl [2, 1, 0] rfl)
  unfold m_X3_total at hm
  subst hargs
  have hl := lv_entry ([.ref a0]) (n := 3) (Nat.le_of_ble_eq_true rfl)
  rw [lg_entry_eq]
  generalize (lg_sl ([.ref a0]) ++ List.replicate (3 - (lg_sl ([.ref a0])).length) Slot.unset).toArray = ls at hl ⊢
  have hl : lv_has ls 3 [(0, .ref a0)] := hl
  refine lv_iconst (v := (0 : Int32)) hx hb dX3_total_0 (by decide) ?_
  refine lv_istore_n (lv' := [(1, .int (0 : Int32)), (0, .ref a0)]) hx hb dX3_total_1 rfl hl (by decide) rfl (fun ls hl => ?_)
  refine lv_iconst (v := (0 : Int32)) hx hb dX3_total_2 (by decide) ?_
  refine lv_istore_n (lv' := [(2, .int (0 : Int32)), (1, .int (0 : Int32)), (0, .ref a0)]) hx hb dX3_total_3 rfl hl (by decide) rfl (fun ls hl => ?_)
  exact B_4 fu _ _ _ _ hm hP hD hS (lv_sub hl [2, 1, 0] rfl)
def b_X3_weighs_42 (fu : Nat) (p1 : Nat → Int32) (p1_sounds : Nat → Int32) (s0 : Int32) (t : Nat → Int32) (t_heard : Nat → Int32) : Option (Int32 × ((Nat → Int32) × (Nat → Int32))) :=
  some (s0, (t, t_heard))
def b_X3_weighs_41 (fu : Nat) (p1 : Nat → Int32) (p1_sounds : Nat → Int32) (t : Nat → Int32) (t_heard : Nat → Int32) : Option (Int32 × ((Nat → Int32) × (Nat → Int32))) :=
  b_X3_weighs_42 fu p1 p1_sounds (0 : Int32) t t_heard
def m_X3_weighs (fu : Nat) (t : Nat → Int32) (t_heard : Nat → Int32) (p1 : Nat → Int32) (p1_sounds : Nat → Int32) : Option (Int32 × ((Nat → Int32) × (Nat → Int32))) :=
  (m_X3_hears fu t t_heard p1 p1_sounds).bind fun o1 =>
  (if o1.1 8 = 0 then
    some ((-1 : Int32), (o1.1, o1.2))
  else
    (if o1.1 5 ≤ 0 then
      b_X3_weighs_41 fu p1 p1_sounds o1.1 o1.2
    else
      (m_X3_total fu o1.1 o1.2).bind fun o5 =>
      gd (¬ o1.1 5 = 0) (
      (if (o5.1 - o5.1 / o1.1 5 * o1.1 5) = o1.1 6 then
        b_X3_weighs_42 fu p1 p1_sounds (1 : Int32) o1.1 o1.2
      else
        b_X3_weighs_41 fu p1 p1_sounds o1.1 o1.2))))
abbrev rm_X3_weighs : Room := ({ frames := 4, cells := 0, slots := 0, locals := 88 } : Room)
abbrev w0_X3_weighs (cA : Nat → ClassId) (a0 : Nat) (a1 : Nat) (p1a0 : Nat) (p1a1 : Nat) (t : Nat → Int32) (t_heard : Nat → Int32) (p1 : Nat → Int32) (p1_sounds : Nat → Int32) : va_W := [(a0, e_X3 a1 t), (a1, eI cA 13 t_heard), (p1a0, e_X4 p1a1 p1), (p1a1, eI cA 12 p1_sounds)]
abbrev w1_X3_weighs (cA : Nat → ClassId) (a0 : Nat) (a1 : Nat) (p1a0 : Nat) (p1a1 : Nat) (p1 : Nat → Int32) (p1_sounds : Nat → Int32) (u : (Nat → Int32) × (Nat → Int32)) : va_W := [(a0, e_X3 a1 u.1), (a1, eI cA 13 u.2), (p1a0, e_X4 p1a1 p1), (p1a1, eI cA 12 p1_sounds)]
theorem hd_X3_weighs : yX3_weighs.cls = RX3 ∧ yX3_weighs.cls ≠ "java/lang/invoke/MethodHandle" ∧ yX3_weighs.cls ≠ "java/lang/invoke/VarHandle" ∧ (parseMethodDescriptor yX3_weighs.desc).map (fun d => d.parameters.length) = some 1 := by decide +kernel
set_option maxHeartbeats 40000000 in
set_option maxRecDepth 100000 in
theorem c_X3_weighs (l : Launch) (D : va_G) (cA : Nat → ClassId) (sz : Nat) (fu : Nat) (a0 : Nat) (a1 : Nat) (p1a0 : Nat) (p1a1 : Nat) (t : Nat → Int32) (t_heard : Nat → Int32) (p1 : Nat → Int32) (p1_sounds : Nat → Int32) (out : Int32 × ((Nat → Int32) × (Nat → Int32))) (hm : m_X3_weighs fu t t_heard p1 p1_sounds = some out) : MI l yX3_weighs (wU yX3_weighs cX3_weighs 2 ((Option.some Jvm.ClassFile.FieldType.int))) rm_X3_weighs D cA sz [.ref a0, .ref p1a0] (w0_X3_weighs cA a0 a1 p1a0 p1a1 t t_heard p1 p1_sounds) out (w1_X3_weighs cA a0 a1 p1a0 p1a1 p1 p1_sounds) := by
  refine Met.ofW (cc := cX3_weighs) (maxL := 2) (ret := (Option.some Jvm.ClassFile.FieldType.int)) (by decide) rfl ?_
  intro p e s m args below meth c s₁ B hml hv
  obtain ⟨hargs, hsz, hP, hK, hD0, hN⟩ := hv
  have hx := B.exec
  have hb := B.bytes
  have hr := B.returns
  have htg : ∀ w ∈ gw, w.before args s = true := fun w h => atoms_spec (ws := wU yX3_weighs cX3_weighs 2 ((Option.some Jvm.ClassFile.FieldType.int))) B.pre w (List.mem_cons_of_mem _ h)
  have hown : s.vm.findClass RX3 = some m.cls := findClass_of_methodNamed B.named
  have hlocks := B.notSynchronized
  subst hsz
  have hD := hD0.self (sz := s.heap.size)
  have hA : ∀ q : Nat, s.heap.size ≤ q → va_A (w0_X3_weighs cA a0 a1 p1a0 p1a1 t t_heard p1 p1_sounds) s.heap.size q := fun q h => Or.inr h
  have hS : va_S (va_A (w0_X3_weighs cA a0 a1 p1a0 p1a1 t t_heard p1 p1_sounds) s.heap.size) s.heap s.heap [] := va_S.rf
  generalize va_A (w0_X3_weighs cA a0 a1 p1a0 p1a1 t t_heard p1 p1_sounds) s.heap.size = A at hA hD hS ⊢
  obtain ⟨Q, hQ⟩ : ∃ Q : State → Prop, Q = MQ below (va_Qi (fun (r : Int32) (u : (Nat → Int32) × (Nat → Int32)) => (r, u) = out) (pst0 D cA A (w1_X3_weighs cA a0 a1 p1a0 p1a1 p1 p1_sounds)) A) args s 0 0 A := ⟨_, rfl⟩
  refine (?_ : W p l e rm_X3_weighs s m args below meth c s.heap [] 0 0 (MQ below (va_Qi (fun (r : Int32) (u : (Nat → Int32) × (Nat → Int32)) => (r, u) = out) (pst0 D cA A (w1_X3_weighs cA a0 a1 p1a0 p1a1 p1 p1_sounds)) A) args s 0 0 A) (entryFrame m args 2))
  rw [← hQ]
  have hP : va_P D CL [(a0, e_X3 a1 t), (a1, eI cA 13 t_heard), (p1a0, e_X4 p1a1 p1), (p1a1, eI cA 12 p1_sounds)] s.heap := hP
  have hD : va_D A [(a0, e_X3 a1 t), (a1, eI cA 13 t_heard), (p1a0, e_X4 p1a1 p1), (p1a1, eI cA 12 p1_sounds)] := hD
  have B_42 : ∀ (s0 : Int32) (t : Nat → Int32) (t_heard : Nat → Int32) (H : Heap) (locs : List Loc) (ls : Array Slot), b_X3_weighs_42 fu p1 p1_sounds s0 t t_heard = some out → va_P D CL [(a0, e_X3 a1 t), (a1, eI cA 13 t_heard), (p1a0, e_X4 p1a1 p1), (p1a1, eI cA 12 p1_sounds)] H → va_D A [(a0, e_X3 a1 t), (a1, eI cA 13 t_heard), (p1a0, e_X4 p1a1 p1), (p1a1, eI cA 12 p1_sounds)] → va_S A s.heap H locs → lv_has ls 2 [(0, .ref a0), (1, .ref p1a0)] → W p l e rm_X3_weighs s m args below meth c H locs 0 0 Q (F0 m 42 ls [.int s0]) := by
    intro  s0 t t_heard H locs ls hm hP hD hS hl
    unfold b_X3_weighs_42 at hm
    rw [hQ]
    exact W.iret (v := s0) hx hb hr (fun t9 ht hW => ⟨⟨s0, (t, t_heard), rfl, (Option.some.inj hm), by rw [ht]; exact hP, va_K.moved hW.alike hK, hD⟩, hS.F ht⟩) hS.2.2 dX3_weighs_42
  have B_41 : ∀ (t : Nat → Int32) (t_heard : Nat → Int32) (H : Heap) (locs : List Loc) (ls : Array Slot), b_X3_weighs_41 fu p1 p1_sounds t t_heard = some out → va_P D CL [(a0, e_X3 a1 t), (a1, eI cA 13 t_heard), (p1a0, e_X4 p1a1 p1), (p1a1, eI cA 12 p1_sounds)] H → va_D A [(a0, e_X3 a1 t), (a1, eI cA 13 t_heard), (p1a0, e_X4 p1a1 p1), (p1a1, eI cA 12 p1_sounds)] → va_S A s.heap H locs → lv_has ls 2 [(0, .ref a0), (1, .ref p1a0)] → W p l e rm_X3_weighs s m args below meth c H locs 0 0 Q (F0 m 41 ls []) := by
    intro  t t_heard H locs ls hm hP hD hS hl
    unfold b_X3_weighs_41 at hm
    refine lv_iconst (v := (0 : Int32)) hx hb dX3_weighs_41 (by decide) ?_
    exact B_42 _ _ _ _ _ _ hm hP hD hS (lv_sub hl [0, 1] rfl)
  unfold m_X3_weighs at hm
  subst hargs
  have hl := lv_entry ([.ref a0, .ref p1a0]) (n := 2) (Nat.le_of_ble_eq_true rfl)
  rw [lg_entry_eq]
  generalize (lg_sl ([.ref a0, .ref p1a0]) ++ List.replicate (2 - (lg_sl ([.ref a0, .ref p1a0])).length) Slot.unset).toArray = ls at hl ⊢
  have hl : lv_has ls 2 [(0, .ref a0), (1, .ref p1a0)] := hl
  refine lv_aload_n hx hb dX3_weighs_0 rfl (lv_at hl 0 rfl) ?_
  refine lv_aload_n hx hb dX3_weighs_1 rfl (lv_at hl 1 rfl) ?_
  obtain ⟨o1, ho2, hm⟩ := bd_s hm
  refine xr_v (wr := []) (wn := [(a0, e_X3 a1 o1.1), (a1, eI cA 13 o1.2), (p1a0, e_X4 p1a1 p1), (p1a1, eI cA 12 p1_sounds)]) (va_runV (As := [.ref p1a0]) (rest := []) ⟨hx, hb, hml, hown, htg⟩ (c_X3_hears l D cA _ fu a0 a1 p1a0 p1a1 t t_heard p1 p1_sounds o1 ho2) (cwV 1 htg (gV q_3_119 q_2_131 q_p2_1 q_1_6 q_2_132) rfl rfl rfl hd_X3_hears ⟨Nat.le_of_ble_eq_true rfl, Nat.le_of_ble_eq_true rfl⟩) (xpV hN hK hP hD [0, 1, 2, 3] rfl (by decide) rfl rfl) rfl rfl hl.1 rfl (lv_room (Nat.le_of_ble_eq_true rfl)) dX3_weighs_2 ⟨Nat.zero_le _, Nat.zero_le _⟩) hP hD hS hA [0, 1, 2, 3] [] [0, 1, 2, 3] rfl rfl (by decide) (by decide) rfl (by decide) (fun H locs hP hD hS => ?_)
  refine lv_aload_n hx hb dX3_weighs_5 rfl (lv_at hl 0 rfl) ?_
  refine va_get (D := D) (ci := 3) (v := .int (o1.1 8)) (C := RX3) (T := TX3) (N := 9) hx hb htg inX3 hown hK hP 0 rfl rfl 8 (by decide) (htg _ q_1_152) (fun _ h9 => h9) rfl dX3_weighs_6 ?_
  refine lv_if_ne (tgt := 14) hx hb dX3_weighs_9 (by decide) (fun c3 => ?_) (fun c3 => ?_)
  · have hm := it_f c3 hm
    refine lv_aload_n hx hb dX3_weighs_14 rfl (lv_at hl 0 rfl) ?_
    refine va_get (D := D) (ci := 3) (v := .int (o1.1 5)) (C := RX3) (T := TX3) (N := 9) hx hb htg inX3 hown hK hP 0 rfl rfl 5 (by decide) (htg _ q_1_148) (fun _ h9 => h9) rfl dX3_weighs_15 ?_
    refine lv_if_le (tgt := 41) hx hb dX3_weighs_18 (by decide) (fun c4 => ?_) (fun c4 => ?_)
    · have hm := it_t c4 hm
      exact B_41 _ _ _ _ _ hm hP hD hS (lv_sub hl [0, 1] rfl)
    · have hm := it_f c4 hm
      refine lv_aload_n hx hb dX3_weighs_21 rfl (lv_at hl 0 rfl) ?_
      obtain ⟨o5, ho6, hm⟩ := bd_s hm
      refine xr_i (wr := [(p1a0, e_X4 p1a1 p1), (p1a1, eI cA 12 p1_sounds)]) (wn := [(a0, e_X3 a1 o1.1), (a1, eI cA 13 o1.2), (p1a0, e_X4 p1a1 p1), (p1a1, eI cA 12 p1_sounds)]) (va_runV (As := []) (rest := []) ⟨hx, hb, hml, hown, htg⟩ (c_X3_total l D cA _ fu a0 a1 o1.1 o1.2 o5 ho6) (cwV 0 htg (gV q_3_120 q_2_157 q_p2_7 q_1_6 q_2_158) rfl rfl rfl hd_X3_total ⟨Nat.le_of_ble_eq_true rfl, Nat.le_of_ble_eq_true rfl⟩) (xpV hN hK hP hD [0, 1] rfl (by decide) rfl rfl) rfl rfl hl.1 rfl (lv_room (Nat.le_of_ble_eq_true rfl)) dX3_weighs_22 ⟨Nat.zero_le _, Nat.zero_le _⟩) hP hD hS hA [0, 1] [2, 3] [2, 3, 0, 1] rfl rfl (by decide) (by decide) rfl (by decide) (fun H locs hP hD hS => ?_)
      refine lv_aload_n hx hb dX3_weighs_25 rfl (lv_at hl 0 rfl) ?_
      refine va_get (D := D) (ci := 3) (v := .int (o1.1 5)) (C := RX3) (T := TX3) (N := 9) hx hb htg inX3 hown hK hP 0 rfl rfl 5 (by decide) (htg _ q_1_148) (fun _ h9 => h9) rfl dX3_weighs_26 ?_
      obtain ⟨hz7, hm⟩ := gd_s hm
      refine lv_irem hx hb dX3_weighs_29 hz7 ?_
      refine lv_aload_n hx hb dX3_weighs_30 rfl (lv_at hl 0 rfl) ?_
      refine va_get (D := D) (ci := 3) (v := .int (o1.1 6)) (C := RX3) (T := TX3) (N := 9) hx hb htg inX3 hown hK hP 0 rfl rfl 6 (by decide) (htg _ q_1_150) (fun _ h9 => h9) rfl dX3_weighs_31 ?_
      refine lv_icmp_ne (tgt := 41) hx hb dX3_weighs_34 (by decide) (fun c8 => ?_) (fun c8 => ?_)
      · have hm := it_f c8 hm
        exact B_41 _ _ _ _ _ hm hP hD hS (lv_sub hl [0, 1] rfl)
      · have hm := it_t c8 hm
        refine lv_iconst (v := (1 : Int32)) hx hb dX3_weighs_37 (by decide) ?_
        refine lv_goto (tgt := 42) hx hb dX3_weighs_38 (by decide) ?_
        exact B_42 _ _ _ _ _ _ hm hP hD hS (lv_sub hl [0, 1] rfl)
  · have hm := it_t c3 hm
    refine lv_iconst (v := (-1 : Int32)) hx hb dX3_weighs_12 (by decide) ?_
    rw [hQ]
    exact W.iret (v := (-1 : Int32)) hx hb hr (fun t9 ht hW => ⟨⟨(-1 : Int32), (o1.1, o1.2), rfl, (Option.some.inj hm), by rw [ht]; exact hP, va_K.moved hW.alike hK, hD⟩, hS.F ht⟩) hS.2.2 dX3_weighs_13
def m_X3_passDay (fu : Nat) (t : Nat → Int32) : Option ((Nat → Int32)) :=
  (m_X5_depthBehind fu (t 2) (t 3)).bind fun o1 =>
  (m_X5_dayBehind fu (t 4)).bind fun o3 =>
  some (upd (upd t 2 o1.1) 4 o3.1)
abbrev rm_X3_passDay : Room := ({ frames := 2, cells := 0, slots := 0, locals := 35 } : Room)
abbrev w0_X3_passDay (cA : Nat → ClassId) (a0 : Nat) (a1 : Nat) (t : Nat → Int32) : va_W := [(a0, e_X3 a1 t)]
abbrev w1_X3_passDay (cA : Nat → ClassId) (a0 : Nat) (a1 : Nat) (u : (Nat → Int32)) : va_W := [(a0, e_X3 a1 u)]
theorem hd_X3_passDay : yX3_passDay.cls = RX3 ∧ yX3_passDay.cls ≠ "java/lang/invoke/MethodHandle" ∧ yX3_passDay.cls ≠ "java/lang/invoke/VarHandle" ∧ (parseMethodDescriptor yX3_passDay.desc).map (fun d => d.parameters.length) = some 0 := by decide +kernel
set_option maxHeartbeats 40000000 in
set_option maxRecDepth 100000 in
theorem c_X3_passDay (l : Launch) (D : va_G) (cA : Nat → ClassId) (sz : Nat) (fu : Nat) (a0 : Nat) (a1 : Nat) (t : Nat → Int32) (out : (Nat → Int32)) (hm : m_X3_passDay fu t = some out) : MV l yX3_passDay (wU yX3_passDay cX3_passDay 1 ((Option.none : Option Jvm.ClassFile.FieldType))) rm_X3_passDay D cA sz [.ref a0] (w0_X3_passDay cA a0 a1 t) out (w1_X3_passDay cA a0 a1) := by
  refine Met.ofW (cc := cX3_passDay) (maxL := 1) (ret := (Option.none : Option Jvm.ClassFile.FieldType)) (by decide) rfl ?_
  intro p e s m args below meth c s₁ B hml hv
  obtain ⟨hargs, hsz, hP, hK, hD0, hN⟩ := hv
  have hx := B.exec
  have hb := B.bytes
  have hr := B.returns
  have htg : ∀ w ∈ gw, w.before args s = true := fun w h => atoms_spec (ws := wU yX3_passDay cX3_passDay 1 ((Option.none : Option Jvm.ClassFile.FieldType))) B.pre w (List.mem_cons_of_mem _ h)
  have hown : s.vm.findClass RX3 = some m.cls := findClass_of_methodNamed B.named
  have hlocks := B.notSynchronized
  subst hsz
  have hD := hD0.self (sz := s.heap.size)
  have hA : ∀ q : Nat, s.heap.size ≤ q → va_A (w0_X3_passDay cA a0 a1 t) s.heap.size q := fun q h => Or.inr h
  have hS : va_S (va_A (w0_X3_passDay cA a0 a1 t) s.heap.size) s.heap s.heap [] := va_S.rf
  generalize va_A (w0_X3_passDay cA a0 a1 t) s.heap.size = A at hA hD hS ⊢
  obtain ⟨Q, hQ⟩ : ∃ Q : State → Prop, Q = MQ below (va_Qv (fun (u : (Nat → Int32)) => u = out) (pst0 D cA A (w1_X3_passDay cA a0 a1)) A) args s 0 0 A := ⟨_, rfl⟩
  refine (?_ : W p l e rm_X3_passDay s m args below meth c s.heap [] 0 0 (MQ below (va_Qv (fun (u : (Nat → Int32)) => u = out) (pst0 D cA A (w1_X3_passDay cA a0 a1)) A) args s 0 0 A) (entryFrame m args 1))
  rw [← hQ]
  have hP : va_P D CL [(a0, e_X3 a1 t)] s.heap := hP
  have hD : va_D A [(a0, e_X3 a1 t)] := hD
  unfold m_X3_passDay at hm
  subst hargs
  have hl := lv_entry ([.ref a0]) (n := 1) (Nat.le_of_ble_eq_true rfl)
  rw [lg_entry_eq]
  generalize (lg_sl ([.ref a0]) ++ List.replicate (1 - (lg_sl ([.ref a0])).length) Slot.unset).toArray = ls at hl ⊢
  have hl : lv_has ls 1 [(0, .ref a0)] := hl
  refine lv_aload_n hx hb dX3_passDay_0 rfl (lv_at hl 0 rfl) ?_
  refine lv_aload_n hx hb dX3_passDay_1 rfl (lv_at hl 0 rfl) ?_
  refine va_get (D := D) (ci := 3) (v := .int (t 2)) (C := RX3) (T := TX3) (N := 9) hx hb htg inX3 hown hK hP 0 rfl rfl 2 (by decide) (htg _ q_1_143) (fun _ h9 => h9) rfl dX3_passDay_2 ?_
  refine lv_aload_n hx hb dX3_passDay_5 rfl (lv_at hl 0 rfl) ?_
  refine va_get (D := D) (ci := 3) (v := .int (t 3)) (C := RX3) (T := TX3) (N := 9) hx hb htg inX3 hown hK hP 0 rfl rfl 3 (by decide) (htg _ q_1_145) (fun _ h9 => h9) rfl dX3_passDay_6 ?_
  obtain ⟨o1, ho2, hm⟩ := bd_s hm
  refine xr_i (wr := [(a0, e_X3 a1 t)]) (wn := [(a0, e_X3 a1 t)]) (va_runSN (As := [.int (t 2), .int (t 3)]) (rest := [.ref a0]) ⟨hx, hb, hml, hown, htg⟩ (c_X5_depthBehind l D cA _ fu (t 2) (t 3) o1 ho2) ⟨va_cnB 2 htg (gU q_3_154) rfl rfl rfl (hN _ q_3_152) (htg _ q_1_1) hd_X5_depthBehind.2 ⟨Nat.le_of_ble_eq_true rfl, Nat.le_of_ble_eq_true rfl⟩, htg _ q_3_153, trivial⟩ (xpS hN hK hP hD [] rfl (by decide)) rfl rfl hl.1 rfl (lv_room (Nat.le_of_ble_eq_true rfl)) dX3_passDay_9 ⟨Nat.zero_le _, Nat.zero_le _⟩) hP hD hS hA [] [0] [0] rfl rfl (by decide) (by decide) rfl (by decide) (fun H locs hP hD hS => ?_)
  refine va_put (D := D) (ci := 3) (v := .int o1.1) (ty := .int) (C := RX3) (T := TX3) (N := 9) hx hb htg inX3 tyX3 tyX3_ok nmX3 hown hK hP hD hS 0 rfl rfl 2 (by decide) (htg _ q_1_143) (fun _ h9 => h9) rfl (by decide +kernel) rfl rfl (Nat.le_of_ble_eq_true rfl) dX3_passDay_12 (fun H locs (hP : va_P D CL [(a0, e_X3 a1 (upd t 2 o1.1))] H) (hD : va_D A [(a0, e_X3 a1 (upd t 2 o1.1))]) hS => ?_)
  refine lv_aload_n hx hb dX3_passDay_15 rfl (lv_at hl 0 rfl) ?_
  refine lv_aload_n hx hb dX3_passDay_16 rfl (lv_at hl 0 rfl) ?_
  refine va_get (D := D) (ci := 3) (v := .int (t 4)) (C := RX3) (T := TX3) (N := 9) hx hb htg inX3 hown hK hP 0 rfl rfl 4 (by decide) (htg _ q_1_147) (fun _ h9 => h9) rfl dX3_passDay_17 ?_
  obtain ⟨o3, ho4, hm⟩ := bd_s hm
  refine xr_i (wr := [(a0, e_X3 a1 (upd t 2 o1.1))]) (wn := [(a0, e_X3 a1 (upd t 2 o1.1))]) (va_runSN (As := [.int (t 4)]) (rest := [.ref a0]) ⟨hx, hb, hml, hown, htg⟩ (c_X5_dayBehind l D cA _ fu (t 4) o3 ho4) ⟨va_cnB 1 htg (gU q_3_163) rfl rfl rfl (hN _ q_3_161) (htg _ q_1_1) hd_X5_dayBehind.2 ⟨Nat.le_of_ble_eq_true rfl, Nat.le_of_ble_eq_true rfl⟩, htg _ q_3_162, trivial⟩ (xpS hN hK hP hD [] rfl (by decide)) rfl rfl hl.1 rfl (lv_room (Nat.le_of_ble_eq_true rfl)) dX3_passDay_20 ⟨Nat.zero_le _, Nat.zero_le _⟩) hP hD hS hA [] [0] [0] rfl rfl (by decide) (by decide) rfl (by decide) (fun H locs hP hD hS => ?_)
  refine va_put (D := D) (ci := 3) (v := .int o3.1) (ty := .int) (C := RX3) (T := TX3) (N := 9) hx hb htg inX3 tyX3 tyX3_ok nmX3 hown hK hP hD hS 0 rfl rfl 4 (by decide) (htg _ q_1_147) (fun _ h9 => h9) rfl (by decide +kernel) rfl rfl (Nat.le_of_ble_eq_true rfl) dX3_passDay_23 (fun H locs (hP : va_P D CL [(a0, e_X3 a1 (upd (upd t 2 o1.1) 4 o3.1))] H) (hD : va_D A [(a0, e_X3 a1 (upd (upd t 2 o1.1) 4 o3.1))]) hS => ?_)
  rw [hQ]
  exact W.vret hx hb hr (fun t9 ht hW => ⟨⟨(upd (upd t 2 o1.1) 4 o3.1), rfl, (Option.some.inj hm), by rw [ht]; exact hP, va_K.moved hW.alike hK, hD⟩, hS.F ht⟩) hS.2.2 dX3_passDay_26
def b_X3_passDays_2 (fu : Nat) (k_2 : (Int32 × Int32 × (Nat → Int32)) → Option ((Nat → Int32))) (x : Int32 × Int32 × (Nat → Int32)) : Option ((Nat → Int32)) :=
  (if x.1 ≤ x.2.1 then
        some x.2.2
      else
        (m_X3_passDay fu x.2.2).bind fun o2 =>
        k_2 (x.1, (x.2.1 + (1 : Int32)), o2))
def m_X3_passDays (fu : Nat) (t : Nat → Int32) (l1 : Int32) : Option ((Nat → Int32)) :=
  lfix (b_X3_passDays_2 fu) fu (l1, (0 : Int32), t)
abbrev rm_X3_passDays : Room := ({ frames := 3, cells := 0, slots := 0, locals := 55 } : Room)
abbrev w0_X3_passDays (cA : Nat → ClassId) (a0 : Nat) (a1 : Nat) (t : Nat → Int32) : va_W := [(a0, e_X3 a1 t)]
abbrev w1_X3_passDays (cA : Nat → ClassId) (a0 : Nat) (a1 : Nat) (u : (Nat → Int32)) : va_W := [(a0, e_X3 a1 u)]
theorem hd_X3_passDays : yX3_passDays.cls = RX3 ∧ yX3_passDays.cls ≠ "java/lang/invoke/MethodHandle" ∧ yX3_passDays.cls ≠ "java/lang/invoke/VarHandle" ∧ (parseMethodDescriptor yX3_passDays.desc).map (fun d => d.parameters.length) = some 1 := by decide +kernel
set_option maxHeartbeats 40000000 in
set_option maxRecDepth 100000 in
theorem c_X3_passDays (l : Launch) (D : va_G) (cA : Nat → ClassId) (sz : Nat) (fu : Nat) (a0 : Nat) (a1 : Nat) (t : Nat → Int32) (l1 : Int32) (out : (Nat → Int32)) (hm : m_X3_passDays fu t l1 = some out) : MV l yX3_passDays (wU yX3_passDays cX3_passDays 3 ((Option.none : Option Jvm.ClassFile.FieldType))) rm_X3_passDays D cA sz [.ref a0, .int l1] (w0_X3_passDays cA a0 a1 t) out (w1_X3_passDays cA a0 a1) := by
  refine Met.ofW (cc := cX3_passDays) (maxL := 3) (ret := (Option.none : Option Jvm.ClassFile.FieldType)) (by decide) rfl ?_
  intro p e s m args below meth c s₁ B hml hv
  obtain ⟨hargs, hsz, hP, hK, hD0, hN⟩ := hv
  have hx := B.exec
  have hb := B.bytes
  have hr := B.returns
  have htg : ∀ w ∈ gw, w.before args s = true := fun w h => atoms_spec (ws := wU yX3_passDays cX3_passDays 3 ((Option.none : Option Jvm.ClassFile.FieldType))) B.pre w (List.mem_cons_of_mem _ h)
  have hown : s.vm.findClass RX3 = some m.cls := findClass_of_methodNamed B.named
  have hlocks := B.notSynchronized
  subst hsz
  have hD := hD0.self (sz := s.heap.size)
  have hA : ∀ q : Nat, s.heap.size ≤ q → va_A (w0_X3_passDays cA a0 a1 t) s.heap.size q := fun q h => Or.inr h
  have hS : va_S (va_A (w0_X3_passDays cA a0 a1 t) s.heap.size) s.heap s.heap [] := va_S.rf
  generalize va_A (w0_X3_passDays cA a0 a1 t) s.heap.size = A at hA hD hS ⊢
  obtain ⟨Q, hQ⟩ : ∃ Q : State → Prop, Q = MQ below (va_Qv (fun (u : (Nat → Int32)) => u = out) (pst0 D cA A (w1_X3_passDays cA a0 a1)) A) args s 0 0 A := ⟨_, rfl⟩
  refine (?_ : W p l e rm_X3_passDays s m args below meth c s.heap [] 0 0 (MQ below (va_Qv (fun (u : (Nat → Int32)) => u = out) (pst0 D cA A (w1_X3_passDays cA a0 a1)) A) args s 0 0 A) (entryFrame m args 3))
  rw [← hQ]
  have hP : va_P D CL [(a0, e_X3 a1 t)] s.heap := hP
  have hD : va_D A [(a0, e_X3 a1 t)] := hD
  have B_2 : ∀ (n : Nat) (x : Int32 × Int32 × (Nat → Int32)) (H : Heap) (locs : List Loc) (ls : Array Slot), lfix (b_X3_passDays_2 fu) n x = some out → va_P D CL [(a0, e_X3 a1 x.2.2)] H → va_D A [(a0, e_X3 a1 x.2.2)] → va_S A s.heap H locs → lv_has ls 3 [(0, .ref a0), (1, .int x.1), (2, .int x.2.1)] → W p l e rm_X3_passDays s m args below meth c H locs 0 0 Q (F0 m 2 ls []) := by
    intro  n
    induction n with
    | zero => intro x H locs ls hm; cases (show none = some out from hm)
    | succ n HK_2 =>
      intro x H locs ls hm hP hD hS hl
      replace hm : b_X3_passDays_2 fu (lfix (b_X3_passDays_2 fu) n) x = some out := hm
      unfold b_X3_passDays_2 at hm
      refine lv_iload_n hx hb dX3_passDays_2 rfl (lv_at hl 2 rfl) ?_
      refine lv_iload_n hx hb dX3_passDays_3 rfl (lv_at hl 1 rfl) ?_
      refine lv_icmp_ge (tgt := 17) hx hb dX3_passDays_4 (by decide) (fun c1 => ?_) (fun c1 => ?_)
      · have hm := it_t c1 hm
        rw [hQ]
        exact W.vret hx hb hr (fun t9 ht hW => ⟨⟨x.2.2, rfl, (Option.some.inj hm), by rw [ht]; exact hP, va_K.moved hW.alike hK, hD⟩, hS.F ht⟩) hS.2.2 dX3_passDays_17
      · have hm := it_f c1 hm
        refine lv_aload_n hx hb dX3_passDays_7 rfl (lv_at hl 0 rfl) ?_
        obtain ⟨o2, ho3, hm⟩ := bd_s hm
        refine xr_v (wr := []) (wn := [(a0, e_X3 a1 o2)]) (va_runV (As := []) (rest := []) ⟨hx, hb, hml, hown, htg⟩ (c_X3_passDay l D cA _ fu a0 a1 x.2.2 o2 ho3) (cwV 0 htg (gV q_3_215 q_3_150 q_p3_14 q_1_6 q_3_151) rfl rfl rfl hd_X3_passDay ⟨Nat.le_of_ble_eq_true rfl, Nat.le_of_ble_eq_true rfl⟩) (xpV hN hK hP hD [0] rfl (by decide) rfl rfl) rfl rfl hl.1 rfl (lv_room (Nat.le_of_ble_eq_true rfl)) dX3_passDays_8 ⟨Nat.zero_le _, Nat.zero_le _⟩) hP hD hS hA [0] [] [0] rfl rfl (by decide) (by decide) rfl (by decide) (fun H locs hP hD hS => ?_)
        refine lv_iinc (v := (x.2.1 + (1 : Int32))) (lv' := [(2, .int (x.2.1 + (1 : Int32))), (0, .ref a0), (1, .int x.1)]) hx hb dX3_passDays_11 hl (k := 2) rfl rfl (by decide) rfl (fun ls hl => ?_)
        refine lv_goto (tgt := 2) hx hb dX3_passDays_14 (by decide) ?_
        exact HK_2 _ _ _ _ hm hP hD hS (lv_sub hl [1, 2, 0] rfl)
  unfold m_X3_passDays at hm
  subst hargs
  have hl := lv_entry ([.ref a0, .int l1]) (n := 3) (Nat.le_of_ble_eq_true rfl)
  rw [lg_entry_eq]
  generalize (lg_sl ([.ref a0, .int l1]) ++ List.replicate (3 - (lg_sl ([.ref a0, .int l1])).length) Slot.unset).toArray = ls at hl ⊢
  have hl : lv_has ls 3 [(0, .ref a0), (1, .int l1)] := hl
  refine lv_iconst (v := (0 : Int32)) hx hb dX3_passDays_0 (by decide) ?_
  refine lv_istore_n (lv' := [(2, .int (0 : Int32)), (0, .ref a0), (1, .int l1)]) hx hb dX3_passDays_1 rfl hl (by decide) rfl (fun ls hl => ?_)
  exact B_2 fu _ _ _ _ hm hP hD hS (lv_sub hl [1, 2, 0] rfl)
def b_X3_heardSameAs_15 (fu : Nat) (t : Nat → Int32) (t_heard : Nat → Int32) (p1 : Nat → Int32) (p1_heard : Nat → Int32) (k_15 : Int32 → Option (Int32 × Unit)) (x : Int32) : Option (Int32 × Unit) :=
  (if t 8 ≤ x then
        some ((1 : Int32), ())
      else
        (m_X3_heardAt fu t t_heard x).bind fun o2 =>
        (m_X3_heardAt fu p1 p1_heard x).bind fun o4 =>
        (if o2.1 = o4.1 then
          k_15 (x + (1 : Int32))
        else
          some ((0 : Int32), ())))
def m_X3_heardSameAs (fu : Nat) (t : Nat → Int32) (t_heard : Nat → Int32) (p1 : Nat → Int32) (p1_heard : Nat → Int32) : Option (Int32 × Unit) :=
  (if t 8 = p1 8 then
    lfix (b_X3_heardSameAs_15 fu t t_heard p1 p1_heard) fu (0 : Int32)
  else
    some ((0 : Int32), ()))
abbrev rm_X3_heardSameAs : Room := ({ frames := 2, cells := 0, slots := 0, locals := 43 } : Room)
abbrev w0_X3_heardSameAs (cA : Nat → ClassId) (a0 : Nat) (a1 : Nat) (p1a0 : Nat) (p1a1 : Nat) (t : Nat → Int32) (t_heard : Nat → Int32) (p1 : Nat → Int32) (p1_heard : Nat → Int32) : va_W := [(a0, e_X3 a1 t), (a1, eI cA 13 t_heard), (p1a0, e_X3 p1a1 p1), (p1a1, eI cA 13 p1_heard)]
abbrev w1_X3_heardSameAs (cA : Nat → ClassId) (a0 : Nat) (a1 : Nat) (p1a0 : Nat) (p1a1 : Nat) (t : Nat → Int32) (t_heard : Nat → Int32) (p1 : Nat → Int32) (p1_heard : Nat → Int32) (u : Unit) : va_W := [(a0, e_X3 a1 t), (a1, eI cA 13 t_heard), (p1a0, e_X3 p1a1 p1), (p1a1, eI cA 13 p1_heard)]
theorem hd_X3_heardSameAs : yX3_heardSameAs.cls = RX3 ∧ yX3_heardSameAs.cls ≠ "java/lang/invoke/MethodHandle" ∧ yX3_heardSameAs.cls ≠ "java/lang/invoke/VarHandle" ∧ (parseMethodDescriptor yX3_heardSameAs.desc).map (fun d => d.parameters.length) = some 1 := by decide +kernel
set_option maxHeartbeats 40000000 in
set_option maxRecDepth 100000 in
theorem c_X3_heardSameAs (l : Launch) (D : va_G) (cA : Nat → ClassId) (sz : Nat) (fu : Nat) (a0 : Nat) (a1 : Nat) (p1a0 : Nat) (p1a1 : Nat) (t : Nat → Int32) (t_heard : Nat → Int32) (p1 : Nat → Int32) (p1_heard : Nat → Int32) (out : Int32 × Unit) (hm : m_X3_heardSameAs fu t t_heard p1 p1_heard = some out) : MI l yX3_heardSameAs (wU yX3_heardSameAs cX3_heardSameAs 3 ((Option.some Jvm.ClassFile.FieldType.boolean))) rm_X3_heardSameAs D cA sz [.ref a0, .ref p1a0] (w0_X3_heardSameAs cA a0 a1 p1a0 p1a1 t t_heard p1 p1_heard) out (w1_X3_heardSameAs cA a0 a1 p1a0 p1a1 t t_heard p1 p1_heard) := by
  refine Met.ofW (cc := cX3_heardSameAs) (maxL := 3) (ret := (Option.some Jvm.ClassFile.FieldType.boolean)) (by decide) rfl ?_
  intro p e s m args below meth c s₁ B hml hv
  obtain ⟨hargs, hsz, hP, hK, hD0, hN⟩ := hv
  have hx := B.exec
  have hb := B.bytes
  have hr := B.returns
  have htg : ∀ w ∈ gw, w.before args s = true := fun w h => atoms_spec (ws := wU yX3_heardSameAs cX3_heardSameAs 3 ((Option.some Jvm.ClassFile.FieldType.boolean))) B.pre w (List.mem_cons_of_mem _ h)
  have hown : s.vm.findClass RX3 = some m.cls := findClass_of_methodNamed B.named
  have hlocks := B.notSynchronized
  subst hsz
  have hD := hD0.self (sz := s.heap.size)
  have hA : ∀ q : Nat, s.heap.size ≤ q → va_A (w0_X3_heardSameAs cA a0 a1 p1a0 p1a1 t t_heard p1 p1_heard) s.heap.size q := fun q h => Or.inr h
  have hS : va_S (va_A (w0_X3_heardSameAs cA a0 a1 p1a0 p1a1 t t_heard p1 p1_heard) s.heap.size) s.heap s.heap [] := va_S.rf
  generalize va_A (w0_X3_heardSameAs cA a0 a1 p1a0 p1a1 t t_heard p1 p1_heard) s.heap.size = A at hA hD hS ⊢
  obtain ⟨Q, hQ⟩ : ∃ Q : State → Prop, Q = MQ below (va_Qi (fun (r : Int32) (u : Unit) => (r, u) = out) (pst0 D cA A (w1_X3_heardSameAs cA a0 a1 p1a0 p1a1 t t_heard p1 p1_heard)) A) args s 0 0 A := ⟨_, rfl⟩
  refine (?_ : W p l e rm_X3_heardSameAs s m args below meth c s.heap [] 0 0 (MQ below (va_Qi (fun (r : Int32) (u : Unit) => (r, u) = out) (pst0 D cA A (w1_X3_heardSameAs cA a0 a1 p1a0 p1a1 t t_heard p1 p1_heard)) A) args s 0 0 A) (entryFrame m args 3))
  rw [← hQ]
  have hP : va_P D CL [(a0, e_X3 a1 t), (a1, eI cA 13 t_heard), (p1a0, e_X3 p1a1 p1), (p1a1, eI cA 13 p1_heard)] s.heap := hP
  have hD : va_D A [(a0, e_X3 a1 t), (a1, eI cA 13 t_heard), (p1a0, e_X3 p1a1 p1), (p1a1, eI cA 13 p1_heard)] := hD
  have B_15 : ∀ (n : Nat) (x : Int32) (H : Heap) (locs : List Loc) (ls : Array Slot), lfix (b_X3_heardSameAs_15 fu t t_heard p1 p1_heard) n x = some out → va_P D CL [(a0, e_X3 a1 t), (a1, eI cA 13 t_heard), (p1a0, e_X3 p1a1 p1), (p1a1, eI cA 13 p1_heard)] H → va_D A [(a0, e_X3 a1 t), (a1, eI cA 13 t_heard), (p1a0, e_X3 p1a1 p1), (p1a1, eI cA 13 p1_heard)] → va_S A s.heap H locs → lv_has ls 3 [(0, .ref a0), (1, .ref p1a0), (2, .int x)] → W p l e rm_X3_heardSameAs s m args below meth c H locs 0 0 Q (F0 m 15 ls []) := by
    intro  n
    induction n with
    | zero => intro x H locs ls hm; cases (show none = some out from hm)
    | succ n HK_15 =>
      intro x H locs ls hm hP hD hS hl
      replace hm : b_X3_heardSameAs_15 fu t t_heard p1 p1_heard (lfix (b_X3_heardSameAs_15 fu t t_heard p1 p1_heard) n) x = some out := hm
      unfold b_X3_heardSameAs_15 at hm
      refine lv_iload_n hx hb dX3_heardSameAs_15 rfl (lv_at hl 2 rfl) ?_
      refine lv_aload_n hx hb dX3_heardSameAs_16 rfl (lv_at hl 0 rfl) ?_
      refine va_get (D := D) (ci := 3) (v := .int (t 8)) (C := RX3) (T := TX3) (N := 9) hx hb htg inX3 hown hK hP 0 rfl rfl 8 (by decide) (htg _ q_1_152) (fun _ h9 => h9) rfl dX3_heardSameAs_17 ?_
      refine lv_icmp_ge (tgt := 44) hx hb dX3_heardSameAs_20 (by decide) (fun c1 => ?_) (fun c1 => ?_)
      · have hm := it_t c1 hm
        refine lv_iconst (v := (1 : Int32)) hx hb dX3_heardSameAs_44 (by decide) ?_
        rw [hQ]
        exact W.zret (v := (1 : Int32)) hx hb hr rfl (fun t9 ht hW => ⟨⟨(1 : Int32), (), rfl, (Option.some.inj hm), by rw [ht]; exact hP, va_K.moved hW.alike hK, hD⟩, hS.F ht⟩) hS.2.2 dX3_heardSameAs_45
      · have hm := it_f c1 hm
        refine lv_aload_n hx hb dX3_heardSameAs_23 rfl (lv_at hl 0 rfl) ?_
        refine lv_iload_n hx hb dX3_heardSameAs_24 rfl (lv_at hl 2 rfl) ?_
        obtain ⟨o2, ho3, hm⟩ := bd_s hm
        refine xr_i (wr := [(p1a0, e_X3 p1a1 p1), (p1a1, eI cA 13 p1_heard)]) (wn := [(a0, e_X3 a1 t), (a1, eI cA 13 t_heard), (p1a0, e_X3 p1a1 p1), (p1a1, eI cA 13 p1_heard)]) (va_runV (As := [.int x]) (rest := []) ⟨hx, hb, hml, hown, htg⟩ (c_X3_heardAt l D cA _ fu a0 a1 t t_heard x o2 ho3) (cwV 1 htg (gV q_2_159 q_2_161 q_p2_8 q_1_6 q_2_162) rfl rfl rfl hd_X3_heardAt ⟨Nat.le_of_ble_eq_true rfl, Nat.le_of_ble_eq_true rfl⟩) (xpV hN hK hP hD [0, 1] rfl (by decide) rfl rfl) rfl rfl hl.1 rfl (lv_room (Nat.le_of_ble_eq_true rfl)) dX3_heardSameAs_25 ⟨Nat.zero_le _, Nat.zero_le _⟩) hP hD hS hA [0, 1] [2, 3] [2, 3, 0, 1] rfl rfl (by decide) (by decide) rfl (by decide) (fun H locs hP hD hS => ?_)
        refine lv_aload_n hx hb dX3_heardSameAs_28 rfl (lv_at hl 1 rfl) ?_
        refine lv_iload_n hx hb dX3_heardSameAs_29 rfl (lv_at hl 2 rfl) ?_
        obtain ⟨o4, ho5, hm⟩ := bd_s hm
        refine xr_i (wr := [(a0, e_X3 a1 t), (a1, eI cA 13 t_heard)]) (wn := [(a0, e_X3 a1 t), (a1, eI cA 13 t_heard), (p1a0, e_X3 p1a1 p1), (p1a1, eI cA 13 p1_heard)]) (va_runV (As := [.int x]) (rest := [.int o2.1]) ⟨hx, hb, hml, hown, htg⟩ (c_X3_heardAt l D cA _ fu p1a0 p1a1 p1 p1_heard x o4 ho5) (cwV 1 htg (gV q_2_159 q_2_161 q_p2_8 q_1_6 q_2_162) rfl rfl rfl hd_X3_heardAt ⟨Nat.le_of_ble_eq_true rfl, Nat.le_of_ble_eq_true rfl⟩) (xpV hN hK hP hD [2, 3] rfl (by decide) rfl rfl) rfl rfl hl.1 rfl (lv_room (Nat.le_of_ble_eq_true rfl)) dX3_heardSameAs_30 ⟨Nat.zero_le _, Nat.zero_le _⟩) hP hD hS hA [2, 3] [0, 1] [0, 1, 2, 3] rfl rfl (by decide) (by decide) rfl (by decide) (fun H locs hP hD hS => ?_)
        refine lv_icmp_eq (tgt := 38) hx hb dX3_heardSameAs_33 (by decide) (fun c6 => ?_) (fun c6 => ?_)
        · have hm := it_t c6 hm
          refine lv_iinc (v := (x + (1 : Int32))) (lv' := [(2, .int (x + (1 : Int32))), (0, .ref a0), (1, .ref p1a0)]) hx hb dX3_heardSameAs_38 hl (k := 2) rfl rfl (by decide) rfl (fun ls hl => ?_)
          refine lv_goto (tgt := 15) hx hb dX3_heardSameAs_41 (by decide) ?_
          exact HK_15 _ _ _ _ hm hP hD hS (lv_sub hl [1, 2, 0] rfl)
        · have hm := it_f c6 hm
          refine lv_iconst (v := (0 : Int32)) hx hb dX3_heardSameAs_36 (by decide) ?_
          rw [hQ]
          exact W.zret (v := (0 : Int32)) hx hb hr rfl (fun t9 ht hW => ⟨⟨(0 : Int32), (), rfl, (Option.some.inj hm), by rw [ht]; exact hP, va_K.moved hW.alike hK, hD⟩, hS.F ht⟩) hS.2.2 dX3_heardSameAs_37
  unfold m_X3_heardSameAs at hm
  subst hargs
  have hl := lv_entry ([.ref a0, .ref p1a0]) (n := 3) (Nat.le_of_ble_eq_true rfl)
  rw [lg_entry_eq]
  generalize (lg_sl ([.ref a0, .ref p1a0]) ++ List.replicate (3 - (lg_sl ([.ref a0, .ref p1a0])).length) Slot.unset).toArray = ls at hl ⊢
  have hl : lv_has ls 3 [(0, .ref a0), (1, .ref p1a0)] := hl
  refine lv_aload_n hx hb dX3_heardSameAs_0 rfl (lv_at hl 0 rfl) ?_
  refine va_get (D := D) (ci := 3) (v := .int (t 8)) (C := RX3) (T := TX3) (N := 9) hx hb htg inX3 hown hK hP 0 rfl rfl 8 (by decide) (htg _ q_1_152) (fun _ h9 => h9) rfl dX3_heardSameAs_1 ?_
  refine lv_aload_n hx hb dX3_heardSameAs_4 rfl (lv_at hl 1 rfl) ?_
  refine va_get (D := D) (ci := 3) (v := .int (p1 8)) (C := RX3) (T := TX3) (N := 9) hx hb htg inX3 hown hK hP 2 rfl rfl 8 (by decide) (htg _ q_1_152) (fun _ h9 => h9) rfl dX3_heardSameAs_5 ?_
  refine lv_icmp_eq (tgt := 13) hx hb dX3_heardSameAs_8 (by decide) (fun c7 => ?_) (fun c7 => ?_)
  · have hm := it_t c7 hm
    refine lv_iconst (v := (0 : Int32)) hx hb dX3_heardSameAs_13 (by decide) ?_
    refine lv_istore_n (lv' := [(2, .int (0 : Int32)), (0, .ref a0), (1, .ref p1a0)]) hx hb dX3_heardSameAs_14 rfl hl (by decide) rfl (fun ls hl => ?_)
    exact B_15 fu _ _ _ _ hm hP hD hS (lv_sub hl [1, 2, 0] rfl)
  · have hm := it_f c7 hm
    refine lv_iconst (v := (0 : Int32)) hx hb dX3_heardSameAs_11 (by decide) ?_
    rw [hQ]
    exact W.zret (v := (0 : Int32)) hx hb hr rfl (fun t9 ht hW => ⟨⟨(0 : Int32), (), rfl, (Option.some.inj hm), by rw [ht]; exact hP, va_K.moved hW.alike hK, hD⟩, hS.F ht⟩) hS.2.2 dX3_heardSameAs_12
