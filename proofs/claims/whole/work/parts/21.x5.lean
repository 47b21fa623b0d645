def b_X5_pitch_18 (fu : Nat) (t : Nat → Int32) (t_now : Nat → Int32) (t_now_pitches : Nat → Int32) (t_refusals : Nat → Int32) : Option (Int32 × ((Nat → Int32) × (Nat → Int32))) :=
  (m_X5_refuse fu t t_refusals (-2 : Int32)).bind fun o1 =>
    some (o1.1, (t_now_pitches, o1.2))
def m_X5_pitch (fu : Nat) (t : Nat → Int32) (t_now : Nat → Int32) (t_now_pitches : Nat → Int32) (t_refusals : Nat → Int32) (l1 : Int32) (l2 : Int32) : Option (Int32 × ((Nat → Int32) × (Nat → Int32))) :=
  (m_X5_isVoice fu t t_now l1).bind fun o3 =>
  (if o3.1 = 0 then
    b_X5_pitch_18 fu t t_now t_now_pitches t_refusals
  else
    (m_X5_isWithin fu l2 (0 : Int32) (20 : Int32)).bind fun o6 =>
    (if o6.1 = 0 then
      b_X5_pitch_18 fu t t_now t_now_pitches t_refusals
    else
      (m_X1_pitchOf fu t_now t_now_pitches l1).bind fun o9 =>
      (m_X1_putPitch fu t_now t_now_pitches l1 l2).bind fun o11 =>
      some (o9.1, (o11, t_refusals))))
abbrev rm_X5_pitch : Room := ({ frames := 2, cells := 0, slots := 0, locals := 44 } : Room)
abbrev w0_X5_pitch (cA : Nat → ClassId) (ad : Nat → Nat) (t : Nat → Int32) (t_now : Nat → Int32) (t_now_pitches : Nat → Int32) (t_refusals : Nat → Int32) : va_W := [((ad 0), e_X5 ad t), ((ad 1), e_X1 (ad 2) (ad 3) (ad 4) t_now), ((ad 4), eI cA 8 t_now_pitches), ((ad 19), eI cA 5 t_refusals)]
abbrev w1_X5_pitch (cA : Nat → ClassId) (ad : Nat → Nat) (t : Nat → Int32) (t_now : Nat → Int32) (u : (Nat → Int32) × (Nat → Int32)) : va_W := [((ad 0), e_X5 ad t), ((ad 1), e_X1 (ad 2) (ad 3) (ad 4) t_now), ((ad 4), eI cA 8 u.1), ((ad 19), eI cA 5 u.2)]
theorem hd_X5_pitch : yX5_pitch.cls = RX5 ∧ yX5_pitch.cls ≠ "java/lang/invoke/MethodHandle" ∧ yX5_pitch.cls ≠ "java/lang/invoke/VarHandle" ∧ (parseMethodDescriptor yX5_pitch.desc).map (fun d => d.parameters.length) = some 2 := by decide +kernel
set_option maxHeartbeats 40000000 in
set_option maxRecDepth 100000 in
theorem c_X5_pitch (l : Launch) (D : va_G) (cA : Nat → ClassId) (sz : Nat) (fu : Nat) (ad : Nat → Nat) (t : Nat → Int32) (t_now : Nat → Int32) (t_now_pitches : Nat → Int32) (t_refusals : Nat → Int32) (l1 : Int32) (l2 : Int32) (out : Int32 × ((Nat → Int32) × (Nat → Int32))) (hm : m_X5_pitch fu t t_now t_now_pitches t_refusals l1 l2 = some out) : MI l yX5_pitch (wU yX5_pitch cX5_pitch 4 ((Option.some Jvm.ClassFile.FieldType.int))) rm_X5_pitch D cA sz [.ref (ad 0), .int l1, .int l2] (w0_X5_pitch cA ad t t_now t_now_pitches t_refusals) out (w1_X5_pitch cA ad t t_now) := by
  refine Met.ofW (cc := cX5_pitch) (maxL := 4) (ret := (Option.some Jvm.ClassFile.FieldType.int)) (by decide) rfl ?_
  intro p e s m args below meth c s₁ B hml hv
  obtain ⟨hargs, hsz, hP, hK, hD0, hN⟩ := hv
  have hx := B.exec
  have hb := B.bytes
  have hr := B.returns
  have htg : ∀ w ∈ gw, w.before args s = true := fun w h => atoms_spec (ws := wU yX5_pitch cX5_pitch 4 ((Option.some Jvm.ClassFile.FieldType.int))) B.pre w (List.mem_cons_of_mem _ h)
  have hown : s.vm.findClass RX5 = some m.cls := findClass_of_methodNamed B.named
  have hlocks := B.notSynchronized
  subst hsz
  have hD := hD0.self (sz := s.heap.size)
  have hA : ∀ q : Nat, s.heap.size ≤ q → va_A (w0_X5_pitch cA ad t t_now t_now_pitches t_refusals) s.heap.size q := fun q h => Or.inr h
  have hS : va_S (va_A (w0_X5_pitch cA ad t t_now t_now_pitches t_refusals) s.heap.size) s.heap s.heap [] := va_S.rf
  generalize va_A (w0_X5_pitch cA ad t t_now t_now_pitches t_refusals) s.heap.size = A at hA hD hS ⊢
  obtain ⟨Q, hQ⟩ : ∃ Q : State → Prop, Q = MQ below (va_Qi (fun (r : Int32) (u : (Nat → Int32) × (Nat → Int32)) => (r, u) = out) (pst0 D cA A (w1_X5_pitch cA ad t t_now)) A) args s 0 0 A := ⟨_, rfl⟩
  refine (?_ : W p l e rm_X5_pitch s m args below meth c s.heap [] 0 0 (MQ below (va_Qi (fun (r : Int32) (u : (Nat → Int32) × (Nat → Int32)) => (r, u) = out) (pst0 D cA A (w1_X5_pitch cA ad t t_now)) A) args s 0 0 A) (entryFrame m args 4))
  rw [← hQ]
  have hP : va_P D CL [((ad 0), e_X5 ad t), ((ad 1), e_X1 (ad 2) (ad 3) (ad 4) t_now), ((ad 4), eI cA 8 t_now_pitches), ((ad 19), eI cA 5 t_refusals)] s.heap := hP
  have hD : va_D A [((ad 0), e_X5 ad t), ((ad 1), e_X1 (ad 2) (ad 3) (ad 4) t_now), ((ad 4), eI cA 8 t_now_pitches), ((ad 19), eI cA 5 t_refusals)] := hD
  have B_18 : ∀ (t_now_pitches : Nat → Int32) (t_refusals : Nat → Int32) (H : Heap) (locs : List Loc) (ls : Array Slot), b_X5_pitch_18 fu t t_now t_now_pitches t_refusals = some out → va_P D CL [((ad 0), e_X5 ad t), ((ad 1), e_X1 (ad 2) (ad 3) (ad 4) t_now), ((ad 4), eI cA 8 t_now_pitches), ((ad 19), eI cA 5 t_refusals)] H → va_D A [((ad 0), e_X5 ad t), ((ad 1), e_X1 (ad 2) (ad 3) (ad 4) t_now), ((ad 4), eI cA 8 t_now_pitches), ((ad 19), eI cA 5 t_refusals)] → va_S A s.heap H locs → lv_has ls 4 [(0, .ref (ad 0))] → W p l e rm_X5_pitch s m args below meth c H locs 0 0 Q (F0 m 18 ls []) := by
    intro  t_now_pitches t_refusals H locs ls hm hP hD hS hl
    unfold b_X5_pitch_18 at hm
    refine lv_aload_n hx hb dX5_pitch_18 rfl (lv_at hl 0 rfl) ?_
    refine lv_bipush (v := (-2 : Int32)) hx hb dX5_pitch_19 (by decide) ?_
    obtain ⟨o1, ho2, hm⟩ := bd_s hm
    refine xr_i (wr := [((ad 1), e_X1 (ad 2) (ad 3) (ad 4) t_now), ((ad 4), eI cA 8 t_now_pitches)]) (wn := [((ad 0), e_X5 ad t), ((ad 1), e_X1 (ad 2) (ad 3) (ad 4) t_now), ((ad 4), eI cA 8 t_now_pitches), ((ad 19), eI cA 5 o1.2)]) (va_runV (As := [.int (-2 : Int32)]) (rest := []) ⟨hx, hb, hml, hown, htg⟩ (c_X5_refuse l D cA _ fu ad t t_refusals (-2 : Int32) o1 ho2) (cwV 1 htg (gV q_2_10 q_2_12 q_p1_0 q_1_1 q_2_13) rfl rfl rfl hd_X5_refuse ⟨Nat.le_of_ble_eq_true rfl, Nat.le_of_ble_eq_true rfl⟩) (xpV hN hK hP hD [0, 3] rfl (by decide) rfl rfl) rfl rfl hl.1 rfl (lv_room (Nat.le_of_ble_eq_true rfl)) dX5_pitch_21 ⟨Nat.zero_le _, Nat.zero_le _⟩) hP hD hS hA [0, 3] [1, 2] [2, 0, 1, 3] rfl rfl (by decide) (by decide) rfl (by decide) (fun H locs hP hD hS => ?_)
    rw [hQ]
    exact W.iret (v := o1.1) hx hb hr (fun t9 ht hW => ⟨⟨o1.1, (t_now_pitches, o1.2), rfl, (Option.some.inj hm), by rw [ht]; exact hP, va_K.moved hW.alike hK, hD⟩, hS.F ht⟩) hS.2.2 dX5_pitch_24
  unfold m_X5_pitch at hm
  subst hargs
  have hl := lv_entry ([.ref (ad 0), .int l1, .int l2]) (n := 4) (Nat.le_of_ble_eq_true rfl)
  rw [lg_entry_eq]
  generalize (lg_sl ([.ref (ad 0), .int l1, .int l2]) ++ List.replicate (4 - (lg_sl ([.ref (ad 0), .int l1, .int l2])).length) Slot.unset).toArray = ls at hl ⊢
  have hl : lv_has ls 4 [(0, .ref (ad 0)), (1, .int l1), (2, .int l2)] := hl
  refine lv_aload_n hx hb dX5_pitch_0 rfl (lv_at hl 0 rfl) ?_
  refine lv_iload_n hx hb dX5_pitch_1 rfl (lv_at hl 1 rfl) ?_
  obtain ⟨o3, ho4, hm⟩ := bd_s hm
  refine xr_i (wr := [((ad 4), eI cA 8 t_now_pitches), ((ad 19), eI cA 5 t_refusals)]) (wn := [((ad 0), e_X5 ad t), ((ad 1), e_X1 (ad 2) (ad 3) (ad 4) t_now), ((ad 4), eI cA 8 t_now_pitches), ((ad 19), eI cA 5 t_refusals)]) (va_runV (As := [.int l1]) (rest := []) ⟨hx, hb, hml, hown, htg⟩ (c_X5_isVoice l D cA _ fu ad t t_now l1 o3 ho4) (cwV 1 htg (gV q_2_87 q_2_89 q_p1_10 q_1_1 q_2_90) rfl rfl rfl hd_X5_isVoice ⟨Nat.le_of_ble_eq_true rfl, Nat.le_of_ble_eq_true rfl⟩) (xpV hN hK hP hD [0, 1] rfl (by decide) rfl rfl) rfl rfl hl.1 rfl (lv_room (Nat.le_of_ble_eq_true rfl)) dX5_pitch_2 ⟨Nat.zero_le _, Nat.zero_le _⟩) hP hD hS hA [0, 1] [2, 3] [2, 3, 0, 1] rfl rfl (by decide) (by decide) rfl (by decide) (fun H locs hP hD hS => ?_)
  refine lv_if_eq (tgt := 18) hx hb dX5_pitch_5 (by decide) (fun c5 => ?_) (fun c5 => ?_)
  · have hm := it_t c5 hm
    exact B_18 _ _ _ _ _ hm hP hD hS (lv_sub hl [0] rfl)
  · have hm := it_f c5 hm
    refine lv_iload_n hx hb dX5_pitch_8 rfl (lv_at hl 2 rfl) ?_
    refine lv_iconst (v := (0 : Int32)) hx hb dX5_pitch_9 (by decide) ?_
    refine lv_bipush (v := (20 : Int32)) hx hb dX5_pitch_10 (by decide) ?_
    obtain ⟨o6, ho7, hm⟩ := bd_s hm
    refine xr_i (wr := [((ad 0), e_X5 ad t), ((ad 1), e_X1 (ad 2) (ad 3) (ad 4) t_now), ((ad 4), eI cA 8 t_now_pitches), ((ad 19), eI cA 5 t_refusals)]) (wn := [((ad 0), e_X5 ad t), ((ad 1), e_X1 (ad 2) (ad 3) (ad 4) t_now), ((ad 4), eI cA 8 t_now_pitches), ((ad 19), eI cA 5 t_refusals)]) (va_runS (As := [.int l2, .int (0 : Int32), .int (20 : Int32)]) (rest := []) ⟨hx, hb, hml, hown, htg⟩ (c_X5_isWithin l D cA _ fu l2 (0 : Int32) (20 : Int32) o6 ho7) (cwS 3 htg (gS q_2_7 q_2_8 q_1_1 q_2_9) rfl rfl rfl hd_X5_isWithin ⟨Nat.le_of_ble_eq_true rfl, Nat.le_of_ble_eq_true rfl⟩) (xpS hN hK hP hD [] rfl (by decide)) rfl rfl hl.1 rfl (lv_room (Nat.le_of_ble_eq_true rfl)) dX5_pitch_12 ⟨Nat.zero_le _, Nat.zero_le _⟩) hP hD hS hA [] [0, 1, 2, 3] [0, 1, 2, 3] rfl rfl (by decide) (by decide) rfl (by decide) (fun H locs hP hD hS => ?_)
    refine lv_if_ne (tgt := 25) hx hb dX5_pitch_15 (by decide) (fun c8 => ?_) (fun c8 => ?_)
    · have hm := it_f c8 hm
      refine lv_aload_n hx hb dX5_pitch_25 rfl (lv_at hl 0 rfl) ?_
      refine va_get (D := D) (ci := 5) (v := .ref (ad 1)) (C := RX5) (T := TX5) (N := 17) hx hb htg inX5 hown hK hP 0 rfl rfl 0 (by decide) (htg _ q_1_188) (fun _ h9 => h9) rfl dX5_pitch_26 ?_
      refine lv_iload_n hx hb dX5_pitch_29 rfl (lv_at hl 1 rfl) ?_
      obtain ⟨o9, ho10, hm⟩ := bd_s hm
      refine xr_i (wr := [((ad 0), e_X5 ad t), ((ad 19), eI cA 5 t_refusals)]) (wn := [((ad 0), e_X5 ad t), ((ad 1), e_X1 (ad 2) (ad 3) (ad 4) t_now), ((ad 4), eI cA 8 t_now_pitches), ((ad 19), eI cA 5 t_refusals)]) (va_runVN (As := [.int l1]) (rest := []) ⟨hx, hb, hml, hown, htg⟩ (c_X1_pitchOf l D cA _ fu (ad 1) (ad 2) (ad 3) (ad 4) t_now t_now_pitches l1 o9 ho10) ⟨va_cnB 1 htg (gU q_2_113) rfl rfl rfl (hN _ q_2_110) (htg _ q_1_2) hd_X1_pitchOf.2 ⟨Nat.le_of_ble_eq_true rfl, Nat.le_of_ble_eq_true rfl⟩, htg _ q_2_112, htg _ q_p1_13⟩ (xpV hN hK hP hD [1, 2] rfl (by decide) rfl rfl) rfl rfl hl.1 rfl (lv_room (Nat.le_of_ble_eq_true rfl)) dX5_pitch_30 ⟨Nat.zero_le _, Nat.zero_le _⟩) hP hD hS hA [1, 2] [0, 3] [0, 2, 3, 1] rfl rfl (by decide) (by decide) rfl (by decide) (fun H locs hP hD hS => ?_)
      refine lv_istore_n (lv' := [(3, .int o9.1), (0, .ref (ad 0)), (1, .int l1), (2, .int l2)]) hx hb dX5_pitch_33 rfl hl (by decide) rfl (fun ls hl => ?_)
      refine lv_aload_n hx hb dX5_pitch_34 rfl (lv_at hl 1 rfl) ?_
      refine va_get (D := D) (ci := 5) (v := .ref (ad 1)) (C := RX5) (T := TX5) (N := 17) hx hb htg inX5 hown hK hP 0 rfl rfl 0 (by decide) (htg _ q_1_188) (fun _ h9 => h9) rfl dX5_pitch_35 ?_
      refine lv_iload_n hx hb dX5_pitch_38 rfl (lv_at hl 2 rfl) ?_
      refine lv_iload_n hx hb dX5_pitch_39 rfl (lv_at hl 3 rfl) ?_
      obtain ⟨o11, ho12, hm⟩ := bd_s hm
      refine xr_v (wr := [((ad 0), e_X5 ad t), ((ad 19), eI cA 5 t_refusals)]) (wn := [((ad 0), e_X5 ad t), ((ad 1), e_X1 (ad 2) (ad 3) (ad 4) t_now), ((ad 4), eI cA 8 o11), ((ad 19), eI cA 5 t_refusals)]) (va_runVN (As := [.int l1, .int l2]) (rest := []) ⟨hx, hb, hml, hown, htg⟩ (c_X1_putPitch l D cA _ fu (ad 1) (ad 2) (ad 3) (ad 4) t_now t_now_pitches l1 l2 o11 ho12) ⟨va_cnB 2 htg (gU q_2_182) rfl rfl rfl (hN _ q_2_179) (htg _ q_1_2) hd_X1_putPitch.2 ⟨Nat.le_of_ble_eq_true rfl, Nat.le_of_ble_eq_true rfl⟩, htg _ q_2_181, htg _ q_p2_11⟩ (xpV hN hK hP hD [1, 2] rfl (by decide) rfl rfl) rfl rfl hl.1 rfl (lv_room (Nat.le_of_ble_eq_true rfl)) dX5_pitch_40 ⟨Nat.zero_le _, Nat.zero_le _⟩) hP hD hS hA [1, 2] [0, 3] [0, 2, 3, 1] rfl rfl (by decide) (by decide) rfl (by decide) (fun H locs hP hD hS => ?_)
      refine lv_iload_n hx hb dX5_pitch_43 rfl (lv_at hl 0 rfl) ?_
      rw [hQ]
      exact W.iret (v := o9.1) hx hb hr (fun t9 ht hW => ⟨⟨o9.1, (o11, t_refusals), rfl, (Option.some.inj hm), by rw [ht]; exact hP, va_K.moved hW.alike hK, hD⟩, hS.F ht⟩) hS.2.2 dX5_pitch_44
    · have hm := it_t c8 hm
      exact B_18 _ _ _ _ _ hm hP hD hS (lv_sub hl [0] rfl)
def b_X5_tell_102 (fu : Nat) (t : Nat → Int32) (t_now : Nat → Int32) (t_refusals : Nat → Int32) : Option (Int32 × ((Nat → Int32) × (Nat → Int32))) :=
  (m_X5_refuse fu t t_refusals (-2 : Int32)).bind fun o1 =>
    some (o1.1, (t_now, o1.2))
def b_X5_tell_109 (fu : Nat) (t : Nat → Int32) (l3 : Int32) (t_now : Nat → Int32) (t_refusals : Nat → Int32) : Option (Int32 × ((Nat → Int32) × (Nat → Int32))) :=
  some (l3, (t_now, t_refusals))
def b_X5_tell_67 (fu : Nat) (t : Nat → Int32) (l1 : Int32) (l2 : Int32) (t_now : Nat → Int32) (t_refusals : Nat → Int32) : Option (Int32 × ((Nat → Int32) × (Nat → Int32))) :=
  (if l1 = (2 : Int32) then
      (m_X5_isWithin fu l2 (0 : Int32) (9999 : Int32)).bind fun o4 =>
      (if o4.1 = 0 then
        b_X5_tell_102 fu t t_now t_refusals
      else
        b_X5_tell_109 fu t (t_now 2) (upd t_now 2 l2) t_refusals)
    else
      b_X5_tell_102 fu t t_now t_refusals)
def b_X5_tell_33 (fu : Nat) (t : Nat → Int32) (l1 : Int32) (l2 : Int32) (t_now : Nat → Int32) (t_refusals : Nat → Int32) : Option (Int32 × ((Nat → Int32) × (Nat → Int32))) :=
  (if l1 = (1 : Int32) then
      (m_X5_isWithin fu l2 (0 : Int32) (9 : Int32)).bind fun o8 =>
      (if o8.1 = 0 then
        b_X5_tell_67 fu t l1 l2 t_now t_refusals
      else
        b_X5_tell_109 fu t (t_now 1) (upd t_now 1 l2) t_refusals)
    else
      b_X5_tell_67 fu t l1 l2 t_now t_refusals)
def m_X5_tell (fu : Nat) (t : Nat → Int32) (t_now : Nat → Int32) (t_refusals : Nat → Int32) (l1 : Int32) (l2 : Int32) : Option (Int32 × ((Nat → Int32) × (Nat → Int32))) :=
  (if l1 = 0 then
    (m_X5_isWithin fu l2 (0 : Int32) (40 : Int32)).bind fun o12 =>
    (if o12.1 = 0 then
      b_X5_tell_33 fu t l1 l2 t_now t_refusals
    else
      b_X5_tell_109 fu t (t_now 0) (upd t_now 0 l2) t_refusals)
  else
    b_X5_tell_33 fu t l1 l2 t_now t_refusals)
abbrev rm_X5_tell : Room := ({ frames := 2, cells := 0, slots := 0, locals := 44 } : Room)
abbrev w0_X5_tell (cA : Nat → ClassId) (ad : Nat → Nat) (t : Nat → Int32) (t_now : Nat → Int32) (t_refusals : Nat → Int32) : va_W := [((ad 0), e_X5 ad t), ((ad 1), e_X1 (ad 2) (ad 3) (ad 4) t_now), ((ad 19), eI cA 5 t_refusals)]
abbrev w1_X5_tell (cA : Nat → ClassId) (ad : Nat → Nat) (t : Nat → Int32) (u : (Nat → Int32) × (Nat → Int32)) : va_W := [((ad 0), e_X5 ad t), ((ad 1), e_X1 (ad 2) (ad 3) (ad 4) u.1), ((ad 19), eI cA 5 u.2)]
theorem hd_X5_tell : yX5_tell.cls = RX5 ∧ yX5_tell.cls ≠ "java/lang/invoke/MethodHandle" ∧ yX5_tell.cls ≠ "java/lang/invoke/VarHandle" ∧ (parseMethodDescriptor yX5_tell.desc).map (fun d => d.parameters.length) = some 2 := by decide +kernel
set_option maxHeartbeats 40000000 in
set_option maxRecDepth 100000 in
theorem c_X5_tell (l : Launch) (D : va_G) (cA : Nat → ClassId) (sz : Nat) (fu : Nat) (ad : Nat → Nat) (t : Nat → Int32) (t_now : Nat → Int32) (t_refusals : Nat → Int32) (l1 : Int32) (l2 : Int32) (out : Int32 × ((Nat → Int32) × (Nat → Int32))) (hm : m_X5_tell fu t t_now t_refusals l1 l2 = some out) : MI l yX5_tell (wU yX5_tell cX5_tell 4 ((Option.some Jvm.ClassFile.FieldType.int))) rm_X5_tell D cA sz [.ref (ad 0), .int l1, .int l2] (w0_X5_tell cA ad t t_now t_refusals) out (w1_X5_tell cA ad t) := by
  refine Met.ofW (cc := cX5_tell) (maxL := 4) (ret := (Option.some Jvm.ClassFile.FieldType.int)) (by decide) rfl ?_
  intro p e s m args below meth c s₁ B hml hv
  obtain ⟨hargs, hsz, hP, hK, hD0, hN⟩ := hv
  have hx := B.exec
  have hb := B.bytes
  have hr := B.returns
  have htg : ∀ w ∈ gw, w.before args s = true := fun w h => atoms_spec (ws := wU yX5_tell cX5_tell 4 ((Option.some Jvm.ClassFile.FieldType.int))) B.pre w (List.mem_cons_of_mem _ h)
  have hown : s.vm.findClass RX5 = some m.cls := findClass_of_methodNamed B.named
  have hlocks := B.notSynchronized
  subst hsz
  have hD := hD0.self (sz := s.heap.size)
  have hA : ∀ q : Nat, s.heap.size ≤ q → va_A (w0_X5_tell cA ad t t_now t_refusals) s.heap.size q := fun q h => Or.inr h
  have hS : va_S (va_A (w0_X5_tell cA ad t t_now t_refusals) s.heap.size) s.heap s.heap [] := va_S.rf
  generalize va_A (w0_X5_tell cA ad t t_now t_refusals) s.heap.size = A at hA hD hS ⊢
  obtain ⟨Q, hQ⟩ : ∃ Q : State → Prop, Q = MQ below (va_Qi (fun (r : Int32) (u : (Nat → Int32) × (Nat → Int32)) => (r, u) = out) (pst0 D cA A (w1_X5_tell cA ad t)) A) args s 0 0 A := ⟨_, rfl⟩
  refine (?_ : W p l e rm_X5_tell s m args below meth c s.heap [] 0 0 (MQ below (va_Qi (fun (r : Int32) (u : (Nat → Int32) × (Nat → Int32)) => (r, u) = out) (pst0 D cA A (w1_X5_tell cA ad t)) A) args s 0 0 A) (entryFrame m args 4))
  rw [← hQ]
  have hP : va_P D CL [((ad 0), e_X5 ad t), ((ad 1), e_X1 (ad 2) (ad 3) (ad 4) t_now), ((ad 19), eI cA 5 t_refusals)] s.heap := hP
  have hD : va_D A [((ad 0), e_X5 ad t), ((ad 1), e_X1 (ad 2) (ad 3) (ad 4) t_now), ((ad 19), eI cA 5 t_refusals)] := hD
  have B_102 : ∀ (t_now : Nat → Int32) (t_refusals : Nat → Int32) (H : Heap) (locs : List Loc) (ls : Array Slot), b_X5_tell_102 fu t t_now t_refusals = some out → va_P D CL [((ad 0), e_X5 ad t), ((ad 1), e_X1 (ad 2) (ad 3) (ad 4) t_now), ((ad 19), eI cA 5 t_refusals)] H → va_D A [((ad 0), e_X5 ad t), ((ad 1), e_X1 (ad 2) (ad 3) (ad 4) t_now), ((ad 19), eI cA 5 t_refusals)] → va_S A s.heap H locs → lv_has ls 4 [(0, .ref (ad 0))] → W p l e rm_X5_tell s m args below meth c H locs 0 0 Q (F0 m 102 ls []) := by
    intro  t_now t_refusals H locs ls hm hP hD hS hl
    unfold b_X5_tell_102 at hm
    refine lv_aload_n hx hb dX5_tell_102 rfl (lv_at hl 0 rfl) ?_
    refine lv_bipush (v := (-2 : Int32)) hx hb dX5_tell_103 (by decide) ?_
    obtain ⟨o1, ho2, hm⟩ := bd_s hm
    refine xr_i (wr := [((ad 1), e_X1 (ad 2) (ad 3) (ad 4) t_now)]) (wn := [((ad 0), e_X5 ad t), ((ad 1), e_X1 (ad 2) (ad 3) (ad 4) t_now), ((ad 19), eI cA 5 o1.2)]) (va_runV (As := [.int (-2 : Int32)]) (rest := []) ⟨hx, hb, hml, hown, htg⟩ (c_X5_refuse l D cA _ fu ad t t_refusals (-2 : Int32) o1 ho2) (cwV 1 htg (gV q_2_10 q_2_12 q_p1_0 q_1_1 q_2_13) rfl rfl rfl hd_X5_refuse ⟨Nat.le_of_ble_eq_true rfl, Nat.le_of_ble_eq_true rfl⟩) (xpV hN hK hP hD [0, 2] rfl (by decide) rfl rfl) rfl rfl hl.1 rfl (lv_room (Nat.le_of_ble_eq_true rfl)) dX5_tell_105 ⟨Nat.zero_le _, Nat.zero_le _⟩) hP hD hS hA [0, 2] [1] [1, 0, 2] rfl rfl (by decide) (by decide) rfl (by decide) (fun H locs hP hD hS => ?_)
    rw [hQ]
    exact W.iret (v := o1.1) hx hb hr (fun t9 ht hW => ⟨⟨o1.1, (t_now, o1.2), rfl, (Option.some.inj hm), by rw [ht]; exact hP, va_K.moved hW.alike hK, hD⟩, hS.F ht⟩) hS.2.2 dX5_tell_108
  have B_109 : ∀ (l3 : Int32) (t_now : Nat → Int32) (t_refusals : Nat → Int32) (H : Heap) (locs : List Loc) (ls : Array Slot), b_X5_tell_109 fu t l3 t_now t_refusals = some out → va_P D CL [((ad 0), e_X5 ad t), ((ad 1), e_X1 (ad 2) (ad 3) (ad 4) t_now), ((ad 19), eI cA 5 t_refusals)] H → va_D A [((ad 0), e_X5 ad t), ((ad 1), e_X1 (ad 2) (ad 3) (ad 4) t_now), ((ad 19), eI cA 5 t_refusals)] → va_S A s.heap H locs → lv_has ls 4 [(0, .ref (ad 0)), (3, .int l3)] → W p l e rm_X5_tell s m args below meth c H locs 0 0 Q (F0 m 109 ls []) := by
    intro  l3 t_now t_refusals H locs ls hm hP hD hS hl
    unfold b_X5_tell_109 at hm
    refine lv_iload_n hx hb dX5_tell_109 rfl (lv_at hl 1 rfl) ?_
    rw [hQ]
    exact W.iret (v := l3) hx hb hr (fun t9 ht hW => ⟨⟨l3, (t_now, t_refusals), rfl, (Option.some.inj hm), by rw [ht]; exact hP, va_K.moved hW.alike hK, hD⟩, hS.F ht⟩) hS.2.2 dX5_tell_110
  have B_67 : ∀ (l1 : Int32) (l2 : Int32) (t_now : Nat → Int32) (t_refusals : Nat → Int32) (H : Heap) (locs : List Loc) (ls : Array Slot), b_X5_tell_67 fu t l1 l2 t_now t_refusals = some out → va_P D CL [((ad 0), e_X5 ad t), ((ad 1), e_X1 (ad 2) (ad 3) (ad 4) t_now), ((ad 19), eI cA 5 t_refusals)] H → va_D A [((ad 0), e_X5 ad t), ((ad 1), e_X1 (ad 2) (ad 3) (ad 4) t_now), ((ad 19), eI cA 5 t_refusals)] → va_S A s.heap H locs → lv_has ls 4 [(0, .ref (ad 0)), (1, .int l1), (2, .int l2)] → W p l e rm_X5_tell s m args below meth c H locs 0 0 Q (F0 m 67 ls []) := by
    intro  l1 l2 t_now t_refusals H locs ls hm hP hD hS hl
    unfold b_X5_tell_67 at hm
    refine lv_iload_n hx hb dX5_tell_67 rfl (lv_at hl 1 rfl) ?_
    refine lv_iconst (v := (2 : Int32)) hx hb dX5_tell_68 (by decide) ?_
    refine lv_icmp_ne (tgt := 102) hx hb dX5_tell_69 (by decide) (fun c3 => ?_) (fun c3 => ?_)
    · have hm := it_f c3 hm
      exact B_102 _ _ _ _ _ hm hP hD hS (lv_sub hl [0] rfl)
    · have hm := it_t c3 hm
      refine lv_iload_n hx hb dX5_tell_72 rfl (lv_at hl 2 rfl) ?_
      refine lv_iconst (v := (0 : Int32)) hx hb dX5_tell_73 (by decide) ?_
      refine lv_sipush (v := (9999 : Int32)) hx hb dX5_tell_74 (by decide) ?_
      obtain ⟨o4, ho5, hm⟩ := bd_s hm
      refine xr_i (wr := [((ad 0), e_X5 ad t), ((ad 1), e_X1 (ad 2) (ad 3) (ad 4) t_now), ((ad 19), eI cA 5 t_refusals)]) (wn := [((ad 0), e_X5 ad t), ((ad 1), e_X1 (ad 2) (ad 3) (ad 4) t_now), ((ad 19), eI cA 5 t_refusals)]) (va_runS (As := [.int l2, .int (0 : Int32), .int (9999 : Int32)]) (rest := []) ⟨hx, hb, hml, hown, htg⟩ (c_X5_isWithin l D cA _ fu l2 (0 : Int32) (9999 : Int32) o4 ho5) (cwS 3 htg (gS q_2_7 q_2_8 q_1_1 q_2_9) rfl rfl rfl hd_X5_isWithin ⟨Nat.le_of_ble_eq_true rfl, Nat.le_of_ble_eq_true rfl⟩) (xpS hN hK hP hD [] rfl (by decide)) rfl rfl hl.1 rfl (lv_room (Nat.le_of_ble_eq_true rfl)) dX5_tell_77 ⟨Nat.zero_le _, Nat.zero_le _⟩) hP hD hS hA [] [0, 1, 2] [0, 1, 2] rfl rfl (by decide) (by decide) rfl (by decide) (fun H locs hP hD hS => ?_)
      refine lv_if_eq (tgt := 102) hx hb dX5_tell_80 (by decide) (fun c6 => ?_) (fun c6 => ?_)
      · have hm := it_t c6 hm
        exact B_102 _ _ _ _ _ hm hP hD hS (lv_sub hl [0] rfl)
      · have hm := it_f c6 hm
        refine lv_aload_n hx hb dX5_tell_83 rfl (lv_at hl 0 rfl) ?_
        refine va_get (D := D) (ci := 5) (v := .ref (ad 1)) (C := RX5) (T := TX5) (N := 17) hx hb htg inX5 hown hK hP 0 rfl rfl 0 (by decide) (htg _ q_1_188) (fun _ h9 => h9) rfl dX5_tell_84 ?_
        refine va_getN (D := D) (ci := 1) (v := .int (t_now 2)) (C := RX1) (T := TX1) (N := 12) hx hb htg inX1 hown hK hP 1 rfl rfl 2 (by decide) (va_Nw.use rfl (hN _ q_1_42)) (fun _ h9 => h9) rfl dX5_tell_87 ?_
        refine lv_istore_n (lv' := [(3, .int (t_now 2)), (0, .ref (ad 0)), (1, .int l1), (2, .int l2)]) hx hb dX5_tell_90 rfl hl (by decide) rfl (fun ls hl => ?_)
        refine lv_aload_n hx hb dX5_tell_91 rfl (lv_at hl 1 rfl) ?_
        refine va_get (D := D) (ci := 5) (v := .ref (ad 1)) (C := RX5) (T := TX5) (N := 17) hx hb htg inX5 hown hK hP 0 rfl rfl 0 (by decide) (htg _ q_1_188) (fun _ h9 => h9) rfl dX5_tell_92 ?_
        refine lv_iload_n hx hb dX5_tell_95 rfl (lv_at hl 3 rfl) ?_
        refine va_putN (D := D) (ci := 1) (v := .int l2) (ty := .int) (C := RX1) (T := TX1) (N := 12) hx hb htg inX1 tyX1 tyX1_ok nmX1 hown hK hP hD hS 1 rfl rfl 2 (by decide) (va_Nw.use rfl (hN _ q_1_42)) (fun _ h9 => h9) rfl (by decide +kernel) rfl rfl (Nat.le_of_ble_eq_true rfl) dX5_tell_96 (fun H locs (hP : va_P D CL [((ad 0), e_X5 ad t), ((ad 1), e_X1 (ad 2) (ad 3) (ad 4) (upd t_now 2 l2)), ((ad 19), eI cA 5 t_refusals)] H) (hD : va_D A [((ad 0), e_X5 ad t), ((ad 1), e_X1 (ad 2) (ad 3) (ad 4) (upd t_now 2 l2)), ((ad 19), eI cA 5 t_refusals)]) hS => ?_)
        refine lv_goto (tgt := 109) hx hb dX5_tell_99 (by decide) ?_
        exact B_109 _ _ _ _ _ _ hm hP hD hS (lv_sub hl [1, 0] rfl)
  have B_33 : ∀ (l1 : Int32) (l2 : Int32) (t_now : Nat → Int32) (t_refusals : Nat → Int32) (H : Heap) (locs : List Loc) (ls : Array Slot), b_X5_tell_33 fu t l1 l2 t_now t_refusals = some out → va_P D CL [((ad 0), e_X5 ad t), ((ad 1), e_X1 (ad 2) (ad 3) (ad 4) t_now), ((ad 19), eI cA 5 t_refusals)] H → va_D A [((ad 0), e_X5 ad t), ((ad 1), e_X1 (ad 2) (ad 3) (ad 4) t_now), ((ad 19), eI cA 5 t_refusals)] → va_S A s.heap H locs → lv_has ls 4 [(0, .ref (ad 0)), (1, .int l1), (2, .int l2)] → W p l e rm_X5_tell s m args below meth c H locs 0 0 Q (F0 m 33 ls []) := by
    intro  l1 l2 t_now t_refusals H locs ls hm hP hD hS hl
    unfold b_X5_tell_33 at hm
    refine lv_iload_n hx hb dX5_tell_33 rfl (lv_at hl 1 rfl) ?_
    refine lv_iconst (v := (1 : Int32)) hx hb dX5_tell_34 (by decide) ?_
    refine lv_icmp_ne (tgt := 67) hx hb dX5_tell_35 (by decide) (fun c7 => ?_) (fun c7 => ?_)
    · have hm := it_f c7 hm
      exact B_67 _ _ _ _ _ _ _ hm hP hD hS (lv_sub hl [0, 1, 2] rfl)
    · have hm := it_t c7 hm
      refine lv_iload_n hx hb dX5_tell_38 rfl (lv_at hl 2 rfl) ?_
      refine lv_iconst (v := (0 : Int32)) hx hb dX5_tell_39 (by decide) ?_
      refine lv_bipush (v := (9 : Int32)) hx hb dX5_tell_40 (by decide) ?_
      obtain ⟨o8, ho9, hm⟩ := bd_s hm
      refine xr_i (wr := [((ad 0), e_X5 ad t), ((ad 1), e_X1 (ad 2) (ad 3) (ad 4) t_now), ((ad 19), eI cA 5 t_refusals)]) (wn := [((ad 0), e_X5 ad t), ((ad 1), e_X1 (ad 2) (ad 3) (ad 4) t_now), ((ad 19), eI cA 5 t_refusals)]) (va_runS (As := [.int l2, .int (0 : Int32), .int (9 : Int32)]) (rest := []) ⟨hx, hb, hml, hown, htg⟩ (c_X5_isWithin l D cA _ fu l2 (0 : Int32) (9 : Int32) o8 ho9) (cwS 3 htg (gS q_2_7 q_2_8 q_1_1 q_2_9) rfl rfl rfl hd_X5_isWithin ⟨Nat.le_of_ble_eq_true rfl, Nat.le_of_ble_eq_true rfl⟩) (xpS hN hK hP hD [] rfl (by decide)) rfl rfl hl.1 rfl (lv_room (Nat.le_of_ble_eq_true rfl)) dX5_tell_42 ⟨Nat.zero_le _, Nat.zero_le _⟩) hP hD hS hA [] [0, 1, 2] [0, 1, 2] rfl rfl (by decide) (by decide) rfl (by decide) (fun H locs hP hD hS => ?_)
      refine lv_if_eq (tgt := 67) hx hb dX5_tell_45 (by decide) (fun c10 => ?_) (fun c10 => ?_)
      · have hm := it_t c10 hm
        exact B_67 _ _ _ _ _ _ _ hm hP hD hS (lv_sub hl [0, 1, 2] rfl)
      · have hm := it_f c10 hm
        refine lv_aload_n hx hb dX5_tell_48 rfl (lv_at hl 0 rfl) ?_
        refine va_get (D := D) (ci := 5) (v := .ref (ad 1)) (C := RX5) (T := TX5) (N := 17) hx hb htg inX5 hown hK hP 0 rfl rfl 0 (by decide) (htg _ q_1_188) (fun _ h9 => h9) rfl dX5_tell_49 ?_
        refine va_getN (D := D) (ci := 1) (v := .int (t_now 1)) (C := RX1) (T := TX1) (N := 12) hx hb htg inX1 hown hK hP 1 rfl rfl 1 (by decide) (va_Nw.use rfl (hN _ q_1_38)) (fun _ h9 => h9) rfl dX5_tell_52 ?_
        refine lv_istore_n (lv' := [(3, .int (t_now 1)), (0, .ref (ad 0)), (1, .int l1), (2, .int l2)]) hx hb dX5_tell_55 rfl hl (by decide) rfl (fun ls hl => ?_)
        refine lv_aload_n hx hb dX5_tell_56 rfl (lv_at hl 1 rfl) ?_
        refine va_get (D := D) (ci := 5) (v := .ref (ad 1)) (C := RX5) (T := TX5) (N := 17) hx hb htg inX5 hown hK hP 0 rfl rfl 0 (by decide) (htg _ q_1_188) (fun _ h9 => h9) rfl dX5_tell_57 ?_
        refine lv_iload_n hx hb dX5_tell_60 rfl (lv_at hl 3 rfl) ?_
        refine va_putN (D := D) (ci := 1) (v := .int l2) (ty := .int) (C := RX1) (T := TX1) (N := 12) hx hb htg inX1 tyX1 tyX1_ok nmX1 hown hK hP hD hS 1 rfl rfl 1 (by decide) (va_Nw.use rfl (hN _ q_1_38)) (fun _ h9 => h9) rfl (by decide +kernel) rfl rfl (Nat.le_of_ble_eq_true rfl) dX5_tell_61 (fun H locs (hP : va_P D CL [((ad 0), e_X5 ad t), ((ad 1), e_X1 (ad 2) (ad 3) (ad 4) (upd t_now 1 l2)), ((ad 19), eI cA 5 t_refusals)] H) (hD : va_D A [((ad 0), e_X5 ad t), ((ad 1), e_X1 (ad 2) (ad 3) (ad 4) (upd t_now 1 l2)), ((ad 19), eI cA 5 t_refusals)]) hS => ?_)
        refine lv_goto (tgt := 109) hx hb dX5_tell_64 (by decide) ?_
        exact B_109 _ _ _ _ _ _ hm hP hD hS (lv_sub hl [1, 0] rfl)
  unfold m_X5_tell at hm
  subst hargs
  have hl := lv_entry ([.ref (ad 0), .int l1, .int l2]) (n := 4) (Nat.le_of_ble_eq_true rfl)
  rw [lg_entry_eq]
  generalize (lg_sl ([.ref (ad 0), .int l1, .int l2]) ++ List.replicate (4 - (lg_sl ([.ref (ad 0), .int l1, .int l2])).length) Slot.unset).toArray = ls at hl ⊢
  have hl : lv_has ls 4 [(0, .ref (ad 0)), (1, .int l1), (2, .int l2)] := hl
  refine lv_iload_n hx hb dX5_tell_0 rfl (lv_at hl 1 rfl) ?_
  refine lv_if_ne (tgt := 33) hx hb dX5_tell_1 (by decide) (fun c11 => ?_) (fun c11 => ?_)
  · have hm := it_f c11 hm
    exact B_33 _ _ _ _ _ _ _ hm hP hD hS (lv_sub hl [0, 1, 2] rfl)
  · have hm := it_t c11 hm
    refine lv_iload_n hx hb dX5_tell_4 rfl (lv_at hl 2 rfl) ?_
    refine lv_iconst (v := (0 : Int32)) hx hb dX5_tell_5 (by decide) ?_
    refine lv_bipush (v := (40 : Int32)) hx hb dX5_tell_6 (by decide) ?_
    obtain ⟨o12, ho13, hm⟩ := bd_s hm
    refine xr_i (wr := [((ad 0), e_X5 ad t), ((ad 1), e_X1 (ad 2) (ad 3) (ad 4) t_now), ((ad 19), eI cA 5 t_refusals)]) (wn := [((ad 0), e_X5 ad t), ((ad 1), e_X1 (ad 2) (ad 3) (ad 4) t_now), ((ad 19), eI cA 5 t_refusals)]) (va_runS (As := [.int l2, .int (0 : Int32), .int (40 : Int32)]) (rest := []) ⟨hx, hb, hml, hown, htg⟩ (c_X5_isWithin l D cA _ fu l2 (0 : Int32) (40 : Int32) o12 ho13) (cwS 3 htg (gS q_2_7 q_2_8 q_1_1 q_2_9) rfl rfl rfl hd_X5_isWithin ⟨Nat.le_of_ble_eq_true rfl, Nat.le_of_ble_eq_true rfl⟩) (xpS hN hK hP hD [] rfl (by decide)) rfl rfl hl.1 rfl (lv_room (Nat.le_of_ble_eq_true rfl)) dX5_tell_8 ⟨Nat.zero_le _, Nat.zero_le _⟩) hP hD hS hA [] [0, 1, 2] [0, 1, 2] rfl rfl (by decide) (by decide) rfl (by decide) (fun H locs hP hD hS => ?_)
    refine lv_if_eq (tgt := 33) hx hb dX5_tell_11 (by decide) (fun c14 => ?_) (fun c14 => ?_)
    · have hm := it_t c14 hm
      exact B_33 _ _ _ _ _ _ _ hm hP hD hS (lv_sub hl [0, 1, 2] rfl)
    · have hm := it_f c14 hm
      refine lv_aload_n hx hb dX5_tell_14 rfl (lv_at hl 0 rfl) ?_
      refine va_get (D := D) (ci := 5) (v := .ref (ad 1)) (C := RX5) (T := TX5) (N := 17) hx hb htg inX5 hown hK hP 0 rfl rfl 0 (by decide) (htg _ q_1_188) (fun _ h9 => h9) rfl dX5_tell_15 ?_
      refine va_getN (D := D) (ci := 1) (v := .int (t_now 0)) (C := RX1) (T := TX1) (N := 12) hx hb htg inX1 hown hK hP 1 rfl rfl 0 (by decide) (va_Nw.use rfl (hN _ q_1_34)) (fun _ h9 => h9) rfl dX5_tell_18 ?_
      refine lv_istore_n (lv' := [(3, .int (t_now 0)), (0, .ref (ad 0)), (1, .int l1), (2, .int l2)]) hx hb dX5_tell_21 rfl hl (by decide) rfl (fun ls hl => ?_)
      refine lv_aload_n hx hb dX5_tell_22 rfl (lv_at hl 1 rfl) ?_
      refine va_get (D := D) (ci := 5) (v := .ref (ad 1)) (C := RX5) (T := TX5) (N := 17) hx hb htg inX5 hown hK hP 0 rfl rfl 0 (by decide) (htg _ q_1_188) (fun _ h9 => h9) rfl dX5_tell_23 ?_
      refine lv_iload_n hx hb dX5_tell_26 rfl (lv_at hl 3 rfl) ?_
      refine va_putN (D := D) (ci := 1) (v := .int l2) (ty := .int) (C := RX1) (T := TX1) (N := 12) hx hb htg inX1 tyX1 tyX1_ok nmX1 hown hK hP hD hS 1 rfl rfl 0 (by decide) (va_Nw.use rfl (hN _ q_1_34)) (fun _ h9 => h9) rfl (by decide +kernel) rfl rfl (Nat.le_of_ble_eq_true rfl) dX5_tell_27 (fun H locs (hP : va_P D CL [((ad 0), e_X5 ad t), ((ad 1), e_X1 (ad 2) (ad 3) (ad 4) (upd t_now 0 l2)), ((ad 19), eI cA 5 t_refusals)] H) (hD : va_D A [((ad 0), e_X5 ad t), ((ad 1), e_X1 (ad 2) (ad 3) (ad 4) (upd t_now 0 l2)), ((ad 19), eI cA 5 t_refusals)]) hS => ?_)
      refine lv_goto (tgt := 109) hx hb dX5_tell_30 (by decide) ?_
      exact B_109 _ _ _ _ _ _ hm hP hD hS (lv_sub hl [1, 0] rfl)
def b_X5_weigh_21 (fu : Nat) (t : Nat → Int32) (t_now : Nat → Int32) (t_refusals : Nat → Int32) : Option (Int32 × ((Nat → Int32) × (Nat → Int32))) :=
  (m_X5_refuse fu t t_refusals (-2 : Int32)).bind fun o1 =>
    some (o1.1, (t_now, o1.2))
def m_X5_weigh (fu : Nat) (t : Nat → Int32) (t_now : Nat → Int32) (t_refusals : Nat → Int32) (l1 : Int32) (l2 : Int32) : Option (Int32 × ((Nat → Int32) × (Nat → Int32))) :=
  (m_X5_isWithin fu l1 (2 : Int32) (9 : Int32)).bind fun o3 =>
  (if o3.1 = 0 then
    b_X5_weigh_21 fu t t_now t_refusals
  else
    (m_X5_isWithin fu l2 (0 : Int32) (l1 - (1 : Int32))).bind fun o6 =>
    (if o6.1 = 0 then
      b_X5_weigh_21 fu t t_now t_refusals
    else
      some ((((10 : Int32) * t_now 3) + t_now 4), ((upd (upd t_now 3 l1) 4 l2), t_refusals))))
abbrev rm_X5_weigh : Room := ({ frames := 2, cells := 0, slots := 0, locals := 44 } : Room)
abbrev w0_X5_weigh (cA : Nat → ClassId) (ad : Nat → Nat) (t : Nat → Int32) (t_now : Nat → Int32) (t_refusals : Nat → Int32) : va_W := [((ad 0), e_X5 ad t), ((ad 1), e_X1 (ad 2) (ad 3) (ad 4) t_now), ((ad 19), eI cA 5 t_refusals)]
abbrev w1_X5_weigh (cA : Nat → ClassId) (ad : Nat → Nat) (t : Nat → Int32) (u : (Nat → Int32) × (Nat → Int32)) : va_W := [((ad 0), e_X5 ad t), ((ad 1), e_X1 (ad 2) (ad 3) (ad 4) u.1), ((ad 19), eI cA 5 u.2)]
theorem hd_X5_weigh : yX5_weigh.cls = RX5 ∧ yX5_weigh.cls ≠ "java/lang/invoke/MethodHandle" ∧ yX5_weigh.cls ≠ "java/lang/invoke/VarHandle" ∧ (parseMethodDescriptor yX5_weigh.desc).map (fun d => d.parameters.length) = some 2 := by decide +kernel
set_option maxHeartbeats 40000000 in
set_option maxRecDepth 100000 in
theorem c_X5_weigh (l : Launch) (D : va_G) (cA : Nat → ClassId) (sz : Nat) (fu : Nat) (ad : Nat → Nat) (t : Nat → Int32) (t_now : Nat → Int32) (t_refusals : Nat → Int32) (l1 : Int32) (l2 : Int32) (out : Int32 × ((Nat → Int32) × (Nat → Int32))) (hm : m_X5_weigh fu t t_now t_refusals l1 l2 = some out) : MI l yX5_weigh (wU yX5_weigh cX5_weigh 4 ((Option.some Jvm.ClassFile.FieldType.int))) rm_X5_weigh D cA sz [.ref (ad 0), .int l1, .int l2] (w0_X5_weigh cA ad t t_now t_refusals) out (w1_X5_weigh cA ad t) := by
  refine Met.ofW (cc := cX5_weigh) (maxL := 4) (ret := (Option.some Jvm.ClassFile.FieldType.int)) (by decide) rfl ?_
  intro p e s m args below meth c s₁ B hml hv
  obtain ⟨hargs, hsz, hP, hK, hD0, hN⟩ := hv
  have hx := B.exec
  have hb := B.bytes
  have hr := B.returns
  have htg : ∀ w ∈ gw, w.before args s = true := fun w h => atoms_spec (ws := wU yX5_weigh cX5_weigh 4 ((Option.some Jvm.ClassFile.FieldType.int))) B.pre w (List.mem_cons_of_mem _ h)
  have hown : s.vm.findClass RX5 = some m.cls := findClass_of_methodNamed B.named
  have hlocks := B.notSynchronized
  subst hsz
  have hD := hD0.self (sz := s.heap.size)
  have hA : ∀ q : Nat, s.heap.size ≤ q → va_A (w0_X5_weigh cA ad t t_now t_refusals) s.heap.size q := fun q h => Or.inr h
  have hS : va_S (va_A (w0_X5_weigh cA ad t t_now t_refusals) s.heap.size) s.heap s.heap [] := va_S.rf
  generalize va_A (w0_X5_weigh cA ad t t_now t_refusals) s.heap.size = A at hA hD hS ⊢
  obtain ⟨Q, hQ⟩ : ∃ Q : State → Prop, Q = MQ below (va_Qi (fun (r : Int32) (u : (Nat → Int32) × (Nat → Int32)) => (r, u) = out) (pst0 D cA A (w1_X5_weigh cA ad t)) A) args s 0 0 A := ⟨_, rfl⟩
  refine (?_ : W p l e rm_X5_weigh s m args below meth c s.heap [] 0 0 (MQ below (va_Qi (fun (r : Int32) (u : (Nat → Int32) × (Nat → Int32)) => (r, u) = out) (pst0 D cA A (w1_X5_weigh cA ad t)) A) args s 0 0 A) (entryFrame m args 4))
  rw [← hQ]
  have hP : va_P D CL [((ad 0), e_X5 ad t), ((ad 1), e_X1 (ad 2) (ad 3) (ad 4) t_now), ((ad 19), eI cA 5 t_refusals)] s.heap := hP
  have hD : va_D A [((ad 0), e_X5 ad t), ((ad 1), e_X1 (ad 2) (ad 3) (ad 4) t_now), ((ad 19), eI cA 5 t_refusals)] := hD
  have B_21 : ∀ (t_now : Nat → Int32) (t_refusals : Nat → Int32) (H : Heap) (locs : List Loc) (ls : Array Slot), b_X5_weigh_21 fu t t_now t_refusals = some out → va_P D CL [((ad 0), e_X5 ad t), ((ad 1), e_X1 (ad 2) (ad 3) (ad 4) t_now), ((ad 19), eI cA 5 t_refusals)] H → va_D A [((ad 0), e_X5 ad t), ((ad 1), e_X1 (ad 2) (ad 3) (ad 4) t_now), ((ad 19), eI cA 5 t_refusals)] → va_S A s.heap H locs → lv_has ls 4 [(0, .ref (ad 0))] → W p l e rm_X5_weigh s m args below meth c H locs 0 0 Q (F0 m 21 ls []) := by
    intro  t_now t_refusals H locs ls hm hP hD hS hl
    unfold b_X5_weigh_21 at hm
    refine lv_aload_n hx hb dX5_weigh_21 rfl (lv_at hl 0 rfl) ?_
    refine lv_bipush (v := (-2 : Int32)) hx hb dX5_weigh_22 (by decide) ?_
    obtain ⟨o1, ho2, hm⟩ := bd_s hm
    refine xr_i (wr := [((ad 1), e_X1 (ad 2) (ad 3) (ad 4) t_now)]) (wn := [((ad 0), e_X5 ad t), ((ad 1), e_X1 (ad 2) (ad 3) (ad 4) t_now), ((ad 19), eI cA 5 o1.2)]) (va_runV (As := [.int (-2 : Int32)]) (rest := []) ⟨hx, hb, hml, hown, htg⟩ (c_X5_refuse l D cA _ fu ad t t_refusals (-2 : Int32) o1 ho2) (cwV 1 htg (gV q_2_10 q_2_12 q_p1_0 q_1_1 q_2_13) rfl rfl rfl hd_X5_refuse ⟨Nat.le_of_ble_eq_true rfl, Nat.le_of_ble_eq_true rfl⟩) (xpV hN hK hP hD [0, 2] rfl (by decide) rfl rfl) rfl rfl hl.1 rfl (lv_room (Nat.le_of_ble_eq_true rfl)) dX5_weigh_24 ⟨Nat.zero_le _, Nat.zero_le _⟩) hP hD hS hA [0, 2] [1] [1, 0, 2] rfl rfl (by decide) (by decide) rfl (by decide) (fun H locs hP hD hS => ?_)
    rw [hQ]
    exact W.iret (v := o1.1) hx hb hr (fun t9 ht hW => ⟨⟨o1.1, (t_now, o1.2), rfl, (Option.some.inj hm), by rw [ht]; exact hP, va_K.moved hW.alike hK, hD⟩, hS.F ht⟩) hS.2.2 dX5_weigh_27
  unfold m_X5_weigh at hm
  subst hargs
  have hl := lv_entry ([.ref (ad 0), .int l1, .int l2]) (n := 4) (Nat.le_of_ble_eq_true rfl)
  rw [lg_entry_eq]
  generalize (lg_sl ([.ref (ad 0), .int l1, .int l2]) ++ List.replicate (4 - (lg_sl ([.ref (ad 0), .int l1, .int l2])).length) Slot.unset).toArray = ls at hl ⊢
  have hl : lv_has ls 4 [(0, .ref (ad 0)), (1, .int l1), (2, .int l2)] := hl
  refine lv_iload_n hx hb dX5_weigh_0 rfl (lv_at hl 1 rfl) ?_
  refine lv_iconst (v := (2 : Int32)) hx hb dX5_weigh_1 (by decide) ?_
  refine lv_bipush (v := (9 : Int32)) hx hb dX5_weigh_2 (by decide) ?_
  obtain ⟨o3, ho4, hm⟩ := bd_s hm
  refine xr_i (wr := [((ad 0), e_X5 ad t), ((ad 1), e_X1 (ad 2) (ad 3) (ad 4) t_now), ((ad 19), eI cA 5 t_refusals)]) (wn := [((ad 0), e_X5 ad t), ((ad 1), e_X1 (ad 2) (ad 3) (ad 4) t_now), ((ad 19), eI cA 5 t_refusals)]) (va_runS (As := [.int l1, .int (2 : Int32), .int (9 : Int32)]) (rest := []) ⟨hx, hb, hml, hown, htg⟩ (c_X5_isWithin l D cA _ fu l1 (2 : Int32) (9 : Int32) o3 ho4) (cwS 3 htg (gS q_2_7 q_2_8 q_1_1 q_2_9) rfl rfl rfl hd_X5_isWithin ⟨Nat.le_of_ble_eq_true rfl, Nat.le_of_ble_eq_true rfl⟩) (xpS hN hK hP hD [] rfl (by decide)) rfl rfl hl.1 rfl (lv_room (Nat.le_of_ble_eq_true rfl)) dX5_weigh_4 ⟨Nat.zero_le _, Nat.zero_le _⟩) hP hD hS hA [] [0, 1, 2] [0, 1, 2] rfl rfl (by decide) (by decide) rfl (by decide) (fun H locs hP hD hS => ?_)
  refine lv_if_eq (tgt := 21) hx hb dX5_weigh_7 (by decide) (fun c5 => ?_) (fun c5 => ?_)
  · have hm := it_t c5 hm
    exact B_21 _ _ _ _ _ hm hP hD hS (lv_sub hl [0] rfl)
  · have hm := it_f c5 hm
    refine lv_iload_n hx hb dX5_weigh_10 rfl (lv_at hl 2 rfl) ?_
    refine lv_iconst (v := (0 : Int32)) hx hb dX5_weigh_11 (by decide) ?_
    refine lv_iload_n hx hb dX5_weigh_12 rfl (lv_at hl 1 rfl) ?_
    refine lv_iconst (v := (1 : Int32)) hx hb dX5_weigh_13 (by decide) ?_
    refine lv_isub hx hb dX5_weigh_14 ?_
    obtain ⟨o6, ho7, hm⟩ := bd_s hm
    refine xr_i (wr := [((ad 0), e_X5 ad t), ((ad 1), e_X1 (ad 2) (ad 3) (ad 4) t_now), ((ad 19), eI cA 5 t_refusals)]) (wn := [((ad 0), e_X5 ad t), ((ad 1), e_X1 (ad 2) (ad 3) (ad 4) t_now), ((ad 19), eI cA 5 t_refusals)]) (va_runS (As := [.int l2, .int (0 : Int32), .int (l1 - (1 : Int32))]) (rest := []) ⟨hx, hb, hml, hown, htg⟩ (c_X5_isWithin l D cA _ fu l2 (0 : Int32) (l1 - (1 : Int32)) o6 ho7) (cwS 3 htg (gS q_2_7 q_2_8 q_1_1 q_2_9) rfl rfl rfl hd_X5_isWithin ⟨Nat.le_of_ble_eq_true rfl, Nat.le_of_ble_eq_true rfl⟩) (xpS hN hK hP hD [] rfl (by decide)) rfl rfl hl.1 rfl (lv_room (Nat.le_of_ble_eq_true rfl)) dX5_weigh_15 ⟨Nat.zero_le _, Nat.zero_le _⟩) hP hD hS hA [] [0, 1, 2] [0, 1, 2] rfl rfl (by decide) (by decide) rfl (by decide) (fun H locs hP hD hS => ?_)
    refine lv_if_ne (tgt := 28) hx hb dX5_weigh_18 (by decide) (fun c8 => ?_) (fun c8 => ?_)
    · have hm := it_f c8 hm
      refine lv_bipush (v := (10 : Int32)) hx hb dX5_weigh_28 (by decide) ?_
      refine lv_aload_n hx hb dX5_weigh_30 rfl (lv_at hl 0 rfl) ?_
      refine va_get (D := D) (ci := 5) (v := .ref (ad 1)) (C := RX5) (T := TX5) (N := 17) hx hb htg inX5 hown hK hP 0 rfl rfl 0 (by decide) (htg _ q_1_188) (fun _ h9 => h9) rfl dX5_weigh_31 ?_
      refine va_getN (D := D) (ci := 1) (v := .int (t_now 3)) (C := RX1) (T := TX1) (N := 12) hx hb htg inX1 hown hK hP 1 rfl rfl 3 (by decide) (va_Nw.use rfl (hN _ q_1_46)) (fun _ h9 => h9) rfl dX5_weigh_34 ?_
      refine lv_imul hx hb dX5_weigh_37 ?_
      refine lv_aload_n hx hb dX5_weigh_38 rfl (lv_at hl 0 rfl) ?_
      refine va_get (D := D) (ci := 5) (v := .ref (ad 1)) (C := RX5) (T := TX5) (N := 17) hx hb htg inX5 hown hK hP 0 rfl rfl 0 (by decide) (htg _ q_1_188) (fun _ h9 => h9) rfl dX5_weigh_39 ?_
      refine va_getN (D := D) (ci := 1) (v := .int (t_now 4)) (C := RX1) (T := TX1) (N := 12) hx hb htg inX1 hown hK hP 1 rfl rfl 4 (by decide) (va_Nw.use rfl (hN _ q_1_50)) (fun _ h9 => h9) rfl dX5_weigh_42 ?_
      refine lv_iadd hx hb dX5_weigh_45 ?_
      refine lv_istore_n (lv' := [(3, .int (((10 : Int32) * t_now 3) + t_now 4)), (0, .ref (ad 0)), (1, .int l1), (2, .int l2)]) hx hb dX5_weigh_46 rfl hl (by decide) rfl (fun ls hl => ?_)
      refine lv_aload_n hx hb dX5_weigh_47 rfl (lv_at hl 1 rfl) ?_
      refine va_get (D := D) (ci := 5) (v := .ref (ad 1)) (C := RX5) (T := TX5) (N := 17) hx hb htg inX5 hown hK hP 0 rfl rfl 0 (by decide) (htg _ q_1_188) (fun _ h9 => h9) rfl dX5_weigh_48 ?_
      refine lv_iload_n hx hb dX5_weigh_51 rfl (lv_at hl 2 rfl) ?_
      refine va_putN (D := D) (ci := 1) (v := .int l1) (ty := .int) (C := RX1) (T := TX1) (N := 12) hx hb htg inX1 tyX1 tyX1_ok nmX1 hown hK hP hD hS 1 rfl rfl 3 (by decide) (va_Nw.use rfl (hN _ q_1_46)) (fun _ h9 => h9) rfl (by decide +kernel) rfl rfl (Nat.le_of_ble_eq_true rfl) dX5_weigh_52 (fun H locs (hP : va_P D CL [((ad 0), e_X5 ad t), ((ad 1), e_X1 (ad 2) (ad 3) (ad 4) (upd t_now 3 l1)), ((ad 19), eI cA 5 t_refusals)] H) (hD : va_D A [((ad 0), e_X5 ad t), ((ad 1), e_X1 (ad 2) (ad 3) (ad 4) (upd t_now 3 l1)), ((ad 19), eI cA 5 t_refusals)]) hS => ?_)
      refine lv_aload_n hx hb dX5_weigh_55 rfl (lv_at hl 1 rfl) ?_
      refine va_get (D := D) (ci := 5) (v := .ref (ad 1)) (C := RX5) (T := TX5) (N := 17) hx hb htg inX5 hown hK hP 0 rfl rfl 0 (by decide) (htg _ q_1_188) (fun _ h9 => h9) rfl dX5_weigh_56 ?_
      refine lv_iload_n hx hb dX5_weigh_59 rfl (lv_at hl 3 rfl) ?_
      refine va_putN (D := D) (ci := 1) (v := .int l2) (ty := .int) (C := RX1) (T := TX1) (N := 12) hx hb htg inX1 tyX1 tyX1_ok nmX1 hown hK hP hD hS 1 rfl rfl 4 (by decide) (va_Nw.use rfl (hN _ q_1_50)) (fun _ h9 => h9) rfl (by decide +kernel) rfl rfl (Nat.le_of_ble_eq_true rfl) dX5_weigh_60 (fun H locs (hP : va_P D CL [((ad 0), e_X5 ad t), ((ad 1), e_X1 (ad 2) (ad 3) (ad 4) (upd (upd t_now 3 l1) 4 l2)), ((ad 19), eI cA 5 t_refusals)] H) (hD : va_D A [((ad 0), e_X5 ad t), ((ad 1), e_X1 (ad 2) (ad 3) (ad 4) (upd (upd t_now 3 l1) 4 l2)), ((ad 19), eI cA 5 t_refusals)]) hS => ?_)
      refine lv_iload_n hx hb dX5_weigh_63 rfl (lv_at hl 0 rfl) ?_
      rw [hQ]
      exact W.iret (v := (((10 : Int32) * t_now 3) + t_now 4)) hx hb hr (fun t9 ht hW => ⟨⟨(((10 : Int32) * t_now 3) + t_now 4), ((upd (upd t_now 3 l1) 4 l2), t_refusals), rfl, (Option.some.inj hm), by rw [ht]; exact hP, va_K.moved hW.alike hK, hD⟩, hS.F ht⟩) hS.2.2 dX5_weigh_64
    · have hm := it_t c8 hm
      exact B_21 _ _ _ _ _ hm hP hD hS (lv_sub hl [0] rfl)
def m_X5_feed (fu : Nat) (t : Nat → Int32) (t_tape : Nat → Int32) (t_tape_bytes : Nat → Int32) (t_refusals : Nat → Int32) (l1 : Int32) : Option (Int32 × ((Nat → Int32) × (Nat → Int32) × (Nat → Int32))) :=
  (m_X5_isWithin fu l1 (0 : Int32) (255 : Int32)).bind fun o1 =>
  (if o1.1 = 0 then
    (m_X5_refuse fu t t_refusals (-2 : Int32)).bind fun o11 =>
    some (o11.1, (t_tape, t_tape_bytes, o11.2))
  else
    (m_X2_hasRoom fu t_tape).bind fun o4 =>
    (if o4.1 = 0 then
      (m_X5_refuse fu t t_refusals (-6 : Int32)).bind fun o9 =>
      some (o9.1, (t_tape, t_tape_bytes, o9.2))
    else
      (m_X2_put fu t_tape t_tape_bytes l1).bind fun o7 =>
      some (o7.1 1, (o7.1, o7.2, t_refusals))))
abbrev rm_X5_feed : Room := ({ frames := 2, cells := 0, slots := 0, locals := 44 } : Room)
abbrev w0_X5_feed (cA : Nat → ClassId) (ad : Nat → Nat) (t : Nat → Int32) (t_tape : Nat → Int32) (t_tape_bytes : Nat → Int32) (t_refusals : Nat → Int32) : va_W := [((ad 0), e_X5 ad t), ((ad 17), e_X2 (ad 18) t_tape), ((ad 18), eI cA 250 t_tape_bytes), ((ad 19), eI cA 5 t_refusals)]
abbrev w1_X5_feed (cA : Nat → ClassId) (ad : Nat → Nat) (t : Nat → Int32) (u : (Nat → Int32) × (Nat → Int32) × (Nat → Int32)) : va_W := [((ad 0), e_X5 ad t), ((ad 17), e_X2 (ad 18) u.1), ((ad 18), eI cA 250 u.2.1), ((ad 19), eI cA 5 u.2.2)]
theorem hd_X5_feed : yX5_feed.cls = RX5 ∧ yX5_feed.cls ≠ "java/lang/invoke/MethodHandle" ∧ yX5_feed.cls ≠ "java/lang/invoke/VarHandle" ∧ (parseMethodDescriptor yX5_feed.desc).map (fun d => d.parameters.length) = some 1 := by decide +kernel
set_option maxHeartbeats 40000000 in
set_option maxRecDepth 100000 in
theorem c_X5_feed (l : Launch) (D : va_G) (cA : Nat → ClassId) (sz : Nat) (fu : Nat) (ad : Nat → Nat) (t : Nat → Int32) (t_tape : Nat → Int32) (t_tape_bytes : Nat → Int32) (t_refusals : Nat → Int32) (l1 : Int32) (out : Int32 × ((Nat → Int32) × (Nat → Int32) × (Nat → Int32))) (hm : m_X5_feed fu t t_tape t_tape_bytes t_refusals l1 = some out) : MI l yX5_feed (wU yX5_feed cX5_feed 2 ((Option.some Jvm.ClassFile.FieldType.int))) rm_X5_feed D cA sz [.ref (ad 0), .int l1] (w0_X5_feed cA ad t t_tape t_tape_bytes t_refusals) out (w1_X5_feed cA ad t) := by
  refine Met.ofW (cc := cX5_feed) (maxL := 2) (ret := (Option.some Jvm.ClassFile.FieldType.int)) (by decide) rfl ?_
  intro p e s m args below meth c s₁ B hml hv
  obtain ⟨hargs, hsz, hP, hK, hD0, hN⟩ := hv
  have hx := B.exec
  have hb := B.bytes
  have hr := B.returns
  have htg : ∀ w ∈ gw, w.before args s = true := fun w h => atoms_spec (ws := wU yX5_feed cX5_feed 2 ((Option.some Jvm.ClassFile.FieldType.int))) B.pre w (List.mem_cons_of_mem _ h)
  have hown : s.vm.findClass RX5 = some m.cls := findClass_of_methodNamed B.named
  have hlocks := B.notSynchronized
  subst hsz
  have hD := hD0.self (sz := s.heap.size)
  have hA : ∀ q : Nat, s.heap.size ≤ q → va_A (w0_X5_feed cA ad t t_tape t_tape_bytes t_refusals) s.heap.size q := fun q h => Or.inr h
  have hS : va_S (va_A (w0_X5_feed cA ad t t_tape t_tape_bytes t_refusals) s.heap.size) s.heap s.heap [] := va_S.rf
  generalize va_A (w0_X5_feed cA ad t t_tape t_tape_bytes t_refusals) s.heap.size = A at hA hD hS ⊢
  obtain ⟨Q, hQ⟩ : ∃ Q : State → Prop, Q = MQ below (va_Qi (fun (r : Int32) (u : (Nat → Int32) × (Nat → Int32) × (Nat → Int32)) => (r, u) = out) (pst0 D cA A (w1_X5_feed cA ad t)) A) args s 0 0 A := ⟨_, rfl⟩
  refine (?_ : W p l e rm_X5_feed s m args below meth c s.heap [] 0 0 (MQ below (va_Qi (fun (r : Int32) (u : (Nat → Int32) × (Nat → Int32) × (Nat → Int32)) => (r, u) = out) (pst0 D cA A (w1_X5_feed cA ad t)) A) args s 0 0 A) (entryFrame m args 2))
  rw [← hQ]
  have hP : va_P D CL [((ad 0), e_X5 ad t), ((ad 17), e_X2 (ad 18) t_tape), ((ad 18), eI cA 250 t_tape_bytes), ((ad 19), eI cA 5 t_refusals)] s.heap := hP
  have hD : va_D A [((ad 0), e_X5 ad t), ((ad 17), e_X2 (ad 18) t_tape), ((ad 18), eI cA 250 t_tape_bytes), ((ad 19), eI cA 5 t_refusals)] := hD
  unfold m_X5_feed at hm
  subst hargs
  have hl := lv_entry ([.ref (ad 0), .int l1]) (n := 2) (Nat.le_of_ble_eq_true rfl)
  rw [lg_entry_eq]
  generalize (lg_sl ([.ref (ad 0), .int l1]) ++ List.replicate (2 - (lg_sl ([.ref (ad 0), .int l1])).length) Slot.unset).toArray = ls at hl ⊢
  have hl : lv_has ls 2 [(0, .ref (ad 0)), (1, .int l1)] := hl
  refine lv_iload_n hx hb dX5_feed_0 rfl (lv_at hl 1 rfl) ?_
  refine lv_iconst (v := (0 : Int32)) hx hb dX5_feed_1 (by decide) ?_
  refine lv_sipush (v := (255 : Int32)) hx hb dX5_feed_2 (by decide) ?_
  obtain ⟨o1, ho2, hm⟩ := bd_s hm
  refine xr_i (wr := [((ad 0), e_X5 ad t), ((ad 17), e_X2 (ad 18) t_tape), ((ad 18), eI cA 250 t_tape_bytes), ((ad 19), eI cA 5 t_refusals)]) (wn := [((ad 0), e_X5 ad t), ((ad 17), e_X2 (ad 18) t_tape), ((ad 18), eI cA 250 t_tape_bytes), ((ad 19), eI cA 5 t_refusals)]) (va_runS (As := [.int l1, .int (0 : Int32), .int (255 : Int32)]) (rest := []) ⟨hx, hb, hml, hown, htg⟩ (c_X5_isWithin l D cA _ fu l1 (0 : Int32) (255 : Int32) o1 ho2) (cwS 3 htg (gS q_2_7 q_2_8 q_1_1 q_2_9) rfl rfl rfl hd_X5_isWithin ⟨Nat.le_of_ble_eq_true rfl, Nat.le_of_ble_eq_true rfl⟩) (xpS hN hK hP hD [] rfl (by decide)) rfl rfl hl.1 rfl (lv_room (Nat.le_of_ble_eq_true rfl)) dX5_feed_5 ⟨Nat.zero_le _, Nat.zero_le _⟩) hP hD hS hA [] [0, 1, 2, 3] [0, 1, 2, 3] rfl rfl (by decide) (by decide) rfl (by decide) (fun H locs hP hD hS => ?_)
  refine lv_if_ne (tgt := 18) hx hb dX5_feed_8 (by decide) (fun c3 => ?_) (fun c3 => ?_)
  · have hm := it_f c3 hm
    refine lv_aload_n hx hb dX5_feed_18 rfl (lv_at hl 0 rfl) ?_
    refine va_get (D := D) (ci := 5) (v := .ref (ad 17)) (C := RX5) (T := TX5) (N := 17) hx hb htg inX5 hown hK hP 0 rfl rfl 5 (by decide) (htg _ q_1_193) (fun _ h9 => h9) rfl dX5_feed_19 ?_
    obtain ⟨o4, ho5, hm⟩ := bd_s hm
    refine xr_i (wr := [((ad 0), e_X5 ad t), ((ad 18), eI cA 250 t_tape_bytes), ((ad 19), eI cA 5 t_refusals)]) (wn := [((ad 0), e_X5 ad t), ((ad 17), e_X2 (ad 18) t_tape), ((ad 18), eI cA 250 t_tape_bytes), ((ad 19), eI cA 5 t_refusals)]) (va_runVN (As := []) (rest := []) ⟨hx, hb, hml, hown, htg⟩ (c_X2_hasRoom l D cA _ fu (ad 17) (ad 18) t_tape o4 ho5) ⟨va_cnB 0 htg (gU q_2_198) rfl rfl rfl (hN _ q_2_195) (htg _ q_1_5) hd_X2_hasRoom.2 ⟨Nat.le_of_ble_eq_true rfl, Nat.le_of_ble_eq_true rfl⟩, htg _ q_2_197, htg _ q_p2_12⟩ (xpV hN hK hP hD [1] rfl (by decide) rfl rfl) rfl rfl hl.1 rfl (lv_room (Nat.le_of_ble_eq_true rfl)) dX5_feed_22 ⟨Nat.zero_le _, Nat.zero_le _⟩) hP hD hS hA [1] [0, 2, 3] [0, 3, 1, 2] rfl rfl (by decide) (by decide) rfl (by decide) (fun H locs hP hD hS => ?_)
    refine lv_if_ne (tgt := 35) hx hb dX5_feed_25 (by decide) (fun c6 => ?_) (fun c6 => ?_)
    · have hm := it_f c6 hm
      refine lv_aload_n hx hb dX5_feed_35 rfl (lv_at hl 0 rfl) ?_
      refine va_get (D := D) (ci := 5) (v := .ref (ad 17)) (C := RX5) (T := TX5) (N := 17) hx hb htg inX5 hown hK hP 0 rfl rfl 5 (by decide) (htg _ q_1_193) (fun _ h9 => h9) rfl dX5_feed_36 ?_
      refine lv_iload_n hx hb dX5_feed_39 rfl (lv_at hl 1 rfl) ?_
      obtain ⟨o7, ho8, hm⟩ := bd_s hm
      refine xr_v (wr := [((ad 0), e_X5 ad t), ((ad 19), eI cA 5 t_refusals)]) (wn := [((ad 0), e_X5 ad t), ((ad 17), e_X2 (ad 18) o7.1), ((ad 18), eI cA 250 o7.2), ((ad 19), eI cA 5 t_refusals)]) (va_runVN (As := [.int l1]) (rest := []) ⟨hx, hb, hml, hown, htg⟩ (c_X2_put l D cA _ fu (ad 17) (ad 18) t_tape t_tape_bytes l1 o7 ho8) ⟨va_cnB 1 htg (gU q_2_202) rfl rfl rfl (hN _ q_2_199) (htg _ q_1_5) hd_X2_put.2 ⟨Nat.le_of_ble_eq_true rfl, Nat.le_of_ble_eq_true rfl⟩, htg _ q_2_201, htg _ q_p2_13⟩ (xpV hN hK hP hD [1, 2] rfl (by decide) rfl rfl) rfl rfl hl.1 rfl (lv_room (Nat.le_of_ble_eq_true rfl)) dX5_feed_40 ⟨Nat.zero_le _, Nat.zero_le _⟩) hP hD hS hA [1, 2] [0, 3] [0, 2, 3, 1] rfl rfl (by decide) (by decide) rfl (by decide) (fun H locs hP hD hS => ?_)
      refine lv_aload_n hx hb dX5_feed_43 rfl (lv_at hl 0 rfl) ?_
      refine va_get (D := D) (ci := 5) (v := .ref (ad 17)) (C := RX5) (T := TX5) (N := 17) hx hb htg inX5 hown hK hP 0 rfl rfl 5 (by decide) (htg _ q_1_193) (fun _ h9 => h9) rfl dX5_feed_44 ?_
      refine va_getN (D := D) (ci := 2) (v := .int (o7.1 1)) (C := RX2) (T := TX2) (N := 5) hx hb htg inX2 hown hK hP 1 rfl rfl 1 (by decide) (va_Nw.use rfl (hN _ q_1_117)) (fun _ h9 => h9) rfl dX5_feed_47 ?_
      rw [hQ]
      exact W.iret (v := o7.1 1) hx hb hr (fun t9 ht hW => ⟨⟨o7.1 1, (o7.1, o7.2, t_refusals), rfl, (Option.some.inj hm), by rw [ht]; exact hP, va_K.moved hW.alike hK, hD⟩, hS.F ht⟩) hS.2.2 dX5_feed_50
    · have hm := it_t c6 hm
      refine lv_aload_n hx hb dX5_feed_28 rfl (lv_at hl 0 rfl) ?_
      refine lv_bipush (v := (-6 : Int32)) hx hb dX5_feed_29 (by decide) ?_
      obtain ⟨o9, ho10, hm⟩ := bd_s hm
      refine xr_i (wr := [((ad 17), e_X2 (ad 18) t_tape), ((ad 18), eI cA 250 t_tape_bytes)]) (wn := [((ad 0), e_X5 ad t), ((ad 17), e_X2 (ad 18) t_tape), ((ad 18), eI cA 250 t_tape_bytes), ((ad 19), eI cA 5 o9.2)]) (va_runV (As := [.int (-6 : Int32)]) (rest := []) ⟨hx, hb, hml, hown, htg⟩ (c_X5_refuse l D cA _ fu ad t t_refusals (-6 : Int32) o9 ho10) (cwV 1 htg (gV q_2_10 q_2_12 q_p1_0 q_1_1 q_2_13) rfl rfl rfl hd_X5_refuse ⟨Nat.le_of_ble_eq_true rfl, Nat.le_of_ble_eq_true rfl⟩) (xpV hN hK hP hD [0, 3] rfl (by decide) rfl rfl) rfl rfl hl.1 rfl (lv_room (Nat.le_of_ble_eq_true rfl)) dX5_feed_31 ⟨Nat.zero_le _, Nat.zero_le _⟩) hP hD hS hA [0, 3] [1, 2] [2, 0, 1, 3] rfl rfl (by decide) (by decide) rfl (by decide) (fun H locs hP hD hS => ?_)
      rw [hQ]
      exact W.iret (v := o9.1) hx hb hr (fun t9 ht hW => ⟨⟨o9.1, (t_tape, t_tape_bytes, o9.2), rfl, (Option.some.inj hm), by rw [ht]; exact hP, va_K.moved hW.alike hK, hD⟩, hS.F ht⟩) hS.2.2 dX5_feed_34
  · have hm := it_t c3 hm
    refine lv_aload_n hx hb dX5_feed_11 rfl (lv_at hl 0 rfl) ?_
    refine lv_bipush (v := (-2 : Int32)) hx hb dX5_feed_12 (by decide) ?_
    obtain ⟨o11, ho12, hm⟩ := bd_s hm
    refine xr_i (wr := [((ad 17), e_X2 (ad 18) t_tape), ((ad 18), eI cA 250 t_tape_bytes)]) (wn := [((ad 0), e_X5 ad t), ((ad 17), e_X2 (ad 18) t_tape), ((ad 18), eI cA 250 t_tape_bytes), ((ad 19), eI cA 5 o11.2)]) (va_runV (As := [.int (-2 : Int32)]) (rest := []) ⟨hx, hb, hml, hown, htg⟩ (c_X5_refuse l D cA _ fu ad t t_refusals (-2 : Int32) o11 ho12) (cwV 1 htg (gV q_2_10 q_2_12 q_p1_0 q_1_1 q_2_13) rfl rfl rfl hd_X5_refuse ⟨Nat.le_of_ble_eq_true rfl, Nat.le_of_ble_eq_true rfl⟩) (xpV hN hK hP hD [0, 3] rfl (by decide) rfl rfl) rfl rfl hl.1 rfl (lv_room (Nat.le_of_ble_eq_true rfl)) dX5_feed_14 ⟨Nat.zero_le _, Nat.zero_le _⟩) hP hD hS hA [0, 3] [1, 2] [2, 0, 1, 3] rfl rfl (by decide) (by decide) rfl (by decide) (fun H locs hP hD hS => ?_)
    rw [hQ]
    exact W.iret (v := o11.1) hx hb hr (fun t9 ht hW => ⟨⟨o11.1, (t_tape, t_tape_bytes, o11.2), rfl, (Option.some.inj hm), by rw [ht]; exact hP, va_K.moved hW.alike hK, hD⟩, hS.F ht⟩) hS.2.2 dX5_feed_17
def m_X5_wipe (fu : Nat) (t : Nat → Int32) (t_tape : Nat → Int32) : Option (Int32 × (Nat → Int32)) :=
  some (t_tape 1, (upd t_tape 1 (0 : Int32)))
abbrev rm_X5_wipe : Room := ({ frames := 0, cells := 0, slots := 0, locals := 0 } : Room)
abbrev w0_X5_wipe (cA : Nat → ClassId) (ad : Nat → Nat) (t : Nat → Int32) (t_tape : Nat → Int32) : va_W := [((ad 0), e_X5 ad t), ((ad 17), e_X2 (ad 18) t_tape)]
abbrev w1_X5_wipe (cA : Nat → ClassId) (ad : Nat → Nat) (t : Nat → Int32) (u : (Nat → Int32)) : va_W := [((ad 0), e_X5 ad t), ((ad 17), e_X2 (ad 18) u)]
theorem hd_X5_wipe : yX5_wipe.cls = RX5 ∧ yX5_wipe.cls ≠ "java/lang/invoke/MethodHandle" ∧ yX5_wipe.cls ≠ "java/lang/invoke/VarHandle" ∧ (parseMethodDescriptor yX5_wipe.desc).map (fun d => d.parameters.length) = some 0 := by decide +kernel
set_option maxHeartbeats 40000000 in
set_option maxRecDepth 100000 in
theorem c_X5_wipe (l : Launch) (D : va_G) (cA : Nat → ClassId) (sz : Nat) (fu : Nat) (ad : Nat → Nat) (t : Nat → Int32) (t_tape : Nat → Int32) (out : Int32 × (Nat → Int32)) (hm : m_X5_wipe fu t t_tape = some out) : MI l yX5_wipe (wU yX5_wipe cX5_wipe 2 ((Option.some Jvm.ClassFile.FieldType.int))) rm_X5_wipe D cA sz [.ref (ad 0)] (w0_X5_wipe cA ad t t_tape) out (w1_X5_wipe cA ad t) := by
  refine Met.ofW (cc := cX5_wipe) (maxL := 2) (ret := (Option.some Jvm.ClassFile.FieldType.int)) (by decide) rfl ?_
  intro p e s m args below meth c s₁ B hml hv
  obtain ⟨hargs, hsz, hP, hK, hD0, hN⟩ := hv
  have hx := B.exec
  have hb := B.bytes
  have hr := B.returns
  have htg : ∀ w ∈ gw, w.before args s = true := fun w h => atoms_spec (ws := wU yX5_wipe cX5_wipe 2 ((Option.some Jvm.ClassFile.FieldType.int))) B.pre w (List.mem_cons_of_mem _ h)
  have hown : s.vm.findClass RX5 = some m.cls := findClass_of_methodNamed B.named
  have hlocks := B.notSynchronized
  subst hsz
  have hD := hD0.self (sz := s.heap.size)
  have hA : ∀ q : Nat, s.heap.size ≤ q → va_A (w0_X5_wipe cA ad t t_tape) s.heap.size q := fun q h => Or.inr h
  have hS : va_S (va_A (w0_X5_wipe cA ad t t_tape) s.heap.size) s.heap s.heap [] := va_S.rf
  generalize va_A (w0_X5_wipe cA ad t t_tape) s.heap.size = A at hA hD hS ⊢
  obtain ⟨Q, hQ⟩ : ∃ Q : State → Prop, Q = MQ below (va_Qi (fun (r : Int32) (u : (Nat → Int32)) => (r, u) = out) (pst0 D cA A (w1_X5_wipe cA ad t)) A) args s 0 0 A := ⟨_, rfl⟩
  refine (?_ : W p l e rm_X5_wipe s m args below meth c s.heap [] 0 0 (MQ below (va_Qi (fun (r : Int32) (u : (Nat → Int32)) => (r, u) = out) (pst0 D cA A (w1_X5_wipe cA ad t)) A) args s 0 0 A) (entryFrame m args 2))
  rw [← hQ]
  have hP : va_P D CL [((ad 0), e_X5 ad t), ((ad 17), e_X2 (ad 18) t_tape)] s.heap := hP
  have hD : va_D A [((ad 0), e_X5 ad t), ((ad 17), e_X2 (ad 18) t_tape)] := hD
  unfold m_X5_wipe at hm
  subst hargs
  have hl := lv_entry ([.ref (ad 0)]) (n := 2) (Nat.le_of_ble_eq_true rfl)
  rw [lg_entry_eq]
  generalize (lg_sl ([.ref (ad 0)]) ++ List.replicate (2 - (lg_sl ([.ref (ad 0)])).length) Slot.unset).toArray = ls at hl ⊢
  have hl : lv_has ls 2 [(0, .ref (ad 0))] := hl
  refine lv_aload_n hx hb dX5_wipe_0 rfl (lv_at hl 0 rfl) ?_
  refine va_get (D := D) (ci := 5) (v := .ref (ad 17)) (C := RX5) (T := TX5) (N := 17) hx hb htg inX5 hown hK hP 0 rfl rfl 5 (by decide) (htg _ q_1_193) (fun _ h9 => h9) rfl dX5_wipe_1 ?_
  refine va_getN (D := D) (ci := 2) (v := .int (t_tape 1)) (C := RX2) (T := TX2) (N := 5) hx hb htg inX2 hown hK hP 1 rfl rfl 1 (by decide) (va_Nw.use rfl (hN _ q_1_117)) (fun _ h9 => h9) rfl dX5_wipe_4 ?_
  refine lv_istore_n (lv' := [(1, .int (t_tape 1)), (0, .ref (ad 0))]) hx hb dX5_wipe_7 rfl hl (by decide) rfl (fun ls hl => ?_)
  refine lv_aload_n hx hb dX5_wipe_8 rfl (lv_at hl 1 rfl) ?_
  refine va_get (D := D) (ci := 5) (v := .ref (ad 17)) (C := RX5) (T := TX5) (N := 17) hx hb htg inX5 hown hK hP 0 rfl rfl 5 (by decide) (htg _ q_1_193) (fun _ h9 => h9) rfl dX5_wipe_9 ?_
  refine lv_iconst (v := (0 : Int32)) hx hb dX5_wipe_12 (by decide) ?_
  refine va_putN (D := D) (ci := 2) (v := .int (0 : Int32)) (ty := .int) (C := RX2) (T := TX2) (N := 5) hx hb htg inX2 tyX2 tyX2_ok nmX2 hown hK hP hD hS 1 rfl rfl 1 (by decide) (va_Nw.use rfl (hN _ q_1_117)) (fun _ h9 => h9) rfl (by decide +kernel) rfl rfl (Nat.le_of_ble_eq_true rfl) dX5_wipe_13 (fun H locs (hP : va_P D CL [((ad 0), e_X5 ad t), ((ad 17), e_X2 (ad 18) (upd t_tape 1 (0 : Int32)))] H) (hD : va_D A [((ad 0), e_X5 ad t), ((ad 17), e_X2 (ad 18) (upd t_tape 1 (0 : Int32)))]) hS => ?_)
  refine lv_iload_n hx hb dX5_wipe_16 rfl (lv_at hl 0 rfl) ?_
  rw [hQ]
  exact W.iret (v := t_tape 1) hx hb hr (fun t9 ht hW => ⟨⟨t_tape 1, (upd t_tape 1 (0 : Int32)), rfl, (Option.some.inj hm), by rw [ht]; exact hP, va_K.moved hW.alike hK, hD⟩, hS.F ht⟩) hS.2.2 dX5_wipe_17
def b_X5_voiceOf_17 (fu : Nat) (t : Nat → Int32) (t_now : Nat → Int32) (t_now_kinds : Nat → Int32) (t_now_as : Nat → Int32) (t_now_pitches : Nat → Int32) (t_refusals : Nat → Int32) (t_trial : Nat → Int32) : Option (Int32 × ((Nat → Int32) × (Nat → Int32))) :=
  (m_X5_refuse fu t t_refusals (-2 : Int32)).bind fun o1 =>
    some (o1.1, (o1.2, t_trial))
def m_X5_voiceOf (fu : Nat) (t : Nat → Int32) (t_now : Nat → Int32) (t_now_kinds : Nat → Int32) (t_now_as : Nat → Int32) (t_now_pitches : Nat → Int32) (t_refusals : Nat → Int32) (t_trial : Nat → Int32) (l1 : Int32) (l2 : Int32) : Option (Int32 × ((Nat → Int32) × (Nat → Int32))) :=
  (m_X5_isVoice fu t t_now l1).bind fun o3 =>
  (if o3.1 = 0 then
    b_X5_voiceOf_17 fu t t_now t_now_kinds t_now_as t_now_pitches t_refusals t_trial
  else
    (m_X5_isWithin fu l2 (0 : Int32) (3 : Int32)).bind fun o6 =>
    (if o6.1 = 0 then
      b_X5_voiceOf_17 fu t t_now t_now_kinds t_now_as t_now_pitches t_refusals t_trial
    else
      (if l2 = (0 : Int32) then
        (m_X1_kindOf fu t_now t_now_kinds l1).bind fun o10 =>
        some (o10.1, (t_refusals, t_trial))
      else (if l2 = (1 : Int32) then
        (m_X1_aOf fu t_now t_now_as l1).bind fun o13 =>
        some (o13.1, (t_refusals, t_trial))
      else (if l2 = (2 : Int32) then
        (m_X1_pitchOf fu t_now t_now_pitches l1).bind fun o16 =>
        some (o16.1, (t_refusals, t_trial))
      else (m_X3_standsFor fu t_trial t_now t_now_kinds t_now_pitches l1).bind fun o18 =>
      (m_X3_pitchToday fu o18).bind fun o20 =>
      some (o20.1, (t_refusals, o18)))))))
abbrev rm_X5_voiceOf : Room := ({ frames := 3, cells := 0, slots := 0, locals := 65 } : Room)
abbrev w0_X5_voiceOf (cA : Nat → ClassId) (ad : Nat → Nat) (t : Nat → Int32) (t_now : Nat → Int32) (t_now_kinds : Nat → Int32) (t_now_as : Nat → Int32) (t_now_pitches : Nat → Int32) (t_refusals : Nat → Int32) (t_trial : Nat → Int32) : va_W := [((ad 0), e_X5 ad t), ((ad 1), e_X1 (ad 2) (ad 3) (ad 4) t_now), ((ad 2), eI cA 8 t_now_kinds), ((ad 3), eI cA 8 t_now_as), ((ad 4), eI cA 8 t_now_pitches), ((ad 19), eI cA 5 t_refusals), ((ad 20), e_X3 (ad 21) t_trial)]
abbrev w1_X5_voiceOf (cA : Nat → ClassId) (ad : Nat → Nat) (t : Nat → Int32) (t_now : Nat → Int32) (t_now_kinds : Nat → Int32) (t_now_as : Nat → Int32) (t_now_pitches : Nat → Int32) (u : (Nat → Int32) × (Nat → Int32)) : va_W := [((ad 0), e_X5 ad t), ((ad 1), e_X1 (ad 2) (ad 3) (ad 4) t_now), ((ad 2), eI cA 8 t_now_kinds), ((ad 3), eI cA 8 t_now_as), ((ad 4), eI cA 8 t_now_pitches), ((ad 19), eI cA 5 u.1), ((ad 20), e_X3 (ad 21) u.2)]
theorem hd_X5_voiceOf : yX5_voiceOf.cls = RX5 ∧ yX5_voiceOf.cls ≠ "java/lang/invoke/MethodHandle" ∧ yX5_voiceOf.cls ≠ "java/lang/invoke/VarHandle" ∧ (parseMethodDescriptor yX5_voiceOf.desc).map (fun d => d.parameters.length) = some 2 := by decide +kernel
set_option maxHeartbeats 40000000 in
set_option maxRecDepth 100000 in
theorem c_X5_voiceOf (l : Launch) (D : va_G) (cA : Nat → ClassId) (sz : Nat) (fu : Nat) (ad : Nat → Nat) (t : Nat → Int32) (t_now : Nat → Int32) (t_now_kinds : Nat → Int32) (t_now_as : Nat → Int32) (t_now_pitches : Nat → Int32) (t_refusals : Nat → Int32) (t_trial : Nat → Int32) (l1 : Int32) (l2 : Int32) (out : Int32 × ((Nat → Int32) × (Nat → Int32))) (hm : m_X5_voiceOf fu t t_now t_now_kinds t_now_as t_now_pitches t_refusals t_trial l1 l2 = some out) : MI l yX5_voiceOf (wU yX5_voiceOf cX5_voiceOf 3 ((Option.some Jvm.ClassFile.FieldType.int))) rm_X5_voiceOf D cA sz [.ref (ad 0), .int l1, .int l2] (w0_X5_voiceOf cA ad t t_now t_now_kinds t_now_as t_now_pitches t_refusals t_trial) out (w1_X5_voiceOf cA ad t t_now t_now_kinds t_now_as t_now_pitches) := by
  refine Met.ofW (cc := cX5_voiceOf) (maxL := 3) (ret := (Option.some Jvm.ClassFile.FieldType.int)) (by decide) rfl ?_
  intro p e s m args below meth c s₁ B hml hv
  obtain ⟨hargs, hsz, hP, hK, hD0, hN⟩ := hv
  have hx := B.exec
  have hb := B.bytes
  have hr := B.returns
  have htg : ∀ w ∈ gw, w.before args s = true := fun w h => atoms_spec (ws := wU yX5_voiceOf cX5_voiceOf 3 ((Option.some Jvm.ClassFile.FieldType.int))) B.pre w (List.mem_cons_of_mem _ h)
  have hown : s.vm.findClass RX5 = some m.cls := findClass_of_methodNamed B.named
  have hlocks := B.notSynchronized
  subst hsz
  have hD := hD0.self (sz := s.heap.size)
  have hA : ∀ q : Nat, s.heap.size ≤ q → va_A (w0_X5_voiceOf cA ad t t_now t_now_kinds t_now_as t_now_pitches t_refusals t_trial) s.heap.size q := fun q h => Or.inr h
  have hS : va_S (va_A (w0_X5_voiceOf cA ad t t_now t_now_kinds t_now_as t_now_pitches t_refusals t_trial) s.heap.size) s.heap s.heap [] := va_S.rf
  generalize va_A (w0_X5_voiceOf cA ad t t_now t_now_kinds t_now_as t_now_pitches t_refusals t_trial) s.heap.size = A at hA hD hS ⊢
  obtain ⟨Q, hQ⟩ : ∃ Q : State → Prop, Q = MQ below (va_Qi (fun (r : Int32) (u : (Nat → Int32) × (Nat → Int32)) => (r, u) = out) (pst0 D cA A (w1_X5_voiceOf cA ad t t_now t_now_kinds t_now_as t_now_pitches)) A) args s 0 0 A := ⟨_, rfl⟩
  refine (?_ : W p l e rm_X5_voiceOf s m args below meth c s.heap [] 0 0 (MQ below (va_Qi (fun (r : Int32) (u : (Nat → Int32) × (Nat → Int32)) => (r, u) = out) (pst0 D cA A (w1_X5_voiceOf cA ad t t_now t_now_kinds t_now_as t_now_pitches)) A) args s 0 0 A) (entryFrame m args 3))
  rw [← hQ]
  have hP : va_P D CL [((ad 0), e_X5 ad t), ((ad 1), e_X1 (ad 2) (ad 3) (ad 4) t_now), ((ad 2), eI cA 8 t_now_kinds), ((ad 3), eI cA 8 t_now_as), ((ad 4), eI cA 8 t_now_pitches), ((ad 19), eI cA 5 t_refusals), ((ad 20), e_X3 (ad 21) t_trial)] s.heap := hP
  have hD : va_D A [((ad 0), e_X5 ad t), ((ad 1), e_X1 (ad 2) (ad 3) (ad 4) t_now), ((ad 2), eI cA 8 t_now_kinds), ((ad 3), eI cA 8 t_now_as), ((ad 4), eI cA 8 t_now_pitches), ((ad 19), eI cA 5 t_refusals), ((ad 20), e_X3 (ad 21) t_trial)] := hD
  have B_17 : ∀ (t_refusals : Nat → Int32) (t_trial : Nat → Int32) (H : Heap) (locs : List Loc) (ls : Array Slot), b_X5_voiceOf_17 fu t t_now t_now_kinds t_now_as t_now_pitches t_refusals t_trial = some out → va_P D CL [((ad 0), e_X5 ad t), ((ad 1), e_X1 (ad 2) (ad 3) (ad 4) t_now), ((ad 2), eI cA 8 t_now_kinds), ((ad 3), eI cA 8 t_now_as), ((ad 4), eI cA 8 t_now_pitches), ((ad 19), eI cA 5 t_refusals), ((ad 20), e_X3 (ad 21) t_trial)] H → va_D A [((ad 0), e_X5 ad t), ((ad 1), e_X1 (ad 2) (ad 3) (ad 4) t_now), ((ad 2), eI cA 8 t_now_kinds), ((ad 3), eI cA 8 t_now_as), ((ad 4), eI cA 8 t_now_pitches), ((ad 19), eI cA 5 t_refusals), ((ad 20), e_X3 (ad 21) t_trial)] → va_S A s.heap H locs → lv_has ls 3 [(0, .ref (ad 0))] → W p l e rm_X5_voiceOf s m args below meth c H locs 0 0 Q (F0 m 17 ls []) := by
    intro  t_refusals t_trial H locs ls hm hP hD hS hl
    unfold b_X5_voiceOf_17 at hm
    refine lv_aload_n hx hb dX5_voiceOf_17 rfl (lv_at hl 0 rfl) ?_
    refine lv_bipush (v := (-2 : Int32)) hx hb dX5_voiceOf_18 (by decide) ?_
    obtain ⟨o1, ho2, hm⟩ := bd_s hm
    refine xr_i (wr := [((ad 1), e_X1 (ad 2) (ad 3) (ad 4) t_now), ((ad 2), eI cA 8 t_now_kinds), ((ad 3), eI cA 8 t_now_as), ((ad 4), eI cA 8 t_now_pitches), ((ad 20), e_X3 (ad 21) t_trial)]) (wn := [((ad 0), e_X5 ad t), ((ad 1), e_X1 (ad 2) (ad 3) (ad 4) t_now), ((ad 2), eI cA 8 t_now_kinds), ((ad 3), eI cA 8 t_now_as), ((ad 4), eI cA 8 t_now_pitches), ((ad 19), eI cA 5 o1.2), ((ad 20), e_X3 (ad 21) t_trial)]) (va_runV (As := [.int (-2 : Int32)]) (rest := []) ⟨hx, hb, hml, hown, htg⟩ (c_X5_refuse l D cA _ fu ad t t_refusals (-2 : Int32) o1 ho2) (cwV 1 htg (gV q_2_10 q_2_12 q_p1_0 q_1_1 q_2_13) rfl rfl rfl hd_X5_refuse ⟨Nat.le_of_ble_eq_true rfl, Nat.le_of_ble_eq_true rfl⟩) (xpV hN hK hP hD [0, 5] rfl (by decide) rfl rfl) rfl rfl hl.1 rfl (lv_room (Nat.le_of_ble_eq_true rfl)) dX5_voiceOf_20 ⟨Nat.zero_le _, Nat.zero_le _⟩) hP hD hS hA [0, 5] [1, 2, 3, 4, 6] [5, 0, 1, 2, 3, 6, 4] rfl rfl (by decide) (by decide) rfl (by decide) (fun H locs hP hD hS => ?_)
    rw [hQ]
    exact W.iret (v := o1.1) hx hb hr (fun t9 ht hW => ⟨⟨o1.1, (o1.2, t_trial), rfl, (Option.some.inj hm), by rw [ht]; exact hP, va_K.moved hW.alike hK, hD⟩, hS.F ht⟩) hS.2.2 dX5_voiceOf_23
  unfold m_X5_voiceOf at hm
  subst hargs
  have hl := lv_entry ([.ref (ad 0), .int l1, .int l2]) (n := 3) (Nat.le_of_ble_eq_true rfl)
  rw [lg_entry_eq]
  generalize (lg_sl ([.ref (ad 0), .int l1, .int l2]) ++ List.replicate (3 - (lg_sl ([.ref (ad 0), .int l1, .int l2])).length) Slot.unset).toArray = ls at hl ⊢
  have hl : lv_has ls 3 [(0, .ref (ad 0)), (1, .int l1), (2, .int l2)] := hl
  refine lv_aload_n hx hb dX5_voiceOf_0 rfl (lv_at hl 0 rfl) ?_
  refine lv_iload_n hx hb dX5_voiceOf_1 rfl (lv_at hl 1 rfl) ?_
  obtain ⟨o3, ho4, hm⟩ := bd_s hm
  refine xr_i (wr := [((ad 2), eI cA 8 t_now_kinds), ((ad 3), eI cA 8 t_now_as), ((ad 4), eI cA 8 t_now_pitches), ((ad 19), eI cA 5 t_refusals), ((ad 20), e_X3 (ad 21) t_trial)]) (wn := [((ad 0), e_X5 ad t), ((ad 1), e_X1 (ad 2) (ad 3) (ad 4) t_now), ((ad 2), eI cA 8 t_now_kinds), ((ad 3), eI cA 8 t_now_as), ((ad 4), eI cA 8 t_now_pitches), ((ad 19), eI cA 5 t_refusals), ((ad 20), e_X3 (ad 21) t_trial)]) (va_runV (As := [.int l1]) (rest := []) ⟨hx, hb, hml, hown, htg⟩ (c_X5_isVoice l D cA _ fu ad t t_now l1 o3 ho4) (cwV 1 htg (gV q_2_87 q_2_89 q_p1_10 q_1_1 q_2_90) rfl rfl rfl hd_X5_isVoice ⟨Nat.le_of_ble_eq_true rfl, Nat.le_of_ble_eq_true rfl⟩) (xpV hN hK hP hD [0, 1] rfl (by decide) rfl rfl) rfl rfl hl.1 rfl (lv_room (Nat.le_of_ble_eq_true rfl)) dX5_voiceOf_2 ⟨Nat.zero_le _, Nat.zero_le _⟩) hP hD hS hA [0, 1] [2, 3, 4, 5, 6] [5, 6, 0, 1, 2, 3, 4] rfl rfl (by decide) (by decide) rfl (by decide) (fun H locs hP hD hS => ?_)
  refine lv_if_eq (tgt := 17) hx hb dX5_voiceOf_5 (by decide) (fun c5 => ?_) (fun c5 => ?_)
  · have hm := it_t c5 hm
    exact B_17 _ _ _ _ _ hm hP hD hS (lv_sub hl [0] rfl)
  · have hm := it_f c5 hm
    refine lv_iload_n hx hb dX5_voiceOf_8 rfl (lv_at hl 2 rfl) ?_
    refine lv_iconst (v := (0 : Int32)) hx hb dX5_voiceOf_9 (by decide) ?_
    refine lv_iconst (v := (3 : Int32)) hx hb dX5_voiceOf_10 (by decide) ?_
    obtain ⟨o6, ho7, hm⟩ := bd_s hm
    refine xr_i (wr := [((ad 0), e_X5 ad t), ((ad 1), e_X1 (ad 2) (ad 3) (ad 4) t_now), ((ad 2), eI cA 8 t_now_kinds), ((ad 3), eI cA 8 t_now_as), ((ad 4), eI cA 8 t_now_pitches), ((ad 19), eI cA 5 t_refusals), ((ad 20), e_X3 (ad 21) t_trial)]) (wn := [((ad 0), e_X5 ad t), ((ad 1), e_X1 (ad 2) (ad 3) (ad 4) t_now), ((ad 2), eI cA 8 t_now_kinds), ((ad 3), eI cA 8 t_now_as), ((ad 4), eI cA 8 t_now_pitches), ((ad 19), eI cA 5 t_refusals), ((ad 20), e_X3 (ad 21) t_trial)]) (va_runS (As := [.int l2, .int (0 : Int32), .int (3 : Int32)]) (rest := []) ⟨hx, hb, hml, hown, htg⟩ (c_X5_isWithin l D cA _ fu l2 (0 : Int32) (3 : Int32) o6 ho7) (cwS 3 htg (gS q_2_7 q_2_8 q_1_1 q_2_9) rfl rfl rfl hd_X5_isWithin ⟨Nat.le_of_ble_eq_true rfl, Nat.le_of_ble_eq_true rfl⟩) (xpS hN hK hP hD [] rfl (by decide)) rfl rfl hl.1 rfl (lv_room (Nat.le_of_ble_eq_true rfl)) dX5_voiceOf_11 ⟨Nat.zero_le _, Nat.zero_le _⟩) hP hD hS hA [] [0, 1, 2, 3, 4, 5, 6] [0, 1, 2, 3, 4, 5, 6] rfl rfl (by decide) (by decide) rfl (by decide) (fun H locs hP hD hS => ?_)
    refine lv_if_ne (tgt := 24) hx hb dX5_voiceOf_14 (by decide) (fun c8 => ?_) (fun c8 => ?_)
    · have hm := it_f c8 hm
      refine lv_iload_n hx hb dX5_voiceOf_24 rfl (lv_at hl 2 rfl) ?_
      by_cases c9 : l2 = (0 : Int32)
      · have hm := it_t c9 hm
        have he : (l2).toInt = 0 := by rw [c9]; decide
        refine lv_tableIn (tgt := 52) (off := 27) hx hb dX5_voiceOf_25 (by rw [he]; decide) (by rw [he]; decide) (by rw [he]; rfl) (by decide) ?_
        refine lv_aload_n hx hb dX5_voiceOf_52 rfl (lv_at hl 0 rfl) ?_
        refine va_get (D := D) (ci := 5) (v := .ref (ad 1)) (C := RX5) (T := TX5) (N := 17) hx hb htg inX5 hown hK hP 0 rfl rfl 0 (by decide) (htg _ q_1_188) (fun _ h9 => h9) rfl dX5_voiceOf_53 ?_
        refine lv_iload_n hx hb dX5_voiceOf_56 rfl (lv_at hl 1 rfl) ?_
        obtain ⟨o10, ho11, hm⟩ := bd_s hm
        refine xr_i (wr := [((ad 0), e_X5 ad t), ((ad 3), eI cA 8 t_now_as), ((ad 4), eI cA 8 t_now_pitches), ((ad 19), eI cA 5 t_refusals), ((ad 20), e_X3 (ad 21) t_trial)]) (wn := [((ad 0), e_X5 ad t), ((ad 1), e_X1 (ad 2) (ad 3) (ad 4) t_now), ((ad 2), eI cA 8 t_now_kinds), ((ad 3), eI cA 8 t_now_as), ((ad 4), eI cA 8 t_now_pitches), ((ad 19), eI cA 5 t_refusals), ((ad 20), e_X3 (ad 21) t_trial)]) (va_runVN (As := [.int l1]) (rest := []) ⟨hx, hb, hml, hown, htg⟩ (c_X1_kindOf l D cA _ fu (ad 1) (ad 2) (ad 3) (ad 4) t_now t_now_kinds l1 o10 ho11) ⟨va_cnB 1 htg (gU q_2_105) rfl rfl rfl (hN _ q_2_102) (htg _ q_1_2) hd_X1_kindOf.2 ⟨Nat.le_of_ble_eq_true rfl, Nat.le_of_ble_eq_true rfl⟩, htg _ q_2_104, htg _ q_p1_12⟩ (xpV hN hK hP hD [1, 2] rfl (by decide) rfl rfl) rfl rfl hl.1 rfl (lv_room (Nat.le_of_ble_eq_true rfl)) dX5_voiceOf_57 ⟨Nat.zero_le _, Nat.zero_le _⟩) hP hD hS hA [1, 2] [0, 3, 4, 5, 6] [0, 5, 6, 1, 2, 3, 4] rfl rfl (by decide) (by decide) rfl (by decide) (fun H locs hP hD hS => ?_)
        rw [hQ]
        exact W.iret (v := o10.1) hx hb hr (fun t9 ht hW => ⟨⟨o10.1, (t_refusals, t_trial), rfl, (Option.some.inj hm), by rw [ht]; exact hP, va_K.moved hW.alike hK, hD⟩, hS.F ht⟩) hS.2.2 dX5_voiceOf_60
      have hm := it_f c9 hm
      by_cases c12 : l2 = (1 : Int32)
      · have hm := it_t c12 hm
        have he : (l2).toInt = 1 := by rw [c12]; decide
        refine lv_tableIn (tgt := 61) (off := 36) hx hb dX5_voiceOf_25 (by rw [he]; decide) (by rw [he]; decide) (by rw [he]; rfl) (by decide) ?_
        refine lv_aload_n hx hb dX5_voiceOf_61 rfl (lv_at hl 0 rfl) ?_
        refine va_get (D := D) (ci := 5) (v := .ref (ad 1)) (C := RX5) (T := TX5) (N := 17) hx hb htg inX5 hown hK hP 0 rfl rfl 0 (by decide) (htg _ q_1_188) (fun _ h9 => h9) rfl dX5_voiceOf_62 ?_
        refine lv_iload_n hx hb dX5_voiceOf_65 rfl (lv_at hl 1 rfl) ?_
        obtain ⟨o13, ho14, hm⟩ := bd_s hm
        refine xr_i (wr := [((ad 0), e_X5 ad t), ((ad 2), eI cA 8 t_now_kinds), ((ad 4), eI cA 8 t_now_pitches), ((ad 19), eI cA 5 t_refusals), ((ad 20), e_X3 (ad 21) t_trial)]) (wn := [((ad 0), e_X5 ad t), ((ad 1), e_X1 (ad 2) (ad 3) (ad 4) t_now), ((ad 2), eI cA 8 t_now_kinds), ((ad 3), eI cA 8 t_now_as), ((ad 4), eI cA 8 t_now_pitches), ((ad 19), eI cA 5 t_refusals), ((ad 20), e_X3 (ad 21) t_trial)]) (va_runVN (As := [.int l1]) (rest := []) ⟨hx, hb, hml, hown, htg⟩ (c_X1_aOf l D cA _ fu (ad 1) (ad 2) (ad 3) (ad 4) t_now t_now_as l1 o13 ho14) ⟨va_cnB 1 htg (gU q_3_80) rfl rfl rfl (hN _ q_3_77) (htg _ q_1_2) hd_X1_aOf.2 ⟨Nat.le_of_ble_eq_true rfl, Nat.le_of_ble_eq_true rfl⟩, htg _ q_3_79, htg _ q_p3_8⟩ (xpV hN hK hP hD [1, 3] rfl (by decide) rfl rfl) rfl rfl hl.1 rfl (lv_room (Nat.le_of_ble_eq_true rfl)) dX5_voiceOf_66 ⟨Nat.zero_le _, Nat.zero_le _⟩) hP hD hS hA [1, 3] [0, 2, 4, 5, 6] [0, 5, 1, 6, 2, 3, 4] rfl rfl (by decide) (by decide) rfl (by decide) (fun H locs hP hD hS => ?_)
        rw [hQ]
        exact W.iret (v := o13.1) hx hb hr (fun t9 ht hW => ⟨⟨o13.1, (t_refusals, t_trial), rfl, (Option.some.inj hm), by rw [ht]; exact hP, va_K.moved hW.alike hK, hD⟩, hS.F ht⟩) hS.2.2 dX5_voiceOf_69
      have hm := it_f c12 hm
      by_cases c15 : l2 = (2 : Int32)
      · have hm := it_t c15 hm
        have he : (l2).toInt = 2 := by rw [c15]; decide
        refine lv_tableIn (tgt := 70) (off := 45) hx hb dX5_voiceOf_25 (by rw [he]; decide) (by rw [he]; decide) (by rw [he]; rfl) (by decide) ?_
        refine lv_aload_n hx hb dX5_voiceOf_70 rfl (lv_at hl 0 rfl) ?_
        refine va_get (D := D) (ci := 5) (v := .ref (ad 1)) (C := RX5) (T := TX5) (N := 17) hx hb htg inX5 hown hK hP 0 rfl rfl 0 (by decide) (htg _ q_1_188) (fun _ h9 => h9) rfl dX5_voiceOf_71 ?_
        refine lv_iload_n hx hb dX5_voiceOf_74 rfl (lv_at hl 1 rfl) ?_
        obtain ⟨o16, ho17, hm⟩ := bd_s hm
        refine xr_i (wr := [((ad 0), e_X5 ad t), ((ad 2), eI cA 8 t_now_kinds), ((ad 3), eI cA 8 t_now_as), ((ad 19), eI cA 5 t_refusals), ((ad 20), e_X3 (ad 21) t_trial)]) (wn := [((ad 0), e_X5 ad t), ((ad 1), e_X1 (ad 2) (ad 3) (ad 4) t_now), ((ad 2), eI cA 8 t_now_kinds), ((ad 3), eI cA 8 t_now_as), ((ad 4), eI cA 8 t_now_pitches), ((ad 19), eI cA 5 t_refusals), ((ad 20), e_X3 (ad 21) t_trial)]) (va_runVN (As := [.int l1]) (rest := []) ⟨hx, hb, hml, hown, htg⟩ (c_X1_pitchOf l D cA _ fu (ad 1) (ad 2) (ad 3) (ad 4) t_now t_now_pitches l1 o16 ho17) ⟨va_cnB 1 htg (gU q_2_113) rfl rfl rfl (hN _ q_2_110) (htg _ q_1_2) hd_X1_pitchOf.2 ⟨Nat.le_of_ble_eq_true rfl, Nat.le_of_ble_eq_true rfl⟩, htg _ q_2_112, htg _ q_p1_13⟩ (xpV hN hK hP hD [1, 4] rfl (by decide) rfl rfl) rfl rfl hl.1 rfl (lv_room (Nat.le_of_ble_eq_true rfl)) dX5_voiceOf_75 ⟨Nat.zero_le _, Nat.zero_le _⟩) hP hD hS hA [1, 4] [0, 2, 3, 5, 6] [0, 5, 1, 2, 6, 3, 4] rfl rfl (by decide) (by decide) rfl (by decide) (fun H locs hP hD hS => ?_)
        rw [hQ]
        exact W.iret (v := o16.1) hx hb hr (fun t9 ht hW => ⟨⟨o16.1, (t_refusals, t_trial), rfl, (Option.some.inj hm), by rw [ht]; exact hP, va_K.moved hW.alike hK, hD⟩, hS.F ht⟩) hS.2.2 dX5_voiceOf_78
      have hm := it_f c15 hm
      have ho : (l2).toInt < 0 ∨ 2 < (l2).toInt := by
        refine Classical.byContradiction fun hh => ?_
        have h1 : 0 ≤ (l2).toInt ∧ (l2).toInt ≤ 2 := by omega
        have h2 : (l2).toInt = 0 ∨ (l2).toInt = 1 ∨ (l2).toInt = 2 := by omega
        rcases h2 with h2 | h2 | h2
        · exact c9 (Int32.toInt_inj.mp (h2.trans (by decide)))
        · exact c12 (Int32.toInt_inj.mp (h2.trans (by decide)))
        · exact c15 (Int32.toInt_inj.mp (h2.trans (by decide)))
      refine lv_tableOut (tgt := 79) hx hb dX5_voiceOf_25 ho (by decide) ?_
      refine lv_aload_n hx hb dX5_voiceOf_79 rfl (lv_at hl 0 rfl) ?_
      refine va_get (D := D) (ci := 5) (v := .ref (ad 20)) (C := RX5) (T := TX5) (N := 17) hx hb htg inX5 hown hK hP 0 rfl rfl 7 (by decide) (htg _ q_1_195) (fun _ h9 => h9) rfl dX5_voiceOf_80 ?_
      refine lv_aload_n hx hb dX5_voiceOf_83 rfl (lv_at hl 0 rfl) ?_
      refine va_get (D := D) (ci := 5) (v := .ref (ad 1)) (C := RX5) (T := TX5) (N := 17) hx hb htg inX5 hown hK hP 0 rfl rfl 0 (by decide) (htg _ q_1_188) (fun _ h9 => h9) rfl dX5_voiceOf_84 ?_
      refine lv_iload_n hx hb dX5_voiceOf_87 rfl (lv_at hl 1 rfl) ?_
      obtain ⟨o18, ho19, hm⟩ := bd_s hm
      refine xr_v (wr := [((ad 0), e_X5 ad t), ((ad 3), eI cA 8 t_now_as), ((ad 19), eI cA 5 t_refusals)]) (wn := [((ad 0), e_X5 ad t), ((ad 1), e_X1 (ad 2) (ad 3) (ad 4) t_now), ((ad 2), eI cA 8 t_now_kinds), ((ad 3), eI cA 8 t_now_as), ((ad 4), eI cA 8 t_now_pitches), ((ad 19), eI cA 5 t_refusals), ((ad 20), e_X3 (ad 21) o18)]) (va_runVN (As := [.ref (ad 1), .int l1]) (rest := []) ⟨hx, hb, hml, hown, htg⟩ (c_X3_standsFor l D cA _ fu (ad 20) (ad 21) (ad 1) (ad 2) (ad 3) (ad 4) t_trial t_now t_now_kinds t_now_pitches l1 o18 ho19) ⟨va_cnB 2 htg (gU q_2_126) rfl rfl rfl (hN _ q_2_123) (htg _ q_1_6) hd_X3_standsFor.2 ⟨Nat.le_of_ble_eq_true rfl, Nat.le_of_ble_eq_true rfl⟩, htg _ q_2_125, htg _ q_p2_0⟩ (xpV hN hK hP hD [6, 1, 2, 4] rfl (by decide) rfl rfl) rfl rfl hl.1 rfl (lv_room (Nat.le_of_ble_eq_true rfl)) dX5_voiceOf_88 ⟨Nat.zero_le _, Nat.zero_le _⟩) hP hD hS hA [6, 1, 2, 4] [0, 3, 5] [0, 4, 5, 1, 6, 2, 3] rfl rfl (by decide) (by decide) rfl (by decide) (fun H locs hP hD hS => ?_)
      refine lv_aload_n hx hb dX5_voiceOf_91 rfl (lv_at hl 0 rfl) ?_
      refine va_get (D := D) (ci := 5) (v := .ref (ad 20)) (C := RX5) (T := TX5) (N := 17) hx hb htg inX5 hown hK hP 0 rfl rfl 7 (by decide) (htg _ q_1_195) (fun _ h9 => h9) rfl dX5_voiceOf_92 ?_
      obtain ⟨o20, ho21, hm⟩ := bd_s hm
      refine xr_i (wr := [((ad 0), e_X5 ad t), ((ad 1), e_X1 (ad 2) (ad 3) (ad 4) t_now), ((ad 2), eI cA 8 t_now_kinds), ((ad 3), eI cA 8 t_now_as), ((ad 4), eI cA 8 t_now_pitches), ((ad 19), eI cA 5 t_refusals)]) (wn := [((ad 0), e_X5 ad t), ((ad 1), e_X1 (ad 2) (ad 3) (ad 4) t_now), ((ad 2), eI cA 8 t_now_kinds), ((ad 3), eI cA 8 t_now_as), ((ad 4), eI cA 8 t_now_pitches), ((ad 19), eI cA 5 t_refusals), ((ad 20), e_X3 (ad 21) o18)]) (va_runVN (As := []) (rest := []) ⟨hx, hb, hml, hown, htg⟩ (c_X3_pitchToday l D cA _ fu (ad 20) (ad 21) o18 o20 ho21) ⟨va_cnB 0 htg (gU q_2_149) rfl rfl rfl (hN _ q_3_81) (htg _ q_1_6) hd_X3_pitchToday.2 ⟨Nat.le_of_ble_eq_true rfl, Nat.le_of_ble_eq_true rfl⟩, htg _ q_2_148, htg _ q_p2_5⟩ (xpV hN hK hP hD [6] rfl (by decide) rfl rfl) rfl rfl hl.1 rfl (lv_room (Nat.le_of_ble_eq_true rfl)) dX5_voiceOf_95 ⟨Nat.zero_le _, Nat.zero_le _⟩) hP hD hS hA [6] [0, 1, 2, 3, 4, 5] [0, 1, 2, 3, 4, 5, 6] rfl rfl (by decide) (by decide) rfl (by decide) (fun H locs hP hD hS => ?_)
      rw [hQ]
      exact W.iret (v := o20.1) hx hb hr (fun t9 ht hW => ⟨⟨o20.1, (t_refusals, o18), rfl, (Option.some.inj hm), by rw [ht]; exact hP, va_K.moved hW.alike hK, hD⟩, hS.F ht⟩) hS.2.2 dX5_voiceOf_98
    · have hm := it_t c8 hm
      exact B_17 _ _ _ _ _ hm hP hD hS (lv_sub hl [0] rfl)
def b_X5_back_18 (fu : Nat) (t : Nat → Int32) (t_now : Nat → Int32) (t_now_kinds : Nat → Int32) (t_now_pitches : Nat → Int32) (t_refusals : Nat → Int32) (t_trial : Nat → Int32) : Option (Int32 × ((Nat → Int32) × (Nat → Int32))) :=
  (m_X5_refuse fu t t_refusals (-2 : Int32)).bind fun o1 =>
    some (o1.1, (o1.2, t_trial))
def m_X5_back (fu : Nat) (t : Nat → Int32) (t_now : Nat → Int32) (t_now_kinds : Nat → Int32) (t_now_pitches : Nat → Int32) (t_refusals : Nat → Int32) (t_trial : Nat → Int32) (l1 : Int32) (l2 : Int32) : Option (Int32 × ((Nat → Int32) × (Nat → Int32))) :=
  (m_X5_isVoice fu t t_now l1).bind fun o3 =>
  (if o3.1 = 0 then
    b_X5_back_18 fu t t_now t_now_kinds t_now_pitches t_refusals t_trial
  else
    (m_X5_isWithin fu l2 (0 : Int32) (39 : Int32)).bind fun o6 =>
    (if o6.1 = 0 then
      b_X5_back_18 fu t t_now t_now_kinds t_now_pitches t_refusals t_trial
    else
      (m_X3_standsFor fu t_trial t_now t_now_kinds t_now_pitches l1).bind fun o9 =>
      (m_X3_returnOf fu o9 l2).bind fun o11 =>
      some (o11.1, (t_refusals, o9))))
abbrev rm_X5_back : Room := ({ frames := 3, cells := 0, slots := 0, locals := 65 } : Room)
abbrev w0_X5_back (cA : Nat → ClassId) (ad : Nat → Nat) (t : Nat → Int32) (t_now : Nat → Int32) (t_now_kinds : Nat → Int32) (t_now_pitches : Nat → Int32) (t_refusals : Nat → Int32) (t_trial : Nat → Int32) : va_W := [((ad 0), e_X5 ad t), ((ad 1), e_X1 (ad 2) (ad 3) (ad 4) t_now), ((ad 2), eI cA 8 t_now_kinds), ((ad 4), eI cA 8 t_now_pitches), ((ad 19), eI cA 5 t_refusals), ((ad 20), e_X3 (ad 21) t_trial)]
abbrev w1_X5_back (cA : Nat → ClassId) (ad : Nat → Nat) (t : Nat → Int32) (t_now : Nat → Int32) (t_now_kinds : Nat → Int32) (t_now_pitches : Nat → Int32) (u : (Nat → Int32) × (Nat → Int32)) : va_W := [((ad 0), e_X5 ad t), ((ad 1), e_X1 (ad 2) (ad 3) (ad 4) t_now), ((ad 2), eI cA 8 t_now_kinds), ((ad 4), eI cA 8 t_now_pitches), ((ad 19), eI cA 5 u.1), ((ad 20), e_X3 (ad 21) u.2)]
theorem hd_X5_back : yX5_back.cls = RX5 ∧ yX5_back.cls ≠ "java/lang/invoke/MethodHandle" ∧ yX5_back.cls ≠ "java/lang/invoke/VarHandle" ∧ (parseMethodDescriptor yX5_back.desc).map (fun d => d.parameters.length) = some 2 := by decide +kernel
set_option maxHeartbeats 40000000 in
set_option maxRecDepth 100000 in
theorem c_X5_back (l : Launch) (D : va_G) (cA : Nat → ClassId) (sz : Nat) (fu : Nat) (ad : Nat → Nat) (t : Nat → Int32) (t_now : Nat → Int32) (t_now_kinds : Nat → Int32) (t_now_pitches : Nat → Int32) (t_refusals : Nat → Int32) (t_trial : Nat → Int32) (l1 : Int32) (l2 : Int32) (out : Int32 × ((Nat → Int32) × (Nat → Int32))) (hm : m_X5_back fu t t_now t_now_kinds t_now_pitches t_refusals t_trial l1 l2 = some out) : MI l yX5_back (wU yX5_back cX5_back 3 ((Option.some Jvm.ClassFile.FieldType.int))) rm_X5_back D cA sz [.ref (ad 0), .int l1, .int l2] (w0_X5_back cA ad t t_now t_now_kinds t_now_pitches t_refusals t_trial) out (w1_X5_back cA ad t t_now t_now_kinds t_now_pitches) := by
  refine Met.ofW (cc := cX5_back) (maxL := 3) (ret := (Option.some Jvm.ClassFile.FieldType.int)) (by decide) rfl ?_
  intro p e s m args below meth c s₁ B hml hv
  obtain ⟨hargs, hsz, hP, hK, hD0, hN⟩ := hv
  have hx := B.exec
  have hb := B.bytes
  have hr := B.returns
  have htg : ∀ w ∈ gw, w.before args s = true := fun w h => atoms_spec (ws := wU yX5_back cX5_back 3 ((Option.some Jvm.ClassFile.FieldType.int))) B.pre w (List.mem_cons_of_mem _ h)
  have hown : s.vm.findClass RX5 = some m.cls := findClass_of_methodNamed B.named
  have hlocks := B.notSynchronized
  subst hsz
  have hD := hD0.self (sz := s.heap.size)
  have hA : ∀ q : Nat, s.heap.size ≤ q → va_A (w0_X5_back cA ad t t_now t_now_kinds t_now_pitches t_refusals t_trial) s.heap.size q := fun q h => Or.inr h
  have hS : va_S (va_A (w0_X5_back cA ad t t_now t_now_kinds t_now_pitches t_refusals t_trial) s.heap.size) s.heap s.heap [] := va_S.rf
  generalize va_A (w0_X5_back cA ad t t_now t_now_kinds t_now_pitches t_refusals t_trial) s.heap.size = A at hA hD hS ⊢
  obtain ⟨Q, hQ⟩ : ∃ Q : State → Prop, Q = MQ below (va_Qi (fun (r : Int32) (u : (Nat → Int32) × (Nat → Int32)) => (r, u) = out) (pst0 D cA A (w1_X5_back cA ad t t_now t_now_kinds t_now_pitches)) A) args s 0 0 A := ⟨_, rfl⟩
  refine (?_ : W p l e rm_X5_back s m args below meth c s.heap [] 0 0 (MQ below (va_Qi (fun (r : Int32) (u : (Nat → Int32) × (Nat → Int32)) => (r, u) = out) (pst0 D cA A (w1_X5_back cA ad t t_now t_now_kinds t_now_pitches)) A) args s 0 0 A) (entryFrame m args 3))
  rw [← hQ]
  have hP : va_P D CL [((ad 0), e_X5 ad t), ((ad 1), e_X1 (ad 2) (ad 3) (ad 4) t_now), ((ad 2), eI cA 8 t_now_kinds), ((ad 4), eI cA 8 t_now_pitches), ((ad 19), eI cA 5 t_refusals), ((ad 20), e_X3 (ad 21) t_trial)] s.heap := hP
  have hD : va_D A [((ad 0), e_X5 ad t), ((ad 1), e_X1 (ad 2) (ad 3) (ad 4) t_now), ((ad 2), eI cA 8 t_now_kinds), ((ad 4), eI cA 8 t_now_pitches), ((ad 19), eI cA 5 t_refusals), ((ad 20), e_X3 (ad 21) t_trial)] := hD
  have B_18 : ∀ (t_refusals : Nat → Int32) (t_trial : Nat → Int32) (H : Heap) (locs : List Loc) (ls : Array Slot), b_X5_back_18 fu t t_now t_now_kinds t_now_pitches t_refusals t_trial = some out → va_P D CL [((ad 0), e_X5 ad t), ((ad 1), e_X1 (ad 2) (ad 3) (ad 4) t_now), ((ad 2), eI cA 8 t_now_kinds), ((ad 4), eI cA 8 t_now_pitches), ((ad 19), eI cA 5 t_refusals), ((ad 20), e_X3 (ad 21) t_trial)] H → va_D A [((ad 0), e_X5 ad t), ((ad 1), e_X1 (ad 2) (ad 3) (ad 4) t_now), ((ad 2), eI cA 8 t_now_kinds), ((ad 4), eI cA 8 t_now_pitches), ((ad 19), eI cA 5 t_refusals), ((ad 20), e_X3 (ad 21) t_trial)] → va_S A s.heap H locs → lv_has ls 3 [(0, .ref (ad 0))] → W p l e rm_X5_back s m args below meth c H locs 0 0 Q (F0 m 18 ls []) := by
    intro  t_refusals t_trial H locs ls hm hP hD hS hl
    unfold b_X5_back_18 at hm
    refine lv_aload_n hx hb dX5_back_18 rfl (lv_at hl 0 rfl) ?_
    refine lv_bipush (v := (-2 : Int32)) hx hb dX5_back_19 (by decide) ?_
    obtain ⟨o1, ho2, hm⟩ := bd_s hm
    refine xr_i (wr := [((ad 1), e_X1 (ad 2) (ad 3) (ad 4) t_now), ((ad 2), eI cA 8 t_now_kinds), ((ad 4), eI cA 8 t_now_pitches), ((ad 20), e_X3 (ad 21) t_trial)]) (wn := [((ad 0), e_X5 ad t), ((ad 1), e_X1 (ad 2) (ad 3) (ad 4) t_now), ((ad 2), eI cA 8 t_now_kinds), ((ad 4), eI cA 8 t_now_pitches), ((ad 19), eI cA 5 o1.2), ((ad 20), e_X3 (ad 21) t_trial)]) (va_runV (As := [.int (-2 : Int32)]) (rest := []) ⟨hx, hb, hml, hown, htg⟩ (c_X5_refuse l D cA _ fu ad t t_refusals (-2 : Int32) o1 ho2) (cwV 1 htg (gV q_2_10 q_2_12 q_p1_0 q_1_1 q_2_13) rfl rfl rfl hd_X5_refuse ⟨Nat.le_of_ble_eq_true rfl, Nat.le_of_ble_eq_true rfl⟩) (xpV hN hK hP hD [0, 4] rfl (by decide) rfl rfl) rfl rfl hl.1 rfl (lv_room (Nat.le_of_ble_eq_true rfl)) dX5_back_21 ⟨Nat.zero_le _, Nat.zero_le _⟩) hP hD hS hA [0, 4] [1, 2, 3, 5] [4, 0, 1, 2, 5, 3] rfl rfl (by decide) (by decide) rfl (by decide) (fun H locs hP hD hS => ?_)
    rw [hQ]
    exact W.iret (v := o1.1) hx hb hr (fun t9 ht hW => ⟨⟨o1.1, (o1.2, t_trial), rfl, (Option.some.inj hm), by rw [ht]; exact hP, va_K.moved hW.alike hK, hD⟩, hS.F ht⟩) hS.2.2 dX5_back_24
  unfold m_X5_back at hm
  subst hargs
  have hl := lv_entry ([.ref (ad 0), .int l1, .int l2]) (n := 3) (Nat.le_of_ble_eq_true rfl)
  rw [lg_entry_eq]
  generalize (lg_sl ([.ref (ad 0), .int l1, .int l2]) ++ List.replicate (3 - (lg_sl ([.ref (ad 0), .int l1, .int l2])).length) Slot.unset).toArray = ls at hl ⊢
  have hl : lv_has ls 3 [(0, .ref (ad 0)), (1, .int l1), (2, .int l2)] := hl
  refine lv_aload_n hx hb dX5_back_0 rfl (lv_at hl 0 rfl) ?_
  refine lv_iload_n hx hb dX5_back_1 rfl (lv_at hl 1 rfl) ?_
  obtain ⟨o3, ho4, hm⟩ := bd_s hm
  refine xr_i (wr := [((ad 2), eI cA 8 t_now_kinds), ((ad 4), eI cA 8 t_now_pitches), ((ad 19), eI cA 5 t_refusals), ((ad 20), e_X3 (ad 21) t_trial)]) (wn := [((ad 0), e_X5 ad t), ((ad 1), e_X1 (ad 2) (ad 3) (ad 4) t_now), ((ad 2), eI cA 8 t_now_kinds), ((ad 4), eI cA 8 t_now_pitches), ((ad 19), eI cA 5 t_refusals), ((ad 20), e_X3 (ad 21) t_trial)]) (va_runV (As := [.int l1]) (rest := []) ⟨hx, hb, hml, hown, htg⟩ (c_X5_isVoice l D cA _ fu ad t t_now l1 o3 ho4) (cwV 1 htg (gV q_2_87 q_2_89 q_p1_10 q_1_1 q_2_90) rfl rfl rfl hd_X5_isVoice ⟨Nat.le_of_ble_eq_true rfl, Nat.le_of_ble_eq_true rfl⟩) (xpV hN hK hP hD [0, 1] rfl (by decide) rfl rfl) rfl rfl hl.1 rfl (lv_room (Nat.le_of_ble_eq_true rfl)) dX5_back_2 ⟨Nat.zero_le _, Nat.zero_le _⟩) hP hD hS hA [0, 1] [2, 3, 4, 5] [4, 5, 0, 1, 2, 3] rfl rfl (by decide) (by decide) rfl (by decide) (fun H locs hP hD hS => ?_)
  refine lv_if_eq (tgt := 18) hx hb dX5_back_5 (by decide) (fun c5 => ?_) (fun c5 => ?_)
  · have hm := it_t c5 hm
    exact B_18 _ _ _ _ _ hm hP hD hS (lv_sub hl [0] rfl)
  · have hm := it_f c5 hm
    refine lv_iload_n hx hb dX5_back_8 rfl (lv_at hl 2 rfl) ?_
    refine lv_iconst (v := (0 : Int32)) hx hb dX5_back_9 (by decide) ?_
    refine lv_bipush (v := (39 : Int32)) hx hb dX5_back_10 (by decide) ?_
    obtain ⟨o6, ho7, hm⟩ := bd_s hm
    refine xr_i (wr := [((ad 0), e_X5 ad t), ((ad 1), e_X1 (ad 2) (ad 3) (ad 4) t_now), ((ad 2), eI cA 8 t_now_kinds), ((ad 4), eI cA 8 t_now_pitches), ((ad 19), eI cA 5 t_refusals), ((ad 20), e_X3 (ad 21) t_trial)]) (wn := [((ad 0), e_X5 ad t), ((ad 1), e_X1 (ad 2) (ad 3) (ad 4) t_now), ((ad 2), eI cA 8 t_now_kinds), ((ad 4), eI cA 8 t_now_pitches), ((ad 19), eI cA 5 t_refusals), ((ad 20), e_X3 (ad 21) t_trial)]) (va_runS (As := [.int l2, .int (0 : Int32), .int (39 : Int32)]) (rest := []) ⟨hx, hb, hml, hown, htg⟩ (c_X5_isWithin l D cA _ fu l2 (0 : Int32) (39 : Int32) o6 ho7) (cwS 3 htg (gS q_2_7 q_2_8 q_1_1 q_2_9) rfl rfl rfl hd_X5_isWithin ⟨Nat.le_of_ble_eq_true rfl, Nat.le_of_ble_eq_true rfl⟩) (xpS hN hK hP hD [] rfl (by decide)) rfl rfl hl.1 rfl (lv_room (Nat.le_of_ble_eq_true rfl)) dX5_back_12 ⟨Nat.zero_le _, Nat.zero_le _⟩) hP hD hS hA [] [0, 1, 2, 3, 4, 5] [0, 1, 2, 3, 4, 5] rfl rfl (by decide) (by decide) rfl (by decide) (fun H locs hP hD hS => ?_)
    refine lv_if_ne (tgt := 25) hx hb dX5_back_15 (by decide) (fun c8 => ?_) (fun c8 => ?_)
    · have hm := it_f c8 hm
      refine lv_aload_n hx hb dX5_back_25 rfl (lv_at hl 0 rfl) ?_
      refine va_get (D := D) (ci := 5) (v := .ref (ad 20)) (C := RX5) (T := TX5) (N := 17) hx hb htg inX5 hown hK hP 0 rfl rfl 7 (by decide) (htg _ q_1_195) (fun _ h9 => h9) rfl dX5_back_26 ?_
      refine lv_aload_n hx hb dX5_back_29 rfl (lv_at hl 0 rfl) ?_
      refine va_get (D := D) (ci := 5) (v := .ref (ad 1)) (C := RX5) (T := TX5) (N := 17) hx hb htg inX5 hown hK hP 0 rfl rfl 0 (by decide) (htg _ q_1_188) (fun _ h9 => h9) rfl dX5_back_30 ?_
      refine lv_iload_n hx hb dX5_back_33 rfl (lv_at hl 1 rfl) ?_
      obtain ⟨o9, ho10, hm⟩ := bd_s hm
      refine xr_v (wr := [((ad 0), e_X5 ad t), ((ad 19), eI cA 5 t_refusals)]) (wn := [((ad 0), e_X5 ad t), ((ad 1), e_X1 (ad 2) (ad 3) (ad 4) t_now), ((ad 2), eI cA 8 t_now_kinds), ((ad 4), eI cA 8 t_now_pitches), ((ad 19), eI cA 5 t_refusals), ((ad 20), e_X3 (ad 21) o9)]) (va_runVN (As := [.ref (ad 1), .int l1]) (rest := []) ⟨hx, hb, hml, hown, htg⟩ (c_X3_standsFor l D cA _ fu (ad 20) (ad 21) (ad 1) (ad 2) (ad 3) (ad 4) t_trial t_now t_now_kinds t_now_pitches l1 o9 ho10) ⟨va_cnB 2 htg (gU q_2_126) rfl rfl rfl (hN _ q_2_123) (htg _ q_1_6) hd_X3_standsFor.2 ⟨Nat.le_of_ble_eq_true rfl, Nat.le_of_ble_eq_true rfl⟩, htg _ q_2_125, htg _ q_p2_0⟩ (xpV hN hK hP hD [5, 1, 2, 3] rfl (by decide) rfl rfl) rfl rfl hl.1 rfl (lv_room (Nat.le_of_ble_eq_true rfl)) dX5_back_34 ⟨Nat.zero_le _, Nat.zero_le _⟩) hP hD hS hA [5, 1, 2, 3] [0, 4] [0, 3, 4, 5, 1, 2] rfl rfl (by decide) (by decide) rfl (by decide) (fun H locs hP hD hS => ?_)
      refine lv_aload_n hx hb dX5_back_37 rfl (lv_at hl 0 rfl) ?_
      refine va_get (D := D) (ci := 5) (v := .ref (ad 20)) (C := RX5) (T := TX5) (N := 17) hx hb htg inX5 hown hK hP 0 rfl rfl 7 (by decide) (htg _ q_1_195) (fun _ h9 => h9) rfl dX5_back_38 ?_
      refine lv_iload_n hx hb dX5_back_41 rfl (lv_at hl 2 rfl) ?_
      obtain ⟨o11, ho12, hm⟩ := bd_s hm
      refine xr_i (wr := [((ad 0), e_X5 ad t), ((ad 1), e_X1 (ad 2) (ad 3) (ad 4) t_now), ((ad 2), eI cA 8 t_now_kinds), ((ad 4), eI cA 8 t_now_pitches), ((ad 19), eI cA 5 t_refusals)]) (wn := [((ad 0), e_X5 ad t), ((ad 1), e_X1 (ad 2) (ad 3) (ad 4) t_now), ((ad 2), eI cA 8 t_now_kinds), ((ad 4), eI cA 8 t_now_pitches), ((ad 19), eI cA 5 t_refusals), ((ad 20), e_X3 (ad 21) o9)]) (va_runVN (As := [.int l2]) (rest := []) ⟨hx, hb, hml, hown, htg⟩ (c_X3_returnOf l D cA _ fu (ad 20) (ad 21) o9 l2 o11 ho12) ⟨va_cnB 1 htg (gU q_2_145) rfl rfl rfl (hN _ q_3_86) (htg _ q_1_6) hd_X3_returnOf.2 ⟨Nat.le_of_ble_eq_true rfl, Nat.le_of_ble_eq_true rfl⟩, htg _ q_2_144, htg _ q_p2_4⟩ (xpV hN hK hP hD [5] rfl (by decide) rfl rfl) rfl rfl hl.1 rfl (lv_room (Nat.le_of_ble_eq_true rfl)) dX5_back_42 ⟨Nat.zero_le _, Nat.zero_le _⟩) hP hD hS hA [5] [0, 1, 2, 3, 4] [0, 1, 2, 3, 4, 5] rfl rfl (by decide) (by decide) rfl (by decide) (fun H locs hP hD hS => ?_)
      rw [hQ]
      exact W.iret (v := o11.1) hx hb hr (fun t9 ht hW => ⟨⟨o11.1, (t_refusals, o9), rfl, (Option.some.inj hm), by rw [ht]; exact hP, va_K.moved hW.alike hK, hD⟩, hS.F ht⟩) hS.2.2 dX5_back_45
    · have hm := it_t c8 hm
      exact B_18 _ _ _ _ _ hm hP hD hS (lv_sub hl [0] rfl)
def b_X5_lost_52 (fu : Nat) (t : Nat → Int32) (t_now : Nat → Int32) (t_now_kinds : Nat → Int32) (t_now_pitches : Nat → Int32) (k_31 : (Int32 × Int32 × (Nat → Int32) × (Nat → Int32)) → Option (Int32 × ((Nat → Int32) × (Nat → Int32)))) (l2 : Int32) (l3 : Int32) (t_refusals : Nat → Int32) (t_trial : Nat → Int32) : Option (Int32 × ((Nat → Int32) × (Nat → Int32))) :=
  k_31 (l2, (l3 + (1 : Int32)), t_refusals, t_trial)
def b_X5_lost_31 (fu : Nat) (t : Nat → Int32) (t_now : Nat → Int32) (t_now_kinds : Nat → Int32) (t_now_pitches : Nat → Int32) (k_31 : (Int32 × Int32 × (Nat → Int32) × (Nat → Int32)) → Option (Int32 × ((Nat → Int32) × (Nat → Int32)))) (x : Int32 × Int32 × (Nat → Int32) × (Nat → Int32)) : Option (Int32 × ((Nat → Int32) × (Nat → Int32))) :=
  (if (40 : Int32) ≤ x.2.1 then
        some (x.1, (x.2.2.1, x.2.2.2))
      else
        (m_X3_returnOf fu x.2.2.2 x.2.1).bind fun o2 =>
        (if o2.1 = (-1 : Int32) then
          b_X5_lost_52 fu t t_now t_now_kinds t_now_pitches k_31 (x.1 + (1 : Int32)) x.2.1 x.2.2.1 x.2.2.2
        else
          b_X5_lost_52 fu t t_now t_now_kinds t_now_pitches k_31 x.1 x.2.1 x.2.2.1 x.2.2.2))
def m_X5_lost (fu : Nat) (t : Nat → Int32) (t_now : Nat → Int32) (t_now_kinds : Nat → Int32) (t_now_pitches : Nat → Int32) (t_refusals : Nat → Int32) (t_trial : Nat → Int32) (l1 : Int32) : Option (Int32 × ((Nat → Int32) × (Nat → Int32))) :=
  (m_X5_isVoice fu t t_now l1).bind fun o5 =>
  (if o5.1 = 0 then
    (m_X5_refuse fu t t_refusals (-2 : Int32)).bind fun o10 =>
    some (o10.1, (o10.2, t_trial))
  else
    (m_X3_standsFor fu t_trial t_now t_now_kinds t_now_pitches l1).bind fun o8 =>
    lfix (b_X5_lost_31 fu t t_now t_now_kinds t_now_pitches) fu ((0 : Int32), (0 : Int32), t_refusals, o8))
abbrev rm_X5_lost : Room := ({ frames := 3, cells := 0, slots := 0, locals := 65 } : Room)
abbrev w0_X5_lost (cA : Nat → ClassId) (ad : Nat → Nat) (t : Nat → Int32) (t_now : Nat → Int32) (t_now_kinds : Nat → Int32) (t_now_pitches : Nat → Int32) (t_refusals : Nat → Int32) (t_trial : Nat → Int32) : va_W := [((ad 0), e_X5 ad t), ((ad 1), e_X1 (ad 2) (ad 3) (ad 4) t_now), ((ad 2), eI cA 8 t_now_kinds), ((ad 4), eI cA 8 t_now_pitches), ((ad 19), eI cA 5 t_refusals), ((ad 20), e_X3 (ad 21) t_trial)]
abbrev w1_X5_lost (cA : Nat → ClassId) (ad : Nat → Nat) (t : Nat → Int32) (t_now : Nat → Int32) (t_now_kinds : Nat → Int32) (t_now_pitches : Nat → Int32) (u : (Nat → Int32) × (Nat → Int32)) : va_W := [((ad 0), e_X5 ad t), ((ad 1), e_X1 (ad 2) (ad 3) (ad 4) t_now), ((ad 2), eI cA 8 t_now_kinds), ((ad 4), eI cA 8 t_now_pitches), ((ad 19), eI cA 5 u.1), ((ad 20), e_X3 (ad 21) u.2)]
theorem hd_X5_lost : yX5_lost.cls = RX5 ∧ yX5_lost.cls ≠ "java/lang/invoke/MethodHandle" ∧ yX5_lost.cls ≠ "java/lang/invoke/VarHandle" ∧ (parseMethodDescriptor yX5_lost.desc).map (fun d => d.parameters.length) = some 1 := by decide +kernel
set_option maxHeartbeats 40000000 in
set_option maxRecDepth 100000 in
theorem c_X5_lost (l : Launch) (D : va_G) (cA : Nat → ClassId) (sz : Nat) (fu : Nat) (ad : Nat → Nat) (t : Nat → Int32) (t_now : Nat → Int32) (t_now_kinds : Nat → Int32) (t_now_pitches : Nat → Int32) (t_refusals : Nat → Int32) (t_trial : Nat → Int32) (l1 : Int32) (out : Int32 × ((Nat → Int32) × (Nat → Int32))) (hm : m_X5_lost fu t t_now t_now_kinds t_now_pitches t_refusals t_trial l1 = some out) : MI l yX5_lost (wU yX5_lost cX5_lost 4 ((Option.some Jvm.ClassFile.FieldType.int))) rm_X5_lost D cA sz [.ref (ad 0), .int l1] (w0_X5_lost cA ad t t_now t_now_kinds t_now_pitches t_refusals t_trial) out (w1_X5_lost cA ad t t_now t_now_kinds t_now_pitches) := by
  refine Met.ofW (cc := cX5_lost) (maxL := 4) (ret := (Option.some Jvm.ClassFile.FieldType.int)) (by decide) rfl ?_
  intro p e s m args below meth c s₁ B hml hv
  obtain ⟨hargs, hsz, hP, hK, hD0, hN⟩ := hv
  have hx := B.exec
  have hb := B.bytes
  have hr := B.returns
  have htg : ∀ w ∈ gw, w.before args s = true := fun w h => atoms_spec (ws := wU yX5_lost cX5_lost 4 ((Option.some Jvm.ClassFile.FieldType.int))) B.pre w (List.mem_cons_of_mem _ h)
  have hown : s.vm.findClass RX5 = some m.cls := findClass_of_methodNamed B.named
  have hlocks := B.notSynchronized
  subst hsz
  have hD := hD0.self (sz := s.heap.size)
  have hA : ∀ q : Nat, s.heap.size ≤ q → va_A (w0_X5_lost cA ad t t_now t_now_kinds t_now_pitches t_refusals t_trial) s.heap.size q := fun q h => Or.inr h
  have hS : va_S (va_A (w0_X5_lost cA ad t t_now t_now_kinds t_now_pitches t_refusals t_trial) s.heap.size) s.heap s.heap [] := va_S.rf
  generalize va_A (w0_X5_lost cA ad t t_now t_now_kinds t_now_pitches t_refusals t_trial) s.heap.size = A at hA hD hS ⊢
  obtain ⟨Q, hQ⟩ : ∃ Q : State → Prop, Q = MQ below (va_Qi (fun (r : Int32) (u : (Nat → Int32) × (Nat → Int32)) => (r, u) = out) (pst0 D cA A (w1_X5_lost cA ad t t_now t_now_kinds t_now_pitches)) A) args s 0 0 A := ⟨_, rfl⟩
  refine (?_ : W p l e rm_X5_lost s m args below meth c s.heap [] 0 0 (MQ below (va_Qi (fun (r : Int32) (u : (Nat → Int32) × (Nat → Int32)) => (r, u) = out) (pst0 D cA A (w1_X5_lost cA ad t t_now t_now_kinds t_now_pitches)) A) args s 0 0 A) (entryFrame m args 4))
  rw [← hQ]
  have hP : va_P D CL [((ad 0), e_X5 ad t), ((ad 1), e_X1 (ad 2) (ad 3) (ad 4) t_now), ((ad 2), eI cA 8 t_now_kinds), ((ad 4), eI cA 8 t_now_pitches), ((ad 19), eI cA 5 t_refusals), ((ad 20), e_X3 (ad 21) t_trial)] s.heap := hP
  have hD : va_D A [((ad 0), e_X5 ad t), ((ad 1), e_X1 (ad 2) (ad 3) (ad 4) t_now), ((ad 2), eI cA 8 t_now_kinds), ((ad 4), eI cA 8 t_now_pitches), ((ad 19), eI cA 5 t_refusals), ((ad 20), e_X3 (ad 21) t_trial)] := hD
  have B_52 : ∀ (k_31 : (Int32 × Int32 × (Nat → Int32) × (Nat → Int32)) → Option (Int32 × ((Nat → Int32) × (Nat → Int32)))) (HK_31 : ∀ (x : Int32 × Int32 × (Nat → Int32) × (Nat → Int32)) (H : Heap) (locs : List Loc) (ls : Array Slot), k_31 x = some out → va_P D CL [((ad 0), e_X5 ad t), ((ad 1), e_X1 (ad 2) (ad 3) (ad 4) t_now), ((ad 2), eI cA 8 t_now_kinds), ((ad 4), eI cA 8 t_now_pitches), ((ad 19), eI cA 5 x.2.2.1), ((ad 20), e_X3 (ad 21) x.2.2.2)] H → va_D A [((ad 0), e_X5 ad t), ((ad 1), e_X1 (ad 2) (ad 3) (ad 4) t_now), ((ad 2), eI cA 8 t_now_kinds), ((ad 4), eI cA 8 t_now_pitches), ((ad 19), eI cA 5 x.2.2.1), ((ad 20), e_X3 (ad 21) x.2.2.2)] → va_S A s.heap H locs → lv_has ls 4 [(0, .ref (ad 0)), (2, .int x.1), (3, .int x.2.1)] → W p l e rm_X5_lost s m args below meth c H locs 0 0 Q (F0 m 31 ls [])) (l2 : Int32) (l3 : Int32) (t_refusals : Nat → Int32) (t_trial : Nat → Int32) (H : Heap) (locs : List Loc) (ls : Array Slot), b_X5_lost_52 fu t t_now t_now_kinds t_now_pitches k_31 l2 l3 t_refusals t_trial = some out → va_P D CL [((ad 0), e_X5 ad t), ((ad 1), e_X1 (ad 2) (ad 3) (ad 4) t_now), ((ad 2), eI cA 8 t_now_kinds), ((ad 4), eI cA 8 t_now_pitches), ((ad 19), eI cA 5 t_refusals), ((ad 20), e_X3 (ad 21) t_trial)] H → va_D A [((ad 0), e_X5 ad t), ((ad 1), e_X1 (ad 2) (ad 3) (ad 4) t_now), ((ad 2), eI cA 8 t_now_kinds), ((ad 4), eI cA 8 t_now_pitches), ((ad 19), eI cA 5 t_refusals), ((ad 20), e_X3 (ad 21) t_trial)] → va_S A s.heap H locs → lv_has ls 4 [(0, .ref (ad 0)), (2, .int l2), (3, .int l3)] → W p l e rm_X5_lost s m args below meth c H locs 0 0 Q (F0 m 52 ls []) := by
    intro k_31 HK_31 l2 l3 t_refusals t_trial H locs ls hm hP hD hS hl
    unfold b_X5_lost_52 at hm
    refine lv_iinc (v := (l3 + (1 : Int32))) (lv' := [(3, .int (l3 + (1 : Int32))), (0, .ref (ad 0)), (2, .int l2)]) hx hb dX5_lost_52 hl (k := 2) rfl rfl (by decide) rfl (fun ls hl => ?_)
    refine lv_goto (tgt := 31) hx hb dX5_lost_55 (by decide) ?_
    exact HK_31 _ _ _ _ hm hP hD hS (lv_sub hl [1, 2, 0] rfl)
  have B_31 : ∀ (n : Nat) (x : Int32 × Int32 × (Nat → Int32) × (Nat → Int32)) (H : Heap) (locs : List Loc) (ls : Array Slot), lfix (b_X5_lost_31 fu t t_now t_now_kinds t_now_pitches) n x = some out → va_P D CL [((ad 0), e_X5 ad t), ((ad 1), e_X1 (ad 2) (ad 3) (ad 4) t_now), ((ad 2), eI cA 8 t_now_kinds), ((ad 4), eI cA 8 t_now_pitches), ((ad 19), eI cA 5 x.2.2.1), ((ad 20), e_X3 (ad 21) x.2.2.2)] H → va_D A [((ad 0), e_X5 ad t), ((ad 1), e_X1 (ad 2) (ad 3) (ad 4) t_now), ((ad 2), eI cA 8 t_now_kinds), ((ad 4), eI cA 8 t_now_pitches), ((ad 19), eI cA 5 x.2.2.1), ((ad 20), e_X3 (ad 21) x.2.2.2)] → va_S A s.heap H locs → lv_has ls 4 [(0, .ref (ad 0)), (2, .int x.1), (3, .int x.2.1)] → W p l e rm_X5_lost s m args below meth c H locs 0 0 Q (F0 m 31 ls []) := by
    intro  n
    induction n with
    | zero => intro x H locs ls hm; cases (show none = some out from hm)
    | succ n HK_31 =>
      intro x H locs ls hm hP hD hS hl
      replace hm : b_X5_lost_31 fu t t_now t_now_kinds t_now_pitches (lfix (b_X5_lost_31 fu t t_now t_now_kinds t_now_pitches) n) x = some out := hm
      unfold b_X5_lost_31 at hm
      refine lv_iload_n hx hb dX5_lost_31 rfl (lv_at hl 2 rfl) ?_
      refine lv_bipush (v := (40 : Int32)) hx hb dX5_lost_32 (by decide) ?_
      refine lv_icmp_ge (tgt := 58) hx hb dX5_lost_34 (by decide) (fun c1 => ?_) (fun c1 => ?_)
      · have hm := it_t c1 hm
        refine lv_iload_n hx hb dX5_lost_58 rfl (lv_at hl 1 rfl) ?_
        rw [hQ]
        exact W.iret (v := x.1) hx hb hr (fun t9 ht hW => ⟨⟨x.1, (x.2.2.1, x.2.2.2), rfl, (Option.some.inj hm), by rw [ht]; exact hP, va_K.moved hW.alike hK, hD⟩, hS.F ht⟩) hS.2.2 dX5_lost_59
      · have hm := it_f c1 hm
        refine lv_aload_n hx hb dX5_lost_37 rfl (lv_at hl 0 rfl) ?_
        refine va_get (D := D) (ci := 5) (v := .ref (ad 20)) (C := RX5) (T := TX5) (N := 17) hx hb htg inX5 hown hK hP 0 rfl rfl 7 (by decide) (htg _ q_1_195) (fun _ h9 => h9) rfl dX5_lost_38 ?_
        refine lv_iload_n hx hb dX5_lost_41 rfl (lv_at hl 2 rfl) ?_
        obtain ⟨o2, ho3, hm⟩ := bd_s hm
        refine xr_i (wr := [((ad 0), e_X5 ad t), ((ad 1), e_X1 (ad 2) (ad 3) (ad 4) t_now), ((ad 2), eI cA 8 t_now_kinds), ((ad 4), eI cA 8 t_now_pitches), ((ad 19), eI cA 5 x.2.2.1)]) (wn := [((ad 0), e_X5 ad t), ((ad 1), e_X1 (ad 2) (ad 3) (ad 4) t_now), ((ad 2), eI cA 8 t_now_kinds), ((ad 4), eI cA 8 t_now_pitches), ((ad 19), eI cA 5 x.2.2.1), ((ad 20), e_X3 (ad 21) x.2.2.2)]) (va_runVN (As := [.int x.2.1]) (rest := []) ⟨hx, hb, hml, hown, htg⟩ (c_X3_returnOf l D cA _ fu (ad 20) (ad 21) x.2.2.2 x.2.1 o2 ho3) ⟨va_cnB 1 htg (gU q_2_145) rfl rfl rfl (hN _ q_3_86) (htg _ q_1_6) hd_X3_returnOf.2 ⟨Nat.le_of_ble_eq_true rfl, Nat.le_of_ble_eq_true rfl⟩, htg _ q_2_144, htg _ q_p2_4⟩ (xpV hN hK hP hD [5] rfl (by decide) rfl rfl) rfl rfl hl.1 rfl (lv_room (Nat.le_of_ble_eq_true rfl)) dX5_lost_42 ⟨Nat.zero_le _, Nat.zero_le _⟩) hP hD hS hA [5] [0, 1, 2, 3, 4] [0, 1, 2, 3, 4, 5] rfl rfl (by decide) (by decide) rfl (by decide) (fun H locs hP hD hS => ?_)
        refine lv_iconst (v := (-1 : Int32)) hx hb dX5_lost_45 (by decide) ?_
        refine lv_icmp_ne (tgt := 52) hx hb dX5_lost_46 (by decide) (fun c4 => ?_) (fun c4 => ?_)
        · have hm := it_f c4 hm
          exact B_52 _ HK_31 _ _ _ _ _ _ _ hm hP hD hS (lv_sub hl [0, 1, 2] rfl)
        · have hm := it_t c4 hm
          refine lv_iinc (v := (x.1 + (1 : Int32))) (lv' := [(2, .int (x.1 + (1 : Int32))), (0, .ref (ad 0)), (3, .int x.2.1)]) hx hb dX5_lost_49 hl (k := 1) rfl rfl (by decide) rfl (fun ls hl => ?_)
          exact B_52 _ HK_31 _ _ _ _ _ _ _ hm hP hD hS (lv_sub hl [1, 0, 2] rfl)
  unfold m_X5_lost at hm
  subst hargs
  have hl := lv_entry ([.ref (ad 0), .int l1]) (n := 4) (Nat.le_of_ble_eq_true rfl)
  rw [lg_entry_eq]
  generalize (lg_sl ([.ref (ad 0), .int l1]) ++ List.replicate (4 - (lg_sl ([.ref (ad 0), .int l1])).length) Slot.unset).toArray = ls at hl ⊢
  have hl : lv_has ls 4 [(0, .ref (ad 0)), (1, .int l1)] := hl
  refine lv_aload_n hx hb dX5_lost_0 rfl (lv_at hl 0 rfl) ?_
  refine lv_iload_n hx hb dX5_lost_1 rfl (lv_at hl 1 rfl) ?_
  obtain ⟨o5, ho6, hm⟩ := bd_s hm
  refine xr_i (wr := [((ad 2), eI cA 8 t_now_kinds), ((ad 4), eI cA 8 t_now_pitches), ((ad 19), eI cA 5 t_refusals), ((ad 20), e_X3 (ad 21) t_trial)]) (wn := [((ad 0), e_X5 ad t), ((ad 1), e_X1 (ad 2) (ad 3) (ad 4) t_now), ((ad 2), eI cA 8 t_now_kinds), ((ad 4), eI cA 8 t_now_pitches), ((ad 19), eI cA 5 t_refusals), ((ad 20), e_X3 (ad 21) t_trial)]) (va_runV (As := [.int l1]) (rest := []) ⟨hx, hb, hml, hown, htg⟩ (c_X5_isVoice l D cA _ fu ad t t_now l1 o5 ho6) (cwV 1 htg (gV q_2_87 q_2_89 q_p1_10 q_1_1 q_2_90) rfl rfl rfl hd_X5_isVoice ⟨Nat.le_of_ble_eq_true rfl, Nat.le_of_ble_eq_true rfl⟩) (xpV hN hK hP hD [0, 1] rfl (by decide) rfl rfl) rfl rfl hl.1 rfl (lv_room (Nat.le_of_ble_eq_true rfl)) dX5_lost_2 ⟨Nat.zero_le _, Nat.zero_le _⟩) hP hD hS hA [0, 1] [2, 3, 4, 5] [4, 5, 0, 1, 2, 3] rfl rfl (by decide) (by decide) rfl (by decide) (fun H locs hP hD hS => ?_)
  refine lv_if_ne (tgt := 15) hx hb dX5_lost_5 (by decide) (fun c7 => ?_) (fun c7 => ?_)
  · have hm := it_f c7 hm
    refine lv_aload_n hx hb dX5_lost_15 rfl (lv_at hl 0 rfl) ?_
    refine va_get (D := D) (ci := 5) (v := .ref (ad 20)) (C := RX5) (T := TX5) (N := 17) hx hb htg inX5 hown hK hP 0 rfl rfl 7 (by decide) (htg _ q_1_195) (fun _ h9 => h9) rfl dX5_lost_16 ?_
    refine lv_aload_n hx hb dX5_lost_19 rfl (lv_at hl 0 rfl) ?_
    refine va_get (D := D) (ci := 5) (v := .ref (ad 1)) (C := RX5) (T := TX5) (N := 17) hx hb htg inX5 hown hK hP 0 rfl rfl 0 (by decide) (htg _ q_1_188) (fun _ h9 => h9) rfl dX5_lost_20 ?_
    refine lv_iload_n hx hb dX5_lost_23 rfl (lv_at hl 1 rfl) ?_
    obtain ⟨o8, ho9, hm⟩ := bd_s hm
    refine xr_v (wr := [((ad 0), e_X5 ad t), ((ad 19), eI cA 5 t_refusals)]) (wn := [((ad 0), e_X5 ad t), ((ad 1), e_X1 (ad 2) (ad 3) (ad 4) t_now), ((ad 2), eI cA 8 t_now_kinds), ((ad 4), eI cA 8 t_now_pitches), ((ad 19), eI cA 5 t_refusals), ((ad 20), e_X3 (ad 21) o8)]) (va_runVN (As := [.ref (ad 1), .int l1]) (rest := []) ⟨hx, hb, hml, hown, htg⟩ (c_X3_standsFor l D cA _ fu (ad 20) (ad 21) (ad 1) (ad 2) (ad 3) (ad 4) t_trial t_now t_now_kinds t_now_pitches l1 o8 ho9) ⟨va_cnB 2 htg (gU q_2_126) rfl rfl rfl (hN _ q_2_123) (htg _ q_1_6) hd_X3_standsFor.2 ⟨Nat.le_of_ble_eq_true rfl, Nat.le_of_ble_eq_true rfl⟩, htg _ q_2_125, htg _ q_p2_0⟩ (xpV hN hK hP hD [5, 1, 2, 3] rfl (by decide) rfl rfl) rfl rfl hl.1 rfl (lv_room (Nat.le_of_ble_eq_true rfl)) dX5_lost_24 ⟨Nat.zero_le _, Nat.zero_le _⟩) hP hD hS hA [5, 1, 2, 3] [0, 4] [0, 3, 4, 5, 1, 2] rfl rfl (by decide) (by decide) rfl (by decide) (fun H locs hP hD hS => ?_)
    refine lv_iconst (v := (0 : Int32)) hx hb dX5_lost_27 (by decide) ?_
    refine lv_istore_n (lv' := [(2, .int (0 : Int32)), (0, .ref (ad 0)), (1, .int l1)]) hx hb dX5_lost_28 rfl hl (by decide) rfl (fun ls hl => ?_)
    refine lv_iconst (v := (0 : Int32)) hx hb dX5_lost_29 (by decide) ?_
    refine lv_istore_n (lv' := [(3, .int (0 : Int32)), (2, .int (0 : Int32)), (0, .ref (ad 0)), (1, .int l1)]) hx hb dX5_lost_30 rfl hl (by decide) rfl (fun ls hl => ?_)
    exact B_31 fu _ _ _ _ hm hP hD hS (lv_sub hl [2, 1, 0] rfl)
  · have hm := it_t c7 hm
    refine lv_aload_n hx hb dX5_lost_8 rfl (lv_at hl 0 rfl) ?_
    refine lv_bipush (v := (-2 : Int32)) hx hb dX5_lost_9 (by decide) ?_
    obtain ⟨o10, ho11, hm⟩ := bd_s hm
    refine xr_i (wr := [((ad 1), e_X1 (ad 2) (ad 3) (ad 4) t_now), ((ad 2), eI cA 8 t_now_kinds), ((ad 4), eI cA 8 t_now_pitches), ((ad 20), e_X3 (ad 21) t_trial)]) (wn := [((ad 0), e_X5 ad t), ((ad 1), e_X1 (ad 2) (ad 3) (ad 4) t_now), ((ad 2), eI cA 8 t_now_kinds), ((ad 4), eI cA 8 t_now_pitches), ((ad 19), eI cA 5 o10.2), ((ad 20), e_X3 (ad 21) t_trial)]) (va_runV (As := [.int (-2 : Int32)]) (rest := []) ⟨hx, hb, hml, hown, htg⟩ (c_X5_refuse l D cA _ fu ad t t_refusals (-2 : Int32) o10 ho11) (cwV 1 htg (gV q_2_10 q_2_12 q_p1_0 q_1_1 q_2_13) rfl rfl rfl hd_X5_refuse ⟨Nat.le_of_ble_eq_true rfl, Nat.le_of_ble_eq_true rfl⟩) (xpV hN hK hP hD [0, 4] rfl (by decide) rfl rfl) rfl rfl hl.1 rfl (lv_room (Nat.le_of_ble_eq_true rfl)) dX5_lost_11 ⟨Nat.zero_le _, Nat.zero_le _⟩) hP hD hS hA [0, 4] [1, 2, 3, 5] [4, 0, 1, 2, 5, 3] rfl rfl (by decide) (by decide) rfl (by decide) (fun H locs hP hD hS => ?_)
    rw [hQ]
    exact W.iret (v := o10.1) hx hb hr (fun t9 ht hW => ⟨⟨o10.1, (o10.2, t_trial), rfl, (Option.some.inj hm), by rw [ht]; exact hP, va_K.moved hW.alike hK, hD⟩, hS.F ht⟩) hS.2.2 dX5_lost_14
def b_X5_plain_52 (fu : Nat) (t : Nat → Int32) (t_now : Nat → Int32) (t_now_kinds : Nat → Int32) (t_now_pitches : Nat → Int32) (k_31 : (Int32 × Int32 × (Nat → Int32) × (Nat → Int32)) → Option (Int32 × ((Nat → Int32) × (Nat → Int32)))) (l2 : Int32) (l3 : Int32) (t_refusals : Nat → Int32) (t_trial : Nat → Int32) : Option (Int32 × ((Nat → Int32) × (Nat → Int32))) :=
  k_31 (l2, (l3 + (1 : Int32)), t_refusals, t_trial)
def b_X5_plain_31 (fu : Nat) (t : Nat → Int32) (t_now : Nat → Int32) (t_now_kinds : Nat → Int32) (t_now_pitches : Nat → Int32) (k_31 : (Int32 × Int32 × (Nat → Int32) × (Nat → Int32)) → Option (Int32 × ((Nat → Int32) × (Nat → Int32)))) (x : Int32 × Int32 × (Nat → Int32) × (Nat → Int32)) : Option (Int32 × ((Nat → Int32) × (Nat → Int32))) :=
  (if (40 : Int32) ≤ x.2.1 then
        some (x.1, (x.2.2.1, x.2.2.2))
      else
        (m_X3_returnOf fu x.2.2.2 x.2.1).bind fun o2 =>
        (if o2.1 = x.2.1 then
          b_X5_plain_52 fu t t_now t_now_kinds t_now_pitches k_31 (x.1 + (1 : Int32)) x.2.1 x.2.2.1 x.2.2.2
        else
          b_X5_plain_52 fu t t_now t_now_kinds t_now_pitches k_31 x.1 x.2.1 x.2.2.1 x.2.2.2))
def m_X5_plain (fu : Nat) (t : Nat → Int32) (t_now : Nat → Int32) (t_now_kinds : Nat → Int32) (t_now_pitches : Nat → Int32) (t_refusals : Nat → Int32) (t_trial : Nat → Int32) (l1 : Int32) : Option (Int32 × ((Nat → Int32) × (Nat → Int32))) :=
  (m_X5_isVoice fu t t_now l1).bind fun o5 =>
  (if o5.1 = 0 then
    (m_X5_refuse fu t t_refusals (-2 : Int32)).bind fun o10 =>
    some (o10.1, (o10.2, t_trial))
  else
    (m_X3_standsFor fu t_trial t_now t_now_kinds t_now_pitches l1).bind fun o8 =>
    lfix (b_X5_plain_31 fu t t_now t_now_kinds t_now_pitches) fu ((0 : Int32), (0 : Int32), t_refusals, o8))
abbrev rm_X5_plain : Room := ({ frames := 3, cells := 0, slots := 0, locals := 65 } : Room)
abbrev w0_X5_plain (cA : Nat → ClassId) (ad : Nat → Nat) (t : Nat → Int32) (t_now : Nat → Int32) (t_now_kinds : Nat → Int32) (t_now_pitches : Nat → Int32) (t_refusals : Nat → Int32) (t_trial : Nat → Int32) : va_W := [((ad 0), e_X5 ad t), ((ad 1), e_X1 (ad 2) (ad 3) (ad 4) t_now), ((ad 2), eI cA 8 t_now_kinds), ((ad 4), eI cA 8 t_now_pitches), ((ad 19), eI cA 5 t_refusals), ((ad 20), e_X3 (ad 21) t_trial)]
abbrev w1_X5_plain (cA : Nat → ClassId) (ad : Nat → Nat) (t : Nat → Int32) (t_now : Nat → Int32) (t_now_kinds : Nat → Int32) (t_now_pitches : Nat → Int32) (u : (Nat → Int32) × (Nat → Int32)) : va_W := [((ad 0), e_X5 ad t), ((ad 1), e_X1 (ad 2) (ad 3) (ad 4) t_now), ((ad 2), eI cA 8 t_now_kinds), ((ad 4), eI cA 8 t_now_pitches), ((ad 19), eI cA 5 u.1), ((ad 20), e_X3 (ad 21) u.2)]
theorem hd_X5_plain : yX5_plain.cls = RX5 ∧ yX5_plain.cls ≠ "java/lang/invoke/MethodHandle" ∧ yX5_plain.cls ≠ "java/lang/invoke/VarHandle" ∧ (parseMethodDescriptor yX5_plain.desc).map (fun d => d.parameters.length) = some 1 := by decide +kernel
set_option maxHeartbeats 40000000 in
set_option maxRecDepth 100000 in
theorem c_X5_plain (l : Launch) (D : va_G) (cA : Nat → ClassId) (sz : Nat) (fu : Nat) (ad : Nat → Nat) (t : Nat → Int32) (t_now : Nat → Int32) (t_now_kinds : Nat → Int32) (t_now_pitches : Nat → Int32) (t_refusals : Nat → Int32) (t_trial : Nat → Int32) (l1 : Int32) (out : Int32 × ((Nat → Int32) × (Nat → Int32))) (hm : m_X5_plain fu t t_now t_now_kinds t_now_pitches t_refusals t_trial l1 = some out) : MI l yX5_plain (wU yX5_plain cX5_plain 4 ((Option.some Jvm.ClassFile.FieldType.int))) rm_X5_plain D cA sz [.ref (ad 0), .int l1] (w0_X5_plain cA ad t t_now t_now_kinds t_now_pitches t_refusals t_trial) out (w1_X5_plain cA ad t t_now t_now_kinds t_now_pitches) := by
  refine Met.ofW (cc := cX5_plain) (maxL := 4) (ret := (Option.some Jvm.ClassFile.FieldType.int)) (by decide) rfl ?_
  intro p e s m args below meth c s₁ B hml hv
  obtain ⟨hargs, hsz, hP, hK, hD0, hN⟩ := hv
  have hx := B.exec
  have hb := B.bytes
  have hr := B.returns
  have htg : ∀ w ∈ gw, w.before args s = true := fun w h => atoms_spec (ws := wU yX5_plain cX5_plain 4 ((Option.some Jvm.ClassFile.FieldType.int))) B.pre w (List.mem_cons_of_mem _ h)
  have hown : s.vm.findClass RX5 = some m.cls := findClass_of_methodNamed B.named
  have hlocks := B.notSynchronized
  subst hsz
  have hD := hD0.self (sz := s.heap.size)
  have hA : ∀ q : Nat, s.heap.size ≤ q → va_A (w0_X5_plain cA ad t t_now t_now_kinds t_now_pitches t_refusals t_trial) s.heap.size q := fun q h => Or.inr h
  have hS : va_S (va_A (w0_X5_plain cA ad t t_now t_now_kinds t_now_pitches t_refusals t_trial) s.heap.size) s.heap s.heap [] := va_S.rf
  generalize va_A (w0_X5_plain cA ad t t_now t_now_kinds t_now_pitches t_refusals t_trial) s.heap.size = A at hA hD hS ⊢
  obtain ⟨Q, hQ⟩ : ∃ Q : State → Prop, Q = MQ below (va_Qi (fun (r : Int32) (u : (Nat → Int32) × (Nat → Int32)) => (r, u) = out) (pst0 D cA A (w1_X5_plain cA ad t t_now t_now_kinds t_now_pitches)) A) args s 0 0 A := ⟨_, rfl⟩
  refine (?_ : W p l e rm_X5_plain s m args below meth c s.heap [] 0 0 (MQ below (va_Qi (fun (r : Int32) (u : (Nat → Int32) × (Nat → Int32)) => (r, u) = out) (pst0 D cA A (w1_X5_plain cA ad t t_now t_now_kinds t_now_pitches)) A) args s 0 0 A) (entryFrame m args 4))
  rw [← hQ]
  have hP : va_P D CL [((ad 0), e_X5 ad t), ((ad 1), e_X1 (ad 2) (ad 3) (ad 4) t_now), ((ad 2), eI cA 8 t_now_kinds), ((ad 4), eI cA 8 t_now_pitches), ((ad 19), eI cA 5 t_refusals), ((ad 20), e_X3 (ad 21) t_trial)] s.heap := hP
  have hD : va_D A [((ad 0), e_X5 ad t), ((ad 1), e_X1 (ad 2) (ad 3) (ad 4) t_now), ((ad 2), eI cA 8 t_now_kinds), ((ad 4), eI cA 8 t_now_pitches), ((ad 19), eI cA 5 t_refusals), ((ad 20), e_X3 (ad 21) t_trial)] := hD
  have B_52 : ∀ (k_31 : (Int32 × Int32 × (Nat → Int32) × (Nat → Int32)) → Option (Int32 × ((Nat → Int32) × (Nat → Int32)))) (HK_31 : ∀ (x : Int32 × Int32 × (Nat → Int32) × (Nat → Int32)) (H : Heap) (locs : List Loc) (ls : Array Slot), k_31 x = some out → va_P D CL [((ad 0), e_X5 ad t), ((ad 1), e_X1 (ad 2) (ad 3) (ad 4) t_now), ((ad 2), eI cA 8 t_now_kinds), ((ad 4), eI cA 8 t_now_pitches), ((ad 19), eI cA 5 x.2.2.1), ((ad 20), e_X3 (ad 21) x.2.2.2)] H → va_D A [((ad 0), e_X5 ad t), ((ad 1), e_X1 (ad 2) (ad 3) (ad 4) t_now), ((ad 2), eI cA 8 t_now_kinds), ((ad 4), eI cA 8 t_now_pitches), ((ad 19), eI cA 5 x.2.2.1), ((ad 20), e_X3 (ad 21) x.2.2.2)] → va_S A s.heap H locs → lv_has ls 4 [(0, .ref (ad 0)), (2, .int x.1), (3, .int x.2.1)] → W p l e rm_X5_plain s m args below meth c H locs 0 0 Q (F0 m 31 ls [])) (l2 : Int32) (l3 : Int32) (t_refusals : Nat → Int32) (t_trial : Nat → Int32) (H : Heap) (locs : List Loc) (ls : Array Slot), b_X5_plain_52 fu t t_now t_now_kinds t_now_pitches k_31 l2 l3 t_refusals t_trial = some out → va_P D CL [((ad 0), e_X5 ad t), ((ad 1), e_X1 (ad 2) (ad 3) (ad 4) t_now), ((ad 2), eI cA 8 t_now_kinds), ((ad 4), eI cA 8 t_now_pitches), ((ad 19), eI cA 5 t_refusals), ((ad 20), e_X3 (ad 21) t_trial)] H → va_D A [((ad 0), e_X5 ad t), ((ad 1), e_X1 (ad 2) (ad 3) (ad 4) t_now), ((ad 2), eI cA 8 t_now_kinds), ((ad 4), eI cA 8 t_now_pitches), ((ad 19), eI cA 5 t_refusals), ((ad 20), e_X3 (ad 21) t_trial)] → va_S A s.heap H locs → lv_has ls 4 [(0, .ref (ad 0)), (2, .int l2), (3, .int l3)] → W p l e rm_X5_plain s m args below meth c H locs 0 0 Q (F0 m 52 ls []) := by
    intro k_31 HK_31 l2 l3 t_refusals t_trial H locs ls hm hP hD hS hl
    unfold b_X5_plain_52 at hm
    refine lv_iinc (v := (l3 + (1 : Int32))) (lv' := [(3, .int (l3 + (1 : Int32))), (0, .ref (ad 0)), (2, .int l2)]) hx hb dX5_plain_52 hl (k := 2) rfl rfl (by decide) rfl (fun ls hl => ?_)
    refine lv_goto (tgt := 31) hx hb dX5_plain_55 (by decide) ?_
    exact HK_31 _ _ _ _ hm hP hD hS (lv_sub hl [1, 2, 0] rfl)
  have B_31 : ∀ (n : Nat) (x : Int32 × Int32 × (Nat → Int32) × (Nat → Int32)) (H : Heap) (locs : List Loc) (ls : Array Slot), lfix (b_X5_plain_31 fu t t_now t_now_kinds t_now_pitches) n x = some out → va_P D CL [((ad 0), e_X5 ad t), ((ad 1), e_X1 (ad 2) (ad 3) (ad 4) t_now), ((ad 2), eI cA 8 t_now_kinds), ((ad 4), eI cA 8 t_now_pitches), ((ad 19), eI cA 5 x.2.2.1), ((ad 20), e_X3 (ad 21) x.2.2.2)] H → va_D A [((ad 0), e_X5 ad t), ((ad 1), e_X1 (ad 2) (ad 3) (ad 4) t_now), ((ad 2), eI cA 8 t_now_kinds), ((ad 4), eI cA 8 t_now_pitches), ((ad 19), eI cA 5 x.2.2.1), ((ad 20), e_X3 (ad 21) x.2.2.2)] → va_S A s.heap H locs → lv_has ls 4 [(0, .ref (ad 0)), (2, .int x.1), (3, .int x.2.1)] → W p l e rm_X5_plain s m args below meth c H locs 0 0 Q (F0 m 31 ls []) := by
    intro  n
    induction n with
    | zero => intro x H locs ls hm; cases (show none = some out from hm)
    | succ n HK_31 =>
      intro x H locs ls hm hP hD hS hl
      replace hm : b_X5_plain_31 fu t t_now t_now_kinds t_now_pitches (lfix (b_X5_plain_31 fu t t_now t_now_kinds t_now_pitches) n) x = some out := hm
      unfold b_X5_plain_31 at hm
      refine lv_iload_n hx hb dX5_plain_31 rfl (lv_at hl 2 rfl) ?_
      refine lv_bipush (v := (40 : Int32)) hx hb dX5_plain_32 (by decide) ?_
      refine lv_icmp_ge (tgt := 58) hx hb dX5_plain_34 (by decide) (fun c1 => ?_) (fun c1 => ?_)
      · have hm := it_t c1 hm
        refine lv_iload_n hx hb dX5_plain_58 rfl (lv_at hl 1 rfl) ?_
        rw [hQ]
        exact W.iret (v := x.1) hx hb hr (fun t9 ht hW => ⟨⟨x.1, (x.2.2.1, x.2.2.2), rfl, (Option.some.inj hm), by rw [ht]; exact hP, va_K.moved hW.alike hK, hD⟩, hS.F ht⟩) hS.2.2 dX5_plain_59
      · have hm := it_f c1 hm
        refine lv_aload_n hx hb dX5_plain_37 rfl (lv_at hl 0 rfl) ?_
        refine va_get (D := D) (ci := 5) (v := .ref (ad 20)) (C := RX5) (T := TX5) (N := 17) hx hb htg inX5 hown hK hP 0 rfl rfl 7 (by decide) (htg _ q_1_195) (fun _ h9 => h9) rfl dX5_plain_38 ?_
        refine lv_iload_n hx hb dX5_plain_41 rfl (lv_at hl 2 rfl) ?_
        obtain ⟨o2, ho3, hm⟩ := bd_s hm
        refine xr_i (wr := [((ad 0), e_X5 ad t), ((ad 1), e_X1 (ad 2) (ad 3) (ad 4) t_now), ((ad 2), eI cA 8 t_now_kinds), ((ad 4), eI cA 8 t_now_pitches), ((ad 19), eI cA 5 x.2.2.1)]) (wn := [((ad 0), e_X5 ad t), ((ad 1), e_X1 (ad 2) (ad 3) (ad 4) t_now), ((ad 2), eI cA 8 t_now_kinds), ((ad 4), eI cA 8 t_now_pitches), ((ad 19), eI cA 5 x.2.2.1), ((ad 20), e_X3 (ad 21) x.2.2.2)]) (va_runVN (As := [.int x.2.1]) (rest := []) ⟨hx, hb, hml, hown, htg⟩ (c_X3_returnOf l D cA _ fu (ad 20) (ad 21) x.2.2.2 x.2.1 o2 ho3) ⟨va_cnB 1 htg (gU q_2_145) rfl rfl rfl (hN _ q_3_86) (htg _ q_1_6) hd_X3_returnOf.2 ⟨Nat.le_of_ble_eq_true rfl, Nat.le_of_ble_eq_true rfl⟩, htg _ q_2_144, htg _ q_p2_4⟩ (xpV hN hK hP hD [5] rfl (by decide) rfl rfl) rfl rfl hl.1 rfl (lv_room (Nat.le_of_ble_eq_true rfl)) dX5_plain_42 ⟨Nat.zero_le _, Nat.zero_le _⟩) hP hD hS hA [5] [0, 1, 2, 3, 4] [0, 1, 2, 3, 4, 5] rfl rfl (by decide) (by decide) rfl (by decide) (fun H locs hP hD hS => ?_)
        refine lv_iload_n hx hb dX5_plain_45 rfl (lv_at hl 2 rfl) ?_
        refine lv_icmp_ne (tgt := 52) hx hb dX5_plain_46 (by decide) (fun c4 => ?_) (fun c4 => ?_)
        · have hm := it_f c4 hm
          exact B_52 _ HK_31 _ _ _ _ _ _ _ hm hP hD hS (lv_sub hl [0, 1, 2] rfl)
        · have hm := it_t c4 hm
          refine lv_iinc (v := (x.1 + (1 : Int32))) (lv' := [(2, .int (x.1 + (1 : Int32))), (0, .ref (ad 0)), (3, .int x.2.1)]) hx hb dX5_plain_49 hl (k := 1) rfl rfl (by decide) rfl (fun ls hl => ?_)
          exact B_52 _ HK_31 _ _ _ _ _ _ _ hm hP hD hS (lv_sub hl [1, 0, 2] rfl)
  unfold m_X5_plain at hm
  subst hargs
  have hl := lv_entry ([.ref (ad 0), .int l1]) (n := 4) (Nat.le_of_ble_eq_true rfl)
  rw [lg_entry_eq]
  generalize (lg_sl ([.ref (ad 0), .int l1]) ++ List.replicate (4 - (lg_sl ([.ref (ad 0), .int l1])).length) Slot.unset).toArray = ls at hl ⊢
  have hl : lv_has ls 4 [(0, .ref (ad 0)), (1, .int l1)] := hl
  refine lv_aload_n hx hb dX5_plain_0 rfl (lv_at hl 0 rfl) ?_
  refine lv_iload_n hx hb dX5_plain_1 rfl (lv_at hl 1 rfl) ?_
  obtain ⟨o5, ho6, hm⟩ := bd_s hm
  refine xr_i (wr := [((ad 2), eI cA 8 t_now_kinds), ((ad 4), eI cA 8 t_now_pitches), ((ad 19), eI cA 5 t_refusals), ((ad 20), e_X3 (ad 21) t_trial)]) (wn := [((ad 0), e_X5 ad t), ((ad 1), e_X1 (ad 2) (ad 3) (ad 4) t_now), ((ad 2), eI cA 8 t_now_kinds), ((ad 4), eI cA 8 t_now_pitches), ((ad 19), eI cA 5 t_refusals), ((ad 20), e_X3 (ad 21) t_trial)]) (va_runV (As := [.int l1]) (rest := []) ⟨hx, hb, hml, hown, htg⟩ (c_X5_isVoice l D cA _ fu ad t t_now l1 o5 ho6) (cwV 1 htg (gV q_2_87 q_2_89 q_p1_10 q_1_1 q_2_90) rfl rfl rfl hd_X5_isVoice ⟨Nat.le_of_ble_eq_true rfl, Nat.le_of_ble_eq_true rfl⟩) (xpV hN hK hP hD [0, 1] rfl (by decide) rfl rfl) rfl rfl hl.1 rfl (lv_room (Nat.le_of_ble_eq_true rfl)) dX5_plain_2 ⟨Nat.zero_le _, Nat.zero_le _⟩) hP hD hS hA [0, 1] [2, 3, 4, 5] [4, 5, 0, 1, 2, 3] rfl rfl (by decide) (by decide) rfl (by decide) (fun H locs hP hD hS => ?_)
  refine lv_if_ne (tgt := 15) hx hb dX5_plain_5 (by decide) (fun c7 => ?_) (fun c7 => ?_)
  · have hm := it_f c7 hm
    refine lv_aload_n hx hb dX5_plain_15 rfl (lv_at hl 0 rfl) ?_
    refine va_get (D := D) (ci := 5) (v := .ref (ad 20)) (C := RX5) (T := TX5) (N := 17) hx hb htg inX5 hown hK hP 0 rfl rfl 7 (by decide) (htg _ q_1_195) (fun _ h9 => h9) rfl dX5_plain_16 ?_
    refine lv_aload_n hx hb dX5_plain_19 rfl (lv_at hl 0 rfl) ?_
    refine va_get (D := D) (ci := 5) (v := .ref (ad 1)) (C := RX5) (T := TX5) (N := 17) hx hb htg inX5 hown hK hP 0 rfl rfl 0 (by decide) (htg _ q_1_188) (fun _ h9 => h9) rfl dX5_plain_20 ?_
    refine lv_iload_n hx hb dX5_plain_23 rfl (lv_at hl 1 rfl) ?_
    obtain ⟨o8, ho9, hm⟩ := bd_s hm
    refine xr_v (wr := [((ad 0), e_X5 ad t), ((ad 19), eI cA 5 t_refusals)]) (wn := [((ad 0), e_X5 ad t), ((ad 1), e_X1 (ad 2) (ad 3) (ad 4) t_now), ((ad 2), eI cA 8 t_now_kinds), ((ad 4), eI cA 8 t_now_pitches), ((ad 19), eI cA 5 t_refusals), ((ad 20), e_X3 (ad 21) o8)]) (va_runVN (As := [.ref (ad 1), .int l1]) (rest := []) ⟨hx, hb, hml, hown, htg⟩ (c_X3_standsFor l D cA _ fu (ad 20) (ad 21) (ad 1) (ad 2) (ad 3) (ad 4) t_trial t_now t_now_kinds t_now_pitches l1 o8 ho9) ⟨va_cnB 2 htg (gU q_2_126) rfl rfl rfl (hN _ q_2_123) (htg _ q_1_6) hd_X3_standsFor.2 ⟨Nat.le_of_ble_eq_true rfl, Nat.le_of_ble_eq_true rfl⟩, htg _ q_2_125, htg _ q_p2_0⟩ (xpV hN hK hP hD [5, 1, 2, 3] rfl (by decide) rfl rfl) rfl rfl hl.1 rfl (lv_room (Nat.le_of_ble_eq_true rfl)) dX5_plain_24 ⟨Nat.zero_le _, Nat.zero_le _⟩) hP hD hS hA [5, 1, 2, 3] [0, 4] [0, 3, 4, 5, 1, 2] rfl rfl (by decide) (by decide) rfl (by decide) (fun H locs hP hD hS => ?_)
    refine lv_iconst (v := (0 : Int32)) hx hb dX5_plain_27 (by decide) ?_
    refine lv_istore_n (lv' := [(2, .int (0 : Int32)), (0, .ref (ad 0)), (1, .int l1)]) hx hb dX5_plain_28 rfl hl (by decide) rfl (fun ls hl => ?_)
    refine lv_iconst (v := (0 : Int32)) hx hb dX5_plain_29 (by decide) ?_
    refine lv_istore_n (lv' := [(3, .int (0 : Int32)), (2, .int (0 : Int32)), (0, .ref (ad 0)), (1, .int l1)]) hx hb dX5_plain_30 rfl hl (by decide) rfl (fun ls hl => ?_)
    exact B_31 fu _ _ _ _ hm hP hD hS (lv_sub hl [2, 1, 0] rfl)
  · have hm := it_t c7 hm
    refine lv_aload_n hx hb dX5_plain_8 rfl (lv_at hl 0 rfl) ?_
    refine lv_bipush (v := (-2 : Int32)) hx hb dX5_plain_9 (by decide) ?_
    obtain ⟨o10, ho11, hm⟩ := bd_s hm
    refine xr_i (wr := [((ad 1), e_X1 (ad 2) (ad 3) (ad 4) t_now), ((ad 2), eI cA 8 t_now_kinds), ((ad 4), eI cA 8 t_now_pitches), ((ad 20), e_X3 (ad 21) t_trial)]) (wn := [((ad 0), e_X5 ad t), ((ad 1), e_X1 (ad 2) (ad 3) (ad 4) t_now), ((ad 2), eI cA 8 t_now_kinds), ((ad 4), eI cA 8 t_now_pitches), ((ad 19), eI cA 5 o10.2), ((ad 20), e_X3 (ad 21) t_trial)]) (va_runV (As := [.int (-2 : Int32)]) (rest := []) ⟨hx, hb, hml, hown, htg⟩ (c_X5_refuse l D cA _ fu ad t t_refusals (-2 : Int32) o10 ho11) (cwV 1 htg (gV q_2_10 q_2_12 q_p1_0 q_1_1 q_2_13) rfl rfl rfl hd_X5_refuse ⟨Nat.le_of_ble_eq_true rfl, Nat.le_of_ble_eq_true rfl⟩) (xpV hN hK hP hD [0, 4] rfl (by decide) rfl rfl) rfl rfl hl.1 rfl (lv_room (Nat.le_of_ble_eq_true rfl)) dX5_plain_11 ⟨Nat.zero_le _, Nat.zero_le _⟩) hP hD hS hA [0, 4] [1, 2, 3, 5] [4, 0, 1, 2, 5, 3] rfl rfl (by decide) (by decide) rfl (by decide) (fun H locs hP hD hS => ?_)
    rw [hQ]
    exact W.iret (v := o10.1) hx hb hr (fun t9 ht hW => ⟨⟨o10.1, (o10.2, t_trial), rfl, (Option.some.inj hm), by rw [ht]; exact hP, va_K.moved hW.alike hK, hD⟩, hS.F ht⟩) hS.2.2 dX5_plain_14
def b_X5_areTwins_26 (fu : Nat) (t : Nat → Int32) (t_now : Nat → Int32) (t_now_kinds : Nat → Int32) (t_now_pitches : Nat → Int32) (k_26 : (Int32 × (Nat → Int32) × (Nat → Int32)) → Option (Int32 × ((Nat → Int32) × (Nat → Int32)))) (x : Int32 × (Nat → Int32) × (Nat → Int32)) : Option (Int32 × ((Nat → Int32) × (Nat → Int32))) :=
  (if (40 : Int32) ≤ x.1 then
        some ((1 : Int32), (x.2.1, x.2.2))
      else
        (m_X3_returnOf fu x.2.1 x.1).bind fun o2 =>
        (m_X3_returnOf fu x.2.2 x.1).bind fun o4 =>
        (if o2.1 = o4.1 then
          k_26 ((x.1 + (1 : Int32)), x.2.1, x.2.2)
        else
          some ((0 : Int32), (x.2.1, x.2.2))))
def m_X5_areTwins (fu : Nat) (t : Nat → Int32) (t_now : Nat → Int32) (t_now_kinds : Nat → Int32) (t_now_pitches : Nat → Int32) (t_trial : Nat → Int32) (t_otherTrial : Nat → Int32) (l1 : Int32) (l2 : Int32) : Option (Int32 × ((Nat → Int32) × (Nat → Int32))) :=
  (m_X3_standsFor fu t_trial t_now t_now_kinds t_now_pitches l1).bind fun o7 =>
  (m_X3_standsFor fu t_otherTrial t_now t_now_kinds t_now_pitches l2).bind fun o9 =>
  lfix (b_X5_areTwins_26 fu t t_now t_now_kinds t_now_pitches) fu ((0 : Int32), o7, o9)
abbrev rm_X5_areTwins : Room := ({ frames := 3, cells := 0, slots := 0, locals := 65 } : Room)
abbrev w0_X5_areTwins (cA : Nat → ClassId) (ad : Nat → Nat) (t : Nat → Int32) (t_now : Nat → Int32) (t_now_kinds : Nat → Int32) (t_now_pitches : Nat → Int32) (t_trial : Nat → Int32) (t_otherTrial : Nat → Int32) : va_W := [((ad 0), e_X5 ad t), ((ad 1), e_X1 (ad 2) (ad 3) (ad 4) t_now), ((ad 2), eI cA 8 t_now_kinds), ((ad 4), eI cA 8 t_now_pitches), ((ad 20), e_X3 (ad 21) t_trial), ((ad 22), e_X3 (ad 23) t_otherTrial)]
abbrev w1_X5_areTwins (cA : Nat → ClassId) (ad : Nat → Nat) (t : Nat → Int32) (t_now : Nat → Int32) (t_now_kinds : Nat → Int32) (t_now_pitches : Nat → Int32) (u : (Nat → Int32) × (Nat → Int32)) : va_W := [((ad 0), e_X5 ad t), ((ad 1), e_X1 (ad 2) (ad 3) (ad 4) t_now), ((ad 2), eI cA 8 t_now_kinds), ((ad 4), eI cA 8 t_now_pitches), ((ad 20), e_X3 (ad 21) u.1), ((ad 22), e_X3 (ad 23) u.2)]
theorem hd_X5_areTwins : yX5_areTwins.cls = RX5 ∧ yX5_areTwins.cls ≠ "java/lang/invoke/MethodHandle" ∧ yX5_areTwins.cls ≠ "java/lang/invoke/VarHandle" ∧ (parseMethodDescriptor yX5_areTwins.desc).map (fun d => d.parameters.length) = some 2 := by decide +kernel
set_option maxHeartbeats 40000000 in
set_option maxRecDepth 100000 in
theorem c_X5_areTwins (l : Launch) (D : va_G) (cA : Nat → ClassId) (sz : Nat) (fu : Nat) (ad : Nat → Nat) (t : Nat → Int32) (t_now : Nat → Int32) (t_now_kinds : Nat → Int32) (t_now_pitches : Nat → Int32) (t_trial : Nat → Int32) (t_otherTrial : Nat → Int32) (l1 : Int32) (l2 : Int32) (out : Int32 × ((Nat → Int32) × (Nat → Int32))) (hm : m_X5_areTwins fu t t_now t_now_kinds t_now_pitches t_trial t_otherTrial l1 l2 = some out) : MI l yX5_areTwins (wU yX5_areTwins cX5_areTwins 4 ((Option.some Jvm.ClassFile.FieldType.boolean))) rm_X5_areTwins D cA sz [.ref (ad 0), .int l1, .int l2] (w0_X5_areTwins cA ad t t_now t_now_kinds t_now_pitches t_trial t_otherTrial) out (w1_X5_areTwins cA ad t t_now t_now_kinds t_now_pitches) := by
  refine Met.ofW (cc := cX5_areTwins) (maxL := 4) (ret := (Option.some Jvm.ClassFile.FieldType.boolean)) (by decide) rfl ?_
  intro p e s m args below meth c s₁ B hml hv
  obtain ⟨hargs, hsz, hP, hK, hD0, hN⟩ := hv
  have hx := B.exec
  have hb := B.bytes
  have hr := B.returns
  have htg : ∀ w ∈ gw, w.before args s = true := fun w h => atoms_spec (ws := wU yX5_areTwins cX5_areTwins 4 ((Option.some Jvm.ClassFile.FieldType.boolean))) B.pre w (List.mem_cons_of_mem _ h)
  have hown : s.vm.findClass RX5 = some m.cls := findClass_of_methodNamed B.named
  have hlocks := B.notSynchronized
  subst hsz
  have hD := hD0.self (sz := s.heap.size)
  have hA : ∀ q : Nat, s.heap.size ≤ q → va_A (w0_X5_areTwins cA ad t t_now t_now_kinds t_now_pitches t_trial t_otherTrial) s.heap.size q := fun q h => Or.inr h
  have hS : va_S (va_A (w0_X5_areTwins cA ad t t_now t_now_kinds t_now_pitches t_trial t_otherTrial) s.heap.size) s.heap s.heap [] := va_S.rf
  generalize va_A (w0_X5_areTwins cA ad t t_now t_now_kinds t_now_pitches t_trial t_otherTrial) s.heap.size = A at hA hD hS ⊢
  obtain ⟨Q, hQ⟩ : ∃ Q : State → Prop, Q = MQ below (va_Qi (fun (r : Int32) (u : (Nat → Int32) × (Nat → Int32)) => (r, u) = out) (pst0 D cA A (w1_X5_areTwins cA ad t t_now t_now_kinds t_now_pitches)) A) args s 0 0 A := ⟨_, rfl⟩
  refine (?_ : W p l e rm_X5_areTwins s m args below meth c s.heap [] 0 0 (MQ below (va_Qi (fun (r : Int32) (u : (Nat → Int32) × (Nat → Int32)) => (r, u) = out) (pst0 D cA A (w1_X5_areTwins cA ad t t_now t_now_kinds t_now_pitches)) A) args s 0 0 A) (entryFrame m args 4))
  rw [← hQ]
  have hP : va_P D CL [((ad 0), e_X5 ad t), ((ad 1), e_X1 (ad 2) (ad 3) (ad 4) t_now), ((ad 2), eI cA 8 t_now_kinds), ((ad 4), eI cA 8 t_now_pitches), ((ad 20), e_X3 (ad 21) t_trial), ((ad 22), e_X3 (ad 23) t_otherTrial)] s.heap := hP
  have hD : va_D A [((ad 0), e_X5 ad t), ((ad 1), e_X1 (ad 2) (ad 3) (ad 4) t_now), ((ad 2), eI cA 8 t_now_kinds), ((ad 4), eI cA 8 t_now_pitches), ((ad 20), e_X3 (ad 21) t_trial), ((ad 22), e_X3 (ad 23) t_otherTrial)] := hD
  have B_26 : ∀ (n : Nat) (x : Int32 × (Nat → Int32) × (Nat → Int32)) (H : Heap) (locs : List Loc) (ls : Array Slot), lfix (b_X5_areTwins_26 fu t t_now t_now_kinds t_now_pitches) n x = some out → va_P D CL [((ad 0), e_X5 ad t), ((ad 1), e_X1 (ad 2) (ad 3) (ad 4) t_now), ((ad 2), eI cA 8 t_now_kinds), ((ad 4), eI cA 8 t_now_pitches), ((ad 20), e_X3 (ad 21) x.2.1), ((ad 22), e_X3 (ad 23) x.2.2)] H → va_D A [((ad 0), e_X5 ad t), ((ad 1), e_X1 (ad 2) (ad 3) (ad 4) t_now), ((ad 2), eI cA 8 t_now_kinds), ((ad 4), eI cA 8 t_now_pitches), ((ad 20), e_X3 (ad 21) x.2.1), ((ad 22), e_X3 (ad 23) x.2.2)] → va_S A s.heap H locs → lv_has ls 4 [(0, .ref (ad 0)), (3, .int x.1)] → W p l e rm_X5_areTwins s m args below meth c H locs 0 0 Q (F0 m 26 ls []) := by
    intro  n
    induction n with
    | zero => intro x H locs ls hm; cases (show none = some out from hm)
    | succ n HK_26 =>
      intro x H locs ls hm hP hD hS hl
      replace hm : b_X5_areTwins_26 fu t t_now t_now_kinds t_now_pitches (lfix (b_X5_areTwins_26 fu t t_now t_now_kinds t_now_pitches) n) x = some out := hm
      unfold b_X5_areTwins_26 at hm
      refine lv_iload_n hx hb dX5_areTwins_26 rfl (lv_at hl 1 rfl) ?_
      refine lv_bipush (v := (40 : Int32)) hx hb dX5_areTwins_27 (by decide) ?_
      refine lv_icmp_ge (tgt := 59) hx hb dX5_areTwins_29 (by decide) (fun c1 => ?_) (fun c1 => ?_)
      · have hm := it_t c1 hm
        refine lv_iconst (v := (1 : Int32)) hx hb dX5_areTwins_59 (by decide) ?_
        rw [hQ]
        exact W.zret (v := (1 : Int32)) hx hb hr rfl (fun t9 ht hW => ⟨⟨(1 : Int32), (x.2.1, x.2.2), rfl, (Option.some.inj hm), by rw [ht]; exact hP, va_K.moved hW.alike hK, hD⟩, hS.F ht⟩) hS.2.2 dX5_areTwins_60
      · have hm := it_f c1 hm
        refine lv_aload_n hx hb dX5_areTwins_32 rfl (lv_at hl 0 rfl) ?_
        refine va_get (D := D) (ci := 5) (v := .ref (ad 20)) (C := RX5) (T := TX5) (N := 17) hx hb htg inX5 hown hK hP 0 rfl rfl 7 (by decide) (htg _ q_1_195) (fun _ h9 => h9) rfl dX5_areTwins_33 ?_
        refine lv_iload_n hx hb dX5_areTwins_36 rfl (lv_at hl 1 rfl) ?_
        obtain ⟨o2, ho3, hm⟩ := bd_s hm
        refine xr_i (wr := [((ad 0), e_X5 ad t), ((ad 1), e_X1 (ad 2) (ad 3) (ad 4) t_now), ((ad 2), eI cA 8 t_now_kinds), ((ad 4), eI cA 8 t_now_pitches), ((ad 22), e_X3 (ad 23) x.2.2)]) (wn := [((ad 0), e_X5 ad t), ((ad 1), e_X1 (ad 2) (ad 3) (ad 4) t_now), ((ad 2), eI cA 8 t_now_kinds), ((ad 4), eI cA 8 t_now_pitches), ((ad 20), e_X3 (ad 21) x.2.1), ((ad 22), e_X3 (ad 23) x.2.2)]) (va_runVN (As := [.int x.1]) (rest := []) ⟨hx, hb, hml, hown, htg⟩ (c_X3_returnOf l D cA _ fu (ad 20) (ad 21) x.2.1 x.1 o2 ho3) ⟨va_cnB 1 htg (gU q_2_145) rfl rfl rfl (hN _ q_3_86) (htg _ q_1_6) hd_X3_returnOf.2 ⟨Nat.le_of_ble_eq_true rfl, Nat.le_of_ble_eq_true rfl⟩, htg _ q_2_144, htg _ q_p2_4⟩ (xpV hN hK hP hD [4] rfl (by decide) rfl rfl) rfl rfl hl.1 rfl (lv_room (Nat.le_of_ble_eq_true rfl)) dX5_areTwins_37 ⟨Nat.zero_le _, Nat.zero_le _⟩) hP hD hS hA [4] [0, 1, 2, 3, 5] [0, 1, 2, 3, 5, 4] rfl rfl (by decide) (by decide) rfl (by decide) (fun H locs hP hD hS => ?_)
        refine lv_aload_n hx hb dX5_areTwins_40 rfl (lv_at hl 0 rfl) ?_
        refine va_get (D := D) (ci := 5) (v := .ref (ad 22)) (C := RX5) (T := TX5) (N := 17) hx hb htg inX5 hown hK hP 0 rfl rfl 8 (by decide) (htg _ q_1_196) (fun _ h9 => h9) rfl dX5_areTwins_41 ?_
        refine lv_iload_n hx hb dX5_areTwins_44 rfl (lv_at hl 1 rfl) ?_
        obtain ⟨o4, ho5, hm⟩ := bd_s hm
        refine xr_i (wr := [((ad 0), e_X5 ad t), ((ad 1), e_X1 (ad 2) (ad 3) (ad 4) t_now), ((ad 2), eI cA 8 t_now_kinds), ((ad 4), eI cA 8 t_now_pitches), ((ad 20), e_X3 (ad 21) x.2.1)]) (wn := [((ad 0), e_X5 ad t), ((ad 1), e_X1 (ad 2) (ad 3) (ad 4) t_now), ((ad 2), eI cA 8 t_now_kinds), ((ad 4), eI cA 8 t_now_pitches), ((ad 20), e_X3 (ad 21) x.2.1), ((ad 22), e_X3 (ad 23) x.2.2)]) (va_runVN (As := [.int x.1]) (rest := [.int o2.1]) ⟨hx, hb, hml, hown, htg⟩ (c_X3_returnOf l D cA _ fu (ad 22) (ad 23) x.2.2 x.1 o4 ho5) ⟨va_cnB 1 htg (gU q_2_145) rfl rfl rfl (hN _ q_3_86) (htg _ q_1_6) hd_X3_returnOf.2 ⟨Nat.le_of_ble_eq_true rfl, Nat.le_of_ble_eq_true rfl⟩, htg _ q_2_144, htg _ q_p2_4⟩ (xpV hN hK hP hD [5] rfl (by decide) rfl rfl) rfl rfl hl.1 rfl (lv_room (Nat.le_of_ble_eq_true rfl)) dX5_areTwins_45 ⟨Nat.zero_le _, Nat.zero_le _⟩) hP hD hS hA [5] [0, 1, 2, 3, 4] [0, 1, 2, 3, 4, 5] rfl rfl (by decide) (by decide) rfl (by decide) (fun H locs hP hD hS => ?_)
        refine lv_icmp_eq (tgt := 53) hx hb dX5_areTwins_48 (by decide) (fun c6 => ?_) (fun c6 => ?_)
        · have hm := it_t c6 hm
          refine lv_iinc (v := (x.1 + (1 : Int32))) (lv' := [(3, .int (x.1 + (1 : Int32))), (0, .ref (ad 0))]) hx hb dX5_areTwins_53 hl (k := 1) rfl rfl (by decide) rfl (fun ls hl => ?_)
          refine lv_goto (tgt := 26) hx hb dX5_areTwins_56 (by decide) ?_
          exact HK_26 _ _ _ _ hm hP hD hS (lv_sub hl [1, 0] rfl)
        · have hm := it_f c6 hm
          refine lv_iconst (v := (0 : Int32)) hx hb dX5_areTwins_51 (by decide) ?_
          rw [hQ]
          exact W.zret (v := (0 : Int32)) hx hb hr rfl (fun t9 ht hW => ⟨⟨(0 : Int32), (x.2.1, x.2.2), rfl, (Option.some.inj hm), by rw [ht]; exact hP, va_K.moved hW.alike hK, hD⟩, hS.F ht⟩) hS.2.2 dX5_areTwins_52
  unfold m_X5_areTwins at hm
  subst hargs
  have hl := lv_entry ([.ref (ad 0), .int l1, .int l2]) (n := 4) (Nat.le_of_ble_eq_true rfl)
  rw [lg_entry_eq]
  generalize (lg_sl ([.ref (ad 0), .int l1, .int l2]) ++ List.replicate (4 - (lg_sl ([.ref (ad 0), .int l1, .int l2])).length) Slot.unset).toArray = ls at hl ⊢
  have hl : lv_has ls 4 [(0, .ref (ad 0)), (1, .int l1), (2, .int l2)] := hl
  refine lv_aload_n hx hb dX5_areTwins_0 rfl (lv_at hl 0 rfl) ?_
  refine va_get (D := D) (ci := 5) (v := .ref (ad 20)) (C := RX5) (T := TX5) (N := 17) hx hb htg inX5 hown hK hP 0 rfl rfl 7 (by decide) (htg _ q_1_195) (fun _ h9 => h9) rfl dX5_areTwins_1 ?_
  refine lv_aload_n hx hb dX5_areTwins_4 rfl (lv_at hl 0 rfl) ?_
  refine va_get (D := D) (ci := 5) (v := .ref (ad 1)) (C := RX5) (T := TX5) (N := 17) hx hb htg inX5 hown hK hP 0 rfl rfl 0 (by decide) (htg _ q_1_188) (fun _ h9 => h9) rfl dX5_areTwins_5 ?_
  refine lv_iload_n hx hb dX5_areTwins_8 rfl (lv_at hl 1 rfl) ?_
  obtain ⟨o7, ho8, hm⟩ := bd_s hm
  refine xr_v (wr := [((ad 0), e_X5 ad t), ((ad 22), e_X3 (ad 23) t_otherTrial)]) (wn := [((ad 0), e_X5 ad t), ((ad 1), e_X1 (ad 2) (ad 3) (ad 4) t_now), ((ad 2), eI cA 8 t_now_kinds), ((ad 4), eI cA 8 t_now_pitches), ((ad 20), e_X3 (ad 21) o7), ((ad 22), e_X3 (ad 23) t_otherTrial)]) (va_runVN (As := [.ref (ad 1), .int l1]) (rest := []) ⟨hx, hb, hml, hown, htg⟩ (c_X3_standsFor l D cA _ fu (ad 20) (ad 21) (ad 1) (ad 2) (ad 3) (ad 4) t_trial t_now t_now_kinds t_now_pitches l1 o7 ho8) ⟨va_cnB 2 htg (gU q_2_126) rfl rfl rfl (hN _ q_2_123) (htg _ q_1_6) hd_X3_standsFor.2 ⟨Nat.le_of_ble_eq_true rfl, Nat.le_of_ble_eq_true rfl⟩, htg _ q_2_125, htg _ q_p2_0⟩ (xpV hN hK hP hD [4, 1, 2, 3] rfl (by decide) rfl rfl) rfl rfl hl.1 rfl (lv_room (Nat.le_of_ble_eq_true rfl)) dX5_areTwins_9 ⟨Nat.zero_le _, Nat.zero_le _⟩) hP hD hS hA [4, 1, 2, 3] [0, 5] [0, 3, 4, 5, 2, 1] rfl rfl (by decide) (by decide) rfl (by decide) (fun H locs hP hD hS => ?_)
  refine lv_aload_n hx hb dX5_areTwins_12 rfl (lv_at hl 0 rfl) ?_
  refine va_get (D := D) (ci := 5) (v := .ref (ad 22)) (C := RX5) (T := TX5) (N := 17) hx hb htg inX5 hown hK hP 0 rfl rfl 8 (by decide) (htg _ q_1_196) (fun _ h9 => h9) rfl dX5_areTwins_13 ?_
  refine lv_aload_n hx hb dX5_areTwins_16 rfl (lv_at hl 0 rfl) ?_
  refine va_get (D := D) (ci := 5) (v := .ref (ad 1)) (C := RX5) (T := TX5) (N := 17) hx hb htg inX5 hown hK hP 0 rfl rfl 0 (by decide) (htg _ q_1_188) (fun _ h9 => h9) rfl dX5_areTwins_17 ?_
  refine lv_iload_n hx hb dX5_areTwins_20 rfl (lv_at hl 2 rfl) ?_
  obtain ⟨o9, ho10, hm⟩ := bd_s hm
  refine xr_v (wr := [((ad 0), e_X5 ad t), ((ad 20), e_X3 (ad 21) o7)]) (wn := [((ad 0), e_X5 ad t), ((ad 1), e_X1 (ad 2) (ad 3) (ad 4) t_now), ((ad 2), eI cA 8 t_now_kinds), ((ad 4), eI cA 8 t_now_pitches), ((ad 20), e_X3 (ad 21) o7), ((ad 22), e_X3 (ad 23) o9)]) (va_runVN (As := [.ref (ad 1), .int l2]) (rest := []) ⟨hx, hb, hml, hown, htg⟩ (c_X3_standsFor l D cA _ fu (ad 22) (ad 23) (ad 1) (ad 2) (ad 3) (ad 4) t_otherTrial t_now t_now_kinds t_now_pitches l2 o9 ho10) ⟨va_cnB 2 htg (gU q_2_126) rfl rfl rfl (hN _ q_2_123) (htg _ q_1_6) hd_X3_standsFor.2 ⟨Nat.le_of_ble_eq_true rfl, Nat.le_of_ble_eq_true rfl⟩, htg _ q_2_125, htg _ q_p2_0⟩ (xpV hN hK hP hD [5, 1, 2, 3] rfl (by decide) rfl rfl) rfl rfl hl.1 rfl (lv_room (Nat.le_of_ble_eq_true rfl)) dX5_areTwins_21 ⟨Nat.zero_le _, Nat.zero_le _⟩) hP hD hS hA [5, 1, 2, 3] [0, 4] [0, 3, 4, 5, 1, 2] rfl rfl (by decide) (by decide) rfl (by decide) (fun H locs hP hD hS => ?_)
  refine lv_iconst (v := (0 : Int32)) hx hb dX5_areTwins_24 (by decide) ?_
  refine lv_istore_n (lv' := [(3, .int (0 : Int32)), (0, .ref (ad 0)), (1, .int l1), (2, .int l2)]) hx hb dX5_areTwins_25 rfl hl (by decide) rfl (fun ls hl => ?_)
  exact B_26 fu _ _ _ _ hm hP hD hS (lv_sub hl [1, 0] rfl)
def b_X5_twins_34 (fu : Nat) (t : Nat → Int32) (t_now : Nat → Int32) (t_now_kinds : Nat → Int32) (t_now_pitches : Nat → Int32) (k_4 : (Int32 × Int32 × (Nat → Int32) × (Nat → Int32)) → Option (Int32 × ((Nat → Int32) × (Nat → Int32)))) (k_17 : (Int32 × Int32 × Int32 × (Nat → Int32) × (Nat → Int32)) → Option (Int32 × ((Nat → Int32) × (Nat → Int32)))) (l1 : Int32) (l2 : Int32) (l3 : Int32) (t_trial : Nat → Int32) (t_otherTrial : Nat → Int32) : Option (Int32 × ((Nat → Int32) × (Nat → Int32))) :=
  k_17 (l1, l2, (l3 + (1 : Int32)), t_trial, t_otherTrial)
def b_X5_twins_17 (fu : Nat) (t : Nat → Int32) (t_now : Nat → Int32) (t_now_kinds : Nat → Int32) (t_now_pitches : Nat → Int32) (k_4 : (Int32 × Int32 × (Nat → Int32) × (Nat → Int32)) → Option (Int32 × ((Nat → Int32) × (Nat → Int32)))) (k_17 : (Int32 × Int32 × Int32 × (Nat → Int32) × (Nat → Int32)) → Option (Int32 × ((Nat → Int32) × (Nat → Int32)))) (x : Int32 × Int32 × Int32 × (Nat → Int32) × (Nat → Int32)) : Option (Int32 × ((Nat → Int32) × (Nat → Int32))) :=
  (if x.2.1 ≤ x.2.2.1 then
        k_4 (x.1, (x.2.1 + (1 : Int32)), x.2.2.2.1, x.2.2.2.2)
      else
        (m_X5_areTwins fu t t_now t_now_kinds t_now_pitches x.2.2.2.1 x.2.2.2.2 x.2.2.1 x.2.1).bind fun o2 =>
        (if o2.1 = 0 then
          b_X5_twins_34 fu t t_now t_now_kinds t_now_pitches k_4 k_17 x.1 x.2.1 x.2.2.1 o2.2.1 o2.2.2
        else
          b_X5_twins_34 fu t t_now t_now_kinds t_now_pitches k_4 k_17 (x.1 + (1 : Int32)) x.2.1 x.2.2.1 o2.2.1 o2.2.2))
def b_X5_twins_4 (fu : Nat) (t : Nat → Int32) (t_now : Nat → Int32) (t_now_kinds : Nat → Int32) (t_now_pitches : Nat → Int32) (k_4 : (Int32 × Int32 × (Nat → Int32) × (Nat → Int32)) → Option (Int32 × ((Nat → Int32) × (Nat → Int32)))) (x : Int32 × Int32 × (Nat → Int32) × (Nat → Int32)) : Option (Int32 × ((Nat → Int32) × (Nat → Int32))) :=
  (if t_now 8 ≤ x.2.1 then
        some (x.1, (x.2.2.1, x.2.2.2))
      else
        lfix (b_X5_twins_17 fu t t_now t_now_kinds t_now_pitches k_4) fu (x.1, x.2.1, (0 : Int32), x.2.2.1, x.2.2.2))
def m_X5_twins (fu : Nat) (t : Nat → Int32) (t_now : Nat → Int32) (t_now_kinds : Nat → Int32) (t_now_pitches : Nat → Int32) (t_trial : Nat → Int32) (t_otherTrial : Nat → Int32) : Option (Int32 × ((Nat → Int32) × (Nat → Int32))) :=
  lfix (b_X5_twins_4 fu t t_now t_now_kinds t_now_pitches) fu ((0 : Int32), (1 : Int32), t_trial, t_otherTrial)
abbrev rm_X5_twins : Room := ({ frames := 4, cells := 0, slots := 0, locals := 88 } : Room)
abbrev w0_X5_twins (cA : Nat → ClassId) (ad : Nat → Nat) (t : Nat → Int32) (t_now : Nat → Int32) (t_now_kinds : Nat → Int32) (t_now_pitches : Nat → Int32) (t_trial : Nat → Int32) (t_otherTrial : Nat → Int32) : va_W := [((ad 0), e_X5 ad t), ((ad 1), e_X1 (ad 2) (ad 3) (ad 4) t_now), ((ad 2), eI cA 8 t_now_kinds), ((ad 4), eI cA 8 t_now_pitches), ((ad 20), e_X3 (ad 21) t_trial), ((ad 22), e_X3 (ad 23) t_otherTrial)]
abbrev w1_X5_twins (cA : Nat → ClassId) (ad : Nat → Nat) (t : Nat → Int32) (t_now : Nat → Int32) (t_now_kinds : Nat → Int32) (t_now_pitches : Nat → Int32) (u : (Nat → Int32) × (Nat → Int32)) : va_W := [((ad 0), e_X5 ad t), ((ad 1), e_X1 (ad 2) (ad 3) (ad 4) t_now), ((ad 2), eI cA 8 t_now_kinds), ((ad 4), eI cA 8 t_now_pitches), ((ad 20), e_X3 (ad 21) u.1), ((ad 22), e_X3 (ad 23) u.2)]
theorem hd_X5_twins : yX5_twins.cls = RX5 ∧ yX5_twins.cls ≠ "java/lang/invoke/MethodHandle" ∧ yX5_twins.cls ≠ "java/lang/invoke/VarHandle" ∧ (parseMethodDescriptor yX5_twins.desc).map (fun d => d.parameters.length) = some 0 := by decide +kernel
set_option maxHeartbeats 40000000 in
set_option maxRecDepth 100000 in
theorem c_X5_twins (l : Launch) (D : va_G) (cA : Nat → ClassId) (sz : Nat) (fu : Nat) (ad : Nat → Nat) (t : Nat → Int32) (t_now : Nat → Int32) (t_now_kinds : Nat → Int32) (t_now_pitches : Nat → Int32) (t_trial : Nat → Int32) (t_otherTrial : Nat → Int32) (out : Int32 × ((Nat → Int32) × (Nat → Int32))) (hm : m_X5_twins fu t t_now t_now_kinds t_now_pitches t_trial t_otherTrial = some out) : MI l yX5_twins (wU yX5_twins cX5_twins 4 ((Option.some Jvm.ClassFile.FieldType.int))) rm_X5_twins D cA sz [.ref (ad 0)] (w0_X5_twins cA ad t t_now t_now_kinds t_now_pitches t_trial t_otherTrial) out (w1_X5_twins cA ad t t_now t_now_kinds t_now_pitches) := by
  refine Met.ofW (cc := cX5_twins) (maxL := 4) (ret := (Option.some Jvm.ClassFile.FieldType.int)) (by decide) rfl ?_
  intro p e s m args below meth c s₁ B hml hv
  obtain ⟨hargs, hsz, hP, hK, hD0, hN⟩ := hv
  have hx := B.exec
  have hb := B.bytes
  have hr := B.returns
  have htg : ∀ w ∈ gw, w.before args s = true := fun w h => atoms_spec (ws := wU yX5_twins cX5_twins 4 ((Option.some Jvm.ClassFile.FieldType.int))) B.pre w (List.mem_cons_of_mem _ h)
  have hown : s.vm.findClass RX5 = some m.cls := findClass_of_methodNamed B.named
  have hlocks := B.notSynchronized
  subst hsz
  have hD := hD0.self (sz := s.heap.size)
  have hA : ∀ q : Nat, s.heap.size ≤ q → va_A (w0_X5_twins cA ad t t_now t_now_kinds t_now_pitches t_trial t_otherTrial) s.heap.size q := fun q h => Or.inr h
  have hS : va_S (va_A (w0_X5_twins cA ad t t_now t_now_kinds t_now_pitches t_trial t_otherTrial) s.heap.size) s.heap s.heap [] := va_S.rf
  generalize va_A (w0_X5_twins cA ad t t_now t_now_kinds t_now_pitches t_trial t_otherTrial) s.heap.size = A at hA hD hS ⊢
  obtain ⟨Q, hQ⟩ : ∃ Q : State → Prop, Q = MQ below (va_Qi (fun (r : Int32) (u : (Nat → Int32) × (Nat → Int32)) => (r, u) = out) (pst0 D cA A (w1_X5_twins cA ad t t_now t_now_kinds t_now_pitches)) A) args s 0 0 A := ⟨_, rfl⟩
  refine (?_ : W p l e rm_X5_twins s m args below meth c s.heap [] 0 0 (MQ below (va_Qi (fun (r : Int32) (u : (Nat → Int32) × (Nat → Int32)) => (r, u) = out) (pst0 D cA A (w1_X5_twins cA ad t t_now t_now_kinds t_now_pitches)) A) args s 0 0 A) (entryFrame m args 4))
  rw [← hQ]
  have hP : va_P D CL [((ad 0), e_X5 ad t), ((ad 1), e_X1 (ad 2) (ad 3) (ad 4) t_now), ((ad 2), eI cA 8 t_now_kinds), ((ad 4), eI cA 8 t_now_pitches), ((ad 20), e_X3 (ad 21) t_trial), ((ad 22), e_X3 (ad 23) t_otherTrial)] s.heap := hP
  have hD : va_D A [((ad 0), e_X5 ad t), ((ad 1), e_X1 (ad 2) (ad 3) (ad 4) t_now), ((ad 2), eI cA 8 t_now_kinds), ((ad 4), eI cA 8 t_now_pitches), ((ad 20), e_X3 (ad 21) t_trial), ((ad 22), e_X3 (ad 23) t_otherTrial)] := hD
  have B_34 : ∀ (k_4 : (Int32 × Int32 × (Nat → Int32) × (Nat → Int32)) → Option (Int32 × ((Nat → Int32) × (Nat → Int32)))) (HK_4 : ∀ (x : Int32 × Int32 × (Nat → Int32) × (Nat → Int32)) (H : Heap) (locs : List Loc) (ls : Array Slot), k_4 x = some out → va_P D CL [((ad 0), e_X5 ad t), ((ad 1), e_X1 (ad 2) (ad 3) (ad 4) t_now), ((ad 2), eI cA 8 t_now_kinds), ((ad 4), eI cA 8 t_now_pitches), ((ad 20), e_X3 (ad 21) x.2.2.1), ((ad 22), e_X3 (ad 23) x.2.2.2)] H → va_D A [((ad 0), e_X5 ad t), ((ad 1), e_X1 (ad 2) (ad 3) (ad 4) t_now), ((ad 2), eI cA 8 t_now_kinds), ((ad 4), eI cA 8 t_now_pitches), ((ad 20), e_X3 (ad 21) x.2.2.1), ((ad 22), e_X3 (ad 23) x.2.2.2)] → va_S A s.heap H locs → lv_has ls 4 [(0, .ref (ad 0)), (1, .int x.1), (2, .int x.2.1)] → W p l e rm_X5_twins s m args below meth c H locs 0 0 Q (F0 m 4 ls [])) (k_17 : (Int32 × Int32 × Int32 × (Nat → Int32) × (Nat → Int32)) → Option (Int32 × ((Nat → Int32) × (Nat → Int32)))) (HK_17 : ∀ (x : Int32 × Int32 × Int32 × (Nat → Int32) × (Nat → Int32)) (H : Heap) (locs : List Loc) (ls : Array Slot), k_17 x = some out → va_P D CL [((ad 0), e_X5 ad t), ((ad 1), e_X1 (ad 2) (ad 3) (ad 4) t_now), ((ad 2), eI cA 8 t_now_kinds), ((ad 4), eI cA 8 t_now_pitches), ((ad 20), e_X3 (ad 21) x.2.2.2.1), ((ad 22), e_X3 (ad 23) x.2.2.2.2)] H → va_D A [((ad 0), e_X5 ad t), ((ad 1), e_X1 (ad 2) (ad 3) (ad 4) t_now), ((ad 2), eI cA 8 t_now_kinds), ((ad 4), eI cA 8 t_now_pitches), ((ad 20), e_X3 (ad 21) x.2.2.2.1), ((ad 22), e_X3 (ad 23) x.2.2.2.2)] → va_S A s.heap H locs → lv_has ls 4 [(0, .ref (ad 0)), (1, .int x.1), (2, .int x.2.1), (3, .int x.2.2.1)] → W p l e rm_X5_twins s m args below meth c H locs 0 0 Q (F0 m 17 ls [])) (l1 : Int32) (l2 : Int32) (l3 : Int32) (t_trial : Nat → Int32) (t_otherTrial : Nat → Int32) (H : Heap) (locs : List Loc) (ls : Array Slot), b_X5_twins_34 fu t t_now t_now_kinds t_now_pitches k_4 k_17 l1 l2 l3 t_trial t_otherTrial = some out → va_P D CL [((ad 0), e_X5 ad t), ((ad 1), e_X1 (ad 2) (ad 3) (ad 4) t_now), ((ad 2), eI cA 8 t_now_kinds), ((ad 4), eI cA 8 t_now_pitches), ((ad 20), e_X3 (ad 21) t_trial), ((ad 22), e_X3 (ad 23) t_otherTrial)] H → va_D A [((ad 0), e_X5 ad t), ((ad 1), e_X1 (ad 2) (ad 3) (ad 4) t_now), ((ad 2), eI cA 8 t_now_kinds), ((ad 4), eI cA 8 t_now_pitches), ((ad 20), e_X3 (ad 21) t_trial), ((ad 22), e_X3 (ad 23) t_otherTrial)] → va_S A s.heap H locs → lv_has ls 4 [(0, .ref (ad 0)), (1, .int l1), (2, .int l2), (3, .int l3)] → W p l e rm_X5_twins s m args below meth c H locs 0 0 Q (F0 m 34 ls []) := by
    intro k_4 HK_4 k_17 HK_17 l1 l2 l3 t_trial t_otherTrial H locs ls hm hP hD hS hl
    unfold b_X5_twins_34 at hm
    refine lv_iinc (v := (l3 + (1 : Int32))) (lv' := [(3, .int (l3 + (1 : Int32))), (0, .ref (ad 0)), (1, .int l1), (2, .int l2)]) hx hb dX5_twins_34 hl (k := 3) rfl rfl (by decide) rfl (fun ls hl => ?_)
    refine lv_goto (tgt := 17) hx hb dX5_twins_37 (by decide) ?_
    exact HK_17 _ _ _ _ hm hP hD hS (lv_sub hl [1, 2, 3, 0] rfl)
  have B_17 : ∀ (k_4 : (Int32 × Int32 × (Nat → Int32) × (Nat → Int32)) → Option (Int32 × ((Nat → Int32) × (Nat → Int32)))) (HK_4 : ∀ (x : Int32 × Int32 × (Nat → Int32) × (Nat → Int32)) (H : Heap) (locs : List Loc) (ls : Array Slot), k_4 x = some out → va_P D CL [((ad 0), e_X5 ad t), ((ad 1), e_X1 (ad 2) (ad 3) (ad 4) t_now), ((ad 2), eI cA 8 t_now_kinds), ((ad 4), eI cA 8 t_now_pitches), ((ad 20), e_X3 (ad 21) x.2.2.1), ((ad 22), e_X3 (ad 23) x.2.2.2)] H → va_D A [((ad 0), e_X5 ad t), ((ad 1), e_X1 (ad 2) (ad 3) (ad 4) t_now), ((ad 2), eI cA 8 t_now_kinds), ((ad 4), eI cA 8 t_now_pitches), ((ad 20), e_X3 (ad 21) x.2.2.1), ((ad 22), e_X3 (ad 23) x.2.2.2)] → va_S A s.heap H locs → lv_has ls 4 [(0, .ref (ad 0)), (1, .int x.1), (2, .int x.2.1)] → W p l e rm_X5_twins s m args below meth c H locs 0 0 Q (F0 m 4 ls [])) (n : Nat) (x : Int32 × Int32 × Int32 × (Nat → Int32) × (Nat → Int32)) (H : Heap) (locs : List Loc) (ls : Array Slot), lfix (b_X5_twins_17 fu t t_now t_now_kinds t_now_pitches k_4) n x = some out → va_P D CL [((ad 0), e_X5 ad t), ((ad 1), e_X1 (ad 2) (ad 3) (ad 4) t_now), ((ad 2), eI cA 8 t_now_kinds), ((ad 4), eI cA 8 t_now_pitches), ((ad 20), e_X3 (ad 21) x.2.2.2.1), ((ad 22), e_X3 (ad 23) x.2.2.2.2)] H → va_D A [((ad 0), e_X5 ad t), ((ad 1), e_X1 (ad 2) (ad 3) (ad 4) t_now), ((ad 2), eI cA 8 t_now_kinds), ((ad 4), eI cA 8 t_now_pitches), ((ad 20), e_X3 (ad 21) x.2.2.2.1), ((ad 22), e_X3 (ad 23) x.2.2.2.2)] → va_S A s.heap H locs → lv_has ls 4 [(0, .ref (ad 0)), (1, .int x.1), (2, .int x.2.1), (3, .int x.2.2.1)] → W p l e rm_X5_twins s m args below meth c H locs 0 0 Q (F0 m 17 ls []) := by
    intro k_4 HK_4 n
    induction n with
    | zero => intro x H locs ls hm; cases (show none = some out from hm)
    | succ n HK_17 =>
      intro x H locs ls hm hP hD hS hl
      replace hm : b_X5_twins_17 fu t t_now t_now_kinds t_now_pitches k_4 (lfix (b_X5_twins_17 fu t t_now t_now_kinds t_now_pitches k_4) n) x = some out := hm
      unfold b_X5_twins_17 at hm
      refine lv_iload_n hx hb dX5_twins_17 rfl (lv_at hl 3 rfl) ?_
      refine lv_iload_n hx hb dX5_twins_18 rfl (lv_at hl 2 rfl) ?_
      refine lv_icmp_ge (tgt := 40) hx hb dX5_twins_19 (by decide) (fun c1 => ?_) (fun c1 => ?_)
      · have hm := it_t c1 hm
        refine lv_iinc (v := (x.2.1 + (1 : Int32))) (lv' := [(2, .int (x.2.1 + (1 : Int32))), (0, .ref (ad 0)), (1, .int x.1), (3, .int x.2.2.1)]) hx hb dX5_twins_40 hl (k := 2) rfl rfl (by decide) rfl (fun ls hl => ?_)
        refine lv_goto (tgt := 4) hx hb dX5_twins_43 (by decide) ?_
        exact HK_4 _ _ _ _ hm hP hD hS (lv_sub hl [1, 2, 0] rfl)
      · have hm := it_f c1 hm
        refine lv_aload_n hx hb dX5_twins_22 rfl (lv_at hl 0 rfl) ?_
        refine lv_iload_n hx hb dX5_twins_23 rfl (lv_at hl 3 rfl) ?_
        refine lv_iload_n hx hb dX5_twins_24 rfl (lv_at hl 2 rfl) ?_
        obtain ⟨o2, ho3, hm⟩ := bd_s hm
        refine xr_i (wr := []) (wn := [((ad 0), e_X5 ad t), ((ad 1), e_X1 (ad 2) (ad 3) (ad 4) t_now), ((ad 2), eI cA 8 t_now_kinds), ((ad 4), eI cA 8 t_now_pitches), ((ad 20), e_X3 (ad 21) o2.2.1), ((ad 22), e_X3 (ad 23) o2.2.2)]) (va_runV (As := [.int x.2.2.1, .int x.2.1]) (rest := []) ⟨hx, hb, hml, hown, htg⟩ (c_X5_areTwins l D cA _ fu ad t t_now t_now_kinds t_now_pitches x.2.2.2.1 x.2.2.2.2 x.2.2.1 x.2.1 o2 ho3) (cwV 2 htg (gV q_3_99 q_3_101 q_p3_9 q_1_1 q_3_102) rfl rfl rfl hd_X5_areTwins ⟨Nat.le_of_ble_eq_true rfl, Nat.le_of_ble_eq_true rfl⟩) (xpV hN hK hP hD [0, 1, 2, 3, 4, 5] rfl (by decide) rfl rfl) rfl rfl hl.1 rfl (lv_room (Nat.le_of_ble_eq_true rfl)) dX5_twins_25 ⟨Nat.zero_le _, Nat.zero_le _⟩) hP hD hS hA [0, 1, 2, 3, 4, 5] [] [0, 1, 2, 3, 4, 5] rfl rfl (by decide) (by decide) rfl (by decide) (fun H locs hP hD hS => ?_)
        refine lv_if_eq (tgt := 34) hx hb dX5_twins_28 (by decide) (fun c4 => ?_) (fun c4 => ?_)
        · have hm := it_t c4 hm
          exact B_34 _ HK_4 _ HK_17 _ _ _ _ _ _ _ _ hm hP hD hS (lv_sub hl [0, 1, 2, 3] rfl)
        · have hm := it_f c4 hm
          refine lv_iinc (v := (x.1 + (1 : Int32))) (lv' := [(1, .int (x.1 + (1 : Int32))), (0, .ref (ad 0)), (2, .int x.2.1), (3, .int x.2.2.1)]) hx hb dX5_twins_31 hl (k := 1) rfl rfl (by decide) rfl (fun ls hl => ?_)
          exact B_34 _ HK_4 _ HK_17 _ _ _ _ _ _ _ _ hm hP hD hS (lv_sub hl [1, 0, 2, 3] rfl)
  have B_4 : ∀ (n : Nat) (x : Int32 × Int32 × (Nat → Int32) × (Nat → Int32)) (H : Heap) (locs : List Loc) (ls : Array Slot), lfix (b_X5_twins_4 fu t t_now t_now_kinds t_now_pitches) n x = some out → va_P D CL [((ad 0), e_X5 ad t), ((ad 1), e_X1 (ad 2) (ad 3) (ad 4) t_now), ((ad 2), eI cA 8 t_now_kinds), ((ad 4), eI cA 8 t_now_pitches), ((ad 20), e_X3 (ad 21) x.2.2.1), ((ad 22), e_X3 (ad 23) x.2.2.2)] H → va_D A [((ad 0), e_X5 ad t), ((ad 1), e_X1 (ad 2) (ad 3) (ad 4) t_now), ((ad 2), eI cA 8 t_now_kinds), ((ad 4), eI cA 8 t_now_pitches), ((ad 20), e_X3 (ad 21) x.2.2.1), ((ad 22), e_X3 (ad 23) x.2.2.2)] → va_S A s.heap H locs → lv_has ls 4 [(0, .ref (ad 0)), (1, .int x.1), (2, .int x.2.1)] → W p l e rm_X5_twins s m args below meth c H locs 0 0 Q (F0 m 4 ls []) := by
    intro  n
    induction n with
    | zero => intro x H locs ls hm; cases (show none = some out from hm)
    | succ n HK_4 =>
      intro x H locs ls hm hP hD hS hl
      replace hm : b_X5_twins_4 fu t t_now t_now_kinds t_now_pitches (lfix (b_X5_twins_4 fu t t_now t_now_kinds t_now_pitches) n) x = some out := hm
      unfold b_X5_twins_4 at hm
      refine lv_iload_n hx hb dX5_twins_4 rfl (lv_at hl 2 rfl) ?_
      refine lv_aload_n hx hb dX5_twins_5 rfl (lv_at hl 0 rfl) ?_
      refine va_get (D := D) (ci := 5) (v := .ref (ad 1)) (C := RX5) (T := TX5) (N := 17) hx hb htg inX5 hown hK hP 0 rfl rfl 0 (by decide) (htg _ q_1_188) (fun _ h9 => h9) rfl dX5_twins_6 ?_
      refine va_getN (D := D) (ci := 1) (v := .int (t_now 8)) (C := RX1) (T := TX1) (N := 12) hx hb htg inX1 hown hK hP 1 rfl rfl 8 (by decide) (va_Nw.use rfl (hN _ q_1_58)) (fun _ h9 => h9) rfl dX5_twins_9 ?_
      refine lv_icmp_ge (tgt := 46) hx hb dX5_twins_12 (by decide) (fun c5 => ?_) (fun c5 => ?_)
      · have hm := it_t c5 hm
        refine lv_iload_n hx hb dX5_twins_46 rfl (lv_at hl 1 rfl) ?_
        rw [hQ]
        exact W.iret (v := x.1) hx hb hr (fun t9 ht hW => ⟨⟨x.1, (x.2.2.1, x.2.2.2), rfl, (Option.some.inj hm), by rw [ht]; exact hP, va_K.moved hW.alike hK, hD⟩, hS.F ht⟩) hS.2.2 dX5_twins_47
      · have hm := it_f c5 hm
        refine lv_iconst (v := (0 : Int32)) hx hb dX5_twins_15 (by decide) ?_
        refine lv_istore_n (lv' := [(3, .int (0 : Int32)), (0, .ref (ad 0)), (1, .int x.1), (2, .int x.2.1)]) hx hb dX5_twins_16 rfl hl (by decide) rfl (fun ls hl => ?_)
        exact B_17 _ HK_4 fu _ _ _ _ hm hP hD hS (lv_sub hl [1, 2, 3, 0] rfl)
  unfold m_X5_twins at hm
  subst hargs
  have hl := lv_entry ([.ref (ad 0)]) (n := 4) (Nat.le_of_ble_eq_true rfl)
  rw [lg_entry_eq]
  generalize (lg_sl ([.ref (ad 0)]) ++ List.replicate (4 - (lg_sl ([.ref (ad 0)])).length) Slot.unset).toArray = ls at hl ⊢
  have hl : lv_has ls 4 [(0, .ref (ad 0))] := hl
  refine lv_iconst (v := (0 : Int32)) hx hb dX5_twins_0 (by decide) ?_
  refine lv_istore_n (lv' := [(1, .int (0 : Int32)), (0, .ref (ad 0))]) hx hb dX5_twins_1 rfl hl (by decide) rfl (fun ls hl => ?_)
  refine lv_iconst (v := (1 : Int32)) hx hb dX5_twins_2 (by decide) ?_
  refine lv_istore_n (lv' := [(2, .int (1 : Int32)), (1, .int (0 : Int32)), (0, .ref (ad 0))]) hx hb dX5_twins_3 rfl hl (by decide) rfl (fun ls hl => ?_)
  exact B_4 fu _ _ _ _ hm hP hD hS (lv_sub hl [2, 1, 0] rfl)
