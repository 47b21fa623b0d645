def b_X6_pitch_20 (fu : Nat) (t : Nat → Int32) (t_L : Nat → Int64) (t_refused : Nat → Int32) (t_pitch : Nat → Int32) : Option (Int32 × ((Nat → Int32) × (Nat → Int32))) :=
  (m_X6_refuse fu t t_L t_refused (-2 : Int32)).bind fun o1 =>
    some (o1.1, (o1.2, t_pitch))
def m_X6_pitch (fu : Nat) (t : Nat → Int32) (t_L : Nat → Int64) (t_refused : Nat → Int32) (t_pitch : Nat → Int32) (l1 : Int32) (l2 : Int32) : Option (Int32 × ((Nat → Int32) × (Nat → Int32))) :=
  (m_X6_isVoice fu t t_L l1).bind fun o3 =>
  (if o3.1 = 0 then
    b_X6_pitch_20 fu t t_L t_refused t_pitch
  else
    (m_X6_in fu l2.toInt64 (0 : Int64) (20 : Int64)).bind fun o6 =>
    (if o6.1 = 0 then
      b_X6_pitch_20 fu t t_L t_refused t_pitch
    else
      gd (inb l1 8) (
      gd (inb l1 8) (
      some ((t_pitch l1.toNatClampNeg), (t_refused, (upd t_pitch l1.toNatClampNeg l2)))))))
abbrev rm_X6_pitch : Room := ({ frames := 2, cells := 0, slots := 0, locals := 46 } : Room)
abbrev w0_X6_pitch (cA : Nat → ClassId) (am : Nat → Nat) (tkv : Value) (ttv : Value) (t : Nat → Int32) (t_L : Nat → Int64) (t_refused : Nat → Int32) (t_pitch : Nat → Int32) : va_W := [((am 0), e_X6 am tkv ttv t t_L), ((am 16), eI cA 8 t_refused), ((am 19), eI cA 8 t_pitch)]
abbrev w1_X6_pitch (cA : Nat → ClassId) (am : Nat → Nat) (tkv : Value) (ttv : Value) (t : Nat → Int32) (t_L : Nat → Int64) (u : (Nat → Int32) × (Nat → Int32)) : va_W := [((am 0), e_X6 am tkv ttv t t_L), ((am 16), eI cA 8 u.1), ((am 19), eI cA 8 u.2)]
theorem hd_X6_pitch : yX6_pitch.cls = RX6 ∧ yX6_pitch.cls ≠ "java/lang/invoke/MethodHandle" ∧ yX6_pitch.cls ≠ "java/lang/invoke/VarHandle" ∧ (parseMethodDescriptor yX6_pitch.desc).map (fun d => d.parameters.length) = some 2 := by decide +kernel
set_option maxHeartbeats 40000000 in
set_option maxRecDepth 100000 in
theorem c_X6_pitch (l : Launch) (D : va_G) (cA : Nat → ClassId) (sz : Nat) (fu : Nat) (am : Nat → Nat) (tkv : Value) (ttv : Value) (t : Nat → Int32) (t_L : Nat → Int64) (t_refused : Nat → Int32) (t_pitch : Nat → Int32) (l1 : Int32) (l2 : Int32) (out : Int32 × ((Nat → Int32) × (Nat → Int32))) (hm : m_X6_pitch fu t t_L t_refused t_pitch l1 l2 = some out) : MI l yX6_pitch (wU yX6_pitch cX6_pitch 4 ((Option.some Jvm.ClassFile.FieldType.int))) rm_X6_pitch D cA sz [.ref (am 0), .int l1, .int l2] (w0_X6_pitch cA am tkv ttv t t_L t_refused t_pitch) out (w1_X6_pitch cA am tkv ttv t t_L) := by
  refine Met.ofW (cc := cX6_pitch) (maxL := 4) (ret := (Option.some Jvm.ClassFile.FieldType.int)) (by decide) rfl ?_
  intro p e s m args below meth c s₁ B hml hv
  obtain ⟨hargs, hsz, hP, hK, hD0, hN⟩ := hv
  have hx := B.exec
  have hb := B.bytes
  have hr := B.returns
  have htg : ∀ w ∈ gw, w.before args s = true := fun w h => atoms_spec (ws := wU yX6_pitch cX6_pitch 4 ((Option.some Jvm.ClassFile.FieldType.int))) B.pre w (List.mem_cons_of_mem _ h)
  have hown : s.vm.findClass RX6 = some m.cls := findClass_of_methodNamed B.named
  have hlocks := B.notSynchronized
  subst hsz
  have hD := hD0.self (sz := s.heap.size)
  have hA : ∀ q : Nat, s.heap.size ≤ q → va_A (w0_X6_pitch cA am tkv ttv t t_L t_refused t_pitch) s.heap.size q := fun q h => Or.inr h
  have hS : va_S (va_A (w0_X6_pitch cA am tkv ttv t t_L t_refused t_pitch) s.heap.size) s.heap s.heap [] := va_S.rf
  generalize va_A (w0_X6_pitch cA am tkv ttv t t_L t_refused t_pitch) s.heap.size = A at hA hD hS ⊢
  obtain ⟨Q, hQ⟩ : ∃ Q : State → Prop, Q = MQ below (va_Qi (fun (r : Int32) (u : (Nat → Int32) × (Nat → Int32)) => (r, u) = out) (pst0 D cA A (w1_X6_pitch cA am tkv ttv t t_L)) A) args s 0 0 A := ⟨_, rfl⟩
  refine (?_ : W p l e rm_X6_pitch s m args below meth c s.heap [] 0 0 (MQ below (va_Qi (fun (r : Int32) (u : (Nat → Int32) × (Nat → Int32)) => (r, u) = out) (pst0 D cA A (w1_X6_pitch cA am tkv ttv t t_L)) A) args s 0 0 A) (entryFrame m args 4))
  rw [← hQ]
  have hP : va_P D CL [((am 0), e_X6 am tkv ttv t t_L), ((am 16), eI cA 8 t_refused), ((am 19), eI cA 8 t_pitch)] s.heap := hP
  have hD : va_D A [((am 0), e_X6 am tkv ttv t t_L), ((am 16), eI cA 8 t_refused), ((am 19), eI cA 8 t_pitch)] := hD
  have B_20 : ∀ (t_refused : Nat → Int32) (t_pitch : Nat → Int32) (H : Heap) (locs : List Loc) (ls : Array Slot), b_X6_pitch_20 fu t t_L t_refused t_pitch = some out → va_P D CL [((am 0), e_X6 am tkv ttv t t_L), ((am 16), eI cA 8 t_refused), ((am 19), eI cA 8 t_pitch)] H → va_D A [((am 0), e_X6 am tkv ttv t t_L), ((am 16), eI cA 8 t_refused), ((am 19), eI cA 8 t_pitch)] → va_S A s.heap H locs → lv_has ls 4 [(0, .ref (am 0))] → W p l e rm_X6_pitch s m args below meth c H locs 0 0 Q (F0 m 20 ls []) := by
    intro  t_refused t_pitch H locs ls hm hP hD hS hl
    unfold b_X6_pitch_20 at hm
    refine lv_aload_n hx hb dX6_pitch_20 rfl (lv_at hl 0 rfl) ?_
    refine lv_bipush (v := (-2 : Int32)) hx hb dX6_pitch_21 (by decide) ?_
    obtain ⟨o1, ho2, hm⟩ := bd_s hm
    refine xr_i (wr := [((am 19), eI cA 8 t_pitch)]) (wn := [((am 0), e_X6 am tkv ttv t t_L), ((am 16), eI cA 8 o1.2), ((am 19), eI cA 8 t_pitch)]) (va_runV (As := [.int (-2 : Int32)]) (rest := []) ⟨hx, hb, hml, hown, htg⟩ (c_X6_refuse l D cA _ fu am tkv ttv t t_L t_refused (-2 : Int32) o1 ho2) (cwV 1 htg (gV q_5_108 q_5_110 q_p5_7 q_1_8 q_5_111) rfl rfl rfl hd_X6_refuse ⟨Nat.le_of_ble_eq_true rfl, Nat.le_of_ble_eq_true rfl⟩) (xpV hN hK hP hD [0, 1] rfl (by decide) rfl rfl) rfl rfl hl.1 rfl (lv_room (Nat.le_of_ble_eq_true rfl)) dX6_pitch_23 ⟨Nat.zero_le _, Nat.zero_le _⟩) hP hD hS hA [0, 1] [2] [1, 2, 0] rfl rfl (by decide) (by decide) rfl (by decide) (fun H locs hP hD hS => ?_)
    rw [hQ]
    exact W.iret (v := o1.1) hx hb hr (fun t9 ht hW => ⟨⟨o1.1, (o1.2, t_pitch), rfl, (Option.some.inj hm), by rw [ht]; exact hP, va_K.moved hW.alike hK, hD⟩, hS.F ht⟩) hS.2.2 dX6_pitch_26
  unfold m_X6_pitch at hm
  subst hargs
  have hl := lv_entry ([.ref (am 0), .int l1, .int l2]) (n := 4) (Nat.le_of_ble_eq_true rfl)
  rw [lg_entry_eq]
  generalize (lg_sl ([.ref (am 0), .int l1, .int l2]) ++ List.replicate (4 - (lg_sl ([.ref (am 0), .int l1, .int l2])).length) Slot.unset).toArray = ls at hl ⊢
  have hl : lv_has ls 4 [(0, .ref (am 0)), (1, .int l1), (2, .int l2)] := hl
  refine lv_aload_n hx hb dX6_pitch_0 rfl (lv_at hl 0 rfl) ?_
  refine lv_iload_n hx hb dX6_pitch_1 rfl (lv_at hl 1 rfl) ?_
  obtain ⟨o3, ho4, hm⟩ := bd_s hm
  refine xr_i (wr := [((am 16), eI cA 8 t_refused), ((am 19), eI cA 8 t_pitch)]) (wn := [((am 0), e_X6 am tkv ttv t t_L), ((am 16), eI cA 8 t_refused), ((am 19), eI cA 8 t_pitch)]) (va_runV (As := [.int l1]) (rest := []) ⟨hx, hb, hml, hown, htg⟩ (c_X6_isVoice l D cA _ fu am tkv ttv t t_L l1 o3 ho4) (cwV 1 htg (gV q_5_139 q_5_141 q_p5_9 q_1_8 q_5_142) rfl rfl rfl hd_X6_isVoice ⟨Nat.le_of_ble_eq_true rfl, Nat.le_of_ble_eq_true rfl⟩) (xpV hN hK hP hD [0] rfl (by decide) rfl rfl) rfl rfl hl.1 rfl (lv_room (Nat.le_of_ble_eq_true rfl)) dX6_pitch_2 ⟨Nat.zero_le _, Nat.zero_le _⟩) hP hD hS hA [0] [1, 2] [2, 0, 1] rfl rfl (by decide) (by decide) rfl (by decide) (fun H locs hP hD hS => ?_)
  refine lv_if_eq (tgt := 20) hx hb dX6_pitch_5 (by decide) (fun c5 => ?_) (fun c5 => ?_)
  · have hm := it_t c5 hm
    exact B_20 _ _ _ _ _ hm hP hD hS (lv_sub hl [0] rfl)
  · have hm := it_f c5 hm
    refine lv_iload_n hx hb dX6_pitch_8 rfl (lv_at hl 2 rfl) ?_
    refine lv_i2l hx hb dX6_pitch_9 rfl ?_
    refine lv_lconst (v := (0 : Int64)) hx hb dX6_pitch_10 (by decide) ?_
    refine lv_ldc2 (v := (20 : Int64)) hx hb hown (htg _ q_5_172) dX6_pitch_11 ?_
    obtain ⟨o6, ho7, hm⟩ := bd_s hm
    refine xr_i (wr := [((am 0), e_X6 am tkv ttv t t_L), ((am 16), eI cA 8 t_refused), ((am 19), eI cA 8 t_pitch)]) (wn := [((am 0), e_X6 am tkv ttv t t_L), ((am 16), eI cA 8 t_refused), ((am 19), eI cA 8 t_pitch)]) (va_runS (As := [.long l2.toInt64, .long (0 : Int64), .long (20 : Int64)]) (rest := []) ⟨hx, hb, hml, hown, htg⟩ (c_X6_in l D cA _ fu l2.toInt64 (0 : Int64) (20 : Int64) o6 ho7) (cwS 3 htg (gS q_5_103 q_5_104 q_1_8 q_5_105) rfl rfl rfl hd_X6_in ⟨Nat.le_of_ble_eq_true rfl, Nat.le_of_ble_eq_true rfl⟩) (xpS hN hK hP hD [] rfl (by decide)) rfl rfl hl.1 rfl (lv_room (Nat.le_of_ble_eq_true rfl)) dX6_pitch_14 ⟨Nat.zero_le _, Nat.zero_le _⟩) hP hD hS hA [] [0, 1, 2] [0, 1, 2] rfl rfl (by decide) (by decide) rfl (by decide) (fun H locs hP hD hS => ?_)
    refine lv_if_ne (tgt := 27) hx hb dX6_pitch_17 (by decide) (fun c8 => ?_) (fun c8 => ?_)
    · have hm := it_f c8 hm
      refine lv_aload_n hx hb dX6_pitch_27 rfl (lv_at hl 0 rfl) ?_
      refine va_get (D := D) (ci := 6) (v := .ref (am 19)) (C := RX6) (T := TX6) (N := 49) hx hb htg inX6 hown hK hP 0 rfl rfl 19 (by decide) (htg _ q_4_208) (fun _ h9 => h9) rfl dX6_pitch_28 ?_
      refine lv_iload_n hx hb dX6_pitch_31 rfl (lv_at hl 1 rfl) ?_
      obtain ⟨hi9, hm⟩ := gd_s hm
      refine va_iald hx hb hK hP 2 0 rfl rfl hi9 dX6_pitch_32 ?_
      refine lv_istore_n (lv' := [(3, .int (t_pitch l1.toNatClampNeg)), (0, .ref (am 0)), (1, .int l1), (2, .int l2)]) hx hb dX6_pitch_33 rfl hl (by decide) rfl (fun ls hl => ?_)
      refine lv_aload_n hx hb dX6_pitch_34 rfl (lv_at hl 1 rfl) ?_
      refine va_get (D := D) (ci := 6) (v := .ref (am 19)) (C := RX6) (T := TX6) (N := 49) hx hb htg inX6 hown hK hP 0 rfl rfl 19 (by decide) (htg _ q_4_208) (fun _ h9 => h9) rfl dX6_pitch_35 ?_
      refine lv_iload_n hx hb dX6_pitch_38 rfl (lv_at hl 2 rfl) ?_
      refine lv_iload_n hx hb dX6_pitch_39 rfl (lv_at hl 3 rfl) ?_
      obtain ⟨hi10, hm⟩ := gd_s hm
      refine va_iast hx hb hK hP hD hS 2 0 rfl rfl hi10 dX6_pitch_40 (fun H locs (hP : va_P D CL [((am 0), e_X6 am tkv ttv t t_L), ((am 16), eI cA 8 t_refused), ((am 19), eI cA 8 (upd t_pitch l1.toNatClampNeg l2))] H) (hD : va_D A [((am 0), e_X6 am tkv ttv t t_L), ((am 16), eI cA 8 t_refused), ((am 19), eI cA 8 (upd t_pitch l1.toNatClampNeg l2))]) hS => ?_)
      refine lv_iload_n hx hb dX6_pitch_41 rfl (lv_at hl 0 rfl) ?_
      rw [hQ]
      exact W.iret (v := (t_pitch l1.toNatClampNeg)) hx hb hr (fun t9 ht hW => ⟨⟨(t_pitch l1.toNatClampNeg), (t_refused, (upd t_pitch l1.toNatClampNeg l2)), rfl, (Option.some.inj hm), by rw [ht]; exact hP, va_K.moved hW.alike hK, hD⟩, hS.F ht⟩) hS.2.2 dX6_pitch_42
    · have hm := it_t c8 hm
      exact B_20 _ _ _ _ _ hm hP hD hS (lv_sub hl [0] rfl)
def b_X6_tell_45 (fu : Nat) (t_L : Nat → Int64) (t : Nat → Int32) (t_refused : Nat → Int32) : Option (Int32 × ((Nat → Int32) × (Nat → Int32))) :=
  (m_X6_refuse fu t t_L t_refused (-2 : Int32)).bind fun o1 =>
    some (o1.1, (t, o1.2))
def b_X6_tell_127 (fu : Nat) (t_L : Nat → Int64) (l3 : Int32) (s1 : Int32) (t : Nat → Int32) (t_refused : Nat → Int32) : Option (Int32 × ((Nat → Int32) × (Nat → Int32))) :=
  some (l3, ((upd t 11 s1), t_refused))
def b_X6_tell_110 (fu : Nat) (t_L : Nat → Int64) (l1 : Int32) (l2 : Int32) (l3 : Int32) (s1 : Int32) (t : Nat → Int32) (t_refused : Nat → Int32) : Option (Int32 × ((Nat → Int32) × (Nat → Int32))) :=
  (if l1 = (2 : Int32) then
      b_X6_tell_127 fu t_L l3 l2 (upd t 10 s1) t_refused
    else
      b_X6_tell_127 fu t_L l3 (t 11) (upd t 10 s1) t_refused)
def b_X6_tell_93 (fu : Nat) (t_L : Nat → Int64) (l1 : Int32) (l2 : Int32) (l3 : Int32) (s1 : Int32) (t : Nat → Int32) (t_refused : Nat → Int32) : Option (Int32 × ((Nat → Int32) × (Nat → Int32))) :=
  (if l1 = (1 : Int32) then
      b_X6_tell_110 fu t_L l1 l2 l3 l2 (upd t 9 s1) t_refused
    else
      b_X6_tell_110 fu t_L l1 l2 l3 (t 10) (upd t 9 s1) t_refused)
def b_X6_tell_79 (fu : Nat) (t_L : Nat → Int64) (l1 : Int32) (l2 : Int32) (s0 : Int32) (t : Nat → Int32) (t_refused : Nat → Int32) : Option (Int32 × ((Nat → Int32) × (Nat → Int32))) :=
  (if l1 = 0 then
      b_X6_tell_93 fu t_L l1 l2 s0 l2 t t_refused
    else
      b_X6_tell_93 fu t_L l1 l2 s0 (t 9) t t_refused)
def b_X6_tell_39 (fu : Nat) (t_L : Nat → Int64) (l1 : Int32) (l2 : Int32) (s0 : Int64) (s1 : Int64) (s2 : Int64) (t : Nat → Int32) (t_refused : Nat → Int32) : Option (Int32 × ((Nat → Int32) × (Nat → Int32))) :=
  (m_X6_in fu s0 s1 s2).bind fun o6 =>
    (if o6.1 = 0 then
      b_X6_tell_45 fu t_L t t_refused
    else
      (if l1 = 0 then
        b_X6_tell_79 fu t_L l1 l2 (t 9) t t_refused
      else
        (if l1 = (1 : Int32) then
          b_X6_tell_79 fu t_L l1 l2 (t 10) t t_refused
        else
          b_X6_tell_79 fu t_L l1 l2 (t 11) t t_refused)))
def m_X6_tell (fu : Nat) (t : Nat → Int32) (t_L : Nat → Int64) (t_refused : Nat → Int32) (l1 : Int32) (l2 : Int32) : Option (Int32 × ((Nat → Int32) × (Nat → Int32))) :=
  (m_X6_in fu l1.toInt64 (0 : Int64) (2 : Int64)).bind fun o11 =>
  (if o11.1 = 0 then
    b_X6_tell_45 fu t_L t t_refused
  else
    (if l1 = 0 then
      b_X6_tell_39 fu t_L l1 l2 l2.toInt64 (0 : Int64) (40 : Int64) t t_refused
    else
      (if l1 = (1 : Int32) then
        b_X6_tell_39 fu t_L l1 l2 l2.toInt64 (0 : Int64) (9 : Int64) t t_refused
      else
        b_X6_tell_39 fu t_L l1 l2 l2.toInt64 (0 : Int64) (9999 : Int64) t t_refused)))
abbrev rm_X6_tell : Room := ({ frames := 1, cells := 0, slots := 0, locals := 25 } : Room)
abbrev w0_X6_tell (cA : Nat → ClassId) (am : Nat → Nat) (tkv : Value) (ttv : Value) (t : Nat → Int32) (t_L : Nat → Int64) (t_refused : Nat → Int32) : va_W := [((am 0), e_X6 am tkv ttv t t_L), ((am 16), eI cA 8 t_refused)]
abbrev w1_X6_tell (cA : Nat → ClassId) (am : Nat → Nat) (tkv : Value) (ttv : Value) (t_L : Nat → Int64) (u : (Nat → Int32) × (Nat → Int32)) : va_W := [((am 0), e_X6 am tkv ttv u.1 t_L), ((am 16), eI cA 8 u.2)]
theorem hd_X6_tell : yX6_tell.cls = RX6 ∧ yX6_tell.cls ≠ "java/lang/invoke/MethodHandle" ∧ yX6_tell.cls ≠ "java/lang/invoke/VarHandle" ∧ (parseMethodDescriptor yX6_tell.desc).map (fun d => d.parameters.length) = some 2 := by decide +kernel
set_option maxHeartbeats 40000000 in
set_option maxRecDepth 100000 in
theorem c_X6_tell (l : Launch) (D : va_G) (cA : Nat → ClassId) (sz : Nat) (fu : Nat) (am : Nat → Nat) (tkv : Value) (ttv : Value) (t : Nat → Int32) (t_L : Nat → Int64) (t_refused : Nat → Int32) (l1 : Int32) (l2 : Int32) (out : Int32 × ((Nat → Int32) × (Nat → Int32))) (hm : m_X6_tell fu t t_L t_refused l1 l2 = some out) : MI l yX6_tell (wU yX6_tell cX6_tell 4 ((Option.some Jvm.ClassFile.FieldType.int))) rm_X6_tell D cA sz [.ref (am 0), .int l1, .int l2] (w0_X6_tell cA am tkv ttv t t_L t_refused) out (w1_X6_tell cA am tkv ttv t_L) := by
  refine Met.ofW (cc := cX6_tell) (maxL := 4) (ret := (Option.some Jvm.ClassFile.FieldType.int)) (by decide) rfl ?_
  intro p e s m args below meth c s₁ B hml hv
  obtain ⟨hargs, hsz, hP, hK, hD0, hN⟩ := hv
  have hx := B.exec
  have hb := B.bytes
  have hr := B.returns
  have htg : ∀ w ∈ gw, w.before args s = true := fun w h => atoms_spec (ws := wU yX6_tell cX6_tell 4 ((Option.some Jvm.ClassFile.FieldType.int))) B.pre w (List.mem_cons_of_mem _ h)
  have hown : s.vm.findClass RX6 = some m.cls := findClass_of_methodNamed B.named
  have hlocks := B.notSynchronized
  subst hsz
  have hD := hD0.self (sz := s.heap.size)
  have hA : ∀ q : Nat, s.heap.size ≤ q → va_A (w0_X6_tell cA am tkv ttv t t_L t_refused) s.heap.size q := fun q h => Or.inr h
  have hS : va_S (va_A (w0_X6_tell cA am tkv ttv t t_L t_refused) s.heap.size) s.heap s.heap [] := va_S.rf
  generalize va_A (w0_X6_tell cA am tkv ttv t t_L t_refused) s.heap.size = A at hA hD hS ⊢
  obtain ⟨Q, hQ⟩ : ∃ Q : State → Prop, Q = MQ below (va_Qi (fun (r : Int32) (u : (Nat → Int32) × (Nat → Int32)) => (r, u) = out) (pst0 D cA A (w1_X6_tell cA am tkv ttv t_L)) A) args s 0 0 A := ⟨_, rfl⟩
  refine (?_ : W p l e rm_X6_tell s m args below meth c s.heap [] 0 0 (MQ below (va_Qi (fun (r : Int32) (u : (Nat → Int32) × (Nat → Int32)) => (r, u) = out) (pst0 D cA A (w1_X6_tell cA am tkv ttv t_L)) A) args s 0 0 A) (entryFrame m args 4))
  rw [← hQ]
  have hP : va_P D CL [((am 0), e_X6 am tkv ttv t t_L), ((am 16), eI cA 8 t_refused)] s.heap := hP
  have hD : va_D A [((am 0), e_X6 am tkv ttv t t_L), ((am 16), eI cA 8 t_refused)] := hD
  have B_45 : ∀ (t : Nat → Int32) (t_refused : Nat → Int32) (H : Heap) (locs : List Loc) (ls : Array Slot), b_X6_tell_45 fu t_L t t_refused = some out → va_P D CL [((am 0), e_X6 am tkv ttv t t_L), ((am 16), eI cA 8 t_refused)] H → va_D A [((am 0), e_X6 am tkv ttv t t_L), ((am 16), eI cA 8 t_refused)] → va_S A s.heap H locs → lv_has ls 4 [(0, .ref (am 0))] → W p l e rm_X6_tell s m args below meth c H locs 0 0 Q (F0 m 45 ls []) := by
    intro  t t_refused H locs ls hm hP hD hS hl
    unfold b_X6_tell_45 at hm
    refine lv_aload_n hx hb dX6_tell_45 rfl (lv_at hl 0 rfl) ?_
    refine lv_bipush (v := (-2 : Int32)) hx hb dX6_tell_46 (by decide) ?_
    obtain ⟨o1, ho2, hm⟩ := bd_s hm
    refine xr_i (wr := []) (wn := [((am 0), e_X6 am tkv ttv t t_L), ((am 16), eI cA 8 o1.2)]) (va_runV (As := [.int (-2 : Int32)]) (rest := []) ⟨hx, hb, hml, hown, htg⟩ (c_X6_refuse l D cA _ fu am tkv ttv t t_L t_refused (-2 : Int32) o1 ho2) (cwV 1 htg (gV q_5_108 q_5_110 q_p5_7 q_1_8 q_5_111) rfl rfl rfl hd_X6_refuse ⟨Nat.le_of_ble_eq_true rfl, Nat.le_of_ble_eq_true rfl⟩) (xpV hN hK hP hD [0, 1] rfl (by decide) rfl rfl) rfl rfl hl.1 rfl (lv_room (Nat.le_of_ble_eq_true rfl)) dX6_tell_48 ⟨Nat.zero_le _, Nat.zero_le _⟩) hP hD hS hA [0, 1] [] [0, 1] rfl rfl (by decide) (by decide) rfl (by decide) (fun H locs hP hD hS => ?_)
    rw [hQ]
    exact W.iret (v := o1.1) hx hb hr (fun t9 ht hW => ⟨⟨o1.1, (t, o1.2), rfl, (Option.some.inj hm), by rw [ht]; exact hP, va_K.moved hW.alike hK, hD⟩, hS.F ht⟩) hS.2.2 dX6_tell_51
  have B_127 : ∀ (l3 : Int32) (s1 : Int32) (t : Nat → Int32) (t_refused : Nat → Int32) (H : Heap) (locs : List Loc) (ls : Array Slot), b_X6_tell_127 fu t_L l3 s1 t t_refused = some out → va_P D CL [((am 0), e_X6 am tkv ttv t t_L), ((am 16), eI cA 8 t_refused)] H → va_D A [((am 0), e_X6 am tkv ttv t t_L), ((am 16), eI cA 8 t_refused)] → va_S A s.heap H locs → lv_has ls 4 [(0, .ref (am 0)), (3, .int l3)] → W p l e rm_X6_tell s m args below meth c H locs 0 0 Q (F0 m 127 ls [.int s1, .ref (am 0)]) := by
    intro  l3 s1 t t_refused H locs ls hm hP hD hS hl
    unfold b_X6_tell_127 at hm
    refine va_put (D := D) (ci := 6) (v := .int s1) (ty := .int) (C := RX6) (T := TX6) (N := 49) hx hb htg inX6 tyX6 tyX6_ok nmX6 hown hK hP hD hS 0 rfl rfl 11 (by decide) (htg _ q_4_200) (fun _ h9 => h9) rfl (by decide +kernel) rfl rfl (Nat.le_of_ble_eq_true rfl) dX6_tell_127 (fun H locs (hP : va_P D CL [((am 0), e_X6 am tkv ttv (upd t 11 s1) t_L), ((am 16), eI cA 8 t_refused)] H) (hD : va_D A [((am 0), e_X6 am tkv ttv (upd t 11 s1) t_L), ((am 16), eI cA 8 t_refused)]) hS => ?_)
    refine lv_iload_n hx hb dX6_tell_130 rfl (lv_at hl 1 rfl) ?_
    rw [hQ]
    exact W.iret (v := l3) hx hb hr (fun t9 ht hW => ⟨⟨l3, ((upd t 11 s1), t_refused), rfl, (Option.some.inj hm), by rw [ht]; exact hP, va_K.moved hW.alike hK, hD⟩, hS.F ht⟩) hS.2.2 dX6_tell_131
  have B_110 : ∀ (l1 : Int32) (l2 : Int32) (l3 : Int32) (s1 : Int32) (t : Nat → Int32) (t_refused : Nat → Int32) (H : Heap) (locs : List Loc) (ls : Array Slot), b_X6_tell_110 fu t_L l1 l2 l3 s1 t t_refused = some out → va_P D CL [((am 0), e_X6 am tkv ttv t t_L), ((am 16), eI cA 8 t_refused)] H → va_D A [((am 0), e_X6 am tkv ttv t t_L), ((am 16), eI cA 8 t_refused)] → va_S A s.heap H locs → lv_has ls 4 [(0, .ref (am 0)), (1, .int l1), (2, .int l2), (3, .int l3)] → W p l e rm_X6_tell s m args below meth c H locs 0 0 Q (F0 m 110 ls [.int s1, .ref (am 0)]) := by
    intro  l1 l2 l3 s1 t t_refused H locs ls hm hP hD hS hl
    unfold b_X6_tell_110 at hm
    refine va_put (D := D) (ci := 6) (v := .int s1) (ty := .int) (C := RX6) (T := TX6) (N := 49) hx hb htg inX6 tyX6 tyX6_ok nmX6 hown hK hP hD hS 0 rfl rfl 10 (by decide) (htg _ q_4_199) (fun _ h9 => h9) rfl (by decide +kernel) rfl rfl (Nat.le_of_ble_eq_true rfl) dX6_tell_110 (fun H locs (hP : va_P D CL [((am 0), e_X6 am tkv ttv (upd t 10 s1) t_L), ((am 16), eI cA 8 t_refused)] H) (hD : va_D A [((am 0), e_X6 am tkv ttv (upd t 10 s1) t_L), ((am 16), eI cA 8 t_refused)]) hS => ?_)
    refine lv_aload_n hx hb dX6_tell_113 rfl (lv_at hl 0 rfl) ?_
    refine lv_iload_n hx hb dX6_tell_114 rfl (lv_at hl 1 rfl) ?_
    refine lv_iconst (v := (2 : Int32)) hx hb dX6_tell_115 (by decide) ?_
    refine lv_icmp_ne (tgt := 123) hx hb dX6_tell_116 (by decide) (fun c3 => ?_) (fun c3 => ?_)
    · have hm := it_f c3 hm
      refine lv_aload_n hx hb dX6_tell_123 rfl (lv_at hl 0 rfl) ?_
      refine va_get (D := D) (ci := 6) (v := .int (t 11)) (C := RX6) (T := TX6) (N := 49) hx hb htg inX6 hown hK hP 0 rfl rfl 11 (by decide) (htg _ q_4_200) (fun _ h9 => h9) rfl dX6_tell_124 ?_
      exact B_127 _ _ _ _ _ _ _ hm hP hD hS (lv_sub hl [0, 3] rfl)
    · have hm := it_t c3 hm
      refine lv_iload_n hx hb dX6_tell_119 rfl (lv_at hl 2 rfl) ?_
      refine lv_goto (tgt := 127) hx hb dX6_tell_120 (by decide) ?_
      exact B_127 _ _ _ _ _ _ _ hm hP hD hS (lv_sub hl [0, 3] rfl)
  have B_93 : ∀ (l1 : Int32) (l2 : Int32) (l3 : Int32) (s1 : Int32) (t : Nat → Int32) (t_refused : Nat → Int32) (H : Heap) (locs : List Loc) (ls : Array Slot), b_X6_tell_93 fu t_L l1 l2 l3 s1 t t_refused = some out → va_P D CL [((am 0), e_X6 am tkv ttv t t_L), ((am 16), eI cA 8 t_refused)] H → va_D A [((am 0), e_X6 am tkv ttv t t_L), ((am 16), eI cA 8 t_refused)] → va_S A s.heap H locs → lv_has ls 4 [(0, .ref (am 0)), (1, .int l1), (2, .int l2), (3, .int l3)] → W p l e rm_X6_tell s m args below meth c H locs 0 0 Q (F0 m 93 ls [.int s1, .ref (am 0)]) := by
    intro  l1 l2 l3 s1 t t_refused H locs ls hm hP hD hS hl
    unfold b_X6_tell_93 at hm
    refine va_put (D := D) (ci := 6) (v := .int s1) (ty := .int) (C := RX6) (T := TX6) (N := 49) hx hb htg inX6 tyX6 tyX6_ok nmX6 hown hK hP hD hS 0 rfl rfl 9 (by decide) (htg _ q_4_198) (fun _ h9 => h9) rfl (by decide +kernel) rfl rfl (Nat.le_of_ble_eq_true rfl) dX6_tell_93 (fun H locs (hP : va_P D CL [((am 0), e_X6 am tkv ttv (upd t 9 s1) t_L), ((am 16), eI cA 8 t_refused)] H) (hD : va_D A [((am 0), e_X6 am tkv ttv (upd t 9 s1) t_L), ((am 16), eI cA 8 t_refused)]) hS => ?_)
    refine lv_aload_n hx hb dX6_tell_96 rfl (lv_at hl 0 rfl) ?_
    refine lv_iload_n hx hb dX6_tell_97 rfl (lv_at hl 1 rfl) ?_
    refine lv_iconst (v := (1 : Int32)) hx hb dX6_tell_98 (by decide) ?_
    refine lv_icmp_ne (tgt := 106) hx hb dX6_tell_99 (by decide) (fun c4 => ?_) (fun c4 => ?_)
    · have hm := it_f c4 hm
      refine lv_aload_n hx hb dX6_tell_106 rfl (lv_at hl 0 rfl) ?_
      refine va_get (D := D) (ci := 6) (v := .int (t 10)) (C := RX6) (T := TX6) (N := 49) hx hb htg inX6 hown hK hP 0 rfl rfl 10 (by decide) (htg _ q_4_199) (fun _ h9 => h9) rfl dX6_tell_107 ?_
      exact B_110 _ _ _ _ _ _ _ _ _ hm hP hD hS (lv_sub hl [0, 1, 2, 3] rfl)
    · have hm := it_t c4 hm
      refine lv_iload_n hx hb dX6_tell_102 rfl (lv_at hl 2 rfl) ?_
      refine lv_goto (tgt := 110) hx hb dX6_tell_103 (by decide) ?_
      exact B_110 _ _ _ _ _ _ _ _ _ hm hP hD hS (lv_sub hl [0, 1, 2, 3] rfl)
  have B_79 : ∀ (l1 : Int32) (l2 : Int32) (s0 : Int32) (t : Nat → Int32) (t_refused : Nat → Int32) (H : Heap) (locs : List Loc) (ls : Array Slot), b_X6_tell_79 fu t_L l1 l2 s0 t t_refused = some out → va_P D CL [((am 0), e_X6 am tkv ttv t t_L), ((am 16), eI cA 8 t_refused)] H → va_D A [((am 0), e_X6 am tkv ttv t t_L), ((am 16), eI cA 8 t_refused)] → va_S A s.heap H locs → lv_has ls 4 [(0, .ref (am 0)), (1, .int l1), (2, .int l2)] → W p l e rm_X6_tell s m args below meth c H locs 0 0 Q (F0 m 79 ls [.int s0]) := by
    intro  l1 l2 s0 t t_refused H locs ls hm hP hD hS hl
    unfold b_X6_tell_79 at hm
    refine lv_istore_n (lv' := [(3, .int s0), (0, .ref (am 0)), (1, .int l1), (2, .int l2)]) hx hb dX6_tell_79 rfl hl (by decide) rfl (fun ls hl => ?_)
    refine lv_aload_n hx hb dX6_tell_80 rfl (lv_at hl 1 rfl) ?_
    refine lv_iload_n hx hb dX6_tell_81 rfl (lv_at hl 2 rfl) ?_
    refine lv_if_ne (tgt := 89) hx hb dX6_tell_82 (by decide) (fun c5 => ?_) (fun c5 => ?_)
    · have hm := it_f c5 hm
      refine lv_aload_n hx hb dX6_tell_89 rfl (lv_at hl 1 rfl) ?_
      refine va_get (D := D) (ci := 6) (v := .int (t 9)) (C := RX6) (T := TX6) (N := 49) hx hb htg inX6 hown hK hP 0 rfl rfl 9 (by decide) (htg _ q_4_198) (fun _ h9 => h9) rfl dX6_tell_90 ?_
      exact B_93 _ _ _ _ _ _ _ _ _ hm hP hD hS (lv_sub hl [1, 2, 3, 0] rfl)
    · have hm := it_t c5 hm
      refine lv_iload_n hx hb dX6_tell_85 rfl (lv_at hl 3 rfl) ?_
      refine lv_goto (tgt := 93) hx hb dX6_tell_86 (by decide) ?_
      exact B_93 _ _ _ _ _ _ _ _ _ hm hP hD hS (lv_sub hl [1, 2, 3, 0] rfl)
  have B_39 : ∀ (l1 : Int32) (l2 : Int32) (s0 : Int64) (s1 : Int64) (s2 : Int64) (t : Nat → Int32) (t_refused : Nat → Int32) (H : Heap) (locs : List Loc) (ls : Array Slot), b_X6_tell_39 fu t_L l1 l2 s0 s1 s2 t t_refused = some out → va_P D CL [((am 0), e_X6 am tkv ttv t t_L), ((am 16), eI cA 8 t_refused)] H → va_D A [((am 0), e_X6 am tkv ttv t t_L), ((am 16), eI cA 8 t_refused)] → va_S A s.heap H locs → lv_has ls 4 [(0, .ref (am 0)), (1, .int l1), (2, .int l2)] → W p l e rm_X6_tell s m args below meth c H locs 0 0 Q (F0 m 39 ls [.long s2, .long s1, .long s0]) := by
    intro  l1 l2 s0 s1 s2 t t_refused H locs ls hm hP hD hS hl
    unfold b_X6_tell_39 at hm
    obtain ⟨o6, ho7, hm⟩ := bd_s hm
    refine xr_i (wr := [((am 0), e_X6 am tkv ttv t t_L), ((am 16), eI cA 8 t_refused)]) (wn := [((am 0), e_X6 am tkv ttv t t_L), ((am 16), eI cA 8 t_refused)]) (va_runS (As := [.long s0, .long s1, .long s2]) (rest := []) ⟨hx, hb, hml, hown, htg⟩ (c_X6_in l D cA _ fu s0 s1 s2 o6 ho7) (cwS 3 htg (gS q_5_103 q_5_104 q_1_8 q_5_105) rfl rfl rfl hd_X6_in ⟨Nat.le_of_ble_eq_true rfl, Nat.le_of_ble_eq_true rfl⟩) (xpS hN hK hP hD [] rfl (by decide)) rfl rfl hl.1 rfl (lv_room (Nat.le_of_ble_eq_true rfl)) dX6_tell_39 ⟨Nat.zero_le _, Nat.zero_le _⟩) hP hD hS hA [] [0, 1] [0, 1] rfl rfl (by decide) (by decide) rfl (by decide) (fun H locs hP hD hS => ?_)
    refine lv_if_ne (tgt := 52) hx hb dX6_tell_42 (by decide) (fun c8 => ?_) (fun c8 => ?_)
    · have hm := it_f c8 hm
      refine lv_iload_n hx hb dX6_tell_52 rfl (lv_at hl 1 rfl) ?_
      refine lv_if_ne (tgt := 63) hx hb dX6_tell_53 (by decide) (fun c9 => ?_) (fun c9 => ?_)
      · have hm := it_f c9 hm
        refine lv_iload_n hx hb dX6_tell_63 rfl (lv_at hl 1 rfl) ?_
        refine lv_iconst (v := (1 : Int32)) hx hb dX6_tell_64 (by decide) ?_
        refine lv_icmp_ne (tgt := 75) hx hb dX6_tell_65 (by decide) (fun c10 => ?_) (fun c10 => ?_)
        · have hm := it_f c10 hm
          refine lv_aload_n hx hb dX6_tell_75 rfl (lv_at hl 0 rfl) ?_
          refine va_get (D := D) (ci := 6) (v := .int (t 11)) (C := RX6) (T := TX6) (N := 49) hx hb htg inX6 hown hK hP 0 rfl rfl 11 (by decide) (htg _ q_4_200) (fun _ h9 => h9) rfl dX6_tell_76 ?_
          exact B_79 _ _ _ _ _ _ _ _ hm hP hD hS (lv_sub hl [0, 1, 2] rfl)
        · have hm := it_t c10 hm
          refine lv_aload_n hx hb dX6_tell_68 rfl (lv_at hl 0 rfl) ?_
          refine va_get (D := D) (ci := 6) (v := .int (t 10)) (C := RX6) (T := TX6) (N := 49) hx hb htg inX6 hown hK hP 0 rfl rfl 10 (by decide) (htg _ q_4_199) (fun _ h9 => h9) rfl dX6_tell_69 ?_
          refine lv_goto (tgt := 79) hx hb dX6_tell_72 (by decide) ?_
          exact B_79 _ _ _ _ _ _ _ _ hm hP hD hS (lv_sub hl [0, 1, 2] rfl)
      · have hm := it_t c9 hm
        refine lv_aload_n hx hb dX6_tell_56 rfl (lv_at hl 0 rfl) ?_
        refine va_get (D := D) (ci := 6) (v := .int (t 9)) (C := RX6) (T := TX6) (N := 49) hx hb htg inX6 hown hK hP 0 rfl rfl 9 (by decide) (htg _ q_4_198) (fun _ h9 => h9) rfl dX6_tell_57 ?_
        refine lv_goto (tgt := 79) hx hb dX6_tell_60 (by decide) ?_
        exact B_79 _ _ _ _ _ _ _ _ hm hP hD hS (lv_sub hl [0, 1, 2] rfl)
    · have hm := it_t c8 hm
      exact B_45 _ _ _ _ _ hm hP hD hS (lv_sub hl [0] rfl)
  unfold m_X6_tell at hm
  subst hargs
  have hl := lv_entry ([.ref (am 0), .int l1, .int l2]) (n := 4) (Nat.le_of_ble_eq_true rfl)
  rw [lg_entry_eq]
  generalize (lg_sl ([.ref (am 0), .int l1, .int l2]) ++ List.replicate (4 - (lg_sl ([.ref (am 0), .int l1, .int l2])).length) Slot.unset).toArray = ls at hl ⊢
  have hl : lv_has ls 4 [(0, .ref (am 0)), (1, .int l1), (2, .int l2)] := hl
  refine lv_iload_n hx hb dX6_tell_0 rfl (lv_at hl 1 rfl) ?_
  refine lv_i2l hx hb dX6_tell_1 rfl ?_
  refine lv_lconst (v := (0 : Int64)) hx hb dX6_tell_2 (by decide) ?_
  refine lv_ldc2 (v := (2 : Int64)) hx hb hown (htg _ q_5_185) dX6_tell_3 ?_
  obtain ⟨o11, ho12, hm⟩ := bd_s hm
  refine xr_i (wr := [((am 0), e_X6 am tkv ttv t t_L), ((am 16), eI cA 8 t_refused)]) (wn := [((am 0), e_X6 am tkv ttv t t_L), ((am 16), eI cA 8 t_refused)]) (va_runS (As := [.long l1.toInt64, .long (0 : Int64), .long (2 : Int64)]) (rest := []) ⟨hx, hb, hml, hown, htg⟩ (c_X6_in l D cA _ fu l1.toInt64 (0 : Int64) (2 : Int64) o11 ho12) (cwS 3 htg (gS q_5_103 q_5_104 q_1_8 q_5_105) rfl rfl rfl hd_X6_in ⟨Nat.le_of_ble_eq_true rfl, Nat.le_of_ble_eq_true rfl⟩) (xpS hN hK hP hD [] rfl (by decide)) rfl rfl hl.1 rfl (lv_room (Nat.le_of_ble_eq_true rfl)) dX6_tell_6 ⟨Nat.zero_le _, Nat.zero_le _⟩) hP hD hS hA [] [0, 1] [0, 1] rfl rfl (by decide) (by decide) rfl (by decide) (fun H locs hP hD hS => ?_)
  refine lv_if_eq (tgt := 45) hx hb dX6_tell_9 (by decide) (fun c13 => ?_) (fun c13 => ?_)
  · have hm := it_t c13 hm
    exact B_45 _ _ _ _ _ hm hP hD hS (lv_sub hl [0] rfl)
  · have hm := it_f c13 hm
    refine lv_iload_n hx hb dX6_tell_12 rfl (lv_at hl 2 rfl) ?_
    refine lv_i2l hx hb dX6_tell_13 rfl ?_
    refine lv_lconst (v := (0 : Int64)) hx hb dX6_tell_14 (by decide) ?_
    refine lv_iload_n hx hb dX6_tell_15 rfl (lv_at hl 1 rfl) ?_
    refine lv_if_ne (tgt := 25) hx hb dX6_tell_16 (by decide) (fun c14 => ?_) (fun c14 => ?_)
    · have hm := it_f c14 hm
      refine lv_iload_n hx hb dX6_tell_25 rfl (lv_at hl 1 rfl) ?_
      refine lv_iconst (v := (1 : Int32)) hx hb dX6_tell_26 (by decide) ?_
      refine lv_icmp_ne (tgt := 36) hx hb dX6_tell_27 (by decide) (fun c15 => ?_) (fun c15 => ?_)
      · have hm := it_f c15 hm
        refine lv_ldc2 (v := (9999 : Int64)) hx hb hown (htg _ q_5_186) dX6_tell_36 ?_
        exact B_39 _ _ _ _ _ _ _ _ _ _ hm hP hD hS (lv_sub hl [0, 1, 2] rfl)
      · have hm := it_t c15 hm
        refine lv_ldc2 (v := (9 : Int64)) hx hb hown (htg _ q_5_171) dX6_tell_30 ?_
        refine lv_goto (tgt := 39) hx hb dX6_tell_33 (by decide) ?_
        exact B_39 _ _ _ _ _ _ _ _ _ _ hm hP hD hS (lv_sub hl [0, 1, 2] rfl)
    · have hm := it_t c14 hm
      refine lv_ldc2 (v := (40 : Int64)) hx hb hown (htg _ q_5_107) dX6_tell_19 ?_
      refine lv_goto (tgt := 39) hx hb dX6_tell_22 (by decide) ?_
      exact B_39 _ _ _ _ _ _ _ _ _ _ hm hP hD hS (lv_sub hl [0, 1, 2] rfl)
def b_X6_weigh_27 (fu : Nat) (t_L : Nat → Int64) (t : Nat → Int32) (t_refused : Nat → Int32) : Option (Int32 × ((Nat → Int32) × (Nat → Int32))) :=
  (m_X6_refuse fu t t_L t_refused (-2 : Int32)).bind fun o1 =>
    some (o1.1, (t, o1.2))
def m_X6_weigh (fu : Nat) (t : Nat → Int32) (t_L : Nat → Int64) (t_refused : Nat → Int32) (l1 : Int32) (l2 : Int32) : Option (Int32 × ((Nat → Int32) × (Nat → Int32))) :=
  (m_X6_in fu l1.toInt64 (2 : Int64) (9 : Int64)).bind fun o3 =>
  (if o3.1 = 0 then
    b_X6_weigh_27 fu t_L t t_refused
  else
    (m_X6_in fu l2.toInt64 (0 : Int64) ((l1 - (1 : Int32)).toInt64)).bind fun o6 =>
    (if o6.1 = 0 then
      b_X6_weigh_27 fu t_L t t_refused
    else
      some ((((10 : Int32) * t 12) + t 13), ((upd (upd t 12 l1) 13 l2), t_refused))))
abbrev rm_X6_weigh : Room := ({ frames := 1, cells := 0, slots := 0, locals := 25 } : Room)
abbrev w0_X6_weigh (cA : Nat → ClassId) (am : Nat → Nat) (tkv : Value) (ttv : Value) (t : Nat → Int32) (t_L : Nat → Int64) (t_refused : Nat → Int32) : va_W := [((am 0), e_X6 am tkv ttv t t_L), ((am 16), eI cA 8 t_refused)]
abbrev w1_X6_weigh (cA : Nat → ClassId) (am : Nat → Nat) (tkv : Value) (ttv : Value) (t_L : Nat → Int64) (u : (Nat → Int32) × (Nat → Int32)) : va_W := [((am 0), e_X6 am tkv ttv u.1 t_L), ((am 16), eI cA 8 u.2)]
theorem hd_X6_weigh : yX6_weigh.cls = RX6 ∧ yX6_weigh.cls ≠ "java/lang/invoke/MethodHandle" ∧ yX6_weigh.cls ≠ "java/lang/invoke/VarHandle" ∧ (parseMethodDescriptor yX6_weigh.desc).map (fun d => d.parameters.length) = some 2 := by decide +kernel
set_option maxHeartbeats 40000000 in
set_option maxRecDepth 100000 in
theorem c_X6_weigh (l : Launch) (D : va_G) (cA : Nat → ClassId) (sz : Nat) (fu : Nat) (am : Nat → Nat) (tkv : Value) (ttv : Value) (t : Nat → Int32) (t_L : Nat → Int64) (t_refused : Nat → Int32) (l1 : Int32) (l2 : Int32) (out : Int32 × ((Nat → Int32) × (Nat → Int32))) (hm : m_X6_weigh fu t t_L t_refused l1 l2 = some out) : MI l yX6_weigh (wU yX6_weigh cX6_weigh 4 ((Option.some Jvm.ClassFile.FieldType.int))) rm_X6_weigh D cA sz [.ref (am 0), .int l1, .int l2] (w0_X6_weigh cA am tkv ttv t t_L t_refused) out (w1_X6_weigh cA am tkv ttv t_L) := by
  refine Met.ofW (cc := cX6_weigh) (maxL := 4) (ret := (Option.some Jvm.ClassFile.FieldType.int)) (by decide) rfl ?_
  intro p e s m args below meth c s₁ B hml hv
  obtain ⟨hargs, hsz, hP, hK, hD0, hN⟩ := hv
  have hx := B.exec
  have hb := B.bytes
  have hr := B.returns
  have htg : ∀ w ∈ gw, w.before args s = true := fun w h => atoms_spec (ws := wU yX6_weigh cX6_weigh 4 ((Option.some Jvm.ClassFile.FieldType.int))) B.pre w (List.mem_cons_of_mem _ h)
  have hown : s.vm.findClass RX6 = some m.cls := findClass_of_methodNamed B.named
  have hlocks := B.notSynchronized
  subst hsz
  have hD := hD0.self (sz := s.heap.size)
  have hA : ∀ q : Nat, s.heap.size ≤ q → va_A (w0_X6_weigh cA am tkv ttv t t_L t_refused) s.heap.size q := fun q h => Or.inr h
  have hS : va_S (va_A (w0_X6_weigh cA am tkv ttv t t_L t_refused) s.heap.size) s.heap s.heap [] := va_S.rf
  generalize va_A (w0_X6_weigh cA am tkv ttv t t_L t_refused) s.heap.size = A at hA hD hS ⊢
  obtain ⟨Q, hQ⟩ : ∃ Q : State → Prop, Q = MQ below (va_Qi (fun (r : Int32) (u : (Nat → Int32) × (Nat → Int32)) => (r, u) = out) (pst0 D cA A (w1_X6_weigh cA am tkv ttv t_L)) A) args s 0 0 A := ⟨_, rfl⟩
  refine (?_ : W p l e rm_X6_weigh s m args below meth c s.heap [] 0 0 (MQ below (va_Qi (fun (r : Int32) (u : (Nat → Int32) × (Nat → Int32)) => (r, u) = out) (pst0 D cA A (w1_X6_weigh cA am tkv ttv t_L)) A) args s 0 0 A) (entryFrame m args 4))
  rw [← hQ]
  have hP : va_P D CL [((am 0), e_X6 am tkv ttv t t_L), ((am 16), eI cA 8 t_refused)] s.heap := hP
  have hD : va_D A [((am 0), e_X6 am tkv ttv t t_L), ((am 16), eI cA 8 t_refused)] := hD
  have B_27 : ∀ (t : Nat → Int32) (t_refused : Nat → Int32) (H : Heap) (locs : List Loc) (ls : Array Slot), b_X6_weigh_27 fu t_L t t_refused = some out → va_P D CL [((am 0), e_X6 am tkv ttv t t_L), ((am 16), eI cA 8 t_refused)] H → va_D A [((am 0), e_X6 am tkv ttv t t_L), ((am 16), eI cA 8 t_refused)] → va_S A s.heap H locs → lv_has ls 4 [(0, .ref (am 0))] → W p l e rm_X6_weigh s m args below meth c H locs 0 0 Q (F0 m 27 ls []) := by
    intro  t t_refused H locs ls hm hP hD hS hl
    unfold b_X6_weigh_27 at hm
    refine lv_aload_n hx hb dX6_weigh_27 rfl (lv_at hl 0 rfl) ?_
    refine lv_bipush (v := (-2 : Int32)) hx hb dX6_weigh_28 (by decide) ?_
    obtain ⟨o1, ho2, hm⟩ := bd_s hm
    refine xr_i (wr := []) (wn := [((am 0), e_X6 am tkv ttv t t_L), ((am 16), eI cA 8 o1.2)]) (va_runV (As := [.int (-2 : Int32)]) (rest := []) ⟨hx, hb, hml, hown, htg⟩ (c_X6_refuse l D cA _ fu am tkv ttv t t_L t_refused (-2 : Int32) o1 ho2) (cwV 1 htg (gV q_5_108 q_5_110 q_p5_7 q_1_8 q_5_111) rfl rfl rfl hd_X6_refuse ⟨Nat.le_of_ble_eq_true rfl, Nat.le_of_ble_eq_true rfl⟩) (xpV hN hK hP hD [0, 1] rfl (by decide) rfl rfl) rfl rfl hl.1 rfl (lv_room (Nat.le_of_ble_eq_true rfl)) dX6_weigh_30 ⟨Nat.zero_le _, Nat.zero_le _⟩) hP hD hS hA [0, 1] [] [0, 1] rfl rfl (by decide) (by decide) rfl (by decide) (fun H locs hP hD hS => ?_)
    rw [hQ]
    exact W.iret (v := o1.1) hx hb hr (fun t9 ht hW => ⟨⟨o1.1, (t, o1.2), rfl, (Option.some.inj hm), by rw [ht]; exact hP, va_K.moved hW.alike hK, hD⟩, hS.F ht⟩) hS.2.2 dX6_weigh_33
  unfold m_X6_weigh at hm
  subst hargs
  have hl := lv_entry ([.ref (am 0), .int l1, .int l2]) (n := 4) (Nat.le_of_ble_eq_true rfl)
  rw [lg_entry_eq]
  generalize (lg_sl ([.ref (am 0), .int l1, .int l2]) ++ List.replicate (4 - (lg_sl ([.ref (am 0), .int l1, .int l2])).length) Slot.unset).toArray = ls at hl ⊢
  have hl : lv_has ls 4 [(0, .ref (am 0)), (1, .int l1), (2, .int l2)] := hl
  refine lv_iload_n hx hb dX6_weigh_0 rfl (lv_at hl 1 rfl) ?_
  refine lv_i2l hx hb dX6_weigh_1 rfl ?_
  refine lv_ldc2 (v := (2 : Int64)) hx hb hown (htg _ q_5_185) dX6_weigh_2 ?_
  refine lv_ldc2 (v := (9 : Int64)) hx hb hown (htg _ q_5_171) dX6_weigh_5 ?_
  obtain ⟨o3, ho4, hm⟩ := bd_s hm
  refine xr_i (wr := [((am 0), e_X6 am tkv ttv t t_L), ((am 16), eI cA 8 t_refused)]) (wn := [((am 0), e_X6 am tkv ttv t t_L), ((am 16), eI cA 8 t_refused)]) (va_runS (As := [.long l1.toInt64, .long (2 : Int64), .long (9 : Int64)]) (rest := []) ⟨hx, hb, hml, hown, htg⟩ (c_X6_in l D cA _ fu l1.toInt64 (2 : Int64) (9 : Int64) o3 ho4) (cwS 3 htg (gS q_5_103 q_5_104 q_1_8 q_5_105) rfl rfl rfl hd_X6_in ⟨Nat.le_of_ble_eq_true rfl, Nat.le_of_ble_eq_true rfl⟩) (xpS hN hK hP hD [] rfl (by decide)) rfl rfl hl.1 rfl (lv_room (Nat.le_of_ble_eq_true rfl)) dX6_weigh_8 ⟨Nat.zero_le _, Nat.zero_le _⟩) hP hD hS hA [] [0, 1] [0, 1] rfl rfl (by decide) (by decide) rfl (by decide) (fun H locs hP hD hS => ?_)
  refine lv_if_eq (tgt := 27) hx hb dX6_weigh_11 (by decide) (fun c5 => ?_) (fun c5 => ?_)
  · have hm := it_t c5 hm
    exact B_27 _ _ _ _ _ hm hP hD hS (lv_sub hl [0] rfl)
  · have hm := it_f c5 hm
    refine lv_iload_n hx hb dX6_weigh_14 rfl (lv_at hl 2 rfl) ?_
    refine lv_i2l hx hb dX6_weigh_15 rfl ?_
    refine lv_lconst (v := (0 : Int64)) hx hb dX6_weigh_16 (by decide) ?_
    refine lv_iload_n hx hb dX6_weigh_17 rfl (lv_at hl 1 rfl) ?_
    refine lv_iconst (v := (1 : Int32)) hx hb dX6_weigh_18 (by decide) ?_
    refine lv_isub hx hb dX6_weigh_19 ?_
    refine lv_i2l hx hb dX6_weigh_20 rfl ?_
    obtain ⟨o6, ho7, hm⟩ := bd_s hm
    refine xr_i (wr := [((am 0), e_X6 am tkv ttv t t_L), ((am 16), eI cA 8 t_refused)]) (wn := [((am 0), e_X6 am tkv ttv t t_L), ((am 16), eI cA 8 t_refused)]) (va_runS (As := [.long l2.toInt64, .long (0 : Int64), .long ((l1 - (1 : Int32)).toInt64)]) (rest := []) ⟨hx, hb, hml, hown, htg⟩ (c_X6_in l D cA _ fu l2.toInt64 (0 : Int64) ((l1 - (1 : Int32)).toInt64) o6 ho7) (cwS 3 htg (gS q_5_103 q_5_104 q_1_8 q_5_105) rfl rfl rfl hd_X6_in ⟨Nat.le_of_ble_eq_true rfl, Nat.le_of_ble_eq_true rfl⟩) (xpS hN hK hP hD [] rfl (by decide)) rfl rfl hl.1 rfl (lv_room (Nat.le_of_ble_eq_true rfl)) dX6_weigh_21 ⟨Nat.zero_le _, Nat.zero_le _⟩) hP hD hS hA [] [0, 1] [0, 1] rfl rfl (by decide) (by decide) rfl (by decide) (fun H locs hP hD hS => ?_)
    refine lv_if_ne (tgt := 34) hx hb dX6_weigh_24 (by decide) (fun c8 => ?_) (fun c8 => ?_)
    · have hm := it_f c8 hm
      refine lv_bipush (v := (10 : Int32)) hx hb dX6_weigh_34 (by decide) ?_
      refine lv_aload_n hx hb dX6_weigh_36 rfl (lv_at hl 0 rfl) ?_
      refine va_get (D := D) (ci := 6) (v := .int (t 12)) (C := RX6) (T := TX6) (N := 49) hx hb htg inX6 hown hK hP 0 rfl rfl 12 (by decide) (htg _ q_4_201) (fun _ h9 => h9) rfl dX6_weigh_37 ?_
      refine lv_imul hx hb dX6_weigh_40 ?_
      refine lv_aload_n hx hb dX6_weigh_41 rfl (lv_at hl 0 rfl) ?_
      refine va_get (D := D) (ci := 6) (v := .int (t 13)) (C := RX6) (T := TX6) (N := 49) hx hb htg inX6 hown hK hP 0 rfl rfl 13 (by decide) (htg _ q_4_202) (fun _ h9 => h9) rfl dX6_weigh_42 ?_
      refine lv_iadd hx hb dX6_weigh_45 ?_
      refine lv_istore_n (lv' := [(3, .int (((10 : Int32) * t 12) + t 13)), (0, .ref (am 0)), (1, .int l1), (2, .int l2)]) hx hb dX6_weigh_46 rfl hl (by decide) rfl (fun ls hl => ?_)
      refine lv_aload_n hx hb dX6_weigh_47 rfl (lv_at hl 1 rfl) ?_
      refine lv_iload_n hx hb dX6_weigh_48 rfl (lv_at hl 2 rfl) ?_
      refine va_put (D := D) (ci := 6) (v := .int l1) (ty := .int) (C := RX6) (T := TX6) (N := 49) hx hb htg inX6 tyX6 tyX6_ok nmX6 hown hK hP hD hS 0 rfl rfl 12 (by decide) (htg _ q_4_201) (fun _ h9 => h9) rfl (by decide +kernel) rfl rfl (Nat.le_of_ble_eq_true rfl) dX6_weigh_49 (fun H locs (hP : va_P D CL [((am 0), e_X6 am tkv ttv (upd t 12 l1) t_L), ((am 16), eI cA 8 t_refused)] H) (hD : va_D A [((am 0), e_X6 am tkv ttv (upd t 12 l1) t_L), ((am 16), eI cA 8 t_refused)]) hS => ?_)
      refine lv_aload_n hx hb dX6_weigh_52 rfl (lv_at hl 1 rfl) ?_
      refine lv_iload_n hx hb dX6_weigh_53 rfl (lv_at hl 3 rfl) ?_
      refine va_put (D := D) (ci := 6) (v := .int l2) (ty := .int) (C := RX6) (T := TX6) (N := 49) hx hb htg inX6 tyX6 tyX6_ok nmX6 hown hK hP hD hS 0 rfl rfl 13 (by decide) (htg _ q_4_202) (fun _ h9 => h9) rfl (by decide +kernel) rfl rfl (Nat.le_of_ble_eq_true rfl) dX6_weigh_54 (fun H locs (hP : va_P D CL [((am 0), e_X6 am tkv ttv (upd (upd t 12 l1) 13 l2) t_L), ((am 16), eI cA 8 t_refused)] H) (hD : va_D A [((am 0), e_X6 am tkv ttv (upd (upd t 12 l1) 13 l2) t_L), ((am 16), eI cA 8 t_refused)]) hS => ?_)
      refine lv_iload_n hx hb dX6_weigh_57 rfl (lv_at hl 0 rfl) ?_
      rw [hQ]
      exact W.iret (v := (((10 : Int32) * t 12) + t 13)) hx hb hr (fun t9 ht hW => ⟨⟨(((10 : Int32) * t 12) + t 13), ((upd (upd t 12 l1) 13 l2), t_refused), rfl, (Option.some.inj hm), by rw [ht]; exact hP, va_K.moved hW.alike hK, hD⟩, hS.F ht⟩) hS.2.2 dX6_weigh_58
    · have hm := it_t c8 hm
      exact B_27 _ _ _ _ _ hm hP hD hS (lv_sub hl [0] rfl)
def m_X6_feed (fu : Nat) (t : Nat → Int32) (t_L : Nat → Int64) (t_tape : Nat → Int32) (t_refused : Nat → Int32) (l1 : Int32) : Option (Int32 × ((Nat → Int32) × (Nat → Int32) × (Nat → Int32))) :=
  (m_X6_in fu l1.toInt64 (0 : Int64) (255 : Int64)).bind fun o1 =>
  (if o1.1 = 0 then
    (m_X6_refuse fu t t_L t_refused (-2 : Int32)).bind fun o8 =>
    some (o8.1, (t, t_tape, o8.2))
  else
    (if t 7 = (250 : Int32) then
      (m_X6_refuse fu t t_L t_refused (-6 : Int32)).bind fun o6 =>
      some (o6.1, (t, t_tape, o6.2))
    else
      gd (inb (t 7) 250) (
      some (t 7 + (1 : Int32), ((upd t 7 (t 7 + (1 : Int32))), (upd t_tape (t 7).toNatClampNeg l1), t_refused)))))
abbrev rm_X6_feed : Room := ({ frames := 1, cells := 0, slots := 0, locals := 25 } : Room)
abbrev w0_X6_feed (cA : Nat → ClassId) (am : Nat → Nat) (tkv : Value) (ttv : Value) (t : Nat → Int32) (t_L : Nat → Int64) (t_tape : Nat → Int32) (t_refused : Nat → Int32) : va_W := [((am 0), e_X6 am tkv ttv t t_L), ((am 15), eI cA 250 t_tape), ((am 16), eI cA 8 t_refused)]
abbrev w1_X6_feed (cA : Nat → ClassId) (am : Nat → Nat) (tkv : Value) (ttv : Value) (t_L : Nat → Int64) (u : (Nat → Int32) × (Nat → Int32) × (Nat → Int32)) : va_W := [((am 0), e_X6 am tkv ttv u.1 t_L), ((am 15), eI cA 250 u.2.1), ((am 16), eI cA 8 u.2.2)]
theorem hd_X6_feed : yX6_feed.cls = RX6 ∧ yX6_feed.cls ≠ "java/lang/invoke/MethodHandle" ∧ yX6_feed.cls ≠ "java/lang/invoke/VarHandle" ∧ (parseMethodDescriptor yX6_feed.desc).map (fun d => d.parameters.length) = some 1 := by decide +kernel
set_option maxHeartbeats 40000000 in
set_option maxRecDepth 100000 in
theorem c_X6_feed (l : Launch) (D : va_G) (cA : Nat → ClassId) (sz : Nat) (fu : Nat) (am : Nat → Nat) (tkv : Value) (ttv : Value) (t : Nat → Int32) (t_L : Nat → Int64) (t_tape : Nat → Int32) (t_refused : Nat → Int32) (l1 : Int32) (out : Int32 × ((Nat → Int32) × (Nat → Int32) × (Nat → Int32))) (hm : m_X6_feed fu t t_L t_tape t_refused l1 = some out) : MI l yX6_feed (wU yX6_feed cX6_feed 2 ((Option.some Jvm.ClassFile.FieldType.int))) rm_X6_feed D cA sz [.ref (am 0), .int l1] (w0_X6_feed cA am tkv ttv t t_L t_tape t_refused) out (w1_X6_feed cA am tkv ttv t_L) := by
  refine Met.ofW (cc := cX6_feed) (maxL := 2) (ret := (Option.some Jvm.ClassFile.FieldType.int)) (by decide) rfl ?_
  intro p e s m args below meth c s₁ B hml hv
  obtain ⟨hargs, hsz, hP, hK, hD0, hN⟩ := hv
  have hx := B.exec
  have hb := B.bytes
  have hr := B.returns
  have htg : ∀ w ∈ gw, w.before args s = true := fun w h => atoms_spec (ws := wU yX6_feed cX6_feed 2 ((Option.some Jvm.ClassFile.FieldType.int))) B.pre w (List.mem_cons_of_mem _ h)
  have hown : s.vm.findClass RX6 = some m.cls := findClass_of_methodNamed B.named
  have hlocks := B.notSynchronized
  subst hsz
  have hD := hD0.self (sz := s.heap.size)
  have hA : ∀ q : Nat, s.heap.size ≤ q → va_A (w0_X6_feed cA am tkv ttv t t_L t_tape t_refused) s.heap.size q := fun q h => Or.inr h
  have hS : va_S (va_A (w0_X6_feed cA am tkv ttv t t_L t_tape t_refused) s.heap.size) s.heap s.heap [] := va_S.rf
  generalize va_A (w0_X6_feed cA am tkv ttv t t_L t_tape t_refused) s.heap.size = A at hA hD hS ⊢
  obtain ⟨Q, hQ⟩ : ∃ Q : State → Prop, Q = MQ below (va_Qi (fun (r : Int32) (u : (Nat → Int32) × (Nat → Int32) × (Nat → Int32)) => (r, u) = out) (pst0 D cA A (w1_X6_feed cA am tkv ttv t_L)) A) args s 0 0 A := ⟨_, rfl⟩
  refine (?_ : W p l e rm_X6_feed s m args below meth c s.heap [] 0 0 (MQ below (va_Qi (fun (r : Int32) (u : (Nat → Int32) × (Nat → Int32) × (Nat → Int32)) => (r, u) = out) (pst0 D cA A (w1_X6_feed cA am tkv ttv t_L)) A) args s 0 0 A) (entryFrame m args 2))
  rw [← hQ]
  have hP : va_P D CL [((am 0), e_X6 am tkv ttv t t_L), ((am 15), eI cA 250 t_tape), ((am 16), eI cA 8 t_refused)] s.heap := hP
  have hD : va_D A [((am 0), e_X6 am tkv ttv t t_L), ((am 15), eI cA 250 t_tape), ((am 16), eI cA 8 t_refused)] := hD
  unfold m_X6_feed at hm
  subst hargs
  have hl := lv_entry ([.ref (am 0), .int l1]) (n := 2) (Nat.le_of_ble_eq_true rfl)
  rw [lg_entry_eq]
  generalize (lg_sl ([.ref (am 0), .int l1]) ++ List.replicate (2 - (lg_sl ([.ref (am 0), .int l1])).length) Slot.unset).toArray = ls at hl ⊢
  have hl : lv_has ls 2 [(0, .ref (am 0)), (1, .int l1)] := hl
  refine lv_iload_n hx hb dX6_feed_0 rfl (lv_at hl 1 rfl) ?_
  refine lv_i2l hx hb dX6_feed_1 rfl ?_
  refine lv_lconst (v := (0 : Int64)) hx hb dX6_feed_2 (by decide) ?_
  refine lv_ldc2 (v := (255 : Int64)) hx hb hown (htg _ q_5_195) dX6_feed_3 ?_
  obtain ⟨o1, ho2, hm⟩ := bd_s hm
  refine xr_i (wr := [((am 0), e_X6 am tkv ttv t t_L), ((am 15), eI cA 250 t_tape), ((am 16), eI cA 8 t_refused)]) (wn := [((am 0), e_X6 am tkv ttv t t_L), ((am 15), eI cA 250 t_tape), ((am 16), eI cA 8 t_refused)]) (va_runS (As := [.long l1.toInt64, .long (0 : Int64), .long (255 : Int64)]) (rest := []) ⟨hx, hb, hml, hown, htg⟩ (c_X6_in l D cA _ fu l1.toInt64 (0 : Int64) (255 : Int64) o1 ho2) (cwS 3 htg (gS q_5_103 q_5_104 q_1_8 q_5_105) rfl rfl rfl hd_X6_in ⟨Nat.le_of_ble_eq_true rfl, Nat.le_of_ble_eq_true rfl⟩) (xpS hN hK hP hD [] rfl (by decide)) rfl rfl hl.1 rfl (lv_room (Nat.le_of_ble_eq_true rfl)) dX6_feed_6 ⟨Nat.zero_le _, Nat.zero_le _⟩) hP hD hS hA [] [0, 1, 2] [0, 1, 2] rfl rfl (by decide) (by decide) rfl (by decide) (fun H locs hP hD hS => ?_)
  refine lv_if_ne (tgt := 19) hx hb dX6_feed_9 (by decide) (fun c3 => ?_) (fun c3 => ?_)
  · have hm := it_f c3 hm
    refine lv_aload_n hx hb dX6_feed_19 rfl (lv_at hl 0 rfl) ?_
    refine va_get (D := D) (ci := 6) (v := .int (t 7)) (C := RX6) (T := TX6) (N := 49) hx hb htg inX6 hown hK hP 0 rfl rfl 7 (by decide) (htg _ q_4_196) (fun _ h9 => h9) rfl dX6_feed_20 ?_
    refine lv_sipush (v := (250 : Int32)) hx hb dX6_feed_23 (by decide) ?_
    refine lv_icmp_ne (tgt := 36) hx hb dX6_feed_26 (by decide) (fun c4 => ?_) (fun c4 => ?_)
    · have hm := it_f c4 hm
      refine lv_aload_n hx hb dX6_feed_36 rfl (lv_at hl 0 rfl) ?_
      refine va_get (D := D) (ci := 6) (v := .ref (am 15)) (C := RX6) (T := TX6) (N := 49) hx hb htg inX6 hown hK hP 0 rfl rfl 6 (by decide) (htg _ q_4_195) (fun _ h9 => h9) rfl dX6_feed_37 ?_
      refine lv_aload_n hx hb dX6_feed_40 rfl (lv_at hl 0 rfl) ?_
      refine lv_dup hx hb dX6_feed_41 rfl ?_
      refine va_get (D := D) (ci := 6) (v := .int (t 7)) (C := RX6) (T := TX6) (N := 49) hx hb htg inX6 hown hK hP 0 rfl rfl 7 (by decide) (htg _ q_4_196) (fun _ h9 => h9) rfl dX6_feed_42 ?_
      refine lv_dup_x1 hx hb dX6_feed_45 rfl rfl ?_
      refine lv_iconst (v := (1 : Int32)) hx hb dX6_feed_46 (by decide) ?_
      refine lv_iadd hx hb dX6_feed_47 ?_
      refine va_put (D := D) (ci := 6) (v := .int (t 7 + (1 : Int32))) (ty := .int) (C := RX6) (T := TX6) (N := 49) hx hb htg inX6 tyX6 tyX6_ok nmX6 hown hK hP hD hS 0 rfl rfl 7 (by decide) (htg _ q_4_196) (fun _ h9 => h9) rfl (by decide +kernel) rfl rfl (Nat.le_of_ble_eq_true rfl) dX6_feed_48 (fun H locs (hP : va_P D CL [((am 0), e_X6 am tkv ttv (upd t 7 (t 7 + (1 : Int32))) t_L), ((am 15), eI cA 250 t_tape), ((am 16), eI cA 8 t_refused)] H) (hD : va_D A [((am 0), e_X6 am tkv ttv (upd t 7 (t 7 + (1 : Int32))) t_L), ((am 15), eI cA 250 t_tape), ((am 16), eI cA 8 t_refused)]) hS => ?_)
      refine lv_iload_n hx hb dX6_feed_51 rfl (lv_at hl 1 rfl) ?_
      obtain ⟨hi5, hm⟩ := gd_s hm
      refine va_iast hx hb hK hP hD hS 1 0 rfl rfl hi5 dX6_feed_52 (fun H locs (hP : va_P D CL [((am 0), e_X6 am tkv ttv (upd t 7 (t 7 + (1 : Int32))) t_L), ((am 15), eI cA 250 (upd t_tape (t 7).toNatClampNeg l1)), ((am 16), eI cA 8 t_refused)] H) (hD : va_D A [((am 0), e_X6 am tkv ttv (upd t 7 (t 7 + (1 : Int32))) t_L), ((am 15), eI cA 250 (upd t_tape (t 7).toNatClampNeg l1)), ((am 16), eI cA 8 t_refused)]) hS => ?_)
      refine lv_aload_n hx hb dX6_feed_53 rfl (lv_at hl 0 rfl) ?_
      refine va_get (D := D) (ci := 6) (v := .int (t 7 + (1 : Int32))) (C := RX6) (T := TX6) (N := 49) hx hb htg inX6 hown hK hP 0 rfl rfl 7 (by decide) (htg _ q_4_196) (fun _ h9 => h9) rfl dX6_feed_54 ?_
      rw [hQ]
      exact W.iret (v := t 7 + (1 : Int32)) hx hb hr (fun t9 ht hW => ⟨⟨t 7 + (1 : Int32), ((upd t 7 (t 7 + (1 : Int32))), (upd t_tape (t 7).toNatClampNeg l1), t_refused), rfl, (Option.some.inj hm), by rw [ht]; exact hP, va_K.moved hW.alike hK, hD⟩, hS.F ht⟩) hS.2.2 dX6_feed_57
    · have hm := it_t c4 hm
      refine lv_aload_n hx hb dX6_feed_29 rfl (lv_at hl 0 rfl) ?_
      refine lv_bipush (v := (-6 : Int32)) hx hb dX6_feed_30 (by decide) ?_
      obtain ⟨o6, ho7, hm⟩ := bd_s hm
      refine xr_i (wr := [((am 15), eI cA 250 t_tape)]) (wn := [((am 0), e_X6 am tkv ttv t t_L), ((am 15), eI cA 250 t_tape), ((am 16), eI cA 8 o6.2)]) (va_runV (As := [.int (-6 : Int32)]) (rest := []) ⟨hx, hb, hml, hown, htg⟩ (c_X6_refuse l D cA _ fu am tkv ttv t t_L t_refused (-6 : Int32) o6 ho7) (cwV 1 htg (gV q_5_108 q_5_110 q_p5_7 q_1_8 q_5_111) rfl rfl rfl hd_X6_refuse ⟨Nat.le_of_ble_eq_true rfl, Nat.le_of_ble_eq_true rfl⟩) (xpV hN hK hP hD [0, 2] rfl (by decide) rfl rfl) rfl rfl hl.1 rfl (lv_room (Nat.le_of_ble_eq_true rfl)) dX6_feed_32 ⟨Nat.zero_le _, Nat.zero_le _⟩) hP hD hS hA [0, 2] [1] [1, 0, 2] rfl rfl (by decide) (by decide) rfl (by decide) (fun H locs hP hD hS => ?_)
      rw [hQ]
      exact W.iret (v := o6.1) hx hb hr (fun t9 ht hW => ⟨⟨o6.1, (t, t_tape, o6.2), rfl, (Option.some.inj hm), by rw [ht]; exact hP, va_K.moved hW.alike hK, hD⟩, hS.F ht⟩) hS.2.2 dX6_feed_35
  · have hm := it_t c3 hm
    refine lv_aload_n hx hb dX6_feed_12 rfl (lv_at hl 0 rfl) ?_
    refine lv_bipush (v := (-2 : Int32)) hx hb dX6_feed_13 (by decide) ?_
    obtain ⟨o8, ho9, hm⟩ := bd_s hm
    refine xr_i (wr := [((am 15), eI cA 250 t_tape)]) (wn := [((am 0), e_X6 am tkv ttv t t_L), ((am 15), eI cA 250 t_tape), ((am 16), eI cA 8 o8.2)]) (va_runV (As := [.int (-2 : Int32)]) (rest := []) ⟨hx, hb, hml, hown, htg⟩ (c_X6_refuse l D cA _ fu am tkv ttv t t_L t_refused (-2 : Int32) o8 ho9) (cwV 1 htg (gV q_5_108 q_5_110 q_p5_7 q_1_8 q_5_111) rfl rfl rfl hd_X6_refuse ⟨Nat.le_of_ble_eq_true rfl, Nat.le_of_ble_eq_true rfl⟩) (xpV hN hK hP hD [0, 2] rfl (by decide) rfl rfl) rfl rfl hl.1 rfl (lv_room (Nat.le_of_ble_eq_true rfl)) dX6_feed_15 ⟨Nat.zero_le _, Nat.zero_le _⟩) hP hD hS hA [0, 2] [1] [1, 0, 2] rfl rfl (by decide) (by decide) rfl (by decide) (fun H locs hP hD hS => ?_)
    rw [hQ]
    exact W.iret (v := o8.1) hx hb hr (fun t9 ht hW => ⟨⟨o8.1, (t, t_tape, o8.2), rfl, (Option.some.inj hm), by rw [ht]; exact hP, va_K.moved hW.alike hK, hD⟩, hS.F ht⟩) hS.2.2 dX6_feed_18
def m_X6_wipe (fu : Nat) (t : Nat → Int32) (t_L : Nat → Int64) : Option (Int32 × (Nat → Int32)) :=
  some (t 7, (upd t 7 (0 : Int32)))
abbrev rm_X6_wipe : Room := ({ frames := 0, cells := 0, slots := 0, locals := 0 } : Room)
abbrev w0_X6_wipe (cA : Nat → ClassId) (am : Nat → Nat) (tkv : Value) (ttv : Value) (t : Nat → Int32) (t_L : Nat → Int64) : va_W := [((am 0), e_X6 am tkv ttv t t_L)]
abbrev w1_X6_wipe (cA : Nat → ClassId) (am : Nat → Nat) (tkv : Value) (ttv : Value) (t_L : Nat → Int64) (u : (Nat → Int32)) : va_W := [((am 0), e_X6 am tkv ttv u t_L)]
theorem hd_X6_wipe : yX6_wipe.cls = RX6 ∧ yX6_wipe.cls ≠ "java/lang/invoke/MethodHandle" ∧ yX6_wipe.cls ≠ "java/lang/invoke/VarHandle" ∧ (parseMethodDescriptor yX6_wipe.desc).map (fun d => d.parameters.length) = some 0 := by decide +kernel
set_option maxHeartbeats 40000000 in
set_option maxRecDepth 100000 in
theorem c_X6_wipe (l : Launch) (D : va_G) (cA : Nat → ClassId) (sz : Nat) (fu : Nat) (am : Nat → Nat) (tkv : Value) (ttv : Value) (t : Nat → Int32) (t_L : Nat → Int64) (out : Int32 × (Nat → Int32)) (hm : m_X6_wipe fu t t_L = some out) : MI l yX6_wipe (wU yX6_wipe cX6_wipe 2 ((Option.some Jvm.ClassFile.FieldType.int))) rm_X6_wipe D cA sz [.ref (am 0)] (w0_X6_wipe cA am tkv ttv t t_L) out (w1_X6_wipe cA am tkv ttv t_L) := by
  refine Met.ofW (cc := cX6_wipe) (maxL := 2) (ret := (Option.some Jvm.ClassFile.FieldType.int)) (by decide) rfl ?_
  intro p e s m args below meth c s₁ B hml hv
  obtain ⟨hargs, hsz, hP, hK, hD0, hN⟩ := hv
  have hx := B.exec
  have hb := B.bytes
  have hr := B.returns
  have htg : ∀ w ∈ gw, w.before args s = true := fun w h => atoms_spec (ws := wU yX6_wipe cX6_wipe 2 ((Option.some Jvm.ClassFile.FieldType.int))) B.pre w (List.mem_cons_of_mem _ h)
  have hown : s.vm.findClass RX6 = some m.cls := findClass_of_methodNamed B.named
  have hlocks := B.notSynchronized
  subst hsz
  have hD := hD0.self (sz := s.heap.size)
  have hA : ∀ q : Nat, s.heap.size ≤ q → va_A (w0_X6_wipe cA am tkv ttv t t_L) s.heap.size q := fun q h => Or.inr h
  have hS : va_S (va_A (w0_X6_wipe cA am tkv ttv t t_L) s.heap.size) s.heap s.heap [] := va_S.rf
  generalize va_A (w0_X6_wipe cA am tkv ttv t t_L) s.heap.size = A at hA hD hS ⊢
  obtain ⟨Q, hQ⟩ : ∃ Q : State → Prop, Q = MQ below (va_Qi (fun (r : Int32) (u : (Nat → Int32)) => (r, u) = out) (pst0 D cA A (w1_X6_wipe cA am tkv ttv t_L)) A) args s 0 0 A := ⟨_, rfl⟩
  refine (?_ : W p l e rm_X6_wipe s m args below meth c s.heap [] 0 0 (MQ below (va_Qi (fun (r : Int32) (u : (Nat → Int32)) => (r, u) = out) (pst0 D cA A (w1_X6_wipe cA am tkv ttv t_L)) A) args s 0 0 A) (entryFrame m args 2))
  rw [← hQ]
  have hP : va_P D CL [((am 0), e_X6 am tkv ttv t t_L)] s.heap := hP
  have hD : va_D A [((am 0), e_X6 am tkv ttv t t_L)] := hD
  unfold m_X6_wipe at hm
  subst hargs
  have hl := lv_entry ([.ref (am 0)]) (n := 2) (Nat.le_of_ble_eq_true rfl)
  rw [lg_entry_eq]
  generalize (lg_sl ([.ref (am 0)]) ++ List.replicate (2 - (lg_sl ([.ref (am 0)])).length) Slot.unset).toArray = ls at hl ⊢
  have hl : lv_has ls 2 [(0, .ref (am 0))] := hl
  refine lv_aload_n hx hb dX6_wipe_0 rfl (lv_at hl 0 rfl) ?_
  refine va_get (D := D) (ci := 6) (v := .int (t 7)) (C := RX6) (T := TX6) (N := 49) hx hb htg inX6 hown hK hP 0 rfl rfl 7 (by decide) (htg _ q_4_196) (fun _ h9 => h9) rfl dX6_wipe_1 ?_
  refine lv_istore_n (lv' := [(1, .int (t 7)), (0, .ref (am 0))]) hx hb dX6_wipe_4 rfl hl (by decide) rfl (fun ls hl => ?_)
  refine lv_aload_n hx hb dX6_wipe_5 rfl (lv_at hl 1 rfl) ?_
  refine lv_iconst (v := (0 : Int32)) hx hb dX6_wipe_6 (by decide) ?_
  refine va_put (D := D) (ci := 6) (v := .int (0 : Int32)) (ty := .int) (C := RX6) (T := TX6) (N := 49) hx hb htg inX6 tyX6 tyX6_ok nmX6 hown hK hP hD hS 0 rfl rfl 7 (by decide) (htg _ q_4_196) (fun _ h9 => h9) rfl (by decide +kernel) rfl rfl (Nat.le_of_ble_eq_true rfl) dX6_wipe_7 (fun H locs (hP : va_P D CL [((am 0), e_X6 am tkv ttv (upd t 7 (0 : Int32)) t_L)] H) (hD : va_D A [((am 0), e_X6 am tkv ttv (upd t 7 (0 : Int32)) t_L)]) hS => ?_)
  refine lv_iload_n hx hb dX6_wipe_10 rfl (lv_at hl 0 rfl) ?_
  rw [hQ]
  exact W.iret (v := t 7) hx hb hr (fun t9 ht hW => ⟨⟨t 7, (upd t 7 (0 : Int32)), rfl, (Option.some.inj hm), by rw [ht]; exact hP, va_K.moved hW.alike hK, hD⟩, hS.F ht⟩) hS.2.2 dX6_wipe_11
def b_X6_isLetter_17 (fu : Nat) (s0 : Int32) : Option (Int32 × Unit) :=
  gd (bz s0) (some (s0, ()))
def b_X6_isLetter_16 (fu : Nat)  : Option (Int32 × Unit) :=
  b_X6_isLetter_17 fu (0 : Int32)
def m_X6_isLetter (fu : Nat) (l0 : Int32) : Option (Int32 × Unit) :=
  (if l0 < (97 : Int32) then
    b_X6_isLetter_16 fu 
  else
    (if (122 : Int32) < l0 then
      b_X6_isLetter_16 fu 
    else
      b_X6_isLetter_17 fu (1 : Int32)))
abbrev rm_X6_isLetter : Room := ({ frames := 0, cells := 0, slots := 0, locals := 0 } : Room)
abbrev w0_X6_isLetter (cA : Nat → ClassId)  : va_W := []
abbrev w1_X6_isLetter (cA : Nat → ClassId)  (u : Unit) : va_W := []
theorem hd_X6_isLetter : yX6_isLetter.cls = RX6 ∧ yX6_isLetter.cls ≠ "java/lang/invoke/MethodHandle" ∧ yX6_isLetter.cls ≠ "java/lang/invoke/VarHandle" ∧ (parseMethodDescriptor yX6_isLetter.desc).map (fun d => d.parameters.length) = some 1 := by decide +kernel
set_option maxHeartbeats 40000000 in
set_option maxRecDepth 100000 in
theorem c_X6_isLetter (l : Launch) (D : va_G) (cA : Nat → ClassId) (sz : Nat) (fu : Nat) (l0 : Int32) (out : Int32 × Unit) (hm : m_X6_isLetter fu l0 = some out) : MI l yX6_isLetter (wU yX6_isLetter cX6_isLetter 1 ((Option.some Jvm.ClassFile.FieldType.boolean))) rm_X6_isLetter D cA sz [.int l0] (w0_X6_isLetter cA ) out (w1_X6_isLetter cA ) := by
  refine Met.ofW (cc := cX6_isLetter) (maxL := 1) (ret := (Option.some Jvm.ClassFile.FieldType.boolean)) (by decide) rfl ?_
  intro p e s m args below meth c s₁ B hml hv
  obtain ⟨hargs, hsz, hP, hK, hD0, hN⟩ := hv
  have hx := B.exec
  have hb := B.bytes
  have hr := B.returns
  have htg : ∀ w ∈ gw, w.before args s = true := fun w h => atoms_spec (ws := wU yX6_isLetter cX6_isLetter 1 ((Option.some Jvm.ClassFile.FieldType.boolean))) B.pre w (List.mem_cons_of_mem _ h)
  have hown : s.vm.findClass RX6 = some m.cls := findClass_of_methodNamed B.named
  have hlocks := B.notSynchronized
  subst hsz
  have hD := hD0.self (sz := s.heap.size)
  have hA : ∀ q : Nat, s.heap.size ≤ q → va_A (w0_X6_isLetter cA ) s.heap.size q := fun q h => Or.inr h
  have hS : va_S (va_A (w0_X6_isLetter cA ) s.heap.size) s.heap s.heap [] := va_S.rf
  generalize va_A (w0_X6_isLetter cA ) s.heap.size = A at hA hD hS ⊢
  obtain ⟨Q, hQ⟩ : ∃ Q : State → Prop, Q = MQ below (va_Qi (fun (r : Int32) (u : Unit) => (r, u) = out) (pst0 D cA A (w1_X6_isLetter cA )) A) args s 0 0 A := ⟨_, rfl⟩
  refine (?_ : W p l e rm_X6_isLetter s m args below meth c s.heap [] 0 0 (MQ below (va_Qi (fun (r : Int32) (u : Unit) => (r, u) = out) (pst0 D cA A (w1_X6_isLetter cA )) A) args s 0 0 A) (entryFrame m args 1))
  rw [← hQ]
  have hP : va_P D CL [] s.heap := hP
  have hD : va_D A [] := hD
  have B_17 : ∀ (s0 : Int32) (H : Heap) (locs : List Loc) (ls : Array Slot), b_X6_isLetter_17 fu s0 = some out → va_P D CL [] H → va_D A [] → va_S A s.heap H locs → lv_has ls 1 [] → W p l e rm_X6_isLetter s m args below meth c H locs 0 0 Q (F0 m 17 ls [.int s0]) := by
    intro  s0 H locs ls hm hP hD hS hl
    unfold b_X6_isLetter_17 at hm
    obtain ⟨hz1, hm⟩ := gd_s hm
    rw [hQ]
    exact W.zret (v := s0) hx hb hr (bz_nr hz1) (fun t9 ht hW => ⟨⟨s0, (), rfl, (Option.some.inj hm), by rw [ht]; exact hP, va_K.moved hW.alike hK, hD⟩, hS.F ht⟩) hS.2.2 dX6_isLetter_17
  have B_16 : ∀  (H : Heap) (locs : List Loc) (ls : Array Slot), b_X6_isLetter_16 fu  = some out → va_P D CL [] H → va_D A [] → va_S A s.heap H locs → lv_has ls 1 [] → W p l e rm_X6_isLetter s m args below meth c H locs 0 0 Q (F0 m 16 ls []) := by
    intro   H locs ls hm hP hD hS hl
    unfold b_X6_isLetter_16 at hm
    refine lv_iconst (v := (0 : Int32)) hx hb dX6_isLetter_16 (by decide) ?_
    exact B_17 _ _ _ _ hm hP hD hS (lv_sub hl [] rfl)
  unfold m_X6_isLetter at hm
  subst hargs
  have hl := lv_entry ([.int l0]) (n := 1) (Nat.le_of_ble_eq_true rfl)
  rw [lg_entry_eq]
  generalize (lg_sl ([.int l0]) ++ List.replicate (1 - (lg_sl ([.int l0])).length) Slot.unset).toArray = ls at hl ⊢
  have hl : lv_has ls 1 [(0, .int l0)] := hl
  refine lv_iload_n hx hb dX6_isLetter_0 rfl (lv_at hl 0 rfl) ?_
  refine lv_bipush (v := (97 : Int32)) hx hb dX6_isLetter_1 (by decide) ?_
  refine lv_icmp_lt (tgt := 16) hx hb dX6_isLetter_3 (by decide) (fun c2 => ?_) (fun c2 => ?_)
  · have hm := it_t c2 hm
    exact B_16  _ _ _ hm hP hD hS (lv_sub hl [] rfl)
  · have hm := it_f c2 hm
    refine lv_iload_n hx hb dX6_isLetter_6 rfl (lv_at hl 0 rfl) ?_
    refine lv_bipush (v := (122 : Int32)) hx hb dX6_isLetter_7 (by decide) ?_
    refine lv_icmp_gt (tgt := 16) hx hb dX6_isLetter_9 (by decide) (fun c3 => ?_) (fun c3 => ?_)
    · have hm := it_t c3 hm
      exact B_16  _ _ _ hm hP hD hS (lv_sub hl [] rfl)
    · have hm := it_f c3 hm
      refine lv_iconst (v := (1 : Int32)) hx hb dX6_isLetter_12 (by decide) ?_
      refine lv_goto (tgt := 17) hx hb dX6_isLetter_13 (by decide) ?_
      exact B_17 _ _ _ _ hm hP hD hS (lv_sub hl [] rfl)
def b_X6_isDigit_17 (fu : Nat) (s0 : Int32) : Option (Int32 × Unit) :=
  gd (bz s0) (some (s0, ()))
def b_X6_isDigit_16 (fu : Nat)  : Option (Int32 × Unit) :=
  b_X6_isDigit_17 fu (0 : Int32)
def m_X6_isDigit (fu : Nat) (l0 : Int32) : Option (Int32 × Unit) :=
  (if l0 < (48 : Int32) then
    b_X6_isDigit_16 fu 
  else
    (if (57 : Int32) < l0 then
      b_X6_isDigit_16 fu 
    else
      b_X6_isDigit_17 fu (1 : Int32)))
abbrev rm_X6_isDigit : Room := ({ frames := 0, cells := 0, slots := 0, locals := 0 } : Room)
abbrev w0_X6_isDigit (cA : Nat → ClassId)  : va_W := []
abbrev w1_X6_isDigit (cA : Nat → ClassId)  (u : Unit) : va_W := []
theorem hd_X6_isDigit : yX6_isDigit.cls = RX6 ∧ yX6_isDigit.cls ≠ "java/lang/invoke/MethodHandle" ∧ yX6_isDigit.cls ≠ "java/lang/invoke/VarHandle" ∧ (parseMethodDescriptor yX6_isDigit.desc).map (fun d => d.parameters.length) = some 1 := by decide +kernel
set_option maxHeartbeats 40000000 in
set_option maxRecDepth 100000 in
theorem c_X6_isDigit (l : Launch) (D : va_G) (cA : Nat → ClassId) (sz : Nat) (fu : Nat) (l0 : Int32) (out : Int32 × Unit) (hm : m_X6_isDigit fu l0 = some out) : MI l yX6_isDigit (wU yX6_isDigit cX6_isDigit 1 ((Option.some Jvm.ClassFile.FieldType.boolean))) rm_X6_isDigit D cA sz [.int l0] (w0_X6_isDigit cA ) out (w1_X6_isDigit cA ) := by
  refine Met.ofW (cc := cX6_isDigit) (maxL := 1) (ret := (Option.some Jvm.ClassFile.FieldType.boolean)) (by decide) rfl ?_
  intro p e s m args below meth c s₁ B hml hv
  obtain ⟨hargs, hsz, hP, hK, hD0, hN⟩ := hv
  have hx := B.exec
  have hb := B.bytes
  have hr := B.returns
  have htg : ∀ w ∈ gw, w.before args s = true := fun w h => atoms_spec (ws := wU yX6_isDigit cX6_isDigit 1 ((Option.some Jvm.ClassFile.FieldType.boolean))) B.pre w (List.mem_cons_of_mem _ h)
  have hown : s.vm.findClass RX6 = some m.cls := findClass_of_methodNamed B.named
  have hlocks := B.notSynchronized
  subst hsz
  have hD := hD0.self (sz := s.heap.size)
  have hA : ∀ q : Nat, s.heap.size ≤ q → va_A (w0_X6_isDigit cA ) s.heap.size q := fun q h => Or.inr h
  have hS : va_S (va_A (w0_X6_isDigit cA ) s.heap.size) s.heap s.heap [] := va_S.rf
  generalize va_A (w0_X6_isDigit cA ) s.heap.size = A at hA hD hS ⊢
  obtain ⟨Q, hQ⟩ : ∃ Q : State → Prop, Q = MQ below (va_Qi (fun (r : Int32) (u : Unit) => (r, u) = out) (pst0 D cA A (w1_X6_isDigit cA )) A) args s 0 0 A := ⟨_, rfl⟩
  refine (?_ : W p l e rm_X6_isDigit s m args below meth c s.heap [] 0 0 (MQ below (va_Qi (fun (r : Int32) (u : Unit) => (r, u) = out) (pst0 D cA A (w1_X6_isDigit cA )) A) args s 0 0 A) (entryFrame m args 1))
  rw [← hQ]
  have hP : va_P D CL [] s.heap := hP
  have hD : va_D A [] := hD
  have B_17 : ∀ (s0 : Int32) (H : Heap) (locs : List Loc) (ls : Array Slot), b_X6_isDigit_17 fu s0 = some out → va_P D CL [] H → va_D A [] → va_S A s.heap H locs → lv_has ls 1 [] → W p l e rm_X6_isDigit s m args below meth c H locs 0 0 Q (F0 m 17 ls [.int s0]) := by
    intro  s0 H locs ls hm hP hD hS hl
    unfold b_X6_isDigit_17 at hm
    obtain ⟨hz1, hm⟩ := gd_s hm
    rw [hQ]
    exact W.zret (v := s0) hx hb hr (bz_nr hz1) (fun t9 ht hW => ⟨⟨s0, (), rfl, (Option.some.inj hm), by rw [ht]; exact hP, va_K.moved hW.alike hK, hD⟩, hS.F ht⟩) hS.2.2 dX6_isDigit_17
  have B_16 : ∀  (H : Heap) (locs : List Loc) (ls : Array Slot), b_X6_isDigit_16 fu  = some out → va_P D CL [] H → va_D A [] → va_S A s.heap H locs → lv_has ls 1 [] → W p l e rm_X6_isDigit s m args below meth c H locs 0 0 Q (F0 m 16 ls []) := by
    intro   H locs ls hm hP hD hS hl
    unfold b_X6_isDigit_16 at hm
    refine lv_iconst (v := (0 : Int32)) hx hb dX6_isDigit_16 (by decide) ?_
    exact B_17 _ _ _ _ hm hP hD hS (lv_sub hl [] rfl)
  unfold m_X6_isDigit at hm
  subst hargs
  have hl := lv_entry ([.int l0]) (n := 1) (Nat.le_of_ble_eq_true rfl)
  rw [lg_entry_eq]
  generalize (lg_sl ([.int l0]) ++ List.replicate (1 - (lg_sl ([.int l0])).length) Slot.unset).toArray = ls at hl ⊢
  have hl : lv_has ls 1 [(0, .int l0)] := hl
  refine lv_iload_n hx hb dX6_isDigit_0 rfl (lv_at hl 0 rfl) ?_
  refine lv_bipush (v := (48 : Int32)) hx hb dX6_isDigit_1 (by decide) ?_
  refine lv_icmp_lt (tgt := 16) hx hb dX6_isDigit_3 (by decide) (fun c2 => ?_) (fun c2 => ?_)
  · have hm := it_t c2 hm
    exact B_16  _ _ _ hm hP hD hS (lv_sub hl [] rfl)
  · have hm := it_f c2 hm
    refine lv_iload_n hx hb dX6_isDigit_6 rfl (lv_at hl 0 rfl) ?_
    refine lv_bipush (v := (57 : Int32)) hx hb dX6_isDigit_7 (by decide) ?_
    refine lv_icmp_gt (tgt := 16) hx hb dX6_isDigit_9 (by decide) (fun c3 => ?_) (fun c3 => ?_)
    · have hm := it_t c3 hm
      exact B_16  _ _ _ hm hP hD hS (lv_sub hl [] rfl)
    · have hm := it_f c3 hm
      refine lv_iconst (v := (1 : Int32)) hx hb dX6_isDigit_12 (by decide) ?_
      refine lv_goto (tgt := 17) hx hb dX6_isDigit_13 (by decide) ?_
      exact B_17 _ _ _ _ hm hP hD hS (lv_sub hl [] rfl)
def b_X6_look_264 (fu : Nat) (t_L : Nat → Int64) (t_tape : Nat → Int32) (t : Nat → Int32) : Option ((Nat → Int32)) :=
  some t
def b_X6_look_251 (fu : Nat) (t_L : Nat → Int64) (t_tape : Nat → Int32) (s1 : Int32) (t : Nat → Int32) : Option ((Nat → Int32)) :=
  b_X6_look_264 fu t_L t_tape (upd (upd t 24 s1) 23 (t 23 + (1 : Int32)))
def b_X6_look_215 (fu : Nat) (t_L : Nat → Int64) (t_tape : Nat → Int32) (k_149 : ((Nat → Int32)) → Option ((Nat → Int32))) (s1 : Int32) (t : Nat → Int32) : Option ((Nat → Int32)) :=
  k_149 (upd (upd t 26 s1) 23 (t 23 + (1 : Int32)))
def b_X6_look_149 (fu : Nat) (t_L : Nat → Int64) (t_tape : Nat → Int32) (k_149 : ((Nat → Int32)) → Option ((Nat → Int32))) (x : (Nat → Int32)) : Option ((Nat → Int32)) :=
  (if x 7 ≤ x 23 then
        b_X6_look_264 fu t_L t_tape x
      else
        gd (inb (x 23) 250) (
        (m_X6_isDigit fu (t_tape (x 23).toNatClampNeg)).bind fun o3 =>
        (if o3.1 = 0 then
          b_X6_look_264 fu t_L t_tape x
        else
          (if (3 : Int32) ≤ (x 23 - x 25) then
            b_X6_look_215 fu t_L t_tape k_149 (1000 : Int32) x
          else
            gd (inb (x 23) 250) (
            b_X6_look_215 fu t_L t_tape k_149 (((x 26 * (10 : Int32)) + (t_tape (x 23).toNatClampNeg)) - (48 : Int32)) x)))))
def b_X6_look_90 (fu : Nat) (t_L : Nat → Int64) (t_tape : Nat → Int32) (k_90 : ((Nat → Int32)) → Option ((Nat → Int32))) (x : (Nat → Int32)) : Option ((Nat → Int32)) :=
  (if x 7 ≤ x 23 then
        b_X6_look_264 fu t_L t_tape x
      else
        gd (inb (x 23) 250) (
        (m_X6_isLetter fu (t_tape (x 23).toNatClampNeg)).bind fun o10 =>
        (if o10.1 = 0 then
          b_X6_look_264 fu t_L t_tape x
        else
          k_90 (upd x 23 (x 23 + (1 : Int32))))))
def b_X6_look_38 (fu : Nat) (t_L : Nat → Int64) (t_tape : Nat → Int32) (t : Nat → Int32) : Option ((Nat → Int32)) :=
  (if t 23 = t 7 then
      b_X6_look_264 fu t_L t_tape (upd (upd (upd t 25 (t 23)) 26 (0 : Int32)) 24 (0 : Int32))
    else
      gd (inb (t 23) 250) (
      (m_X6_isLetter fu (t_tape (t 23).toNatClampNeg)).bind fun o15 =>
      (if o15.1 = 0 then
        gd (inb (t 23) 250) (
        (m_X6_isDigit fu (t_tape (t 23).toNatClampNeg)).bind fun o19 =>
        (if o19.1 = 0 then
          gd (inb (t 23) 250) (
          (if (t_tape (t 23).toNatClampNeg) = (59 : Int32) then
            b_X6_look_251 fu t_L t_tape (3 : Int32) (upd (upd t 25 (t 23)) 26 (0 : Int32))
          else
            b_X6_look_251 fu t_L t_tape (4 : Int32) (upd (upd t 25 (t 23)) 26 (0 : Int32))))
        else
          lfix (b_X6_look_149 fu t_L t_tape) fu (upd (upd (upd t 25 (t 23)) 26 (0 : Int32)) 24 (2 : Int32))))
      else
        lfix (b_X6_look_90 fu t_L t_tape) fu (upd (upd (upd t 25 (t 23)) 26 (0 : Int32)) 24 (1 : Int32)))))
def b_X6_look_0 (fu : Nat) (t_L : Nat → Int64) (t_tape : Nat → Int32) (k_0 : ((Nat → Int32)) → Option ((Nat → Int32))) (x : (Nat → Int32)) : Option ((Nat → Int32)) :=
  (if x 7 ≤ x 23 then
        b_X6_look_38 fu t_L t_tape x
      else
        gd (inb (x 23) 250) (
        (if (t_tape (x 23).toNatClampNeg) = (32 : Int32) then
          k_0 (upd x 23 (x 23 + (1 : Int32)))
        else
          b_X6_look_38 fu t_L t_tape x)))
def m_X6_look (fu : Nat) (t : Nat → Int32) (t_L : Nat → Int64) (t_tape : Nat → Int32) : Option ((Nat → Int32)) :=
  lfix (b_X6_look_0 fu t_L t_tape) fu t
abbrev rm_X6_look : Room := ({ frames := 1, cells := 0, slots := 0, locals := 20 } : Room)
abbrev w0_X6_look (cA : Nat → ClassId) (am : Nat → Nat) (tkv : Value) (ttv : Value) (t : Nat → Int32) (t_L : Nat → Int64) (t_tape : Nat → Int32) : va_W := [((am 0), e_X6 am tkv ttv t t_L), ((am 15), eI cA 250 t_tape)]
abbrev w1_X6_look (cA : Nat → ClassId) (am : Nat → Nat) (tkv : Value) (ttv : Value) (t_L : Nat → Int64) (t_tape : Nat → Int32) (u : (Nat → Int32)) : va_W := [((am 0), e_X6 am tkv ttv u t_L), ((am 15), eI cA 250 t_tape)]
theorem hd_X6_look : yX6_look.cls = RX6 ∧ yX6_look.cls ≠ "java/lang/invoke/MethodHandle" ∧ yX6_look.cls ≠ "java/lang/invoke/VarHandle" ∧ (parseMethodDescriptor yX6_look.desc).map (fun d => d.parameters.length) = some 0 := by decide +kernel
set_option maxHeartbeats 40000000 in
set_option maxRecDepth 100000 in
theorem c_X6_look (l : Launch) (D : va_G) (cA : Nat → ClassId) (sz : Nat) (fu : Nat) (am : Nat → Nat) (tkv : Value) (ttv : Value) (t : Nat → Int32) (t_L : Nat → Int64) (t_tape : Nat → Int32) (out : (Nat → Int32)) (hm : m_X6_look fu t t_L t_tape = some out) : MV l yX6_look (wU yX6_look cX6_look 1 ((Option.none : Option Jvm.ClassFile.FieldType))) rm_X6_look D cA sz [.ref (am 0)] (w0_X6_look cA am tkv ttv t t_L t_tape) out (w1_X6_look cA am tkv ttv t_L t_tape) := by
  refine Met.ofW (cc := cX6_look) (maxL := 1) (ret := (Option.none : Option Jvm.ClassFile.FieldType)) (by decide) rfl ?_
  intro p e s m args below meth c s₁ B hml hv
  obtain ⟨hargs, hsz, hP, hK, hD0, hN⟩ := hv
  have hx := B.exec
  have hb := B.bytes
  have hr := B.returns
  have htg : ∀ w ∈ gw, w.before args s = true := fun w h => atoms_spec (ws := wU yX6_look cX6_look 1 ((Option.none : Option Jvm.ClassFile.FieldType))) B.pre w (List.mem_cons_of_mem _ h)
  have hown : s.vm.findClass RX6 = some m.cls := findClass_of_methodNamed B.named
  have hlocks := B.notSynchronized
  subst hsz
  have hD := hD0.self (sz := s.heap.size)
  have hA : ∀ q : Nat, s.heap.size ≤ q → va_A (w0_X6_look cA am tkv ttv t t_L t_tape) s.heap.size q := fun q h => Or.inr h
  have hS : va_S (va_A (w0_X6_look cA am tkv ttv t t_L t_tape) s.heap.size) s.heap s.heap [] := va_S.rf
  generalize va_A (w0_X6_look cA am tkv ttv t t_L t_tape) s.heap.size = A at hA hD hS ⊢
  obtain ⟨Q, hQ⟩ : ∃ Q : State → Prop, Q = MQ below (va_Qv (fun (u : (Nat → Int32)) => u = out) (pst0 D cA A (w1_X6_look cA am tkv ttv t_L t_tape)) A) args s 0 0 A := ⟨_, rfl⟩
  refine (?_ : W p l e rm_X6_look s m args below meth c s.heap [] 0 0 (MQ below (va_Qv (fun (u : (Nat → Int32)) => u = out) (pst0 D cA A (w1_X6_look cA am tkv ttv t_L t_tape)) A) args s 0 0 A) (entryFrame m args 1))
  rw [← hQ]
  have hP : va_P D CL [((am 0), e_X6 am tkv ttv t t_L), ((am 15), eI cA 250 t_tape)] s.heap := hP
  have hD : va_D A [((am 0), e_X6 am tkv ttv t t_L), ((am 15), eI cA 250 t_tape)] := hD
  have B_264 : ∀ (t : Nat → Int32) (H : Heap) (locs : List Loc) (ls : Array Slot), b_X6_look_264 fu t_L t_tape t = some out → va_P D CL [((am 0), e_X6 am tkv ttv t t_L), ((am 15), eI cA 250 t_tape)] H → va_D A [((am 0), e_X6 am tkv ttv t t_L), ((am 15), eI cA 250 t_tape)] → va_S A s.heap H locs → lv_has ls 1 [(0, .ref (am 0))] → W p l e rm_X6_look s m args below meth c H locs 0 0 Q (F0 m 264 ls []) := by
    intro  t H locs ls hm hP hD hS hl
    unfold b_X6_look_264 at hm
    rw [hQ]
    exact W.vret hx hb hr (fun t9 ht hW => ⟨⟨t, rfl, (Option.some.inj hm), by rw [ht]; exact hP, va_K.moved hW.alike hK, hD⟩, hS.F ht⟩) hS.2.2 dX6_look_264
  have B_251 : ∀ (s1 : Int32) (t : Nat → Int32) (H : Heap) (locs : List Loc) (ls : Array Slot), b_X6_look_251 fu t_L t_tape s1 t = some out → va_P D CL [((am 0), e_X6 am tkv ttv t t_L), ((am 15), eI cA 250 t_tape)] H → va_D A [((am 0), e_X6 am tkv ttv t t_L), ((am 15), eI cA 250 t_tape)] → va_S A s.heap H locs → lv_has ls 1 [(0, .ref (am 0))] → W p l e rm_X6_look s m args below meth c H locs 0 0 Q (F0 m 251 ls [.int s1, .ref (am 0)]) := by
    intro  s1 t H locs ls hm hP hD hS hl
    unfold b_X6_look_251 at hm
    refine va_put (D := D) (ci := 6) (v := .int s1) (ty := .int) (C := RX6) (T := TX6) (N := 49) hx hb htg inX6 tyX6 tyX6_ok nmX6 hown hK hP hD hS 0 rfl rfl 24 (by decide) (htg _ q_4_213) (fun _ h9 => h9) rfl (by decide +kernel) rfl rfl (Nat.le_of_ble_eq_true rfl) dX6_look_251 (fun H locs (hP : va_P D CL [((am 0), e_X6 am tkv ttv (upd t 24 s1) t_L), ((am 15), eI cA 250 t_tape)] H) (hD : va_D A [((am 0), e_X6 am tkv ttv (upd t 24 s1) t_L), ((am 15), eI cA 250 t_tape)]) hS => ?_)
    refine lv_aload_n hx hb dX6_look_254 rfl (lv_at hl 0 rfl) ?_
    refine lv_dup hx hb dX6_look_255 rfl ?_
    refine va_get (D := D) (ci := 6) (v := .int (t 23)) (C := RX6) (T := TX6) (N := 49) hx hb htg inX6 hown hK hP 0 rfl rfl 23 (by decide) (htg _ q_4_212) (fun _ h9 => h9) rfl dX6_look_256 ?_
    refine lv_iconst (v := (1 : Int32)) hx hb dX6_look_259 (by decide) ?_
    refine lv_iadd hx hb dX6_look_260 ?_
    refine va_put (D := D) (ci := 6) (v := .int (t 23 + (1 : Int32))) (ty := .int) (C := RX6) (T := TX6) (N := 49) hx hb htg inX6 tyX6 tyX6_ok nmX6 hown hK hP hD hS 0 rfl rfl 23 (by decide) (htg _ q_4_212) (fun _ h9 => h9) rfl (by decide +kernel) rfl rfl (Nat.le_of_ble_eq_true rfl) dX6_look_261 (fun H locs (hP : va_P D CL [((am 0), e_X6 am tkv ttv (upd (upd t 24 s1) 23 (t 23 + (1 : Int32))) t_L), ((am 15), eI cA 250 t_tape)] H) (hD : va_D A [((am 0), e_X6 am tkv ttv (upd (upd t 24 s1) 23 (t 23 + (1 : Int32))) t_L), ((am 15), eI cA 250 t_tape)]) hS => ?_)
    exact B_264 _ _ _ _ hm hP hD hS (lv_sub hl [0] rfl)
  have B_215 : ∀ (k_149 : ((Nat → Int32)) → Option ((Nat → Int32))) (HK_149 : ∀ (x : (Nat → Int32)) (H : Heap) (locs : List Loc) (ls : Array Slot), k_149 x = some out → va_P D CL [((am 0), e_X6 am tkv ttv x t_L), ((am 15), eI cA 250 t_tape)] H → va_D A [((am 0), e_X6 am tkv ttv x t_L), ((am 15), eI cA 250 t_tape)] → va_S A s.heap H locs → lv_has ls 1 [(0, .ref (am 0))] → W p l e rm_X6_look s m args below meth c H locs 0 0 Q (F0 m 149 ls [])) (s1 : Int32) (t : Nat → Int32) (H : Heap) (locs : List Loc) (ls : Array Slot), b_X6_look_215 fu t_L t_tape k_149 s1 t = some out → va_P D CL [((am 0), e_X6 am tkv ttv t t_L), ((am 15), eI cA 250 t_tape)] H → va_D A [((am 0), e_X6 am tkv ttv t t_L), ((am 15), eI cA 250 t_tape)] → va_S A s.heap H locs → lv_has ls 1 [(0, .ref (am 0))] → W p l e rm_X6_look s m args below meth c H locs 0 0 Q (F0 m 215 ls [.int s1, .ref (am 0)]) := by
    intro k_149 HK_149 s1 t H locs ls hm hP hD hS hl
    unfold b_X6_look_215 at hm
    refine va_put (D := D) (ci := 6) (v := .int s1) (ty := .int) (C := RX6) (T := TX6) (N := 49) hx hb htg inX6 tyX6 tyX6_ok nmX6 hown hK hP hD hS 0 rfl rfl 26 (by decide) (htg _ q_4_215) (fun _ h9 => h9) rfl (by decide +kernel) rfl rfl (Nat.le_of_ble_eq_true rfl) dX6_look_215 (fun H locs (hP : va_P D CL [((am 0), e_X6 am tkv ttv (upd t 26 s1) t_L), ((am 15), eI cA 250 t_tape)] H) (hD : va_D A [((am 0), e_X6 am tkv ttv (upd t 26 s1) t_L), ((am 15), eI cA 250 t_tape)]) hS => ?_)
    refine lv_aload_n hx hb dX6_look_218 rfl (lv_at hl 0 rfl) ?_
    refine lv_dup hx hb dX6_look_219 rfl ?_
    refine va_get (D := D) (ci := 6) (v := .int (t 23)) (C := RX6) (T := TX6) (N := 49) hx hb htg inX6 hown hK hP 0 rfl rfl 23 (by decide) (htg _ q_4_212) (fun _ h9 => h9) rfl dX6_look_220 ?_
    refine lv_iconst (v := (1 : Int32)) hx hb dX6_look_223 (by decide) ?_
    refine lv_iadd hx hb dX6_look_224 ?_
    refine va_put (D := D) (ci := 6) (v := .int (t 23 + (1 : Int32))) (ty := .int) (C := RX6) (T := TX6) (N := 49) hx hb htg inX6 tyX6 tyX6_ok nmX6 hown hK hP hD hS 0 rfl rfl 23 (by decide) (htg _ q_4_212) (fun _ h9 => h9) rfl (by decide +kernel) rfl rfl (Nat.le_of_ble_eq_true rfl) dX6_look_225 (fun H locs (hP : va_P D CL [((am 0), e_X6 am tkv ttv (upd (upd t 26 s1) 23 (t 23 + (1 : Int32))) t_L), ((am 15), eI cA 250 t_tape)] H) (hD : va_D A [((am 0), e_X6 am tkv ttv (upd (upd t 26 s1) 23 (t 23 + (1 : Int32))) t_L), ((am 15), eI cA 250 t_tape)]) hS => ?_)
    refine lv_goto (tgt := 149) hx hb dX6_look_228 (by decide) ?_
    exact HK_149 _ _ _ _ hm hP hD hS (lv_sub hl [0] rfl)
  have B_149 : ∀ (n : Nat) (x : (Nat → Int32)) (H : Heap) (locs : List Loc) (ls : Array Slot), lfix (b_X6_look_149 fu t_L t_tape) n x = some out → va_P D CL [((am 0), e_X6 am tkv ttv x t_L), ((am 15), eI cA 250 t_tape)] H → va_D A [((am 0), e_X6 am tkv ttv x t_L), ((am 15), eI cA 250 t_tape)] → va_S A s.heap H locs → lv_has ls 1 [(0, .ref (am 0))] → W p l e rm_X6_look s m args below meth c H locs 0 0 Q (F0 m 149 ls []) := by
    intro  n
    induction n with
    | zero => intro x H locs ls hm; cases (show none = some out from hm)
    | succ n HK_149 =>
      intro x H locs ls hm hP hD hS hl
      replace hm : b_X6_look_149 fu t_L t_tape (lfix (b_X6_look_149 fu t_L t_tape) n) x = some out := hm
      unfold b_X6_look_149 at hm
      refine lv_aload_n hx hb dX6_look_149 rfl (lv_at hl 0 rfl) ?_
      refine va_get (D := D) (ci := 6) (v := .int (x 23)) (C := RX6) (T := TX6) (N := 49) hx hb htg inX6 hown hK hP 0 rfl rfl 23 (by decide) (htg _ q_4_212) (fun _ h9 => h9) rfl dX6_look_150 ?_
      refine lv_aload_n hx hb dX6_look_153 rfl (lv_at hl 0 rfl) ?_
      refine va_get (D := D) (ci := 6) (v := .int (x 7)) (C := RX6) (T := TX6) (N := 49) hx hb htg inX6 hown hK hP 0 rfl rfl 7 (by decide) (htg _ q_4_196) (fun _ h9 => h9) rfl dX6_look_154 ?_
      refine lv_icmp_ge (tgt := 264) hx hb dX6_look_157 (by decide) (fun c1 => ?_) (fun c1 => ?_)
      · have hm := it_t c1 hm
        exact B_264 _ _ _ _ hm hP hD hS (lv_sub hl [0] rfl)
      · have hm := it_f c1 hm
        refine lv_aload_n hx hb dX6_look_160 rfl (lv_at hl 0 rfl) ?_
        refine va_get (D := D) (ci := 6) (v := .ref (am 15)) (C := RX6) (T := TX6) (N := 49) hx hb htg inX6 hown hK hP 0 rfl rfl 6 (by decide) (htg _ q_4_195) (fun _ h9 => h9) rfl dX6_look_161 ?_
        refine lv_aload_n hx hb dX6_look_164 rfl (lv_at hl 0 rfl) ?_
        refine va_get (D := D) (ci := 6) (v := .int (x 23)) (C := RX6) (T := TX6) (N := 49) hx hb htg inX6 hown hK hP 0 rfl rfl 23 (by decide) (htg _ q_4_212) (fun _ h9 => h9) rfl dX6_look_165 ?_
        obtain ⟨hi2, hm⟩ := gd_s hm
        refine va_iald hx hb hK hP 1 0 rfl rfl hi2 dX6_look_168 ?_
        obtain ⟨o3, ho4, hm⟩ := bd_s hm
        refine xr_i (wr := [((am 0), e_X6 am tkv ttv x t_L), ((am 15), eI cA 250 t_tape)]) (wn := [((am 0), e_X6 am tkv ttv x t_L), ((am 15), eI cA 250 t_tape)]) (va_runS (As := [.int (t_tape (x 23).toNatClampNeg)]) (rest := []) ⟨hx, hb, hml, hown, htg⟩ (c_X6_isDigit l D cA _ fu (t_tape (x 23).toNatClampNeg) o3 ho4) (cwS 1 htg (gS q_5_224 q_5_225 q_1_8 q_5_226) rfl rfl rfl hd_X6_isDigit ⟨Nat.le_of_ble_eq_true rfl, Nat.le_of_ble_eq_true rfl⟩) (xpS hN hK hP hD [] rfl (by decide)) rfl rfl hl.1 rfl (lv_room (Nat.le_of_ble_eq_true rfl)) dX6_look_169 ⟨Nat.zero_le _, Nat.zero_le _⟩) hP hD hS hA [] [0, 1] [0, 1] rfl rfl (by decide) (by decide) rfl (by decide) (fun H locs hP hD hS => ?_)
        refine lv_if_eq (tgt := 264) hx hb dX6_look_172 (by decide) (fun c5 => ?_) (fun c5 => ?_)
        · have hm := it_t c5 hm
          exact B_264 _ _ _ _ hm hP hD hS (lv_sub hl [0] rfl)
        · have hm := it_f c5 hm
          refine lv_aload_n hx hb dX6_look_175 rfl (lv_at hl 0 rfl) ?_
          refine lv_aload_n hx hb dX6_look_176 rfl (lv_at hl 0 rfl) ?_
          refine va_get (D := D) (ci := 6) (v := .int (x 23)) (C := RX6) (T := TX6) (N := 49) hx hb htg inX6 hown hK hP 0 rfl rfl 23 (by decide) (htg _ q_4_212) (fun _ h9 => h9) rfl dX6_look_177 ?_
          refine lv_aload_n hx hb dX6_look_180 rfl (lv_at hl 0 rfl) ?_
          refine va_get (D := D) (ci := 6) (v := .int (x 25)) (C := RX6) (T := TX6) (N := 49) hx hb htg inX6 hown hK hP 0 rfl rfl 25 (by decide) (htg _ q_4_214) (fun _ h9 => h9) rfl dX6_look_181 ?_
          refine lv_isub hx hb dX6_look_184 ?_
          refine lv_iconst (v := (3 : Int32)) hx hb dX6_look_185 (by decide) ?_
          refine lv_icmp_ge (tgt := 212) hx hb dX6_look_186 (by decide) (fun c6 => ?_) (fun c6 => ?_)
          · have hm := it_t c6 hm
            refine lv_sipush (v := (1000 : Int32)) hx hb dX6_look_212 (by decide) ?_
            exact B_215 _ HK_149 _ _ _ _ _ hm hP hD hS (lv_sub hl [0] rfl)
          · have hm := it_f c6 hm
            refine lv_aload_n hx hb dX6_look_189 rfl (lv_at hl 0 rfl) ?_
            refine va_get (D := D) (ci := 6) (v := .int (x 26)) (C := RX6) (T := TX6) (N := 49) hx hb htg inX6 hown hK hP 0 rfl rfl 26 (by decide) (htg _ q_4_215) (fun _ h9 => h9) rfl dX6_look_190 ?_
            refine lv_bipush (v := (10 : Int32)) hx hb dX6_look_193 (by decide) ?_
            refine lv_imul hx hb dX6_look_195 ?_
            refine lv_aload_n hx hb dX6_look_196 rfl (lv_at hl 0 rfl) ?_
            refine va_get (D := D) (ci := 6) (v := .ref (am 15)) (C := RX6) (T := TX6) (N := 49) hx hb htg inX6 hown hK hP 0 rfl rfl 6 (by decide) (htg _ q_4_195) (fun _ h9 => h9) rfl dX6_look_197 ?_
            refine lv_aload_n hx hb dX6_look_200 rfl (lv_at hl 0 rfl) ?_
            refine va_get (D := D) (ci := 6) (v := .int (x 23)) (C := RX6) (T := TX6) (N := 49) hx hb htg inX6 hown hK hP 0 rfl rfl 23 (by decide) (htg _ q_4_212) (fun _ h9 => h9) rfl dX6_look_201 ?_
            obtain ⟨hi7, hm⟩ := gd_s hm
            refine va_iald hx hb hK hP 1 0 rfl rfl hi7 dX6_look_204 ?_
            refine lv_iadd hx hb dX6_look_205 ?_
            refine lv_bipush (v := (48 : Int32)) hx hb dX6_look_206 (by decide) ?_
            refine lv_isub hx hb dX6_look_208 ?_
            refine lv_goto (tgt := 215) hx hb dX6_look_209 (by decide) ?_
            exact B_215 _ HK_149 _ _ _ _ _ hm hP hD hS (lv_sub hl [0] rfl)
  have B_90 : ∀ (n : Nat) (x : (Nat → Int32)) (H : Heap) (locs : List Loc) (ls : Array Slot), lfix (b_X6_look_90 fu t_L t_tape) n x = some out → va_P D CL [((am 0), e_X6 am tkv ttv x t_L), ((am 15), eI cA 250 t_tape)] H → va_D A [((am 0), e_X6 am tkv ttv x t_L), ((am 15), eI cA 250 t_tape)] → va_S A s.heap H locs → lv_has ls 1 [(0, .ref (am 0))] → W p l e rm_X6_look s m args below meth c H locs 0 0 Q (F0 m 90 ls []) := by
    intro  n
    induction n with
    | zero => intro x H locs ls hm; cases (show none = some out from hm)
    | succ n HK_90 =>
      intro x H locs ls hm hP hD hS hl
      replace hm : b_X6_look_90 fu t_L t_tape (lfix (b_X6_look_90 fu t_L t_tape) n) x = some out := hm
      unfold b_X6_look_90 at hm
      refine lv_aload_n hx hb dX6_look_90 rfl (lv_at hl 0 rfl) ?_
      refine va_get (D := D) (ci := 6) (v := .int (x 23)) (C := RX6) (T := TX6) (N := 49) hx hb htg inX6 hown hK hP 0 rfl rfl 23 (by decide) (htg _ q_4_212) (fun _ h9 => h9) rfl dX6_look_91 ?_
      refine lv_aload_n hx hb dX6_look_94 rfl (lv_at hl 0 rfl) ?_
      refine va_get (D := D) (ci := 6) (v := .int (x 7)) (C := RX6) (T := TX6) (N := 49) hx hb htg inX6 hown hK hP 0 rfl rfl 7 (by decide) (htg _ q_4_196) (fun _ h9 => h9) rfl dX6_look_95 ?_
      refine lv_icmp_ge (tgt := 264) hx hb dX6_look_98 (by decide) (fun c8 => ?_) (fun c8 => ?_)
      · have hm := it_t c8 hm
        exact B_264 _ _ _ _ hm hP hD hS (lv_sub hl [0] rfl)
      · have hm := it_f c8 hm
        refine lv_aload_n hx hb dX6_look_101 rfl (lv_at hl 0 rfl) ?_
        refine va_get (D := D) (ci := 6) (v := .ref (am 15)) (C := RX6) (T := TX6) (N := 49) hx hb htg inX6 hown hK hP 0 rfl rfl 6 (by decide) (htg _ q_4_195) (fun _ h9 => h9) rfl dX6_look_102 ?_
        refine lv_aload_n hx hb dX6_look_105 rfl (lv_at hl 0 rfl) ?_
        refine va_get (D := D) (ci := 6) (v := .int (x 23)) (C := RX6) (T := TX6) (N := 49) hx hb htg inX6 hown hK hP 0 rfl rfl 23 (by decide) (htg _ q_4_212) (fun _ h9 => h9) rfl dX6_look_106 ?_
        obtain ⟨hi9, hm⟩ := gd_s hm
        refine va_iald hx hb hK hP 1 0 rfl rfl hi9 dX6_look_109 ?_
        obtain ⟨o10, ho11, hm⟩ := bd_s hm
        refine xr_i (wr := [((am 0), e_X6 am tkv ttv x t_L), ((am 15), eI cA 250 t_tape)]) (wn := [((am 0), e_X6 am tkv ttv x t_L), ((am 15), eI cA 250 t_tape)]) (va_runS (As := [.int (t_tape (x 23).toNatClampNeg)]) (rest := []) ⟨hx, hb, hml, hown, htg⟩ (c_X6_isLetter l D cA _ fu (t_tape (x 23).toNatClampNeg) o10 ho11) (cwS 1 htg (gS q_5_221 q_5_222 q_1_8 q_5_223) rfl rfl rfl hd_X6_isLetter ⟨Nat.le_of_ble_eq_true rfl, Nat.le_of_ble_eq_true rfl⟩) (xpS hN hK hP hD [] rfl (by decide)) rfl rfl hl.1 rfl (lv_room (Nat.le_of_ble_eq_true rfl)) dX6_look_110 ⟨Nat.zero_le _, Nat.zero_le _⟩) hP hD hS hA [] [0, 1] [0, 1] rfl rfl (by decide) (by decide) rfl (by decide) (fun H locs hP hD hS => ?_)
        refine lv_if_eq (tgt := 264) hx hb dX6_look_113 (by decide) (fun c12 => ?_) (fun c12 => ?_)
        · have hm := it_t c12 hm
          exact B_264 _ _ _ _ hm hP hD hS (lv_sub hl [0] rfl)
        · have hm := it_f c12 hm
          refine lv_aload_n hx hb dX6_look_116 rfl (lv_at hl 0 rfl) ?_
          refine lv_dup hx hb dX6_look_117 rfl ?_
          refine va_get (D := D) (ci := 6) (v := .int (x 23)) (C := RX6) (T := TX6) (N := 49) hx hb htg inX6 hown hK hP 0 rfl rfl 23 (by decide) (htg _ q_4_212) (fun _ h9 => h9) rfl dX6_look_118 ?_
          refine lv_iconst (v := (1 : Int32)) hx hb dX6_look_121 (by decide) ?_
          refine lv_iadd hx hb dX6_look_122 ?_
          refine va_put (D := D) (ci := 6) (v := .int (x 23 + (1 : Int32))) (ty := .int) (C := RX6) (T := TX6) (N := 49) hx hb htg inX6 tyX6 tyX6_ok nmX6 hown hK hP hD hS 0 rfl rfl 23 (by decide) (htg _ q_4_212) (fun _ h9 => h9) rfl (by decide +kernel) rfl rfl (Nat.le_of_ble_eq_true rfl) dX6_look_123 (fun H locs (hP : va_P D CL [((am 0), e_X6 am tkv ttv (upd x 23 (x 23 + (1 : Int32))) t_L), ((am 15), eI cA 250 t_tape)] H) (hD : va_D A [((am 0), e_X6 am tkv ttv (upd x 23 (x 23 + (1 : Int32))) t_L), ((am 15), eI cA 250 t_tape)]) hS => ?_)
          refine lv_goto (tgt := 90) hx hb dX6_look_126 (by decide) ?_
          exact HK_90 _ _ _ _ hm hP hD hS (lv_sub hl [0] rfl)
  have B_38 : ∀ (t : Nat → Int32) (H : Heap) (locs : List Loc) (ls : Array Slot), b_X6_look_38 fu t_L t_tape t = some out → va_P D CL [((am 0), e_X6 am tkv ttv t t_L), ((am 15), eI cA 250 t_tape)] H → va_D A [((am 0), e_X6 am tkv ttv t t_L), ((am 15), eI cA 250 t_tape)] → va_S A s.heap H locs → lv_has ls 1 [(0, .ref (am 0))] → W p l e rm_X6_look s m args below meth c H locs 0 0 Q (F0 m 38 ls []) := by
    intro  t H locs ls hm hP hD hS hl
    unfold b_X6_look_38 at hm
    refine lv_aload_n hx hb dX6_look_38 rfl (lv_at hl 0 rfl) ?_
    refine lv_aload_n hx hb dX6_look_39 rfl (lv_at hl 0 rfl) ?_
    refine va_get (D := D) (ci := 6) (v := .int (t 23)) (C := RX6) (T := TX6) (N := 49) hx hb htg inX6 hown hK hP 0 rfl rfl 23 (by decide) (htg _ q_4_212) (fun _ h9 => h9) rfl dX6_look_40 ?_
    refine va_put (D := D) (ci := 6) (v := .int (t 23)) (ty := .int) (C := RX6) (T := TX6) (N := 49) hx hb htg inX6 tyX6 tyX6_ok nmX6 hown hK hP hD hS 0 rfl rfl 25 (by decide) (htg _ q_4_214) (fun _ h9 => h9) rfl (by decide +kernel) rfl rfl (Nat.le_of_ble_eq_true rfl) dX6_look_43 (fun H locs (hP : va_P D CL [((am 0), e_X6 am tkv ttv (upd t 25 (t 23)) t_L), ((am 15), eI cA 250 t_tape)] H) (hD : va_D A [((am 0), e_X6 am tkv ttv (upd t 25 (t 23)) t_L), ((am 15), eI cA 250 t_tape)]) hS => ?_)
    refine lv_aload_n hx hb dX6_look_46 rfl (lv_at hl 0 rfl) ?_
    refine lv_iconst (v := (0 : Int32)) hx hb dX6_look_47 (by decide) ?_
    refine va_put (D := D) (ci := 6) (v := .int (0 : Int32)) (ty := .int) (C := RX6) (T := TX6) (N := 49) hx hb htg inX6 tyX6 tyX6_ok nmX6 hown hK hP hD hS 0 rfl rfl 26 (by decide) (htg _ q_4_215) (fun _ h9 => h9) rfl (by decide +kernel) rfl rfl (Nat.le_of_ble_eq_true rfl) dX6_look_48 (fun H locs (hP : va_P D CL [((am 0), e_X6 am tkv ttv (upd (upd t 25 (t 23)) 26 (0 : Int32)) t_L), ((am 15), eI cA 250 t_tape)] H) (hD : va_D A [((am 0), e_X6 am tkv ttv (upd (upd t 25 (t 23)) 26 (0 : Int32)) t_L), ((am 15), eI cA 250 t_tape)]) hS => ?_)
    refine lv_aload_n hx hb dX6_look_51 rfl (lv_at hl 0 rfl) ?_
    refine va_get (D := D) (ci := 6) (v := .int (t 23)) (C := RX6) (T := TX6) (N := 49) hx hb htg inX6 hown hK hP 0 rfl rfl 23 (by decide) (htg _ q_4_212) (fun _ h9 => h9) rfl dX6_look_52 ?_
    refine lv_aload_n hx hb dX6_look_55 rfl (lv_at hl 0 rfl) ?_
    refine va_get (D := D) (ci := 6) (v := .int (t 7)) (C := RX6) (T := TX6) (N := 49) hx hb htg inX6 hown hK hP 0 rfl rfl 7 (by decide) (htg _ q_4_196) (fun _ h9 => h9) rfl dX6_look_56 ?_
    refine lv_icmp_ne (tgt := 70) hx hb dX6_look_59 (by decide) (fun c13 => ?_) (fun c13 => ?_)
    · have hm := it_f c13 hm
      refine lv_aload_n hx hb dX6_look_70 rfl (lv_at hl 0 rfl) ?_
      refine va_get (D := D) (ci := 6) (v := .ref (am 15)) (C := RX6) (T := TX6) (N := 49) hx hb htg inX6 hown hK hP 0 rfl rfl 6 (by decide) (htg _ q_4_195) (fun _ h9 => h9) rfl dX6_look_71 ?_
      refine lv_aload_n hx hb dX6_look_74 rfl (lv_at hl 0 rfl) ?_
      refine va_get (D := D) (ci := 6) (v := .int (t 23)) (C := RX6) (T := TX6) (N := 49) hx hb htg inX6 hown hK hP 0 rfl rfl 23 (by decide) (htg _ q_4_212) (fun _ h9 => h9) rfl dX6_look_75 ?_
      obtain ⟨hi14, hm⟩ := gd_s hm
      refine va_iald hx hb hK hP 1 0 rfl rfl hi14 dX6_look_78 ?_
      obtain ⟨o15, ho16, hm⟩ := bd_s hm
      refine xr_i (wr := [((am 0), e_X6 am tkv ttv (upd (upd t 25 (t 23)) 26 (0 : Int32)) t_L), ((am 15), eI cA 250 t_tape)]) (wn := [((am 0), e_X6 am tkv ttv (upd (upd t 25 (t 23)) 26 (0 : Int32)) t_L), ((am 15), eI cA 250 t_tape)]) (va_runS (As := [.int (t_tape (t 23).toNatClampNeg)]) (rest := []) ⟨hx, hb, hml, hown, htg⟩ (c_X6_isLetter l D cA _ fu (t_tape (t 23).toNatClampNeg) o15 ho16) (cwS 1 htg (gS q_5_221 q_5_222 q_1_8 q_5_223) rfl rfl rfl hd_X6_isLetter ⟨Nat.le_of_ble_eq_true rfl, Nat.le_of_ble_eq_true rfl⟩) (xpS hN hK hP hD [] rfl (by decide)) rfl rfl hl.1 rfl (lv_room (Nat.le_of_ble_eq_true rfl)) dX6_look_79 ⟨Nat.zero_le _, Nat.zero_le _⟩) hP hD hS hA [] [0, 1] [0, 1] rfl rfl (by decide) (by decide) rfl (by decide) (fun H locs hP hD hS => ?_)
      refine lv_if_eq (tgt := 129) hx hb dX6_look_82 (by decide) (fun c17 => ?_) (fun c17 => ?_)
      · have hm := it_t c17 hm
        refine lv_aload_n hx hb dX6_look_129 rfl (lv_at hl 0 rfl) ?_
        refine va_get (D := D) (ci := 6) (v := .ref (am 15)) (C := RX6) (T := TX6) (N := 49) hx hb htg inX6 hown hK hP 0 rfl rfl 6 (by decide) (htg _ q_4_195) (fun _ h9 => h9) rfl dX6_look_130 ?_
        refine lv_aload_n hx hb dX6_look_133 rfl (lv_at hl 0 rfl) ?_
        refine va_get (D := D) (ci := 6) (v := .int (t 23)) (C := RX6) (T := TX6) (N := 49) hx hb htg inX6 hown hK hP 0 rfl rfl 23 (by decide) (htg _ q_4_212) (fun _ h9 => h9) rfl dX6_look_134 ?_
        obtain ⟨hi18, hm⟩ := gd_s hm
        refine va_iald hx hb hK hP 1 0 rfl rfl hi18 dX6_look_137 ?_
        obtain ⟨o19, ho20, hm⟩ := bd_s hm
        refine xr_i (wr := [((am 0), e_X6 am tkv ttv (upd (upd t 25 (t 23)) 26 (0 : Int32)) t_L), ((am 15), eI cA 250 t_tape)]) (wn := [((am 0), e_X6 am tkv ttv (upd (upd t 25 (t 23)) 26 (0 : Int32)) t_L), ((am 15), eI cA 250 t_tape)]) (va_runS (As := [.int (t_tape (t 23).toNatClampNeg)]) (rest := []) ⟨hx, hb, hml, hown, htg⟩ (c_X6_isDigit l D cA _ fu (t_tape (t 23).toNatClampNeg) o19 ho20) (cwS 1 htg (gS q_5_224 q_5_225 q_1_8 q_5_226) rfl rfl rfl hd_X6_isDigit ⟨Nat.le_of_ble_eq_true rfl, Nat.le_of_ble_eq_true rfl⟩) (xpS hN hK hP hD [] rfl (by decide)) rfl rfl hl.1 rfl (lv_room (Nat.le_of_ble_eq_true rfl)) dX6_look_138 ⟨Nat.zero_le _, Nat.zero_le _⟩) hP hD hS hA [] [0, 1] [0, 1] rfl rfl (by decide) (by decide) rfl (by decide) (fun H locs hP hD hS => ?_)
        refine lv_if_eq (tgt := 231) hx hb dX6_look_141 (by decide) (fun c21 => ?_) (fun c21 => ?_)
        · have hm := it_t c21 hm
          refine lv_aload_n hx hb dX6_look_231 rfl (lv_at hl 0 rfl) ?_
          refine lv_aload_n hx hb dX6_look_232 rfl (lv_at hl 0 rfl) ?_
          refine va_get (D := D) (ci := 6) (v := .ref (am 15)) (C := RX6) (T := TX6) (N := 49) hx hb htg inX6 hown hK hP 0 rfl rfl 6 (by decide) (htg _ q_4_195) (fun _ h9 => h9) rfl dX6_look_233 ?_
          refine lv_aload_n hx hb dX6_look_236 rfl (lv_at hl 0 rfl) ?_
          refine va_get (D := D) (ci := 6) (v := .int (t 23)) (C := RX6) (T := TX6) (N := 49) hx hb htg inX6 hown hK hP 0 rfl rfl 23 (by decide) (htg _ q_4_212) (fun _ h9 => h9) rfl dX6_look_237 ?_
          obtain ⟨hi22, hm⟩ := gd_s hm
          refine va_iald hx hb hK hP 1 0 rfl rfl hi22 dX6_look_240 ?_
          refine lv_bipush (v := (59 : Int32)) hx hb dX6_look_241 (by decide) ?_
          refine lv_icmp_ne (tgt := 250) hx hb dX6_look_243 (by decide) (fun c23 => ?_) (fun c23 => ?_)
          · have hm := it_f c23 hm
            refine lv_iconst (v := (4 : Int32)) hx hb dX6_look_250 (by decide) ?_
            exact B_251 _ _ _ _ _ hm hP hD hS (lv_sub hl [0] rfl)
          · have hm := it_t c23 hm
            refine lv_iconst (v := (3 : Int32)) hx hb dX6_look_246 (by decide) ?_
            refine lv_goto (tgt := 251) hx hb dX6_look_247 (by decide) ?_
            exact B_251 _ _ _ _ _ hm hP hD hS (lv_sub hl [0] rfl)
        · have hm := it_f c21 hm
          refine lv_aload_n hx hb dX6_look_144 rfl (lv_at hl 0 rfl) ?_
          refine lv_iconst (v := (2 : Int32)) hx hb dX6_look_145 (by decide) ?_
          refine va_put (D := D) (ci := 6) (v := .int (2 : Int32)) (ty := .int) (C := RX6) (T := TX6) (N := 49) hx hb htg inX6 tyX6 tyX6_ok nmX6 hown hK hP hD hS 0 rfl rfl 24 (by decide) (htg _ q_4_213) (fun _ h9 => h9) rfl (by decide +kernel) rfl rfl (Nat.le_of_ble_eq_true rfl) dX6_look_146 (fun H locs (hP : va_P D CL [((am 0), e_X6 am tkv ttv (upd (upd (upd t 25 (t 23)) 26 (0 : Int32)) 24 (2 : Int32)) t_L), ((am 15), eI cA 250 t_tape)] H) (hD : va_D A [((am 0), e_X6 am tkv ttv (upd (upd (upd t 25 (t 23)) 26 (0 : Int32)) 24 (2 : Int32)) t_L), ((am 15), eI cA 250 t_tape)]) hS => ?_)
          exact B_149 fu _ _ _ _ hm hP hD hS (lv_sub hl [0] rfl)
      · have hm := it_f c17 hm
        refine lv_aload_n hx hb dX6_look_85 rfl (lv_at hl 0 rfl) ?_
        refine lv_iconst (v := (1 : Int32)) hx hb dX6_look_86 (by decide) ?_
        refine va_put (D := D) (ci := 6) (v := .int (1 : Int32)) (ty := .int) (C := RX6) (T := TX6) (N := 49) hx hb htg inX6 tyX6 tyX6_ok nmX6 hown hK hP hD hS 0 rfl rfl 24 (by decide) (htg _ q_4_213) (fun _ h9 => h9) rfl (by decide +kernel) rfl rfl (Nat.le_of_ble_eq_true rfl) dX6_look_87 (fun H locs (hP : va_P D CL [((am 0), e_X6 am tkv ttv (upd (upd (upd t 25 (t 23)) 26 (0 : Int32)) 24 (1 : Int32)) t_L), ((am 15), eI cA 250 t_tape)] H) (hD : va_D A [((am 0), e_X6 am tkv ttv (upd (upd (upd t 25 (t 23)) 26 (0 : Int32)) 24 (1 : Int32)) t_L), ((am 15), eI cA 250 t_tape)]) hS => ?_)
        exact B_90 fu _ _ _ _ hm hP hD hS (lv_sub hl [0] rfl)
    · have hm := it_t c13 hm
      refine lv_aload_n hx hb dX6_look_62 rfl (lv_at hl 0 rfl) ?_
      refine lv_iconst (v := (0 : Int32)) hx hb dX6_look_63 (by decide) ?_
      refine va_put (D := D) (ci := 6) (v := .int (0 : Int32)) (ty := .int) (C := RX6) (T := TX6) (N := 49) hx hb htg inX6 tyX6 tyX6_ok nmX6 hown hK hP hD hS 0 rfl rfl 24 (by decide) (htg _ q_4_213) (fun _ h9 => h9) rfl (by decide +kernel) rfl rfl (Nat.le_of_ble_eq_true rfl) dX6_look_64 (fun H locs (hP : va_P D CL [((am 0), e_X6 am tkv ttv (upd (upd (upd t 25 (t 23)) 26 (0 : Int32)) 24 (0 : Int32)) t_L), ((am 15), eI cA 250 t_tape)] H) (hD : va_D A [((am 0), e_X6 am tkv ttv (upd (upd (upd t 25 (t 23)) 26 (0 : Int32)) 24 (0 : Int32)) t_L), ((am 15), eI cA 250 t_tape)]) hS => ?_)
      refine lv_goto (tgt := 264) hx hb dX6_look_67 (by decide) ?_
      exact B_264 _ _ _ _ hm hP hD hS (lv_sub hl [0] rfl)
  have B_0 : ∀ (n : Nat) (x : (Nat → Int32)) (H : Heap) (locs : List Loc) (ls : Array Slot), lfix (b_X6_look_0 fu t_L t_tape) n x = some out → va_P D CL [((am 0), e_X6 am tkv ttv x t_L), ((am 15), eI cA 250 t_tape)] H → va_D A [((am 0), e_X6 am tkv ttv x t_L), ((am 15), eI cA 250 t_tape)] → va_S A s.heap H locs → lv_has ls 1 [(0, .ref (am 0))] → W p l e rm_X6_look s m args below meth c H locs 0 0 Q (F0 m 0 ls []) := by
    intro  n
    induction n with
    | zero => intro x H locs ls hm; cases (show none = some out from hm)
    | succ n HK_0 =>
      intro x H locs ls hm hP hD hS hl
      replace hm : b_X6_look_0 fu t_L t_tape (lfix (b_X6_look_0 fu t_L t_tape) n) x = some out := hm
      unfold b_X6_look_0 at hm
      refine lv_aload_n hx hb dX6_look_0 rfl (lv_at hl 0 rfl) ?_
      refine va_get (D := D) (ci := 6) (v := .int (x 23)) (C := RX6) (T := TX6) (N := 49) hx hb htg inX6 hown hK hP 0 rfl rfl 23 (by decide) (htg _ q_4_212) (fun _ h9 => h9) rfl dX6_look_1 ?_
      refine lv_aload_n hx hb dX6_look_4 rfl (lv_at hl 0 rfl) ?_
      refine va_get (D := D) (ci := 6) (v := .int (x 7)) (C := RX6) (T := TX6) (N := 49) hx hb htg inX6 hown hK hP 0 rfl rfl 7 (by decide) (htg _ q_4_196) (fun _ h9 => h9) rfl dX6_look_5 ?_
      refine lv_icmp_ge (tgt := 38) hx hb dX6_look_8 (by decide) (fun c24 => ?_) (fun c24 => ?_)
      · have hm := it_t c24 hm
        exact B_38 _ _ _ _ hm hP hD hS (lv_sub hl [0] rfl)
      · have hm := it_f c24 hm
        refine lv_aload_n hx hb dX6_look_11 rfl (lv_at hl 0 rfl) ?_
        refine va_get (D := D) (ci := 6) (v := .ref (am 15)) (C := RX6) (T := TX6) (N := 49) hx hb htg inX6 hown hK hP 0 rfl rfl 6 (by decide) (htg _ q_4_195) (fun _ h9 => h9) rfl dX6_look_12 ?_
        refine lv_aload_n hx hb dX6_look_15 rfl (lv_at hl 0 rfl) ?_
        refine va_get (D := D) (ci := 6) (v := .int (x 23)) (C := RX6) (T := TX6) (N := 49) hx hb htg inX6 hown hK hP 0 rfl rfl 23 (by decide) (htg _ q_4_212) (fun _ h9 => h9) rfl dX6_look_16 ?_
        obtain ⟨hi25, hm⟩ := gd_s hm
        refine va_iald hx hb hK hP 1 0 rfl rfl hi25 dX6_look_19 ?_
        refine lv_bipush (v := (32 : Int32)) hx hb dX6_look_20 (by decide) ?_
        refine lv_icmp_ne (tgt := 38) hx hb dX6_look_22 (by decide) (fun c26 => ?_) (fun c26 => ?_)
        · have hm := it_f c26 hm
          exact B_38 _ _ _ _ hm hP hD hS (lv_sub hl [0] rfl)
        · have hm := it_t c26 hm
          refine lv_aload_n hx hb dX6_look_25 rfl (lv_at hl 0 rfl) ?_
          refine lv_dup hx hb dX6_look_26 rfl ?_
          refine va_get (D := D) (ci := 6) (v := .int (x 23)) (C := RX6) (T := TX6) (N := 49) hx hb htg inX6 hown hK hP 0 rfl rfl 23 (by decide) (htg _ q_4_212) (fun _ h9 => h9) rfl dX6_look_27 ?_
          refine lv_iconst (v := (1 : Int32)) hx hb dX6_look_30 (by decide) ?_
          refine lv_iadd hx hb dX6_look_31 ?_
          refine va_put (D := D) (ci := 6) (v := .int (x 23 + (1 : Int32))) (ty := .int) (C := RX6) (T := TX6) (N := 49) hx hb htg inX6 tyX6 tyX6_ok nmX6 hown hK hP hD hS 0 rfl rfl 23 (by decide) (htg _ q_4_212) (fun _ h9 => h9) rfl (by decide +kernel) rfl rfl (Nat.le_of_ble_eq_true rfl) dX6_look_32 (fun H locs (hP : va_P D CL [((am 0), e_X6 am tkv ttv (upd x 23 (x 23 + (1 : Int32))) t_L), ((am 15), eI cA 250 t_tape)] H) (hD : va_D A [((am 0), e_X6 am tkv ttv (upd x 23 (x 23 + (1 : Int32))) t_L), ((am 15), eI cA 250 t_tape)]) hS => ?_)
          refine lv_goto (tgt := 0) hx hb dX6_look_35 (by decide) ?_
          exact HK_0 _ _ _ _ hm hP hD hS (lv_sub hl [0] rfl)
  unfold m_X6_look at hm
  subst hargs
  have hl := lv_entry ([.ref (am 0)]) (n := 1) (Nat.le_of_ble_eq_true rfl)
  rw [lg_entry_eq]
  generalize (lg_sl ([.ref (am 0)]) ++ List.replicate (1 - (lg_sl ([.ref (am 0)])).length) Slot.unset).toArray = ls at hl ⊢
  have hl : lv_has ls 1 [(0, .ref (am 0))] := hl
  exact B_0 fu _ _ _ _ hm hP hD hS (lv_sub hl [0] rfl)
def m_X6_wrong (fu : Nat) (t : Nat → Int32) (t_L : Nat → Int64) : Option (Int32 × (Nat → Int32)) :=
  some ((0 : Int32), (upd t 27 (t 25)))
abbrev rm_X6_wrong : Room := ({ frames := 0, cells := 0, slots := 0, locals := 0 } : Room)
abbrev w0_X6_wrong (cA : Nat → ClassId) (am : Nat → Nat) (tkv : Value) (ttv : Value) (t : Nat → Int32) (t_L : Nat → Int64) : va_W := [((am 0), e_X6 am tkv ttv t t_L)]
abbrev w1_X6_wrong (cA : Nat → ClassId) (am : Nat → Nat) (tkv : Value) (ttv : Value) (t_L : Nat → Int64) (u : (Nat → Int32)) : va_W := [((am 0), e_X6 am tkv ttv u t_L)]
theorem hd_X6_wrong : yX6_wrong.cls = RX6 ∧ yX6_wrong.cls ≠ "java/lang/invoke/MethodHandle" ∧ yX6_wrong.cls ≠ "java/lang/invoke/VarHandle" ∧ (parseMethodDescriptor yX6_wrong.desc).map (fun d => d.parameters.length) = some 0 := by decide +kernel
set_option maxHeartbeats 40000000 in
set_option maxRecDepth 100000 in
theorem c_X6_wrong (l : Launch) (D : va_G) (cA : Nat → ClassId) (sz : Nat) (fu : Nat) (am : Nat → Nat) (tkv : Value) (ttv : Value) (t : Nat → Int32) (t_L : Nat → Int64) (out : Int32 × (Nat → Int32)) (hm : m_X6_wrong fu t t_L = some out) : MI l yX6_wrong (wU yX6_wrong cX6_wrong 1 ((Option.some Jvm.ClassFile.FieldType.boolean))) rm_X6_wrong D cA sz [.ref (am 0)] (w0_X6_wrong cA am tkv ttv t t_L) out (w1_X6_wrong cA am tkv ttv t_L) := by
  refine Met.ofW (cc := cX6_wrong) (maxL := 1) (ret := (Option.some Jvm.ClassFile.FieldType.boolean)) (by decide) rfl ?_
  intro p e s m args below meth c s₁ B hml hv
  obtain ⟨hargs, hsz, hP, hK, hD0, hN⟩ := hv
  have hx := B.exec
  have hb := B.bytes
  have hr := B.returns
  have htg : ∀ w ∈ gw, w.before args s = true := fun w h => atoms_spec (ws := wU yX6_wrong cX6_wrong 1 ((Option.some Jvm.ClassFile.FieldType.boolean))) B.pre w (List.mem_cons_of_mem _ h)
  have hown : s.vm.findClass RX6 = some m.cls := findClass_of_methodNamed B.named
  have hlocks := B.notSynchronized
  subst hsz
  have hD := hD0.self (sz := s.heap.size)
  have hA : ∀ q : Nat, s.heap.size ≤ q → va_A (w0_X6_wrong cA am tkv ttv t t_L) s.heap.size q := fun q h => Or.inr h
  have hS : va_S (va_A (w0_X6_wrong cA am tkv ttv t t_L) s.heap.size) s.heap s.heap [] := va_S.rf
  generalize va_A (w0_X6_wrong cA am tkv ttv t t_L) s.heap.size = A at hA hD hS ⊢
  obtain ⟨Q, hQ⟩ : ∃ Q : State → Prop, Q = MQ below (va_Qi (fun (r : Int32) (u : (Nat → Int32)) => (r, u) = out) (pst0 D cA A (w1_X6_wrong cA am tkv ttv t_L)) A) args s 0 0 A := ⟨_, rfl⟩
  refine (?_ : W p l e rm_X6_wrong s m args below meth c s.heap [] 0 0 (MQ below (va_Qi (fun (r : Int32) (u : (Nat → Int32)) => (r, u) = out) (pst0 D cA A (w1_X6_wrong cA am tkv ttv t_L)) A) args s 0 0 A) (entryFrame m args 1))
  rw [← hQ]
  have hP : va_P D CL [((am 0), e_X6 am tkv ttv t t_L)] s.heap := hP
  have hD : va_D A [((am 0), e_X6 am tkv ttv t t_L)] := hD
  unfold m_X6_wrong at hm
  subst hargs
  have hl := lv_entry ([.ref (am 0)]) (n := 1) (Nat.le_of_ble_eq_true rfl)
  rw [lg_entry_eq]
  generalize (lg_sl ([.ref (am 0)]) ++ List.replicate (1 - (lg_sl ([.ref (am 0)])).length) Slot.unset).toArray = ls at hl ⊢
  have hl : lv_has ls 1 [(0, .ref (am 0))] := hl
  refine lv_aload_n hx hb dX6_wrong_0 rfl (lv_at hl 0 rfl) ?_
  refine lv_aload_n hx hb dX6_wrong_1 rfl (lv_at hl 0 rfl) ?_
  refine va_get (D := D) (ci := 6) (v := .int (t 25)) (C := RX6) (T := TX6) (N := 49) hx hb htg inX6 hown hK hP 0 rfl rfl 25 (by decide) (htg _ q_4_214) (fun _ h9 => h9) rfl dX6_wrong_2 ?_
  refine va_put (D := D) (ci := 6) (v := .int (t 25)) (ty := .int) (C := RX6) (T := TX6) (N := 49) hx hb htg inX6 tyX6 tyX6_ok nmX6 hown hK hP hD hS 0 rfl rfl 27 (by decide) (htg _ q_4_216) (fun _ h9 => h9) rfl (by decide +kernel) rfl rfl (Nat.le_of_ble_eq_true rfl) dX6_wrong_5 (fun H locs (hP : va_P D CL [((am 0), e_X6 am tkv ttv (upd t 27 (t 25)) t_L)] H) (hD : va_D A [((am 0), e_X6 am tkv ttv (upd t 27 (t 25)) t_L)]) hS => ?_)
  refine lv_iconst (v := (0 : Int32)) hx hb dX6_wrong_8 (by decide) ?_
  rw [hQ]
  exact W.zret (v := (0 : Int32)) hx hb hr rfl (fun t9 ht hW => ⟨⟨(0 : Int32), (upd t 27 (t 25)), rfl, (Option.some.inj hm), by rw [ht]; exact hP, va_K.moved hW.alike hK, hD⟩, hS.F ht⟩) hS.2.2 dX6_wrong_9
def b_X6_number_23 (fu : Nat) (t_L : Nat → Int64) (t_tape : Nat → Int32) (t : Nat → Int32) (t_told : Nat → Int32) : Option (Int32 × ((Nat → Int32) × (Nat → Int32))) :=
  (m_X6_wrong fu t t_L).bind fun o1 =>
    gd (bz o1.1) (some (o1.1, (o1.2, t_told)))
def m_X6_number (fu : Nat) (t : Nat → Int32) (t_L : Nat → Int64) (t_tape : Nat → Int32) (t_told : Nat → Int32) (l1 : Int32) (l2 : Int32) (l3 : Int32) : Option (Int32 × ((Nat → Int32) × (Nat → Int32))) :=
  (if t 24 = (2 : Int32) then
    (m_X6_in fu ((t 26).toInt64) l2.toInt64 l3.toInt64).bind fun o5 =>
    (if o5.1 = 0 then
      b_X6_number_23 fu t_L t_tape t t_told
    else
      gd (inb l1 4) (
      (m_X6_look fu t t_L t_tape).bind fun o9 =>
      some ((1 : Int32), (o9, (upd t_told l1.toNatClampNeg (t 26))))))
  else
    b_X6_number_23 fu t_L t_tape t t_told)
abbrev rm_X6_number : Room := ({ frames := 2, cells := 0, slots := 0, locals := 40 } : Room)
abbrev w0_X6_number (cA : Nat → ClassId) (am : Nat → Nat) (tkv : Value) (ttv : Value) (t : Nat → Int32) (t_L : Nat → Int64) (t_tape : Nat → Int32) (t_told : Nat → Int32) : va_W := [((am 0), e_X6 am tkv ttv t t_L), ((am 15), eI cA 250 t_tape), ((am 20), eI cA 4 t_told)]
abbrev w1_X6_number (cA : Nat → ClassId) (am : Nat → Nat) (tkv : Value) (ttv : Value) (t_L : Nat → Int64) (t_tape : Nat → Int32) (u : (Nat → Int32) × (Nat → Int32)) : va_W := [((am 0), e_X6 am tkv ttv u.1 t_L), ((am 15), eI cA 250 t_tape), ((am 20), eI cA 4 u.2)]
theorem hd_X6_number : yX6_number.cls = RX6 ∧ yX6_number.cls ≠ "java/lang/invoke/MethodHandle" ∧ yX6_number.cls ≠ "java/lang/invoke/VarHandle" ∧ (parseMethodDescriptor yX6_number.desc).map (fun d => d.parameters.length) = some 3 := by decide +kernel
set_option maxHeartbeats 40000000 in
set_option maxRecDepth 100000 in
theorem c_X6_number (l : Launch) (D : va_G) (cA : Nat → ClassId) (sz : Nat) (fu : Nat) (am : Nat → Nat) (tkv : Value) (ttv : Value) (t : Nat → Int32) (t_L : Nat → Int64) (t_tape : Nat → Int32) (t_told : Nat → Int32) (l1 : Int32) (l2 : Int32) (l3 : Int32) (out : Int32 × ((Nat → Int32) × (Nat → Int32))) (hm : m_X6_number fu t t_L t_tape t_told l1 l2 l3 = some out) : MI l yX6_number (wU yX6_number cX6_number 4 ((Option.some Jvm.ClassFile.FieldType.boolean))) rm_X6_number D cA sz [.ref (am 0), .int l1, .int l2, .int l3] (w0_X6_number cA am tkv ttv t t_L t_tape t_told) out (w1_X6_number cA am tkv ttv t_L t_tape) := by
  refine Met.ofW (cc := cX6_number) (maxL := 4) (ret := (Option.some Jvm.ClassFile.FieldType.boolean)) (by decide) rfl ?_
  intro p e s m args below meth c s₁ B hml hv
  obtain ⟨hargs, hsz, hP, hK, hD0, hN⟩ := hv
  have hx := B.exec
  have hb := B.bytes
  have hr := B.returns
  have htg : ∀ w ∈ gw, w.before args s = true := fun w h => atoms_spec (ws := wU yX6_number cX6_number 4 ((Option.some Jvm.ClassFile.FieldType.boolean))) B.pre w (List.mem_cons_of_mem _ h)
  have hown : s.vm.findClass RX6 = some m.cls := findClass_of_methodNamed B.named
  have hlocks := B.notSynchronized
  subst hsz
  have hD := hD0.self (sz := s.heap.size)
  have hA : ∀ q : Nat, s.heap.size ≤ q → va_A (w0_X6_number cA am tkv ttv t t_L t_tape t_told) s.heap.size q := fun q h => Or.inr h
  have hS : va_S (va_A (w0_X6_number cA am tkv ttv t t_L t_tape t_told) s.heap.size) s.heap s.heap [] := va_S.rf
  generalize va_A (w0_X6_number cA am tkv ttv t t_L t_tape t_told) s.heap.size = A at hA hD hS ⊢
  obtain ⟨Q, hQ⟩ : ∃ Q : State → Prop, Q = MQ below (va_Qi (fun (r : Int32) (u : (Nat → Int32) × (Nat → Int32)) => (r, u) = out) (pst0 D cA A (w1_X6_number cA am tkv ttv t_L t_tape)) A) args s 0 0 A := ⟨_, rfl⟩
  refine (?_ : W p l e rm_X6_number s m args below meth c s.heap [] 0 0 (MQ below (va_Qi (fun (r : Int32) (u : (Nat → Int32) × (Nat → Int32)) => (r, u) = out) (pst0 D cA A (w1_X6_number cA am tkv ttv t_L t_tape)) A) args s 0 0 A) (entryFrame m args 4))
  rw [← hQ]
  have hP : va_P D CL [((am 0), e_X6 am tkv ttv t t_L), ((am 15), eI cA 250 t_tape), ((am 20), eI cA 4 t_told)] s.heap := hP
  have hD : va_D A [((am 0), e_X6 am tkv ttv t t_L), ((am 15), eI cA 250 t_tape), ((am 20), eI cA 4 t_told)] := hD
  have B_23 : ∀ (t : Nat → Int32) (t_told : Nat → Int32) (H : Heap) (locs : List Loc) (ls : Array Slot), b_X6_number_23 fu t_L t_tape t t_told = some out → va_P D CL [((am 0), e_X6 am tkv ttv t t_L), ((am 15), eI cA 250 t_tape), ((am 20), eI cA 4 t_told)] H → va_D A [((am 0), e_X6 am tkv ttv t t_L), ((am 15), eI cA 250 t_tape), ((am 20), eI cA 4 t_told)] → va_S A s.heap H locs → lv_has ls 4 [(0, .ref (am 0))] → W p l e rm_X6_number s m args below meth c H locs 0 0 Q (F0 m 23 ls []) := by
    intro  t t_told H locs ls hm hP hD hS hl
    unfold b_X6_number_23 at hm
    refine lv_aload_n hx hb dX6_number_23 rfl (lv_at hl 0 rfl) ?_
    obtain ⟨o1, ho2, hm⟩ := bd_s hm
    refine xr_i (wr := [((am 15), eI cA 250 t_tape), ((am 20), eI cA 4 t_told)]) (wn := [((am 0), e_X6 am tkv ttv o1.2 t_L), ((am 15), eI cA 250 t_tape), ((am 20), eI cA 4 t_told)]) (va_runV (As := []) (rest := []) ⟨hx, hb, hml, hown, htg⟩ (c_X6_wrong l D cA _ fu am tkv ttv t t_L o1 ho2) (cwV 0 htg (gV q_6_6 q_6_8 q_p6_6 q_1_8 q_6_9) rfl rfl rfl hd_X6_wrong ⟨Nat.le_of_ble_eq_true rfl, Nat.le_of_ble_eq_true rfl⟩) (xpV hN hK hP hD [0] rfl (by decide) rfl rfl) rfl rfl hl.1 rfl (lv_room (Nat.le_of_ble_eq_true rfl)) dX6_number_24 ⟨Nat.zero_le _, Nat.zero_le _⟩) hP hD hS hA [0] [1, 2] [2, 0, 1] rfl rfl (by decide) (by decide) rfl (by decide) (fun H locs hP hD hS => ?_)
    obtain ⟨hz3, hm⟩ := gd_s hm
    rw [hQ]
    exact W.zret (v := o1.1) hx hb hr (bz_nr hz3) (fun t9 ht hW => ⟨⟨o1.1, (o1.2, t_told), rfl, (Option.some.inj hm), by rw [ht]; exact hP, va_K.moved hW.alike hK, hD⟩, hS.F ht⟩) hS.2.2 dX6_number_27
  unfold m_X6_number at hm
  subst hargs
  have hl := lv_entry ([.ref (am 0), .int l1, .int l2, .int l3]) (n := 4) (Nat.le_of_ble_eq_true rfl)
  rw [lg_entry_eq]
  generalize (lg_sl ([.ref (am 0), .int l1, .int l2, .int l3]) ++ List.replicate (4 - (lg_sl ([.ref (am 0), .int l1, .int l2, .int l3])).length) Slot.unset).toArray = ls at hl ⊢
  have hl : lv_has ls 4 [(0, .ref (am 0)), (1, .int l1), (2, .int l2), (3, .int l3)] := hl
  refine lv_aload_n hx hb dX6_number_0 rfl (lv_at hl 0 rfl) ?_
  refine va_get (D := D) (ci := 6) (v := .int (t 24)) (C := RX6) (T := TX6) (N := 49) hx hb htg inX6 hown hK hP 0 rfl rfl 24 (by decide) (htg _ q_4_213) (fun _ h9 => h9) rfl dX6_number_1 ?_
  refine lv_iconst (v := (2 : Int32)) hx hb dX6_number_4 (by decide) ?_
  refine lv_icmp_ne (tgt := 23) hx hb dX6_number_5 (by decide) (fun c4 => ?_) (fun c4 => ?_)
  · have hm := it_f c4 hm
    exact B_23 _ _ _ _ _ hm hP hD hS (lv_sub hl [0] rfl)
  · have hm := it_t c4 hm
    refine lv_aload_n hx hb dX6_number_8 rfl (lv_at hl 0 rfl) ?_
    refine va_get (D := D) (ci := 6) (v := .int (t 26)) (C := RX6) (T := TX6) (N := 49) hx hb htg inX6 hown hK hP 0 rfl rfl 26 (by decide) (htg _ q_4_215) (fun _ h9 => h9) rfl dX6_number_9 ?_
    refine lv_i2l hx hb dX6_number_12 rfl ?_
    refine lv_iload_n hx hb dX6_number_13 rfl (lv_at hl 2 rfl) ?_
    refine lv_i2l hx hb dX6_number_14 rfl ?_
    refine lv_iload_n hx hb dX6_number_15 rfl (lv_at hl 3 rfl) ?_
    refine lv_i2l hx hb dX6_number_16 rfl ?_
    obtain ⟨o5, ho6, hm⟩ := bd_s hm
    refine xr_i (wr := [((am 0), e_X6 am tkv ttv t t_L), ((am 15), eI cA 250 t_tape), ((am 20), eI cA 4 t_told)]) (wn := [((am 0), e_X6 am tkv ttv t t_L), ((am 15), eI cA 250 t_tape), ((am 20), eI cA 4 t_told)]) (va_runS (As := [.long ((t 26).toInt64), .long l2.toInt64, .long l3.toInt64]) (rest := []) ⟨hx, hb, hml, hown, htg⟩ (c_X6_in l D cA _ fu ((t 26).toInt64) l2.toInt64 l3.toInt64 o5 ho6) (cwS 3 htg (gS q_5_103 q_5_104 q_1_8 q_5_105) rfl rfl rfl hd_X6_in ⟨Nat.le_of_ble_eq_true rfl, Nat.le_of_ble_eq_true rfl⟩) (xpS hN hK hP hD [] rfl (by decide)) rfl rfl hl.1 rfl (lv_room (Nat.le_of_ble_eq_true rfl)) dX6_number_17 ⟨Nat.zero_le _, Nat.zero_le _⟩) hP hD hS hA [] [0, 1, 2] [0, 1, 2] rfl rfl (by decide) (by decide) rfl (by decide) (fun H locs hP hD hS => ?_)
    refine lv_if_ne (tgt := 28) hx hb dX6_number_20 (by decide) (fun c7 => ?_) (fun c7 => ?_)
    · have hm := it_f c7 hm
      refine lv_aload_n hx hb dX6_number_28 rfl (lv_at hl 0 rfl) ?_
      refine va_get (D := D) (ci := 6) (v := .ref (am 20)) (C := RX6) (T := TX6) (N := 49) hx hb htg inX6 hown hK hP 0 rfl rfl 28 (by decide) (htg _ q_4_217) (fun _ h9 => h9) rfl dX6_number_29 ?_
      refine lv_iload_n hx hb dX6_number_32 rfl (lv_at hl 1 rfl) ?_
      refine lv_aload_n hx hb dX6_number_33 rfl (lv_at hl 0 rfl) ?_
      refine va_get (D := D) (ci := 6) (v := .int (t 26)) (C := RX6) (T := TX6) (N := 49) hx hb htg inX6 hown hK hP 0 rfl rfl 26 (by decide) (htg _ q_4_215) (fun _ h9 => h9) rfl dX6_number_34 ?_
      obtain ⟨hi8, hm⟩ := gd_s hm
      refine va_iast hx hb hK hP hD hS 2 0 rfl rfl hi8 dX6_number_37 (fun H locs (hP : va_P D CL [((am 0), e_X6 am tkv ttv t t_L), ((am 15), eI cA 250 t_tape), ((am 20), eI cA 4 (upd t_told l1.toNatClampNeg (t 26)))] H) (hD : va_D A [((am 0), e_X6 am tkv ttv t t_L), ((am 15), eI cA 250 t_tape), ((am 20), eI cA 4 (upd t_told l1.toNatClampNeg (t 26)))]) hS => ?_)
      refine lv_aload_n hx hb dX6_number_38 rfl (lv_at hl 0 rfl) ?_
      obtain ⟨o9, ho10, hm⟩ := bd_s hm
      refine xr_v (wr := [((am 20), eI cA 4 (upd t_told l1.toNatClampNeg (t 26)))]) (wn := [((am 0), e_X6 am tkv ttv o9 t_L), ((am 15), eI cA 250 t_tape), ((am 20), eI cA 4 (upd t_told l1.toNatClampNeg (t 26)))]) (va_runV (As := []) (rest := []) ⟨hx, hb, hml, hown, htg⟩ (c_X6_look l D cA _ fu am tkv ttv t t_L t_tape o9 ho10) (cwV 0 htg (gV q_5_217 q_5_219 q_p6_1 q_1_8 q_5_220) rfl rfl rfl hd_X6_look ⟨Nat.le_of_ble_eq_true rfl, Nat.le_of_ble_eq_true rfl⟩) (xpV hN hK hP hD [0, 1] rfl (by decide) rfl rfl) rfl rfl hl.1 rfl (lv_room (Nat.le_of_ble_eq_true rfl)) dX6_number_39 ⟨Nat.zero_le _, Nat.zero_le _⟩) hP hD hS hA [0, 1] [2] [1, 2, 0] rfl rfl (by decide) (by decide) rfl (by decide) (fun H locs hP hD hS => ?_)
      refine lv_iconst (v := (1 : Int32)) hx hb dX6_number_42 (by decide) ?_
      rw [hQ]
      exact W.zret (v := (1 : Int32)) hx hb hr rfl (fun t9 ht hW => ⟨⟨(1 : Int32), (o9, (upd t_told l1.toNatClampNeg (t 26))), rfl, (Option.some.inj hm), by rw [ht]; exact hP, va_K.moved hW.alike hK, hD⟩, hS.F ht⟩) hS.2.2 dX6_number_43
    · have hm := it_t c7 hm
      exact B_23 _ _ _ _ _ hm hP hD hS (lv_sub hl [0] rfl)
def m_X6_tells (fu : Nat) (t : Nat → Int32) (t_L : Nat → Int64) (t_tape : Nat → Int32) (t_told : Nat → Int32) (l1 : Int32) (l2 : Int32) : Option (Int32 × ((Nat → Int32) × (Nat → Int32))) :=
  (m_X6_look fu t t_L t_tape).bind fun o1 =>
  (m_X6_number fu o1 t_L t_tape t_told (0 : Int32) l1 l2).bind fun o3 =>
  gd (bz o3.1) (some (o3.1, (o3.2.1, o3.2.2)))
abbrev rm_X6_tells : Room := ({ frames := 3, cells := 0, slots := 0, locals := 63 } : Room)
abbrev w0_X6_tells (cA : Nat → ClassId) (am : Nat → Nat) (tkv : Value) (ttv : Value) (t : Nat → Int32) (t_L : Nat → Int64) (t_tape : Nat → Int32) (t_told : Nat → Int32) : va_W := [((am 0), e_X6 am tkv ttv t t_L), ((am 15), eI cA 250 t_tape), ((am 20), eI cA 4 t_told)]
abbrev w1_X6_tells (cA : Nat → ClassId) (am : Nat → Nat) (tkv : Value) (ttv : Value) (t_L : Nat → Int64) (t_tape : Nat → Int32) (u : (Nat → Int32) × (Nat → Int32)) : va_W := [((am 0), e_X6 am tkv ttv u.1 t_L), ((am 15), eI cA 250 t_tape), ((am 20), eI cA 4 u.2)]
theorem hd_X6_tells : yX6_tells.cls = RX6 ∧ yX6_tells.cls ≠ "java/lang/invoke/MethodHandle" ∧ yX6_tells.cls ≠ "java/lang/invoke/VarHandle" ∧ (parseMethodDescriptor yX6_tells.desc).map (fun d => d.parameters.length) = some 2 := by decide +kernel
set_option maxHeartbeats 40000000 in
set_option maxRecDepth 100000 in
theorem c_X6_tells (l : Launch) (D : va_G) (cA : Nat → ClassId) (sz : Nat) (fu : Nat) (am : Nat → Nat) (tkv : Value) (ttv : Value) (t : Nat → Int32) (t_L : Nat → Int64) (t_tape : Nat → Int32) (t_told : Nat → Int32) (l1 : Int32) (l2 : Int32) (out : Int32 × ((Nat → Int32) × (Nat → Int32))) (hm : m_X6_tells fu t t_L t_tape t_told l1 l2 = some out) : MI l yX6_tells (wU yX6_tells cX6_tells 3 ((Option.some Jvm.ClassFile.FieldType.boolean))) rm_X6_tells D cA sz [.ref (am 0), .int l1, .int l2] (w0_X6_tells cA am tkv ttv t t_L t_tape t_told) out (w1_X6_tells cA am tkv ttv t_L t_tape) := by
  refine Met.ofW (cc := cX6_tells) (maxL := 3) (ret := (Option.some Jvm.ClassFile.FieldType.boolean)) (by decide) rfl ?_
  intro p e s m args below meth c s₁ B hml hv
  obtain ⟨hargs, hsz, hP, hK, hD0, hN⟩ := hv
  have hx := B.exec
  have hb := B.bytes
  have hr := B.returns
  have htg : ∀ w ∈ gw, w.before args s = true := fun w h => atoms_spec (ws := wU yX6_tells cX6_tells 3 ((Option.some Jvm.ClassFile.FieldType.boolean))) B.pre w (List.mem_cons_of_mem _ h)
  have hown : s.vm.findClass RX6 = some m.cls := findClass_of_methodNamed B.named
  have hlocks := B.notSynchronized
  subst hsz
  have hD := hD0.self (sz := s.heap.size)
  have hA : ∀ q : Nat, s.heap.size ≤ q → va_A (w0_X6_tells cA am tkv ttv t t_L t_tape t_told) s.heap.size q := fun q h => Or.inr h
  have hS : va_S (va_A (w0_X6_tells cA am tkv ttv t t_L t_tape t_told) s.heap.size) s.heap s.heap [] := va_S.rf
  generalize va_A (w0_X6_tells cA am tkv ttv t t_L t_tape t_told) s.heap.size = A at hA hD hS ⊢
  obtain ⟨Q, hQ⟩ : ∃ Q : State → Prop, Q = MQ below (va_Qi (fun (r : Int32) (u : (Nat → Int32) × (Nat → Int32)) => (r, u) = out) (pst0 D cA A (w1_X6_tells cA am tkv ttv t_L t_tape)) A) args s 0 0 A := ⟨_, rfl⟩
  refine (?_ : W p l e rm_X6_tells s m args below meth c s.heap [] 0 0 (MQ below (va_Qi (fun (r : Int32) (u : (Nat → Int32) × (Nat → Int32)) => (r, u) = out) (pst0 D cA A (w1_X6_tells cA am tkv ttv t_L t_tape)) A) args s 0 0 A) (entryFrame m args 3))
  rw [← hQ]
  have hP : va_P D CL [((am 0), e_X6 am tkv ttv t t_L), ((am 15), eI cA 250 t_tape), ((am 20), eI cA 4 t_told)] s.heap := hP
  have hD : va_D A [((am 0), e_X6 am tkv ttv t t_L), ((am 15), eI cA 250 t_tape), ((am 20), eI cA 4 t_told)] := hD
  unfold m_X6_tells at hm
  subst hargs
  have hl := lv_entry ([.ref (am 0), .int l1, .int l2]) (n := 3) (Nat.le_of_ble_eq_true rfl)
  rw [lg_entry_eq]
  generalize (lg_sl ([.ref (am 0), .int l1, .int l2]) ++ List.replicate (3 - (lg_sl ([.ref (am 0), .int l1, .int l2])).length) Slot.unset).toArray = ls at hl ⊢
  have hl : lv_has ls 3 [(0, .ref (am 0)), (1, .int l1), (2, .int l2)] := hl
  refine lv_aload_n hx hb dX6_tells_0 rfl (lv_at hl 0 rfl) ?_
  obtain ⟨o1, ho2, hm⟩ := bd_s hm
  refine xr_v (wr := [((am 20), eI cA 4 t_told)]) (wn := [((am 0), e_X6 am tkv ttv o1 t_L), ((am 15), eI cA 250 t_tape), ((am 20), eI cA 4 t_told)]) (va_runV (As := []) (rest := []) ⟨hx, hb, hml, hown, htg⟩ (c_X6_look l D cA _ fu am tkv ttv t t_L t_tape o1 ho2) (cwV 0 htg (gV q_5_217 q_5_219 q_p6_1 q_1_8 q_5_220) rfl rfl rfl hd_X6_look ⟨Nat.le_of_ble_eq_true rfl, Nat.le_of_ble_eq_true rfl⟩) (xpV hN hK hP hD [0, 1] rfl (by decide) rfl rfl) rfl rfl hl.1 rfl (lv_room (Nat.le_of_ble_eq_true rfl)) dX6_tells_1 ⟨Nat.zero_le _, Nat.zero_le _⟩) hP hD hS hA [0, 1] [2] [1, 2, 0] rfl rfl (by decide) (by decide) rfl (by decide) (fun H locs hP hD hS => ?_)
  refine lv_aload_n hx hb dX6_tells_4 rfl (lv_at hl 0 rfl) ?_
  refine lv_iconst (v := (0 : Int32)) hx hb dX6_tells_5 (by decide) ?_
  refine lv_iload_n hx hb dX6_tells_6 rfl (lv_at hl 1 rfl) ?_
  refine lv_iload_n hx hb dX6_tells_7 rfl (lv_at hl 2 rfl) ?_
  obtain ⟨o3, ho4, hm⟩ := bd_s hm
  refine xr_i (wr := []) (wn := [((am 0), e_X6 am tkv ttv o3.2.1 t_L), ((am 15), eI cA 250 t_tape), ((am 20), eI cA 4 o3.2.2)]) (va_runV (As := [.int (0 : Int32), .int l1, .int l2]) (rest := []) ⟨hx, hb, hml, hown, htg⟩ (c_X6_number l D cA _ fu am tkv ttv o1 t_L t_tape t_told (0 : Int32) l1 l2 o3 ho4) (cwV 3 htg (gV q_6_2 q_6_4 q_p6_5 q_1_8 q_6_5) rfl rfl rfl hd_X6_number ⟨Nat.le_of_ble_eq_true rfl, Nat.le_of_ble_eq_true rfl⟩) (xpV hN hK hP hD [0, 1, 2] rfl (by decide) rfl rfl) rfl rfl hl.1 rfl (lv_room (Nat.le_of_ble_eq_true rfl)) dX6_tells_8 ⟨Nat.zero_le _, Nat.zero_le _⟩) hP hD hS hA [0, 1, 2] [] [0, 1, 2] rfl rfl (by decide) (by decide) rfl (by decide) (fun H locs hP hD hS => ?_)
  obtain ⟨hz5, hm⟩ := gd_s hm
  rw [hQ]
  exact W.zret (v := o3.1) hx hb hr (bz_nr hz5) (fun t9 ht hW => ⟨⟨o3.1, (o3.2.1, o3.2.2), rfl, (Option.some.inj hm), by rw [ht]; exact hP, va_K.moved hW.alike hK, hD⟩, hS.F ht⟩) hS.2.2 dX6_tells_11
def b_X6_voiceOf_20 (fu : Nat) (t : Nat → Int32) (t_L : Nat → Int64) (t_kind : Nat → Int32) (t_by : Nat → Int32) (t_pitch : Nat → Int32) (t_refused : Nat → Int32) : Option (Int32 × (Nat → Int32)) :=
  (m_X6_refuse fu t t_L t_refused (-2 : Int32)).bind fun o1 =>
    some (o1.1, o1.2)
def b_X6_voiceOf_73 (fu : Nat) (t : Nat → Int32) (t_L : Nat → Int64) (t_kind : Nat → Int32) (t_by : Nat → Int32) (t_pitch : Nat → Int32) (s0 : Int32) (t_refused : Nat → Int32) : Option (Int32 × (Nat → Int32)) :=
  some (s0, t_refused)
def m_X6_voiceOf (fu : Nat) (t : Nat → Int32) (t_L : Nat → Int64) (t_refused : Nat → Int32) (t_kind : Nat → Int32) (t_by : Nat → Int32) (t_pitch : Nat → Int32) (l1 : Int32) (l2 : Int32) : Option (Int32 × (Nat → Int32)) :=
  (m_X6_isVoice fu t t_L l1).bind fun o3 =>
  (if o3.1 = 0 then
    b_X6_voiceOf_20 fu t t_L t_kind t_by t_pitch t_refused
  else
    (m_X6_in fu l2.toInt64 (0 : Int64) (3 : Int64)).bind fun o6 =>
    (if o6.1 = 0 then
      b_X6_voiceOf_20 fu t t_L t_kind t_by t_pitch t_refused
    else
      (if l2 = 0 then
        gd (inb l1 8) (
        b_X6_voiceOf_73 fu t t_L t_kind t_by t_pitch (t_kind l1.toNatClampNeg) t_refused)
      else
        (if l2 = (1 : Int32) then
          gd (inb l1 8) (
          b_X6_voiceOf_73 fu t t_L t_kind t_by t_pitch (t_by l1.toNatClampNeg) t_refused)
        else
          (if l2 = (2 : Int32) then
            gd (inb l1 8) (
            b_X6_voiceOf_73 fu t t_L t_kind t_by t_pitch (t_pitch l1.toNatClampNeg) t_refused)
          else
            (m_X6_pitchOf fu t t_L t_kind t_pitch l1).bind fun o12 =>
            b_X6_voiceOf_73 fu t t_L t_kind t_by t_pitch o12.1 t_refused)))))
abbrev rm_X6_voiceOf : Room := ({ frames := 2, cells := 0, slots := 0, locals := 46 } : Room)
abbrev w0_X6_voiceOf (cA : Nat → ClassId) (am : Nat → Nat) (tkv : Value) (ttv : Value) (t : Nat → Int32) (t_L : Nat → Int64) (t_refused : Nat → Int32) (t_kind : Nat → Int32) (t_by : Nat → Int32) (t_pitch : Nat → Int32) : va_W := [((am 0), e_X6 am tkv ttv t t_L), ((am 16), eI cA 8 t_refused), ((am 17), eI cA 8 t_kind), ((am 18), eI cA 8 t_by), ((am 19), eI cA 8 t_pitch)]
abbrev w1_X6_voiceOf (cA : Nat → ClassId) (am : Nat → Nat) (tkv : Value) (ttv : Value) (t : Nat → Int32) (t_L : Nat → Int64) (t_kind : Nat → Int32) (t_by : Nat → Int32) (t_pitch : Nat → Int32) (u : (Nat → Int32)) : va_W := [((am 0), e_X6 am tkv ttv t t_L), ((am 16), eI cA 8 u), ((am 17), eI cA 8 t_kind), ((am 18), eI cA 8 t_by), ((am 19), eI cA 8 t_pitch)]
theorem hd_X6_voiceOf : yX6_voiceOf.cls = RX6 ∧ yX6_voiceOf.cls ≠ "java/lang/invoke/MethodHandle" ∧ yX6_voiceOf.cls ≠ "java/lang/invoke/VarHandle" ∧ (parseMethodDescriptor yX6_voiceOf.desc).map (fun d => d.parameters.length) = some 2 := by decide +kernel
set_option maxHeartbeats 40000000 in
set_option maxRecDepth 100000 in
theorem c_X6_voiceOf (l : Launch) (D : va_G) (cA : Nat → ClassId) (sz : Nat) (fu : Nat) (am : Nat → Nat) (tkv : Value) (ttv : Value) (t : Nat → Int32) (t_L : Nat → Int64) (t_refused : Nat → Int32) (t_kind : Nat → Int32) (t_by : Nat → Int32) (t_pitch : Nat → Int32) (l1 : Int32) (l2 : Int32) (out : Int32 × (Nat → Int32)) (hm : m_X6_voiceOf fu t t_L t_refused t_kind t_by t_pitch l1 l2 = some out) : MI l yX6_voiceOf (wU yX6_voiceOf cX6_voiceOf 3 ((Option.some Jvm.ClassFile.FieldType.int))) rm_X6_voiceOf D cA sz [.ref (am 0), .int l1, .int l2] (w0_X6_voiceOf cA am tkv ttv t t_L t_refused t_kind t_by t_pitch) out (w1_X6_voiceOf cA am tkv ttv t t_L t_kind t_by t_pitch) := by
  refine Met.ofW (cc := cX6_voiceOf) (maxL := 3) (ret := (Option.some Jvm.ClassFile.FieldType.int)) (by decide) rfl ?_
  intro p e s m args below meth c s₁ B hml hv
  obtain ⟨hargs, hsz, hP, hK, hD0, hN⟩ := hv
  have hx := B.exec
  have hb := B.bytes
  have hr := B.returns
  have htg : ∀ w ∈ gw, w.before args s = true := fun w h => atoms_spec (ws := wU yX6_voiceOf cX6_voiceOf 3 ((Option.some Jvm.ClassFile.FieldType.int))) B.pre w (List.mem_cons_of_mem _ h)
  have hown : s.vm.findClass RX6 = some m.cls := findClass_of_methodNamed B.named
  have hlocks := B.notSynchronized
  subst hsz
  have hD := hD0.self (sz := s.heap.size)
  have hA : ∀ q : Nat, s.heap.size ≤ q → va_A (w0_X6_voiceOf cA am tkv ttv t t_L t_refused t_kind t_by t_pitch) s.heap.size q := fun q h => Or.inr h
  have hS : va_S (va_A (w0_X6_voiceOf cA am tkv ttv t t_L t_refused t_kind t_by t_pitch) s.heap.size) s.heap s.heap [] := va_S.rf
  generalize va_A (w0_X6_voiceOf cA am tkv ttv t t_L t_refused t_kind t_by t_pitch) s.heap.size = A at hA hD hS ⊢
  obtain ⟨Q, hQ⟩ : ∃ Q : State → Prop, Q = MQ below (va_Qi (fun (r : Int32) (u : (Nat → Int32)) => (r, u) = out) (pst0 D cA A (w1_X6_voiceOf cA am tkv ttv t t_L t_kind t_by t_pitch)) A) args s 0 0 A := ⟨_, rfl⟩
  refine (?_ : W p l e rm_X6_voiceOf s m args below meth c s.heap [] 0 0 (MQ below (va_Qi (fun (r : Int32) (u : (Nat → Int32)) => (r, u) = out) (pst0 D cA A (w1_X6_voiceOf cA am tkv ttv t t_L t_kind t_by t_pitch)) A) args s 0 0 A) (entryFrame m args 3))
  rw [← hQ]
  have hP : va_P D CL [((am 0), e_X6 am tkv ttv t t_L), ((am 16), eI cA 8 t_refused), ((am 17), eI cA 8 t_kind), ((am 18), eI cA 8 t_by), ((am 19), eI cA 8 t_pitch)] s.heap := hP
  have hD : va_D A [((am 0), e_X6 am tkv ttv t t_L), ((am 16), eI cA 8 t_refused), ((am 17), eI cA 8 t_kind), ((am 18), eI cA 8 t_by), ((am 19), eI cA 8 t_pitch)] := hD
  have B_20 : ∀ (t_refused : Nat → Int32) (H : Heap) (locs : List Loc) (ls : Array Slot), b_X6_voiceOf_20 fu t t_L t_kind t_by t_pitch t_refused = some out → va_P D CL [((am 0), e_X6 am tkv ttv t t_L), ((am 16), eI cA 8 t_refused), ((am 17), eI cA 8 t_kind), ((am 18), eI cA 8 t_by), ((am 19), eI cA 8 t_pitch)] H → va_D A [((am 0), e_X6 am tkv ttv t t_L), ((am 16), eI cA 8 t_refused), ((am 17), eI cA 8 t_kind), ((am 18), eI cA 8 t_by), ((am 19), eI cA 8 t_pitch)] → va_S A s.heap H locs → lv_has ls 3 [(0, .ref (am 0))] → W p l e rm_X6_voiceOf s m args below meth c H locs 0 0 Q (F0 m 20 ls []) := by
    intro  t_refused H locs ls hm hP hD hS hl
    unfold b_X6_voiceOf_20 at hm
    refine lv_aload_n hx hb dX6_voiceOf_20 rfl (lv_at hl 0 rfl) ?_
    refine lv_bipush (v := (-2 : Int32)) hx hb dX6_voiceOf_21 (by decide) ?_
    obtain ⟨o1, ho2, hm⟩ := bd_s hm
    refine xr_i (wr := [((am 17), eI cA 8 t_kind), ((am 18), eI cA 8 t_by), ((am 19), eI cA 8 t_pitch)]) (wn := [((am 0), e_X6 am tkv ttv t t_L), ((am 16), eI cA 8 o1.2), ((am 17), eI cA 8 t_kind), ((am 18), eI cA 8 t_by), ((am 19), eI cA 8 t_pitch)]) (va_runV (As := [.int (-2 : Int32)]) (rest := []) ⟨hx, hb, hml, hown, htg⟩ (c_X6_refuse l D cA _ fu am tkv ttv t t_L t_refused (-2 : Int32) o1 ho2) (cwV 1 htg (gV q_5_108 q_5_110 q_p5_7 q_1_8 q_5_111) rfl rfl rfl hd_X6_refuse ⟨Nat.le_of_ble_eq_true rfl, Nat.le_of_ble_eq_true rfl⟩) (xpV hN hK hP hD [0, 1] rfl (by decide) rfl rfl) rfl rfl hl.1 rfl (lv_room (Nat.le_of_ble_eq_true rfl)) dX6_voiceOf_23 ⟨Nat.zero_le _, Nat.zero_le _⟩) hP hD hS hA [0, 1] [2, 3, 4] [3, 4, 0, 1, 2] rfl rfl (by decide) (by decide) rfl (by decide) (fun H locs hP hD hS => ?_)
    rw [hQ]
    exact W.iret (v := o1.1) hx hb hr (fun t9 ht hW => ⟨⟨o1.1, o1.2, rfl, (Option.some.inj hm), by rw [ht]; exact hP, va_K.moved hW.alike hK, hD⟩, hS.F ht⟩) hS.2.2 dX6_voiceOf_26
  have B_73 : ∀ (s0 : Int32) (t_refused : Nat → Int32) (H : Heap) (locs : List Loc) (ls : Array Slot), b_X6_voiceOf_73 fu t t_L t_kind t_by t_pitch s0 t_refused = some out → va_P D CL [((am 0), e_X6 am tkv ttv t t_L), ((am 16), eI cA 8 t_refused), ((am 17), eI cA 8 t_kind), ((am 18), eI cA 8 t_by), ((am 19), eI cA 8 t_pitch)] H → va_D A [((am 0), e_X6 am tkv ttv t t_L), ((am 16), eI cA 8 t_refused), ((am 17), eI cA 8 t_kind), ((am 18), eI cA 8 t_by), ((am 19), eI cA 8 t_pitch)] → va_S A s.heap H locs → lv_has ls 3 [(0, .ref (am 0))] → W p l e rm_X6_voiceOf s m args below meth c H locs 0 0 Q (F0 m 73 ls [.int s0]) := by
    intro  s0 t_refused H locs ls hm hP hD hS hl
    unfold b_X6_voiceOf_73 at hm
    rw [hQ]
    exact W.iret (v := s0) hx hb hr (fun t9 ht hW => ⟨⟨s0, t_refused, rfl, (Option.some.inj hm), by rw [ht]; exact hP, va_K.moved hW.alike hK, hD⟩, hS.F ht⟩) hS.2.2 dX6_voiceOf_73
  unfold m_X6_voiceOf at hm
  subst hargs
  have hl := lv_entry ([.ref (am 0), .int l1, .int l2]) (n := 3) (Nat.le_of_ble_eq_true rfl)
  rw [lg_entry_eq]
  generalize (lg_sl ([.ref (am 0), .int l1, .int l2]) ++ List.replicate (3 - (lg_sl ([.ref (am 0), .int l1, .int l2])).length) Slot.unset).toArray = ls at hl ⊢
  have hl : lv_has ls 3 [(0, .ref (am 0)), (1, .int l1), (2, .int l2)] := hl
  refine lv_aload_n hx hb dX6_voiceOf_0 rfl (lv_at hl 0 rfl) ?_
  refine lv_iload_n hx hb dX6_voiceOf_1 rfl (lv_at hl 1 rfl) ?_
  obtain ⟨o3, ho4, hm⟩ := bd_s hm
  refine xr_i (wr := [((am 16), eI cA 8 t_refused), ((am 17), eI cA 8 t_kind), ((am 18), eI cA 8 t_by), ((am 19), eI cA 8 t_pitch)]) (wn := [((am 0), e_X6 am tkv ttv t t_L), ((am 16), eI cA 8 t_refused), ((am 17), eI cA 8 t_kind), ((am 18), eI cA 8 t_by), ((am 19), eI cA 8 t_pitch)]) (va_runV (As := [.int l1]) (rest := []) ⟨hx, hb, hml, hown, htg⟩ (c_X6_isVoice l D cA _ fu am tkv ttv t t_L l1 o3 ho4) (cwV 1 htg (gV q_5_139 q_5_141 q_p5_9 q_1_8 q_5_142) rfl rfl rfl hd_X6_isVoice ⟨Nat.le_of_ble_eq_true rfl, Nat.le_of_ble_eq_true rfl⟩) (xpV hN hK hP hD [0] rfl (by decide) rfl rfl) rfl rfl hl.1 rfl (lv_room (Nat.le_of_ble_eq_true rfl)) dX6_voiceOf_2 ⟨Nat.zero_le _, Nat.zero_le _⟩) hP hD hS hA [0] [1, 2, 3, 4] [4, 0, 1, 2, 3] rfl rfl (by decide) (by decide) rfl (by decide) (fun H locs hP hD hS => ?_)
  refine lv_if_eq (tgt := 20) hx hb dX6_voiceOf_5 (by decide) (fun c5 => ?_) (fun c5 => ?_)
  · have hm := it_t c5 hm
    exact B_20 _ _ _ _ hm hP hD hS (lv_sub hl [0] rfl)
  · have hm := it_f c5 hm
    refine lv_iload_n hx hb dX6_voiceOf_8 rfl (lv_at hl 2 rfl) ?_
    refine lv_i2l hx hb dX6_voiceOf_9 rfl ?_
    refine lv_lconst (v := (0 : Int64)) hx hb dX6_voiceOf_10 (by decide) ?_
    refine lv_ldc2 (v := (3 : Int64)) hx hb hown (htg _ q_6_19) dX6_voiceOf_11 ?_
    obtain ⟨o6, ho7, hm⟩ := bd_s hm
    refine xr_i (wr := [((am 0), e_X6 am tkv ttv t t_L), ((am 16), eI cA 8 t_refused), ((am 17), eI cA 8 t_kind), ((am 18), eI cA 8 t_by), ((am 19), eI cA 8 t_pitch)]) (wn := [((am 0), e_X6 am tkv ttv t t_L), ((am 16), eI cA 8 t_refused), ((am 17), eI cA 8 t_kind), ((am 18), eI cA 8 t_by), ((am 19), eI cA 8 t_pitch)]) (va_runS (As := [.long l2.toInt64, .long (0 : Int64), .long (3 : Int64)]) (rest := []) ⟨hx, hb, hml, hown, htg⟩ (c_X6_in l D cA _ fu l2.toInt64 (0 : Int64) (3 : Int64) o6 ho7) (cwS 3 htg (gS q_5_103 q_5_104 q_1_8 q_5_105) rfl rfl rfl hd_X6_in ⟨Nat.le_of_ble_eq_true rfl, Nat.le_of_ble_eq_true rfl⟩) (xpS hN hK hP hD [] rfl (by decide)) rfl rfl hl.1 rfl (lv_room (Nat.le_of_ble_eq_true rfl)) dX6_voiceOf_14 ⟨Nat.zero_le _, Nat.zero_le _⟩) hP hD hS hA [] [0, 1, 2, 3, 4] [0, 1, 2, 3, 4] rfl rfl (by decide) (by decide) rfl (by decide) (fun H locs hP hD hS => ?_)
    refine lv_if_ne (tgt := 27) hx hb dX6_voiceOf_17 (by decide) (fun c8 => ?_) (fun c8 => ?_)
    · have hm := it_f c8 hm
      refine lv_iload_n hx hb dX6_voiceOf_27 rfl (lv_at hl 2 rfl) ?_
      refine lv_if_ne (tgt := 40) hx hb dX6_voiceOf_28 (by decide) (fun c9 => ?_) (fun c9 => ?_)
      · have hm := it_f c9 hm
        refine lv_iload_n hx hb dX6_voiceOf_40 rfl (lv_at hl 2 rfl) ?_
        refine lv_iconst (v := (1 : Int32)) hx hb dX6_voiceOf_41 (by decide) ?_
        refine lv_icmp_ne (tgt := 54) hx hb dX6_voiceOf_42 (by decide) (fun c10 => ?_) (fun c10 => ?_)
        · have hm := it_f c10 hm
          refine lv_iload_n hx hb dX6_voiceOf_54 rfl (lv_at hl 2 rfl) ?_
          refine lv_iconst (v := (2 : Int32)) hx hb dX6_voiceOf_55 (by decide) ?_
          refine lv_icmp_ne (tgt := 68) hx hb dX6_voiceOf_56 (by decide) (fun c11 => ?_) (fun c11 => ?_)
          · have hm := it_f c11 hm
            refine lv_aload_n hx hb dX6_voiceOf_68 rfl (lv_at hl 0 rfl) ?_
            refine lv_iload_n hx hb dX6_voiceOf_69 rfl (lv_at hl 1 rfl) ?_
            obtain ⟨o12, ho13, hm⟩ := bd_s hm
            refine xr_i (wr := [((am 16), eI cA 8 t_refused), ((am 18), eI cA 8 t_by)]) (wn := [((am 0), e_X6 am tkv ttv t t_L), ((am 16), eI cA 8 t_refused), ((am 17), eI cA 8 t_kind), ((am 18), eI cA 8 t_by), ((am 19), eI cA 8 t_pitch)]) (va_runV (As := [.int l1]) (rest := []) ⟨hx, hb, hml, hown, htg⟩ (c_X6_pitchOf l D cA _ fu am tkv ttv t t_L t_kind t_pitch l1 o12 ho13) (cwV 1 htg (gV q_5_163 q_5_165 q_p5_13 q_1_8 q_5_166) rfl rfl rfl hd_X6_pitchOf ⟨Nat.le_of_ble_eq_true rfl, Nat.le_of_ble_eq_true rfl⟩) (xpV hN hK hP hD [0, 2, 4] rfl (by decide) rfl rfl) rfl rfl hl.1 rfl (lv_room (Nat.le_of_ble_eq_true rfl)) dX6_voiceOf_70 ⟨Nat.zero_le _, Nat.zero_le _⟩) hP hD hS hA [0, 2, 4] [1, 3] [2, 0, 3, 1, 4] rfl rfl (by decide) (by decide) rfl (by decide) (fun H locs hP hD hS => ?_)
            exact B_73 _ _ _ _ _ hm hP hD hS (lv_sub hl [0] rfl)
          · have hm := it_t c11 hm
            refine lv_aload_n hx hb dX6_voiceOf_59 rfl (lv_at hl 0 rfl) ?_
            refine va_get (D := D) (ci := 6) (v := .ref (am 19)) (C := RX6) (T := TX6) (N := 49) hx hb htg inX6 hown hK hP 0 rfl rfl 19 (by decide) (htg _ q_4_208) (fun _ h9 => h9) rfl dX6_voiceOf_60 ?_
            refine lv_iload_n hx hb dX6_voiceOf_63 rfl (lv_at hl 1 rfl) ?_
            obtain ⟨hi14, hm⟩ := gd_s hm
            refine va_iald hx hb hK hP 4 0 rfl rfl hi14 dX6_voiceOf_64 ?_
            refine lv_goto (tgt := 73) hx hb dX6_voiceOf_65 (by decide) ?_
            exact B_73 _ _ _ _ _ hm hP hD hS (lv_sub hl [0] rfl)
        · have hm := it_t c10 hm
          refine lv_aload_n hx hb dX6_voiceOf_45 rfl (lv_at hl 0 rfl) ?_
          refine va_get (D := D) (ci := 6) (v := .ref (am 18)) (C := RX6) (T := TX6) (N := 49) hx hb htg inX6 hown hK hP 0 rfl rfl 18 (by decide) (htg _ q_4_207) (fun _ h9 => h9) rfl dX6_voiceOf_46 ?_
          refine lv_iload_n hx hb dX6_voiceOf_49 rfl (lv_at hl 1 rfl) ?_
          obtain ⟨hi15, hm⟩ := gd_s hm
          refine va_iald hx hb hK hP 3 0 rfl rfl hi15 dX6_voiceOf_50 ?_
          refine lv_goto (tgt := 73) hx hb dX6_voiceOf_51 (by decide) ?_
          exact B_73 _ _ _ _ _ hm hP hD hS (lv_sub hl [0] rfl)
      · have hm := it_t c9 hm
        refine lv_aload_n hx hb dX6_voiceOf_31 rfl (lv_at hl 0 rfl) ?_
        refine va_get (D := D) (ci := 6) (v := .ref (am 17)) (C := RX6) (T := TX6) (N := 49) hx hb htg inX6 hown hK hP 0 rfl rfl 17 (by decide) (htg _ q_4_206) (fun _ h9 => h9) rfl dX6_voiceOf_32 ?_
        refine lv_iload_n hx hb dX6_voiceOf_35 rfl (lv_at hl 1 rfl) ?_
        obtain ⟨hi16, hm⟩ := gd_s hm
        refine va_iald hx hb hK hP 2 0 rfl rfl hi16 dX6_voiceOf_36 ?_
        refine lv_goto (tgt := 73) hx hb dX6_voiceOf_37 (by decide) ?_
        exact B_73 _ _ _ _ _ hm hP hD hS (lv_sub hl [0] rfl)
    · have hm := it_t c8 hm
      exact B_20 _ _ _ _ hm hP hD hS (lv_sub hl [0] rfl)
def b_X6_back_35 (fu : Nat) (t : Nat → Int32) (t_L : Nat → Int64) (t_kind : Nat → Int32) (t_pitch : Nat → Int32) (s0 : Int32) (t_refused : Nat → Int32) : Option (Int32 × (Nat → Int32)) :=
  some (s0, t_refused)
def b_X6_back_29 (fu : Nat) (t : Nat → Int32) (t_L : Nat → Int64) (t_kind : Nat → Int32) (t_pitch : Nat → Int32) (t_refused : Nat → Int32) : Option (Int32 × (Nat → Int32)) :=
  (m_X6_refuse fu t t_L t_refused (-2 : Int32)).bind fun o1 =>
    b_X6_back_35 fu t t_L t_kind t_pitch o1.1 o1.2
def m_X6_back (fu : Nat) (t : Nat → Int32) (t_L : Nat → Int64) (t_refused : Nat → Int32) (t_kind : Nat → Int32) (t_pitch : Nat → Int32) (l1 : Int32) (l2 : Int32) : Option (Int32 × (Nat → Int32)) :=
  (m_X6_isVoice fu t t_L l1).bind fun o3 =>
  (if o3.1 = 0 then
    b_X6_back_29 fu t t_L t_kind t_pitch t_refused
  else
    (m_X6_in fu l2.toInt64 (0 : Int64) (39 : Int64)).bind fun o6 =>
    (if o6.1 = 0 then
      b_X6_back_29 fu t t_L t_kind t_pitch t_refused
    else
      (m_X6_comesBack fu t t_L t_kind t_pitch l1 l2).bind fun o9 =>
      b_X6_back_35 fu t t_L t_kind t_pitch o9.1 t_refused))
abbrev rm_X6_back : Room := ({ frames := 2, cells := 0, slots := 0, locals := 46 } : Room)
abbrev w0_X6_back (cA : Nat → ClassId) (am : Nat → Nat) (tkv : Value) (ttv : Value) (t : Nat → Int32) (t_L : Nat → Int64) (t_refused : Nat → Int32) (t_kind : Nat → Int32) (t_pitch : Nat → Int32) : va_W := [((am 0), e_X6 am tkv ttv t t_L), ((am 16), eI cA 8 t_refused), ((am 17), eI cA 8 t_kind), ((am 19), eI cA 8 t_pitch)]
abbrev w1_X6_back (cA : Nat → ClassId) (am : Nat → Nat) (tkv : Value) (ttv : Value) (t : Nat → Int32) (t_L : Nat → Int64) (t_kind : Nat → Int32) (t_pitch : Nat → Int32) (u : (Nat → Int32)) : va_W := [((am 0), e_X6 am tkv ttv t t_L), ((am 16), eI cA 8 u), ((am 17), eI cA 8 t_kind), ((am 19), eI cA 8 t_pitch)]
theorem hd_X6_back : yX6_back.cls = RX6 ∧ yX6_back.cls ≠ "java/lang/invoke/MethodHandle" ∧ yX6_back.cls ≠ "java/lang/invoke/VarHandle" ∧ (parseMethodDescriptor yX6_back.desc).map (fun d => d.parameters.length) = some 2 := by decide +kernel
set_option maxHeartbeats 40000000 in
set_option maxRecDepth 100000 in
theorem c_X6_back (l : Launch) (D : va_G) (cA : Nat → ClassId) (sz : Nat) (fu : Nat) (am : Nat → Nat) (tkv : Value) (ttv : Value) (t : Nat → Int32) (t_L : Nat → Int64) (t_refused : Nat → Int32) (t_kind : Nat → Int32) (t_pitch : Nat → Int32) (l1 : Int32) (l2 : Int32) (out : Int32 × (Nat → Int32)) (hm : m_X6_back fu t t_L t_refused t_kind t_pitch l1 l2 = some out) : MI l yX6_back (wU yX6_back cX6_back 3 ((Option.some Jvm.ClassFile.FieldType.int))) rm_X6_back D cA sz [.ref (am 0), .int l1, .int l2] (w0_X6_back cA am tkv ttv t t_L t_refused t_kind t_pitch) out (w1_X6_back cA am tkv ttv t t_L t_kind t_pitch) := by
  refine Met.ofW (cc := cX6_back) (maxL := 3) (ret := (Option.some Jvm.ClassFile.FieldType.int)) (by decide) rfl ?_
  intro p e s m args below meth c s₁ B hml hv
  obtain ⟨hargs, hsz, hP, hK, hD0, hN⟩ := hv
  have hx := B.exec
  have hb := B.bytes
  have hr := B.returns
  have htg : ∀ w ∈ gw, w.before args s = true := fun w h => atoms_spec (ws := wU yX6_back cX6_back 3 ((Option.some Jvm.ClassFile.FieldType.int))) B.pre w (List.mem_cons_of_mem _ h)
  have hown : s.vm.findClass RX6 = some m.cls := findClass_of_methodNamed B.named
  have hlocks := B.notSynchronized
  subst hsz
  have hD := hD0.self (sz := s.heap.size)
  have hA : ∀ q : Nat, s.heap.size ≤ q → va_A (w0_X6_back cA am tkv ttv t t_L t_refused t_kind t_pitch) s.heap.size q := fun q h => Or.inr h
  have hS : va_S (va_A (w0_X6_back cA am tkv ttv t t_L t_refused t_kind t_pitch) s.heap.size) s.heap s.heap [] := va_S.rf
  generalize va_A (w0_X6_back cA am tkv ttv t t_L t_refused t_kind t_pitch) s.heap.size = A at hA hD hS ⊢
  obtain ⟨Q, hQ⟩ : ∃ Q : State → Prop, Q = MQ below (va_Qi (fun (r : Int32) (u : (Nat → Int32)) => (r, u) = out) (pst0 D cA A (w1_X6_back cA am tkv ttv t t_L t_kind t_pitch)) A) args s 0 0 A := ⟨_, rfl⟩
  refine (?_ : W p l e rm_X6_back s m args below meth c s.heap [] 0 0 (MQ below (va_Qi (fun (r : Int32) (u : (Nat → Int32)) => (r, u) = out) (pst0 D cA A (w1_X6_back cA am tkv ttv t t_L t_kind t_pitch)) A) args s 0 0 A) (entryFrame m args 3))
  rw [← hQ]
  have hP : va_P D CL [((am 0), e_X6 am tkv ttv t t_L), ((am 16), eI cA 8 t_refused), ((am 17), eI cA 8 t_kind), ((am 19), eI cA 8 t_pitch)] s.heap := hP
  have hD : va_D A [((am 0), e_X6 am tkv ttv t t_L), ((am 16), eI cA 8 t_refused), ((am 17), eI cA 8 t_kind), ((am 19), eI cA 8 t_pitch)] := hD
  have B_35 : ∀ (s0 : Int32) (t_refused : Nat → Int32) (H : Heap) (locs : List Loc) (ls : Array Slot), b_X6_back_35 fu t t_L t_kind t_pitch s0 t_refused = some out → va_P D CL [((am 0), e_X6 am tkv ttv t t_L), ((am 16), eI cA 8 t_refused), ((am 17), eI cA 8 t_kind), ((am 19), eI cA 8 t_pitch)] H → va_D A [((am 0), e_X6 am tkv ttv t t_L), ((am 16), eI cA 8 t_refused), ((am 17), eI cA 8 t_kind), ((am 19), eI cA 8 t_pitch)] → va_S A s.heap H locs → lv_has ls 3 [(0, .ref (am 0))] → W p l e rm_X6_back s m args below meth c H locs 0 0 Q (F0 m 35 ls [.int s0]) := by
    intro  s0 t_refused H locs ls hm hP hD hS hl
    unfold b_X6_back_35 at hm
    rw [hQ]
    exact W.iret (v := s0) hx hb hr (fun t9 ht hW => ⟨⟨s0, t_refused, rfl, (Option.some.inj hm), by rw [ht]; exact hP, va_K.moved hW.alike hK, hD⟩, hS.F ht⟩) hS.2.2 dX6_back_35
  have B_29 : ∀ (t_refused : Nat → Int32) (H : Heap) (locs : List Loc) (ls : Array Slot), b_X6_back_29 fu t t_L t_kind t_pitch t_refused = some out → va_P D CL [((am 0), e_X6 am tkv ttv t t_L), ((am 16), eI cA 8 t_refused), ((am 17), eI cA 8 t_kind), ((am 19), eI cA 8 t_pitch)] H → va_D A [((am 0), e_X6 am tkv ttv t t_L), ((am 16), eI cA 8 t_refused), ((am 17), eI cA 8 t_kind), ((am 19), eI cA 8 t_pitch)] → va_S A s.heap H locs → lv_has ls 3 [(0, .ref (am 0))] → W p l e rm_X6_back s m args below meth c H locs 0 0 Q (F0 m 29 ls []) := by
    intro  t_refused H locs ls hm hP hD hS hl
    unfold b_X6_back_29 at hm
    refine lv_aload_n hx hb dX6_back_29 rfl (lv_at hl 0 rfl) ?_
    refine lv_bipush (v := (-2 : Int32)) hx hb dX6_back_30 (by decide) ?_
    obtain ⟨o1, ho2, hm⟩ := bd_s hm
    refine xr_i (wr := [((am 17), eI cA 8 t_kind), ((am 19), eI cA 8 t_pitch)]) (wn := [((am 0), e_X6 am tkv ttv t t_L), ((am 16), eI cA 8 o1.2), ((am 17), eI cA 8 t_kind), ((am 19), eI cA 8 t_pitch)]) (va_runV (As := [.int (-2 : Int32)]) (rest := []) ⟨hx, hb, hml, hown, htg⟩ (c_X6_refuse l D cA _ fu am tkv ttv t t_L t_refused (-2 : Int32) o1 ho2) (cwV 1 htg (gV q_5_108 q_5_110 q_p5_7 q_1_8 q_5_111) rfl rfl rfl hd_X6_refuse ⟨Nat.le_of_ble_eq_true rfl, Nat.le_of_ble_eq_true rfl⟩) (xpV hN hK hP hD [0, 1] rfl (by decide) rfl rfl) rfl rfl hl.1 rfl (lv_room (Nat.le_of_ble_eq_true rfl)) dX6_back_32 ⟨Nat.zero_le _, Nat.zero_le _⟩) hP hD hS hA [0, 1] [2, 3] [2, 3, 0, 1] rfl rfl (by decide) (by decide) rfl (by decide) (fun H locs hP hD hS => ?_)
    exact B_35 _ _ _ _ _ hm hP hD hS (lv_sub hl [0] rfl)
  unfold m_X6_back at hm
  subst hargs
  have hl := lv_entry ([.ref (am 0), .int l1, .int l2]) (n := 3) (Nat.le_of_ble_eq_true rfl)
  rw [lg_entry_eq]
  generalize (lg_sl ([.ref (am 0), .int l1, .int l2]) ++ List.replicate (3 - (lg_sl ([.ref (am 0), .int l1, .int l2])).length) Slot.unset).toArray = ls at hl ⊢
  have hl : lv_has ls 3 [(0, .ref (am 0)), (1, .int l1), (2, .int l2)] := hl
  refine lv_aload_n hx hb dX6_back_0 rfl (lv_at hl 0 rfl) ?_
  refine lv_iload_n hx hb dX6_back_1 rfl (lv_at hl 1 rfl) ?_
  obtain ⟨o3, ho4, hm⟩ := bd_s hm
  refine xr_i (wr := [((am 16), eI cA 8 t_refused), ((am 17), eI cA 8 t_kind), ((am 19), eI cA 8 t_pitch)]) (wn := [((am 0), e_X6 am tkv ttv t t_L), ((am 16), eI cA 8 t_refused), ((am 17), eI cA 8 t_kind), ((am 19), eI cA 8 t_pitch)]) (va_runV (As := [.int l1]) (rest := []) ⟨hx, hb, hml, hown, htg⟩ (c_X6_isVoice l D cA _ fu am tkv ttv t t_L l1 o3 ho4) (cwV 1 htg (gV q_5_139 q_5_141 q_p5_9 q_1_8 q_5_142) rfl rfl rfl hd_X6_isVoice ⟨Nat.le_of_ble_eq_true rfl, Nat.le_of_ble_eq_true rfl⟩) (xpV hN hK hP hD [0] rfl (by decide) rfl rfl) rfl rfl hl.1 rfl (lv_room (Nat.le_of_ble_eq_true rfl)) dX6_back_2 ⟨Nat.zero_le _, Nat.zero_le _⟩) hP hD hS hA [0] [1, 2, 3] [3, 0, 1, 2] rfl rfl (by decide) (by decide) rfl (by decide) (fun H locs hP hD hS => ?_)
  refine lv_if_eq (tgt := 29) hx hb dX6_back_5 (by decide) (fun c5 => ?_) (fun c5 => ?_)
  · have hm := it_t c5 hm
    exact B_29 _ _ _ _ hm hP hD hS (lv_sub hl [0] rfl)
  · have hm := it_f c5 hm
    refine lv_iload_n hx hb dX6_back_8 rfl (lv_at hl 2 rfl) ?_
    refine lv_i2l hx hb dX6_back_9 rfl ?_
    refine lv_lconst (v := (0 : Int64)) hx hb dX6_back_10 (by decide) ?_
    refine lv_ldc2 (v := (39 : Int64)) hx hb hown (htg _ q_6_24) dX6_back_11 ?_
    obtain ⟨o6, ho7, hm⟩ := bd_s hm
    refine xr_i (wr := [((am 0), e_X6 am tkv ttv t t_L), ((am 16), eI cA 8 t_refused), ((am 17), eI cA 8 t_kind), ((am 19), eI cA 8 t_pitch)]) (wn := [((am 0), e_X6 am tkv ttv t t_L), ((am 16), eI cA 8 t_refused), ((am 17), eI cA 8 t_kind), ((am 19), eI cA 8 t_pitch)]) (va_runS (As := [.long l2.toInt64, .long (0 : Int64), .long (39 : Int64)]) (rest := []) ⟨hx, hb, hml, hown, htg⟩ (c_X6_in l D cA _ fu l2.toInt64 (0 : Int64) (39 : Int64) o6 ho7) (cwS 3 htg (gS q_5_103 q_5_104 q_1_8 q_5_105) rfl rfl rfl hd_X6_in ⟨Nat.le_of_ble_eq_true rfl, Nat.le_of_ble_eq_true rfl⟩) (xpS hN hK hP hD [] rfl (by decide)) rfl rfl hl.1 rfl (lv_room (Nat.le_of_ble_eq_true rfl)) dX6_back_14 ⟨Nat.zero_le _, Nat.zero_le _⟩) hP hD hS hA [] [0, 1, 2, 3] [0, 1, 2, 3] rfl rfl (by decide) (by decide) rfl (by decide) (fun H locs hP hD hS => ?_)
    refine lv_if_eq (tgt := 29) hx hb dX6_back_17 (by decide) (fun c8 => ?_) (fun c8 => ?_)
    · have hm := it_t c8 hm
      exact B_29 _ _ _ _ hm hP hD hS (lv_sub hl [0] rfl)
    · have hm := it_f c8 hm
      refine lv_aload_n hx hb dX6_back_20 rfl (lv_at hl 0 rfl) ?_
      refine lv_iload_n hx hb dX6_back_21 rfl (lv_at hl 1 rfl) ?_
      refine lv_iload_n hx hb dX6_back_22 rfl (lv_at hl 2 rfl) ?_
      obtain ⟨o9, ho10, hm⟩ := bd_s hm
      refine xr_i (wr := [((am 16), eI cA 8 t_refused)]) (wn := [((am 0), e_X6 am tkv ttv t t_L), ((am 16), eI cA 8 t_refused), ((am 17), eI cA 8 t_kind), ((am 19), eI cA 8 t_pitch)]) (va_runV (As := [.int l1, .int l2]) (rest := []) ⟨hx, hb, hml, hown, htg⟩ (c_X6_comesBack l D cA _ fu am tkv ttv t t_L t_kind t_pitch l1 l2 o9 ho10) (cwV 2 htg (gV q_5_159 q_5_161 q_p5_12 q_1_8 q_5_162) rfl rfl rfl hd_X6_comesBack ⟨Nat.le_of_ble_eq_true rfl, Nat.le_of_ble_eq_true rfl⟩) (xpV hN hK hP hD [0, 2, 3] rfl (by decide) rfl rfl) rfl rfl hl.1 rfl (lv_room (Nat.le_of_ble_eq_true rfl)) dX6_back_23 ⟨Nat.zero_le _, Nat.zero_le _⟩) hP hD hS hA [0, 2, 3] [1] [1, 0, 2, 3] rfl rfl (by decide) (by decide) rfl (by decide) (fun H locs hP hD hS => ?_)
      refine lv_goto (tgt := 35) hx hb dX6_back_26 (by decide) ?_
      exact B_35 _ _ _ _ _ hm hP hD hS (lv_sub hl [0] rfl)
def b_X6_lost_41 (fu : Nat) (t : Nat → Int32) (t_L : Nat → Int64) (t_kind : Nat → Int32) (t_pitch : Nat → Int32) (k_19 : (Int32 × Int32 × Int32 × (Nat → Int32)) → Option (Int32 × (Nat → Int32))) (l1 : Int32) (l3 : Int32) (s0 : Int32) (s1 : Int32) (t_refused : Nat → Int32) : Option (Int32 × (Nat → Int32)) :=
  k_19 (l1, (s0 + s1), (l3 + (1 : Int32)), t_refused)
def b_X6_lost_19 (fu : Nat) (t : Nat → Int32) (t_L : Nat → Int64) (t_kind : Nat → Int32) (t_pitch : Nat → Int32) (k_19 : (Int32 × Int32 × Int32 × (Nat → Int32)) → Option (Int32 × (Nat → Int32))) (x : Int32 × Int32 × Int32 × (Nat → Int32)) : Option (Int32 × (Nat → Int32)) :=
  (if (40 : Int32) ≤ x.2.2.1 then
        some (x.2.1, x.2.2.2)
      else
        (m_X6_comesBack fu t t_L t_kind t_pitch x.1 x.2.2.1).bind fun o2 =>
        (if o2.1 = (-1 : Int32) then
          b_X6_lost_41 fu t t_L t_kind t_pitch k_19 x.1 x.2.2.1 x.2.1 (1 : Int32) x.2.2.2
        else
          b_X6_lost_41 fu t t_L t_kind t_pitch k_19 x.1 x.2.2.1 x.2.1 (0 : Int32) x.2.2.2))
def m_X6_lost (fu : Nat) (t : Nat → Int32) (t_L : Nat → Int64) (t_refused : Nat → Int32) (t_kind : Nat → Int32) (t_pitch : Nat → Int32) (l1 : Int32) : Option (Int32 × (Nat → Int32)) :=
  (m_X6_isVoice fu t t_L l1).bind fun o5 =>
  (if o5.1 = 0 then
    (m_X6_refuse fu t t_L t_refused (-2 : Int32)).bind fun o8 =>
    some (o8.1, o8.2)
  else
    lfix (b_X6_lost_19 fu t t_L t_kind t_pitch) fu (l1, (0 : Int32), (0 : Int32), t_refused))
abbrev rm_X6_lost : Room := ({ frames := 2, cells := 0, slots := 0, locals := 46 } : Room)
abbrev w0_X6_lost (cA : Nat → ClassId) (am : Nat → Nat) (tkv : Value) (ttv : Value) (t : Nat → Int32) (t_L : Nat → Int64) (t_refused : Nat → Int32) (t_kind : Nat → Int32) (t_pitch : Nat → Int32) : va_W := [((am 0), e_X6 am tkv ttv t t_L), ((am 16), eI cA 8 t_refused), ((am 17), eI cA 8 t_kind), ((am 19), eI cA 8 t_pitch)]
abbrev w1_X6_lost (cA : Nat → ClassId) (am : Nat → Nat) (tkv : Value) (ttv : Value) (t : Nat → Int32) (t_L : Nat → Int64) (t_kind : Nat → Int32) (t_pitch : Nat → Int32) (u : (Nat → Int32)) : va_W := [((am 0), e_X6 am tkv ttv t t_L), ((am 16), eI cA 8 u), ((am 17), eI cA 8 t_kind), ((am 19), eI cA 8 t_pitch)]
theorem hd_X6_lost : yX6_lost.cls = RX6 ∧ yX6_lost.cls ≠ "java/lang/invoke/MethodHandle" ∧ yX6_lost.cls ≠ "java/lang/invoke/VarHandle" ∧ (parseMethodDescriptor yX6_lost.desc).map (fun d => d.parameters.length) = some 1 := by decide +kernel
set_option maxHeartbeats 40000000 in
set_option maxRecDepth 100000 in
theorem c_X6_lost (l : Launch) (D : va_G) (cA : Nat → ClassId) (sz : Nat) (fu : Nat) (am : Nat → Nat) (tkv : Value) (ttv : Value) (t : Nat → Int32) (t_L : Nat → Int64) (t_refused : Nat → Int32) (t_kind : Nat → Int32) (t_pitch : Nat → Int32) (l1 : Int32) (out : Int32 × (Nat → Int32)) (hm : m_X6_lost fu t t_L t_refused t_kind t_pitch l1 = some out) : MI l yX6_lost (wU yX6_lost cX6_lost 4 ((Option.some Jvm.ClassFile.FieldType.int))) rm_X6_lost D cA sz [.ref (am 0), .int l1] (w0_X6_lost cA am tkv ttv t t_L t_refused t_kind t_pitch) out (w1_X6_lost cA am tkv ttv t t_L t_kind t_pitch) := by
  refine Met.ofW (cc := cX6_lost) (maxL := 4) (ret := (Option.some Jvm.ClassFile.FieldType.int)) (by decide) rfl ?_
  intro p e s m args below meth c s₁ B hml hv
  obtain ⟨hargs, hsz, hP, hK, hD0, hN⟩ := hv
  have hx := B.exec
  have hb := B.bytes
  have hr := B.returns
  have htg : ∀ w ∈ gw, w.before args s = true := fun w h => atoms_spec (ws := wU yX6_lost cX6_lost 4 ((Option.some Jvm.ClassFile.FieldType.int))) B.pre w (List.mem_cons_of_mem _ h)
  have hown : s.vm.findClass RX6 = some m.cls := findClass_of_methodNamed B.named
  have hlocks := B.notSynchronized
  subst hsz
  have hD := hD0.self (sz := s.heap.size)
  have hA : ∀ q : Nat, s.heap.size ≤ q → va_A (w0_X6_lost cA am tkv ttv t t_L t_refused t_kind t_pitch) s.heap.size q := fun q h => Or.inr h
  have hS : va_S (va_A (w0_X6_lost cA am tkv ttv t t_L t_refused t_kind t_pitch) s.heap.size) s.heap s.heap [] := va_S.rf
  generalize va_A (w0_X6_lost cA am tkv ttv t t_L t_refused t_kind t_pitch) s.heap.size = A at hA hD hS ⊢
  obtain ⟨Q, hQ⟩ : ∃ Q : State → Prop, Q = MQ below (va_Qi (fun (r : Int32) (u : (Nat → Int32)) => (r, u) = out) (pst0 D cA A (w1_X6_lost cA am tkv ttv t t_L t_kind t_pitch)) A) args s 0 0 A := ⟨_, rfl⟩
  refine (?_ : W p l e rm_X6_lost s m args below meth c s.heap [] 0 0 (MQ below (va_Qi (fun (r : Int32) (u : (Nat → Int32)) => (r, u) = out) (pst0 D cA A (w1_X6_lost cA am tkv ttv t t_L t_kind t_pitch)) A) args s 0 0 A) (entryFrame m args 4))
  rw [← hQ]
  have hP : va_P D CL [((am 0), e_X6 am tkv ttv t t_L), ((am 16), eI cA 8 t_refused), ((am 17), eI cA 8 t_kind), ((am 19), eI cA 8 t_pitch)] s.heap := hP
  have hD : va_D A [((am 0), e_X6 am tkv ttv t t_L), ((am 16), eI cA 8 t_refused), ((am 17), eI cA 8 t_kind), ((am 19), eI cA 8 t_pitch)] := hD
  have B_41 : ∀ (k_19 : (Int32 × Int32 × Int32 × (Nat → Int32)) → Option (Int32 × (Nat → Int32))) (HK_19 : ∀ (x : Int32 × Int32 × Int32 × (Nat → Int32)) (H : Heap) (locs : List Loc) (ls : Array Slot), k_19 x = some out → va_P D CL [((am 0), e_X6 am tkv ttv t t_L), ((am 16), eI cA 8 x.2.2.2), ((am 17), eI cA 8 t_kind), ((am 19), eI cA 8 t_pitch)] H → va_D A [((am 0), e_X6 am tkv ttv t t_L), ((am 16), eI cA 8 x.2.2.2), ((am 17), eI cA 8 t_kind), ((am 19), eI cA 8 t_pitch)] → va_S A s.heap H locs → lv_has ls 4 [(0, .ref (am 0)), (1, .int x.1), (2, .int x.2.1), (3, .int x.2.2.1)] → W p l e rm_X6_lost s m args below meth c H locs 0 0 Q (F0 m 19 ls [])) (l1 : Int32) (l3 : Int32) (s0 : Int32) (s1 : Int32) (t_refused : Nat → Int32) (H : Heap) (locs : List Loc) (ls : Array Slot), b_X6_lost_41 fu t t_L t_kind t_pitch k_19 l1 l3 s0 s1 t_refused = some out → va_P D CL [((am 0), e_X6 am tkv ttv t t_L), ((am 16), eI cA 8 t_refused), ((am 17), eI cA 8 t_kind), ((am 19), eI cA 8 t_pitch)] H → va_D A [((am 0), e_X6 am tkv ttv t t_L), ((am 16), eI cA 8 t_refused), ((am 17), eI cA 8 t_kind), ((am 19), eI cA 8 t_pitch)] → va_S A s.heap H locs → lv_has ls 4 [(0, .ref (am 0)), (1, .int l1), (3, .int l3)] → W p l e rm_X6_lost s m args below meth c H locs 0 0 Q (F0 m 41 ls [.int s1, .int s0]) := by
    intro k_19 HK_19 l1 l3 s0 s1 t_refused H locs ls hm hP hD hS hl
    unfold b_X6_lost_41 at hm
    refine lv_iadd hx hb dX6_lost_41 ?_
    refine lv_istore_n (lv' := [(2, .int (s0 + s1)), (0, .ref (am 0)), (1, .int l1), (3, .int l3)]) hx hb dX6_lost_42 rfl hl (by decide) rfl (fun ls hl => ?_)
    refine lv_iinc (v := (l3 + (1 : Int32))) (lv' := [(3, .int (l3 + (1 : Int32))), (2, .int (s0 + s1)), (0, .ref (am 0)), (1, .int l1)]) hx hb dX6_lost_43 hl (k := 3) rfl rfl (by decide) rfl (fun ls hl => ?_)
    refine lv_goto (tgt := 19) hx hb dX6_lost_46 (by decide) ?_
    exact HK_19 _ _ _ _ hm hP hD hS (lv_sub hl [2, 3, 1, 0] rfl)
  have B_19 : ∀ (n : Nat) (x : Int32 × Int32 × Int32 × (Nat → Int32)) (H : Heap) (locs : List Loc) (ls : Array Slot), lfix (b_X6_lost_19 fu t t_L t_kind t_pitch) n x = some out → va_P D CL [((am 0), e_X6 am tkv ttv t t_L), ((am 16), eI cA 8 x.2.2.2), ((am 17), eI cA 8 t_kind), ((am 19), eI cA 8 t_pitch)] H → va_D A [((am 0), e_X6 am tkv ttv t t_L), ((am 16), eI cA 8 x.2.2.2), ((am 17), eI cA 8 t_kind), ((am 19), eI cA 8 t_pitch)] → va_S A s.heap H locs → lv_has ls 4 [(0, .ref (am 0)), (1, .int x.1), (2, .int x.2.1), (3, .int x.2.2.1)] → W p l e rm_X6_lost s m args below meth c H locs 0 0 Q (F0 m 19 ls []) := by
    intro  n
    induction n with
    | zero => intro x H locs ls hm; cases (show none = some out from hm)
    | succ n HK_19 =>
      intro x H locs ls hm hP hD hS hl
      replace hm : b_X6_lost_19 fu t t_L t_kind t_pitch (lfix (b_X6_lost_19 fu t t_L t_kind t_pitch) n) x = some out := hm
      unfold b_X6_lost_19 at hm
      refine lv_iload_n hx hb dX6_lost_19 rfl (lv_at hl 3 rfl) ?_
      refine lv_bipush (v := (40 : Int32)) hx hb dX6_lost_20 (by decide) ?_
      refine lv_icmp_ge (tgt := 49) hx hb dX6_lost_22 (by decide) (fun c1 => ?_) (fun c1 => ?_)
      · have hm := it_t c1 hm
        refine lv_iload_n hx hb dX6_lost_49 rfl (lv_at hl 2 rfl) ?_
        rw [hQ]
        exact W.iret (v := x.2.1) hx hb hr (fun t9 ht hW => ⟨⟨x.2.1, x.2.2.2, rfl, (Option.some.inj hm), by rw [ht]; exact hP, va_K.moved hW.alike hK, hD⟩, hS.F ht⟩) hS.2.2 dX6_lost_50
      · have hm := it_f c1 hm
        refine lv_iload_n hx hb dX6_lost_25 rfl (lv_at hl 2 rfl) ?_
        refine lv_aload_n hx hb dX6_lost_26 rfl (lv_at hl 0 rfl) ?_
        refine lv_iload_n hx hb dX6_lost_27 rfl (lv_at hl 1 rfl) ?_
        refine lv_iload_n hx hb dX6_lost_28 rfl (lv_at hl 3 rfl) ?_
        obtain ⟨o2, ho3, hm⟩ := bd_s hm
        refine xr_i (wr := [((am 16), eI cA 8 x.2.2.2)]) (wn := [((am 0), e_X6 am tkv ttv t t_L), ((am 16), eI cA 8 x.2.2.2), ((am 17), eI cA 8 t_kind), ((am 19), eI cA 8 t_pitch)]) (va_runV (As := [.int x.1, .int x.2.2.1]) (rest := [.int x.2.1]) ⟨hx, hb, hml, hown, htg⟩ (c_X6_comesBack l D cA _ fu am tkv ttv t t_L t_kind t_pitch x.1 x.2.2.1 o2 ho3) (cwV 2 htg (gV q_5_159 q_5_161 q_p5_12 q_1_8 q_5_162) rfl rfl rfl hd_X6_comesBack ⟨Nat.le_of_ble_eq_true rfl, Nat.le_of_ble_eq_true rfl⟩) (xpV hN hK hP hD [0, 2, 3] rfl (by decide) rfl rfl) rfl rfl hl.1 rfl (lv_room (Nat.le_of_ble_eq_true rfl)) dX6_lost_29 ⟨Nat.zero_le _, Nat.zero_le _⟩) hP hD hS hA [0, 2, 3] [1] [1, 0, 2, 3] rfl rfl (by decide) (by decide) rfl (by decide) (fun H locs hP hD hS => ?_)
        refine lv_iconst (v := (-1 : Int32)) hx hb dX6_lost_32 (by decide) ?_
        refine lv_icmp_ne (tgt := 40) hx hb dX6_lost_33 (by decide) (fun c4 => ?_) (fun c4 => ?_)
        · have hm := it_f c4 hm
          refine lv_iconst (v := (0 : Int32)) hx hb dX6_lost_40 (by decide) ?_
          exact B_41 _ HK_19 _ _ _ _ _ _ _ _ hm hP hD hS (lv_sub hl [0, 1, 3] rfl)
        · have hm := it_t c4 hm
          refine lv_iconst (v := (1 : Int32)) hx hb dX6_lost_36 (by decide) ?_
          refine lv_goto (tgt := 41) hx hb dX6_lost_37 (by decide) ?_
          exact B_41 _ HK_19 _ _ _ _ _ _ _ _ hm hP hD hS (lv_sub hl [0, 1, 3] rfl)
  unfold m_X6_lost at hm
  subst hargs
  have hl := lv_entry ([.ref (am 0), .int l1]) (n := 4) (Nat.le_of_ble_eq_true rfl)
  rw [lg_entry_eq]
  generalize (lg_sl ([.ref (am 0), .int l1]) ++ List.replicate (4 - (lg_sl ([.ref (am 0), .int l1])).length) Slot.unset).toArray = ls at hl ⊢
  have hl : lv_has ls 4 [(0, .ref (am 0)), (1, .int l1)] := hl
  refine lv_aload_n hx hb dX6_lost_0 rfl (lv_at hl 0 rfl) ?_
  refine lv_iload_n hx hb dX6_lost_1 rfl (lv_at hl 1 rfl) ?_
  obtain ⟨o5, ho6, hm⟩ := bd_s hm
  refine xr_i (wr := [((am 16), eI cA 8 t_refused), ((am 17), eI cA 8 t_kind), ((am 19), eI cA 8 t_pitch)]) (wn := [((am 0), e_X6 am tkv ttv t t_L), ((am 16), eI cA 8 t_refused), ((am 17), eI cA 8 t_kind), ((am 19), eI cA 8 t_pitch)]) (va_runV (As := [.int l1]) (rest := []) ⟨hx, hb, hml, hown, htg⟩ (c_X6_isVoice l D cA _ fu am tkv ttv t t_L l1 o5 ho6) (cwV 1 htg (gV q_5_139 q_5_141 q_p5_9 q_1_8 q_5_142) rfl rfl rfl hd_X6_isVoice ⟨Nat.le_of_ble_eq_true rfl, Nat.le_of_ble_eq_true rfl⟩) (xpV hN hK hP hD [0] rfl (by decide) rfl rfl) rfl rfl hl.1 rfl (lv_room (Nat.le_of_ble_eq_true rfl)) dX6_lost_2 ⟨Nat.zero_le _, Nat.zero_le _⟩) hP hD hS hA [0] [1, 2, 3] [3, 0, 1, 2] rfl rfl (by decide) (by decide) rfl (by decide) (fun H locs hP hD hS => ?_)
  refine lv_if_ne (tgt := 15) hx hb dX6_lost_5 (by decide) (fun c7 => ?_) (fun c7 => ?_)
  · have hm := it_f c7 hm
    refine lv_iconst (v := (0 : Int32)) hx hb dX6_lost_15 (by decide) ?_
    refine lv_istore_n (lv' := [(2, .int (0 : Int32)), (0, .ref (am 0)), (1, .int l1)]) hx hb dX6_lost_16 rfl hl (by decide) rfl (fun ls hl => ?_)
    refine lv_iconst (v := (0 : Int32)) hx hb dX6_lost_17 (by decide) ?_
    refine lv_istore_n (lv' := [(3, .int (0 : Int32)), (2, .int (0 : Int32)), (0, .ref (am 0)), (1, .int l1)]) hx hb dX6_lost_18 rfl hl (by decide) rfl (fun ls hl => ?_)
    exact B_19 fu _ _ _ _ hm hP hD hS (lv_sub hl [2, 3, 1, 0] rfl)
  · have hm := it_t c7 hm
    refine lv_aload_n hx hb dX6_lost_8 rfl (lv_at hl 0 rfl) ?_
    refine lv_bipush (v := (-2 : Int32)) hx hb dX6_lost_9 (by decide) ?_
    obtain ⟨o8, ho9, hm⟩ := bd_s hm
    refine xr_i (wr := [((am 17), eI cA 8 t_kind), ((am 19), eI cA 8 t_pitch)]) (wn := [((am 0), e_X6 am tkv ttv t t_L), ((am 16), eI cA 8 o8.2), ((am 17), eI cA 8 t_kind), ((am 19), eI cA 8 t_pitch)]) (va_runV (As := [.int (-2 : Int32)]) (rest := []) ⟨hx, hb, hml, hown, htg⟩ (c_X6_refuse l D cA _ fu am tkv ttv t t_L t_refused (-2 : Int32) o8 ho9) (cwV 1 htg (gV q_5_108 q_5_110 q_p5_7 q_1_8 q_5_111) rfl rfl rfl hd_X6_refuse ⟨Nat.le_of_ble_eq_true rfl, Nat.le_of_ble_eq_true rfl⟩) (xpV hN hK hP hD [0, 1] rfl (by decide) rfl rfl) rfl rfl hl.1 rfl (lv_room (Nat.le_of_ble_eq_true rfl)) dX6_lost_11 ⟨Nat.zero_le _, Nat.zero_le _⟩) hP hD hS hA [0, 1] [2, 3] [2, 3, 0, 1] rfl rfl (by decide) (by decide) rfl (by decide) (fun H locs hP hD hS => ?_)
    rw [hQ]
    exact W.iret (v := o8.1) hx hb hr (fun t9 ht hW => ⟨⟨o8.1, o8.2, rfl, (Option.some.inj hm), by rw [ht]; exact hP, va_K.moved hW.alike hK, hD⟩, hS.F ht⟩) hS.2.2 dX6_lost_14
