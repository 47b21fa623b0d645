def b_X6_held_20 (fu : Nat) (s0 : Int32) : Option (Int32 × Unit) :=
  some (s0, ())
def m_X6_held (fu : Nat) (l0 : Int32) : Option (Int32 × Unit) :=
  (if 0 ≤ l0 then
    (if l0 ≤ (40 : Int32) then
      b_X6_held_20 fu l0
    else
      b_X6_held_20 fu (40 : Int32))
  else
    b_X6_held_20 fu (0 : Int32))
abbrev rm_X6_held : Room := ({ frames := 0, cells := 0, slots := 0, locals := 0 } : Room)
abbrev w0_X6_held (cA : Nat → ClassId)  : va_W := []
abbrev w1_X6_held (cA : Nat → ClassId)  (u : Unit) : va_W := []
theorem hd_X6_held : yX6_held.cls = RX6 ∧ yX6_held.cls ≠ "java/lang/invoke/MethodHandle" ∧ yX6_held.cls ≠ "java/lang/invoke/VarHandle" ∧ (parseMethodDescriptor yX6_held.desc).map (fun d => d.parameters.length) = some 1 := by decide +kernel
set_option maxHeartbeats 40000000 in
set_option maxRecDepth 100000 in
theorem c_X6_held (l : Launch) (D : va_G) (cA : Nat → ClassId) (sz : Nat) (fu : Nat) (l0 : Int32) (out : Int32 × Unit) (hm : m_X6_held fu l0 = some out) : MI l yX6_held (wU yX6_held cX6_held 1 ((Option.some Jvm.ClassFile.FieldType.int))) rm_X6_held D cA sz [.int l0] (w0_X6_held cA ) out (w1_X6_held cA ) := by
  refine Met.ofW (cc := cX6_held) (maxL := 1) (ret := (Option.some Jvm.ClassFile.FieldType.int)) (by decide) rfl ?_
  intro p e s m args below meth c s₁ B hml hv
  obtain ⟨hargs, hsz, hP, hK, hD0, hN⟩ := hv
  have hx := B.exec
  have hb := B.bytes
  have hr := B.returns
  have htg : ∀ w ∈ gw, w.before args s = true := fun w h => atoms_spec (ws := wU yX6_held cX6_held 1 ((Option.some Jvm.ClassFile.FieldType.int))) B.pre w (List.mem_cons_of_mem _ h)
  have hown : s.vm.findClass RX6 = some m.cls := findClass_of_methodNamed B.named
  have hlocks := B.notSynchronized
  subst hsz
  have hD := hD0.self (sz := s.heap.size)
  have hA : ∀ q : Nat, s.heap.size ≤ q → va_A (w0_X6_held cA ) s.heap.size q := fun q h => Or.inr h
  have hS : va_S (va_A (w0_X6_held cA ) s.heap.size) s.heap s.heap [] := va_S.rf
  generalize va_A (w0_X6_held cA ) s.heap.size = A at hA hD hS ⊢
  obtain ⟨Q, hQ⟩ : ∃ Q : State → Prop, Q = MQ below (va_Qi (fun (r : Int32) (u : Unit) => (r, u) = out) (pst0 D cA A (w1_X6_held cA )) A) args s 0 0 A := ⟨_, rfl⟩
  refine (?_ : W p l e rm_X6_held s m args below meth c s.heap [] 0 0 (MQ below (va_Qi (fun (r : Int32) (u : Unit) => (r, u) = out) (pst0 D cA A (w1_X6_held cA )) A) args s 0 0 A) (entryFrame m args 1))
  rw [← hQ]
  have hP : va_P D CL [] s.heap := hP
  have hD : va_D A [] := hD
  have B_20 : ∀ (s0 : Int32) (H : Heap) (locs : List Loc) (ls : Array Slot), b_X6_held_20 fu s0 = some out → va_P D CL [] H → va_D A [] → va_S A s.heap H locs → lv_has ls 1 [] → W p l e rm_X6_held s m args below meth c H locs 0 0 Q (F0 m 20 ls [.int s0]) := by
    intro  s0 H locs ls hm hP hD hS hl
    unfold b_X6_held_20 at hm
    rw [hQ]
    exact W.iret (v := s0) hx hb hr (fun t9 ht hW => ⟨⟨s0, (), rfl, (Option.some.inj hm), by rw [ht]; exact hP, va_K.moved hW.alike hK, hD⟩, hS.F ht⟩) hS.2.2 dX6_held_20
  unfold m_X6_held at hm
  subst hargs
  have hl := lv_entry ([.int l0]) (n := 1) (Nat.le_of_ble_eq_true rfl)
  rw [lg_entry_eq]
  generalize (lg_sl ([.int l0]) ++ List.replicate (1 - (lg_sl ([.int l0])).length) Slot.unset).toArray = ls at hl ⊢
  have hl : lv_has ls 1 [(0, .int l0)] := hl
  refine lv_iload_n hx hb dX6_held_0 rfl (lv_at hl 0 rfl) ?_
  refine lv_if_ge (tgt := 8) hx hb dX6_held_1 (by decide) (fun c1 => ?_) (fun c1 => ?_)
  · have hm := it_t c1 hm
    refine lv_iload_n hx hb dX6_held_8 rfl (lv_at hl 0 rfl) ?_
    refine lv_bipush (v := (40 : Int32)) hx hb dX6_held_9 (by decide) ?_
    refine lv_icmp_le (tgt := 19) hx hb dX6_held_11 (by decide) (fun c2 => ?_) (fun c2 => ?_)
    · have hm := it_t c2 hm
      refine lv_iload_n hx hb dX6_held_19 rfl (lv_at hl 0 rfl) ?_
      exact B_20 _ _ _ _ hm hP hD hS (lv_sub hl [] rfl)
    · have hm := it_f c2 hm
      refine lv_bipush (v := (40 : Int32)) hx hb dX6_held_14 (by decide) ?_
      refine lv_goto (tgt := 20) hx hb dX6_held_16 (by decide) ?_
      exact B_20 _ _ _ _ hm hP hD hS (lv_sub hl [] rfl)
  · have hm := it_f c1 hm
    refine lv_iconst (v := (0 : Int32)) hx hb dX6_held_4 (by decide) ?_
    refine lv_goto (tgt := 20) hx hb dX6_held_5 (by decide) ?_
    exact B_20 _ _ _ _ hm hP hD hS (lv_sub hl [] rfl)
def b_X6_passes_41 (fu : Nat) (t_L : Nat → Int64) (s1 : Int32) (t : Nat → Int32) : Option ((Nat → Int32)) :=
  some (upd t 11 s1)
def m_X6_passes (fu : Nat) (t : Nat → Int32) (t_L : Nat → Int64) : Option ((Nat → Int32)) :=
  (m_X6_held fu ((t 9 + (1 : Int32)) - t 10)).bind fun o1 =>
  (if (9999 : Int32) ≤ t 11 then
    b_X6_passes_41 fu t_L (9999 : Int32) (upd t 9 o1.1)
  else
    b_X6_passes_41 fu t_L (t 11 + (1 : Int32)) (upd t 9 o1.1))
abbrev rm_X6_passes : Room := ({ frames := 1, cells := 0, slots := 0, locals := 20 } : Room)
abbrev w0_X6_passes (cA : Nat → ClassId) (am : Nat → Nat) (tkv : Value) (ttv : Value) (t : Nat → Int32) (t_L : Nat → Int64) : va_W := [((am 0), e_X6 am tkv ttv t t_L)]
abbrev w1_X6_passes (cA : Nat → ClassId) (am : Nat → Nat) (tkv : Value) (ttv : Value) (t_L : Nat → Int64) (u : (Nat → Int32)) : va_W := [((am 0), e_X6 am tkv ttv u t_L)]
theorem hd_X6_passes : yX6_passes.cls = RX6 ∧ yX6_passes.cls ≠ "java/lang/invoke/MethodHandle" ∧ yX6_passes.cls ≠ "java/lang/invoke/VarHandle" ∧ (parseMethodDescriptor yX6_passes.desc).map (fun d => d.parameters.length) = some 0 := by decide +kernel
set_option maxHeartbeats 40000000 in
set_option maxRecDepth 100000 in
theorem c_X6_passes (l : Launch) (D : va_G) (cA : Nat → ClassId) (sz : Nat) (fu : Nat) (am : Nat → Nat) (tkv : Value) (ttv : Value) (t : Nat → Int32) (t_L : Nat → Int64) (out : (Nat → Int32)) (hm : m_X6_passes fu t t_L = some out) : MV l yX6_passes (wU yX6_passes cX6_passes 1 ((Option.none : Option Jvm.ClassFile.FieldType))) rm_X6_passes D cA sz [.ref (am 0)] (w0_X6_passes cA am tkv ttv t t_L) out (w1_X6_passes cA am tkv ttv t_L) := by
  refine Met.ofW (cc := cX6_passes) (maxL := 1) (ret := (Option.none : Option Jvm.ClassFile.FieldType)) (by decide) rfl ?_
  intro p e s m args below meth c s₁ B hml hv
  obtain ⟨hargs, hsz, hP, hK, hD0, hN⟩ := hv
  have hx := B.exec
  have hb := B.bytes
  have hr := B.returns
  have htg : ∀ w ∈ gw, w.before args s = true := fun w h => atoms_spec (ws := wU yX6_passes cX6_passes 1 ((Option.none : Option Jvm.ClassFile.FieldType))) B.pre w (List.mem_cons_of_mem _ h)
  have hown : s.vm.findClass RX6 = some m.cls := findClass_of_methodNamed B.named
  have hlocks := B.notSynchronized
  subst hsz
  have hD := hD0.self (sz := s.heap.size)
  have hA : ∀ q : Nat, s.heap.size ≤ q → va_A (w0_X6_passes cA am tkv ttv t t_L) s.heap.size q := fun q h => Or.inr h
  have hS : va_S (va_A (w0_X6_passes cA am tkv ttv t t_L) s.heap.size) s.heap s.heap [] := va_S.rf
  generalize va_A (w0_X6_passes cA am tkv ttv t t_L) s.heap.size = A at hA hD hS ⊢
  obtain ⟨Q, hQ⟩ : ∃ Q : State → Prop, Q = MQ below (va_Qv (fun (u : (Nat → Int32)) => u = out) (pst0 D cA A (w1_X6_passes cA am tkv ttv t_L)) A) args s 0 0 A := ⟨_, rfl⟩
  refine (?_ : W p l e rm_X6_passes s m args below meth c s.heap [] 0 0 (MQ below (va_Qv (fun (u : (Nat → Int32)) => u = out) (pst0 D cA A (w1_X6_passes cA am tkv ttv t_L)) A) args s 0 0 A) (entryFrame m args 1))
  rw [← hQ]
  have hP : va_P D CL [((am 0), e_X6 am tkv ttv t t_L)] s.heap := hP
  have hD : va_D A [((am 0), e_X6 am tkv ttv t t_L)] := hD
  have B_41 : ∀ (s1 : Int32) (t : Nat → Int32) (H : Heap) (locs : List Loc) (ls : Array Slot), b_X6_passes_41 fu t_L s1 t = some out → va_P D CL [((am 0), e_X6 am tkv ttv t t_L)] H → va_D A [((am 0), e_X6 am tkv ttv t t_L)] → va_S A s.heap H locs → lv_has ls 1 [(0, .ref (am 0))] → W p l e rm_X6_passes s m args below meth c H locs 0 0 Q (F0 m 41 ls [.int s1, .ref (am 0)]) := by
    intro  s1 t H locs ls hm hP hD hS hl
    unfold b_X6_passes_41 at hm
    refine va_put (D := D) (ci := 6) (v := .int s1) (ty := .int) (C := RX6) (T := TX6) (N := 49) hx hb htg inX6 tyX6 tyX6_ok nmX6 hown hK hP hD hS 0 rfl rfl 11 (by decide) (htg _ q_4_200) (fun _ h9 => h9) rfl (by decide +kernel) rfl rfl (Nat.le_of_ble_eq_true rfl) dX6_passes_41 (fun H locs (hP : va_P D CL [((am 0), e_X6 am tkv ttv (upd t 11 s1) t_L)] H) (hD : va_D A [((am 0), e_X6 am tkv ttv (upd t 11 s1) t_L)]) hS => ?_)
    rw [hQ]
    exact W.vret hx hb hr (fun t9 ht hW => ⟨⟨(upd t 11 s1), rfl, (Option.some.inj hm), by rw [ht]; exact hP, va_K.moved hW.alike hK, hD⟩, hS.F ht⟩) hS.2.2 dX6_passes_44
  unfold m_X6_passes at hm
  subst hargs
  have hl := lv_entry ([.ref (am 0)]) (n := 1) (Nat.le_of_ble_eq_true rfl)
  rw [lg_entry_eq]
  generalize (lg_sl ([.ref (am 0)]) ++ List.replicate (1 - (lg_sl ([.ref (am 0)])).length) Slot.unset).toArray = ls at hl ⊢
  have hl : lv_has ls 1 [(0, .ref (am 0))] := hl
  refine lv_aload_n hx hb dX6_passes_0 rfl (lv_at hl 0 rfl) ?_
  refine lv_aload_n hx hb dX6_passes_1 rfl (lv_at hl 0 rfl) ?_
  refine va_get (D := D) (ci := 6) (v := .int (t 9)) (C := RX6) (T := TX6) (N := 49) hx hb htg inX6 hown hK hP 0 rfl rfl 9 (by decide) (htg _ q_4_198) (fun _ h9 => h9) rfl dX6_passes_2 ?_
  refine lv_iconst (v := (1 : Int32)) hx hb dX6_passes_5 (by decide) ?_
  refine lv_iadd hx hb dX6_passes_6 ?_
  refine lv_aload_n hx hb dX6_passes_7 rfl (lv_at hl 0 rfl) ?_
  refine va_get (D := D) (ci := 6) (v := .int (t 10)) (C := RX6) (T := TX6) (N := 49) hx hb htg inX6 hown hK hP 0 rfl rfl 10 (by decide) (htg _ q_4_199) (fun _ h9 => h9) rfl dX6_passes_8 ?_
  refine lv_isub hx hb dX6_passes_11 ?_
  obtain ⟨o1, ho2, hm⟩ := bd_s hm
  refine xr_i (wr := [((am 0), e_X6 am tkv ttv t t_L)]) (wn := [((am 0), e_X6 am tkv ttv t t_L)]) (va_runS (As := [.int ((t 9 + (1 : Int32)) - t 10)]) (rest := [.ref (am 0)]) ⟨hx, hb, hml, hown, htg⟩ (c_X6_held l D cA _ fu ((t 9 + (1 : Int32)) - t 10) o1 ho2) (cwS 1 htg (gS q_6_98 q_6_99 q_1_8 q_6_100) rfl rfl rfl hd_X6_held ⟨Nat.le_of_ble_eq_true rfl, Nat.le_of_ble_eq_true rfl⟩) (xpS hN hK hP hD [] rfl (by decide)) rfl rfl hl.1 rfl (lv_room (Nat.le_of_ble_eq_true rfl)) dX6_passes_12 ⟨Nat.zero_le _, Nat.zero_le _⟩) hP hD hS hA [] [0] [0] rfl rfl (by decide) (by decide) rfl (by decide) (fun H locs hP hD hS => ?_)
  refine va_put (D := D) (ci := 6) (v := .int o1.1) (ty := .int) (C := RX6) (T := TX6) (N := 49) hx hb htg inX6 tyX6 tyX6_ok nmX6 hown hK hP hD hS 0 rfl rfl 9 (by decide) (htg _ q_4_198) (fun _ h9 => h9) rfl (by decide +kernel) rfl rfl (Nat.le_of_ble_eq_true rfl) dX6_passes_15 (fun H locs (hP : va_P D CL [((am 0), e_X6 am tkv ttv (upd t 9 o1.1) t_L)] H) (hD : va_D A [((am 0), e_X6 am tkv ttv (upd t 9 o1.1) t_L)]) hS => ?_)
  refine lv_aload_n hx hb dX6_passes_18 rfl (lv_at hl 0 rfl) ?_
  refine lv_aload_n hx hb dX6_passes_19 rfl (lv_at hl 0 rfl) ?_
  refine va_get (D := D) (ci := 6) (v := .int (t 11)) (C := RX6) (T := TX6) (N := 49) hx hb htg inX6 hown hK hP 0 rfl rfl 11 (by decide) (htg _ q_4_200) (fun _ h9 => h9) rfl dX6_passes_20 ?_
  refine lv_sipush (v := (9999 : Int32)) hx hb dX6_passes_23 (by decide) ?_
  refine lv_icmp_ge (tgt := 38) hx hb dX6_passes_26 (by decide) (fun c3 => ?_) (fun c3 => ?_)
  · have hm := it_t c3 hm
    refine lv_sipush (v := (9999 : Int32)) hx hb dX6_passes_38 (by decide) ?_
    exact B_41 _ _ _ _ _ hm hP hD hS (lv_sub hl [0] rfl)
  · have hm := it_f c3 hm
    refine lv_aload_n hx hb dX6_passes_29 rfl (lv_at hl 0 rfl) ?_
    refine va_get (D := D) (ci := 6) (v := .int (t 11)) (C := RX6) (T := TX6) (N := 49) hx hb htg inX6 hown hK hP 0 rfl rfl 11 (by decide) (htg _ q_4_200) (fun _ h9 => h9) rfl dX6_passes_30 ?_
    refine lv_iconst (v := (1 : Int32)) hx hb dX6_passes_33 (by decide) ?_
    refine lv_iadd hx hb dX6_passes_34 ?_
    refine lv_goto (tgt := 41) hx hb dX6_passes_35 (by decide) ?_
    exact B_41 _ _ _ _ _ hm hP hD hS (lv_sub hl [0] rfl)
def m_X6_keeps (fu : Nat) (t : Nat → Int32) (t_L : Nat → Int64) : Option ((Nat → Int32)) :=
  some (upd (upd (upd t 35 (t 9)) 36 (t 11)) 37 (t 10))
abbrev rm_X6_keeps : Room := ({ frames := 0, cells := 0, slots := 0, locals := 0 } : Room)
abbrev w0_X6_keeps (cA : Nat → ClassId) (am : Nat → Nat) (tkv : Value) (ttv : Value) (t : Nat → Int32) (t_L : Nat → Int64) : va_W := [((am 0), e_X6 am tkv ttv t t_L)]
abbrev w1_X6_keeps (cA : Nat → ClassId) (am : Nat → Nat) (tkv : Value) (ttv : Value) (t_L : Nat → Int64) (u : (Nat → Int32)) : va_W := [((am 0), e_X6 am tkv ttv u t_L)]
theorem hd_X6_keeps : yX6_keeps.cls = RX6 ∧ yX6_keeps.cls ≠ "java/lang/invoke/MethodHandle" ∧ yX6_keeps.cls ≠ "java/lang/invoke/VarHandle" ∧ (parseMethodDescriptor yX6_keeps.desc).map (fun d => d.parameters.length) = some 0 := by decide +kernel
set_option maxHeartbeats 40000000 in
set_option maxRecDepth 100000 in
theorem c_X6_keeps (l : Launch) (D : va_G) (cA : Nat → ClassId) (sz : Nat) (fu : Nat) (am : Nat → Nat) (tkv : Value) (ttv : Value) (t : Nat → Int32) (t_L : Nat → Int64) (out : (Nat → Int32)) (hm : m_X6_keeps fu t t_L = some out) : MV l yX6_keeps (wU yX6_keeps cX6_keeps 1 ((Option.none : Option Jvm.ClassFile.FieldType))) rm_X6_keeps D cA sz [.ref (am 0)] (w0_X6_keeps cA am tkv ttv t t_L) out (w1_X6_keeps cA am tkv ttv t_L) := by
  refine Met.ofW (cc := cX6_keeps) (maxL := 1) (ret := (Option.none : Option Jvm.ClassFile.FieldType)) (by decide) rfl ?_
  intro p e s m args below meth c s₁ B hml hv
  obtain ⟨hargs, hsz, hP, hK, hD0, hN⟩ := hv
  have hx := B.exec
  have hb := B.bytes
  have hr := B.returns
  have htg : ∀ w ∈ gw, w.before args s = true := fun w h => atoms_spec (ws := wU yX6_keeps cX6_keeps 1 ((Option.none : Option Jvm.ClassFile.FieldType))) B.pre w (List.mem_cons_of_mem _ h)
  have hown : s.vm.findClass RX6 = some m.cls := findClass_of_methodNamed B.named
  have hlocks := B.notSynchronized
  subst hsz
  have hD := hD0.self (sz := s.heap.size)
  have hA : ∀ q : Nat, s.heap.size ≤ q → va_A (w0_X6_keeps cA am tkv ttv t t_L) s.heap.size q := fun q h => Or.inr h
  have hS : va_S (va_A (w0_X6_keeps cA am tkv ttv t t_L) s.heap.size) s.heap s.heap [] := va_S.rf
  generalize va_A (w0_X6_keeps cA am tkv ttv t t_L) s.heap.size = A at hA hD hS ⊢
  obtain ⟨Q, hQ⟩ : ∃ Q : State → Prop, Q = MQ below (va_Qv (fun (u : (Nat → Int32)) => u = out) (pst0 D cA A (w1_X6_keeps cA am tkv ttv t_L)) A) args s 0 0 A := ⟨_, rfl⟩
  refine (?_ : W p l e rm_X6_keeps s m args below meth c s.heap [] 0 0 (MQ below (va_Qv (fun (u : (Nat → Int32)) => u = out) (pst0 D cA A (w1_X6_keeps cA am tkv ttv t_L)) A) args s 0 0 A) (entryFrame m args 1))
  rw [← hQ]
  have hP : va_P D CL [((am 0), e_X6 am tkv ttv t t_L)] s.heap := hP
  have hD : va_D A [((am 0), e_X6 am tkv ttv t t_L)] := hD
  unfold m_X6_keeps at hm
  subst hargs
  have hl := lv_entry ([.ref (am 0)]) (n := 1) (Nat.le_of_ble_eq_true rfl)
  rw [lg_entry_eq]
  generalize (lg_sl ([.ref (am 0)]) ++ List.replicate (1 - (lg_sl ([.ref (am 0)])).length) Slot.unset).toArray = ls at hl ⊢
  have hl : lv_has ls 1 [(0, .ref (am 0))] := hl
  refine lv_aload_n hx hb dX6_keeps_0 rfl (lv_at hl 0 rfl) ?_
  refine lv_aload_n hx hb dX6_keeps_1 rfl (lv_at hl 0 rfl) ?_
  refine va_get (D := D) (ci := 6) (v := .int (t 9)) (C := RX6) (T := TX6) (N := 49) hx hb htg inX6 hown hK hP 0 rfl rfl 9 (by decide) (htg _ q_4_198) (fun _ h9 => h9) rfl dX6_keeps_2 ?_
  refine va_put (D := D) (ci := 6) (v := .int (t 9)) (ty := .int) (C := RX6) (T := TX6) (N := 49) hx hb htg inX6 tyX6 tyX6_ok nmX6 hown hK hP hD hS 0 rfl rfl 35 (by decide) (htg _ q_4_224) (fun _ h9 => h9) rfl (by decide +kernel) rfl rfl (Nat.le_of_ble_eq_true rfl) dX6_keeps_5 (fun H locs (hP : va_P D CL [((am 0), e_X6 am tkv ttv (upd t 35 (t 9)) t_L)] H) (hD : va_D A [((am 0), e_X6 am tkv ttv (upd t 35 (t 9)) t_L)]) hS => ?_)
  refine lv_aload_n hx hb dX6_keeps_8 rfl (lv_at hl 0 rfl) ?_
  refine lv_aload_n hx hb dX6_keeps_9 rfl (lv_at hl 0 rfl) ?_
  refine va_get (D := D) (ci := 6) (v := .int (t 11)) (C := RX6) (T := TX6) (N := 49) hx hb htg inX6 hown hK hP 0 rfl rfl 11 (by decide) (htg _ q_4_200) (fun _ h9 => h9) rfl dX6_keeps_10 ?_
  refine va_put (D := D) (ci := 6) (v := .int (t 11)) (ty := .int) (C := RX6) (T := TX6) (N := 49) hx hb htg inX6 tyX6 tyX6_ok nmX6 hown hK hP hD hS 0 rfl rfl 36 (by decide) (htg _ q_4_225) (fun _ h9 => h9) rfl (by decide +kernel) rfl rfl (Nat.le_of_ble_eq_true rfl) dX6_keeps_13 (fun H locs (hP : va_P D CL [((am 0), e_X6 am tkv ttv (upd (upd t 35 (t 9)) 36 (t 11)) t_L)] H) (hD : va_D A [((am 0), e_X6 am tkv ttv (upd (upd t 35 (t 9)) 36 (t 11)) t_L)]) hS => ?_)
  refine lv_aload_n hx hb dX6_keeps_16 rfl (lv_at hl 0 rfl) ?_
  refine lv_aload_n hx hb dX6_keeps_17 rfl (lv_at hl 0 rfl) ?_
  refine va_get (D := D) (ci := 6) (v := .int (t 10)) (C := RX6) (T := TX6) (N := 49) hx hb htg inX6 hown hK hP 0 rfl rfl 10 (by decide) (htg _ q_4_199) (fun _ h9 => h9) rfl dX6_keeps_18 ?_
  refine va_put (D := D) (ci := 6) (v := .int (t 10)) (ty := .int) (C := RX6) (T := TX6) (N := 49) hx hb htg inX6 tyX6 tyX6_ok nmX6 hown hK hP hD hS 0 rfl rfl 37 (by decide) (htg _ q_4_226) (fun _ h9 => h9) rfl (by decide +kernel) rfl rfl (Nat.le_of_ble_eq_true rfl) dX6_keeps_21 (fun H locs (hP : va_P D CL [((am 0), e_X6 am tkv ttv (upd (upd (upd t 35 (t 9)) 36 (t 11)) 37 (t 10)) t_L)] H) (hD : va_D A [((am 0), e_X6 am tkv ttv (upd (upd (upd t 35 (t 9)) 36 (t 11)) 37 (t 10)) t_L)]) hS => ?_)
  rw [hQ]
  exact W.vret hx hb hr (fun t9 ht hW => ⟨⟨(upd (upd (upd t 35 (t 9)) 36 (t 11)) 37 (t 10)), rfl, (Option.some.inj hm), by rw [ht]; exact hP, va_K.moved hW.alike hK, hD⟩, hS.F ht⟩) hS.2.2 dX6_keeps_24
def m_X6_goesBack (fu : Nat) (t : Nat → Int32) (t_L : Nat → Int64) : Option ((Nat → Int32)) :=
  some (upd (upd (upd t 9 (t 35)) 11 (t 36)) 10 (t 37))
abbrev rm_X6_goesBack : Room := ({ frames := 0, cells := 0, slots := 0, locals := 0 } : Room)
abbrev w0_X6_goesBack (cA : Nat → ClassId) (am : Nat → Nat) (tkv : Value) (ttv : Value) (t : Nat → Int32) (t_L : Nat → Int64) : va_W := [((am 0), e_X6 am tkv ttv t t_L)]
abbrev w1_X6_goesBack (cA : Nat → ClassId) (am : Nat → Nat) (tkv : Value) (ttv : Value) (t_L : Nat → Int64) (u : (Nat → Int32)) : va_W := [((am 0), e_X6 am tkv ttv u t_L)]
theorem hd_X6_goesBack : yX6_goesBack.cls = RX6 ∧ yX6_goesBack.cls ≠ "java/lang/invoke/MethodHandle" ∧ yX6_goesBack.cls ≠ "java/lang/invoke/VarHandle" ∧ (parseMethodDescriptor yX6_goesBack.desc).map (fun d => d.parameters.length) = some 0 := by decide +kernel
set_option maxHeartbeats 40000000 in
set_option maxRecDepth 100000 in
theorem c_X6_goesBack (l : Launch) (D : va_G) (cA : Nat → ClassId) (sz : Nat) (fu : Nat) (am : Nat → Nat) (tkv : Value) (ttv : Value) (t : Nat → Int32) (t_L : Nat → Int64) (out : (Nat → Int32)) (hm : m_X6_goesBack fu t t_L = some out) : MV l yX6_goesBack (wU yX6_goesBack cX6_goesBack 1 ((Option.none : Option Jvm.ClassFile.FieldType))) rm_X6_goesBack D cA sz [.ref (am 0)] (w0_X6_goesBack cA am tkv ttv t t_L) out (w1_X6_goesBack cA am tkv ttv t_L) := by
  refine Met.ofW (cc := cX6_goesBack) (maxL := 1) (ret := (Option.none : Option Jvm.ClassFile.FieldType)) (by decide) rfl ?_
  intro p e s m args below meth c s₁ B hml hv
  obtain ⟨hargs, hsz, hP, hK, hD0, hN⟩ := hv
  have hx := B.exec
  have hb := B.bytes
  have hr := B.returns
  have htg : ∀ w ∈ gw, w.before args s = true := fun w h => atoms_spec (ws := wU yX6_goesBack cX6_goesBack 1 ((Option.none : Option Jvm.ClassFile.FieldType))) B.pre w (List.mem_cons_of_mem _ h)
  have hown : s.vm.findClass RX6 = some m.cls := findClass_of_methodNamed B.named
  have hlocks := B.notSynchronized
  subst hsz
  have hD := hD0.self (sz := s.heap.size)
  have hA : ∀ q : Nat, s.heap.size ≤ q → va_A (w0_X6_goesBack cA am tkv ttv t t_L) s.heap.size q := fun q h => Or.inr h
  have hS : va_S (va_A (w0_X6_goesBack cA am tkv ttv t t_L) s.heap.size) s.heap s.heap [] := va_S.rf
  generalize va_A (w0_X6_goesBack cA am tkv ttv t t_L) s.heap.size = A at hA hD hS ⊢
  obtain ⟨Q, hQ⟩ : ∃ Q : State → Prop, Q = MQ below (va_Qv (fun (u : (Nat → Int32)) => u = out) (pst0 D cA A (w1_X6_goesBack cA am tkv ttv t_L)) A) args s 0 0 A := ⟨_, rfl⟩
  refine (?_ : W p l e rm_X6_goesBack s m args below meth c s.heap [] 0 0 (MQ below (va_Qv (fun (u : (Nat → Int32)) => u = out) (pst0 D cA A (w1_X6_goesBack cA am tkv ttv t_L)) A) args s 0 0 A) (entryFrame m args 1))
  rw [← hQ]
  have hP : va_P D CL [((am 0), e_X6 am tkv ttv t t_L)] s.heap := hP
  have hD : va_D A [((am 0), e_X6 am tkv ttv t t_L)] := hD
  unfold m_X6_goesBack at hm
  subst hargs
  have hl := lv_entry ([.ref (am 0)]) (n := 1) (Nat.le_of_ble_eq_true rfl)
  rw [lg_entry_eq]
  generalize (lg_sl ([.ref (am 0)]) ++ List.replicate (1 - (lg_sl ([.ref (am 0)])).length) Slot.unset).toArray = ls at hl ⊢
  have hl : lv_has ls 1 [(0, .ref (am 0))] := hl
  refine lv_aload_n hx hb dX6_goesBack_0 rfl (lv_at hl 0 rfl) ?_
  refine lv_aload_n hx hb dX6_goesBack_1 rfl (lv_at hl 0 rfl) ?_
  refine va_get (D := D) (ci := 6) (v := .int (t 35)) (C := RX6) (T := TX6) (N := 49) hx hb htg inX6 hown hK hP 0 rfl rfl 35 (by decide) (htg _ q_4_224) (fun _ h9 => h9) rfl dX6_goesBack_2 ?_
  refine va_put (D := D) (ci := 6) (v := .int (t 35)) (ty := .int) (C := RX6) (T := TX6) (N := 49) hx hb htg inX6 tyX6 tyX6_ok nmX6 hown hK hP hD hS 0 rfl rfl 9 (by decide) (htg _ q_4_198) (fun _ h9 => h9) rfl (by decide +kernel) rfl rfl (Nat.le_of_ble_eq_true rfl) dX6_goesBack_5 (fun H locs (hP : va_P D CL [((am 0), e_X6 am tkv ttv (upd t 9 (t 35)) t_L)] H) (hD : va_D A [((am 0), e_X6 am tkv ttv (upd t 9 (t 35)) t_L)]) hS => ?_)
  refine lv_aload_n hx hb dX6_goesBack_8 rfl (lv_at hl 0 rfl) ?_
  refine lv_aload_n hx hb dX6_goesBack_9 rfl (lv_at hl 0 rfl) ?_
  refine va_get (D := D) (ci := 6) (v := .int (t 36)) (C := RX6) (T := TX6) (N := 49) hx hb htg inX6 hown hK hP 0 rfl rfl 36 (by decide) (htg _ q_4_225) (fun _ h9 => h9) rfl dX6_goesBack_10 ?_
  refine va_put (D := D) (ci := 6) (v := .int (t 36)) (ty := .int) (C := RX6) (T := TX6) (N := 49) hx hb htg inX6 tyX6 tyX6_ok nmX6 hown hK hP hD hS 0 rfl rfl 11 (by decide) (htg _ q_4_200) (fun _ h9 => h9) rfl (by decide +kernel) rfl rfl (Nat.le_of_ble_eq_true rfl) dX6_goesBack_13 (fun H locs (hP : va_P D CL [((am 0), e_X6 am tkv ttv (upd (upd t 9 (t 35)) 11 (t 36)) t_L)] H) (hD : va_D A [((am 0), e_X6 am tkv ttv (upd (upd t 9 (t 35)) 11 (t 36)) t_L)]) hS => ?_)
  refine lv_aload_n hx hb dX6_goesBack_16 rfl (lv_at hl 0 rfl) ?_
  refine lv_aload_n hx hb dX6_goesBack_17 rfl (lv_at hl 0 rfl) ?_
  refine va_get (D := D) (ci := 6) (v := .int (t 37)) (C := RX6) (T := TX6) (N := 49) hx hb htg inX6 hown hK hP 0 rfl rfl 37 (by decide) (htg _ q_4_226) (fun _ h9 => h9) rfl dX6_goesBack_18 ?_
  refine va_put (D := D) (ci := 6) (v := .int (t 37)) (ty := .int) (C := RX6) (T := TX6) (N := 49) hx hb htg inX6 tyX6 tyX6_ok nmX6 hown hK hP hD hS 0 rfl rfl 10 (by decide) (htg _ q_4_199) (fun _ h9 => h9) rfl (by decide +kernel) rfl rfl (Nat.le_of_ble_eq_true rfl) dX6_goesBack_21 (fun H locs (hP : va_P D CL [((am 0), e_X6 am tkv ttv (upd (upd (upd t 9 (t 35)) 11 (t 36)) 10 (t 37)) t_L)] H) (hD : va_D A [((am 0), e_X6 am tkv ttv (upd (upd (upd t 9 (t 35)) 11 (t 36)) 10 (t 37)) t_L)]) hS => ?_)
  rw [hQ]
  exact W.vret hx hb hr (fun t9 ht hW => ⟨⟨(upd (upd (upd t 9 (t 35)) 11 (t 36)) 10 (t 37)), rfl, (Option.some.inj hm), by rw [ht]; exact hP, va_K.moved hW.alike hK, hD⟩, hS.F ht⟩) hS.2.2 dX6_goesBack_24
def b_X6_ahead_26 (fu : Nat) (t : Nat → Int32) (t_L : Nat → Int64) (k_26 : (Int32 × Int32 × Int32 × (Nat → Int32)) → Option (Int32 × (Nat → Int32))) (x : Int32 × Int32 × Int32 × (Nat → Int32)) : Option (Int32 × (Nat → Int32)) :=
  (if x.1 ≤ x.2.2.1 then
        some (x.2.1, x.2.2.2)
      else
        (m_X6_held fu ((x.2.1 + (1 : Int32)) - t 10)).bind fun o2 =>
        k_26 (x.1, o2.1, (x.2.2.1 + (1 : Int32)), x.2.2.2))
def m_X6_ahead (fu : Nat) (t : Nat → Int32) (t_L : Nat → Int64) (t_refused : Nat → Int32) (l1 : Int32) : Option (Int32 × (Nat → Int32)) :=
  (m_X6_in fu l1.toInt64 (0 : Int64) (200 : Int64)).bind fun o4 =>
  (if o4.1 = 0 then
    (m_X6_refuse fu t t_L t_refused (-2 : Int32)).bind fun o7 =>
    some (o7.1, o7.2)
  else
    lfix (b_X6_ahead_26 fu t t_L) fu (l1, (t 9), (0 : Int32), t_refused))
abbrev rm_X6_ahead : Room := ({ frames := 1, cells := 0, slots := 0, locals := 25 } : Room)
abbrev w0_X6_ahead (cA : Nat → ClassId) (am : Nat → Nat) (tkv : Value) (ttv : Value) (t : Nat → Int32) (t_L : Nat → Int64) (t_refused : Nat → Int32) : va_W := [((am 0), e_X6 am tkv ttv t t_L), ((am 16), eI cA 8 t_refused)]
abbrev w1_X6_ahead (cA : Nat → ClassId) (am : Nat → Nat) (tkv : Value) (ttv : Value) (t : Nat → Int32) (t_L : Nat → Int64) (u : (Nat → Int32)) : va_W := [((am 0), e_X6 am tkv ttv t t_L), ((am 16), eI cA 8 u)]
theorem hd_X6_ahead : yX6_ahead.cls = RX6 ∧ yX6_ahead.cls ≠ "java/lang/invoke/MethodHandle" ∧ yX6_ahead.cls ≠ "java/lang/invoke/VarHandle" ∧ (parseMethodDescriptor yX6_ahead.desc).map (fun d => d.parameters.length) = some 1 := by decide +kernel
set_option maxHeartbeats 40000000 in
set_option maxRecDepth 100000 in
theorem c_X6_ahead (l : Launch) (D : va_G) (cA : Nat → ClassId) (sz : Nat) (fu : Nat) (am : Nat → Nat) (tkv : Value) (ttv : Value) (t : Nat → Int32) (t_L : Nat → Int64) (t_refused : Nat → Int32) (l1 : Int32) (out : Int32 × (Nat → Int32)) (hm : m_X6_ahead fu t t_L t_refused l1 = some out) : MI l yX6_ahead (wU yX6_ahead cX6_ahead 4 ((Option.some Jvm.ClassFile.FieldType.int))) rm_X6_ahead D cA sz [.ref (am 0), .int l1] (w0_X6_ahead cA am tkv ttv t t_L t_refused) out (w1_X6_ahead cA am tkv ttv t t_L) := by
  refine Met.ofW (cc := cX6_ahead) (maxL := 4) (ret := (Option.some Jvm.ClassFile.FieldType.int)) (by decide) rfl ?_
  intro p e s m args below meth c s₁ B hml hv
  obtain ⟨hargs, hsz, hP, hK, hD0, hN⟩ := hv
  have hx := B.exec
  have hb := B.bytes
  have hr := B.returns
  have htg : ∀ w ∈ gw, w.before args s = true := fun w h => atoms_spec (ws := wU yX6_ahead cX6_ahead 4 ((Option.some Jvm.ClassFile.FieldType.int))) B.pre w (List.mem_cons_of_mem _ h)
  have hown : s.vm.findClass RX6 = some m.cls := findClass_of_methodNamed B.named
  have hlocks := B.notSynchronized
  subst hsz
  have hD := hD0.self (sz := s.heap.size)
  have hA : ∀ q : Nat, s.heap.size ≤ q → va_A (w0_X6_ahead cA am tkv ttv t t_L t_refused) s.heap.size q := fun q h => Or.inr h
  have hS : va_S (va_A (w0_X6_ahead cA am tkv ttv t t_L t_refused) s.heap.size) s.heap s.heap [] := va_S.rf
  generalize va_A (w0_X6_ahead cA am tkv ttv t t_L t_refused) s.heap.size = A at hA hD hS ⊢
  obtain ⟨Q, hQ⟩ : ∃ Q : State → Prop, Q = MQ below (va_Qi (fun (r : Int32) (u : (Nat → Int32)) => (r, u) = out) (pst0 D cA A (w1_X6_ahead cA am tkv ttv t t_L)) A) args s 0 0 A := ⟨_, rfl⟩
  refine (?_ : W p l e rm_X6_ahead s m args below meth c s.heap [] 0 0 (MQ below (va_Qi (fun (r : Int32) (u : (Nat → Int32)) => (r, u) = out) (pst0 D cA A (w1_X6_ahead cA am tkv ttv t t_L)) A) args s 0 0 A) (entryFrame m args 4))
  rw [← hQ]
  have hP : va_P D CL [((am 0), e_X6 am tkv ttv t t_L), ((am 16), eI cA 8 t_refused)] s.heap := hP
  have hD : va_D A [((am 0), e_X6 am tkv ttv t t_L), ((am 16), eI cA 8 t_refused)] := hD
  have B_26 : ∀ (n : Nat) (x : Int32 × Int32 × Int32 × (Nat → Int32)) (H : Heap) (locs : List Loc) (ls : Array Slot), lfix (b_X6_ahead_26 fu t t_L) n x = some out → va_P D CL [((am 0), e_X6 am tkv ttv t t_L), ((am 16), eI cA 8 x.2.2.2)] H → va_D A [((am 0), e_X6 am tkv ttv t t_L), ((am 16), eI cA 8 x.2.2.2)] → va_S A s.heap H locs → lv_has ls 4 [(0, .ref (am 0)), (1, .int x.1), (2, .int x.2.1), (3, .int x.2.2.1)] → W p l e rm_X6_ahead s m args below meth c H locs 0 0 Q (F0 m 26 ls []) := by
    intro  n
    induction n with
    | zero => intro x H locs ls hm; cases (show none = some out from hm)
    | succ n HK_26 =>
      intro x H locs ls hm hP hD hS hl
      replace hm : b_X6_ahead_26 fu t t_L (lfix (b_X6_ahead_26 fu t t_L) n) x = some out := hm
      unfold b_X6_ahead_26 at hm
      refine lv_iload_n hx hb dX6_ahead_26 rfl (lv_at hl 3 rfl) ?_
      refine lv_iload_n hx hb dX6_ahead_27 rfl (lv_at hl 1 rfl) ?_
      refine lv_icmp_ge (tgt := 49) hx hb dX6_ahead_28 (by decide) (fun c1 => ?_) (fun c1 => ?_)
      · have hm := it_t c1 hm
        refine lv_iload_n hx hb dX6_ahead_49 rfl (lv_at hl 2 rfl) ?_
        rw [hQ]
        exact W.iret (v := x.2.1) hx hb hr (fun t9 ht hW => ⟨⟨x.2.1, x.2.2.2, rfl, (Option.some.inj hm), by rw [ht]; exact hP, va_K.moved hW.alike hK, hD⟩, hS.F ht⟩) hS.2.2 dX6_ahead_50
      · have hm := it_f c1 hm
        refine lv_iload_n hx hb dX6_ahead_31 rfl (lv_at hl 2 rfl) ?_
        refine lv_iconst (v := (1 : Int32)) hx hb dX6_ahead_32 (by decide) ?_
        refine lv_iadd hx hb dX6_ahead_33 ?_
        refine lv_aload_n hx hb dX6_ahead_34 rfl (lv_at hl 0 rfl) ?_
        refine va_get (D := D) (ci := 6) (v := .int (t 10)) (C := RX6) (T := TX6) (N := 49) hx hb htg inX6 hown hK hP 0 rfl rfl 10 (by decide) (htg _ q_4_199) (fun _ h9 => h9) rfl dX6_ahead_35 ?_
        refine lv_isub hx hb dX6_ahead_38 ?_
        obtain ⟨o2, ho3, hm⟩ := bd_s hm
        refine xr_i (wr := [((am 0), e_X6 am tkv ttv t t_L), ((am 16), eI cA 8 x.2.2.2)]) (wn := [((am 0), e_X6 am tkv ttv t t_L), ((am 16), eI cA 8 x.2.2.2)]) (va_runS (As := [.int ((x.2.1 + (1 : Int32)) - t 10)]) (rest := []) ⟨hx, hb, hml, hown, htg⟩ (c_X6_held l D cA _ fu ((x.2.1 + (1 : Int32)) - t 10) o2 ho3) (cwS 1 htg (gS q_6_98 q_6_99 q_1_8 q_6_100) rfl rfl rfl hd_X6_held ⟨Nat.le_of_ble_eq_true rfl, Nat.le_of_ble_eq_true rfl⟩) (xpS hN hK hP hD [] rfl (by decide)) rfl rfl hl.1 rfl (lv_room (Nat.le_of_ble_eq_true rfl)) dX6_ahead_39 ⟨Nat.zero_le _, Nat.zero_le _⟩) hP hD hS hA [] [0, 1] [0, 1] rfl rfl (by decide) (by decide) rfl (by decide) (fun H locs hP hD hS => ?_)
        refine lv_istore_n (lv' := [(2, .int o2.1), (0, .ref (am 0)), (1, .int x.1), (3, .int x.2.2.1)]) hx hb dX6_ahead_42 rfl hl (by decide) rfl (fun ls hl => ?_)
        refine lv_iinc (v := (x.2.2.1 + (1 : Int32))) (lv' := [(3, .int (x.2.2.1 + (1 : Int32))), (2, .int o2.1), (0, .ref (am 0)), (1, .int x.1)]) hx hb dX6_ahead_43 hl (k := 3) rfl rfl (by decide) rfl (fun ls hl => ?_)
        refine lv_goto (tgt := 26) hx hb dX6_ahead_46 (by decide) ?_
        exact HK_26 _ _ _ _ hm hP hD hS (lv_sub hl [2, 3, 1, 0] rfl)
  unfold m_X6_ahead at hm
  subst hargs
  have hl := lv_entry ([.ref (am 0), .int l1]) (n := 4) (Nat.le_of_ble_eq_true rfl)
  rw [lg_entry_eq]
  generalize (lg_sl ([.ref (am 0), .int l1]) ++ List.replicate (4 - (lg_sl ([.ref (am 0), .int l1])).length) Slot.unset).toArray = ls at hl ⊢
  have hl : lv_has ls 4 [(0, .ref (am 0)), (1, .int l1)] := hl
  refine lv_iload_n hx hb dX6_ahead_0 rfl (lv_at hl 1 rfl) ?_
  refine lv_i2l hx hb dX6_ahead_1 rfl ?_
  refine lv_lconst (v := (0 : Int64)) hx hb dX6_ahead_2 (by decide) ?_
  refine lv_ldc2 (v := (200 : Int64)) hx hb hown (htg _ q_6_97) dX6_ahead_3 ?_
  obtain ⟨o4, ho5, hm⟩ := bd_s hm
  refine xr_i (wr := [((am 0), e_X6 am tkv ttv t t_L), ((am 16), eI cA 8 t_refused)]) (wn := [((am 0), e_X6 am tkv ttv t t_L), ((am 16), eI cA 8 t_refused)]) (va_runS (As := [.long l1.toInt64, .long (0 : Int64), .long (200 : Int64)]) (rest := []) ⟨hx, hb, hml, hown, htg⟩ (c_X6_in l D cA _ fu l1.toInt64 (0 : Int64) (200 : Int64) o4 ho5) (cwS 3 htg (gS q_5_103 q_5_104 q_1_8 q_5_105) rfl rfl rfl hd_X6_in ⟨Nat.le_of_ble_eq_true rfl, Nat.le_of_ble_eq_true rfl⟩) (xpS hN hK hP hD [] rfl (by decide)) rfl rfl hl.1 rfl (lv_room (Nat.le_of_ble_eq_true rfl)) dX6_ahead_6 ⟨Nat.zero_le _, Nat.zero_le _⟩) hP hD hS hA [] [0, 1] [0, 1] rfl rfl (by decide) (by decide) rfl (by decide) (fun H locs hP hD hS => ?_)
  refine lv_if_ne (tgt := 19) hx hb dX6_ahead_9 (by decide) (fun c6 => ?_) (fun c6 => ?_)
  · have hm := it_f c6 hm
    refine lv_aload_n hx hb dX6_ahead_19 rfl (lv_at hl 0 rfl) ?_
    refine va_get (D := D) (ci := 6) (v := .int (t 9)) (C := RX6) (T := TX6) (N := 49) hx hb htg inX6 hown hK hP 0 rfl rfl 9 (by decide) (htg _ q_4_198) (fun _ h9 => h9) rfl dX6_ahead_20 ?_
    refine lv_istore_n (lv' := [(2, .int (t 9)), (0, .ref (am 0)), (1, .int l1)]) hx hb dX6_ahead_23 rfl hl (by decide) rfl (fun ls hl => ?_)
    refine lv_iconst (v := (0 : Int32)) hx hb dX6_ahead_24 (by decide) ?_
    refine lv_istore_n (lv' := [(3, .int (0 : Int32)), (2, .int (t 9)), (0, .ref (am 0)), (1, .int l1)]) hx hb dX6_ahead_25 rfl hl (by decide) rfl (fun ls hl => ?_)
    exact B_26 fu _ _ _ _ hm hP hD hS (lv_sub hl [2, 3, 1, 0] rfl)
  · have hm := it_t c6 hm
    refine lv_aload_n hx hb dX6_ahead_12 rfl (lv_at hl 0 rfl) ?_
    refine lv_bipush (v := (-2 : Int32)) hx hb dX6_ahead_13 (by decide) ?_
    obtain ⟨o7, ho8, hm⟩ := bd_s hm
    refine xr_i (wr := []) (wn := [((am 0), e_X6 am tkv ttv t t_L), ((am 16), eI cA 8 o7.2)]) (va_runV (As := [.int (-2 : Int32)]) (rest := []) ⟨hx, hb, hml, hown, htg⟩ (c_X6_refuse l D cA _ fu am tkv ttv t t_L t_refused (-2 : Int32) o7 ho8) (cwV 1 htg (gV q_5_108 q_5_110 q_p5_7 q_1_8 q_5_111) rfl rfl rfl hd_X6_refuse ⟨Nat.le_of_ble_eq_true rfl, Nat.le_of_ble_eq_true rfl⟩) (xpV hN hK hP hD [0, 1] rfl (by decide) rfl rfl) rfl rfl hl.1 rfl (lv_room (Nat.le_of_ble_eq_true rfl)) dX6_ahead_15 ⟨Nat.zero_le _, Nat.zero_le _⟩) hP hD hS hA [0, 1] [] [0, 1] rfl rfl (by decide) (by decide) rfl (by decide) (fun H locs hP hD hS => ?_)
    rw [hQ]
    exact W.iret (v := o7.1) hx hb hr (fun t9 ht hW => ⟨⟨o7.1, o7.2, rfl, (Option.some.inj hm), by rw [ht]; exact hP, va_K.moved hW.alike hK, hD⟩, hS.F ht⟩) hS.2.2 dX6_ahead_18
def b_X6_sinks_26 (fu : Nat) (t : Nat → Int32) (t_L : Nat → Int64) (k_26 : (Int32 × Int32 × Int32 × (Nat → Int32)) → Option (Int32 × (Nat → Int32))) (x : Int32 × Int32 × Int32 × (Nat → Int32)) : Option (Int32 × (Nat → Int32)) :=
  (if (200 : Int32) < x.2.2.1 then
        some ((-1 : Int32), x.2.2.2)
      else
        (if x.2.1 < x.1 then
          (m_X6_held fu ((x.2.1 + (1 : Int32)) - t 10)).bind fun o3 =>
          k_26 (x.1, o3.1, (x.2.2.1 + (1 : Int32)), x.2.2.2)
        else
          some (x.2.2.1, x.2.2.2)))
def m_X6_sinks (fu : Nat) (t : Nat → Int32) (t_L : Nat → Int64) (t_refused : Nat → Int32) (l1 : Int32) : Option (Int32 × (Nat → Int32)) :=
  (m_X6_in fu l1.toInt64 (0 : Int64) (40 : Int64)).bind fun o5 =>
  (if o5.1 = 0 then
    (m_X6_refuse fu t t_L t_refused (-2 : Int32)).bind fun o8 =>
    some (o8.1, o8.2)
  else
    lfix (b_X6_sinks_26 fu t t_L) fu (l1, (t 9), (0 : Int32), t_refused))
abbrev rm_X6_sinks : Room := ({ frames := 1, cells := 0, slots := 0, locals := 25 } : Room)
abbrev w0_X6_sinks (cA : Nat → ClassId) (am : Nat → Nat) (tkv : Value) (ttv : Value) (t : Nat → Int32) (t_L : Nat → Int64) (t_refused : Nat → Int32) : va_W := [((am 0), e_X6 am tkv ttv t t_L), ((am 16), eI cA 8 t_refused)]
abbrev w1_X6_sinks (cA : Nat → ClassId) (am : Nat → Nat) (tkv : Value) (ttv : Value) (t : Nat → Int32) (t_L : Nat → Int64) (u : (Nat → Int32)) : va_W := [((am 0), e_X6 am tkv ttv t t_L), ((am 16), eI cA 8 u)]
theorem hd_X6_sinks : yX6_sinks.cls = RX6 ∧ yX6_sinks.cls ≠ "java/lang/invoke/MethodHandle" ∧ yX6_sinks.cls ≠ "java/lang/invoke/VarHandle" ∧ (parseMethodDescriptor yX6_sinks.desc).map (fun d => d.parameters.length) = some 1 := by decide +kernel
set_option maxHeartbeats 40000000 in
set_option maxRecDepth 100000 in
theorem c_X6_sinks (l : Launch) (D : va_G) (cA : Nat → ClassId) (sz : Nat) (fu : Nat) (am : Nat → Nat) (tkv : Value) (ttv : Value) (t : Nat → Int32) (t_L : Nat → Int64) (t_refused : Nat → Int32) (l1 : Int32) (out : Int32 × (Nat → Int32)) (hm : m_X6_sinks fu t t_L t_refused l1 = some out) : MI l yX6_sinks (wU yX6_sinks cX6_sinks 4 ((Option.some Jvm.ClassFile.FieldType.int))) rm_X6_sinks D cA sz [.ref (am 0), .int l1] (w0_X6_sinks cA am tkv ttv t t_L t_refused) out (w1_X6_sinks cA am tkv ttv t t_L) := by
  refine Met.ofW (cc := cX6_sinks) (maxL := 4) (ret := (Option.some Jvm.ClassFile.FieldType.int)) (by decide) rfl ?_
  intro p e s m args below meth c s₁ B hml hv
  obtain ⟨hargs, hsz, hP, hK, hD0, hN⟩ := hv
  have hx := B.exec
  have hb := B.bytes
  have hr := B.returns
  have htg : ∀ w ∈ gw, w.before args s = true := fun w h => atoms_spec (ws := wU yX6_sinks cX6_sinks 4 ((Option.some Jvm.ClassFile.FieldType.int))) B.pre w (List.mem_cons_of_mem _ h)
  have hown : s.vm.findClass RX6 = some m.cls := findClass_of_methodNamed B.named
  have hlocks := B.notSynchronized
  subst hsz
  have hD := hD0.self (sz := s.heap.size)
  have hA : ∀ q : Nat, s.heap.size ≤ q → va_A (w0_X6_sinks cA am tkv ttv t t_L t_refused) s.heap.size q := fun q h => Or.inr h
  have hS : va_S (va_A (w0_X6_sinks cA am tkv ttv t t_L t_refused) s.heap.size) s.heap s.heap [] := va_S.rf
  generalize va_A (w0_X6_sinks cA am tkv ttv t t_L t_refused) s.heap.size = A at hA hD hS ⊢
  obtain ⟨Q, hQ⟩ : ∃ Q : State → Prop, Q = MQ below (va_Qi (fun (r : Int32) (u : (Nat → Int32)) => (r, u) = out) (pst0 D cA A (w1_X6_sinks cA am tkv ttv t t_L)) A) args s 0 0 A := ⟨_, rfl⟩
  refine (?_ : W p l e rm_X6_sinks s m args below meth c s.heap [] 0 0 (MQ below (va_Qi (fun (r : Int32) (u : (Nat → Int32)) => (r, u) = out) (pst0 D cA A (w1_X6_sinks cA am tkv ttv t t_L)) A) args s 0 0 A) (entryFrame m args 4))
  rw [← hQ]
  have hP : va_P D CL [((am 0), e_X6 am tkv ttv t t_L), ((am 16), eI cA 8 t_refused)] s.heap := hP
  have hD : va_D A [((am 0), e_X6 am tkv ttv t t_L), ((am 16), eI cA 8 t_refused)] := hD
  have B_26 : ∀ (n : Nat) (x : Int32 × Int32 × Int32 × (Nat → Int32)) (H : Heap) (locs : List Loc) (ls : Array Slot), lfix (b_X6_sinks_26 fu t t_L) n x = some out → va_P D CL [((am 0), e_X6 am tkv ttv t t_L), ((am 16), eI cA 8 x.2.2.2)] H → va_D A [((am 0), e_X6 am tkv ttv t t_L), ((am 16), eI cA 8 x.2.2.2)] → va_S A s.heap H locs → lv_has ls 4 [(0, .ref (am 0)), (1, .int x.1), (2, .int x.2.1), (3, .int x.2.2.1)] → W p l e rm_X6_sinks s m args below meth c H locs 0 0 Q (F0 m 26 ls []) := by
    intro  n
    induction n with
    | zero => intro x H locs ls hm; cases (show none = some out from hm)
    | succ n HK_26 =>
      intro x H locs ls hm hP hD hS hl
      replace hm : b_X6_sinks_26 fu t t_L (lfix (b_X6_sinks_26 fu t t_L) n) x = some out := hm
      unfold b_X6_sinks_26 at hm
      refine lv_iload_n hx hb dX6_sinks_26 rfl (lv_at hl 3 rfl) ?_
      refine lv_sipush (v := (200 : Int32)) hx hb dX6_sinks_27 (by decide) ?_
      refine lv_icmp_gt (tgt := 58) hx hb dX6_sinks_30 (by decide) (fun c1 => ?_) (fun c1 => ?_)
      · have hm := it_t c1 hm
        refine lv_iconst (v := (-1 : Int32)) hx hb dX6_sinks_58 (by decide) ?_
        rw [hQ]
        exact W.iret (v := (-1 : Int32)) hx hb hr (fun t9 ht hW => ⟨⟨(-1 : Int32), x.2.2.2, rfl, (Option.some.inj hm), by rw [ht]; exact hP, va_K.moved hW.alike hK, hD⟩, hS.F ht⟩) hS.2.2 dX6_sinks_59
      · have hm := it_f c1 hm
        refine lv_iload_n hx hb dX6_sinks_33 rfl (lv_at hl 2 rfl) ?_
        refine lv_iload_n hx hb dX6_sinks_34 rfl (lv_at hl 1 rfl) ?_
        refine lv_icmp_lt (tgt := 40) hx hb dX6_sinks_35 (by decide) (fun c2 => ?_) (fun c2 => ?_)
        · have hm := it_t c2 hm
          refine lv_iload_n hx hb dX6_sinks_40 rfl (lv_at hl 2 rfl) ?_
          refine lv_iconst (v := (1 : Int32)) hx hb dX6_sinks_41 (by decide) ?_
          refine lv_iadd hx hb dX6_sinks_42 ?_
          refine lv_aload_n hx hb dX6_sinks_43 rfl (lv_at hl 0 rfl) ?_
          refine va_get (D := D) (ci := 6) (v := .int (t 10)) (C := RX6) (T := TX6) (N := 49) hx hb htg inX6 hown hK hP 0 rfl rfl 10 (by decide) (htg _ q_4_199) (fun _ h9 => h9) rfl dX6_sinks_44 ?_
          refine lv_isub hx hb dX6_sinks_47 ?_
          obtain ⟨o3, ho4, hm⟩ := bd_s hm
          refine xr_i (wr := [((am 0), e_X6 am tkv ttv t t_L), ((am 16), eI cA 8 x.2.2.2)]) (wn := [((am 0), e_X6 am tkv ttv t t_L), ((am 16), eI cA 8 x.2.2.2)]) (va_runS (As := [.int ((x.2.1 + (1 : Int32)) - t 10)]) (rest := []) ⟨hx, hb, hml, hown, htg⟩ (c_X6_held l D cA _ fu ((x.2.1 + (1 : Int32)) - t 10) o3 ho4) (cwS 1 htg (gS q_6_98 q_6_99 q_1_8 q_6_100) rfl rfl rfl hd_X6_held ⟨Nat.le_of_ble_eq_true rfl, Nat.le_of_ble_eq_true rfl⟩) (xpS hN hK hP hD [] rfl (by decide)) rfl rfl hl.1 rfl (lv_room (Nat.le_of_ble_eq_true rfl)) dX6_sinks_48 ⟨Nat.zero_le _, Nat.zero_le _⟩) hP hD hS hA [] [0, 1] [0, 1] rfl rfl (by decide) (by decide) rfl (by decide) (fun H locs hP hD hS => ?_)
          refine lv_istore_n (lv' := [(2, .int o3.1), (0, .ref (am 0)), (1, .int x.1), (3, .int x.2.2.1)]) hx hb dX6_sinks_51 rfl hl (by decide) rfl (fun ls hl => ?_)
          refine lv_iinc (v := (x.2.2.1 + (1 : Int32))) (lv' := [(3, .int (x.2.2.1 + (1 : Int32))), (2, .int o3.1), (0, .ref (am 0)), (1, .int x.1)]) hx hb dX6_sinks_52 hl (k := 3) rfl rfl (by decide) rfl (fun ls hl => ?_)
          refine lv_goto (tgt := 26) hx hb dX6_sinks_55 (by decide) ?_
          exact HK_26 _ _ _ _ hm hP hD hS (lv_sub hl [2, 3, 1, 0] rfl)
        · have hm := it_f c2 hm
          refine lv_iload_n hx hb dX6_sinks_38 rfl (lv_at hl 3 rfl) ?_
          rw [hQ]
          exact W.iret (v := x.2.2.1) hx hb hr (fun t9 ht hW => ⟨⟨x.2.2.1, x.2.2.2, rfl, (Option.some.inj hm), by rw [ht]; exact hP, va_K.moved hW.alike hK, hD⟩, hS.F ht⟩) hS.2.2 dX6_sinks_39
  unfold m_X6_sinks at hm
  subst hargs
  have hl := lv_entry ([.ref (am 0), .int l1]) (n := 4) (Nat.le_of_ble_eq_true rfl)
  rw [lg_entry_eq]
  generalize (lg_sl ([.ref (am 0), .int l1]) ++ List.replicate (4 - (lg_sl ([.ref (am 0), .int l1])).length) Slot.unset).toArray = ls at hl ⊢
  have hl : lv_has ls 4 [(0, .ref (am 0)), (1, .int l1)] := hl
  refine lv_iload_n hx hb dX6_sinks_0 rfl (lv_at hl 1 rfl) ?_
  refine lv_i2l hx hb dX6_sinks_1 rfl ?_
  refine lv_lconst (v := (0 : Int64)) hx hb dX6_sinks_2 (by decide) ?_
  refine lv_ldc2 (v := (40 : Int64)) hx hb hown (htg _ q_5_107) dX6_sinks_3 ?_
  obtain ⟨o5, ho6, hm⟩ := bd_s hm
  refine xr_i (wr := [((am 0), e_X6 am tkv ttv t t_L), ((am 16), eI cA 8 t_refused)]) (wn := [((am 0), e_X6 am tkv ttv t t_L), ((am 16), eI cA 8 t_refused)]) (va_runS (As := [.long l1.toInt64, .long (0 : Int64), .long (40 : Int64)]) (rest := []) ⟨hx, hb, hml, hown, htg⟩ (c_X6_in l D cA _ fu l1.toInt64 (0 : Int64) (40 : Int64) o5 ho6) (cwS 3 htg (gS q_5_103 q_5_104 q_1_8 q_5_105) rfl rfl rfl hd_X6_in ⟨Nat.le_of_ble_eq_true rfl, Nat.le_of_ble_eq_true rfl⟩) (xpS hN hK hP hD [] rfl (by decide)) rfl rfl hl.1 rfl (lv_room (Nat.le_of_ble_eq_true rfl)) dX6_sinks_6 ⟨Nat.zero_le _, Nat.zero_le _⟩) hP hD hS hA [] [0, 1] [0, 1] rfl rfl (by decide) (by decide) rfl (by decide) (fun H locs hP hD hS => ?_)
  refine lv_if_ne (tgt := 19) hx hb dX6_sinks_9 (by decide) (fun c7 => ?_) (fun c7 => ?_)
  · have hm := it_f c7 hm
    refine lv_aload_n hx hb dX6_sinks_19 rfl (lv_at hl 0 rfl) ?_
    refine va_get (D := D) (ci := 6) (v := .int (t 9)) (C := RX6) (T := TX6) (N := 49) hx hb htg inX6 hown hK hP 0 rfl rfl 9 (by decide) (htg _ q_4_198) (fun _ h9 => h9) rfl dX6_sinks_20 ?_
    refine lv_istore_n (lv' := [(2, .int (t 9)), (0, .ref (am 0)), (1, .int l1)]) hx hb dX6_sinks_23 rfl hl (by decide) rfl (fun ls hl => ?_)
    refine lv_iconst (v := (0 : Int32)) hx hb dX6_sinks_24 (by decide) ?_
    refine lv_istore_n (lv' := [(3, .int (0 : Int32)), (2, .int (t 9)), (0, .ref (am 0)), (1, .int l1)]) hx hb dX6_sinks_25 rfl hl (by decide) rfl (fun ls hl => ?_)
    exact B_26 fu _ _ _ _ hm hP hD hS (lv_sub hl [2, 3, 1, 0] rfl)
  · have hm := it_t c7 hm
    refine lv_aload_n hx hb dX6_sinks_12 rfl (lv_at hl 0 rfl) ?_
    refine lv_bipush (v := (-2 : Int32)) hx hb dX6_sinks_13 (by decide) ?_
    obtain ⟨o8, ho9, hm⟩ := bd_s hm
    refine xr_i (wr := []) (wn := [((am 0), e_X6 am tkv ttv t t_L), ((am 16), eI cA 8 o8.2)]) (va_runV (As := [.int (-2 : Int32)]) (rest := []) ⟨hx, hb, hml, hown, htg⟩ (c_X6_refuse l D cA _ fu am tkv ttv t t_L t_refused (-2 : Int32) o8 ho9) (cwV 1 htg (gV q_5_108 q_5_110 q_p5_7 q_1_8 q_5_111) rfl rfl rfl hd_X6_refuse ⟨Nat.le_of_ble_eq_true rfl, Nat.le_of_ble_eq_true rfl⟩) (xpV hN hK hP hD [0, 1] rfl (by decide) rfl rfl) rfl rfl hl.1 rfl (lv_room (Nat.le_of_ble_eq_true rfl)) dX6_sinks_15 ⟨Nat.zero_le _, Nat.zero_le _⟩) hP hD hS hA [0, 1] [] [0, 1] rfl rfl (by decide) (by decide) rfl (by decide) (fun H locs hP hD hS => ?_)
    rw [hQ]
    exact W.iret (v := o8.1) hx hb hr (fun t9 ht hW => ⟨⟨o8.1, o8.2, rfl, (Option.some.inj hm), by rw [ht]; exact hP, va_K.moved hW.alike hK, hD⟩, hS.F ht⟩) hS.2.2 dX6_sinks_18
def b_X6_when_72 (fu : Nat) (t_L : Nat → Int64) (t_shelf : Nat → Int32) (t_rowSize : Nat → Int32) (t_rows_R : Nat → Nat → Int64) (t_kind : Nat → Int32) (t_pitch : Nat → Int32) (s0 : Int32) (t : Nat → Int32) (t_refused : Nat → Int32) (t_word : Nat → Int32) (t_heard : Nat → Int32) : Option (Int32 × ((Nat → Int32) × (Nat → Int32) × (Nat → Int32) × (Nat → Int32))) :=
  some (s0, (t, t_refused, t_word, t_heard))
def b_X6_when_55 (fu : Nat) (t_L : Nat → Int64) (t_shelf : Nat → Int32) (t_rowSize : Nat → Int32) (t_rows_R : Nat → Nat → Int64) (t_kind : Nat → Int32) (t_pitch : Nat → Int32) (l5 : Int32) (t : Nat → Int32) (t_refused : Nat → Int32) (t_word : Nat → Int32) (t_heard : Nat → Int32) : Option (Int32 × ((Nat → Int32) × (Nat → Int32) × (Nat → Int32) × (Nat → Int32))) :=
  (m_X6_goesBack fu t t_L).bind fun o1 =>
    (if (60 : Int32) < l5 then
      b_X6_when_72 fu t_L t_shelf t_rowSize t_rows_R t_kind t_pitch (-1 : Int32) o1 t_refused t_word t_heard
    else
      b_X6_when_72 fu t_L t_shelf t_rowSize t_rows_R t_kind t_pitch l5 o1 t_refused t_word t_heard)
def b_X6_when_30 (fu : Nat) (t_L : Nat → Int64) (t_shelf : Nat → Int32) (t_rowSize : Nat → Int32) (t_rows_R : Nat → Nat → Int64) (t_kind : Nat → Int32) (t_pitch : Nat → Int32) (k_30 : (Int32 × Int32 × (Nat → Int32) × (Nat → Int32) × (Nat → Int32) × (Nat → Int32)) → Option (Int32 × ((Nat → Int32) × (Nat → Int32) × (Nat → Int32) × (Nat → Int32)))) (x : Int32 × Int32 × (Nat → Int32) × (Nat → Int32) × (Nat → Int32) × (Nat → Int32)) : Option (Int32 × ((Nat → Int32) × (Nat → Int32) × (Nat → Int32) × (Nat → Int32))) :=
  (if (60 : Int32) < x.2.1 then
        b_X6_when_55 fu t_L t_shelf t_rowSize t_rows_R t_kind t_pitch x.2.1 x.2.2.1 x.2.2.2.1 x.2.2.2.2.1 x.2.2.2.2.2
      else
        (m_X6_gets fu x.2.2.1 t_L t_kind t_pitch x.2.2.2.2.1 x.2.2.2.2.2 x.1).bind fun o5 =>
        (if o5.1 = 0 then
          (m_X6_passes fu o5.2.1 t_L).bind fun o8 =>
          k_30 (x.1, (x.2.1 + (1 : Int32)), o8, x.2.2.2.1, x.2.2.2.2.1, o5.2.2)
        else
          b_X6_when_55 fu t_L t_shelf t_rowSize t_rows_R t_kind t_pitch x.2.1 o5.2.1 x.2.2.2.1 x.2.2.2.2.1 o5.2.2))
def m_X6_when (fu : Nat) (t : Nat → Int32) (t_L : Nat → Int64) (t_shelf : Nat → Int32) (t_rowSize : Nat → Int32) (t_rows_R : Nat → Nat → Int64) (t_refused : Nat → Int32) (t_kind : Nat → Int32) (t_pitch : Nat → Int32) (t_word : Nat → Int32) (t_heard : Nat → Int32) (l1 : Int32) (l2 : Int32) (l3 : Int32) : Option (Int32 × ((Nat → Int32) × (Nat → Int32) × (Nat → Int32) × (Nat → Int32))) :=
  (m_X6_isVoice fu t t_L l3).bind fun o10 =>
  (m_X6_noWord fu t t_L t_shelf t_rowSize t_rows_R t_refused t_word l1 l2 (12 : Int32) o10.1).bind fun o12 =>
  (if o12.1 = 0 then
    (m_X6_keeps fu o12.2.1 t_L).bind fun o15 =>
    lfix (b_X6_when_30 fu t_L t_shelf t_rowSize t_rows_R t_kind t_pitch) fu (l3, (0 : Int32), o15, o12.2.2.1, o12.2.2.2, t_heard)
  else
    some (o12.1, (o12.2.1, o12.2.2.1, o12.2.2.2, t_heard)))
abbrev rm_X6_when : Room := ({ frames := 6, cells := 0, slots := 0, locals := 136 } : Room)
abbrev w0_X6_when (cA : Nat → ClassId) (am : Nat → Nat) (tkv : Value) (ttv : Value) (t : Nat → Int32) (t_L : Nat → Int64) (t_shelf : Nat → Int32) (t_rowSize : Nat → Int32) (t_rows_R : Nat → Nat → Int64) (t_refused : Nat → Int32) (t_kind : Nat → Int32) (t_pitch : Nat → Int32) (t_word : Nat → Int32) (t_heard : Nat → Int32) : va_W := [((am 0), e_X6 am tkv ttv t t_L), ((am 1), eI cA 8 t_shelf), ((am 3), eI cA 8 t_rowSize), ((am 4), eOJ cA am 5), (am 5, eJ cA 40 (t_rows_R 0)), (am 6, eJ cA 40 (t_rows_R 1)), (am 7, eJ cA 40 (t_rows_R 2)), (am 8, eJ cA 40 (t_rows_R 3)), (am 9, eJ cA 40 (t_rows_R 4)), (am 10, eJ cA 40 (t_rows_R 5)), (am 11, eJ cA 40 (t_rows_R 6)), (am 12, eJ cA 40 (t_rows_R 7)), ((am 16), eI cA 8 t_refused), ((am 17), eI cA 8 t_kind), ((am 19), eI cA 8 t_pitch), ((am 21), eI cA 12 t_word), ((am 22), eI cA 13 t_heard)]
abbrev w1_X6_when (cA : Nat → ClassId) (am : Nat → Nat) (tkv : Value) (ttv : Value) (t_L : Nat → Int64) (t_shelf : Nat → Int32) (t_rowSize : Nat → Int32) (t_rows_R : Nat → Nat → Int64) (t_kind : Nat → Int32) (t_pitch : Nat → Int32) (u : (Nat → Int32) × (Nat → Int32) × (Nat → Int32) × (Nat → Int32)) : va_W := [((am 0), e_X6 am tkv ttv u.1 t_L), ((am 1), eI cA 8 t_shelf), ((am 3), eI cA 8 t_rowSize), ((am 4), eOJ cA am 5), (am 5, eJ cA 40 (t_rows_R 0)), (am 6, eJ cA 40 (t_rows_R 1)), (am 7, eJ cA 40 (t_rows_R 2)), (am 8, eJ cA 40 (t_rows_R 3)), (am 9, eJ cA 40 (t_rows_R 4)), (am 10, eJ cA 40 (t_rows_R 5)), (am 11, eJ cA 40 (t_rows_R 6)), (am 12, eJ cA 40 (t_rows_R 7)), ((am 16), eI cA 8 u.2.1), ((am 17), eI cA 8 t_kind), ((am 19), eI cA 8 t_pitch), ((am 21), eI cA 12 u.2.2.1), ((am 22), eI cA 13 u.2.2.2)]
theorem hd_X6_when : yX6_when.cls = RX6 ∧ yX6_when.cls ≠ "java/lang/invoke/MethodHandle" ∧ yX6_when.cls ≠ "java/lang/invoke/VarHandle" ∧ (parseMethodDescriptor yX6_when.desc).map (fun d => d.parameters.length) = some 3 := by decide +kernel
set_option maxHeartbeats 40000000 in
set_option maxRecDepth 100000 in
theorem c_X6_when (l : Launch) (D : va_G) (cA : Nat → ClassId) (sz : Nat) (fu : Nat) (am : Nat → Nat) (tkv : Value) (ttv : Value) (t : Nat → Int32) (t_L : Nat → Int64) (t_shelf : Nat → Int32) (t_rowSize : Nat → Int32) (t_rows_R : Nat → Nat → Int64) (t_refused : Nat → Int32) (t_kind : Nat → Int32) (t_pitch : Nat → Int32) (t_word : Nat → Int32) (t_heard : Nat → Int32) (l1 : Int32) (l2 : Int32) (l3 : Int32) (out : Int32 × ((Nat → Int32) × (Nat → Int32) × (Nat → Int32) × (Nat → Int32))) (hm : m_X6_when fu t t_L t_shelf t_rowSize t_rows_R t_refused t_kind t_pitch t_word t_heard l1 l2 l3 = some out) : MI l yX6_when (wU yX6_when cX6_when 6 ((Option.some Jvm.ClassFile.FieldType.int))) rm_X6_when D cA sz [.ref (am 0), .int l1, .int l2, .int l3] (w0_X6_when cA am tkv ttv t t_L t_shelf t_rowSize t_rows_R t_refused t_kind t_pitch t_word t_heard) out (w1_X6_when cA am tkv ttv t_L t_shelf t_rowSize t_rows_R t_kind t_pitch) := by
  refine Met.ofW (cc := cX6_when) (maxL := 6) (ret := (Option.some Jvm.ClassFile.FieldType.int)) (by decide) rfl ?_
  intro p e s m args below meth c s₁ B hml hv
  obtain ⟨hargs, hsz, hP, hK, hD0, hN⟩ := hv
  have hx := B.exec
  have hb := B.bytes
  have hr := B.returns
  have htg : ∀ w ∈ gw, w.before args s = true := fun w h => atoms_spec (ws := wU yX6_when cX6_when 6 ((Option.some Jvm.ClassFile.FieldType.int))) B.pre w (List.mem_cons_of_mem _ h)
  have hown : s.vm.findClass RX6 = some m.cls := findClass_of_methodNamed B.named
  have hlocks := B.notSynchronized
  subst hsz
  have hD := hD0.self (sz := s.heap.size)
  have hA : ∀ q : Nat, s.heap.size ≤ q → va_A (w0_X6_when cA am tkv ttv t t_L t_shelf t_rowSize t_rows_R t_refused t_kind t_pitch t_word t_heard) s.heap.size q := fun q h => Or.inr h
  have hS : va_S (va_A (w0_X6_when cA am tkv ttv t t_L t_shelf t_rowSize t_rows_R t_refused t_kind t_pitch t_word t_heard) s.heap.size) s.heap s.heap [] := va_S.rf
  generalize va_A (w0_X6_when cA am tkv ttv t t_L t_shelf t_rowSize t_rows_R t_refused t_kind t_pitch t_word t_heard) s.heap.size = A at hA hD hS ⊢
  obtain ⟨Q, hQ⟩ : ∃ Q : State → Prop, Q = MQ below (va_Qi (fun (r : Int32) (u : (Nat → Int32) × (Nat → Int32) × (Nat → Int32) × (Nat → Int32)) => (r, u) = out) (pst0 D cA A (w1_X6_when cA am tkv ttv t_L t_shelf t_rowSize t_rows_R t_kind t_pitch)) A) args s 0 0 A := ⟨_, rfl⟩
  refine (?_ : W p l e rm_X6_when s m args below meth c s.heap [] 0 0 (MQ below (va_Qi (fun (r : Int32) (u : (Nat → Int32) × (Nat → Int32) × (Nat → Int32) × (Nat → Int32)) => (r, u) = out) (pst0 D cA A (w1_X6_when cA am tkv ttv t_L t_shelf t_rowSize t_rows_R t_kind t_pitch)) A) args s 0 0 A) (entryFrame m args 6))
  rw [← hQ]
  have hP : va_P D CL [((am 0), e_X6 am tkv ttv t t_L), ((am 1), eI cA 8 t_shelf), ((am 3), eI cA 8 t_rowSize), ((am 4), eOJ cA am 5), (am 5, eJ cA 40 (t_rows_R 0)), (am 6, eJ cA 40 (t_rows_R 1)), (am 7, eJ cA 40 (t_rows_R 2)), (am 8, eJ cA 40 (t_rows_R 3)), (am 9, eJ cA 40 (t_rows_R 4)), (am 10, eJ cA 40 (t_rows_R 5)), (am 11, eJ cA 40 (t_rows_R 6)), (am 12, eJ cA 40 (t_rows_R 7)), ((am 16), eI cA 8 t_refused), ((am 17), eI cA 8 t_kind), ((am 19), eI cA 8 t_pitch), ((am 21), eI cA 12 t_word), ((am 22), eI cA 13 t_heard)] s.heap := hP
  have hD : va_D A [((am 0), e_X6 am tkv ttv t t_L), ((am 1), eI cA 8 t_shelf), ((am 3), eI cA 8 t_rowSize), ((am 4), eOJ cA am 5), (am 5, eJ cA 40 (t_rows_R 0)), (am 6, eJ cA 40 (t_rows_R 1)), (am 7, eJ cA 40 (t_rows_R 2)), (am 8, eJ cA 40 (t_rows_R 3)), (am 9, eJ cA 40 (t_rows_R 4)), (am 10, eJ cA 40 (t_rows_R 5)), (am 11, eJ cA 40 (t_rows_R 6)), (am 12, eJ cA 40 (t_rows_R 7)), ((am 16), eI cA 8 t_refused), ((am 17), eI cA 8 t_kind), ((am 19), eI cA 8 t_pitch), ((am 21), eI cA 12 t_word), ((am 22), eI cA 13 t_heard)] := hD
  have B_72 : ∀ (s0 : Int32) (t : Nat → Int32) (t_refused : Nat → Int32) (t_word : Nat → Int32) (t_heard : Nat → Int32) (H : Heap) (locs : List Loc) (ls : Array Slot), b_X6_when_72 fu t_L t_shelf t_rowSize t_rows_R t_kind t_pitch s0 t t_refused t_word t_heard = some out → va_P D CL [((am 0), e_X6 am tkv ttv t t_L), ((am 1), eI cA 8 t_shelf), ((am 3), eI cA 8 t_rowSize), ((am 4), eOJ cA am 5), (am 5, eJ cA 40 (t_rows_R 0)), (am 6, eJ cA 40 (t_rows_R 1)), (am 7, eJ cA 40 (t_rows_R 2)), (am 8, eJ cA 40 (t_rows_R 3)), (am 9, eJ cA 40 (t_rows_R 4)), (am 10, eJ cA 40 (t_rows_R 5)), (am 11, eJ cA 40 (t_rows_R 6)), (am 12, eJ cA 40 (t_rows_R 7)), ((am 16), eI cA 8 t_refused), ((am 17), eI cA 8 t_kind), ((am 19), eI cA 8 t_pitch), ((am 21), eI cA 12 t_word), ((am 22), eI cA 13 t_heard)] H → va_D A [((am 0), e_X6 am tkv ttv t t_L), ((am 1), eI cA 8 t_shelf), ((am 3), eI cA 8 t_rowSize), ((am 4), eOJ cA am 5), (am 5, eJ cA 40 (t_rows_R 0)), (am 6, eJ cA 40 (t_rows_R 1)), (am 7, eJ cA 40 (t_rows_R 2)), (am 8, eJ cA 40 (t_rows_R 3)), (am 9, eJ cA 40 (t_rows_R 4)), (am 10, eJ cA 40 (t_rows_R 5)), (am 11, eJ cA 40 (t_rows_R 6)), (am 12, eJ cA 40 (t_rows_R 7)), ((am 16), eI cA 8 t_refused), ((am 17), eI cA 8 t_kind), ((am 19), eI cA 8 t_pitch), ((am 21), eI cA 12 t_word), ((am 22), eI cA 13 t_heard)] → va_S A s.heap H locs → lv_has ls 6 [(0, .ref (am 0))] → W p l e rm_X6_when s m args below meth c H locs 0 0 Q (F0 m 72 ls [.int s0]) := by
    intro  s0 t t_refused t_word t_heard H locs ls hm hP hD hS hl
    unfold b_X6_when_72 at hm
    rw [hQ]
    exact W.iret (v := s0) hx hb hr (fun t9 ht hW => ⟨⟨s0, (t, t_refused, t_word, t_heard), rfl, (Option.some.inj hm), by rw [ht]; exact hP, va_K.moved hW.alike hK, hD⟩, hS.F ht⟩) hS.2.2 dX6_when_72
  have B_55 : ∀ (l5 : Int32) (t : Nat → Int32) (t_refused : Nat → Int32) (t_word : Nat → Int32) (t_heard : Nat → Int32) (H : Heap) (locs : List Loc) (ls : Array Slot), b_X6_when_55 fu t_L t_shelf t_rowSize t_rows_R t_kind t_pitch l5 t t_refused t_word t_heard = some out → va_P D CL [((am 0), e_X6 am tkv ttv t t_L), ((am 1), eI cA 8 t_shelf), ((am 3), eI cA 8 t_rowSize), ((am 4), eOJ cA am 5), (am 5, eJ cA 40 (t_rows_R 0)), (am 6, eJ cA 40 (t_rows_R 1)), (am 7, eJ cA 40 (t_rows_R 2)), (am 8, eJ cA 40 (t_rows_R 3)), (am 9, eJ cA 40 (t_rows_R 4)), (am 10, eJ cA 40 (t_rows_R 5)), (am 11, eJ cA 40 (t_rows_R 6)), (am 12, eJ cA 40 (t_rows_R 7)), ((am 16), eI cA 8 t_refused), ((am 17), eI cA 8 t_kind), ((am 19), eI cA 8 t_pitch), ((am 21), eI cA 12 t_word), ((am 22), eI cA 13 t_heard)] H → va_D A [((am 0), e_X6 am tkv ttv t t_L), ((am 1), eI cA 8 t_shelf), ((am 3), eI cA 8 t_rowSize), ((am 4), eOJ cA am 5), (am 5, eJ cA 40 (t_rows_R 0)), (am 6, eJ cA 40 (t_rows_R 1)), (am 7, eJ cA 40 (t_rows_R 2)), (am 8, eJ cA 40 (t_rows_R 3)), (am 9, eJ cA 40 (t_rows_R 4)), (am 10, eJ cA 40 (t_rows_R 5)), (am 11, eJ cA 40 (t_rows_R 6)), (am 12, eJ cA 40 (t_rows_R 7)), ((am 16), eI cA 8 t_refused), ((am 17), eI cA 8 t_kind), ((am 19), eI cA 8 t_pitch), ((am 21), eI cA 12 t_word), ((am 22), eI cA 13 t_heard)] → va_S A s.heap H locs → lv_has ls 6 [(0, .ref (am 0)), (5, .int l5)] → W p l e rm_X6_when s m args below meth c H locs 0 0 Q (F0 m 55 ls []) := by
    intro  l5 t t_refused t_word t_heard H locs ls hm hP hD hS hl
    unfold b_X6_when_55 at hm
    refine lv_aload_n hx hb dX6_when_55 rfl (lv_at hl 0 rfl) ?_
    obtain ⟨o1, ho2, hm⟩ := bd_s hm
    refine xr_v (wr := [((am 1), eI cA 8 t_shelf), ((am 3), eI cA 8 t_rowSize), ((am 4), eOJ cA am 5), (am 5, eJ cA 40 (t_rows_R 0)), (am 6, eJ cA 40 (t_rows_R 1)), (am 7, eJ cA 40 (t_rows_R 2)), (am 8, eJ cA 40 (t_rows_R 3)), (am 9, eJ cA 40 (t_rows_R 4)), (am 10, eJ cA 40 (t_rows_R 5)), (am 11, eJ cA 40 (t_rows_R 6)), (am 12, eJ cA 40 (t_rows_R 7)), ((am 16), eI cA 8 t_refused), ((am 17), eI cA 8 t_kind), ((am 19), eI cA 8 t_pitch), ((am 21), eI cA 12 t_word), ((am 22), eI cA 13 t_heard)]) (wn := [((am 0), e_X6 am tkv ttv o1 t_L), ((am 1), eI cA 8 t_shelf), ((am 3), eI cA 8 t_rowSize), ((am 4), eOJ cA am 5), (am 5, eJ cA 40 (t_rows_R 0)), (am 6, eJ cA 40 (t_rows_R 1)), (am 7, eJ cA 40 (t_rows_R 2)), (am 8, eJ cA 40 (t_rows_R 3)), (am 9, eJ cA 40 (t_rows_R 4)), (am 10, eJ cA 40 (t_rows_R 5)), (am 11, eJ cA 40 (t_rows_R 6)), (am 12, eJ cA 40 (t_rows_R 7)), ((am 16), eI cA 8 t_refused), ((am 17), eI cA 8 t_kind), ((am 19), eI cA 8 t_pitch), ((am 21), eI cA 12 t_word), ((am 22), eI cA 13 t_heard)]) (va_runV (As := []) (rest := []) ⟨hx, hb, hml, hown, htg⟩ (c_X6_goesBack l D cA _ fu am tkv ttv t t_L o1 ho2) (cwV 0 htg (gV q_6_117 q_6_119 q_p6_15 q_1_8 q_6_120) rfl rfl rfl hd_X6_goesBack ⟨Nat.le_of_ble_eq_true rfl, Nat.le_of_ble_eq_true rfl⟩) (xpV hN hK hP hD [0] rfl (by decide) rfl rfl) rfl rfl hl.1 rfl (lv_room (Nat.le_of_ble_eq_true rfl)) dX6_when_56 ⟨Nat.zero_le _, Nat.zero_le _⟩) hP hD hS hA [0] [1, 2, 3, 4, 5, 6, 7, 8, 9, 10, 11, 12, 13, 14, 15, 16] [16, 0, 1, 2, 3, 4, 5, 6, 7, 8, 9, 10, 11, 12, 13, 14, 15] rfl rfl (by decide) (by decide) rfl (by decide) (fun H locs hP hD hS => ?_)
    refine lv_iload hx hb dX6_when_59 (lv_at hl 1 rfl) ?_
    refine lv_bipush (v := (60 : Int32)) hx hb dX6_when_61 (by decide) ?_
    refine lv_icmp_gt (tgt := 71) hx hb dX6_when_63 (by decide) (fun c3 => ?_) (fun c3 => ?_)
    · have hm := it_t c3 hm
      refine lv_iconst (v := (-1 : Int32)) hx hb dX6_when_71 (by decide) ?_
      exact B_72 _ _ _ _ _ _ _ _ hm hP hD hS (lv_sub hl [0] rfl)
    · have hm := it_f c3 hm
      refine lv_iload hx hb dX6_when_66 (lv_at hl 1 rfl) ?_
      refine lv_goto (tgt := 72) hx hb dX6_when_68 (by decide) ?_
      exact B_72 _ _ _ _ _ _ _ _ hm hP hD hS (lv_sub hl [0] rfl)
  have B_30 : ∀ (n : Nat) (x : Int32 × Int32 × (Nat → Int32) × (Nat → Int32) × (Nat → Int32) × (Nat → Int32)) (H : Heap) (locs : List Loc) (ls : Array Slot), lfix (b_X6_when_30 fu t_L t_shelf t_rowSize t_rows_R t_kind t_pitch) n x = some out → va_P D CL [((am 0), e_X6 am tkv ttv x.2.2.1 t_L), ((am 1), eI cA 8 t_shelf), ((am 3), eI cA 8 t_rowSize), ((am 4), eOJ cA am 5), (am 5, eJ cA 40 (t_rows_R 0)), (am 6, eJ cA 40 (t_rows_R 1)), (am 7, eJ cA 40 (t_rows_R 2)), (am 8, eJ cA 40 (t_rows_R 3)), (am 9, eJ cA 40 (t_rows_R 4)), (am 10, eJ cA 40 (t_rows_R 5)), (am 11, eJ cA 40 (t_rows_R 6)), (am 12, eJ cA 40 (t_rows_R 7)), ((am 16), eI cA 8 x.2.2.2.1), ((am 17), eI cA 8 t_kind), ((am 19), eI cA 8 t_pitch), ((am 21), eI cA 12 x.2.2.2.2.1), ((am 22), eI cA 13 x.2.2.2.2.2)] H → va_D A [((am 0), e_X6 am tkv ttv x.2.2.1 t_L), ((am 1), eI cA 8 t_shelf), ((am 3), eI cA 8 t_rowSize), ((am 4), eOJ cA am 5), (am 5, eJ cA 40 (t_rows_R 0)), (am 6, eJ cA 40 (t_rows_R 1)), (am 7, eJ cA 40 (t_rows_R 2)), (am 8, eJ cA 40 (t_rows_R 3)), (am 9, eJ cA 40 (t_rows_R 4)), (am 10, eJ cA 40 (t_rows_R 5)), (am 11, eJ cA 40 (t_rows_R 6)), (am 12, eJ cA 40 (t_rows_R 7)), ((am 16), eI cA 8 x.2.2.2.1), ((am 17), eI cA 8 t_kind), ((am 19), eI cA 8 t_pitch), ((am 21), eI cA 12 x.2.2.2.2.1), ((am 22), eI cA 13 x.2.2.2.2.2)] → va_S A s.heap H locs → lv_has ls 6 [(0, .ref (am 0)), (3, .int x.1), (5, .int x.2.1)] → W p l e rm_X6_when s m args below meth c H locs 0 0 Q (F0 m 30 ls []) := by
    intro  n
    induction n with
    | zero => intro x H locs ls hm; cases (show none = some out from hm)
    | succ n HK_30 =>
      intro x H locs ls hm hP hD hS hl
      replace hm : b_X6_when_30 fu t_L t_shelf t_rowSize t_rows_R t_kind t_pitch (lfix (b_X6_when_30 fu t_L t_shelf t_rowSize t_rows_R t_kind t_pitch) n) x = some out := hm
      unfold b_X6_when_30 at hm
      refine lv_iload hx hb dX6_when_30 (lv_at hl 2 rfl) ?_
      refine lv_bipush (v := (60 : Int32)) hx hb dX6_when_32 (by decide) ?_
      refine lv_icmp_gt (tgt := 55) hx hb dX6_when_34 (by decide) (fun c4 => ?_) (fun c4 => ?_)
      · have hm := it_t c4 hm
        exact B_55 _ _ _ _ _ _ _ _ hm hP hD hS (lv_sub hl [0, 2] rfl)
      · have hm := it_f c4 hm
        refine lv_aload_n hx hb dX6_when_37 rfl (lv_at hl 0 rfl) ?_
        refine lv_iload_n hx hb dX6_when_38 rfl (lv_at hl 1 rfl) ?_
        obtain ⟨o5, ho6, hm⟩ := bd_s hm
        refine xr_i (wr := [((am 1), eI cA 8 t_shelf), ((am 3), eI cA 8 t_rowSize), ((am 4), eOJ cA am 5), (am 5, eJ cA 40 (t_rows_R 0)), (am 6, eJ cA 40 (t_rows_R 1)), (am 7, eJ cA 40 (t_rows_R 2)), (am 8, eJ cA 40 (t_rows_R 3)), (am 9, eJ cA 40 (t_rows_R 4)), (am 10, eJ cA 40 (t_rows_R 5)), (am 11, eJ cA 40 (t_rows_R 6)), (am 12, eJ cA 40 (t_rows_R 7)), ((am 16), eI cA 8 x.2.2.2.1)]) (wn := [((am 0), e_X6 am tkv ttv o5.2.1 t_L), ((am 1), eI cA 8 t_shelf), ((am 3), eI cA 8 t_rowSize), ((am 4), eOJ cA am 5), (am 5, eJ cA 40 (t_rows_R 0)), (am 6, eJ cA 40 (t_rows_R 1)), (am 7, eJ cA 40 (t_rows_R 2)), (am 8, eJ cA 40 (t_rows_R 3)), (am 9, eJ cA 40 (t_rows_R 4)), (am 10, eJ cA 40 (t_rows_R 5)), (am 11, eJ cA 40 (t_rows_R 6)), (am 12, eJ cA 40 (t_rows_R 7)), ((am 16), eI cA 8 x.2.2.2.1), ((am 17), eI cA 8 t_kind), ((am 19), eI cA 8 t_pitch), ((am 21), eI cA 12 x.2.2.2.2.1), ((am 22), eI cA 13 o5.2.2)]) (va_runV (As := [.int x.1]) (rest := []) ⟨hx, hb, hml, hown, htg⟩ (c_X6_gets l D cA _ fu am tkv ttv x.2.2.1 t_L t_kind t_pitch x.2.2.2.2.1 x.2.2.2.2.2 x.1 o5 ho6) (cwV 1 htg (gV q_6_77 q_6_79 q_p6_12 q_1_8 q_6_80) rfl rfl rfl hd_X6_gets ⟨Nat.le_of_ble_eq_true rfl, Nat.le_of_ble_eq_true rfl⟩) (xpV hN hK hP hD [0, 13, 14, 15, 16] rfl (by decide) rfl rfl) rfl rfl hl.1 rfl (lv_room (Nat.le_of_ble_eq_true rfl)) dX6_when_39 ⟨Nat.zero_le _, Nat.zero_le _⟩) hP hD hS hA [0, 13, 14, 15, 16] [1, 2, 3, 4, 5, 6, 7, 8, 9, 10, 11, 12] [12, 0, 1, 2, 3, 4, 5, 6, 7, 8, 9, 10, 11, 13, 14, 15, 16] rfl rfl (by decide) (by decide) rfl (by decide) (fun H locs hP hD hS => ?_)
        refine lv_if_ne (tgt := 55) hx hb dX6_when_42 (by decide) (fun c7 => ?_) (fun c7 => ?_)
        · have hm := it_f c7 hm
          exact B_55 _ _ _ _ _ _ _ _ hm hP hD hS (lv_sub hl [0, 2] rfl)
        · have hm := it_t c7 hm
          refine lv_aload_n hx hb dX6_when_45 rfl (lv_at hl 0 rfl) ?_
          obtain ⟨o8, ho9, hm⟩ := bd_s hm
          refine xr_v (wr := [((am 1), eI cA 8 t_shelf), ((am 3), eI cA 8 t_rowSize), ((am 4), eOJ cA am 5), (am 5, eJ cA 40 (t_rows_R 0)), (am 6, eJ cA 40 (t_rows_R 1)), (am 7, eJ cA 40 (t_rows_R 2)), (am 8, eJ cA 40 (t_rows_R 3)), (am 9, eJ cA 40 (t_rows_R 4)), (am 10, eJ cA 40 (t_rows_R 5)), (am 11, eJ cA 40 (t_rows_R 6)), (am 12, eJ cA 40 (t_rows_R 7)), ((am 16), eI cA 8 x.2.2.2.1), ((am 17), eI cA 8 t_kind), ((am 19), eI cA 8 t_pitch), ((am 21), eI cA 12 x.2.2.2.2.1), ((am 22), eI cA 13 o5.2.2)]) (wn := [((am 0), e_X6 am tkv ttv o8 t_L), ((am 1), eI cA 8 t_shelf), ((am 3), eI cA 8 t_rowSize), ((am 4), eOJ cA am 5), (am 5, eJ cA 40 (t_rows_R 0)), (am 6, eJ cA 40 (t_rows_R 1)), (am 7, eJ cA 40 (t_rows_R 2)), (am 8, eJ cA 40 (t_rows_R 3)), (am 9, eJ cA 40 (t_rows_R 4)), (am 10, eJ cA 40 (t_rows_R 5)), (am 11, eJ cA 40 (t_rows_R 6)), (am 12, eJ cA 40 (t_rows_R 7)), ((am 16), eI cA 8 x.2.2.2.1), ((am 17), eI cA 8 t_kind), ((am 19), eI cA 8 t_pitch), ((am 21), eI cA 12 x.2.2.2.2.1), ((am 22), eI cA 13 o5.2.2)]) (va_runV (As := []) (rest := []) ⟨hx, hb, hml, hown, htg⟩ (c_X6_passes l D cA _ fu am tkv ttv o5.2.1 t_L o8 ho9) (cwV 0 htg (gV q_6_113 q_6_115 q_p6_14 q_1_8 q_6_116) rfl rfl rfl hd_X6_passes ⟨Nat.le_of_ble_eq_true rfl, Nat.le_of_ble_eq_true rfl⟩) (xpV hN hK hP hD [0] rfl (by decide) rfl rfl) rfl rfl hl.1 rfl (lv_room (Nat.le_of_ble_eq_true rfl)) dX6_when_46 ⟨Nat.zero_le _, Nat.zero_le _⟩) hP hD hS hA [0] [1, 2, 3, 4, 5, 6, 7, 8, 9, 10, 11, 12, 13, 14, 15, 16] [16, 0, 1, 2, 3, 4, 5, 6, 7, 8, 9, 10, 11, 12, 13, 14, 15] rfl rfl (by decide) (by decide) rfl (by decide) (fun H locs hP hD hS => ?_)
          refine lv_iinc (v := (x.2.1 + (1 : Int32))) (lv' := [(5, .int (x.2.1 + (1 : Int32))), (0, .ref (am 0)), (3, .int x.1)]) hx hb dX6_when_49 hl (k := 2) rfl rfl (by decide) rfl (fun ls hl => ?_)
          refine lv_goto (tgt := 30) hx hb dX6_when_52 (by decide) ?_
          exact HK_30 _ _ _ _ hm hP hD hS (lv_sub hl [1, 2, 0] rfl)
  unfold m_X6_when at hm
  subst hargs
  have hl := lv_entry ([.ref (am 0), .int l1, .int l2, .int l3]) (n := 6) (Nat.le_of_ble_eq_true rfl)
  rw [lg_entry_eq]
  generalize (lg_sl ([.ref (am 0), .int l1, .int l2, .int l3]) ++ List.replicate (6 - (lg_sl ([.ref (am 0), .int l1, .int l2, .int l3])).length) Slot.unset).toArray = ls at hl ⊢
  have hl : lv_has ls 6 [(0, .ref (am 0)), (1, .int l1), (2, .int l2), (3, .int l3)] := hl
  refine lv_aload_n hx hb dX6_when_0 rfl (lv_at hl 0 rfl) ?_
  refine lv_iload_n hx hb dX6_when_1 rfl (lv_at hl 1 rfl) ?_
  refine lv_iload_n hx hb dX6_when_2 rfl (lv_at hl 2 rfl) ?_
  refine lv_bipush (v := (12 : Int32)) hx hb dX6_when_3 (by decide) ?_
  refine lv_aload_n hx hb dX6_when_5 rfl (lv_at hl 0 rfl) ?_
  refine lv_iload_n hx hb dX6_when_6 rfl (lv_at hl 3 rfl) ?_
  obtain ⟨o10, ho11, hm⟩ := bd_s hm
  refine xr_i (wr := [((am 1), eI cA 8 t_shelf), ((am 3), eI cA 8 t_rowSize), ((am 4), eOJ cA am 5), (am 5, eJ cA 40 (t_rows_R 0)), (am 6, eJ cA 40 (t_rows_R 1)), (am 7, eJ cA 40 (t_rows_R 2)), (am 8, eJ cA 40 (t_rows_R 3)), (am 9, eJ cA 40 (t_rows_R 4)), (am 10, eJ cA 40 (t_rows_R 5)), (am 11, eJ cA 40 (t_rows_R 6)), (am 12, eJ cA 40 (t_rows_R 7)), ((am 16), eI cA 8 t_refused), ((am 17), eI cA 8 t_kind), ((am 19), eI cA 8 t_pitch), ((am 21), eI cA 12 t_word), ((am 22), eI cA 13 t_heard)]) (wn := [((am 0), e_X6 am tkv ttv t t_L), ((am 1), eI cA 8 t_shelf), ((am 3), eI cA 8 t_rowSize), ((am 4), eOJ cA am 5), (am 5, eJ cA 40 (t_rows_R 0)), (am 6, eJ cA 40 (t_rows_R 1)), (am 7, eJ cA 40 (t_rows_R 2)), (am 8, eJ cA 40 (t_rows_R 3)), (am 9, eJ cA 40 (t_rows_R 4)), (am 10, eJ cA 40 (t_rows_R 5)), (am 11, eJ cA 40 (t_rows_R 6)), (am 12, eJ cA 40 (t_rows_R 7)), ((am 16), eI cA 8 t_refused), ((am 17), eI cA 8 t_kind), ((am 19), eI cA 8 t_pitch), ((am 21), eI cA 12 t_word), ((am 22), eI cA 13 t_heard)]) (va_runV (As := [.int l3]) (rest := [.int (12 : Int32), .int l2, .int l1, .ref (am 0)]) ⟨hx, hb, hml, hown, htg⟩ (c_X6_isVoice l D cA _ fu am tkv ttv t t_L l3 o10 ho11) (cwV 1 htg (gV q_5_139 q_5_141 q_p5_9 q_1_8 q_5_142) rfl rfl rfl hd_X6_isVoice ⟨Nat.le_of_ble_eq_true rfl, Nat.le_of_ble_eq_true rfl⟩) (xpV hN hK hP hD [0] rfl (by decide) rfl rfl) rfl rfl hl.1 rfl (lv_room (Nat.le_of_ble_eq_true rfl)) dX6_when_7 ⟨Nat.zero_le _, Nat.zero_le _⟩) hP hD hS hA [0] [1, 2, 3, 4, 5, 6, 7, 8, 9, 10, 11, 12, 13, 14, 15, 16] [16, 0, 1, 2, 3, 4, 5, 6, 7, 8, 9, 10, 11, 12, 13, 14, 15] rfl rfl (by decide) (by decide) rfl (by decide) (fun H locs hP hD hS => ?_)
  obtain ⟨o12, ho13, hm⟩ := bd_s hm
  refine xr_i (wr := [((am 17), eI cA 8 t_kind), ((am 19), eI cA 8 t_pitch), ((am 22), eI cA 13 t_heard)]) (wn := [((am 0), e_X6 am tkv ttv o12.2.1 t_L), ((am 1), eI cA 8 t_shelf), ((am 3), eI cA 8 t_rowSize), ((am 4), eOJ cA am 5), (am 5, eJ cA 40 (t_rows_R 0)), (am 6, eJ cA 40 (t_rows_R 1)), (am 7, eJ cA 40 (t_rows_R 2)), (am 8, eJ cA 40 (t_rows_R 3)), (am 9, eJ cA 40 (t_rows_R 4)), (am 10, eJ cA 40 (t_rows_R 5)), (am 11, eJ cA 40 (t_rows_R 6)), (am 12, eJ cA 40 (t_rows_R 7)), ((am 16), eI cA 8 o12.2.2.1), ((am 17), eI cA 8 t_kind), ((am 19), eI cA 8 t_pitch), ((am 21), eI cA 12 o12.2.2.2), ((am 22), eI cA 13 t_heard)]) (va_runV (As := [.int l1, .int l2, .int (12 : Int32), .int o10.1]) (rest := []) ⟨hx, hb, hml, hown, htg⟩ (c_X6_noWord l D cA _ fu am tkv ttv t t_L t_shelf t_rowSize t_rows_R t_refused t_word l1 l2 (12 : Int32) o10.1 o12 ho13) (cwV 4 htg (gV q_6_49 q_6_51 q_p6_8 q_1_8 q_6_52) rfl rfl rfl hd_X6_noWord ⟨Nat.le_of_ble_eq_true rfl, Nat.le_of_ble_eq_true rfl⟩) (xpV hN hK hP hD [0, 1, 2, 3, 4, 5, 6, 7, 8, 9, 10, 11, 12, 15] rfl (by decide) rfl rfl) rfl rfl hl.1 rfl (lv_room (Nat.le_of_ble_eq_true rfl)) dX6_when_10 ⟨Nat.zero_le _, Nat.zero_le _⟩) hP hD hS hA [0, 1, 2, 3, 4, 5, 6, 7, 8, 9, 10, 11, 12, 15] [13, 14, 16] [3, 4, 5, 6, 7, 8, 9, 10, 11, 12, 13, 14, 15, 0, 1, 16, 2] rfl rfl (by decide) (by decide) rfl (by decide) (fun H locs hP hD hS => ?_)
  refine lv_istore (lv' := [(4, .int o12.1), (0, .ref (am 0)), (1, .int l1), (2, .int l2), (3, .int l3)]) hx hb dX6_when_13 hl (by decide) rfl (fun ls hl => ?_)
  refine lv_iload hx hb dX6_when_15 (lv_at hl 0 rfl) ?_
  refine lv_if_eq (tgt := 23) hx hb dX6_when_17 (by decide) (fun c14 => ?_) (fun c14 => ?_)
  · have hm := it_t c14 hm
    refine lv_aload_n hx hb dX6_when_23 rfl (lv_at hl 1 rfl) ?_
    obtain ⟨o15, ho16, hm⟩ := bd_s hm
    refine xr_v (wr := [((am 1), eI cA 8 t_shelf), ((am 3), eI cA 8 t_rowSize), ((am 4), eOJ cA am 5), (am 5, eJ cA 40 (t_rows_R 0)), (am 6, eJ cA 40 (t_rows_R 1)), (am 7, eJ cA 40 (t_rows_R 2)), (am 8, eJ cA 40 (t_rows_R 3)), (am 9, eJ cA 40 (t_rows_R 4)), (am 10, eJ cA 40 (t_rows_R 5)), (am 11, eJ cA 40 (t_rows_R 6)), (am 12, eJ cA 40 (t_rows_R 7)), ((am 16), eI cA 8 o12.2.2.1), ((am 17), eI cA 8 t_kind), ((am 19), eI cA 8 t_pitch), ((am 21), eI cA 12 o12.2.2.2), ((am 22), eI cA 13 t_heard)]) (wn := [((am 0), e_X6 am tkv ttv o15 t_L), ((am 1), eI cA 8 t_shelf), ((am 3), eI cA 8 t_rowSize), ((am 4), eOJ cA am 5), (am 5, eJ cA 40 (t_rows_R 0)), (am 6, eJ cA 40 (t_rows_R 1)), (am 7, eJ cA 40 (t_rows_R 2)), (am 8, eJ cA 40 (t_rows_R 3)), (am 9, eJ cA 40 (t_rows_R 4)), (am 10, eJ cA 40 (t_rows_R 5)), (am 11, eJ cA 40 (t_rows_R 6)), (am 12, eJ cA 40 (t_rows_R 7)), ((am 16), eI cA 8 o12.2.2.1), ((am 17), eI cA 8 t_kind), ((am 19), eI cA 8 t_pitch), ((am 21), eI cA 12 o12.2.2.2), ((am 22), eI cA 13 t_heard)]) (va_runV (As := []) (rest := []) ⟨hx, hb, hml, hown, htg⟩ (c_X6_keeps l D cA _ fu am tkv ttv o12.2.1 t_L o15 ho16) (cwV 0 htg (gV q_6_109 q_6_111 q_p6_13 q_1_8 q_6_112) rfl rfl rfl hd_X6_keeps ⟨Nat.le_of_ble_eq_true rfl, Nat.le_of_ble_eq_true rfl⟩) (xpV hN hK hP hD [0] rfl (by decide) rfl rfl) rfl rfl hl.1 rfl (lv_room (Nat.le_of_ble_eq_true rfl)) dX6_when_24 ⟨Nat.zero_le _, Nat.zero_le _⟩) hP hD hS hA [0] [1, 2, 3, 4, 5, 6, 7, 8, 9, 10, 11, 12, 13, 14, 15, 16] [16, 0, 1, 2, 3, 4, 5, 6, 7, 8, 9, 10, 11, 12, 13, 14, 15] rfl rfl (by decide) (by decide) rfl (by decide) (fun H locs hP hD hS => ?_)
    refine lv_iconst (v := (0 : Int32)) hx hb dX6_when_27 (by decide) ?_
    refine lv_istore (lv' := [(5, .int (0 : Int32)), (4, .int o12.1), (0, .ref (am 0)), (1, .int l1), (2, .int l2), (3, .int l3)]) hx hb dX6_when_28 hl (by decide) rfl (fun ls hl => ?_)
    exact B_30 fu _ _ _ _ hm hP hD hS (lv_sub hl [2, 5, 0] rfl)
  · have hm := it_f c14 hm
    refine lv_iload hx hb dX6_when_20 (lv_at hl 0 rfl) ?_
    rw [hQ]
    exact W.iret (v := o12.1) hx hb hr (fun t9 ht hW => ⟨⟨o12.1, (o12.2.1, o12.2.2.1, o12.2.2.2, t_heard), rfl, (Option.some.inj hm), by rw [ht]; exact hP, va_K.moved hW.alike hK, hD⟩, hS.F ht⟩) hS.2.2 dX6_when_22
def b_X6_sure_55 (fu : Nat) (t_L : Nat → Int64) (t_shelf : Nat → Int32) (t_rowSize : Nat → Int32) (t_rows_R : Nat → Nat → Int64) (t_kind : Nat → Int32) (t_pitch : Nat → Int32) (l5 : Int32) (t : Nat → Int32) (t_refused : Nat → Int32) (t_word : Nat → Int32) (t_heard : Nat → Int32) : Option (Int32 × ((Nat → Int32) × (Nat → Int32) × (Nat → Int32) × (Nat → Int32))) :=
  (m_X6_goesBack fu t t_L).bind fun o1 =>
    some (l5, (o1, t_refused, t_word, t_heard))
def b_X6_sure_30 (fu : Nat) (t_L : Nat → Int64) (t_shelf : Nat → Int32) (t_rowSize : Nat → Int32) (t_rows_R : Nat → Nat → Int64) (t_kind : Nat → Int32) (t_pitch : Nat → Int32) (k_30 : (Int32 × Int32 × (Nat → Int32) × (Nat → Int32) × (Nat → Int32) × (Nat → Int32)) → Option (Int32 × ((Nat → Int32) × (Nat → Int32) × (Nat → Int32) × (Nat → Int32)))) (x : Int32 × Int32 × (Nat → Int32) × (Nat → Int32) × (Nat → Int32) × (Nat → Int32)) : Option (Int32 × ((Nat → Int32) × (Nat → Int32) × (Nat → Int32) × (Nat → Int32))) :=
  (if (60 : Int32) ≤ x.2.1 then
        b_X6_sure_55 fu t_L t_shelf t_rowSize t_rows_R t_kind t_pitch x.2.1 x.2.2.1 x.2.2.2.1 x.2.2.2.2.1 x.2.2.2.2.2
      else
        (m_X6_gets fu x.2.2.1 t_L t_kind t_pitch x.2.2.2.2.1 x.2.2.2.2.2 x.1).bind fun o4 =>
        (if o4.1 = 0 then
          b_X6_sure_55 fu t_L t_shelf t_rowSize t_rows_R t_kind t_pitch x.2.1 o4.2.1 x.2.2.2.1 x.2.2.2.2.1 o4.2.2
        else
          (m_X6_passes fu o4.2.1 t_L).bind fun o7 =>
          k_30 (x.1, (x.2.1 + (1 : Int32)), o7, x.2.2.2.1, x.2.2.2.2.1, o4.2.2)))
def m_X6_sure (fu : Nat) (t : Nat → Int32) (t_L : Nat → Int64) (t_shelf : Nat → Int32) (t_rowSize : Nat → Int32) (t_rows_R : Nat → Nat → Int64) (t_refused : Nat → Int32) (t_kind : Nat → Int32) (t_pitch : Nat → Int32) (t_word : Nat → Int32) (t_heard : Nat → Int32) (l1 : Int32) (l2 : Int32) (l3 : Int32) : Option (Int32 × ((Nat → Int32) × (Nat → Int32) × (Nat → Int32) × (Nat → Int32))) :=
  (m_X6_isVoice fu t t_L l3).bind fun o9 =>
  (m_X6_noWord fu t t_L t_shelf t_rowSize t_rows_R t_refused t_word l1 l2 (12 : Int32) o9.1).bind fun o11 =>
  (if o11.1 = 0 then
    (m_X6_keeps fu o11.2.1 t_L).bind fun o14 =>
    lfix (b_X6_sure_30 fu t_L t_shelf t_rowSize t_rows_R t_kind t_pitch) fu (l3, (0 : Int32), o14, o11.2.2.1, o11.2.2.2, t_heard)
  else
    some (o11.1, (o11.2.1, o11.2.2.1, o11.2.2.2, t_heard)))
abbrev rm_X6_sure : Room := ({ frames := 6, cells := 0, slots := 0, locals := 136 } : Room)
abbrev w0_X6_sure (cA : Nat → ClassId) (am : Nat → Nat) (tkv : Value) (ttv : Value) (t : Nat → Int32) (t_L : Nat → Int64) (t_shelf : Nat → Int32) (t_rowSize : Nat → Int32) (t_rows_R : Nat → Nat → Int64) (t_refused : Nat → Int32) (t_kind : Nat → Int32) (t_pitch : Nat → Int32) (t_word : Nat → Int32) (t_heard : Nat → Int32) : va_W := [((am 0), e_X6 am tkv ttv t t_L), ((am 1), eI cA 8 t_shelf), ((am 3), eI cA 8 t_rowSize), ((am 4), eOJ cA am 5), (am 5, eJ cA 40 (t_rows_R 0)), (am 6, eJ cA 40 (t_rows_R 1)), (am 7, eJ cA 40 (t_rows_R 2)), (am 8, eJ cA 40 (t_rows_R 3)), (am 9, eJ cA 40 (t_rows_R 4)), (am 10, eJ cA 40 (t_rows_R 5)), (am 11, eJ cA 40 (t_rows_R 6)), (am 12, eJ cA 40 (t_rows_R 7)), ((am 16), eI cA 8 t_refused), ((am 17), eI cA 8 t_kind), ((am 19), eI cA 8 t_pitch), ((am 21), eI cA 12 t_word), ((am 22), eI cA 13 t_heard)]
abbrev w1_X6_sure (cA : Nat → ClassId) (am : Nat → Nat) (tkv : Value) (ttv : Value) (t_L : Nat → Int64) (t_shelf : Nat → Int32) (t_rowSize : Nat → Int32) (t_rows_R : Nat → Nat → Int64) (t_kind : Nat → Int32) (t_pitch : Nat → Int32) (u : (Nat → Int32) × (Nat → Int32) × (Nat → Int32) × (Nat → Int32)) : va_W := [((am 0), e_X6 am tkv ttv u.1 t_L), ((am 1), eI cA 8 t_shelf), ((am 3), eI cA 8 t_rowSize), ((am 4), eOJ cA am 5), (am 5, eJ cA 40 (t_rows_R 0)), (am 6, eJ cA 40 (t_rows_R 1)), (am 7, eJ cA 40 (t_rows_R 2)), (am 8, eJ cA 40 (t_rows_R 3)), (am 9, eJ cA 40 (t_rows_R 4)), (am 10, eJ cA 40 (t_rows_R 5)), (am 11, eJ cA 40 (t_rows_R 6)), (am 12, eJ cA 40 (t_rows_R 7)), ((am 16), eI cA 8 u.2.1), ((am 17), eI cA 8 t_kind), ((am 19), eI cA 8 t_pitch), ((am 21), eI cA 12 u.2.2.1), ((am 22), eI cA 13 u.2.2.2)]
theorem hd_X6_sure : yX6_sure.cls = RX6 ∧ yX6_sure.cls ≠ "java/lang/invoke/MethodHandle" ∧ yX6_sure.cls ≠ "java/lang/invoke/VarHandle" ∧ (parseMethodDescriptor yX6_sure.desc).map (fun d => d.parameters.length) = some 3 := by decide +kernel
set_option maxHeartbeats 40000000 in
set_option maxRecDepth 100000 in
theorem c_X6_sure (l : Launch) (D : va_G) (cA : Nat → ClassId) (sz : Nat) (fu : Nat) (am : Nat → Nat) (tkv : Value) (ttv : Value) (t : Nat → Int32) (t_L : Nat → Int64) (t_shelf : Nat → Int32) (t_rowSize : Nat → Int32) (t_rows_R : Nat → Nat → Int64) (t_refused : Nat → Int32) (t_kind : Nat → Int32) (t_pitch : Nat → Int32) (t_word : Nat → Int32) (t_heard : Nat → Int32) (l1 : Int32) (l2 : Int32) (l3 : Int32) (out : Int32 × ((Nat → Int32) × (Nat → Int32) × (Nat → Int32) × (Nat → Int32))) (hm : m_X6_sure fu t t_L t_shelf t_rowSize t_rows_R t_refused t_kind t_pitch t_word t_heard l1 l2 l3 = some out) : MI l yX6_sure (wU yX6_sure cX6_sure 6 ((Option.some Jvm.ClassFile.FieldType.int))) rm_X6_sure D cA sz [.ref (am 0), .int l1, .int l2, .int l3] (w0_X6_sure cA am tkv ttv t t_L t_shelf t_rowSize t_rows_R t_refused t_kind t_pitch t_word t_heard) out (w1_X6_sure cA am tkv ttv t_L t_shelf t_rowSize t_rows_R t_kind t_pitch) := by
  refine Met.ofW (cc := cX6_sure) (maxL := 6) (ret := (Option.some Jvm.ClassFile.FieldType.int)) (by decide) rfl ?_
  intro p e s m args below meth c s₁ B hml hv
  obtain ⟨hargs, hsz, hP, hK, hD0, hN⟩ := hv
  have hx := B.exec
  have hb := B.bytes
  have hr := B.returns
  have htg : ∀ w ∈ gw, w.before args s = true := fun w h => atoms_spec (ws := wU yX6_sure cX6_sure 6 ((Option.some Jvm.ClassFile.FieldType.int))) B.pre w (List.mem_cons_of_mem _ h)
  have hown : s.vm.findClass RX6 = some m.cls := findClass_of_methodNamed B.named
  have hlocks := B.notSynchronized
  subst hsz
  have hD := hD0.self (sz := s.heap.size)
  have hA : ∀ q : Nat, s.heap.size ≤ q → va_A (w0_X6_sure cA am tkv ttv t t_L t_shelf t_rowSize t_rows_R t_refused t_kind t_pitch t_word t_heard) s.heap.size q := fun q h => Or.inr h
  have hS : va_S (va_A (w0_X6_sure cA am tkv ttv t t_L t_shelf t_rowSize t_rows_R t_refused t_kind t_pitch t_word t_heard) s.heap.size) s.heap s.heap [] := va_S.rf
  generalize va_A (w0_X6_sure cA am tkv ttv t t_L t_shelf t_rowSize t_rows_R t_refused t_kind t_pitch t_word t_heard) s.heap.size = A at hA hD hS ⊢
  obtain ⟨Q, hQ⟩ : ∃ Q : State → Prop, Q = MQ below (va_Qi (fun (r : Int32) (u : (Nat → Int32) × (Nat → Int32) × (Nat → Int32) × (Nat → Int32)) => (r, u) = out) (pst0 D cA A (w1_X6_sure cA am tkv ttv t_L t_shelf t_rowSize t_rows_R t_kind t_pitch)) A) args s 0 0 A := ⟨_, rfl⟩
  refine (?_ : W p l e rm_X6_sure s m args below meth c s.heap [] 0 0 (MQ below (va_Qi (fun (r : Int32) (u : (Nat → Int32) × (Nat → Int32) × (Nat → Int32) × (Nat → Int32)) => (r, u) = out) (pst0 D cA A (w1_X6_sure cA am tkv ttv t_L t_shelf t_rowSize t_rows_R t_kind t_pitch)) A) args s 0 0 A) (entryFrame m args 6))
  rw [← hQ]
  have hP : va_P D CL [((am 0), e_X6 am tkv ttv t t_L), ((am 1), eI cA 8 t_shelf), ((am 3), eI cA 8 t_rowSize), ((am 4), eOJ cA am 5), (am 5, eJ cA 40 (t_rows_R 0)), (am 6, eJ cA 40 (t_rows_R 1)), (am 7, eJ cA 40 (t_rows_R 2)), (am 8, eJ cA 40 (t_rows_R 3)), (am 9, eJ cA 40 (t_rows_R 4)), (am 10, eJ cA 40 (t_rows_R 5)), (am 11, eJ cA 40 (t_rows_R 6)), (am 12, eJ cA 40 (t_rows_R 7)), ((am 16), eI cA 8 t_refused), ((am 17), eI cA 8 t_kind), ((am 19), eI cA 8 t_pitch), ((am 21), eI cA 12 t_word), ((am 22), eI cA 13 t_heard)] s.heap := hP
  have hD : va_D A [((am 0), e_X6 am tkv ttv t t_L), ((am 1), eI cA 8 t_shelf), ((am 3), eI cA 8 t_rowSize), ((am 4), eOJ cA am 5), (am 5, eJ cA 40 (t_rows_R 0)), (am 6, eJ cA 40 (t_rows_R 1)), (am 7, eJ cA 40 (t_rows_R 2)), (am 8, eJ cA 40 (t_rows_R 3)), (am 9, eJ cA 40 (t_rows_R 4)), (am 10, eJ cA 40 (t_rows_R 5)), (am 11, eJ cA 40 (t_rows_R 6)), (am 12, eJ cA 40 (t_rows_R 7)), ((am 16), eI cA 8 t_refused), ((am 17), eI cA 8 t_kind), ((am 19), eI cA 8 t_pitch), ((am 21), eI cA 12 t_word), ((am 22), eI cA 13 t_heard)] := hD
  have B_55 : ∀ (l5 : Int32) (t : Nat → Int32) (t_refused : Nat → Int32) (t_word : Nat → Int32) (t_heard : Nat → Int32) (H : Heap) (locs : List Loc) (ls : Array Slot), b_X6_sure_55 fu t_L t_shelf t_rowSize t_rows_R t_kind t_pitch l5 t t_refused t_word t_heard = some out → va_P D CL [((am 0), e_X6 am tkv ttv t t_L), ((am 1), eI cA 8 t_shelf), ((am 3), eI cA 8 t_rowSize), ((am 4), eOJ cA am 5), (am 5, eJ cA 40 (t_rows_R 0)), (am 6, eJ cA 40 (t_rows_R 1)), (am 7, eJ cA 40 (t_rows_R 2)), (am 8, eJ cA 40 (t_rows_R 3)), (am 9, eJ cA 40 (t_rows_R 4)), (am 10, eJ cA 40 (t_rows_R 5)), (am 11, eJ cA 40 (t_rows_R 6)), (am 12, eJ cA 40 (t_rows_R 7)), ((am 16), eI cA 8 t_refused), ((am 17), eI cA 8 t_kind), ((am 19), eI cA 8 t_pitch), ((am 21), eI cA 12 t_word), ((am 22), eI cA 13 t_heard)] H → va_D A [((am 0), e_X6 am tkv ttv t t_L), ((am 1), eI cA 8 t_shelf), ((am 3), eI cA 8 t_rowSize), ((am 4), eOJ cA am 5), (am 5, eJ cA 40 (t_rows_R 0)), (am 6, eJ cA 40 (t_rows_R 1)), (am 7, eJ cA 40 (t_rows_R 2)), (am 8, eJ cA 40 (t_rows_R 3)), (am 9, eJ cA 40 (t_rows_R 4)), (am 10, eJ cA 40 (t_rows_R 5)), (am 11, eJ cA 40 (t_rows_R 6)), (am 12, eJ cA 40 (t_rows_R 7)), ((am 16), eI cA 8 t_refused), ((am 17), eI cA 8 t_kind), ((am 19), eI cA 8 t_pitch), ((am 21), eI cA 12 t_word), ((am 22), eI cA 13 t_heard)] → va_S A s.heap H locs → lv_has ls 6 [(0, .ref (am 0)), (5, .int l5)] → W p l e rm_X6_sure s m args below meth c H locs 0 0 Q (F0 m 55 ls []) := by
    intro  l5 t t_refused t_word t_heard H locs ls hm hP hD hS hl
    unfold b_X6_sure_55 at hm
    refine lv_aload_n hx hb dX6_sure_55 rfl (lv_at hl 0 rfl) ?_
    obtain ⟨o1, ho2, hm⟩ := bd_s hm
    refine xr_v (wr := [((am 1), eI cA 8 t_shelf), ((am 3), eI cA 8 t_rowSize), ((am 4), eOJ cA am 5), (am 5, eJ cA 40 (t_rows_R 0)), (am 6, eJ cA 40 (t_rows_R 1)), (am 7, eJ cA 40 (t_rows_R 2)), (am 8, eJ cA 40 (t_rows_R 3)), (am 9, eJ cA 40 (t_rows_R 4)), (am 10, eJ cA 40 (t_rows_R 5)), (am 11, eJ cA 40 (t_rows_R 6)), (am 12, eJ cA 40 (t_rows_R 7)), ((am 16), eI cA 8 t_refused), ((am 17), eI cA 8 t_kind), ((am 19), eI cA 8 t_pitch), ((am 21), eI cA 12 t_word), ((am 22), eI cA 13 t_heard)]) (wn := [((am 0), e_X6 am tkv ttv o1 t_L), ((am 1), eI cA 8 t_shelf), ((am 3), eI cA 8 t_rowSize), ((am 4), eOJ cA am 5), (am 5, eJ cA 40 (t_rows_R 0)), (am 6, eJ cA 40 (t_rows_R 1)), (am 7, eJ cA 40 (t_rows_R 2)), (am 8, eJ cA 40 (t_rows_R 3)), (am 9, eJ cA 40 (t_rows_R 4)), (am 10, eJ cA 40 (t_rows_R 5)), (am 11, eJ cA 40 (t_rows_R 6)), (am 12, eJ cA 40 (t_rows_R 7)), ((am 16), eI cA 8 t_refused), ((am 17), eI cA 8 t_kind), ((am 19), eI cA 8 t_pitch), ((am 21), eI cA 12 t_word), ((am 22), eI cA 13 t_heard)]) (va_runV (As := []) (rest := []) ⟨hx, hb, hml, hown, htg⟩ (c_X6_goesBack l D cA _ fu am tkv ttv t t_L o1 ho2) (cwV 0 htg (gV q_6_117 q_6_119 q_p6_15 q_1_8 q_6_120) rfl rfl rfl hd_X6_goesBack ⟨Nat.le_of_ble_eq_true rfl, Nat.le_of_ble_eq_true rfl⟩) (xpV hN hK hP hD [0] rfl (by decide) rfl rfl) rfl rfl hl.1 rfl (lv_room (Nat.le_of_ble_eq_true rfl)) dX6_sure_56 ⟨Nat.zero_le _, Nat.zero_le _⟩) hP hD hS hA [0] [1, 2, 3, 4, 5, 6, 7, 8, 9, 10, 11, 12, 13, 14, 15, 16] [16, 0, 1, 2, 3, 4, 5, 6, 7, 8, 9, 10, 11, 12, 13, 14, 15] rfl rfl (by decide) (by decide) rfl (by decide) (fun H locs hP hD hS => ?_)
    refine lv_iload hx hb dX6_sure_59 (lv_at hl 1 rfl) ?_
    rw [hQ]
    exact W.iret (v := l5) hx hb hr (fun t9 ht hW => ⟨⟨l5, (o1, t_refused, t_word, t_heard), rfl, (Option.some.inj hm), by rw [ht]; exact hP, va_K.moved hW.alike hK, hD⟩, hS.F ht⟩) hS.2.2 dX6_sure_61
  have B_30 : ∀ (n : Nat) (x : Int32 × Int32 × (Nat → Int32) × (Nat → Int32) × (Nat → Int32) × (Nat → Int32)) (H : Heap) (locs : List Loc) (ls : Array Slot), lfix (b_X6_sure_30 fu t_L t_shelf t_rowSize t_rows_R t_kind t_pitch) n x = some out → va_P D CL [((am 0), e_X6 am tkv ttv x.2.2.1 t_L), ((am 1), eI cA 8 t_shelf), ((am 3), eI cA 8 t_rowSize), ((am 4), eOJ cA am 5), (am 5, eJ cA 40 (t_rows_R 0)), (am 6, eJ cA 40 (t_rows_R 1)), (am 7, eJ cA 40 (t_rows_R 2)), (am 8, eJ cA 40 (t_rows_R 3)), (am 9, eJ cA 40 (t_rows_R 4)), (am 10, eJ cA 40 (t_rows_R 5)), (am 11, eJ cA 40 (t_rows_R 6)), (am 12, eJ cA 40 (t_rows_R 7)), ((am 16), eI cA 8 x.2.2.2.1), ((am 17), eI cA 8 t_kind), ((am 19), eI cA 8 t_pitch), ((am 21), eI cA 12 x.2.2.2.2.1), ((am 22), eI cA 13 x.2.2.2.2.2)] H → va_D A [((am 0), e_X6 am tkv ttv x.2.2.1 t_L), ((am 1), eI cA 8 t_shelf), ((am 3), eI cA 8 t_rowSize), ((am 4), eOJ cA am 5), (am 5, eJ cA 40 (t_rows_R 0)), (am 6, eJ cA 40 (t_rows_R 1)), (am 7, eJ cA 40 (t_rows_R 2)), (am 8, eJ cA 40 (t_rows_R 3)), (am 9, eJ cA 40 (t_rows_R 4)), (am 10, eJ cA 40 (t_rows_R 5)), (am 11, eJ cA 40 (t_rows_R 6)), (am 12, eJ cA 40 (t_rows_R 7)), ((am 16), eI cA 8 x.2.2.2.1), ((am 17), eI cA 8 t_kind), ((am 19), eI cA 8 t_pitch), ((am 21), eI cA 12 x.2.2.2.2.1), ((am 22), eI cA 13 x.2.2.2.2.2)] → va_S A s.heap H locs → lv_has ls 6 [(0, .ref (am 0)), (3, .int x.1), (5, .int x.2.1)] → W p l e rm_X6_sure s m args below meth c H locs 0 0 Q (F0 m 30 ls []) := by
    intro  n
    induction n with
    | zero => intro x H locs ls hm; cases (show none = some out from hm)
    | succ n HK_30 =>
      intro x H locs ls hm hP hD hS hl
      replace hm : b_X6_sure_30 fu t_L t_shelf t_rowSize t_rows_R t_kind t_pitch (lfix (b_X6_sure_30 fu t_L t_shelf t_rowSize t_rows_R t_kind t_pitch) n) x = some out := hm
      unfold b_X6_sure_30 at hm
      refine lv_iload hx hb dX6_sure_30 (lv_at hl 2 rfl) ?_
      refine lv_bipush (v := (60 : Int32)) hx hb dX6_sure_32 (by decide) ?_
      refine lv_icmp_ge (tgt := 55) hx hb dX6_sure_34 (by decide) (fun c3 => ?_) (fun c3 => ?_)
      · have hm := it_t c3 hm
        exact B_55 _ _ _ _ _ _ _ _ hm hP hD hS (lv_sub hl [0, 2] rfl)
      · have hm := it_f c3 hm
        refine lv_aload_n hx hb dX6_sure_37 rfl (lv_at hl 0 rfl) ?_
        refine lv_iload_n hx hb dX6_sure_38 rfl (lv_at hl 1 rfl) ?_
        obtain ⟨o4, ho5, hm⟩ := bd_s hm
        refine xr_i (wr := [((am 1), eI cA 8 t_shelf), ((am 3), eI cA 8 t_rowSize), ((am 4), eOJ cA am 5), (am 5, eJ cA 40 (t_rows_R 0)), (am 6, eJ cA 40 (t_rows_R 1)), (am 7, eJ cA 40 (t_rows_R 2)), (am 8, eJ cA 40 (t_rows_R 3)), (am 9, eJ cA 40 (t_rows_R 4)), (am 10, eJ cA 40 (t_rows_R 5)), (am 11, eJ cA 40 (t_rows_R 6)), (am 12, eJ cA 40 (t_rows_R 7)), ((am 16), eI cA 8 x.2.2.2.1)]) (wn := [((am 0), e_X6 am tkv ttv o4.2.1 t_L), ((am 1), eI cA 8 t_shelf), ((am 3), eI cA 8 t_rowSize), ((am 4), eOJ cA am 5), (am 5, eJ cA 40 (t_rows_R 0)), (am 6, eJ cA 40 (t_rows_R 1)), (am 7, eJ cA 40 (t_rows_R 2)), (am 8, eJ cA 40 (t_rows_R 3)), (am 9, eJ cA 40 (t_rows_R 4)), (am 10, eJ cA 40 (t_rows_R 5)), (am 11, eJ cA 40 (t_rows_R 6)), (am 12, eJ cA 40 (t_rows_R 7)), ((am 16), eI cA 8 x.2.2.2.1), ((am 17), eI cA 8 t_kind), ((am 19), eI cA 8 t_pitch), ((am 21), eI cA 12 x.2.2.2.2.1), ((am 22), eI cA 13 o4.2.2)]) (va_runV (As := [.int x.1]) (rest := []) ⟨hx, hb, hml, hown, htg⟩ (c_X6_gets l D cA _ fu am tkv ttv x.2.2.1 t_L t_kind t_pitch x.2.2.2.2.1 x.2.2.2.2.2 x.1 o4 ho5) (cwV 1 htg (gV q_6_77 q_6_79 q_p6_12 q_1_8 q_6_80) rfl rfl rfl hd_X6_gets ⟨Nat.le_of_ble_eq_true rfl, Nat.le_of_ble_eq_true rfl⟩) (xpV hN hK hP hD [0, 13, 14, 15, 16] rfl (by decide) rfl rfl) rfl rfl hl.1 rfl (lv_room (Nat.le_of_ble_eq_true rfl)) dX6_sure_39 ⟨Nat.zero_le _, Nat.zero_le _⟩) hP hD hS hA [0, 13, 14, 15, 16] [1, 2, 3, 4, 5, 6, 7, 8, 9, 10, 11, 12] [12, 0, 1, 2, 3, 4, 5, 6, 7, 8, 9, 10, 11, 13, 14, 15, 16] rfl rfl (by decide) (by decide) rfl (by decide) (fun H locs hP hD hS => ?_)
        refine lv_if_eq (tgt := 55) hx hb dX6_sure_42 (by decide) (fun c6 => ?_) (fun c6 => ?_)
        · have hm := it_t c6 hm
          exact B_55 _ _ _ _ _ _ _ _ hm hP hD hS (lv_sub hl [0, 2] rfl)
        · have hm := it_f c6 hm
          refine lv_aload_n hx hb dX6_sure_45 rfl (lv_at hl 0 rfl) ?_
          obtain ⟨o7, ho8, hm⟩ := bd_s hm
          refine xr_v (wr := [((am 1), eI cA 8 t_shelf), ((am 3), eI cA 8 t_rowSize), ((am 4), eOJ cA am 5), (am 5, eJ cA 40 (t_rows_R 0)), (am 6, eJ cA 40 (t_rows_R 1)), (am 7, eJ cA 40 (t_rows_R 2)), (am 8, eJ cA 40 (t_rows_R 3)), (am 9, eJ cA 40 (t_rows_R 4)), (am 10, eJ cA 40 (t_rows_R 5)), (am 11, eJ cA 40 (t_rows_R 6)), (am 12, eJ cA 40 (t_rows_R 7)), ((am 16), eI cA 8 x.2.2.2.1), ((am 17), eI cA 8 t_kind), ((am 19), eI cA 8 t_pitch), ((am 21), eI cA 12 x.2.2.2.2.1), ((am 22), eI cA 13 o4.2.2)]) (wn := [((am 0), e_X6 am tkv ttv o7 t_L), ((am 1), eI cA 8 t_shelf), ((am 3), eI cA 8 t_rowSize), ((am 4), eOJ cA am 5), (am 5, eJ cA 40 (t_rows_R 0)), (am 6, eJ cA 40 (t_rows_R 1)), (am 7, eJ cA 40 (t_rows_R 2)), (am 8, eJ cA 40 (t_rows_R 3)), (am 9, eJ cA 40 (t_rows_R 4)), (am 10, eJ cA 40 (t_rows_R 5)), (am 11, eJ cA 40 (t_rows_R 6)), (am 12, eJ cA 40 (t_rows_R 7)), ((am 16), eI cA 8 x.2.2.2.1), ((am 17), eI cA 8 t_kind), ((am 19), eI cA 8 t_pitch), ((am 21), eI cA 12 x.2.2.2.2.1), ((am 22), eI cA 13 o4.2.2)]) (va_runV (As := []) (rest := []) ⟨hx, hb, hml, hown, htg⟩ (c_X6_passes l D cA _ fu am tkv ttv o4.2.1 t_L o7 ho8) (cwV 0 htg (gV q_6_113 q_6_115 q_p6_14 q_1_8 q_6_116) rfl rfl rfl hd_X6_passes ⟨Nat.le_of_ble_eq_true rfl, Nat.le_of_ble_eq_true rfl⟩) (xpV hN hK hP hD [0] rfl (by decide) rfl rfl) rfl rfl hl.1 rfl (lv_room (Nat.le_of_ble_eq_true rfl)) dX6_sure_46 ⟨Nat.zero_le _, Nat.zero_le _⟩) hP hD hS hA [0] [1, 2, 3, 4, 5, 6, 7, 8, 9, 10, 11, 12, 13, 14, 15, 16] [16, 0, 1, 2, 3, 4, 5, 6, 7, 8, 9, 10, 11, 12, 13, 14, 15] rfl rfl (by decide) (by decide) rfl (by decide) (fun H locs hP hD hS => ?_)
          refine lv_iinc (v := (x.2.1 + (1 : Int32))) (lv' := [(5, .int (x.2.1 + (1 : Int32))), (0, .ref (am 0)), (3, .int x.1)]) hx hb dX6_sure_49 hl (k := 2) rfl rfl (by decide) rfl (fun ls hl => ?_)
          refine lv_goto (tgt := 30) hx hb dX6_sure_52 (by decide) ?_
          exact HK_30 _ _ _ _ hm hP hD hS (lv_sub hl [1, 2, 0] rfl)
  unfold m_X6_sure at hm
  subst hargs
  have hl := lv_entry ([.ref (am 0), .int l1, .int l2, .int l3]) (n := 6) (Nat.le_of_ble_eq_true rfl)
  rw [lg_entry_eq]
  generalize (lg_sl ([.ref (am 0), .int l1, .int l2, .int l3]) ++ List.replicate (6 - (lg_sl ([.ref (am 0), .int l1, .int l2, .int l3])).length) Slot.unset).toArray = ls at hl ⊢
  have hl : lv_has ls 6 [(0, .ref (am 0)), (1, .int l1), (2, .int l2), (3, .int l3)] := hl
  refine lv_aload_n hx hb dX6_sure_0 rfl (lv_at hl 0 rfl) ?_
  refine lv_iload_n hx hb dX6_sure_1 rfl (lv_at hl 1 rfl) ?_
  refine lv_iload_n hx hb dX6_sure_2 rfl (lv_at hl 2 rfl) ?_
  refine lv_bipush (v := (12 : Int32)) hx hb dX6_sure_3 (by decide) ?_
  refine lv_aload_n hx hb dX6_sure_5 rfl (lv_at hl 0 rfl) ?_
  refine lv_iload_n hx hb dX6_sure_6 rfl (lv_at hl 3 rfl) ?_
  obtain ⟨o9, ho10, hm⟩ := bd_s hm
  refine xr_i (wr := [((am 1), eI cA 8 t_shelf), ((am 3), eI cA 8 t_rowSize), ((am 4), eOJ cA am 5), (am 5, eJ cA 40 (t_rows_R 0)), (am 6, eJ cA 40 (t_rows_R 1)), (am 7, eJ cA 40 (t_rows_R 2)), (am 8, eJ cA 40 (t_rows_R 3)), (am 9, eJ cA 40 (t_rows_R 4)), (am 10, eJ cA 40 (t_rows_R 5)), (am 11, eJ cA 40 (t_rows_R 6)), (am 12, eJ cA 40 (t_rows_R 7)), ((am 16), eI cA 8 t_refused), ((am 17), eI cA 8 t_kind), ((am 19), eI cA 8 t_pitch), ((am 21), eI cA 12 t_word), ((am 22), eI cA 13 t_heard)]) (wn := [((am 0), e_X6 am tkv ttv t t_L), ((am 1), eI cA 8 t_shelf), ((am 3), eI cA 8 t_rowSize), ((am 4), eOJ cA am 5), (am 5, eJ cA 40 (t_rows_R 0)), (am 6, eJ cA 40 (t_rows_R 1)), (am 7, eJ cA 40 (t_rows_R 2)), (am 8, eJ cA 40 (t_rows_R 3)), (am 9, eJ cA 40 (t_rows_R 4)), (am 10, eJ cA 40 (t_rows_R 5)), (am 11, eJ cA 40 (t_rows_R 6)), (am 12, eJ cA 40 (t_rows_R 7)), ((am 16), eI cA 8 t_refused), ((am 17), eI cA 8 t_kind), ((am 19), eI cA 8 t_pitch), ((am 21), eI cA 12 t_word), ((am 22), eI cA 13 t_heard)]) (va_runV (As := [.int l3]) (rest := [.int (12 : Int32), .int l2, .int l1, .ref (am 0)]) ⟨hx, hb, hml, hown, htg⟩ (c_X6_isVoice l D cA _ fu am tkv ttv t t_L l3 o9 ho10) (cwV 1 htg (gV q_5_139 q_5_141 q_p5_9 q_1_8 q_5_142) rfl rfl rfl hd_X6_isVoice ⟨Nat.le_of_ble_eq_true rfl, Nat.le_of_ble_eq_true rfl⟩) (xpV hN hK hP hD [0] rfl (by decide) rfl rfl) rfl rfl hl.1 rfl (lv_room (Nat.le_of_ble_eq_true rfl)) dX6_sure_7 ⟨Nat.zero_le _, Nat.zero_le _⟩) hP hD hS hA [0] [1, 2, 3, 4, 5, 6, 7, 8, 9, 10, 11, 12, 13, 14, 15, 16] [16, 0, 1, 2, 3, 4, 5, 6, 7, 8, 9, 10, 11, 12, 13, 14, 15] rfl rfl (by decide) (by decide) rfl (by decide) (fun H locs hP hD hS => ?_)
  obtain ⟨o11, ho12, hm⟩ := bd_s hm
  refine xr_i (wr := [((am 17), eI cA 8 t_kind), ((am 19), eI cA 8 t_pitch), ((am 22), eI cA 13 t_heard)]) (wn := [((am 0), e_X6 am tkv ttv o11.2.1 t_L), ((am 1), eI cA 8 t_shelf), ((am 3), eI cA 8 t_rowSize), ((am 4), eOJ cA am 5), (am 5, eJ cA 40 (t_rows_R 0)), (am 6, eJ cA 40 (t_rows_R 1)), (am 7, eJ cA 40 (t_rows_R 2)), (am 8, eJ cA 40 (t_rows_R 3)), (am 9, eJ cA 40 (t_rows_R 4)), (am 10, eJ cA 40 (t_rows_R 5)), (am 11, eJ cA 40 (t_rows_R 6)), (am 12, eJ cA 40 (t_rows_R 7)), ((am 16), eI cA 8 o11.2.2.1), ((am 17), eI cA 8 t_kind), ((am 19), eI cA 8 t_pitch), ((am 21), eI cA 12 o11.2.2.2), ((am 22), eI cA 13 t_heard)]) (va_runV (As := [.int l1, .int l2, .int (12 : Int32), .int o9.1]) (rest := []) ⟨hx, hb, hml, hown, htg⟩ (c_X6_noWord l D cA _ fu am tkv ttv t t_L t_shelf t_rowSize t_rows_R t_refused t_word l1 l2 (12 : Int32) o9.1 o11 ho12) (cwV 4 htg (gV q_6_49 q_6_51 q_p6_8 q_1_8 q_6_52) rfl rfl rfl hd_X6_noWord ⟨Nat.le_of_ble_eq_true rfl, Nat.le_of_ble_eq_true rfl⟩) (xpV hN hK hP hD [0, 1, 2, 3, 4, 5, 6, 7, 8, 9, 10, 11, 12, 15] rfl (by decide) rfl rfl) rfl rfl hl.1 rfl (lv_room (Nat.le_of_ble_eq_true rfl)) dX6_sure_10 ⟨Nat.zero_le _, Nat.zero_le _⟩) hP hD hS hA [0, 1, 2, 3, 4, 5, 6, 7, 8, 9, 10, 11, 12, 15] [13, 14, 16] [3, 4, 5, 6, 7, 8, 9, 10, 11, 12, 13, 14, 15, 0, 1, 16, 2] rfl rfl (by decide) (by decide) rfl (by decide) (fun H locs hP hD hS => ?_)
  refine lv_istore (lv' := [(4, .int o11.1), (0, .ref (am 0)), (1, .int l1), (2, .int l2), (3, .int l3)]) hx hb dX6_sure_13 hl (by decide) rfl (fun ls hl => ?_)
  refine lv_iload hx hb dX6_sure_15 (lv_at hl 0 rfl) ?_
  refine lv_if_eq (tgt := 23) hx hb dX6_sure_17 (by decide) (fun c13 => ?_) (fun c13 => ?_)
  · have hm := it_t c13 hm
    refine lv_aload_n hx hb dX6_sure_23 rfl (lv_at hl 1 rfl) ?_
    obtain ⟨o14, ho15, hm⟩ := bd_s hm
    refine xr_v (wr := [((am 1), eI cA 8 t_shelf), ((am 3), eI cA 8 t_rowSize), ((am 4), eOJ cA am 5), (am 5, eJ cA 40 (t_rows_R 0)), (am 6, eJ cA 40 (t_rows_R 1)), (am 7, eJ cA 40 (t_rows_R 2)), (am 8, eJ cA 40 (t_rows_R 3)), (am 9, eJ cA 40 (t_rows_R 4)), (am 10, eJ cA 40 (t_rows_R 5)), (am 11, eJ cA 40 (t_rows_R 6)), (am 12, eJ cA 40 (t_rows_R 7)), ((am 16), eI cA 8 o11.2.2.1), ((am 17), eI cA 8 t_kind), ((am 19), eI cA 8 t_pitch), ((am 21), eI cA 12 o11.2.2.2), ((am 22), eI cA 13 t_heard)]) (wn := [((am 0), e_X6 am tkv ttv o14 t_L), ((am 1), eI cA 8 t_shelf), ((am 3), eI cA 8 t_rowSize), ((am 4), eOJ cA am 5), (am 5, eJ cA 40 (t_rows_R 0)), (am 6, eJ cA 40 (t_rows_R 1)), (am 7, eJ cA 40 (t_rows_R 2)), (am 8, eJ cA 40 (t_rows_R 3)), (am 9, eJ cA 40 (t_rows_R 4)), (am 10, eJ cA 40 (t_rows_R 5)), (am 11, eJ cA 40 (t_rows_R 6)), (am 12, eJ cA 40 (t_rows_R 7)), ((am 16), eI cA 8 o11.2.2.1), ((am 17), eI cA 8 t_kind), ((am 19), eI cA 8 t_pitch), ((am 21), eI cA 12 o11.2.2.2), ((am 22), eI cA 13 t_heard)]) (va_runV (As := []) (rest := []) ⟨hx, hb, hml, hown, htg⟩ (c_X6_keeps l D cA _ fu am tkv ttv o11.2.1 t_L o14 ho15) (cwV 0 htg (gV q_6_109 q_6_111 q_p6_13 q_1_8 q_6_112) rfl rfl rfl hd_X6_keeps ⟨Nat.le_of_ble_eq_true rfl, Nat.le_of_ble_eq_true rfl⟩) (xpV hN hK hP hD [0] rfl (by decide) rfl rfl) rfl rfl hl.1 rfl (lv_room (Nat.le_of_ble_eq_true rfl)) dX6_sure_24 ⟨Nat.zero_le _, Nat.zero_le _⟩) hP hD hS hA [0] [1, 2, 3, 4, 5, 6, 7, 8, 9, 10, 11, 12, 13, 14, 15, 16] [16, 0, 1, 2, 3, 4, 5, 6, 7, 8, 9, 10, 11, 12, 13, 14, 15] rfl rfl (by decide) (by decide) rfl (by decide) (fun H locs hP hD hS => ?_)
    refine lv_iconst (v := (0 : Int32)) hx hb dX6_sure_27 (by decide) ?_
    refine lv_istore (lv' := [(5, .int (0 : Int32)), (4, .int o11.1), (0, .ref (am 0)), (1, .int l1), (2, .int l2), (3, .int l3)]) hx hb dX6_sure_28 hl (by decide) rfl (fun ls hl => ?_)
    exact B_30 fu _ _ _ _ hm hP hD hS (lv_sub hl [2, 5, 0] rfl)
  · have hm := it_f c13 hm
    refine lv_iload hx hb dX6_sure_20 (lv_at hl 0 rfl) ?_
    rw [hQ]
    exact W.iret (v := o11.1) hx hb hr (fun t9 ht hW => ⟨⟨o11.1, (o11.2.1, o11.2.2.1, o11.2.2.2, t_heard), rfl, (Option.some.inj hm), by rw [ht]; exact hP, va_K.moved hW.alike hK, hD⟩, hS.F ht⟩) hS.2.2 dX6_sure_22
def b_X6_rains_105 (fu : Nat) (t_L : Nat → Int64) (t_shelf : Nat → Int32) (t_rowSize : Nat → Int32) (t_rows_R : Nat → Nat → Int64) (t_kind : Nat → Int32) (t_pitch : Nat → Int32) (k_55 : (Int32 × Int32 × Int32 × Int32 × (Nat → Int32) × (Nat → Int32) × (Nat → Int32) × (Nat → Int32)) → Option (Int32 × ((Nat → Int32) × (Nat → Int32) × (Nat → Int32) × (Nat → Int32)))) (l3 : Int32) (l4 : Int32) (l7 : Int32) (s0 : Int32) (t : Nat → Int32) (t_refused : Nat → Int32) (t_word : Nat → Int32) (t_heard : Nat → Int32) : Option (Int32 × ((Nat → Int32) × (Nat → Int32) × (Nat → Int32) × (Nat → Int32))) :=
  k_55 (l3, l4, s0, (l7 + (-1 : Int32)), t, t_refused, t_word, t_heard)
def b_X6_rains_73 (fu : Nat) (t_L : Nat → Int64) (t_shelf : Nat → Int32) (t_rowSize : Nat → Int32) (t_rows_R : Nat → Nat → Int64) (t_kind : Nat → Int32) (t_pitch : Nat → Int32) (k_55 : (Int32 × Int32 × Int32 × Int32 × (Nat → Int32) × (Nat → Int32) × (Nat → Int32) × (Nat → Int32)) → Option (Int32 × ((Nat → Int32) × (Nat → Int32) × (Nat → Int32) × (Nat → Int32)))) (k_73 : (Int32 × Int32 × Int32 × Int32 × Int32 × (Nat → Int32) × (Nat → Int32) × (Nat → Int32) × (Nat → Int32)) → Option (Int32 × ((Nat → Int32) × (Nat → Int32) × (Nat → Int32) × (Nat → Int32)))) (x : Int32 × Int32 × Int32 × Int32 × Int32 × (Nat → Int32) × (Nat → Int32) × (Nat → Int32) × (Nat → Int32)) : Option (Int32 × ((Nat → Int32) × (Nat → Int32) × (Nat → Int32) × (Nat → Int32))) :=
  (if x.2.1 ≤ x.2.2.2.2.1 then
        (m_X6_gets fu x.2.2.2.2.2.1 t_L t_kind t_pitch x.2.2.2.2.2.2.2.1 x.2.2.2.2.2.2.2.2 x.1).bind fun o2 =>
        (if o2.1 = 0 then
          b_X6_rains_105 fu t_L t_shelf t_rowSize t_rows_R t_kind t_pitch k_55 x.1 x.2.1 x.2.2.2.1 x.2.2.1 o2.2.1 x.2.2.2.2.2.2.1 x.2.2.2.2.2.2.2.1 o2.2.2
        else
          b_X6_rains_105 fu t_L t_shelf t_rowSize t_rows_R t_kind t_pitch k_55 x.1 x.2.1 x.2.2.2.1 x.2.2.2.1 o2.2.1 x.2.2.2.2.2.2.1 x.2.2.2.2.2.2.2.1 o2.2.2)
      else
        (m_X6_passes fu x.2.2.2.2.2.1 t_L).bind fun o5 =>
        k_73 (x.1, x.2.1, x.2.2.1, x.2.2.2.1, (x.2.2.2.2.1 + (1 : Int32)), o5, x.2.2.2.2.2.2.1, x.2.2.2.2.2.2.2.1, x.2.2.2.2.2.2.2.2))
def b_X6_rains_55 (fu : Nat) (t_L : Nat → Int64) (t_shelf : Nat → Int32) (t_rowSize : Nat → Int32) (t_rows_R : Nat → Nat → Int64) (t_kind : Nat → Int32) (t_pitch : Nat → Int32) (k_55 : (Int32 × Int32 × Int32 × Int32 × (Nat → Int32) × (Nat → Int32) × (Nat → Int32) × (Nat → Int32)) → Option (Int32 × ((Nat → Int32) × (Nat → Int32) × (Nat → Int32) × (Nat → Int32)))) (x : Int32 × Int32 × Int32 × Int32 × (Nat → Int32) × (Nat → Int32) × (Nat → Int32) × (Nat → Int32)) : Option (Int32 × ((Nat → Int32) × (Nat → Int32) × (Nat → Int32) × (Nat → Int32))) :=
  (if x.2.2.2.1 < 0 then
        (m_X6_goesBack fu x.2.2.2.2.1 t_L).bind fun o8 =>
        some (x.2.2.1, (o8, x.2.2.2.2.2.1, x.2.2.2.2.2.2.1, x.2.2.2.2.2.2.2))
      else
        (m_X6_goesBack fu x.2.2.2.2.1 t_L).bind fun o10 =>
        lfix (b_X6_rains_73 fu t_L t_shelf t_rowSize t_rows_R t_kind t_pitch k_55) fu (x.1, x.2.1, x.2.2.1, x.2.2.2.1, (0 : Int32), (upd o10 10 x.2.2.2.1), x.2.2.2.2.2.1, x.2.2.2.2.2.2.1, x.2.2.2.2.2.2.2))
def b_X6_rains_31 (fu : Nat) (t_L : Nat → Int64) (t_shelf : Nat → Int32) (t_rowSize : Nat → Int32) (t_rows_R : Nat → Nat → Int64) (t_kind : Nat → Int32) (t_pitch : Nat → Int32) (l3 : Int32) (l4 : Int32) (s1 : Int32) (s2 : Int32) (s3 : Int32) (s4 : Int32) (t : Nat → Int32) (t_refused : Nat → Int32) (t_word : Nat → Int32) (t_heard : Nat → Int32) : Option (Int32 × ((Nat → Int32) × (Nat → Int32) × (Nat → Int32) × (Nat → Int32))) :=
  (m_X6_noWord fu t t_L t_shelf t_rowSize t_rows_R t_refused t_word s1 s2 s3 s4).bind fun o12 =>
    (if o12.1 = 0 then
      (m_X6_keeps fu o12.2.1 t_L).bind fun o15 =>
      lfix (b_X6_rains_55 fu t_L t_shelf t_rowSize t_rows_R t_kind t_pitch) fu (l3, l4, (-1 : Int32), (9 : Int32), o15, o12.2.2.1, o12.2.2.2, t_heard)
    else
      some (o12.1, (o12.2.1, o12.2.2.1, o12.2.2.2, t_heard)))
def b_X6_rains_30 (fu : Nat) (t_L : Nat → Int64) (t_shelf : Nat → Int32) (t_rowSize : Nat → Int32) (t_rows_R : Nat → Nat → Int64) (t_kind : Nat → Int32) (t_pitch : Nat → Int32) (l3 : Int32) (l4 : Int32) (s1 : Int32) (s2 : Int32) (s3 : Int32) (t : Nat → Int32) (t_refused : Nat → Int32) (t_word : Nat → Int32) (t_heard : Nat → Int32) : Option (Int32 × ((Nat → Int32) × (Nat → Int32) × (Nat → Int32) × (Nat → Int32))) :=
  b_X6_rains_31 fu t_L t_shelf t_rowSize t_rows_R t_kind t_pitch l3 l4 s1 s2 s3 (0 : Int32) t t_refused t_word t_heard
def m_X6_rains (fu : Nat) (t : Nat → Int32) (t_L : Nat → Int64) (t_shelf : Nat → Int32) (t_rowSize : Nat → Int32) (t_rows_R : Nat → Nat → Int64) (t_refused : Nat → Int32) (t_kind : Nat → Int32) (t_pitch : Nat → Int32) (t_word : Nat → Int32) (t_heard : Nat → Int32) (l1 : Int32) (l2 : Int32) (l3 : Int32) (l4 : Int32) : Option (Int32 × ((Nat → Int32) × (Nat → Int32) × (Nat → Int32) × (Nat → Int32))) :=
  (m_X6_isVoice fu t t_L l3).bind fun o17 =>
  (if o17.1 = 0 then
    b_X6_rains_30 fu t_L t_shelf t_rowSize t_rows_R t_kind t_pitch l3 l4 l1 l2 (12 : Int32) t t_refused t_word t_heard
  else
    (m_X6_in fu l4.toInt64 (0 : Int64) (60 : Int64)).bind fun o20 =>
    (if o20.1 = 0 then
      b_X6_rains_30 fu t_L t_shelf t_rowSize t_rows_R t_kind t_pitch l3 l4 l1 l2 (12 : Int32) t t_refused t_word t_heard
    else
      b_X6_rains_31 fu t_L t_shelf t_rowSize t_rows_R t_kind t_pitch l3 l4 l1 l2 (12 : Int32) (1 : Int32) t t_refused t_word t_heard))
abbrev rm_X6_rains : Room := ({ frames := 6, cells := 0, slots := 0, locals := 136 } : Room)
abbrev w0_X6_rains (cA : Nat → ClassId) (am : Nat → Nat) (tkv : Value) (ttv : Value) (t : Nat → Int32) (t_L : Nat → Int64) (t_shelf : Nat → Int32) (t_rowSize : Nat → Int32) (t_rows_R : Nat → Nat → Int64) (t_refused : Nat → Int32) (t_kind : Nat → Int32) (t_pitch : Nat → Int32) (t_word : Nat → Int32) (t_heard : Nat → Int32) : va_W := [((am 0), e_X6 am tkv ttv t t_L), ((am 1), eI cA 8 t_shelf), ((am 3), eI cA 8 t_rowSize), ((am 4), eOJ cA am 5), (am 5, eJ cA 40 (t_rows_R 0)), (am 6, eJ cA 40 (t_rows_R 1)), (am 7, eJ cA 40 (t_rows_R 2)), (am 8, eJ cA 40 (t_rows_R 3)), (am 9, eJ cA 40 (t_rows_R 4)), (am 10, eJ cA 40 (t_rows_R 5)), (am 11, eJ cA 40 (t_rows_R 6)), (am 12, eJ cA 40 (t_rows_R 7)), ((am 16), eI cA 8 t_refused), ((am 17), eI cA 8 t_kind), ((am 19), eI cA 8 t_pitch), ((am 21), eI cA 12 t_word), ((am 22), eI cA 13 t_heard)]
abbrev w1_X6_rains (cA : Nat → ClassId) (am : Nat → Nat) (tkv : Value) (ttv : Value) (t_L : Nat → Int64) (t_shelf : Nat → Int32) (t_rowSize : Nat → Int32) (t_rows_R : Nat → Nat → Int64) (t_kind : Nat → Int32) (t_pitch : Nat → Int32) (u : (Nat → Int32) × (Nat → Int32) × (Nat → Int32) × (Nat → Int32)) : va_W := [((am 0), e_X6 am tkv ttv u.1 t_L), ((am 1), eI cA 8 t_shelf), ((am 3), eI cA 8 t_rowSize), ((am 4), eOJ cA am 5), (am 5, eJ cA 40 (t_rows_R 0)), (am 6, eJ cA 40 (t_rows_R 1)), (am 7, eJ cA 40 (t_rows_R 2)), (am 8, eJ cA 40 (t_rows_R 3)), (am 9, eJ cA 40 (t_rows_R 4)), (am 10, eJ cA 40 (t_rows_R 5)), (am 11, eJ cA 40 (t_rows_R 6)), (am 12, eJ cA 40 (t_rows_R 7)), ((am 16), eI cA 8 u.2.1), ((am 17), eI cA 8 t_kind), ((am 19), eI cA 8 t_pitch), ((am 21), eI cA 12 u.2.2.1), ((am 22), eI cA 13 u.2.2.2)]
theorem hd_X6_rains : yX6_rains.cls = RX6 ∧ yX6_rains.cls ≠ "java/lang/invoke/MethodHandle" ∧ yX6_rains.cls ≠ "java/lang/invoke/VarHandle" ∧ (parseMethodDescriptor yX6_rains.desc).map (fun d => d.parameters.length) = some 4 := by decide +kernel
set_option maxHeartbeats 40000000 in
set_option maxRecDepth 100000 in
theorem c_X6_rains (l : Launch) (D : va_G) (cA : Nat → ClassId) (sz : Nat) (fu : Nat) (am : Nat → Nat) (tkv : Value) (ttv : Value) (t : Nat → Int32) (t_L : Nat → Int64) (t_shelf : Nat → Int32) (t_rowSize : Nat → Int32) (t_rows_R : Nat → Nat → Int64) (t_refused : Nat → Int32) (t_kind : Nat → Int32) (t_pitch : Nat → Int32) (t_word : Nat → Int32) (t_heard : Nat → Int32) (l1 : Int32) (l2 : Int32) (l3 : Int32) (l4 : Int32) (out : Int32 × ((Nat → Int32) × (Nat → Int32) × (Nat → Int32) × (Nat → Int32))) (hm : m_X6_rains fu t t_L t_shelf t_rowSize t_rows_R t_refused t_kind t_pitch t_word t_heard l1 l2 l3 l4 = some out) : MI l yX6_rains (wU yX6_rains cX6_rains 9 ((Option.some Jvm.ClassFile.FieldType.int))) rm_X6_rains D cA sz [.ref (am 0), .int l1, .int l2, .int l3, .int l4] (w0_X6_rains cA am tkv ttv t t_L t_shelf t_rowSize t_rows_R t_refused t_kind t_pitch t_word t_heard) out (w1_X6_rains cA am tkv ttv t_L t_shelf t_rowSize t_rows_R t_kind t_pitch) := by
  refine Met.ofW (cc := cX6_rains) (maxL := 9) (ret := (Option.some Jvm.ClassFile.FieldType.int)) (by decide) rfl ?_
  intro p e s m args below meth c s₁ B hml hv
  obtain ⟨hargs, hsz, hP, hK, hD0, hN⟩ := hv
  have hx := B.exec
  have hb := B.bytes
  have hr := B.returns
  have htg : ∀ w ∈ gw, w.before args s = true := fun w h => atoms_spec (ws := wU yX6_rains cX6_rains 9 ((Option.some Jvm.ClassFile.FieldType.int))) B.pre w (List.mem_cons_of_mem _ h)
  have hown : s.vm.findClass RX6 = some m.cls := findClass_of_methodNamed B.named
  have hlocks := B.notSynchronized
  subst hsz
  have hD := hD0.self (sz := s.heap.size)
  have hA : ∀ q : Nat, s.heap.size ≤ q → va_A (w0_X6_rains cA am tkv ttv t t_L t_shelf t_rowSize t_rows_R t_refused t_kind t_pitch t_word t_heard) s.heap.size q := fun q h => Or.inr h
  have hS : va_S (va_A (w0_X6_rains cA am tkv ttv t t_L t_shelf t_rowSize t_rows_R t_refused t_kind t_pitch t_word t_heard) s.heap.size) s.heap s.heap [] := va_S.rf
  generalize va_A (w0_X6_rains cA am tkv ttv t t_L t_shelf t_rowSize t_rows_R t_refused t_kind t_pitch t_word t_heard) s.heap.size = A at hA hD hS ⊢
  obtain ⟨Q, hQ⟩ : ∃ Q : State → Prop, Q = MQ below (va_Qi (fun (r : Int32) (u : (Nat → Int32) × (Nat → Int32) × (Nat → Int32) × (Nat → Int32)) => (r, u) = out) (pst0 D cA A (w1_X6_rains cA am tkv ttv t_L t_shelf t_rowSize t_rows_R t_kind t_pitch)) A) args s 0 0 A := ⟨_, rfl⟩
  refine (?_ : W p l e rm_X6_rains s m args below meth c s.heap [] 0 0 (MQ below (va_Qi (fun (r : Int32) (u : (Nat → Int32) × (Nat → Int32) × (Nat → Int32) × (Nat → Int32)) => (r, u) = out) (pst0 D cA A (w1_X6_rains cA am tkv ttv t_L t_shelf t_rowSize t_rows_R t_kind t_pitch)) A) args s 0 0 A) (entryFrame m args 9))
  rw [← hQ]
  have hP : va_P D CL [((am 0), e_X6 am tkv ttv t t_L), ((am 1), eI cA 8 t_shelf), ((am 3), eI cA 8 t_rowSize), ((am 4), eOJ cA am 5), (am 5, eJ cA 40 (t_rows_R 0)), (am 6, eJ cA 40 (t_rows_R 1)), (am 7, eJ cA 40 (t_rows_R 2)), (am 8, eJ cA 40 (t_rows_R 3)), (am 9, eJ cA 40 (t_rows_R 4)), (am 10, eJ cA 40 (t_rows_R 5)), (am 11, eJ cA 40 (t_rows_R 6)), (am 12, eJ cA 40 (t_rows_R 7)), ((am 16), eI cA 8 t_refused), ((am 17), eI cA 8 t_kind), ((am 19), eI cA 8 t_pitch), ((am 21), eI cA 12 t_word), ((am 22), eI cA 13 t_heard)] s.heap := hP
  have hD : va_D A [((am 0), e_X6 am tkv ttv t t_L), ((am 1), eI cA 8 t_shelf), ((am 3), eI cA 8 t_rowSize), ((am 4), eOJ cA am 5), (am 5, eJ cA 40 (t_rows_R 0)), (am 6, eJ cA 40 (t_rows_R 1)), (am 7, eJ cA 40 (t_rows_R 2)), (am 8, eJ cA 40 (t_rows_R 3)), (am 9, eJ cA 40 (t_rows_R 4)), (am 10, eJ cA 40 (t_rows_R 5)), (am 11, eJ cA 40 (t_rows_R 6)), (am 12, eJ cA 40 (t_rows_R 7)), ((am 16), eI cA 8 t_refused), ((am 17), eI cA 8 t_kind), ((am 19), eI cA 8 t_pitch), ((am 21), eI cA 12 t_word), ((am 22), eI cA 13 t_heard)] := hD
  have B_105 : ∀ (k_55 : (Int32 × Int32 × Int32 × Int32 × (Nat → Int32) × (Nat → Int32) × (Nat → Int32) × (Nat → Int32)) → Option (Int32 × ((Nat → Int32) × (Nat → Int32) × (Nat → Int32) × (Nat → Int32)))) (HK_55 : ∀ (x : Int32 × Int32 × Int32 × Int32 × (Nat → Int32) × (Nat → Int32) × (Nat → Int32) × (Nat → Int32)) (H : Heap) (locs : List Loc) (ls : Array Slot), k_55 x = some out → va_P D CL [((am 0), e_X6 am tkv ttv x.2.2.2.2.1 t_L), ((am 1), eI cA 8 t_shelf), ((am 3), eI cA 8 t_rowSize), ((am 4), eOJ cA am 5), (am 5, eJ cA 40 (t_rows_R 0)), (am 6, eJ cA 40 (t_rows_R 1)), (am 7, eJ cA 40 (t_rows_R 2)), (am 8, eJ cA 40 (t_rows_R 3)), (am 9, eJ cA 40 (t_rows_R 4)), (am 10, eJ cA 40 (t_rows_R 5)), (am 11, eJ cA 40 (t_rows_R 6)), (am 12, eJ cA 40 (t_rows_R 7)), ((am 16), eI cA 8 x.2.2.2.2.2.1), ((am 17), eI cA 8 t_kind), ((am 19), eI cA 8 t_pitch), ((am 21), eI cA 12 x.2.2.2.2.2.2.1), ((am 22), eI cA 13 x.2.2.2.2.2.2.2)] H → va_D A [((am 0), e_X6 am tkv ttv x.2.2.2.2.1 t_L), ((am 1), eI cA 8 t_shelf), ((am 3), eI cA 8 t_rowSize), ((am 4), eOJ cA am 5), (am 5, eJ cA 40 (t_rows_R 0)), (am 6, eJ cA 40 (t_rows_R 1)), (am 7, eJ cA 40 (t_rows_R 2)), (am 8, eJ cA 40 (t_rows_R 3)), (am 9, eJ cA 40 (t_rows_R 4)), (am 10, eJ cA 40 (t_rows_R 5)), (am 11, eJ cA 40 (t_rows_R 6)), (am 12, eJ cA 40 (t_rows_R 7)), ((am 16), eI cA 8 x.2.2.2.2.2.1), ((am 17), eI cA 8 t_kind), ((am 19), eI cA 8 t_pitch), ((am 21), eI cA 12 x.2.2.2.2.2.2.1), ((am 22), eI cA 13 x.2.2.2.2.2.2.2)] → va_S A s.heap H locs → lv_has ls 9 [(0, .ref (am 0)), (3, .int x.1), (4, .int x.2.1), (6, .int x.2.2.1), (7, .int x.2.2.2.1)] → W p l e rm_X6_rains s m args below meth c H locs 0 0 Q (F0 m 55 ls [])) (l3 : Int32) (l4 : Int32) (l7 : Int32) (s0 : Int32) (t : Nat → Int32) (t_refused : Nat → Int32) (t_word : Nat → Int32) (t_heard : Nat → Int32) (H : Heap) (locs : List Loc) (ls : Array Slot), b_X6_rains_105 fu t_L t_shelf t_rowSize t_rows_R t_kind t_pitch k_55 l3 l4 l7 s0 t t_refused t_word t_heard = some out → va_P D CL [((am 0), e_X6 am tkv ttv t t_L), ((am 1), eI cA 8 t_shelf), ((am 3), eI cA 8 t_rowSize), ((am 4), eOJ cA am 5), (am 5, eJ cA 40 (t_rows_R 0)), (am 6, eJ cA 40 (t_rows_R 1)), (am 7, eJ cA 40 (t_rows_R 2)), (am 8, eJ cA 40 (t_rows_R 3)), (am 9, eJ cA 40 (t_rows_R 4)), (am 10, eJ cA 40 (t_rows_R 5)), (am 11, eJ cA 40 (t_rows_R 6)), (am 12, eJ cA 40 (t_rows_R 7)), ((am 16), eI cA 8 t_refused), ((am 17), eI cA 8 t_kind), ((am 19), eI cA 8 t_pitch), ((am 21), eI cA 12 t_word), ((am 22), eI cA 13 t_heard)] H → va_D A [((am 0), e_X6 am tkv ttv t t_L), ((am 1), eI cA 8 t_shelf), ((am 3), eI cA 8 t_rowSize), ((am 4), eOJ cA am 5), (am 5, eJ cA 40 (t_rows_R 0)), (am 6, eJ cA 40 (t_rows_R 1)), (am 7, eJ cA 40 (t_rows_R 2)), (am 8, eJ cA 40 (t_rows_R 3)), (am 9, eJ cA 40 (t_rows_R 4)), (am 10, eJ cA 40 (t_rows_R 5)), (am 11, eJ cA 40 (t_rows_R 6)), (am 12, eJ cA 40 (t_rows_R 7)), ((am 16), eI cA 8 t_refused), ((am 17), eI cA 8 t_kind), ((am 19), eI cA 8 t_pitch), ((am 21), eI cA 12 t_word), ((am 22), eI cA 13 t_heard)] → va_S A s.heap H locs → lv_has ls 9 [(0, .ref (am 0)), (3, .int l3), (4, .int l4), (7, .int l7)] → W p l e rm_X6_rains s m args below meth c H locs 0 0 Q (F0 m 105 ls [.int s0]) := by
    intro k_55 HK_55 l3 l4 l7 s0 t t_refused t_word t_heard H locs ls hm hP hD hS hl
    unfold b_X6_rains_105 at hm
    refine lv_istore (lv' := [(6, .int s0), (0, .ref (am 0)), (3, .int l3), (4, .int l4), (7, .int l7)]) hx hb dX6_rains_105 hl (by decide) rfl (fun ls hl => ?_)
    refine lv_iinc (v := (l7 + (-1 : Int32))) (lv' := [(7, .int (l7 + (-1 : Int32))), (6, .int s0), (0, .ref (am 0)), (3, .int l3), (4, .int l4)]) hx hb dX6_rains_107 hl (k := 4) rfl rfl (by decide) rfl (fun ls hl => ?_)
    refine lv_goto (tgt := 55) hx hb dX6_rains_110 (by decide) ?_
    exact HK_55 _ _ _ _ hm hP hD hS (lv_sub hl [2, 3, 4, 1, 0] rfl)
  have B_73 : ∀ (k_55 : (Int32 × Int32 × Int32 × Int32 × (Nat → Int32) × (Nat → Int32) × (Nat → Int32) × (Nat → Int32)) → Option (Int32 × ((Nat → Int32) × (Nat → Int32) × (Nat → Int32) × (Nat → Int32)))) (HK_55 : ∀ (x : Int32 × Int32 × Int32 × Int32 × (Nat → Int32) × (Nat → Int32) × (Nat → Int32) × (Nat → Int32)) (H : Heap) (locs : List Loc) (ls : Array Slot), k_55 x = some out → va_P D CL [((am 0), e_X6 am tkv ttv x.2.2.2.2.1 t_L), ((am 1), eI cA 8 t_shelf), ((am 3), eI cA 8 t_rowSize), ((am 4), eOJ cA am 5), (am 5, eJ cA 40 (t_rows_R 0)), (am 6, eJ cA 40 (t_rows_R 1)), (am 7, eJ cA 40 (t_rows_R 2)), (am 8, eJ cA 40 (t_rows_R 3)), (am 9, eJ cA 40 (t_rows_R 4)), (am 10, eJ cA 40 (t_rows_R 5)), (am 11, eJ cA 40 (t_rows_R 6)), (am 12, eJ cA 40 (t_rows_R 7)), ((am 16), eI cA 8 x.2.2.2.2.2.1), ((am 17), eI cA 8 t_kind), ((am 19), eI cA 8 t_pitch), ((am 21), eI cA 12 x.2.2.2.2.2.2.1), ((am 22), eI cA 13 x.2.2.2.2.2.2.2)] H → va_D A [((am 0), e_X6 am tkv ttv x.2.2.2.2.1 t_L), ((am 1), eI cA 8 t_shelf), ((am 3), eI cA 8 t_rowSize), ((am 4), eOJ cA am 5), (am 5, eJ cA 40 (t_rows_R 0)), (am 6, eJ cA 40 (t_rows_R 1)), (am 7, eJ cA 40 (t_rows_R 2)), (am 8, eJ cA 40 (t_rows_R 3)), (am 9, eJ cA 40 (t_rows_R 4)), (am 10, eJ cA 40 (t_rows_R 5)), (am 11, eJ cA 40 (t_rows_R 6)), (am 12, eJ cA 40 (t_rows_R 7)), ((am 16), eI cA 8 x.2.2.2.2.2.1), ((am 17), eI cA 8 t_kind), ((am 19), eI cA 8 t_pitch), ((am 21), eI cA 12 x.2.2.2.2.2.2.1), ((am 22), eI cA 13 x.2.2.2.2.2.2.2)] → va_S A s.heap H locs → lv_has ls 9 [(0, .ref (am 0)), (3, .int x.1), (4, .int x.2.1), (6, .int x.2.2.1), (7, .int x.2.2.2.1)] → W p l e rm_X6_rains s m args below meth c H locs 0 0 Q (F0 m 55 ls [])) (n : Nat) (x : Int32 × Int32 × Int32 × Int32 × Int32 × (Nat → Int32) × (Nat → Int32) × (Nat → Int32) × (Nat → Int32)) (H : Heap) (locs : List Loc) (ls : Array Slot), lfix (b_X6_rains_73 fu t_L t_shelf t_rowSize t_rows_R t_kind t_pitch k_55) n x = some out → va_P D CL [((am 0), e_X6 am tkv ttv x.2.2.2.2.2.1 t_L), ((am 1), eI cA 8 t_shelf), ((am 3), eI cA 8 t_rowSize), ((am 4), eOJ cA am 5), (am 5, eJ cA 40 (t_rows_R 0)), (am 6, eJ cA 40 (t_rows_R 1)), (am 7, eJ cA 40 (t_rows_R 2)), (am 8, eJ cA 40 (t_rows_R 3)), (am 9, eJ cA 40 (t_rows_R 4)), (am 10, eJ cA 40 (t_rows_R 5)), (am 11, eJ cA 40 (t_rows_R 6)), (am 12, eJ cA 40 (t_rows_R 7)), ((am 16), eI cA 8 x.2.2.2.2.2.2.1), ((am 17), eI cA 8 t_kind), ((am 19), eI cA 8 t_pitch), ((am 21), eI cA 12 x.2.2.2.2.2.2.2.1), ((am 22), eI cA 13 x.2.2.2.2.2.2.2.2)] H → va_D A [((am 0), e_X6 am tkv ttv x.2.2.2.2.2.1 t_L), ((am 1), eI cA 8 t_shelf), ((am 3), eI cA 8 t_rowSize), ((am 4), eOJ cA am 5), (am 5, eJ cA 40 (t_rows_R 0)), (am 6, eJ cA 40 (t_rows_R 1)), (am 7, eJ cA 40 (t_rows_R 2)), (am 8, eJ cA 40 (t_rows_R 3)), (am 9, eJ cA 40 (t_rows_R 4)), (am 10, eJ cA 40 (t_rows_R 5)), (am 11, eJ cA 40 (t_rows_R 6)), (am 12, eJ cA 40 (t_rows_R 7)), ((am 16), eI cA 8 x.2.2.2.2.2.2.1), ((am 17), eI cA 8 t_kind), ((am 19), eI cA 8 t_pitch), ((am 21), eI cA 12 x.2.2.2.2.2.2.2.1), ((am 22), eI cA 13 x.2.2.2.2.2.2.2.2)] → va_S A s.heap H locs → lv_has ls 9 [(0, .ref (am 0)), (3, .int x.1), (4, .int x.2.1), (6, .int x.2.2.1), (7, .int x.2.2.2.1), (8, .int x.2.2.2.2.1)] → W p l e rm_X6_rains s m args below meth c H locs 0 0 Q (F0 m 73 ls []) := by
    intro k_55 HK_55 n
    induction n with
    | zero => intro x H locs ls hm; cases (show none = some out from hm)
    | succ n HK_73 =>
      intro x H locs ls hm hP hD hS hl
      replace hm : b_X6_rains_73 fu t_L t_shelf t_rowSize t_rows_R t_kind t_pitch k_55 (lfix (b_X6_rains_73 fu t_L t_shelf t_rowSize t_rows_R t_kind t_pitch k_55) n) x = some out := hm
      unfold b_X6_rains_73 at hm
      refine lv_iload hx hb dX6_rains_73 (lv_at hl 5 rfl) ?_
      refine lv_iload hx hb dX6_rains_75 (lv_at hl 2 rfl) ?_
      refine lv_icmp_ge (tgt := 90) hx hb dX6_rains_77 (by decide) (fun c1 => ?_) (fun c1 => ?_)
      · have hm := it_t c1 hm
        refine lv_aload_n hx hb dX6_rains_90 rfl (lv_at hl 0 rfl) ?_
        refine lv_iload_n hx hb dX6_rains_91 rfl (lv_at hl 1 rfl) ?_
        obtain ⟨o2, ho3, hm⟩ := bd_s hm
        refine xr_i (wr := [((am 1), eI cA 8 t_shelf), ((am 3), eI cA 8 t_rowSize), ((am 4), eOJ cA am 5), (am 5, eJ cA 40 (t_rows_R 0)), (am 6, eJ cA 40 (t_rows_R 1)), (am 7, eJ cA 40 (t_rows_R 2)), (am 8, eJ cA 40 (t_rows_R 3)), (am 9, eJ cA 40 (t_rows_R 4)), (am 10, eJ cA 40 (t_rows_R 5)), (am 11, eJ cA 40 (t_rows_R 6)), (am 12, eJ cA 40 (t_rows_R 7)), ((am 16), eI cA 8 x.2.2.2.2.2.2.1)]) (wn := [((am 0), e_X6 am tkv ttv o2.2.1 t_L), ((am 1), eI cA 8 t_shelf), ((am 3), eI cA 8 t_rowSize), ((am 4), eOJ cA am 5), (am 5, eJ cA 40 (t_rows_R 0)), (am 6, eJ cA 40 (t_rows_R 1)), (am 7, eJ cA 40 (t_rows_R 2)), (am 8, eJ cA 40 (t_rows_R 3)), (am 9, eJ cA 40 (t_rows_R 4)), (am 10, eJ cA 40 (t_rows_R 5)), (am 11, eJ cA 40 (t_rows_R 6)), (am 12, eJ cA 40 (t_rows_R 7)), ((am 16), eI cA 8 x.2.2.2.2.2.2.1), ((am 17), eI cA 8 t_kind), ((am 19), eI cA 8 t_pitch), ((am 21), eI cA 12 x.2.2.2.2.2.2.2.1), ((am 22), eI cA 13 o2.2.2)]) (va_runV (As := [.int x.1]) (rest := []) ⟨hx, hb, hml, hown, htg⟩ (c_X6_gets l D cA _ fu am tkv ttv x.2.2.2.2.2.1 t_L t_kind t_pitch x.2.2.2.2.2.2.2.1 x.2.2.2.2.2.2.2.2 x.1 o2 ho3) (cwV 1 htg (gV q_6_77 q_6_79 q_p6_12 q_1_8 q_6_80) rfl rfl rfl hd_X6_gets ⟨Nat.le_of_ble_eq_true rfl, Nat.le_of_ble_eq_true rfl⟩) (xpV hN hK hP hD [0, 13, 14, 15, 16] rfl (by decide) rfl rfl) rfl rfl hl.1 rfl (lv_room (Nat.le_of_ble_eq_true rfl)) dX6_rains_92 ⟨Nat.zero_le _, Nat.zero_le _⟩) hP hD hS hA [0, 13, 14, 15, 16] [1, 2, 3, 4, 5, 6, 7, 8, 9, 10, 11, 12] [12, 0, 1, 2, 3, 4, 5, 6, 7, 8, 9, 10, 11, 13, 14, 15, 16] rfl rfl (by decide) (by decide) rfl (by decide) (fun H locs hP hD hS => ?_)
        refine lv_if_eq (tgt := 103) hx hb dX6_rains_95 (by decide) (fun c4 => ?_) (fun c4 => ?_)
        · have hm := it_t c4 hm
          refine lv_iload hx hb dX6_rains_103 (lv_at hl 3 rfl) ?_
          exact B_105 _ HK_55 _ _ _ _ _ _ _ _ _ _ _ hm hP hD hS (lv_sub hl [0, 1, 2, 4] rfl)
        · have hm := it_f c4 hm
          refine lv_iload hx hb dX6_rains_98 (lv_at hl 4 rfl) ?_
          refine lv_goto (tgt := 105) hx hb dX6_rains_100 (by decide) ?_
          exact B_105 _ HK_55 _ _ _ _ _ _ _ _ _ _ _ hm hP hD hS (lv_sub hl [0, 1, 2, 4] rfl)
      · have hm := it_f c1 hm
        refine lv_aload_n hx hb dX6_rains_80 rfl (lv_at hl 0 rfl) ?_
        obtain ⟨o5, ho6, hm⟩ := bd_s hm
        refine xr_v (wr := [((am 1), eI cA 8 t_shelf), ((am 3), eI cA 8 t_rowSize), ((am 4), eOJ cA am 5), (am 5, eJ cA 40 (t_rows_R 0)), (am 6, eJ cA 40 (t_rows_R 1)), (am 7, eJ cA 40 (t_rows_R 2)), (am 8, eJ cA 40 (t_rows_R 3)), (am 9, eJ cA 40 (t_rows_R 4)), (am 10, eJ cA 40 (t_rows_R 5)), (am 11, eJ cA 40 (t_rows_R 6)), (am 12, eJ cA 40 (t_rows_R 7)), ((am 16), eI cA 8 x.2.2.2.2.2.2.1), ((am 17), eI cA 8 t_kind), ((am 19), eI cA 8 t_pitch), ((am 21), eI cA 12 x.2.2.2.2.2.2.2.1), ((am 22), eI cA 13 x.2.2.2.2.2.2.2.2)]) (wn := [((am 0), e_X6 am tkv ttv o5 t_L), ((am 1), eI cA 8 t_shelf), ((am 3), eI cA 8 t_rowSize), ((am 4), eOJ cA am 5), (am 5, eJ cA 40 (t_rows_R 0)), (am 6, eJ cA 40 (t_rows_R 1)), (am 7, eJ cA 40 (t_rows_R 2)), (am 8, eJ cA 40 (t_rows_R 3)), (am 9, eJ cA 40 (t_rows_R 4)), (am 10, eJ cA 40 (t_rows_R 5)), (am 11, eJ cA 40 (t_rows_R 6)), (am 12, eJ cA 40 (t_rows_R 7)), ((am 16), eI cA 8 x.2.2.2.2.2.2.1), ((am 17), eI cA 8 t_kind), ((am 19), eI cA 8 t_pitch), ((am 21), eI cA 12 x.2.2.2.2.2.2.2.1), ((am 22), eI cA 13 x.2.2.2.2.2.2.2.2)]) (va_runV (As := []) (rest := []) ⟨hx, hb, hml, hown, htg⟩ (c_X6_passes l D cA _ fu am tkv ttv x.2.2.2.2.2.1 t_L o5 ho6) (cwV 0 htg (gV q_6_113 q_6_115 q_p6_14 q_1_8 q_6_116) rfl rfl rfl hd_X6_passes ⟨Nat.le_of_ble_eq_true rfl, Nat.le_of_ble_eq_true rfl⟩) (xpV hN hK hP hD [0] rfl (by decide) rfl rfl) rfl rfl hl.1 rfl (lv_room (Nat.le_of_ble_eq_true rfl)) dX6_rains_81 ⟨Nat.zero_le _, Nat.zero_le _⟩) hP hD hS hA [0] [1, 2, 3, 4, 5, 6, 7, 8, 9, 10, 11, 12, 13, 14, 15, 16] [16, 0, 1, 2, 3, 4, 5, 6, 7, 8, 9, 10, 11, 12, 13, 14, 15] rfl rfl (by decide) (by decide) rfl (by decide) (fun H locs hP hD hS => ?_)
        refine lv_iinc (v := (x.2.2.2.2.1 + (1 : Int32))) (lv' := [(8, .int (x.2.2.2.2.1 + (1 : Int32))), (0, .ref (am 0)), (3, .int x.1), (4, .int x.2.1), (6, .int x.2.2.1), (7, .int x.2.2.2.1)]) hx hb dX6_rains_84 hl (k := 5) rfl rfl (by decide) rfl (fun ls hl => ?_)
        refine lv_goto (tgt := 73) hx hb dX6_rains_87 (by decide) ?_
        exact HK_73 _ _ _ _ hm hP hD hS (lv_sub hl [1, 2, 3, 4, 5, 0] rfl)
  have B_55 : ∀ (n : Nat) (x : Int32 × Int32 × Int32 × Int32 × (Nat → Int32) × (Nat → Int32) × (Nat → Int32) × (Nat → Int32)) (H : Heap) (locs : List Loc) (ls : Array Slot), lfix (b_X6_rains_55 fu t_L t_shelf t_rowSize t_rows_R t_kind t_pitch) n x = some out → va_P D CL [((am 0), e_X6 am tkv ttv x.2.2.2.2.1 t_L), ((am 1), eI cA 8 t_shelf), ((am 3), eI cA 8 t_rowSize), ((am 4), eOJ cA am 5), (am 5, eJ cA 40 (t_rows_R 0)), (am 6, eJ cA 40 (t_rows_R 1)), (am 7, eJ cA 40 (t_rows_R 2)), (am 8, eJ cA 40 (t_rows_R 3)), (am 9, eJ cA 40 (t_rows_R 4)), (am 10, eJ cA 40 (t_rows_R 5)), (am 11, eJ cA 40 (t_rows_R 6)), (am 12, eJ cA 40 (t_rows_R 7)), ((am 16), eI cA 8 x.2.2.2.2.2.1), ((am 17), eI cA 8 t_kind), ((am 19), eI cA 8 t_pitch), ((am 21), eI cA 12 x.2.2.2.2.2.2.1), ((am 22), eI cA 13 x.2.2.2.2.2.2.2)] H → va_D A [((am 0), e_X6 am tkv ttv x.2.2.2.2.1 t_L), ((am 1), eI cA 8 t_shelf), ((am 3), eI cA 8 t_rowSize), ((am 4), eOJ cA am 5), (am 5, eJ cA 40 (t_rows_R 0)), (am 6, eJ cA 40 (t_rows_R 1)), (am 7, eJ cA 40 (t_rows_R 2)), (am 8, eJ cA 40 (t_rows_R 3)), (am 9, eJ cA 40 (t_rows_R 4)), (am 10, eJ cA 40 (t_rows_R 5)), (am 11, eJ cA 40 (t_rows_R 6)), (am 12, eJ cA 40 (t_rows_R 7)), ((am 16), eI cA 8 x.2.2.2.2.2.1), ((am 17), eI cA 8 t_kind), ((am 19), eI cA 8 t_pitch), ((am 21), eI cA 12 x.2.2.2.2.2.2.1), ((am 22), eI cA 13 x.2.2.2.2.2.2.2)] → va_S A s.heap H locs → lv_has ls 9 [(0, .ref (am 0)), (3, .int x.1), (4, .int x.2.1), (6, .int x.2.2.1), (7, .int x.2.2.2.1)] → W p l e rm_X6_rains s m args below meth c H locs 0 0 Q (F0 m 55 ls []) := by
    intro  n
    induction n with
    | zero => intro x H locs ls hm; cases (show none = some out from hm)
    | succ n HK_55 =>
      intro x H locs ls hm hP hD hS hl
      replace hm : b_X6_rains_55 fu t_L t_shelf t_rowSize t_rows_R t_kind t_pitch (lfix (b_X6_rains_55 fu t_L t_shelf t_rowSize t_rows_R t_kind t_pitch) n) x = some out := hm
      unfold b_X6_rains_55 at hm
      refine lv_iload hx hb dX6_rains_55 (lv_at hl 4 rfl) ?_
      refine lv_if_lt (tgt := 113) hx hb dX6_rains_57 (by decide) (fun c7 => ?_) (fun c7 => ?_)
      · have hm := it_t c7 hm
        refine lv_aload_n hx hb dX6_rains_113 rfl (lv_at hl 0 rfl) ?_
        obtain ⟨o8, ho9, hm⟩ := bd_s hm
        refine xr_v (wr := [((am 1), eI cA 8 t_shelf), ((am 3), eI cA 8 t_rowSize), ((am 4), eOJ cA am 5), (am 5, eJ cA 40 (t_rows_R 0)), (am 6, eJ cA 40 (t_rows_R 1)), (am 7, eJ cA 40 (t_rows_R 2)), (am 8, eJ cA 40 (t_rows_R 3)), (am 9, eJ cA 40 (t_rows_R 4)), (am 10, eJ cA 40 (t_rows_R 5)), (am 11, eJ cA 40 (t_rows_R 6)), (am 12, eJ cA 40 (t_rows_R 7)), ((am 16), eI cA 8 x.2.2.2.2.2.1), ((am 17), eI cA 8 t_kind), ((am 19), eI cA 8 t_pitch), ((am 21), eI cA 12 x.2.2.2.2.2.2.1), ((am 22), eI cA 13 x.2.2.2.2.2.2.2)]) (wn := [((am 0), e_X6 am tkv ttv o8 t_L), ((am 1), eI cA 8 t_shelf), ((am 3), eI cA 8 t_rowSize), ((am 4), eOJ cA am 5), (am 5, eJ cA 40 (t_rows_R 0)), (am 6, eJ cA 40 (t_rows_R 1)), (am 7, eJ cA 40 (t_rows_R 2)), (am 8, eJ cA 40 (t_rows_R 3)), (am 9, eJ cA 40 (t_rows_R 4)), (am 10, eJ cA 40 (t_rows_R 5)), (am 11, eJ cA 40 (t_rows_R 6)), (am 12, eJ cA 40 (t_rows_R 7)), ((am 16), eI cA 8 x.2.2.2.2.2.1), ((am 17), eI cA 8 t_kind), ((am 19), eI cA 8 t_pitch), ((am 21), eI cA 12 x.2.2.2.2.2.2.1), ((am 22), eI cA 13 x.2.2.2.2.2.2.2)]) (va_runV (As := []) (rest := []) ⟨hx, hb, hml, hown, htg⟩ (c_X6_goesBack l D cA _ fu am tkv ttv x.2.2.2.2.1 t_L o8 ho9) (cwV 0 htg (gV q_6_117 q_6_119 q_p6_15 q_1_8 q_6_120) rfl rfl rfl hd_X6_goesBack ⟨Nat.le_of_ble_eq_true rfl, Nat.le_of_ble_eq_true rfl⟩) (xpV hN hK hP hD [0] rfl (by decide) rfl rfl) rfl rfl hl.1 rfl (lv_room (Nat.le_of_ble_eq_true rfl)) dX6_rains_114 ⟨Nat.zero_le _, Nat.zero_le _⟩) hP hD hS hA [0] [1, 2, 3, 4, 5, 6, 7, 8, 9, 10, 11, 12, 13, 14, 15, 16] [16, 0, 1, 2, 3, 4, 5, 6, 7, 8, 9, 10, 11, 12, 13, 14, 15] rfl rfl (by decide) (by decide) rfl (by decide) (fun H locs hP hD hS => ?_)
        refine lv_iload hx hb dX6_rains_117 (lv_at hl 3 rfl) ?_
        rw [hQ]
        exact W.iret (v := x.2.2.1) hx hb hr (fun t9 ht hW => ⟨⟨x.2.2.1, (o8, x.2.2.2.2.2.1, x.2.2.2.2.2.2.1, x.2.2.2.2.2.2.2), rfl, (Option.some.inj hm), by rw [ht]; exact hP, va_K.moved hW.alike hK, hD⟩, hS.F ht⟩) hS.2.2 dX6_rains_119
      · have hm := it_f c7 hm
        refine lv_aload_n hx hb dX6_rains_60 rfl (lv_at hl 0 rfl) ?_
        obtain ⟨o10, ho11, hm⟩ := bd_s hm
        refine xr_v (wr := [((am 1), eI cA 8 t_shelf), ((am 3), eI cA 8 t_rowSize), ((am 4), eOJ cA am 5), (am 5, eJ cA 40 (t_rows_R 0)), (am 6, eJ cA 40 (t_rows_R 1)), (am 7, eJ cA 40 (t_rows_R 2)), (am 8, eJ cA 40 (t_rows_R 3)), (am 9, eJ cA 40 (t_rows_R 4)), (am 10, eJ cA 40 (t_rows_R 5)), (am 11, eJ cA 40 (t_rows_R 6)), (am 12, eJ cA 40 (t_rows_R 7)), ((am 16), eI cA 8 x.2.2.2.2.2.1), ((am 17), eI cA 8 t_kind), ((am 19), eI cA 8 t_pitch), ((am 21), eI cA 12 x.2.2.2.2.2.2.1), ((am 22), eI cA 13 x.2.2.2.2.2.2.2)]) (wn := [((am 0), e_X6 am tkv ttv o10 t_L), ((am 1), eI cA 8 t_shelf), ((am 3), eI cA 8 t_rowSize), ((am 4), eOJ cA am 5), (am 5, eJ cA 40 (t_rows_R 0)), (am 6, eJ cA 40 (t_rows_R 1)), (am 7, eJ cA 40 (t_rows_R 2)), (am 8, eJ cA 40 (t_rows_R 3)), (am 9, eJ cA 40 (t_rows_R 4)), (am 10, eJ cA 40 (t_rows_R 5)), (am 11, eJ cA 40 (t_rows_R 6)), (am 12, eJ cA 40 (t_rows_R 7)), ((am 16), eI cA 8 x.2.2.2.2.2.1), ((am 17), eI cA 8 t_kind), ((am 19), eI cA 8 t_pitch), ((am 21), eI cA 12 x.2.2.2.2.2.2.1), ((am 22), eI cA 13 x.2.2.2.2.2.2.2)]) (va_runV (As := []) (rest := []) ⟨hx, hb, hml, hown, htg⟩ (c_X6_goesBack l D cA _ fu am tkv ttv x.2.2.2.2.1 t_L o10 ho11) (cwV 0 htg (gV q_6_117 q_6_119 q_p6_15 q_1_8 q_6_120) rfl rfl rfl hd_X6_goesBack ⟨Nat.le_of_ble_eq_true rfl, Nat.le_of_ble_eq_true rfl⟩) (xpV hN hK hP hD [0] rfl (by decide) rfl rfl) rfl rfl hl.1 rfl (lv_room (Nat.le_of_ble_eq_true rfl)) dX6_rains_61 ⟨Nat.zero_le _, Nat.zero_le _⟩) hP hD hS hA [0] [1, 2, 3, 4, 5, 6, 7, 8, 9, 10, 11, 12, 13, 14, 15, 16] [16, 0, 1, 2, 3, 4, 5, 6, 7, 8, 9, 10, 11, 12, 13, 14, 15] rfl rfl (by decide) (by decide) rfl (by decide) (fun H locs hP hD hS => ?_)
        refine lv_aload_n hx hb dX6_rains_64 rfl (lv_at hl 0 rfl) ?_
        refine lv_iload hx hb dX6_rains_65 (lv_at hl 4 rfl) ?_
        refine va_put (D := D) (ci := 6) (v := .int x.2.2.2.1) (ty := .int) (C := RX6) (T := TX6) (N := 49) hx hb htg inX6 tyX6 tyX6_ok nmX6 hown hK hP hD hS 0 rfl rfl 10 (by decide) (htg _ q_4_199) (fun _ h9 => h9) rfl (by decide +kernel) rfl rfl (Nat.le_of_ble_eq_true rfl) dX6_rains_67 (fun H locs (hP : va_P D CL [((am 0), e_X6 am tkv ttv (upd o10 10 x.2.2.2.1) t_L), ((am 1), eI cA 8 t_shelf), ((am 3), eI cA 8 t_rowSize), ((am 4), eOJ cA am 5), (am 5, eJ cA 40 (t_rows_R 0)), (am 6, eJ cA 40 (t_rows_R 1)), (am 7, eJ cA 40 (t_rows_R 2)), (am 8, eJ cA 40 (t_rows_R 3)), (am 9, eJ cA 40 (t_rows_R 4)), (am 10, eJ cA 40 (t_rows_R 5)), (am 11, eJ cA 40 (t_rows_R 6)), (am 12, eJ cA 40 (t_rows_R 7)), ((am 16), eI cA 8 x.2.2.2.2.2.1), ((am 17), eI cA 8 t_kind), ((am 19), eI cA 8 t_pitch), ((am 21), eI cA 12 x.2.2.2.2.2.2.1), ((am 22), eI cA 13 x.2.2.2.2.2.2.2)] H) (hD : va_D A [((am 0), e_X6 am tkv ttv (upd o10 10 x.2.2.2.1) t_L), ((am 1), eI cA 8 t_shelf), ((am 3), eI cA 8 t_rowSize), ((am 4), eOJ cA am 5), (am 5, eJ cA 40 (t_rows_R 0)), (am 6, eJ cA 40 (t_rows_R 1)), (am 7, eJ cA 40 (t_rows_R 2)), (am 8, eJ cA 40 (t_rows_R 3)), (am 9, eJ cA 40 (t_rows_R 4)), (am 10, eJ cA 40 (t_rows_R 5)), (am 11, eJ cA 40 (t_rows_R 6)), (am 12, eJ cA 40 (t_rows_R 7)), ((am 16), eI cA 8 x.2.2.2.2.2.1), ((am 17), eI cA 8 t_kind), ((am 19), eI cA 8 t_pitch), ((am 21), eI cA 12 x.2.2.2.2.2.2.1), ((am 22), eI cA 13 x.2.2.2.2.2.2.2)]) hS => ?_)
        refine lv_iconst (v := (0 : Int32)) hx hb dX6_rains_70 (by decide) ?_
        refine lv_istore (lv' := [(8, .int (0 : Int32)), (0, .ref (am 0)), (3, .int x.1), (4, .int x.2.1), (6, .int x.2.2.1), (7, .int x.2.2.2.1)]) hx hb dX6_rains_71 hl (by decide) rfl (fun ls hl => ?_)
        exact B_73 _ HK_55 fu _ _ _ _ hm hP hD hS (lv_sub hl [1, 2, 3, 4, 5, 0] rfl)
  have B_31 : ∀ (l3 : Int32) (l4 : Int32) (s1 : Int32) (s2 : Int32) (s3 : Int32) (s4 : Int32) (t : Nat → Int32) (t_refused : Nat → Int32) (t_word : Nat → Int32) (t_heard : Nat → Int32) (H : Heap) (locs : List Loc) (ls : Array Slot), b_X6_rains_31 fu t_L t_shelf t_rowSize t_rows_R t_kind t_pitch l3 l4 s1 s2 s3 s4 t t_refused t_word t_heard = some out → va_P D CL [((am 0), e_X6 am tkv ttv t t_L), ((am 1), eI cA 8 t_shelf), ((am 3), eI cA 8 t_rowSize), ((am 4), eOJ cA am 5), (am 5, eJ cA 40 (t_rows_R 0)), (am 6, eJ cA 40 (t_rows_R 1)), (am 7, eJ cA 40 (t_rows_R 2)), (am 8, eJ cA 40 (t_rows_R 3)), (am 9, eJ cA 40 (t_rows_R 4)), (am 10, eJ cA 40 (t_rows_R 5)), (am 11, eJ cA 40 (t_rows_R 6)), (am 12, eJ cA 40 (t_rows_R 7)), ((am 16), eI cA 8 t_refused), ((am 17), eI cA 8 t_kind), ((am 19), eI cA 8 t_pitch), ((am 21), eI cA 12 t_word), ((am 22), eI cA 13 t_heard)] H → va_D A [((am 0), e_X6 am tkv ttv t t_L), ((am 1), eI cA 8 t_shelf), ((am 3), eI cA 8 t_rowSize), ((am 4), eOJ cA am 5), (am 5, eJ cA 40 (t_rows_R 0)), (am 6, eJ cA 40 (t_rows_R 1)), (am 7, eJ cA 40 (t_rows_R 2)), (am 8, eJ cA 40 (t_rows_R 3)), (am 9, eJ cA 40 (t_rows_R 4)), (am 10, eJ cA 40 (t_rows_R 5)), (am 11, eJ cA 40 (t_rows_R 6)), (am 12, eJ cA 40 (t_rows_R 7)), ((am 16), eI cA 8 t_refused), ((am 17), eI cA 8 t_kind), ((am 19), eI cA 8 t_pitch), ((am 21), eI cA 12 t_word), ((am 22), eI cA 13 t_heard)] → va_S A s.heap H locs → lv_has ls 9 [(0, .ref (am 0)), (3, .int l3), (4, .int l4)] → W p l e rm_X6_rains s m args below meth c H locs 0 0 Q (F0 m 31 ls [.int s4, .int s3, .int s2, .int s1, .ref (am 0)]) := by
    intro  l3 l4 s1 s2 s3 s4 t t_refused t_word t_heard H locs ls hm hP hD hS hl
    unfold b_X6_rains_31 at hm
    obtain ⟨o12, ho13, hm⟩ := bd_s hm
    refine xr_i (wr := [((am 17), eI cA 8 t_kind), ((am 19), eI cA 8 t_pitch), ((am 22), eI cA 13 t_heard)]) (wn := [((am 0), e_X6 am tkv ttv o12.2.1 t_L), ((am 1), eI cA 8 t_shelf), ((am 3), eI cA 8 t_rowSize), ((am 4), eOJ cA am 5), (am 5, eJ cA 40 (t_rows_R 0)), (am 6, eJ cA 40 (t_rows_R 1)), (am 7, eJ cA 40 (t_rows_R 2)), (am 8, eJ cA 40 (t_rows_R 3)), (am 9, eJ cA 40 (t_rows_R 4)), (am 10, eJ cA 40 (t_rows_R 5)), (am 11, eJ cA 40 (t_rows_R 6)), (am 12, eJ cA 40 (t_rows_R 7)), ((am 16), eI cA 8 o12.2.2.1), ((am 17), eI cA 8 t_kind), ((am 19), eI cA 8 t_pitch), ((am 21), eI cA 12 o12.2.2.2), ((am 22), eI cA 13 t_heard)]) (va_runV (As := [.int s1, .int s2, .int s3, .int s4]) (rest := []) ⟨hx, hb, hml, hown, htg⟩ (c_X6_noWord l D cA _ fu am tkv ttv t t_L t_shelf t_rowSize t_rows_R t_refused t_word s1 s2 s3 s4 o12 ho13) (cwV 4 htg (gV q_6_49 q_6_51 q_p6_8 q_1_8 q_6_52) rfl rfl rfl hd_X6_noWord ⟨Nat.le_of_ble_eq_true rfl, Nat.le_of_ble_eq_true rfl⟩) (xpV hN hK hP hD [0, 1, 2, 3, 4, 5, 6, 7, 8, 9, 10, 11, 12, 15] rfl (by decide) rfl rfl) rfl rfl hl.1 rfl (lv_room (Nat.le_of_ble_eq_true rfl)) dX6_rains_31 ⟨Nat.zero_le _, Nat.zero_le _⟩) hP hD hS hA [0, 1, 2, 3, 4, 5, 6, 7, 8, 9, 10, 11, 12, 15] [13, 14, 16] [3, 4, 5, 6, 7, 8, 9, 10, 11, 12, 13, 14, 15, 0, 1, 16, 2] rfl rfl (by decide) (by decide) rfl (by decide) (fun H locs hP hD hS => ?_)
    refine lv_istore (lv' := [(5, .int o12.1), (0, .ref (am 0)), (3, .int l3), (4, .int l4)]) hx hb dX6_rains_34 hl (by decide) rfl (fun ls hl => ?_)
    refine lv_iload hx hb dX6_rains_36 (lv_at hl 0 rfl) ?_
    refine lv_if_eq (tgt := 44) hx hb dX6_rains_38 (by decide) (fun c14 => ?_) (fun c14 => ?_)
    · have hm := it_t c14 hm
      refine lv_aload_n hx hb dX6_rains_44 rfl (lv_at hl 1 rfl) ?_
      obtain ⟨o15, ho16, hm⟩ := bd_s hm
      refine xr_v (wr := [((am 1), eI cA 8 t_shelf), ((am 3), eI cA 8 t_rowSize), ((am 4), eOJ cA am 5), (am 5, eJ cA 40 (t_rows_R 0)), (am 6, eJ cA 40 (t_rows_R 1)), (am 7, eJ cA 40 (t_rows_R 2)), (am 8, eJ cA 40 (t_rows_R 3)), (am 9, eJ cA 40 (t_rows_R 4)), (am 10, eJ cA 40 (t_rows_R 5)), (am 11, eJ cA 40 (t_rows_R 6)), (am 12, eJ cA 40 (t_rows_R 7)), ((am 16), eI cA 8 o12.2.2.1), ((am 17), eI cA 8 t_kind), ((am 19), eI cA 8 t_pitch), ((am 21), eI cA 12 o12.2.2.2), ((am 22), eI cA 13 t_heard)]) (wn := [((am 0), e_X6 am tkv ttv o15 t_L), ((am 1), eI cA 8 t_shelf), ((am 3), eI cA 8 t_rowSize), ((am 4), eOJ cA am 5), (am 5, eJ cA 40 (t_rows_R 0)), (am 6, eJ cA 40 (t_rows_R 1)), (am 7, eJ cA 40 (t_rows_R 2)), (am 8, eJ cA 40 (t_rows_R 3)), (am 9, eJ cA 40 (t_rows_R 4)), (am 10, eJ cA 40 (t_rows_R 5)), (am 11, eJ cA 40 (t_rows_R 6)), (am 12, eJ cA 40 (t_rows_R 7)), ((am 16), eI cA 8 o12.2.2.1), ((am 17), eI cA 8 t_kind), ((am 19), eI cA 8 t_pitch), ((am 21), eI cA 12 o12.2.2.2), ((am 22), eI cA 13 t_heard)]) (va_runV (As := []) (rest := []) ⟨hx, hb, hml, hown, htg⟩ (c_X6_keeps l D cA _ fu am tkv ttv o12.2.1 t_L o15 ho16) (cwV 0 htg (gV q_6_109 q_6_111 q_p6_13 q_1_8 q_6_112) rfl rfl rfl hd_X6_keeps ⟨Nat.le_of_ble_eq_true rfl, Nat.le_of_ble_eq_true rfl⟩) (xpV hN hK hP hD [0] rfl (by decide) rfl rfl) rfl rfl hl.1 rfl (lv_room (Nat.le_of_ble_eq_true rfl)) dX6_rains_45 ⟨Nat.zero_le _, Nat.zero_le _⟩) hP hD hS hA [0] [1, 2, 3, 4, 5, 6, 7, 8, 9, 10, 11, 12, 13, 14, 15, 16] [16, 0, 1, 2, 3, 4, 5, 6, 7, 8, 9, 10, 11, 12, 13, 14, 15] rfl rfl (by decide) (by decide) rfl (by decide) (fun H locs hP hD hS => ?_)
      refine lv_iconst (v := (-1 : Int32)) hx hb dX6_rains_48 (by decide) ?_
      refine lv_istore (lv' := [(6, .int (-1 : Int32)), (5, .int o12.1), (0, .ref (am 0)), (3, .int l3), (4, .int l4)]) hx hb dX6_rains_49 hl (by decide) rfl (fun ls hl => ?_)
      refine lv_bipush (v := (9 : Int32)) hx hb dX6_rains_51 (by decide) ?_
      refine lv_istore (lv' := [(7, .int (9 : Int32)), (6, .int (-1 : Int32)), (5, .int o12.1), (0, .ref (am 0)), (3, .int l3), (4, .int l4)]) hx hb dX6_rains_53 hl (by decide) rfl (fun ls hl => ?_)
      exact B_55 fu _ _ _ _ hm hP hD hS (lv_sub hl [3, 4, 5, 1, 0] rfl)
    · have hm := it_f c14 hm
      refine lv_iload hx hb dX6_rains_41 (lv_at hl 0 rfl) ?_
      rw [hQ]
      exact W.iret (v := o12.1) hx hb hr (fun t9 ht hW => ⟨⟨o12.1, (o12.2.1, o12.2.2.1, o12.2.2.2, t_heard), rfl, (Option.some.inj hm), by rw [ht]; exact hP, va_K.moved hW.alike hK, hD⟩, hS.F ht⟩) hS.2.2 dX6_rains_43
  have B_30 : ∀ (l3 : Int32) (l4 : Int32) (s1 : Int32) (s2 : Int32) (s3 : Int32) (t : Nat → Int32) (t_refused : Nat → Int32) (t_word : Nat → Int32) (t_heard : Nat → Int32) (H : Heap) (locs : List Loc) (ls : Array Slot), b_X6_rains_30 fu t_L t_shelf t_rowSize t_rows_R t_kind t_pitch l3 l4 s1 s2 s3 t t_refused t_word t_heard = some out → va_P D CL [((am 0), e_X6 am tkv ttv t t_L), ((am 1), eI cA 8 t_shelf), ((am 3), eI cA 8 t_rowSize), ((am 4), eOJ cA am 5), (am 5, eJ cA 40 (t_rows_R 0)), (am 6, eJ cA 40 (t_rows_R 1)), (am 7, eJ cA 40 (t_rows_R 2)), (am 8, eJ cA 40 (t_rows_R 3)), (am 9, eJ cA 40 (t_rows_R 4)), (am 10, eJ cA 40 (t_rows_R 5)), (am 11, eJ cA 40 (t_rows_R 6)), (am 12, eJ cA 40 (t_rows_R 7)), ((am 16), eI cA 8 t_refused), ((am 17), eI cA 8 t_kind), ((am 19), eI cA 8 t_pitch), ((am 21), eI cA 12 t_word), ((am 22), eI cA 13 t_heard)] H → va_D A [((am 0), e_X6 am tkv ttv t t_L), ((am 1), eI cA 8 t_shelf), ((am 3), eI cA 8 t_rowSize), ((am 4), eOJ cA am 5), (am 5, eJ cA 40 (t_rows_R 0)), (am 6, eJ cA 40 (t_rows_R 1)), (am 7, eJ cA 40 (t_rows_R 2)), (am 8, eJ cA 40 (t_rows_R 3)), (am 9, eJ cA 40 (t_rows_R 4)), (am 10, eJ cA 40 (t_rows_R 5)), (am 11, eJ cA 40 (t_rows_R 6)), (am 12, eJ cA 40 (t_rows_R 7)), ((am 16), eI cA 8 t_refused), ((am 17), eI cA 8 t_kind), ((am 19), eI cA 8 t_pitch), ((am 21), eI cA 12 t_word), ((am 22), eI cA 13 t_heard)] → va_S A s.heap H locs → lv_has ls 9 [(0, .ref (am 0)), (3, .int l3), (4, .int l4)] → W p l e rm_X6_rains s m args below meth c H locs 0 0 Q (F0 m 30 ls [.int s3, .int s2, .int s1, .ref (am 0)]) := by
    intro  l3 l4 s1 s2 s3 t t_refused t_word t_heard H locs ls hm hP hD hS hl
    unfold b_X6_rains_30 at hm
    refine lv_iconst (v := (0 : Int32)) hx hb dX6_rains_30 (by decide) ?_
    exact B_31 _ _ _ _ _ _ _ _ _ _ _ _ _ hm hP hD hS (lv_sub hl [0, 1, 2] rfl)
  unfold m_X6_rains at hm
  subst hargs
  have hl := lv_entry ([.ref (am 0), .int l1, .int l2, .int l3, .int l4]) (n := 9) (Nat.le_of_ble_eq_true rfl)
  rw [lg_entry_eq]
  generalize (lg_sl ([.ref (am 0), .int l1, .int l2, .int l3, .int l4]) ++ List.replicate (9 - (lg_sl ([.ref (am 0), .int l1, .int l2, .int l3, .int l4])).length) Slot.unset).toArray = ls at hl ⊢
  have hl : lv_has ls 9 [(0, .ref (am 0)), (1, .int l1), (2, .int l2), (3, .int l3), (4, .int l4)] := hl
  refine lv_aload_n hx hb dX6_rains_0 rfl (lv_at hl 0 rfl) ?_
  refine lv_iload_n hx hb dX6_rains_1 rfl (lv_at hl 1 rfl) ?_
  refine lv_iload_n hx hb dX6_rains_2 rfl (lv_at hl 2 rfl) ?_
  refine lv_bipush (v := (12 : Int32)) hx hb dX6_rains_3 (by decide) ?_
  refine lv_aload_n hx hb dX6_rains_5 rfl (lv_at hl 0 rfl) ?_
  refine lv_iload_n hx hb dX6_rains_6 rfl (lv_at hl 3 rfl) ?_
  obtain ⟨o17, ho18, hm⟩ := bd_s hm
  refine xr_i (wr := [((am 1), eI cA 8 t_shelf), ((am 3), eI cA 8 t_rowSize), ((am 4), eOJ cA am 5), (am 5, eJ cA 40 (t_rows_R 0)), (am 6, eJ cA 40 (t_rows_R 1)), (am 7, eJ cA 40 (t_rows_R 2)), (am 8, eJ cA 40 (t_rows_R 3)), (am 9, eJ cA 40 (t_rows_R 4)), (am 10, eJ cA 40 (t_rows_R 5)), (am 11, eJ cA 40 (t_rows_R 6)), (am 12, eJ cA 40 (t_rows_R 7)), ((am 16), eI cA 8 t_refused), ((am 17), eI cA 8 t_kind), ((am 19), eI cA 8 t_pitch), ((am 21), eI cA 12 t_word), ((am 22), eI cA 13 t_heard)]) (wn := [((am 0), e_X6 am tkv ttv t t_L), ((am 1), eI cA 8 t_shelf), ((am 3), eI cA 8 t_rowSize), ((am 4), eOJ cA am 5), (am 5, eJ cA 40 (t_rows_R 0)), (am 6, eJ cA 40 (t_rows_R 1)), (am 7, eJ cA 40 (t_rows_R 2)), (am 8, eJ cA 40 (t_rows_R 3)), (am 9, eJ cA 40 (t_rows_R 4)), (am 10, eJ cA 40 (t_rows_R 5)), (am 11, eJ cA 40 (t_rows_R 6)), (am 12, eJ cA 40 (t_rows_R 7)), ((am 16), eI cA 8 t_refused), ((am 17), eI cA 8 t_kind), ((am 19), eI cA 8 t_pitch), ((am 21), eI cA 12 t_word), ((am 22), eI cA 13 t_heard)]) (va_runV (As := [.int l3]) (rest := [.int (12 : Int32), .int l2, .int l1, .ref (am 0)]) ⟨hx, hb, hml, hown, htg⟩ (c_X6_isVoice l D cA _ fu am tkv ttv t t_L l3 o17 ho18) (cwV 1 htg (gV q_5_139 q_5_141 q_p5_9 q_1_8 q_5_142) rfl rfl rfl hd_X6_isVoice ⟨Nat.le_of_ble_eq_true rfl, Nat.le_of_ble_eq_true rfl⟩) (xpV hN hK hP hD [0] rfl (by decide) rfl rfl) rfl rfl hl.1 rfl (lv_room (Nat.le_of_ble_eq_true rfl)) dX6_rains_7 ⟨Nat.zero_le _, Nat.zero_le _⟩) hP hD hS hA [0] [1, 2, 3, 4, 5, 6, 7, 8, 9, 10, 11, 12, 13, 14, 15, 16] [16, 0, 1, 2, 3, 4, 5, 6, 7, 8, 9, 10, 11, 12, 13, 14, 15] rfl rfl (by decide) (by decide) rfl (by decide) (fun H locs hP hD hS => ?_)
  refine lv_if_eq (tgt := 30) hx hb dX6_rains_10 (by decide) (fun c19 => ?_) (fun c19 => ?_)
  · have hm := it_t c19 hm
    exact B_30 _ _ _ _ _ _ _ _ _ _ _ _ hm hP hD hS (lv_sub hl [0, 3, 4] rfl)
  · have hm := it_f c19 hm
    refine lv_iload hx hb dX6_rains_13 (lv_at hl 4 rfl) ?_
    refine lv_i2l hx hb dX6_rains_15 rfl ?_
    refine lv_lconst (v := (0 : Int64)) hx hb dX6_rains_16 (by decide) ?_
    refine lv_ldc2 (v := (60 : Int64)) hx hb hown (htg _ q_6_129) dX6_rains_17 ?_
    obtain ⟨o20, ho21, hm⟩ := bd_s hm
    refine xr_i (wr := [((am 0), e_X6 am tkv ttv t t_L), ((am 1), eI cA 8 t_shelf), ((am 3), eI cA 8 t_rowSize), ((am 4), eOJ cA am 5), (am 5, eJ cA 40 (t_rows_R 0)), (am 6, eJ cA 40 (t_rows_R 1)), (am 7, eJ cA 40 (t_rows_R 2)), (am 8, eJ cA 40 (t_rows_R 3)), (am 9, eJ cA 40 (t_rows_R 4)), (am 10, eJ cA 40 (t_rows_R 5)), (am 11, eJ cA 40 (t_rows_R 6)), (am 12, eJ cA 40 (t_rows_R 7)), ((am 16), eI cA 8 t_refused), ((am 17), eI cA 8 t_kind), ((am 19), eI cA 8 t_pitch), ((am 21), eI cA 12 t_word), ((am 22), eI cA 13 t_heard)]) (wn := [((am 0), e_X6 am tkv ttv t t_L), ((am 1), eI cA 8 t_shelf), ((am 3), eI cA 8 t_rowSize), ((am 4), eOJ cA am 5), (am 5, eJ cA 40 (t_rows_R 0)), (am 6, eJ cA 40 (t_rows_R 1)), (am 7, eJ cA 40 (t_rows_R 2)), (am 8, eJ cA 40 (t_rows_R 3)), (am 9, eJ cA 40 (t_rows_R 4)), (am 10, eJ cA 40 (t_rows_R 5)), (am 11, eJ cA 40 (t_rows_R 6)), (am 12, eJ cA 40 (t_rows_R 7)), ((am 16), eI cA 8 t_refused), ((am 17), eI cA 8 t_kind), ((am 19), eI cA 8 t_pitch), ((am 21), eI cA 12 t_word), ((am 22), eI cA 13 t_heard)]) (va_runS (As := [.long l4.toInt64, .long (0 : Int64), .long (60 : Int64)]) (rest := [.int (12 : Int32), .int l2, .int l1, .ref (am 0)]) ⟨hx, hb, hml, hown, htg⟩ (c_X6_in l D cA _ fu l4.toInt64 (0 : Int64) (60 : Int64) o20 ho21) (cwS 3 htg (gS q_5_103 q_5_104 q_1_8 q_5_105) rfl rfl rfl hd_X6_in ⟨Nat.le_of_ble_eq_true rfl, Nat.le_of_ble_eq_true rfl⟩) (xpS hN hK hP hD [] rfl (by decide)) rfl rfl hl.1 rfl (lv_room (Nat.le_of_ble_eq_true rfl)) dX6_rains_20 ⟨Nat.zero_le _, Nat.zero_le _⟩) hP hD hS hA [] [0, 1, 2, 3, 4, 5, 6, 7, 8, 9, 10, 11, 12, 13, 14, 15, 16] [0, 1, 2, 3, 4, 5, 6, 7, 8, 9, 10, 11, 12, 13, 14, 15, 16] rfl rfl (by decide) (by decide) rfl (by decide) (fun H locs hP hD hS => ?_)
    refine lv_if_eq (tgt := 30) hx hb dX6_rains_23 (by decide) (fun c22 => ?_) (fun c22 => ?_)
    · have hm := it_t c22 hm
      exact B_30 _ _ _ _ _ _ _ _ _ _ _ _ hm hP hD hS (lv_sub hl [0, 3, 4] rfl)
    · have hm := it_f c22 hm
      refine lv_iconst (v := (1 : Int32)) hx hb dX6_rains_26 (by decide) ?_
      refine lv_goto (tgt := 31) hx hb dX6_rains_27 (by decide) ?_
      exact B_31 _ _ _ _ _ _ _ _ _ _ _ _ _ hm hP hD hS (lv_sub hl [0, 3, 4] rfl)
def b_X6_fans_55 (fu : Nat) (t_kind : Nat → Int32) (t_pitch : Nat → Int32) (t_word : Nat → Int32) (rc : ((Nat → Int32) × (Nat → Int64) × (Nat → Int32) × Int32 × Int32) → Option ((Nat → Int32) × (Nat → Int64) × (Nat → Int32))) (k_55 : (Int32 × Int32 × Int32 × Int32 × Int32 × (Nat → Int32) × (Nat → Int64) × (Nat → Int32)) → Option ((Nat → Int32) × (Nat → Int64) × (Nat → Int32))) (x : Int32 × Int32 × Int32 × Int32 × Int32 × (Nat → Int32) × (Nat → Int64) × (Nat → Int32)) : Option ((Nat → Int32) × (Nat → Int64) × (Nat → Int32)) :=
  (if (9 : Int32) < x.2.2.2.2.1 then
        some (x.2.2.2.2.2.1, x.2.2.2.2.2.2.1, x.2.2.2.2.2.2.2)
      else
        (m_X6_passes fu (upd x.2.2.2.2.2.1 10 x.2.2.2.2.1) x.2.2.2.2.2.2.1).bind fun o2 =>
        (rc (o2, x.2.2.2.2.2.2.1, x.2.2.2.2.2.2.2, x.1, (x.2.1 - (1 : Int32)))).bind fun o4 =>
        k_55 (x.1, x.2.1, x.2.2.1, x.2.2.2.1, (x.2.2.2.2.1 + (1 : Int32)), (upd (upd o4.1 9 x.2.2.1) 11 x.2.2.2.1), o4.2.1, o4.2.2))
def b_X6_fans_22 (fu : Nat) (t_kind : Nat → Int32) (t_pitch : Nat → Int32) (t_word : Nat → Int32) (rc : ((Nat → Int32) × (Nat → Int64) × (Nat → Int32) × Int32 × Int32) → Option ((Nat → Int32) × (Nat → Int64) × (Nat → Int32))) (s1 : Int64) (s2 : Int64) (t : Nat → Int32) (t_L : Nat → Int64) (t_heard : Nat → Int32) : Option ((Nat → Int32) × (Nat → Int64) × (Nat → Int32)) :=
  some (t, (vp_updL (vp_updL t_L 38 (s1 + s2)) 39 ((vp_updL t_L 38 (s1 + s2)) 39 + (t 9).toInt64)), t_heard)
def G_X6_fans (fu : Nat) (t_kind : Nat → Int32) (t_pitch : Nat → Int32) (t_word : Nat → Int32) (rc : ((Nat → Int32) × (Nat → Int64) × (Nat → Int32) × Int32 × Int32) → Option ((Nat → Int32) × (Nat → Int64) × (Nat → Int32))) (t : Nat → Int32) (t_L : Nat → Int64) (t_heard : Nat → Int32) (l1 : Int32) (l2 : Int32) : Option ((Nat → Int32) × (Nat → Int64) × (Nat → Int32)) :=
  (if l2 = 0 then
    (m_X6_gets fu t t_L t_kind t_pitch t_word t_heard l1).bind fun o7 =>
    (if o7.1 = 0 then
      b_X6_fans_22 fu t_kind t_pitch t_word rc (t_L 38) (0 : Int64) o7.2.1 t_L o7.2.2
    else
      b_X6_fans_22 fu t_kind t_pitch t_word rc (t_L 38) (1 : Int64) o7.2.1 t_L o7.2.2)
  else
    lfix (b_X6_fans_55 fu t_kind t_pitch t_word rc) fu (l1, l2, (t 9), (t 11), (0 : Int32), t, t_L, t_heard))
def F_X6_fans (fu : Nat) (t_kind : Nat → Int32) (t_pitch : Nat → Int32) (t_word : Nat → Int32) (rc : ((Nat → Int32) × (Nat → Int64) × (Nat → Int32) × Int32 × Int32) → Option ((Nat → Int32) × (Nat → Int64) × (Nat → Int32))) (x : (Nat → Int32) × (Nat → Int64) × (Nat → Int32) × Int32 × Int32) : Option ((Nat → Int32) × (Nat → Int64) × (Nat → Int32)) := G_X6_fans fu t_kind t_pitch t_word rc x.1 x.2.1 x.2.2.1 x.2.2.2.1 x.2.2.2.2
def m_X6_fans (fu : Nat) (t : Nat → Int32) (t_L : Nat → Int64) (t_kind : Nat → Int32) (t_pitch : Nat → Int32) (t_word : Nat → Int32) (t_heard : Nat → Int32) (l1 : Int32) (l2 : Int32) : Option ((Nat → Int32) × (Nat → Int64) × (Nat → Int32)) := lfix (F_X6_fans fu t_kind t_pitch t_word) 5 (t, t_L, t_heard, l1, l2)
abbrev rmd_X6_fans (d : Nat) : Room := ({ frames := 6 + d, cells := 0, slots := 0, locals := 136 + 25 * d } : Room)
abbrev rm_X6_fans : Room := ({ frames := 11, cells := 0, slots := 0, locals := 261 } : Room)
abbrev w0_X6_fans (cA : Nat → ClassId) (am : Nat → Nat) (tkv : Value) (ttv : Value) (t : Nat → Int32) (t_L : Nat → Int64) (t_kind : Nat → Int32) (t_pitch : Nat → Int32) (t_word : Nat → Int32) (t_heard : Nat → Int32) : va_W := [((am 0), e_X6 am tkv ttv t t_L), ((am 17), eI cA 8 t_kind), ((am 19), eI cA 8 t_pitch), ((am 21), eI cA 12 t_word), ((am 22), eI cA 13 t_heard)]
abbrev w1_X6_fans (cA : Nat → ClassId) (am : Nat → Nat) (tkv : Value) (ttv : Value) (t_kind : Nat → Int32) (t_pitch : Nat → Int32) (t_word : Nat → Int32) (u : (Nat → Int32) × (Nat → Int64) × (Nat → Int32)) : va_W := [((am 0), e_X6 am tkv ttv u.1 u.2.1), ((am 17), eI cA 8 t_kind), ((am 19), eI cA 8 t_pitch), ((am 21), eI cA 12 t_word), ((am 22), eI cA 13 u.2.2)]
theorem hd_X6_fans : yX6_fans.cls = RX6 ∧ yX6_fans.cls ≠ "java/lang/invoke/MethodHandle" ∧ yX6_fans.cls ≠ "java/lang/invoke/VarHandle" ∧ (parseMethodDescriptor yX6_fans.desc).map (fun d => d.parameters.length) = some 2 := by decide +kernel
set_option maxHeartbeats 40000000 in
set_option maxRecDepth 100000 in
theorem cd_X6_fans (l : Launch) (D : va_G) (cA : Nat → ClassId) (fu : Nat) (am : Nat → Nat) (tkv : Value) (ttv : Value) (t_kind : Nat → Int32) (t_pitch : Nat → Int32) (t_word : Nat → Int32) : ∀ (d : Nat) (sz : Nat) (t : Nat → Int32) (t_L : Nat → Int64) (t_heard : Nat → Int32) (l1 : Int32) (l2 : Int32) (out : (Nat → Int32) × (Nat → Int64) × (Nat → Int32)) (hm : lfix (F_X6_fans fu t_kind t_pitch t_word) d (t, t_L, t_heard, l1, l2) = some out), MV l yX6_fans (wU yX6_fans cX6_fans 6 ((Option.none : Option Jvm.ClassFile.FieldType))) (rmd_X6_fans d) D cA sz [.ref (am 0), .int l1, .int l2] (w0_X6_fans cA am tkv ttv t t_L t_kind t_pitch t_word t_heard) out (w1_X6_fans cA am tkv ttv t_kind t_pitch t_word) := by
  intro d
  induction d with
  | zero => intro sz t t_L t_heard l1 l2 out hm; cases (show none = some out from hm)
  | succ d ih =>
  intro sz t t_L t_heard l1 l2 out hm
  replace hm : G_X6_fans fu t_kind t_pitch t_word (lfix (F_X6_fans fu t_kind t_pitch t_word) d) t t_L t_heard l1 l2 = some out := hm
  obtain ⟨rc, hrc⟩ : ∃ rc, rc = lfix (F_X6_fans fu t_kind t_pitch t_word) d := ⟨_, rfl⟩
  rw [← hrc] at hm ih
  refine Met.ofW (cc := cX6_fans) (maxL := 6) (ret := (Option.none : Option Jvm.ClassFile.FieldType)) (by decide) rfl ?_
  intro p e s m args below meth c s₁ B hml hv
  obtain ⟨hargs, hsz, hP, hK, hD0, hN⟩ := hv
  have hx := B.exec
  have hb := B.bytes
  have hr := B.returns
  have htg : ∀ w ∈ gw, w.before args s = true := fun w h => atoms_spec (ws := wU yX6_fans cX6_fans 6 ((Option.none : Option Jvm.ClassFile.FieldType))) B.pre w (List.mem_cons_of_mem _ h)
  have hown : s.vm.findClass RX6 = some m.cls := findClass_of_methodNamed B.named
  have hlocks := B.notSynchronized
  subst hsz
  have hD := hD0.self (sz := s.heap.size)
  have hA : ∀ q : Nat, s.heap.size ≤ q → va_A (w0_X6_fans cA am tkv ttv t t_L t_kind t_pitch t_word t_heard) s.heap.size q := fun q h => Or.inr h
  have hS : va_S (va_A (w0_X6_fans cA am tkv ttv t t_L t_kind t_pitch t_word t_heard) s.heap.size) s.heap s.heap [] := va_S.rf
  generalize va_A (w0_X6_fans cA am tkv ttv t t_L t_kind t_pitch t_word t_heard) s.heap.size = A at hA hD hS ⊢
  obtain ⟨Q, hQ⟩ : ∃ Q : State → Prop, Q = MQ below (va_Qv (fun (u : (Nat → Int32) × (Nat → Int64) × (Nat → Int32)) => u = out) (pst0 D cA A (w1_X6_fans cA am tkv ttv t_kind t_pitch t_word)) A) args s 0 0 A := ⟨_, rfl⟩
  refine (?_ : W p l e (rmd_X6_fans (d + 1)) s m args below meth c s.heap [] 0 0 (MQ below (va_Qv (fun (u : (Nat → Int32) × (Nat → Int64) × (Nat → Int32)) => u = out) (pst0 D cA A (w1_X6_fans cA am tkv ttv t_kind t_pitch t_word)) A) args s 0 0 A) (entryFrame m args 6))
  rw [← hQ]
  have hP : va_P D CL [((am 0), e_X6 am tkv ttv t t_L), ((am 17), eI cA 8 t_kind), ((am 19), eI cA 8 t_pitch), ((am 21), eI cA 12 t_word), ((am 22), eI cA 13 t_heard)] s.heap := hP
  have hD : va_D A [((am 0), e_X6 am tkv ttv t t_L), ((am 17), eI cA 8 t_kind), ((am 19), eI cA 8 t_pitch), ((am 21), eI cA 12 t_word), ((am 22), eI cA 13 t_heard)] := hD
  have B_55 : ∀ (n : Nat) (x : Int32 × Int32 × Int32 × Int32 × Int32 × (Nat → Int32) × (Nat → Int64) × (Nat → Int32)) (H : Heap) (locs : List Loc) (ls : Array Slot), lfix (b_X6_fans_55 fu t_kind t_pitch t_word rc) n x = some out → va_P D CL [((am 0), e_X6 am tkv ttv x.2.2.2.2.2.1 x.2.2.2.2.2.2.1), ((am 17), eI cA 8 t_kind), ((am 19), eI cA 8 t_pitch), ((am 21), eI cA 12 t_word), ((am 22), eI cA 13 x.2.2.2.2.2.2.2)] H → va_D A [((am 0), e_X6 am tkv ttv x.2.2.2.2.2.1 x.2.2.2.2.2.2.1), ((am 17), eI cA 8 t_kind), ((am 19), eI cA 8 t_pitch), ((am 21), eI cA 12 t_word), ((am 22), eI cA 13 x.2.2.2.2.2.2.2)] → va_S A s.heap H locs → lv_has ls 6 [(0, .ref (am 0)), (1, .int x.1), (2, .int x.2.1), (3, .int x.2.2.1), (4, .int x.2.2.2.1), (5, .int x.2.2.2.2.1)] → W p l e (rmd_X6_fans (d + 1)) s m args below meth c H locs 0 0 Q (F0 m 55 ls []) := by
    intro  n
    induction n with
    | zero => intro x H locs ls hm; cases (show none = some out from hm)
    | succ n HK_55 =>
      intro x H locs ls hm hP hD hS hl
      replace hm : b_X6_fans_55 fu t_kind t_pitch t_word rc (lfix (b_X6_fans_55 fu t_kind t_pitch t_word rc) n) x = some out := hm
      unfold b_X6_fans_55 at hm
      refine lv_iload hx hb dX6_fans_55 (lv_at hl 5 rfl) ?_
      refine lv_bipush (v := (9 : Int32)) hx hb dX6_fans_57 (by decide) ?_
      refine lv_icmp_gt (tgt := 97) hx hb dX6_fans_59 (by decide) (fun c1 => ?_) (fun c1 => ?_)
      · have hm := it_t c1 hm
        rw [hQ]
        exact W.vret hx hb hr (fun t9 ht hW => ⟨⟨(x.2.2.2.2.2.1, x.2.2.2.2.2.2.1, x.2.2.2.2.2.2.2), rfl, (Option.some.inj hm), by rw [ht]; exact hP, va_K.moved hW.alike hK, hD⟩, hS.F ht⟩) hS.2.2 dX6_fans_97
      · have hm := it_f c1 hm
        refine lv_aload_n hx hb dX6_fans_62 rfl (lv_at hl 0 rfl) ?_
        refine lv_iload hx hb dX6_fans_63 (lv_at hl 5 rfl) ?_
        refine va_put (D := D) (ci := 6) (v := .int x.2.2.2.2.1) (ty := .int) (C := RX6) (T := TX6) (N := 49) hx hb htg inX6 tyX6 tyX6_ok nmX6 hown hK hP hD hS 0 rfl rfl 10 (by decide) (htg _ q_4_199) (fun _ h9 => h9) rfl (by decide +kernel) rfl rfl (Nat.le_of_ble_eq_true rfl) dX6_fans_65 (fun H locs (hP : va_P D CL [((am 0), e_X6 am tkv ttv (upd x.2.2.2.2.2.1 10 x.2.2.2.2.1) x.2.2.2.2.2.2.1), ((am 17), eI cA 8 t_kind), ((am 19), eI cA 8 t_pitch), ((am 21), eI cA 12 t_word), ((am 22), eI cA 13 x.2.2.2.2.2.2.2)] H) (hD : va_D A [((am 0), e_X6 am tkv ttv (upd x.2.2.2.2.2.1 10 x.2.2.2.2.1) x.2.2.2.2.2.2.1), ((am 17), eI cA 8 t_kind), ((am 19), eI cA 8 t_pitch), ((am 21), eI cA 12 t_word), ((am 22), eI cA 13 x.2.2.2.2.2.2.2)]) hS => ?_)
        refine lv_aload_n hx hb dX6_fans_68 rfl (lv_at hl 0 rfl) ?_
        obtain ⟨o2, ho3, hm⟩ := bd_s hm
        refine xr_v (wr := [((am 17), eI cA 8 t_kind), ((am 19), eI cA 8 t_pitch), ((am 21), eI cA 12 t_word), ((am 22), eI cA 13 x.2.2.2.2.2.2.2)]) (wn := [((am 0), e_X6 am tkv ttv o2 x.2.2.2.2.2.2.1), ((am 17), eI cA 8 t_kind), ((am 19), eI cA 8 t_pitch), ((am 21), eI cA 12 t_word), ((am 22), eI cA 13 x.2.2.2.2.2.2.2)]) (va_runV (As := []) (rest := []) ⟨hx, hb, hml, hown, htg⟩ (c_X6_passes l D cA _ fu am tkv ttv (upd x.2.2.2.2.2.1 10 x.2.2.2.2.1) x.2.2.2.2.2.2.1 o2 ho3) (cwV 0 htg (gV q_6_113 q_6_115 q_p6_14 q_1_8 q_6_116) rfl rfl rfl hd_X6_passes ⟨by show 1 + 1 ≤ 6 + (d + 1); omega, by show 8 + (1 + 11) + 20 ≤ 136 + 25 * (d + 1); omega⟩) (xpV hN hK hP hD [0] rfl (by decide) rfl rfl) rfl rfl hl.1 rfl (lv_room (Nat.le_of_ble_eq_true rfl)) dX6_fans_69 ⟨Nat.zero_le _, Nat.zero_le _⟩) hP hD hS hA [0] [1, 2, 3, 4] [4, 0, 1, 2, 3] rfl rfl (by decide) (by decide) rfl (by decide) (fun H locs hP hD hS => ?_)
        refine lv_aload_n hx hb dX6_fans_72 rfl (lv_at hl 0 rfl) ?_
        refine lv_iload_n hx hb dX6_fans_73 rfl (lv_at hl 1 rfl) ?_
        refine lv_iload_n hx hb dX6_fans_74 rfl (lv_at hl 2 rfl) ?_
        refine lv_iconst (v := (1 : Int32)) hx hb dX6_fans_75 (by decide) ?_
        refine lv_isub hx hb dX6_fans_76 ?_
        obtain ⟨o4, ho5, hm⟩ := bd_s hm
        refine xr_v (wr := []) (wn := [((am 0), e_X6 am tkv ttv o4.1 o4.2.1), ((am 17), eI cA 8 t_kind), ((am 19), eI cA 8 t_pitch), ((am 21), eI cA 12 t_word), ((am 22), eI cA 13 o4.2.2)]) (va_runV (As := [.int x.1, .int (x.2.1 - (1 : Int32))]) (rest := []) ⟨hx, hb, hml, hown, htg⟩ (ih _ o2 x.2.2.2.2.2.2.1 x.2.2.2.2.2.2.2 x.1 (x.2.1 - (1 : Int32)) o4 ho5) (cwV 2 htg (gV q_6_134 q_6_136 q_p7_0 q_1_8 q_6_137) rfl rfl rfl hd_X6_fans ⟨by show 6 + d + 1 ≤ 6 + (d + 1); omega, by show 8 + (6 + 11) + (136 + 25 * d) ≤ 136 + 25 * (d + 1); omega⟩) (xpV hN hK hP hD [0, 1, 2, 3, 4] rfl (by decide) rfl rfl) rfl rfl hl.1 rfl (lv_room (Nat.le_of_ble_eq_true rfl)) dX6_fans_77 ⟨Nat.zero_le _, Nat.zero_le _⟩) hP hD hS hA [0, 1, 2, 3, 4] [] [0, 1, 2, 3, 4] rfl rfl (by decide) (by decide) rfl (by decide) (fun H locs hP hD hS => ?_)
        refine lv_aload_n hx hb dX6_fans_80 rfl (lv_at hl 0 rfl) ?_
        refine lv_iload_n hx hb dX6_fans_81 rfl (lv_at hl 3 rfl) ?_
        refine va_put (D := D) (ci := 6) (v := .int x.2.2.1) (ty := .int) (C := RX6) (T := TX6) (N := 49) hx hb htg inX6 tyX6 tyX6_ok nmX6 hown hK hP hD hS 0 rfl rfl 9 (by decide) (htg _ q_4_198) (fun _ h9 => h9) rfl (by decide +kernel) rfl rfl (Nat.le_of_ble_eq_true rfl) dX6_fans_82 (fun H locs (hP : va_P D CL [((am 0), e_X6 am tkv ttv (upd o4.1 9 x.2.2.1) o4.2.1), ((am 17), eI cA 8 t_kind), ((am 19), eI cA 8 t_pitch), ((am 21), eI cA 12 t_word), ((am 22), eI cA 13 o4.2.2)] H) (hD : va_D A [((am 0), e_X6 am tkv ttv (upd o4.1 9 x.2.2.1) o4.2.1), ((am 17), eI cA 8 t_kind), ((am 19), eI cA 8 t_pitch), ((am 21), eI cA 12 t_word), ((am 22), eI cA 13 o4.2.2)]) hS => ?_)
        refine lv_aload_n hx hb dX6_fans_85 rfl (lv_at hl 0 rfl) ?_
        refine lv_iload hx hb dX6_fans_86 (lv_at hl 4 rfl) ?_
        refine va_put (D := D) (ci := 6) (v := .int x.2.2.2.1) (ty := .int) (C := RX6) (T := TX6) (N := 49) hx hb htg inX6 tyX6 tyX6_ok nmX6 hown hK hP hD hS 0 rfl rfl 11 (by decide) (htg _ q_4_200) (fun _ h9 => h9) rfl (by decide +kernel) rfl rfl (Nat.le_of_ble_eq_true rfl) dX6_fans_88 (fun H locs (hP : va_P D CL [((am 0), e_X6 am tkv ttv (upd (upd o4.1 9 x.2.2.1) 11 x.2.2.2.1) o4.2.1), ((am 17), eI cA 8 t_kind), ((am 19), eI cA 8 t_pitch), ((am 21), eI cA 12 t_word), ((am 22), eI cA 13 o4.2.2)] H) (hD : va_D A [((am 0), e_X6 am tkv ttv (upd (upd o4.1 9 x.2.2.1) 11 x.2.2.2.1) o4.2.1), ((am 17), eI cA 8 t_kind), ((am 19), eI cA 8 t_pitch), ((am 21), eI cA 12 t_word), ((am 22), eI cA 13 o4.2.2)]) hS => ?_)
        refine lv_iinc (v := (x.2.2.2.2.1 + (1 : Int32))) (lv' := [(5, .int (x.2.2.2.2.1 + (1 : Int32))), (0, .ref (am 0)), (1, .int x.1), (2, .int x.2.1), (3, .int x.2.2.1), (4, .int x.2.2.2.1)]) hx hb dX6_fans_91 hl (k := 5) rfl rfl (by decide) rfl (fun ls hl => ?_)
        refine lv_goto (tgt := 55) hx hb dX6_fans_94 (by decide) ?_
        exact HK_55 _ _ _ _ hm hP hD hS (lv_sub hl [1, 2, 3, 4, 5, 0] rfl)
  have B_22 : ∀ (s1 : Int64) (s2 : Int64) (t : Nat → Int32) (t_L : Nat → Int64) (t_heard : Nat → Int32) (H : Heap) (locs : List Loc) (ls : Array Slot), b_X6_fans_22 fu t_kind t_pitch t_word rc s1 s2 t t_L t_heard = some out → va_P D CL [((am 0), e_X6 am tkv ttv t t_L), ((am 17), eI cA 8 t_kind), ((am 19), eI cA 8 t_pitch), ((am 21), eI cA 12 t_word), ((am 22), eI cA 13 t_heard)] H → va_D A [((am 0), e_X6 am tkv ttv t t_L), ((am 17), eI cA 8 t_kind), ((am 19), eI cA 8 t_pitch), ((am 21), eI cA 12 t_word), ((am 22), eI cA 13 t_heard)] → va_S A s.heap H locs → lv_has ls 6 [(0, .ref (am 0))] → W p l e (rmd_X6_fans (d + 1)) s m args below meth c H locs 0 0 Q (F0 m 22 ls [.long s2, .long s1, .ref (am 0)]) := by
    intro  s1 s2 t t_L t_heard H locs ls hm hP hD hS hl
    unfold b_X6_fans_22 at hm
    refine lv_ladd hx hb dX6_fans_22 ?_
    refine va_put (D := D) (ci := 6) (v := .long (s1 + s2)) (ty := .long) (C := RX6) (T := TX6) (N := 49) hx hb htg inX6 tyX6 tyX6_ok nmX6 hown hK hP hD hS 0 rfl rfl 38 (by decide) (htg _ q_4_227) (fun _ h9 => h9) rfl (by decide +kernel) rfl rfl (Nat.le_of_ble_eq_true rfl) dX6_fans_23 (fun H locs (hP : va_P D CL [((am 0), e_X6 am tkv ttv t (vp_updL t_L 38 (s1 + s2))), ((am 17), eI cA 8 t_kind), ((am 19), eI cA 8 t_pitch), ((am 21), eI cA 12 t_word), ((am 22), eI cA 13 t_heard)] H) (hD : va_D A [((am 0), e_X6 am tkv ttv t (vp_updL t_L 38 (s1 + s2))), ((am 17), eI cA 8 t_kind), ((am 19), eI cA 8 t_pitch), ((am 21), eI cA 12 t_word), ((am 22), eI cA 13 t_heard)]) hS => ?_)
    refine lv_aload_n hx hb dX6_fans_26 rfl (lv_at hl 0 rfl) ?_
    refine lv_dup hx hb dX6_fans_27 rfl ?_
    refine va_get (D := D) (ci := 6) (v := .long ((vp_updL t_L 38 (s1 + s2)) 39)) (C := RX6) (T := TX6) (N := 49) hx hb htg inX6 hown hK hP 0 rfl rfl 39 (by decide) (htg _ q_4_228) (fun _ h9 => h9) rfl dX6_fans_28 ?_
    refine lv_aload_n hx hb dX6_fans_31 rfl (lv_at hl 0 rfl) ?_
    refine va_get (D := D) (ci := 6) (v := .int (t 9)) (C := RX6) (T := TX6) (N := 49) hx hb htg inX6 hown hK hP 0 rfl rfl 9 (by decide) (htg _ q_4_198) (fun _ h9 => h9) rfl dX6_fans_32 ?_
    refine lv_i2l hx hb dX6_fans_35 rfl ?_
    refine lv_ladd hx hb dX6_fans_36 ?_
    refine va_put (D := D) (ci := 6) (v := .long ((vp_updL t_L 38 (s1 + s2)) 39 + (t 9).toInt64)) (ty := .long) (C := RX6) (T := TX6) (N := 49) hx hb htg inX6 tyX6 tyX6_ok nmX6 hown hK hP hD hS 0 rfl rfl 39 (by decide) (htg _ q_4_228) (fun _ h9 => h9) rfl (by decide +kernel) rfl rfl (Nat.le_of_ble_eq_true rfl) dX6_fans_37 (fun H locs (hP : va_P D CL [((am 0), e_X6 am tkv ttv t (vp_updL (vp_updL t_L 38 (s1 + s2)) 39 ((vp_updL t_L 38 (s1 + s2)) 39 + (t 9).toInt64))), ((am 17), eI cA 8 t_kind), ((am 19), eI cA 8 t_pitch), ((am 21), eI cA 12 t_word), ((am 22), eI cA 13 t_heard)] H) (hD : va_D A [((am 0), e_X6 am tkv ttv t (vp_updL (vp_updL t_L 38 (s1 + s2)) 39 ((vp_updL t_L 38 (s1 + s2)) 39 + (t 9).toInt64))), ((am 17), eI cA 8 t_kind), ((am 19), eI cA 8 t_pitch), ((am 21), eI cA 12 t_word), ((am 22), eI cA 13 t_heard)]) hS => ?_)
    rw [hQ]
    exact W.vret hx hb hr (fun t9 ht hW => ⟨⟨(t, (vp_updL (vp_updL t_L 38 (s1 + s2)) 39 ((vp_updL t_L 38 (s1 + s2)) 39 + (t 9).toInt64)), t_heard), rfl, (Option.some.inj hm), by rw [ht]; exact hP, va_K.moved hW.alike hK, hD⟩, hS.F ht⟩) hS.2.2 dX6_fans_40
  unfold G_X6_fans at hm
  subst hargs
  have hl := lv_entry ([.ref (am 0), .int l1, .int l2]) (n := 6) (Nat.le_of_ble_eq_true rfl)
  rw [lg_entry_eq]
  generalize (lg_sl ([.ref (am 0), .int l1, .int l2]) ++ List.replicate (6 - (lg_sl ([.ref (am 0), .int l1, .int l2])).length) Slot.unset).toArray = ls at hl ⊢
  have hl : lv_has ls 6 [(0, .ref (am 0)), (1, .int l1), (2, .int l2)] := hl
  refine lv_iload_n hx hb dX6_fans_0 rfl (lv_at hl 2 rfl) ?_
  refine lv_if_ne (tgt := 41) hx hb dX6_fans_1 (by decide) (fun c6 => ?_) (fun c6 => ?_)
  · have hm := it_f c6 hm
    refine lv_aload_n hx hb dX6_fans_41 rfl (lv_at hl 0 rfl) ?_
    refine va_get (D := D) (ci := 6) (v := .int (t 9)) (C := RX6) (T := TX6) (N := 49) hx hb htg inX6 hown hK hP 0 rfl rfl 9 (by decide) (htg _ q_4_198) (fun _ h9 => h9) rfl dX6_fans_42 ?_
    refine lv_istore_n (lv' := [(3, .int (t 9)), (0, .ref (am 0)), (1, .int l1), (2, .int l2)]) hx hb dX6_fans_45 rfl hl (by decide) rfl (fun ls hl => ?_)
    refine lv_aload_n hx hb dX6_fans_46 rfl (lv_at hl 1 rfl) ?_
    refine va_get (D := D) (ci := 6) (v := .int (t 11)) (C := RX6) (T := TX6) (N := 49) hx hb htg inX6 hown hK hP 0 rfl rfl 11 (by decide) (htg _ q_4_200) (fun _ h9 => h9) rfl dX6_fans_47 ?_
    refine lv_istore (lv' := [(4, .int (t 11)), (3, .int (t 9)), (0, .ref (am 0)), (1, .int l1), (2, .int l2)]) hx hb dX6_fans_50 hl (by decide) rfl (fun ls hl => ?_)
    refine lv_iconst (v := (0 : Int32)) hx hb dX6_fans_52 (by decide) ?_
    refine lv_istore (lv' := [(5, .int (0 : Int32)), (4, .int (t 11)), (3, .int (t 9)), (0, .ref (am 0)), (1, .int l1), (2, .int l2)]) hx hb dX6_fans_53 hl (by decide) rfl (fun ls hl => ?_)
    exact B_55 fu _ _ _ _ hm hP hD hS (lv_sub hl [3, 4, 5, 2, 1, 0] rfl)
  · have hm := it_t c6 hm
    refine lv_aload_n hx hb dX6_fans_4 rfl (lv_at hl 0 rfl) ?_
    refine lv_dup hx hb dX6_fans_5 rfl ?_
    refine va_get (D := D) (ci := 6) (v := .long (t_L 38)) (C := RX6) (T := TX6) (N := 49) hx hb htg inX6 hown hK hP 0 rfl rfl 38 (by decide) (htg _ q_4_227) (fun _ h9 => h9) rfl dX6_fans_6 ?_
    refine lv_aload_n hx hb dX6_fans_9 rfl (lv_at hl 0 rfl) ?_
    refine lv_iload_n hx hb dX6_fans_10 rfl (lv_at hl 1 rfl) ?_
    obtain ⟨o7, ho8, hm⟩ := bd_s hm
    refine xr_i (wr := []) (wn := [((am 0), e_X6 am tkv ttv o7.2.1 t_L), ((am 17), eI cA 8 t_kind), ((am 19), eI cA 8 t_pitch), ((am 21), eI cA 12 t_word), ((am 22), eI cA 13 o7.2.2)]) (va_runV (As := [.int l1]) (rest := [.long (t_L 38), .ref (am 0)]) ⟨hx, hb, hml, hown, htg⟩ (c_X6_gets l D cA _ fu am tkv ttv t t_L t_kind t_pitch t_word t_heard l1 o7 ho8) (cwV 1 htg (gV q_6_77 q_6_79 q_p6_12 q_1_8 q_6_80) rfl rfl rfl hd_X6_gets ⟨by show 5 + 1 ≤ 6 + (d + 1); omega, by show 8 + (2 + 11) + 115 ≤ 136 + 25 * (d + 1); omega⟩) (xpV hN hK hP hD [0, 1, 2, 3, 4] rfl (by decide) rfl rfl) rfl rfl hl.1 rfl (lv_room (Nat.le_of_ble_eq_true rfl)) dX6_fans_11 ⟨Nat.zero_le _, Nat.zero_le _⟩) hP hD hS hA [0, 1, 2, 3, 4] [] [0, 1, 2, 3, 4] rfl rfl (by decide) (by decide) rfl (by decide) (fun H locs hP hD hS => ?_)
    refine lv_if_eq (tgt := 21) hx hb dX6_fans_14 (by decide) (fun c9 => ?_) (fun c9 => ?_)
    · have hm := it_t c9 hm
      refine lv_lconst (v := (0 : Int64)) hx hb dX6_fans_21 (by decide) ?_
      exact B_22 _ _ _ _ _ _ _ _ hm hP hD hS (lv_sub hl [0] rfl)
    · have hm := it_f c9 hm
      refine lv_lconst (v := (1 : Int64)) hx hb dX6_fans_17 (by decide) ?_
      refine lv_goto (tgt := 22) hx hb dX6_fans_18 (by decide) ?_
      exact B_22 _ _ _ _ _ _ _ _ hm hP hD hS (lv_sub hl [0] rfl)
theorem c_X6_fans (l : Launch) (D : va_G) (cA : Nat → ClassId) (sz : Nat) (fu : Nat) (am : Nat → Nat) (tkv : Value) (ttv : Value) (t : Nat → Int32) (t_L : Nat → Int64) (t_kind : Nat → Int32) (t_pitch : Nat → Int32) (t_word : Nat → Int32) (t_heard : Nat → Int32) (l1 : Int32) (l2 : Int32) (out : (Nat → Int32) × (Nat → Int64) × (Nat → Int32)) (hm : m_X6_fans fu t t_L t_kind t_pitch t_word t_heard l1 l2 = some out) : MV l yX6_fans (wU yX6_fans cX6_fans 6 ((Option.none : Option Jvm.ClassFile.FieldType))) rm_X6_fans D cA sz [.ref (am 0), .int l1, .int l2] (w0_X6_fans cA am tkv ttv t t_L t_kind t_pitch t_word t_heard) out (w1_X6_fans cA am tkv ttv t_kind t_pitch t_word) := cd_X6_fans l D cA fu am tkv ttv t_kind t_pitch t_word 5 sz t t_L t_heard l1 l2 out hm
